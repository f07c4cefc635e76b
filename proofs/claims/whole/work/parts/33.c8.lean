def fX11_loads_lp4 (n : Nat × Nat) (S : CS) (f0 : Nat) : Nat → Int32 → Int32 → Option (Int32)
  | 0, _, _ => none
  | k + 1, l1, l2 =>
    grd (cD S f0 = 12) (onn (cR S 242 f0) (fun b6 => grd (cD S b6 = 21) (cal (fL_size n 1 S b6) (fun q9 => if q9 ≤ l2 then 
        some l1
        else onn (cR S 242 f0) (fun b16 => grd (cD S b16 = 21) (cal (fL_get n 1 S b16 l2) (fun q20 => onn q20 (fun b23 => grd (cD S b23 = 9) (bnd (cI S 182 b23) (fun v26 => if v26 ≤ 0 then 
          bnd (l2 + 1) (fun x35 => fX11_loads_lp4 n S f0 k l1 x35 )
          else bnd (l1 + 1) (fun x32 => bnd (l2 + 1) (fun x35 => fX11_loads_lp4 n S f0 k x32 x35 ))))))))))))
def fX11_loads (n : Nat × Nat) (S : CS) (a0 : Nat) : Option Int32 :=
  bnd (0 : Int32) (fun x1 => bnd (0 : Int32) (fun x3 => cal (fX11_loads_lp4 n S a0 n.1 x1 x3 ) (fun t1_4 => some t1_4)))
set_option maxHeartbeats 8000000 in
set_option maxRecDepth 100000 in
theorem cX11_loads_ok (l : Launch) (D : va_G) (cc : Nat → ClassId) (E : Nat → Nat) (n : Nat × Nat) (S : CS) (a0 : Nat) {r : Int32} (h : fX11_loads n S a0 = some r) : Ci l yX11_loads wsX11_loads 3 64 D cc E [.ref a0] S r S 0 0 := by
  refine C_of (own := RX11) (bb := cX11_loads) (nL := 3) (ret := (some .int)) (by decide) rfl rfl (Nat.le_of_ble_eq_true rfl) ?_
  intro p e s m args below meth c hx hb hr hlocks hml hts hown hnm hA hK hro hw ls hl
  generalize va_A (cPs cc S) (nx S) = A at hA hro hw ⊢
  unfold fX11_loads at h
  have hinX11 : ∀ w ∈ wsX110, w ∈ wsX11_loads := by decide +kernel
  have hinX8 : ∀ w ∈ wsX80, w ∈ wsX11_loads := by decide +kernel
  have hl : lv_has ls 3 [(0, .ref a0)] := hl
  refine lv_iconst (v := 0) hx hb dX11_loads_0 (by decide) ?_
  refine lv_topi (fun x1 ex1 => ?_)
  have h := of_bnd h ex1
  refine lv_istore_n (lv' := [(1, .int x1), (0, .ref a0)]) hx hb dX11_loads_1 rfl hl (by decide) rfl (fun ls hl => ?_)
  refine lv_iconst (v := 0) hx hb dX11_loads_2 (by decide) ?_
  refine lv_topi (fun x3 ex3 => ?_)
  have h := of_bnd h ex3
  refine lv_istore_n (lv' := [(2, .int x3), (1, .int x1), (0, .ref a0)]) hx hb dX11_loads_3 rfl hl (by decide) rfl (fun ls hl => ?_)
  have lp4 : ∀ (f0 : Nat) (S : CS) (k : Nat) (l1 : Int32) (l2 : Int32) (q : Int32) , fX11_loads_lp4 n S f0 k l1 l2  = some q → ∀ (H : Heap) (locs : List Loc), cWd D cc A s.heap S H locs → ∀ ls : Array Slot, lv_has ls 3 [(0, .ref f0), (1, .int l1), (2, .int l2)] → (∀ (t1 : Int32), t1 = q → ∀ (H : Heap) (locs : List Loc), cWd D cc A s.heap S H locs → ∀ ls : Array Slot, lv_has ls 3 [(1, .int t1)] → W p l e (cRm 3 64 0 0) s m args below meth c H locs (0) (0) (MQ below (va_Qi (fun x u => x = r ∧ u = S) (cAft D cc A) A) args s 0 0 A) (F0 m 41 ls [])) → W p l e (cRm 3 64 0 0) s m args below meth c H locs (0) (0) (MQ below (va_Qi (fun x u => x = r ∧ u = S) (cAft D cc A) A) args s 0 0 A) (F0 m 4 ls []) := by
    intro f0 S k
    induction k with
    | zero => intro l1 l2 q h; rw [fX11_loads_lp4] at h; cases h
    | succ k ih4 =>
      intro l1 l2 q h H locs hw ls hl kx4_0
      rw [fX11_loads_lp4] at h
      refine lv_iload_n hx hb dX11_loads_4 rfl (lv_at hl 2 rfl) ?_
      refine lv_aload_n hx hb dX11_loads_5 rfl (lv_at hl 0 rfl) ?_
      obtain ⟨hf1, h⟩ := of_grd h
      obtain ⟨b6, eb6, h⟩ := of_onn h
      refine C_get hx hb hts hinX11 hown hK hw (cell_12 hf1) (by omega) rfl 2 (by decide) (index := 23) (by decide +kernel) rfl (v := .ref b6) (congrArg (fun o => some (va_rf o)) eb6) dX11_loads_6 ?_
      obtain ⟨hf2, h⟩ := of_grd h
      obtain ⟨q9, hq9, h⟩ := of_cal h
      refine C_i hA hw (va_runV (As := []) (rest := [.int l2]) ⟨hx, hb, hml, hown, hts⟩ (cL_size_ok l D cc E n 1 (by decide) S b6 hq9) (cwV 0 hts gX11_loads_Jx4a65c_size_8abf5 rfl rfl rfl (by decide +kernel) ⟨Nat.le_of_ble_eq_true rfl, Nat.le_of_ble_eq_true rfl⟩) ⟨cBlind D cc E S _, C_recv hK hw (by omega) (cell_L (r := 1) (by decide) hf2) (r := (RJx4a65c, TJx4a65c, 3)) rfl, fun U hU hW => ⟨rfl, C_pre hA hK hro hw U hU hW⟩⟩ rfl rfl hl.1 rfl (lv_room (Nat.le_of_ble_eq_true rfl)) dX11_loads_9 ⟨Nat.le_refl _, Nat.le_refl _⟩) (fun H locs hw => ?_)
      refine W.widen (k := 0) (n := 0) (Nat.le_refl _) (Nat.le_refl _) ?_
      refine lv_icmp_ge (tgt := 41) hx hb dX11_loads_12 (by decide) (fun c12 => ?_) (fun c12 => ?_)
      · have h := of_it h c12
        exact kx4_0 l1 (Option.some.inj h) _ _ hw ls (lv_sub hl [1] rfl)
      · have h := of_if h c12
        refine lv_aload_n hx hb dX11_loads_15 rfl (lv_at hl 0 rfl) ?_
        obtain ⟨b16, eb16, h⟩ := of_onn h
        refine C_get hx hb hts hinX11 hown hK hw (cell_12 hf1) (by omega) rfl 2 (by decide) (index := 23) (by decide +kernel) rfl (v := .ref b16) (congrArg (fun o => some (va_rf o)) eb16) dX11_loads_16 ?_
        refine lv_iload_n hx hb dX11_loads_19 rfl (lv_at hl 2 rfl) ?_
        obtain ⟨hf3, h⟩ := of_grd h
        obtain ⟨q20, hq20, h⟩ := of_cal h
        refine C_q hA hw (va_runV (As := [.int l2]) (rest := []) ⟨hx, hb, hml, hown, hts⟩ (cL_get_ok l D cc E n 1 (by decide) S b16 l2 hq20) (cwV 1 hts gX11_loads_Jx4a65c_get_915e3 rfl rfl rfl (by decide +kernel) ⟨Nat.le_of_ble_eq_true rfl, Nat.le_of_ble_eq_true rfl⟩) ⟨cBlind D cc E S _, C_recv hK hw (by omega) (cell_L (r := 1) (by decide) hf3) (r := (RJx4a65c, TJx4a65c, 3)) rfl, fun U hU hW => ⟨rfl, C_pre hA hK hro hw U hU hW⟩⟩ rfl rfl hl.1 rfl (lv_room (Nat.le_of_ble_eq_true rfl)) dX11_loads_20 ⟨Nat.le_refl _, Nat.le_refl _⟩) (fun H locs hw => ?_)
        refine W.widen (k := 0) (n := 0) (Nat.le_refl _) (Nat.le_refl _) ?_
        obtain ⟨b23, eb23, h⟩ := of_onn h
        subst eb23
        obtain ⟨hf4, h⟩ := of_grd h
        refine va_castE hx hb hown (hts (.classLink RX11 104 RX8) (by decide +kernel)) (C_recv hK hw (by omega) (cell_9 hf4) (r := (RX8, TX8, 3)) rfl) dX11_loads_23 ?_
        refine C_get hx hb hts hinX8 hown hK hw (cell_9 hf4) (by omega) rfl 2 (by decide) (index := 202) (by decide +kernel) rfl rfl dX11_loads_26 ?_
        refine lv_topi (fun v26 ev26 => ?_)
        have h := of_bnd h ev26
        refine lv_if_le (tgt := 35) hx hb dX11_loads_29 (by decide) (fun c29 => ?_) (fun c29 => ?_)
        · have h := of_it h c29
          obtain ⟨x35, ex35⟩ : ∃ y : Int32, y = l2 + 1 := ⟨_, rfl⟩
          have h := of_bnd h ex35
          refine lv_iinc (v := x35) (lv' := [(2, .int x35), (0, .ref f0), (1, .int l1)]) hx hb dX11_loads_35 hl (k := 2) rfl (by rw [ex35]; rfl) (by decide) rfl (fun ls hl => ?_)
          refine lv_goto (tgt := 4) hx hb dX11_loads_38 (by decide) ?_
          exact ih4 l1 x35 _ h _ _ hw ls (lv_sub hl [1, 2, 0] rfl) kx4_0
        · have h := of_if h c29
          obtain ⟨x32, ex32⟩ : ∃ y : Int32, y = l1 + 1 := ⟨_, rfl⟩
          have h := of_bnd h ex32
          refine lv_iinc (v := x32) (lv' := [(1, .int x32), (0, .ref f0), (2, .int l2)]) hx hb dX11_loads_32 hl (k := 1) rfl (by rw [ex32]; rfl) (by decide) rfl (fun ls hl => ?_)
          obtain ⟨x35, ex35⟩ : ∃ y : Int32, y = l2 + 1 := ⟨_, rfl⟩
          have h := of_bnd h ex35
          refine lv_iinc (v := x35) (lv' := [(2, .int x35), (1, .int x32), (0, .ref f0)]) hx hb dX11_loads_35 hl (k := 2) rfl (by rw [ex35]; rfl) (by decide) rfl (fun ls hl => ?_)
          refine lv_goto (tgt := 4) hx hb dX11_loads_38 (by decide) ?_
          exact ih4 x32 x35 _ h _ _ hw ls (lv_sub hl [2, 1, 0] rfl) kx4_0
  obtain ⟨q4, hq4, h⟩ := of_cal h
  refine lp4 a0 S n.1 x1 x3 q4  hq4 _ _ hw ls (lv_sub hl [2, 1, 0] rfl) ?_
  · intro t1_4 eq H locs hw ls hl
    subst eq
    refine lv_iload_n hx hb dX11_loads_41 rfl (lv_at hl 0 rfl) ?_
    obtain rfl := Option.some.inj h
    exact C_iret hx hb hr hlocks hw (by rfl) dX11_loads_42

def fX11_heaviestLoad_lp4 (n : Nat × Nat) (S : CS) (f0 : Nat) : Nat → Int32 → Int32 → Option (Int32)
  | 0, _, _ => none
  | k + 1, l1, l2 =>
    grd (cD S f0 = 12) (onn (cR S 242 f0) (fun b6 => grd (cD S b6 = 21) (cal (fL_size n 1 S b6) (fun q9 => if q9 ≤ l2 then 
        some l1
        else onn (cR S 242 f0) (fun b17 => grd (cD S b17 = 21) (cal (fL_get n 1 S b17 l2) (fun q21 => onn q21 (fun b24 => grd (cD S b24 = 9) (bnd (cI S 182 b24) (fun v27 => bnd (if l1 < v27 then v27 else l1) (fun r30 => bnd (l2 + 1) (fun x34 => fX11_heaviestLoad_lp4 n S f0 k r30 x34 ))))))))))))
def fX11_heaviestLoad (n : Nat × Nat) (S : CS) (a0 : Nat) : Option Int32 :=
  bnd (0 : Int32) (fun x1 => bnd (0 : Int32) (fun x3 => cal (fX11_heaviestLoad_lp4 n S a0 n.1 x1 x3 ) (fun t1_4 => some t1_4)))
set_option maxHeartbeats 8000000 in
set_option maxRecDepth 100000 in
theorem cX11_heaviestLoad_ok (l : Launch) (D : va_G) (cc : Nat → ClassId) (E : Nat → Nat) (n : Nat × Nat) (S : CS) (a0 : Nat) {r : Int32} (h : fX11_heaviestLoad n S a0 = some r) : Ci l yX11_heaviestLoad wsX11_heaviestLoad 3 64 D cc E [.ref a0] S r S 0 0 := by
  refine C_of (own := RX11) (bb := cX11_heaviestLoad) (nL := 3) (ret := (some .int)) (by decide) rfl rfl (Nat.le_of_ble_eq_true rfl) ?_
  intro p e s m args below meth c hx hb hr hlocks hml hts hown hnm hA hK hro hw ls hl
  generalize va_A (cPs cc S) (nx S) = A at hA hro hw ⊢
  unfold fX11_heaviestLoad at h
  have hinX11 : ∀ w ∈ wsX110, w ∈ wsX11_heaviestLoad := by decide +kernel
  have hinX8 : ∀ w ∈ wsX80, w ∈ wsX11_heaviestLoad := by decide +kernel
  have hl : lv_has ls 3 [(0, .ref a0)] := hl
  refine lv_iconst (v := 0) hx hb dX11_heaviestLoad_0 (by decide) ?_
  refine lv_topi (fun x1 ex1 => ?_)
  have h := of_bnd h ex1
  refine lv_istore_n (lv' := [(1, .int x1), (0, .ref a0)]) hx hb dX11_heaviestLoad_1 rfl hl (by decide) rfl (fun ls hl => ?_)
  refine lv_iconst (v := 0) hx hb dX11_heaviestLoad_2 (by decide) ?_
  refine lv_topi (fun x3 ex3 => ?_)
  have h := of_bnd h ex3
  refine lv_istore_n (lv' := [(2, .int x3), (1, .int x1), (0, .ref a0)]) hx hb dX11_heaviestLoad_3 rfl hl (by decide) rfl (fun ls hl => ?_)
  have lp4 : ∀ (f0 : Nat) (S : CS) (k : Nat) (l1 : Int32) (l2 : Int32) (q : Int32) , fX11_heaviestLoad_lp4 n S f0 k l1 l2  = some q → ∀ (H : Heap) (locs : List Loc), cWd D cc A s.heap S H locs → ∀ ls : Array Slot, lv_has ls 3 [(0, .ref f0), (1, .int l1), (2, .int l2)] → (∀ (t1 : Int32), t1 = q → ∀ (H : Heap) (locs : List Loc), cWd D cc A s.heap S H locs → ∀ ls : Array Slot, lv_has ls 3 [(1, .int t1)] → W p l e (cRm 3 64 0 0) s m args below meth c H locs (0) (0) (MQ below (va_Qi (fun x u => x = r ∧ u = S) (cAft D cc A) A) args s 0 0 A) (F0 m 40 ls [])) → W p l e (cRm 3 64 0 0) s m args below meth c H locs (0) (0) (MQ below (va_Qi (fun x u => x = r ∧ u = S) (cAft D cc A) A) args s 0 0 A) (F0 m 4 ls []) := by
    intro f0 S k
    induction k with
    | zero => intro l1 l2 q h; rw [fX11_heaviestLoad_lp4] at h; cases h
    | succ k ih4 =>
      intro l1 l2 q h H locs hw ls hl kx4_0
      rw [fX11_heaviestLoad_lp4] at h
      refine lv_iload_n hx hb dX11_heaviestLoad_4 rfl (lv_at hl 2 rfl) ?_
      refine lv_aload_n hx hb dX11_heaviestLoad_5 rfl (lv_at hl 0 rfl) ?_
      obtain ⟨hf1, h⟩ := of_grd h
      obtain ⟨b6, eb6, h⟩ := of_onn h
      refine C_get hx hb hts hinX11 hown hK hw (cell_12 hf1) (by omega) rfl 2 (by decide) (index := 23) (by decide +kernel) rfl (v := .ref b6) (congrArg (fun o => some (va_rf o)) eb6) dX11_heaviestLoad_6 ?_
      obtain ⟨hf2, h⟩ := of_grd h
      obtain ⟨q9, hq9, h⟩ := of_cal h
      refine C_i hA hw (va_runV (As := []) (rest := [.int l2]) ⟨hx, hb, hml, hown, hts⟩ (cL_size_ok l D cc E n 1 (by decide) S b6 hq9) (cwV 0 hts gX11_heaviestLoad_Jx4a65c_size_8abf5 rfl rfl rfl (by decide +kernel) ⟨Nat.le_of_ble_eq_true rfl, Nat.le_of_ble_eq_true rfl⟩) ⟨cBlind D cc E S _, C_recv hK hw (by omega) (cell_L (r := 1) (by decide) hf2) (r := (RJx4a65c, TJx4a65c, 3)) rfl, fun U hU hW => ⟨rfl, C_pre hA hK hro hw U hU hW⟩⟩ rfl rfl hl.1 rfl (lv_room (Nat.le_of_ble_eq_true rfl)) dX11_heaviestLoad_9 ⟨Nat.le_refl _, Nat.le_refl _⟩) (fun H locs hw => ?_)
      refine W.widen (k := 0) (n := 0) (Nat.le_refl _) (Nat.le_refl _) ?_
      refine lv_icmp_ge (tgt := 40) hx hb dX11_heaviestLoad_12 (by decide) (fun c12 => ?_) (fun c12 => ?_)
      · have h := of_it h c12
        exact kx4_0 l1 (Option.some.inj h) _ _ hw ls (lv_sub hl [1] rfl)
      · have h := of_if h c12
        refine lv_iload_n hx hb dX11_heaviestLoad_15 rfl (lv_at hl 1 rfl) ?_
        refine lv_aload_n hx hb dX11_heaviestLoad_16 rfl (lv_at hl 0 rfl) ?_
        obtain ⟨b17, eb17, h⟩ := of_onn h
        refine C_get hx hb hts hinX11 hown hK hw (cell_12 hf1) (by omega) rfl 2 (by decide) (index := 23) (by decide +kernel) rfl (v := .ref b17) (congrArg (fun o => some (va_rf o)) eb17) dX11_heaviestLoad_17 ?_
        refine lv_iload_n hx hb dX11_heaviestLoad_20 rfl (lv_at hl 2 rfl) ?_
        obtain ⟨hf3, h⟩ := of_grd h
        obtain ⟨q21, hq21, h⟩ := of_cal h
        refine C_q hA hw (va_runV (As := [.int l2]) (rest := [.int l1]) ⟨hx, hb, hml, hown, hts⟩ (cL_get_ok l D cc E n 1 (by decide) S b17 l2 hq21) (cwV 1 hts gX11_heaviestLoad_Jx4a65c_get_915e3 rfl rfl rfl (by decide +kernel) ⟨Nat.le_of_ble_eq_true rfl, Nat.le_of_ble_eq_true rfl⟩) ⟨cBlind D cc E S _, C_recv hK hw (by omega) (cell_L (r := 1) (by decide) hf3) (r := (RJx4a65c, TJx4a65c, 3)) rfl, fun U hU hW => ⟨rfl, C_pre hA hK hro hw U hU hW⟩⟩ rfl rfl hl.1 rfl (lv_room (Nat.le_of_ble_eq_true rfl)) dX11_heaviestLoad_21 ⟨Nat.le_refl _, Nat.le_refl _⟩) (fun H locs hw => ?_)
        refine W.widen (k := 0) (n := 0) (Nat.le_refl _) (Nat.le_refl _) ?_
        obtain ⟨b24, eb24, h⟩ := of_onn h
        subst eb24
        obtain ⟨hf4, h⟩ := of_grd h
        refine va_castE hx hb hown (hts (.classLink RX11 104 RX8) (by decide +kernel)) (C_recv hK hw (by omega) (cell_9 hf4) (r := (RX8, TX8, 3)) rfl) dX11_heaviestLoad_24 ?_
        refine C_get hx hb hts hinX8 hown hK hw (cell_9 hf4) (by omega) rfl 2 (by decide) (index := 202) (by decide +kernel) rfl rfl dX11_heaviestLoad_27 ?_
        refine lv_topi (fun v27 ev27 => ?_)
        have h := of_bnd h ev27
        refine va_mmax (rest := []) hx hb (hml.trans hl.1.symm) hown (hts (.methodLink RX11 296 Lib.Math.max.name) (by decide +kernel)) (hts (.static Lib.Math.max.name) (by decide +kernel)) (hts (.initialized "java/lang/Math") (by decide +kernel)) (hts (.code Lib.Math.max.name Lib.Math.max.code 2 (some .int)) (by decide +kernel)) (Nat.le_of_ble_eq_true rfl) (Nat.le_of_ble_eq_true rfl) (Nat.zero_le _) (Nat.zero_le _) dX11_heaviestLoad_30 ?_
        refine lv_topi (fun r30 er30 => ?_)
        have h := of_bnd h er30
        refine lv_istore_n (lv' := [(1, .int r30), (0, .ref f0), (2, .int l2)]) hx hb dX11_heaviestLoad_33 rfl hl (by decide) rfl (fun ls hl => ?_)
        obtain ⟨x34, ex34⟩ : ∃ y : Int32, y = l2 + 1 := ⟨_, rfl⟩
        have h := of_bnd h ex34
        refine lv_iinc (v := x34) (lv' := [(2, .int x34), (1, .int r30), (0, .ref f0)]) hx hb dX11_heaviestLoad_34 hl (k := 2) rfl (by rw [ex34]; rfl) (by decide) rfl (fun ls hl => ?_)
        refine lv_goto (tgt := 4) hx hb dX11_heaviestLoad_37 (by decide) ?_
        exact ih4 r30 x34 _ h _ _ hw ls (lv_sub hl [2, 1, 0] rfl) kx4_0
  obtain ⟨q4, hq4, h⟩ := of_cal h
  refine lp4 a0 S n.1 x1 x3 q4  hq4 _ _ hw ls (lv_sub hl [2, 1, 0] rfl) ?_
  · intro t1_4 eq H locs hw ls hl
    subst eq
    refine lv_iload_n hx hb dX11_heaviestLoad_40 rfl (lv_at hl 0 rfl) ?_
    obtain rfl := Option.some.inj h
    exact C_iret hx hb hr hlocks hw (by rfl) dX11_heaviestLoad_41

def fX11_load (n : Nat × Nat) (S : CS) (a0 : Nat) (a1 : Int32) (a2 : Int32) : Option (Int32 × CS) :=
  bnd (fX11_isWithin a2 (0 : Int32) (1000000 : Int32)) (fun r4 => if r4 = 0 then 
    grd (cD S a0 = 12) (cal (fX11_refuse n S a0 (-1 : Int32)) (un2 fun r12 S12 => some (r12, S12)))
    else grd (cD S a0 = 12) (cal (fX11_findTable n S a0 a1) (fun q18 => oel q18 (cal (fX11_refuse n S a0 (-2 : Int32)) (un2 fun r29 S29 => some (r29, S29))) (fun b23 => if a2 ≤ 0 then 
        grd (cD S b23 = 9) (bnd (uI S 182 b23 a2) (fun S62 => cal (fX11_loads n S62 a0) (fun q67 => cal (fX11_accept n S62 a0 q67) (un2 fun r70 S70 => some (r70, S70)))))
        else grd (cD S b23 = 9) (bnd (cI S 182 b23) (fun v38 => if v38 = 0 then 
          cal (fX11_loads n S a0) (fun q45 => if q45 < (8 : Int32) then 
            bnd (uI S 182 b23 a2) (fun S62 => cal (fX11_loads n S62 a0) (fun q67 => cal (fX11_accept n S62 a0 q67) (un2 fun r70 S70 => some (r70, S70))))
            else cal (fX11_refuse n S a0 (-5 : Int32)) (un2 fun r56 S56 => some (r56, S56)))
          else bnd (uI S 182 b23 a2) (fun S62 => cal (fX11_loads n S62 a0) (fun q67 => cal (fX11_accept n S62 a0 q67) (un2 fun r70 S70 => some (r70, S70))))))))))
set_option maxHeartbeats 8000000 in
set_option maxRecDepth 100000 in
theorem cX11_load_ok (l : Launch) (D : va_G) (cc : Nat → ClassId) (E : Nat → Nat) (n : Nat × Nat) (S : CS) (a0 : Nat) (a1 : Int32) (a2 : Int32) {r : Int32} {T : CS} (h : fX11_load n S a0 a1 a2 = some (r, T)) : Ci l yX11_load wsX11_load 4 86 D cc E [.ref a0, .int a1, .int a2] S r T 0 0 := by
  refine C_of (own := RX11) (bb := cX11_load) (nL := 4) (ret := (some .int)) (by decide) rfl rfl (Nat.le_of_ble_eq_true rfl) ?_
  intro p e s m args below meth c hx hb hr hlocks hml hts hown hnm hA hK hro hw ls hl
  generalize va_A (cPs cc S) (nx S) = A at hA hro hw ⊢
  unfold fX11_load at h
  have hinX8 : ∀ w ∈ wsX80, w ∈ wsX11_load := by decide +kernel
  have hl : lv_has ls 4 [(0, .ref a0), (1, .int a1), (2, .int a2)] := hl
  refine lv_iload_n hx hb dX11_load_0 rfl (lv_at hl 2 rfl) ?_
  refine lv_iconst (v := 0) hx hb dX11_load_1 (by decide) ?_
  refine lv_ldc (v := 1000000) hx hb hown (hts (.constant RX11 82 (1000000)) (by decide +kernel)) dX11_load_2 ?_
  refine C_s (va_runS (As := [.int a2, .int (0 : Int32), .int (1000000 : Int32)]) (rest := []) ⟨hx, hb, hml, hown, hts⟩ (cX11_isWithin_ok l a2 (0 : Int32) (1000000 : Int32)) (va_cwS 3 hts gX11_load_X11_isWithin rfl rfl rfl (by decide +kernel) ⟨Nat.le_of_ble_eq_true rfl, Nat.le_of_ble_eq_true rfl⟩) ⟨fun a U g mk q => ⟨q.1, trivial⟩, fun U hU hW => ⟨rfl, trivial⟩⟩ rfl rfl hl.1 rfl (lv_room (Nat.le_of_ble_eq_true rfl)) dX11_load_4 ⟨Nat.le_refl _, Nat.le_refl _⟩) (fun r4 er4 => ?_)
  have h := of_bnd h er4
  refine lv_if_ne (tgt := 16) hx hb dX11_load_7 (by decide) (fun c7 => ?_) (fun c7 => ?_)
  · have h := of_if h c7
    refine lv_aload_n hx hb dX11_load_16 rfl (lv_at hl 0 rfl) ?_
    refine lv_iload_n hx hb dX11_load_17 rfl (lv_at hl 1 rfl) ?_
    obtain ⟨hf1, h⟩ := of_grd h
    obtain ⟨q18, hq18, h⟩ := of_cal h
    refine C_q hA hw (va_runV (As := [.int a1]) (rest := []) ⟨hx, hb, hml, hown, hts⟩ (cX11_findTable_ok l D cc E n S a0 a1 hq18) (cwV 1 hts gX11_load_X11_findTable rfl rfl rfl (by decide +kernel) ⟨Nat.le_of_ble_eq_true rfl, Nat.le_of_ble_eq_true rfl⟩) ⟨cBlind D cc E S _, C_recv hK hw (by omega) (cell_12 hf1) (r := (RX11, TX11, 12)) rfl, fun U hU hW => ⟨rfl, C_pre hA hK hro hw U hU hW⟩⟩ rfl rfl hl.1 rfl (lv_room (Nat.le_of_ble_eq_true rfl)) dX11_load_18 ⟨Nat.le_refl _, Nat.le_refl _⟩) (fun H locs hw => ?_)
    refine W.widen (k := 0) (n := 0) (Nat.le_refl _) (Nat.le_refl _) ?_
    refine lv_astore_nq (lv' := [(3, va_rf q18), (0, .ref a0), (1, .int a1), (2, .int a2)]) hx hb dX11_load_21 rfl hl (by decide) rfl (fun ls hl => ?_)
    refine lv_aload_nq hx hb dX11_load_22 rfl (lv_at hl 0 rfl) ?_
    rcases q18 with _ | b23
    · have h := of_oelN h
      have hl : lv_has ls 4 [(3, .null), (0, .ref a0), (1, .int a1), (2, .int a2)] := hl
      refine lv_ifnonnullN hx hb dX11_load_23 ?_
      refine lv_aload_n hx hb dX11_load_26 rfl (lv_at hl 1 rfl) ?_
      refine lv_bipush (v := -2) hx hb dX11_load_27 (by decide) ?_
      obtain ⟨q29, hq29, h⟩ := of_cal h
      obtain ⟨r29, S29⟩ := q29
      have h := of_un2 h
      refine C_i hA hw (va_runV (As := [.int (-2 : Int32)]) (rest := []) ⟨hx, hb, hml, hown, hts⟩ (cX11_refuse_ok l D cc E n S a0 (-2 : Int32) hq29) (cwV 1 hts gX11_load_X11_refuse rfl rfl rfl (by decide +kernel) ⟨Nat.le_of_ble_eq_true rfl, Nat.le_of_ble_eq_true rfl⟩) ⟨cBlind D cc E S _, C_recv hK hw (by omega) (cell_12 hf1) (r := (RX11, TX11, 12)) rfl, fun U hU hW => ⟨rfl, C_pre hA hK hro hw U hU hW⟩⟩ rfl rfl hl.1 rfl (lv_room (Nat.le_of_ble_eq_true rfl)) dX11_load_29 ⟨Nat.le_refl _, Nat.le_refl _⟩) (fun H locs hw => ?_)
      refine W.widen (k := 0) (n := 0) (Nat.le_refl _) (Nat.le_refl _) ?_
      obtain ⟨rfl, rfl⟩ := of_ret2 h
      exact C_iret hx hb hr hlocks hw (by rfl) dX11_load_32
    · have h := of_oelS h
      have hl : lv_has ls 4 [(3, .ref b23), (0, .ref a0), (1, .int a1), (2, .int a2)] := hl
      refine lv_ifnonnull (tgt := 33) hx hb dX11_load_23 (by decide) ?_
      refine lv_iload_n hx hb dX11_load_33 rfl (lv_at hl 3 rfl) ?_
      refine lv_if_le (tgt := 60) hx hb dX11_load_34 (by decide) (fun c34 => ?_) (fun c34 => ?_)
      · have h := of_it h c34
        refine lv_aload_n hx hb dX11_load_60 rfl (lv_at hl 0 rfl) ?_
        refine lv_iload_n hx hb dX11_load_61 rfl (lv_at hl 3 rfl) ?_
        obtain ⟨hf2, h⟩ := of_grd h
        refine C_put hx hb hts hinX8 tyX8 tyX8_ok nmX8 hown hK hw (cell_9 hf2) (by omega) rfl 2 (by decide) (index := 202) (by decide +kernel) rfl rfl (ty := .int) (by decide +kernel) rfl rfl (Nat.le_of_ble_eq_true rfl) (S' := uI S 182 b23 a2) rfl rfl rfl (pu_182 hf2 a2) (fun b hb => off_uI hb) dX11_load_62 (fun S62 H locs eS62 hw => ?_)
        have h := of_bnd h eS62
        refine lv_aload_n hx hb dX11_load_65 rfl (lv_at hl 1 rfl) ?_
        refine lv_aload_n hx hb dX11_load_66 rfl (lv_at hl 1 rfl) ?_
        have hf3 : cD S62 a0 = 12 := by rw [eS62]; exact hf1
        obtain ⟨q67, hq67, h⟩ := of_cal h
        refine C_i hA hw (va_runV (As := []) (rest := [.ref a0]) ⟨hx, hb, hml, hown, hts⟩ (cX11_loads_ok l D cc E n S62 a0 hq67) (cwV 0 hts gX11_load_X11_loads rfl rfl rfl (by decide +kernel) ⟨Nat.le_of_ble_eq_true rfl, Nat.le_of_ble_eq_true rfl⟩) ⟨cBlind D cc E S62 _, C_recv hK hw (by omega) (cell_12 hf3) (r := (RX11, TX11, 12)) rfl, fun U hU hW => ⟨rfl, C_pre hA hK hro hw U hU hW⟩⟩ rfl rfl hl.1 rfl (lv_room (Nat.le_of_ble_eq_true rfl)) dX11_load_67 ⟨Nat.le_refl _, Nat.le_refl _⟩) (fun H locs hw => ?_)
        refine W.widen (k := 0) (n := 0) (Nat.le_refl _) (Nat.le_refl _) ?_
        obtain ⟨q70, hq70, h⟩ := of_cal h
        obtain ⟨r70, S70⟩ := q70
        have h := of_un2 h
        refine C_i hA hw (va_runV (As := [.int q67]) (rest := []) ⟨hx, hb, hml, hown, hts⟩ (cX11_accept_ok l D cc E n S62 a0 q67 hq70) (cwV 1 hts gX11_load_X11_accept rfl rfl rfl (by decide +kernel) ⟨Nat.le_of_ble_eq_true rfl, Nat.le_of_ble_eq_true rfl⟩) ⟨cBlind D cc E S62 _, C_recv hK hw (by omega) (cell_12 hf3) (r := (RX11, TX11, 12)) rfl, fun U hU hW => ⟨rfl, C_pre hA hK hro hw U hU hW⟩⟩ rfl rfl hl.1 rfl (lv_room (Nat.le_of_ble_eq_true rfl)) dX11_load_70 ⟨Nat.le_refl _, Nat.le_refl _⟩) (fun H locs hw => ?_)
        refine W.widen (k := 0) (n := 0) (Nat.le_refl _) (Nat.le_refl _) ?_
        obtain ⟨rfl, rfl⟩ := of_ret2 h
        exact C_iret hx hb hr hlocks hw (by rfl) dX11_load_73
      · have h := of_if h c34
        refine lv_aload_n hx hb dX11_load_37 rfl (lv_at hl 0 rfl) ?_
        obtain ⟨hf4, h⟩ := of_grd h
        refine C_get hx hb hts hinX8 hown hK hw (cell_9 hf4) (by omega) rfl 2 (by decide) (index := 202) (by decide +kernel) rfl rfl dX11_load_38 ?_
        refine lv_topi (fun v38 ev38 => ?_)
        have h := of_bnd h ev38
        refine lv_if_ne (tgt := 60) hx hb dX11_load_41 (by decide) (fun c41 => ?_) (fun c41 => ?_)
        · have h := of_if h c41
          refine lv_aload_n hx hb dX11_load_60 rfl (lv_at hl 0 rfl) ?_
          refine lv_iload_n hx hb dX11_load_61 rfl (lv_at hl 3 rfl) ?_
          refine C_put hx hb hts hinX8 tyX8 tyX8_ok nmX8 hown hK hw (cell_9 hf4) (by omega) rfl 2 (by decide) (index := 202) (by decide +kernel) rfl rfl (ty := .int) (by decide +kernel) rfl rfl (Nat.le_of_ble_eq_true rfl) (S' := uI S 182 b23 a2) rfl rfl rfl (pu_182 hf4 a2) (fun b hb => off_uI hb) dX11_load_62 (fun S62 H locs eS62 hw => ?_)
          have h := of_bnd h eS62
          refine lv_aload_n hx hb dX11_load_65 rfl (lv_at hl 1 rfl) ?_
          refine lv_aload_n hx hb dX11_load_66 rfl (lv_at hl 1 rfl) ?_
          have hf5 : cD S62 a0 = 12 := by rw [eS62]; exact hf1
          obtain ⟨q67, hq67, h⟩ := of_cal h
          refine C_i hA hw (va_runV (As := []) (rest := [.ref a0]) ⟨hx, hb, hml, hown, hts⟩ (cX11_loads_ok l D cc E n S62 a0 hq67) (cwV 0 hts gX11_load_X11_loads rfl rfl rfl (by decide +kernel) ⟨Nat.le_of_ble_eq_true rfl, Nat.le_of_ble_eq_true rfl⟩) ⟨cBlind D cc E S62 _, C_recv hK hw (by omega) (cell_12 hf5) (r := (RX11, TX11, 12)) rfl, fun U hU hW => ⟨rfl, C_pre hA hK hro hw U hU hW⟩⟩ rfl rfl hl.1 rfl (lv_room (Nat.le_of_ble_eq_true rfl)) dX11_load_67 ⟨Nat.le_refl _, Nat.le_refl _⟩) (fun H locs hw => ?_)
          refine W.widen (k := 0) (n := 0) (Nat.le_refl _) (Nat.le_refl _) ?_
          obtain ⟨q70, hq70, h⟩ := of_cal h
          obtain ⟨r70, S70⟩ := q70
          have h := of_un2 h
          refine C_i hA hw (va_runV (As := [.int q67]) (rest := []) ⟨hx, hb, hml, hown, hts⟩ (cX11_accept_ok l D cc E n S62 a0 q67 hq70) (cwV 1 hts gX11_load_X11_accept rfl rfl rfl (by decide +kernel) ⟨Nat.le_of_ble_eq_true rfl, Nat.le_of_ble_eq_true rfl⟩) ⟨cBlind D cc E S62 _, C_recv hK hw (by omega) (cell_12 hf5) (r := (RX11, TX11, 12)) rfl, fun U hU hW => ⟨rfl, C_pre hA hK hro hw U hU hW⟩⟩ rfl rfl hl.1 rfl (lv_room (Nat.le_of_ble_eq_true rfl)) dX11_load_70 ⟨Nat.le_refl _, Nat.le_refl _⟩) (fun H locs hw => ?_)
          refine W.widen (k := 0) (n := 0) (Nat.le_refl _) (Nat.le_refl _) ?_
          obtain ⟨rfl, rfl⟩ := of_ret2 h
          exact C_iret hx hb hr hlocks hw (by rfl) dX11_load_73
        · have h := of_it h c41
          refine lv_aload_n hx hb dX11_load_44 rfl (lv_at hl 1 rfl) ?_
          obtain ⟨q45, hq45, h⟩ := of_cal h
          refine C_i hA hw (va_runV (As := []) (rest := []) ⟨hx, hb, hml, hown, hts⟩ (cX11_loads_ok l D cc E n S a0 hq45) (cwV 0 hts gX11_load_X11_loads rfl rfl rfl (by decide +kernel) ⟨Nat.le_of_ble_eq_true rfl, Nat.le_of_ble_eq_true rfl⟩) ⟨cBlind D cc E S _, C_recv hK hw (by omega) (cell_12 hf1) (r := (RX11, TX11, 12)) rfl, fun U hU hW => ⟨rfl, C_pre hA hK hro hw U hU hW⟩⟩ rfl rfl hl.1 rfl (lv_room (Nat.le_of_ble_eq_true rfl)) dX11_load_45 ⟨Nat.le_refl _, Nat.le_refl _⟩) (fun H locs hw => ?_)
          refine W.widen (k := 0) (n := 0) (Nat.le_refl _) (Nat.le_refl _) ?_
          refine lv_bipush (v := 8) hx hb dX11_load_48 (by decide) ?_
          refine lv_icmp_lt (tgt := 60) hx hb dX11_load_50 (by decide) (fun c50 => ?_) (fun c50 => ?_)
          · have h := of_it h c50
            refine lv_aload_n hx hb dX11_load_60 rfl (lv_at hl 0 rfl) ?_
            refine lv_iload_n hx hb dX11_load_61 rfl (lv_at hl 3 rfl) ?_
            refine C_put hx hb hts hinX8 tyX8 tyX8_ok nmX8 hown hK hw (cell_9 hf4) (by omega) rfl 2 (by decide) (index := 202) (by decide +kernel) rfl rfl (ty := .int) (by decide +kernel) rfl rfl (Nat.le_of_ble_eq_true rfl) (S' := uI S 182 b23 a2) rfl rfl rfl (pu_182 hf4 a2) (fun b hb => off_uI hb) dX11_load_62 (fun S62 H locs eS62 hw => ?_)
            have h := of_bnd h eS62
            refine lv_aload_n hx hb dX11_load_65 rfl (lv_at hl 1 rfl) ?_
            refine lv_aload_n hx hb dX11_load_66 rfl (lv_at hl 1 rfl) ?_
            have hf6 : cD S62 a0 = 12 := by rw [eS62]; exact hf1
            obtain ⟨q67, hq67, h⟩ := of_cal h
            refine C_i hA hw (va_runV (As := []) (rest := [.ref a0]) ⟨hx, hb, hml, hown, hts⟩ (cX11_loads_ok l D cc E n S62 a0 hq67) (cwV 0 hts gX11_load_X11_loads rfl rfl rfl (by decide +kernel) ⟨Nat.le_of_ble_eq_true rfl, Nat.le_of_ble_eq_true rfl⟩) ⟨cBlind D cc E S62 _, C_recv hK hw (by omega) (cell_12 hf6) (r := (RX11, TX11, 12)) rfl, fun U hU hW => ⟨rfl, C_pre hA hK hro hw U hU hW⟩⟩ rfl rfl hl.1 rfl (lv_room (Nat.le_of_ble_eq_true rfl)) dX11_load_67 ⟨Nat.le_refl _, Nat.le_refl _⟩) (fun H locs hw => ?_)
            refine W.widen (k := 0) (n := 0) (Nat.le_refl _) (Nat.le_refl _) ?_
            obtain ⟨q70, hq70, h⟩ := of_cal h
            obtain ⟨r70, S70⟩ := q70
            have h := of_un2 h
            refine C_i hA hw (va_runV (As := [.int q67]) (rest := []) ⟨hx, hb, hml, hown, hts⟩ (cX11_accept_ok l D cc E n S62 a0 q67 hq70) (cwV 1 hts gX11_load_X11_accept rfl rfl rfl (by decide +kernel) ⟨Nat.le_of_ble_eq_true rfl, Nat.le_of_ble_eq_true rfl⟩) ⟨cBlind D cc E S62 _, C_recv hK hw (by omega) (cell_12 hf6) (r := (RX11, TX11, 12)) rfl, fun U hU hW => ⟨rfl, C_pre hA hK hro hw U hU hW⟩⟩ rfl rfl hl.1 rfl (lv_room (Nat.le_of_ble_eq_true rfl)) dX11_load_70 ⟨Nat.le_refl _, Nat.le_refl _⟩) (fun H locs hw => ?_)
            refine W.widen (k := 0) (n := 0) (Nat.le_refl _) (Nat.le_refl _) ?_
            obtain ⟨rfl, rfl⟩ := of_ret2 h
            exact C_iret hx hb hr hlocks hw (by rfl) dX11_load_73
          · have h := of_if h c50
            refine lv_aload_n hx hb dX11_load_53 rfl (lv_at hl 1 rfl) ?_
            refine lv_bipush (v := -5) hx hb dX11_load_54 (by decide) ?_
            obtain ⟨q56, hq56, h⟩ := of_cal h
            obtain ⟨r56, S56⟩ := q56
            have h := of_un2 h
            refine C_i hA hw (va_runV (As := [.int (-5 : Int32)]) (rest := []) ⟨hx, hb, hml, hown, hts⟩ (cX11_refuse_ok l D cc E n S a0 (-5 : Int32) hq56) (cwV 1 hts gX11_load_X11_refuse rfl rfl rfl (by decide +kernel) ⟨Nat.le_of_ble_eq_true rfl, Nat.le_of_ble_eq_true rfl⟩) ⟨cBlind D cc E S _, C_recv hK hw (by omega) (cell_12 hf1) (r := (RX11, TX11, 12)) rfl, fun U hU hW => ⟨rfl, C_pre hA hK hro hw U hU hW⟩⟩ rfl rfl hl.1 rfl (lv_room (Nat.le_of_ble_eq_true rfl)) dX11_load_56 ⟨Nat.le_refl _, Nat.le_refl _⟩) (fun H locs hw => ?_)
            refine W.widen (k := 0) (n := 0) (Nat.le_refl _) (Nat.le_refl _) ?_
            obtain ⟨rfl, rfl⟩ := of_ret2 h
            exact C_iret hx hb hr hlocks hw (by rfl) dX11_load_59
  · have h := of_it h c7
    refine lv_aload_n hx hb dX11_load_10 rfl (lv_at hl 0 rfl) ?_
    refine lv_iconst (v := -1) hx hb dX11_load_11 (by decide) ?_
    obtain ⟨hf7, h⟩ := of_grd h
    obtain ⟨q12, hq12, h⟩ := of_cal h
    obtain ⟨r12, S12⟩ := q12
    have h := of_un2 h
    refine C_i hA hw (va_runV (As := [.int (-1 : Int32)]) (rest := []) ⟨hx, hb, hml, hown, hts⟩ (cX11_refuse_ok l D cc E n S a0 (-1 : Int32) hq12) (cwV 1 hts gX11_load_X11_refuse rfl rfl rfl (by decide +kernel) ⟨Nat.le_of_ble_eq_true rfl, Nat.le_of_ble_eq_true rfl⟩) ⟨cBlind D cc E S _, C_recv hK hw (by omega) (cell_12 hf7) (r := (RX11, TX11, 12)) rfl, fun U hU hW => ⟨rfl, C_pre hA hK hro hw U hU hW⟩⟩ rfl rfl hl.1 rfl (lv_room (Nat.le_of_ble_eq_true rfl)) dX11_load_12 ⟨Nat.le_refl _, Nat.le_refl _⟩) (fun H locs hw => ?_)
    refine W.widen (k := 0) (n := 0) (Nat.le_refl _) (Nat.le_refl _) ?_
    obtain ⟨rfl, rfl⟩ := of_ret2 h
    exact C_iret hx hb hr hlocks hw (by rfl) dX11_load_15

def fX11_rounds (n : Nat × Nat) (S : CS) (a0 : Nat) (a1 : Int32) : Option (Int32 × CS) :=
  bnd (fX11_isWithin a1 (1 : Int32) (10000000 : Int32)) (fun r4 => if r4 = 0 then 
    grd (cD S a0 = 12) (cal (fX11_refuse n S a0 (-1 : Int32)) (un2 fun r12 S12 => some (r12, S12)))
    else grd (cD S a0 = 12) (cal (fX11_heaviestLoad n S a0) (fun q17 => if q17 = 0 then 
      cal (fX11_refuse n S a0 (-4 : Int32)) (un2 fun r28 S28 => some (r28, S28))
      else if q17 ≤ a1 then 
        onn (cR S 246 a0) (fun b46 => onn (cR S 242 a0) (fun b50 => grd (cD S b46 = 10) (cal (fX9_plan n S b46 b50 a1) (un2 fun r54 S54 => grd (cD S54 a0 = 12) (cal (fX11_accept n S54 a0 r54) (un2 fun r57 S57 => some (r57, S57)))))))
        else cal (fX11_refuse n S a0 (-5 : Int32)) (un2 fun r40 S40 => some (r40, S40)))))
set_option maxHeartbeats 8000000 in
set_option maxRecDepth 100000 in
theorem cX11_rounds_ok (l : Launch) (D : va_G) (cc : Nat → ClassId) (E : Nat → Nat) (n : Nat × Nat) (S : CS) (a0 : Nat) (a1 : Int32) {r : Int32} {T : CS} (h : fX11_rounds n S a0 a1 = some (r, T)) : Ci l yX11_rounds wsX11_rounds 6 152 D cc E [.ref a0, .int a1] S r T 0 0 := by
  refine C_of (own := RX11) (bb := cX11_rounds) (nL := 3) (ret := (some .int)) (by decide) rfl rfl (Nat.le_of_ble_eq_true rfl) ?_
  intro p e s m args below meth c hx hb hr hlocks hml hts hown hnm hA hK hro hw ls hl
  generalize va_A (cPs cc S) (nx S) = A at hA hro hw ⊢
  unfold fX11_rounds at h
  have hinX11 : ∀ w ∈ wsX110, w ∈ wsX11_rounds := by decide +kernel
  have hl : lv_has ls 3 [(0, .ref a0), (1, .int a1)] := hl
  refine lv_iload_n hx hb dX11_rounds_0 rfl (lv_at hl 1 rfl) ?_
  refine lv_iconst (v := 1) hx hb dX11_rounds_1 (by decide) ?_
  refine lv_ldc (v := 10000000) hx hb hown (hts (.constant RX11 208 (10000000)) (by decide +kernel)) dX11_rounds_2 ?_
  refine C_s (va_runS (As := [.int a1, .int (1 : Int32), .int (10000000 : Int32)]) (rest := []) ⟨hx, hb, hml, hown, hts⟩ (cX11_isWithin_ok l a1 (1 : Int32) (10000000 : Int32)) (va_cwS 3 hts gX11_rounds_X11_isWithin rfl rfl rfl (by decide +kernel) ⟨Nat.le_of_ble_eq_true rfl, Nat.le_of_ble_eq_true rfl⟩) ⟨fun a U g mk q => ⟨q.1, trivial⟩, fun U hU hW => ⟨rfl, trivial⟩⟩ rfl rfl hl.1 rfl (lv_room (Nat.le_of_ble_eq_true rfl)) dX11_rounds_4 ⟨Nat.le_refl _, Nat.le_refl _⟩) (fun r4 er4 => ?_)
  have h := of_bnd h er4
  refine lv_if_ne (tgt := 16) hx hb dX11_rounds_7 (by decide) (fun c7 => ?_) (fun c7 => ?_)
  · have h := of_if h c7
    refine lv_aload_n hx hb dX11_rounds_16 rfl (lv_at hl 0 rfl) ?_
    obtain ⟨hf1, h⟩ := of_grd h
    obtain ⟨q17, hq17, h⟩ := of_cal h
    refine C_i hA hw (va_runV (As := []) (rest := []) ⟨hx, hb, hml, hown, hts⟩ (cX11_heaviestLoad_ok l D cc E n S a0 hq17) (cwV 0 hts gX11_rounds_X11_heaviestLoad rfl rfl rfl (by decide +kernel) ⟨Nat.le_of_ble_eq_true rfl, Nat.le_of_ble_eq_true rfl⟩) ⟨cBlind D cc E S _, C_recv hK hw (by omega) (cell_12 hf1) (r := (RX11, TX11, 12)) rfl, fun U hU hW => ⟨rfl, C_pre hA hK hro hw U hU hW⟩⟩ rfl rfl hl.1 rfl (lv_room (Nat.le_of_ble_eq_true rfl)) dX11_rounds_17 ⟨Nat.le_refl _, Nat.le_refl _⟩) (fun H locs hw => ?_)
    refine W.widen (k := 0) (n := 0) (Nat.le_refl _) (Nat.le_refl _) ?_
    refine lv_istore_n (lv' := [(2, .int q17), (0, .ref a0), (1, .int a1)]) hx hb dX11_rounds_20 rfl hl (by decide) rfl (fun ls hl => ?_)
    refine lv_iload_n hx hb dX11_rounds_21 rfl (lv_at hl 0 rfl) ?_
    refine lv_if_ne (tgt := 32) hx hb dX11_rounds_22 (by decide) (fun c22 => ?_) (fun c22 => ?_)
    · have h := of_if h c22
      refine lv_iload_n hx hb dX11_rounds_32 rfl (lv_at hl 0 rfl) ?_
      refine lv_iload_n hx hb dX11_rounds_33 rfl (lv_at hl 2 rfl) ?_
      refine lv_icmp_le (tgt := 44) hx hb dX11_rounds_34 (by decide) (fun c34 => ?_) (fun c34 => ?_)
      · have h := of_it h c34
        refine lv_aload_n hx hb dX11_rounds_44 rfl (lv_at hl 1 rfl) ?_
        refine lv_aload_n hx hb dX11_rounds_45 rfl (lv_at hl 1 rfl) ?_
        obtain ⟨b46, eb46, h⟩ := of_onn h
        refine C_get hx hb hts hinX11 hown hK hw (cell_12 hf1) (by omega) rfl 6 (by decide) (index := 43) (by decide +kernel) rfl (v := .ref b46) (congrArg (fun o => some (va_rf o)) eb46) dX11_rounds_46 ?_
        refine lv_aload_n hx hb dX11_rounds_49 rfl (lv_at hl 1 rfl) ?_
        obtain ⟨b50, eb50, h⟩ := of_onn h
        refine C_get hx hb hts hinX11 hown hK hw (cell_12 hf1) (by omega) rfl 2 (by decide) (index := 23) (by decide +kernel) rfl (v := .ref b50) (congrArg (fun o => some (va_rf o)) eb50) dX11_rounds_50 ?_
        refine lv_iload_n hx hb dX11_rounds_53 rfl (lv_at hl 2 rfl) ?_
        obtain ⟨hf2, h⟩ := of_grd h
        obtain ⟨q54, hq54, h⟩ := of_cal h
        obtain ⟨r54, S54⟩ := q54
        have h := of_un2 h
        refine C_i hA hw (va_runV (As := [.ref b50, .int a1]) (rest := [.ref a0]) ⟨hx, hb, hml, hown, hts⟩ (cX9_plan_ok l D cc E n S b46 b50 a1 hq54) (cwV 2 hts gX11_rounds_X9_plan rfl rfl rfl (by decide +kernel) ⟨Nat.le_of_ble_eq_true rfl, Nat.le_of_ble_eq_true rfl⟩) ⟨cBlind D cc E S _, C_recv hK hw (by omega) (cell_10 hf2) (r := (RX9, TX9, 10)) rfl, fun U hU hW => ⟨rfl, C_pre hA hK hro hw U hU hW⟩⟩ rfl rfl hl.1 rfl (lv_room (Nat.le_of_ble_eq_true rfl)) dX11_rounds_54 ⟨Nat.le_refl _, Nat.le_refl _⟩) (fun H locs hw => ?_)
        refine W.widen (k := 0) (n := 0) (Nat.le_refl _) (Nat.le_refl _) ?_
        obtain ⟨hf3, h⟩ := of_grd h
        obtain ⟨q57, hq57, h⟩ := of_cal h
        obtain ⟨r57, S57⟩ := q57
        have h := of_un2 h
        refine C_i hA hw (va_runV (As := [.int r54]) (rest := []) ⟨hx, hb, hml, hown, hts⟩ (cX11_accept_ok l D cc E n S54 a0 r54 hq57) (cwV 1 hts gX11_rounds_X11_accept rfl rfl rfl (by decide +kernel) ⟨Nat.le_of_ble_eq_true rfl, Nat.le_of_ble_eq_true rfl⟩) ⟨cBlind D cc E S54 _, C_recv hK hw (by omega) (cell_12 hf3) (r := (RX11, TX11, 12)) rfl, fun U hU hW => ⟨rfl, C_pre hA hK hro hw U hU hW⟩⟩ rfl rfl hl.1 rfl (lv_room (Nat.le_of_ble_eq_true rfl)) dX11_rounds_57 ⟨Nat.le_refl _, Nat.le_refl _⟩) (fun H locs hw => ?_)
        refine W.widen (k := 0) (n := 0) (Nat.le_refl _) (Nat.le_refl _) ?_
        obtain ⟨rfl, rfl⟩ := of_ret2 h
        exact C_iret hx hb hr hlocks hw (by rfl) dX11_rounds_60
      · have h := of_if h c34
        refine lv_aload_n hx hb dX11_rounds_37 rfl (lv_at hl 1 rfl) ?_
        refine lv_bipush (v := -5) hx hb dX11_rounds_38 (by decide) ?_
        obtain ⟨q40, hq40, h⟩ := of_cal h
        obtain ⟨r40, S40⟩ := q40
        have h := of_un2 h
        refine C_i hA hw (va_runV (As := [.int (-5 : Int32)]) (rest := []) ⟨hx, hb, hml, hown, hts⟩ (cX11_refuse_ok l D cc E n S a0 (-5 : Int32) hq40) (cwV 1 hts gX11_rounds_X11_refuse rfl rfl rfl (by decide +kernel) ⟨Nat.le_of_ble_eq_true rfl, Nat.le_of_ble_eq_true rfl⟩) ⟨cBlind D cc E S _, C_recv hK hw (by omega) (cell_12 hf1) (r := (RX11, TX11, 12)) rfl, fun U hU hW => ⟨rfl, C_pre hA hK hro hw U hU hW⟩⟩ rfl rfl hl.1 rfl (lv_room (Nat.le_of_ble_eq_true rfl)) dX11_rounds_40 ⟨Nat.le_refl _, Nat.le_refl _⟩) (fun H locs hw => ?_)
        refine W.widen (k := 0) (n := 0) (Nat.le_refl _) (Nat.le_refl _) ?_
        obtain ⟨rfl, rfl⟩ := of_ret2 h
        exact C_iret hx hb hr hlocks hw (by rfl) dX11_rounds_43
    · have h := of_it h c22
      refine lv_aload_n hx hb dX11_rounds_25 rfl (lv_at hl 1 rfl) ?_
      refine lv_bipush (v := -4) hx hb dX11_rounds_26 (by decide) ?_
      obtain ⟨q28, hq28, h⟩ := of_cal h
      obtain ⟨r28, S28⟩ := q28
      have h := of_un2 h
      refine C_i hA hw (va_runV (As := [.int (-4 : Int32)]) (rest := []) ⟨hx, hb, hml, hown, hts⟩ (cX11_refuse_ok l D cc E n S a0 (-4 : Int32) hq28) (cwV 1 hts gX11_rounds_X11_refuse rfl rfl rfl (by decide +kernel) ⟨Nat.le_of_ble_eq_true rfl, Nat.le_of_ble_eq_true rfl⟩) ⟨cBlind D cc E S _, C_recv hK hw (by omega) (cell_12 hf1) (r := (RX11, TX11, 12)) rfl, fun U hU hW => ⟨rfl, C_pre hA hK hro hw U hU hW⟩⟩ rfl rfl hl.1 rfl (lv_room (Nat.le_of_ble_eq_true rfl)) dX11_rounds_28 ⟨Nat.le_refl _, Nat.le_refl _⟩) (fun H locs hw => ?_)
      refine W.widen (k := 0) (n := 0) (Nat.le_refl _) (Nat.le_refl _) ?_
      obtain ⟨rfl, rfl⟩ := of_ret2 h
      exact C_iret hx hb hr hlocks hw (by rfl) dX11_rounds_31
  · have h := of_it h c7
    refine lv_aload_n hx hb dX11_rounds_10 rfl (lv_at hl 0 rfl) ?_
    refine lv_iconst (v := -1) hx hb dX11_rounds_11 (by decide) ?_
    obtain ⟨hf4, h⟩ := of_grd h
    obtain ⟨q12, hq12, h⟩ := of_cal h
    obtain ⟨r12, S12⟩ := q12
    have h := of_un2 h
    refine C_i hA hw (va_runV (As := [.int (-1 : Int32)]) (rest := []) ⟨hx, hb, hml, hown, hts⟩ (cX11_refuse_ok l D cc E n S a0 (-1 : Int32) hq12) (cwV 1 hts gX11_rounds_X11_refuse rfl rfl rfl (by decide +kernel) ⟨Nat.le_of_ble_eq_true rfl, Nat.le_of_ble_eq_true rfl⟩) ⟨cBlind D cc E S _, C_recv hK hw (by omega) (cell_12 hf4) (r := (RX11, TX11, 12)) rfl, fun U hU hW => ⟨rfl, C_pre hA hK hro hw U hU hW⟩⟩ rfl rfl hl.1 rfl (lv_room (Nat.le_of_ble_eq_true rfl)) dX11_rounds_12 ⟨Nat.le_refl _, Nat.le_refl _⟩) (fun H locs hw => ?_)
    refine W.widen (k := 0) (n := 0) (Nat.le_refl _) (Nat.le_refl _) ?_
    obtain ⟨rfl, rfl⟩ := of_ret2 h
    exact C_iret hx hb hr hlocks hw (by rfl) dX11_rounds_15

def fX11_stop (n : Nat × Nat) (S : CS) (a0 : Nat) (a1 : Int32) : Option Int32 :=
  grd (cD S a0 = 12) (onn (cR S 246 a0) (fun b1 => grd (cD S b1 = 10) (cal (fX9_tellStop n S b1 a1) (fun q5 => some q5))))
set_option maxHeartbeats 8000000 in
set_option maxRecDepth 100000 in
theorem cX11_stop_ok (l : Launch) (D : va_G) (cc : Nat → ClassId) (E : Nat → Nat) (n : Nat × Nat) (S : CS) (a0 : Nat) (a1 : Int32) {r : Int32} (h : fX11_stop n S a0 a1 = some r) : Ci l yX11_stop wsX11_stop 2 43 D cc E [.ref a0, .int a1] S r S 0 0 := by
  refine C_of (own := RX11) (bb := cX11_stop) (nL := 2) (ret := (some .int)) (by decide) rfl rfl (Nat.le_of_ble_eq_true rfl) ?_
  intro p e s m args below meth c hx hb hr hlocks hml hts hown hnm hA hK hro hw ls hl
  generalize va_A (cPs cc S) (nx S) = A at hA hro hw ⊢
  unfold fX11_stop at h
  have hinX11 : ∀ w ∈ wsX110, w ∈ wsX11_stop := by decide +kernel
  have hl : lv_has ls 2 [(0, .ref a0), (1, .int a1)] := hl
  refine lv_aload_n hx hb dX11_stop_0 rfl (lv_at hl 0 rfl) ?_
  obtain ⟨hf1, h⟩ := of_grd h
  obtain ⟨b1, eb1, h⟩ := of_onn h
  refine C_get hx hb hts hinX11 hown hK hw (cell_12 hf1) (by omega) rfl 6 (by decide) (index := 43) (by decide +kernel) rfl (v := .ref b1) (congrArg (fun o => some (va_rf o)) eb1) dX11_stop_1 ?_
  refine lv_iload_n hx hb dX11_stop_4 rfl (lv_at hl 1 rfl) ?_
  obtain ⟨hf2, h⟩ := of_grd h
  obtain ⟨q5, hq5, h⟩ := of_cal h
  refine C_i hA hw (va_runV (As := [.int a1]) (rest := []) ⟨hx, hb, hml, hown, hts⟩ (cX9_tellStop_ok l D cc E n S b1 a1 hq5) (cwV 1 hts gX11_stop_X9_tellStop rfl rfl rfl (by decide +kernel) ⟨Nat.le_of_ble_eq_true rfl, Nat.le_of_ble_eq_true rfl⟩) ⟨cBlind D cc E S _, C_recv hK hw (by omega) (cell_10 hf2) (r := (RX9, TX9, 10)) rfl, fun U hU hW => ⟨rfl, C_pre hA hK hro hw U hU hW⟩⟩ rfl rfl hl.1 rfl (lv_room (Nat.le_of_ble_eq_true rfl)) dX11_stop_5 ⟨Nat.le_refl _, Nat.le_refl _⟩) (fun H locs hw => ?_)
  refine W.widen (k := 0) (n := 0) (Nat.le_refl _) (Nat.le_refl _) ?_
  obtain rfl := Option.some.inj h
  exact C_iret hx hb hr hlocks hw (by rfl) dX11_stop_8

def fX11_feed (n : Nat × Nat) (S : CS) (a0 : Nat) (a1 : Int32) (a2 : Int32) (a3 : Int32) (a4 : Int32) (a5 : Int32) : Option (Int32 × CS) :=
  grd (cD S a0 = 12) (onn (cR S 245 a0) (fun b1 => grd (cD S b1 = 6) (bnd (cI S 124 b1) (fun v4 => if (v4 + (20 : Int32)) ≤ (400 : Int32) then 
    onn (cR S 245 a0) (fun b19 => grd (cD S b19 = 6) (cal (fX5_append n S b19 a1) (fun S23 => grd (cD S23 a0 = 12) (onn (cR S23 245 a0) (fun b27 => grd (cD S23 b27 = 6) (cal (fX5_append n S23 b27 a2) (fun S31 => grd (cD S31 a0 = 12) (onn (cR S31 245 a0) (fun b35 => grd (cD S31 b35 = 6) (cal (fX5_append n S31 b35 a3) (fun S39 => grd (cD S39 a0 = 12) (onn (cR S39 245 a0) (fun b43 => grd (cD S39 b43 = 6) (cal (fX5_append n S39 b43 a4) (fun S48 => grd (cD S48 a0 = 12) (onn (cR S48 245 a0) (fun b52 => grd (cD S48 b52 = 6) (cal (fX5_append n S48 b52 a5) (fun S57 => grd (cD S57 a0 = 12) (onn (cR S57 245 a0) (fun b61 => grd (cD S57 b61 = 6) (bnd (cI S57 124 b61) (fun v64 => some (v64, S57))))))))))))))))))))))))
    else some ((-1 : Int32), S)))))
set_option maxHeartbeats 8000000 in
set_option maxRecDepth 100000 in
theorem cX11_feed_ok (l : Launch) (D : va_G) (cc : Nat → ClassId) (E : Nat → Nat) (n : Nat × Nat) (S : CS) (a0 : Nat) (a1 : Int32) (a2 : Int32) (a3 : Int32) (a4 : Int32) (a5 : Int32) {r : Int32} {T : CS} (h : fX11_feed n S a0 a1 a2 a3 a4 a5 = some (r, T)) : Ci l yX11_feed wsX11_feed 1 22 D cc E [.ref a0, .int a1, .int a2, .int a3, .int a4, .int a5] S r T 0 0 := by
  refine C_of (own := RX11) (bb := cX11_feed) (nL := 6) (ret := (some .int)) (by decide) rfl rfl (Nat.le_of_ble_eq_true rfl) ?_
  intro p e s m args below meth c hx hb hr hlocks hml hts hown hnm hA hK hro hw ls hl
  generalize va_A (cPs cc S) (nx S) = A at hA hro hw ⊢
  unfold fX11_feed at h
  have hinX11 : ∀ w ∈ wsX110, w ∈ wsX11_feed := by decide +kernel
  have hinX5 : ∀ w ∈ wsX50, w ∈ wsX11_feed := by decide +kernel
  have hl : lv_has ls 6 [(0, .ref a0), (1, .int a1), (2, .int a2), (3, .int a3), (4, .int a4), (5, .int a5)] := hl
  refine lv_aload_n hx hb dX11_feed_0 rfl (lv_at hl 0 rfl) ?_
  obtain ⟨hf1, h⟩ := of_grd h
  obtain ⟨b1, eb1, h⟩ := of_onn h
  refine C_get hx hb hts hinX11 hown hK hw (cell_12 hf1) (by omega) rfl 5 (by decide) (index := 36) (by decide +kernel) rfl (v := .ref b1) (congrArg (fun o => some (va_rf o)) eb1) dX11_feed_1 ?_
  obtain ⟨hf2, h⟩ := of_grd h
  refine C_get hx hb hts hinX5 hown hK hw (cell_6 hf2) (by omega) rfl 4 (by decide) (index := 219) (by decide +kernel) rfl rfl dX11_feed_4 ?_
  refine lv_topi (fun v4 ev4 => ?_)
  have h := of_bnd h ev4
  refine lv_bipush (v := 20) hx hb dX11_feed_7 (by decide) ?_
  refine lv_iadd hx hb dX11_feed_9 ?_
  refine lv_sipush (v := 400) hx hb dX11_feed_10 (by decide) ?_
  refine lv_icmp_le (tgt := 18) hx hb dX11_feed_13 (by decide) (fun c13 => ?_) (fun c13 => ?_)
  · have h := of_it h c13
    refine lv_aload_n hx hb dX11_feed_18 rfl (lv_at hl 0 rfl) ?_
    obtain ⟨b19, eb19, h⟩ := of_onn h
    refine C_get hx hb hts hinX11 hown hK hw (cell_12 hf1) (by omega) rfl 5 (by decide) (index := 36) (by decide +kernel) rfl (v := .ref b19) (congrArg (fun o => some (va_rf o)) eb19) dX11_feed_19 ?_
    refine lv_iload_n hx hb dX11_feed_22 rfl (lv_at hl 1 rfl) ?_
    obtain ⟨hf3, h⟩ := of_grd h
    obtain ⟨q23, hq23, h⟩ := of_cal h
    obtain ⟨S23, eS23⟩ : ∃ x, x = q23 := ⟨_, rfl⟩
    subst eS23
    refine C_v hA hw (va_runV (As := [.int a1]) (rest := []) ⟨hx, hb, hml, hown, hts⟩ (cX5_append_ok l D cc E n S b19 a1 hq23) (cwV 1 hts gX11_feed_X5_append rfl rfl rfl (by decide +kernel) ⟨Nat.le_of_ble_eq_true rfl, Nat.le_of_ble_eq_true rfl⟩) ⟨cBlind D cc E S _, C_recv hK hw (by omega) (cell_6 hf3) (r := (RX5, TX5, 6)) rfl, fun U hU hW => ⟨rfl, C_pre hA hK hro hw U hU hW⟩⟩ rfl rfl hl.1 rfl (lv_room (Nat.le_of_ble_eq_true rfl)) dX11_feed_23 ⟨Nat.le_refl _, Nat.le_refl _⟩) (fun H locs hw => ?_)
    refine W.widen (k := 0) (n := 0) (Nat.le_refl _) (Nat.le_refl _) ?_
    refine lv_aload_n hx hb dX11_feed_26 rfl (lv_at hl 0 rfl) ?_
    obtain ⟨hf4, h⟩ := of_grd h
    obtain ⟨b27, eb27, h⟩ := of_onn h
    refine C_get hx hb hts hinX11 hown hK hw (cell_12 hf4) (by omega) rfl 5 (by decide) (index := 36) (by decide +kernel) rfl (v := .ref b27) (congrArg (fun o => some (va_rf o)) eb27) dX11_feed_27 ?_
    refine lv_iload_n hx hb dX11_feed_30 rfl (lv_at hl 2 rfl) ?_
    obtain ⟨hf5, h⟩ := of_grd h
    obtain ⟨q31, hq31, h⟩ := of_cal h
    obtain ⟨S31, eS31⟩ : ∃ x, x = q31 := ⟨_, rfl⟩
    subst eS31
    refine C_v hA hw (va_runV (As := [.int a2]) (rest := []) ⟨hx, hb, hml, hown, hts⟩ (cX5_append_ok l D cc E n S23 b27 a2 hq31) (cwV 1 hts gX11_feed_X5_append rfl rfl rfl (by decide +kernel) ⟨Nat.le_of_ble_eq_true rfl, Nat.le_of_ble_eq_true rfl⟩) ⟨cBlind D cc E S23 _, C_recv hK hw (by omega) (cell_6 hf5) (r := (RX5, TX5, 6)) rfl, fun U hU hW => ⟨rfl, C_pre hA hK hro hw U hU hW⟩⟩ rfl rfl hl.1 rfl (lv_room (Nat.le_of_ble_eq_true rfl)) dX11_feed_31 ⟨Nat.le_refl _, Nat.le_refl _⟩) (fun H locs hw => ?_)
    refine W.widen (k := 0) (n := 0) (Nat.le_refl _) (Nat.le_refl _) ?_
    refine lv_aload_n hx hb dX11_feed_34 rfl (lv_at hl 0 rfl) ?_
    obtain ⟨hf6, h⟩ := of_grd h
    obtain ⟨b35, eb35, h⟩ := of_onn h
    refine C_get hx hb hts hinX11 hown hK hw (cell_12 hf6) (by omega) rfl 5 (by decide) (index := 36) (by decide +kernel) rfl (v := .ref b35) (congrArg (fun o => some (va_rf o)) eb35) dX11_feed_35 ?_
    refine lv_iload_n hx hb dX11_feed_38 rfl (lv_at hl 3 rfl) ?_
    obtain ⟨hf7, h⟩ := of_grd h
    obtain ⟨q39, hq39, h⟩ := of_cal h
    obtain ⟨S39, eS39⟩ : ∃ x, x = q39 := ⟨_, rfl⟩
    subst eS39
    refine C_v hA hw (va_runV (As := [.int a3]) (rest := []) ⟨hx, hb, hml, hown, hts⟩ (cX5_append_ok l D cc E n S31 b35 a3 hq39) (cwV 1 hts gX11_feed_X5_append rfl rfl rfl (by decide +kernel) ⟨Nat.le_of_ble_eq_true rfl, Nat.le_of_ble_eq_true rfl⟩) ⟨cBlind D cc E S31 _, C_recv hK hw (by omega) (cell_6 hf7) (r := (RX5, TX5, 6)) rfl, fun U hU hW => ⟨rfl, C_pre hA hK hro hw U hU hW⟩⟩ rfl rfl hl.1 rfl (lv_room (Nat.le_of_ble_eq_true rfl)) dX11_feed_39 ⟨Nat.le_refl _, Nat.le_refl _⟩) (fun H locs hw => ?_)
    refine W.widen (k := 0) (n := 0) (Nat.le_refl _) (Nat.le_refl _) ?_
    refine lv_aload_n hx hb dX11_feed_42 rfl (lv_at hl 0 rfl) ?_
    obtain ⟨hf8, h⟩ := of_grd h
    obtain ⟨b43, eb43, h⟩ := of_onn h
    refine C_get hx hb hts hinX11 hown hK hw (cell_12 hf8) (by omega) rfl 5 (by decide) (index := 36) (by decide +kernel) rfl (v := .ref b43) (congrArg (fun o => some (va_rf o)) eb43) dX11_feed_43 ?_
    refine lv_iload hx hb dX11_feed_46 (lv_at hl 4 rfl) ?_
    obtain ⟨hf9, h⟩ := of_grd h
    obtain ⟨q48, hq48, h⟩ := of_cal h
    obtain ⟨S48, eS48⟩ : ∃ x, x = q48 := ⟨_, rfl⟩
    subst eS48
    refine C_v hA hw (va_runV (As := [.int a4]) (rest := []) ⟨hx, hb, hml, hown, hts⟩ (cX5_append_ok l D cc E n S39 b43 a4 hq48) (cwV 1 hts gX11_feed_X5_append rfl rfl rfl (by decide +kernel) ⟨Nat.le_of_ble_eq_true rfl, Nat.le_of_ble_eq_true rfl⟩) ⟨cBlind D cc E S39 _, C_recv hK hw (by omega) (cell_6 hf9) (r := (RX5, TX5, 6)) rfl, fun U hU hW => ⟨rfl, C_pre hA hK hro hw U hU hW⟩⟩ rfl rfl hl.1 rfl (lv_room (Nat.le_of_ble_eq_true rfl)) dX11_feed_48 ⟨Nat.le_refl _, Nat.le_refl _⟩) (fun H locs hw => ?_)
    refine W.widen (k := 0) (n := 0) (Nat.le_refl _) (Nat.le_refl _) ?_
    refine lv_aload_n hx hb dX11_feed_51 rfl (lv_at hl 0 rfl) ?_
    obtain ⟨hf10, h⟩ := of_grd h
    obtain ⟨b52, eb52, h⟩ := of_onn h
    refine C_get hx hb hts hinX11 hown hK hw (cell_12 hf10) (by omega) rfl 5 (by decide) (index := 36) (by decide +kernel) rfl (v := .ref b52) (congrArg (fun o => some (va_rf o)) eb52) dX11_feed_52 ?_
    refine lv_iload hx hb dX11_feed_55 (lv_at hl 5 rfl) ?_
    obtain ⟨hf11, h⟩ := of_grd h
    obtain ⟨q57, hq57, h⟩ := of_cal h
    obtain ⟨S57, eS57⟩ : ∃ x, x = q57 := ⟨_, rfl⟩
    subst eS57
    refine C_v hA hw (va_runV (As := [.int a5]) (rest := []) ⟨hx, hb, hml, hown, hts⟩ (cX5_append_ok l D cc E n S48 b52 a5 hq57) (cwV 1 hts gX11_feed_X5_append rfl rfl rfl (by decide +kernel) ⟨Nat.le_of_ble_eq_true rfl, Nat.le_of_ble_eq_true rfl⟩) ⟨cBlind D cc E S48 _, C_recv hK hw (by omega) (cell_6 hf11) (r := (RX5, TX5, 6)) rfl, fun U hU hW => ⟨rfl, C_pre hA hK hro hw U hU hW⟩⟩ rfl rfl hl.1 rfl (lv_room (Nat.le_of_ble_eq_true rfl)) dX11_feed_57 ⟨Nat.le_refl _, Nat.le_refl _⟩) (fun H locs hw => ?_)
    refine W.widen (k := 0) (n := 0) (Nat.le_refl _) (Nat.le_refl _) ?_
    refine lv_aload_n hx hb dX11_feed_60 rfl (lv_at hl 0 rfl) ?_
    obtain ⟨hf12, h⟩ := of_grd h
    obtain ⟨b61, eb61, h⟩ := of_onn h
    refine C_get hx hb hts hinX11 hown hK hw (cell_12 hf12) (by omega) rfl 5 (by decide) (index := 36) (by decide +kernel) rfl (v := .ref b61) (congrArg (fun o => some (va_rf o)) eb61) dX11_feed_61 ?_
    obtain ⟨hf13, h⟩ := of_grd h
    refine C_get hx hb hts hinX5 hown hK hw (cell_6 hf13) (by omega) rfl 4 (by decide) (index := 219) (by decide +kernel) rfl rfl dX11_feed_64 ?_
    refine lv_topi (fun v64 ev64 => ?_)
    have h := of_bnd h ev64
    obtain ⟨rfl, rfl⟩ := of_ret2 h
    exact C_iret hx hb hr hlocks hw (by rfl) dX11_feed_67
  · have h := of_if h c13
    refine lv_iconst (v := -1) hx hb dX11_feed_16 (by decide) ?_
    obtain ⟨rfl, rfl⟩ := of_ret2 h
    exact C_iret hx hb hr hlocks hw (by rfl) dX11_feed_17

def fX11_end (n : Nat × Nat) (S : CS) (a0 : Nat) (a1 : Int32) : Option (Int32 × CS) :=
  grd (cD S a0 = 12) (onn (cR S 245 a0) (fun b3 => grd (cD S b3 = 6) (bnd (cI S 124 b3) (fun v6 => bnd (fX11_isWithin a1 (0 : Int32) v6) (fun r9 => if r9 = 0 then 
    some ((-1 : Int32), S)
    else onn (cR S 245 a0) (fun b18 => grd (cD S b18 = 6) (bnd (uI S 124 b18 a1) (fun S22 => some (a1, S22)))))))))
set_option maxHeartbeats 8000000 in
set_option maxRecDepth 100000 in
theorem cX11_end_ok (l : Launch) (D : va_G) (cc : Nat → ClassId) (E : Nat → Nat) (n : Nat × Nat) (S : CS) (a0 : Nat) (a1 : Int32) {r : Int32} {T : CS} (h : fX11_end n S a0 a1 = some (r, T)) : Ci l yX11_end wsX11_end 1 22 D cc E [.ref a0, .int a1] S r T 0 0 := by
  refine C_of (own := RX11) (bb := cX11_end) (nL := 2) (ret := (some .int)) (by decide) rfl rfl (Nat.le_of_ble_eq_true rfl) ?_
  intro p e s m args below meth c hx hb hr hlocks hml hts hown hnm hA hK hro hw ls hl
  generalize va_A (cPs cc S) (nx S) = A at hA hro hw ⊢
  unfold fX11_end at h
  have hinX11 : ∀ w ∈ wsX110, w ∈ wsX11_end := by decide +kernel
  have hinX5 : ∀ w ∈ wsX50, w ∈ wsX11_end := by decide +kernel
  have hl : lv_has ls 2 [(0, .ref a0), (1, .int a1)] := hl
  refine lv_iload_n hx hb dX11_end_0 rfl (lv_at hl 1 rfl) ?_
  refine lv_iconst (v := 0) hx hb dX11_end_1 (by decide) ?_
  refine lv_aload_n hx hb dX11_end_2 rfl (lv_at hl 0 rfl) ?_
  obtain ⟨hf1, h⟩ := of_grd h
  obtain ⟨b3, eb3, h⟩ := of_onn h
  refine C_get hx hb hts hinX11 hown hK hw (cell_12 hf1) (by omega) rfl 5 (by decide) (index := 36) (by decide +kernel) rfl (v := .ref b3) (congrArg (fun o => some (va_rf o)) eb3) dX11_end_3 ?_
  obtain ⟨hf2, h⟩ := of_grd h
  refine C_get hx hb hts hinX5 hown hK hw (cell_6 hf2) (by omega) rfl 4 (by decide) (index := 219) (by decide +kernel) rfl rfl dX11_end_6 ?_
  refine lv_topi (fun v6 ev6 => ?_)
  have h := of_bnd h ev6
  refine C_s (va_runS (As := [.int a1, .int (0 : Int32), .int v6]) (rest := []) ⟨hx, hb, hml, hown, hts⟩ (cX11_isWithin_ok l a1 (0 : Int32) v6) (va_cwS 3 hts gX11_end_X11_isWithin rfl rfl rfl (by decide +kernel) ⟨Nat.le_of_ble_eq_true rfl, Nat.le_of_ble_eq_true rfl⟩) ⟨fun a U g mk q => ⟨q.1, trivial⟩, fun U hU hW => ⟨rfl, trivial⟩⟩ rfl rfl hl.1 rfl (lv_room (Nat.le_of_ble_eq_true rfl)) dX11_end_9 ⟨Nat.le_refl _, Nat.le_refl _⟩) (fun r9 er9 => ?_)
  have h := of_bnd h er9
  refine lv_if_ne (tgt := 17) hx hb dX11_end_12 (by decide) (fun c12 => ?_) (fun c12 => ?_)
  · have h := of_if h c12
    refine lv_aload_n hx hb dX11_end_17 rfl (lv_at hl 0 rfl) ?_
    obtain ⟨b18, eb18, h⟩ := of_onn h
    refine C_get hx hb hts hinX11 hown hK hw (cell_12 hf1) (by omega) rfl 5 (by decide) (index := 36) (by decide +kernel) rfl (v := .ref b18) (congrArg (fun o => some (va_rf o)) eb18) dX11_end_18 ?_
    refine lv_iload_n hx hb dX11_end_21 rfl (lv_at hl 1 rfl) ?_
    obtain ⟨hf3, h⟩ := of_grd h
    refine C_put hx hb hts hinX5 tyX5 tyX5_ok nmX5 hown hK hw (cell_6 hf3) (by omega) rfl 4 (by decide) (index := 219) (by decide +kernel) rfl rfl (ty := .int) (by decide +kernel) rfl rfl (Nat.le_of_ble_eq_true rfl) (S' := uI S 124 b18 a1) rfl rfl rfl (pu_124 hf3 a1) (fun b hb => off_uI hb) dX11_end_22 (fun S22 H locs eS22 hw => ?_)
    have h := of_bnd h eS22
    refine lv_iload_n hx hb dX11_end_25 rfl (lv_at hl 1 rfl) ?_
    obtain ⟨rfl, rfl⟩ := of_ret2 h
    exact C_iret hx hb hr hlocks hw (by rfl) dX11_end_26
  · have h := of_it h c12
    refine lv_iconst (v := -1) hx hb dX11_end_15 (by decide) ?_
    obtain ⟨rfl, rfl⟩ := of_ret2 h
    exact C_iret hx hb hr hlocks hw (by rfl) dX11_end_16

def fX11_fault (n : Nat × Nat) (S : CS) (a0 : Nat) : Option Int32 :=
  grd (cD S a0 = 12) (onn (cR S 245 a0) (fun b1 => grd (cD S b1 = 6) (bnd (cI S 125 b1) (fun v4 => some v4))))
set_option maxHeartbeats 8000000 in
set_option maxRecDepth 100000 in
theorem cX11_fault_ok (l : Launch) (D : va_G) (cc : Nat → ClassId) (E : Nat → Nat) (n : Nat × Nat) (S : CS) (a0 : Nat) {r : Int32} (h : fX11_fault n S a0 = some r) : Ci l yX11_fault wsX11_fault 0 0 D cc E [.ref a0] S r S 0 0 := by
  refine C_of (own := RX11) (bb := cX11_fault) (nL := 1) (ret := (some .int)) (by decide) rfl rfl (Nat.le_of_ble_eq_true rfl) ?_
  intro p e s m args below meth c hx hb hr hlocks hml hts hown hnm hA hK hro hw ls hl
  generalize va_A (cPs cc S) (nx S) = A at hA hro hw ⊢
  unfold fX11_fault at h
  have hinX11 : ∀ w ∈ wsX110, w ∈ wsX11_fault := by decide +kernel
  have hinX5 : ∀ w ∈ wsX50, w ∈ wsX11_fault := by decide +kernel
  have hl : lv_has ls 1 [(0, .ref a0)] := hl
  refine lv_aload_n hx hb dX11_fault_0 rfl (lv_at hl 0 rfl) ?_
  obtain ⟨hf1, h⟩ := of_grd h
  obtain ⟨b1, eb1, h⟩ := of_onn h
  refine C_get hx hb hts hinX11 hown hK hw (cell_12 hf1) (by omega) rfl 5 (by decide) (index := 36) (by decide +kernel) rfl (v := .ref b1) (congrArg (fun o => some (va_rf o)) eb1) dX11_fault_1 ?_
  obtain ⟨hf2, h⟩ := of_grd h
  refine C_get hx hb hts hinX5 hown hK hw (cell_6 hf2) (by omega) rfl 5 (by decide) (index := 238) (by decide +kernel) rfl rfl dX11_fault_4 ?_
  refine lv_topi (fun v4 ev4 => ?_)
  have h := of_bnd h ev4
  obtain rfl := Option.some.inj h
  exact C_iret hx hb hr hlocks hw (by rfl) dX11_fault_7

def fX11_weigh (n : Nat × Nat) (S : CS) (a0 : Nat) (a1 : Int32) (a2 : Int32) (a3 : Int32) : Option ((Int32 × CS) × Nat × Nat) :=
  bnd (fX11_isWithin a2 (0 : Int32) (1000000 : Int32)) (fun r4 => if r4 = 0 then 
    grd (cD S a0 = 12) (cal (fX11_refuse n S a0 (-1 : Int32)) (un2 fun r22 S22 => some ((r22, S22), 0, 0)))
    else bnd (fX11_isWithin a3 (0 : Int32) (100000 : Int32)) (fun r14 => if r14 = 0 then 
      grd (cD S a0 = 12) (cal (fX11_refuse n S a0 (-1 : Int32)) (un2 fun r22 S22 => some ((r22, S22), 0, 0)))
      else grd (cD S a0 = 12) (onn (cR S 241 a0) (fun b27 => grd (cD S b27 = 8) (cal (fX7_find n S b27 a1) (fun q31 => oel q31 (cal (fX11_refuse n S a0 (-2 : Int32)) (un2 fun r44 S44 => some ((r44, S44), 0, 0))) (fun b38 => bnd (cI S 250 a0) (fun v49 => if v49 < (100 : Int32) then 
          adc 1 3 (bnd (nx S) (fun q66 => bnd (nw S 11 0) (fun S66 => grd (cD S66 b38 = 3) (bnd (cR S66 70 b38) (fun o74 => cal (fX10_init n S66 q66 a2 a3 o74) (fun S77 => grd (cD S77 b38 = 3) (bnd (uR S77 70 b38 (some q66)) (fun S80 => grd (cD S80 a0 = 12) (bnd (cI S80 250 a0) (fun v85 => bnd (uI S80 250 a0 (v85 + (1 : Int32))) (fun S90 => bnd (cI S90 250 a0) (fun v95 => cal (fX11_accept n S90 a0 v95) (un2 fun r98 S98 => some ((r98, S98), 0, 0))))))))))))))
          else cal (fX11_refuse n S a0 (-5 : Int32)) (un2 fun r60 S60 => some ((r60, S60), 0, 0))))))))))
set_option maxHeartbeats 8000000 in
set_option maxRecDepth 100000 in
theorem cX11_weigh_ok (l : Launch) (D : va_G) (cc : Nat → ClassId) (E : Nat → Nat) (n : Nat × Nat) (S : CS) (a0 : Nat) (a1 : Int32) (a2 : Int32) (a3 : Int32) {r : Int32} {T : CS} {mc ms : Nat} (h : fX11_weigh n S a0 a1 a2 a3 = some ((r, T), mc, ms)) : Ci l yX11_weigh wsX11_weigh 4 85 D cc E [.ref a0, .int a1, .int a2, .int a3] S r T mc ms := by
  refine C_of (own := RX11) (bb := cX11_weigh) (nL := 5) (ret := (some .int)) (by decide) rfl rfl (Nat.le_of_ble_eq_true rfl) ?_
  intro p e s m args below meth c hx hb hr hlocks hml hts hown hnm hA hK hro hw ls hl
  generalize va_A (cPs cc S) (nx S) = A at hA hro hw ⊢
  unfold fX11_weigh at h
  have hinX10 : ∀ w ∈ wsX100, w ∈ wsX11_weigh := by decide +kernel
  have hinX11 : ∀ w ∈ wsX110, w ∈ wsX11_weigh := by decide +kernel
  have hinX2 : ∀ w ∈ wsX20, w ∈ wsX11_weigh := by decide +kernel
  have hl : lv_has ls 5 [(0, .ref a0), (1, .int a1), (2, .int a2), (3, .int a3)] := hl
  refine W.widen (k := mc - mc) (n := ms - ms) (by omega) (by omega) ?_
  have hk1 : mc ≤ mc := Nat.le_refl _
  have hk2 : ms ≤ ms := Nat.le_refl _
  refine lv_iload_n hx hb dX11_weigh_0 rfl (lv_at hl 2 rfl) ?_
  refine lv_iconst (v := 0) hx hb dX11_weigh_1 (by decide) ?_
  refine lv_ldc (v := 1000000) hx hb hown (hts (.constant RX11 82 (1000000)) (by decide +kernel)) dX11_weigh_2 ?_
  refine C_s (va_runS (As := [.int a2, .int (0 : Int32), .int (1000000 : Int32)]) (rest := []) ⟨hx, hb, hml, hown, hts⟩ (cX11_isWithin_ok l a2 (0 : Int32) (1000000 : Int32)) (va_cwS 3 hts gX11_weigh_X11_isWithin rfl rfl rfl (by decide +kernel) ⟨Nat.le_of_ble_eq_true rfl, Nat.le_of_ble_eq_true rfl⟩) ⟨fun a U g mk q => ⟨q.1, trivial⟩, fun U hU hW => ⟨rfl, trivial⟩⟩ rfl rfl hl.1 rfl (lv_room (Nat.le_of_ble_eq_true rfl)) dX11_weigh_4 ⟨by show _ ≤ mc; omega, by show _ ≤ ms; omega⟩) (fun r4 er4 => ?_)
  have h := of_bnd h er4
  refine lv_if_eq (tgt := 20) hx hb dX11_weigh_7 (by decide) (fun c7 => ?_) (fun c7 => ?_)
  · have h := of_it h c7
    refine lv_aload_n hx hb dX11_weigh_20 rfl (lv_at hl 0 rfl) ?_
    refine lv_iconst (v := -1) hx hb dX11_weigh_21 (by decide) ?_
    obtain ⟨hf1, h⟩ := of_grd h
    obtain ⟨q22, hq22, h⟩ := of_cal h
    obtain ⟨r22, S22⟩ := q22
    have h := of_un2 h
    refine C_i hA hw (va_runV (As := [.int (-1 : Int32)]) (rest := []) ⟨hx, hb, hml, hown, hts⟩ (cX11_refuse_ok l D cc E n S a0 (-1 : Int32) hq22) (cwV 1 hts gX11_weigh_X11_refuse rfl rfl rfl (by decide +kernel) ⟨Nat.le_of_ble_eq_true rfl, Nat.le_of_ble_eq_true rfl⟩) ⟨cBlind D cc E S _, C_recv hK hw (by omega) (cell_12 hf1) (r := (RX11, TX11, 12)) rfl, fun U hU hW => ⟨rfl, C_pre hA hK hro hw U hU hW⟩⟩ rfl rfl hl.1 rfl (lv_room (Nat.le_of_ble_eq_true rfl)) dX11_weigh_22 ⟨by show _ ≤ mc; omega, by show _ ≤ ms; omega⟩) (fun H locs hw => ?_)
    refine W.widen (k := mc - mc) (n := ms - ms) (Nat.le_refl _) (Nat.le_refl _) ?_
    obtain ⟨rfl, rfl, ek1, ek2⟩ := of_retA h
    refine W.widen (k := mc) (n := ms) (by omega) (by omega) ?_
    exact C_iret hx hb hr hlocks hw (by rfl) dX11_weigh_25
  · have h := of_if h c7
    refine lv_iload_n hx hb dX11_weigh_10 rfl (lv_at hl 3 rfl) ?_
    refine lv_iconst (v := 0) hx hb dX11_weigh_11 (by decide) ?_
    refine lv_ldc (v := 100000) hx hb hown (hts (.constant RX11 241 (100000)) (by decide +kernel)) dX11_weigh_12 ?_
    refine C_s (va_runS (As := [.int a3, .int (0 : Int32), .int (100000 : Int32)]) (rest := []) ⟨hx, hb, hml, hown, hts⟩ (cX11_isWithin_ok l a3 (0 : Int32) (100000 : Int32)) (va_cwS 3 hts gX11_weigh_X11_isWithin rfl rfl rfl (by decide +kernel) ⟨Nat.le_of_ble_eq_true rfl, Nat.le_of_ble_eq_true rfl⟩) ⟨fun a U g mk q => ⟨q.1, trivial⟩, fun U hU hW => ⟨rfl, trivial⟩⟩ rfl rfl hl.1 rfl (lv_room (Nat.le_of_ble_eq_true rfl)) dX11_weigh_14 ⟨by show _ ≤ mc; omega, by show _ ≤ ms; omega⟩) (fun r14 er14 => ?_)
    have h := of_bnd h er14
    refine lv_if_ne (tgt := 26) hx hb dX11_weigh_17 (by decide) (fun c17 => ?_) (fun c17 => ?_)
    · have h := of_if h c17
      refine lv_aload_n hx hb dX11_weigh_26 rfl (lv_at hl 0 rfl) ?_
      obtain ⟨hf2, h⟩ := of_grd h
      obtain ⟨b27, eb27, h⟩ := of_onn h
      refine C_get hx hb hts hinX11 hown hK hw (cell_12 hf2) (by omega) rfl 1 (by decide) (index := 16) (by decide +kernel) rfl (v := .ref b27) (congrArg (fun o => some (va_rf o)) eb27) dX11_weigh_27 ?_
      refine lv_iload_n hx hb dX11_weigh_30 rfl (lv_at hl 1 rfl) ?_
      obtain ⟨hf3, h⟩ := of_grd h
      obtain ⟨q31, hq31, h⟩ := of_cal h
      refine C_q hA hw (va_runV (As := [.int a1]) (rest := []) ⟨hx, hb, hml, hown, hts⟩ (cX7_find_ok l D cc E n S b27 a1 hq31) (cwV 1 hts gX11_weigh_X7_find rfl rfl rfl (by decide +kernel) ⟨Nat.le_of_ble_eq_true rfl, Nat.le_of_ble_eq_true rfl⟩) ⟨cBlind D cc E S _, C_recv hK hw (by omega) (cell_8 hf3) (r := (RX7, TX7, 2)) rfl, fun U hU hW => ⟨rfl, C_pre hA hK hro hw U hU hW⟩⟩ rfl rfl hl.1 rfl (lv_room (Nat.le_of_ble_eq_true rfl)) dX11_weigh_31 ⟨by show _ ≤ mc; omega, by show _ ≤ ms; omega⟩) (fun H locs hw => ?_)
      refine W.widen (k := mc - mc) (n := ms - ms) (Nat.le_refl _) (Nat.le_refl _) ?_
      refine lv_astoreq (lv' := [(4, va_rf q31), (0, .ref a0), (1, .int a1), (2, .int a2), (3, .int a3)]) hx hb dX11_weigh_34 hl (by decide) rfl (fun ls hl => ?_)
      refine lv_aloadq hx hb dX11_weigh_36 (lv_at hl 0 rfl) ?_
      rcases q31 with _ | b38
      · have h := of_oelN h
        have hl : lv_has ls 5 [(4, .null), (0, .ref a0), (1, .int a1), (2, .int a2), (3, .int a3)] := hl
        refine lv_ifnonnullN hx hb dX11_weigh_38 ?_
        refine lv_aload_n hx hb dX11_weigh_41 rfl (lv_at hl 1 rfl) ?_
        refine lv_bipush (v := -2) hx hb dX11_weigh_42 (by decide) ?_
        obtain ⟨q44, hq44, h⟩ := of_cal h
        obtain ⟨r44, S44⟩ := q44
        have h := of_un2 h
        refine C_i hA hw (va_runV (As := [.int (-2 : Int32)]) (rest := []) ⟨hx, hb, hml, hown, hts⟩ (cX11_refuse_ok l D cc E n S a0 (-2 : Int32) hq44) (cwV 1 hts gX11_weigh_X11_refuse rfl rfl rfl (by decide +kernel) ⟨Nat.le_of_ble_eq_true rfl, Nat.le_of_ble_eq_true rfl⟩) ⟨cBlind D cc E S _, C_recv hK hw (by omega) (cell_12 hf2) (r := (RX11, TX11, 12)) rfl, fun U hU hW => ⟨rfl, C_pre hA hK hro hw U hU hW⟩⟩ rfl rfl hl.1 rfl (lv_room (Nat.le_of_ble_eq_true rfl)) dX11_weigh_44 ⟨by show _ ≤ mc; omega, by show _ ≤ ms; omega⟩) (fun H locs hw => ?_)
        refine W.widen (k := mc - mc) (n := ms - ms) (Nat.le_refl _) (Nat.le_refl _) ?_
        obtain ⟨rfl, rfl, ek1, ek2⟩ := of_retA h
        refine W.widen (k := mc) (n := ms) (by omega) (by omega) ?_
        exact C_iret hx hb hr hlocks hw (by rfl) dX11_weigh_47
      · have h := of_oelS h
        have hl : lv_has ls 5 [(4, .ref b38), (0, .ref a0), (1, .int a1), (2, .int a2), (3, .int a3)] := hl
        refine lv_ifnonnull (tgt := 48) hx hb dX11_weigh_38 (by decide) ?_
        refine lv_aload_n hx hb dX11_weigh_48 rfl (lv_at hl 1 rfl) ?_
        refine C_get hx hb hts hinX11 hown hK hw (cell_12 hf2) (by omega) rfl 10 (by decide) (index := 61) (by decide +kernel) rfl rfl dX11_weigh_49 ?_
        refine lv_topi (fun v49 ev49 => ?_)
        have h := of_bnd h ev49
        refine lv_bipush (v := 100) hx hb dX11_weigh_52 (by decide) ?_
        refine lv_icmp_lt (tgt := 64) hx hb dX11_weigh_54 (by decide) (fun c54 => ?_) (fun c54 => ?_)
        · have h := of_it h c54
          refine lv_aload hx hb dX11_weigh_64 (lv_at hl 0 rfl) ?_
          obtain ⟨kc4, ks4, h, ek1, ek2⟩ := of_adc h
          refine C_new (d := 11) hx hb hts hinX10 tyX10 tyX10_ok hown (index := 242) (by decide +kernel) (by decide +kernel) (by decide +kernel) hK hA hw rfl (fun j hj => dfX10 j hj) (cnew_11 S) (by show _ ≤ mc; omega) (by show _ ≤ ms; omega) dX11_weigh_66 (fun q66 S66 H eq66 eS66 hw => ?_)
          have h := of_bnd h eq66
          have h := of_bnd h eS66
          refine W.widen (k := mc - kc4) (n := ms - ks4) (by omega) (by omega) ?_
          have hk1 : kc4 ≤ mc := by omega
          have hk2 : ks4 ≤ ms := by omega
          have hf5 : cD S66 q66 = 11 := by rw [eS66, eq66]; exact cD_new _ _ _
          refine lv_dup hx hb dX11_weigh_69 rfl ?_
          refine lv_iload_n hx hb dX11_weigh_70 rfl (lv_at hl 3 rfl) ?_
          refine lv_iload_n hx hb dX11_weigh_71 rfl (lv_at hl 4 rfl) ?_
          refine lv_aload hx hb dX11_weigh_72 (lv_at hl 0 rfl) ?_
          obtain ⟨hf6, h⟩ := of_grd h
          obtain ⟨o74, eo74⟩ : ∃ o, o = cR S66 70 b38 := ⟨_, rfl⟩
          have h := of_bnd h eo74
          refine C_get hx hb hts hinX2 hown hK hw (cell_3 hf6) (by omega) rfl 10 (by decide) (index := 244) (by decide +kernel) rfl (v := va_rf o74) (congrArg (fun o => some (va_rf o)) eo74.symm) dX11_weigh_74 ?_
          obtain ⟨q77, hq77, h⟩ := of_cal h
          obtain ⟨S77, eS77⟩ : ∃ x, x = q77 := ⟨_, rfl⟩
          subst eS77
          refine C_v hA hw (va_runI (As := [.int a2, .int a3, va_rf o74]) (rest := [.ref q66, .ref b38]) ⟨hx, hb, hml, hown, hts⟩ (cX10_init_ok l D cc E n S66 q66 a2 a3 o74 hq77) (cwI 3 hts gX11_weigh_X10_init rfl rfl rfl (hts (.initialized RX10) (by decide +kernel)) (hts (.methodLink RX11 247 yX10_init) (by decide +kernel)) (hts (.instanceMethod yX10_init) (by decide +kernel)) rfl (by decide +kernel) ⟨Nat.le_of_ble_eq_true rfl, Nat.le_of_ble_eq_true rfl⟩) ⟨cBlind D cc E S66 _, fun U hU hW => ⟨rfl, C_pre hA hK hro hw U hU hW⟩⟩ rfl rfl hl.1 rfl (lv_room (Nat.le_of_ble_eq_true rfl)) dX11_weigh_77 ⟨by show _ ≤ mc; omega, by show _ ≤ ms; omega⟩) (fun H locs hw => ?_)
          refine W.widen (k := mc - kc4) (n := ms - ks4) (Nat.le_refl _) (Nat.le_refl _) ?_
          obtain ⟨hf7, h⟩ := of_grd h
          refine C_put hx hb hts hinX2 tyX2 tyX2_ok nmX2 hown hK hw (cell_3 hf7) (by omega) rfl 10 (by decide) (index := 244) (by decide +kernel) rfl rfl (ty := (.object "FoodShares$Weighing")) (by decide +kernel) rfl rfl (Nat.le_of_ble_eq_true rfl) (S' := uR S77 70 b38 (some q66)) rfl rfl rfl (pu_70 hf7 (some q66)) (fun b hb => off_uR hb) dX11_weigh_80 (fun S80 H locs eS80 hw => ?_)
          have h := of_bnd h eS80
          refine lv_aload_n hx hb dX11_weigh_83 rfl (lv_at hl 1 rfl) ?_
          refine lv_dup hx hb dX11_weigh_84 rfl ?_
          obtain ⟨hf8, h⟩ := of_grd h
          refine C_get hx hb hts hinX11 hown hK hw (cell_12 hf8) (by omega) rfl 10 (by decide) (index := 61) (by decide +kernel) rfl rfl dX11_weigh_85 ?_
          refine lv_topi (fun v85 ev85 => ?_)
          have h := of_bnd h ev85
          refine lv_iconst (v := 1) hx hb dX11_weigh_88 (by decide) ?_
          refine lv_iadd hx hb dX11_weigh_89 ?_
          refine C_put hx hb hts hinX11 tyX11 tyX11_ok nmX11 hown hK hw (cell_12 hf8) (by omega) rfl 10 (by decide) (index := 61) (by decide +kernel) rfl rfl (ty := .int) (by decide +kernel) rfl rfl (Nat.le_of_ble_eq_true rfl) (S' := uI S80 250 a0 (v85 + (1 : Int32))) rfl rfl rfl (pu_250 hf8 (v85 + (1 : Int32))) (fun b hb => off_uI hb) dX11_weigh_90 (fun S90 H locs eS90 hw => ?_)
          have h := of_bnd h eS90
          refine lv_aload_n hx hb dX11_weigh_93 rfl (lv_at hl 1 rfl) ?_
          refine lv_aload_n hx hb dX11_weigh_94 rfl (lv_at hl 1 rfl) ?_
          have hf9 : cD S90 a0 = 12 := by rw [eS90]; exact hf8
          refine C_get hx hb hts hinX11 hown hK hw (cell_12 hf9) (by omega) rfl 10 (by decide) (index := 61) (by decide +kernel) rfl rfl dX11_weigh_95 ?_
          refine lv_topi (fun v95 ev95 => ?_)
          have h := of_bnd h ev95
          obtain ⟨q98, hq98, h⟩ := of_cal h
          obtain ⟨r98, S98⟩ := q98
          have h := of_un2 h
          refine C_i hA hw (va_runV (As := [.int v95]) (rest := []) ⟨hx, hb, hml, hown, hts⟩ (cX11_accept_ok l D cc E n S90 a0 v95 hq98) (cwV 1 hts gX11_weigh_X11_accept rfl rfl rfl (by decide +kernel) ⟨Nat.le_of_ble_eq_true rfl, Nat.le_of_ble_eq_true rfl⟩) ⟨cBlind D cc E S90 _, C_recv hK hw (by omega) (cell_12 hf9) (r := (RX11, TX11, 12)) rfl, fun U hU hW => ⟨rfl, C_pre hA hK hro hw U hU hW⟩⟩ rfl rfl hl.1 rfl (lv_room (Nat.le_of_ble_eq_true rfl)) dX11_weigh_98 ⟨by show _ ≤ mc; omega, by show _ ≤ ms; omega⟩) (fun H locs hw => ?_)
          refine W.widen (k := mc - kc4) (n := ms - ks4) (Nat.le_refl _) (Nat.le_refl _) ?_
          obtain ⟨rfl, rfl, ek1, ek2⟩ := of_retA h
          refine W.widen (k := mc) (n := ms) (by omega) (by omega) ?_
          exact C_iret hx hb hr hlocks hw (by rfl) dX11_weigh_101
        · have h := of_if h c54
          refine lv_aload_n hx hb dX11_weigh_57 rfl (lv_at hl 1 rfl) ?_
          refine lv_bipush (v := -5) hx hb dX11_weigh_58 (by decide) ?_
          obtain ⟨q60, hq60, h⟩ := of_cal h
          obtain ⟨r60, S60⟩ := q60
          have h := of_un2 h
          refine C_i hA hw (va_runV (As := [.int (-5 : Int32)]) (rest := []) ⟨hx, hb, hml, hown, hts⟩ (cX11_refuse_ok l D cc E n S a0 (-5 : Int32) hq60) (cwV 1 hts gX11_weigh_X11_refuse rfl rfl rfl (by decide +kernel) ⟨Nat.le_of_ble_eq_true rfl, Nat.le_of_ble_eq_true rfl⟩) ⟨cBlind D cc E S _, C_recv hK hw (by omega) (cell_12 hf2) (r := (RX11, TX11, 12)) rfl, fun U hU hW => ⟨rfl, C_pre hA hK hro hw U hU hW⟩⟩ rfl rfl hl.1 rfl (lv_room (Nat.le_of_ble_eq_true rfl)) dX11_weigh_60 ⟨by show _ ≤ mc; omega, by show _ ≤ ms; omega⟩) (fun H locs hw => ?_)
          refine W.widen (k := mc - mc) (n := ms - ms) (Nat.le_refl _) (Nat.le_refl _) ?_
          obtain ⟨rfl, rfl, ek1, ek2⟩ := of_retA h
          refine W.widen (k := mc) (n := ms) (by omega) (by omega) ?_
          exact C_iret hx hb hr hlocks hw (by rfl) dX11_weigh_63
    · have h := of_it h c17
      refine lv_aload_n hx hb dX11_weigh_20 rfl (lv_at hl 0 rfl) ?_
      refine lv_iconst (v := -1) hx hb dX11_weigh_21 (by decide) ?_
      obtain ⟨hf10, h⟩ := of_grd h
      obtain ⟨q22, hq22, h⟩ := of_cal h
      obtain ⟨r22, S22⟩ := q22
      have h := of_un2 h
      refine C_i hA hw (va_runV (As := [.int (-1 : Int32)]) (rest := []) ⟨hx, hb, hml, hown, hts⟩ (cX11_refuse_ok l D cc E n S a0 (-1 : Int32) hq22) (cwV 1 hts gX11_weigh_X11_refuse rfl rfl rfl (by decide +kernel) ⟨Nat.le_of_ble_eq_true rfl, Nat.le_of_ble_eq_true rfl⟩) ⟨cBlind D cc E S _, C_recv hK hw (by omega) (cell_12 hf10) (r := (RX11, TX11, 12)) rfl, fun U hU hW => ⟨rfl, C_pre hA hK hro hw U hU hW⟩⟩ rfl rfl hl.1 rfl (lv_room (Nat.le_of_ble_eq_true rfl)) dX11_weigh_22 ⟨by show _ ≤ mc; omega, by show _ ≤ ms; omega⟩) (fun H locs hw => ?_)
      refine W.widen (k := mc - mc) (n := ms - ms) (Nat.le_refl _) (Nat.le_refl _) ?_
      obtain ⟨rfl, rfl, ek1, ek2⟩ := of_retA h
      refine W.widen (k := mc) (n := ms) (by omega) (by omega) ?_
      exact C_iret hx hb hr hlocks hw (by rfl) dX11_weigh_25

def fX11_given (n : Nat × Nat) (S : CS) (a0 : Nat) (a1 : Int32) (a2 : Int32) : Option Int64 :=
  bnd (fX11_isWithin a1 (0 : Int32) (19 : Int32)) (fun r4 => if r4 = 0 then 
    some (-1 : Int64)
    else bnd (fX11_isWithin a2 (0 : Int32) (100000 : Int32)) (fun r14 => if r14 = 0 then 
      some (-1 : Int64)
      else grd (cD S a0 = 12) (onn (cR S 241 a0) (fun b25 => grd (cD S b25 = 8) (cal (fX7_givenBy n S b25 a1 a2) (fun q30 => some q30))))))
set_option maxHeartbeats 8000000 in
set_option maxRecDepth 100000 in
theorem cX11_given_ok (l : Launch) (D : va_G) (cc : Nat → ClassId) (E : Nat → Nat) (n : Nat × Nat) (S : CS) (a0 : Nat) (a1 : Int32) (a2 : Int32) {r : Int64} (h : fX11_given n S a0 a1 a2 = some r) : Cl l yX11_given wsX11_given 4 90 D cc E [.ref a0, .int a1, .int a2] S r S 0 0 := by
  refine C_of (own := RX11) (bb := cX11_given) (nL := 3) (ret := (some .long)) (by decide) rfl rfl (Nat.le_of_ble_eq_true rfl) ?_
  intro p e s m args below meth c hx hb hr hlocks hml hts hown hnm hA hK hro hw ls hl
  generalize va_A (cPs cc S) (nx S) = A at hA hro hw ⊢
  unfold fX11_given at h
  have hinX11 : ∀ w ∈ wsX110, w ∈ wsX11_given := by decide +kernel
  have hl : lv_has ls 3 [(0, .ref a0), (1, .int a1), (2, .int a2)] := hl
  refine lv_iload_n hx hb dX11_given_0 rfl (lv_at hl 1 rfl) ?_
  refine lv_iconst (v := 0) hx hb dX11_given_1 (by decide) ?_
  refine lv_bipush (v := 19) hx hb dX11_given_2 (by decide) ?_
  refine C_s (va_runS (As := [.int a1, .int (0 : Int32), .int (19 : Int32)]) (rest := []) ⟨hx, hb, hml, hown, hts⟩ (cX11_isWithin_ok l a1 (0 : Int32) (19 : Int32)) (va_cwS 3 hts gX11_given_X11_isWithin rfl rfl rfl (by decide +kernel) ⟨Nat.le_of_ble_eq_true rfl, Nat.le_of_ble_eq_true rfl⟩) ⟨fun a U g mk q => ⟨q.1, trivial⟩, fun U hU hW => ⟨rfl, trivial⟩⟩ rfl rfl hl.1 rfl (lv_room (Nat.le_of_ble_eq_true rfl)) dX11_given_4 ⟨Nat.le_refl _, Nat.le_refl _⟩) (fun r4 er4 => ?_)
  have h := of_bnd h er4
  refine lv_if_eq (tgt := 20) hx hb dX11_given_7 (by decide) (fun c7 => ?_) (fun c7 => ?_)
  · have h := of_it h c7
    refine lv_ldc2 (v := -1) hx hb hown (hts (.constantLong RX11 250 (-1)) (by decide +kernel)) dX11_given_20 ?_
    obtain rfl := Option.some.inj h
    exact C_lret hx hb hr hlocks hw dX11_given_23
  · have h := of_if h c7
    refine lv_iload_n hx hb dX11_given_10 rfl (lv_at hl 2 rfl) ?_
    refine lv_iconst (v := 0) hx hb dX11_given_11 (by decide) ?_
    refine lv_ldc (v := 100000) hx hb hown (hts (.constant RX11 241 (100000)) (by decide +kernel)) dX11_given_12 ?_
    refine C_s (va_runS (As := [.int a2, .int (0 : Int32), .int (100000 : Int32)]) (rest := []) ⟨hx, hb, hml, hown, hts⟩ (cX11_isWithin_ok l a2 (0 : Int32) (100000 : Int32)) (va_cwS 3 hts gX11_given_X11_isWithin rfl rfl rfl (by decide +kernel) ⟨Nat.le_of_ble_eq_true rfl, Nat.le_of_ble_eq_true rfl⟩) ⟨fun a U g mk q => ⟨q.1, trivial⟩, fun U hU hW => ⟨rfl, trivial⟩⟩ rfl rfl hl.1 rfl (lv_room (Nat.le_of_ble_eq_true rfl)) dX11_given_14 ⟨Nat.le_refl _, Nat.le_refl _⟩) (fun r14 er14 => ?_)
    have h := of_bnd h er14
    refine lv_if_ne (tgt := 24) hx hb dX11_given_17 (by decide) (fun c17 => ?_) (fun c17 => ?_)
    · have h := of_if h c17
      refine lv_aload_n hx hb dX11_given_24 rfl (lv_at hl 0 rfl) ?_
      obtain ⟨hf1, h⟩ := of_grd h
      obtain ⟨b25, eb25, h⟩ := of_onn h
      refine C_get hx hb hts hinX11 hown hK hw (cell_12 hf1) (by omega) rfl 1 (by decide) (index := 16) (by decide +kernel) rfl (v := .ref b25) (congrArg (fun o => some (va_rf o)) eb25) dX11_given_25 ?_
      refine lv_iload_n hx hb dX11_given_28 rfl (lv_at hl 1 rfl) ?_
      refine lv_iload_n hx hb dX11_given_29 rfl (lv_at hl 2 rfl) ?_
      obtain ⟨hf2, h⟩ := of_grd h
      obtain ⟨q30, hq30, h⟩ := of_cal h
      refine C_l hA hw (va_runV (As := [.int a1, .int a2]) (rest := []) ⟨hx, hb, hml, hown, hts⟩ (cX7_givenBy_ok l D cc E n S b25 a1 a2 hq30) (cwV 2 hts gX11_given_X7_givenBy rfl rfl rfl (by decide +kernel) ⟨Nat.le_of_ble_eq_true rfl, Nat.le_of_ble_eq_true rfl⟩) ⟨cBlind D cc E S _, C_recv hK hw (by omega) (cell_8 hf2) (r := (RX7, TX7, 2)) rfl, fun U hU hW => ⟨rfl, C_pre hA hK hro hw U hU hW⟩⟩ rfl rfl hl.1 rfl (lv_room (Nat.le_of_ble_eq_true rfl)) dX11_given_30 ⟨Nat.le_refl _, Nat.le_refl _⟩) (fun H locs hw => ?_)
      refine W.widen (k := 0) (n := 0) (Nat.le_refl _) (Nat.le_refl _) ?_
      obtain rfl := Option.some.inj h
      exact C_lret hx hb hr hlocks hw dX11_given_33
    · have h := of_it h c17
      refine lv_ldc2 (v := -1) hx hb hown (hts (.constantLong RX11 250 (-1)) (by decide +kernel)) dX11_given_20 ?_
      obtain rfl := Option.some.inj h
      exact C_lret hx hb hr hlocks hw dX11_given_23

def fX11_led (n : Nat × Nat) (S : CS) (a0 : Nat) (a1 : Int32) (a2 : Int32) : Option Int64 :=
  grd (cD S a0 = 12) (cal (fX11_findFamily n S a0 a2) (fun q2 => oel q2 (some (-1 : Int64)) (fun b7 => bnd (fX11_isWithin a1 (0 : Int32) (19 : Int32)) (fun r14 => if r14 = 0 then 
      some (-1 : Int64)
      else grd (cD S b7 = 1) (onn (cR S 22 b7) (fun b27 => grd (cD S b27 = 41) (grd (¬ (a1 < 0 ∨ cN S b27 ≤ a1.toNatClampNeg)) (bnd (cA S 41 b27 a1.toNatClampNeg) (fun v31 => some v31.toInt64)))))))))
set_option maxHeartbeats 8000000 in
set_option maxRecDepth 100000 in
theorem cX11_led_ok (l : Launch) (D : va_G) (cc : Nat → ClassId) (E : Nat → Nat) (n : Nat × Nat) (S : CS) (a0 : Nat) (a1 : Int32) (a2 : Int32) {r : Int64} (h : fX11_led n S a0 a1 a2 = some r) : Cl l yX11_led wsX11_led 4 85 D cc E [.ref a0, .int a1, .int a2] S r S 0 0 := by
  refine C_of (own := RX11) (bb := cX11_led) (nL := 4) (ret := (some .long)) (by decide) rfl rfl (Nat.le_of_ble_eq_true rfl) ?_
  intro p e s m args below meth c hx hb hr hlocks hml hts hown hnm hA hK hro hw ls hl
  generalize va_A (cPs cc S) (nx S) = A at hA hro hw ⊢
  unfold fX11_led at h
  have hinX0 : ∀ w ∈ wsX00, w ∈ wsX11_led := by decide +kernel
  have hl : lv_has ls 4 [(0, .ref a0), (1, .int a1), (2, .int a2)] := hl
  refine lv_aload_n hx hb dX11_led_0 rfl (lv_at hl 0 rfl) ?_
  refine lv_iload_n hx hb dX11_led_1 rfl (lv_at hl 2 rfl) ?_
  obtain ⟨hf1, h⟩ := of_grd h
  obtain ⟨q2, hq2, h⟩ := of_cal h
  refine C_q hA hw (va_runV (As := [.int a2]) (rest := []) ⟨hx, hb, hml, hown, hts⟩ (cX11_findFamily_ok l D cc E n S a0 a2 hq2) (cwV 1 hts gX11_led_X11_findFamily rfl rfl rfl (by decide +kernel) ⟨Nat.le_of_ble_eq_true rfl, Nat.le_of_ble_eq_true rfl⟩) ⟨cBlind D cc E S _, C_recv hK hw (by omega) (cell_12 hf1) (r := (RX11, TX11, 12)) rfl, fun U hU hW => ⟨rfl, C_pre hA hK hro hw U hU hW⟩⟩ rfl rfl hl.1 rfl (lv_room (Nat.le_of_ble_eq_true rfl)) dX11_led_2 ⟨Nat.le_refl _, Nat.le_refl _⟩) (fun H locs hw => ?_)
  refine W.widen (k := 0) (n := 0) (Nat.le_refl _) (Nat.le_refl _) ?_
  refine lv_astore_nq (lv' := [(3, va_rf q2), (0, .ref a0), (1, .int a1), (2, .int a2)]) hx hb dX11_led_5 rfl hl (by decide) rfl (fun ls hl => ?_)
  refine lv_aload_nq hx hb dX11_led_6 rfl (lv_at hl 0 rfl) ?_
  rcases q2 with _ | b7
  · have h := of_oelN h
    have hl : lv_has ls 4 [(3, .null), (0, .ref a0), (1, .int a1), (2, .int a2)] := hl
    refine lv_ifnullN (tgt := 20) hx hb dX11_led_7 (by decide) ?_
    refine lv_ldc2 (v := -1) hx hb hown (hts (.constantLong RX11 250 (-1)) (by decide +kernel)) dX11_led_20 ?_
    refine lv_goto (tgt := 33) hx hb dX11_led_23 (by decide) ?_
    obtain rfl := Option.some.inj h
    exact C_lret hx hb hr hlocks hw dX11_led_33
  · have h := of_oelS h
    have hl : lv_has ls 4 [(3, .ref b7), (0, .ref a0), (1, .int a1), (2, .int a2)] := hl
    refine lv_ifnull hx hb dX11_led_7 ?_
    refine lv_iload_n hx hb dX11_led_10 rfl (lv_at hl 2 rfl) ?_
    refine lv_iconst (v := 0) hx hb dX11_led_11 (by decide) ?_
    refine lv_bipush (v := 19) hx hb dX11_led_12 (by decide) ?_
    refine C_s (va_runS (As := [.int a1, .int (0 : Int32), .int (19 : Int32)]) (rest := []) ⟨hx, hb, hml, hown, hts⟩ (cX11_isWithin_ok l a1 (0 : Int32) (19 : Int32)) (va_cwS 3 hts gX11_led_X11_isWithin rfl rfl rfl (by decide +kernel) ⟨Nat.le_of_ble_eq_true rfl, Nat.le_of_ble_eq_true rfl⟩) ⟨fun a U g mk q => ⟨q.1, trivial⟩, fun U hU hW => ⟨rfl, trivial⟩⟩ rfl rfl hl.1 rfl (lv_room (Nat.le_of_ble_eq_true rfl)) dX11_led_14 ⟨Nat.le_refl _, Nat.le_refl _⟩) (fun r14 er14 => ?_)
    have h := of_bnd h er14
    refine lv_if_ne (tgt := 26) hx hb dX11_led_17 (by decide) (fun c17 => ?_) (fun c17 => ?_)
    · have h := of_if h c17
      refine lv_aload_n hx hb dX11_led_26 rfl (lv_at hl 0 rfl) ?_
      obtain ⟨hf2, h⟩ := of_grd h
      obtain ⟨b27, eb27, h⟩ := of_onn h
      refine C_get hx hb hts hinX0 hown hK hw (cell_1 hf2) (by omega) rfl 2 (by decide) (index := 256) (by decide +kernel) rfl (v := .ref b27) (congrArg (fun o => some (va_rf o)) eb27) dX11_led_27 ?_
      refine lv_iload_n hx hb dX11_led_30 rfl (lv_at hl 2 rfl) ?_
      obtain ⟨hf3, h⟩ := of_grd h
      obtain ⟨hi31, h⟩ := of_grd h
      refine C_iald hx hb hK hw hf3 (by decide) (by decide) hi31 dX11_led_31 ?_
      refine lv_topi (fun v31 ev31 => ?_)
      have h := of_bnd h ev31
      refine lv_i2l hx hb dX11_led_32 rfl ?_
      obtain rfl := Option.some.inj h
      exact C_lret hx hb hr hlocks hw dX11_led_33
    · have h := of_it h c17
      refine lv_ldc2 (v := -1) hx hb hown (hts (.constantLong RX11 250 (-1)) (by decide +kernel)) dX11_led_20 ?_
      refine lv_goto (tgt := 33) hx hb dX11_led_23 (by decide) ?_
      obtain rfl := Option.some.inj h
      exact C_lret hx hb hr hlocks hw dX11_led_33

def fX11_shortInAllParcels_lp4 (n : Nat × Nat) (S : CS) (f0 : Nat) : Nat → Int64 → Int32 → Option (Int64)
  | 0, _, _ => none
  | k + 1, l1, l3 =>
    grd (cD S f0 = 12) (onn (cR S 244 f0) (fun b6 => grd (cD S b6 = 23) (cal (fL_size n 3 S b6) (fun q9 => if q9 ≤ l3 then 
        some l1
        else onn (cR S 244 f0) (fun b17 => grd (cD S b17 = 23) (cal (fL_get n 3 S b17 l3) (fun q21 => onn q21 (fun b24 => grd (cD S b24 = 4) (bnd (cI S 84 b24) (fun v27 => bnd (l1 + v27.toInt64) (fun x32 => bnd (l3 + 1) (fun x33 => fX11_shortInAllParcels_lp4 n S f0 k x32 x33 ))))))))))))
def fX11_shortInAllParcels (n : Nat × Nat) (S : CS) (a0 : Nat) : Option Int64 :=
  bnd (0 : Int64) (fun x1 => bnd (0 : Int32) (fun x3 => cal (fX11_shortInAllParcels_lp4 n S a0 n.1 x1 x3 ) (fun t1_4 => some t1_4)))
set_option maxHeartbeats 8000000 in
set_option maxRecDepth 100000 in
theorem cX11_shortInAllParcels_ok (l : Launch) (D : va_G) (cc : Nat → ClassId) (E : Nat → Nat) (n : Nat × Nat) (S : CS) (a0 : Nat) {r : Int64} (h : fX11_shortInAllParcels n S a0 = some r) : Cl l yX11_shortInAllParcels wsX11_shortInAllParcels 3 64 D cc E [.ref a0] S r S 0 0 := by
  refine C_of (own := RX11) (bb := cX11_shortInAllParcels) (nL := 4) (ret := (some .long)) (by decide) rfl rfl (Nat.le_of_ble_eq_true rfl) ?_
  intro p e s m args below meth c hx hb hr hlocks hml hts hown hnm hA hK hro hw ls hl
  generalize va_A (cPs cc S) (nx S) = A at hA hro hw ⊢
  unfold fX11_shortInAllParcels at h
  have hinX11 : ∀ w ∈ wsX110, w ∈ wsX11_shortInAllParcels := by decide +kernel
  have hinX3 : ∀ w ∈ wsX30, w ∈ wsX11_shortInAllParcels := by decide +kernel
  have hl : lv_has ls 4 [(0, .ref a0)] := hl
  refine lv_lconst (v := 0) hx hb dX11_shortInAllParcels_0 (by decide) ?_
  refine lv_topl (fun x1 ex1 => ?_)
  have h := of_bnd h ex1
  refine lv_lstore_n (lv' := [(1, .long x1), (0, .ref a0)]) hx hb dX11_shortInAllParcels_1 rfl hl (by decide) rfl (fun ls hl => ?_)
  refine lv_iconst (v := 0) hx hb dX11_shortInAllParcels_2 (by decide) ?_
  refine lv_topi (fun x3 ex3 => ?_)
  have h := of_bnd h ex3
  refine lv_istore_n (lv' := [(3, .int x3), (1, .long x1), (0, .ref a0)]) hx hb dX11_shortInAllParcels_3 rfl hl (by decide) rfl (fun ls hl => ?_)
  have lp4 : ∀ (f0 : Nat) (S : CS) (k : Nat) (l1 : Int64) (l3 : Int32) (q : Int64) , fX11_shortInAllParcels_lp4 n S f0 k l1 l3  = some q → ∀ (H : Heap) (locs : List Loc), cWd D cc A s.heap S H locs → ∀ ls : Array Slot, lv_has ls 4 [(0, .ref f0), (1, .long l1), (3, .int l3)] → (∀ (t1 : Int64), t1 = q → ∀ (H : Heap) (locs : List Loc), cWd D cc A s.heap S H locs → ∀ ls : Array Slot, lv_has ls 4 [(1, .long t1)] → W p l e (cRm 3 64 0 0) s m args below meth c H locs (0) (0) (MQ below (va_Ql (fun x u => x = r ∧ u = S) (cAft D cc A) A) args s 0 0 A) (F0 m 39 ls [])) → W p l e (cRm 3 64 0 0) s m args below meth c H locs (0) (0) (MQ below (va_Ql (fun x u => x = r ∧ u = S) (cAft D cc A) A) args s 0 0 A) (F0 m 4 ls []) := by
    intro f0 S k
    induction k with
    | zero => intro l1 l3 q h; rw [fX11_shortInAllParcels_lp4] at h; cases h
    | succ k ih4 =>
      intro l1 l3 q h H locs hw ls hl kx4_0
      rw [fX11_shortInAllParcels_lp4] at h
      refine lv_iload_n hx hb dX11_shortInAllParcels_4 rfl (lv_at hl 2 rfl) ?_
      refine lv_aload_n hx hb dX11_shortInAllParcels_5 rfl (lv_at hl 0 rfl) ?_
      obtain ⟨hf1, h⟩ := of_grd h
      obtain ⟨b6, eb6, h⟩ := of_onn h
      refine C_get hx hb hts hinX11 hown hK hw (cell_12 hf1) (by omega) rfl 4 (by decide) (index := 30) (by decide +kernel) rfl (v := .ref b6) (congrArg (fun o => some (va_rf o)) eb6) dX11_shortInAllParcels_6 ?_
      obtain ⟨hf2, h⟩ := of_grd h
      obtain ⟨q9, hq9, h⟩ := of_cal h
      refine C_i hA hw (va_runV (As := []) (rest := [.int l3]) ⟨hx, hb, hml, hown, hts⟩ (cL_size_ok l D cc E n 3 (by decide) S b6 hq9) (cwV 0 hts gX11_shortInAllParcels_Jx4a65c_size_8abf5 rfl rfl rfl (by decide +kernel) ⟨Nat.le_of_ble_eq_true rfl, Nat.le_of_ble_eq_true rfl⟩) ⟨cBlind D cc E S _, C_recv hK hw (by omega) (cell_L (r := 3) (by decide) hf2) (r := (RJx4a65c, TJx4a65c, 3)) rfl, fun U hU hW => ⟨rfl, C_pre hA hK hro hw U hU hW⟩⟩ rfl rfl hl.1 rfl (lv_room (Nat.le_of_ble_eq_true rfl)) dX11_shortInAllParcels_9 ⟨Nat.le_refl _, Nat.le_refl _⟩) (fun H locs hw => ?_)
      refine W.widen (k := 0) (n := 0) (Nat.le_refl _) (Nat.le_refl _) ?_
      refine lv_icmp_ge (tgt := 39) hx hb dX11_shortInAllParcels_12 (by decide) (fun c12 => ?_) (fun c12 => ?_)
      · have h := of_it h c12
        exact kx4_0 l1 (Option.some.inj h) _ _ hw ls (lv_sub hl [1] rfl)
      · have h := of_if h c12
        refine lv_lload_n hx hb dX11_shortInAllParcels_15 rfl (lv_at hl 1 rfl) ?_
        refine lv_aload_n hx hb dX11_shortInAllParcels_16 rfl (lv_at hl 0 rfl) ?_
        obtain ⟨b17, eb17, h⟩ := of_onn h
        refine C_get hx hb hts hinX11 hown hK hw (cell_12 hf1) (by omega) rfl 4 (by decide) (index := 30) (by decide +kernel) rfl (v := .ref b17) (congrArg (fun o => some (va_rf o)) eb17) dX11_shortInAllParcels_17 ?_
        refine lv_iload_n hx hb dX11_shortInAllParcels_20 rfl (lv_at hl 2 rfl) ?_
        obtain ⟨hf3, h⟩ := of_grd h
        obtain ⟨q21, hq21, h⟩ := of_cal h
        refine C_q hA hw (va_runV (As := [.int l3]) (rest := [.long l1]) ⟨hx, hb, hml, hown, hts⟩ (cL_get_ok l D cc E n 3 (by decide) S b17 l3 hq21) (cwV 1 hts gX11_shortInAllParcels_Jx4a65c_get_915e3 rfl rfl rfl (by decide +kernel) ⟨Nat.le_of_ble_eq_true rfl, Nat.le_of_ble_eq_true rfl⟩) ⟨cBlind D cc E S _, C_recv hK hw (by omega) (cell_L (r := 3) (by decide) hf3) (r := (RJx4a65c, TJx4a65c, 3)) rfl, fun U hU hW => ⟨rfl, C_pre hA hK hro hw U hU hW⟩⟩ rfl rfl hl.1 rfl (lv_room (Nat.le_of_ble_eq_true rfl)) dX11_shortInAllParcels_21 ⟨Nat.le_refl _, Nat.le_refl _⟩) (fun H locs hw => ?_)
        refine W.widen (k := 0) (n := 0) (Nat.le_refl _) (Nat.le_refl _) ?_
        obtain ⟨b24, eb24, h⟩ := of_onn h
        subst eb24
        obtain ⟨hf4, h⟩ := of_grd h
        refine va_castE hx hb hown (hts (.classLink RX11 146 RX3) (by decide +kernel)) (C_recv hK hw (by omega) (cell_4 hf4) (r := (RX3, TX3, 5)) rfl) dX11_shortInAllParcels_24 ?_
        refine C_get hx hb hts hinX3 hown hK hw (cell_4 hf4) (by omega) rfl 4 (by decide) (index := 280) (by decide +kernel) rfl rfl dX11_shortInAllParcels_27 ?_
        refine lv_topi (fun v27 ev27 => ?_)
        have h := of_bnd h ev27
        refine lv_i2l hx hb dX11_shortInAllParcels_30 rfl ?_
        refine lv_ladd hx hb dX11_shortInAllParcels_31 ?_
        refine lv_topl (fun x32 ex32 => ?_)
        have h := of_bnd h ex32
        refine lv_lstore_n (lv' := [(1, .long x32), (0, .ref f0), (3, .int l3)]) hx hb dX11_shortInAllParcels_32 rfl hl (by decide) rfl (fun ls hl => ?_)
        obtain ⟨x33, ex33⟩ : ∃ y : Int32, y = l3 + 1 := ⟨_, rfl⟩
        have h := of_bnd h ex33
        refine lv_iinc (v := x33) (lv' := [(3, .int x33), (1, .long x32), (0, .ref f0)]) hx hb dX11_shortInAllParcels_33 hl (k := 2) rfl (by rw [ex33]; rfl) (by decide) rfl (fun ls hl => ?_)
        refine lv_goto (tgt := 4) hx hb dX11_shortInAllParcels_36 (by decide) ?_
        exact ih4 x32 x33 _ h _ _ hw ls (lv_sub hl [2, 1, 0] rfl) kx4_0
  obtain ⟨q4, hq4, h⟩ := of_cal h
  refine lp4 a0 S n.1 x1 x3 q4  hq4 _ _ hw ls (lv_sub hl [2, 1, 0] rfl) ?_
  · intro t1_4 eq H locs hw ls hl
    subst eq
    refine lv_lload_n hx hb dX11_shortInAllParcels_39 rfl (lv_at hl 0 rfl) ?_
    obtain rfl := Option.some.inj h
    exact C_lret hx hb hr hlocks hw dX11_shortInAllParcels_40

def fX11_count (n : Nat × Nat) (S : CS) (a0 : Nat) (a1 : Int32) : Option Int64 :=
  bnd (fX11_isWithin a1 (20 : Int32) (29 : Int32)) (fun r5 => if r5 = 0 then 
    if a1 = 0 then grd (cD S a0 = 12) (bnd (cI S 248 a0) (fun v101 => some v101.toInt64)) else if a1 = 1 then grd (cD S a0 = 12) (onn (cR S 241 a0) (fun b107 => grd (cD S b107 = 8) (cal (fX7_size n S b107) (fun q110 => some q110.toInt64)))) else if a1 = 2 then grd (cD S a0 = 12) (onn (cR S 242 a0) (fun b116 => grd (cD S b116 = 21) (cal (fL_size n 1 S b116) (fun q119 => some q119.toInt64)))) else if a1 = 3 then grd (cD S a0 = 12) (onn (cR S 243 a0) (fun b125 => grd (cD S b125 = 22) (cal (fL_size n 2 S b125) (fun q128 => some q128.toInt64)))) else if a1 = 4 then grd (cD S a0 = 12) (bnd (cI S 249 a0) (fun v134 => some v134.toInt64)) else if a1 = 5 then grd (cD S a0 = 12) (onn (cR S 244 a0) (fun b140 => grd (cD S b140 = 23) (cal (fL_size n 3 S b140) (fun q143 => some q143.toInt64)))) else if a1 = 6 then grd (cD S a0 = 12) (onn (cR S 247 a0) (fun b149 => grd (cD S b149 = 7) (bnd (cI S 144 b149) (fun v152 => some v152.toInt64)))) else if a1 = 7 then grd (cD S a0 = 12) (bnd (cI S 250 a0) (fun v158 => some v158.toInt64)) else if a1 = 8 then grd (cD S a0 = 12) (onn (cR S 241 a0) (fun b164 => grd (cD S b164 = 8) (cal (fX7_sumOver n S b164 (1 : Int32)) (fun q168 => some q168)))) else if a1 = 9 then grd (cD S a0 = 12) (onn (cR S 241 a0) (fun b173 => grd (cD S b173 = 8) (cal (fX7_sumOver n S b173 (4 : Int32)) (fun q177 => some q177)))) else if a1 = 10 then grd (cD S a0 = 12) (onn (cR S 241 a0) (fun b182 => grd (cD S b182 = 8) (cal (fX7_sumOver n S b182 (5 : Int32)) (fun q186 => some q186)))) else if a1 = 11 then grd (cD S a0 = 12) (onn (cR S 241 a0) (fun b191 => grd (cD S b191 = 8) (cal (fX7_sumOver n S b191 (6 : Int32)) (fun q196 => some q196)))) else if a1 = 12 then grd (cD S a0 = 12) (onn (cR S 241 a0) (fun b201 => grd (cD S b201 = 8) (cal (fX7_sumOver n S b201 (7 : Int32)) (fun q206 => some q206)))) else if a1 = 13 then grd (cD S a0 = 12) (cal (fX11_shortInAllParcels n S a0) (fun q211 => some q211)) else if a1 = 14 then grd (cD S a0 = 12) (onn (cR S 245 a0) (fun b216 => grd (cD S b216 = 6) (bnd (cI S 124 b216) (fun v219 => some v219.toInt64)))) else some (-1 : Int64)
    else grd (cD S a0 = 12) (onn (cR S 241 a0) (fun b12 => grd (cD S b12 = 8) (cal (fX7_leftOfKind n S b12 (a1 - (20 : Int32))) (fun q19 => some q19)))))
set_option maxHeartbeats 8000000 in
set_option maxRecDepth 100000 in
theorem cX11_count_ok (l : Launch) (D : va_G) (cc : Nat → ClassId) (E : Nat → Nat) (n : Nat × Nat) (S : CS) (a0 : Nat) (a1 : Int32) {r : Int64} (h : fX11_count n S a0 a1 = some r) : Cl l yX11_count wsX11_count 4 88 D cc E [.ref a0, .int a1] S r S 0 0 := by
  refine C_of (own := RX11) (bb := cX11_count) (nL := 2) (ret := (some .long)) (by decide) rfl rfl (Nat.le_of_ble_eq_true rfl) ?_
  intro p e s m args below meth c hx hb hr hlocks hml hts hown hnm hA hK hro hw ls hl
  generalize va_A (cPs cc S) (nx S) = A at hA hro hw ⊢
  unfold fX11_count at h
  have hinX11 : ∀ w ∈ wsX110, w ∈ wsX11_count := by decide +kernel
  have hinX5 : ∀ w ∈ wsX50, w ∈ wsX11_count := by decide +kernel
  have hinX6 : ∀ w ∈ wsX60, w ∈ wsX11_count := by decide +kernel
  have hl : lv_has ls 2 [(0, .ref a0), (1, .int a1)] := hl
  refine lv_iload_n hx hb dX11_count_0 rfl (lv_at hl 1 rfl) ?_
  refine lv_bipush (v := 20) hx hb dX11_count_1 (by decide) ?_
  refine lv_bipush (v := 29) hx hb dX11_count_3 (by decide) ?_
  refine C_s (va_runS (As := [.int a1, .int (20 : Int32), .int (29 : Int32)]) (rest := []) ⟨hx, hb, hml, hown, hts⟩ (cX11_isWithin_ok l a1 (20 : Int32) (29 : Int32)) (va_cwS 3 hts gX11_count_X11_isWithin rfl rfl rfl (by decide +kernel) ⟨Nat.le_of_ble_eq_true rfl, Nat.le_of_ble_eq_true rfl⟩) ⟨fun a U g mk q => ⟨q.1, trivial⟩, fun U hU hW => ⟨rfl, trivial⟩⟩ rfl rfl hl.1 rfl (lv_room (Nat.le_of_ble_eq_true rfl)) dX11_count_5 ⟨Nat.le_refl _, Nat.le_refl _⟩) (fun r5 er5 => ?_)
  have h := of_bnd h er5
  refine lv_if_eq (tgt := 23) hx hb dX11_count_8 (by decide) (fun c8 => ?_) (fun c8 => ?_)
  · have h := of_it h c8
    refine lv_iload_n hx hb dX11_count_23 rfl (lv_at hl 1 rfl) ?_
    by_cases c24_0 : a1 = 0
    · have h := of_it h c24_0
      refine lv_tableIn (tgt := 100) hx hb dX11_count_24 (by rw [c24_0]; decide) (by rw [c24_0]; decide) (by rw [c24_0]; rfl) (by decide) ?_
      refine lv_aload_n hx hb dX11_count_100 rfl (lv_at hl 0 rfl) ?_
      obtain ⟨hf1, h⟩ := of_grd h
      refine C_get hx hb hts hinX11 hown hK hw (cell_12 hf1) (by omega) rfl 8 (by decide) (index := 54) (by decide +kernel) rfl rfl dX11_count_101 ?_
      refine lv_topi (fun v101 ev101 => ?_)
      have h := of_bnd h ev101
      refine lv_i2l hx hb dX11_count_104 rfl ?_
      obtain rfl := Option.some.inj h
      exact C_lret hx hb hr hlocks hw dX11_count_105
    have h := of_if h c24_0
    by_cases c24_1 : a1 = 1
    · have h := of_it h c24_1
      refine lv_tableIn (tgt := 106) hx hb dX11_count_24 (by rw [c24_1]; decide) (by rw [c24_1]; decide) (by rw [c24_1]; rfl) (by decide) ?_
      refine lv_aload_n hx hb dX11_count_106 rfl (lv_at hl 0 rfl) ?_
      obtain ⟨hf2, h⟩ := of_grd h
      obtain ⟨b107, eb107, h⟩ := of_onn h
      refine C_get hx hb hts hinX11 hown hK hw (cell_12 hf2) (by omega) rfl 1 (by decide) (index := 16) (by decide +kernel) rfl (v := .ref b107) (congrArg (fun o => some (va_rf o)) eb107) dX11_count_107 ?_
      obtain ⟨hf3, h⟩ := of_grd h
      obtain ⟨q110, hq110, h⟩ := of_cal h
      refine C_i hA hw (va_runV (As := []) (rest := []) ⟨hx, hb, hml, hown, hts⟩ (cX7_size_ok l D cc E n S b107 hq110) (cwV 0 hts gX11_count_X7_size rfl rfl rfl (by decide +kernel) ⟨Nat.le_of_ble_eq_true rfl, Nat.le_of_ble_eq_true rfl⟩) ⟨cBlind D cc E S _, C_recv hK hw (by omega) (cell_8 hf3) (r := (RX7, TX7, 2)) rfl, fun U hU hW => ⟨rfl, C_pre hA hK hro hw U hU hW⟩⟩ rfl rfl hl.1 rfl (lv_room (Nat.le_of_ble_eq_true rfl)) dX11_count_110 ⟨Nat.le_refl _, Nat.le_refl _⟩) (fun H locs hw => ?_)
      refine W.widen (k := 0) (n := 0) (Nat.le_refl _) (Nat.le_refl _) ?_
      refine lv_i2l hx hb dX11_count_113 rfl ?_
      obtain rfl := Option.some.inj h
      exact C_lret hx hb hr hlocks hw dX11_count_114
    have h := of_if h c24_1
    by_cases c24_2 : a1 = 2
    · have h := of_it h c24_2
      refine lv_tableIn (tgt := 115) hx hb dX11_count_24 (by rw [c24_2]; decide) (by rw [c24_2]; decide) (by rw [c24_2]; rfl) (by decide) ?_
      refine lv_aload_n hx hb dX11_count_115 rfl (lv_at hl 0 rfl) ?_
      obtain ⟨hf4, h⟩ := of_grd h
      obtain ⟨b116, eb116, h⟩ := of_onn h
      refine C_get hx hb hts hinX11 hown hK hw (cell_12 hf4) (by omega) rfl 2 (by decide) (index := 23) (by decide +kernel) rfl (v := .ref b116) (congrArg (fun o => some (va_rf o)) eb116) dX11_count_116 ?_
      obtain ⟨hf5, h⟩ := of_grd h
      obtain ⟨q119, hq119, h⟩ := of_cal h
      refine C_i hA hw (va_runV (As := []) (rest := []) ⟨hx, hb, hml, hown, hts⟩ (cL_size_ok l D cc E n 1 (by decide) S b116 hq119) (cwV 0 hts gX11_count_Jx4a65c_size_8abf5 rfl rfl rfl (by decide +kernel) ⟨Nat.le_of_ble_eq_true rfl, Nat.le_of_ble_eq_true rfl⟩) ⟨cBlind D cc E S _, C_recv hK hw (by omega) (cell_L (r := 1) (by decide) hf5) (r := (RJx4a65c, TJx4a65c, 3)) rfl, fun U hU hW => ⟨rfl, C_pre hA hK hro hw U hU hW⟩⟩ rfl rfl hl.1 rfl (lv_room (Nat.le_of_ble_eq_true rfl)) dX11_count_119 ⟨Nat.le_refl _, Nat.le_refl _⟩) (fun H locs hw => ?_)
      refine W.widen (k := 0) (n := 0) (Nat.le_refl _) (Nat.le_refl _) ?_
      refine lv_i2l hx hb dX11_count_122 rfl ?_
      obtain rfl := Option.some.inj h
      exact C_lret hx hb hr hlocks hw dX11_count_123
    have h := of_if h c24_2
    by_cases c24_3 : a1 = 3
    · have h := of_it h c24_3
      refine lv_tableIn (tgt := 124) hx hb dX11_count_24 (by rw [c24_3]; decide) (by rw [c24_3]; decide) (by rw [c24_3]; rfl) (by decide) ?_
      refine lv_aload_n hx hb dX11_count_124 rfl (lv_at hl 0 rfl) ?_
      obtain ⟨hf6, h⟩ := of_grd h
      obtain ⟨b125, eb125, h⟩ := of_onn h
      refine C_get hx hb hts hinX11 hown hK hw (cell_12 hf6) (by omega) rfl 3 (by decide) (index := 27) (by decide +kernel) rfl (v := .ref b125) (congrArg (fun o => some (va_rf o)) eb125) dX11_count_125 ?_
      obtain ⟨hf7, h⟩ := of_grd h
      obtain ⟨q128, hq128, h⟩ := of_cal h
      refine C_i hA hw (va_runV (As := []) (rest := []) ⟨hx, hb, hml, hown, hts⟩ (cL_size_ok l D cc E n 2 (by decide) S b125 hq128) (cwV 0 hts gX11_count_Jx4a65c_size_8abf5 rfl rfl rfl (by decide +kernel) ⟨Nat.le_of_ble_eq_true rfl, Nat.le_of_ble_eq_true rfl⟩) ⟨cBlind D cc E S _, C_recv hK hw (by omega) (cell_L (r := 2) (by decide) hf7) (r := (RJx4a65c, TJx4a65c, 3)) rfl, fun U hU hW => ⟨rfl, C_pre hA hK hro hw U hU hW⟩⟩ rfl rfl hl.1 rfl (lv_room (Nat.le_of_ble_eq_true rfl)) dX11_count_128 ⟨Nat.le_refl _, Nat.le_refl _⟩) (fun H locs hw => ?_)
      refine W.widen (k := 0) (n := 0) (Nat.le_refl _) (Nat.le_refl _) ?_
      refine lv_i2l hx hb dX11_count_131 rfl ?_
      obtain rfl := Option.some.inj h
      exact C_lret hx hb hr hlocks hw dX11_count_132
    have h := of_if h c24_3
    by_cases c24_4 : a1 = 4
    · have h := of_it h c24_4
      refine lv_tableIn (tgt := 133) hx hb dX11_count_24 (by rw [c24_4]; decide) (by rw [c24_4]; decide) (by rw [c24_4]; rfl) (by decide) ?_
      refine lv_aload_n hx hb dX11_count_133 rfl (lv_at hl 0 rfl) ?_
      obtain ⟨hf8, h⟩ := of_grd h
      refine C_get hx hb hts hinX11 hown hK hw (cell_12 hf8) (by omega) rfl 9 (by decide) (index := 58) (by decide +kernel) rfl rfl dX11_count_134 ?_
      refine lv_topi (fun v134 ev134 => ?_)
      have h := of_bnd h ev134
      refine lv_i2l hx hb dX11_count_137 rfl ?_
      obtain rfl := Option.some.inj h
      exact C_lret hx hb hr hlocks hw dX11_count_138
    have h := of_if h c24_4
    by_cases c24_5 : a1 = 5
    · have h := of_it h c24_5
      refine lv_tableIn (tgt := 139) hx hb dX11_count_24 (by rw [c24_5]; decide) (by rw [c24_5]; decide) (by rw [c24_5]; rfl) (by decide) ?_
      refine lv_aload_n hx hb dX11_count_139 rfl (lv_at hl 0 rfl) ?_
      obtain ⟨hf9, h⟩ := of_grd h
      obtain ⟨b140, eb140, h⟩ := of_onn h
      refine C_get hx hb hts hinX11 hown hK hw (cell_12 hf9) (by omega) rfl 4 (by decide) (index := 30) (by decide +kernel) rfl (v := .ref b140) (congrArg (fun o => some (va_rf o)) eb140) dX11_count_140 ?_
      obtain ⟨hf10, h⟩ := of_grd h
      obtain ⟨q143, hq143, h⟩ := of_cal h
      refine C_i hA hw (va_runV (As := []) (rest := []) ⟨hx, hb, hml, hown, hts⟩ (cL_size_ok l D cc E n 3 (by decide) S b140 hq143) (cwV 0 hts gX11_count_Jx4a65c_size_8abf5 rfl rfl rfl (by decide +kernel) ⟨Nat.le_of_ble_eq_true rfl, Nat.le_of_ble_eq_true rfl⟩) ⟨cBlind D cc E S _, C_recv hK hw (by omega) (cell_L (r := 3) (by decide) hf10) (r := (RJx4a65c, TJx4a65c, 3)) rfl, fun U hU hW => ⟨rfl, C_pre hA hK hro hw U hU hW⟩⟩ rfl rfl hl.1 rfl (lv_room (Nat.le_of_ble_eq_true rfl)) dX11_count_143 ⟨Nat.le_refl _, Nat.le_refl _⟩) (fun H locs hw => ?_)
      refine W.widen (k := 0) (n := 0) (Nat.le_refl _) (Nat.le_refl _) ?_
      refine lv_i2l hx hb dX11_count_146 rfl ?_
      obtain rfl := Option.some.inj h
      exact C_lret hx hb hr hlocks hw dX11_count_147
    have h := of_if h c24_5
    by_cases c24_6 : a1 = 6
    · have h := of_it h c24_6
      refine lv_tableIn (tgt := 148) hx hb dX11_count_24 (by rw [c24_6]; decide) (by rw [c24_6]; decide) (by rw [c24_6]; rfl) (by decide) ?_
      refine lv_aload_n hx hb dX11_count_148 rfl (lv_at hl 0 rfl) ?_
      obtain ⟨hf11, h⟩ := of_grd h
      obtain ⟨b149, eb149, h⟩ := of_onn h
      refine C_get hx hb hts hinX11 hown hK hw (cell_12 hf11) (by omega) rfl 7 (by decide) (index := 50) (by decide +kernel) rfl (v := .ref b149) (congrArg (fun o => some (va_rf o)) eb149) dX11_count_149 ?_
      obtain ⟨hf12, h⟩ := of_grd h
      refine C_get hx hb hts hinX6 hown hK hw (cell_7 hf12) (by omega) rfl 4 (by decide) (index := 236) (by decide +kernel) rfl rfl dX11_count_152 ?_
      refine lv_topi (fun v152 ev152 => ?_)
      have h := of_bnd h ev152
      refine lv_i2l hx hb dX11_count_155 rfl ?_
      obtain rfl := Option.some.inj h
      exact C_lret hx hb hr hlocks hw dX11_count_156
    have h := of_if h c24_6
    by_cases c24_7 : a1 = 7
    · have h := of_it h c24_7
      refine lv_tableIn (tgt := 157) hx hb dX11_count_24 (by rw [c24_7]; decide) (by rw [c24_7]; decide) (by rw [c24_7]; rfl) (by decide) ?_
      refine lv_aload_n hx hb dX11_count_157 rfl (lv_at hl 0 rfl) ?_
      obtain ⟨hf13, h⟩ := of_grd h
      refine C_get hx hb hts hinX11 hown hK hw (cell_12 hf13) (by omega) rfl 10 (by decide) (index := 61) (by decide +kernel) rfl rfl dX11_count_158 ?_
      refine lv_topi (fun v158 ev158 => ?_)
      have h := of_bnd h ev158
      refine lv_i2l hx hb dX11_count_161 rfl ?_
      obtain rfl := Option.some.inj h
      exact C_lret hx hb hr hlocks hw dX11_count_162
    have h := of_if h c24_7
    by_cases c24_8 : a1 = 8
    · have h := of_it h c24_8
      refine lv_tableIn (tgt := 163) hx hb dX11_count_24 (by rw [c24_8]; decide) (by rw [c24_8]; decide) (by rw [c24_8]; rfl) (by decide) ?_
      refine lv_aload_n hx hb dX11_count_163 rfl (lv_at hl 0 rfl) ?_
      obtain ⟨hf14, h⟩ := of_grd h
      obtain ⟨b164, eb164, h⟩ := of_onn h
      refine C_get hx hb hts hinX11 hown hK hw (cell_12 hf14) (by omega) rfl 1 (by decide) (index := 16) (by decide +kernel) rfl (v := .ref b164) (congrArg (fun o => some (va_rf o)) eb164) dX11_count_164 ?_
      refine lv_iconst (v := 1) hx hb dX11_count_167 (by decide) ?_
      obtain ⟨hf15, h⟩ := of_grd h
      obtain ⟨q168, hq168, h⟩ := of_cal h
      refine C_l hA hw (va_runV (As := [.int (1 : Int32)]) (rest := []) ⟨hx, hb, hml, hown, hts⟩ (cX7_sumOver_ok l D cc E n S b164 (1 : Int32) hq168) (cwV 1 hts gX11_count_X7_sumOver rfl rfl rfl (by decide +kernel) ⟨Nat.le_of_ble_eq_true rfl, Nat.le_of_ble_eq_true rfl⟩) ⟨cBlind D cc E S _, C_recv hK hw (by omega) (cell_8 hf15) (r := (RX7, TX7, 2)) rfl, fun U hU hW => ⟨rfl, C_pre hA hK hro hw U hU hW⟩⟩ rfl rfl hl.1 rfl (lv_room (Nat.le_of_ble_eq_true rfl)) dX11_count_168 ⟨Nat.le_refl _, Nat.le_refl _⟩) (fun H locs hw => ?_)
      refine W.widen (k := 0) (n := 0) (Nat.le_refl _) (Nat.le_refl _) ?_
      obtain rfl := Option.some.inj h
      exact C_lret hx hb hr hlocks hw dX11_count_171
    have h := of_if h c24_8
    by_cases c24_9 : a1 = 9
    · have h := of_it h c24_9
      refine lv_tableIn (tgt := 172) hx hb dX11_count_24 (by rw [c24_9]; decide) (by rw [c24_9]; decide) (by rw [c24_9]; rfl) (by decide) ?_
      refine lv_aload_n hx hb dX11_count_172 rfl (lv_at hl 0 rfl) ?_
      obtain ⟨hf16, h⟩ := of_grd h
      obtain ⟨b173, eb173, h⟩ := of_onn h
      refine C_get hx hb hts hinX11 hown hK hw (cell_12 hf16) (by omega) rfl 1 (by decide) (index := 16) (by decide +kernel) rfl (v := .ref b173) (congrArg (fun o => some (va_rf o)) eb173) dX11_count_173 ?_
      refine lv_iconst (v := 4) hx hb dX11_count_176 (by decide) ?_
      obtain ⟨hf17, h⟩ := of_grd h
      obtain ⟨q177, hq177, h⟩ := of_cal h
      refine C_l hA hw (va_runV (As := [.int (4 : Int32)]) (rest := []) ⟨hx, hb, hml, hown, hts⟩ (cX7_sumOver_ok l D cc E n S b173 (4 : Int32) hq177) (cwV 1 hts gX11_count_X7_sumOver rfl rfl rfl (by decide +kernel) ⟨Nat.le_of_ble_eq_true rfl, Nat.le_of_ble_eq_true rfl⟩) ⟨cBlind D cc E S _, C_recv hK hw (by omega) (cell_8 hf17) (r := (RX7, TX7, 2)) rfl, fun U hU hW => ⟨rfl, C_pre hA hK hro hw U hU hW⟩⟩ rfl rfl hl.1 rfl (lv_room (Nat.le_of_ble_eq_true rfl)) dX11_count_177 ⟨Nat.le_refl _, Nat.le_refl _⟩) (fun H locs hw => ?_)
      refine W.widen (k := 0) (n := 0) (Nat.le_refl _) (Nat.le_refl _) ?_
      obtain rfl := Option.some.inj h
      exact C_lret hx hb hr hlocks hw dX11_count_180
    have h := of_if h c24_9
    by_cases c24_10 : a1 = 10
    · have h := of_it h c24_10
      refine lv_tableIn (tgt := 181) hx hb dX11_count_24 (by rw [c24_10]; decide) (by rw [c24_10]; decide) (by rw [c24_10]; rfl) (by decide) ?_
      refine lv_aload_n hx hb dX11_count_181 rfl (lv_at hl 0 rfl) ?_
      obtain ⟨hf18, h⟩ := of_grd h
      obtain ⟨b182, eb182, h⟩ := of_onn h
      refine C_get hx hb hts hinX11 hown hK hw (cell_12 hf18) (by omega) rfl 1 (by decide) (index := 16) (by decide +kernel) rfl (v := .ref b182) (congrArg (fun o => some (va_rf o)) eb182) dX11_count_182 ?_
      refine lv_iconst (v := 5) hx hb dX11_count_185 (by decide) ?_
      obtain ⟨hf19, h⟩ := of_grd h
      obtain ⟨q186, hq186, h⟩ := of_cal h
      refine C_l hA hw (va_runV (As := [.int (5 : Int32)]) (rest := []) ⟨hx, hb, hml, hown, hts⟩ (cX7_sumOver_ok l D cc E n S b182 (5 : Int32) hq186) (cwV 1 hts gX11_count_X7_sumOver rfl rfl rfl (by decide +kernel) ⟨Nat.le_of_ble_eq_true rfl, Nat.le_of_ble_eq_true rfl⟩) ⟨cBlind D cc E S _, C_recv hK hw (by omega) (cell_8 hf19) (r := (RX7, TX7, 2)) rfl, fun U hU hW => ⟨rfl, C_pre hA hK hro hw U hU hW⟩⟩ rfl rfl hl.1 rfl (lv_room (Nat.le_of_ble_eq_true rfl)) dX11_count_186 ⟨Nat.le_refl _, Nat.le_refl _⟩) (fun H locs hw => ?_)
      refine W.widen (k := 0) (n := 0) (Nat.le_refl _) (Nat.le_refl _) ?_
      obtain rfl := Option.some.inj h
      exact C_lret hx hb hr hlocks hw dX11_count_189
    have h := of_if h c24_10
    by_cases c24_11 : a1 = 11
    · have h := of_it h c24_11
      refine lv_tableIn (tgt := 190) hx hb dX11_count_24 (by rw [c24_11]; decide) (by rw [c24_11]; decide) (by rw [c24_11]; rfl) (by decide) ?_
      refine lv_aload_n hx hb dX11_count_190 rfl (lv_at hl 0 rfl) ?_
      obtain ⟨hf20, h⟩ := of_grd h
      obtain ⟨b191, eb191, h⟩ := of_onn h
      refine C_get hx hb hts hinX11 hown hK hw (cell_12 hf20) (by omega) rfl 1 (by decide) (index := 16) (by decide +kernel) rfl (v := .ref b191) (congrArg (fun o => some (va_rf o)) eb191) dX11_count_191 ?_
      refine lv_bipush (v := 6) hx hb dX11_count_194 (by decide) ?_
      obtain ⟨hf21, h⟩ := of_grd h
      obtain ⟨q196, hq196, h⟩ := of_cal h
      refine C_l hA hw (va_runV (As := [.int (6 : Int32)]) (rest := []) ⟨hx, hb, hml, hown, hts⟩ (cX7_sumOver_ok l D cc E n S b191 (6 : Int32) hq196) (cwV 1 hts gX11_count_X7_sumOver rfl rfl rfl (by decide +kernel) ⟨Nat.le_of_ble_eq_true rfl, Nat.le_of_ble_eq_true rfl⟩) ⟨cBlind D cc E S _, C_recv hK hw (by omega) (cell_8 hf21) (r := (RX7, TX7, 2)) rfl, fun U hU hW => ⟨rfl, C_pre hA hK hro hw U hU hW⟩⟩ rfl rfl hl.1 rfl (lv_room (Nat.le_of_ble_eq_true rfl)) dX11_count_196 ⟨Nat.le_refl _, Nat.le_refl _⟩) (fun H locs hw => ?_)
      refine W.widen (k := 0) (n := 0) (Nat.le_refl _) (Nat.le_refl _) ?_
      obtain rfl := Option.some.inj h
      exact C_lret hx hb hr hlocks hw dX11_count_199
    have h := of_if h c24_11
    by_cases c24_12 : a1 = 12
    · have h := of_it h c24_12
      refine lv_tableIn (tgt := 200) hx hb dX11_count_24 (by rw [c24_12]; decide) (by rw [c24_12]; decide) (by rw [c24_12]; rfl) (by decide) ?_
      refine lv_aload_n hx hb dX11_count_200 rfl (lv_at hl 0 rfl) ?_
      obtain ⟨hf22, h⟩ := of_grd h
      obtain ⟨b201, eb201, h⟩ := of_onn h
      refine C_get hx hb hts hinX11 hown hK hw (cell_12 hf22) (by omega) rfl 1 (by decide) (index := 16) (by decide +kernel) rfl (v := .ref b201) (congrArg (fun o => some (va_rf o)) eb201) dX11_count_201 ?_
      refine lv_bipush (v := 7) hx hb dX11_count_204 (by decide) ?_
      obtain ⟨hf23, h⟩ := of_grd h
      obtain ⟨q206, hq206, h⟩ := of_cal h
      refine C_l hA hw (va_runV (As := [.int (7 : Int32)]) (rest := []) ⟨hx, hb, hml, hown, hts⟩ (cX7_sumOver_ok l D cc E n S b201 (7 : Int32) hq206) (cwV 1 hts gX11_count_X7_sumOver rfl rfl rfl (by decide +kernel) ⟨Nat.le_of_ble_eq_true rfl, Nat.le_of_ble_eq_true rfl⟩) ⟨cBlind D cc E S _, C_recv hK hw (by omega) (cell_8 hf23) (r := (RX7, TX7, 2)) rfl, fun U hU hW => ⟨rfl, C_pre hA hK hro hw U hU hW⟩⟩ rfl rfl hl.1 rfl (lv_room (Nat.le_of_ble_eq_true rfl)) dX11_count_206 ⟨Nat.le_refl _, Nat.le_refl _⟩) (fun H locs hw => ?_)
      refine W.widen (k := 0) (n := 0) (Nat.le_refl _) (Nat.le_refl _) ?_
      obtain rfl := Option.some.inj h
      exact C_lret hx hb hr hlocks hw dX11_count_209
    have h := of_if h c24_12
    by_cases c24_13 : a1 = 13
    · have h := of_it h c24_13
      refine lv_tableIn (tgt := 210) hx hb dX11_count_24 (by rw [c24_13]; decide) (by rw [c24_13]; decide) (by rw [c24_13]; rfl) (by decide) ?_
      refine lv_aload_n hx hb dX11_count_210 rfl (lv_at hl 0 rfl) ?_
      obtain ⟨hf24, h⟩ := of_grd h
      obtain ⟨q211, hq211, h⟩ := of_cal h
      refine C_l hA hw (va_runV (As := []) (rest := []) ⟨hx, hb, hml, hown, hts⟩ (cX11_shortInAllParcels_ok l D cc E n S a0 hq211) (cwV 0 hts gX11_count_X11_shortInAllParcels rfl rfl rfl (by decide +kernel) ⟨Nat.le_of_ble_eq_true rfl, Nat.le_of_ble_eq_true rfl⟩) ⟨cBlind D cc E S _, C_recv hK hw (by omega) (cell_12 hf24) (r := (RX11, TX11, 12)) rfl, fun U hU hW => ⟨rfl, C_pre hA hK hro hw U hU hW⟩⟩ rfl rfl hl.1 rfl (lv_room (Nat.le_of_ble_eq_true rfl)) dX11_count_211 ⟨Nat.le_refl _, Nat.le_refl _⟩) (fun H locs hw => ?_)
      refine W.widen (k := 0) (n := 0) (Nat.le_refl _) (Nat.le_refl _) ?_
      obtain rfl := Option.some.inj h
      exact C_lret hx hb hr hlocks hw dX11_count_214
    have h := of_if h c24_13
    by_cases c24_14 : a1 = 14
    · have h := of_it h c24_14
      refine lv_tableIn (tgt := 215) hx hb dX11_count_24 (by rw [c24_14]; decide) (by rw [c24_14]; decide) (by rw [c24_14]; rfl) (by decide) ?_
      refine lv_aload_n hx hb dX11_count_215 rfl (lv_at hl 0 rfl) ?_
      obtain ⟨hf25, h⟩ := of_grd h
      obtain ⟨b216, eb216, h⟩ := of_onn h
      refine C_get hx hb hts hinX11 hown hK hw (cell_12 hf25) (by omega) rfl 5 (by decide) (index := 36) (by decide +kernel) rfl (v := .ref b216) (congrArg (fun o => some (va_rf o)) eb216) dX11_count_216 ?_
      obtain ⟨hf26, h⟩ := of_grd h
      refine C_get hx hb hts hinX5 hown hK hw (cell_6 hf26) (by omega) rfl 4 (by decide) (index := 219) (by decide +kernel) rfl rfl dX11_count_219 ?_
      refine lv_topi (fun v219 ev219 => ?_)
      have h := of_bnd h ev219
      refine lv_i2l hx hb dX11_count_222 rfl ?_
      obtain rfl := Option.some.inj h
      exact C_lret hx hb hr hlocks hw dX11_count_223
    have h := of_if h c24_14
    refine lv_tableOut (tgt := 224) hx hb dX11_count_24 ?_ (by decide) ?_
    · refine sw_out (0) (14) a1 (by decide) (fun k h1 h2 => ?_)
      have h3 : k = 0 ∨ k = 1 ∨ k = 2 ∨ k = 3 ∨ k = 4 ∨ k = 5 ∨ k = 6 ∨ k = 7 ∨ k = 8 ∨ k = 9 ∨ k = 10 ∨ k = 11 ∨ k = 12 ∨ k = 13 ∨ k = 14 := by omega
      rcases h3 with rfl | rfl | rfl | rfl | rfl | rfl | rfl | rfl | rfl | rfl | rfl | rfl | rfl | rfl | rfl <;> first | exact c24_0 | exact c24_1 | exact c24_2 | exact c24_3 | exact c24_4 | exact c24_5 | exact c24_6 | exact c24_7 | exact c24_8 | exact c24_9 | exact c24_10 | exact c24_11 | exact c24_12 | exact c24_13 | exact c24_14
    refine lv_ldc2 (v := -1) hx hb hown (hts (.constantLong RX11 250 (-1)) (by decide +kernel)) dX11_count_224 ?_
    obtain rfl := Option.some.inj h
    exact C_lret hx hb hr hlocks hw dX11_count_227
  · have h := of_if h c8
    refine lv_aload_n hx hb dX11_count_11 rfl (lv_at hl 0 rfl) ?_
    obtain ⟨hf27, h⟩ := of_grd h
    obtain ⟨b12, eb12, h⟩ := of_onn h
    refine C_get hx hb hts hinX11 hown hK hw (cell_12 hf27) (by omega) rfl 1 (by decide) (index := 16) (by decide +kernel) rfl (v := .ref b12) (congrArg (fun o => some (va_rf o)) eb12) dX11_count_12 ?_
    refine lv_iload_n hx hb dX11_count_15 rfl (lv_at hl 1 rfl) ?_
    refine lv_bipush (v := 20) hx hb dX11_count_16 (by decide) ?_
    refine lv_isub hx hb dX11_count_18 ?_
    obtain ⟨hf28, h⟩ := of_grd h
    obtain ⟨q19, hq19, h⟩ := of_cal h
    refine C_l hA hw (va_runV (As := [.int (a1 - (20 : Int32))]) (rest := []) ⟨hx, hb, hml, hown, hts⟩ (cX7_leftOfKind_ok l D cc E n S b12 (a1 - (20 : Int32)) hq19) (cwV 1 hts gX11_count_X7_leftOfKind rfl rfl rfl (by decide +kernel) ⟨Nat.le_of_ble_eq_true rfl, Nat.le_of_ble_eq_true rfl⟩) ⟨cBlind D cc E S _, C_recv hK hw (by omega) (cell_8 hf28) (r := (RX7, TX7, 2)) rfl, fun U hU hW => ⟨rfl, C_pre hA hK hro hw U hU hW⟩⟩ rfl rfl hl.1 rfl (lv_room (Nat.le_of_ble_eq_true rfl)) dX11_count_19 ⟨Nat.le_refl _, Nat.le_refl _⟩) (fun H locs hw => ?_)
    refine W.widen (k := 0) (n := 0) (Nat.le_refl _) (Nat.le_refl _) ?_
    obtain rfl := Option.some.inj h
    exact C_lret hx hb hr hlocks hw dX11_count_22

def fX11_status (n : Nat × Nat) (S : CS) (a0 : Nat) : Option Int32 :=
  grd (cD S a0 = 12) (bnd (cI S 251 a0) (fun v1 => some v1))
set_option maxHeartbeats 8000000 in
set_option maxRecDepth 100000 in
theorem cX11_status_ok (l : Launch) (D : va_G) (cc : Nat → ClassId) (E : Nat → Nat) (n : Nat × Nat) (S : CS) (a0 : Nat) {r : Int32} (h : fX11_status n S a0 = some r) : Ci l yX11_status wsX11_status 0 0 D cc E [.ref a0] S r S 0 0 := by
  refine C_of (own := RX11) (bb := cX11_status) (nL := 1) (ret := (some .int)) (by decide) rfl rfl (Nat.le_of_ble_eq_true rfl) ?_
  intro p e s m args below meth c hx hb hr hlocks hml hts hown hnm hA hK hro hw ls hl
  generalize va_A (cPs cc S) (nx S) = A at hA hro hw ⊢
  unfold fX11_status at h
  have hinX11 : ∀ w ∈ wsX110, w ∈ wsX11_status := by decide +kernel
  have hl : lv_has ls 1 [(0, .ref a0)] := hl
  refine lv_aload_n hx hb dX11_status_0 rfl (lv_at hl 0 rfl) ?_
  obtain ⟨hf1, h⟩ := of_grd h
  refine C_get hx hb hts hinX11 hown hK hw (cell_12 hf1) (by omega) rfl 11 (by decide) (index := 64) (by decide +kernel) rfl rfl dX11_status_1 ?_
  refine lv_topi (fun v1 ev1 => ?_)
  have h := of_bnd h ev1
  obtain rfl := Option.some.inj h
  exact C_iret hx hb hr hlocks hw (by rfl) dX11_status_4
