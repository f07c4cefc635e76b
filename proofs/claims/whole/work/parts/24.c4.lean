def fX9_isIn (a0 : Int32) (a1 : Int32) : Int32 :=
  if ((a0 >>> (a1 &&& 31)) &&& (1 : Int32)) = 0 then 
    (0 : Int32)
    else (1 : Int32)
theorem fX9_isIn_nar (a0 : Int32) (a1 : Int32) : narrow .boolean (.int (fX9_isIn a0 a1)) = .int (fX9_isIn a0 a1) := by
  unfold fX9_isIn
  (repeat' split) <;> rfl
set_option maxHeartbeats 8000000 in
set_option maxRecDepth 100000 in
theorem cX9_isIn_ok (l : Launch) (a0 : Int32) (a1 : Int32) : Si l yX9_isIn wsX9_isIn { frames := 0, cells := 0, slots := 0, locals := 0 } [.int a0, .int a1] (fun r => r = fX9_isIn a0 a1) := by
  obtain ⟨r, h⟩ : ∃ r, fX9_isIn a0 a1 = r := ⟨_, rfl⟩
  rw [h]
  refine Si_of (own := RX9) (cc := cX9_isIn) (nL := 2) (ret := (some .boolean)) (by decide) rfl rfl (Nat.le_of_ble_eq_true rfl) ?_
  intro p e s m args below meth c hx hb hr hlocks hml hts hown ls hl
  unfold fX9_isIn at h
  have hl : lv_has ls 2 [(0, .int a0), (1, .int a1)] := hl
  refine lv_iload_n hx hb dX9_isIn_0 rfl (lv_at hl 0 rfl) ?_
  refine lv_iload_n hx hb dX9_isIn_1 rfl (lv_at hl 1 rfl) ?_
  refine lv_ishr hx hb dX9_isIn_2 ?_
  refine lv_iconst (v := 1) hx hb dX9_isIn_3 (by decide) ?_
  refine lv_iand hx hb dX9_isIn_4 ?_
  refine lv_if_eq (tgt := 12) hx hb dX9_isIn_5 (by decide) (fun c5 => ?_) (fun c5 => ?_)
  · have h := of_it h c5
    refine lv_iconst (v := 0) hx hb dX9_isIn_12 (by decide) ?_
    exact S_iret (v := (0 : Int32)) hx hb hr hlocks dX9_isIn_13 (by first | rfl | decide) h
  · have h := of_if h c5
    refine lv_iconst (v := 1) hx hb dX9_isIn_8 (by decide) ?_
    refine lv_goto (tgt := 13) hx hb dX9_isIn_9 (by decide) ?_
    exact S_iret (v := (1 : Int32)) hx hb hr hlocks dX9_isIn_13 (by first | rfl | decide) h

def fX9_tellStop (n : Nat × Nat) (S : CS) (a0 : Nat) (a1 : Int32) : Option Int32 :=
  if a1 = (-1 : Int32) then 
    grd (cD S a0 = 10) (bnd (cI S 209 a0) (fun v6 => some v6))
    else grd (cD S a0 = 10) (bnd (cI S 209 a0) (fun v13 => bnd (fX11_isWithin a1 (0 : Int32) (v13 - (1 : Int32))) (fun r18 => if r18 = 0 then 
      some (-1 : Int32)
      else if (15 : Int32) ≤ a1 then 
        some (-1 : Int32)
        else onn (cR S 208 a0) (fun b31 => grd (cD S b31 = 54) (grd (¬ (a1 < 0 ∨ cN S b31 ≤ a1.toNatClampNeg)) (bnd (cA S 54 b31 a1.toNatClampNeg) (fun v35 => some v35)))))))
set_option maxHeartbeats 8000000 in
set_option maxRecDepth 100000 in
theorem cX9_tellStop_ok (l : Launch) (D : va_G) (cc : Nat → ClassId) (E : Nat → Nat) (n : Nat × Nat) (S : CS) (a0 : Nat) (a1 : Int32) {r : Int32} (h : fX9_tellStop n S a0 a1 = some r) : Ci l yX9_tellStop wsX9_tellStop 1 22 D cc E [.ref a0, .int a1] S r S 0 0 := by
  refine C_of (own := RX9) (bb := cX9_tellStop) (nL := 2) (ret := (some .int)) (by decide) rfl rfl (Nat.le_of_ble_eq_true rfl) ?_
  intro p e s m args below meth c hx hb hr hlocks hml hts hown hnm hA hK hro hw ls hl
  generalize va_A (cPs cc S) (nx S) = A at hA hro hw ⊢
  unfold fX9_tellStop at h
  have hinX9 : ∀ w ∈ wsX90, w ∈ wsX9_tellStop := by decide +kernel
  have hl : lv_has ls 2 [(0, .ref a0), (1, .int a1)] := hl
  refine lv_iload_n hx hb dX9_tellStop_0 rfl (lv_at hl 1 rfl) ?_
  refine lv_iconst (v := -1) hx hb dX9_tellStop_1 (by decide) ?_
  refine lv_icmp_ne (tgt := 10) hx hb dX9_tellStop_2 (by decide) (fun c2 => ?_) (fun c2 => ?_)
  · have h := of_if h c2
    refine lv_iload_n hx hb dX9_tellStop_10 rfl (lv_at hl 1 rfl) ?_
    refine lv_iconst (v := 0) hx hb dX9_tellStop_11 (by decide) ?_
    refine lv_aload_n hx hb dX9_tellStop_12 rfl (lv_at hl 0 rfl) ?_
    obtain ⟨hf1, h⟩ := of_grd h
    refine C_get hx hb hts hinX9 hown hK hw (cell_10 hf1) (by omega) rfl 9 (by decide) (index := 42) (by decide +kernel) rfl rfl dX9_tellStop_13 ?_
    refine lv_topi (fun v13 ev13 => ?_)
    have h := of_bnd h ev13
    refine lv_iconst (v := 1) hx hb dX9_tellStop_16 (by decide) ?_
    refine lv_isub hx hb dX9_tellStop_17 ?_
    refine C_s (va_runSN (As := [.int a1, .int (0 : Int32), .int (v13 - (1 : Int32))]) (rest := []) ⟨hx, hb, hml, hown, hts⟩ (cX11_isWithin_ok l a1 (0 : Int32) (v13 - (1 : Int32))) ⟨va_cnB 3 hts gX9_tellStop_X11_isWithin_n45 rfl rfl rfl (hro.1 (RX9, 45, yX11_isWithin) (by decide +kernel)) (hts (.initialized RX11) (by decide +kernel)) (by decide +kernel) ⟨Nat.le_of_ble_eq_true rfl, Nat.le_of_ble_eq_true rfl⟩, (hts (.static yX11_isWithin) (by decide +kernel)), trivial⟩ ⟨fun a U g mk q => ⟨q.1, trivial⟩, fun U hU hW => ⟨rfl, trivial⟩⟩ rfl rfl hl.1 rfl (lv_room (Nat.le_of_ble_eq_true rfl)) dX9_tellStop_18 ⟨Nat.le_refl _, Nat.le_refl _⟩) (fun r18 er18 => ?_)
    have h := of_bnd h er18
    refine lv_if_eq (tgt := 39) hx hb dX9_tellStop_21 (by decide) (fun c21 => ?_) (fun c21 => ?_)
    · have h := of_it h c21
      refine lv_iconst (v := -1) hx hb dX9_tellStop_39 (by decide) ?_
      obtain rfl := Option.some.inj h
      exact C_iret hx hb hr hlocks hw (by rfl) dX9_tellStop_40
    · have h := of_if h c21
      refine lv_iload_n hx hb dX9_tellStop_24 rfl (lv_at hl 1 rfl) ?_
      refine lv_bipush (v := 15) hx hb dX9_tellStop_25 (by decide) ?_
      refine lv_icmp_ge (tgt := 39) hx hb dX9_tellStop_27 (by decide) (fun c27 => ?_) (fun c27 => ?_)
      · have h := of_it h c27
        refine lv_iconst (v := -1) hx hb dX9_tellStop_39 (by decide) ?_
        obtain rfl := Option.some.inj h
        exact C_iret hx hb hr hlocks hw (by rfl) dX9_tellStop_40
      · have h := of_if h c27
        refine lv_aload_n hx hb dX9_tellStop_30 rfl (lv_at hl 0 rfl) ?_
        obtain ⟨b31, eb31, h⟩ := of_onn h
        refine C_get hx hb hts hinX9 hown hK hw (cell_10 hf1) (by omega) rfl 8 (by decide) (index := 39) (by decide +kernel) rfl (v := .ref b31) (congrArg (fun o => some (va_rf o)) eb31) dX9_tellStop_31 ?_
        refine lv_iload_n hx hb dX9_tellStop_34 rfl (lv_at hl 1 rfl) ?_
        obtain ⟨hf2, h⟩ := of_grd h
        obtain ⟨hi35, h⟩ := of_grd h
        refine C_iald hx hb hK hw hf2 (by decide) (by decide) hi35 dX9_tellStop_35 ?_
        refine lv_topi (fun v35 ev35 => ?_)
        have h := of_bnd h ev35
        refine lv_goto (tgt := 40) hx hb dX9_tellStop_36 (by decide) ?_
        obtain rfl := Option.some.inj h
        exact C_iret hx hb hr hlocks hw (by rfl) dX9_tellStop_40
  · have h := of_it h c2
    refine lv_aload_n hx hb dX9_tellStop_5 rfl (lv_at hl 0 rfl) ?_
    obtain ⟨hf3, h⟩ := of_grd h
    refine C_get hx hb hts hinX9 hown hK hw (cell_10 hf3) (by omega) rfl 9 (by decide) (index := 42) (by decide +kernel) rfl rfl dX9_tellStop_6 ?_
    refine lv_topi (fun v6 ev6 => ?_)
    have h := of_bnd h ev6
    obtain rfl := Option.some.inj h
    exact C_iret hx hb hr hlocks hw (by rfl) dX9_tellStop_9

def fX9_fromHouse (n : Nat × Nat) (S : CS) (a0 : Nat) (a1 : Int32) : Option Int32 :=
  grd (cD S a0 = 10) (onn (cR S 200 a0) (fun b1 => grd (cD S b1 = 62) (grd (¬ ((12 : Int32) < 0 ∨ cN S b1 ≤ (12 : Int32).toNatClampNeg)) (onn (cQ S 62 b1 (12 : Int32).toNatClampNeg) (fun b6 => onn (cR S 201 a0) (fun b8 => grd (cD S b8 = 48) (grd (¬ (a1 < 0 ∨ cN S b8 ≤ a1.toNatClampNeg)) (bnd (cA S 48 b8 a1.toNatClampNeg) (fun v12 => grd (cD S b6 = 55) (grd (¬ (v12 < 0 ∨ cN S b6 ≤ v12.toNatClampNeg)) (bnd (cA S 55 b6 v12.toNatClampNeg) (fun v13 => some v13))))))))))))
set_option maxHeartbeats 8000000 in
set_option maxRecDepth 100000 in
theorem cX9_fromHouse_ok (l : Launch) (D : va_G) (cc : Nat → ClassId) (E : Nat → Nat) (n : Nat × Nat) (S : CS) (a0 : Nat) (a1 : Int32) {r : Int32} (h : fX9_fromHouse n S a0 a1 = some r) : Ci l yX9_fromHouse wsX9_fromHouse 0 0 D cc E [.ref a0, .int a1] S r S 0 0 := by
  refine C_of (own := RX9) (bb := cX9_fromHouse) (nL := 2) (ret := (some .int)) (by decide) rfl rfl (Nat.le_of_ble_eq_true rfl) ?_
  intro p e s m args below meth c hx hb hr hlocks hml hts hown hnm hA hK hro hw ls hl
  generalize va_A (cPs cc S) (nx S) = A at hA hro hw ⊢
  unfold fX9_fromHouse at h
  have hinX9 : ∀ w ∈ wsX90, w ∈ wsX9_fromHouse := by decide +kernel
  have hl : lv_has ls 2 [(0, .ref a0), (1, .int a1)] := hl
  refine lv_aload_n hx hb dX9_fromHouse_0 rfl (lv_at hl 0 rfl) ?_
  obtain ⟨hf1, h⟩ := of_grd h
  obtain ⟨b1, eb1, h⟩ := of_onn h
  refine C_get hx hb hts hinX9 hown hK hw (cell_10 hf1) (by omega) rfl 0 (by decide) (index := 11) (by decide +kernel) rfl (v := .ref b1) (congrArg (fun o => some (va_rf o)) eb1) dX9_fromHouse_1 ?_
  refine lv_bipush (v := 12) hx hb dX9_fromHouse_4 (by decide) ?_
  obtain ⟨hf2, h⟩ := of_grd h
  obtain ⟨hi6, h⟩ := of_grd h
  refine C_aald62 hx hb hK hw hf2 hi6 dX9_fromHouse_6 ?_
  obtain ⟨b6, eb6, h⟩ := of_onn h
  rw [eb6]
  refine lv_aload_n hx hb dX9_fromHouse_7 rfl (lv_at hl 0 rfl) ?_
  obtain ⟨b8, eb8, h⟩ := of_onn h
  refine C_get hx hb hts hinX9 hown hK hw (cell_10 hf1) (by omega) rfl 1 (by decide) (index := 16) (by decide +kernel) rfl (v := .ref b8) (congrArg (fun o => some (va_rf o)) eb8) dX9_fromHouse_8 ?_
  refine lv_iload_n hx hb dX9_fromHouse_11 rfl (lv_at hl 1 rfl) ?_
  obtain ⟨hf3, h⟩ := of_grd h
  obtain ⟨hi12, h⟩ := of_grd h
  refine C_iald hx hb hK hw hf3 (by decide) (by decide) hi12 dX9_fromHouse_12 ?_
  refine lv_topi (fun v12 ev12 => ?_)
  have h := of_bnd h ev12
  obtain ⟨hf4, h⟩ := of_grd h
  obtain ⟨hi13, h⟩ := of_grd h
  refine C_iald hx hb hK hw hf4 (by decide) (by decide) hi13 dX9_fromHouse_13 ?_
  refine lv_topi (fun v13 ev13 => ?_)
  have h := of_bnd h ev13
  obtain rfl := Option.some.inj h
  exact C_iret hx hb hr hlocks hw (by rfl) dX9_fromHouse_14

def fX9_between (n : Nat × Nat) (S : CS) (a0 : Nat) (a1 : Int32) (a2 : Int32) : Option Int32 :=
  grd (cD S a0 = 10) (onn (cR S 200 a0) (fun b1 => onn (cR S 201 a0) (fun b5 => grd (cD S b5 = 48) (grd (¬ (a1 < 0 ∨ cN S b5 ≤ a1.toNatClampNeg)) (bnd (cA S 48 b5 a1.toNatClampNeg) (fun v9 => grd (cD S b1 = 62) (grd (¬ (v9 < 0 ∨ cN S b1 ≤ v9.toNatClampNeg)) (onn (cQ S 62 b1 v9.toNatClampNeg) (fun b10 => onn (cR S 201 a0) (fun b12 => grd (cD S b12 = 48) (grd (¬ (a2 < 0 ∨ cN S b12 ≤ a2.toNatClampNeg)) (bnd (cA S 48 b12 a2.toNatClampNeg) (fun v16 => grd (cD S b10 = 55) (grd (¬ (v16 < 0 ∨ cN S b10 ≤ v16.toNatClampNeg)) (bnd (cA S 55 b10 v16.toNatClampNeg) (fun v17 => some v17))))))))))))))))
set_option maxHeartbeats 8000000 in
set_option maxRecDepth 100000 in
theorem cX9_between_ok (l : Launch) (D : va_G) (cc : Nat → ClassId) (E : Nat → Nat) (n : Nat × Nat) (S : CS) (a0 : Nat) (a1 : Int32) (a2 : Int32) {r : Int32} (h : fX9_between n S a0 a1 a2 = some r) : Ci l yX9_between wsX9_between 0 0 D cc E [.ref a0, .int a1, .int a2] S r S 0 0 := by
  refine C_of (own := RX9) (bb := cX9_between) (nL := 3) (ret := (some .int)) (by decide) rfl rfl (Nat.le_of_ble_eq_true rfl) ?_
  intro p e s m args below meth c hx hb hr hlocks hml hts hown hnm hA hK hro hw ls hl
  generalize va_A (cPs cc S) (nx S) = A at hA hro hw ⊢
  unfold fX9_between at h
  have hinX9 : ∀ w ∈ wsX90, w ∈ wsX9_between := by decide +kernel
  have hl : lv_has ls 3 [(0, .ref a0), (1, .int a1), (2, .int a2)] := hl
  refine lv_aload_n hx hb dX9_between_0 rfl (lv_at hl 0 rfl) ?_
  obtain ⟨hf1, h⟩ := of_grd h
  obtain ⟨b1, eb1, h⟩ := of_onn h
  refine C_get hx hb hts hinX9 hown hK hw (cell_10 hf1) (by omega) rfl 0 (by decide) (index := 11) (by decide +kernel) rfl (v := .ref b1) (congrArg (fun o => some (va_rf o)) eb1) dX9_between_1 ?_
  refine lv_aload_n hx hb dX9_between_4 rfl (lv_at hl 0 rfl) ?_
  obtain ⟨b5, eb5, h⟩ := of_onn h
  refine C_get hx hb hts hinX9 hown hK hw (cell_10 hf1) (by omega) rfl 1 (by decide) (index := 16) (by decide +kernel) rfl (v := .ref b5) (congrArg (fun o => some (va_rf o)) eb5) dX9_between_5 ?_
  refine lv_iload_n hx hb dX9_between_8 rfl (lv_at hl 1 rfl) ?_
  obtain ⟨hf2, h⟩ := of_grd h
  obtain ⟨hi9, h⟩ := of_grd h
  refine C_iald hx hb hK hw hf2 (by decide) (by decide) hi9 dX9_between_9 ?_
  refine lv_topi (fun v9 ev9 => ?_)
  have h := of_bnd h ev9
  obtain ⟨hf3, h⟩ := of_grd h
  obtain ⟨hi10, h⟩ := of_grd h
  refine C_aald62 hx hb hK hw hf3 hi10 dX9_between_10 ?_
  obtain ⟨b10, eb10, h⟩ := of_onn h
  rw [eb10]
  refine lv_aload_n hx hb dX9_between_11 rfl (lv_at hl 0 rfl) ?_
  obtain ⟨b12, eb12, h⟩ := of_onn h
  refine C_get hx hb hts hinX9 hown hK hw (cell_10 hf1) (by omega) rfl 1 (by decide) (index := 16) (by decide +kernel) rfl (v := .ref b12) (congrArg (fun o => some (va_rf o)) eb12) dX9_between_12 ?_
  refine lv_iload_n hx hb dX9_between_15 rfl (lv_at hl 2 rfl) ?_
  obtain ⟨hf4, h⟩ := of_grd h
  obtain ⟨hi16, h⟩ := of_grd h
  refine C_iald hx hb hK hw hf4 (by decide) (by decide) hi16 dX9_between_16 ?_
  refine lv_topi (fun v16 ev16 => ?_)
  have h := of_bnd h ev16
  obtain ⟨hf5, h⟩ := of_grd h
  obtain ⟨hi17, h⟩ := of_grd h
  refine C_iald hx hb hK hw hf5 (by decide) (by decide) hi17 dX9_between_17 ?_
  refine lv_topi (fun v17 ev17 => ?_)
  have h := of_bnd h ev17
  obtain rfl := Option.some.inj h
  exact C_iret hx hb hr hlocks hw (by rfl) dX9_between_18

def fX9_weighSets_lp16 (n : Nat × Nat) (f0 : Nat) (f1 : Int32) (f2 : Int32) : Nat → Int32 → CS → Option (CS)
  | 0, _, _ => none
  | k + 1, l3, S =>
    if f2 ≤ l3 then 
              some S
              else grd (cD S f0 = 10) (onn (cR S 204 f0) (fun b22 => onn (cR S 204 f0) (fun b29 => grd (cD S b29 = 50) (grd (¬ (l3 < 0 ∨ cN S b29 ≤ l3.toNatClampNeg)) (bnd (cA S 50 b29 l3.toNatClampNeg) (fun v33 => onn (cR S 202 f0) (fun b35 => grd (cD S b35 = 49) (grd (¬ (f1 < 0 ∨ cN S b35 ≤ f1.toNatClampNeg)) (bnd (cA S 49 b35 f1.toNatClampNeg) (fun v39 => grd (cD S b22 = 50) (grd (¬ ((l3 ||| f2) < 0 ∨ cN S b22 ≤ (l3 ||| f2).toNatClampNeg)) (bnd (uA S 50 b22 (l3 ||| f2).toNatClampNeg (v33 + v39)) (fun S41 => bnd (l3 + 1) (fun x42 => fX9_weighSets_lp16 n f0 f1 f2 k x42 S41))))))))))))))
def fX9_weighSets_lp2 (n : Nat × Nat) (f0 : Nat) : Nat → Int32 → CS → Option (CS)
  | 0, _, _ => none
  | k + 1, l1, S =>
    grd (cD S f0 = 10) (bnd (cI S 203 f0) (fun v4 => if v4 ≤ l1 then 
        some S
        else bnd ((1 : Int32) <<< (l1 &&& 31)) (fun x13 => bnd (0 : Int32) (fun x15 => cal (fX9_weighSets_lp16 n f0 l1 x13 n.1 x15 S) (fun S16 => bnd (l1 + 1) (fun x48 => fX9_weighSets_lp2 n f0 k x48 S16))))))
def fX9_weighSets (n : Nat × Nat) (S : CS) (a0 : Nat) : Option (CS) :=
  bnd (0 : Int32) (fun x1 => cal (fX9_weighSets_lp2 n a0 n.1 x1 S) (fun S2 => some S2))
set_option maxHeartbeats 8000000 in
set_option maxRecDepth 100000 in
theorem cX9_weighSets_ok (l : Launch) (D : va_G) (cc : Nat → ClassId) (E : Nat → Nat) (n : Nat × Nat) (S : CS) (a0 : Nat) {T : CS} (h : fX9_weighSets n S a0 = some T) : Cv l yX9_weighSets wsX9_weighSets 0 0 D cc E [.ref a0] S T 0 0 := by
  refine C_of (own := RX9) (bb := cX9_weighSets) (nL := 4) (ret := none) (by decide) rfl rfl (Nat.le_of_ble_eq_true rfl) ?_
  intro p e s m args below meth c hx hb hr hlocks hml hts hown hnm hA hK hro hw ls hl
  generalize va_A (cPs cc S) (nx S) = A at hA hro hw ⊢
  unfold fX9_weighSets at h
  have hinX9 : ∀ w ∈ wsX90, w ∈ wsX9_weighSets := by decide +kernel
  have hl : lv_has ls 4 [(0, .ref a0)] := hl
  refine lv_iconst (v := 0) hx hb dX9_weighSets_0 (by decide) ?_
  refine lv_topi (fun x1 ex1 => ?_)
  have h := of_bnd h ex1
  refine lv_istore_n (lv' := [(1, .int x1), (0, .ref a0)]) hx hb dX9_weighSets_1 rfl hl (by decide) rfl (fun ls hl => ?_)
  have lp2 : ∀ (f0 : Nat) (k : Nat) (l1 : Int32) (S : CS) (q : CS) , fX9_weighSets_lp2 n f0 k l1 S = some q → ∀ (H : Heap) (locs : List Loc), cWd D cc A s.heap S H locs → ∀ ls : Array Slot, lv_has ls 4 [(0, .ref f0), (1, .int l1)] → (∀  (S1 : CS), S1 = q → ∀ (H : Heap) (locs : List Loc), cWd D cc A s.heap S1 H locs → ∀ ls : Array Slot, lv_has ls 4 [] → W p l e (cRm 0 0 0 0) s m args below meth c H locs (0) (0) (MQ below (va_Qv (fun u => u = T) (cAft D cc A) A) args s 0 0 A) (F0 m 54 ls [])) → W p l e (cRm 0 0 0 0) s m args below meth c H locs (0) (0) (MQ below (va_Qv (fun u => u = T) (cAft D cc A) A) args s 0 0 A) (F0 m 2 ls []) := by
    intro f0 k
    induction k with
    | zero => intro l1 S q h; rw [fX9_weighSets_lp2] at h; cases h
    | succ k ih2 =>
      intro l1 S q h H locs hw ls hl kx2_0
      rw [fX9_weighSets_lp2] at h
      refine lv_iload_n hx hb dX9_weighSets_2 rfl (lv_at hl 1 rfl) ?_
      refine lv_aload_n hx hb dX9_weighSets_3 rfl (lv_at hl 0 rfl) ?_
      obtain ⟨hf1, h⟩ := of_grd h
      refine C_get hx hb hts hinX9 hown hK hw (cell_10 hf1) (by omega) rfl 3 (by decide) (index := 23) (by decide +kernel) rfl rfl dX9_weighSets_4 ?_
      refine lv_topi (fun v4 ev4 => ?_)
      have h := of_bnd h ev4
      refine lv_icmp_ge (tgt := 54) hx hb dX9_weighSets_7 (by decide) (fun c7 => ?_) (fun c7 => ?_)
      · have h := of_it h c7
        exact kx2_0 S (Option.some.inj h) _ _ hw ls (lv_sub hl [] rfl)
      · have h := of_if h c7
        refine lv_iconst (v := 1) hx hb dX9_weighSets_10 (by decide) ?_
        refine lv_iload_n hx hb dX9_weighSets_11 rfl (lv_at hl 1 rfl) ?_
        refine lv_ishl hx hb dX9_weighSets_12 ?_
        refine lv_topi (fun x13 ex13 => ?_)
        have h := of_bnd h ex13
        refine lv_istore_n (lv' := [(2, .int x13), (0, .ref f0), (1, .int l1)]) hx hb dX9_weighSets_13 rfl hl (by decide) rfl (fun ls hl => ?_)
        refine lv_iconst (v := 0) hx hb dX9_weighSets_14 (by decide) ?_
        refine lv_topi (fun x15 ex15 => ?_)
        have h := of_bnd h ex15
        refine lv_istore_n (lv' := [(3, .int x15), (2, .int x13), (0, .ref f0), (1, .int l1)]) hx hb dX9_weighSets_15 rfl hl (by decide) rfl (fun ls hl => ?_)
        have lp16 : ∀ (f0 : Nat) (f1 : Int32) (f2 : Int32) (k : Nat) (l3 : Int32) (S : CS) (q : CS) , fX9_weighSets_lp16 n f0 f1 f2 k l3 S = some q → ∀ (H : Heap) (locs : List Loc), cWd D cc A s.heap S H locs → ∀ ls : Array Slot, lv_has ls 4 [(0, .ref f0), (1, .int f1), (2, .int f2), (3, .int l3)] → (∀  (S1 : CS), S1 = q → ∀ (H : Heap) (locs : List Loc), cWd D cc A s.heap S1 H locs → ∀ ls : Array Slot, lv_has ls 4 [(0, .ref f0), (1, .int f1)] → W p l e (cRm 0 0 0 0) s m args below meth c H locs (0) (0) (MQ below (va_Qv (fun u => u = T) (cAft D cc A) A) args s 0 0 A) (F0 m 48 ls [])) → W p l e (cRm 0 0 0 0) s m args below meth c H locs (0) (0) (MQ below (va_Qv (fun u => u = T) (cAft D cc A) A) args s 0 0 A) (F0 m 16 ls []) := by
          intro f0 f1 f2 k
          induction k with
          | zero => intro l3 S q h; rw [fX9_weighSets_lp16] at h; cases h
          | succ k ih16 =>
            intro l3 S q h H locs hw ls hl kx16_0
            rw [fX9_weighSets_lp16] at h
            refine lv_iload_n hx hb dX9_weighSets_16 rfl (lv_at hl 3 rfl) ?_
            refine lv_iload_n hx hb dX9_weighSets_17 rfl (lv_at hl 2 rfl) ?_
            refine lv_icmp_ge (tgt := 48) hx hb dX9_weighSets_18 (by decide) (fun c18 => ?_) (fun c18 => ?_)
            · have h := of_it h c18
              exact kx16_0 S (Option.some.inj h) _ _ hw ls (lv_sub hl [0, 1] rfl)
            · have h := of_if h c18
              refine lv_aload_n hx hb dX9_weighSets_21 rfl (lv_at hl 0 rfl) ?_
              obtain ⟨hf2, h⟩ := of_grd h
              obtain ⟨b22, eb22, h⟩ := of_onn h
              refine C_get hx hb hts hinX9 hown hK hw (cell_10 hf2) (by omega) rfl 4 (by decide) (index := 27) (by decide +kernel) rfl (v := .ref b22) (congrArg (fun o => some (va_rf o)) eb22) dX9_weighSets_22 ?_
              refine lv_iload_n hx hb dX9_weighSets_25 rfl (lv_at hl 3 rfl) ?_
              refine lv_iload_n hx hb dX9_weighSets_26 rfl (lv_at hl 2 rfl) ?_
              refine lv_ior hx hb dX9_weighSets_27 ?_
              refine lv_aload_n hx hb dX9_weighSets_28 rfl (lv_at hl 0 rfl) ?_
              obtain ⟨b29, eb29, h⟩ := of_onn h
              refine C_get hx hb hts hinX9 hown hK hw (cell_10 hf2) (by omega) rfl 4 (by decide) (index := 27) (by decide +kernel) rfl (v := .ref b29) (congrArg (fun o => some (va_rf o)) eb29) dX9_weighSets_29 ?_
              refine lv_iload_n hx hb dX9_weighSets_32 rfl (lv_at hl 3 rfl) ?_
              obtain ⟨hf3, h⟩ := of_grd h
              obtain ⟨hi33, h⟩ := of_grd h
              refine C_iald hx hb hK hw hf3 (by decide) (by decide) hi33 dX9_weighSets_33 ?_
              refine lv_topi (fun v33 ev33 => ?_)
              have h := of_bnd h ev33
              refine lv_aload_n hx hb dX9_weighSets_34 rfl (lv_at hl 0 rfl) ?_
              obtain ⟨b35, eb35, h⟩ := of_onn h
              refine C_get hx hb hts hinX9 hown hK hw (cell_10 hf2) (by omega) rfl 2 (by decide) (index := 20) (by decide +kernel) rfl (v := .ref b35) (congrArg (fun o => some (va_rf o)) eb35) dX9_weighSets_35 ?_
              refine lv_iload_n hx hb dX9_weighSets_38 rfl (lv_at hl 1 rfl) ?_
              obtain ⟨hf4, h⟩ := of_grd h
              obtain ⟨hi39, h⟩ := of_grd h
              refine C_iald hx hb hK hw hf4 (by decide) (by decide) hi39 dX9_weighSets_39 ?_
              refine lv_topi (fun v39 ev39 => ?_)
              have h := of_bnd h ev39
              refine lv_iadd hx hb dX9_weighSets_40 ?_
              obtain ⟨hf5, h⟩ := of_grd h
              obtain ⟨hi41, h⟩ := of_grd h
              refine C_iast hx hb hK hw hf5 (by decide) (by decide) hi41 dX9_weighSets_41 (fun S41 H locs eS41 hw => ?_)
              have h := of_bnd h eS41
              obtain ⟨x42, ex42⟩ : ∃ y : Int32, y = l3 + 1 := ⟨_, rfl⟩
              have h := of_bnd h ex42
              refine lv_iinc (v := x42) (lv' := [(3, .int x42), (0, .ref f0), (1, .int f1), (2, .int f2)]) hx hb dX9_weighSets_42 hl (k := 3) rfl (by rw [ex42]; rfl) (by decide) rfl (fun ls hl => ?_)
              refine lv_goto (tgt := 16) hx hb dX9_weighSets_45 (by decide) ?_
              exact ih16 x42 S41 _ h _ _ hw ls (lv_sub hl [1, 2, 3, 0] rfl) kx16_0
        obtain ⟨q16, hq16, h⟩ := of_cal h
        refine lp16 f0 l1 x13 n.1 x15 S q16  hq16 _ _ hw ls (lv_sub hl [2, 3, 1, 0] rfl) ?_
        · intro S16 eq H locs hw ls hl
          subst eq
          obtain ⟨x48, ex48⟩ : ∃ y : Int32, y = l1 + 1 := ⟨_, rfl⟩
          have h := of_bnd h ex48
          refine lv_iinc (v := x48) (lv' := [(1, .int x48), (0, .ref f0)]) hx hb dX9_weighSets_48 hl (k := 1) rfl (by rw [ex48]; rfl) (by decide) rfl (fun ls hl => ?_)
          refine lv_goto (tgt := 2) hx hb dX9_weighSets_51 (by decide) ?_
          exact ih2 x48 S16 _ h _ _ hw ls (lv_sub hl [1, 0] rfl) kx2_0
  obtain ⟨q2, hq2, h⟩ := of_cal h
  refine lp2 a0 n.1 x1 S q2  hq2 _ _ hw ls (lv_sub hl [1, 0] rfl) ?_
  · intro S2 eq H locs hw ls hl
    subst eq
    obtain rfl := Option.some.inj h
    exact C_vret hx hb hr hlocks hw dX9_weighSets_54

def fX9_shortestWay_lp23 (n : Nat × Nat) (S : CS) (f0 : Nat) (f2 : Int32) (f3 : Int32) : Nat → Int32 → Int32 → Option (Int32)
  | 0, _, _ => none
  | k + 1, l4, l5 =>
    grd (cD S f0 = 10) (bnd (cI S 203 f0) (fun v26 => if v26 ≤ l5 then 
          some l4
          else bnd (fX9_isIn f3 l5) (fun r35 => if r35 = 0 then 
            bnd (l5 + 1) (fun x68 => fX9_shortestWay_lp23 n S f0 f2 f3 k l4 x68 )
            else onn (cR S 205 f0) (fun b44 => grd (cD S b44 = 51) (grd (¬ (((f3 * (8 : Int32)) + l5) < 0 ∨ cN S b44 ≤ ((f3 * (8 : Int32)) + l5).toNatClampNeg)) (bnd (cA S 51 b44 ((f3 * (8 : Int32)) + l5).toNatClampNeg) (fun v54 => cal (fX9_between n S f0 l5 f2) (fun q59 => bnd (if (v54 + q59) < l4 then (v54 + q59) else l4) (fun r63 => bnd (l5 + 1) (fun x68 => fX9_shortestWay_lp23 n S f0 f2 f3 k r63 x68 ))))))))))
def fX9_shortestWay (n : Nat × Nat) (S : CS) (a0 : Nat) (a1 : Int32) (a2 : Int32) : Option Int32 :=
  bnd (a1 ^^^ ((1 : Int32) <<< (a2 &&& 31))) (fun x5 => if x5 = 0 then 
    grd (cD S a0 = 10) (cal (fX9_fromHouse n S a0 a2) (fun q12 => some q12))
    else bnd (1048576 : Int32) (fun x18 => bnd (0 : Int32) (fun x21 => cal (fX9_shortestWay_lp23 n S a0 a2 x5 n.1 x18 x21 ) (fun t4_23 => some t4_23))))
set_option maxHeartbeats 8000000 in
set_option maxRecDepth 100000 in
theorem cX9_shortestWay_ok (l : Launch) (D : va_G) (cc : Nat → ClassId) (E : Nat → Nat) (n : Nat × Nat) (S : CS) (a0 : Nat) (a1 : Int32) (a2 : Int32) {r : Int32} (h : fX9_shortestWay n S a0 a1 a2 = some r) : Ci l yX9_shortestWay wsX9_shortestWay 1 22 D cc E [.ref a0, .int a1, .int a2] S r S 0 0 := by
  refine C_of (own := RX9) (bb := cX9_shortestWay) (nL := 6) (ret := (some .int)) (by decide) rfl rfl (Nat.le_of_ble_eq_true rfl) ?_
  intro p e s m args below meth c hx hb hr hlocks hml hts hown hnm hA hK hro hw ls hl
  generalize va_A (cPs cc S) (nx S) = A at hA hro hw ⊢
  unfold fX9_shortestWay at h
  have hinX9 : ∀ w ∈ wsX90, w ∈ wsX9_shortestWay := by decide +kernel
  have hl : lv_has ls 6 [(0, .ref a0), (1, .int a1), (2, .int a2)] := hl
  refine lv_iload_n hx hb dX9_shortestWay_0 rfl (lv_at hl 1 rfl) ?_
  refine lv_iconst (v := 1) hx hb dX9_shortestWay_1 (by decide) ?_
  refine lv_iload_n hx hb dX9_shortestWay_2 rfl (lv_at hl 2 rfl) ?_
  refine lv_ishl hx hb dX9_shortestWay_3 ?_
  refine lv_ixor hx hb dX9_shortestWay_4 ?_
  refine lv_topi (fun x5 ex5 => ?_)
  have h := of_bnd h ex5
  refine lv_istore_n (lv' := [(3, .int x5), (0, .ref a0), (1, .int a1), (2, .int a2)]) hx hb dX9_shortestWay_5 rfl hl (by decide) rfl (fun ls hl => ?_)
  refine lv_iload_n hx hb dX9_shortestWay_6 rfl (lv_at hl 0 rfl) ?_
  refine lv_if_ne (tgt := 16) hx hb dX9_shortestWay_7 (by decide) (fun c7 => ?_) (fun c7 => ?_)
  · have h := of_if h c7
    refine lv_ldc (v := 1048576) hx hb hown (hts (.constant RX9 56 (1048576)) (by decide +kernel)) dX9_shortestWay_16 ?_
    refine lv_topi (fun x18 ex18 => ?_)
    have h := of_bnd h ex18
    refine lv_istore (lv' := [(4, .int x18), (3, .int x5), (0, .ref a0), (1, .int a1), (2, .int a2)]) hx hb dX9_shortestWay_18 hl (by decide) rfl (fun ls hl => ?_)
    refine lv_iconst (v := 0) hx hb dX9_shortestWay_20 (by decide) ?_
    refine lv_topi (fun x21 ex21 => ?_)
    have h := of_bnd h ex21
    refine lv_istore (lv' := [(5, .int x21), (4, .int x18), (3, .int x5), (0, .ref a0), (1, .int a1), (2, .int a2)]) hx hb dX9_shortestWay_21 hl (by decide) rfl (fun ls hl => ?_)
    have lp23 : ∀ (f0 : Nat) (f2 : Int32) (f3 : Int32) (S : CS) (k : Nat) (l4 : Int32) (l5 : Int32) (q : Int32) , fX9_shortestWay_lp23 n S f0 f2 f3 k l4 l5  = some q → ∀ (H : Heap) (locs : List Loc), cWd D cc A s.heap S H locs → ∀ ls : Array Slot, lv_has ls 6 [(0, .ref f0), (2, .int f2), (3, .int f3), (4, .int l4), (5, .int l5)] → (∀ (t4 : Int32), t4 = q → ∀ (H : Heap) (locs : List Loc), cWd D cc A s.heap S H locs → ∀ ls : Array Slot, lv_has ls 6 [(4, .int t4)] → W p l e (cRm 1 22 0 0) s m args below meth c H locs (0) (0) (MQ below (va_Qi (fun x u => x = r ∧ u = S) (cAft D cc A) A) args s 0 0 A) (F0 m 74 ls [])) → W p l e (cRm 1 22 0 0) s m args below meth c H locs (0) (0) (MQ below (va_Qi (fun x u => x = r ∧ u = S) (cAft D cc A) A) args s 0 0 A) (F0 m 23 ls []) := by
      intro f0 f2 f3 S k
      induction k with
      | zero => intro l4 l5 q h; rw [fX9_shortestWay_lp23] at h; cases h
      | succ k ih23 =>
        intro l4 l5 q h H locs hw ls hl kx23_0
        rw [fX9_shortestWay_lp23] at h
        refine lv_iload hx hb dX9_shortestWay_23 (lv_at hl 4 rfl) ?_
        refine lv_aload_n hx hb dX9_shortestWay_25 rfl (lv_at hl 0 rfl) ?_
        obtain ⟨hf1, h⟩ := of_grd h
        refine C_get hx hb hts hinX9 hown hK hw (cell_10 hf1) (by omega) rfl 3 (by decide) (index := 23) (by decide +kernel) rfl rfl dX9_shortestWay_26 ?_
        refine lv_topi (fun v26 ev26 => ?_)
        have h := of_bnd h ev26
        refine lv_icmp_ge (tgt := 74) hx hb dX9_shortestWay_29 (by decide) (fun c29 => ?_) (fun c29 => ?_)
        · have h := of_it h c29
          exact kx23_0 l4 (Option.some.inj h) _ _ hw ls (lv_sub hl [3] rfl)
        · have h := of_if h c29
          refine lv_iload_n hx hb dX9_shortestWay_32 rfl (lv_at hl 2 rfl) ?_
          refine lv_iload hx hb dX9_shortestWay_33 (lv_at hl 4 rfl) ?_
          refine C_s (va_runS (As := [.int f3, .int l5]) (rest := []) ⟨hx, hb, hml, hown, hts⟩ (cX9_isIn_ok l f3 l5) (va_cwS 2 hts gX9_shortestWay_X9_isIn rfl rfl rfl (by decide +kernel) ⟨Nat.le_of_ble_eq_true rfl, Nat.le_of_ble_eq_true rfl⟩) ⟨fun a U g mk q => ⟨q.1, trivial⟩, fun U hU hW => ⟨rfl, trivial⟩⟩ rfl rfl hl.1 rfl (lv_room (Nat.le_of_ble_eq_true rfl)) dX9_shortestWay_35 ⟨Nat.le_refl _, Nat.le_refl _⟩) (fun r35 er35 => ?_)
          have h := of_bnd h er35
          refine lv_if_eq (tgt := 68) hx hb dX9_shortestWay_38 (by decide) (fun c38 => ?_) (fun c38 => ?_)
          · have h := of_it h c38
            obtain ⟨x68, ex68⟩ : ∃ y : Int32, y = l5 + 1 := ⟨_, rfl⟩
            have h := of_bnd h ex68
            refine lv_iinc (v := x68) (lv' := [(5, .int x68), (0, .ref f0), (2, .int f2), (3, .int f3), (4, .int l4)]) hx hb dX9_shortestWay_68 hl (k := 4) rfl (by rw [ex68]; rfl) (by decide) rfl (fun ls hl => ?_)
            refine lv_goto (tgt := 23) hx hb dX9_shortestWay_71 (by decide) ?_
            exact ih23 l4 x68 _ h _ _ hw ls (lv_sub hl [1, 2, 3, 4, 0] rfl) kx23_0
          · have h := of_if h c38
            refine lv_iload hx hb dX9_shortestWay_41 (lv_at hl 3 rfl) ?_
            refine lv_aload_n hx hb dX9_shortestWay_43 rfl (lv_at hl 0 rfl) ?_
            obtain ⟨b44, eb44, h⟩ := of_onn h
            refine C_get hx hb hts hinX9 hown hK hw (cell_10 hf1) (by omega) rfl 5 (by decide) (index := 30) (by decide +kernel) rfl (v := .ref b44) (congrArg (fun o => some (va_rf o)) eb44) dX9_shortestWay_44 ?_
            refine lv_iload_n hx hb dX9_shortestWay_47 rfl (lv_at hl 2 rfl) ?_
            refine lv_bipush (v := 8) hx hb dX9_shortestWay_48 (by decide) ?_
            refine lv_imul hx hb dX9_shortestWay_50 ?_
            refine lv_iload hx hb dX9_shortestWay_51 (lv_at hl 4 rfl) ?_
            refine lv_iadd hx hb dX9_shortestWay_53 ?_
            obtain ⟨hf2, h⟩ := of_grd h
            obtain ⟨hi54, h⟩ := of_grd h
            refine C_iald hx hb hK hw hf2 (by decide) (by decide) hi54 dX9_shortestWay_54 ?_
            refine lv_topi (fun v54 ev54 => ?_)
            have h := of_bnd h ev54
            refine lv_aload_n hx hb dX9_shortestWay_55 rfl (lv_at hl 0 rfl) ?_
            refine lv_iload hx hb dX9_shortestWay_56 (lv_at hl 4 rfl) ?_
            refine lv_iload_n hx hb dX9_shortestWay_58 rfl (lv_at hl 1 rfl) ?_
            obtain ⟨q59, hq59, h⟩ := of_cal h
            refine C_i hA hw (va_runV (As := [.int l5, .int f2]) (rest := [.int v54, .int l4]) ⟨hx, hb, hml, hown, hts⟩ (cX9_between_ok l D cc E n S f0 l5 f2 hq59) (cwV 2 hts gX9_shortestWay_X9_between rfl rfl rfl (by decide +kernel) ⟨Nat.le_of_ble_eq_true rfl, Nat.le_of_ble_eq_true rfl⟩) ⟨cBlind D cc E S _, C_recv hK hw (by omega) (cell_10 hf1) (r := (RX9, TX9, 10)) rfl, fun U hU hW => ⟨rfl, C_pre hA hK hro hw U hU hW⟩⟩ rfl rfl hl.1 rfl (lv_room (Nat.le_of_ble_eq_true rfl)) dX9_shortestWay_59 ⟨Nat.le_refl _, Nat.le_refl _⟩) (fun H locs hw => ?_)
            refine W.widen (k := 0) (n := 0) (Nat.le_refl _) (Nat.le_refl _) ?_
            refine lv_iadd hx hb dX9_shortestWay_62 ?_
            refine va_mmin (rest := []) hx hb (hml.trans hl.1.symm) hown (hts (.methodLink RX9 94 Lib.Math.min.name) (by decide +kernel)) (hts (.static Lib.Math.min.name) (by decide +kernel)) (hts (.initialized "java/lang/Math") (by decide +kernel)) (hts (.code Lib.Math.min.name Lib.Math.min.code 2 (some .int)) (by decide +kernel)) (Nat.le_of_ble_eq_true rfl) (Nat.le_of_ble_eq_true rfl) (Nat.zero_le _) (Nat.zero_le _) dX9_shortestWay_63 ?_
            refine lv_topi (fun r63 er63 => ?_)
            have h := of_bnd h er63
            refine lv_istore (lv' := [(4, .int r63), (0, .ref f0), (2, .int f2), (3, .int f3), (5, .int l5)]) hx hb dX9_shortestWay_66 hl (by decide) rfl (fun ls hl => ?_)
            obtain ⟨x68, ex68⟩ : ∃ y : Int32, y = l5 + 1 := ⟨_, rfl⟩
            have h := of_bnd h ex68
            refine lv_iinc (v := x68) (lv' := [(5, .int x68), (4, .int r63), (0, .ref f0), (2, .int f2), (3, .int f3)]) hx hb dX9_shortestWay_68 hl (k := 4) rfl (by rw [ex68]; rfl) (by decide) rfl (fun ls hl => ?_)
            refine lv_goto (tgt := 23) hx hb dX9_shortestWay_71 (by decide) ?_
            exact ih23 r63 x68 _ h _ _ hw ls (lv_sub hl [2, 3, 4, 1, 0] rfl) kx23_0
    obtain ⟨q23, hq23, h⟩ := of_cal h
    refine lp23 a0 a2 x5 S n.1 x18 x21 q23  hq23 _ _ hw ls (lv_sub hl [3, 5, 2, 1, 0] rfl) ?_
    · intro t4_23 eq H locs hw ls hl
      subst eq
      refine lv_iload hx hb dX9_shortestWay_74 (lv_at hl 0 rfl) ?_
      obtain rfl := Option.some.inj h
      exact C_iret hx hb hr hlocks hw (by rfl) dX9_shortestWay_76
  · have h := of_it h c7
    refine lv_aload_n hx hb dX9_shortestWay_10 rfl (lv_at hl 1 rfl) ?_
    refine lv_iload_n hx hb dX9_shortestWay_11 rfl (lv_at hl 3 rfl) ?_
    obtain ⟨hf3, h⟩ := of_grd h
    obtain ⟨q12, hq12, h⟩ := of_cal h
    refine C_i hA hw (va_runV (As := [.int a2]) (rest := []) ⟨hx, hb, hml, hown, hts⟩ (cX9_fromHouse_ok l D cc E n S a0 a2 hq12) (cwV 1 hts gX9_shortestWay_X9_fromHouse rfl rfl rfl (by decide +kernel) ⟨Nat.le_of_ble_eq_true rfl, Nat.le_of_ble_eq_true rfl⟩) ⟨cBlind D cc E S _, C_recv hK hw (by omega) (cell_10 hf3) (r := (RX9, TX9, 10)) rfl, fun U hU hW => ⟨rfl, C_pre hA hK hro hw U hU hW⟩⟩ rfl rfl hl.1 rfl (lv_room (Nat.le_of_ble_eq_true rfl)) dX9_shortestWay_12 ⟨Nat.le_refl _, Nat.le_refl _⟩) (fun H locs hw => ?_)
    refine W.widen (k := 0) (n := 0) (Nat.le_refl _) (Nat.le_refl _) ?_
    obtain rfl := Option.some.inj h
    exact C_iret hx hb hr hlocks hw (by rfl) dX9_shortestWay_15

def fX9_shortestRound_lp5 (n : Nat × Nat) (f0 : Nat) (f1 : Int32) : Nat → Int32 → Int32 → CS → Option (Int32 × CS)
  | 0, _, _, _ => none
  | k + 1, l2, l3, S =>
    grd (cD S f0 = 10) (bnd (cI S 203 f0) (fun v7 => if v7 ≤ l3 then 
        some (l2, S)
        else bnd (fX9_isIn f1 l3) (fun r15 => if r15 = 0 then 
          bnd (l3 + 1) (fun x55 => fX9_shortestRound_lp5 n f0 f1 k l2 x55 S)
          else cal (fX9_shortestWay n S f0 f1 l3) (fun q24 => onn (cR S 205 f0) (fun b30 => grd (cD S b30 = 51) (grd (¬ (((f1 * (8 : Int32)) + l3) < 0 ∨ cN S b30 ≤ ((f1 * (8 : Int32)) + l3).toNatClampNeg)) (bnd (uA S 51 b30 ((f1 * (8 : Int32)) + l3).toNatClampNeg q24) (fun S41 => cal (fX9_fromHouse n S41 f0 l3) (fun q47 => bnd (if (q24 + q47) < l2 then (q24 + q47) else l2) (fun r51 => bnd (l3 + 1) (fun x55 => fX9_shortestRound_lp5 n f0 f1 k r51 x55 S41)))))))))))
def fX9_shortestRound (n : Nat × Nat) (S : CS) (a0 : Nat) (a1 : Int32) : Option (Int32 × CS) :=
  bnd (1048576 : Int32) (fun x2 => bnd (0 : Int32) (fun x4 => cal (fX9_shortestRound_lp5 n a0 a1 n.1 x2 x4 S) (un2 fun t2_5 S5 => some (t2_5, S5))))
set_option maxHeartbeats 8000000 in
set_option maxRecDepth 100000 in
theorem cX9_shortestRound_ok (l : Launch) (D : va_G) (cc : Nat → ClassId) (E : Nat → Nat) (n : Nat × Nat) (S : CS) (a0 : Nat) (a1 : Int32) {r : Int32} {T : CS} (h : fX9_shortestRound n S a0 a1 = some (r, T)) : Ci l yX9_shortestRound wsX9_shortestRound 2 47 D cc E [.ref a0, .int a1] S r T 0 0 := by
  refine C_of (own := RX9) (bb := cX9_shortestRound) (nL := 5) (ret := (some .int)) (by decide) rfl rfl (Nat.le_of_ble_eq_true rfl) ?_
  intro p e s m args below meth c hx hb hr hlocks hml hts hown hnm hA hK hro hw ls hl
  generalize va_A (cPs cc S) (nx S) = A at hA hro hw ⊢
  unfold fX9_shortestRound at h
  have hinX9 : ∀ w ∈ wsX90, w ∈ wsX9_shortestRound := by decide +kernel
  have hl : lv_has ls 5 [(0, .ref a0), (1, .int a1)] := hl
  refine lv_ldc (v := 1048576) hx hb hown (hts (.constant RX9 56 (1048576)) (by decide +kernel)) dX9_shortestRound_0 ?_
  refine lv_topi (fun x2 ex2 => ?_)
  have h := of_bnd h ex2
  refine lv_istore_n (lv' := [(2, .int x2), (0, .ref a0), (1, .int a1)]) hx hb dX9_shortestRound_2 rfl hl (by decide) rfl (fun ls hl => ?_)
  refine lv_iconst (v := 0) hx hb dX9_shortestRound_3 (by decide) ?_
  refine lv_topi (fun x4 ex4 => ?_)
  have h := of_bnd h ex4
  refine lv_istore_n (lv' := [(3, .int x4), (2, .int x2), (0, .ref a0), (1, .int a1)]) hx hb dX9_shortestRound_4 rfl hl (by decide) rfl (fun ls hl => ?_)
  have lp5 : ∀ (f0 : Nat) (f1 : Int32) (k : Nat) (l2 : Int32) (l3 : Int32) (S : CS) (q : Int32 × CS) , fX9_shortestRound_lp5 n f0 f1 k l2 l3 S = some q → ∀ (H : Heap) (locs : List Loc), cWd D cc A s.heap S H locs → ∀ ls : Array Slot, lv_has ls 5 [(0, .ref f0), (1, .int f1), (2, .int l2), (3, .int l3)] → (∀ (t2 : Int32) (S1 : CS), (t2, S1) = q → ∀ (H : Heap) (locs : List Loc), cWd D cc A s.heap S1 H locs → ∀ ls : Array Slot, lv_has ls 5 [(2, .int t2)] → W p l e (cRm 2 47 0 0) s m args below meth c H locs (0) (0) (MQ below (va_Qi (fun x u => x = r ∧ u = T) (cAft D cc A) A) args s 0 0 A) (F0 m 61 ls [])) → W p l e (cRm 2 47 0 0) s m args below meth c H locs (0) (0) (MQ below (va_Qi (fun x u => x = r ∧ u = T) (cAft D cc A) A) args s 0 0 A) (F0 m 5 ls []) := by
    intro f0 f1 k
    induction k with
    | zero => intro l2 l3 S q h; rw [fX9_shortestRound_lp5] at h; cases h
    | succ k ih5 =>
      intro l2 l3 S q h H locs hw ls hl kx5_0
      rw [fX9_shortestRound_lp5] at h
      refine lv_iload_n hx hb dX9_shortestRound_5 rfl (lv_at hl 3 rfl) ?_
      refine lv_aload_n hx hb dX9_shortestRound_6 rfl (lv_at hl 0 rfl) ?_
      obtain ⟨hf1, h⟩ := of_grd h
      refine C_get hx hb hts hinX9 hown hK hw (cell_10 hf1) (by omega) rfl 3 (by decide) (index := 23) (by decide +kernel) rfl rfl dX9_shortestRound_7 ?_
      refine lv_topi (fun v7 ev7 => ?_)
      have h := of_bnd h ev7
      refine lv_icmp_ge (tgt := 61) hx hb dX9_shortestRound_10 (by decide) (fun c10 => ?_) (fun c10 => ?_)
      · have h := of_it h c10
        exact kx5_0 l2 S (Option.some.inj h) _ _ hw ls (lv_sub hl [2] rfl)
      · have h := of_if h c10
        refine lv_iload_n hx hb dX9_shortestRound_13 rfl (lv_at hl 1 rfl) ?_
        refine lv_iload_n hx hb dX9_shortestRound_14 rfl (lv_at hl 3 rfl) ?_
        refine C_s (va_runS (As := [.int f1, .int l3]) (rest := []) ⟨hx, hb, hml, hown, hts⟩ (cX9_isIn_ok l f1 l3) (va_cwS 2 hts gX9_shortestRound_X9_isIn rfl rfl rfl (by decide +kernel) ⟨Nat.le_of_ble_eq_true rfl, Nat.le_of_ble_eq_true rfl⟩) ⟨fun a U g mk q => ⟨q.1, trivial⟩, fun U hU hW => ⟨rfl, trivial⟩⟩ rfl rfl hl.1 rfl (lv_room (Nat.le_of_ble_eq_true rfl)) dX9_shortestRound_15 ⟨Nat.le_refl _, Nat.le_refl _⟩) (fun r15 er15 => ?_)
        have h := of_bnd h er15
        refine lv_if_eq (tgt := 55) hx hb dX9_shortestRound_18 (by decide) (fun c18 => ?_) (fun c18 => ?_)
        · have h := of_it h c18
          obtain ⟨x55, ex55⟩ : ∃ y : Int32, y = l3 + 1 := ⟨_, rfl⟩
          have h := of_bnd h ex55
          refine lv_iinc (v := x55) (lv' := [(3, .int x55), (0, .ref f0), (1, .int f1), (2, .int l2)]) hx hb dX9_shortestRound_55 hl (k := 3) rfl (by rw [ex55]; rfl) (by decide) rfl (fun ls hl => ?_)
          refine lv_goto (tgt := 5) hx hb dX9_shortestRound_58 (by decide) ?_
          exact ih5 l2 x55 S _ h _ _ hw ls (lv_sub hl [1, 2, 3, 0] rfl) kx5_0
        · have h := of_if h c18
          refine lv_aload_n hx hb dX9_shortestRound_21 rfl (lv_at hl 0 rfl) ?_
          refine lv_iload_n hx hb dX9_shortestRound_22 rfl (lv_at hl 1 rfl) ?_
          refine lv_iload_n hx hb dX9_shortestRound_23 rfl (lv_at hl 3 rfl) ?_
          obtain ⟨q24, hq24, h⟩ := of_cal h
          refine C_i hA hw (va_runV (As := [.int f1, .int l3]) (rest := []) ⟨hx, hb, hml, hown, hts⟩ (cX9_shortestWay_ok l D cc E n S f0 f1 l3 hq24) (cwV 2 hts gX9_shortestRound_X9_shortestWay rfl rfl rfl (by decide +kernel) ⟨Nat.le_of_ble_eq_true rfl, Nat.le_of_ble_eq_true rfl⟩) ⟨cBlind D cc E S _, C_recv hK hw (by omega) (cell_10 hf1) (r := (RX9, TX9, 10)) rfl, fun U hU hW => ⟨rfl, C_pre hA hK hro hw U hU hW⟩⟩ rfl rfl hl.1 rfl (lv_room (Nat.le_of_ble_eq_true rfl)) dX9_shortestRound_24 ⟨Nat.le_refl _, Nat.le_refl _⟩) (fun H locs hw => ?_)
          refine W.widen (k := 0) (n := 0) (Nat.le_refl _) (Nat.le_refl _) ?_
          refine lv_istore (lv' := [(4, .int q24), (0, .ref f0), (1, .int f1), (2, .int l2), (3, .int l3)]) hx hb dX9_shortestRound_27 hl (by decide) rfl (fun ls hl => ?_)
          refine lv_aload_n hx hb dX9_shortestRound_29 rfl (lv_at hl 1 rfl) ?_
          obtain ⟨b30, eb30, h⟩ := of_onn h
          refine C_get hx hb hts hinX9 hown hK hw (cell_10 hf1) (by omega) rfl 5 (by decide) (index := 30) (by decide +kernel) rfl (v := .ref b30) (congrArg (fun o => some (va_rf o)) eb30) dX9_shortestRound_30 ?_
          refine lv_iload_n hx hb dX9_shortestRound_33 rfl (lv_at hl 2 rfl) ?_
          refine lv_bipush (v := 8) hx hb dX9_shortestRound_34 (by decide) ?_
          refine lv_imul hx hb dX9_shortestRound_36 ?_
          refine lv_iload_n hx hb dX9_shortestRound_37 rfl (lv_at hl 4 rfl) ?_
          refine lv_iadd hx hb dX9_shortestRound_38 ?_
          refine lv_iload hx hb dX9_shortestRound_39 (lv_at hl 0 rfl) ?_
          obtain ⟨hf2, h⟩ := of_grd h
          obtain ⟨hi41, h⟩ := of_grd h
          refine C_iast hx hb hK hw hf2 (by decide) (by decide) hi41 dX9_shortestRound_41 (fun S41 H locs eS41 hw => ?_)
          have h := of_bnd h eS41
          refine lv_iload_n hx hb dX9_shortestRound_42 rfl (lv_at hl 3 rfl) ?_
          refine lv_iload hx hb dX9_shortestRound_43 (lv_at hl 0 rfl) ?_
          refine lv_aload_n hx hb dX9_shortestRound_45 rfl (lv_at hl 1 rfl) ?_
          refine lv_iload_n hx hb dX9_shortestRound_46 rfl (lv_at hl 4 rfl) ?_
          have hf3 : cD S41 f0 = 10 := by rw [eS41]; exact hf1
          obtain ⟨q47, hq47, h⟩ := of_cal h
          refine C_i hA hw (va_runV (As := [.int l3]) (rest := [.int q24, .int l2]) ⟨hx, hb, hml, hown, hts⟩ (cX9_fromHouse_ok l D cc E n S41 f0 l3 hq47) (cwV 1 hts gX9_shortestRound_X9_fromHouse rfl rfl rfl (by decide +kernel) ⟨Nat.le_of_ble_eq_true rfl, Nat.le_of_ble_eq_true rfl⟩) ⟨cBlind D cc E S41 _, C_recv hK hw (by omega) (cell_10 hf3) (r := (RX9, TX9, 10)) rfl, fun U hU hW => ⟨rfl, C_pre hA hK hro hw U hU hW⟩⟩ rfl rfl hl.1 rfl (lv_room (Nat.le_of_ble_eq_true rfl)) dX9_shortestRound_47 ⟨Nat.le_refl _, Nat.le_refl _⟩) (fun H locs hw => ?_)
          refine W.widen (k := 0) (n := 0) (Nat.le_refl _) (Nat.le_refl _) ?_
          refine lv_iadd hx hb dX9_shortestRound_50 ?_
          refine va_mmin (rest := []) hx hb (hml.trans hl.1.symm) hown (hts (.methodLink RX9 94 Lib.Math.min.name) (by decide +kernel)) (hts (.static Lib.Math.min.name) (by decide +kernel)) (hts (.initialized "java/lang/Math") (by decide +kernel)) (hts (.code Lib.Math.min.name Lib.Math.min.code 2 (some .int)) (by decide +kernel)) (Nat.le_of_ble_eq_true rfl) (Nat.le_of_ble_eq_true rfl) (Nat.zero_le _) (Nat.zero_le _) dX9_shortestRound_51 ?_
          refine lv_topi (fun r51 er51 => ?_)
          have h := of_bnd h er51
          refine lv_istore_n (lv' := [(2, .int r51), (4, .int q24), (0, .ref f0), (1, .int f1), (3, .int l3)]) hx hb dX9_shortestRound_54 rfl hl (by decide) rfl (fun ls hl => ?_)
          obtain ⟨x55, ex55⟩ : ∃ y : Int32, y = l3 + 1 := ⟨_, rfl⟩
          have h := of_bnd h ex55
          refine lv_iinc (v := x55) (lv' := [(3, .int x55), (2, .int r51), (4, .int q24), (0, .ref f0), (1, .int f1)]) hx hb dX9_shortestRound_55 hl (k := 4) rfl (by rw [ex55]; rfl) (by decide) rfl (fun ls hl => ?_)
          refine lv_goto (tgt := 5) hx hb dX9_shortestRound_58 (by decide) ?_
          exact ih5 r51 x55 S41 _ h _ _ hw ls (lv_sub hl [3, 4, 1, 0] rfl) kx5_0
  obtain ⟨q5, hq5, h⟩ := of_cal h
  refine lp5 a0 a1 n.1 x2 x4 S q5  hq5 _ _ hw ls (lv_sub hl [2, 3, 1, 0] rfl) ?_
  · intro t2_5 S5 eq H locs hw ls hl
    subst eq
    have h := of_un2 h
    refine lv_iload_n hx hb dX9_shortestRound_61 rfl (lv_at hl 0 rfl) ?_
    obtain ⟨rfl, rfl⟩ := of_ret2 h
    exact C_iret hx hb hr hlocks hw (by rfl) dX9_shortestRound_62

def fX9_costWithRest (n : Nat × Nat) (S : CS) (a0 : Nat) (a1 : Int32) (a2 : Int32) : Option Int32 :=
  bnd (fun (z0_14 : Int32) => grd (cD S a0 = 10) (onn (cR S 206 a0) (fun b16 => grd (cD S b16 = 52) (grd (¬ ((a1 ^^^ a2) < 0 ∨ cN S b16 ≤ (a1 ^^^ a2).toNatClampNeg)) (bnd (cA S 52 b16 (a1 ^^^ a2).toNatClampNeg) (fun v22 => some (((v22 * (16 : Int32)) + (1 : Int32)) + z0_14))))))) (fun j14 => if a2 = 0 then 
    j14 (0 : Int32)
    else grd (cD S a0 = 10) (onn (cR S 207 a0) (fun b9 => grd (cD S b9 = 53) (grd (¬ (a2 < 0 ∨ cN S b9 ≤ a2.toNatClampNeg)) (bnd (cA S 53 b9 a2.toNatClampNeg) (fun v13 => j14 v13))))))
set_option maxHeartbeats 8000000 in
set_option maxRecDepth 100000 in
theorem cX9_costWithRest_ok (l : Launch) (D : va_G) (cc : Nat → ClassId) (E : Nat → Nat) (n : Nat × Nat) (S : CS) (a0 : Nat) (a1 : Int32) (a2 : Int32) {r : Int32} (h : fX9_costWithRest n S a0 a1 a2 = some r) : Ci l yX9_costWithRest wsX9_costWithRest 0 0 D cc E [.ref a0, .int a1, .int a2] S r S 0 0 := by
  refine C_of (own := RX9) (bb := cX9_costWithRest) (nL := 4) (ret := (some .int)) (by decide) rfl rfl (Nat.le_of_ble_eq_true rfl) ?_
  intro p e s m args below meth c hx hb hr hlocks hml hts hown hnm hA hK hro hw ls hl
  generalize va_A (cPs cc S) (nx S) = A at hA hro hw ⊢
  unfold fX9_costWithRest at h
  have hinX9 : ∀ w ∈ wsX90, w ∈ wsX9_costWithRest := by decide +kernel
  have hl : lv_has ls 4 [(0, .ref a0), (1, .int a1), (2, .int a2)] := hl
  refine lv_iload_n hx hb dX9_costWithRest_0 rfl (lv_at hl 2 rfl) ?_
  obtain ⟨j14, ej14, h⟩ := of_bndE h
  have hj14 : ∀ (z0_14 : Int32), j14 z0_14 = some r → ∀ (H : Heap) (locs : List Loc), cWd D cc A s.heap S H locs → ∀ ls : Array Slot, lv_has ls 4 [(0, .ref a0), (1, .int a1), (2, .int a2)] → W p l e (cRm 0 0 0 0) s m args below meth c H locs (0) (0) (MQ below (va_Qi (fun x u => x = r ∧ u = S) (cAft D cc A) A) args s 0 0 A) (F0 m 14 ls [.int z0_14]) := by
    intro z0_14 h H locs hw ls hl
    rw [ej14] at h
    dsimp only at h
    refine lv_istore_n (lv' := [(3, .int z0_14), (0, .ref a0), (1, .int a1), (2, .int a2)]) hx hb dX9_costWithRest_14 rfl hl (by decide) rfl (fun ls hl => ?_)
    refine lv_aload_n hx hb dX9_costWithRest_15 rfl (lv_at hl 1 rfl) ?_
    obtain ⟨hf1, h⟩ := of_grd h
    obtain ⟨b16, eb16, h⟩ := of_onn h
    refine C_get hx hb hts hinX9 hown hK hw (cell_10 hf1) (by omega) rfl 6 (by decide) (index := 33) (by decide +kernel) rfl (v := .ref b16) (congrArg (fun o => some (va_rf o)) eb16) dX9_costWithRest_16 ?_
    refine lv_iload_n hx hb dX9_costWithRest_19 rfl (lv_at hl 2 rfl) ?_
    refine lv_iload_n hx hb dX9_costWithRest_20 rfl (lv_at hl 3 rfl) ?_
    refine lv_ixor hx hb dX9_costWithRest_21 ?_
    obtain ⟨hf2, h⟩ := of_grd h
    obtain ⟨hi22, h⟩ := of_grd h
    refine C_iald hx hb hK hw hf2 (by decide) (by decide) hi22 dX9_costWithRest_22 ?_
    refine lv_topi (fun v22 ev22 => ?_)
    have h := of_bnd h ev22
    refine lv_bipush (v := 16) hx hb dX9_costWithRest_23 (by decide) ?_
    refine lv_imul hx hb dX9_costWithRest_25 ?_
    refine lv_iconst (v := 1) hx hb dX9_costWithRest_26 (by decide) ?_
    refine lv_iadd hx hb dX9_costWithRest_27 ?_
    refine lv_iload_n hx hb dX9_costWithRest_28 rfl (lv_at hl 0 rfl) ?_
    refine lv_iadd hx hb dX9_costWithRest_29 ?_
    obtain rfl := Option.some.inj h
    exact C_iret hx hb hr hlocks hw (by rfl) dX9_costWithRest_30
  refine lv_if_ne (tgt := 8) hx hb dX9_costWithRest_1 (by decide) (fun c1 => ?_) (fun c1 => ?_)
  · have h := of_if h c1
    refine lv_aload_n hx hb dX9_costWithRest_8 rfl (lv_at hl 0 rfl) ?_
    obtain ⟨hf3, h⟩ := of_grd h
    obtain ⟨b9, eb9, h⟩ := of_onn h
    refine C_get hx hb hts hinX9 hown hK hw (cell_10 hf3) (by omega) rfl 7 (by decide) (index := 36) (by decide +kernel) rfl (v := .ref b9) (congrArg (fun o => some (va_rf o)) eb9) dX9_costWithRest_9 ?_
    refine lv_iload_n hx hb dX9_costWithRest_12 rfl (lv_at hl 2 rfl) ?_
    obtain ⟨hf4, h⟩ := of_grd h
    obtain ⟨hi13, h⟩ := of_grd h
    refine C_iald hx hb hK hw hf4 (by decide) (by decide) hi13 dX9_costWithRest_13 ?_
    refine lv_topi (fun v13 ev13 => ?_)
    have h := of_bnd h ev13
    exact hj14 v13 h _ _ hw ls (lv_sub hl [0, 1, 2] rfl)
  · have h := of_it h c1
    refine lv_iconst (v := 0) hx hb dX9_costWithRest_4 (by decide) ?_
    refine lv_goto (tgt := 14) hx hb dX9_costWithRest_5 (by decide) ?_
    exact hj14 (0 : Int32) h _ _ hw ls (lv_sub hl [0, 1, 2] rfl)

def fX9_cheapestParting_lp16 (n : Nat × Nat) (S : CS) (f0 : Nat) (f1 : Int32) (f3 : Int32) : Nat → Int32 → Int32 → Option (Int32)
  | 0, _, _ => none
  | k + 1, l2, l4 =>
    if l4 ≤ 0 then 
        some l2
        else grd (cD S f0 = 10) (cal (fX9_costWithRest n S f0 f1 l4) (fun q26 => bnd (if q26 < l2 then q26 else l2) (fun r29 => bnd ((l4 - (1 : Int32)) &&& f3) (fun x39 => fX9_cheapestParting_lp16 n S f0 f1 f3 k r29 x39 ))))
def fX9_cheapestParting (n : Nat × Nat) (S : CS) (a0 : Nat) (a1 : Int32) : Option Int32 :=
  grd (cD S a0 = 10) (cal (fX9_costWithRest n S a0 a1 (0 : Int32)) (fun q3 => bnd (a1 &&& (a1 - (1 : Int32))) (fun x12 => cal (fX9_cheapestParting_lp16 n S a0 a1 x12 n.1 q3 x12 ) (fun t2_16 => some t2_16))))
set_option maxHeartbeats 8000000 in
set_option maxRecDepth 100000 in
theorem cX9_cheapestParting_ok (l : Launch) (D : va_G) (cc : Nat → ClassId) (E : Nat → Nat) (n : Nat × Nat) (S : CS) (a0 : Nat) (a1 : Int32) {r : Int32} (h : fX9_cheapestParting n S a0 a1 = some r) : Ci l yX9_cheapestParting wsX9_cheapestParting 1 23 D cc E [.ref a0, .int a1] S r S 0 0 := by
  refine C_of (own := RX9) (bb := cX9_cheapestParting) (nL := 5) (ret := (some .int)) (by decide) rfl rfl (Nat.le_of_ble_eq_true rfl) ?_
  intro p e s m args below meth c hx hb hr hlocks hml hts hown hnm hA hK hro hw ls hl
  generalize va_A (cPs cc S) (nx S) = A at hA hro hw ⊢
  unfold fX9_cheapestParting at h
  have hl : lv_has ls 5 [(0, .ref a0), (1, .int a1)] := hl
  refine lv_aload_n hx hb dX9_cheapestParting_0 rfl (lv_at hl 0 rfl) ?_
  refine lv_iload_n hx hb dX9_cheapestParting_1 rfl (lv_at hl 1 rfl) ?_
  refine lv_iconst (v := 0) hx hb dX9_cheapestParting_2 (by decide) ?_
  obtain ⟨hf1, h⟩ := of_grd h
  obtain ⟨q3, hq3, h⟩ := of_cal h
  refine C_i hA hw (va_runV (As := [.int a1, .int (0 : Int32)]) (rest := []) ⟨hx, hb, hml, hown, hts⟩ (cX9_costWithRest_ok l D cc E n S a0 a1 (0 : Int32) hq3) (cwV 2 hts gX9_cheapestParting_X9_costWithRest rfl rfl rfl (by decide +kernel) ⟨Nat.le_of_ble_eq_true rfl, Nat.le_of_ble_eq_true rfl⟩) ⟨cBlind D cc E S _, C_recv hK hw (by omega) (cell_10 hf1) (r := (RX9, TX9, 10)) rfl, fun U hU hW => ⟨rfl, C_pre hA hK hro hw U hU hW⟩⟩ rfl rfl hl.1 rfl (lv_room (Nat.le_of_ble_eq_true rfl)) dX9_cheapestParting_3 ⟨Nat.le_refl _, Nat.le_refl _⟩) (fun H locs hw => ?_)
  refine W.widen (k := 0) (n := 0) (Nat.le_refl _) (Nat.le_refl _) ?_
  refine lv_istore_n (lv' := [(2, .int q3), (0, .ref a0), (1, .int a1)]) hx hb dX9_cheapestParting_6 rfl hl (by decide) rfl (fun ls hl => ?_)
  refine lv_iload_n hx hb dX9_cheapestParting_7 rfl (lv_at hl 2 rfl) ?_
  refine lv_iload_n hx hb dX9_cheapestParting_8 rfl (lv_at hl 2 rfl) ?_
  refine lv_iconst (v := 1) hx hb dX9_cheapestParting_9 (by decide) ?_
  refine lv_isub hx hb dX9_cheapestParting_10 ?_
  refine lv_iand hx hb dX9_cheapestParting_11 ?_
  refine lv_topi (fun x12 ex12 => ?_)
  have h := of_bnd h ex12
  refine lv_istore_n (lv' := [(3, .int x12), (2, .int q3), (0, .ref a0), (1, .int a1)]) hx hb dX9_cheapestParting_12 rfl hl (by decide) rfl (fun ls hl => ?_)
  refine lv_iload_n hx hb dX9_cheapestParting_13 rfl (lv_at hl 0 rfl) ?_
  refine lv_istore (lv' := [(4, .int x12), (3, .int x12), (2, .int q3), (0, .ref a0), (1, .int a1)]) hx hb dX9_cheapestParting_14 hl (by decide) rfl (fun ls hl => ?_)
  have lp16 : ∀ (f0 : Nat) (f1 : Int32) (f3 : Int32) (S : CS) (k : Nat) (l2 : Int32) (l4 : Int32) (q : Int32) , fX9_cheapestParting_lp16 n S f0 f1 f3 k l2 l4  = some q → ∀ (H : Heap) (locs : List Loc), cWd D cc A s.heap S H locs → ∀ ls : Array Slot, lv_has ls 5 [(0, .ref f0), (1, .int f1), (3, .int f3), (2, .int l2), (4, .int l4)] → (∀ (t2 : Int32), t2 = q → ∀ (H : Heap) (locs : List Loc), cWd D cc A s.heap S H locs → ∀ ls : Array Slot, lv_has ls 5 [(2, .int t2)] → W p l e (cRm 1 23 0 0) s m args below meth c H locs (0) (0) (MQ below (va_Qi (fun x u => x = r ∧ u = S) (cAft D cc A) A) args s 0 0 A) (F0 m 44 ls [])) → W p l e (cRm 1 23 0 0) s m args below meth c H locs (0) (0) (MQ below (va_Qi (fun x u => x = r ∧ u = S) (cAft D cc A) A) args s 0 0 A) (F0 m 16 ls []) := by
    intro f0 f1 f3 S k
    induction k with
    | zero => intro l2 l4 q h; rw [fX9_cheapestParting_lp16] at h; cases h
    | succ k ih16 =>
      intro l2 l4 q h H locs hw ls hl kx16_0
      rw [fX9_cheapestParting_lp16] at h
      refine lv_iload hx hb dX9_cheapestParting_16 (lv_at hl 4 rfl) ?_
      refine lv_if_le (tgt := 44) hx hb dX9_cheapestParting_18 (by decide) (fun c18 => ?_) (fun c18 => ?_)
      · have h := of_it h c18
        exact kx16_0 l2 (Option.some.inj h) _ _ hw ls (lv_sub hl [3] rfl)
      · have h := of_if h c18
        refine lv_iload_n hx hb dX9_cheapestParting_21 rfl (lv_at hl 3 rfl) ?_
        refine lv_aload_n hx hb dX9_cheapestParting_22 rfl (lv_at hl 0 rfl) ?_
        refine lv_iload_n hx hb dX9_cheapestParting_23 rfl (lv_at hl 1 rfl) ?_
        refine lv_iload hx hb dX9_cheapestParting_24 (lv_at hl 4 rfl) ?_
        obtain ⟨hf2, h⟩ := of_grd h
        obtain ⟨q26, hq26, h⟩ := of_cal h
        refine C_i hA hw (va_runV (As := [.int f1, .int l4]) (rest := [.int l2]) ⟨hx, hb, hml, hown, hts⟩ (cX9_costWithRest_ok l D cc E n S f0 f1 l4 hq26) (cwV 2 hts gX9_cheapestParting_X9_costWithRest rfl rfl rfl (by decide +kernel) ⟨Nat.le_of_ble_eq_true rfl, Nat.le_of_ble_eq_true rfl⟩) ⟨cBlind D cc E S _, C_recv hK hw (by omega) (cell_10 hf2) (r := (RX9, TX9, 10)) rfl, fun U hU hW => ⟨rfl, C_pre hA hK hro hw U hU hW⟩⟩ rfl rfl hl.1 rfl (lv_room (Nat.le_of_ble_eq_true rfl)) dX9_cheapestParting_26 ⟨Nat.le_refl _, Nat.le_refl _⟩) (fun H locs hw => ?_)
        refine W.widen (k := 0) (n := 0) (Nat.le_refl _) (Nat.le_refl _) ?_
        refine va_mmin (rest := []) hx hb (hml.trans hl.1.symm) hown (hts (.methodLink RX9 94 Lib.Math.min.name) (by decide +kernel)) (hts (.static Lib.Math.min.name) (by decide +kernel)) (hts (.initialized "java/lang/Math") (by decide +kernel)) (hts (.code Lib.Math.min.name Lib.Math.min.code 2 (some .int)) (by decide +kernel)) (Nat.le_of_ble_eq_true rfl) (Nat.le_of_ble_eq_true rfl) (Nat.zero_le _) (Nat.zero_le _) dX9_cheapestParting_29 ?_
        refine lv_topi (fun r29 er29 => ?_)
        have h := of_bnd h er29
        refine lv_istore_n (lv' := [(2, .int r29), (0, .ref f0), (1, .int f1), (3, .int f3), (4, .int l4)]) hx hb dX9_cheapestParting_32 rfl hl (by decide) rfl (fun ls hl => ?_)
        refine lv_iload hx hb dX9_cheapestParting_33 (lv_at hl 4 rfl) ?_
        refine lv_iconst (v := 1) hx hb dX9_cheapestParting_35 (by decide) ?_
        refine lv_isub hx hb dX9_cheapestParting_36 ?_
        refine lv_iload_n hx hb dX9_cheapestParting_37 rfl (lv_at hl 3 rfl) ?_
        refine lv_iand hx hb dX9_cheapestParting_38 ?_
        refine lv_topi (fun x39 ex39 => ?_)
        have h := of_bnd h ex39
        refine lv_istore (lv' := [(4, .int x39), (2, .int r29), (0, .ref f0), (1, .int f1), (3, .int f3)]) hx hb dX9_cheapestParting_39 hl (by decide) rfl (fun ls hl => ?_)
        refine lv_goto (tgt := 16) hx hb dX9_cheapestParting_41 (by decide) ?_
        exact ih16 r29 x39 _ h _ _ hw ls (lv_sub hl [2, 3, 4, 1, 0] rfl) kx16_0
  obtain ⟨q16, hq16, h⟩ := of_cal h
  refine lp16 a0 a1 x12 S n.1 q3 x12 q16  hq16 _ _ hw ls (lv_sub hl [3, 4, 1, 2, 0] rfl) ?_
  · intro t2_16 eq H locs hw ls hl
    subst eq
    refine lv_iload_n hx hb dX9_cheapestParting_44 rfl (lv_at hl 0 rfl) ?_
    obtain rfl := Option.some.inj h
    exact C_iret hx hb hr hlocks hw (by rfl) dX9_cheapestParting_45

def fX9_addStop (n : Nat × Nat) (S : CS) (a0 : Nat) (a1 : Int32) : Option (CS) :=
  grd (cD S a0 = 10) (bnd (cI S 209 a0) (fun v1 => if (15 : Int32) ≤ v1 then 
    some S
    else onn (cR S 208 a0) (fun b10 => bnd (cI S 209 a0) (fun v14 => grd (cD S b10 = 54) (grd (¬ (v14 < 0 ∨ cN S b10 ≤ v14.toNatClampNeg)) (bnd (uA S 54 b10 v14.toNatClampNeg a1) (fun S18 => bnd (cI S18 209 a0) (fun v21 => bnd (uI S18 209 a0 (v21 + (1 : Int32))) (fun S26 => some S26)))))))))
set_option maxHeartbeats 8000000 in
set_option maxRecDepth 100000 in
theorem cX9_addStop_ok (l : Launch) (D : va_G) (cc : Nat → ClassId) (E : Nat → Nat) (n : Nat × Nat) (S : CS) (a0 : Nat) (a1 : Int32) {T : CS} (h : fX9_addStop n S a0 a1 = some T) : Cv l yX9_addStop wsX9_addStop 0 0 D cc E [.ref a0, .int a1] S T 0 0 := by
  refine C_of (own := RX9) (bb := cX9_addStop) (nL := 2) (ret := none) (by decide) rfl rfl (Nat.le_of_ble_eq_true rfl) ?_
  intro p e s m args below meth c hx hb hr hlocks hml hts hown hnm hA hK hro hw ls hl
  generalize va_A (cPs cc S) (nx S) = A at hA hro hw ⊢
  unfold fX9_addStop at h
  have hinX9 : ∀ w ∈ wsX90, w ∈ wsX9_addStop := by decide +kernel
  have hl : lv_has ls 2 [(0, .ref a0), (1, .int a1)] := hl
  refine lv_aload_n hx hb dX9_addStop_0 rfl (lv_at hl 0 rfl) ?_
  obtain ⟨hf1, h⟩ := of_grd h
  refine C_get hx hb hts hinX9 hown hK hw (cell_10 hf1) (by omega) rfl 9 (by decide) (index := 42) (by decide +kernel) rfl rfl dX9_addStop_1 ?_
  refine lv_topi (fun v1 ev1 => ?_)
  have h := of_bnd h ev1
  refine lv_bipush (v := 15) hx hb dX9_addStop_4 (by decide) ?_
  refine lv_icmp_ge (tgt := 29) hx hb dX9_addStop_6 (by decide) (fun c6 => ?_) (fun c6 => ?_)
  · have h := of_it h c6
    obtain rfl := Option.some.inj h
    exact C_vret hx hb hr hlocks hw dX9_addStop_29
  · have h := of_if h c6
    refine lv_aload_n hx hb dX9_addStop_9 rfl (lv_at hl 0 rfl) ?_
    obtain ⟨b10, eb10, h⟩ := of_onn h
    refine C_get hx hb hts hinX9 hown hK hw (cell_10 hf1) (by omega) rfl 8 (by decide) (index := 39) (by decide +kernel) rfl (v := .ref b10) (congrArg (fun o => some (va_rf o)) eb10) dX9_addStop_10 ?_
    refine lv_aload_n hx hb dX9_addStop_13 rfl (lv_at hl 0 rfl) ?_
    refine C_get hx hb hts hinX9 hown hK hw (cell_10 hf1) (by omega) rfl 9 (by decide) (index := 42) (by decide +kernel) rfl rfl dX9_addStop_14 ?_
    refine lv_topi (fun v14 ev14 => ?_)
    have h := of_bnd h ev14
    refine lv_iload_n hx hb dX9_addStop_17 rfl (lv_at hl 1 rfl) ?_
    obtain ⟨hf2, h⟩ := of_grd h
    obtain ⟨hi18, h⟩ := of_grd h
    refine C_iast hx hb hK hw hf2 (by decide) (by decide) hi18 dX9_addStop_18 (fun S18 H locs eS18 hw => ?_)
    have h := of_bnd h eS18
    refine lv_aload_n hx hb dX9_addStop_19 rfl (lv_at hl 0 rfl) ?_
    refine lv_dup hx hb dX9_addStop_20 rfl ?_
    have hf3 : cD S18 a0 = 10 := by rw [eS18]; exact hf1
    refine C_get hx hb hts hinX9 hown hK hw (cell_10 hf3) (by omega) rfl 9 (by decide) (index := 42) (by decide +kernel) rfl rfl dX9_addStop_21 ?_
    refine lv_topi (fun v21 ev21 => ?_)
    have h := of_bnd h ev21
    refine lv_iconst (v := 1) hx hb dX9_addStop_24 (by decide) ?_
    refine lv_iadd hx hb dX9_addStop_25 ?_
    refine C_put hx hb hts hinX9 tyX9 tyX9_ok nmX9 hown hK hw (cell_10 hf3) (by omega) rfl 9 (by decide) (index := 42) (by decide +kernel) rfl rfl (ty := .int) (by decide +kernel) rfl rfl (Nat.le_of_ble_eq_true rfl) (S' := uI S18 209 a0 (v21 + (1 : Int32))) rfl rfl rfl (pu_209 hf3 (v21 + (1 : Int32))) (fun b hb => off_uI hb) dX9_addStop_26 (fun S26 H locs eS26 hw => ?_)
    have h := of_bnd h eS26
    obtain rfl := Option.some.inj h
    exact C_vret hx hb hr hlocks hw dX9_addStop_29

def fX9_addRound_lp3 (n : Nat × Nat) (f0 : Nat) (f1 : Int64) : Nat → Int32 → CS → Option (CS)
  | 0, _, _ => none
  | k + 1, l3, S =>
    if l3 ≤ 0 then 
        some S
        else bnd ((f1 >>> (l3.toInt64 &&& 63)).toInt32 &&& (15 : Int32)) (fun x14 => if x14 = (12 : Int32) then 
          bnd (l3 + -4) (fun x29 => fX9_addRound_lp3 n f0 f1 k x29 S)
          else grd (cD S f0 = 10) (cal (fX9_addStop n S f0 x14) (fun S26 => bnd (l3 + -4) (fun x29 => fX9_addRound_lp3 n f0 f1 k x29 S26))))
def fX9_addRound (n : Nat × Nat) (S : CS) (a0 : Nat) (a1 : Int64) : Option (CS) :=
  bnd (32 : Int32) (fun x2 => cal (fX9_addRound_lp3 n a0 a1 n.1 x2 S) (fun S3 => some S3))
set_option maxHeartbeats 8000000 in
set_option maxRecDepth 100000 in
theorem cX9_addRound_ok (l : Launch) (D : va_G) (cc : Nat → ClassId) (E : Nat → Nat) (n : Nat × Nat) (S : CS) (a0 : Nat) (a1 : Int64) {T : CS} (h : fX9_addRound n S a0 a1 = some T) : Cv l yX9_addRound wsX9_addRound 1 21 D cc E [.ref a0, .long a1] S T 0 0 := by
  refine C_of (own := RX9) (bb := cX9_addRound) (nL := 5) (ret := none) (by decide) rfl rfl (Nat.le_of_ble_eq_true rfl) ?_
  intro p e s m args below meth c hx hb hr hlocks hml hts hown hnm hA hK hro hw ls hl
  generalize va_A (cPs cc S) (nx S) = A at hA hro hw ⊢
  unfold fX9_addRound at h
  have hl : lv_has ls 5 [(0, .ref a0), (1, .long a1)] := hl
  refine lv_bipush (v := 32) hx hb dX9_addRound_0 (by decide) ?_
  refine lv_topi (fun x2 ex2 => ?_)
  have h := of_bnd h ex2
  refine lv_istore_n (lv' := [(3, .int x2), (0, .ref a0), (1, .long a1)]) hx hb dX9_addRound_2 rfl hl (by decide) rfl (fun ls hl => ?_)
  have lp3 : ∀ (f0 : Nat) (f1 : Int64) (k : Nat) (l3 : Int32) (S : CS) (q : CS) , fX9_addRound_lp3 n f0 f1 k l3 S = some q → ∀ (H : Heap) (locs : List Loc), cWd D cc A s.heap S H locs → ∀ ls : Array Slot, lv_has ls 5 [(0, .ref f0), (1, .long f1), (3, .int l3)] → (∀  (S1 : CS), S1 = q → ∀ (H : Heap) (locs : List Loc), cWd D cc A s.heap S1 H locs → ∀ ls : Array Slot, lv_has ls 5 [] → W p l e (cRm 1 21 0 0) s m args below meth c H locs (0) (0) (MQ below (va_Qv (fun u => u = T) (cAft D cc A) A) args s 0 0 A) (F0 m 35 ls [])) → W p l e (cRm 1 21 0 0) s m args below meth c H locs (0) (0) (MQ below (va_Qv (fun u => u = T) (cAft D cc A) A) args s 0 0 A) (F0 m 3 ls []) := by
    intro f0 f1 k
    induction k with
    | zero => intro l3 S q h; rw [fX9_addRound_lp3] at h; cases h
    | succ k ih3 =>
      intro l3 S q h H locs hw ls hl kx3_0
      rw [fX9_addRound_lp3] at h
      refine lv_iload_n hx hb dX9_addRound_3 rfl (lv_at hl 2 rfl) ?_
      refine lv_if_le (tgt := 35) hx hb dX9_addRound_4 (by decide) (fun c4 => ?_) (fun c4 => ?_)
      · have h := of_it h c4
        exact kx3_0 S (Option.some.inj h) _ _ hw ls (lv_sub hl [] rfl)
      · have h := of_if h c4
        refine lv_lload_n hx hb dX9_addRound_7 rfl (lv_at hl 1 rfl) ?_
        refine lv_iload_n hx hb dX9_addRound_8 rfl (lv_at hl 2 rfl) ?_
        refine lv_lshr hx hb dX9_addRound_9 rfl ?_
        refine lv_l2i hx hb dX9_addRound_10 rfl ?_
        refine lv_bipush (v := 15) hx hb dX9_addRound_11 (by decide) ?_
        refine lv_iand hx hb dX9_addRound_13 ?_
        refine lv_topi (fun x14 ex14 => ?_)
        have h := of_bnd h ex14
        refine lv_istore (lv' := [(4, .int x14), (0, .ref f0), (1, .long f1), (3, .int l3)]) hx hb dX9_addRound_14 hl (by decide) rfl (fun ls hl => ?_)
        refine lv_iload hx hb dX9_addRound_16 (lv_at hl 0 rfl) ?_
        refine lv_bipush (v := 12) hx hb dX9_addRound_18 (by decide) ?_
        refine lv_icmp_eq (tgt := 29) hx hb dX9_addRound_20 (by decide) (fun c20 => ?_) (fun c20 => ?_)
        · have h := of_it h c20
          obtain ⟨x29, ex29⟩ : ∃ y : Int32, y = l3 + -4 := ⟨_, rfl⟩
          have h := of_bnd h ex29
          refine lv_iinc (v := x29) (lv' := [(3, .int x29), (4, .int x14), (0, .ref f0), (1, .long f1)]) hx hb dX9_addRound_29 hl (k := 3) rfl (by rw [ex29]; rfl) (by decide) rfl (fun ls hl => ?_)
          refine lv_goto (tgt := 3) hx hb dX9_addRound_32 (by decide) ?_
          exact ih3 x29 S _ h _ _ hw ls (lv_sub hl [2, 3, 0] rfl) kx3_0
        · have h := of_if h c20
          refine lv_aload_n hx hb dX9_addRound_23 rfl (lv_at hl 1 rfl) ?_
          refine lv_iload hx hb dX9_addRound_24 (lv_at hl 0 rfl) ?_
          obtain ⟨hf1, h⟩ := of_grd h
          obtain ⟨q26, hq26, h⟩ := of_cal h
          obtain ⟨S26, eS26⟩ : ∃ x, x = q26 := ⟨_, rfl⟩
          subst eS26
          refine C_v hA hw (va_runV (As := [.int x14]) (rest := []) ⟨hx, hb, hml, hown, hts⟩ (cX9_addStop_ok l D cc E n S f0 x14 hq26) (cwV 1 hts gX9_addRound_X9_addStop rfl rfl rfl (by decide +kernel) ⟨Nat.le_of_ble_eq_true rfl, Nat.le_of_ble_eq_true rfl⟩) ⟨cBlind D cc E S _, C_recv hK hw (by omega) (cell_10 hf1) (r := (RX9, TX9, 10)) rfl, fun U hU hW => ⟨rfl, C_pre hA hK hro hw U hU hW⟩⟩ rfl rfl hl.1 rfl (lv_room (Nat.le_of_ble_eq_true rfl)) dX9_addRound_26 ⟨Nat.le_refl _, Nat.le_refl _⟩) (fun H locs hw => ?_)
          refine W.widen (k := 0) (n := 0) (Nat.le_refl _) (Nat.le_refl _) ?_
          obtain ⟨x29, ex29⟩ : ∃ y : Int32, y = l3 + -4 := ⟨_, rfl⟩
          have h := of_bnd h ex29
          refine lv_iinc (v := x29) (lv' := [(3, .int x29), (4, .int x14), (0, .ref f0), (1, .long f1)]) hx hb dX9_addRound_29 hl (k := 3) rfl (by rw [ex29]; rfl) (by decide) rfl (fun ls hl => ?_)
          refine lv_goto (tgt := 3) hx hb dX9_addRound_32 (by decide) ?_
          exact ih3 x29 S26 _ h _ _ hw ls (lv_sub hl [2, 3, 0] rfl) kx3_0
  obtain ⟨q3, hq3, h⟩ := of_cal h
  refine lp3 a0 a1 n.1 x2 S q3  hq3 _ _ hw ls (lv_sub hl [1, 2, 0] rfl) ?_
  · intro S3 eq H locs hw ls hl
    subst eq
    obtain rfl := Option.some.inj h
    exact C_vret hx hb hr hlocks hw dX9_addRound_35

def fX9_nextMember_lp3 (n : Nat × Nat) (S : CS) (f0 : Nat) (f1 : Int32) (f2 : Int32) (f3 : Int32) : Nat → Int32 → Option (Nat × Int32)
  | 0, _ => none
  | k + 1, l4 =>
    grd (cD S f0 = 10) (bnd (cI S 203 f0) (fun v6 => if v6 ≤ l4 then 
        some (1, l4)
        else bnd (fX9_isIn f1 l4) (fun r15 => if r15 = 0 then 
          bnd (l4 + 1) (fun x66 => fX9_nextMember_lp3 n S f0 f1 f2 f3 k x66 )
          else bnd (fun (z0_42 : Int32) => onn (cR S 205 f0) (fun b47 => grd (cD S b47 = 51) (grd (¬ (((f1 * (8 : Int32)) + l4) < 0 ∨ cN S b47 ≤ ((f1 * (8 : Int32)) + l4).toNatClampNeg)) (bnd (cA S 51 b47 ((f1 * (8 : Int32)) + l4).toNatClampNeg) (fun v57 => if (z0_42 + v57) = f3 then 
              some (0, l4)
              else bnd (l4 + 1) (fun x66 => fX9_nextMember_lp3 n S f0 f1 f2 f3 k x66 )))))) (fun j42 => if f2 = (-1 : Int32) then 
            cal (fX9_fromHouse n S f0 l4) (fun q29 => j42 q29)
            else cal (fX9_between n S f0 f2 l4) (fun q39 => j42 q39)))))
def fX9_nextMember (n : Nat × Nat) (S : CS) (a0 : Nat) (a1 : Int32) (a2 : Int32) (a3 : Int32) : Option Int32 :=
  bnd (0 : Int32) (fun x1 => cal (fX9_nextMember_lp3 n S a0 a1 a2 a3 n.1 x1 ) (un2 fun e3 t4_3 => if e3 = 0 then some t4_3 else some (-1 : Int32)))
set_option maxHeartbeats 8000000 in
set_option maxRecDepth 100000 in
theorem cX9_nextMember_ok (l : Launch) (D : va_G) (cc : Nat → ClassId) (E : Nat → Nat) (n : Nat × Nat) (S : CS) (a0 : Nat) (a1 : Int32) (a2 : Int32) (a3 : Int32) {r : Int32} (h : fX9_nextMember n S a0 a1 a2 a3 = some r) : Ci l yX9_nextMember wsX9_nextMember 1 22 D cc E [.ref a0, .int a1, .int a2, .int a3] S r S 0 0 := by
  refine C_of (own := RX9) (bb := cX9_nextMember) (nL := 6) (ret := (some .int)) (by decide) rfl rfl (Nat.le_of_ble_eq_true rfl) ?_
  intro p e s m args below meth c hx hb hr hlocks hml hts hown hnm hA hK hro hw ls hl
  generalize va_A (cPs cc S) (nx S) = A at hA hro hw ⊢
  unfold fX9_nextMember at h
  have hinX9 : ∀ w ∈ wsX90, w ∈ wsX9_nextMember := by decide +kernel
  have hl : lv_has ls 6 [(0, .ref a0), (1, .int a1), (2, .int a2), (3, .int a3)] := hl
  refine lv_iconst (v := 0) hx hb dX9_nextMember_0 (by decide) ?_
  refine lv_topi (fun x1 ex1 => ?_)
  have h := of_bnd h ex1
  refine lv_istore (lv' := [(4, .int x1), (0, .ref a0), (1, .int a1), (2, .int a2), (3, .int a3)]) hx hb dX9_nextMember_1 hl (by decide) rfl (fun ls hl => ?_)
  have lp3 : ∀ (f0 : Nat) (f1 : Int32) (f2 : Int32) (f3 : Int32) (S : CS) (k : Nat) (l4 : Int32) (q : Nat × Int32) , fX9_nextMember_lp3 n S f0 f1 f2 f3 k l4  = some q → ∀ (H : Heap) (locs : List Loc), cWd D cc A s.heap S H locs → ∀ ls : Array Slot, lv_has ls 6 [(0, .ref f0), (1, .int f1), (2, .int f2), (3, .int f3), (4, .int l4)] → (∀ (t4 : Int32), (0, t4) = q → ∀ (H : Heap) (locs : List Loc), cWd D cc A s.heap S H locs → ∀ ls : Array Slot, lv_has ls 6 [(4, .int t4)] → W p l e (cRm 1 22 0 0) s m args below meth c H locs (0) (0) (MQ below (va_Qi (fun x u => x = r ∧ u = S) (cAft D cc A) A) args s 0 0 A) (F0 m 63 ls [])) → (∀ (t4 : Int32), (1, t4) = q → ∀ (H : Heap) (locs : List Loc), cWd D cc A s.heap S H locs → ∀ ls : Array Slot, lv_has ls 6 [] → W p l e (cRm 1 22 0 0) s m args below meth c H locs (0) (0) (MQ below (va_Qi (fun x u => x = r ∧ u = S) (cAft D cc A) A) args s 0 0 A) (F0 m 72 ls [])) → W p l e (cRm 1 22 0 0) s m args below meth c H locs (0) (0) (MQ below (va_Qi (fun x u => x = r ∧ u = S) (cAft D cc A) A) args s 0 0 A) (F0 m 3 ls []) := by
    intro f0 f1 f2 f3 S k
    induction k with
    | zero => intro l4 q h; rw [fX9_nextMember_lp3] at h; cases h
    | succ k ih3 =>
      intro l4 q h H locs hw ls hl kx3_0 kx3_1
      rw [fX9_nextMember_lp3] at h
      refine lv_iload hx hb dX9_nextMember_3 (lv_at hl 4 rfl) ?_
      refine lv_aload_n hx hb dX9_nextMember_5 rfl (lv_at hl 0 rfl) ?_
      obtain ⟨hf1, h⟩ := of_grd h
      refine C_get hx hb hts hinX9 hown hK hw (cell_10 hf1) (by omega) rfl 3 (by decide) (index := 23) (by decide +kernel) rfl rfl dX9_nextMember_6 ?_
      refine lv_topi (fun v6 ev6 => ?_)
      have h := of_bnd h ev6
      refine lv_icmp_ge (tgt := 72) hx hb dX9_nextMember_9 (by decide) (fun c9 => ?_) (fun c9 => ?_)
      · have h := of_it h c9
        exact kx3_1 l4 (Option.some.inj h) _ _ hw ls (lv_sub hl [] rfl)
      · have h := of_if h c9
        refine lv_iload_n hx hb dX9_nextMember_12 rfl (lv_at hl 1 rfl) ?_
        refine lv_iload hx hb dX9_nextMember_13 (lv_at hl 4 rfl) ?_
        refine C_s (va_runS (As := [.int f1, .int l4]) (rest := []) ⟨hx, hb, hml, hown, hts⟩ (cX9_isIn_ok l f1 l4) (va_cwS 2 hts gX9_nextMember_X9_isIn rfl rfl rfl (by decide +kernel) ⟨Nat.le_of_ble_eq_true rfl, Nat.le_of_ble_eq_true rfl⟩) ⟨fun a U g mk q => ⟨q.1, trivial⟩, fun U hU hW => ⟨rfl, trivial⟩⟩ rfl rfl hl.1 rfl (lv_room (Nat.le_of_ble_eq_true rfl)) dX9_nextMember_15 ⟨Nat.le_refl _, Nat.le_refl _⟩) (fun r15 er15 => ?_)
        have h := of_bnd h er15
        refine lv_if_eq (tgt := 66) hx hb dX9_nextMember_18 (by decide) (fun c18 => ?_) (fun c18 => ?_)
        · have h := of_it h c18
          obtain ⟨x66, ex66⟩ : ∃ y : Int32, y = l4 + 1 := ⟨_, rfl⟩
          have h := of_bnd h ex66
          refine lv_iinc (v := x66) (lv' := [(4, .int x66), (0, .ref f0), (1, .int f1), (2, .int f2), (3, .int f3)]) hx hb dX9_nextMember_66 hl (k := 4) rfl (by rw [ex66]; rfl) (by decide) rfl (fun ls hl => ?_)
          refine lv_goto (tgt := 3) hx hb dX9_nextMember_69 (by decide) ?_
          exact ih3 x66 _ h _ _ hw ls (lv_sub hl [1, 2, 3, 4, 0] rfl) kx3_0 kx3_1
        · have h := of_if h c18
          refine lv_iload_n hx hb dX9_nextMember_21 rfl (lv_at hl 2 rfl) ?_
          refine lv_iconst (v := -1) hx hb dX9_nextMember_22 (by decide) ?_
          obtain ⟨j42, ej42, h⟩ := of_bndE h
          have hj42 : ∀ (z0_42 : Int32), j42 z0_42 = some q → ∀ (H : Heap) (locs : List Loc), cWd D cc A s.heap S H locs → ∀ ls : Array Slot, lv_has ls 6 [(0, .ref f0), (1, .int f1), (2, .int f2), (3, .int f3), (4, .int l4)] → W p l e (cRm 1 22 0 0) s m args below meth c H locs (0) (0) (MQ below (va_Qi (fun x u => x = r ∧ u = S) (cAft D cc A) A) args s 0 0 A) (F0 m 42 ls [.int z0_42]) := by
            intro z0_42 h H locs hw ls hl
            rw [ej42] at h
            dsimp only at h
            refine lv_istore (lv' := [(5, .int z0_42), (0, .ref f0), (1, .int f1), (2, .int f2), (3, .int f3), (4, .int l4)]) hx hb dX9_nextMember_42 hl (by decide) rfl (fun ls hl => ?_)
            refine lv_iload hx hb dX9_nextMember_44 (lv_at hl 0 rfl) ?_
            refine lv_aload_n hx hb dX9_nextMember_46 rfl (lv_at hl 1 rfl) ?_
            obtain ⟨b47, eb47, h⟩ := of_onn h
            refine C_get hx hb hts hinX9 hown hK hw (cell_10 hf1) (by omega) rfl 5 (by decide) (index := 30) (by decide +kernel) rfl (v := .ref b47) (congrArg (fun o => some (va_rf o)) eb47) dX9_nextMember_47 ?_
            refine lv_iload_n hx hb dX9_nextMember_50 rfl (lv_at hl 2 rfl) ?_
            refine lv_bipush (v := 8) hx hb dX9_nextMember_51 (by decide) ?_
            refine lv_imul hx hb dX9_nextMember_53 ?_
            refine lv_iload hx hb dX9_nextMember_54 (lv_at hl 5 rfl) ?_
            refine lv_iadd hx hb dX9_nextMember_56 ?_
            obtain ⟨hf2, h⟩ := of_grd h
            obtain ⟨hi57, h⟩ := of_grd h
            refine C_iald hx hb hK hw hf2 (by decide) (by decide) hi57 dX9_nextMember_57 ?_
            refine lv_topi (fun v57 ev57 => ?_)
            have h := of_bnd h ev57
            refine lv_iadd hx hb dX9_nextMember_58 ?_
            refine lv_iload_n hx hb dX9_nextMember_59 rfl (lv_at hl 4 rfl) ?_
            refine lv_icmp_ne (tgt := 66) hx hb dX9_nextMember_60 (by decide) (fun c60 => ?_) (fun c60 => ?_)
            · have h := of_if h c60
              obtain ⟨x66, ex66⟩ : ∃ y : Int32, y = l4 + 1 := ⟨_, rfl⟩
              have h := of_bnd h ex66
              refine lv_iinc (v := x66) (lv' := [(4, .int x66), (5, .int z0_42), (0, .ref f0), (1, .int f1), (2, .int f2), (3, .int f3)]) hx hb dX9_nextMember_66 hl (k := 5) rfl (by rw [ex66]; rfl) (by decide) rfl (fun ls hl => ?_)
              refine lv_goto (tgt := 3) hx hb dX9_nextMember_69 (by decide) ?_
              exact ih3 x66 _ h _ _ hw ls (lv_sub hl [2, 3, 4, 5, 0] rfl) kx3_0 kx3_1
            · have h := of_it h c60
              exact kx3_0 l4 (Option.some.inj h) _ _ hw ls (lv_sub hl [5] rfl)
          refine lv_icmp_ne (tgt := 35) hx hb dX9_nextMember_23 (by decide) (fun c23 => ?_) (fun c23 => ?_)
          · have h := of_if h c23
            refine lv_aload_n hx hb dX9_nextMember_35 rfl (lv_at hl 0 rfl) ?_
            refine lv_iload_n hx hb dX9_nextMember_36 rfl (lv_at hl 2 rfl) ?_
            refine lv_iload hx hb dX9_nextMember_37 (lv_at hl 4 rfl) ?_
            obtain ⟨q39, hq39, h⟩ := of_cal h
            refine C_i hA hw (va_runV (As := [.int f2, .int l4]) (rest := []) ⟨hx, hb, hml, hown, hts⟩ (cX9_between_ok l D cc E n S f0 f2 l4 hq39) (cwV 2 hts gX9_nextMember_X9_between rfl rfl rfl (by decide +kernel) ⟨Nat.le_of_ble_eq_true rfl, Nat.le_of_ble_eq_true rfl⟩) ⟨cBlind D cc E S _, C_recv hK hw (by omega) (cell_10 hf1) (r := (RX9, TX9, 10)) rfl, fun U hU hW => ⟨rfl, C_pre hA hK hro hw U hU hW⟩⟩ rfl rfl hl.1 rfl (lv_room (Nat.le_of_ble_eq_true rfl)) dX9_nextMember_39 ⟨Nat.le_refl _, Nat.le_refl _⟩) (fun H locs hw => ?_)
            refine W.widen (k := 0) (n := 0) (Nat.le_refl _) (Nat.le_refl _) ?_
            exact hj42 q39 h _ _ hw ls (lv_sub hl [0, 1, 2, 3, 4] rfl)
          · have h := of_it h c23
            refine lv_aload_n hx hb dX9_nextMember_26 rfl (lv_at hl 0 rfl) ?_
            refine lv_iload hx hb dX9_nextMember_27 (lv_at hl 4 rfl) ?_
            obtain ⟨q29, hq29, h⟩ := of_cal h
            refine C_i hA hw (va_runV (As := [.int l4]) (rest := []) ⟨hx, hb, hml, hown, hts⟩ (cX9_fromHouse_ok l D cc E n S f0 l4 hq29) (cwV 1 hts gX9_nextMember_X9_fromHouse rfl rfl rfl (by decide +kernel) ⟨Nat.le_of_ble_eq_true rfl, Nat.le_of_ble_eq_true rfl⟩) ⟨cBlind D cc E S _, C_recv hK hw (by omega) (cell_10 hf1) (r := (RX9, TX9, 10)) rfl, fun U hU hW => ⟨rfl, C_pre hA hK hro hw U hU hW⟩⟩ rfl rfl hl.1 rfl (lv_room (Nat.le_of_ble_eq_true rfl)) dX9_nextMember_29 ⟨Nat.le_refl _, Nat.le_refl _⟩) (fun H locs hw => ?_)
            refine W.widen (k := 0) (n := 0) (Nat.le_refl _) (Nat.le_refl _) ?_
            refine lv_goto (tgt := 42) hx hb dX9_nextMember_32 (by decide) ?_
            exact hj42 q29 h _ _ hw ls (lv_sub hl [0, 1, 2, 3, 4] rfl)
  obtain ⟨q3, hq3, h⟩ := of_cal h
  refine lp3 a0 a1 a2 a3 S n.1 x1 q3  hq3 _ _ hw ls (lv_sub hl [1, 2, 3, 4, 0] rfl) ?_ ?_
  · intro t4_3 eq H locs hw ls hl
    subst eq
    have h := of_un2 h
    have h := of_it h rfl
    refine lv_iload hx hb dX9_nextMember_63 (lv_at hl 0 rfl) ?_
    obtain rfl := Option.some.inj h
    exact C_iret hx hb hr hlocks hw (by rfl) dX9_nextMember_65
  · intro t4_3 eq H locs hw ls hl
    subst eq
    have h := of_un2 h
    have h := of_if h (by decide)
    refine lv_iconst (v := -1) hx hb dX9_nextMember_72 (by decide) ?_
    obtain rfl := Option.some.inj h
    exact C_iret hx hb hr hlocks hw (by rfl) dX9_nextMember_73

def fX9_roundAsNumber_lp19 (n : Nat × Nat) (S : CS) (f0 : Nat) : Nat → Int64 → Int32 → Int32 → Int32 → Int32 → Option (Int64)
  | 0, _, _, _, _, _ => none
  | k + 1, l2, l4, l5, l6, l7 =>
    if (8 : Int32) < l7 then 
        some l2
        else grd (cD S f0 = 10) (cal (fX9_nextMember n S f0 l4 l5 l6) (fun q33 => bnd (12 : Int32) (fun x40 => if q33 = (-1 : Int32) then 
          bnd ((l2 <<< ((4 : Int32).toInt64 &&& 63)) ||| x40.toInt64) (fun x92 => bnd (l7 + 1) (fun x93 => fX9_roundAsNumber_lp19 n S f0 k x92 l4 l5 l6 x93 ))
          else onn (cR S 201 f0) (fun b49 => grd (cD S b49 = 48) (grd (¬ (q33 < 0 ∨ cN S b49 ≤ q33.toNatClampNeg)) (bnd (cA S 48 b49 q33.toNatClampNeg) (fun v54 => onn (cR S 205 f0) (fun b58 => grd (cD S b58 = 51) (grd (¬ (((l4 * (8 : Int32)) + q33) < 0 ∨ cN S b58 ≤ ((l4 * (8 : Int32)) + q33).toNatClampNeg)) (bnd (cA S 51 b58 ((l4 * (8 : Int32)) + q33).toNatClampNeg) (fun v69 => bnd (l4 ^^^ ((1 : Int32) <<< (q33 &&& 31))) (fun x79 => bnd ((l2 <<< ((4 : Int32).toInt64 &&& 63)) ||| v54.toInt64) (fun x92 => bnd (l7 + 1) (fun x93 => fX9_roundAsNumber_lp19 n S f0 k x92 x79 q33 v69 x93 ))))))))))))))
def fX9_roundAsNumber (n : Nat × Nat) (S : CS) (a0 : Nat) (a1 : Int32) : Option Int64 :=
  bnd (0 : Int64) (fun x1 => bnd (-1 : Int32) (fun x6 => grd (cD S a0 = 10) (onn (cR S 206 a0) (fun b9 => grd (cD S b9 = 52) (grd (¬ (a1 < 0 ∨ cN S b9 ≤ a1.toNatClampNeg)) (bnd (cA S 52 b9 a1.toNatClampNeg) (fun v13 => bnd (0 : Int32) (fun x17 => cal (fX9_roundAsNumber_lp19 n S a0 n.1 x1 a1 x6 v13 x17 ) (fun t2_19 => some t2_19)))))))))
set_option maxHeartbeats 8000000 in
set_option maxRecDepth 100000 in
theorem cX9_roundAsNumber_ok (l : Launch) (D : va_G) (cc : Nat → ClassId) (E : Nat → Nat) (n : Nat × Nat) (S : CS) (a0 : Nat) (a1 : Int32) {r : Int64} (h : fX9_roundAsNumber n S a0 a1 = some r) : Cl l yX9_roundAsNumber wsX9_roundAsNumber 2 47 D cc E [.ref a0, .int a1] S r S 0 0 := by
  refine C_of (own := RX9) (bb := cX9_roundAsNumber) (nL := 10) (ret := (some .long)) (by decide) rfl rfl (Nat.le_of_ble_eq_true rfl) ?_
  intro p e s m args below meth c hx hb hr hlocks hml hts hown hnm hA hK hro hw ls hl
  generalize va_A (cPs cc S) (nx S) = A at hA hro hw ⊢
  unfold fX9_roundAsNumber at h
  have hinX9 : ∀ w ∈ wsX90, w ∈ wsX9_roundAsNumber := by decide +kernel
  have hl : lv_has ls 10 [(0, .ref a0), (1, .int a1)] := hl
  refine lv_lconst (v := 0) hx hb dX9_roundAsNumber_0 (by decide) ?_
  refine lv_topl (fun x1 ex1 => ?_)
  have h := of_bnd h ex1
  refine lv_lstore_n (lv' := [(2, .long x1), (0, .ref a0), (1, .int a1)]) hx hb dX9_roundAsNumber_1 rfl hl (by decide) rfl (fun ls hl => ?_)
  refine lv_iload_n hx hb dX9_roundAsNumber_2 rfl (lv_at hl 2 rfl) ?_
  refine lv_istore (lv' := [(4, .int a1), (2, .long x1), (0, .ref a0), (1, .int a1)]) hx hb dX9_roundAsNumber_3 hl (by decide) rfl (fun ls hl => ?_)
  refine lv_iconst (v := -1) hx hb dX9_roundAsNumber_5 (by decide) ?_
  refine lv_topi (fun x6 ex6 => ?_)
  have h := of_bnd h ex6
  refine lv_istore (lv' := [(5, .int x6), (4, .int a1), (2, .long x1), (0, .ref a0), (1, .int a1)]) hx hb dX9_roundAsNumber_6 hl (by decide) rfl (fun ls hl => ?_)
  refine lv_aload_n hx hb dX9_roundAsNumber_8 rfl (lv_at hl 3 rfl) ?_
  obtain ⟨hf1, h⟩ := of_grd h
  obtain ⟨b9, eb9, h⟩ := of_onn h
  refine C_get hx hb hts hinX9 hown hK hw (cell_10 hf1) (by omega) rfl 6 (by decide) (index := 33) (by decide +kernel) rfl (v := .ref b9) (congrArg (fun o => some (va_rf o)) eb9) dX9_roundAsNumber_9 ?_
  refine lv_iload_n hx hb dX9_roundAsNumber_12 rfl (lv_at hl 4 rfl) ?_
  obtain ⟨hf2, h⟩ := of_grd h
  obtain ⟨hi13, h⟩ := of_grd h
  refine C_iald hx hb hK hw hf2 (by decide) (by decide) hi13 dX9_roundAsNumber_13 ?_
  refine lv_topi (fun v13 ev13 => ?_)
  have h := of_bnd h ev13
  refine lv_istore (lv' := [(6, .int v13), (5, .int x6), (4, .int a1), (2, .long x1), (0, .ref a0), (1, .int a1)]) hx hb dX9_roundAsNumber_14 hl (by decide) rfl (fun ls hl => ?_)
  refine lv_iconst (v := 0) hx hb dX9_roundAsNumber_16 (by decide) ?_
  refine lv_topi (fun x17 ex17 => ?_)
  have h := of_bnd h ex17
  refine lv_istore (lv' := [(7, .int x17), (6, .int v13), (5, .int x6), (4, .int a1), (2, .long x1), (0, .ref a0), (1, .int a1)]) hx hb dX9_roundAsNumber_17 hl (by decide) rfl (fun ls hl => ?_)
  have lp19 : ∀ (f0 : Nat) (S : CS) (k : Nat) (l2 : Int64) (l4 : Int32) (l5 : Int32) (l6 : Int32) (l7 : Int32) (q : Int64) , fX9_roundAsNumber_lp19 n S f0 k l2 l4 l5 l6 l7  = some q → ∀ (H : Heap) (locs : List Loc), cWd D cc A s.heap S H locs → ∀ ls : Array Slot, lv_has ls 10 [(0, .ref f0), (2, .long l2), (4, .int l4), (5, .int l5), (6, .int l6), (7, .int l7)] → (∀ (t2 : Int64), t2 = q → ∀ (H : Heap) (locs : List Loc), cWd D cc A s.heap S H locs → ∀ ls : Array Slot, lv_has ls 10 [(2, .long t2)] → W p l e (cRm 2 47 0 0) s m args below meth c H locs (0) (0) (MQ below (va_Ql (fun x u => x = r ∧ u = S) (cAft D cc A) A) args s 0 0 A) (F0 m 99 ls [])) → W p l e (cRm 2 47 0 0) s m args below meth c H locs (0) (0) (MQ below (va_Ql (fun x u => x = r ∧ u = S) (cAft D cc A) A) args s 0 0 A) (F0 m 19 ls []) := by
    intro f0 S k
    induction k with
    | zero => intro l2 l4 l5 l6 l7 q h; rw [fX9_roundAsNumber_lp19] at h; cases h
    | succ k ih19 =>
      intro l2 l4 l5 l6 l7 q h H locs hw ls hl kx19_0
      rw [fX9_roundAsNumber_lp19] at h
      refine lv_iload hx hb dX9_roundAsNumber_19 (lv_at hl 5 rfl) ?_
      refine lv_bipush (v := 8) hx hb dX9_roundAsNumber_21 (by decide) ?_
      refine lv_icmp_gt (tgt := 99) hx hb dX9_roundAsNumber_23 (by decide) (fun c23 => ?_) (fun c23 => ?_)
      · have h := of_it h c23
        exact kx19_0 l2 (Option.some.inj h) _ _ hw ls (lv_sub hl [1] rfl)
      · have h := of_if h c23
        refine lv_aload_n hx hb dX9_roundAsNumber_26 rfl (lv_at hl 0 rfl) ?_
        refine lv_iload hx hb dX9_roundAsNumber_27 (lv_at hl 2 rfl) ?_
        refine lv_iload hx hb dX9_roundAsNumber_29 (lv_at hl 3 rfl) ?_
        refine lv_iload hx hb dX9_roundAsNumber_31 (lv_at hl 4 rfl) ?_
        obtain ⟨hf3, h⟩ := of_grd h
        obtain ⟨q33, hq33, h⟩ := of_cal h
        refine C_i hA hw (va_runV (As := [.int l4, .int l5, .int l6]) (rest := []) ⟨hx, hb, hml, hown, hts⟩ (cX9_nextMember_ok l D cc E n S f0 l4 l5 l6 hq33) (cwV 3 hts gX9_roundAsNumber_X9_nextMember rfl rfl rfl (by decide +kernel) ⟨Nat.le_of_ble_eq_true rfl, Nat.le_of_ble_eq_true rfl⟩) ⟨cBlind D cc E S _, C_recv hK hw (by omega) (cell_10 hf3) (r := (RX9, TX9, 10)) rfl, fun U hU hW => ⟨rfl, C_pre hA hK hro hw U hU hW⟩⟩ rfl rfl hl.1 rfl (lv_room (Nat.le_of_ble_eq_true rfl)) dX9_roundAsNumber_33 ⟨Nat.le_refl _, Nat.le_refl _⟩) (fun H locs hw => ?_)
        refine W.widen (k := 0) (n := 0) (Nat.le_refl _) (Nat.le_refl _) ?_
        refine lv_istore (lv' := [(8, .int q33), (0, .ref f0), (2, .long l2), (4, .int l4), (5, .int l5), (6, .int l6), (7, .int l7)]) hx hb dX9_roundAsNumber_36 hl (by decide) rfl (fun ls hl => ?_)
        refine lv_bipush (v := 12) hx hb dX9_roundAsNumber_38 (by decide) ?_
        refine lv_topi (fun x40 ex40 => ?_)
        have h := of_bnd h ex40
        refine lv_istore (lv' := [(9, .int x40), (8, .int q33), (0, .ref f0), (2, .long l2), (4, .int l4), (5, .int l5), (6, .int l6), (7, .int l7)]) hx hb dX9_roundAsNumber_40 hl (by decide) rfl (fun ls hl => ?_)
        refine lv_iload hx hb dX9_roundAsNumber_42 (lv_at hl 1 rfl) ?_
        refine lv_iconst (v := -1) hx hb dX9_roundAsNumber_44 (by decide) ?_
        refine lv_icmp_eq (tgt := 85) hx hb dX9_roundAsNumber_45 (by decide) (fun c45 => ?_) (fun c45 => ?_)
        · have h := of_it h c45
          refine lv_lload_n hx hb dX9_roundAsNumber_85 rfl (lv_at hl 3 rfl) ?_
          refine lv_iconst (v := 4) hx hb dX9_roundAsNumber_86 (by decide) ?_
          refine lv_lshl hx hb dX9_roundAsNumber_87 rfl ?_
          refine lv_iload hx hb dX9_roundAsNumber_88 (lv_at hl 0 rfl) ?_
          refine lv_i2l hx hb dX9_roundAsNumber_90 rfl ?_
          refine lv_lor hx hb dX9_roundAsNumber_91 ?_
          refine lv_topl (fun x92 ex92 => ?_)
          have h := of_bnd h ex92
          refine lv_lstore_n (lv' := [(2, .long x92), (9, .int x40), (8, .int q33), (0, .ref f0), (4, .int l4), (5, .int l5), (6, .int l6), (7, .int l7)]) hx hb dX9_roundAsNumber_92 rfl hl (by decide) rfl (fun ls hl => ?_)
          obtain ⟨x93, ex93⟩ : ∃ y : Int32, y = l7 + 1 := ⟨_, rfl⟩
          have h := of_bnd h ex93
          refine lv_iinc (v := x93) (lv' := [(7, .int x93), (2, .long x92), (9, .int x40), (8, .int q33), (0, .ref f0), (4, .int l4), (5, .int l5), (6, .int l6)]) hx hb dX9_roundAsNumber_93 hl (k := 7) rfl (by rw [ex93]; rfl) (by decide) rfl (fun ls hl => ?_)
          refine lv_goto (tgt := 19) hx hb dX9_roundAsNumber_96 (by decide) ?_
          exact ih19 x92 l4 l5 l6 x93 _ h _ _ hw ls (lv_sub hl [4, 1, 5, 6, 7, 0] rfl) kx19_0
        · have h := of_if h c45
          refine lv_aload_n hx hb dX9_roundAsNumber_48 rfl (lv_at hl 2 rfl) ?_
          obtain ⟨b49, eb49, h⟩ := of_onn h
          refine C_get hx hb hts hinX9 hown hK hw (cell_10 hf3) (by omega) rfl 1 (by decide) (index := 16) (by decide +kernel) rfl (v := .ref b49) (congrArg (fun o => some (va_rf o)) eb49) dX9_roundAsNumber_49 ?_
          refine lv_iload hx hb dX9_roundAsNumber_52 (lv_at hl 1 rfl) ?_
          obtain ⟨hf4, h⟩ := of_grd h
          obtain ⟨hi54, h⟩ := of_grd h
          refine C_iald hx hb hK hw hf4 (by decide) (by decide) hi54 dX9_roundAsNumber_54 ?_
          refine lv_topi (fun v54 ev54 => ?_)
          have h := of_bnd h ev54
          refine lv_istore (lv' := [(9, .int v54), (8, .int q33), (0, .ref f0), (2, .long l2), (4, .int l4), (5, .int l5), (6, .int l6), (7, .int l7)]) hx hb dX9_roundAsNumber_55 hl (by decide) rfl (fun ls hl => ?_)
          refine lv_aload_n hx hb dX9_roundAsNumber_57 rfl (lv_at hl 2 rfl) ?_
          obtain ⟨b58, eb58, h⟩ := of_onn h
          refine C_get hx hb hts hinX9 hown hK hw (cell_10 hf3) (by omega) rfl 5 (by decide) (index := 30) (by decide +kernel) rfl (v := .ref b58) (congrArg (fun o => some (va_rf o)) eb58) dX9_roundAsNumber_58 ?_
          refine lv_iload hx hb dX9_roundAsNumber_61 (lv_at hl 4 rfl) ?_
          refine lv_bipush (v := 8) hx hb dX9_roundAsNumber_63 (by decide) ?_
          refine lv_imul hx hb dX9_roundAsNumber_65 ?_
          refine lv_iload hx hb dX9_roundAsNumber_66 (lv_at hl 1 rfl) ?_
          refine lv_iadd hx hb dX9_roundAsNumber_68 ?_
          obtain ⟨hf5, h⟩ := of_grd h
          obtain ⟨hi69, h⟩ := of_grd h
          refine C_iald hx hb hK hw hf5 (by decide) (by decide) hi69 dX9_roundAsNumber_69 ?_
          refine lv_topi (fun v69 ev69 => ?_)
          have h := of_bnd h ev69
          refine lv_istore (lv' := [(6, .int v69), (9, .int v54), (8, .int q33), (0, .ref f0), (2, .long l2), (4, .int l4), (5, .int l5), (7, .int l7)]) hx hb dX9_roundAsNumber_70 hl (by decide) rfl (fun ls hl => ?_)
          refine lv_iload hx hb dX9_roundAsNumber_72 (lv_at hl 5 rfl) ?_
          refine lv_iconst (v := 1) hx hb dX9_roundAsNumber_74 (by decide) ?_
          refine lv_iload hx hb dX9_roundAsNumber_75 (lv_at hl 2 rfl) ?_
          refine lv_ishl hx hb dX9_roundAsNumber_77 ?_
          refine lv_ixor hx hb dX9_roundAsNumber_78 ?_
          refine lv_topi (fun x79 ex79 => ?_)
          have h := of_bnd h ex79
          refine lv_istore (lv' := [(4, .int x79), (6, .int v69), (9, .int v54), (8, .int q33), (0, .ref f0), (2, .long l2), (5, .int l5), (7, .int l7)]) hx hb dX9_roundAsNumber_79 hl (by decide) rfl (fun ls hl => ?_)
          refine lv_iload hx hb dX9_roundAsNumber_81 (lv_at hl 3 rfl) ?_
          refine lv_istore (lv' := [(5, .int q33), (4, .int x79), (6, .int v69), (9, .int v54), (8, .int q33), (0, .ref f0), (2, .long l2), (7, .int l7)]) hx hb dX9_roundAsNumber_83 hl (by decide) rfl (fun ls hl => ?_)
          refine lv_lload_n hx hb dX9_roundAsNumber_85 rfl (lv_at hl 6 rfl) ?_
          refine lv_iconst (v := 4) hx hb dX9_roundAsNumber_86 (by decide) ?_
          refine lv_lshl hx hb dX9_roundAsNumber_87 rfl ?_
          refine lv_iload hx hb dX9_roundAsNumber_88 (lv_at hl 3 rfl) ?_
          refine lv_i2l hx hb dX9_roundAsNumber_90 rfl ?_
          refine lv_lor hx hb dX9_roundAsNumber_91 ?_
          refine lv_topl (fun x92 ex92 => ?_)
          have h := of_bnd h ex92
          refine lv_lstore_n (lv' := [(2, .long x92), (5, .int q33), (4, .int x79), (6, .int v69), (9, .int v54), (8, .int q33), (0, .ref f0), (7, .int l7)]) hx hb dX9_roundAsNumber_92 rfl hl (by decide) rfl (fun ls hl => ?_)
          obtain ⟨x93, ex93⟩ : ∃ y : Int32, y = l7 + 1 := ⟨_, rfl⟩
          have h := of_bnd h ex93
          refine lv_iinc (v := x93) (lv' := [(7, .int x93), (2, .long x92), (5, .int q33), (4, .int x79), (6, .int v69), (9, .int v54), (8, .int q33), (0, .ref f0)]) hx hb dX9_roundAsNumber_93 hl (k := 7) rfl (by rw [ex93]; rfl) (by decide) rfl (fun ls hl => ?_)
          refine lv_goto (tgt := 19) hx hb dX9_roundAsNumber_96 (by decide) ?_
          exact ih19 x92 x79 q33 v69 x93 _ h _ _ hw ls (lv_sub hl [7, 1, 3, 2, 4, 0] rfl) kx19_0
  obtain ⟨q19, hq19, h⟩ := of_cal h
  refine lp19 a0 S n.1 x1 a1 x6 v13 x17 q19  hq19 _ _ hw ls (lv_sub hl [5, 4, 3, 2, 1, 0] rfl) ?_
  · intro t2_19 eq H locs hw ls hl
    subst eq
    refine lv_lload_n hx hb dX9_roundAsNumber_99 rfl (lv_at hl 0 rfl) ?_
    obtain rfl := Option.some.inj h
    exact C_lret hx hb hr hlocks hw dX9_roundAsNumber_100

def fX9_firstRound_lp17 (n : Nat × Nat) (S : CS) (f0 : Nat) (f1 : Int32) (f5 : Int32) : Nat → Int32 → Int64 → Int32 → Option (Int32)
  | 0, _, _, _ => none
  | k + 1, l2, l3, l6 =>
    if l6 ≤ 0 then 
        some l2
        else grd (cD S f0 = 10) (cal (fX9_costWithRest n S f0 f1 l6) (fun q26 => onn (cR S 207 f0) (fun b30 => grd (cD S b30 = 53) (grd (¬ (f1 < 0 ∨ cN S b30 ≤ f1.toNatClampNeg)) (bnd (cA S 53 b30 f1.toNatClampNeg) (fun v34 => if q26 = v34 then 
          cal (fX9_roundAsNumber n S f0 (f1 ^^^ l6)) (fun q43 => if 0 ≤ (lg_cmp q43 l3) then 
            bnd ((l6 - (1 : Int32)) &&& f5) (fun x70 => fX9_firstRound_lp17 n S f0 f1 f5 k l2 l3 x70 )
            else bnd (f1 ^^^ l6) (fun x62 => bnd ((l6 - (1 : Int32)) &&& f5) (fun x70 => fX9_firstRound_lp17 n S f0 f1 f5 k x62 q43 x70 )))
          else bnd ((l6 - (1 : Int32)) &&& f5) (fun x70 => fX9_firstRound_lp17 n S f0 f1 f5 k l2 l3 x70 )))))))
def fX9_firstRound (n : Nat × Nat) (S : CS) (a0 : Nat) (a1 : Int32) : Option Int32 :=
  bnd (1099511627776 : Int64) (fun x5 => bnd (a1 &&& (a1 - (1 : Int32))) (fun x11 => cal (fX9_firstRound_lp17 n S a0 a1 x11 n.1 a1 x5 x11 ) (fun t2_17 => some t2_17)))
set_option maxHeartbeats 8000000 in
set_option maxRecDepth 100000 in
theorem cX9_firstRound_ok (l : Launch) (D : va_G) (cc : Nat → ClassId) (E : Nat → Nat) (n : Nat × Nat) (S : CS) (a0 : Nat) (a1 : Int32) {r : Int32} (h : fX9_firstRound n S a0 a1 = some r) : Ci l yX9_firstRound wsX9_firstRound 3 76 D cc E [.ref a0, .int a1] S r S 0 0 := by
  refine C_of (own := RX9) (bb := cX9_firstRound) (nL := 9) (ret := (some .int)) (by decide) rfl rfl (Nat.le_of_ble_eq_true rfl) ?_
  intro p e s m args below meth c hx hb hr hlocks hml hts hown hnm hA hK hro hw ls hl
  generalize va_A (cPs cc S) (nx S) = A at hA hro hw ⊢
  unfold fX9_firstRound at h
  have hinX9 : ∀ w ∈ wsX90, w ∈ wsX9_firstRound := by decide +kernel
  have hl : lv_has ls 9 [(0, .ref a0), (1, .int a1)] := hl
  refine lv_iload_n hx hb dX9_firstRound_0 rfl (lv_at hl 1 rfl) ?_
  refine lv_istore_n (lv' := [(2, .int a1), (0, .ref a0), (1, .int a1)]) hx hb dX9_firstRound_1 rfl hl (by decide) rfl (fun ls hl => ?_)
  refine lv_ldc2 (v := 1099511627776) hx hb hown (hts (.constantLong RX9 119 (1099511627776)) (by decide +kernel)) dX9_firstRound_2 ?_
  refine lv_topl (fun x5 ex5 => ?_)
  have h := of_bnd h ex5
  refine lv_lstore_n (lv' := [(3, .long x5), (2, .int a1), (0, .ref a0), (1, .int a1)]) hx hb dX9_firstRound_5 rfl hl (by decide) rfl (fun ls hl => ?_)
  refine lv_iload_n hx hb dX9_firstRound_6 rfl (lv_at hl 3 rfl) ?_
  refine lv_iload_n hx hb dX9_firstRound_7 rfl (lv_at hl 3 rfl) ?_
  refine lv_iconst (v := 1) hx hb dX9_firstRound_8 (by decide) ?_
  refine lv_isub hx hb dX9_firstRound_9 ?_
  refine lv_iand hx hb dX9_firstRound_10 ?_
  refine lv_topi (fun x11 ex11 => ?_)
  have h := of_bnd h ex11
  refine lv_istore (lv' := [(5, .int x11), (3, .long x5), (2, .int a1), (0, .ref a0), (1, .int a1)]) hx hb dX9_firstRound_11 hl (by decide) rfl (fun ls hl => ?_)
  refine lv_iload hx hb dX9_firstRound_13 (lv_at hl 0 rfl) ?_
  refine lv_istore (lv' := [(6, .int x11), (5, .int x11), (3, .long x5), (2, .int a1), (0, .ref a0), (1, .int a1)]) hx hb dX9_firstRound_15 hl (by decide) rfl (fun ls hl => ?_)
  have lp17 : ∀ (f0 : Nat) (f1 : Int32) (f5 : Int32) (S : CS) (k : Nat) (l2 : Int32) (l3 : Int64) (l6 : Int32) (q : Int32) , fX9_firstRound_lp17 n S f0 f1 f5 k l2 l3 l6  = some q → ∀ (H : Heap) (locs : List Loc), cWd D cc A s.heap S H locs → ∀ ls : Array Slot, lv_has ls 9 [(0, .ref f0), (1, .int f1), (5, .int f5), (2, .int l2), (3, .long l3), (6, .int l6)] → (∀ (t2 : Int32), t2 = q → ∀ (H : Heap) (locs : List Loc), cWd D cc A s.heap S H locs → ∀ ls : Array Slot, lv_has ls 9 [(2, .int t2)] → W p l e (cRm 3 76 0 0) s m args below meth c H locs (0) (0) (MQ below (va_Qi (fun x u => x = r ∧ u = S) (cAft D cc A) A) args s 0 0 A) (F0 m 75 ls [])) → W p l e (cRm 3 76 0 0) s m args below meth c H locs (0) (0) (MQ below (va_Qi (fun x u => x = r ∧ u = S) (cAft D cc A) A) args s 0 0 A) (F0 m 17 ls []) := by
    intro f0 f1 f5 S k
    induction k with
    | zero => intro l2 l3 l6 q h; rw [fX9_firstRound_lp17] at h; cases h
    | succ k ih17 =>
      intro l2 l3 l6 q h H locs hw ls hl kx17_0
      rw [fX9_firstRound_lp17] at h
      refine lv_iload hx hb dX9_firstRound_17 (lv_at hl 5 rfl) ?_
      refine lv_if_le (tgt := 75) hx hb dX9_firstRound_19 (by decide) (fun c19 => ?_) (fun c19 => ?_)
      · have h := of_it h c19
        exact kx17_0 l2 (Option.some.inj h) _ _ hw ls (lv_sub hl [3] rfl)
      · have h := of_if h c19
        refine lv_aload_n hx hb dX9_firstRound_22 rfl (lv_at hl 0 rfl) ?_
        refine lv_iload_n hx hb dX9_firstRound_23 rfl (lv_at hl 1 rfl) ?_
        refine lv_iload hx hb dX9_firstRound_24 (lv_at hl 5 rfl) ?_
        obtain ⟨hf1, h⟩ := of_grd h
        obtain ⟨q26, hq26, h⟩ := of_cal h
        refine C_i hA hw (va_runV (As := [.int f1, .int l6]) (rest := []) ⟨hx, hb, hml, hown, hts⟩ (cX9_costWithRest_ok l D cc E n S f0 f1 l6 hq26) (cwV 2 hts gX9_firstRound_X9_costWithRest rfl rfl rfl (by decide +kernel) ⟨Nat.le_of_ble_eq_true rfl, Nat.le_of_ble_eq_true rfl⟩) ⟨cBlind D cc E S _, C_recv hK hw (by omega) (cell_10 hf1) (r := (RX9, TX9, 10)) rfl, fun U hU hW => ⟨rfl, C_pre hA hK hro hw U hU hW⟩⟩ rfl rfl hl.1 rfl (lv_room (Nat.le_of_ble_eq_true rfl)) dX9_firstRound_26 ⟨Nat.le_refl _, Nat.le_refl _⟩) (fun H locs hw => ?_)
        refine W.widen (k := 0) (n := 0) (Nat.le_refl _) (Nat.le_refl _) ?_
        refine lv_aload_n hx hb dX9_firstRound_29 rfl (lv_at hl 0 rfl) ?_
        obtain ⟨b30, eb30, h⟩ := of_onn h
        refine C_get hx hb hts hinX9 hown hK hw (cell_10 hf1) (by omega) rfl 7 (by decide) (index := 36) (by decide +kernel) rfl (v := .ref b30) (congrArg (fun o => some (va_rf o)) eb30) dX9_firstRound_30 ?_
        refine lv_iload_n hx hb dX9_firstRound_33 rfl (lv_at hl 1 rfl) ?_
        obtain ⟨hf2, h⟩ := of_grd h
        obtain ⟨hi34, h⟩ := of_grd h
        refine C_iald hx hb hK hw hf2 (by decide) (by decide) hi34 dX9_firstRound_34 ?_
        refine lv_topi (fun v34 ev34 => ?_)
        have h := of_bnd h ev34
        refine lv_icmp_ne (tgt := 63) hx hb dX9_firstRound_35 (by decide) (fun c35 => ?_) (fun c35 => ?_)
        · have h := of_if h c35
          refine lv_iload hx hb dX9_firstRound_63 (lv_at hl 5 rfl) ?_
          refine lv_iconst (v := 1) hx hb dX9_firstRound_65 (by decide) ?_
          refine lv_isub hx hb dX9_firstRound_66 ?_
          refine lv_iload hx hb dX9_firstRound_67 (lv_at hl 2 rfl) ?_
          refine lv_iand hx hb dX9_firstRound_69 ?_
          refine lv_topi (fun x70 ex70 => ?_)
          have h := of_bnd h ex70
          refine lv_istore (lv' := [(6, .int x70), (0, .ref f0), (1, .int f1), (5, .int f5), (2, .int l2), (3, .long l3)]) hx hb dX9_firstRound_70 hl (by decide) rfl (fun ls hl => ?_)
          refine lv_goto (tgt := 17) hx hb dX9_firstRound_72 (by decide) ?_
          exact ih17 l2 l3 x70 _ h _ _ hw ls (lv_sub hl [1, 2, 3, 4, 5, 0] rfl) kx17_0
        · have h := of_it h c35
          refine lv_aload_n hx hb dX9_firstRound_38 rfl (lv_at hl 0 rfl) ?_
          refine lv_iload_n hx hb dX9_firstRound_39 rfl (lv_at hl 1 rfl) ?_
          refine lv_iload hx hb dX9_firstRound_40 (lv_at hl 5 rfl) ?_
          refine lv_ixor hx hb dX9_firstRound_42 ?_
          obtain ⟨q43, hq43, h⟩ := of_cal h
          refine C_l hA hw (va_runV (As := [.int (f1 ^^^ l6)]) (rest := []) ⟨hx, hb, hml, hown, hts⟩ (cX9_roundAsNumber_ok l D cc E n S f0 (f1 ^^^ l6) hq43) (cwV 1 hts gX9_firstRound_X9_roundAsNumber rfl rfl rfl (by decide +kernel) ⟨Nat.le_of_ble_eq_true rfl, Nat.le_of_ble_eq_true rfl⟩) ⟨cBlind D cc E S _, C_recv hK hw (by omega) (cell_10 hf1) (r := (RX9, TX9, 10)) rfl, fun U hU hW => ⟨rfl, C_pre hA hK hro hw U hU hW⟩⟩ rfl rfl hl.1 rfl (lv_room (Nat.le_of_ble_eq_true rfl)) dX9_firstRound_43 ⟨Nat.le_refl _, Nat.le_refl _⟩) (fun H locs hw => ?_)
          refine W.widen (k := 0) (n := 0) (Nat.le_refl _) (Nat.le_refl _) ?_
          refine lv_lstore (lv' := [(7, .long q43), (0, .ref f0), (1, .int f1), (5, .int f5), (2, .int l2), (3, .long l3), (6, .int l6)]) hx hb dX9_firstRound_46 hl (by decide) rfl (fun ls hl => ?_)
          refine lv_lload hx hb dX9_firstRound_48 (lv_at hl 0 rfl) ?_
          refine lv_lload_n hx hb dX9_firstRound_50 rfl (lv_at hl 5 rfl) ?_
          refine W.lcmp hx hb dX9_firstRound_51 ?_
          refine lv_if_ge (tgt := 63) hx hb dX9_firstRound_52 (by decide) (fun c52 => ?_) (fun c52 => ?_)
          · have h := of_it h c52
            refine lv_iload hx hb dX9_firstRound_63 (lv_at hl 6 rfl) ?_
            refine lv_iconst (v := 1) hx hb dX9_firstRound_65 (by decide) ?_
            refine lv_isub hx hb dX9_firstRound_66 ?_
            refine lv_iload hx hb dX9_firstRound_67 (lv_at hl 3 rfl) ?_
            refine lv_iand hx hb dX9_firstRound_69 ?_
            refine lv_topi (fun x70 ex70 => ?_)
            have h := of_bnd h ex70
            refine lv_istore (lv' := [(6, .int x70), (7, .long q43), (0, .ref f0), (1, .int f1), (5, .int f5), (2, .int l2), (3, .long l3)]) hx hb dX9_firstRound_70 hl (by decide) rfl (fun ls hl => ?_)
            refine lv_goto (tgt := 17) hx hb dX9_firstRound_72 (by decide) ?_
            exact ih17 l2 l3 x70 _ h _ _ hw ls (lv_sub hl [2, 3, 4, 5, 6, 0] rfl) kx17_0
          · have h := of_if h c52
            refine lv_lload hx hb dX9_firstRound_55 (lv_at hl 0 rfl) ?_
            refine lv_lstore_n (lv' := [(3, .long q43), (7, .long q43), (0, .ref f0), (1, .int f1), (5, .int f5), (2, .int l2), (6, .int l6)]) hx hb dX9_firstRound_57 rfl hl (by decide) rfl (fun ls hl => ?_)
            refine lv_iload_n hx hb dX9_firstRound_58 rfl (lv_at hl 3 rfl) ?_
            refine lv_iload hx hb dX9_firstRound_59 (lv_at hl 6 rfl) ?_
            refine lv_ixor hx hb dX9_firstRound_61 ?_
            refine lv_topi (fun x62 ex62 => ?_)
            have h := of_bnd h ex62
            refine lv_istore_n (lv' := [(2, .int x62), (3, .long q43), (7, .long q43), (0, .ref f0), (1, .int f1), (5, .int f5), (6, .int l6)]) hx hb dX9_firstRound_62 rfl hl (by decide) rfl (fun ls hl => ?_)
            refine lv_iload hx hb dX9_firstRound_63 (lv_at hl 6 rfl) ?_
            refine lv_iconst (v := 1) hx hb dX9_firstRound_65 (by decide) ?_
            refine lv_isub hx hb dX9_firstRound_66 ?_
            refine lv_iload hx hb dX9_firstRound_67 (lv_at hl 5 rfl) ?_
            refine lv_iand hx hb dX9_firstRound_69 ?_
            refine lv_topi (fun x70 ex70 => ?_)
            have h := of_bnd h ex70
            refine lv_istore (lv' := [(6, .int x70), (2, .int x62), (3, .long q43), (7, .long q43), (0, .ref f0), (1, .int f1), (5, .int f5)]) hx hb dX9_firstRound_70 hl (by decide) rfl (fun ls hl => ?_)
            refine lv_goto (tgt := 17) hx hb dX9_firstRound_72 (by decide) ?_
            exact ih17 x62 q43 x70 _ h _ _ hw ls (lv_sub hl [4, 5, 6, 1, 2, 0] rfl) kx17_0
  obtain ⟨q17, hq17, h⟩ := of_cal h
  refine lp17 a0 a1 x11 S n.1 a1 x5 x11 q17  hq17 _ _ hw ls (lv_sub hl [4, 5, 1, 3, 2, 0] rfl) ?_
  · intro t2_17 eq H locs hw ls hl
    subst eq
    refine lv_iload_n hx hb dX9_firstRound_75 rfl (lv_at hl 0 rfl) ?_
    obtain rfl := Option.some.inj h
    exact C_iret hx hb hr hlocks hw (by rfl) dX9_firstRound_76

def fX9_writeRow_lp9 (n : Nat × Nat) (f0 : Nat) : Nat → Int32 → Int32 → CS → Option (CS)
  | 0, _, _, _ => none
  | k + 1, l2, l3, S =>
    if (8 : Int32) ≤ l3 then 
        some S
        else if l2 = 0 then 
          some S
          else bnd (fun (S : CS) => grd (cD S f0 = 10) (cal (fX9_firstRound n S f0 l2) (fun q31 => cal (fX9_roundAsNumber n S f0 q31) (fun q40 => cal (fX9_addRound n S f0 q40) (fun S43 => bnd (l2 ^^^ q31) (fun x50 => bnd (l3 + 1) (fun x51 => fX9_writeRow_lp9 n f0 k x50 x51 S43))))))) (fun j29 => if l3 ≤ 0 then 
            j29  S
            else grd (cD S f0 = 10) (cal (fX9_addStop n S f0 (12 : Int32)) (fun S26 => j29  S26)))
def fX9_writeRow (n : Nat × Nat) (S : CS) (a0 : Nat) (a1 : Int32) : Option (CS) :=
  grd (cD S a0 = 10) (bnd (uI S 209 a0 (0 : Int32)) (fun S2 => bnd (0 : Int32) (fun x8 => cal (fX9_writeRow_lp9 n a0 n.1 a1 x8 S2) (fun S9 => some S9))))
set_option maxHeartbeats 8000000 in
set_option maxRecDepth 100000 in
theorem cX9_writeRow_ok (l : Launch) (D : va_G) (cc : Nat → ClassId) (E : Nat → Nat) (n : Nat × Nat) (S : CS) (a0 : Nat) (a1 : Int32) {T : CS} (h : fX9_writeRow n S a0 a1 = some T) : Cv l yX9_writeRow wsX9_writeRow 4 104 D cc E [.ref a0, .int a1] S T 0 0 := by
  refine C_of (own := RX9) (bb := cX9_writeRow) (nL := 5) (ret := none) (by decide) rfl rfl (Nat.le_of_ble_eq_true rfl) ?_
  intro p e s m args below meth c hx hb hr hlocks hml hts hown hnm hA hK hro hw ls hl
  generalize va_A (cPs cc S) (nx S) = A at hA hro hw ⊢
  unfold fX9_writeRow at h
  have hinX9 : ∀ w ∈ wsX90, w ∈ wsX9_writeRow := by decide +kernel
  have hl : lv_has ls 5 [(0, .ref a0), (1, .int a1)] := hl
  refine lv_aload_n hx hb dX9_writeRow_0 rfl (lv_at hl 0 rfl) ?_
  refine lv_iconst (v := 0) hx hb dX9_writeRow_1 (by decide) ?_
  obtain ⟨hf1, h⟩ := of_grd h
  refine C_put hx hb hts hinX9 tyX9 tyX9_ok nmX9 hown hK hw (cell_10 hf1) (by omega) rfl 9 (by decide) (index := 42) (by decide +kernel) rfl rfl (ty := .int) (by decide +kernel) rfl rfl (Nat.le_of_ble_eq_true rfl) (S' := uI S 209 a0 (0 : Int32)) rfl rfl rfl (pu_209 hf1 (0 : Int32)) (fun b hb => off_uI hb) dX9_writeRow_2 (fun S2 H locs eS2 hw => ?_)
  have h := of_bnd h eS2
  refine lv_iload_n hx hb dX9_writeRow_5 rfl (lv_at hl 1 rfl) ?_
  refine lv_istore_n (lv' := [(2, .int a1), (0, .ref a0), (1, .int a1)]) hx hb dX9_writeRow_6 rfl hl (by decide) rfl (fun ls hl => ?_)
  refine lv_iconst (v := 0) hx hb dX9_writeRow_7 (by decide) ?_
  refine lv_topi (fun x8 ex8 => ?_)
  have h := of_bnd h ex8
  refine lv_istore_n (lv' := [(3, .int x8), (2, .int a1), (0, .ref a0), (1, .int a1)]) hx hb dX9_writeRow_8 rfl hl (by decide) rfl (fun ls hl => ?_)
  have lp9 : ∀ (f0 : Nat) (k : Nat) (l2 : Int32) (l3 : Int32) (S : CS) (q : CS) , fX9_writeRow_lp9 n f0 k l2 l3 S = some q → ∀ (H : Heap) (locs : List Loc), cWd D cc A s.heap S H locs → ∀ ls : Array Slot, lv_has ls 5 [(0, .ref f0), (2, .int l2), (3, .int l3)] → (∀  (S1 : CS), S1 = q → ∀ (H : Heap) (locs : List Loc), cWd D cc A s.heap S1 H locs → ∀ ls : Array Slot, lv_has ls 5 [] → W p l e (cRm 4 104 0 0) s m args below meth c H locs (0) (0) (MQ below (va_Qv (fun u => u = T) (cAft D cc A) A) args s 0 0 A) (F0 m 57 ls [])) → W p l e (cRm 4 104 0 0) s m args below meth c H locs (0) (0) (MQ below (va_Qv (fun u => u = T) (cAft D cc A) A) args s 0 0 A) (F0 m 9 ls []) := by
    intro f0 k
    induction k with
    | zero => intro l2 l3 S q h; rw [fX9_writeRow_lp9] at h; cases h
    | succ k ih9 =>
      intro l2 l3 S q h H locs hw ls hl kx9_0
      rw [fX9_writeRow_lp9] at h
      refine lv_iload_n hx hb dX9_writeRow_9 rfl (lv_at hl 2 rfl) ?_
      refine lv_bipush (v := 8) hx hb dX9_writeRow_10 (by decide) ?_
      refine lv_icmp_ge (tgt := 57) hx hb dX9_writeRow_12 (by decide) (fun c12 => ?_) (fun c12 => ?_)
      · have h := of_it h c12
        exact kx9_0 S (Option.some.inj h) _ _ hw ls (lv_sub hl [] rfl)
      · have h := of_if h c12
        refine lv_iload_n hx hb dX9_writeRow_15 rfl (lv_at hl 1 rfl) ?_
        refine lv_if_eq (tgt := 57) hx hb dX9_writeRow_16 (by decide) (fun c16 => ?_) (fun c16 => ?_)
        · have h := of_it h c16
          exact kx9_0 S (Option.some.inj h) _ _ hw ls (lv_sub hl [] rfl)
        · have h := of_if h c16
          refine lv_iload_n hx hb dX9_writeRow_19 rfl (lv_at hl 2 rfl) ?_
          obtain ⟨j29, ej29, h⟩ := of_bndE h
          have hj29 : ∀ (S : CS), j29 S = some q → ∀ (H : Heap) (locs : List Loc), cWd D cc A s.heap S H locs → ∀ ls : Array Slot, lv_has ls 5 [(0, .ref f0), (2, .int l2), (3, .int l3)] → W p l e (cRm 4 104 0 0) s m args below meth c H locs (0) (0) (MQ below (va_Qv (fun u => u = T) (cAft D cc A) A) args s 0 0 A) (F0 m 29 ls []) := by
            intro S h H locs hw ls hl
            rw [ej29] at h
            dsimp only at h
            refine lv_aload_n hx hb dX9_writeRow_29 rfl (lv_at hl 0 rfl) ?_
            refine lv_iload_n hx hb dX9_writeRow_30 rfl (lv_at hl 1 rfl) ?_
            obtain ⟨hf2, h⟩ := of_grd h
            obtain ⟨q31, hq31, h⟩ := of_cal h
            refine C_i hA hw (va_runV (As := [.int l2]) (rest := []) ⟨hx, hb, hml, hown, hts⟩ (cX9_firstRound_ok l D cc E n S f0 l2 hq31) (cwV 1 hts gX9_writeRow_X9_firstRound rfl rfl rfl (by decide +kernel) ⟨Nat.le_of_ble_eq_true rfl, Nat.le_of_ble_eq_true rfl⟩) ⟨cBlind D cc E S _, C_recv hK hw (by omega) (cell_10 hf2) (r := (RX9, TX9, 10)) rfl, fun U hU hW => ⟨rfl, C_pre hA hK hro hw U hU hW⟩⟩ rfl rfl hl.1 rfl (lv_room (Nat.le_of_ble_eq_true rfl)) dX9_writeRow_31 ⟨Nat.le_refl _, Nat.le_refl _⟩) (fun H locs hw => ?_)
            refine W.widen (k := 0) (n := 0) (Nat.le_refl _) (Nat.le_refl _) ?_
            refine lv_istore (lv' := [(4, .int q31), (0, .ref f0), (2, .int l2), (3, .int l3)]) hx hb dX9_writeRow_34 hl (by decide) rfl (fun ls hl => ?_)
            refine lv_aload_n hx hb dX9_writeRow_36 rfl (lv_at hl 1 rfl) ?_
            refine lv_aload_n hx hb dX9_writeRow_37 rfl (lv_at hl 1 rfl) ?_
            refine lv_iload hx hb dX9_writeRow_38 (lv_at hl 0 rfl) ?_
            obtain ⟨q40, hq40, h⟩ := of_cal h
            refine C_l hA hw (va_runV (As := [.int q31]) (rest := [.ref f0]) ⟨hx, hb, hml, hown, hts⟩ (cX9_roundAsNumber_ok l D cc E n S f0 q31 hq40) (cwV 1 hts gX9_writeRow_X9_roundAsNumber rfl rfl rfl (by decide +kernel) ⟨Nat.le_of_ble_eq_true rfl, Nat.le_of_ble_eq_true rfl⟩) ⟨cBlind D cc E S _, C_recv hK hw (by omega) (cell_10 hf2) (r := (RX9, TX9, 10)) rfl, fun U hU hW => ⟨rfl, C_pre hA hK hro hw U hU hW⟩⟩ rfl rfl hl.1 rfl (lv_room (Nat.le_of_ble_eq_true rfl)) dX9_writeRow_40 ⟨Nat.le_refl _, Nat.le_refl _⟩) (fun H locs hw => ?_)
            refine W.widen (k := 0) (n := 0) (Nat.le_refl _) (Nat.le_refl _) ?_
            obtain ⟨q43, hq43, h⟩ := of_cal h
            obtain ⟨S43, eS43⟩ : ∃ x, x = q43 := ⟨_, rfl⟩
            subst eS43
            refine C_v hA hw (va_runV (As := [.long q40]) (rest := []) ⟨hx, hb, hml, hown, hts⟩ (cX9_addRound_ok l D cc E n S f0 q40 hq43) (cwV 1 hts gX9_writeRow_X9_addRound rfl rfl rfl (by decide +kernel) ⟨Nat.le_of_ble_eq_true rfl, Nat.le_of_ble_eq_true rfl⟩) ⟨cBlind D cc E S _, C_recv hK hw (by omega) (cell_10 hf2) (r := (RX9, TX9, 10)) rfl, fun U hU hW => ⟨rfl, C_pre hA hK hro hw U hU hW⟩⟩ rfl rfl hl.1 rfl (lv_room (Nat.le_of_ble_eq_true rfl)) dX9_writeRow_43 ⟨Nat.le_refl _, Nat.le_refl _⟩) (fun H locs hw => ?_)
            refine W.widen (k := 0) (n := 0) (Nat.le_refl _) (Nat.le_refl _) ?_
            refine lv_iload_n hx hb dX9_writeRow_46 rfl (lv_at hl 2 rfl) ?_
            refine lv_iload hx hb dX9_writeRow_47 (lv_at hl 0 rfl) ?_
            refine lv_ixor hx hb dX9_writeRow_49 ?_
            refine lv_topi (fun x50 ex50 => ?_)
            have h := of_bnd h ex50
            refine lv_istore_n (lv' := [(2, .int x50), (4, .int q31), (0, .ref f0), (3, .int l3)]) hx hb dX9_writeRow_50 rfl hl (by decide) rfl (fun ls hl => ?_)
            obtain ⟨x51, ex51⟩ : ∃ y : Int32, y = l3 + 1 := ⟨_, rfl⟩
            have h := of_bnd h ex51
            refine lv_iinc (v := x51) (lv' := [(3, .int x51), (2, .int x50), (4, .int q31), (0, .ref f0)]) hx hb dX9_writeRow_51 hl (k := 3) rfl (by rw [ex51]; rfl) (by decide) rfl (fun ls hl => ?_)
            refine lv_goto (tgt := 9) hx hb dX9_writeRow_54 (by decide) ?_
            exact ih9 x50 x51 S43 _ h _ _ hw ls (lv_sub hl [3, 1, 0] rfl) kx9_0
          refine lv_if_le (tgt := 29) hx hb dX9_writeRow_20 (by decide) (fun c20 => ?_) (fun c20 => ?_)
          · have h := of_it h c20
            exact hj29  S h _ _ hw ls (lv_sub hl [0, 1, 2] rfl)
          · have h := of_if h c20
            refine lv_aload_n hx hb dX9_writeRow_23 rfl (lv_at hl 0 rfl) ?_
            refine lv_bipush (v := 12) hx hb dX9_writeRow_24 (by decide) ?_
            obtain ⟨hf3, h⟩ := of_grd h
            obtain ⟨q26, hq26, h⟩ := of_cal h
            obtain ⟨S26, eS26⟩ : ∃ x, x = q26 := ⟨_, rfl⟩
            subst eS26
            refine C_v hA hw (va_runV (As := [.int (12 : Int32)]) (rest := []) ⟨hx, hb, hml, hown, hts⟩ (cX9_addStop_ok l D cc E n S f0 (12 : Int32) hq26) (cwV 1 hts gX9_writeRow_X9_addStop rfl rfl rfl (by decide +kernel) ⟨Nat.le_of_ble_eq_true rfl, Nat.le_of_ble_eq_true rfl⟩) ⟨cBlind D cc E S _, C_recv hK hw (by omega) (cell_10 hf3) (r := (RX9, TX9, 10)) rfl, fun U hU hW => ⟨rfl, C_pre hA hK hro hw U hU hW⟩⟩ rfl rfl hl.1 rfl (lv_room (Nat.le_of_ble_eq_true rfl)) dX9_writeRow_26 ⟨Nat.le_refl _, Nat.le_refl _⟩) (fun H locs hw => ?_)
            refine W.widen (k := 0) (n := 0) (Nat.le_refl _) (Nat.le_refl _) ?_
            exact hj29  S26 h _ _ hw ls (lv_sub hl [0, 1, 2] rfl)
  obtain ⟨q9, hq9, h⟩ := of_cal h
  refine lp9 a0 n.1 a1 x8 S2 q9  hq9 _ _ hw ls (lv_sub hl [2, 1, 0] rfl) ?_
  · intro S9 eq H locs hw ls hl
    subst eq
    obtain rfl := Option.some.inj h
    exact C_vret hx hb hr hlocks hw dX9_writeRow_57
