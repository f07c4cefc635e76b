def fX11_packFrom (n : Nat × Nat) (S : CS) (a0 : Nat) (a1 : Nat) (a2 : Nat) (a3 : Int32) (a4 : Int32) : Option ((Int32 × CS) × Nat × Nat) :=
  bnd (fX11_isKind a3) (fun r1 => if r1 = 0 then 
    some (((0 : Int32), S), 0, 0)
    else grd (cD S a0 = 12) (onn (cR S 240 a0) (fun b8 => grd (cD S b8 = 40) (grd (¬ (a3 < 0 ∨ cN S b8 ≤ a3.toNatClampNeg)) (bnd (cA S 40 b8 a3.toNatClampNeg) (fun v12 => grd (cD S a2 = 1) (bnd (cI S 21 a2) (fun v14 => if (v12 &&& v14) = 0 then 
      onn (cR S 241 a0) (fun b24 => cal (fX11_earliestLastDay n S a0 a3) (fun q30 => grd (cD S b24 = 8) (cal (fX7_handOut n S b24 a3 q30 a4 a1 a2) (un2 fun w37 u37 => un2 (fun r37 S37 => un2 (fun c1_37 c2_37 => adc c1_37 c2_37 (some ((r37, S37), 0, 0))) u37) w37))))
      else some (((0 : Int32), S), 0, 0)))))))))
set_option maxHeartbeats 8000000 in
set_option maxRecDepth 100000 in
theorem cX11_packFrom_ok (l : Launch) (D : va_G) (cc : Nat → ClassId) (E : Nat → Nat) (n : Nat × Nat) (hE : E 0 = n.2) (S : CS) (a0 : Nat) (a1 : Nat) (a2 : Nat) (a3 : Int32) (a4 : Int32) {r : Int32} {T : CS} {mc ms : Nat} (h : fX11_packFrom n S a0 a1 a2 a3 a4 = some ((r, T), mc, ms)) : Ci l yX11_packFrom wsX11_packFrom 9 241 D cc E [.ref a0, .ref a1, .ref a2, .int a3, .int a4] S r T mc ms := by
  refine C_of (own := RX11) (bb := cX11_packFrom) (nL := 5) (ret := (some .int)) (by decide) rfl rfl (Nat.le_of_ble_eq_true rfl) ?_
  intro p e s m args below meth c hx hb hr hlocks hml hts hown hnm hA hK hro hw ls hl
  generalize va_A (cPs cc S) (nx S) = A at hA hro hw ⊢
  unfold fX11_packFrom at h
  have hinX0 : ∀ w ∈ wsX00, w ∈ wsX11_packFrom := by decide +kernel
  have hinX11 : ∀ w ∈ wsX110, w ∈ wsX11_packFrom := by decide +kernel
  have hl : lv_has ls 5 [(0, .ref a0), (1, .ref a1), (2, .ref a2), (3, .int a3), (4, .int a4)] := hl
  refine W.widen (k := mc - mc) (n := ms - ms) (by omega) (by omega) ?_
  have hk1 : mc ≤ mc := Nat.le_refl _
  have hk2 : ms ≤ ms := Nat.le_refl _
  refine lv_iload_n hx hb dX11_packFrom_0 rfl (lv_at hl 3 rfl) ?_
  refine C_s (va_runS (As := [.int a3]) (rest := []) ⟨hx, hb, hml, hown, hts⟩ (cX11_isKind_ok l a3) (va_cwS 1 hts gX11_packFrom_X11_isKind rfl rfl rfl (by decide +kernel) ⟨Nat.le_of_ble_eq_true rfl, Nat.le_of_ble_eq_true rfl⟩) ⟨fun a U g mk q => ⟨q.1, trivial⟩, fun U hU hW => ⟨rfl, trivial⟩⟩ rfl rfl hl.1 rfl (lv_room (Nat.le_of_ble_eq_true rfl)) dX11_packFrom_1 ⟨by show _ ≤ mc; omega, by show _ ≤ ms; omega⟩) (fun r1 er1 => ?_)
  have h := of_bnd h er1
  refine lv_if_eq (tgt := 21) hx hb dX11_packFrom_4 (by decide) (fun c4 => ?_) (fun c4 => ?_)
  · have h := of_it h c4
    refine lv_iconst (v := 0) hx hb dX11_packFrom_21 (by decide) ?_
    obtain ⟨rfl, rfl, ek1, ek2⟩ := of_retA h
    refine W.widen (k := mc) (n := ms) (by omega) (by omega) ?_
    exact C_iret hx hb hr hlocks hw (by rfl) dX11_packFrom_22
  · have h := of_if h c4
    refine lv_aload_n hx hb dX11_packFrom_7 rfl (lv_at hl 0 rfl) ?_
    obtain ⟨hf1, h⟩ := of_grd h
    obtain ⟨b8, eb8, h⟩ := of_onn h
    refine C_get hx hb hts hinX11 hown hK hw (cell_12 hf1) (by omega) rfl 0 (by decide) (index := 9) (by decide +kernel) rfl (v := .ref b8) (congrArg (fun o => some (va_rf o)) eb8) dX11_packFrom_8 ?_
    refine lv_iload_n hx hb dX11_packFrom_11 rfl (lv_at hl 3 rfl) ?_
    obtain ⟨hf2, h⟩ := of_grd h
    obtain ⟨hi12, h⟩ := of_grd h
    refine C_iald hx hb hK hw hf2 (by decide) (by decide) hi12 dX11_packFrom_12 ?_
    refine lv_topi (fun v12 ev12 => ?_)
    have h := of_bnd h ev12
    refine lv_aload_n hx hb dX11_packFrom_13 rfl (lv_at hl 2 rfl) ?_
    obtain ⟨hf3, h⟩ := of_grd h
    refine C_get hx hb hts hinX0 hown hK hw (cell_1 hf3) (by omega) rfl 1 (by decide) (index := 283) (by decide +kernel) rfl rfl dX11_packFrom_14 ?_
    refine lv_topi (fun v14 ev14 => ?_)
    have h := of_bnd h ev14
    refine lv_iand hx hb dX11_packFrom_17 ?_
    refine lv_if_eq (tgt := 23) hx hb dX11_packFrom_18 (by decide) (fun c18 => ?_) (fun c18 => ?_)
    · have h := of_it h c18
      refine lv_aload_n hx hb dX11_packFrom_23 rfl (lv_at hl 0 rfl) ?_
      obtain ⟨b24, eb24, h⟩ := of_onn h
      refine C_get hx hb hts hinX11 hown hK hw (cell_12 hf1) (by omega) rfl 1 (by decide) (index := 16) (by decide +kernel) rfl (v := .ref b24) (congrArg (fun o => some (va_rf o)) eb24) dX11_packFrom_24 ?_
      refine lv_iload_n hx hb dX11_packFrom_27 rfl (lv_at hl 3 rfl) ?_
      refine lv_aload_n hx hb dX11_packFrom_28 rfl (lv_at hl 0 rfl) ?_
      refine lv_iload_n hx hb dX11_packFrom_29 rfl (lv_at hl 3 rfl) ?_
      obtain ⟨q30, hq30, h⟩ := of_cal h
      refine C_i hA hw (va_runV (As := [.int a3]) (rest := [.int a3, .ref b24]) ⟨hx, hb, hml, hown, hts⟩ (cX11_earliestLastDay_ok l D cc E n S a0 a3 hq30) (cwV 1 hts gX11_packFrom_X11_earliestLastDay rfl rfl rfl (by decide +kernel) ⟨Nat.le_of_ble_eq_true rfl, Nat.le_of_ble_eq_true rfl⟩) ⟨cBlind D cc E S _, C_recv hK hw (by omega) (cell_12 hf1) (r := (RX11, TX11, 12)) rfl, fun U hU hW => ⟨rfl, C_pre hA hK hro hw U hU hW⟩⟩ rfl rfl hl.1 rfl (lv_room (Nat.le_of_ble_eq_true rfl)) dX11_packFrom_30 ⟨by show _ ≤ mc; omega, by show _ ≤ ms; omega⟩) (fun H locs hw => ?_)
      refine W.widen (k := mc - mc) (n := ms - ms) (Nat.le_refl _) (Nat.le_refl _) ?_
      refine lv_iload hx hb dX11_packFrom_33 (lv_at hl 4 rfl) ?_
      refine lv_aload_n hx hb dX11_packFrom_35 rfl (lv_at hl 1 rfl) ?_
      refine lv_aload_n hx hb dX11_packFrom_36 rfl (lv_at hl 2 rfl) ?_
      obtain ⟨hf4, h⟩ := of_grd h
      obtain ⟨q37, hq37, h⟩ := of_cal h
      obtain ⟨⟨r37, S37⟩, c1_37, c2_37⟩ := q37
      have h := of_un2 h
      have h := of_un2 h
      have h := of_un2 h
      obtain ⟨kc5, ks5, h, ek1, ek2⟩ := of_adc h
      refine C_i hA hw (va_runV (As := [.int a3, .int q30, .int a4, .ref a1, .ref a2]) (rest := []) ⟨hx, hb, hml, hown, hts⟩ (cX7_handOut_ok l D cc E n hE S b24 a3 q30 a4 a1 a2 hq37) (cwV 5 hts gX11_packFrom_X7_handOut rfl rfl rfl (by decide +kernel) ⟨Nat.le_of_ble_eq_true rfl, Nat.le_of_ble_eq_true rfl⟩) ⟨cBlind D cc E S _, C_recv hK hw (by omega) (cell_8 hf4) (r := (RX7, TX7, 2)) rfl, fun U hU hW => ⟨rfl, C_pre hA hK hro hw U hU hW⟩⟩ rfl rfl hl.1 rfl (lv_room (Nat.le_of_ble_eq_true rfl)) dX11_packFrom_37 ⟨by show _ ≤ mc; omega, by show _ ≤ ms; omega⟩) (fun H locs hw => ?_)
      refine W.widen (k := mc - kc5) (n := ms - ks5) (by omega) (by omega) ?_
      have hk1 : kc5 ≤ mc := by omega
      have hk2 : ks5 ≤ ms := by omega
      obtain ⟨rfl, rfl, ek1, ek2⟩ := of_retA h
      refine W.widen (k := mc) (n := ms) (by omega) (by omega) ?_
      exact C_iret hx hb hr hlocks hw (by rfl) dX11_packFrom_40
    · have h := of_if h c18
      refine lv_iconst (v := 0) hx hb dX11_packFrom_21 (by decide) ?_
      obtain ⟨rfl, rfl, ek1, ek2⟩ := of_retA h
      refine W.widen (k := mc) (n := ms) (by omega) (by omega) ?_
      exact C_iret hx hb hr hlocks hw (by rfl) dX11_packFrom_22

def fX11_pack_lp31 (n : Nat × Nat) (f0 : Nat) (f1 : Nat) (f2 : Nat) (f3 : Int32) : Nat → Int32 → Int32 → CS → Option ((Int32 × CS) × Nat × Nat)
  | 0, _, _, _ => none
  | k + 1, l4, l5, S =>
    grd (cD S f0 = 12) (onn (cR S 247 f0) (fun b34 => grd (cD S b34 = 7) (bnd (cI S 144 b34) (fun v37 => if v37 ≤ l5 then 
        some ((l4, S), 0, 0)
        else if l4 ≤ 0 then 
          some ((l4, S), 0, 0)
          else onn (cR S 247 f0) (fun b49 => grd (cD S b49 = 7) (cal (fX6_kindSwapped n S b49 l5 f3) (fun q55 => if q55 = (-1 : Int32) then 
            bnd (l5 + 1) (fun x81 => fX11_pack_lp31 n f0 f1 f2 f3 k l4 x81 S)
            else cal (fX11_packFrom n S f0 f1 f2 q55 l4) (un2 fun w75 u75 => un2 (fun r75 S75 => un2 (fun c1_75 c2_75 => adc c1_75 c2_75 (bnd (l4 - r75) (fun x79 => bnd (l5 + 1) (fun x81 => fX11_pack_lp31 n f0 f1 f2 f3 k x79 x81 S75)))) u75) w75))))))))
def fX11_pack (n : Nat × Nat) (S : CS) (a0 : Nat) (a1 : Nat) (a2 : Nat) (a3 : Int32) : Option (CS × Nat × Nat) :=
  grd (cD S a0 = 12) (onn (cR S 247 a0) (fun b1 => grd (cD S a2 = 1) (bnd (cI S 20 a2) (fun v6 => grd (cD S b1 = 7) (cal (fX6_gramsNeeded n S b1 a3 v6) (fun q9 => cal (fX11_packFrom n S a0 a1 a2 a3 q9) (un2 fun w22 u22 => un2 (fun r22 S22 => un2 (fun c1_22 c2_22 => adc c1_22 c2_22 (bnd (q9 - r22) (fun x26 => bnd (0 : Int32) (fun x29 => cal (fX11_pack_lp31 n a0 a1 a2 a3 n.1 x26 x29 S22) (un2 fun q31 u31 => un2 (fun c1_31 c2_31 => adc c1_31 c2_31 ((un2 fun t4_31 S31 => grd (cD S31 a1 = 4) (bnd (cI S31 84 a1) (fun v89 => bnd (uI S31 84 a1 (v89 + t4_31)) (fun S95 => some (S95, 0, 0))))) q31)) u31))))) u22) w22)))))))
set_option maxHeartbeats 8000000 in
set_option maxRecDepth 100000 in
theorem cX11_pack_ok (l : Launch) (D : va_G) (cc : Nat → ClassId) (E : Nat → Nat) (n : Nat × Nat) (hE : E 0 = n.2) (S : CS) (a0 : Nat) (a1 : Nat) (a2 : Nat) (a3 : Int32) {T : CS} {mc ms : Nat} (h : fX11_pack n S a0 a1 a2 a3 = some (T, mc, ms)) : Cv l yX11_pack wsX11_pack 10 265 D cc E [.ref a0, .ref a1, .ref a2, .int a3] S T mc ms := by
  refine C_of (own := RX11) (bb := cX11_pack) (nL := 7) (ret := none) (by decide) rfl rfl (Nat.le_of_ble_eq_true rfl) ?_
  intro p e s m args below meth c hx hb hr hlocks hml hts hown hnm hA hK hro hw ls hl
  generalize va_A (cPs cc S) (nx S) = A at hA hro hw ⊢
  unfold fX11_pack at h
  have hinX0 : ∀ w ∈ wsX00, w ∈ wsX11_pack := by decide +kernel
  have hinX11 : ∀ w ∈ wsX110, w ∈ wsX11_pack := by decide +kernel
  have hinX3 : ∀ w ∈ wsX30, w ∈ wsX11_pack := by decide +kernel
  have hinX6 : ∀ w ∈ wsX60, w ∈ wsX11_pack := by decide +kernel
  have hl : lv_has ls 7 [(0, .ref a0), (1, .ref a1), (2, .ref a2), (3, .int a3)] := hl
  refine W.widen (k := mc - mc) (n := ms - ms) (by omega) (by omega) ?_
  have hk1 : mc ≤ mc := Nat.le_refl _
  have hk2 : ms ≤ ms := Nat.le_refl _
  refine lv_aload_n hx hb dX11_pack_0 rfl (lv_at hl 0 rfl) ?_
  obtain ⟨hf1, h⟩ := of_grd h
  obtain ⟨b1, eb1, h⟩ := of_onn h
  refine C_get hx hb hts hinX11 hown hK hw (cell_12 hf1) (by omega) rfl 7 (by decide) (index := 50) (by decide +kernel) rfl (v := .ref b1) (congrArg (fun o => some (va_rf o)) eb1) dX11_pack_1 ?_
  refine lv_iload_n hx hb dX11_pack_4 rfl (lv_at hl 3 rfl) ?_
  refine lv_aload_n hx hb dX11_pack_5 rfl (lv_at hl 2 rfl) ?_
  obtain ⟨hf2, h⟩ := of_grd h
  refine C_get hx hb hts hinX0 hown hK hw (cell_1 hf2) (by omega) rfl 0 (by decide) (index := 135) (by decide +kernel) rfl rfl dX11_pack_6 ?_
  refine lv_topi (fun v6 ev6 => ?_)
  have h := of_bnd h ev6
  obtain ⟨hf3, h⟩ := of_grd h
  obtain ⟨q9, hq9, h⟩ := of_cal h
  refine C_i hA hw (va_runV (As := [.int a3, .int v6]) (rest := []) ⟨hx, hb, hml, hown, hts⟩ (cX6_gramsNeeded_ok l D cc E n S b1 a3 v6 hq9) (cwV 2 hts gX11_pack_X6_gramsNeeded rfl rfl rfl (by decide +kernel) ⟨Nat.le_of_ble_eq_true rfl, Nat.le_of_ble_eq_true rfl⟩) ⟨cBlind D cc E S _, C_recv hK hw (by omega) (cell_7 hf3) (r := (RX6, TX6, 5)) rfl, fun U hU hW => ⟨rfl, C_pre hA hK hro hw U hU hW⟩⟩ rfl rfl hl.1 rfl (lv_room (Nat.le_of_ble_eq_true rfl)) dX11_pack_9 ⟨by show _ ≤ mc; omega, by show _ ≤ ms; omega⟩) (fun H locs hw => ?_)
  refine W.widen (k := mc - mc) (n := ms - ms) (Nat.le_refl _) (Nat.le_refl _) ?_
  refine lv_istore (lv' := [(4, .int q9), (0, .ref a0), (1, .ref a1), (2, .ref a2), (3, .int a3)]) hx hb dX11_pack_12 hl (by decide) rfl (fun ls hl => ?_)
  refine lv_iload hx hb dX11_pack_14 (lv_at hl 0 rfl) ?_
  refine lv_aload_n hx hb dX11_pack_16 rfl (lv_at hl 1 rfl) ?_
  refine lv_aload_n hx hb dX11_pack_17 rfl (lv_at hl 2 rfl) ?_
  refine lv_aload_n hx hb dX11_pack_18 rfl (lv_at hl 3 rfl) ?_
  refine lv_iload_n hx hb dX11_pack_19 rfl (lv_at hl 4 rfl) ?_
  refine lv_iload hx hb dX11_pack_20 (lv_at hl 0 rfl) ?_
  obtain ⟨q22, hq22, h⟩ := of_cal h
  obtain ⟨⟨r22, S22⟩, c1_22, c2_22⟩ := q22
  have h := of_un2 h
  have h := of_un2 h
  have h := of_un2 h
  obtain ⟨kc4, ks4, h, ek1, ek2⟩ := of_adc h
  refine C_i hA hw (va_runV (As := [.ref a1, .ref a2, .int a3, .int q9]) (rest := [.int q9]) ⟨hx, hb, hml, hown, hts⟩ (cX11_packFrom_ok l D cc E n hE S a0 a1 a2 a3 q9 hq22) (cwV 4 hts gX11_pack_X11_packFrom rfl rfl rfl (by decide +kernel) ⟨Nat.le_of_ble_eq_true rfl, Nat.le_of_ble_eq_true rfl⟩) ⟨cBlind D cc E S _, C_recv hK hw (by omega) (cell_12 hf1) (r := (RX11, TX11, 12)) rfl, fun U hU hW => ⟨rfl, C_pre hA hK hro hw U hU hW⟩⟩ rfl rfl hl.1 rfl (lv_room (Nat.le_of_ble_eq_true rfl)) dX11_pack_22 ⟨by show _ ≤ mc; omega, by show _ ≤ ms; omega⟩) (fun H locs hw => ?_)
  refine W.widen (k := mc - kc4) (n := ms - ks4) (by omega) (by omega) ?_
  have hk1 : kc4 ≤ mc := by omega
  have hk2 : ks4 ≤ ms := by omega
  refine lv_isub hx hb dX11_pack_25 ?_
  refine lv_topi (fun x26 ex26 => ?_)
  have h := of_bnd h ex26
  refine lv_istore (lv' := [(4, .int x26), (0, .ref a0), (1, .ref a1), (2, .ref a2), (3, .int a3)]) hx hb dX11_pack_26 hl (by decide) rfl (fun ls hl => ?_)
  refine lv_iconst (v := 0) hx hb dX11_pack_28 (by decide) ?_
  refine lv_topi (fun x29 ex29 => ?_)
  have h := of_bnd h ex29
  refine lv_istore (lv' := [(5, .int x29), (4, .int x26), (0, .ref a0), (1, .ref a1), (2, .ref a2), (3, .int a3)]) hx hb dX11_pack_29 hl (by decide) rfl (fun ls hl => ?_)
  have lp31 : ∀ (f0 : Nat) (f1 : Nat) (f2 : Nat) (f3 : Int32) (k : Nat) (l4 : Int32) (l5 : Int32) (S : CS) (q : Int32 × CS) (c1 c2 : Nat) (g1 g2 : Nat), fX11_pack_lp31 n f0 f1 f2 f3 k l4 l5 S = some (q, c1, c2) → c1 + g1 ≤ mc → c2 + g2 ≤ ms → ∀ (H : Heap) (locs : List Loc), cWd D cc A s.heap S H locs → ∀ ls : Array Slot, lv_has ls 7 [(0, .ref f0), (1, .ref f1), (2, .ref f2), (3, .int f3), (4, .int l4), (5, .int l5)] → (∀ (t4 : Int32) (S1 : CS), (t4, S1) = q → ∀ (H : Heap) (locs : List Loc), cWd D cc A s.heap S1 H locs → ∀ ls : Array Slot, lv_has ls 7 [(1, .ref f1), (4, .int t4)] → W p l e (cRm 10 265 mc ms) s m args below meth c H locs (mc - g1) (ms - g2) (MQ below (va_Qv (fun u => u = T) (cAft D cc A) A) args s mc ms A) (F0 m 87 ls [])) → W p l e (cRm 10 265 mc ms) s m args below meth c H locs (mc - (c1 + g1)) (ms - (c2 + g2)) (MQ below (va_Qv (fun u => u = T) (cAft D cc A) A) args s mc ms A) (F0 m 31 ls []) := by
    intro f0 f1 f2 f3 k
    induction k with
    | zero => intro l4 l5 S q c1 c2 g1 g2 h; rw [fX11_pack_lp31] at h; cases h
    | succ k ih31 =>
      intro l4 l5 S q c1 c2 g1 g2 h hk1 hk2 H locs hw ls hl kx31_0
      rw [fX11_pack_lp31] at h
      refine lv_iload hx hb dX11_pack_31 (lv_at hl 5 rfl) ?_
      refine lv_aload_n hx hb dX11_pack_33 rfl (lv_at hl 0 rfl) ?_
      obtain ⟨hf5, h⟩ := of_grd h
      obtain ⟨b34, eb34, h⟩ := of_onn h
      refine C_get hx hb hts hinX11 hown hK hw (cell_12 hf5) (by omega) rfl 7 (by decide) (index := 50) (by decide +kernel) rfl (v := .ref b34) (congrArg (fun o => some (va_rf o)) eb34) dX11_pack_34 ?_
      obtain ⟨hf6, h⟩ := of_grd h
      refine C_get hx hb hts hinX6 hown hK hw (cell_7 hf6) (by omega) rfl 4 (by decide) (index := 236) (by decide +kernel) rfl rfl dX11_pack_37 ?_
      refine lv_topi (fun v37 ev37 => ?_)
      have h := of_bnd h ev37
      refine lv_icmp_ge (tgt := 87) hx hb dX11_pack_40 (by decide) (fun c40 => ?_) (fun c40 => ?_)
      · have h := of_it h c40
        obtain ⟨eq9, ek1, ek2⟩ := of_ret3 h
        refine W.widen (k := mc - g1) (n := ms - g2) (by omega) (by omega) ?_
        exact kx31_0 l4 S eq9.symm _ _ hw ls (lv_sub hl [1, 4] rfl)
      · have h := of_if h c40
        refine lv_iload hx hb dX11_pack_43 (lv_at hl 4 rfl) ?_
        refine lv_if_le (tgt := 87) hx hb dX11_pack_45 (by decide) (fun c45 => ?_) (fun c45 => ?_)
        · have h := of_it h c45
          obtain ⟨eq9, ek1, ek2⟩ := of_ret3 h
          refine W.widen (k := mc - g1) (n := ms - g2) (by omega) (by omega) ?_
          exact kx31_0 l4 S eq9.symm _ _ hw ls (lv_sub hl [1, 4] rfl)
        · have h := of_if h c45
          refine lv_aload_n hx hb dX11_pack_48 rfl (lv_at hl 0 rfl) ?_
          obtain ⟨b49, eb49, h⟩ := of_onn h
          refine C_get hx hb hts hinX11 hown hK hw (cell_12 hf5) (by omega) rfl 7 (by decide) (index := 50) (by decide +kernel) rfl (v := .ref b49) (congrArg (fun o => some (va_rf o)) eb49) dX11_pack_49 ?_
          refine lv_iload hx hb dX11_pack_52 (lv_at hl 5 rfl) ?_
          refine lv_iload_n hx hb dX11_pack_54 rfl (lv_at hl 3 rfl) ?_
          obtain ⟨hf7, h⟩ := of_grd h
          obtain ⟨q55, hq55, h⟩ := of_cal h
          refine C_i hA hw (va_runV (As := [.int l5, .int f3]) (rest := []) ⟨hx, hb, hml, hown, hts⟩ (cX6_kindSwapped_ok l D cc E n S b49 l5 f3 hq55) (cwV 2 hts gX11_pack_X6_kindSwapped rfl rfl rfl (by decide +kernel) ⟨Nat.le_of_ble_eq_true rfl, Nat.le_of_ble_eq_true rfl⟩) ⟨cBlind D cc E S _, C_recv hK hw (by omega) (cell_7 hf7) (r := (RX6, TX6, 5)) rfl, fun U hU hW => ⟨rfl, C_pre hA hK hro hw U hU hW⟩⟩ rfl rfl hl.1 rfl (lv_room (Nat.le_of_ble_eq_true rfl)) dX11_pack_55 ⟨by show _ ≤ mc; omega, by show _ ≤ ms; omega⟩) (fun H locs hw => ?_)
          refine W.widen (k := mc - (c1 + g1)) (n := ms - (c2 + g2)) (Nat.le_refl _) (Nat.le_refl _) ?_
          refine lv_istore (lv' := [(6, .int q55), (0, .ref f0), (1, .ref f1), (2, .ref f2), (3, .int f3), (4, .int l4), (5, .int l5)]) hx hb dX11_pack_58 hl (by decide) rfl (fun ls hl => ?_)
          refine lv_iload hx hb dX11_pack_60 (lv_at hl 0 rfl) ?_
          refine lv_iconst (v := -1) hx hb dX11_pack_62 (by decide) ?_
          refine lv_icmp_eq (tgt := 81) hx hb dX11_pack_63 (by decide) (fun c63 => ?_) (fun c63 => ?_)
          · have h := of_it h c63
            obtain ⟨x81, ex81⟩ : ∃ y : Int32, y = l5 + 1 := ⟨_, rfl⟩
            have h := of_bnd h ex81
            refine lv_iinc (v := x81) (lv' := [(5, .int x81), (6, .int q55), (0, .ref f0), (1, .ref f1), (2, .ref f2), (3, .int f3), (4, .int l4)]) hx hb dX11_pack_81 hl (k := 6) rfl (by rw [ex81]; rfl) (by decide) rfl (fun ls hl => ?_)
            refine lv_goto (tgt := 31) hx hb dX11_pack_84 (by decide) ?_
            exact ih31 l4 x81 S _ _ _ _ _ h (by omega) (by omega) _ _ hw ls (lv_sub hl [2, 3, 4, 5, 6, 0] rfl) kx31_0
          · have h := of_if h c63
            refine lv_iload hx hb dX11_pack_66 (lv_at hl 5 rfl) ?_
            refine lv_aload_n hx hb dX11_pack_68 rfl (lv_at hl 1 rfl) ?_
            refine lv_aload_n hx hb dX11_pack_69 rfl (lv_at hl 2 rfl) ?_
            refine lv_aload_n hx hb dX11_pack_70 rfl (lv_at hl 3 rfl) ?_
            refine lv_iload hx hb dX11_pack_71 (lv_at hl 0 rfl) ?_
            refine lv_iload hx hb dX11_pack_73 (lv_at hl 5 rfl) ?_
            obtain ⟨q75, hq75, h⟩ := of_cal h
            obtain ⟨⟨r75, S75⟩, c1_75, c2_75⟩ := q75
            have h := of_un2 h
            have h := of_un2 h
            have h := of_un2 h
            obtain ⟨kc8, ks8, h, ek1, ek2⟩ := of_adc h
            refine C_i hA hw (va_runV (As := [.ref f1, .ref f2, .int q55, .int l4]) (rest := [.int l4]) ⟨hx, hb, hml, hown, hts⟩ (cX11_packFrom_ok l D cc E n hE S f0 f1 f2 q55 l4 hq75) (cwV 4 hts gX11_pack_X11_packFrom rfl rfl rfl (by decide +kernel) ⟨Nat.le_of_ble_eq_true rfl, Nat.le_of_ble_eq_true rfl⟩) ⟨cBlind D cc E S _, C_recv hK hw (by omega) (cell_12 hf5) (r := (RX11, TX11, 12)) rfl, fun U hU hW => ⟨rfl, C_pre hA hK hro hw U hU hW⟩⟩ rfl rfl hl.1 rfl (lv_room (Nat.le_of_ble_eq_true rfl)) dX11_pack_75 ⟨by show _ ≤ mc; omega, by show _ ≤ ms; omega⟩) (fun H locs hw => ?_)
            refine W.widen (k := mc - (kc8 + g1)) (n := ms - (ks8 + g2)) (by omega) (by omega) ?_
            have hk1 : (kc8 + g1) ≤ mc := by omega
            have hk2 : (ks8 + g2) ≤ ms := by omega
            refine lv_isub hx hb dX11_pack_78 ?_
            refine lv_topi (fun x79 ex79 => ?_)
            have h := of_bnd h ex79
            refine lv_istore (lv' := [(4, .int x79), (6, .int q55), (0, .ref f0), (1, .ref f1), (2, .ref f2), (3, .int f3), (5, .int l5)]) hx hb dX11_pack_79 hl (by decide) rfl (fun ls hl => ?_)
            obtain ⟨x81, ex81⟩ : ∃ y : Int32, y = l5 + 1 := ⟨_, rfl⟩
            have h := of_bnd h ex81
            refine lv_iinc (v := x81) (lv' := [(5, .int x81), (4, .int x79), (6, .int q55), (0, .ref f0), (1, .ref f1), (2, .ref f2), (3, .int f3)]) hx hb dX11_pack_81 hl (k := 6) rfl (by rw [ex81]; rfl) (by decide) rfl (fun ls hl => ?_)
            refine lv_goto (tgt := 31) hx hb dX11_pack_84 (by decide) ?_
            exact ih31 x79 x81 S75 _ _ _ _ _ h (by omega) (by omega) _ _ hw ls (lv_sub hl [3, 4, 5, 6, 1, 0] rfl) kx31_0
  obtain ⟨q31, hq31, h⟩ := of_cal h
  obtain ⟨q31, c1_31, c2_31⟩ := q31
  have h := of_un2 h
  have h := of_un2 h
  obtain ⟨kc9, ks9, h, ek1, ek2⟩ := of_adc h
  refine W.widen (k := mc - (c1_31 + kc9)) (n := ms - (c2_31 + ks9)) (by omega) (by omega) ?_
  refine lp31 a0 a1 a2 a3 n.1 x26 x29 S22 q31 c1_31 c2_31 kc9 ks9 hq31 (by omega) (by omega) _ _ hw ls (lv_sub hl [2, 3, 4, 5, 1, 0] rfl) ?_
  · intro t4_31 S31 eq H locs hw ls hl
    subst eq
    have h := of_un2 h
    have hk1 : kc9 ≤ mc := by omega
    have hk2 : ks9 ≤ ms := by omega
    refine lv_aload_n hx hb dX11_pack_87 rfl (lv_at hl 0 rfl) ?_
    refine lv_dup hx hb dX11_pack_88 rfl ?_
    obtain ⟨hf10, h⟩ := of_grd h
    refine C_get hx hb hts hinX3 hown hK hw (cell_4 hf10) (by omega) rfl 4 (by decide) (index := 280) (by decide +kernel) rfl rfl dX11_pack_89 ?_
    refine lv_topi (fun v89 ev89 => ?_)
    have h := of_bnd h ev89
    refine lv_iload hx hb dX11_pack_92 (lv_at hl 1 rfl) ?_
    refine lv_iadd hx hb dX11_pack_94 ?_
    refine C_put hx hb hts hinX3 tyX3 tyX3_ok nmX3 hown hK hw (cell_4 hf10) (by omega) rfl 4 (by decide) (index := 280) (by decide +kernel) rfl rfl (ty := .int) (by decide +kernel) rfl rfl (Nat.le_of_ble_eq_true rfl) (S' := uI S31 84 a1 (v89 + t4_31)) rfl rfl rfl (pu_84 hf10 (v89 + t4_31)) (fun b hb => off_uI hb) dX11_pack_95 (fun S95 H locs eS95 hw => ?_)
    have h := of_bnd h eS95
    obtain ⟨rfl, ek1, ek2⟩ := of_retV h
    refine W.widen (k := mc) (n := ms) (by omega) (by omega) ?_
    exact C_vret hx hb hr hlocks hw dX11_pack_98

def fX11_parcel_lp54 (n : Nat × Nat) (f0 : Nat) (f2 : Nat) (f4 : Nat) : Nat → Int32 → CS → Option ((CS) × Nat × Nat)
  | 0, _, _ => none
  | k + 1, l5, S =>
    if (10 : Int32) ≤ l5 then 
            some (S, 0, 0)
            else grd (cD S f0 = 12) (cal (fX11_pack n S f0 f4 f2 l5) (un2 fun S67 u67 => un2 (fun c1_67 c2_67 => adc c1_67 c2_67 (bnd (l5 + 1) (fun x70 => fX11_parcel_lp54 n f0 f2 f4 k x70 S67))) u67))
def fX11_parcel (n : Nat × Nat) (S : CS) (a0 : Nat) (a1 : Int32) : Option ((Int32 × CS) × Nat × Nat) :=
  grd (cD S a0 = 12) (cal (fX11_findFamily n S a0 a1) (fun q2 => oel q2 (cal (fX11_refuse n S a0 (-2 : Int32)) (un2 fun r13 S13 => some ((r13, S13), 0, 0))) (fun b7 => bnd (cI S 248 a0) (fun v19 => grd (cD S b7 = 1) (cal (fX0_referralFor n S b7 v19) (fun q22 => oel q22 (cal (fX11_refuse n S a0 (-3 : Int32)) (un2 fun r33 S33 => some ((r33, S33), 0, 0))) (fun b27 => adc 1 5 (bnd (nx S) (fun q37 => bnd (nw S 4 0) (fun S37 => grd (cD S37 a0 = 12) (bnd (cI S37 248 a0) (fun v43 => cal (fX3_init n S37 q37 a1 v43) (un2 fun S46 u46 => un2 (fun c1_46 c2_46 => adc c1_46 c2_46 (bnd (0 : Int32) (fun x52 => cal (fX11_parcel_lp54 n a0 b7 q37 n.1 x52 S46) (un2 fun q54 u54 => un2 (fun c1_54 c2_54 => adc c1_54 c2_54 ((fun S54 => grd (cD S54 q37 = 4) (onn (cR S54 82 q37) (fun b78 => grd (cD S54 b78 = 24) (cal (fL_isEmpty n 4 S54 b78) (fun q81 => if q81 = 0 then 
          grd (cD S54 b27 = 5) (bnd (cI S54 102 b27) (fun v96 => bnd (uI S54 102 b27 (v96 - (1 : Int32))) (fun S101 => grd (cD S101 a0 = 12) (onn (cR S101 244 a0) (fun b105 => grd (cD S101 b105 = 23) (cal (fL_add n 3 S101 b105 q37) (un2 fun w110 u110 => un2 (fun r110 S110 => un2 (fun c1_110 c2_110 => adc c1_110 c2_110 (grd (cD S110 a0 = 12) (onn (cR S110 244 a0) (fun b116 => grd (cD S110 b116 = 23) (cal (fL_size n 3 S110 b116) (fun q119 => cal (fX11_accept n S110 a0 (q119 - (1 : Int32))) (un2 fun r124 S124 => some ((r124, S124), 0, 0)))))))) u110) w110)))))))
          else grd (cD S54 a0 = 12) (cal (fX11_refuse n S54 a0 (-4 : Int32)) (un2 fun r90 S90 => some ((r90, S90), 0, 0)))))))) q54)) u54)))) u46)))))))))))))
set_option maxHeartbeats 8000000 in
set_option maxRecDepth 100000 in
theorem cX11_parcel_ok (l : Launch) (D : va_G) (cc : Nat → ClassId) (E : Nat → Nat) (n : Nat × Nat) (hE : E 0 = n.2) (S : CS) (a0 : Nat) (a1 : Int32) {r : Int32} {T : CS} {mc ms : Nat} (h : fX11_parcel n S a0 a1 = some ((r, T), mc, ms)) : Ci l yX11_parcel wsX11_parcel 11 291 D cc E [.ref a0, .int a1] S r T mc ms := by
  refine C_of (own := RX11) (bb := cX11_parcel) (nL := 6) (ret := (some .int)) (by decide) rfl rfl (Nat.le_of_ble_eq_true rfl) ?_
  intro p e s m args below meth c hx hb hr hlocks hml hts hown hnm hA hK hro hw ls hl
  generalize va_A (cPs cc S) (nx S) = A at hA hro hw ⊢
  unfold fX11_parcel at h
  have hinX11 : ∀ w ∈ wsX110, w ∈ wsX11_parcel := by decide +kernel
  have hinX3 : ∀ w ∈ wsX30, w ∈ wsX11_parcel := by decide +kernel
  have hinX4 : ∀ w ∈ wsX40, w ∈ wsX11_parcel := by decide +kernel
  have hl : lv_has ls 6 [(0, .ref a0), (1, .int a1)] := hl
  refine W.widen (k := mc - mc) (n := ms - ms) (by omega) (by omega) ?_
  have hk1 : mc ≤ mc := Nat.le_refl _
  have hk2 : ms ≤ ms := Nat.le_refl _
  refine lv_aload_n hx hb dX11_parcel_0 rfl (lv_at hl 0 rfl) ?_
  refine lv_iload_n hx hb dX11_parcel_1 rfl (lv_at hl 1 rfl) ?_
  obtain ⟨hf1, h⟩ := of_grd h
  obtain ⟨q2, hq2, h⟩ := of_cal h
  refine C_q hA hw (va_runV (As := [.int a1]) (rest := []) ⟨hx, hb, hml, hown, hts⟩ (cX11_findFamily_ok l D cc E n S a0 a1 hq2) (cwV 1 hts gX11_parcel_X11_findFamily rfl rfl rfl (by decide +kernel) ⟨Nat.le_of_ble_eq_true rfl, Nat.le_of_ble_eq_true rfl⟩) ⟨cBlind D cc E S _, C_recv hK hw (by omega) (cell_12 hf1) (r := (RX11, TX11, 12)) rfl, fun U hU hW => ⟨rfl, C_pre hA hK hro hw U hU hW⟩⟩ rfl rfl hl.1 rfl (lv_room (Nat.le_of_ble_eq_true rfl)) dX11_parcel_2 ⟨by show _ ≤ mc; omega, by show _ ≤ ms; omega⟩) (fun H locs hw => ?_)
  refine W.widen (k := mc - mc) (n := ms - ms) (Nat.le_refl _) (Nat.le_refl _) ?_
  refine lv_astore_nq (lv' := [(2, va_rf q2), (0, .ref a0), (1, .int a1)]) hx hb dX11_parcel_5 rfl hl (by decide) rfl (fun ls hl => ?_)
  refine lv_aload_nq hx hb dX11_parcel_6 rfl (lv_at hl 0 rfl) ?_
  rcases q2 with _ | b7
  · have h := of_oelN h
    have hl : lv_has ls 6 [(2, .null), (0, .ref a0), (1, .int a1)] := hl
    refine lv_ifnonnullN hx hb dX11_parcel_7 ?_
    refine lv_aload_n hx hb dX11_parcel_10 rfl (lv_at hl 1 rfl) ?_
    refine lv_bipush (v := -2) hx hb dX11_parcel_11 (by decide) ?_
    obtain ⟨q13, hq13, h⟩ := of_cal h
    obtain ⟨r13, S13⟩ := q13
    have h := of_un2 h
    refine C_i hA hw (va_runV (As := [.int (-2 : Int32)]) (rest := []) ⟨hx, hb, hml, hown, hts⟩ (cX11_refuse_ok l D cc E n S a0 (-2 : Int32) hq13) (cwV 1 hts gX11_parcel_X11_refuse rfl rfl rfl (by decide +kernel) ⟨Nat.le_of_ble_eq_true rfl, Nat.le_of_ble_eq_true rfl⟩) ⟨cBlind D cc E S _, C_recv hK hw (by omega) (cell_12 hf1) (r := (RX11, TX11, 12)) rfl, fun U hU hW => ⟨rfl, C_pre hA hK hro hw U hU hW⟩⟩ rfl rfl hl.1 rfl (lv_room (Nat.le_of_ble_eq_true rfl)) dX11_parcel_13 ⟨by show _ ≤ mc; omega, by show _ ≤ ms; omega⟩) (fun H locs hw => ?_)
    refine W.widen (k := mc - mc) (n := ms - ms) (Nat.le_refl _) (Nat.le_refl _) ?_
    obtain ⟨rfl, rfl, ek1, ek2⟩ := of_retA h
    refine W.widen (k := mc) (n := ms) (by omega) (by omega) ?_
    exact C_iret hx hb hr hlocks hw (by rfl) dX11_parcel_16
  · have h := of_oelS h
    have hl : lv_has ls 6 [(2, .ref b7), (0, .ref a0), (1, .int a1)] := hl
    refine lv_ifnonnull (tgt := 17) hx hb dX11_parcel_7 (by decide) ?_
    refine lv_aload_n hx hb dX11_parcel_17 rfl (lv_at hl 0 rfl) ?_
    refine lv_aload_n hx hb dX11_parcel_18 rfl (lv_at hl 1 rfl) ?_
    refine C_get hx hb hts hinX11 hown hK hw (cell_12 hf1) (by omega) rfl 8 (by decide) (index := 54) (by decide +kernel) rfl rfl dX11_parcel_19 ?_
    refine lv_topi (fun v19 ev19 => ?_)
    have h := of_bnd h ev19
    obtain ⟨hf2, h⟩ := of_grd h
    obtain ⟨q22, hq22, h⟩ := of_cal h
    refine C_q hA hw (va_runV (As := [.int v19]) (rest := []) ⟨hx, hb, hml, hown, hts⟩ (cX0_referralFor_ok l D cc E n S b7 v19 hq22) (cwV 1 hts gX11_parcel_X0_referralFor rfl rfl rfl (by decide +kernel) ⟨Nat.le_of_ble_eq_true rfl, Nat.le_of_ble_eq_true rfl⟩) ⟨cBlind D cc E S _, C_recv hK hw (by omega) (cell_1 hf2) (r := (RX0, TX0, 4)) rfl, fun U hU hW => ⟨rfl, C_pre hA hK hro hw U hU hW⟩⟩ rfl rfl hl.1 rfl (lv_room (Nat.le_of_ble_eq_true rfl)) dX11_parcel_22 ⟨by show _ ≤ mc; omega, by show _ ≤ ms; omega⟩) (fun H locs hw => ?_)
    refine W.widen (k := mc - mc) (n := ms - ms) (Nat.le_refl _) (Nat.le_refl _) ?_
    refine lv_astore_nq (lv' := [(3, va_rf q22), (2, .ref b7), (0, .ref a0), (1, .int a1)]) hx hb dX11_parcel_25 rfl hl (by decide) rfl (fun ls hl => ?_)
    refine lv_aload_nq hx hb dX11_parcel_26 rfl (lv_at hl 0 rfl) ?_
    rcases q22 with _ | b27
    · have h := of_oelN h
      have hl : lv_has ls 6 [(3, .null), (2, .ref b7), (0, .ref a0), (1, .int a1)] := hl
      refine lv_ifnonnullN hx hb dX11_parcel_27 ?_
      refine lv_aload_n hx hb dX11_parcel_30 rfl (lv_at hl 2 rfl) ?_
      refine lv_bipush (v := -3) hx hb dX11_parcel_31 (by decide) ?_
      obtain ⟨q33, hq33, h⟩ := of_cal h
      obtain ⟨r33, S33⟩ := q33
      have h := of_un2 h
      refine C_i hA hw (va_runV (As := [.int (-3 : Int32)]) (rest := []) ⟨hx, hb, hml, hown, hts⟩ (cX11_refuse_ok l D cc E n S a0 (-3 : Int32) hq33) (cwV 1 hts gX11_parcel_X11_refuse rfl rfl rfl (by decide +kernel) ⟨Nat.le_of_ble_eq_true rfl, Nat.le_of_ble_eq_true rfl⟩) ⟨cBlind D cc E S _, C_recv hK hw (by omega) (cell_12 hf1) (r := (RX11, TX11, 12)) rfl, fun U hU hW => ⟨rfl, C_pre hA hK hro hw U hU hW⟩⟩ rfl rfl hl.1 rfl (lv_room (Nat.le_of_ble_eq_true rfl)) dX11_parcel_33 ⟨by show _ ≤ mc; omega, by show _ ≤ ms; omega⟩) (fun H locs hw => ?_)
      refine W.widen (k := mc - mc) (n := ms - ms) (Nat.le_refl _) (Nat.le_refl _) ?_
      obtain ⟨rfl, rfl, ek1, ek2⟩ := of_retA h
      refine W.widen (k := mc) (n := ms) (by omega) (by omega) ?_
      exact C_iret hx hb hr hlocks hw (by rfl) dX11_parcel_36
    · have h := of_oelS h
      have hl : lv_has ls 6 [(3, .ref b27), (2, .ref b7), (0, .ref a0), (1, .int a1)] := hl
      refine lv_ifnonnull (tgt := 37) hx hb dX11_parcel_27 (by decide) ?_
      obtain ⟨kc3, ks3, h, ek1, ek2⟩ := of_adc h
      refine C_new (d := 4) hx hb hts hinX3 tyX3 tyX3_ok hown (index := 146) (by decide +kernel) (by decide +kernel) (by decide +kernel) hK hA hw rfl (fun j hj => dfX3 j hj) (cnew_4 S) (by show _ ≤ mc; omega) (by show _ ≤ ms; omega) dX11_parcel_37 (fun q37 S37 H eq37 eS37 hw => ?_)
      have h := of_bnd h eq37
      have h := of_bnd h eS37
      refine W.widen (k := mc - kc3) (n := ms - ks3) (by omega) (by omega) ?_
      have hk1 : kc3 ≤ mc := by omega
      have hk2 : ks3 ≤ ms := by omega
      have hf4 : cD S37 q37 = 4 := by rw [eS37, eq37]; exact cD_new _ _ _
      refine lv_dup hx hb dX11_parcel_40 rfl ?_
      refine lv_iload_n hx hb dX11_parcel_41 rfl (lv_at hl 3 rfl) ?_
      refine lv_aload_n hx hb dX11_parcel_42 rfl (lv_at hl 2 rfl) ?_
      obtain ⟨hf5, h⟩ := of_grd h
      refine C_get hx hb hts hinX11 hown hK hw (cell_12 hf5) (by omega) rfl 8 (by decide) (index := 54) (by decide +kernel) rfl rfl dX11_parcel_43 ?_
      refine lv_topi (fun v43 ev43 => ?_)
      have h := of_bnd h ev43
      obtain ⟨q46, hq46, h⟩ := of_cal h
      obtain ⟨S46, c1_46, c2_46⟩ := q46
      have h := of_un2 h
      have h := of_un2 h
      obtain ⟨kc6, ks6, h, ek1, ek2⟩ := of_adc h
      refine C_v hA hw (va_runI (As := [.int a1, .int v43]) (rest := [.ref q37]) ⟨hx, hb, hml, hown, hts⟩ (cX3_init_ok l D cc E n hE S37 q37 a1 v43 hq46) (cwI 2 hts gX11_parcel_X3_init rfl rfl rfl (hts (.initialized RX3) (by decide +kernel)) (hts (.methodLink RX11 148 yX3_init) (by decide +kernel)) (hts (.instanceMethod yX3_init) (by decide +kernel)) rfl (by decide +kernel) ⟨Nat.le_of_ble_eq_true rfl, Nat.le_of_ble_eq_true rfl⟩) ⟨cBlind D cc E S37 _, fun U hU hW => ⟨rfl, C_pre hA hK hro hw U hU hW⟩⟩ rfl rfl hl.1 rfl (lv_room (Nat.le_of_ble_eq_true rfl)) dX11_parcel_46 ⟨by show _ ≤ mc; omega, by show _ ≤ ms; omega⟩) (fun H locs hw => ?_)
      refine W.widen (k := mc - kc6) (n := ms - ks6) (by omega) (by omega) ?_
      have hk1 : kc6 ≤ mc := by omega
      have hk2 : ks6 ≤ ms := by omega
      refine lv_astore (lv' := [(4, .ref q37), (3, .ref b27), (2, .ref b7), (0, .ref a0), (1, .int a1)]) hx hb dX11_parcel_49 hl (by decide) rfl (fun ls hl => ?_)
      refine lv_iconst (v := 0) hx hb dX11_parcel_51 (by decide) ?_
      refine lv_topi (fun x52 ex52 => ?_)
      have h := of_bnd h ex52
      refine lv_istore (lv' := [(5, .int x52), (4, .ref q37), (3, .ref b27), (2, .ref b7), (0, .ref a0), (1, .int a1)]) hx hb dX11_parcel_52 hl (by decide) rfl (fun ls hl => ?_)
      have lp54 : ∀ (f0 : Nat) (f2 : Nat) (f3 : Nat) (f4 : Nat) (k : Nat) (l5 : Int32) (S : CS) (q : CS) (c1 c2 : Nat) (g1 g2 : Nat), fX11_parcel_lp54 n f0 f2 f4 k l5 S = some (q, c1, c2) → c1 + g1 ≤ mc → c2 + g2 ≤ ms → ∀ (H : Heap) (locs : List Loc), cWd D cc A s.heap S H locs → ∀ ls : Array Slot, lv_has ls 6 [(0, .ref f0), (2, .ref f2), (3, .ref f3), (4, .ref f4), (5, .int l5)] → (∀  (S1 : CS), S1 = q → ∀ (H : Heap) (locs : List Loc), cWd D cc A s.heap S1 H locs → ∀ ls : Array Slot, lv_has ls 6 [(0, .ref f0), (3, .ref f3), (4, .ref f4)] → W p l e (cRm 11 291 mc ms) s m args below meth c H locs (mc - g1) (ms - g2) (MQ below (va_Qi (fun x u => x = r ∧ u = T) (cAft D cc A) A) args s mc ms A) (F0 m 76 ls [])) → W p l e (cRm 11 291 mc ms) s m args below meth c H locs (mc - (c1 + g1)) (ms - (c2 + g2)) (MQ below (va_Qi (fun x u => x = r ∧ u = T) (cAft D cc A) A) args s mc ms A) (F0 m 54 ls []) := by
        intro f0 f2 f3 f4 k
        induction k with
        | zero => intro l5 S q c1 c2 g1 g2 h; rw [fX11_parcel_lp54] at h; cases h
        | succ k ih54 =>
          intro l5 S q c1 c2 g1 g2 h hk1 hk2 H locs hw ls hl kx54_0
          rw [fX11_parcel_lp54] at h
          refine lv_iload hx hb dX11_parcel_54 (lv_at hl 4 rfl) ?_
          refine lv_bipush (v := 10) hx hb dX11_parcel_56 (by decide) ?_
          refine lv_icmp_ge (tgt := 76) hx hb dX11_parcel_58 (by decide) (fun c58 => ?_) (fun c58 => ?_)
          · have h := of_it h c58
            obtain ⟨eq9, ek1, ek2⟩ := of_ret3 h
            refine W.widen (k := mc - g1) (n := ms - g2) (by omega) (by omega) ?_
            exact kx54_0 S eq9.symm _ _ hw ls (lv_sub hl [0, 2, 3] rfl)
          · have h := of_if h c58
            refine lv_aload_n hx hb dX11_parcel_61 rfl (lv_at hl 0 rfl) ?_
            refine lv_aload hx hb dX11_parcel_62 (lv_at hl 3 rfl) ?_
            refine lv_aload_n hx hb dX11_parcel_64 rfl (lv_at hl 1 rfl) ?_
            refine lv_iload hx hb dX11_parcel_65 (lv_at hl 4 rfl) ?_
            obtain ⟨hf7, h⟩ := of_grd h
            obtain ⟨q67, hq67, h⟩ := of_cal h
            obtain ⟨S67, c1_67, c2_67⟩ := q67
            have h := of_un2 h
            have h := of_un2 h
            obtain ⟨kc8, ks8, h, ek1, ek2⟩ := of_adc h
            refine C_v hA hw (va_runV (As := [.ref f4, .ref f2, .int l5]) (rest := []) ⟨hx, hb, hml, hown, hts⟩ (cX11_pack_ok l D cc E n hE S f0 f4 f2 l5 hq67) (cwV 3 hts gX11_parcel_X11_pack rfl rfl rfl (by decide +kernel) ⟨Nat.le_of_ble_eq_true rfl, Nat.le_of_ble_eq_true rfl⟩) ⟨cBlind D cc E S _, C_recv hK hw (by omega) (cell_12 hf7) (r := (RX11, TX11, 12)) rfl, fun U hU hW => ⟨rfl, C_pre hA hK hro hw U hU hW⟩⟩ rfl rfl hl.1 rfl (lv_room (Nat.le_of_ble_eq_true rfl)) dX11_parcel_67 ⟨by show _ ≤ mc; omega, by show _ ≤ ms; omega⟩) (fun H locs hw => ?_)
            refine W.widen (k := mc - (kc8 + g1)) (n := ms - (ks8 + g2)) (by omega) (by omega) ?_
            have hk1 : (kc8 + g1) ≤ mc := by omega
            have hk2 : (ks8 + g2) ≤ ms := by omega
            obtain ⟨x70, ex70⟩ : ∃ y : Int32, y = l5 + 1 := ⟨_, rfl⟩
            have h := of_bnd h ex70
            refine lv_iinc (v := x70) (lv' := [(5, .int x70), (0, .ref f0), (2, .ref f2), (3, .ref f3), (4, .ref f4)]) hx hb dX11_parcel_70 hl (k := 4) rfl (by rw [ex70]; rfl) (by decide) rfl (fun ls hl => ?_)
            refine lv_goto (tgt := 54) hx hb dX11_parcel_73 (by decide) ?_
            exact ih54 x70 S67 _ _ _ _ _ h (by omega) (by omega) _ _ hw ls (lv_sub hl [1, 2, 3, 4, 0] rfl) kx54_0
      obtain ⟨q54, hq54, h⟩ := of_cal h
      obtain ⟨q54, c1_54, c2_54⟩ := q54
      have h := of_un2 h
      have h := of_un2 h
      obtain ⟨kc9, ks9, h, ek1, ek2⟩ := of_adc h
      refine W.widen (k := mc - (c1_54 + kc9)) (n := ms - (c2_54 + ks9)) (by omega) (by omega) ?_
      refine lp54 a0 b7 b27 q37 n.1 x52 S46 q54 c1_54 c2_54 kc9 ks9 hq54 (by omega) (by omega) _ _ hw ls (lv_sub hl [4, 3, 2, 1, 0] rfl) ?_
      · intro S54 eq H locs hw ls hl
        subst eq
        have hk1 : kc9 ≤ mc := by omega
        have hk2 : ks9 ≤ ms := by omega
        refine lv_aload hx hb dX11_parcel_76 (lv_at hl 2 rfl) ?_
        obtain ⟨hf10, h⟩ := of_grd h
        obtain ⟨b78, eb78, h⟩ := of_onn h
        refine C_get hx hb hts hinX3 hown hK hw (cell_4 hf10) (by omega) rfl 2 (by decide) (index := 153) (by decide +kernel) rfl (v := .ref b78) (congrArg (fun o => some (va_rf o)) eb78) dX11_parcel_78 ?_
        obtain ⟨hf11, h⟩ := of_grd h
        obtain ⟨q81, hq81, h⟩ := of_cal h
        refine C_i hA hw (va_runV (As := []) (rest := []) ⟨hx, hb, hml, hown, hts⟩ (cL_isEmpty_ok l D cc E n 4 (by decide) S54 b78 hq81) (cwV 0 hts gX11_parcel_Jx4a65c_isEmpty_aae02 rfl rfl rfl (by decide +kernel) ⟨Nat.le_of_ble_eq_true rfl, Nat.le_of_ble_eq_true rfl⟩) ⟨cBlind D cc E S54 _, C_recv hK hw (by omega) (cell_L (r := 4) (by decide) hf11) (r := (RJx4a65c, TJx4a65c, 3)) rfl, fun U hU hW => ⟨rfl, C_pre hA hK hro hw U hU hW⟩⟩ rfl rfl hl.1 rfl (lv_room (Nat.le_of_ble_eq_true rfl)) dX11_parcel_81 ⟨by show _ ≤ mc; omega, by show _ ≤ ms; omega⟩) (fun H locs hw => ?_)
        refine W.widen (k := mc - kc9) (n := ms - ks9) (Nat.le_refl _) (Nat.le_refl _) ?_
        refine lv_if_eq (tgt := 94) hx hb dX11_parcel_84 (by decide) (fun c84 => ?_) (fun c84 => ?_)
        · have h := of_it h c84
          refine lv_aload_n hx hb dX11_parcel_94 rfl (lv_at hl 1 rfl) ?_
          refine lv_dup hx hb dX11_parcel_95 rfl ?_
          obtain ⟨hf12, h⟩ := of_grd h
          refine C_get hx hb hts hinX4 hown hK hw (cell_5 hf12) (by omega) rfl 2 (by decide) (index := 160) (by decide +kernel) rfl rfl dX11_parcel_96 ?_
          refine lv_topi (fun v96 ev96 => ?_)
          have h := of_bnd h ev96
          refine lv_iconst (v := 1) hx hb dX11_parcel_99 (by decide) ?_
          refine lv_isub hx hb dX11_parcel_100 ?_
          refine C_put hx hb hts hinX4 tyX4 tyX4_ok nmX4 hown hK hw (cell_5 hf12) (by omega) rfl 2 (by decide) (index := 160) (by decide +kernel) rfl rfl (ty := .int) (by decide +kernel) rfl rfl (Nat.le_of_ble_eq_true rfl) (S' := uI S54 102 b27 (v96 - (1 : Int32))) rfl rfl rfl (pu_102 hf12 (v96 - (1 : Int32))) (fun b hb => off_uI hb) dX11_parcel_101 (fun S101 H locs eS101 hw => ?_)
          have h := of_bnd h eS101
          refine lv_aload_n hx hb dX11_parcel_104 rfl (lv_at hl 0 rfl) ?_
          obtain ⟨hf13, h⟩ := of_grd h
          obtain ⟨b105, eb105, h⟩ := of_onn h
          refine C_get hx hb hts hinX11 hown hK hw (cell_12 hf13) (by omega) rfl 4 (by decide) (index := 30) (by decide +kernel) rfl (v := .ref b105) (congrArg (fun o => some (va_rf o)) eb105) dX11_parcel_105 ?_
          refine lv_aload hx hb dX11_parcel_108 (lv_at hl 2 rfl) ?_
          obtain ⟨hf14, h⟩ := of_grd h
          obtain ⟨q110, hq110, h⟩ := of_cal h
          obtain ⟨⟨r110, S110⟩, c1_110, c2_110⟩ := q110
          have h := of_un2 h
          have h := of_un2 h
          have h := of_un2 h
          obtain ⟨kc15, ks15, h, ek1, ek2⟩ := of_adc h
          refine C_i hA hw (va_runV (As := [.ref q37]) (rest := []) ⟨hx, hb, hml, hown, hts⟩ (cL_add_ok l D cc E n hE 3 (by decide) S101 b105 q37 hq110) (cwV 1 hts gX11_parcel_Jx4a65c_add_9ea2d rfl rfl rfl (by decide +kernel) ⟨Nat.le_of_ble_eq_true rfl, Nat.le_of_ble_eq_true rfl⟩) ⟨cBlind D cc E S101 _, C_recv hK hw (by omega) (cell_L (r := 3) (by decide) hf14) (r := (RJx4a65c, TJx4a65c, 3)) rfl, fun U hU hW => ⟨rfl, C_pre hA hK hro hw U hU hW⟩⟩ rfl rfl hl.1 rfl (lv_room (Nat.le_of_ble_eq_true rfl)) dX11_parcel_110 ⟨by show _ ≤ mc; omega, by show _ ≤ ms; omega⟩) (fun H locs hw => ?_)
          refine W.widen (k := mc - kc15) (n := ms - ks15) (by omega) (by omega) ?_
          have hk1 : kc15 ≤ mc := by omega
          have hk2 : ks15 ≤ ms := by omega
          refine lv_pop hx hb dX11_parcel_113 rfl ?_
          refine lv_aload_n hx hb dX11_parcel_114 rfl (lv_at hl 0 rfl) ?_
          refine lv_aload_n hx hb dX11_parcel_115 rfl (lv_at hl 0 rfl) ?_
          obtain ⟨hf16, h⟩ := of_grd h
          obtain ⟨b116, eb116, h⟩ := of_onn h
          refine C_get hx hb hts hinX11 hown hK hw (cell_12 hf16) (by omega) rfl 4 (by decide) (index := 30) (by decide +kernel) rfl (v := .ref b116) (congrArg (fun o => some (va_rf o)) eb116) dX11_parcel_116 ?_
          obtain ⟨hf17, h⟩ := of_grd h
          obtain ⟨q119, hq119, h⟩ := of_cal h
          refine C_i hA hw (va_runV (As := []) (rest := [.ref a0]) ⟨hx, hb, hml, hown, hts⟩ (cL_size_ok l D cc E n 3 (by decide) S110 b116 hq119) (cwV 0 hts gX11_parcel_Jx4a65c_size_8abf5 rfl rfl rfl (by decide +kernel) ⟨Nat.le_of_ble_eq_true rfl, Nat.le_of_ble_eq_true rfl⟩) ⟨cBlind D cc E S110 _, C_recv hK hw (by omega) (cell_L (r := 3) (by decide) hf17) (r := (RJx4a65c, TJx4a65c, 3)) rfl, fun U hU hW => ⟨rfl, C_pre hA hK hro hw U hU hW⟩⟩ rfl rfl hl.1 rfl (lv_room (Nat.le_of_ble_eq_true rfl)) dX11_parcel_119 ⟨by show _ ≤ mc; omega, by show _ ≤ ms; omega⟩) (fun H locs hw => ?_)
          refine W.widen (k := mc - kc15) (n := ms - ks15) (Nat.le_refl _) (Nat.le_refl _) ?_
          refine lv_iconst (v := 1) hx hb dX11_parcel_122 (by decide) ?_
          refine lv_isub hx hb dX11_parcel_123 ?_
          obtain ⟨q124, hq124, h⟩ := of_cal h
          obtain ⟨r124, S124⟩ := q124
          have h := of_un2 h
          refine C_i hA hw (va_runV (As := [.int (q119 - (1 : Int32))]) (rest := []) ⟨hx, hb, hml, hown, hts⟩ (cX11_accept_ok l D cc E n S110 a0 (q119 - (1 : Int32)) hq124) (cwV 1 hts gX11_parcel_X11_accept rfl rfl rfl (by decide +kernel) ⟨Nat.le_of_ble_eq_true rfl, Nat.le_of_ble_eq_true rfl⟩) ⟨cBlind D cc E S110 _, C_recv hK hw (by omega) (cell_12 hf16) (r := (RX11, TX11, 12)) rfl, fun U hU hW => ⟨rfl, C_pre hA hK hro hw U hU hW⟩⟩ rfl rfl hl.1 rfl (lv_room (Nat.le_of_ble_eq_true rfl)) dX11_parcel_124 ⟨by show _ ≤ mc; omega, by show _ ≤ ms; omega⟩) (fun H locs hw => ?_)
          refine W.widen (k := mc - kc15) (n := ms - ks15) (Nat.le_refl _) (Nat.le_refl _) ?_
          obtain ⟨rfl, rfl, ek1, ek2⟩ := of_retA h
          refine W.widen (k := mc) (n := ms) (by omega) (by omega) ?_
          exact C_iret hx hb hr hlocks hw (by rfl) dX11_parcel_127
        · have h := of_if h c84
          refine lv_aload_n hx hb dX11_parcel_87 rfl (lv_at hl 0 rfl) ?_
          refine lv_bipush (v := -4) hx hb dX11_parcel_88 (by decide) ?_
          obtain ⟨hf18, h⟩ := of_grd h
          obtain ⟨q90, hq90, h⟩ := of_cal h
          obtain ⟨r90, S90⟩ := q90
          have h := of_un2 h
          refine C_i hA hw (va_runV (As := [.int (-4 : Int32)]) (rest := []) ⟨hx, hb, hml, hown, hts⟩ (cX11_refuse_ok l D cc E n S54 a0 (-4 : Int32) hq90) (cwV 1 hts gX11_parcel_X11_refuse rfl rfl rfl (by decide +kernel) ⟨Nat.le_of_ble_eq_true rfl, Nat.le_of_ble_eq_true rfl⟩) ⟨cBlind D cc E S54 _, C_recv hK hw (by omega) (cell_12 hf18) (r := (RX11, TX11, 12)) rfl, fun U hU hW => ⟨rfl, C_pre hA hK hro hw U hU hW⟩⟩ rfl rfl hl.1 rfl (lv_room (Nat.le_of_ble_eq_true rfl)) dX11_parcel_90 ⟨by show _ ≤ mc; omega, by show _ ≤ ms; omega⟩) (fun H locs hw => ?_)
          refine W.widen (k := mc - kc9) (n := ms - ks9) (Nat.le_refl _) (Nat.le_refl _) ?_
          obtain ⟨rfl, rfl, ek1, ek2⟩ := of_retA h
          refine W.widen (k := mc) (n := ms) (by omega) (by omega) ?_
          exact C_iret hx hb hr hlocks hw (by rfl) dX11_parcel_93

def fX11_of (n : Nat × Nat) (S : CS) (a0 : Nat) (a1 : Int32) (a2 : Int32) : Option Int32 :=
  grd (cD S a0 = 12) (onn (cR S 244 a0) (fun b3 => grd (cD S b3 = 23) (cal (fL_size n 3 S b3) (fun q6 => bnd (fX11_isWithin a1 (0 : Int32) (q6 - (1 : Int32))) (fun r11 => if r11 = 0 then 
    some (-1 : Int32)
    else onn (cR S 244 a0) (fun b18 => grd (cD S b18 = 23) (cal (fL_get n 3 S b18 a1) (fun q22 => onn q22 (fun b25 => grd (cD S b25 = 4) (cal (fX3_tell n S b25 a2) (fun q29 => some q29)))))))))))
set_option maxHeartbeats 8000000 in
set_option maxRecDepth 100000 in
theorem cX11_of_ok (l : Launch) (D : va_G) (cc : Nat → ClassId) (E : Nat → Nat) (n : Nat × Nat) (S : CS) (a0 : Nat) (a1 : Int32) (a2 : Int32) {r : Int32} (h : fX11_of n S a0 a1 a2 = some r) : Ci l yX11_of wsX11_of 4 85 D cc E [.ref a0, .int a1, .int a2] S r S 0 0 := by
  refine C_of (own := RX11) (bb := cX11_of) (nL := 3) (ret := (some .int)) (by decide) rfl rfl (Nat.le_of_ble_eq_true rfl) ?_
  intro p e s m args below meth c hx hb hr hlocks hml hts hown hnm hA hK hro hw ls hl
  generalize va_A (cPs cc S) (nx S) = A at hA hro hw ⊢
  unfold fX11_of at h
  have hinX11 : ∀ w ∈ wsX110, w ∈ wsX11_of := by decide +kernel
  have hl : lv_has ls 3 [(0, .ref a0), (1, .int a1), (2, .int a2)] := hl
  refine lv_iload_n hx hb dX11_of_0 rfl (lv_at hl 1 rfl) ?_
  refine lv_iconst (v := 0) hx hb dX11_of_1 (by decide) ?_
  refine lv_aload_n hx hb dX11_of_2 rfl (lv_at hl 0 rfl) ?_
  obtain ⟨hf1, h⟩ := of_grd h
  obtain ⟨b3, eb3, h⟩ := of_onn h
  refine C_get hx hb hts hinX11 hown hK hw (cell_12 hf1) (by omega) rfl 4 (by decide) (index := 30) (by decide +kernel) rfl (v := .ref b3) (congrArg (fun o => some (va_rf o)) eb3) dX11_of_3 ?_
  obtain ⟨hf2, h⟩ := of_grd h
  obtain ⟨q6, hq6, h⟩ := of_cal h
  refine C_i hA hw (va_runV (As := []) (rest := [.int (0 : Int32), .int a1]) ⟨hx, hb, hml, hown, hts⟩ (cL_size_ok l D cc E n 3 (by decide) S b3 hq6) (cwV 0 hts gX11_of_Jx4a65c_size_8abf5 rfl rfl rfl (by decide +kernel) ⟨Nat.le_of_ble_eq_true rfl, Nat.le_of_ble_eq_true rfl⟩) ⟨cBlind D cc E S _, C_recv hK hw (by omega) (cell_L (r := 3) (by decide) hf2) (r := (RJx4a65c, TJx4a65c, 3)) rfl, fun U hU hW => ⟨rfl, C_pre hA hK hro hw U hU hW⟩⟩ rfl rfl hl.1 rfl (lv_room (Nat.le_of_ble_eq_true rfl)) dX11_of_6 ⟨Nat.le_refl _, Nat.le_refl _⟩) (fun H locs hw => ?_)
  refine W.widen (k := 0) (n := 0) (Nat.le_refl _) (Nat.le_refl _) ?_
  refine lv_iconst (v := 1) hx hb dX11_of_9 (by decide) ?_
  refine lv_isub hx hb dX11_of_10 ?_
  refine C_s (va_runS (As := [.int a1, .int (0 : Int32), .int (q6 - (1 : Int32))]) (rest := []) ⟨hx, hb, hml, hown, hts⟩ (cX11_isWithin_ok l a1 (0 : Int32) (q6 - (1 : Int32))) (va_cwS 3 hts gX11_of_X11_isWithin rfl rfl rfl (by decide +kernel) ⟨Nat.le_of_ble_eq_true rfl, Nat.le_of_ble_eq_true rfl⟩) ⟨fun a U g mk q => ⟨q.1, trivial⟩, fun U hU hW => ⟨rfl, trivial⟩⟩ rfl rfl hl.1 rfl (lv_room (Nat.le_of_ble_eq_true rfl)) dX11_of_11 ⟨Nat.le_refl _, Nat.le_refl _⟩) (fun r11 er11 => ?_)
  have h := of_bnd h er11
  refine lv_if_eq (tgt := 35) hx hb dX11_of_14 (by decide) (fun c14 => ?_) (fun c14 => ?_)
  · have h := of_it h c14
    refine lv_iconst (v := -1) hx hb dX11_of_35 (by decide) ?_
    obtain rfl := Option.some.inj h
    exact C_iret hx hb hr hlocks hw (by rfl) dX11_of_36
  · have h := of_if h c14
    refine lv_aload_n hx hb dX11_of_17 rfl (lv_at hl 0 rfl) ?_
    obtain ⟨b18, eb18, h⟩ := of_onn h
    refine C_get hx hb hts hinX11 hown hK hw (cell_12 hf1) (by omega) rfl 4 (by decide) (index := 30) (by decide +kernel) rfl (v := .ref b18) (congrArg (fun o => some (va_rf o)) eb18) dX11_of_18 ?_
    refine lv_iload_n hx hb dX11_of_21 rfl (lv_at hl 1 rfl) ?_
    obtain ⟨hf3, h⟩ := of_grd h
    obtain ⟨q22, hq22, h⟩ := of_cal h
    refine C_q hA hw (va_runV (As := [.int a1]) (rest := []) ⟨hx, hb, hml, hown, hts⟩ (cL_get_ok l D cc E n 3 (by decide) S b18 a1 hq22) (cwV 1 hts gX11_of_Jx4a65c_get_915e3 rfl rfl rfl (by decide +kernel) ⟨Nat.le_of_ble_eq_true rfl, Nat.le_of_ble_eq_true rfl⟩) ⟨cBlind D cc E S _, C_recv hK hw (by omega) (cell_L (r := 3) (by decide) hf3) (r := (RJx4a65c, TJx4a65c, 3)) rfl, fun U hU hW => ⟨rfl, C_pre hA hK hro hw U hU hW⟩⟩ rfl rfl hl.1 rfl (lv_room (Nat.le_of_ble_eq_true rfl)) dX11_of_22 ⟨Nat.le_refl _, Nat.le_refl _⟩) (fun H locs hw => ?_)
    refine W.widen (k := 0) (n := 0) (Nat.le_refl _) (Nat.le_refl _) ?_
    obtain ⟨b25, eb25, h⟩ := of_onn h
    subst eb25
    obtain ⟨hf4, h⟩ := of_grd h
    refine va_castE hx hb hown (hts (.classLink RX11 146 RX3) (by decide +kernel)) (C_recv hK hw (by omega) (cell_4 hf4) (r := (RX3, TX3, 5)) rfl) dX11_of_25 ?_
    refine lv_iload_n hx hb dX11_of_28 rfl (lv_at hl 2 rfl) ?_
    obtain ⟨q29, hq29, h⟩ := of_cal h
    refine C_i hA hw (va_runV (As := [.int a2]) (rest := []) ⟨hx, hb, hml, hown, hts⟩ (cX3_tell_ok l D cc E n S b25 a2 hq29) (cwV 1 hts gX11_of_X3_tell rfl rfl rfl (by decide +kernel) ⟨Nat.le_of_ble_eq_true rfl, Nat.le_of_ble_eq_true rfl⟩) ⟨cBlind D cc E S _, C_recv hK hw (by omega) (cell_4 hf4) (r := (RX3, TX3, 5)) rfl, fun U hU hW => ⟨rfl, C_pre hA hK hro hw U hU hW⟩⟩ rfl rfl hl.1 rfl (lv_room (Nat.le_of_ble_eq_true rfl)) dX11_of_29 ⟨Nat.le_refl _, Nat.le_refl _⟩) (fun H locs hw => ?_)
    refine W.widen (k := 0) (n := 0) (Nat.le_refl _) (Nat.le_refl _) ?_
    refine lv_goto (tgt := 36) hx hb dX11_of_32 (by decide) ?_
    obtain rfl := Option.some.inj h
    exact C_iret hx hb hr hlocks hw (by rfl) dX11_of_36

def fX11_go (n : Nat × Nat) (S : CS) (a0 : Nat) (a1 : Int32) : Option (Int32 × CS) :=
  bnd (fX11_isWithin a1 (1 : Int32) (60 : Int32)) (fun r4 => if r4 = 0 then 
    grd (cD S a0 = 12) (cal (fX11_refuse n S a0 (-1 : Int32)) (un2 fun r24 S24 => some (r24, S24)))
    else grd (cD S a0 = 12) (bnd (cI S 248 a0) (fun v11 => if (v11 + a1) ≤ (500 : Int32) then 
      bnd (cI S 248 a0) (fun v30 => bnd (uI S 248 a0 (v30 + a1)) (fun S35 => onn (cR S35 241 a0) (fun b39 => bnd (cI S35 248 a0) (fun v43 => grd (cD S35 b39 = 8) (cal (fX7_spoilBefore n S35 b39 v43) (fun S46 => grd (cD S46 a0 = 12) (bnd (cI S46 248 a0) (fun v51 => cal (fX11_accept n S46 a0 v51) (un2 fun r54 S54 => some (r54, S54))))))))))
      else cal (fX11_refuse n S a0 (-1 : Int32)) (un2 fun r24 S24 => some (r24, S24)))))
set_option maxHeartbeats 8000000 in
set_option maxRecDepth 100000 in
theorem cX11_go_ok (l : Launch) (D : va_G) (cc : Nat → ClassId) (E : Nat → Nat) (n : Nat × Nat) (S : CS) (a0 : Nat) (a1 : Int32) {r : Int32} {T : CS} (h : fX11_go n S a0 a1 = some (r, T)) : Ci l yX11_go wsX11_go 4 87 D cc E [.ref a0, .int a1] S r T 0 0 := by
  refine C_of (own := RX11) (bb := cX11_go) (nL := 2) (ret := (some .int)) (by decide) rfl rfl (Nat.le_of_ble_eq_true rfl) ?_
  intro p e s m args below meth c hx hb hr hlocks hml hts hown hnm hA hK hro hw ls hl
  generalize va_A (cPs cc S) (nx S) = A at hA hro hw ⊢
  unfold fX11_go at h
  have hinX11 : ∀ w ∈ wsX110, w ∈ wsX11_go := by decide +kernel
  have hl : lv_has ls 2 [(0, .ref a0), (1, .int a1)] := hl
  refine lv_iload_n hx hb dX11_go_0 rfl (lv_at hl 1 rfl) ?_
  refine lv_iconst (v := 1) hx hb dX11_go_1 (by decide) ?_
  refine lv_bipush (v := 60) hx hb dX11_go_2 (by decide) ?_
  refine C_s (va_runS (As := [.int a1, .int (1 : Int32), .int (60 : Int32)]) (rest := []) ⟨hx, hb, hml, hown, hts⟩ (cX11_isWithin_ok l a1 (1 : Int32) (60 : Int32)) (va_cwS 3 hts gX11_go_X11_isWithin rfl rfl rfl (by decide +kernel) ⟨Nat.le_of_ble_eq_true rfl, Nat.le_of_ble_eq_true rfl⟩) ⟨fun a U g mk q => ⟨q.1, trivial⟩, fun U hU hW => ⟨rfl, trivial⟩⟩ rfl rfl hl.1 rfl (lv_room (Nat.le_of_ble_eq_true rfl)) dX11_go_4 ⟨Nat.le_refl _, Nat.le_refl _⟩) (fun r4 er4 => ?_)
  have h := of_bnd h er4
  refine lv_if_eq (tgt := 22) hx hb dX11_go_7 (by decide) (fun c7 => ?_) (fun c7 => ?_)
  · have h := of_it h c7
    refine lv_aload_n hx hb dX11_go_22 rfl (lv_at hl 0 rfl) ?_
    refine lv_iconst (v := -1) hx hb dX11_go_23 (by decide) ?_
    obtain ⟨hf1, h⟩ := of_grd h
    obtain ⟨q24, hq24, h⟩ := of_cal h
    obtain ⟨r24, S24⟩ := q24
    have h := of_un2 h
    refine C_i hA hw (va_runV (As := [.int (-1 : Int32)]) (rest := []) ⟨hx, hb, hml, hown, hts⟩ (cX11_refuse_ok l D cc E n S a0 (-1 : Int32) hq24) (cwV 1 hts gX11_go_X11_refuse rfl rfl rfl (by decide +kernel) ⟨Nat.le_of_ble_eq_true rfl, Nat.le_of_ble_eq_true rfl⟩) ⟨cBlind D cc E S _, C_recv hK hw (by omega) (cell_12 hf1) (r := (RX11, TX11, 12)) rfl, fun U hU hW => ⟨rfl, C_pre hA hK hro hw U hU hW⟩⟩ rfl rfl hl.1 rfl (lv_room (Nat.le_of_ble_eq_true rfl)) dX11_go_24 ⟨Nat.le_refl _, Nat.le_refl _⟩) (fun H locs hw => ?_)
    refine W.widen (k := 0) (n := 0) (Nat.le_refl _) (Nat.le_refl _) ?_
    obtain ⟨rfl, rfl⟩ := of_ret2 h
    exact C_iret hx hb hr hlocks hw (by rfl) dX11_go_27
  · have h := of_if h c7
    refine lv_aload_n hx hb dX11_go_10 rfl (lv_at hl 0 rfl) ?_
    obtain ⟨hf2, h⟩ := of_grd h
    refine C_get hx hb hts hinX11 hown hK hw (cell_12 hf2) (by omega) rfl 8 (by decide) (index := 54) (by decide +kernel) rfl rfl dX11_go_11 ?_
    refine lv_topi (fun v11 ev11 => ?_)
    have h := of_bnd h ev11
    refine lv_iload_n hx hb dX11_go_14 rfl (lv_at hl 1 rfl) ?_
    refine lv_iadd hx hb dX11_go_15 ?_
    refine lv_sipush (v := 500) hx hb dX11_go_16 (by decide) ?_
    refine lv_icmp_le (tgt := 28) hx hb dX11_go_19 (by decide) (fun c19 => ?_) (fun c19 => ?_)
    · have h := of_it h c19
      refine lv_aload_n hx hb dX11_go_28 rfl (lv_at hl 0 rfl) ?_
      refine lv_dup hx hb dX11_go_29 rfl ?_
      refine C_get hx hb hts hinX11 hown hK hw (cell_12 hf2) (by omega) rfl 8 (by decide) (index := 54) (by decide +kernel) rfl rfl dX11_go_30 ?_
      refine lv_topi (fun v30 ev30 => ?_)
      have h := of_bnd h ev30
      refine lv_iload_n hx hb dX11_go_33 rfl (lv_at hl 1 rfl) ?_
      refine lv_iadd hx hb dX11_go_34 ?_
      refine C_put hx hb hts hinX11 tyX11 tyX11_ok nmX11 hown hK hw (cell_12 hf2) (by omega) rfl 8 (by decide) (index := 54) (by decide +kernel) rfl rfl (ty := .int) (by decide +kernel) rfl rfl (Nat.le_of_ble_eq_true rfl) (S' := uI S 248 a0 (v30 + a1)) rfl rfl rfl (pu_248 hf2 (v30 + a1)) (fun b hb => off_uI hb) dX11_go_35 (fun S35 H locs eS35 hw => ?_)
      have h := of_bnd h eS35
      refine lv_aload_n hx hb dX11_go_38 rfl (lv_at hl 0 rfl) ?_
      have hf3 : cD S35 a0 = 12 := by rw [eS35]; exact hf2
      obtain ⟨b39, eb39, h⟩ := of_onn h
      refine C_get hx hb hts hinX11 hown hK hw (cell_12 hf3) (by omega) rfl 1 (by decide) (index := 16) (by decide +kernel) rfl (v := .ref b39) (congrArg (fun o => some (va_rf o)) eb39) dX11_go_39 ?_
      refine lv_aload_n hx hb dX11_go_42 rfl (lv_at hl 0 rfl) ?_
      refine C_get hx hb hts hinX11 hown hK hw (cell_12 hf3) (by omega) rfl 8 (by decide) (index := 54) (by decide +kernel) rfl rfl dX11_go_43 ?_
      refine lv_topi (fun v43 ev43 => ?_)
      have h := of_bnd h ev43
      obtain ⟨hf4, h⟩ := of_grd h
      obtain ⟨q46, hq46, h⟩ := of_cal h
      obtain ⟨S46, eS46⟩ : ∃ x, x = q46 := ⟨_, rfl⟩
      subst eS46
      refine C_v hA hw (va_runV (As := [.int v43]) (rest := []) ⟨hx, hb, hml, hown, hts⟩ (cX7_spoilBefore_ok l D cc E n S35 b39 v43 hq46) (cwV 1 hts gX11_go_X7_spoilBefore rfl rfl rfl (by decide +kernel) ⟨Nat.le_of_ble_eq_true rfl, Nat.le_of_ble_eq_true rfl⟩) ⟨cBlind D cc E S35 _, C_recv hK hw (by omega) (cell_8 hf4) (r := (RX7, TX7, 2)) rfl, fun U hU hW => ⟨rfl, C_pre hA hK hro hw U hU hW⟩⟩ rfl rfl hl.1 rfl (lv_room (Nat.le_of_ble_eq_true rfl)) dX11_go_46 ⟨Nat.le_refl _, Nat.le_refl _⟩) (fun H locs hw => ?_)
      refine W.widen (k := 0) (n := 0) (Nat.le_refl _) (Nat.le_refl _) ?_
      refine lv_aload_n hx hb dX11_go_49 rfl (lv_at hl 0 rfl) ?_
      refine lv_aload_n hx hb dX11_go_50 rfl (lv_at hl 0 rfl) ?_
      obtain ⟨hf5, h⟩ := of_grd h
      refine C_get hx hb hts hinX11 hown hK hw (cell_12 hf5) (by omega) rfl 8 (by decide) (index := 54) (by decide +kernel) rfl rfl dX11_go_51 ?_
      refine lv_topi (fun v51 ev51 => ?_)
      have h := of_bnd h ev51
      obtain ⟨q54, hq54, h⟩ := of_cal h
      obtain ⟨r54, S54⟩ := q54
      have h := of_un2 h
      refine C_i hA hw (va_runV (As := [.int v51]) (rest := []) ⟨hx, hb, hml, hown, hts⟩ (cX11_accept_ok l D cc E n S46 a0 v51 hq54) (cwV 1 hts gX11_go_X11_accept rfl rfl rfl (by decide +kernel) ⟨Nat.le_of_ble_eq_true rfl, Nat.le_of_ble_eq_true rfl⟩) ⟨cBlind D cc E S46 _, C_recv hK hw (by omega) (cell_12 hf5) (r := (RX11, TX11, 12)) rfl, fun U hU hW => ⟨rfl, C_pre hA hK hro hw U hU hW⟩⟩ rfl rfl hl.1 rfl (lv_room (Nat.le_of_ble_eq_true rfl)) dX11_go_54 ⟨Nat.le_refl _, Nat.le_refl _⟩) (fun H locs hw => ?_)
      refine W.widen (k := 0) (n := 0) (Nat.le_refl _) (Nat.le_refl _) ?_
      obtain ⟨rfl, rfl⟩ := of_ret2 h
      exact C_iret hx hb hr hlocks hw (by rfl) dX11_go_57
    · have h := of_if h c19
      refine lv_aload_n hx hb dX11_go_22 rfl (lv_at hl 0 rfl) ?_
      refine lv_iconst (v := -1) hx hb dX11_go_23 (by decide) ?_
      obtain ⟨q24, hq24, h⟩ := of_cal h
      obtain ⟨r24, S24⟩ := q24
      have h := of_un2 h
      refine C_i hA hw (va_runV (As := [.int (-1 : Int32)]) (rest := []) ⟨hx, hb, hml, hown, hts⟩ (cX11_refuse_ok l D cc E n S a0 (-1 : Int32) hq24) (cwV 1 hts gX11_go_X11_refuse rfl rfl rfl (by decide +kernel) ⟨Nat.le_of_ble_eq_true rfl, Nat.le_of_ble_eq_true rfl⟩) ⟨cBlind D cc E S _, C_recv hK hw (by omega) (cell_12 hf2) (r := (RX11, TX11, 12)) rfl, fun U hU hW => ⟨rfl, C_pre hA hK hro hw U hU hW⟩⟩ rfl rfl hl.1 rfl (lv_room (Nat.le_of_ble_eq_true rfl)) dX11_go_24 ⟨Nat.le_refl _, Nat.le_refl _⟩) (fun H locs hw => ?_)
      refine W.widen (k := 0) (n := 0) (Nat.le_refl _) (Nat.le_refl _) ?_
      obtain ⟨rfl, rfl⟩ := of_ret2 h
      exact C_iret hx hb hr hlocks hw (by rfl) dX11_go_27

def fX11_want (n : Nat × Nat) (S : CS) (a0 : Nat) (a1 : Int32) (a2 : Int32) (a3 : Int32) : Option (Int32 × CS) :=
  bnd (fX11_isKind a2) (fun r1 => if r1 = 0 then 
    grd (cD S a0 = 12) (cal (fX11_refuse n S a0 (-1 : Int32)) (un2 fun r19 S19 => some (r19, S19)))
    else bnd (fX11_isWithin a3 (0 : Int32) (1000000 : Int32)) (fun r11 => if r11 = 0 then 
      grd (cD S a0 = 12) (cal (fX11_refuse n S a0 (-1 : Int32)) (un2 fun r19 S19 => some (r19, S19)))
      else grd (cD S a0 = 12) (cal (fX11_findTable n S a0 a1) (fun q25 => oel q25 (cal (fX11_refuse n S a0 (-2 : Int32)) (un2 fun r38 S38 => some (r38, S38))) (fun b32 => grd (cD S b32 = 9) (onn (cR S 180 b32) (fun b44 => grd (cD S b44 = 46) (grd (¬ (a2 < 0 ∨ cN S b44 ≤ a2.toNatClampNeg)) (bnd (cA S 46 b44 a2.toNatClampNeg) (fun v48 => onn (cR S 180 b32) (fun b53 => grd (cD S b53 = 46) (grd (¬ (a2 < 0 ∨ cN S b53 ≤ a2.toNatClampNeg)) (bnd (uA S 46 b53 a2.toNatClampNeg a3) (fun S58 => cal (fX11_accept n S58 a0 v48) (un2 fun r62 S62 => some (r62, S62))))))))))))))))
set_option maxHeartbeats 8000000 in
set_option maxRecDepth 100000 in
theorem cX11_want_ok (l : Launch) (D : va_G) (cc : Nat → ClassId) (E : Nat → Nat) (n : Nat × Nat) (S : CS) (a0 : Nat) (a1 : Int32) (a2 : Int32) (a3 : Int32) {r : Int32} {T : CS} (h : fX11_want n S a0 a1 a2 a3 = some (r, T)) : Ci l yX11_want wsX11_want 4 85 D cc E [.ref a0, .int a1, .int a2, .int a3] S r T 0 0 := by
  refine C_of (own := RX11) (bb := cX11_want) (nL := 6) (ret := (some .int)) (by decide) rfl rfl (Nat.le_of_ble_eq_true rfl) ?_
  intro p e s m args below meth c hx hb hr hlocks hml hts hown hnm hA hK hro hw ls hl
  generalize va_A (cPs cc S) (nx S) = A at hA hro hw ⊢
  unfold fX11_want at h
  have hinX8 : ∀ w ∈ wsX80, w ∈ wsX11_want := by decide +kernel
  have hl : lv_has ls 6 [(0, .ref a0), (1, .int a1), (2, .int a2), (3, .int a3)] := hl
  refine lv_iload_n hx hb dX11_want_0 rfl (lv_at hl 2 rfl) ?_
  refine C_s (va_runS (As := [.int a2]) (rest := []) ⟨hx, hb, hml, hown, hts⟩ (cX11_isKind_ok l a2) (va_cwS 1 hts gX11_want_X11_isKind rfl rfl rfl (by decide +kernel) ⟨Nat.le_of_ble_eq_true rfl, Nat.le_of_ble_eq_true rfl⟩) ⟨fun a U g mk q => ⟨q.1, trivial⟩, fun U hU hW => ⟨rfl, trivial⟩⟩ rfl rfl hl.1 rfl (lv_room (Nat.le_of_ble_eq_true rfl)) dX11_want_1 ⟨Nat.le_refl _, Nat.le_refl _⟩) (fun r1 er1 => ?_)
  have h := of_bnd h er1
  refine lv_if_eq (tgt := 17) hx hb dX11_want_4 (by decide) (fun c4 => ?_) (fun c4 => ?_)
  · have h := of_it h c4
    refine lv_aload_n hx hb dX11_want_17 rfl (lv_at hl 0 rfl) ?_
    refine lv_iconst (v := -1) hx hb dX11_want_18 (by decide) ?_
    obtain ⟨hf1, h⟩ := of_grd h
    obtain ⟨q19, hq19, h⟩ := of_cal h
    obtain ⟨r19, S19⟩ := q19
    have h := of_un2 h
    refine C_i hA hw (va_runV (As := [.int (-1 : Int32)]) (rest := []) ⟨hx, hb, hml, hown, hts⟩ (cX11_refuse_ok l D cc E n S a0 (-1 : Int32) hq19) (cwV 1 hts gX11_want_X11_refuse rfl rfl rfl (by decide +kernel) ⟨Nat.le_of_ble_eq_true rfl, Nat.le_of_ble_eq_true rfl⟩) ⟨cBlind D cc E S _, C_recv hK hw (by omega) (cell_12 hf1) (r := (RX11, TX11, 12)) rfl, fun U hU hW => ⟨rfl, C_pre hA hK hro hw U hU hW⟩⟩ rfl rfl hl.1 rfl (lv_room (Nat.le_of_ble_eq_true rfl)) dX11_want_19 ⟨Nat.le_refl _, Nat.le_refl _⟩) (fun H locs hw => ?_)
    refine W.widen (k := 0) (n := 0) (Nat.le_refl _) (Nat.le_refl _) ?_
    obtain ⟨rfl, rfl⟩ := of_ret2 h
    exact C_iret hx hb hr hlocks hw (by rfl) dX11_want_22
  · have h := of_if h c4
    refine lv_iload_n hx hb dX11_want_7 rfl (lv_at hl 3 rfl) ?_
    refine lv_iconst (v := 0) hx hb dX11_want_8 (by decide) ?_
    refine lv_ldc (v := 1000000) hx hb hown (hts (.constant RX11 82 (1000000)) (by decide +kernel)) dX11_want_9 ?_
    refine C_s (va_runS (As := [.int a3, .int (0 : Int32), .int (1000000 : Int32)]) (rest := []) ⟨hx, hb, hml, hown, hts⟩ (cX11_isWithin_ok l a3 (0 : Int32) (1000000 : Int32)) (va_cwS 3 hts gX11_want_X11_isWithin rfl rfl rfl (by decide +kernel) ⟨Nat.le_of_ble_eq_true rfl, Nat.le_of_ble_eq_true rfl⟩) ⟨fun a U g mk q => ⟨q.1, trivial⟩, fun U hU hW => ⟨rfl, trivial⟩⟩ rfl rfl hl.1 rfl (lv_room (Nat.le_of_ble_eq_true rfl)) dX11_want_11 ⟨Nat.le_refl _, Nat.le_refl _⟩) (fun r11 er11 => ?_)
    have h := of_bnd h er11
    refine lv_if_ne (tgt := 23) hx hb dX11_want_14 (by decide) (fun c14 => ?_) (fun c14 => ?_)
    · have h := of_if h c14
      refine lv_aload_n hx hb dX11_want_23 rfl (lv_at hl 0 rfl) ?_
      refine lv_iload_n hx hb dX11_want_24 rfl (lv_at hl 1 rfl) ?_
      obtain ⟨hf2, h⟩ := of_grd h
      obtain ⟨q25, hq25, h⟩ := of_cal h
      refine C_q hA hw (va_runV (As := [.int a1]) (rest := []) ⟨hx, hb, hml, hown, hts⟩ (cX11_findTable_ok l D cc E n S a0 a1 hq25) (cwV 1 hts gX11_want_X11_findTable rfl rfl rfl (by decide +kernel) ⟨Nat.le_of_ble_eq_true rfl, Nat.le_of_ble_eq_true rfl⟩) ⟨cBlind D cc E S _, C_recv hK hw (by omega) (cell_12 hf2) (r := (RX11, TX11, 12)) rfl, fun U hU hW => ⟨rfl, C_pre hA hK hro hw U hU hW⟩⟩ rfl rfl hl.1 rfl (lv_room (Nat.le_of_ble_eq_true rfl)) dX11_want_25 ⟨Nat.le_refl _, Nat.le_refl _⟩) (fun H locs hw => ?_)
      refine W.widen (k := 0) (n := 0) (Nat.le_refl _) (Nat.le_refl _) ?_
      refine lv_astoreq (lv' := [(4, va_rf q25), (0, .ref a0), (1, .int a1), (2, .int a2), (3, .int a3)]) hx hb dX11_want_28 hl (by decide) rfl (fun ls hl => ?_)
      refine lv_aloadq hx hb dX11_want_30 (lv_at hl 0 rfl) ?_
      rcases q25 with _ | b32
      · have h := of_oelN h
        have hl : lv_has ls 6 [(4, .null), (0, .ref a0), (1, .int a1), (2, .int a2), (3, .int a3)] := hl
        refine lv_ifnonnullN hx hb dX11_want_32 ?_
        refine lv_aload_n hx hb dX11_want_35 rfl (lv_at hl 1 rfl) ?_
        refine lv_bipush (v := -2) hx hb dX11_want_36 (by decide) ?_
        obtain ⟨q38, hq38, h⟩ := of_cal h
        obtain ⟨r38, S38⟩ := q38
        have h := of_un2 h
        refine C_i hA hw (va_runV (As := [.int (-2 : Int32)]) (rest := []) ⟨hx, hb, hml, hown, hts⟩ (cX11_refuse_ok l D cc E n S a0 (-2 : Int32) hq38) (cwV 1 hts gX11_want_X11_refuse rfl rfl rfl (by decide +kernel) ⟨Nat.le_of_ble_eq_true rfl, Nat.le_of_ble_eq_true rfl⟩) ⟨cBlind D cc E S _, C_recv hK hw (by omega) (cell_12 hf2) (r := (RX11, TX11, 12)) rfl, fun U hU hW => ⟨rfl, C_pre hA hK hro hw U hU hW⟩⟩ rfl rfl hl.1 rfl (lv_room (Nat.le_of_ble_eq_true rfl)) dX11_want_38 ⟨Nat.le_refl _, Nat.le_refl _⟩) (fun H locs hw => ?_)
        refine W.widen (k := 0) (n := 0) (Nat.le_refl _) (Nat.le_refl _) ?_
        obtain ⟨rfl, rfl⟩ := of_ret2 h
        exact C_iret hx hb hr hlocks hw (by rfl) dX11_want_41
      · have h := of_oelS h
        have hl : lv_has ls 6 [(4, .ref b32), (0, .ref a0), (1, .int a1), (2, .int a2), (3, .int a3)] := hl
        refine lv_ifnonnull (tgt := 42) hx hb dX11_want_32 (by decide) ?_
        refine lv_aload hx hb dX11_want_42 (lv_at hl 0 rfl) ?_
        obtain ⟨hf3, h⟩ := of_grd h
        obtain ⟨b44, eb44, h⟩ := of_onn h
        refine C_get hx hb hts hinX8 hown hK hw (cell_9 hf3) (by omega) rfl 0 (by decide) (index := 172) (by decide +kernel) rfl (v := .ref b44) (congrArg (fun o => some (va_rf o)) eb44) dX11_want_44 ?_
        refine lv_iload_n hx hb dX11_want_47 rfl (lv_at hl 3 rfl) ?_
        obtain ⟨hf4, h⟩ := of_grd h
        obtain ⟨hi48, h⟩ := of_grd h
        refine C_iald hx hb hK hw hf4 (by decide) (by decide) hi48 dX11_want_48 ?_
        refine lv_topi (fun v48 ev48 => ?_)
        have h := of_bnd h ev48
        refine lv_istore (lv' := [(5, .int v48), (4, .ref b32), (0, .ref a0), (1, .int a1), (2, .int a2), (3, .int a3)]) hx hb dX11_want_49 hl (by decide) rfl (fun ls hl => ?_)
        refine lv_aload hx hb dX11_want_51 (lv_at hl 1 rfl) ?_
        obtain ⟨b53, eb53, h⟩ := of_onn h
        refine C_get hx hb hts hinX8 hown hK hw (cell_9 hf3) (by omega) rfl 0 (by decide) (index := 172) (by decide +kernel) rfl (v := .ref b53) (congrArg (fun o => some (va_rf o)) eb53) dX11_want_53 ?_
        refine lv_iload_n hx hb dX11_want_56 rfl (lv_at hl 4 rfl) ?_
        refine lv_iload_n hx hb dX11_want_57 rfl (lv_at hl 5 rfl) ?_
        obtain ⟨hf5, h⟩ := of_grd h
        obtain ⟨hi58, h⟩ := of_grd h
        refine C_iast hx hb hK hw hf5 (by decide) (by decide) hi58 dX11_want_58 (fun S58 H locs eS58 hw => ?_)
        have h := of_bnd h eS58
        refine lv_aload_n hx hb dX11_want_59 rfl (lv_at hl 2 rfl) ?_
        refine lv_iload hx hb dX11_want_60 (lv_at hl 0 rfl) ?_
        have hf6 : cD S58 a0 = 12 := by rw [eS58]; exact hf2
        obtain ⟨q62, hq62, h⟩ := of_cal h
        obtain ⟨r62, S62⟩ := q62
        have h := of_un2 h
        refine C_i hA hw (va_runV (As := [.int v48]) (rest := []) ⟨hx, hb, hml, hown, hts⟩ (cX11_accept_ok l D cc E n S58 a0 v48 hq62) (cwV 1 hts gX11_want_X11_accept rfl rfl rfl (by decide +kernel) ⟨Nat.le_of_ble_eq_true rfl, Nat.le_of_ble_eq_true rfl⟩) ⟨cBlind D cc E S58 _, C_recv hK hw (by omega) (cell_12 hf6) (r := (RX11, TX11, 12)) rfl, fun U hU hW => ⟨rfl, C_pre hA hK hro hw U hU hW⟩⟩ rfl rfl hl.1 rfl (lv_room (Nat.le_of_ble_eq_true rfl)) dX11_want_62 ⟨Nat.le_refl _, Nat.le_refl _⟩) (fun H locs hw => ?_)
        refine W.widen (k := 0) (n := 0) (Nat.le_refl _) (Nat.le_refl _) ?_
        obtain ⟨rfl, rfl⟩ := of_ret2 h
        exact C_iret hx hb hr hlocks hw (by rfl) dX11_want_65
    · have h := of_it h c14
      refine lv_aload_n hx hb dX11_want_17 rfl (lv_at hl 0 rfl) ?_
      refine lv_iconst (v := -1) hx hb dX11_want_18 (by decide) ?_
      obtain ⟨hf7, h⟩ := of_grd h
      obtain ⟨q19, hq19, h⟩ := of_cal h
      obtain ⟨r19, S19⟩ := q19
      have h := of_un2 h
      refine C_i hA hw (va_runV (As := [.int (-1 : Int32)]) (rest := []) ⟨hx, hb, hml, hown, hts⟩ (cX11_refuse_ok l D cc E n S a0 (-1 : Int32) hq19) (cwV 1 hts gX11_want_X11_refuse rfl rfl rfl (by decide +kernel) ⟨Nat.le_of_ble_eq_true rfl, Nat.le_of_ble_eq_true rfl⟩) ⟨cBlind D cc E S _, C_recv hK hw (by omega) (cell_12 hf7) (r := (RX11, TX11, 12)) rfl, fun U hU hW => ⟨rfl, C_pre hA hK hro hw U hU hW⟩⟩ rfl rfl hl.1 rfl (lv_room (Nat.le_of_ble_eq_true rfl)) dX11_want_19 ⟨Nat.le_refl _, Nat.le_refl _⟩) (fun H locs hw => ?_)
      refine W.widen (k := 0) (n := 0) (Nat.le_refl _) (Nat.le_refl _) ?_
      obtain ⟨rfl, rfl⟩ := of_ret2 h
      exact C_iret hx hb hr hlocks hw (by rfl) dX11_want_22

def fX11_wantedUpTo_lp5 (n : Nat × Nat) (S : CS) (f0 : Nat) (f1 : Int32) (f2 : Int32) : Nat → Int32 → Int32 → Option (Int32)
  | 0, _, _ => none
  | k + 1, l3, l4 =>
    grd (cD S f0 = 12) (onn (cR S 242 f0) (fun b8 => grd (cD S b8 = 21) (cal (fL_size n 1 S b8) (fun q11 => if q11 ≤ l4 then 
        some l3
        else onn (cR S 242 f0) (fun b19 => grd (cD S b19 = 21) (cal (fL_get n 1 S b19 l4) (fun q24 => onn q24 (fun b27 => grd (cD S b27 = 9) (onn (cR S 180 b27) (fun b30 => grd (cD S b30 = 46) (grd (¬ (f1 < 0 ∨ cN S b30 ≤ f1.toNatClampNeg)) (bnd (cA S 46 b30 f1.toNatClampNeg) (fun v34 => bnd (if f2 < v34 then f2 else v34) (fun r36 => bnd (l3 + r36) (fun x40 => bnd (l4 + 1) (fun x41 => fX11_wantedUpTo_lp5 n S f0 f1 f2 k x40 x41 ))))))))))))))))
def fX11_wantedUpTo (n : Nat × Nat) (S : CS) (a0 : Nat) (a1 : Int32) (a2 : Int32) : Option Int32 :=
  bnd (0 : Int32) (fun x1 => bnd (0 : Int32) (fun x3 => cal (fX11_wantedUpTo_lp5 n S a0 a1 a2 n.1 x1 x3 ) (fun t3_5 => some t3_5)))
set_option maxHeartbeats 8000000 in
set_option maxRecDepth 100000 in
theorem cX11_wantedUpTo_ok (l : Launch) (D : va_G) (cc : Nat → ClassId) (E : Nat → Nat) (n : Nat × Nat) (S : CS) (a0 : Nat) (a1 : Int32) (a2 : Int32) {r : Int32} (h : fX11_wantedUpTo n S a0 a1 a2 = some r) : Ci l yX11_wantedUpTo wsX11_wantedUpTo 3 64 D cc E [.ref a0, .int a1, .int a2] S r S 0 0 := by
  refine C_of (own := RX11) (bb := cX11_wantedUpTo) (nL := 5) (ret := (some .int)) (by decide) rfl rfl (Nat.le_of_ble_eq_true rfl) ?_
  intro p e s m args below meth c hx hb hr hlocks hml hts hown hnm hA hK hro hw ls hl
  generalize va_A (cPs cc S) (nx S) = A at hA hro hw ⊢
  unfold fX11_wantedUpTo at h
  have hinX11 : ∀ w ∈ wsX110, w ∈ wsX11_wantedUpTo := by decide +kernel
  have hinX8 : ∀ w ∈ wsX80, w ∈ wsX11_wantedUpTo := by decide +kernel
  have hl : lv_has ls 5 [(0, .ref a0), (1, .int a1), (2, .int a2)] := hl
  refine lv_iconst (v := 0) hx hb dX11_wantedUpTo_0 (by decide) ?_
  refine lv_topi (fun x1 ex1 => ?_)
  have h := of_bnd h ex1
  refine lv_istore_n (lv' := [(3, .int x1), (0, .ref a0), (1, .int a1), (2, .int a2)]) hx hb dX11_wantedUpTo_1 rfl hl (by decide) rfl (fun ls hl => ?_)
  refine lv_iconst (v := 0) hx hb dX11_wantedUpTo_2 (by decide) ?_
  refine lv_topi (fun x3 ex3 => ?_)
  have h := of_bnd h ex3
  refine lv_istore (lv' := [(4, .int x3), (3, .int x1), (0, .ref a0), (1, .int a1), (2, .int a2)]) hx hb dX11_wantedUpTo_3 hl (by decide) rfl (fun ls hl => ?_)
  have lp5 : ∀ (f0 : Nat) (f1 : Int32) (f2 : Int32) (S : CS) (k : Nat) (l3 : Int32) (l4 : Int32) (q : Int32) , fX11_wantedUpTo_lp5 n S f0 f1 f2 k l3 l4  = some q → ∀ (H : Heap) (locs : List Loc), cWd D cc A s.heap S H locs → ∀ ls : Array Slot, lv_has ls 5 [(0, .ref f0), (1, .int f1), (2, .int f2), (3, .int l3), (4, .int l4)] → (∀ (t3 : Int32), t3 = q → ∀ (H : Heap) (locs : List Loc), cWd D cc A s.heap S H locs → ∀ ls : Array Slot, lv_has ls 5 [(3, .int t3)] → W p l e (cRm 3 64 0 0) s m args below meth c H locs (0) (0) (MQ below (va_Qi (fun x u => x = r ∧ u = S) (cAft D cc A) A) args s 0 0 A) (F0 m 47 ls [])) → W p l e (cRm 3 64 0 0) s m args below meth c H locs (0) (0) (MQ below (va_Qi (fun x u => x = r ∧ u = S) (cAft D cc A) A) args s 0 0 A) (F0 m 5 ls []) := by
    intro f0 f1 f2 S k
    induction k with
    | zero => intro l3 l4 q h; rw [fX11_wantedUpTo_lp5] at h; cases h
    | succ k ih5 =>
      intro l3 l4 q h H locs hw ls hl kx5_0
      rw [fX11_wantedUpTo_lp5] at h
      refine lv_iload hx hb dX11_wantedUpTo_5 (lv_at hl 4 rfl) ?_
      refine lv_aload_n hx hb dX11_wantedUpTo_7 rfl (lv_at hl 0 rfl) ?_
      obtain ⟨hf1, h⟩ := of_grd h
      obtain ⟨b8, eb8, h⟩ := of_onn h
      refine C_get hx hb hts hinX11 hown hK hw (cell_12 hf1) (by omega) rfl 2 (by decide) (index := 23) (by decide +kernel) rfl (v := .ref b8) (congrArg (fun o => some (va_rf o)) eb8) dX11_wantedUpTo_8 ?_
      obtain ⟨hf2, h⟩ := of_grd h
      obtain ⟨q11, hq11, h⟩ := of_cal h
      refine C_i hA hw (va_runV (As := []) (rest := [.int l4]) ⟨hx, hb, hml, hown, hts⟩ (cL_size_ok l D cc E n 1 (by decide) S b8 hq11) (cwV 0 hts gX11_wantedUpTo_Jx4a65c_size_8abf5 rfl rfl rfl (by decide +kernel) ⟨Nat.le_of_ble_eq_true rfl, Nat.le_of_ble_eq_true rfl⟩) ⟨cBlind D cc E S _, C_recv hK hw (by omega) (cell_L (r := 1) (by decide) hf2) (r := (RJx4a65c, TJx4a65c, 3)) rfl, fun U hU hW => ⟨rfl, C_pre hA hK hro hw U hU hW⟩⟩ rfl rfl hl.1 rfl (lv_room (Nat.le_of_ble_eq_true rfl)) dX11_wantedUpTo_11 ⟨Nat.le_refl _, Nat.le_refl _⟩) (fun H locs hw => ?_)
      refine W.widen (k := 0) (n := 0) (Nat.le_refl _) (Nat.le_refl _) ?_
      refine lv_icmp_ge (tgt := 47) hx hb dX11_wantedUpTo_14 (by decide) (fun c14 => ?_) (fun c14 => ?_)
      · have h := of_it h c14
        exact kx5_0 l3 (Option.some.inj h) _ _ hw ls (lv_sub hl [3] rfl)
      · have h := of_if h c14
        refine lv_iload_n hx hb dX11_wantedUpTo_17 rfl (lv_at hl 3 rfl) ?_
        refine lv_aload_n hx hb dX11_wantedUpTo_18 rfl (lv_at hl 0 rfl) ?_
        obtain ⟨b19, eb19, h⟩ := of_onn h
        refine C_get hx hb hts hinX11 hown hK hw (cell_12 hf1) (by omega) rfl 2 (by decide) (index := 23) (by decide +kernel) rfl (v := .ref b19) (congrArg (fun o => some (va_rf o)) eb19) dX11_wantedUpTo_19 ?_
        refine lv_iload hx hb dX11_wantedUpTo_22 (lv_at hl 4 rfl) ?_
        obtain ⟨hf3, h⟩ := of_grd h
        obtain ⟨q24, hq24, h⟩ := of_cal h
        refine C_q hA hw (va_runV (As := [.int l4]) (rest := [.int l3]) ⟨hx, hb, hml, hown, hts⟩ (cL_get_ok l D cc E n 1 (by decide) S b19 l4 hq24) (cwV 1 hts gX11_wantedUpTo_Jx4a65c_get_915e3 rfl rfl rfl (by decide +kernel) ⟨Nat.le_of_ble_eq_true rfl, Nat.le_of_ble_eq_true rfl⟩) ⟨cBlind D cc E S _, C_recv hK hw (by omega) (cell_L (r := 1) (by decide) hf3) (r := (RJx4a65c, TJx4a65c, 3)) rfl, fun U hU hW => ⟨rfl, C_pre hA hK hro hw U hU hW⟩⟩ rfl rfl hl.1 rfl (lv_room (Nat.le_of_ble_eq_true rfl)) dX11_wantedUpTo_24 ⟨Nat.le_refl _, Nat.le_refl _⟩) (fun H locs hw => ?_)
        refine W.widen (k := 0) (n := 0) (Nat.le_refl _) (Nat.le_refl _) ?_
        obtain ⟨b27, eb27, h⟩ := of_onn h
        subst eb27
        obtain ⟨hf4, h⟩ := of_grd h
        refine va_castE hx hb hown (hts (.classLink RX11 104 RX8) (by decide +kernel)) (C_recv hK hw (by omega) (cell_9 hf4) (r := (RX8, TX8, 3)) rfl) dX11_wantedUpTo_27 ?_
        obtain ⟨b30, eb30, h⟩ := of_onn h
        refine C_get hx hb hts hinX8 hown hK hw (cell_9 hf4) (by omega) rfl 0 (by decide) (index := 172) (by decide +kernel) rfl (v := .ref b30) (congrArg (fun o => some (va_rf o)) eb30) dX11_wantedUpTo_30 ?_
        refine lv_iload_n hx hb dX11_wantedUpTo_33 rfl (lv_at hl 1 rfl) ?_
        obtain ⟨hf5, h⟩ := of_grd h
        obtain ⟨hi34, h⟩ := of_grd h
        refine C_iald hx hb hK hw hf5 (by decide) (by decide) hi34 dX11_wantedUpTo_34 ?_
        refine lv_topi (fun v34 ev34 => ?_)
        have h := of_bnd h ev34
        refine lv_iload_n hx hb dX11_wantedUpTo_35 rfl (lv_at hl 2 rfl) ?_
        refine va_mmin (rest := [.int l3]) hx hb (hml.trans hl.1.symm) hown (hts (.methodLink RX11 291 Lib.Math.min.name) (by decide +kernel)) (hts (.static Lib.Math.min.name) (by decide +kernel)) (hts (.initialized "java/lang/Math") (by decide +kernel)) (hts (.code Lib.Math.min.name Lib.Math.min.code 2 (some .int)) (by decide +kernel)) (Nat.le_of_ble_eq_true rfl) (Nat.le_of_ble_eq_true rfl) (Nat.zero_le _) (Nat.zero_le _) dX11_wantedUpTo_36 ?_
        refine lv_topi (fun r36 er36 => ?_)
        have h := of_bnd h er36
        refine lv_iadd hx hb dX11_wantedUpTo_39 ?_
        refine lv_topi (fun x40 ex40 => ?_)
        have h := of_bnd h ex40
        refine lv_istore_n (lv' := [(3, .int x40), (0, .ref f0), (1, .int f1), (2, .int f2), (4, .int l4)]) hx hb dX11_wantedUpTo_40 rfl hl (by decide) rfl (fun ls hl => ?_)
        obtain ⟨x41, ex41⟩ : ∃ y : Int32, y = l4 + 1 := ⟨_, rfl⟩
        have h := of_bnd h ex41
        refine lv_iinc (v := x41) (lv' := [(4, .int x41), (3, .int x40), (0, .ref f0), (1, .int f1), (2, .int f2)]) hx hb dX11_wantedUpTo_41 hl (k := 4) rfl (by rw [ex41]; rfl) (by decide) rfl (fun ls hl => ?_)
        refine lv_goto (tgt := 5) hx hb dX11_wantedUpTo_44 (by decide) ?_
        exact ih5 x40 x41 _ h _ _ hw ls (lv_sub hl [2, 3, 4, 1, 0] rfl) kx5_0
  obtain ⟨q5, hq5, h⟩ := of_cal h
  refine lp5 a0 a1 a2 S n.1 x1 x3 q5  hq5 _ _ hw ls (lv_sub hl [2, 3, 4, 1, 0] rfl) ?_
  · intro t3_5 eq H locs hw ls hl
    subst eq
    refine lv_iload_n hx hb dX11_wantedUpTo_47 rfl (lv_at hl 0 rfl) ?_
    obtain rfl := Option.some.inj h
    exact C_iret hx hb hr hlocks hw (by rfl) dX11_wantedUpTo_48

def fX11_levelFor_lp7 (n : Nat × Nat) (S : CS) (f0 : Nat) (f1 : Int32) (f2 : Int32) : Nat → Int32 → Int32 → Option (Int32)
  | 0, _, _ => none
  | k + 1, l3, l4 =>
    if l4 ≤ 0 then 
        some l3
        else grd (cD S f0 = 12) (cal (fX11_wantedUpTo n S f0 f1 (l3 + l4)) (fun q18 => if f2 < q18 then 
          bnd (l4 >>> ((1 : Int32) &&& 31)) (fun x34 => fX11_levelFor_lp7 n S f0 f1 f2 k l3 x34 )
          else bnd (l3 + l4) (fun x29 => bnd (l4 >>> ((1 : Int32) &&& 31)) (fun x34 => fX11_levelFor_lp7 n S f0 f1 f2 k x29 x34 ))))
def fX11_levelFor (n : Nat × Nat) (S : CS) (a0 : Nat) (a1 : Int32) (a2 : Int32) : Option Int32 :=
  bnd (0 : Int32) (fun x1 => bnd (524288 : Int32) (fun x5 => cal (fX11_levelFor_lp7 n S a0 a1 a2 n.1 x1 x5 ) (fun t3_7 => some t3_7)))
set_option maxHeartbeats 8000000 in
set_option maxRecDepth 100000 in
theorem cX11_levelFor_ok (l : Launch) (D : va_G) (cc : Nat → ClassId) (E : Nat → Nat) (n : Nat × Nat) (S : CS) (a0 : Nat) (a1 : Int32) (a2 : Int32) {r : Int32} (h : fX11_levelFor n S a0 a1 a2 = some r) : Ci l yX11_levelFor wsX11_levelFor 4 88 D cc E [.ref a0, .int a1, .int a2] S r S 0 0 := by
  refine C_of (own := RX11) (bb := cX11_levelFor) (nL := 5) (ret := (some .int)) (by decide) rfl rfl (Nat.le_of_ble_eq_true rfl) ?_
  intro p e s m args below meth c hx hb hr hlocks hml hts hown hnm hA hK hro hw ls hl
  generalize va_A (cPs cc S) (nx S) = A at hA hro hw ⊢
  unfold fX11_levelFor at h
  have hl : lv_has ls 5 [(0, .ref a0), (1, .int a1), (2, .int a2)] := hl
  refine lv_iconst (v := 0) hx hb dX11_levelFor_0 (by decide) ?_
  refine lv_topi (fun x1 ex1 => ?_)
  have h := of_bnd h ex1
  refine lv_istore_n (lv' := [(3, .int x1), (0, .ref a0), (1, .int a1), (2, .int a2)]) hx hb dX11_levelFor_1 rfl hl (by decide) rfl (fun ls hl => ?_)
  refine lv_ldcw (v := 524288) hx hb hown (hts (.constant RX11 290 (524288)) (by decide +kernel)) dX11_levelFor_2 ?_
  refine lv_topi (fun x5 ex5 => ?_)
  have h := of_bnd h ex5
  refine lv_istore (lv' := [(4, .int x5), (3, .int x1), (0, .ref a0), (1, .int a1), (2, .int a2)]) hx hb dX11_levelFor_5 hl (by decide) rfl (fun ls hl => ?_)
  have lp7 : ∀ (f0 : Nat) (f1 : Int32) (f2 : Int32) (S : CS) (k : Nat) (l3 : Int32) (l4 : Int32) (q : Int32) , fX11_levelFor_lp7 n S f0 f1 f2 k l3 l4  = some q → ∀ (H : Heap) (locs : List Loc), cWd D cc A s.heap S H locs → ∀ ls : Array Slot, lv_has ls 5 [(0, .ref f0), (1, .int f1), (2, .int f2), (3, .int l3), (4, .int l4)] → (∀ (t3 : Int32), t3 = q → ∀ (H : Heap) (locs : List Loc), cWd D cc A s.heap S H locs → ∀ ls : Array Slot, lv_has ls 5 [(3, .int t3)] → W p l e (cRm 4 88 0 0) s m args below meth c H locs (0) (0) (MQ below (va_Qi (fun x u => x = r ∧ u = S) (cAft D cc A) A) args s 0 0 A) (F0 m 39 ls [])) → W p l e (cRm 4 88 0 0) s m args below meth c H locs (0) (0) (MQ below (va_Qi (fun x u => x = r ∧ u = S) (cAft D cc A) A) args s 0 0 A) (F0 m 7 ls []) := by
    intro f0 f1 f2 S k
    induction k with
    | zero => intro l3 l4 q h; rw [fX11_levelFor_lp7] at h; cases h
    | succ k ih7 =>
      intro l3 l4 q h H locs hw ls hl kx7_0
      rw [fX11_levelFor_lp7] at h
      refine lv_iload hx hb dX11_levelFor_7 (lv_at hl 4 rfl) ?_
      refine lv_if_le (tgt := 39) hx hb dX11_levelFor_9 (by decide) (fun c9 => ?_) (fun c9 => ?_)
      · have h := of_it h c9
        exact kx7_0 l3 (Option.some.inj h) _ _ hw ls (lv_sub hl [3] rfl)
      · have h := of_if h c9
        refine lv_aload_n hx hb dX11_levelFor_12 rfl (lv_at hl 0 rfl) ?_
        refine lv_iload_n hx hb dX11_levelFor_13 rfl (lv_at hl 1 rfl) ?_
        refine lv_iload_n hx hb dX11_levelFor_14 rfl (lv_at hl 3 rfl) ?_
        refine lv_iload hx hb dX11_levelFor_15 (lv_at hl 4 rfl) ?_
        refine lv_iadd hx hb dX11_levelFor_17 ?_
        obtain ⟨hf1, h⟩ := of_grd h
        obtain ⟨q18, hq18, h⟩ := of_cal h
        refine C_i hA hw (va_runV (As := [.int f1, .int (l3 + l4)]) (rest := []) ⟨hx, hb, hml, hown, hts⟩ (cX11_wantedUpTo_ok l D cc E n S f0 f1 (l3 + l4) hq18) (cwV 2 hts gX11_levelFor_X11_wantedUpTo rfl rfl rfl (by decide +kernel) ⟨Nat.le_of_ble_eq_true rfl, Nat.le_of_ble_eq_true rfl⟩) ⟨cBlind D cc E S _, C_recv hK hw (by omega) (cell_12 hf1) (r := (RX11, TX11, 12)) rfl, fun U hU hW => ⟨rfl, C_pre hA hK hro hw U hU hW⟩⟩ rfl rfl hl.1 rfl (lv_room (Nat.le_of_ble_eq_true rfl)) dX11_levelFor_18 ⟨Nat.le_refl _, Nat.le_refl _⟩) (fun H locs hw => ?_)
        refine W.widen (k := 0) (n := 0) (Nat.le_refl _) (Nat.le_refl _) ?_
        refine lv_iload_n hx hb dX11_levelFor_21 rfl (lv_at hl 2 rfl) ?_
        refine lv_icmp_gt (tgt := 30) hx hb dX11_levelFor_22 (by decide) (fun c22 => ?_) (fun c22 => ?_)
        · have h := of_it h c22
          refine lv_iload hx hb dX11_levelFor_30 (lv_at hl 4 rfl) ?_
          refine lv_iconst (v := 1) hx hb dX11_levelFor_32 (by decide) ?_
          refine lv_ishr hx hb dX11_levelFor_33 ?_
          refine lv_topi (fun x34 ex34 => ?_)
          have h := of_bnd h ex34
          refine lv_istore (lv' := [(4, .int x34), (0, .ref f0), (1, .int f1), (2, .int f2), (3, .int l3)]) hx hb dX11_levelFor_34 hl (by decide) rfl (fun ls hl => ?_)
          refine lv_goto (tgt := 7) hx hb dX11_levelFor_36 (by decide) ?_
          exact ih7 l3 x34 _ h _ _ hw ls (lv_sub hl [1, 2, 3, 4, 0] rfl) kx7_0
        · have h := of_if h c22
          refine lv_iload_n hx hb dX11_levelFor_25 rfl (lv_at hl 3 rfl) ?_
          refine lv_iload hx hb dX11_levelFor_26 (lv_at hl 4 rfl) ?_
          refine lv_iadd hx hb dX11_levelFor_28 ?_
          refine lv_topi (fun x29 ex29 => ?_)
          have h := of_bnd h ex29
          refine lv_istore_n (lv' := [(3, .int x29), (0, .ref f0), (1, .int f1), (2, .int f2), (4, .int l4)]) hx hb dX11_levelFor_29 rfl hl (by decide) rfl (fun ls hl => ?_)
          refine lv_iload hx hb dX11_levelFor_30 (lv_at hl 4 rfl) ?_
          refine lv_iconst (v := 1) hx hb dX11_levelFor_32 (by decide) ?_
          refine lv_ishr hx hb dX11_levelFor_33 ?_
          refine lv_topi (fun x34 ex34 => ?_)
          have h := of_bnd h ex34
          refine lv_istore (lv' := [(4, .int x34), (3, .int x29), (0, .ref f0), (1, .int f1), (2, .int f2)]) hx hb dX11_levelFor_34 hl (by decide) rfl (fun ls hl => ?_)
          refine lv_goto (tgt := 7) hx hb dX11_levelFor_36 (by decide) ?_
          exact ih7 x29 x34 _ h _ _ hw ls (lv_sub hl [2, 3, 4, 1, 0] rfl) kx7_0
  obtain ⟨q7, hq7, h⟩ := of_cal h
  refine lp7 a0 a1 a2 S n.1 x1 x5 q7  hq7 _ _ hw ls (lv_sub hl [2, 3, 4, 1, 0] rfl) ?_
  · intro t3_7 eq H locs hw ls hl
    subst eq
    refine lv_iload_n hx hb dX11_levelFor_39 rfl (lv_at hl 0 rfl) ?_
    obtain rfl := Option.some.inj h
    exact C_iret hx hb hr hlocks hw (by rfl) dX11_levelFor_40

def fX11_partAtLevel_lp9 (n : Nat × Nat) (f0 : Nat) (f1 : Int32) (f2 : Int32) : Nat → Int32 → Int32 → Int32 → CS → Option (Int32 × CS)
  | 0, _, _, _, _ => none
  | k + 1, l4, l5, l6, S =>
    grd (cD S f0 = 12) (onn (cR S 242 f0) (fun b12 => grd (cD S b12 = 21) (cal (fL_size n 1 S b12) (fun q15 => if q15 ≤ l6 then 
        some (l5, S)
        else onn (cR S 242 f0) (fun b22 => grd (cD S b22 = 21) (cal (fL_get n 1 S b22 l6) (fun q27 => onn q27 (fun b30 => grd (cD S b30 = 9) (onn (cR S 180 b30) (fun b37 => grd (cD S b37 = 46) (grd (¬ (f1 < 0 ∨ cN S b37 ≤ f1.toNatClampNeg)) (bnd (cA S 46 b37 f1.toNatClampNeg) (fun v41 => bnd (if f2 < v41 then f2 else v41) (fun r43 => onn (cR S 180 b30) (fun b50 => grd (cD S b50 = 46) (grd (¬ (f1 < 0 ∨ cN S b50 ≤ f1.toNatClampNeg)) (bnd (cA S 46 b50 f1.toNatClampNeg) (fun v54 => bnd (fun (l4_70 : Int32) (l8_70 : Int32) (S : CS) => grd (cD S b30 = 9) (onn (cR S 180 b30) (fun b72 => grd (cD S b72 = 46) (grd (¬ (f1 < 0 ∨ cN S b72 ≤ f1.toNatClampNeg)) (bnd (cA S 46 b72 f1.toNatClampNeg) (fun v77 => grd (¬ (f1 < 0 ∨ cN S b72 ≤ f1.toNatClampNeg)) (bnd (uA S 46 b72 f1.toNatClampNeg (v77 - l8_70)) (fun S81 => onn (cR S81 181 b30) (fun b84 => grd (cD S81 b84 = 47) (grd (¬ (f1 < 0 ∨ cN S81 b84 ≤ f1.toNatClampNeg)) (bnd (cA S81 47 b84 f1.toNatClampNeg) (fun v89 => grd (¬ (f1 < 0 ∨ cN S81 b84 ≤ f1.toNatClampNeg)) (bnd (uA S81 47 b84 f1.toNatClampNeg (v89 + l8_70)) (fun S93 => bnd (l5 + l8_70) (fun x99 => bnd (l6 + 1) (fun x101 => fX11_partAtLevel_lp9 n f0 f1 f2 k l4_70 x99 x101 S93)))))))))))))))) (fun j70 => if v54 ≤ f2 then 
          j70 l4 r43 S
          else if l4 ≤ 0 then 
            j70 l4 r43 S
            else bnd (r43 + 1) (fun x64 => bnd (l4 + -1) (fun x67 => j70 x67 x64 S)))))))))))))))))))))
def fX11_partAtLevel (n : Nat × Nat) (S : CS) (a0 : Nat) (a1 : Int32) (a2 : Int32) (a3 : Int32) : Option (Int32 × CS) :=
  bnd (0 : Int32) (fun x4 => bnd (0 : Int32) (fun x7 => cal (fX11_partAtLevel_lp9 n a0 a1 a2 n.1 a3 x4 x7 S) (un2 fun t5_9 S9 => some (t5_9, S9))))
set_option maxHeartbeats 8000000 in
set_option maxRecDepth 100000 in
theorem cX11_partAtLevel_ok (l : Launch) (D : va_G) (cc : Nat → ClassId) (E : Nat → Nat) (n : Nat × Nat) (S : CS) (a0 : Nat) (a1 : Int32) (a2 : Int32) (a3 : Int32) {r : Int32} {T : CS} (h : fX11_partAtLevel n S a0 a1 a2 a3 = some (r, T)) : Ci l yX11_partAtLevel wsX11_partAtLevel 3 64 D cc E [.ref a0, .int a1, .int a2, .int a3] S r T 0 0 := by
  refine C_of (own := RX11) (bb := cX11_partAtLevel) (nL := 9) (ret := (some .int)) (by decide) rfl rfl (Nat.le_of_ble_eq_true rfl) ?_
  intro p e s m args below meth c hx hb hr hlocks hml hts hown hnm hA hK hro hw ls hl
  generalize va_A (cPs cc S) (nx S) = A at hA hro hw ⊢
  unfold fX11_partAtLevel at h
  have hinX11 : ∀ w ∈ wsX110, w ∈ wsX11_partAtLevel := by decide +kernel
  have hinX8 : ∀ w ∈ wsX80, w ∈ wsX11_partAtLevel := by decide +kernel
  have hl : lv_has ls 9 [(0, .ref a0), (1, .int a1), (2, .int a2), (3, .int a3)] := hl
  refine lv_iload_n hx hb dX11_partAtLevel_0 rfl (lv_at hl 3 rfl) ?_
  refine lv_istore (lv' := [(4, .int a3), (0, .ref a0), (1, .int a1), (2, .int a2), (3, .int a3)]) hx hb dX11_partAtLevel_1 hl (by decide) rfl (fun ls hl => ?_)
  refine lv_iconst (v := 0) hx hb dX11_partAtLevel_3 (by decide) ?_
  refine lv_topi (fun x4 ex4 => ?_)
  have h := of_bnd h ex4
  refine lv_istore (lv' := [(5, .int x4), (4, .int a3), (0, .ref a0), (1, .int a1), (2, .int a2), (3, .int a3)]) hx hb dX11_partAtLevel_4 hl (by decide) rfl (fun ls hl => ?_)
  refine lv_iconst (v := 0) hx hb dX11_partAtLevel_6 (by decide) ?_
  refine lv_topi (fun x7 ex7 => ?_)
  have h := of_bnd h ex7
  refine lv_istore (lv' := [(6, .int x7), (5, .int x4), (4, .int a3), (0, .ref a0), (1, .int a1), (2, .int a2), (3, .int a3)]) hx hb dX11_partAtLevel_7 hl (by decide) rfl (fun ls hl => ?_)
  have lp9 : ∀ (f0 : Nat) (f1 : Int32) (f2 : Int32) (k : Nat) (l4 : Int32) (l5 : Int32) (l6 : Int32) (S : CS) (q : Int32 × CS) , fX11_partAtLevel_lp9 n f0 f1 f2 k l4 l5 l6 S = some q → ∀ (H : Heap) (locs : List Loc), cWd D cc A s.heap S H locs → ∀ ls : Array Slot, lv_has ls 9 [(0, .ref f0), (1, .int f1), (2, .int f2), (4, .int l4), (5, .int l5), (6, .int l6)] → (∀ (t5 : Int32) (S1 : CS), (t5, S1) = q → ∀ (H : Heap) (locs : List Loc), cWd D cc A s.heap S1 H locs → ∀ ls : Array Slot, lv_has ls 9 [(5, .int t5)] → W p l e (cRm 3 64 0 0) s m args below meth c H locs (0) (0) (MQ below (va_Qi (fun x u => x = r ∧ u = T) (cAft D cc A) A) args s 0 0 A) (F0 m 107 ls [])) → W p l e (cRm 3 64 0 0) s m args below meth c H locs (0) (0) (MQ below (va_Qi (fun x u => x = r ∧ u = T) (cAft D cc A) A) args s 0 0 A) (F0 m 9 ls []) := by
    intro f0 f1 f2 k
    induction k with
    | zero => intro l4 l5 l6 S q h; rw [fX11_partAtLevel_lp9] at h; cases h
    | succ k ih9 =>
      intro l4 l5 l6 S q h H locs hw ls hl kx9_0
      rw [fX11_partAtLevel_lp9] at h
      refine lv_iload hx hb dX11_partAtLevel_9 (lv_at hl 5 rfl) ?_
      refine lv_aload_n hx hb dX11_partAtLevel_11 rfl (lv_at hl 0 rfl) ?_
      obtain ⟨hf1, h⟩ := of_grd h
      obtain ⟨b12, eb12, h⟩ := of_onn h
      refine C_get hx hb hts hinX11 hown hK hw (cell_12 hf1) (by omega) rfl 2 (by decide) (index := 23) (by decide +kernel) rfl (v := .ref b12) (congrArg (fun o => some (va_rf o)) eb12) dX11_partAtLevel_12 ?_
      obtain ⟨hf2, h⟩ := of_grd h
      obtain ⟨q15, hq15, h⟩ := of_cal h
      refine C_i hA hw (va_runV (As := []) (rest := [.int l6]) ⟨hx, hb, hml, hown, hts⟩ (cL_size_ok l D cc E n 1 (by decide) S b12 hq15) (cwV 0 hts gX11_partAtLevel_Jx4a65c_size_8abf5 rfl rfl rfl (by decide +kernel) ⟨Nat.le_of_ble_eq_true rfl, Nat.le_of_ble_eq_true rfl⟩) ⟨cBlind D cc E S _, C_recv hK hw (by omega) (cell_L (r := 1) (by decide) hf2) (r := (RJx4a65c, TJx4a65c, 3)) rfl, fun U hU hW => ⟨rfl, C_pre hA hK hro hw U hU hW⟩⟩ rfl rfl hl.1 rfl (lv_room (Nat.le_of_ble_eq_true rfl)) dX11_partAtLevel_15 ⟨Nat.le_refl _, Nat.le_refl _⟩) (fun H locs hw => ?_)
      refine W.widen (k := 0) (n := 0) (Nat.le_refl _) (Nat.le_refl _) ?_
      refine lv_icmp_ge (tgt := 107) hx hb dX11_partAtLevel_18 (by decide) (fun c18 => ?_) (fun c18 => ?_)
      · have h := of_it h c18
        exact kx9_0 l5 S (Option.some.inj h) _ _ hw ls (lv_sub hl [4] rfl)
      · have h := of_if h c18
        refine lv_aload_n hx hb dX11_partAtLevel_21 rfl (lv_at hl 0 rfl) ?_
        obtain ⟨b22, eb22, h⟩ := of_onn h
        refine C_get hx hb hts hinX11 hown hK hw (cell_12 hf1) (by omega) rfl 2 (by decide) (index := 23) (by decide +kernel) rfl (v := .ref b22) (congrArg (fun o => some (va_rf o)) eb22) dX11_partAtLevel_22 ?_
        refine lv_iload hx hb dX11_partAtLevel_25 (lv_at hl 5 rfl) ?_
        obtain ⟨hf3, h⟩ := of_grd h
        obtain ⟨q27, hq27, h⟩ := of_cal h
        refine C_q hA hw (va_runV (As := [.int l6]) (rest := []) ⟨hx, hb, hml, hown, hts⟩ (cL_get_ok l D cc E n 1 (by decide) S b22 l6 hq27) (cwV 1 hts gX11_partAtLevel_Jx4a65c_get_915e3 rfl rfl rfl (by decide +kernel) ⟨Nat.le_of_ble_eq_true rfl, Nat.le_of_ble_eq_true rfl⟩) ⟨cBlind D cc E S _, C_recv hK hw (by omega) (cell_L (r := 1) (by decide) hf3) (r := (RJx4a65c, TJx4a65c, 3)) rfl, fun U hU hW => ⟨rfl, C_pre hA hK hro hw U hU hW⟩⟩ rfl rfl hl.1 rfl (lv_room (Nat.le_of_ble_eq_true rfl)) dX11_partAtLevel_27 ⟨Nat.le_refl _, Nat.le_refl _⟩) (fun H locs hw => ?_)
        refine W.widen (k := 0) (n := 0) (Nat.le_refl _) (Nat.le_refl _) ?_
        obtain ⟨b30, eb30, h⟩ := of_onn h
        subst eb30
        obtain ⟨hf4, h⟩ := of_grd h
        refine va_castE hx hb hown (hts (.classLink RX11 104 RX8) (by decide +kernel)) (C_recv hK hw (by omega) (cell_9 hf4) (r := (RX8, TX8, 3)) rfl) dX11_partAtLevel_30 ?_
        refine lv_astore (lv' := [(7, .ref b30), (0, .ref f0), (1, .int f1), (2, .int f2), (4, .int l4), (5, .int l5), (6, .int l6)]) hx hb dX11_partAtLevel_33 hl (by decide) rfl (fun ls hl => ?_)
        refine lv_aload hx hb dX11_partAtLevel_35 (lv_at hl 0 rfl) ?_
        obtain ⟨b37, eb37, h⟩ := of_onn h
        refine C_get hx hb hts hinX8 hown hK hw (cell_9 hf4) (by omega) rfl 0 (by decide) (index := 172) (by decide +kernel) rfl (v := .ref b37) (congrArg (fun o => some (va_rf o)) eb37) dX11_partAtLevel_37 ?_
        refine lv_iload_n hx hb dX11_partAtLevel_40 rfl (lv_at hl 2 rfl) ?_
        obtain ⟨hf5, h⟩ := of_grd h
        obtain ⟨hi41, h⟩ := of_grd h
        refine C_iald hx hb hK hw hf5 (by decide) (by decide) hi41 dX11_partAtLevel_41 ?_
        refine lv_topi (fun v41 ev41 => ?_)
        have h := of_bnd h ev41
        refine lv_iload_n hx hb dX11_partAtLevel_42 rfl (lv_at hl 3 rfl) ?_
        refine va_mmin (rest := []) hx hb (hml.trans hl.1.symm) hown (hts (.methodLink RX11 291 Lib.Math.min.name) (by decide +kernel)) (hts (.static Lib.Math.min.name) (by decide +kernel)) (hts (.initialized "java/lang/Math") (by decide +kernel)) (hts (.code Lib.Math.min.name Lib.Math.min.code 2 (some .int)) (by decide +kernel)) (Nat.le_of_ble_eq_true rfl) (Nat.le_of_ble_eq_true rfl) (Nat.zero_le _) (Nat.zero_le _) dX11_partAtLevel_43 ?_
        refine lv_topi (fun r43 er43 => ?_)
        have h := of_bnd h er43
        refine lv_istore (lv' := [(8, .int r43), (7, .ref b30), (0, .ref f0), (1, .int f1), (2, .int f2), (4, .int l4), (5, .int l5), (6, .int l6)]) hx hb dX11_partAtLevel_46 hl (by decide) rfl (fun ls hl => ?_)
        refine lv_aload hx hb dX11_partAtLevel_48 (lv_at hl 1 rfl) ?_
        obtain ⟨b50, eb50, h⟩ := of_onn h
        refine C_get hx hb hts hinX8 hown hK hw (cell_9 hf4) (by omega) rfl 0 (by decide) (index := 172) (by decide +kernel) rfl (v := .ref b50) (congrArg (fun o => some (va_rf o)) eb50) dX11_partAtLevel_50 ?_
        refine lv_iload_n hx hb dX11_partAtLevel_53 rfl (lv_at hl 3 rfl) ?_
        obtain ⟨hf6, h⟩ := of_grd h
        obtain ⟨hi54, h⟩ := of_grd h
        refine C_iald hx hb hK hw hf6 (by decide) (by decide) hi54 dX11_partAtLevel_54 ?_
        refine lv_topi (fun v54 ev54 => ?_)
        have h := of_bnd h ev54
        refine lv_iload_n hx hb dX11_partAtLevel_55 rfl (lv_at hl 4 rfl) ?_
        obtain ⟨j70, ej70, h⟩ := of_bndE h
        have hj70 : ∀ (l4_70 : Int32) (l8_70 : Int32) (S : CS), j70 l4_70 l8_70 S = some q → ∀ (H : Heap) (locs : List Loc), cWd D cc A s.heap S H locs → ∀ ls : Array Slot, lv_has ls 9 [(0, .ref f0), (1, .int f1), (2, .int f2), (4, .int l4_70), (5, .int l5), (6, .int l6), (7, .ref b30), (8, .int l8_70)] → W p l e (cRm 3 64 0 0) s m args below meth c H locs (0) (0) (MQ below (va_Qi (fun x u => x = r ∧ u = T) (cAft D cc A) A) args s 0 0 A) (F0 m 70 ls []) := by
          intro l4_70 l8_70 S h H locs hw ls hl
          rw [ej70] at h
          dsimp only at h
          refine lv_aload hx hb dX11_partAtLevel_70 (lv_at hl 6 rfl) ?_
          obtain ⟨hf7, h⟩ := of_grd h
          obtain ⟨b72, eb72, h⟩ := of_onn h
          refine C_get hx hb hts hinX8 hown hK hw (cell_9 hf7) (by omega) rfl 0 (by decide) (index := 172) (by decide +kernel) rfl (v := .ref b72) (congrArg (fun o => some (va_rf o)) eb72) dX11_partAtLevel_72 ?_
          refine lv_iload_n hx hb dX11_partAtLevel_75 rfl (lv_at hl 1 rfl) ?_
          refine lv_dup2_11 hx hb dX11_partAtLevel_76 rfl rfl ?_
          obtain ⟨hf8, h⟩ := of_grd h
          obtain ⟨hi77, h⟩ := of_grd h
          refine C_iald hx hb hK hw hf8 (by decide) (by decide) hi77 dX11_partAtLevel_77 ?_
          refine lv_topi (fun v77 ev77 => ?_)
          have h := of_bnd h ev77
          refine lv_iload hx hb dX11_partAtLevel_78 (lv_at hl 7 rfl) ?_
          refine lv_isub hx hb dX11_partAtLevel_80 ?_
          obtain ⟨hi81, h⟩ := of_grd h
          refine C_iast hx hb hK hw hf8 (by decide) (by decide) hi81 dX11_partAtLevel_81 (fun S81 H locs eS81 hw => ?_)
          have h := of_bnd h eS81
          refine lv_aload hx hb dX11_partAtLevel_82 (lv_at hl 6 rfl) ?_
          have hf9 : cD S81 b30 = 9 := by rw [eS81]; exact hf7
          obtain ⟨b84, eb84, h⟩ := of_onn h
          refine C_get hx hb hts hinX8 hown hK hw (cell_9 hf9) (by omega) rfl 1 (by decide) (index := 195) (by decide +kernel) rfl (v := .ref b84) (congrArg (fun o => some (va_rf o)) eb84) dX11_partAtLevel_84 ?_
          refine lv_iload_n hx hb dX11_partAtLevel_87 rfl (lv_at hl 1 rfl) ?_
          refine lv_dup2_11 hx hb dX11_partAtLevel_88 rfl rfl ?_
          obtain ⟨hf10, h⟩ := of_grd h
          obtain ⟨hi89, h⟩ := of_grd h
          refine C_iald hx hb hK hw hf10 (by decide) (by decide) hi89 dX11_partAtLevel_89 ?_
          refine lv_topi (fun v89 ev89 => ?_)
          have h := of_bnd h ev89
          refine lv_iload hx hb dX11_partAtLevel_90 (lv_at hl 7 rfl) ?_
          refine lv_iadd hx hb dX11_partAtLevel_92 ?_
          obtain ⟨hi93, h⟩ := of_grd h
          refine C_iast hx hb hK hw hf10 (by decide) (by decide) hi93 dX11_partAtLevel_93 (fun S93 H locs eS93 hw => ?_)
          have h := of_bnd h eS93
          refine lv_iload hx hb dX11_partAtLevel_94 (lv_at hl 4 rfl) ?_
          refine lv_iload hx hb dX11_partAtLevel_96 (lv_at hl 7 rfl) ?_
          refine lv_iadd hx hb dX11_partAtLevel_98 ?_
          refine lv_topi (fun x99 ex99 => ?_)
          have h := of_bnd h ex99
          refine lv_istore (lv' := [(5, .int x99), (0, .ref f0), (1, .int f1), (2, .int f2), (4, .int l4_70), (6, .int l6), (7, .ref b30), (8, .int l8_70)]) hx hb dX11_partAtLevel_99 hl (by decide) rfl (fun ls hl => ?_)
          obtain ⟨x101, ex101⟩ : ∃ y : Int32, y = l6 + 1 := ⟨_, rfl⟩
          have h := of_bnd h ex101
          refine lv_iinc (v := x101) (lv' := [(6, .int x101), (5, .int x99), (0, .ref f0), (1, .int f1), (2, .int f2), (4, .int l4_70), (7, .ref b30), (8, .int l8_70)]) hx hb dX11_partAtLevel_101 hl (k := 5) rfl (by rw [ex101]; rfl) (by decide) rfl (fun ls hl => ?_)
          refine lv_goto (tgt := 9) hx hb dX11_partAtLevel_104 (by decide) ?_
          exact ih9 l4_70 x99 x101 S93 _ h _ _ hw ls (lv_sub hl [2, 3, 4, 5, 1, 0] rfl) kx9_0
        refine lv_icmp_le (tgt := 70) hx hb dX11_partAtLevel_56 (by decide) (fun c56 => ?_) (fun c56 => ?_)
        · have h := of_it h c56
          exact hj70 l4 r43 S h _ _ hw ls (lv_sub hl [2, 3, 4, 5, 6, 7, 1, 0] rfl)
        · have h := of_if h c56
          refine lv_iload hx hb dX11_partAtLevel_59 (lv_at hl 5 rfl) ?_
          refine lv_if_le (tgt := 70) hx hb dX11_partAtLevel_61 (by decide) (fun c61 => ?_) (fun c61 => ?_)
          · have h := of_it h c61
            exact hj70 l4 r43 S h _ _ hw ls (lv_sub hl [2, 3, 4, 5, 6, 7, 1, 0] rfl)
          · have h := of_if h c61
            obtain ⟨x64, ex64⟩ : ∃ y : Int32, y = r43 + 1 := ⟨_, rfl⟩
            have h := of_bnd h ex64
            refine lv_iinc (v := x64) (lv' := [(8, .int x64), (7, .ref b30), (0, .ref f0), (1, .int f1), (2, .int f2), (4, .int l4), (5, .int l5), (6, .int l6)]) hx hb dX11_partAtLevel_64 hl (k := 0) rfl (by rw [ex64]; rfl) (by decide) rfl (fun ls hl => ?_)
            obtain ⟨x67, ex67⟩ : ∃ y : Int32, y = l4 + -1 := ⟨_, rfl⟩
            have h := of_bnd h ex67
            refine lv_iinc (v := x67) (lv' := [(4, .int x67), (8, .int x64), (7, .ref b30), (0, .ref f0), (1, .int f1), (2, .int f2), (5, .int l5), (6, .int l6)]) hx hb dX11_partAtLevel_67 hl (k := 5) rfl (by rw [ex67]; rfl) (by decide) rfl (fun ls hl => ?_)
            exact hj70 x67 x64 S h _ _ hw ls (lv_sub hl [3, 4, 5, 0, 6, 7, 2, 1] rfl)
  obtain ⟨q9, hq9, h⟩ := of_cal h
  refine lp9 a0 a1 a2 n.1 a3 x4 x7 S q9  hq9 _ _ hw ls (lv_sub hl [3, 4, 5, 2, 1, 0] rfl) ?_
  · intro t5_9 S9 eq H locs hw ls hl
    subst eq
    have h := of_un2 h
    refine lv_iload hx hb dX11_partAtLevel_107 (lv_at hl 0 rfl) ?_
    obtain ⟨rfl, rfl⟩ := of_ret2 h
    exact C_iret hx hb hr hlocks hw (by rfl) dX11_partAtLevel_109

def fX11_part (n : Nat × Nat) (S : CS) (a0 : Nat) (a1 : Int32) : Option (Int32 × CS) :=
  bnd (fX11_isKind a1) (fun r1 => if r1 = 0 then 
    grd (cD S a0 = 12) (cal (fX11_refuse n S a0 (-1 : Int32)) (un2 fun r9 S9 => some (r9, S9)))
    else grd (cD S a0 = 12) (cal (fX11_earliestLastDay n S a0 a1) (fun q15 => onn (cR S 241 a0) (fun b20 => grd (cD S b20 = 8) (cal (fX7_gramsThatMayGo n S b20 a1 q15) (fun q25 => cal (fX11_levelFor n S a0 a1 q25) (fun q32 => cal (fX11_wantedUpTo n S a0 a1 q32) (fun q46 => cal (fX11_partAtLevel n S a0 a1 q32 (q25 - q46)) (un2 fun r50 S50 => if r50 = 0 then 
      grd (cD S50 a0 = 12) (cal (fX11_refuse n S50 a0 (-4 : Int32)) (un2 fun r63 S63 => some (r63, S63)))
      else grd (cD S50 a0 = 12) (onn (cR S50 241 a0) (fun b68 => grd (cD S50 b68 = 8) (cal (fX7_partOut n S50 b68 a1 q15 r50) (fun S75 => grd (cD S75 a0 = 12) (cal (fX11_accept n S75 a0 r50) (un2 fun r81 S81 => some (r81, S81))))))))))))))))
set_option maxHeartbeats 8000000 in
set_option maxRecDepth 100000 in
theorem cX11_part_ok (l : Launch) (D : va_G) (cc : Nat → ClassId) (E : Nat → Nat) (n : Nat × Nat) (S : CS) (a0 : Nat) (a1 : Int32) {r : Int32} {T : CS} (h : fX11_part n S a0 a1 = some (r, T)) : Ci l yX11_part wsX11_part 5 112 D cc E [.ref a0, .int a1] S r T 0 0 := by
  refine C_of (own := RX11) (bb := cX11_part) (nL := 6) (ret := (some .int)) (by decide) rfl rfl (Nat.le_of_ble_eq_true rfl) ?_
  intro p e s m args below meth c hx hb hr hlocks hml hts hown hnm hA hK hro hw ls hl
  generalize va_A (cPs cc S) (nx S) = A at hA hro hw ⊢
  unfold fX11_part at h
  have hinX11 : ∀ w ∈ wsX110, w ∈ wsX11_part := by decide +kernel
  have hl : lv_has ls 6 [(0, .ref a0), (1, .int a1)] := hl
  refine lv_iload_n hx hb dX11_part_0 rfl (lv_at hl 1 rfl) ?_
  refine C_s (va_runS (As := [.int a1]) (rest := []) ⟨hx, hb, hml, hown, hts⟩ (cX11_isKind_ok l a1) (va_cwS 1 hts gX11_part_X11_isKind rfl rfl rfl (by decide +kernel) ⟨Nat.le_of_ble_eq_true rfl, Nat.le_of_ble_eq_true rfl⟩) ⟨fun a U g mk q => ⟨q.1, trivial⟩, fun U hU hW => ⟨rfl, trivial⟩⟩ rfl rfl hl.1 rfl (lv_room (Nat.le_of_ble_eq_true rfl)) dX11_part_1 ⟨Nat.le_refl _, Nat.le_refl _⟩) (fun r1 er1 => ?_)
  have h := of_bnd h er1
  refine lv_if_ne (tgt := 13) hx hb dX11_part_4 (by decide) (fun c4 => ?_) (fun c4 => ?_)
  · have h := of_if h c4
    refine lv_aload_n hx hb dX11_part_13 rfl (lv_at hl 0 rfl) ?_
    refine lv_iload_n hx hb dX11_part_14 rfl (lv_at hl 1 rfl) ?_
    obtain ⟨hf1, h⟩ := of_grd h
    obtain ⟨q15, hq15, h⟩ := of_cal h
    refine C_i hA hw (va_runV (As := [.int a1]) (rest := []) ⟨hx, hb, hml, hown, hts⟩ (cX11_earliestLastDay_ok l D cc E n S a0 a1 hq15) (cwV 1 hts gX11_part_X11_earliestLastDay rfl rfl rfl (by decide +kernel) ⟨Nat.le_of_ble_eq_true rfl, Nat.le_of_ble_eq_true rfl⟩) ⟨cBlind D cc E S _, C_recv hK hw (by omega) (cell_12 hf1) (r := (RX11, TX11, 12)) rfl, fun U hU hW => ⟨rfl, C_pre hA hK hro hw U hU hW⟩⟩ rfl rfl hl.1 rfl (lv_room (Nat.le_of_ble_eq_true rfl)) dX11_part_15 ⟨Nat.le_refl _, Nat.le_refl _⟩) (fun H locs hw => ?_)
    refine W.widen (k := 0) (n := 0) (Nat.le_refl _) (Nat.le_refl _) ?_
    refine lv_istore_n (lv' := [(2, .int q15), (0, .ref a0), (1, .int a1)]) hx hb dX11_part_18 rfl hl (by decide) rfl (fun ls hl => ?_)
    refine lv_aload_n hx hb dX11_part_19 rfl (lv_at hl 1 rfl) ?_
    obtain ⟨b20, eb20, h⟩ := of_onn h
    refine C_get hx hb hts hinX11 hown hK hw (cell_12 hf1) (by omega) rfl 1 (by decide) (index := 16) (by decide +kernel) rfl (v := .ref b20) (congrArg (fun o => some (va_rf o)) eb20) dX11_part_20 ?_
    refine lv_iload_n hx hb dX11_part_23 rfl (lv_at hl 2 rfl) ?_
    refine lv_iload_n hx hb dX11_part_24 rfl (lv_at hl 0 rfl) ?_
    obtain ⟨hf2, h⟩ := of_grd h
    obtain ⟨q25, hq25, h⟩ := of_cal h
    refine C_i hA hw (va_runV (As := [.int a1, .int q15]) (rest := []) ⟨hx, hb, hml, hown, hts⟩ (cX7_gramsThatMayGo_ok l D cc E n S b20 a1 q15 hq25) (cwV 2 hts gX11_part_X7_gramsThatMayGo rfl rfl rfl (by decide +kernel) ⟨Nat.le_of_ble_eq_true rfl, Nat.le_of_ble_eq_true rfl⟩) ⟨cBlind D cc E S _, C_recv hK hw (by omega) (cell_8 hf2) (r := (RX7, TX7, 2)) rfl, fun U hU hW => ⟨rfl, C_pre hA hK hro hw U hU hW⟩⟩ rfl rfl hl.1 rfl (lv_room (Nat.le_of_ble_eq_true rfl)) dX11_part_25 ⟨Nat.le_refl _, Nat.le_refl _⟩) (fun H locs hw => ?_)
    refine W.widen (k := 0) (n := 0) (Nat.le_refl _) (Nat.le_refl _) ?_
    refine lv_istore_n (lv' := [(3, .int q25), (2, .int q15), (0, .ref a0), (1, .int a1)]) hx hb dX11_part_28 rfl hl (by decide) rfl (fun ls hl => ?_)
    refine lv_aload_n hx hb dX11_part_29 rfl (lv_at hl 2 rfl) ?_
    refine lv_iload_n hx hb dX11_part_30 rfl (lv_at hl 3 rfl) ?_
    refine lv_iload_n hx hb dX11_part_31 rfl (lv_at hl 0 rfl) ?_
    obtain ⟨q32, hq32, h⟩ := of_cal h
    refine C_i hA hw (va_runV (As := [.int a1, .int q25]) (rest := []) ⟨hx, hb, hml, hown, hts⟩ (cX11_levelFor_ok l D cc E n S a0 a1 q25 hq32) (cwV 2 hts gX11_part_X11_levelFor rfl rfl rfl (by decide +kernel) ⟨Nat.le_of_ble_eq_true rfl, Nat.le_of_ble_eq_true rfl⟩) ⟨cBlind D cc E S _, C_recv hK hw (by omega) (cell_12 hf1) (r := (RX11, TX11, 12)) rfl, fun U hU hW => ⟨rfl, C_pre hA hK hro hw U hU hW⟩⟩ rfl rfl hl.1 rfl (lv_room (Nat.le_of_ble_eq_true rfl)) dX11_part_32 ⟨Nat.le_refl _, Nat.le_refl _⟩) (fun H locs hw => ?_)
    refine W.widen (k := 0) (n := 0) (Nat.le_refl _) (Nat.le_refl _) ?_
    refine lv_istore (lv' := [(4, .int q32), (3, .int q25), (2, .int q15), (0, .ref a0), (1, .int a1)]) hx hb dX11_part_35 hl (by decide) rfl (fun ls hl => ?_)
    refine lv_aload_n hx hb dX11_part_37 rfl (lv_at hl 3 rfl) ?_
    refine lv_iload_n hx hb dX11_part_38 rfl (lv_at hl 4 rfl) ?_
    refine lv_iload hx hb dX11_part_39 (lv_at hl 0 rfl) ?_
    refine lv_iload_n hx hb dX11_part_41 rfl (lv_at hl 1 rfl) ?_
    refine lv_aload_n hx hb dX11_part_42 rfl (lv_at hl 3 rfl) ?_
    refine lv_iload_n hx hb dX11_part_43 rfl (lv_at hl 4 rfl) ?_
    refine lv_iload hx hb dX11_part_44 (lv_at hl 0 rfl) ?_
    obtain ⟨q46, hq46, h⟩ := of_cal h
    refine C_i hA hw (va_runV (As := [.int a1, .int q32]) (rest := [.int q25, .int q32, .int a1, .ref a0]) ⟨hx, hb, hml, hown, hts⟩ (cX11_wantedUpTo_ok l D cc E n S a0 a1 q32 hq46) (cwV 2 hts gX11_part_X11_wantedUpTo rfl rfl rfl (by decide +kernel) ⟨Nat.le_of_ble_eq_true rfl, Nat.le_of_ble_eq_true rfl⟩) ⟨cBlind D cc E S _, C_recv hK hw (by omega) (cell_12 hf1) (r := (RX11, TX11, 12)) rfl, fun U hU hW => ⟨rfl, C_pre hA hK hro hw U hU hW⟩⟩ rfl rfl hl.1 rfl (lv_room (Nat.le_of_ble_eq_true rfl)) dX11_part_46 ⟨Nat.le_refl _, Nat.le_refl _⟩) (fun H locs hw => ?_)
    refine W.widen (k := 0) (n := 0) (Nat.le_refl _) (Nat.le_refl _) ?_
    refine lv_isub hx hb dX11_part_49 ?_
    obtain ⟨q50, hq50, h⟩ := of_cal h
    obtain ⟨r50, S50⟩ := q50
    have h := of_un2 h
    refine C_i hA hw (va_runV (As := [.int a1, .int q32, .int (q25 - q46)]) (rest := []) ⟨hx, hb, hml, hown, hts⟩ (cX11_partAtLevel_ok l D cc E n S a0 a1 q32 (q25 - q46) hq50) (cwV 3 hts gX11_part_X11_partAtLevel rfl rfl rfl (by decide +kernel) ⟨Nat.le_of_ble_eq_true rfl, Nat.le_of_ble_eq_true rfl⟩) ⟨cBlind D cc E S _, C_recv hK hw (by omega) (cell_12 hf1) (r := (RX11, TX11, 12)) rfl, fun U hU hW => ⟨rfl, C_pre hA hK hro hw U hU hW⟩⟩ rfl rfl hl.1 rfl (lv_room (Nat.le_of_ble_eq_true rfl)) dX11_part_50 ⟨Nat.le_refl _, Nat.le_refl _⟩) (fun H locs hw => ?_)
    refine W.widen (k := 0) (n := 0) (Nat.le_refl _) (Nat.le_refl _) ?_
    refine lv_istore (lv' := [(5, .int r50), (4, .int q32), (3, .int q25), (2, .int q15), (0, .ref a0), (1, .int a1)]) hx hb dX11_part_53 hl (by decide) rfl (fun ls hl => ?_)
    refine lv_iload hx hb dX11_part_55 (lv_at hl 0 rfl) ?_
    refine lv_if_ne (tgt := 67) hx hb dX11_part_57 (by decide) (fun c57 => ?_) (fun c57 => ?_)
    · have h := of_if h c57
      refine lv_aload_n hx hb dX11_part_67 rfl (lv_at hl 4 rfl) ?_
      obtain ⟨hf3, h⟩ := of_grd h
      obtain ⟨b68, eb68, h⟩ := of_onn h
      refine C_get hx hb hts hinX11 hown hK hw (cell_12 hf3) (by omega) rfl 1 (by decide) (index := 16) (by decide +kernel) rfl (v := .ref b68) (congrArg (fun o => some (va_rf o)) eb68) dX11_part_68 ?_
      refine lv_iload_n hx hb dX11_part_71 rfl (lv_at hl 5 rfl) ?_
      refine lv_iload_n hx hb dX11_part_72 rfl (lv_at hl 3 rfl) ?_
      refine lv_iload hx hb dX11_part_73 (lv_at hl 0 rfl) ?_
      obtain ⟨hf4, h⟩ := of_grd h
      obtain ⟨q75, hq75, h⟩ := of_cal h
      obtain ⟨S75, eS75⟩ : ∃ x, x = q75 := ⟨_, rfl⟩
      subst eS75
      refine C_v hA hw (va_runV (As := [.int a1, .int q15, .int r50]) (rest := []) ⟨hx, hb, hml, hown, hts⟩ (cX7_partOut_ok l D cc E n S50 b68 a1 q15 r50 hq75) (cwV 3 hts gX11_part_X7_partOut rfl rfl rfl (by decide +kernel) ⟨Nat.le_of_ble_eq_true rfl, Nat.le_of_ble_eq_true rfl⟩) ⟨cBlind D cc E S50 _, C_recv hK hw (by omega) (cell_8 hf4) (r := (RX7, TX7, 2)) rfl, fun U hU hW => ⟨rfl, C_pre hA hK hro hw U hU hW⟩⟩ rfl rfl hl.1 rfl (lv_room (Nat.le_of_ble_eq_true rfl)) dX11_part_75 ⟨Nat.le_refl _, Nat.le_refl _⟩) (fun H locs hw => ?_)
      refine W.widen (k := 0) (n := 0) (Nat.le_refl _) (Nat.le_refl _) ?_
      refine lv_aload_n hx hb dX11_part_78 rfl (lv_at hl 4 rfl) ?_
      refine lv_iload hx hb dX11_part_79 (lv_at hl 0 rfl) ?_
      obtain ⟨hf5, h⟩ := of_grd h
      obtain ⟨q81, hq81, h⟩ := of_cal h
      obtain ⟨r81, S81⟩ := q81
      have h := of_un2 h
      refine C_i hA hw (va_runV (As := [.int r50]) (rest := []) ⟨hx, hb, hml, hown, hts⟩ (cX11_accept_ok l D cc E n S75 a0 r50 hq81) (cwV 1 hts gX11_part_X11_accept rfl rfl rfl (by decide +kernel) ⟨Nat.le_of_ble_eq_true rfl, Nat.le_of_ble_eq_true rfl⟩) ⟨cBlind D cc E S75 _, C_recv hK hw (by omega) (cell_12 hf5) (r := (RX11, TX11, 12)) rfl, fun U hU hW => ⟨rfl, C_pre hA hK hro hw U hU hW⟩⟩ rfl rfl hl.1 rfl (lv_room (Nat.le_of_ble_eq_true rfl)) dX11_part_81 ⟨Nat.le_refl _, Nat.le_refl _⟩) (fun H locs hw => ?_)
      refine W.widen (k := 0) (n := 0) (Nat.le_refl _) (Nat.le_refl _) ?_
      obtain ⟨rfl, rfl⟩ := of_ret2 h
      exact C_iret hx hb hr hlocks hw (by rfl) dX11_part_84
    · have h := of_it h c57
      refine lv_aload_n hx hb dX11_part_60 rfl (lv_at hl 4 rfl) ?_
      refine lv_bipush (v := -4) hx hb dX11_part_61 (by decide) ?_
      obtain ⟨hf6, h⟩ := of_grd h
      obtain ⟨q63, hq63, h⟩ := of_cal h
      obtain ⟨r63, S63⟩ := q63
      have h := of_un2 h
      refine C_i hA hw (va_runV (As := [.int (-4 : Int32)]) (rest := []) ⟨hx, hb, hml, hown, hts⟩ (cX11_refuse_ok l D cc E n S50 a0 (-4 : Int32) hq63) (cwV 1 hts gX11_part_X11_refuse rfl rfl rfl (by decide +kernel) ⟨Nat.le_of_ble_eq_true rfl, Nat.le_of_ble_eq_true rfl⟩) ⟨cBlind D cc E S50 _, C_recv hK hw (by omega) (cell_12 hf6) (r := (RX11, TX11, 12)) rfl, fun U hU hW => ⟨rfl, C_pre hA hK hro hw U hU hW⟩⟩ rfl rfl hl.1 rfl (lv_room (Nat.le_of_ble_eq_true rfl)) dX11_part_63 ⟨Nat.le_refl _, Nat.le_refl _⟩) (fun H locs hw => ?_)
      refine W.widen (k := 0) (n := 0) (Nat.le_refl _) (Nat.le_refl _) ?_
      obtain ⟨rfl, rfl⟩ := of_ret2 h
      exact C_iret hx hb hr hlocks hw (by rfl) dX11_part_66
  · have h := of_it h c4
    refine lv_aload_n hx hb dX11_part_7 rfl (lv_at hl 0 rfl) ?_
    refine lv_iconst (v := -1) hx hb dX11_part_8 (by decide) ?_
    obtain ⟨hf7, h⟩ := of_grd h
    obtain ⟨q9, hq9, h⟩ := of_cal h
    obtain ⟨r9, S9⟩ := q9
    have h := of_un2 h
    refine C_i hA hw (va_runV (As := [.int (-1 : Int32)]) (rest := []) ⟨hx, hb, hml, hown, hts⟩ (cX11_refuse_ok l D cc E n S a0 (-1 : Int32) hq9) (cwV 1 hts gX11_part_X11_refuse rfl rfl rfl (by decide +kernel) ⟨Nat.le_of_ble_eq_true rfl, Nat.le_of_ble_eq_true rfl⟩) ⟨cBlind D cc E S _, C_recv hK hw (by omega) (cell_12 hf7) (r := (RX11, TX11, 12)) rfl, fun U hU hW => ⟨rfl, C_pre hA hK hro hw U hU hW⟩⟩ rfl rfl hl.1 rfl (lv_room (Nat.le_of_ble_eq_true rfl)) dX11_part_9 ⟨Nat.le_refl _, Nat.le_refl _⟩) (fun H locs hw => ?_)
    refine W.widen (k := 0) (n := 0) (Nat.le_refl _) (Nat.le_refl _) ?_
    obtain ⟨rfl, rfl⟩ := of_ret2 h
    exact C_iret hx hb hr hlocks hw (by rfl) dX11_part_12

def fX11_got (n : Nat × Nat) (S : CS) (a0 : Nat) (a1 : Int32) (a2 : Int32) : Option Int32 :=
  grd (cD S a0 = 12) (cal (fX11_findTable n S a0 a1) (fun q2 => oel q2 (some (-1 : Int32)) (fun b7 => bnd (fX11_isKind a2) (fun r11 => if r11 = 0 then 
      some (-1 : Int32)
      else grd (cD S b7 = 9) (onn (cR S 181 b7) (fun b22 => grd (cD S b22 = 47) (grd (¬ (a2 < 0 ∨ cN S b22 ≤ a2.toNatClampNeg)) (bnd (cA S 47 b22 a2.toNatClampNeg) (fun v26 => some v26)))))))))
set_option maxHeartbeats 8000000 in
set_option maxRecDepth 100000 in
theorem cX11_got_ok (l : Launch) (D : va_G) (cc : Nat → ClassId) (E : Nat → Nat) (n : Nat × Nat) (S : CS) (a0 : Nat) (a1 : Int32) (a2 : Int32) {r : Int32} (h : fX11_got n S a0 a1 a2 = some r) : Ci l yX11_got wsX11_got 4 85 D cc E [.ref a0, .int a1, .int a2] S r S 0 0 := by
  refine C_of (own := RX11) (bb := cX11_got) (nL := 4) (ret := (some .int)) (by decide) rfl rfl (Nat.le_of_ble_eq_true rfl) ?_
  intro p e s m args below meth c hx hb hr hlocks hml hts hown hnm hA hK hro hw ls hl
  generalize va_A (cPs cc S) (nx S) = A at hA hro hw ⊢
  unfold fX11_got at h
  have hinX8 : ∀ w ∈ wsX80, w ∈ wsX11_got := by decide +kernel
  have hl : lv_has ls 4 [(0, .ref a0), (1, .int a1), (2, .int a2)] := hl
  refine lv_aload_n hx hb dX11_got_0 rfl (lv_at hl 0 rfl) ?_
  refine lv_iload_n hx hb dX11_got_1 rfl (lv_at hl 1 rfl) ?_
  obtain ⟨hf1, h⟩ := of_grd h
  obtain ⟨q2, hq2, h⟩ := of_cal h
  refine C_q hA hw (va_runV (As := [.int a1]) (rest := []) ⟨hx, hb, hml, hown, hts⟩ (cX11_findTable_ok l D cc E n S a0 a1 hq2) (cwV 1 hts gX11_got_X11_findTable rfl rfl rfl (by decide +kernel) ⟨Nat.le_of_ble_eq_true rfl, Nat.le_of_ble_eq_true rfl⟩) ⟨cBlind D cc E S _, C_recv hK hw (by omega) (cell_12 hf1) (r := (RX11, TX11, 12)) rfl, fun U hU hW => ⟨rfl, C_pre hA hK hro hw U hU hW⟩⟩ rfl rfl hl.1 rfl (lv_room (Nat.le_of_ble_eq_true rfl)) dX11_got_2 ⟨Nat.le_refl _, Nat.le_refl _⟩) (fun H locs hw => ?_)
  refine W.widen (k := 0) (n := 0) (Nat.le_refl _) (Nat.le_refl _) ?_
  refine lv_astore_nq (lv' := [(3, va_rf q2), (0, .ref a0), (1, .int a1), (2, .int a2)]) hx hb dX11_got_5 rfl hl (by decide) rfl (fun ls hl => ?_)
  refine lv_aload_nq hx hb dX11_got_6 rfl (lv_at hl 0 rfl) ?_
  rcases q2 with _ | b7
  · have h := of_oelN h
    have hl : lv_has ls 4 [(3, .null), (0, .ref a0), (1, .int a1), (2, .int a2)] := hl
    refine lv_ifnullN (tgt := 17) hx hb dX11_got_7 (by decide) ?_
    refine lv_iconst (v := -1) hx hb dX11_got_17 (by decide) ?_
    refine lv_goto (tgt := 27) hx hb dX11_got_18 (by decide) ?_
    obtain rfl := Option.some.inj h
    exact C_iret hx hb hr hlocks hw (by rfl) dX11_got_27
  · have h := of_oelS h
    have hl : lv_has ls 4 [(3, .ref b7), (0, .ref a0), (1, .int a1), (2, .int a2)] := hl
    refine lv_ifnull hx hb dX11_got_7 ?_
    refine lv_iload_n hx hb dX11_got_10 rfl (lv_at hl 3 rfl) ?_
    refine C_s (va_runS (As := [.int a2]) (rest := []) ⟨hx, hb, hml, hown, hts⟩ (cX11_isKind_ok l a2) (va_cwS 1 hts gX11_got_X11_isKind rfl rfl rfl (by decide +kernel) ⟨Nat.le_of_ble_eq_true rfl, Nat.le_of_ble_eq_true rfl⟩) ⟨fun a U g mk q => ⟨q.1, trivial⟩, fun U hU hW => ⟨rfl, trivial⟩⟩ rfl rfl hl.1 rfl (lv_room (Nat.le_of_ble_eq_true rfl)) dX11_got_11 ⟨Nat.le_refl _, Nat.le_refl _⟩) (fun r11 er11 => ?_)
    have h := of_bnd h er11
    refine lv_if_ne (tgt := 21) hx hb dX11_got_14 (by decide) (fun c14 => ?_) (fun c14 => ?_)
    · have h := of_if h c14
      refine lv_aload_n hx hb dX11_got_21 rfl (lv_at hl 0 rfl) ?_
      obtain ⟨hf2, h⟩ := of_grd h
      obtain ⟨b22, eb22, h⟩ := of_onn h
      refine C_get hx hb hts hinX8 hown hK hw (cell_9 hf2) (by omega) rfl 1 (by decide) (index := 195) (by decide +kernel) rfl (v := .ref b22) (congrArg (fun o => some (va_rf o)) eb22) dX11_got_22 ?_
      refine lv_iload_n hx hb dX11_got_25 rfl (lv_at hl 3 rfl) ?_
      obtain ⟨hf3, h⟩ := of_grd h
      obtain ⟨hi26, h⟩ := of_grd h
      refine C_iald hx hb hK hw hf3 (by decide) (by decide) hi26 dX11_got_26 ?_
      refine lv_topi (fun v26 ev26 => ?_)
      have h := of_bnd h ev26
      obtain rfl := Option.some.inj h
      exact C_iret hx hb hr hlocks hw (by rfl) dX11_got_27
    · have h := of_it h c14
      refine lv_iconst (v := -1) hx hb dX11_got_17 (by decide) ?_
      refine lv_goto (tgt := 27) hx hb dX11_got_18 (by decide) ?_
      obtain rfl := Option.some.inj h
      exact C_iret hx hb hr hlocks hw (by rfl) dX11_got_27

def fX11_road (n : Nat × Nat) (S : CS) (a0 : Nat) (a1 : Int32) (a2 : Int32) (a3 : Int32) : Option (Int32 × CS) :=
  bnd (fX11_isWithin a1 (0 : Int32) (12 : Int32)) (fun r4 => if r4 = 0 then 
    grd (cD S a0 = 12) (cal (fX11_refuse n S a0 (-1 : Int32)) (un2 fun r38 S38 => some (r38, S38)))
    else bnd (fX11_isWithin a2 (0 : Int32) (12 : Int32)) (fun r14 => if r14 = 0 then 
      grd (cD S a0 = 12) (cal (fX11_refuse n S a0 (-1 : Int32)) (un2 fun r38 S38 => some (r38, S38)))
      else if a1 = a2 then 
        grd (cD S a0 = 12) (cal (fX11_refuse n S a0 (-1 : Int32)) (un2 fun r38 S38 => some (r38, S38)))
        else bnd (fX11_isWithin a3 (0 : Int32) (600 : Int32)) (fun r30 => if r30 = 0 then 
          grd (cD S a0 = 12) (cal (fX11_refuse n S a0 (-1 : Int32)) (un2 fun r38 S38 => some (r38, S38)))
          else grd (cD S a0 = 12) (onn (cR S 246 a0) (fun b43 => grd (cD S b43 = 10) (onn (cR S 200 b43) (fun b46 => grd (cD S b46 = 62) (grd (¬ (a1 < 0 ∨ cN S b46 ≤ a1.toNatClampNeg)) (onn (cQ S 62 b46 a1.toNatClampNeg) (fun b50 => grd (cD S b50 = 55) (grd (¬ (a2 < 0 ∨ cN S b50 ≤ a2.toNatClampNeg)) (bnd (uA S 55 b50 a2.toNatClampNeg a3) (fun S53 => onn (cR S53 246 a0) (fun b55 => grd (cD S53 b55 = 10) (onn (cR S53 200 b55) (fun b58 => grd (cD S53 b58 = 62) (grd (¬ (a2 < 0 ∨ cN S53 b58 ≤ a2.toNatClampNeg)) (onn (cQ S53 62 b58 a2.toNatClampNeg) (fun b62 => grd (cD S53 b62 = 55) (grd (¬ (a1 < 0 ∨ cN S53 b62 ≤ a1.toNatClampNeg)) (bnd (uA S53 55 b62 a1.toNatClampNeg a3) (fun S65 => cal (fX11_accept n S65 a0 (0 : Int32)) (un2 fun r68 S68 => some (r68, S68))))))))))))))))))))))))
set_option maxHeartbeats 8000000 in
set_option maxRecDepth 100000 in
theorem cX11_road_ok (l : Launch) (D : va_G) (cc : Nat → ClassId) (E : Nat → Nat) (n : Nat × Nat) (S : CS) (a0 : Nat) (a1 : Int32) (a2 : Int32) (a3 : Int32) {r : Int32} {T : CS} (h : fX11_road n S a0 a1 a2 a3 = some (r, T)) : Ci l yX11_road wsX11_road 1 22 D cc E [.ref a0, .int a1, .int a2, .int a3] S r T 0 0 := by
  refine C_of (own := RX11) (bb := cX11_road) (nL := 4) (ret := (some .int)) (by decide) rfl rfl (Nat.le_of_ble_eq_true rfl) ?_
  intro p e s m args below meth c hx hb hr hlocks hml hts hown hnm hA hK hro hw ls hl
  generalize va_A (cPs cc S) (nx S) = A at hA hro hw ⊢
  unfold fX11_road at h
  have hinX11 : ∀ w ∈ wsX110, w ∈ wsX11_road := by decide +kernel
  have hinX9 : ∀ w ∈ wsX90, w ∈ wsX11_road := by decide +kernel
  have hl : lv_has ls 4 [(0, .ref a0), (1, .int a1), (2, .int a2), (3, .int a3)] := hl
  refine lv_iload_n hx hb dX11_road_0 rfl (lv_at hl 1 rfl) ?_
  refine lv_iconst (v := 0) hx hb dX11_road_1 (by decide) ?_
  refine lv_bipush (v := 12) hx hb dX11_road_2 (by decide) ?_
  refine C_s (va_runS (As := [.int a1, .int (0 : Int32), .int (12 : Int32)]) (rest := []) ⟨hx, hb, hml, hown, hts⟩ (cX11_isWithin_ok l a1 (0 : Int32) (12 : Int32)) (va_cwS 3 hts gX11_road_X11_isWithin rfl rfl rfl (by decide +kernel) ⟨Nat.le_of_ble_eq_true rfl, Nat.le_of_ble_eq_true rfl⟩) ⟨fun a U g mk q => ⟨q.1, trivial⟩, fun U hU hW => ⟨rfl, trivial⟩⟩ rfl rfl hl.1 rfl (lv_room (Nat.le_of_ble_eq_true rfl)) dX11_road_4 ⟨Nat.le_refl _, Nat.le_refl _⟩) (fun r4 er4 => ?_)
  have h := of_bnd h er4
  refine lv_if_eq (tgt := 36) hx hb dX11_road_7 (by decide) (fun c7 => ?_) (fun c7 => ?_)
  · have h := of_it h c7
    refine lv_aload_n hx hb dX11_road_36 rfl (lv_at hl 0 rfl) ?_
    refine lv_iconst (v := -1) hx hb dX11_road_37 (by decide) ?_
    obtain ⟨hf1, h⟩ := of_grd h
    obtain ⟨q38, hq38, h⟩ := of_cal h
    obtain ⟨r38, S38⟩ := q38
    have h := of_un2 h
    refine C_i hA hw (va_runV (As := [.int (-1 : Int32)]) (rest := []) ⟨hx, hb, hml, hown, hts⟩ (cX11_refuse_ok l D cc E n S a0 (-1 : Int32) hq38) (cwV 1 hts gX11_road_X11_refuse rfl rfl rfl (by decide +kernel) ⟨Nat.le_of_ble_eq_true rfl, Nat.le_of_ble_eq_true rfl⟩) ⟨cBlind D cc E S _, C_recv hK hw (by omega) (cell_12 hf1) (r := (RX11, TX11, 12)) rfl, fun U hU hW => ⟨rfl, C_pre hA hK hro hw U hU hW⟩⟩ rfl rfl hl.1 rfl (lv_room (Nat.le_of_ble_eq_true rfl)) dX11_road_38 ⟨Nat.le_refl _, Nat.le_refl _⟩) (fun H locs hw => ?_)
    refine W.widen (k := 0) (n := 0) (Nat.le_refl _) (Nat.le_refl _) ?_
    obtain ⟨rfl, rfl⟩ := of_ret2 h
    exact C_iret hx hb hr hlocks hw (by rfl) dX11_road_41
  · have h := of_if h c7
    refine lv_iload_n hx hb dX11_road_10 rfl (lv_at hl 2 rfl) ?_
    refine lv_iconst (v := 0) hx hb dX11_road_11 (by decide) ?_
    refine lv_bipush (v := 12) hx hb dX11_road_12 (by decide) ?_
    refine C_s (va_runS (As := [.int a2, .int (0 : Int32), .int (12 : Int32)]) (rest := []) ⟨hx, hb, hml, hown, hts⟩ (cX11_isWithin_ok l a2 (0 : Int32) (12 : Int32)) (va_cwS 3 hts gX11_road_X11_isWithin rfl rfl rfl (by decide +kernel) ⟨Nat.le_of_ble_eq_true rfl, Nat.le_of_ble_eq_true rfl⟩) ⟨fun a U g mk q => ⟨q.1, trivial⟩, fun U hU hW => ⟨rfl, trivial⟩⟩ rfl rfl hl.1 rfl (lv_room (Nat.le_of_ble_eq_true rfl)) dX11_road_14 ⟨Nat.le_refl _, Nat.le_refl _⟩) (fun r14 er14 => ?_)
    have h := of_bnd h er14
    refine lv_if_eq (tgt := 36) hx hb dX11_road_17 (by decide) (fun c17 => ?_) (fun c17 => ?_)
    · have h := of_it h c17
      refine lv_aload_n hx hb dX11_road_36 rfl (lv_at hl 0 rfl) ?_
      refine lv_iconst (v := -1) hx hb dX11_road_37 (by decide) ?_
      obtain ⟨hf2, h⟩ := of_grd h
      obtain ⟨q38, hq38, h⟩ := of_cal h
      obtain ⟨r38, S38⟩ := q38
      have h := of_un2 h
      refine C_i hA hw (va_runV (As := [.int (-1 : Int32)]) (rest := []) ⟨hx, hb, hml, hown, hts⟩ (cX11_refuse_ok l D cc E n S a0 (-1 : Int32) hq38) (cwV 1 hts gX11_road_X11_refuse rfl rfl rfl (by decide +kernel) ⟨Nat.le_of_ble_eq_true rfl, Nat.le_of_ble_eq_true rfl⟩) ⟨cBlind D cc E S _, C_recv hK hw (by omega) (cell_12 hf2) (r := (RX11, TX11, 12)) rfl, fun U hU hW => ⟨rfl, C_pre hA hK hro hw U hU hW⟩⟩ rfl rfl hl.1 rfl (lv_room (Nat.le_of_ble_eq_true rfl)) dX11_road_38 ⟨Nat.le_refl _, Nat.le_refl _⟩) (fun H locs hw => ?_)
      refine W.widen (k := 0) (n := 0) (Nat.le_refl _) (Nat.le_refl _) ?_
      obtain ⟨rfl, rfl⟩ := of_ret2 h
      exact C_iret hx hb hr hlocks hw (by rfl) dX11_road_41
    · have h := of_if h c17
      refine lv_iload_n hx hb dX11_road_20 rfl (lv_at hl 1 rfl) ?_
      refine lv_iload_n hx hb dX11_road_21 rfl (lv_at hl 2 rfl) ?_
      refine lv_icmp_eq (tgt := 36) hx hb dX11_road_22 (by decide) (fun c22 => ?_) (fun c22 => ?_)
      · have h := of_it h c22
        refine lv_aload_n hx hb dX11_road_36 rfl (lv_at hl 0 rfl) ?_
        refine lv_iconst (v := -1) hx hb dX11_road_37 (by decide) ?_
        obtain ⟨hf3, h⟩ := of_grd h
        obtain ⟨q38, hq38, h⟩ := of_cal h
        obtain ⟨r38, S38⟩ := q38
        have h := of_un2 h
        refine C_i hA hw (va_runV (As := [.int (-1 : Int32)]) (rest := []) ⟨hx, hb, hml, hown, hts⟩ (cX11_refuse_ok l D cc E n S a0 (-1 : Int32) hq38) (cwV 1 hts gX11_road_X11_refuse rfl rfl rfl (by decide +kernel) ⟨Nat.le_of_ble_eq_true rfl, Nat.le_of_ble_eq_true rfl⟩) ⟨cBlind D cc E S _, C_recv hK hw (by omega) (cell_12 hf3) (r := (RX11, TX11, 12)) rfl, fun U hU hW => ⟨rfl, C_pre hA hK hro hw U hU hW⟩⟩ rfl rfl hl.1 rfl (lv_room (Nat.le_of_ble_eq_true rfl)) dX11_road_38 ⟨Nat.le_refl _, Nat.le_refl _⟩) (fun H locs hw => ?_)
        refine W.widen (k := 0) (n := 0) (Nat.le_refl _) (Nat.le_refl _) ?_
        obtain ⟨rfl, rfl⟩ := of_ret2 h
        exact C_iret hx hb hr hlocks hw (by rfl) dX11_road_41
      · have h := of_if h c22
        refine lv_iload_n hx hb dX11_road_25 rfl (lv_at hl 3 rfl) ?_
        refine lv_iconst (v := 0) hx hb dX11_road_26 (by decide) ?_
        refine lv_sipush (v := 600) hx hb dX11_road_27 (by decide) ?_
        refine C_s (va_runS (As := [.int a3, .int (0 : Int32), .int (600 : Int32)]) (rest := []) ⟨hx, hb, hml, hown, hts⟩ (cX11_isWithin_ok l a3 (0 : Int32) (600 : Int32)) (va_cwS 3 hts gX11_road_X11_isWithin rfl rfl rfl (by decide +kernel) ⟨Nat.le_of_ble_eq_true rfl, Nat.le_of_ble_eq_true rfl⟩) ⟨fun a U g mk q => ⟨q.1, trivial⟩, fun U hU hW => ⟨rfl, trivial⟩⟩ rfl rfl hl.1 rfl (lv_room (Nat.le_of_ble_eq_true rfl)) dX11_road_30 ⟨Nat.le_refl _, Nat.le_refl _⟩) (fun r30 er30 => ?_)
        have h := of_bnd h er30
        refine lv_if_ne (tgt := 42) hx hb dX11_road_33 (by decide) (fun c33 => ?_) (fun c33 => ?_)
        · have h := of_if h c33
          refine lv_aload_n hx hb dX11_road_42 rfl (lv_at hl 0 rfl) ?_
          obtain ⟨hf4, h⟩ := of_grd h
          obtain ⟨b43, eb43, h⟩ := of_onn h
          refine C_get hx hb hts hinX11 hown hK hw (cell_12 hf4) (by omega) rfl 6 (by decide) (index := 43) (by decide +kernel) rfl (v := .ref b43) (congrArg (fun o => some (va_rf o)) eb43) dX11_road_43 ?_
          obtain ⟨hf5, h⟩ := of_grd h
          obtain ⟨b46, eb46, h⟩ := of_onn h
          refine C_get hx hb hts hinX9 hown hK hw (cell_10 hf5) (by omega) rfl 0 (by decide) (index := 198) (by decide +kernel) rfl (v := .ref b46) (congrArg (fun o => some (va_rf o)) eb46) dX11_road_46 ?_
          refine lv_iload_n hx hb dX11_road_49 rfl (lv_at hl 1 rfl) ?_
          obtain ⟨hf6, h⟩ := of_grd h
          obtain ⟨hi50, h⟩ := of_grd h
          refine C_aald62 hx hb hK hw hf6 hi50 dX11_road_50 ?_
          obtain ⟨b50, eb50, h⟩ := of_onn h
          rw [eb50]
          refine lv_iload_n hx hb dX11_road_51 rfl (lv_at hl 2 rfl) ?_
          refine lv_iload_n hx hb dX11_road_52 rfl (lv_at hl 3 rfl) ?_
          obtain ⟨hf7, h⟩ := of_grd h
          obtain ⟨hi53, h⟩ := of_grd h
          refine C_iast hx hb hK hw hf7 (by decide) (by decide) hi53 dX11_road_53 (fun S53 H locs eS53 hw => ?_)
          have h := of_bnd h eS53
          refine lv_aload_n hx hb dX11_road_54 rfl (lv_at hl 0 rfl) ?_
          have hf8 : cD S53 a0 = 12 := by rw [eS53]; exact hf4
          obtain ⟨b55, eb55, h⟩ := of_onn h
          refine C_get hx hb hts hinX11 hown hK hw (cell_12 hf8) (by omega) rfl 6 (by decide) (index := 43) (by decide +kernel) rfl (v := .ref b55) (congrArg (fun o => some (va_rf o)) eb55) dX11_road_55 ?_
          obtain ⟨hf9, h⟩ := of_grd h
          obtain ⟨b58, eb58, h⟩ := of_onn h
          refine C_get hx hb hts hinX9 hown hK hw (cell_10 hf9) (by omega) rfl 0 (by decide) (index := 198) (by decide +kernel) rfl (v := .ref b58) (congrArg (fun o => some (va_rf o)) eb58) dX11_road_58 ?_
          refine lv_iload_n hx hb dX11_road_61 rfl (lv_at hl 2 rfl) ?_
          obtain ⟨hf10, h⟩ := of_grd h
          obtain ⟨hi62, h⟩ := of_grd h
          refine C_aald62 hx hb hK hw hf10 hi62 dX11_road_62 ?_
          obtain ⟨b62, eb62, h⟩ := of_onn h
          rw [eb62]
          refine lv_iload_n hx hb dX11_road_63 rfl (lv_at hl 1 rfl) ?_
          refine lv_iload_n hx hb dX11_road_64 rfl (lv_at hl 3 rfl) ?_
          obtain ⟨hf11, h⟩ := of_grd h
          obtain ⟨hi65, h⟩ := of_grd h
          refine C_iast hx hb hK hw hf11 (by decide) (by decide) hi65 dX11_road_65 (fun S65 H locs eS65 hw => ?_)
          have h := of_bnd h eS65
          refine lv_aload_n hx hb dX11_road_66 rfl (lv_at hl 0 rfl) ?_
          refine lv_iconst (v := 0) hx hb dX11_road_67 (by decide) ?_
          have hf12 : cD S65 a0 = 12 := by rw [eS65]; exact hf8
          obtain ⟨q68, hq68, h⟩ := of_cal h
          obtain ⟨r68, S68⟩ := q68
          have h := of_un2 h
          refine C_i hA hw (va_runV (As := [.int (0 : Int32)]) (rest := []) ⟨hx, hb, hml, hown, hts⟩ (cX11_accept_ok l D cc E n S65 a0 (0 : Int32) hq68) (cwV 1 hts gX11_road_X11_accept rfl rfl rfl (by decide +kernel) ⟨Nat.le_of_ble_eq_true rfl, Nat.le_of_ble_eq_true rfl⟩) ⟨cBlind D cc E S65 _, C_recv hK hw (by omega) (cell_12 hf12) (r := (RX11, TX11, 12)) rfl, fun U hU hW => ⟨rfl, C_pre hA hK hro hw U hU hW⟩⟩ rfl rfl hl.1 rfl (lv_room (Nat.le_of_ble_eq_true rfl)) dX11_road_68 ⟨Nat.le_refl _, Nat.le_refl _⟩) (fun H locs hw => ?_)
          refine W.widen (k := 0) (n := 0) (Nat.le_refl _) (Nat.le_refl _) ?_
          obtain ⟨rfl, rfl⟩ := of_ret2 h
          exact C_iret hx hb hr hlocks hw (by rfl) dX11_road_71
        · have h := of_it h c33
          refine lv_aload_n hx hb dX11_road_36 rfl (lv_at hl 0 rfl) ?_
          refine lv_iconst (v := -1) hx hb dX11_road_37 (by decide) ?_
          obtain ⟨hf13, h⟩ := of_grd h
          obtain ⟨q38, hq38, h⟩ := of_cal h
          obtain ⟨r38, S38⟩ := q38
          have h := of_un2 h
          refine C_i hA hw (va_runV (As := [.int (-1 : Int32)]) (rest := []) ⟨hx, hb, hml, hown, hts⟩ (cX11_refuse_ok l D cc E n S a0 (-1 : Int32) hq38) (cwV 1 hts gX11_road_X11_refuse rfl rfl rfl (by decide +kernel) ⟨Nat.le_of_ble_eq_true rfl, Nat.le_of_ble_eq_true rfl⟩) ⟨cBlind D cc E S _, C_recv hK hw (by omega) (cell_12 hf13) (r := (RX11, TX11, 12)) rfl, fun U hU hW => ⟨rfl, C_pre hA hK hro hw U hU hW⟩⟩ rfl rfl hl.1 rfl (lv_room (Nat.le_of_ble_eq_true rfl)) dX11_road_38 ⟨Nat.le_refl _, Nat.le_refl _⟩) (fun H locs hw => ?_)
          refine W.widen (k := 0) (n := 0) (Nat.le_refl _) (Nat.le_refl _) ?_
          obtain ⟨rfl, rfl⟩ := of_ret2 h
          exact C_iret hx hb hr hlocks hw (by rfl) dX11_road_41
