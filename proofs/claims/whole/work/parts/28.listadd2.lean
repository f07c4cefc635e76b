set_option maxHeartbeats 8000000 in
set_option maxRecDepth 100000 in
theorem cL_grow0 (l : Launch) (D : va_G) (cc : Nat → ClassId) (E : Nat → Nat) (n : Nat × Nat) (hE : E 0 = n.2) (r : Nat) (hr5 : r < 5) (S : CS) (a : Nat) {z : Int32} (hz : cI S (gS r) a = z) {T : CS} {ms : Nat} (h : GrowOk n r S a (z + 1) T ms) : Cq l yJx4a65c_grow_d5877 wsJx4a65c_grow_d5877 4 127 D cc E [.ref a] S (some (nx S)) T 1 ms := by
  refine C_of (own := RJx4a65c) (bb := cJx4a65c_grow_d5877) (nL := 1) (ret := (some (.array (.object "java/lang/Object")))) (by decide) rfl rfl (Nat.le_of_ble_eq_true rfl) ?_
  intro p e s m args below meth c hx hb hr hlocks hml hts hown hnm hA hK hro hw ls hl
  generalize va_A (cPs cc S) (nx S) = A at hA hro hw ⊢
  have hin : ∀ w ∈ wsJx4a65c0, w ∈ wsJx4a65c_grow_d5877 := by decide +kernel
  have hl : lv_has ls 1 [(0, .ref a)] := hl
  have hk := h.1
  refine lv_aload_n hx hb dJx4a65c_grow_d5877_0 rfl (lv_at hl 0 rfl) ?_
  refine lv_aload_n hx hb dJx4a65c_grow_d5877_1 rfl (lv_at hl 0 rfl) ?_
  refine C_get hx hb hts hin hown hK hw (cell_L hr5 hk) (by omega) rfl 2 (by decide) (index := 48) (by decide +kernel) rfl (v := .int z) (congrArg (fun o => some (Value.int o)) hz) dJx4a65c_grow_d5877_2 ?_
  refine lv_iconst (v := 1) hx hb dJx4a65c_grow_d5877_5 (by decide) ?_
  refine lv_iadd hx hb dJx4a65c_grow_d5877_6 ?_
  refine C_q hA hw (va_runV (As := [.int (z + 1)]) (rest := []) ⟨hx, hb, hml, hown, hts⟩ (cL_growI l D cc E n hE r hr5 S a (z + 1) h) (cwV 1 hts gJx4a65c_grow_d5877_Jx4a65c_grow_92f84 rfl rfl rfl (by decide +kernel) ⟨Nat.le_of_ble_eq_true rfl, Nat.le_of_ble_eq_true rfl⟩) ⟨cBlind D cc E S _, C_recv hK hw (by omega) (cell_L hr5 hk) (r := (RJx4a65c, TJx4a65c, 3)) rfl, fun U hU hW => ⟨rfl, C_pre hA hK hro hw U hU hW⟩⟩ rfl rfl hl.1 rfl (lv_room (Nat.le_of_ble_eq_true rfl)) dJx4a65c_grow_d5877_7 ⟨by show _ ≤ 1; omega, by show _ ≤ ms; omega⟩) (fun H locs hw => ?_)
  refine W.widen (k := 1) (n := ms) (by omega) (by omega) ?_
  exact C_aret (r := some (nx S)) hx hb hr hlocks (Or.inr ⟨_, rfl⟩) hw dJx4a65c_grow_d5877_10
/-- the element laid at place z, the size one more -/
def adT (S : CS) (r a b v : Nat) (z : Int32) : CS := uI (uQ S (30 + r) b z.toNatClampNeg (some v)) (gS r) a (z + 1)
def AddOk (n : Nat × Nat) (r : Nat) (S : CS) (a v b : Nat) (z : Int32) (T : CS) (mc ms : Nat) : Prop :=
  cD S a = 20 + r ∧ cD S v = elk r ∧ cI S (gS r) a = z ∧ ((cD S b = 30 + r ∧ z ≠ Int32.ofNat (cN S b) ∧ ¬ (z < 0 ∨ cN S b ≤ z.toNatClampNeg) ∧ T = adT S r a b v z ∧ mc = 0 ∧ ms = 0) ∨ (((b = n.2 ∧ z = 0) ∨ (cD S b = 30 + r ∧ z = Int32.ofNat (cN S b))) ∧ ∃ S2 : CS, GrowOk n r S a (z + 1) S2 ms ∧ mc = 1 ∧ T = adT S2 r a (nx S) v z ∧ cD S2 (nx S) = 30 + r ∧ ¬ (z < 0 ∨ cN S2 (nx S) ≤ z.toNatClampNeg) ∧ cD S2 a = 20 + r ∧ cD S2 v = elk r))
set_option maxHeartbeats 8000000 in
set_option maxRecDepth 100000 in
theorem cL_add3 (l : Launch) (D : va_G) (cc : Nat → ClassId) (E : Nat → Nat) (n : Nat × Nat) (hE : E 0 = n.2) (r : Nat) (hr5 : r < 5) (S : CS) (a v b : Nat) (z : Int32) {T : CS} {mc ms : Nat} (h : AddOk n r S a v b z T mc ms) : Cv l yJx4a65c_add_72be8 wsJx4a65c_add_72be8 5 147 D cc E [.ref a, .ref v, .ref b, .int z] S T mc ms := by
  refine C_of (own := RJx4a65c) (bb := cJx4a65c_add_72be8) (nL := 4) (ret := none) (by decide) rfl rfl (Nat.le_of_ble_eq_true rfl) ?_
  intro p e s m args below meth c hx hb hr hlocks hml hts hown hnm hA hK hro hw ls hl
  generalize va_A (cPs cc S) (nx S) = A at hA hro hw ⊢
  have hin : ∀ w ∈ wsJx4a65c0, w ∈ wsJx4a65c_add_72be8 := by decide +kernel
  have hl : lv_has ls 4 [(0, .ref a), (1, .ref v), (2, .ref b), (3, .int z)] := hl
  obtain ⟨hk, hv, hz, h⟩ := h
  -- the rest, from the store on
  have fin : ∀ (S2 : CS) (b2 : Nat), cD S2 a = 20 + r → cD S2 v = elk r → cD S2 b2 = 30 + r → ¬ (z < 0 ∨ cN S2 b2 ≤ z.toNatClampNeg) → T = adT S2 r a b2 v z → ∀ (H : Heap) (locs : List Loc), cWd D cc A s.heap S2 H locs → ∀ ls : Array Slot, lv_has ls 4 [(0, .ref a), (1, .ref v), (2, .ref b2), (3, .int z)] → W p l e (cRm 5 147 mc ms) s m args below meth c H locs mc ms (MQ below (va_Qv (fun u => u = T) (cAft D cc A) A) args s mc ms A) (F0 m 11 ls []) := by
    intro S2 b2 g1 g2 g3 g4 g5 H locs hw ls hl
    refine lv_aload_n hx hb dJx4a65c_add_72be8_11 rfl (lv_at hl 2 rfl) ?_
    refine lv_iload_n hx hb dJx4a65c_add_72be8_12 rfl (lv_at hl 3 rfl) ?_
    refine lv_aload_n hx hb dJx4a65c_add_72be8_13 rfl (lv_at hl 1 rfl) ?_
    refine C_aastO hx hb hK hro hw hr5 g3 g2 g4 dJx4a65c_add_72be8_14 (fun S3 H locs eS3 hw => ?_)
    subst eS3
    refine lv_aload_n hx hb dJx4a65c_add_72be8_15 rfl (lv_at hl 0 rfl) ?_
    refine lv_iload_n hx hb dJx4a65c_add_72be8_16 rfl (lv_at hl 3 rfl) ?_
    refine lv_iconst (v := 1) hx hb dJx4a65c_add_72be8_17 (by decide) ?_
    refine lv_iadd hx hb dJx4a65c_add_72be8_18 ?_
    refine C_put hx hb hts hin tyJx4a65c tyJx4a65c_ok nmJx4a65c hown hK hw (cell_L hr5 (S := uQ S2 (30 + r) b2 z.toNatClampNeg (some v)) g1) (by show cD S2 a ≠ 0; omega) rfl 2 (by decide) (index := 48) (by decide +kernel) rfl rfl (ty := .int) (by decide +kernel) rfl rfl (Nat.le_of_ble_eq_true rfl) (S' := adT S2 r a b2 v z) rfl rfl rfl (puL_S hr5 (S := uQ S2 (30 + r) b2 z.toNatClampNeg (some v)) g1 (z + 1)) (fun b hb => off_uI hb) dJx4a65c_add_72be8_19 (fun S6 H locs eS6 hw => ?_)
    subst eS6
    rw [← g5] at hw
    exact C_vret hx hb hr hlocks hw dJx4a65c_add_72be8_22
  refine lv_iload_n hx hb dJx4a65c_add_72be8_0 rfl (lv_at hl 3 rfl) ?_
  refine lv_aload_n hx hb dJx4a65c_add_72be8_1 rfl (lv_at hl 2 rfl) ?_
  rcases h with ⟨hkb, hne, hi, eT, e1, e2⟩ | ⟨hfull, S2, hG, e1, eT, g3, g4, g1, g2⟩
  · refine C_alenO hx hb hK hw hr5 hkb dJx4a65c_add_72be8_2 ?_
    refine lv_icmp_ne (tgt := 11) hx hb dJx4a65c_add_72be8_3 (by decide) (fun _ => ?_) (fun c => absurd c hne)
    refine W.widen (k := mc) (n := ms) (by omega) (by omega) ?_
    exact fin S b hk hv hkb hi eT _ _ hw ls hl
  · have go : W p l e (cRm 5 147 mc ms) s m args below meth c s.heap [] 0 0 (MQ below (va_Qv (fun u => u = T) (cAft D cc A) A) args s mc ms A) (F0 m 6 ls []) := by
      refine lv_aload_n hx hb dJx4a65c_add_72be8_6 rfl (lv_at hl 0 rfl) ?_
      refine C_q hA hw (va_runV (As := []) (rest := []) ⟨hx, hb, hml, hown, hts⟩ (cL_grow0 l D cc E n hE r hr5 S a hz hG) (cwV 0 hts gJx4a65c_add_72be8_Jx4a65c_grow_d5877 rfl rfl rfl (by decide +kernel) ⟨Nat.le_of_ble_eq_true rfl, Nat.le_of_ble_eq_true rfl⟩) ⟨cBlind D cc E S _, C_recv hK hw (by omega) (cell_L hr5 hk) (r := (RJx4a65c, TJx4a65c, 3)) rfl, fun U hU hW => ⟨rfl, C_pre hA hK hro hw U hU hW⟩⟩ rfl rfl hl.1 rfl (lv_room (Nat.le_of_ble_eq_true rfl)) dJx4a65c_add_72be8_7 ⟨by show _ ≤ mc; omega, by show _ ≤ ms; omega⟩) (fun H locs hw => ?_)
      refine lv_astore_n (lv' := [(2, .ref (nx S)), (0, .ref a), (1, .ref v), (3, .int z)]) hx hb dJx4a65c_add_72be8_10 rfl hl (by decide) rfl (fun ls hl => ?_)
      refine W.widen (k := mc) (n := ms) (by omega) (by omega) ?_
      exact fin S2 (nx S) g1 g2 g3 g4 eT _ _ hw ls (lv_sub hl [1, 2, 0, 3] rfl)
    rcases hfull with ⟨hb0, hz0⟩ | ⟨hkb, hz1⟩
    · rw [hb0, ← hE]
      refine va_tlen hx hb hro.2.2.2.1 hw.2.2.2.2 (v := 0) rfl dJx4a65c_add_72be8_2 ?_
      refine lv_icmp_ne (tgt := 11) hx hb dJx4a65c_add_72be8_3 (by decide) (fun c => absurd hz0 c) (fun _ => ?_)
      exact go
    · refine C_alenO hx hb hK hw hr5 hkb dJx4a65c_add_72be8_2 ?_
      refine lv_icmp_ne (tgt := 11) hx hb dJx4a65c_add_72be8_3 (by decide) (fun c => absurd hz1 c) (fun _ => ?_)
      exact go
def fL_add (n : Nat × Nat) (r : Nat) (S : CS) (a v : Nat) : Option ((Int32 × CS) × Nat × Nat) :=
  grd (cD S a = 20 + r) (grd (cD S v = elk r) (onn (cR S (gE r) a) (fun b => bnd (uI S (gM r) a (cI S (gM r) a + 1)) (fun S1 => bnd (cI S (gS r) a) (fun z =>
    if b = n.2 then grd (z = 0) (some ((1, adT (uR (nw S1 (30 + r) 10) (gE r) a (some (nx S1))) r a (nx S1) v z), 1, 10))
    else grd (cD S b = 30 + r) (if z = Int32.ofNat (cN S b) then grd (2 ≤ cN S b ∧ cN S b ≤ 40000) (grd (∀ i, i < cN S b → elOk S r b i = true) (some ((1, adT (uR (gwS S1 r b (cN S b + cN S b / 2)) (gE r) a (some (nx S1))) r a (nx S1) v z), 1, cN S b + cN S b / 2)))
      else grd (¬ (z < 0 ∨ cN S b ≤ z.toNatClampNeg)) (some ((1, adT S1 r a b v z), 0, 0))))))))
set_option maxHeartbeats 8000000 in
set_option maxRecDepth 100000 in
theorem cL_add_ok (l : Launch) (D : va_G) (cc : Nat → ClassId) (E : Nat → Nat) (n : Nat × Nat) (hE : E 0 = n.2) (r : Nat) (hr5 : r < 5) (S : CS) (a v : Nat) {x : Int32} {T : CS} {mc ms : Nat} (h : fL_add n r S a v = some ((x, T), mc, ms)) : Ci l yJx4a65c_add_9ea2d wsJx4a65c_add_9ea2d 6 170 D cc E [.ref a, .ref v] S x T mc ms := by
  refine C_of (own := RJx4a65c) (bb := cJx4a65c_add_9ea2d) (nL := 2) (ret := (some .boolean)) (by decide) rfl rfl (Nat.le_of_ble_eq_true rfl) ?_
  intro p e s m args below meth c hx hb hr hlocks hml hts hown hnm hA hK hro hw ls hl
  generalize va_A (cPs cc S) (nx S) = A at hA hro hw ⊢
  have hin : ∀ w ∈ wsJx4a65c0, w ∈ wsJx4a65c_add_9ea2d := by decide +kernel
  have hl : lv_has ls 2 [(0, .ref a), (1, .ref v)] := hl
  have hfr : ∀ y, cD S y ≠ 0 → y ≠ nx S := fun y hy q => by
    have := va_pl_fresh (X := []) hw.2.2.1 (Nat.le_of_eq hw.2.1)
    exact this (q ▸ hw.1 y hy)
  unfold fL_add at h
  obtain ⟨hk, h⟩ := of_grd h
  obtain ⟨hv, h⟩ := of_grd h
  obtain ⟨b, eb, h⟩ := of_onn h
  have han : a ≠ nx S := hfr a (by omega)
  have hvn : v ≠ nx S := hfr v (by rw [hv]; rcases (show r = 0 ∨ r = 1 ∨ r = 2 ∨ r = 3 ∨ r = 4 by omega) with rfl | rfl | rfl | rfl | rfl <;> decide)
  obtain ⟨S1, eS1⟩ : ∃ q, q = uI S (gM r) a (cI S (gM r) a + 1) := ⟨_, rfl⟩
  have h := of_bnd h eS1
  obtain ⟨z, ez⟩ : ∃ q, q = cI S (gS r) a := ⟨_, rfl⟩
  have h := of_bnd h ez
  have d1 : ∀ y, cD S1 y = cD S y := fun y => by rw [eS1]; rfl
  have n1 : ∀ y, cN S1 y = cN S y := fun y => by rw [eS1]; rfl
  have x1 : nx S1 = nx S := by rw [eS1]; rfl
  have z1 : cI S1 (gS r) a = z := by
    rw [eS1, ez, cI_uI]
    exact congrFun (set1_n _ _ (by unfold gS gM; omega)) a
  have b1 : cR S1 (gE r) a = some b := by rw [eS1]; exact eb
  have hx1 : x = 1 ∧ AddOk n r S1 a v b z T mc ms := by
    by_cases hb0 : b = n.2
    · have h := of_it h hb0
      obtain ⟨hz, h⟩ := of_grd h
      cases h
      refine ⟨rfl, (d1 a).trans hk, (d1 v).trans hv, z1, Or.inr ⟨Or.inl ⟨hb0, hz⟩, _, ⟨(d1 a).trans hk, Or.inl ⟨by rw [b1, hb0], by rw [hz]; rfl, rfl, rfl⟩⟩, rfl, rfl, cD_new S1 (30 + r) 10, ?_, ?_, ?_⟩⟩
      · show ¬ (z < 0 ∨ cN (nw S1 (30 + r) 10) (nx S1) ≤ z.toNatClampNeg)
        rw [cN_nw, set1_s, hz]
        decide
      · show cD (nw S1 (30 + r) 10) a = 20 + r
        rw [cD_nw, set1_n _ _ (by rw [x1]; exact han)]
        exact (d1 a).trans hk
      · show cD (nw S1 (30 + r) 10) v = elk r
        rw [cD_nw, set1_n _ _ (by rw [x1]; exact hvn)]
        exact (d1 v).trans hv
    · have h := of_if h hb0
      obtain ⟨hkb, h⟩ := of_grd h
      by_cases hz : z = Int32.ofNat (cN S b)
      · have h := of_it h hz
        obtain ⟨⟨h2, h3⟩, h⟩ := of_grd h
        obtain ⟨hel, h⟩ := of_grd h
        cases h
        have hzk : z = nI (cN S b) := hz
        refine ⟨rfl, (d1 a).trans hk, (d1 v).trans hv, z1, Or.inr ⟨Or.inr ⟨(d1 b).trans hkb, by rw [n1]; exact hz⟩, _, ⟨(d1 a).trans hk, Or.inr ⟨b, b1, (d1 b).trans hkb, by rw [n1]; exact h2, by rw [n1]; exact h3, by rw [n1, hzk, nI_1], fun i hi => ?_, by rw [n1], by rw [n1]⟩⟩, rfl, rfl, cD_new S1 (30 + r) (cN S b + cN S b / 2), ?_, ?_, ?_⟩⟩
        · rw [n1] at hi
          have := hel i hi
          unfold elOk at this ⊢
          rw [eS1]
          exact this
        · show ¬ (z < 0 ∨ cN (nw S1 (30 + r) (cN S b + cN S b / 2)) (nx S1) ≤ z.toNatClampNeg)
          rw [cN_nw, set1_s, hzk, nI_clamp (by omega)]
          intro q
          rcases q with q | q
          · exact nI_pos (by omega) q
          · omega
        · show cD (nw S1 (30 + r) (cN S b + cN S b / 2)) a = 20 + r
          rw [cD_nw, set1_n _ _ (by rw [x1]; exact han)]
          exact (d1 a).trans hk
        · show cD (nw S1 (30 + r) (cN S b + cN S b / 2)) v = elk r
          rw [cD_nw, set1_n _ _ (by rw [x1]; exact hvn)]
          exact (d1 v).trans hv
      · have h := of_if h hz
        obtain ⟨hi, h⟩ := of_grd h
        cases h
        exact ⟨rfl, (d1 a).trans hk, (d1 v).trans hv, z1, Or.inl ⟨(d1 b).trans hkb, by rw [n1]; exact hz, by rw [n1]; exact hi, rfl, rfl, rfl⟩⟩
  obtain ⟨rfl, hadd⟩ := hx1
  have hsm : ∀ x, s.fieldFound? "java/util/AbstractList" "modCount" "I" = some x → s.fieldFound? "java/util/ArrayList" "modCount" "I" = some x := fun x hxx => u_same (hts (.sameField "java/util/ArrayList" "java/util/AbstractList" "modCount" "I") (by decide +kernel)) x hxx
  refine lv_aload_n hx hb dJx4a65c_add_9ea2d_0 rfl (lv_at hl 0 rfl) ?_
  refine lv_dup hx hb dJx4a65c_add_9ea2d_1 rfl ?_
  refine C_get2 (ref := "java/util/ArrayList") hx hb hts hin hown hK hw (cell_L hr5 hk) (by omega) rfl 0 (by decide) (index := 63) (by decide +kernel) hsm rfl dJx4a65c_add_9ea2d_2 ?_
  refine lv_iconst (v := 1) hx hb dJx4a65c_add_9ea2d_5 (by decide) ?_
  refine lv_iadd hx hb dJx4a65c_add_9ea2d_6 ?_
  refine C_put2 (ref := "java/util/ArrayList") hx hb hts hin tyJx4a65c tyJx4a65c_ok nmJx4a65c hown hK hw (cell_L hr5 hk) (by omega) rfl 0 (by decide) (index := 63) (by decide +kernel) hsm rfl (ty := .int) (by decide +kernel) rfl rfl (Nat.le_of_ble_eq_true rfl) (S' := uI S (gM r) a (cI S (gM r) a + 1)) rfl rfl rfl (puL_M hr5 hk (cI S (gM r) a + 1)) (fun b hb => off_uI hb) dJx4a65c_add_9ea2d_7 (fun S6 H locs eS6 hw => ?_)
  rw [← eS1] at eS6
  subst eS6
  refine lv_aload_n hx hb dJx4a65c_add_9ea2d_10 rfl (lv_at hl 0 rfl) ?_
  refine lv_aload_n hx hb dJx4a65c_add_9ea2d_11 rfl (lv_at hl 1 rfl) ?_
  refine lv_aload_n hx hb dJx4a65c_add_9ea2d_12 rfl (lv_at hl 0 rfl) ?_
  refine C_get hx hb hts hin hown hK hw (cell_L hr5 ((d1 a).trans hk)) (by rw [d1]; omega) rfl 1 (by decide) (index := 9) (by decide +kernel) rfl (v := .ref b) (congrArg (fun o => some (va_rf o)) b1) dJx4a65c_add_9ea2d_13 ?_
  refine lv_aload_n hx hb dJx4a65c_add_9ea2d_16 rfl (lv_at hl 0 rfl) ?_
  refine C_get hx hb hts hin hown hK hw (cell_L hr5 ((d1 a).trans hk)) (by rw [d1]; omega) rfl 2 (by decide) (index := 48) (by decide +kernel) rfl (v := .int z) (congrArg (fun o => some (Value.int o)) z1) dJx4a65c_add_9ea2d_17 ?_
  refine C_v hA hw (va_runV (As := [.ref v, .ref b, .int z]) (rest := []) ⟨hx, hb, hml, hown, hts⟩ (cL_add3 l D cc E n hE r hr5 S6 a v b z hadd) (cwV 3 hts gJx4a65c_add_9ea2d_Jx4a65c_add_72be8 rfl rfl rfl (by decide +kernel) ⟨Nat.le_of_ble_eq_true rfl, Nat.le_of_ble_eq_true rfl⟩) ⟨cBlind D cc E S6 _, C_recv hK hw (by rw [d1]; omega) (cell_L hr5 ((d1 a).trans hk)) (r := (RJx4a65c, TJx4a65c, 3)) rfl, fun U hU hW => ⟨rfl, C_pre hA hK hro hw U hU hW⟩⟩ rfl rfl hl.1 rfl (lv_room (Nat.le_of_ble_eq_true rfl)) dJx4a65c_add_9ea2d_20 ⟨by show _ ≤ mc; omega, by show _ ≤ ms; omega⟩) (fun H locs hw => ?_)
  refine lv_iconst (v := 1) hx hb dJx4a65c_add_9ea2d_23 (by decide) ?_
  refine W.widen (k := mc) (n := ms) (by omega) (by omega) ?_
  exact C_iret hx hb hr hlocks hw (by rfl) dJx4a65c_add_9ea2d_24
