def fX11_isWithin (a0 : Int32) (a1 : Int32) (a2 : Int32) : Int32 :=
  if a0 < a1 then 
    (0 : Int32)
    else if a2 < a0 then 
      (0 : Int32)
      else (1 : Int32)
theorem fX11_isWithin_nar (a0 : Int32) (a1 : Int32) (a2 : Int32) : narrow .boolean (.int (fX11_isWithin a0 a1 a2)) = .int (fX11_isWithin a0 a1 a2) := by
  unfold fX11_isWithin
  (repeat' split) <;> rfl
set_option maxHeartbeats 8000000 in
set_option maxRecDepth 100000 in
theorem cX11_isWithin_ok (l : Launch) (a0 : Int32) (a1 : Int32) (a2 : Int32) : Si l yX11_isWithin wsX11_isWithin { frames := 0, cells := 0, slots := 0, locals := 0 } [.int a0, .int a1, .int a2] (fun r => r = fX11_isWithin a0 a1 a2) := by
  obtain ⟨r, h⟩ : ∃ r, fX11_isWithin a0 a1 a2 = r := ⟨_, rfl⟩
  rw [h]
  refine Si_of (own := RX11) (cc := cX11_isWithin) (nL := 3) (ret := (some .boolean)) (by decide) rfl rfl (Nat.le_of_ble_eq_true rfl) ?_
  intro p e s m args below meth c hx hb hr hlocks hml hts hown ls hl
  unfold fX11_isWithin at h
  have hl : lv_has ls 3 [(0, .int a0), (1, .int a1), (2, .int a2)] := hl
  refine lv_iload_n hx hb dX11_isWithin_0 rfl (lv_at hl 0 rfl) ?_
  refine lv_iload_n hx hb dX11_isWithin_1 rfl (lv_at hl 1 rfl) ?_
  refine lv_icmp_lt (tgt := 14) hx hb dX11_isWithin_2 (by decide) (fun c2 => ?_) (fun c2 => ?_)
  · have h := of_it h c2
    refine lv_iconst (v := 0) hx hb dX11_isWithin_14 (by decide) ?_
    exact S_iret (v := (0 : Int32)) hx hb hr hlocks dX11_isWithin_15 (by first | rfl | decide) h
  · have h := of_if h c2
    refine lv_iload_n hx hb dX11_isWithin_5 rfl (lv_at hl 0 rfl) ?_
    refine lv_iload_n hx hb dX11_isWithin_6 rfl (lv_at hl 2 rfl) ?_
    refine lv_icmp_gt (tgt := 14) hx hb dX11_isWithin_7 (by decide) (fun c7 => ?_) (fun c7 => ?_)
    · have h := of_it h c7
      refine lv_iconst (v := 0) hx hb dX11_isWithin_14 (by decide) ?_
      exact S_iret (v := (0 : Int32)) hx hb hr hlocks dX11_isWithin_15 (by first | rfl | decide) h
    · have h := of_if h c7
      refine lv_iconst (v := 1) hx hb dX11_isWithin_10 (by decide) ?_
      refine lv_goto (tgt := 15) hx hb dX11_isWithin_11 (by decide) ?_
      exact S_iret (v := (1 : Int32)) hx hb hr hlocks dX11_isWithin_15 (by first | rfl | decide) h

def fX11_isKind (a0 : Int32) : Int32 :=
  bnd (fX11_isWithin a0 (0 : Int32) (9 : Int32)) (fun r4 => r4)
theorem fX11_isKind_nar (a0 : Int32) : narrow .boolean (.int (fX11_isKind a0)) = .int (fX11_isKind a0) := by
  unfold fX11_isKind
  unfold bnd
  exact fX11_isWithin_nar _ _ _
set_option maxHeartbeats 8000000 in
set_option maxRecDepth 100000 in
theorem cX11_isKind_ok (l : Launch) (a0 : Int32) : Si l yX11_isKind wsX11_isKind { frames := 1, cells := 0, slots := 0, locals := 22 } [.int a0] (fun r => r = fX11_isKind a0) := by
  obtain ⟨r, h⟩ : ∃ r, fX11_isKind a0 = r := ⟨_, rfl⟩
  rw [h]
  refine Si_of (own := RX11) (cc := cX11_isKind) (nL := 1) (ret := (some .boolean)) (by decide) rfl rfl (Nat.le_of_ble_eq_true rfl) ?_
  intro p e s m args below meth c hx hb hr hlocks hml hts hown ls hl
  unfold fX11_isKind at h
  have hl : lv_has ls 1 [(0, .int a0)] := hl
  refine lv_iload_n hx hb dX11_isKind_0 rfl (lv_at hl 0 rfl) ?_
  refine lv_iconst (v := 0) hx hb dX11_isKind_1 (by decide) ?_
  refine lv_bipush (v := 9) hx hb dX11_isKind_2 (by decide) ?_
  refine C_s (va_runS (As := [.int a0, .int (0 : Int32), .int (9 : Int32)]) (rest := []) ⟨hx, hb, hml, hown, hts⟩ (cX11_isWithin_ok l a0 (0 : Int32) (9 : Int32)) (va_cwS 3 hts gX11_isKind_X11_isWithin rfl rfl rfl (by decide +kernel) ⟨Nat.le_of_ble_eq_true rfl, Nat.le_of_ble_eq_true rfl⟩) ⟨fun a U g mk q => ⟨q.1, trivial⟩, fun U hU hW => ⟨rfl, trivial⟩⟩ rfl rfl hl.1 rfl (lv_room (Nat.le_of_ble_eq_true rfl)) dX11_isKind_4 ⟨Nat.le_refl _, Nat.le_refl _⟩) (fun r4 er4 => ?_)
  have h := of_bnd h er4
  exact S_iret (v := r4) hx hb hr hlocks dX11_isKind_7 (by rw [er4]; exact fX11_isWithin_nar _ _ _) h

def fX11_refuse (n : Nat × Nat) (S : CS) (a0 : Nat) (a1 : Int32) : Option (Int32 × CS) :=
  grd (cD S a0 = 12) (bnd (uI S 251 a0 a1) (fun S2 => some (a1, S2)))
set_option maxHeartbeats 8000000 in
set_option maxRecDepth 100000 in
theorem cX11_refuse_ok (l : Launch) (D : va_G) (cc : Nat → ClassId) (E : Nat → Nat) (n : Nat × Nat) (S : CS) (a0 : Nat) (a1 : Int32) {r : Int32} {T : CS} (h : fX11_refuse n S a0 a1 = some (r, T)) : Ci l yX11_refuse wsX11_refuse 0 0 D cc E [.ref a0, .int a1] S r T 0 0 := by
  refine C_of (own := RX11) (bb := cX11_refuse) (nL := 2) (ret := (some .int)) (by decide) rfl rfl (Nat.le_of_ble_eq_true rfl) ?_
  intro p e s m args below meth c hx hb hr hlocks hml hts hown hnm hA hK hro hw ls hl
  generalize va_A (cPs cc S) (nx S) = A at hA hro hw ⊢
  unfold fX11_refuse at h
  have hinX11 : ∀ w ∈ wsX110, w ∈ wsX11_refuse := by decide +kernel
  have hl : lv_has ls 2 [(0, .ref a0), (1, .int a1)] := hl
  refine lv_aload_n hx hb dX11_refuse_0 rfl (lv_at hl 0 rfl) ?_
  refine lv_iload_n hx hb dX11_refuse_1 rfl (lv_at hl 1 rfl) ?_
  obtain ⟨hf1, h⟩ := of_grd h
  refine C_put hx hb hts hinX11 tyX11 tyX11_ok nmX11 hown hK hw (cell_12 hf1) (by omega) rfl 11 (by decide) (index := 64) (by decide +kernel) rfl rfl (ty := .int) (by decide +kernel) rfl rfl (Nat.le_of_ble_eq_true rfl) (S' := uI S 251 a0 a1) rfl rfl rfl (pu_251 hf1 a1) (fun b hb => off_uI hb) dX11_refuse_2 (fun S2 H locs eS2 hw => ?_)
  have h := of_bnd h eS2
  refine lv_iload_n hx hb dX11_refuse_5 rfl (lv_at hl 1 rfl) ?_
  obtain ⟨rfl, rfl⟩ := of_ret2 h
  exact C_iret hx hb hr hlocks hw (by rfl) dX11_refuse_6

def fX11_accept (n : Nat × Nat) (S : CS) (a0 : Nat) (a1 : Int32) : Option (Int32 × CS) :=
  grd (cD S a0 = 12) (bnd (uI S 251 a0 (0 : Int32)) (fun S2 => some (a1, S2)))
set_option maxHeartbeats 8000000 in
set_option maxRecDepth 100000 in
theorem cX11_accept_ok (l : Launch) (D : va_G) (cc : Nat → ClassId) (E : Nat → Nat) (n : Nat × Nat) (S : CS) (a0 : Nat) (a1 : Int32) {r : Int32} {T : CS} (h : fX11_accept n S a0 a1 = some (r, T)) : Ci l yX11_accept wsX11_accept 0 0 D cc E [.ref a0, .int a1] S r T 0 0 := by
  refine C_of (own := RX11) (bb := cX11_accept) (nL := 2) (ret := (some .int)) (by decide) rfl rfl (Nat.le_of_ble_eq_true rfl) ?_
  intro p e s m args below meth c hx hb hr hlocks hml hts hown hnm hA hK hro hw ls hl
  generalize va_A (cPs cc S) (nx S) = A at hA hro hw ⊢
  unfold fX11_accept at h
  have hinX11 : ∀ w ∈ wsX110, w ∈ wsX11_accept := by decide +kernel
  have hl : lv_has ls 2 [(0, .ref a0), (1, .int a1)] := hl
  refine lv_aload_n hx hb dX11_accept_0 rfl (lv_at hl 0 rfl) ?_
  refine lv_iconst (v := 0) hx hb dX11_accept_1 (by decide) ?_
  obtain ⟨hf1, h⟩ := of_grd h
  refine C_put hx hb hts hinX11 tyX11 tyX11_ok nmX11 hown hK hw (cell_12 hf1) (by omega) rfl 11 (by decide) (index := 64) (by decide +kernel) rfl rfl (ty := .int) (by decide +kernel) rfl rfl (Nat.le_of_ble_eq_true rfl) (S' := uI S 251 a0 (0 : Int32)) rfl rfl rfl (pu_251 hf1 (0 : Int32)) (fun b hb => off_uI hb) dX11_accept_2 (fun S2 H locs eS2 hw => ?_)
  have h := of_bnd h eS2
  refine lv_iload_n hx hb dX11_accept_5 rfl (lv_at hl 1 rfl) ?_
  obtain ⟨rfl, rfl⟩ := of_ret2 h
  exact C_iret hx hb hr hlocks hw (by rfl) dX11_accept_6

def fX1_init (n : Nat × Nat) (S : CS) (a0 : Nat) (a1 : Int32) (a2 : Int32) : Option (CS) :=
  grd (cD S a0 = 2) (bnd (uI S 40 a0 a1) (fun S6 => bnd (uI S6 41 a0 a2) (fun S11 => some S11)))
set_option maxHeartbeats 8000000 in
set_option maxRecDepth 100000 in
theorem cX1_init_ok (l : Launch) (D : va_G) (cc : Nat → ClassId) (E : Nat → Nat) (n : Nat × Nat) (S : CS) (a0 : Nat) (a1 : Int32) (a2 : Int32) {T : CS} (h : fX1_init n S a0 a1 a2 = some T) : Cv l yX1_init wsX1_init 1 20 D cc E [.ref a0, .int a1, .int a2] S T 0 0 := by
  refine C_of (own := RX1) (bb := cX1_init) (nL := 3) (ret := none) (by decide) rfl rfl (Nat.le_of_ble_eq_true rfl) ?_
  intro p e s m args below meth c hx hb hr hlocks hml hts hown hnm hA hK hro hw ls hl
  generalize va_A (cPs cc S) (nx S) = A at hA hro hw ⊢
  unfold fX1_init at h
  have hinX1 : ∀ w ∈ wsX10, w ∈ wsX1_init := by decide +kernel
  have hl : lv_has ls 3 [(0, .ref a0), (1, .int a1), (2, .int a2)] := hl
  refine lv_aload_n hx hb dX1_init_0 rfl (lv_at hl 0 rfl) ?_
  refine W.objInit hx hb hown (hts (.methodLink RX1 1 objectInit) (by decide +kernel)) (hts (.instanceMethod objectInit) (by decide +kernel)) (hts (.code objectInit ⟨#[0xb1]⟩ 1 none) (by decide +kernel)) rfl (by rw [hml]; exact hl.1) rfl dX1_init_1 (Nat.le_of_ble_eq_true rfl) (Nat.le_of_ble_eq_true rfl) ?_
  refine W.eq (g2 := F0 m 4 ls []) rfl ?_
  refine lv_aload_n hx hb dX1_init_4 rfl (lv_at hl 0 rfl) ?_
  refine lv_iload_n hx hb dX1_init_5 rfl (lv_at hl 1 rfl) ?_
  obtain ⟨hf1, h⟩ := of_grd h
  refine C_putF hx hb hts hinX1 tyX1 tyX1_ok nmX1 hown hK hw (cell_2 hf1) (by omega) rfl 0 (by decide) (index := 7) (by decide +kernel) rfl rfl hnm rfl (ty := .int) (by decide +kernel) rfl rfl (Nat.le_of_ble_eq_true rfl) (S' := uI S 40 a0 a1) rfl rfl rfl (pu_40 hf1 a1) (fun b hb => off_uI hb) dX1_init_6 (fun S6 H locs eS6 hw => ?_)
  have h := of_bnd h eS6
  refine lv_aload_n hx hb dX1_init_9 rfl (lv_at hl 0 rfl) ?_
  refine lv_iload_n hx hb dX1_init_10 rfl (lv_at hl 2 rfl) ?_
  have hf2 : cD S6 a0 = 2 := by rw [eS6]; exact hf1
  refine C_putF hx hb hts hinX1 tyX1 tyX1_ok nmX1 hown hK hw (cell_2 hf2) (by omega) rfl 1 (by decide) (index := 13) (by decide +kernel) rfl rfl hnm rfl (ty := .int) (by decide +kernel) rfl rfl (Nat.le_of_ble_eq_true rfl) (S' := uI S6 41 a0 a2) rfl rfl rfl (pu_41 hf2 a2) (fun b hb => off_uI hb) dX1_init_11 (fun S11 H locs eS11 hw => ?_)
  have h := of_bnd h eS11
  obtain rfl := Option.some.inj h
  exact C_vret hx hb hr hlocks hw dX1_init_14

def fX2_init (n : Nat × Nat) (S : CS) (a0 : Nat) (a1 : Int32) (a2 : Int32) (a3 : Int32) (a4 : Int32) (a5 : Int32) : Option (CS) :=
  grd (cD S a0 = 3) (bnd (uI S 66 a0 (0 : Int32)) (fun S6 => bnd (uI S6 67 a0 (0 : Int32)) (fun S11 => bnd (uI S11 68 a0 (0 : Int32)) (fun S16 => bnd (uR S16 69 a0 none) (fun S21 => bnd (uR S21 70 a0 none) (fun S26 => bnd (uI S26 60 a0 a1) (fun S31 => bnd (uI S31 61 a0 a2) (fun S36 => bnd (uI S36 62 a0 a3) (fun S41 => bnd (uI S41 63 a0 a4) (fun S47 => bnd (uI S47 64 a0 a5) (fun S53 => bnd (uI S53 65 a0 a3) (fun S58 => some S58))))))))))))
set_option maxHeartbeats 8000000 in
set_option maxRecDepth 100000 in
theorem cX2_init_ok (l : Launch) (D : va_G) (cc : Nat → ClassId) (E : Nat → Nat) (n : Nat × Nat) (S : CS) (a0 : Nat) (a1 : Int32) (a2 : Int32) (a3 : Int32) (a4 : Int32) (a5 : Int32) {T : CS} (h : fX2_init n S a0 a1 a2 a3 a4 a5 = some T) : Cv l yX2_init wsX2_init 1 20 D cc E [.ref a0, .int a1, .int a2, .int a3, .int a4, .int a5] S T 0 0 := by
  refine C_of (own := RX2) (bb := cX2_init) (nL := 6) (ret := none) (by decide) rfl rfl (Nat.le_of_ble_eq_true rfl) ?_
  intro p e s m args below meth c hx hb hr hlocks hml hts hown hnm hA hK hro hw ls hl
  generalize va_A (cPs cc S) (nx S) = A at hA hro hw ⊢
  unfold fX2_init at h
  have hinX2 : ∀ w ∈ wsX20, w ∈ wsX2_init := by decide +kernel
  have hl : lv_has ls 6 [(0, .ref a0), (1, .int a1), (2, .int a2), (3, .int a3), (4, .int a4), (5, .int a5)] := hl
  refine lv_aload_n hx hb dX2_init_0 rfl (lv_at hl 0 rfl) ?_
  refine W.objInit hx hb hown (hts (.methodLink RX2 3 objectInit) (by decide +kernel)) (hts (.instanceMethod objectInit) (by decide +kernel)) (hts (.code objectInit ⟨#[0xb1]⟩ 1 none) (by decide +kernel)) rfl (by rw [hml]; exact hl.1) rfl dX2_init_1 (Nat.le_of_ble_eq_true rfl) (Nat.le_of_ble_eq_true rfl) ?_
  refine W.eq (g2 := F0 m 4 ls []) rfl ?_
  refine lv_aload_n hx hb dX2_init_4 rfl (lv_at hl 0 rfl) ?_
  refine lv_iconst (v := 0) hx hb dX2_init_5 (by decide) ?_
  obtain ⟨hf1, h⟩ := of_grd h
  refine C_put hx hb hts hinX2 tyX2 tyX2_ok nmX2 hown hK hw (cell_3 hf1) (by omega) rfl 6 (by decide) (index := 9) (by decide +kernel) rfl rfl (ty := .int) (by decide +kernel) rfl rfl (Nat.le_of_ble_eq_true rfl) (S' := uI S 66 a0 (0 : Int32)) rfl rfl rfl (pu_66 hf1 (0 : Int32)) (fun b hb => off_uI hb) dX2_init_6 (fun S6 H locs eS6 hw => ?_)
  have h := of_bnd h eS6
  refine lv_aload_n hx hb dX2_init_9 rfl (lv_at hl 0 rfl) ?_
  refine lv_iconst (v := 0) hx hb dX2_init_10 (by decide) ?_
  have hf2 : cD S6 a0 = 3 := by rw [eS6]; exact hf1
  refine C_put hx hb hts hinX2 tyX2 tyX2_ok nmX2 hown hK hw (cell_3 hf2) (by omega) rfl 7 (by decide) (index := 15) (by decide +kernel) rfl rfl (ty := .int) (by decide +kernel) rfl rfl (Nat.le_of_ble_eq_true rfl) (S' := uI S6 67 a0 (0 : Int32)) rfl rfl rfl (pu_67 hf2 (0 : Int32)) (fun b hb => off_uI hb) dX2_init_11 (fun S11 H locs eS11 hw => ?_)
  have h := of_bnd h eS11
  refine lv_aload_n hx hb dX2_init_14 rfl (lv_at hl 0 rfl) ?_
  refine lv_iconst (v := 0) hx hb dX2_init_15 (by decide) ?_
  have hf3 : cD S11 a0 = 3 := by rw [eS11]; exact hf2
  refine C_put hx hb hts hinX2 tyX2 tyX2_ok nmX2 hown hK hw (cell_3 hf3) (by omega) rfl 8 (by decide) (index := 18) (by decide +kernel) rfl rfl (ty := .int) (by decide +kernel) rfl rfl (Nat.le_of_ble_eq_true rfl) (S' := uI S11 68 a0 (0 : Int32)) rfl rfl rfl (pu_68 hf3 (0 : Int32)) (fun b hb => off_uI hb) dX2_init_16 (fun S16 H locs eS16 hw => ?_)
  have h := of_bnd h eS16
  refine lv_aload_n hx hb dX2_init_19 rfl (lv_at hl 0 rfl) ?_
  refine lv_null hx hb dX2_init_20 ?_
  have hf4 : cD S16 a0 = 3 := by rw [eS16]; exact hf3
  refine C_put hx hb hts hinX2 tyX2 tyX2_ok nmX2 hown hK hw (cell_3 hf4) (by omega) rfl 9 (by decide) (index := 21) (by decide +kernel) rfl rfl (ty := (.object "FoodShares$Lot")) (by decide +kernel) rfl rfl (Nat.le_of_ble_eq_true rfl) (S' := uR S16 69 a0 none) rfl rfl rfl (pu_69 hf4 none) (fun b hb => off_uR hb) dX2_init_21 (fun S21 H locs eS21 hw => ?_)
  have h := of_bnd h eS21
  refine lv_aload_n hx hb dX2_init_24 rfl (lv_at hl 0 rfl) ?_
  refine lv_null hx hb dX2_init_25 ?_
  have hf5 : cD S21 a0 = 3 := by rw [eS21]; exact hf4
  refine C_put hx hb hts hinX2 tyX2 tyX2_ok nmX2 hown hK hw (cell_3 hf5) (by omega) rfl 10 (by decide) (index := 25) (by decide +kernel) rfl rfl (ty := (.object "FoodShares$Weighing")) (by decide +kernel) rfl rfl (Nat.le_of_ble_eq_true rfl) (S' := uR S21 70 a0 none) rfl rfl rfl (pu_70 hf5 none) (fun b hb => off_uR hb) dX2_init_26 (fun S26 H locs eS26 hw => ?_)
  have h := of_bnd h eS26
  refine lv_aload_n hx hb dX2_init_29 rfl (lv_at hl 0 rfl) ?_
  refine lv_iload_n hx hb dX2_init_30 rfl (lv_at hl 1 rfl) ?_
  have hf6 : cD S26 a0 = 3 := by rw [eS26]; exact hf5
  refine C_putF hx hb hts hinX2 tyX2 tyX2_ok nmX2 hown hK hw (cell_3 hf6) (by omega) rfl 0 (by decide) (index := 29) (by decide +kernel) rfl rfl hnm rfl (ty := .int) (by decide +kernel) rfl rfl (Nat.le_of_ble_eq_true rfl) (S' := uI S26 60 a0 a1) rfl rfl rfl (pu_60 hf6 a1) (fun b hb => off_uI hb) dX2_init_31 (fun S31 H locs eS31 hw => ?_)
  have h := of_bnd h eS31
  refine lv_aload_n hx hb dX2_init_34 rfl (lv_at hl 0 rfl) ?_
  refine lv_iload_n hx hb dX2_init_35 rfl (lv_at hl 2 rfl) ?_
  have hf7 : cD S31 a0 = 3 := by rw [eS31]; exact hf6
  refine C_putF hx hb hts hinX2 tyX2 tyX2_ok nmX2 hown hK hw (cell_3 hf7) (by omega) rfl 1 (by decide) (index := 32) (by decide +kernel) rfl rfl hnm rfl (ty := .int) (by decide +kernel) rfl rfl (Nat.le_of_ble_eq_true rfl) (S' := uI S31 61 a0 a2) rfl rfl rfl (pu_61 hf7 a2) (fun b hb => off_uI hb) dX2_init_36 (fun S36 H locs eS36 hw => ?_)
  have h := of_bnd h eS36
  refine lv_aload_n hx hb dX2_init_39 rfl (lv_at hl 0 rfl) ?_
  refine lv_iload_n hx hb dX2_init_40 rfl (lv_at hl 3 rfl) ?_
  have hf8 : cD S36 a0 = 3 := by rw [eS36]; exact hf7
  refine C_putF hx hb hts hinX2 tyX2 tyX2_ok nmX2 hown hK hw (cell_3 hf8) (by omega) rfl 2 (by decide) (index := 35) (by decide +kernel) rfl rfl hnm rfl (ty := .int) (by decide +kernel) rfl rfl (Nat.le_of_ble_eq_true rfl) (S' := uI S36 62 a0 a3) rfl rfl rfl (pu_62 hf8 a3) (fun b hb => off_uI hb) dX2_init_41 (fun S41 H locs eS41 hw => ?_)
  have h := of_bnd h eS41
  refine lv_aload_n hx hb dX2_init_44 rfl (lv_at hl 0 rfl) ?_
  refine lv_iload hx hb dX2_init_45 (lv_at hl 4 rfl) ?_
  have hf9 : cD S41 a0 = 3 := by rw [eS41]; exact hf8
  refine C_putF hx hb hts hinX2 tyX2 tyX2_ok nmX2 hown hK hw (cell_3 hf9) (by omega) rfl 3 (by decide) (index := 38) (by decide +kernel) rfl rfl hnm rfl (ty := .int) (by decide +kernel) rfl rfl (Nat.le_of_ble_eq_true rfl) (S' := uI S41 63 a0 a4) rfl rfl rfl (pu_63 hf9 a4) (fun b hb => off_uI hb) dX2_init_47 (fun S47 H locs eS47 hw => ?_)
  have h := of_bnd h eS47
  refine lv_aload_n hx hb dX2_init_50 rfl (lv_at hl 0 rfl) ?_
  refine lv_iload hx hb dX2_init_51 (lv_at hl 5 rfl) ?_
  have hf10 : cD S47 a0 = 3 := by rw [eS47]; exact hf9
  refine C_putF hx hb hts hinX2 tyX2 tyX2_ok nmX2 hown hK hw (cell_3 hf10) (by omega) rfl 4 (by decide) (index := 41) (by decide +kernel) rfl rfl hnm rfl (ty := .int) (by decide +kernel) rfl rfl (Nat.le_of_ble_eq_true rfl) (S' := uI S47 64 a0 a5) rfl rfl rfl (pu_64 hf10 a5) (fun b hb => off_uI hb) dX2_init_53 (fun S53 H locs eS53 hw => ?_)
  have h := of_bnd h eS53
  refine lv_aload_n hx hb dX2_init_56 rfl (lv_at hl 0 rfl) ?_
  refine lv_iload_n hx hb dX2_init_57 rfl (lv_at hl 3 rfl) ?_
  have hf11 : cD S53 a0 = 3 := by rw [eS53]; exact hf10
  refine C_put hx hb hts hinX2 tyX2 tyX2_ok nmX2 hown hK hw (cell_3 hf11) (by omega) rfl 5 (by decide) (index := 44) (by decide +kernel) rfl rfl (ty := .int) (by decide +kernel) rfl rfl (Nat.le_of_ble_eq_true rfl) (S' := uI S53 65 a0 a3) rfl rfl rfl (pu_65 hf11 a3) (fun b hb => off_uI hb) dX2_init_58 (fun S58 H locs eS58 hw => ?_)
  have h := of_bnd h eS58
  obtain rfl := Option.some.inj h
  exact C_vret hx hb hr hlocks hw dX2_init_61

def fX2_tell (n : Nat × Nat) (S : CS) (a0 : Nat) (a1 : Int32) : Option Int32 :=
  if a1 = 0 then grd (cD S a0 = 3) (bnd (cI S 61 a0) (fun v49 => some v49)) else if a1 = 1 then grd (cD S a0 = 3) (bnd (cI S 62 a0) (fun v54 => some v54)) else if a1 = 2 then grd (cD S a0 = 3) (bnd (cI S 63 a0) (fun v59 => some v59)) else if a1 = 3 then grd (cD S a0 = 3) (bnd (cI S 64 a0) (fun v64 => some v64)) else if a1 = 4 then grd (cD S a0 = 3) (bnd (cI S 65 a0) (fun v69 => some v69)) else if a1 = 5 then grd (cD S a0 = 3) (bnd (cI S 66 a0) (fun v74 => some v74)) else if a1 = 6 then grd (cD S a0 = 3) (bnd (cI S 67 a0) (fun v79 => some v79)) else if a1 = 7 then grd (cD S a0 = 3) (bnd (cI S 68 a0) (fun v84 => some v84)) else some (-1 : Int32)
set_option maxHeartbeats 8000000 in
set_option maxRecDepth 100000 in
theorem cX2_tell_ok (l : Launch) (D : va_G) (cc : Nat → ClassId) (E : Nat → Nat) (n : Nat × Nat) (S : CS) (a0 : Nat) (a1 : Int32) {r : Int32} (h : fX2_tell n S a0 a1 = some r) : Ci l yX2_tell wsX2_tell 0 0 D cc E [.ref a0, .int a1] S r S 0 0 := by
  refine C_of (own := RX2) (bb := cX2_tell) (nL := 2) (ret := (some .int)) (by decide) rfl rfl (Nat.le_of_ble_eq_true rfl) ?_
  intro p e s m args below meth c hx hb hr hlocks hml hts hown hnm hA hK hro hw ls hl
  generalize va_A (cPs cc S) (nx S) = A at hA hro hw ⊢
  unfold fX2_tell at h
  have hinX2 : ∀ w ∈ wsX20, w ∈ wsX2_tell := by decide +kernel
  have hl : lv_has ls 2 [(0, .ref a0), (1, .int a1)] := hl
  refine lv_iload_n hx hb dX2_tell_0 rfl (lv_at hl 1 rfl) ?_
  by_cases c1_0 : a1 = 0
  · have h := of_it h c1_0
    refine lv_tableIn (tgt := 48) hx hb dX2_tell_1 (by rw [c1_0]; decide) (by rw [c1_0]; decide) (by rw [c1_0]; rfl) (by decide) ?_
    refine lv_aload_n hx hb dX2_tell_48 rfl (lv_at hl 0 rfl) ?_
    obtain ⟨hf1, h⟩ := of_grd h
    refine C_get hx hb hts hinX2 hown hK hw (cell_3 hf1) (by omega) rfl 1 (by decide) (index := 32) (by decide +kernel) rfl rfl dX2_tell_49 ?_
    refine lv_topi (fun v49 ev49 => ?_)
    have h := of_bnd h ev49
    obtain rfl := Option.some.inj h
    exact C_iret hx hb hr hlocks hw (by rfl) dX2_tell_52
  have h := of_if h c1_0
  by_cases c1_1 : a1 = 1
  · have h := of_it h c1_1
    refine lv_tableIn (tgt := 53) hx hb dX2_tell_1 (by rw [c1_1]; decide) (by rw [c1_1]; decide) (by rw [c1_1]; rfl) (by decide) ?_
    refine lv_aload_n hx hb dX2_tell_53 rfl (lv_at hl 0 rfl) ?_
    obtain ⟨hf2, h⟩ := of_grd h
    refine C_get hx hb hts hinX2 hown hK hw (cell_3 hf2) (by omega) rfl 2 (by decide) (index := 35) (by decide +kernel) rfl rfl dX2_tell_54 ?_
    refine lv_topi (fun v54 ev54 => ?_)
    have h := of_bnd h ev54
    obtain rfl := Option.some.inj h
    exact C_iret hx hb hr hlocks hw (by rfl) dX2_tell_57
  have h := of_if h c1_1
  by_cases c1_2 : a1 = 2
  · have h := of_it h c1_2
    refine lv_tableIn (tgt := 58) hx hb dX2_tell_1 (by rw [c1_2]; decide) (by rw [c1_2]; decide) (by rw [c1_2]; rfl) (by decide) ?_
    refine lv_aload_n hx hb dX2_tell_58 rfl (lv_at hl 0 rfl) ?_
    obtain ⟨hf3, h⟩ := of_grd h
    refine C_get hx hb hts hinX2 hown hK hw (cell_3 hf3) (by omega) rfl 3 (by decide) (index := 38) (by decide +kernel) rfl rfl dX2_tell_59 ?_
    refine lv_topi (fun v59 ev59 => ?_)
    have h := of_bnd h ev59
    obtain rfl := Option.some.inj h
    exact C_iret hx hb hr hlocks hw (by rfl) dX2_tell_62
  have h := of_if h c1_2
  by_cases c1_3 : a1 = 3
  · have h := of_it h c1_3
    refine lv_tableIn (tgt := 63) hx hb dX2_tell_1 (by rw [c1_3]; decide) (by rw [c1_3]; decide) (by rw [c1_3]; rfl) (by decide) ?_
    refine lv_aload_n hx hb dX2_tell_63 rfl (lv_at hl 0 rfl) ?_
    obtain ⟨hf4, h⟩ := of_grd h
    refine C_get hx hb hts hinX2 hown hK hw (cell_3 hf4) (by omega) rfl 4 (by decide) (index := 41) (by decide +kernel) rfl rfl dX2_tell_64 ?_
    refine lv_topi (fun v64 ev64 => ?_)
    have h := of_bnd h ev64
    obtain rfl := Option.some.inj h
    exact C_iret hx hb hr hlocks hw (by rfl) dX2_tell_67
  have h := of_if h c1_3
  by_cases c1_4 : a1 = 4
  · have h := of_it h c1_4
    refine lv_tableIn (tgt := 68) hx hb dX2_tell_1 (by rw [c1_4]; decide) (by rw [c1_4]; decide) (by rw [c1_4]; rfl) (by decide) ?_
    refine lv_aload_n hx hb dX2_tell_68 rfl (lv_at hl 0 rfl) ?_
    obtain ⟨hf5, h⟩ := of_grd h
    refine C_get hx hb hts hinX2 hown hK hw (cell_3 hf5) (by omega) rfl 5 (by decide) (index := 44) (by decide +kernel) rfl rfl dX2_tell_69 ?_
    refine lv_topi (fun v69 ev69 => ?_)
    have h := of_bnd h ev69
    obtain rfl := Option.some.inj h
    exact C_iret hx hb hr hlocks hw (by rfl) dX2_tell_72
  have h := of_if h c1_4
  by_cases c1_5 : a1 = 5
  · have h := of_it h c1_5
    refine lv_tableIn (tgt := 73) hx hb dX2_tell_1 (by rw [c1_5]; decide) (by rw [c1_5]; decide) (by rw [c1_5]; rfl) (by decide) ?_
    refine lv_aload_n hx hb dX2_tell_73 rfl (lv_at hl 0 rfl) ?_
    obtain ⟨hf6, h⟩ := of_grd h
    refine C_get hx hb hts hinX2 hown hK hw (cell_3 hf6) (by omega) rfl 6 (by decide) (index := 9) (by decide +kernel) rfl rfl dX2_tell_74 ?_
    refine lv_topi (fun v74 ev74 => ?_)
    have h := of_bnd h ev74
    obtain rfl := Option.some.inj h
    exact C_iret hx hb hr hlocks hw (by rfl) dX2_tell_77
  have h := of_if h c1_5
  by_cases c1_6 : a1 = 6
  · have h := of_it h c1_6
    refine lv_tableIn (tgt := 78) hx hb dX2_tell_1 (by rw [c1_6]; decide) (by rw [c1_6]; decide) (by rw [c1_6]; rfl) (by decide) ?_
    refine lv_aload_n hx hb dX2_tell_78 rfl (lv_at hl 0 rfl) ?_
    obtain ⟨hf7, h⟩ := of_grd h
    refine C_get hx hb hts hinX2 hown hK hw (cell_3 hf7) (by omega) rfl 7 (by decide) (index := 15) (by decide +kernel) rfl rfl dX2_tell_79 ?_
    refine lv_topi (fun v79 ev79 => ?_)
    have h := of_bnd h ev79
    obtain rfl := Option.some.inj h
    exact C_iret hx hb hr hlocks hw (by rfl) dX2_tell_82
  have h := of_if h c1_6
  by_cases c1_7 : a1 = 7
  · have h := of_it h c1_7
    refine lv_tableIn (tgt := 83) hx hb dX2_tell_1 (by rw [c1_7]; decide) (by rw [c1_7]; decide) (by rw [c1_7]; rfl) (by decide) ?_
    refine lv_aload_n hx hb dX2_tell_83 rfl (lv_at hl 0 rfl) ?_
    obtain ⟨hf8, h⟩ := of_grd h
    refine C_get hx hb hts hinX2 hown hK hw (cell_3 hf8) (by omega) rfl 8 (by decide) (index := 18) (by decide +kernel) rfl rfl dX2_tell_84 ?_
    refine lv_topi (fun v84 ev84 => ?_)
    have h := of_bnd h ev84
    obtain rfl := Option.some.inj h
    exact C_iret hx hb hr hlocks hw (by rfl) dX2_tell_87
  have h := of_if h c1_7
  refine lv_tableOut (tgt := 88) hx hb dX2_tell_1 ?_ (by decide) ?_
  · refine sw_out (0) (7) a1 (by decide) (fun k h1 h2 => ?_)
    have h3 : k = 0 ∨ k = 1 ∨ k = 2 ∨ k = 3 ∨ k = 4 ∨ k = 5 ∨ k = 6 ∨ k = 7 := by omega
    rcases h3 with rfl | rfl | rfl | rfl | rfl | rfl | rfl | rfl <;> first | exact c1_0 | exact c1_1 | exact c1_2 | exact c1_3 | exact c1_4 | exact c1_5 | exact c1_6 | exact c1_7
  refine lv_iconst (v := -1) hx hb dX2_tell_88 (by decide) ?_
  obtain rfl := Option.some.inj h
  exact C_iret hx hb hr hlocks hw (by rfl) dX2_tell_89

def fX2_mayGo (n : Nat × Nat) (S : CS) (a0 : Nat) (a1 : Int32) : Option Int32 :=
  grd (cD S a0 = 3) (bnd (cI S 65 a0) (fun v1 => if v1 ≤ 0 then 
    some (0 : Int32)
    else bnd (cI S 63 a0) (fun v8 => if v8 < a1 then 
      some (0 : Int32)
      else some (1 : Int32))))
set_option maxHeartbeats 8000000 in
set_option maxRecDepth 100000 in
theorem cX2_mayGo_ok (l : Launch) (D : va_G) (cc : Nat → ClassId) (E : Nat → Nat) (n : Nat × Nat) (S : CS) (a0 : Nat) (a1 : Int32) {r : Int32} (h : fX2_mayGo n S a0 a1 = some r) : Ci l yX2_mayGo wsX2_mayGo 0 0 D cc E [.ref a0, .int a1] S r S 0 0 := by
  refine C_of (own := RX2) (bb := cX2_mayGo) (nL := 2) (ret := (some .boolean)) (by decide) rfl rfl (Nat.le_of_ble_eq_true rfl) ?_
  intro p e s m args below meth c hx hb hr hlocks hml hts hown hnm hA hK hro hw ls hl
  generalize va_A (cPs cc S) (nx S) = A at hA hro hw ⊢
  unfold fX2_mayGo at h
  have hinX2 : ∀ w ∈ wsX20, w ∈ wsX2_mayGo := by decide +kernel
  have hl : lv_has ls 2 [(0, .ref a0), (1, .int a1)] := hl
  refine lv_aload_n hx hb dX2_mayGo_0 rfl (lv_at hl 0 rfl) ?_
  obtain ⟨hf1, h⟩ := of_grd h
  refine C_get hx hb hts hinX2 hown hK hw (cell_3 hf1) (by omega) rfl 5 (by decide) (index := 44) (by decide +kernel) rfl rfl dX2_mayGo_1 ?_
  refine lv_topi (fun v1 ev1 => ?_)
  have h := of_bnd h ev1
  refine lv_if_le (tgt := 19) hx hb dX2_mayGo_4 (by decide) (fun c4 => ?_) (fun c4 => ?_)
  · have h := of_it h c4
    refine lv_iconst (v := 0) hx hb dX2_mayGo_19 (by decide) ?_
    obtain rfl := Option.some.inj h
    exact C_iret hx hb hr hlocks hw (by first | rfl | decide) dX2_mayGo_20
  · have h := of_if h c4
    refine lv_aload_n hx hb dX2_mayGo_7 rfl (lv_at hl 0 rfl) ?_
    refine C_get hx hb hts hinX2 hown hK hw (cell_3 hf1) (by omega) rfl 3 (by decide) (index := 38) (by decide +kernel) rfl rfl dX2_mayGo_8 ?_
    refine lv_topi (fun v8 ev8 => ?_)
    have h := of_bnd h ev8
    refine lv_iload_n hx hb dX2_mayGo_11 rfl (lv_at hl 1 rfl) ?_
    refine lv_icmp_lt (tgt := 19) hx hb dX2_mayGo_12 (by decide) (fun c12 => ?_) (fun c12 => ?_)
    · have h := of_it h c12
      refine lv_iconst (v := 0) hx hb dX2_mayGo_19 (by decide) ?_
      obtain rfl := Option.some.inj h
      exact C_iret hx hb hr hlocks hw (by first | rfl | decide) dX2_mayGo_20
    · have h := of_if h c12
      refine lv_iconst (v := 1) hx hb dX2_mayGo_15 (by decide) ?_
      refine lv_goto (tgt := 20) hx hb dX2_mayGo_16 (by decide) ?_
      obtain rfl := Option.some.inj h
      exact C_iret hx hb hr hlocks hw (by first | rfl | decide) dX2_mayGo_20

def fX2_lose (n : Nat × Nat) (S : CS) (a0 : Nat) (a1 : Int32) : Option (Int32 × CS) :=
  grd (cD S a0 = 3) (bnd (cI S 65 a0) (fun v1 => bnd (if a1 < v1 then a1 else v1) (fun r5 => bnd (cI S 65 a0) (fun v11 => bnd (uI S 65 a0 (v11 - r5)) (fun S16 => some (r5, S16))))))
set_option maxHeartbeats 8000000 in
set_option maxRecDepth 100000 in
theorem cX2_lose_ok (l : Launch) (D : va_G) (cc : Nat → ClassId) (E : Nat → Nat) (n : Nat × Nat) (S : CS) (a0 : Nat) (a1 : Int32) {r : Int32} {T : CS} (h : fX2_lose n S a0 a1 = some (r, T)) : Ci l yX2_lose wsX2_lose 1 21 D cc E [.ref a0, .int a1] S r T 0 0 := by
  refine C_of (own := RX2) (bb := cX2_lose) (nL := 3) (ret := (some .int)) (by decide) rfl rfl (Nat.le_of_ble_eq_true rfl) ?_
  intro p e s m args below meth c hx hb hr hlocks hml hts hown hnm hA hK hro hw ls hl
  generalize va_A (cPs cc S) (nx S) = A at hA hro hw ⊢
  unfold fX2_lose at h
  have hinX2 : ∀ w ∈ wsX20, w ∈ wsX2_lose := by decide +kernel
  have hl : lv_has ls 3 [(0, .ref a0), (1, .int a1)] := hl
  refine lv_aload_n hx hb dX2_lose_0 rfl (lv_at hl 0 rfl) ?_
  obtain ⟨hf1, h⟩ := of_grd h
  refine C_get hx hb hts hinX2 hown hK hw (cell_3 hf1) (by omega) rfl 5 (by decide) (index := 44) (by decide +kernel) rfl rfl dX2_lose_1 ?_
  refine lv_topi (fun v1 ev1 => ?_)
  have h := of_bnd h ev1
  refine lv_iload_n hx hb dX2_lose_4 rfl (lv_at hl 1 rfl) ?_
  refine va_mmin (rest := []) hx hb (hml.trans hl.1.symm) hown (hts (.methodLink RX2 47 Lib.Math.min.name) (by decide +kernel)) (hts (.static Lib.Math.min.name) (by decide +kernel)) (hts (.initialized "java/lang/Math") (by decide +kernel)) (hts (.code Lib.Math.min.name Lib.Math.min.code 2 (some .int)) (by decide +kernel)) (Nat.le_of_ble_eq_true rfl) (Nat.le_of_ble_eq_true rfl) (Nat.zero_le _) (Nat.zero_le _) dX2_lose_5 ?_
  refine lv_topi (fun r5 er5 => ?_)
  have h := of_bnd h er5
  refine lv_istore_n (lv' := [(2, .int r5), (0, .ref a0), (1, .int a1)]) hx hb dX2_lose_8 rfl hl (by decide) rfl (fun ls hl => ?_)
  refine lv_aload_n hx hb dX2_lose_9 rfl (lv_at hl 1 rfl) ?_
  refine lv_dup hx hb dX2_lose_10 rfl ?_
  refine C_get hx hb hts hinX2 hown hK hw (cell_3 hf1) (by omega) rfl 5 (by decide) (index := 44) (by decide +kernel) rfl rfl dX2_lose_11 ?_
  refine lv_topi (fun v11 ev11 => ?_)
  have h := of_bnd h ev11
  refine lv_iload_n hx hb dX2_lose_14 rfl (lv_at hl 0 rfl) ?_
  refine lv_isub hx hb dX2_lose_15 ?_
  refine C_put hx hb hts hinX2 tyX2 tyX2_ok nmX2 hown hK hw (cell_3 hf1) (by omega) rfl 5 (by decide) (index := 44) (by decide +kernel) rfl rfl (ty := .int) (by decide +kernel) rfl rfl (Nat.le_of_ble_eq_true rfl) (S' := uI S 65 a0 (v11 - r5)) rfl rfl rfl (pu_65 hf1 (v11 - r5)) (fun b hb => off_uI hb) dX2_lose_16 (fun S16 H locs eS16 hw => ?_)
  have h := of_bnd h eS16
  refine lv_iload_n hx hb dX2_lose_19 rfl (lv_at hl 0 rfl) ?_
  obtain ⟨rfl, rfl⟩ := of_ret2 h
  exact C_iret hx hb hr hlocks hw (by rfl) dX2_lose_20

def fX10_init (n : Nat × Nat) (S : CS) (a0 : Nat) (a1 : Int32) (a2 : Int32) (a3 : Option Nat) : Option (CS) :=
  grd (cD S a0 = 11) (bnd (uI S 220 a0 a1) (fun S6 => bnd (uI S6 221 a0 a2) (fun S11 => bnd (uR S11 222 a0 a3) (fun S16 => some S16))))
set_option maxHeartbeats 8000000 in
set_option maxRecDepth 100000 in
theorem cX10_init_ok (l : Launch) (D : va_G) (cc : Nat → ClassId) (E : Nat → Nat) (n : Nat × Nat) (S : CS) (a0 : Nat) (a1 : Int32) (a2 : Int32) (a3 : Option Nat) {T : CS} (h : fX10_init n S a0 a1 a2 a3 = some T) : Cv l yX10_init wsX10_init 1 20 D cc E [.ref a0, .int a1, .int a2, va_rf a3] S T 0 0 := by
  refine C_of (own := RX10) (bb := cX10_init) (nL := 4) (ret := none) (by decide) rfl rfl (Nat.le_of_ble_eq_true (by cases a3 <;> rfl)) ?_
  intro p e s m args below meth c hx hb hr hlocks hml hts hown hnm hA hK hro hw ls hl
  generalize va_A (cPs cc S) (nx S) = A at hA hro hw ⊢
  unfold fX10_init at h
  have hinX10 : ∀ w ∈ wsX100, w ∈ wsX10_init := by decide +kernel
  have hl : lv_has ls 4 [(0, .ref a0), (1, .int a1), (2, .int a2), (3, va_rf a3)] := hl
  refine lv_aload_n hx hb dX10_init_0 rfl (lv_at hl 0 rfl) ?_
  refine W.objInit hx hb hown (hts (.methodLink RX10 1 objectInit) (by decide +kernel)) (hts (.instanceMethod objectInit) (by decide +kernel)) (hts (.code objectInit ⟨#[0xb1]⟩ 1 none) (by decide +kernel)) rfl (by rw [hml]; exact hl.1) rfl dX10_init_1 (Nat.le_of_ble_eq_true rfl) (Nat.le_of_ble_eq_true rfl) ?_
  refine W.eq (g2 := F0 m 4 ls []) rfl ?_
  refine lv_aload_n hx hb dX10_init_4 rfl (lv_at hl 0 rfl) ?_
  refine lv_iload_n hx hb dX10_init_5 rfl (lv_at hl 1 rfl) ?_
  obtain ⟨hf1, h⟩ := of_grd h
  refine C_putF hx hb hts hinX10 tyX10 tyX10_ok nmX10 hown hK hw (cell_11 hf1) (by omega) rfl 0 (by decide) (index := 7) (by decide +kernel) rfl rfl hnm rfl (ty := .int) (by decide +kernel) rfl rfl (Nat.le_of_ble_eq_true rfl) (S' := uI S 220 a0 a1) rfl rfl rfl (pu_220 hf1 a1) (fun b hb => off_uI hb) dX10_init_6 (fun S6 H locs eS6 hw => ?_)
  have h := of_bnd h eS6
  refine lv_aload_n hx hb dX10_init_9 rfl (lv_at hl 0 rfl) ?_
  refine lv_iload_n hx hb dX10_init_10 rfl (lv_at hl 2 rfl) ?_
  have hf2 : cD S6 a0 = 11 := by rw [eS6]; exact hf1
  refine C_putF hx hb hts hinX10 tyX10 tyX10_ok nmX10 hown hK hw (cell_11 hf2) (by omega) rfl 1 (by decide) (index := 13) (by decide +kernel) rfl rfl hnm rfl (ty := .int) (by decide +kernel) rfl rfl (Nat.le_of_ble_eq_true rfl) (S' := uI S6 221 a0 a2) rfl rfl rfl (pu_221 hf2 a2) (fun b hb => off_uI hb) dX10_init_11 (fun S11 H locs eS11 hw => ?_)
  have h := of_bnd h eS11
  refine lv_aload_n hx hb dX10_init_14 rfl (lv_at hl 0 rfl) ?_
  refine lv_aload_nq hx hb dX10_init_15 rfl (lv_at hl 3 rfl) ?_
  have hf3 : cD S11 a0 = 11 := by rw [eS11]; exact hf2
  refine C_putF hx hb hts hinX10 tyX10 tyX10_ok nmX10 hown hK hw (cell_11 hf3) (by omega) rfl 2 (by decide) (index := 16) (by decide +kernel) rfl rfl hnm rfl (ty := (.object "FoodShares$Weighing")) (by decide +kernel) (nar_rf _ _) (fit_rf _ _) (Nat.le_of_ble_eq_true rfl) (S' := uR S11 222 a0 a3) rfl rfl rfl (pu_222 hf3 a3) (fun b hb => off_uR hb) dX10_init_16 (fun S16 H locs eS16 hw => ?_)
  have h := of_bnd h eS16
  obtain rfl := Option.some.inj h
  exact C_vret hx hb hr hlocks hw dX10_init_19

def fX2_gramsAsKnown_lp5 (n : Nat × Nat) (S : CS) (f1 : Int32) : Nat → Option Nat → Option (Nat × (Option Nat))
  | 0, _ => none
  | k + 1, l2 =>
    oel l2 (some (1, none)) (fun b6 => grd (cD S b6 = 11) (bnd (cI S 221 b6) (fun v10 => if f1 < v10 then 
          bnd (cR S 222 b6) (fun o23 => fX2_gramsAsKnown_lp5 n S f1 k o23 )
          else some (0, (some b6)))))
def fX2_gramsAsKnown (n : Nat × Nat) (S : CS) (a0 : Nat) (a1 : Int32) : Option Int32 :=
  grd (cD S a0 = 3) (bnd (cR S 70 a0) (fun o1 => cal (fX2_gramsAsKnown_lp5 n S a1 n.1 o1 ) (un2 fun e5 t2_5 => if e5 = 0 then onn t2_5 (fun n18_t2_5 => grd (cD S n18_t2_5 = 11) (bnd (cI S 220 n18_t2_5) (fun v18 => some v18))) else bnd (cI S 62 a0) (fun v31 => some v31))))
set_option maxHeartbeats 8000000 in
set_option maxRecDepth 100000 in
theorem cX2_gramsAsKnown_ok (l : Launch) (D : va_G) (cc : Nat → ClassId) (E : Nat → Nat) (n : Nat × Nat) (S : CS) (a0 : Nat) (a1 : Int32) {r : Int32} (h : fX2_gramsAsKnown n S a0 a1 = some r) : Ci l yX2_gramsAsKnown wsX2_gramsAsKnown 0 0 D cc E [.ref a0, .int a1] S r S 0 0 := by
  refine C_of (own := RX2) (bb := cX2_gramsAsKnown) (nL := 3) (ret := (some .int)) (by decide) rfl rfl (Nat.le_of_ble_eq_true rfl) ?_
  intro p e s m args below meth c hx hb hr hlocks hml hts hown hnm hA hK hro hw ls hl
  generalize va_A (cPs cc S) (nx S) = A at hA hro hw ⊢
  unfold fX2_gramsAsKnown at h
  have hinX10 : ∀ w ∈ wsX100, w ∈ wsX2_gramsAsKnown := by decide +kernel
  have hinX2 : ∀ w ∈ wsX20, w ∈ wsX2_gramsAsKnown := by decide +kernel
  have hl : lv_has ls 3 [(0, .ref a0), (1, .int a1)] := hl
  refine lv_aload_n hx hb dX2_gramsAsKnown_0 rfl (lv_at hl 0 rfl) ?_
  obtain ⟨hf1, h⟩ := of_grd h
  obtain ⟨o1, eo1⟩ : ∃ o, o = cR S 70 a0 := ⟨_, rfl⟩
  have h := of_bnd h eo1
  refine C_get hx hb hts hinX2 hown hK hw (cell_3 hf1) (by omega) rfl 10 (by decide) (index := 25) (by decide +kernel) rfl (v := va_rf o1) (congrArg (fun o => some (va_rf o)) eo1.symm) dX2_gramsAsKnown_1 ?_
  refine lv_astore_nq (lv' := [(2, va_rf o1), (0, .ref a0), (1, .int a1)]) hx hb dX2_gramsAsKnown_4 rfl hl (by decide) rfl (fun ls hl => ?_)
  have lp5 : ∀ (f0 : Nat) (f1 : Int32) (S : CS) (k : Nat) (l2 : Option Nat) (q : Nat × (Option Nat)) , fX2_gramsAsKnown_lp5 n S f1 k l2  = some q → ∀ (H : Heap) (locs : List Loc), cWd D cc A s.heap S H locs → ∀ ls : Array Slot, lv_has ls 3 [(0, .ref f0), (1, .int f1), (2, va_rf l2)] → (∀ (t2 : Option Nat), (0, t2) = q → ∀ (H : Heap) (locs : List Loc), cWd D cc A s.heap S H locs → ∀ ls : Array Slot, lv_has ls 3 [(2, va_rf t2)] → W p l e (cRm 0 0 0 0) s m args below meth c H locs (0) (0) (MQ below (va_Qi (fun x u => x = r ∧ u = S) (cAft D cc A) A) args s 0 0 A) (F0 m 17 ls [])) → (∀ (t2 : Option Nat), (1, t2) = q → ∀ (H : Heap) (locs : List Loc), cWd D cc A s.heap S H locs → ∀ ls : Array Slot, lv_has ls 3 [(0, .ref f0)] → W p l e (cRm 0 0 0 0) s m args below meth c H locs (0) (0) (MQ below (va_Qi (fun x u => x = r ∧ u = S) (cAft D cc A) A) args s 0 0 A) (F0 m 30 ls [])) → W p l e (cRm 0 0 0 0) s m args below meth c H locs (0) (0) (MQ below (va_Qi (fun x u => x = r ∧ u = S) (cAft D cc A) A) args s 0 0 A) (F0 m 5 ls []) := by
    intro f0 f1 S k
    induction k with
    | zero => intro l2 q h; rw [fX2_gramsAsKnown_lp5] at h; cases h
    | succ k ih5 =>
      intro l2 q h H locs hw ls hl kx5_0 kx5_1
      rw [fX2_gramsAsKnown_lp5] at h
      refine lv_aload_nq hx hb dX2_gramsAsKnown_5 rfl (lv_at hl 2 rfl) ?_
      rcases l2 with _ | b6
      · have h := of_oelN h
        have hl : lv_has ls 3 [(0, .ref f0), (1, .int f1), (2, .null)] := hl
        refine lv_ifnullN (tgt := 30) hx hb dX2_gramsAsKnown_6 (by decide) ?_
        exact kx5_1 none (Option.some.inj h) _ _ hw ls (lv_sub hl [0] rfl)
      · have h := of_oelS h
        have hl : lv_has ls 3 [(0, .ref f0), (1, .int f1), (2, .ref b6)] := hl
        refine lv_ifnull hx hb dX2_gramsAsKnown_6 ?_
        refine lv_aload_n hx hb dX2_gramsAsKnown_9 rfl (lv_at hl 2 rfl) ?_
        obtain ⟨hf2, h⟩ := of_grd h
        refine C_get hx hb hts hinX10 hown hK hw (cell_11 hf2) (by omega) rfl 1 (by decide) (index := 53) (by decide +kernel) rfl rfl dX2_gramsAsKnown_10 ?_
        refine lv_topi (fun v10 ev10 => ?_)
        have h := of_bnd h ev10
        refine lv_iload_n hx hb dX2_gramsAsKnown_13 rfl (lv_at hl 1 rfl) ?_
        refine lv_icmp_gt (tgt := 22) hx hb dX2_gramsAsKnown_14 (by decide) (fun c14 => ?_) (fun c14 => ?_)
        · have h := of_it h c14
          refine lv_aload_n hx hb dX2_gramsAsKnown_22 rfl (lv_at hl 2 rfl) ?_
          obtain ⟨o23, eo23⟩ : ∃ o, o = cR S 222 b6 := ⟨_, rfl⟩
          have h := of_bnd h eo23
          refine C_get hx hb hts hinX10 hown hK hw (cell_11 hf2) (by omega) rfl 2 (by decide) (index := 61) (by decide +kernel) rfl (v := va_rf o23) (congrArg (fun o => some (va_rf o)) eo23.symm) dX2_gramsAsKnown_23 ?_
          refine lv_astore_nq (lv' := [(2, va_rf o23), (0, .ref f0), (1, .int f1)]) hx hb dX2_gramsAsKnown_26 rfl hl (by decide) rfl (fun ls hl => ?_)
          refine lv_goto (tgt := 5) hx hb dX2_gramsAsKnown_27 (by decide) ?_
          exact ih5 o23 _ h _ _ hw ls (lv_sub hl [1, 2, 0] rfl) kx5_0 kx5_1
        · have h := of_if h c14
          exact kx5_0 (some b6) (Option.some.inj h) _ _ hw ls (lv_sub hl [2] rfl)
  obtain ⟨q5, hq5, h⟩ := of_cal h
  refine lp5 a0 a1 S n.1 o1 q5  hq5 _ _ hw ls (lv_sub hl [1, 2, 0] rfl) ?_ ?_
  · intro t2_5 eq H locs hw ls hl
    subst eq
    have h := of_un2 h
    have h := of_it h rfl
    refine lv_aload_nq hx hb dX2_gramsAsKnown_17 rfl (lv_at hl 0 rfl) ?_
    obtain ⟨n18_t2_5, en18_t2_5, h⟩ := of_onn h
    subst en18_t2_5
    have hl : lv_has ls 3 [(2, .ref n18_t2_5)] := hl
    obtain ⟨hf3, h⟩ := of_grd h
    refine C_get hx hb hts hinX10 hown hK hw (cell_11 hf3) (by omega) rfl 0 (by decide) (index := 58) (by decide +kernel) rfl rfl dX2_gramsAsKnown_18 ?_
    refine lv_topi (fun v18 ev18 => ?_)
    have h := of_bnd h ev18
    obtain rfl := Option.some.inj h
    exact C_iret hx hb hr hlocks hw (by rfl) dX2_gramsAsKnown_21
  · intro t2_5 eq H locs hw ls hl
    subst eq
    have h := of_un2 h
    have h := of_if h (by decide)
    refine lv_aload_n hx hb dX2_gramsAsKnown_30 rfl (lv_at hl 0 rfl) ?_
    refine C_get hx hb hts hinX2 hown hK hw (cell_3 hf1) (by omega) rfl 2 (by decide) (index := 35) (by decide +kernel) rfl rfl dX2_gramsAsKnown_31 ?_
    refine lv_topi (fun v31 ev31 => ?_)
    have h := of_bnd h ev31
    obtain rfl := Option.some.inj h
    exact C_iret hx hb hr hlocks hw (by rfl) dX2_gramsAsKnown_34

def fX4_init (n : Nat × Nat) (S : CS) (a0 : Nat) (a1 : Int32) (a2 : Int32) (a3 : Int32) (a4 : Option Nat) : Option (CS) :=
  grd (cD S a0 = 5) (bnd (uI S 100 a0 a1) (fun S6 => bnd (uI S6 101 a0 a2) (fun S11 => bnd (uI S11 102 a0 a3) (fun S16 => bnd (uR S16 103 a0 a4) (fun S22 => some S22)))))
set_option maxHeartbeats 8000000 in
set_option maxRecDepth 100000 in
theorem cX4_init_ok (l : Launch) (D : va_G) (cc : Nat → ClassId) (E : Nat → Nat) (n : Nat × Nat) (S : CS) (a0 : Nat) (a1 : Int32) (a2 : Int32) (a3 : Int32) (a4 : Option Nat) {T : CS} (h : fX4_init n S a0 a1 a2 a3 a4 = some T) : Cv l yX4_init wsX4_init 1 20 D cc E [.ref a0, .int a1, .int a2, .int a3, va_rf a4] S T 0 0 := by
  refine C_of (own := RX4) (bb := cX4_init) (nL := 5) (ret := none) (by decide) rfl rfl (Nat.le_of_ble_eq_true (by cases a4 <;> rfl)) ?_
  intro p e s m args below meth c hx hb hr hlocks hml hts hown hnm hA hK hro hw ls hl
  generalize va_A (cPs cc S) (nx S) = A at hA hro hw ⊢
  unfold fX4_init at h
  have hinX4 : ∀ w ∈ wsX40, w ∈ wsX4_init := by decide +kernel
  have hl : lv_has ls 5 [(0, .ref a0), (1, .int a1), (2, .int a2), (3, .int a3), (4, va_rf a4)] := hl
  refine lv_aload_n hx hb dX4_init_0 rfl (lv_at hl 0 rfl) ?_
  refine W.objInit hx hb hown (hts (.methodLink RX4 1 objectInit) (by decide +kernel)) (hts (.instanceMethod objectInit) (by decide +kernel)) (hts (.code objectInit ⟨#[0xb1]⟩ 1 none) (by decide +kernel)) rfl (by rw [hml]; exact hl.1) rfl dX4_init_1 (Nat.le_of_ble_eq_true rfl) (Nat.le_of_ble_eq_true rfl) ?_
  refine W.eq (g2 := F0 m 4 ls []) rfl ?_
  refine lv_aload_n hx hb dX4_init_4 rfl (lv_at hl 0 rfl) ?_
  refine lv_iload_n hx hb dX4_init_5 rfl (lv_at hl 1 rfl) ?_
  obtain ⟨hf1, h⟩ := of_grd h
  refine C_putF hx hb hts hinX4 tyX4 tyX4_ok nmX4 hown hK hw (cell_5 hf1) (by omega) rfl 0 (by decide) (index := 7) (by decide +kernel) rfl rfl hnm rfl (ty := .int) (by decide +kernel) rfl rfl (Nat.le_of_ble_eq_true rfl) (S' := uI S 100 a0 a1) rfl rfl rfl (pu_100 hf1 a1) (fun b hb => off_uI hb) dX4_init_6 (fun S6 H locs eS6 hw => ?_)
  have h := of_bnd h eS6
  refine lv_aload_n hx hb dX4_init_9 rfl (lv_at hl 0 rfl) ?_
  refine lv_iload_n hx hb dX4_init_10 rfl (lv_at hl 2 rfl) ?_
  have hf2 : cD S6 a0 = 5 := by rw [eS6]; exact hf1
  refine C_putF hx hb hts hinX4 tyX4 tyX4_ok nmX4 hown hK hw (cell_5 hf2) (by omega) rfl 1 (by decide) (index := 13) (by decide +kernel) rfl rfl hnm rfl (ty := .int) (by decide +kernel) rfl rfl (Nat.le_of_ble_eq_true rfl) (S' := uI S6 101 a0 a2) rfl rfl rfl (pu_101 hf2 a2) (fun b hb => off_uI hb) dX4_init_11 (fun S11 H locs eS11 hw => ?_)
  have h := of_bnd h eS11
  refine lv_aload_n hx hb dX4_init_14 rfl (lv_at hl 0 rfl) ?_
  refine lv_iload_n hx hb dX4_init_15 rfl (lv_at hl 3 rfl) ?_
  have hf3 : cD S11 a0 = 5 := by rw [eS11]; exact hf2
  refine C_put hx hb hts hinX4 tyX4 tyX4_ok nmX4 hown hK hw (cell_5 hf3) (by omega) rfl 2 (by decide) (index := 16) (by decide +kernel) rfl rfl (ty := .int) (by decide +kernel) rfl rfl (Nat.le_of_ble_eq_true rfl) (S' := uI S11 102 a0 a3) rfl rfl rfl (pu_102 hf3 a3) (fun b hb => off_uI hb) dX4_init_16 (fun S16 H locs eS16 hw => ?_)
  have h := of_bnd h eS16
  refine lv_aload_n hx hb dX4_init_19 rfl (lv_at hl 0 rfl) ?_
  refine lv_aloadq hx hb dX4_init_20 (lv_at hl 4 rfl) ?_
  have hf4 : cD S16 a0 = 5 := by rw [eS16]; exact hf3
  refine C_putF hx hb hts hinX4 tyX4 tyX4_ok nmX4 hown hK hw (cell_5 hf4) (by omega) rfl 3 (by decide) (index := 19) (by decide +kernel) rfl rfl hnm rfl (ty := (.object "FoodShares$Referral")) (by decide +kernel) (nar_rf _ _) (fit_rf _ _) (Nat.le_of_ble_eq_true rfl) (S' := uR S16 103 a0 a4) rfl rfl rfl (pu_103 hf4 a4) (fun b hb => off_uR hb) dX4_init_22 (fun S22 H locs eS22 hw => ?_)
  have h := of_bnd h eS22
  obtain rfl := Option.some.inj h
  exact C_vret hx hb hr hlocks hw dX4_init_25

def fX4_holds (n : Nat × Nat) (S : CS) (a0 : Nat) (a1 : Int32) : Option Int32 :=
  grd (cD S a0 = 5) (bnd (cI S 100 a0) (fun v2 => bnd (cI S 101 a0) (fun v6 => bnd (fX11_isWithin a1 v2 v6) (fun r9 => some r9))))
set_option maxHeartbeats 8000000 in
set_option maxRecDepth 100000 in
theorem cX4_holds_ok (l : Launch) (D : va_G) (cc : Nat → ClassId) (E : Nat → Nat) (n : Nat × Nat) (S : CS) (a0 : Nat) (a1 : Int32) {r : Int32} (h : fX4_holds n S a0 a1 = some r) : Ci l yX4_holds wsX4_holds 1 22 D cc E [.ref a0, .int a1] S r S 0 0 := by
  refine C_of (own := RX4) (bb := cX4_holds) (nL := 2) (ret := (some .boolean)) (by decide) rfl rfl (Nat.le_of_ble_eq_true rfl) ?_
  intro p e s m args below meth c hx hb hr hlocks hml hts hown hnm hA hK hro hw ls hl
  generalize va_A (cPs cc S) (nx S) = A at hA hro hw ⊢
  unfold fX4_holds at h
  have hinX4 : ∀ w ∈ wsX40, w ∈ wsX4_holds := by decide +kernel
  have hl : lv_has ls 2 [(0, .ref a0), (1, .int a1)] := hl
  refine lv_iload_n hx hb dX4_holds_0 rfl (lv_at hl 1 rfl) ?_
  refine lv_aload_n hx hb dX4_holds_1 rfl (lv_at hl 0 rfl) ?_
  obtain ⟨hf1, h⟩ := of_grd h
  refine C_get hx hb hts hinX4 hown hK hw (cell_5 hf1) (by omega) rfl 0 (by decide) (index := 7) (by decide +kernel) rfl rfl dX4_holds_2 ?_
  refine lv_topi (fun v2 ev2 => ?_)
  have h := of_bnd h ev2
  refine lv_aload_n hx hb dX4_holds_5 rfl (lv_at hl 0 rfl) ?_
  refine C_get hx hb hts hinX4 hown hK hw (cell_5 hf1) (by omega) rfl 1 (by decide) (index := 13) (by decide +kernel) rfl rfl dX4_holds_6 ?_
  refine lv_topi (fun v6 ev6 => ?_)
  have h := of_bnd h ev6
  refine C_s (va_runSN (As := [.int a1, .int v2, .int v6]) (rest := []) ⟨hx, hb, hml, hown, hts⟩ (cX11_isWithin_ok l a1 v2 v6) ⟨va_cnB 3 hts gX4_holds_X11_isWithin_n23 rfl rfl rfl (hro.1 (RX4, 23, yX11_isWithin) (by decide +kernel)) (hts (.initialized RX11) (by decide +kernel)) (by decide +kernel) ⟨Nat.le_of_ble_eq_true rfl, Nat.le_of_ble_eq_true rfl⟩, (hts (.static yX11_isWithin) (by decide +kernel)), trivial⟩ ⟨fun a U g mk q => ⟨q.1, trivial⟩, fun U hU hW => ⟨rfl, trivial⟩⟩ rfl rfl hl.1 rfl (lv_room (Nat.le_of_ble_eq_true rfl)) dX4_holds_9 ⟨Nat.le_refl _, Nat.le_refl _⟩) (fun r9 er9 => ?_)
  have h := of_bnd h er9
  obtain rfl := Option.some.inj h
  exact C_iret hx hb hr hlocks hw (by rw [er9]; exact fX11_isWithin_nar _ _ _) dX4_holds_12

def fX0_init (n : Nat × Nat) (S : CS) (a0 : Nat) (a1 : Int32) (a2 : Int32) : Option (CS × Nat × Nat) :=
  adc 1 20 (bnd (nx S) (fun q7 => bnd (nw S 41 20) (fun S7 => grd (cD S7 a0 = 1) (bnd (uR S7 22 a0 (some q7)) (fun S9 => bnd (uR S9 23 a0 none) (fun S14 => bnd (uI S14 20 a0 a1) (fun S19 => bnd (uI S19 21 a0 a2) (fun S24 => some (S24, 0, 0)))))))))
set_option maxHeartbeats 8000000 in
set_option maxRecDepth 100000 in
theorem cX0_init_ok (l : Launch) (D : va_G) (cc : Nat → ClassId) (E : Nat → Nat) (n : Nat × Nat) (S : CS) (a0 : Nat) (a1 : Int32) (a2 : Int32) {T : CS} {mc ms : Nat} (h : fX0_init n S a0 a1 a2 = some (T, mc, ms)) : Cv l yX0_init wsX0_init 1 20 D cc E [.ref a0, .int a1, .int a2] S T mc ms := by
  refine C_of (own := RX0) (bb := cX0_init) (nL := 3) (ret := none) (by decide) rfl rfl (Nat.le_of_ble_eq_true rfl) ?_
  intro p e s m args below meth c hx hb hr hlocks hml hts hown hnm hA hK hro hw ls hl
  generalize va_A (cPs cc S) (nx S) = A at hA hro hw ⊢
  unfold fX0_init at h
  have hinX0 : ∀ w ∈ wsX00, w ∈ wsX0_init := by decide +kernel
  have hl : lv_has ls 3 [(0, .ref a0), (1, .int a1), (2, .int a2)] := hl
  refine W.widen (k := mc - mc) (n := ms - ms) (by omega) (by omega) ?_
  have hk1 : mc ≤ mc := Nat.le_refl _
  have hk2 : ms ≤ ms := Nat.le_refl _
  refine lv_aload_n hx hb dX0_init_0 rfl (lv_at hl 0 rfl) ?_
  refine W.objInit hx hb hown (hts (.methodLink RX0 3 objectInit) (by decide +kernel)) (hts (.instanceMethod objectInit) (by decide +kernel)) (hts (.code objectInit ⟨#[0xb1]⟩ 1 none) (by decide +kernel)) rfl (by rw [hml]; exact hl.1) rfl dX0_init_1 (Nat.le_of_ble_eq_true rfl) (Nat.le_of_ble_eq_true rfl) ?_
  refine W.eq (g2 := F0 m 4 ls []) rfl ?_
  refine lv_aload_n hx hb dX0_init_4 rfl (lv_at hl 0 rfl) ?_
  refine lv_bipush (v := 20) hx hb dX0_init_5 (by decide) ?_
  obtain ⟨kc1, ks1, h, ek1, ek2⟩ := of_adc h
  refine C_newa (d := 41) hx hb hts (by decide +kernel) (ty := .int) rfl hK hA hw 0 rfl (fun _ _ => rfl) (N' := 20) (fun _ => rfl) (cnew_A S (by decide) (by decide)) (by decide) (by decide) (by decide) (by decide) (by show _ ≤ mc; omega) (by show _ ≤ ms; omega) dX0_init_7 (fun q7 S7 H eq7 eS7 hw => ?_)
  have h := of_bnd h eq7
  have h := of_bnd h eS7
  refine W.widen (k := mc - kc1) (n := ms - ks1) (by omega) (by omega) ?_
  have hk1 : kc1 ≤ mc := by omega
  have hk2 : ks1 ≤ ms := by omega
  have hf2 : cD S7 q7 = 41 := by rw [eS7, eq7]; exact cD_new _ _ _
  obtain ⟨hf3, h⟩ := of_grd h
  refine C_putF hx hb hts hinX0 tyX0 tyX0_ok nmX0 hown hK hw (cell_1 hf3) (by omega) rfl 2 (by decide) (index := 9) (by decide +kernel) rfl rfl hnm rfl (ty := (.array .int)) (by decide +kernel) rfl rfl (Nat.le_of_ble_eq_true rfl) (S' := uR S7 22 a0 (some q7)) rfl rfl rfl (pu_22 hf3 (some q7)) (fun b hb => off_uR hb) dX0_init_9 (fun S9 H locs eS9 hw => ?_)
  have h := of_bnd h eS9
  refine lv_aload_n hx hb dX0_init_12 rfl (lv_at hl 0 rfl) ?_
  refine lv_null hx hb dX0_init_13 ?_
  have hf4 : cD S9 a0 = 1 := by rw [eS9]; exact hf3
  refine C_put hx hb hts hinX0 tyX0 tyX0_ok nmX0 hown hK hw (cell_1 hf4) (by omega) rfl 3 (by decide) (index := 15) (by decide +kernel) rfl rfl (ty := (.object "FoodShares$Referral")) (by decide +kernel) rfl rfl (Nat.le_of_ble_eq_true rfl) (S' := uR S9 23 a0 none) rfl rfl rfl (pu_23 hf4 none) (fun b hb => off_uR hb) dX0_init_14 (fun S14 H locs eS14 hw => ?_)
  have h := of_bnd h eS14
  refine lv_aload_n hx hb dX0_init_17 rfl (lv_at hl 0 rfl) ?_
  refine lv_iload_n hx hb dX0_init_18 rfl (lv_at hl 1 rfl) ?_
  have hf5 : cD S14 a0 = 1 := by rw [eS14]; exact hf4
  refine C_putF hx hb hts hinX0 tyX0 tyX0_ok nmX0 hown hK hw (cell_1 hf5) (by omega) rfl 0 (by decide) (index := 19) (by decide +kernel) rfl rfl hnm rfl (ty := .int) (by decide +kernel) rfl rfl (Nat.le_of_ble_eq_true rfl) (S' := uI S14 20 a0 a1) rfl rfl rfl (pu_20 hf5 a1) (fun b hb => off_uI hb) dX0_init_19 (fun S19 H locs eS19 hw => ?_)
  have h := of_bnd h eS19
  refine lv_aload_n hx hb dX0_init_22 rfl (lv_at hl 0 rfl) ?_
  refine lv_iload_n hx hb dX0_init_23 rfl (lv_at hl 2 rfl) ?_
  have hf6 : cD S19 a0 = 1 := by rw [eS19]; exact hf5
  refine C_putF hx hb hts hinX0 tyX0 tyX0_ok nmX0 hown hK hw (cell_1 hf6) (by omega) rfl 1 (by decide) (index := 23) (by decide +kernel) rfl rfl hnm rfl (ty := .int) (by decide +kernel) rfl rfl (Nat.le_of_ble_eq_true rfl) (S' := uI S19 21 a0 a2) rfl rfl rfl (pu_21 hf6 a2) (fun b hb => off_uI hb) dX0_init_24 (fun S24 H locs eS24 hw => ?_)
  have h := of_bnd h eS24
  obtain ⟨rfl, ek1, ek2⟩ := of_retV h
  refine W.widen (k := mc) (n := ms) (by omega) (by omega) ?_
  exact C_vret hx hb hr hlocks hw dX0_init_27

def fX0_parcelsLeftOn_lp7 (n : Nat × Nat) (S : CS) (f1 : Int32) : Nat → Int32 → Option Nat → Option (Int32)
  | 0, _, _ => none
  | k + 1, l2, l3 =>
    oel l3 (some l2) (fun b8 => grd (cD S b8 = 5) (cal (fX4_holds n S b8 f1) (fun q13 => if q13 = 0 then 
          bnd (cR S 103 b8) (fun o27 => fX0_parcelsLeftOn_lp7 n S f1 k l2 o27 )
          else bnd (cI S 102 b8) (fun v21 => bnd (l2 + v21) (fun x25 => bnd (cR S 103 b8) (fun o27 => fX0_parcelsLeftOn_lp7 n S f1 k x25 o27 ))))))
def fX0_parcelsLeftOn (n : Nat × Nat) (S : CS) (a0 : Nat) (a1 : Int32) : Option Int32 :=
  bnd (0 : Int32) (fun x1 => grd (cD S a0 = 1) (bnd (cR S 23 a0) (fun o3 => cal (fX0_parcelsLeftOn_lp7 n S a1 n.1 x1 o3 ) (fun t2_7 => some t2_7))))
set_option maxHeartbeats 8000000 in
set_option maxRecDepth 100000 in
theorem cX0_parcelsLeftOn_ok (l : Launch) (D : va_G) (cc : Nat → ClassId) (E : Nat → Nat) (n : Nat × Nat) (S : CS) (a0 : Nat) (a1 : Int32) {r : Int32} (h : fX0_parcelsLeftOn n S a0 a1 = some r) : Ci l yX0_parcelsLeftOn wsX0_parcelsLeftOn 2 43 D cc E [.ref a0, .int a1] S r S 0 0 := by
  refine C_of (own := RX0) (bb := cX0_parcelsLeftOn) (nL := 4) (ret := (some .int)) (by decide) rfl rfl (Nat.le_of_ble_eq_true rfl) ?_
  intro p e s m args below meth c hx hb hr hlocks hml hts hown hnm hA hK hro hw ls hl
  generalize va_A (cPs cc S) (nx S) = A at hA hro hw ⊢
  unfold fX0_parcelsLeftOn at h
  have hinX0 : ∀ w ∈ wsX00, w ∈ wsX0_parcelsLeftOn := by decide +kernel
  have hinX4 : ∀ w ∈ wsX40, w ∈ wsX0_parcelsLeftOn := by decide +kernel
  have hl : lv_has ls 4 [(0, .ref a0), (1, .int a1)] := hl
  refine lv_iconst (v := 0) hx hb dX0_parcelsLeftOn_0 (by decide) ?_
  refine lv_topi (fun x1 ex1 => ?_)
  have h := of_bnd h ex1
  refine lv_istore_n (lv' := [(2, .int x1), (0, .ref a0), (1, .int a1)]) hx hb dX0_parcelsLeftOn_1 rfl hl (by decide) rfl (fun ls hl => ?_)
  refine lv_aload_n hx hb dX0_parcelsLeftOn_2 rfl (lv_at hl 1 rfl) ?_
  obtain ⟨hf1, h⟩ := of_grd h
  obtain ⟨o3, eo3⟩ : ∃ o, o = cR S 23 a0 := ⟨_, rfl⟩
  have h := of_bnd h eo3
  refine C_get hx hb hts hinX0 hown hK hw (cell_1 hf1) (by omega) rfl 3 (by decide) (index := 15) (by decide +kernel) rfl (v := va_rf o3) (congrArg (fun o => some (va_rf o)) eo3.symm) dX0_parcelsLeftOn_3 ?_
  refine lv_astore_nq (lv' := [(3, va_rf o3), (2, .int x1), (0, .ref a0), (1, .int a1)]) hx hb dX0_parcelsLeftOn_6 rfl hl (by decide) rfl (fun ls hl => ?_)
  have lp7 : ∀ (f1 : Int32) (S : CS) (k : Nat) (l2 : Int32) (l3 : Option Nat) (q : Int32) , fX0_parcelsLeftOn_lp7 n S f1 k l2 l3  = some q → ∀ (H : Heap) (locs : List Loc), cWd D cc A s.heap S H locs → ∀ ls : Array Slot, lv_has ls 4 [(1, .int f1), (2, .int l2), (3, va_rf l3)] → (∀ (t2 : Int32), t2 = q → ∀ (H : Heap) (locs : List Loc), cWd D cc A s.heap S H locs → ∀ ls : Array Slot, lv_has ls 4 [(2, .int t2)] → W p l e (cRm 2 43 0 0) s m args below meth c H locs (0) (0) (MQ below (va_Qi (fun x u => x = r ∧ u = S) (cAft D cc A) A) args s 0 0 A) (F0 m 34 ls [])) → W p l e (cRm 2 43 0 0) s m args below meth c H locs (0) (0) (MQ below (va_Qi (fun x u => x = r ∧ u = S) (cAft D cc A) A) args s 0 0 A) (F0 m 7 ls []) := by
    intro f1 S k
    induction k with
    | zero => intro l2 l3 q h; rw [fX0_parcelsLeftOn_lp7] at h; cases h
    | succ k ih7 =>
      intro l2 l3 q h H locs hw ls hl kx7_0
      rw [fX0_parcelsLeftOn_lp7] at h
      refine lv_aload_nq hx hb dX0_parcelsLeftOn_7 rfl (lv_at hl 2 rfl) ?_
      rcases l3 with _ | b8
      · have h := of_oelN h
        have hl : lv_has ls 4 [(1, .int f1), (2, .int l2), (3, .null)] := hl
        refine lv_ifnullN (tgt := 34) hx hb dX0_parcelsLeftOn_8 (by decide) ?_
        exact kx7_0 l2 (Option.some.inj h) _ _ hw ls (lv_sub hl [1] rfl)
      · have h := of_oelS h
        have hl : lv_has ls 4 [(1, .int f1), (2, .int l2), (3, .ref b8)] := hl
        refine lv_ifnull hx hb dX0_parcelsLeftOn_8 ?_
        refine lv_aload_n hx hb dX0_parcelsLeftOn_11 rfl (lv_at hl 2 rfl) ?_
        refine lv_iload_n hx hb dX0_parcelsLeftOn_12 rfl (lv_at hl 0 rfl) ?_
        obtain ⟨hf2, h⟩ := of_grd h
        obtain ⟨q13, hq13, h⟩ := of_cal h
        refine C_i hA hw (va_runV (As := [.int f1]) (rest := []) ⟨hx, hb, hml, hown, hts⟩ (cX4_holds_ok l D cc E n S b8 f1 hq13) (cwV 1 hts gX0_parcelsLeftOn_X4_holds rfl rfl rfl (by decide +kernel) ⟨Nat.le_of_ble_eq_true rfl, Nat.le_of_ble_eq_true rfl⟩) ⟨cBlind D cc E S _, C_recv hK hw (by omega) (cell_5 hf2) (r := (RX4, TX4, 4)) rfl, fun U hU hW => ⟨rfl, C_pre hA hK hro hw U hU hW⟩⟩ rfl rfl hl.1 rfl (lv_room (Nat.le_of_ble_eq_true rfl)) dX0_parcelsLeftOn_13 ⟨Nat.le_refl _, Nat.le_refl _⟩) (fun H locs hw => ?_)
        refine W.widen (k := 0) (n := 0) (Nat.le_refl _) (Nat.le_refl _) ?_
        refine lv_if_eq (tgt := 26) hx hb dX0_parcelsLeftOn_16 (by decide) (fun c16 => ?_) (fun c16 => ?_)
        · have h := of_it h c16
          refine lv_aload_n hx hb dX0_parcelsLeftOn_26 rfl (lv_at hl 2 rfl) ?_
          obtain ⟨o27, eo27⟩ : ∃ o, o = cR S 103 b8 := ⟨_, rfl⟩
          have h := of_bnd h eo27
          refine C_get hx hb hts hinX4 hown hK hw (cell_5 hf2) (by omega) rfl 3 (by decide) (index := 35) (by decide +kernel) rfl (v := va_rf o27) (congrArg (fun o => some (va_rf o)) eo27.symm) dX0_parcelsLeftOn_27 ?_
          refine lv_astore_nq (lv' := [(3, va_rf o27), (1, .int f1), (2, .int l2)]) hx hb dX0_parcelsLeftOn_30 rfl hl (by decide) rfl (fun ls hl => ?_)
          refine lv_goto (tgt := 7) hx hb dX0_parcelsLeftOn_31 (by decide) ?_
          exact ih7 l2 o27 _ h _ _ hw ls (lv_sub hl [1, 2, 0] rfl) kx7_0
        · have h := of_if h c16
          refine lv_iload_n hx hb dX0_parcelsLeftOn_19 rfl (lv_at hl 1 rfl) ?_
          refine lv_aload_n hx hb dX0_parcelsLeftOn_20 rfl (lv_at hl 2 rfl) ?_
          refine C_get hx hb hts hinX4 hown hK hw (cell_5 hf2) (by omega) rfl 2 (by decide) (index := 32) (by decide +kernel) rfl rfl dX0_parcelsLeftOn_21 ?_
          refine lv_topi (fun v21 ev21 => ?_)
          have h := of_bnd h ev21
          refine lv_iadd hx hb dX0_parcelsLeftOn_24 ?_
          refine lv_topi (fun x25 ex25 => ?_)
          have h := of_bnd h ex25
          refine lv_istore_n (lv' := [(2, .int x25), (1, .int f1), (3, .ref b8)]) hx hb dX0_parcelsLeftOn_25 rfl hl (by decide) rfl (fun ls hl => ?_)
          refine lv_aload_n hx hb dX0_parcelsLeftOn_26 rfl (lv_at hl 2 rfl) ?_
          obtain ⟨o27, eo27⟩ : ∃ o, o = cR S 103 b8 := ⟨_, rfl⟩
          have h := of_bnd h eo27
          refine C_get hx hb hts hinX4 hown hK hw (cell_5 hf2) (by omega) rfl 3 (by decide) (index := 35) (by decide +kernel) rfl (v := va_rf o27) (congrArg (fun o => some (va_rf o)) eo27.symm) dX0_parcelsLeftOn_27 ?_
          refine lv_astore_nq (lv' := [(3, va_rf o27), (2, .int x25), (1, .int f1)]) hx hb dX0_parcelsLeftOn_30 rfl hl (by decide) rfl (fun ls hl => ?_)
          refine lv_goto (tgt := 7) hx hb dX0_parcelsLeftOn_31 (by decide) ?_
          exact ih7 x25 o27 _ h _ _ hw ls (lv_sub hl [2, 1, 0] rfl) kx7_0
  obtain ⟨q7, hq7, h⟩ := of_cal h
  refine lp7 a1 S n.1 x1 o3 q7  hq7 _ _ hw ls (lv_sub hl [3, 1, 0] rfl) ?_
  · intro t2_7 eq H locs hw ls hl
    subst eq
    refine lv_iload_n hx hb dX0_parcelsLeftOn_34 rfl (lv_at hl 0 rfl) ?_
    obtain rfl := Option.some.inj h
    exact C_iret hx hb hr hlocks hw (by rfl) dX0_parcelsLeftOn_35

def fX0_referralFor_lp7 (n : Nat × Nat) (S : CS) (f1 : Int32) : Nat → Option Nat → Option Nat → Option ((Option Nat))
  | 0, _, _ => none
  | k + 1, l2, l3 =>
    oel l3 (some l2) (fun b8 => grd (cD S b8 = 5) (cal (fX4_holds n S b8 f1) (fun q13 => if q13 = 0 then 
          bnd (cR S 103 b8) (fun o44 => fX0_referralFor_lp7 n S f1 k l2 o44 )
          else bnd (cI S 102 b8) (fun v20 => if v20 ≤ 0 then 
            bnd (cR S 103 b8) (fun o44 => fX0_referralFor_lp7 n S f1 k l2 o44 )
            else oel l2 (bnd (cR S 103 b8) (fun o44 => fX0_referralFor_lp7 n S f1 k (some b8) o44 )) (fun b27 => bnd (cI S 101 b8) (fun v31 => grd (cD S b27 = 5) (bnd (cI S 101 b27) (fun v35 => if v35 < v31 then 
                bnd (cR S 103 b8) (fun o44 => fX0_referralFor_lp7 n S f1 k (some b27) o44 )
                else bnd (cR S 103 b8) (fun o44 => fX0_referralFor_lp7 n S f1 k (some b8) o44 )))))))))
def fX0_referralFor (n : Nat × Nat) (S : CS) (a0 : Nat) (a1 : Int32) : Option (Option Nat) :=
  grd (cD S a0 = 1) (bnd (cR S 23 a0) (fun o3 => cal (fX0_referralFor_lp7 n S a1 n.1 none o3 ) (fun t2_7 => some t2_7)))
set_option maxHeartbeats 8000000 in
set_option maxRecDepth 100000 in
theorem cX0_referralFor_ok (l : Launch) (D : va_G) (cc : Nat → ClassId) (E : Nat → Nat) (n : Nat × Nat) (S : CS) (a0 : Nat) (a1 : Int32) {r : Option Nat} (h : fX0_referralFor n S a0 a1 = some r) : Cq l yX0_referralFor wsX0_referralFor 2 43 D cc E [.ref a0, .int a1] S r S 0 0 := by
  refine C_of (own := RX0) (bb := cX0_referralFor) (nL := 4) (ret := (some (.object "FoodShares$Referral"))) (by decide) rfl rfl (Nat.le_of_ble_eq_true rfl) ?_
  intro p e s m args below meth c hx hb hr hlocks hml hts hown hnm hA hK hro hw ls hl
  generalize va_A (cPs cc S) (nx S) = A at hA hro hw ⊢
  unfold fX0_referralFor at h
  have hinX0 : ∀ w ∈ wsX00, w ∈ wsX0_referralFor := by decide +kernel
  have hinX4 : ∀ w ∈ wsX40, w ∈ wsX0_referralFor := by decide +kernel
  have hl : lv_has ls 4 [(0, .ref a0), (1, .int a1)] := hl
  refine lv_null hx hb dX0_referralFor_0 ?_
  refine lv_astore_nN (lv' := [(2, .null), (0, .ref a0), (1, .int a1)]) hx hb dX0_referralFor_1 rfl hl (by decide) rfl (fun ls hl => ?_)
  refine lv_aload_n hx hb dX0_referralFor_2 rfl (lv_at hl 1 rfl) ?_
  obtain ⟨hf1, h⟩ := of_grd h
  obtain ⟨o3, eo3⟩ : ∃ o, o = cR S 23 a0 := ⟨_, rfl⟩
  have h := of_bnd h eo3
  refine C_get hx hb hts hinX0 hown hK hw (cell_1 hf1) (by omega) rfl 3 (by decide) (index := 15) (by decide +kernel) rfl (v := va_rf o3) (congrArg (fun o => some (va_rf o)) eo3.symm) dX0_referralFor_3 ?_
  refine lv_astore_nq (lv' := [(3, va_rf o3), (2, .null), (0, .ref a0), (1, .int a1)]) hx hb dX0_referralFor_6 rfl hl (by decide) rfl (fun ls hl => ?_)
  have lp7 : ∀ (f1 : Int32) (S : CS) (k : Nat) (l2 : Option Nat) (l3 : Option Nat) (q : (Option Nat)) , fX0_referralFor_lp7 n S f1 k l2 l3  = some q → ∀ (H : Heap) (locs : List Loc), cWd D cc A s.heap S H locs → ∀ ls : Array Slot, lv_has ls 4 [(1, .int f1), (2, va_rf l2), (3, va_rf l3)] → (∀ (t2 : Option Nat), t2 = q → ∀ (H : Heap) (locs : List Loc), cWd D cc A s.heap S H locs → ∀ ls : Array Slot, lv_has ls 4 [(2, va_rf t2)] → W p l e (cRm 2 43 0 0) s m args below meth c H locs (0) (0) (MQ below (va_Qq (fun x u => x = r ∧ u = S) (cAft D cc A) A) args s 0 0 A) (F0 m 51 ls [])) → W p l e (cRm 2 43 0 0) s m args below meth c H locs (0) (0) (MQ below (va_Qq (fun x u => x = r ∧ u = S) (cAft D cc A) A) args s 0 0 A) (F0 m 7 ls []) := by
    intro f1 S k
    induction k with
    | zero => intro l2 l3 q h; rw [fX0_referralFor_lp7] at h; cases h
    | succ k ih7 =>
      intro l2 l3 q h H locs hw ls hl kx7_0
      rw [fX0_referralFor_lp7] at h
      refine lv_aload_nq hx hb dX0_referralFor_7 rfl (lv_at hl 2 rfl) ?_
      rcases l3 with _ | b8
      · have h := of_oelN h
        have hl : lv_has ls 4 [(1, .int f1), (2, va_rf l2), (3, .null)] := hl
        refine lv_ifnullN (tgt := 51) hx hb dX0_referralFor_8 (by decide) ?_
        exact kx7_0 l2 (Option.some.inj h) _ _ hw ls (lv_sub hl [1] rfl)
      · have h := of_oelS h
        have hl : lv_has ls 4 [(1, .int f1), (2, va_rf l2), (3, .ref b8)] := hl
        refine lv_ifnull hx hb dX0_referralFor_8 ?_
        refine lv_aload_n hx hb dX0_referralFor_11 rfl (lv_at hl 2 rfl) ?_
        refine lv_iload_n hx hb dX0_referralFor_12 rfl (lv_at hl 0 rfl) ?_
        obtain ⟨hf2, h⟩ := of_grd h
        obtain ⟨q13, hq13, h⟩ := of_cal h
        refine C_i hA hw (va_runV (As := [.int f1]) (rest := []) ⟨hx, hb, hml, hown, hts⟩ (cX4_holds_ok l D cc E n S b8 f1 hq13) (cwV 1 hts gX0_referralFor_X4_holds rfl rfl rfl (by decide +kernel) ⟨Nat.le_of_ble_eq_true rfl, Nat.le_of_ble_eq_true rfl⟩) ⟨cBlind D cc E S _, C_recv hK hw (by omega) (cell_5 hf2) (r := (RX4, TX4, 4)) rfl, fun U hU hW => ⟨rfl, C_pre hA hK hro hw U hU hW⟩⟩ rfl rfl hl.1 rfl (lv_room (Nat.le_of_ble_eq_true rfl)) dX0_referralFor_13 ⟨Nat.le_refl _, Nat.le_refl _⟩) (fun H locs hw => ?_)
        refine W.widen (k := 0) (n := 0) (Nat.le_refl _) (Nat.le_refl _) ?_
        refine lv_if_eq (tgt := 43) hx hb dX0_referralFor_16 (by decide) (fun c16 => ?_) (fun c16 => ?_)
        · have h := of_it h c16
          refine lv_aload_n hx hb dX0_referralFor_43 rfl (lv_at hl 2 rfl) ?_
          obtain ⟨o44, eo44⟩ : ∃ o, o = cR S 103 b8 := ⟨_, rfl⟩
          have h := of_bnd h eo44
          refine C_get hx hb hts hinX4 hown hK hw (cell_5 hf2) (by omega) rfl 3 (by decide) (index := 35) (by decide +kernel) rfl (v := va_rf o44) (congrArg (fun o => some (va_rf o)) eo44.symm) dX0_referralFor_44 ?_
          refine lv_astore_nq (lv' := [(3, va_rf o44), (1, .int f1), (2, va_rf l2)]) hx hb dX0_referralFor_47 rfl hl (by decide) (by cases l2 <;> rfl) (fun ls hl => ?_)
          refine lv_goto (tgt := 7) hx hb dX0_referralFor_48 (by decide) ?_
          exact ih7 l2 o44 _ h _ _ hw ls (lv_sub hl [1, 2, 0] rfl) kx7_0
        · have h := of_if h c16
          refine lv_aload_n hx hb dX0_referralFor_19 rfl (lv_at hl 2 rfl) ?_
          refine C_get hx hb hts hinX4 hown hK hw (cell_5 hf2) (by omega) rfl 2 (by decide) (index := 32) (by decide +kernel) rfl rfl dX0_referralFor_20 ?_
          refine lv_topi (fun v20 ev20 => ?_)
          have h := of_bnd h ev20
          refine lv_if_le (tgt := 43) hx hb dX0_referralFor_23 (by decide) (fun c23 => ?_) (fun c23 => ?_)
          · have h := of_it h c23
            refine lv_aload_n hx hb dX0_referralFor_43 rfl (lv_at hl 2 rfl) ?_
            obtain ⟨o44, eo44⟩ : ∃ o, o = cR S 103 b8 := ⟨_, rfl⟩
            have h := of_bnd h eo44
            refine C_get hx hb hts hinX4 hown hK hw (cell_5 hf2) (by omega) rfl 3 (by decide) (index := 35) (by decide +kernel) rfl (v := va_rf o44) (congrArg (fun o => some (va_rf o)) eo44.symm) dX0_referralFor_44 ?_
            refine lv_astore_nq (lv' := [(3, va_rf o44), (1, .int f1), (2, va_rf l2)]) hx hb dX0_referralFor_47 rfl hl (by decide) (by cases l2 <;> rfl) (fun ls hl => ?_)
            refine lv_goto (tgt := 7) hx hb dX0_referralFor_48 (by decide) ?_
            exact ih7 l2 o44 _ h _ _ hw ls (lv_sub hl [1, 2, 0] rfl) kx7_0
          · have h := of_if h c23
            refine lv_aload_nq hx hb dX0_referralFor_26 rfl (lv_at hl 1 rfl) ?_
            rcases l2 with _ | b27
            · have h := of_oelN h
              have hl : lv_has ls 4 [(1, .int f1), (2, .null), (3, .ref b8)] := hl
              refine lv_ifnullN (tgt := 41) hx hb dX0_referralFor_27 (by decide) ?_
              refine lv_aload_n hx hb dX0_referralFor_41 rfl (lv_at hl 2 rfl) ?_
              refine lv_astore_n (lv' := [(2, .ref b8), (1, .int f1), (3, .ref b8)]) hx hb dX0_referralFor_42 rfl hl (by decide) rfl (fun ls hl => ?_)
              refine lv_aload_n hx hb dX0_referralFor_43 rfl (lv_at hl 2 rfl) ?_
              obtain ⟨o44, eo44⟩ : ∃ o, o = cR S 103 b8 := ⟨_, rfl⟩
              have h := of_bnd h eo44
              refine C_get hx hb hts hinX4 hown hK hw (cell_5 hf2) (by omega) rfl 3 (by decide) (index := 35) (by decide +kernel) rfl (v := va_rf o44) (congrArg (fun o => some (va_rf o)) eo44.symm) dX0_referralFor_44 ?_
              refine lv_astore_nq (lv' := [(3, va_rf o44), (2, .ref b8), (1, .int f1)]) hx hb dX0_referralFor_47 rfl hl (by decide) rfl (fun ls hl => ?_)
              refine lv_goto (tgt := 7) hx hb dX0_referralFor_48 (by decide) ?_
              exact ih7 (some b8) o44 _ h _ _ hw ls (lv_sub hl [2, 1, 0] rfl) kx7_0
            · have h := of_oelS h
              have hl : lv_has ls 4 [(1, .int f1), (2, .ref b27), (3, .ref b8)] := hl
              refine lv_ifnull hx hb dX0_referralFor_27 ?_
              refine lv_aload_n hx hb dX0_referralFor_30 rfl (lv_at hl 2 rfl) ?_
              refine C_get hx hb hts hinX4 hown hK hw (cell_5 hf2) (by omega) rfl 1 (by decide) (index := 38) (by decide +kernel) rfl rfl dX0_referralFor_31 ?_
              refine lv_topi (fun v31 ev31 => ?_)
              have h := of_bnd h ev31
              refine lv_aload_n hx hb dX0_referralFor_34 rfl (lv_at hl 1 rfl) ?_
              obtain ⟨hf3, h⟩ := of_grd h
              refine C_get hx hb hts hinX4 hown hK hw (cell_5 hf3) (by omega) rfl 1 (by decide) (index := 38) (by decide +kernel) rfl rfl dX0_referralFor_35 ?_
              refine lv_topi (fun v35 ev35 => ?_)
              have h := of_bnd h ev35
              refine lv_icmp_gt (tgt := 43) hx hb dX0_referralFor_38 (by decide) (fun c38 => ?_) (fun c38 => ?_)
              · have h := of_it h c38
                refine lv_aload_n hx hb dX0_referralFor_43 rfl (lv_at hl 2 rfl) ?_
                obtain ⟨o44, eo44⟩ : ∃ o, o = cR S 103 b8 := ⟨_, rfl⟩
                have h := of_bnd h eo44
                refine C_get hx hb hts hinX4 hown hK hw (cell_5 hf2) (by omega) rfl 3 (by decide) (index := 35) (by decide +kernel) rfl (v := va_rf o44) (congrArg (fun o => some (va_rf o)) eo44.symm) dX0_referralFor_44 ?_
                refine lv_astore_nq (lv' := [(3, va_rf o44), (1, .int f1), (2, .ref b27)]) hx hb dX0_referralFor_47 rfl hl (by decide) rfl (fun ls hl => ?_)
                refine lv_goto (tgt := 7) hx hb dX0_referralFor_48 (by decide) ?_
                exact ih7 (some b27) o44 _ h _ _ hw ls (lv_sub hl [1, 2, 0] rfl) kx7_0
              · have h := of_if h c38
                refine lv_aload_n hx hb dX0_referralFor_41 rfl (lv_at hl 2 rfl) ?_
                refine lv_astore_n (lv' := [(2, .ref b8), (1, .int f1), (3, .ref b8)]) hx hb dX0_referralFor_42 rfl hl (by decide) rfl (fun ls hl => ?_)
                refine lv_aload_n hx hb dX0_referralFor_43 rfl (lv_at hl 2 rfl) ?_
                obtain ⟨o44, eo44⟩ : ∃ o, o = cR S 103 b8 := ⟨_, rfl⟩
                have h := of_bnd h eo44
                refine C_get hx hb hts hinX4 hown hK hw (cell_5 hf2) (by omega) rfl 3 (by decide) (index := 35) (by decide +kernel) rfl (v := va_rf o44) (congrArg (fun o => some (va_rf o)) eo44.symm) dX0_referralFor_44 ?_
                refine lv_astore_nq (lv' := [(3, va_rf o44), (2, .ref b8), (1, .int f1)]) hx hb dX0_referralFor_47 rfl hl (by decide) rfl (fun ls hl => ?_)
                refine lv_goto (tgt := 7) hx hb dX0_referralFor_48 (by decide) ?_
                exact ih7 (some b8) o44 _ h _ _ hw ls (lv_sub hl [2, 1, 0] rfl) kx7_0
  obtain ⟨q7, hq7, h⟩ := of_cal h
  refine lp7 a1 S n.1 none o3 q7  hq7 _ _ hw ls (lv_sub hl [3, 1, 0] rfl) ?_
  · intro t2_7 eq H locs hw ls hl
    subst eq
    refine lv_aload_nq hx hb dX0_referralFor_51 rfl (lv_at hl 0 rfl) ?_
    obtain rfl := Option.some.inj h
    exact C_aret hx hb hr hlocks (Or.inl ⟨_, rfl⟩) hw dX0_referralFor_52

def fX0_noteHad (n : Nat × Nat) (S : CS) (a0 : Nat) (a1 : Int32) (a2 : Int32) : Option (CS) :=
  bnd (fX11_isWithin a1 (0 : Int32) (19 : Int32)) (fun r4 => if r4 = 0 then 
    some S
    else grd (cD S a0 = 1) (onn (cR S 22 a0) (fun b11 => grd (cD S b11 = 41) (grd (¬ (a1 < 0 ∨ cN S b11 ≤ a1.toNatClampNeg)) (bnd (cA S 41 b11 a1.toNatClampNeg) (fun v16 => grd (¬ (a1 < 0 ∨ cN S b11 ≤ a1.toNatClampNeg)) (bnd (uA S 41 b11 a1.toNatClampNeg (v16 + a2)) (fun S19 => some S19))))))))
set_option maxHeartbeats 8000000 in
set_option maxRecDepth 100000 in
theorem cX0_noteHad_ok (l : Launch) (D : va_G) (cc : Nat → ClassId) (E : Nat → Nat) (n : Nat × Nat) (S : CS) (a0 : Nat) (a1 : Int32) (a2 : Int32) {T : CS} (h : fX0_noteHad n S a0 a1 a2 = some T) : Cv l yX0_noteHad wsX0_noteHad 1 22 D cc E [.ref a0, .int a1, .int a2] S T 0 0 := by
  refine C_of (own := RX0) (bb := cX0_noteHad) (nL := 3) (ret := none) (by decide) rfl rfl (Nat.le_of_ble_eq_true rfl) ?_
  intro p e s m args below meth c hx hb hr hlocks hml hts hown hnm hA hK hro hw ls hl
  generalize va_A (cPs cc S) (nx S) = A at hA hro hw ⊢
  unfold fX0_noteHad at h
  have hinX0 : ∀ w ∈ wsX00, w ∈ wsX0_noteHad := by decide +kernel
  have hl : lv_has ls 3 [(0, .ref a0), (1, .int a1), (2, .int a2)] := hl
  refine lv_iload_n hx hb dX0_noteHad_0 rfl (lv_at hl 1 rfl) ?_
  refine lv_iconst (v := 0) hx hb dX0_noteHad_1 (by decide) ?_
  refine lv_bipush (v := 19) hx hb dX0_noteHad_2 (by decide) ?_
  refine C_s (va_runSN (As := [.int a1, .int (0 : Int32), .int (19 : Int32)]) (rest := []) ⟨hx, hb, hml, hown, hts⟩ (cX11_isWithin_ok l a1 (0 : Int32) (19 : Int32)) ⟨va_cnB 3 hts gX0_noteHad_X11_isWithin_n41 rfl rfl rfl (hro.1 (RX0, 41, yX11_isWithin) (by decide +kernel)) (hts (.initialized RX11) (by decide +kernel)) (by decide +kernel) ⟨Nat.le_of_ble_eq_true rfl, Nat.le_of_ble_eq_true rfl⟩, (hts (.static yX11_isWithin) (by decide +kernel)), trivial⟩ ⟨fun a U g mk q => ⟨q.1, trivial⟩, fun U hU hW => ⟨rfl, trivial⟩⟩ rfl rfl hl.1 rfl (lv_room (Nat.le_of_ble_eq_true rfl)) dX0_noteHad_4 ⟨Nat.le_refl _, Nat.le_refl _⟩) (fun r4 er4 => ?_)
  have h := of_bnd h er4
  refine lv_if_eq (tgt := 20) hx hb dX0_noteHad_7 (by decide) (fun c7 => ?_) (fun c7 => ?_)
  · have h := of_it h c7
    obtain rfl := Option.some.inj h
    exact C_vret hx hb hr hlocks hw dX0_noteHad_20
  · have h := of_if h c7
    refine lv_aload_n hx hb dX0_noteHad_10 rfl (lv_at hl 0 rfl) ?_
    obtain ⟨hf1, h⟩ := of_grd h
    obtain ⟨b11, eb11, h⟩ := of_onn h
    refine C_get hx hb hts hinX0 hown hK hw (cell_1 hf1) (by omega) rfl 2 (by decide) (index := 9) (by decide +kernel) rfl (v := .ref b11) (congrArg (fun o => some (va_rf o)) eb11) dX0_noteHad_11 ?_
    refine lv_iload_n hx hb dX0_noteHad_14 rfl (lv_at hl 1 rfl) ?_
    refine lv_dup2_11 hx hb dX0_noteHad_15 rfl rfl ?_
    obtain ⟨hf2, h⟩ := of_grd h
    obtain ⟨hi16, h⟩ := of_grd h
    refine C_iald hx hb hK hw hf2 (by decide) (by decide) hi16 dX0_noteHad_16 ?_
    refine lv_topi (fun v16 ev16 => ?_)
    have h := of_bnd h ev16
    refine lv_iload_n hx hb dX0_noteHad_17 rfl (lv_at hl 2 rfl) ?_
    refine lv_iadd hx hb dX0_noteHad_18 ?_
    obtain ⟨hi19, h⟩ := of_grd h
    refine C_iast hx hb hK hw hf2 (by decide) (by decide) hi19 dX0_noteHad_19 (fun S19 H locs eS19 hw => ?_)
    have h := of_bnd h eS19
    obtain rfl := Option.some.inj h
    exact C_vret hx hb hr hlocks hw dX0_noteHad_20
