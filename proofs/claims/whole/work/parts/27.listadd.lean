/-! ArrayList.add: the growing -/
def gwS (S : CS) (r b N : Nat) : CS := wQ (nw S (30 + r) N) (30 + r) (nx S) (va_cpy (cQ S (30 + r) b) (fun _ => none) 0 0 (cN S b))
theorem el_recv {D : va_G} {cc : Nat → ClassId} {A : Nat → Prop} {s : State} {S : CS} {H : Heap} {locs : List Loc} (hK : va_K D vwCl (tyC cc) s) (hw : cWd D cc A s.heap S H locs) {r : Nat} (hr5 : r < 5) {y : Nat} (hy : cD S y = elk r) : ∃ cellV : Cell, H[y]? = some cellV ∧ cellV.vm.isStatics = false ∧ s.vm.findClass (elC r) = some cellV.cls := by
  rcases (show r = 0 ∨ r = 1 ∨ r = 2 ∨ r = 3 ∨ r = 4 by omega) with rfl | rfl | rfl | rfl | rfl
  · exact C_recv hK hw (by rw [hy]; decide) (cell_3 hy) (r := (RX2, TX2, 11)) rfl
  · exact C_recv hK hw (by rw [hy]; decide) (cell_9 hy) (r := (RX8, TX8, 3)) rfl
  · exact C_recv hK hw (by rw [hy]; decide) (cell_1 hy) (r := (RX0, TX0, 4)) rfl
  · exact C_recv hK hw (by rw [hy]; decide) (cell_4 hy) (r := (RX3, TX3, 5)) rfl
  · exact C_recv hK hw (by rw [hy]; decide) (cell_2 hy) (r := (RX1, TX1, 2)) rfl
theorem el_cast {E : Nat → Nat} {A : Nat → Prop} {s : State} (hro : cRO E A s s.heap) {r : Nat} (hr5 : r < 5) : va_Nw (.castable (elC r) "java/lang/Object") s := by
  rcases (show r = 0 ∨ r = 1 ∨ r = 2 ∨ r = 3 ∨ r = 4 by omega) with rfl | rfl | rfl | rfl | rfl
  · exact hro.2.1 RX2 (by decide)
  · exact hro.2.1 RX8 (by decide)
  · exact hro.2.1 RX0 (by decide)
  · exact hro.2.1 RX3 (by decide)
  · exact hro.2.1 RX1 (by decide)
section LCOPY
variable {p : Program} {l : Launch} {e : Env} {R : Room} {s : State} {m : MethodId} {args : Array Value} {below : List Frame} {meth : Method} {c : Code} {H : Heap} {locs : List Loc} {cells slots : Nat} {Q : State → Prop}
variable {bb : ByteArray} {pc : Nat} {ls : Array Slot} {rest st0 : List Value} {D : va_G} {A : Nat → Prop} {cc : Nat → ClassId} {S : CS} {Ts : List Cond} {E : Nat → Nat}
theorem C_copyO (hx : p.tables.exec = Jvm.exec) (hb : c.code = bb) (hml : c.maxLocals = ls.size) {own : String} {index : Nat} (hown : s.vm.findClass own = some m.cls) (hlink : (Cond.methodLink own index arraycopyName).before args s = true) (hnat : (Cond.native arraycopyName).before args s = true) (hstat : (Cond.static arraycopyName).before args s = true) (hini : (Cond.initialized "java/lang/System").before args s = true)
    (hK : va_K D vwCl (tyC cc) s) (hro : cRO E A s s.heap) (hw : cWd D cc A s.heap S H locs) {r : Nat} (hr5 : r < 5) {b q k : Nat} (hkb : cD S b = 30 + r) (hkq : cD S q = 30 + r) (hk0 : k ≤ cN S b) (hk1 : k ≤ cN S q) (hk : k < 2 ^ 31) (hel : ∀ i, i < k → elOk S r b i = true) (hq1 : q + 1 = nx S) (hz : s.heap.size + cells = nx S)
    (hframes : 1 ≤ R.frames) (hlocals : (rest.map fun v => v.category).sum + (nativeFrameWords "java/lang/System" "arraycopy" 5 + 11) ≤ R.locals) (hdg : decode bb pc = .ok (.invokestatic index, 3))
    (kk : ∀ (H1 : Heap) (locs1 : List Loc), cWd D cc A s.heap (wQ S (30 + r) q (va_cpy (cQ S (30 + r) b) (cQ S (30 + r) q) 0 0 k)) H1 locs1 → W p l e R s m args below meth c H1 locs1 cells slots Q (F0 m (pc + 3) ls rest)) : W p l e R s m args below meth c H locs cells slots Q (F0 m pc ls (.int (nI k) :: .int 0 :: .ref q :: .int 0 :: .ref b :: rest)) := by
  have hw0 := hw
  obtain ⟨hok, hsz, hP, hD, hS⟩ := hw
  have hm := hok q (by omega)
  obtain ⟨q1, he1⟩ := cP_get (cc := cc) hm
  obtain ⟨q0, he0⟩ := cP_get (cc := cc) (hok b (by omega))
  have hset : cellOf cc (wQ S (30 + r) q (va_cpy (cQ S (30 + r) b) (cQ S (30 + r) q) 0 0 k)) q = .inl (cc 2, cN S q, .inr (.inr (.inr (.inr (va_cpy (cQ S (30 + r) b) (cQ S (30 + r) q) 0 0 k))))) := by
    rw [cell_O (S := wQ S (30 + r) q (va_cpy (cQ S (30 + r) b) (cQ S (30 + r) q) 0 0 k)) hr5 hkq, cQ_wQ, set1_s, set1_s]
    rfl
  have hq := cP_set hD hm he1 (S' := wQ S (30 + r) q (va_cpy (cQ S (30 + r) b) (cQ S (30 + r) q) 0 0 k)) rfl hset (fun b hb => off_wQ hb)
  have he1' := he1
  rw [cell_O hr5 hkq] at he1'
  rw [cell_O hr5 hkb] at he0
  have e0 : (0 : Int32).toNatClampNeg = 0 := rfl
  have ek : (nI k).toNatClampNeg = k := nI_clamp hk
  refine va_copyq (C := elC r) (E0 := "java/lang/Object") (E1 := "java/lang/Object") hx hb hml hown hlink hnat hstat hini hK hP hD hS q0 q1 2 2 he0 he1' rfl rfl (by decide) (by decide) (nI_pos hk) (by rw [e0, ek]; omega) (by rw [e0, ek]; omega) (fun i hi y hy => ?_) (fun comp c0 h1 h2 => ?_) hframes hlocals hdg (fun H1 locs1 hP1 hD1 hS1 => ?_)
  · rw [ek] at hi
    rw [e0, Nat.zero_add] at hy
    have h := hel i hi
    unfold elOk at h
    rw [hy] at h
    exact el_recv hK hw0 hr5 (by simpa using h)
  · obtain ⟨c1, t1, f1, f2, f3⟩ := Cond.castable_spec (va_Nw.use (A := args) rfl (el_cast hro hr5))
    cases h2.symm.trans f1
    cases h1.symm.trans f2
    exact f3
  · rw [e0, ek, hq] at hP1 hD1
    refine W_sz (fun z1 z2 => kk H1 locs1 ⟨hok, ?_, hP1, hD1, hS1⟩)
    have : q < H1.size := va_pl_lt (X := []) hP1 hm
    show H1.size = nx S
    omega
end LCOPY
set_option maxHeartbeats 8000000 in
set_option maxRecDepth 100000 in
theorem cJ7_copy3 (l : Launch) (D : va_G) (cc : Nat → ClassId) (E : Nat → Nat) (r : Nat) (hr5 : r < 5) (S : CS) (b N : Nat) (hkb : cD S b = 30 + r) (hN : cN S b ≤ N) (hN2 : N ≤ 100000) (hel : ∀ i, i < cN S b → elOk S r b i = true) : Cq l yJ7_copyOf_6403c wsJ7_copyOf_6403c 1 60 D cc E [.ref b, .int (nI N), .ref (E 1)] S (some (nx S)) (gwS S r b N) 1 N := by
  refine C_of (own := RJ7) (bb := cJ7_copyOf_6403c) (nL := 4) (ret := (some (.array (.object "java/lang/Object")))) (by decide) rfl rfl (Nat.le_of_ble_eq_true rfl) ?_
  intro p e s m args below meth c hx hb hr hlocks hml hts hown hnm hA hK hro hw ls hl
  generalize va_A (cPs cc S) (nx S) = A at hA hro hw ⊢
  have hl : lv_has ls 4 [(0, .ref b), (1, .int (nI N)), (2, .ref (E 1))] := hl
  have hsz0 : s.heap.size = nx S := hw.2.1
  have hfr : ∀ y, cD S y ≠ 0 → y ≠ nx S := fun y hy q => by
    have := va_pl_fresh (X := []) hw.2.2.1 (Nat.le_of_eq hw.2.1)
    exact this (q ▸ hw.1 y hy)
  have hbn : b ≠ nx S := hfr b (by omega)
  refine lv_aload_n hx hb dJ7_copyOf_6403c_0 rfl (lv_at hl 2 rfl) ?_
  refine va_ldcM hx hb hown (hts (.classLink RJ7 110 "[Ljava/lang/Object;") (by decide +kernel)) hro.2.2.2.2.2.2.2.2.1 dJ7_copyOf_6403c_1 ?_
  refine lv_acmp_ne (rx := some (E 1)) (ry := some (E 1)) (tgt := 13) hx hb dJ7_copyOf_6403c_3 (by decide) (fun c => absurd rfl c) (fun _ => ?_)
  refine lv_iload_n hx hb dJ7_copyOf_6403c_6 rfl (lv_at hl 1 rfl) ?_
  refine C_newO (d := 30 + r) hx hb hown (hts (.classLink RJ7 2 "java/lang/Object") (by decide +kernel)) hro.2.2.2.2.2.2.2.2.2.2.2.1 hK hA hw 2 rfl (cnew_O hr5 S) (nI_pos (by omega)) (nI_clamp (by omega)) (by omega) (by show _ ≤ 1; omega) (by show _ ≤ N; omega) dJ7_copyOf_6403c_7 (fun q S1 H eq eS hw => ?_)
  refine lv_goto (tgt := 24) hx hb dJ7_copyOf_6403c_10 (by decide) ?_
  refine lv_astore_n (lv' := [(3, .ref q), (0, .ref b), (1, .int (nI N)), (2, .ref (E 1))]) hx hb dJ7_copyOf_6403c_24 rfl hl (by decide) rfl (fun ls hl => ?_)
  have hkb1 : cD S1 b = 30 + r := by rw [eS, cD_nw, set1_n _ _ hbn]; exact hkb
  have hkq1 : cD S1 q = 30 + r := by rw [eS, eq]; exact cD_new S _ _
  have hnb : cN S1 b = cN S b := by rw [eS, cN_nw, set1_n _ _ hbn]
  have hnq : cN S1 q = N := by rw [eS, eq, cN_nw, set1_s]
  refine lv_aload_n hx hb dJ7_copyOf_6403c_25 rfl (lv_at hl 1 rfl) ?_
  refine lv_iconst (v := 0) hx hb dJ7_copyOf_6403c_26 (by decide) ?_
  refine lv_aload_n hx hb dJ7_copyOf_6403c_27 rfl (lv_at hl 0 rfl) ?_
  refine lv_iconst (v := 0) hx hb dJ7_copyOf_6403c_28 (by decide) ?_
  refine lv_aload_n hx hb dJ7_copyOf_6403c_29 rfl (lv_at hl 1 rfl) ?_
  refine C_alenO hx hb hK hw hr5 hkb1 dJ7_copyOf_6403c_30 ?_
  refine lv_iload_n hx hb dJ7_copyOf_6403c_31 rfl (lv_at hl 2 rfl) ?_
  refine va_mmin (rest := [.int 0, .ref q, .int 0, .ref b]) hx hb (hml.trans hl.1.symm) hown (hts (.methodLink RJ7 304 Lib.Math.min.name) (by decide +kernel)) (hts (.static Lib.Math.min.name) (by decide +kernel)) (hts (.initialized "java/lang/Math") (by decide +kernel)) (hts (.code Lib.Math.min.name Lib.Math.min.code 2 (some .int)) (by decide +kernel)) (Nat.le_of_ble_eq_true rfl) (Nat.le_of_ble_eq_true rfl) (by show _ ≤ 1; omega) (by show _ ≤ N; omega) dJ7_copyOf_6403c_32 ?_
  have em : (if nI N < Int32.ofNat (cN S1 b) then nI N else Int32.ofNat (cN S1 b)) = nI (cN S b) := by
    rw [hnb]
    exact if_neg (nI_nlt hN (by omega))
  rw [em]
  refine C_copyO (rest := []) hx hb (hml.trans hl.1.symm) hown (hts (.methodLink RJ7 150 arraycopyName) (by decide +kernel)) (hts (.native arraycopyName) (by decide +kernel)) (hts (.static arraycopyName) (by decide +kernel)) (hts (.initialized "java/lang/System") (by decide +kernel)) hK hro hw hr5 hkb1 hkq1 (by omega) (by omega) (by omega) (fun i hi => ?_) (by rw [eS, eq]; rfl) (by rw [eS, hsz0]; rfl) (Nat.le_of_ble_eq_true rfl) (by show _ ≤ 60; decide) dJ7_copyOf_6403c_35 (fun H locs hw => ?_)
  · have h := hel i hi
    unfold elOk at h ⊢
    rw [eS, cQ_nw]
    show (match set1 (cQ S (30 + r)) (nx S) (fun _ => none) b i with | some y => cD (nw S (30 + r) N) y == elk r | none => true) = true
    rw [set1_n _ _ hbn]
    cases hy : cQ S (30 + r) b i with
    | none => rfl
    | some y =>
      rw [hy] at h
      show (cD (nw S (30 + r) N) y == elk r) = true
      have hy2 : cD S y = elk r := by simpa using h
      have hy0 : y ≠ nx S := hfr y (by rw [hy2]; rcases (show r = 0 ∨ r = 1 ∨ r = 2 ∨ r = 3 ∨ r = 4 by omega) with rfl | rfl | rfl | rfl | rfl <;> decide)
      rw [cD_nw, set1_n _ _ hy0, hy2]
      simp
  refine lv_aload_n hx hb dJ7_copyOf_6403c_38 rfl (lv_at hl 0 rfl) ?_
  have eT : wQ S1 (30 + r) q (va_cpy (cQ S1 (30 + r) b) (cQ S1 (30 + r) q) 0 0 (cN S b)) = gwS S r b N := by
    rw [eS, eq]
    unfold gwS
    rw [cQ_nw]
    show wQ (nw S (30 + r) N) (30 + r) (nx S) (va_cpy (set1 (cQ S (30 + r)) (nx S) (fun _ => none) b) (set1 (cQ S (30 + r)) (nx S) (fun _ => none) (nx S)) 0 0 (cN S b)) = _
    rw [set1_n _ _ hbn, set1_s]
  rw [eT] at hw
  rw [eq]
  refine W.widen (k := 1) (n := N) (by omega) (by omega) ?_
  exact C_aret (r := some (nx S)) hx hb hr hlocks (Or.inr ⟨_, rfl⟩) hw dJ7_copyOf_6403c_39
set_option maxHeartbeats 8000000 in
set_option maxRecDepth 100000 in
theorem cJ7_copy2 (l : Launch) (D : va_G) (cc : Nat → ClassId) (E : Nat → Nat) (r : Nat) (hr5 : r < 5) (S : CS) (b N : Nat) (hkb : cD S b = 30 + r) (hN : cN S b ≤ N) (hN2 : N ≤ 100000) (hel : ∀ i, i < cN S b → elOk S r b i = true) : Cq l yJ7_copyOf_1904c wsJ7_copyOf_1904c 2 83 D cc E [.ref b, .int (nI N)] S (some (nx S)) (gwS S r b N) 1 N := by
  refine C_of (own := RJ7) (bb := cJ7_copyOf_1904c) (nL := 2) (ret := (some (.array (.object "java/lang/Object")))) (by decide) rfl rfl (Nat.le_of_ble_eq_true rfl) ?_
  intro p e s m args below meth c hx hb hr hlocks hml hts hown hnm hA hK hro hw ls hl
  generalize va_A (cPs cc S) (nx S) = A at hA hro hw ⊢
  have hl : lv_has ls 2 [(0, .ref b), (1, .int (nI N))] := hl
  refine lv_aload_n hx hb dJ7_copyOf_1904c_0 rfl (lv_at hl 0 rfl) ?_
  refine lv_iload_n hx hb dJ7_copyOf_1904c_1 rfl (lv_at hl 1 rfl) ?_
  refine lv_aload_n hx hb dJ7_copyOf_1904c_2 rfl (lv_at hl 0 rfl) ?_
  have hrec : ∃ cell : Cell, s.heap[b]? = some cell ∧ cell.vm.isStatics = false ∧ s.vm.findClass "[Ljava/lang/Object;" = some cell.cls := by
    obtain ⟨q0, he⟩ := cP_get (cc := cc) (hw.1 b (by omega))
    rw [cell_O hr5 hkb] at he
    exact ⟨_, hw.2.2.1 q0 _ he, rfl, va_nmO (hK.2 2 (cc 2, .object "java/lang/Object") rfl).2 rfl⟩
  refine va_getC (C := "[Ljava/lang/Object;") hx hb (hml.trans hl.1.symm) hown (hts (.methodLink RJ7 86 ⟨"java/lang/Object", "getClass", "()Ljava/lang/Class;"⟩) (by decide +kernel)) (va_Dc.use hro.2.2.2.2.2.2.2.2.2.1) (hts (.selects "[Ljava/lang/Object;" ⟨"java/lang/Object", "getClass", "()Ljava/lang/Class;"⟩ ⟨"java/lang/Object", "getClass", "()Ljava/lang/Class;"⟩) (by decide +kernel)) (hts (.instanceMethod ⟨"java/lang/Object", "getClass", "()Ljava/lang/Class;"⟩) (by decide +kernel)) (hts (.native ⟨"java/lang/Object", "getClass", "()Ljava/lang/Class;"⟩) (by decide +kernel)) hro.2.2.2.2.2.2.2.2.1 hrec (Nat.le_of_ble_eq_true rfl) (Nat.le_of_ble_eq_true rfl) dJ7_copyOf_1904c_3 ?_
  refine C_q hA hw (va_runS (As := [.ref b, .int (nI N), .ref (E 1)]) (rest := []) ⟨hx, hb, hml, hown, hts⟩ (cJ7_copy3 l D cc E r hr5 S b N hkb hN hN2 hel) (va_cwS 3 hts gJ7_copyOf_1904c_J7_copyOf_6403c rfl rfl rfl (by decide +kernel) ⟨Nat.le_of_ble_eq_true rfl, Nat.le_of_ble_eq_true rfl⟩) ⟨cBlind D cc E S _, fun U hU hW => ⟨rfl, C_pre hA hK hro hw U hU hW⟩⟩ rfl rfl hl.1 rfl (lv_room (Nat.le_of_ble_eq_true rfl)) dJ7_copyOf_1904c_6 ⟨by show _ ≤ 1; omega, by show _ ≤ N; omega⟩) (fun H locs hw => ?_)
  refine W.widen (k := 1) (n := N) (by omega) (by omega) ?_
  exact C_aret (r := some (nx S)) hx hb hr hlocks (Or.inr ⟨_, rfl⟩) hw dJ7_copyOf_1904c_9
set_option maxHeartbeats 8000000 in
set_option maxRecDepth 100000 in
theorem cJ8_newLen (l : Launch) (k : Nat) (h2 : 2 ≤ k) (hk : k ≤ 40000) : Si l yJ8_newLength_cabcc wsJ8_newLength_cabcc { frames := 1, cells := 0, slots := 0, locals := 24 } [.int (nI k), .int (nI 1), .int (nI (k / 2))] (fun r => r = nI (k + k / 2)) := by
  refine Si_of (own := RJ8) (cc := cJ8_newLength_cabcc) (nL := 4) (ret := (some .int)) (by decide) rfl rfl (Nat.le_of_ble_eq_true rfl) ?_
  intro p e s m args below meth c hx hb hr hlocks hml hts hown ls hl
  have hl : lv_has ls 4 [(0, .int (nI k)), (1, .int (nI 1)), (2, .int (nI (k / 2)))] := hl
  refine lv_iload_n hx hb dJ8_newLength_cabcc_0 rfl (lv_at hl 0 rfl) ?_
  refine lv_iload_n hx hb dJ8_newLength_cabcc_1 rfl (lv_at hl 1 rfl) ?_
  refine lv_iload_n hx hb dJ8_newLength_cabcc_2 rfl (lv_at hl 2 rfl) ?_
  refine va_mmax (rest := [.int (nI k)]) hx hb (hml.trans hl.1.symm) hown (hts (.methodLink RJ8 194 Lib.Math.max.name) (by decide +kernel)) (hts (.static Lib.Math.max.name) (by decide +kernel)) (hts (.initialized "java/lang/Math") (by decide +kernel)) (hts (.code Lib.Math.max.name Lib.Math.max.code 2 (some .int)) (by decide +kernel)) (Nat.le_of_ble_eq_true rfl) (Nat.le_of_ble_eq_true rfl) (Nat.zero_le _) (Nat.zero_le _) dJ8_newLength_cabcc_3 ?_
  refine lv_iadd hx hb dJ8_newLength_cabcc_6 ?_
  have ex : nI k + (if nI 1 < nI (k / 2) then nI (k / 2) else nI 1) = nI (k + k / 2) := by
    by_cases c : 1 < k / 2
    · rw [if_pos (nI_lt c (by omega))]
      exact nI_add k (k / 2)
    · rw [if_neg (nI_nlt (by omega) (by decide))]
      have hd : k / 2 = 1 := by omega
      rw [hd]
      exact nI_add k 1
  rw [ex]
  refine lv_istore_n (lv' := [(3, .int (nI (k + k / 2))), (0, .int (nI k)), (1, .int (nI 1)), (2, .int (nI (k / 2)))]) hx hb dJ8_newLength_cabcc_7 rfl hl (by decide) rfl (fun ls hl => ?_)
  refine lv_iconst (v := 0) hx hb dJ8_newLength_cabcc_8 (by decide) ?_
  refine lv_iload_n hx hb dJ8_newLength_cabcc_9 rfl (lv_at hl 0 rfl) ?_
  refine lv_icmp_ge (tgt := 21) hx hb dJ8_newLength_cabcc_10 (by decide) (fun c => absurd c (nI_nle (by omega) (by omega))) (fun c => ?_)
  refine lv_iload_n hx hb dJ8_newLength_cabcc_13 rfl (lv_at hl 0 rfl) ?_
  refine lv_ldc (v := 2147483639) hx hb hown (hts (.constant RJ8 200 (2147483639)) (by decide +kernel)) dJ8_newLength_cabcc_14 ?_
  refine lv_icmp_gt (tgt := 21) hx hb dJ8_newLength_cabcc_16 (by decide) (fun c => absurd c (show ¬ nI 2147483639 < nI (k + k / 2) from nI_nlt (by omega) (by decide))) (fun c => ?_)
  refine lv_iload_n hx hb dJ8_newLength_cabcc_19 rfl (lv_at hl 0 rfl) ?_
  exact S_iret (v := nI (k + k / 2)) hx hb hr hlocks dJ8_newLength_cabcc_20 rfl rfl
/-- what grow(mn) does: ten places where nothing was, or half as many more -/
def GrowOk (n : Nat × Nat) (r : Nat) (S : CS) (a : Nat) (mn : Int32) (T : CS) (ms : Nat) : Prop :=
  cD S a = 20 + r ∧ ((cR S (gE r) a = some n.2 ∧ mn = 1 ∧ T = uR (nw S (30 + r) 10) (gE r) a (some (nx S)) ∧ ms = 10) ∨ ∃ b, cR S (gE r) a = some b ∧ cD S b = 30 + r ∧ 2 ≤ cN S b ∧ cN S b ≤ 40000 ∧ mn = nI (cN S b + 1) ∧ (∀ i, i < cN S b → elOk S r b i = true) ∧ T = uR (gwS S r b (cN S b + cN S b / 2)) (gE r) a (some (nx S)) ∧ ms = cN S b + cN S b / 2)
set_option maxHeartbeats 8000000 in
set_option maxRecDepth 100000 in
theorem cL_growI (l : Launch) (D : va_G) (cc : Nat → ClassId) (E : Nat → Nat) (n : Nat × Nat) (hE : E 0 = n.2) (r : Nat) (hr5 : r < 5) (S : CS) (a : Nat) (mn : Int32) {T : CS} {ms : Nat} (h : GrowOk n r S a mn T ms) : Cq l yJx4a65c_grow_92f84 wsJx4a65c_grow_92f84 3 104 D cc E [.ref a, .int mn] S (some (nx S)) T 1 ms := by
  refine C_of (own := RJx4a65c) (bb := cJx4a65c_grow_92f84) (nL := 4) (ret := (some (.array (.object "java/lang/Object")))) (by decide) rfl rfl (Nat.le_of_ble_eq_true rfl) ?_
  intro p e s m args below meth c hx hb hr hlocks hml hts hown hnm hA hK hro hw ls hl
  generalize va_A (cPs cc S) (nx S) = A at hA hro hw ⊢
  have hin : ∀ w ∈ wsJx4a65c0, w ∈ wsJx4a65c_grow_92f84 := by decide +kernel
  have hl : lv_has ls 4 [(0, .ref a), (1, .int mn)] := hl
  obtain ⟨hk, h⟩ := h
  have hfr : ∀ y, cD S y ≠ 0 → y ≠ nx S := fun y hy q => by
    have := va_pl_fresh (X := []) hw.2.2.1 (Nat.le_of_eq hw.2.1)
    exact this (q ▸ hw.1 y hy)
  have han : a ≠ nx S := hfr a (by omega)
  refine lv_aload_n hx hb dJx4a65c_grow_92f84_0 rfl (lv_at hl 0 rfl) ?_
  rcases h with ⟨h1, h2, h3, h4⟩ | ⟨b, h1, hkb, h2, h3, h4, hel, h5, h6⟩
  · subst h2 h3 h4
    rw [← hE] at h1
    refine C_get hx hb hts hin hown hK hw (cell_L hr5 hk) (by omega) rfl 1 (by decide) (index := 9) (by decide +kernel) rfl (v := .ref (E 0)) (congrArg (fun o => some (va_rf o)) h1) dJx4a65c_grow_92f84_1 ?_
    refine va_tlen hx hb hro.2.2.2.1 hw.2.2.2.2 (v := 0) rfl dJx4a65c_grow_92f84_4 ?_
    refine lv_istore_n (lv' := [(2, .int 0), (0, .ref a), (1, .int 1)]) hx hb dJx4a65c_grow_92f84_5 rfl hl (by decide) rfl (fun ls hl => ?_)
    refine lv_iload_n hx hb dJx4a65c_grow_92f84_6 rfl (lv_at hl 0 rfl) ?_
    refine lv_if_gt (tgt := 20) hx hb dJx4a65c_grow_92f84_7 (by decide) (fun c => absurd c (by decide)) (fun c => ?_)
    refine lv_aload_n hx hb dJx4a65c_grow_92f84_10 rfl (lv_at hl 1 rfl) ?_
    refine C_get hx hb hts hin hown hK hw (cell_L hr5 hk) (by omega) rfl 1 (by decide) (index := 9) (by decide +kernel) rfl (v := .ref (E 0)) (congrArg (fun o => some (va_rf o)) h1) dJx4a65c_grow_92f84_11 ?_
    refine va_gets hx hb hro.2.2.1 hw.2.2.2.2 hown (hts (.fieldLink RJx4a65c 39 "java/util/ArrayList" "DEFAULTCAPACITY_EMPTY_ELEMENTDATA" "[Ljava/lang/Object;") (by decide +kernel)) (fun _ h => h) dJx4a65c_grow_92f84_14 ?_
    refine lv_acmp_eq (rx := some (E 0)) (ry := some (E 0)) (tgt := 45) hx hb dJx4a65c_grow_92f84_17 (by decide) (fun _ => ?_) (fun c => absurd rfl c)
    refine lv_aload_n hx hb dJx4a65c_grow_92f84_45 rfl (lv_at hl 1 rfl) ?_
    refine lv_bipush (v := 10) hx hb dJx4a65c_grow_92f84_46 (by decide) ?_
    refine lv_iload_n hx hb dJx4a65c_grow_92f84_48 rfl (lv_at hl 2 rfl) ?_
    refine va_mmax (rest := [.ref a]) hx hb (hml.trans hl.1.symm) hown (hts (.methodLink RJx4a65c 79 Lib.Math.max.name) (by decide +kernel)) (hts (.static Lib.Math.max.name) (by decide +kernel)) (hts (.initialized "java/lang/Math") (by decide +kernel)) (hts (.code Lib.Math.max.name Lib.Math.max.code 2 (some .int)) (by decide +kernel)) (Nat.le_of_ble_eq_true rfl) (Nat.le_of_ble_eq_true rfl) (by show _ ≤ 1; omega) (by show _ ≤ 10; omega) dJx4a65c_grow_92f84_49 ?_
    refine C_newO (d := 30 + r) (N := 10) hx hb hown (hts (.classLink RJx4a65c 7 "java/lang/Object") (by decide +kernel)) hro.2.2.2.2.2.2.2.2.2.2.2.1 hK hA hw 2 rfl (cnew_O hr5 S) (by decide) (by decide) (by decide) (by show _ ≤ 1; omega) (by show _ ≤ 10; omega) dJx4a65c_grow_92f84_52 (fun q S1 H eq eS hw => ?_)
    subst eq eS
    refine lv_dup_x1 hx hb dJx4a65c_grow_92f84_55 rfl rfl ?_
    have hk1 : cD (nw S (30 + r) 10) a = 20 + r := by rw [cD_nw, set1_n _ _ han]; exact hk
    refine C_put hx hb hts hin tyJx4a65c tyJx4a65c_ok nmJx4a65c hown hK hw (cell_L hr5 hk1) (by omega) rfl 1 (by decide) (index := 9) (by decide +kernel) rfl rfl (ty := .array (.object "java/lang/Object")) (by decide +kernel) rfl rfl (Nat.le_of_ble_eq_true rfl) (S' := uR (nw S (30 + r) 10) (gE r) a (some (nx S))) rfl rfl rfl (puL_E hr5 hk1 (some (nx S))) (fun b hb => off_uR hb) dJx4a65c_grow_92f84_56 (fun S6 H locs eS6 hw => ?_)
    subst eS6
    refine W.widen (k := 1) (n := 10) (by omega) (by omega) ?_
    exact C_aret (r := some (nx S)) hx hb hr hlocks (Or.inr ⟨_, rfl⟩) hw dJx4a65c_grow_92f84_59
  · subst h4 h5 h6
    generalize hkk : cN S b = k at h2 h3 hel hl ⊢
    refine C_get hx hb hts hin hown hK hw (cell_L hr5 hk) (by omega) rfl 1 (by decide) (index := 9) (by decide +kernel) rfl (v := .ref b) (congrArg (fun o => some (va_rf o)) h1) dJx4a65c_grow_92f84_1 ?_
    refine C_alenO hx hb hK hw hr5 hkb dJx4a65c_grow_92f84_4 ?_
    rw [hkk]
    refine lv_istore_n (lv' := [(2, .int (nI k)), (0, .ref a), (1, .int (nI (k + 1)))]) hx hb dJx4a65c_grow_92f84_5 rfl hl (by decide) rfl (fun ls hl => ?_)
    refine lv_iload_n hx hb dJx4a65c_grow_92f84_6 rfl (lv_at hl 0 rfl) ?_
    refine lv_if_gt (tgt := 20) hx hb dJx4a65c_grow_92f84_7 (by decide) (fun c => ?_) (fun c => absurd (show nI 0 < nI k from nI_lt (by omega) (by omega)) c)
    refine lv_iload_n hx hb dJx4a65c_grow_92f84_20 rfl (lv_at hl 0 rfl) ?_
    refine lv_iload_n hx hb dJx4a65c_grow_92f84_21 rfl (lv_at hl 2 rfl) ?_
    refine lv_iload_n hx hb dJx4a65c_grow_92f84_22 rfl (lv_at hl 0 rfl) ?_
    refine lv_isub hx hb dJx4a65c_grow_92f84_23 ?_
    refine lv_iload_n hx hb dJx4a65c_grow_92f84_24 rfl (lv_at hl 0 rfl) ?_
    refine lv_iconst (v := 1) hx hb dJx4a65c_grow_92f84_25 (by decide) ?_
    refine lv_ishr hx hb dJx4a65c_grow_92f84_26 ?_
    have e1 : nI (k + 1) - nI k = nI 1 := by
      have q := pk_sub (a := k + 1) (b := k) (by omega)
      rw [Nat.add_sub_cancel_left] at q
      exact q
    have e2 : nI k >>> ((1 : Int32) &&& 31) = nI (k / 2) := by
      have q := pk_shrN (n := k) (by omega) ((1 : Int32) &&& 31) 1 (by decide)
      rw [Nat.pow_one] at q
      exact q
    rw [e1, e2]
    refine C_s (va_runS (As := [.int (nI k), .int (nI 1), .int (nI (k / 2))]) (rest := []) ⟨hx, hb, hml, hown, hts⟩ (cJ8_newLen l k h2 h3) (va_cwS 3 hts gJx4a65c_grow_92f84_J8_newLength_cabcc rfl rfl rfl (by decide +kernel) ⟨Nat.le_of_ble_eq_true rfl, Nat.le_of_ble_eq_true rfl⟩) ⟨fun a U g mk q => ⟨q.1, trivial⟩, fun U hU hW => ⟨rfl, trivial⟩⟩ rfl rfl hl.1 rfl (lv_room (Nat.le_of_ble_eq_true rfl)) dJx4a65c_grow_92f84_27 ⟨by show _ ≤ 1; omega, by show _ ≤ _; exact Nat.zero_le _⟩) (fun r3 e3 => ?_)
    subst e3
    refine lv_istore_n (lv' := [(3, .int (nI (k + k / 2))), (2, .int (nI k)), (0, .ref a), (1, .int (nI (k + 1)))]) hx hb dJx4a65c_grow_92f84_30 rfl hl (by decide) rfl (fun ls hl => ?_)
    refine lv_aload_n hx hb dJx4a65c_grow_92f84_31 rfl (lv_at hl 2 rfl) ?_
    refine lv_aload_n hx hb dJx4a65c_grow_92f84_32 rfl (lv_at hl 2 rfl) ?_
    refine C_get hx hb hts hin hown hK hw (cell_L hr5 hk) (by omega) rfl 1 (by decide) (index := 9) (by decide +kernel) rfl (v := .ref b) (congrArg (fun o => some (va_rf o)) h1) dJx4a65c_grow_92f84_33 ?_
    refine lv_iload_n hx hb dJx4a65c_grow_92f84_36 rfl (lv_at hl 0 rfl) ?_
    refine C_q hA hw (va_runS (As := [.ref b, .int (nI (k + k / 2))]) (rest := [.ref a]) ⟨hx, hb, hml, hown, hts⟩ (cJ7_copy2 l D cc E r hr5 S b (k + k / 2) hkb (by omega) (by omega) (by rw [hkk]; exact hel)) (va_cwS 2 hts gJx4a65c_grow_92f84_J7_copyOf_1904c rfl rfl rfl (by decide +kernel) ⟨Nat.le_of_ble_eq_true rfl, Nat.le_of_ble_eq_true rfl⟩) ⟨cBlind D cc E S _, fun U hU hW => ⟨rfl, C_pre hA hK hro hw U hU hW⟩⟩ rfl rfl hl.1 rfl (lv_room (Nat.le_of_ble_eq_true rfl)) dJx4a65c_grow_92f84_37 ⟨by show _ ≤ 1; omega, by show _ ≤ k + k / 2; omega⟩) (fun H locs hw => ?_)
    have hk1 : cD (gwS S r b (k + k / 2)) a = 20 + r := by
      show cD (nw S (30 + r) (k + k / 2)) a = _
      rw [cD_nw, set1_n _ _ han]
      exact hk
    refine lv_dup_x1 hx hb dJx4a65c_grow_92f84_40 rfl rfl ?_
    refine C_put hx hb hts hin tyJx4a65c tyJx4a65c_ok nmJx4a65c hown hK hw (cell_L hr5 hk1) (by omega) rfl 1 (by decide) (index := 9) (by decide +kernel) rfl rfl (ty := .array (.object "java/lang/Object")) (by decide +kernel) rfl rfl (Nat.le_of_ble_eq_true rfl) (S' := uR (gwS S r b (k + k / 2)) (gE r) a (some (nx S))) rfl rfl rfl (puL_E hr5 hk1 (some (nx S))) (fun b hb => off_uR hb) dJx4a65c_grow_92f84_41 (fun S6 H locs eS6 hw => ?_)
    subst eS6
    refine W.widen (k := 1) (n := k + k / 2) (by omega) (by omega) ?_
    exact C_aret (r := some (nx S)) hx hb hr hlocks (Or.inr ⟨_, rfl⟩) hw dJx4a65c_grow_92f84_44
