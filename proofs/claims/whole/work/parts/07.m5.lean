/-! parcels -/
def refN (x : MS) (f d : Int32) (k : Nat) : Int32 := itN (fun e a => if letsB x e f d = true ∧ (a < 0 ∨ ¬ mA x 23 a.toNatClampNeg ≤ mA x 23 e) then nI e else a) (-1) k
theorem refN_s (x : MS) (f d : Int32) (k : Nat) : refN x f d (k + 1) = if letsB x k f d = true ∧ (refN x f d k < 0 ∨ ¬ mA x 23 (refN x f d k).toNatClampNeg ≤ mA x 23 k) then nI k else refN x f d k := rfl
theorem refN_rng (x : MS) (f d : Int32) : ∀ k : Nat, refN x f d k = -1 ∨ ∃ i, i < k ∧ refN x f d k = nI i := by
  intro k
  induction k with
  | zero => exact Or.inl rfl
  | succ k ih =>
    rw [refN_s]
    split
    · exact Or.inr ⟨k, by omega, rfl⟩
    · rcases ih with h | ⟨i, hi, h⟩
      · exact Or.inl h
      · exact Or.inr ⟨i, by omega, h⟩
/-- what taking leaves as it was -/
def Kp (x z : MS) : Prop := (∀ f, f ≠ 37 → mI z f = mI x f) ∧ (∀ f, f ≠ 9 → f ≠ 10 → f ≠ 38 → f ≠ 39 → mA z f = mA x f) ∧ (∀ f, mL z f = mL x f) ∧ ∀ f, mB z f = mB x f
theorem Kp_refl (x : MS) : Kp x x := ⟨fun _ _ => rfl, fun _ _ _ _ _ => rfl, fun _ => rfl, fun _ => rfl⟩
theorem Kp_take {x z : MS} (h : Kp x z) (j : Nat) (its : Int32) : Kp x (takeS z j its) := by
  obtain ⟨h1, h2, h3, h4⟩ := h
  refine ⟨fun f hf => (takeS_I z j its f hf).trans (h1 f hf), fun f a b c d => ?_, fun f => h3 f, fun f => h4 f⟩
  rw [← h2 f a b c d]
  simp [takeS, mA_sI, mA_sA, a, b, c, d]
theorem Kp_N {x z : MS} (h : Kp x z) (f : Nat) (hf : f ≠ 37) : nN z f = nN x f := by rw [nN, nN, h.1 f hf]
theorem Kp_ok {x z : MS} (h : Kp x z) {f b : Nat} (hf : f ≠ 37) (hk : okN x f b) : okN z f b := by
  unfold okN
  rw [h.1 f hf, Kp_N h f hf]
  exact hk
def PInv (x z : MS) (b : Nat) : Prop := Kp x z ∧ mI z 37 = nI (nN z 37) ∧ nN z 37 + cntL z ≤ b ∧ ∀ j, 0 ≤ mA z 9 j
theorem PInv_le {x z : MS} {b c : Nat} (h : PInv x z b) (hc : b ≤ c) : PInv x z c := ⟨h.1, h.2.1, Nat.le_trans h.2.2.1 hc, h.2.2.2⟩
theorem takeS_P {x z : MS} {b j : Nat} {g : Int32} (hP : PInv x z b) (hb : b < 24000) (hj : j < nN z 4) (hg : ¬ g ≤ 0) (hp : ¬ mA z 9 j ≤ 0) : PInv x (takeS z j (itsF z j g)) (if g ≤ mA z 9 j then b + 1 else b) := by
  obtain ⟨hk, h37, hb2, hn⟩ := hP
  have h37' := takeS_37 z j (itsF z j g) (by omega)
  have hc := cntP_upd (mA z 9) j (mA z 9 j - itsF z j g) hp (nN z 4) hj
  have hcl : cntL (takeS z j (itsF z j g)) = cntP (upd (mA z 9) j (mA z 9 j - itsF z j g)) (nN z 4) := by rw [cntL, takeS_9, takeS_N _ _ _ _ (by decide)]
  have hcx : cntL z = cntP (mA z 9) (nN z 4) := rfl
  refine ⟨Kp_take hk _ _, h37'.1, ?_, fun i => ?_⟩
  · by_cases hgl : g ≤ mA z 9 j
    · rw [if_pos hgl]
      split at hc <;> omega
    · rw [if_neg hgl]
      have hi : itsF z j g = mA z 9 j := if_neg hgl
      rw [hi] at hc h37' hcl ⊢
      rw [Int32.sub_self, if_pos (Int32.le_refl 0)] at hc
      rw [Int32.sub_self] at hcl
      omega
  · rw [takeS_9]
    by_cases hi : i = j
    · subst hi
      simp only [upd, if_true]
      unfold itsF
      have h0 : (0 : Int32).toInt = 0 := by decide
      by_cases hgl : g ≤ mA z 9 i
      · rw [if_pos hgl]
        have := i32_sub (a := mA z 9 i) (b := g) (Int32.le_of_lt (Int32.not_le.mp hg)) hgl
        rw [i32_le] at hgl ⊢
        omega
      · rw [if_neg hgl, Int32.sub_self]; exact Int32.le_refl 0
    · simp only [upd, hi, if_false]; exact hn i
theorem lF_0 {z : MS} {kd g : Int32} (h : g ≤ 0) : lF z kd g < 0 := by rw [lF, if_pos h]; decide
theorem takeN_0 {z : MS} {kd g : Int32} (h : g ≤ 0) (n : Nat) : takeN kd n z g = (z, g) := by
  cases n with
  | zero => rfl
  | succ n => exact takeN_exit (lF_0 h)
theorem takeN_inv {x : MS} {b : Nat} (kd : Int32) (hb : b < 24000) (h4 : okN x 4 200) : ∀ (n : Nat) (z : MS) (g : Int32), PInv x z b → PInv x (takeN kd n z g).1 (b + 1) ∧ (¬ (takeN kd n z g).2 ≤ 0 → PInv x (takeN kd n z g).1 b) := by
  intro n
  induction n with
  | zero => exact fun z g h => ⟨PInv_le h (by omega), fun _ => h⟩
  | succ n ih =>
    intro z g h
    by_cases hl : lF z kd g < 0
    · rw [takeN_exit hl]; exact ⟨PInv_le h (by omega), fun _ => h⟩
    · obtain ⟨j, hj, hlj, hg, hnx, hp, -, -⟩ := lF_spec hl
      have hN := Kp_N h.1 4 (by decide)
      have h42 := h4.2
      rw [takeN_step hlj (by omega)]
      have hq := takeS_P h hb hj hg hp
      by_cases hgl : g ≤ mA z 9 j
      · rw [if_pos hgl] at hq
        have hi : itsF z j g = g := if_pos hgl
        rw [hi] at hq ⊢
        rw [takeN_0 (i32_sub_self g)]
        exact ⟨hq, fun h => absurd (i32_sub_self g) h⟩
      · rw [if_neg hgl] at hq
        exact ih _ _ hq
theorem takeF_inv {x z : MS} {b : Nat} (kd g : Int32) (hb : b < 24000) (h4 : okN x 4 200) (h : PInv x z b) : PInv x (takeF z kd g).1 (b + 1) ∧ (¬ (takeF z kd g).2 ≤ 0 → PInv x (takeF z kd g).1 b) := takeN_inv kd hb h4 201 z g h
/-- the rules' swaps for a kind -/
def ruleS (f : Int32) (kd r : Nat) (p : MS × Int32) : MS × Int32 := if p.2 ≤ 0 then p else if mA p.1 26 r = 2 ∧ mA p.1 27 r = nI kd ∧ barB p.1 f (mA p.1 28 r) = false then takeF p.1 (mA p.1 28 r) p.2 else p
def ruleN (f : Int32) (kd : Nat) (p : MS × Int32) (r : Nat) : MS × Int32 := itN (ruleS f kd) p r
theorem ruleN_s (f : Int32) (kd : Nat) (p : MS × Int32) (r : Nat) : ruleN f kd p (r + 1) = ruleS f kd r (ruleN f kd p r) := rfl
theorem ruleN_stay (f : Int32) (kd : Nat) (p : MS × Int32) (r : Nat) (h : (ruleN f kd p r).2 ≤ 0) : ∀ m, ruleN f kd p (r + m) = ruleN f kd p r := by
  intro m
  induction m with
  | zero => rfl
  | succ m ih =>
    rw [← Nat.add_assoc, ruleN_s, ih, ruleS, if_pos h]
def kin1 (z : MS) (f : Int32) (kd : Nat) : MS × Int32 := if barB z f (nI kd) then (z, needN z (mA z 18 f.toNatClampNeg) (nI kd) (nN z 25)) else takeF z (nI kd) (needN z (mA z 18 f.toNatClampNeg) (nI kd) (nN z 25))
def kinS (f : Int32) (kd : Nat) (p : MS × Int32) : MS × Int32 := ((ruleN f kd (kin1 p.1 f kd) (nN p.1 25)).1, p.2 + (ruleN f kd (kin1 p.1 f kd) (nN p.1 25)).2)
def kinN (x : MS) (f : Int32) (k : Nat) : MS × Int32 := itN (kinS f) (x, 0) k
theorem kinN_0 (x : MS) (f : Int32) : kinN x f 0 = (x, 0) := itN_0 _ _
theorem kinN_s (x : MS) (f : Int32) (k : Nat) : kinN x f (k + 1) = kinS f k (kinN x f k) := rfl
/-- along the swaps -/
def RInv (x : MS) (p : MS × Int32) (b : Nat) : Prop := PInv x p.1 (b + 1) ∧ (¬ p.2 ≤ 0 → PInv x p.1 b)
theorem kin1_inv {x z : MS} {f : Int32} {kd b : Nat} (hb : b < 24000) (h4 : okN x 4 200) (h : PInv x z b) : RInv x (kin1 z f kd) b := by
  unfold kin1
  split
  · exact ⟨PInv_le h (by omega), fun _ => h⟩
  · exact takeF_inv _ _ hb h4 h
theorem ruleN_inv {x : MS} {f : Int32} {kd b : Nat} (hb : b < 24000) (h4 : okN x 4 200) {p : MS × Int32} (h : RInv x p b) : ∀ r, RInv x (ruleN f kd p r) b := by
  intro r
  induction r with
  | zero => exact h
  | succ r ih =>
    rw [ruleN_s, ruleS]
    split
    · exact ih
    · rename_i hz
      split
      · exact takeF_inv _ _ hb h4 (ih.2 hz)
      · exact ih
theorem kinN_inv {x : MS} {f : Int32} {b : Nat} (h4 : okN x 4 200) (h : PInv x x b) : ∀ k, b + k < 24000 → PInv x (kinN x f k).1 (b + k) := by
  intro k
  induction k with
  | zero => exact fun _ => h
  | succ k ih =>
    intro hb
    rw [kinN_s]
    exact (ruleN_inv (b := b + k) (by omega) h4 (kin1_inv (by omega) h4 (ih (by omega))) _).1
def rulOk (x : MS) : Prop := ∀ r, r < nN x 25 → mA x 26 r = 2 → vp_in (mA x 28 r) 10
def okP (x : MS) : Prop := okN x 4 200 ∧ okN x 16 40 ∧ okN x 20 100 ∧ okN x 25 30 ∧ okN x 32 518 ∧ PInv x x 23900 ∧ rulOk x
theorem PInv_T {x z : MS} {b : Nat} (h : PInv x z b) (hb : b < 24000) (h4 : okN x 4 200) (h25 : okN x 25 30) (g : Int32) : okT z g := by
  obtain ⟨hk, h37, hb2, hn⟩ := h
  refine ⟨Kp_ok hk (by decide) h4, Kp_ok hk (by decide) h25, h37, ?_, hn⟩
  split <;> omega
def parX1 (z : MS) (i n : Nat) (f was mis : Int32) : MS := sA (sA (sA (sA (sA z 24 (upd (mA z 24) i (mA z 24 i - 1))) 33 (upd (mA z 33) n f)) 34 (upd (mA z 34) n (mI z 2))) 35 (upd (mA z 35) n was)) 36 (upd (mA z 36) n mis)
def parcelX (z : MS) (i n : Nat) (f was mis : Int32) : MS := sA (sI (sL (parX1 z i n f was mis) 40 (mL z 40 + mis.toInt64)) 32 (nI (n + 1))) 35 (upd (upd (mA z 35) n was) (n + 1) (mI z 37))
theorem parX1_I (z : MS) (i n : Nat) (f was mis : Int32) (k : Nat) : mI (parX1 z i n f was mis) k = mI z k := rfl
theorem parX1_L (z : MS) (i n : Nat) (f was mis : Int32) (k : Nat) : mL (parX1 z i n f was mis) k = mL z k := rfl
theorem parX1_35 (z : MS) (i n : Nat) (f was mis : Int32) : mA (parX1 z i n f was mis) 35 = upd (mA z 35) n was := rfl
def parcelF (x : MS) (f : Int32) : Int32 × MS :=
  if ixB (mI x 16) f then (if 0 ≤ refN x f (mI x 2) (nN x 20) then (if mI (kinN x f 10).1 37 = mI x 37 then (-4, toldF (kinN x f 10).1 (-4)) else (nI (nN x 32), toldF (parcelX (kinN x f 10).1 (refN x f (mI x 2) (nN x 20)).toNatClampNeg (nN x 32) f (mI x 37) (kinN x f 10).2) 0)) else (-3, toldF x (-3))) else (-2, toldF x (-2))
set_option maxHeartbeats 4000000 in
set_option maxRecDepth 100000 in
theorem c_parcel (l : Launch) (D : va_G) (cI cJ : ClassId) (ad : Nat → Nat) (x : MS) (a0 : Int32) (h0 : mI x 0 = 0) (hP0 : okP x) : Mi l yX12_parcel wsX12_parcel { frames := 3, cells := 0, slots := 0, locals := 72 } D cI cJ ad [.int a0] x (fun r y => r = (parcelF x a0).1 ∧ y = (parcelF x a0).2) := by
  obtain ⟨h4, h16, h20, h25, h32, hpi, hru⟩ := hP0
  have hN := h20.1
  have hN2 := h20.2
  refine Mi_of (cc := cX12_parcel) (nL := 8) (ret := (some .int)) (by decide) rfl rfl (Nat.le_of_ble_eq_true rfl) ?_
  intro p e s m args below meth c A hx hb hr hlocks hml hts hown hA hK hP hD hS ls hl
  have hin : ∀ w ∈ wsX120, w ∈ wsX12_parcel := fun w h => List.mem_cons_of_mem _ (List.mem_append_right _ h)
  have hl : lv_has ls 8 [(0, .ref (ad 0)), (1, .int a0)] := hl
  refine lv_aload_n hx hb dX12_parcel_0 rfl (lv_at hl 0 rfl) ?_
  refine lv_iconst (v := 0) hx hb dX12_parcel_1 (by decide) ?_
  refine M_put hx hb hts hin hown hK hP hD hS 0 (by decide) rfl rfl (index := 156) (by decide +kernel) (ty := .int) (by decide +kernel) rfl rfl (pI_0 cI cJ ad x _) dX12_parcel_2 (fun y2 H locs ey2 hP hD hS => ?_)
  rw [ey2.trans (sI_0 h0)] at hP hD
  refine lv_aload_n hx hb dX12_parcel_5 rfl (lv_at hl 0 rfl) ?_
  refine lv_iload_n hx hb dX12_parcel_6 rfl (lv_at hl 1 rfl) ?_
  refine M_callr (av := [.int a0]) (rest := []) ⟨hx, hb, hml, hown, hts⟩ hA hK hP hD hS (c_isFamily l D cI cJ ad x (a0) ) (cwV 1 hts gX12_parcel_X12_isFamily rfl rfl rfl (by decide +kernel) ⟨Nat.le_of_ble_eq_true rfl, Nat.le_of_ble_eq_true rfl⟩) rfl hl.1 rfl (Nat.le_of_ble_eq_true rfl) dX12_parcel_7 ⟨Nat.le_of_ble_eq_true rfl, Nat.le_of_ble_eq_true rfl⟩ (fun r7 H locs hw7 hP hD hS => ?_)
  refine lv_if_ne (tgt := 20) hx hb dX12_parcel_10 (by decide) (fun c10 => ?_) (fun c10 => ?_)
  · skip
    simp only [hw7, bI_0, bI_1, Bool.not_eq_false] at c10
    have hf : vp_in a0 40 := ixB_le h16 c10 (by decide)
    have lp297 : ∀ (z w : MS) (mi : Int32), (kinN x a0 10 = (z, mi)) → (w = parX1 z (refN x a0 (mI x 2) (nN x 20)).toNatClampNeg (nN x 32) a0 (mI x 37) mi) → (¬ mI z 37 = mI x 37) → (0 ≤ (refN x a0 (mI x 2) (nN x 20))) → ∀ (H : Heap) (locs : List Loc), va_P D vwCl (wsM cI cJ ad w) H → va_D A (wsM cI cJ ad w) → va_S A s.heap H locs → ∀ ls : Array Slot, lv_has ls 8 [(0, .ref (ad 0)), (1, .int a0), (2, .int (refN x a0 (mI x 2) (nN x 20))), (3, .int (mI x 37)), (4, .int mi), (5, .int (nI 10))] → W p l e { frames := 3, cells := 0, slots := 0, locals := 72 } s m args below meth c H locs 0 0 (MQ below (va_Qi (fun r y => r = (parcelF x a0).1 ∧ y = (parcelF x a0).2) (mAft D cI cJ ad A) A) args s 0 0 A) (F0 m 297 ls []) := by
      intro z w mi hz hw c233 c77 H locs hP hD hS ls hl
      have hI : PInv x z (23900 + 10) := by have h := kinN_inv (f := a0) h4 hpi 10 (by omega); rw [hz] at h; exact h
      have zI : ∀ f, f ≠ 37 → mI z f = mI x f := hI.1.1
      have h321 := h32.1
      have h322 := h32.2
      refine lv_aload_n hx hb dX12_parcel_297 rfl (lv_at hl 0 rfl) ?_
      refine lv_dup hx hb dX12_parcel_298 rfl ?_
      refine M_get hx hb hts hin hown hK hP 40 (by decide) rfl (index := 242) (by decide +kernel) rfl dX12_parcel_299 ?_
      refine lv_topl (fun v299 ev299 => ?_)
      refine lv_iload hx hb dX12_parcel_302 (lv_at hl 4 rfl) ?_
      refine lv_i2l hx hb dX12_parcel_304 rfl ?_
      refine lv_ladd hx hb dX12_parcel_305 ?_
      refine M_put hx hb hts hin hown hK hP hD hS 40 (by decide) rfl rfl (index := 242) (by decide +kernel) (ty := .long) (by decide +kernel) rfl rfl (pI_40 cI cJ ad w _) dX12_parcel_306 (fun y306 H locs ey306 hP hD hS => ?_)
      refine lv_aload_n hx hb dX12_parcel_309 rfl (lv_at hl 0 rfl) ?_
      refine lv_dup hx hb dX12_parcel_310 rfl ?_
      refine M_get hx hb hts hin hown hK hP 32 (by decide) rfl (index := 239) (by decide +kernel) rfl dX12_parcel_311 ?_
      refine lv_topi (fun v311 ev311 => ?_)
      refine lv_iconst (v := 1) hx hb dX12_parcel_314 (by decide) ?_
      refine lv_iadd hx hb dX12_parcel_315 ?_
      refine M_put hx hb hts hin hown hK hP hD hS 32 (by decide) rfl rfl (index := 239) (by decide +kernel) (ty := .int) (by decide +kernel) rfl rfl (pI_32 cI cJ ad y306 _) dX12_parcel_316 (fun y316 H locs ey316 hP hD hS => ?_)
      have e5 : mI y316 32 = nI (nN x 32 + 1) := by rw [ey316, ev311, ey306, hw, ← nI_1, ← h321, ← zI 32 (by decide)]; rfl
      refine lv_aload_n hx hb dX12_parcel_319 rfl (lv_at hl 0 rfl) ?_
      refine M_get hx hb hts hin hown hK hP 35 (by decide) rfl (index := 86) (by decide +kernel) rfl dX12_parcel_320 ?_
      refine lv_aload_n hx hb dX12_parcel_323 rfl (lv_at hl 0 rfl) ?_
      refine M_get hx hb hts hin hown hK hP 32 (by decide) rfl (index := 239) (by decide +kernel) rfl dX12_parcel_324 ?_
      refine lv_topi (fun v324 ev324 => ?_)
      refine lv_aload_n hx hb dX12_parcel_327 rfl (lv_at hl 0 rfl) ?_
      refine M_get hx hb hts hin hown hK hP 37 (by decide) rfl (index := 229) (by decide +kernel) rfl dX12_parcel_328 ?_
      refine lv_topi (fun v328 ev328 => ?_)
      have h331 : vp_in v324 521 := by rw [ev324, e5]; exact vp_in_nI (by omega) (by decide)
      refine M_iast hx hb hK hP hD hS 26 rfl h331 (pA_35 cI cJ ad y316 _) dX12_parcel_331 (fun y331 H locs ey331 hP hD hS => ?_)
      refine lv_aload_n hx hb dX12_parcel_332 rfl (lv_at hl 0 rfl) ?_
      refine lv_aload_n hx hb dX12_parcel_333 rfl (lv_at hl 0 rfl) ?_
      refine M_get hx hb hts hin hown hK hP 32 (by decide) rfl (index := 239) (by decide +kernel) rfl dX12_parcel_334 ?_
      refine lv_topi (fun v334 ev334 => ?_)
      refine lv_iconst (v := 1) hx hb dX12_parcel_337 (by decide) ?_
      refine lv_isub hx hb dX12_parcel_338 ?_
      refine M_calli (av := [.int (v334 - (1 : Int32))]) (rest := []) ⟨hx, hb, hml, hown, hts⟩ hA hK hP hD hS (c_told l D cI cJ ad y331 ((v334 - (1 : Int32))) ) (cwV 1 hts gX12_parcel_X12_told rfl rfl rfl (by decide +kernel) ⟨Nat.le_of_ble_eq_true rfl, Nat.le_of_ble_eq_true rfl⟩) rfl hl.1 rfl (Nat.le_of_ble_eq_true rfl) dX12_parcel_339 ⟨Nat.le_of_ble_eq_true rfl, Nat.le_of_ble_eq_true rfl⟩ (fun r339 y339 H locs hw339 hP hD hS => ?_)
      obtain ⟨er339, ey339⟩ := hw339
      refine M_iret (v := r339) hx hb hr hlocks hK hP hD hS dX12_parcel_342 ?_
      have hcl2 : (nI (nN x 32 + 1)).toNatClampNeg = nN x 32 + 1 := nI_clamp (by omega)
      have z32 : mI z 32 = nI (nN x 32) := (zI 32 (by decide)).trans h321
      have w6 : y306 = sL w 40 (mL z 40 + mi.toInt64) := by rw [ey306, ev299, hw]; rfl
      have w7 : y316 = sI y306 32 (nI (nN x 32 + 1)) := by rw [ey316, ev311, w6, hw, ← nI_1, ← z32]; rfl
      have w8 : y331 = sA y316 35 (upd (upd (mA z 35) (nN x 32) (mI x 37)) (nN x 32 + 1) (mI z 37)) := by rw [ey331, ev324, e5, hcl2, ev328, w7, w6, hw]; rfl
      have e1 : r339 = nI (nN x 32) := by rw [er339, ev334, w8, w7]; exact nI_pred (nN x 32)
      rw [← er339, e1, toldF_nI _ (by omega)] at ey339
      rw [ey339, e1]
      simp only [parcelF, hz, c10, c77, c233, not_true_eq_false, not_false_eq_true, and_true, true_and, and_false, false_and, and_self, if_true, if_false, ite_true, ite_false, ↓reduceIte, Int32.add_zero, Bool.not_eq_false, Bool.and_true, Bool.true_and, Bool.and_false, Bool.false_and, Bool.false_eq_true, Bool.true_eq_false]
      rw [parcelX, w8, w7, w6, hw]
    have lp228 : ∀ (z : MS) (mi : Int32), (kinN x a0 10 = (z, mi)) → (0 ≤ (refN x a0 (mI x 2) (nN x 20))) → ∀ (H : Heap) (locs : List Loc), va_P D vwCl (wsM cI cJ ad z) H → va_D A (wsM cI cJ ad z) → va_S A s.heap H locs → ∀ ls : Array Slot, lv_has ls 8 [(0, .ref (ad 0)), (1, .int a0), (2, .int (refN x a0 (mI x 2) (nN x 20))), (3, .int (mI x 37)), (4, .int mi), (5, .int (nI 10))] → W p l e { frames := 3, cells := 0, slots := 0, locals := 72 } s m args below meth c H locs 0 0 (MQ below (va_Qi (fun r y => r = (parcelF x a0).1 ∧ y = (parcelF x a0).2) (mAft D cI cJ ad A) A) args s 0 0 A) (F0 m 228 ls []) := by
      intro z mi hz c77 H locs hP hD hS ls hl
      obtain ⟨i0, hi0, hri⟩ : ∃ i, i < nN x 20 ∧ (refN x a0 (mI x 2) (nN x 20)) = nI i := by
        rcases refN_rng x a0 (mI x 2) (nN x 20) with h | h
        · exact absurd c77 (by rw [h]; decide)
        · exact h
      have hI : PInv x z (23900 + 10) := by have h := kinN_inv (f := a0) h4 hpi 10 (by omega); rw [hz] at h; exact h
      have hzk := hI.1
      have zI : ∀ f, f ≠ 37 → mI z f = mI x f := hzk.1
      have h321 := h32.1
      have h322 := h32.2
      have hz37 := hI.2.1
      refine lv_aload_n hx hb dX12_parcel_228 rfl (lv_at hl 0 rfl) ?_
      refine M_get hx hb hts hin hown hK hP 37 (by decide) rfl (index := 229) (by decide +kernel) rfl dX12_parcel_229 ?_
      refine lv_topi (fun v229 ev229 => ?_)
      refine lv_iload_n hx hb dX12_parcel_232 rfl (lv_at hl 3 rfl) ?_
      refine lv_icmp_ne (tgt := 243) hx hb dX12_parcel_233 (by decide) (fun c233 => ?_) (fun c233 => ?_)
      · skip
        simp only [ev229] at c233
        refine lv_aload_n hx hb dX12_parcel_243 rfl (lv_at hl 0 rfl) ?_
        refine M_get hx hb hts hin hown hK hP 24 (by decide) rfl (index := 62) (by decide +kernel) rfl dX12_parcel_244 ?_
        refine lv_iload_n hx hb dX12_parcel_247 rfl (lv_at hl 2 rfl) ?_
        refine lv_dup2_11 hx hb dX12_parcel_248 rfl rfl ?_
        have h249 : vp_in ((refN x a0 (mI x 2) (nN x 20))) 100 := by rw [hri]; exact vp_in_nI (by omega) (by decide)
        refine va_iald hx hb hK hP 18 0 rfl rfl h249 dX12_parcel_249 ?_
        refine lv_topi (fun v249 ev249 => ?_)
        refine lv_iconst (v := 1) hx hb dX12_parcel_250 (by decide) ?_
        refine lv_isub hx hb dX12_parcel_251 ?_
        have h252 : vp_in ((refN x a0 (mI x 2) (nN x 20))) 100 := by rw [hri]; exact vp_in_nI (by omega) (by decide)
        refine M_iast hx hb hK hP hD hS 18 rfl h252 (pA_24 cI cJ ad z _) dX12_parcel_252 (fun y252 H locs ey252 hP hD hS => ?_)
        refine lv_aload_n hx hb dX12_parcel_253 rfl (lv_at hl 0 rfl) ?_
        refine M_get hx hb hts hin hown hK hP 33 (by decide) rfl (index := 80) (by decide +kernel) rfl dX12_parcel_254 ?_
        refine lv_aload_n hx hb dX12_parcel_257 rfl (lv_at hl 0 rfl) ?_
        refine M_get hx hb hts hin hown hK hP 32 (by decide) rfl (index := 239) (by decide +kernel) rfl dX12_parcel_258 ?_
        refine lv_topi (fun v258 ev258 => ?_)
        refine lv_iload_n hx hb dX12_parcel_261 rfl (lv_at hl 1 rfl) ?_
        have h262 : vp_in v258 520 := by simp only [ev229, ev249, ey252, ev258, mI_sI, mI_sA, mI_sL, mI_sB, mL_sI, mL_sA, mL_sL, mL_sB, mA_sI, mA_sA, mA_sL, mA_sB, mB_sI, mB_sA, mB_sL, mB_sB, zI 32 (by decide), h321]; exact vp_in_nI (by omega) (by decide)
        refine M_iast hx hb hK hP hD hS 24 rfl h262 (pA_33 cI cJ ad y252 _) dX12_parcel_262 (fun y262 H locs ey262 hP hD hS => ?_)
        refine lv_aload_n hx hb dX12_parcel_263 rfl (lv_at hl 0 rfl) ?_
        refine M_get hx hb hts hin hown hK hP 34 (by decide) rfl (index := 83) (by decide +kernel) rfl dX12_parcel_264 ?_
        refine lv_aload_n hx hb dX12_parcel_267 rfl (lv_at hl 0 rfl) ?_
        refine M_get hx hb hts hin hown hK hP 32 (by decide) rfl (index := 239) (by decide +kernel) rfl dX12_parcel_268 ?_
        refine lv_topi (fun v268 ev268 => ?_)
        refine lv_aload_n hx hb dX12_parcel_271 rfl (lv_at hl 0 rfl) ?_
        refine M_get hx hb hts hin hown hK hP 2 (by decide) rfl (index := 189) (by decide +kernel) rfl dX12_parcel_272 ?_
        refine lv_topi (fun v272 ev272 => ?_)
        have h275 : vp_in v268 520 := by simp only [ev229, ev249, ey252, ev258, ey262, ev268, ev272, mI_sI, mI_sA, mI_sL, mI_sB, mL_sI, mL_sA, mL_sL, mL_sB, mA_sI, mA_sA, mA_sL, mA_sB, mB_sI, mB_sA, mB_sL, mB_sB, zI 32 (by decide), h321]; exact vp_in_nI (by omega) (by decide)
        refine M_iast hx hb hK hP hD hS 25 rfl h275 (pA_34 cI cJ ad y262 _) dX12_parcel_275 (fun y275 H locs ey275 hP hD hS => ?_)
        refine lv_aload_n hx hb dX12_parcel_276 rfl (lv_at hl 0 rfl) ?_
        refine M_get hx hb hts hin hown hK hP 35 (by decide) rfl (index := 86) (by decide +kernel) rfl dX12_parcel_277 ?_
        refine lv_aload_n hx hb dX12_parcel_280 rfl (lv_at hl 0 rfl) ?_
        refine M_get hx hb hts hin hown hK hP 32 (by decide) rfl (index := 239) (by decide +kernel) rfl dX12_parcel_281 ?_
        refine lv_topi (fun v281 ev281 => ?_)
        refine lv_iload_n hx hb dX12_parcel_284 rfl (lv_at hl 3 rfl) ?_
        have h285 : vp_in v281 521 := by simp only [ev229, ev249, ey252, ev258, ey262, ev268, ev272, ey275, ev281, mI_sI, mI_sA, mI_sL, mI_sB, mL_sI, mL_sA, mL_sL, mL_sB, mA_sI, mA_sA, mA_sL, mA_sB, mB_sI, mB_sA, mB_sL, mB_sB, zI 32 (by decide), h321]; exact vp_in_nI (by omega) (by decide)
        refine M_iast hx hb hK hP hD hS 26 rfl h285 (pA_35 cI cJ ad y275 _) dX12_parcel_285 (fun y285 H locs ey285 hP hD hS => ?_)
        refine lv_aload_n hx hb dX12_parcel_286 rfl (lv_at hl 0 rfl) ?_
        refine M_get hx hb hts hin hown hK hP 36 (by decide) rfl (index := 89) (by decide +kernel) rfl dX12_parcel_287 ?_
        refine lv_aload_n hx hb dX12_parcel_290 rfl (lv_at hl 0 rfl) ?_
        refine M_get hx hb hts hin hown hK hP 32 (by decide) rfl (index := 239) (by decide +kernel) rfl dX12_parcel_291 ?_
        refine lv_topi (fun v291 ev291 => ?_)
        refine lv_iload hx hb dX12_parcel_294 (lv_at hl 4 rfl) ?_
        have h296 : vp_in v291 520 := by simp only [ev229, ev249, ey252, ev258, ey262, ev268, ev272, ey275, ev281, ey285, ev291, mI_sI, mI_sA, mI_sL, mI_sB, mL_sI, mL_sA, mL_sL, mL_sB, mA_sI, mA_sA, mA_sL, mA_sB, mB_sI, mB_sA, mB_sL, mB_sB, zI 32 (by decide), h321]; exact vp_in_nI (by omega) (by decide)
        refine M_iast hx hb hK hP hD hS 27 rfl h296 (pA_36 cI cJ ad y285 _) dX12_parcel_296 (fun y296 H locs ey296 hP hD hS => ?_)
        have qx : y296 = (parX1 z (refN x a0 (mI x 2) (nN x 20)).toNatClampNeg (nN x 32) a0 (mI x 37) mi) := by
          have hcl : (nI (nN x 32)).toNatClampNeg = nN x 32 := nI_clamp (by omega)
          have z32 : mI z 32 = nI (nN x 32) := (zI 32 (by decide)).trans h321
          have a1 : mI y252 32 = nI (nN x 32) := by rw [ey252]; exact z32
          have w2 : y262 = sA y252 33 (upd (mA z 33) (nN x 32) a0) := by rw [ey262, ev258, a1, hcl, ey252]; rfl
          have a2 : mI y262 32 = nI (nN x 32) := by rw [w2]; exact a1
          have b2 : mI y262 2 = mI z 2 := by rw [w2, ey252]; rfl
          have w3 : y275 = sA y262 34 (upd (mA z 34) (nN x 32) (mI z 2)) := by rw [ey275, ev268, ev272, a2, b2, hcl, w2, ey252]; rfl
          have a3 : mI y275 32 = nI (nN x 32) := by rw [w3]; exact a2
          have w4 : y285 = sA y275 35 (upd (mA z 35) (nN x 32) (mI x 37)) := by rw [ey285, ev281, a3, hcl, w3, w2, ey252]; rfl
          have a4 : mI y285 32 = nI (nN x 32) := by rw [w4]; exact a3
          rw [ey296, ev291, a4, hcl, w4, w3, w2, ey252, ev249]
          rfl
        rw [qx] at hP hD
        exact lp297  z (parX1 z (refN x a0 (mI x 2) (nN x 20)).toNatClampNeg (nN x 32) a0 (mI x 37) mi) mi (hz) (rfl) (c233) (c77) _ _ hP hD hS ls (lv_sub hl [0, 1, 2, 3, 4, 5] rfl)
      · skip
        simp only [ev229] at c233
        refine lv_aload_n hx hb dX12_parcel_236 rfl (lv_at hl 0 rfl) ?_
        refine lv_bipush (v := -4) hx hb dX12_parcel_237 (by decide) ?_
        refine M_calli (av := [.int (-4 : Int32)]) (rest := []) ⟨hx, hb, hml, hown, hts⟩ hA hK hP hD hS (c_told l D cI cJ ad z ((-4 : Int32)) ) (cwV 1 hts gX12_parcel_X12_told rfl rfl rfl (by decide +kernel) ⟨Nat.le_of_ble_eq_true rfl, Nat.le_of_ble_eq_true rfl⟩) rfl hl.1 rfl (Nat.le_of_ble_eq_true rfl) dX12_parcel_239 ⟨Nat.le_of_ble_eq_true rfl, Nat.le_of_ble_eq_true rfl⟩ (fun r239 y239 H locs hw239 hP hD hS => ?_)
        obtain ⟨er239, ey239⟩ := hw239
        refine M_iret (v := r239) hx hb hr hlocks hK hP hD hS dX12_parcel_242 ?_
        simp only [ev229, er239, ey239, parcelF, hz, c10, c77, c233, not_true_eq_false, not_false_eq_true, and_true, true_and, and_false, false_and, and_self, if_true, if_false, ite_true, ite_false, ↓reduceIte, Int32.add_zero, Bool.not_eq_false, Bool.and_true, Bool.true_and, Bool.and_false, Bool.false_and, Bool.false_eq_true, Bool.true_eq_false]
    have lp98 : ∀ (n : Nat) (k : Nat), (10 < k + n) → (k ≤ 10) → (0 ≤ (refN x a0 (mI x 2) (nN x 20))) → ∀ (H : Heap) (locs : List Loc), va_P D vwCl (wsM cI cJ ad (kinN x a0 k).1) H → va_D A (wsM cI cJ ad (kinN x a0 k).1) → va_S A s.heap H locs → ∀ ls : Array Slot, lv_has ls 8 [(0, .ref (ad 0)), (1, .int a0), (2, .int (refN x a0 (mI x 2) (nN x 20))), (3, .int (mI x 37)), (4, .int (kinN x a0 k).2), (5, .int (nI k))] → W p l e { frames := 3, cells := 0, slots := 0, locals := 72 } s m args below meth c H locs 0 0 (MQ below (va_Qi (fun r y => r = (parcelF x a0).1 ∧ y = (parcelF x a0).2) (mAft D cI cJ ad A) A) args s 0 0 A) (F0 m 98 ls []) := by
      intro n
      induction n with
      | zero => intro k hn hk c77; exact absurd hn (by omega)
      | succ n ih98 =>
        intro k hn hk c77 H locs hP hD hS ls hl
        refine lv_iload hx hb dX12_parcel_98 (lv_at hl 5 rfl) ?_
        refine lv_bipush (v := 10) hx hb dX12_parcel_100 (by decide) ?_
        refine lv_icmp_ge (tgt := 228) hx hb dX12_parcel_102 (by decide) (fun c102 => ?_) (fun c102 => ?_)
        · skip
          have hk10 : k = 10 := by have := (nI_leI (a := 10) (by omega) (by omega)).mp c102; omega
          subst hk10
          exact lp228  (kinN x a0 10).1 (kinN x a0 10).2 ((Prod.eta _).symm) (c77) _ _ hP hD hS ls (lv_sub hl [0, 1, 2, 3, 4, 5] rfl)
        · skip
          have hk10 : k < 10 := by
            rcases Nat.lt_or_ge k 10 with q | q
            · exact q
            · exact absurd (nI_le q (by omega)) c102
          have hI := kinN_inv (f := a0) h4 hpi k (by omega)
          have hI1 := kin1_inv (f := a0) (kd := k) (by omega) h4 hI
          have hz25 : okN (kinN x a0 k).1 25 30 := Kp_ok hI.1 (by decide) h25
          have hzN : nN (kinN x a0 k).1 25 = nN x 25 := Kp_N hI.1 25 (by decide)
          have lp142 : ∀ (n : Nat) (r : Nat), (nN x 25 < r + n) → (r ≤ nN x 25) → ∀ (H : Heap) (locs : List Loc), va_P D vwCl (wsM cI cJ ad (ruleN a0 k (kin1 (kinN x a0 k).1 a0 k) r).1) H → va_D A (wsM cI cJ ad (ruleN a0 k (kin1 (kinN x a0 k).1 a0 k) r).1) → va_S A s.heap H locs → ∀ ls : Array Slot, lv_has ls 8 [(0, .ref (ad 0)), (1, .int a0), (2, .int (refN x a0 (mI x 2) (nN x 20))), (3, .int (mI x 37)), (4, .int (kinN x a0 k).2), (5, .int (nI k)), (6, .int (ruleN a0 k (kin1 (kinN x a0 k).1 a0 k) r).2), (7, .int (nI r))] → W p l e { frames := 3, cells := 0, slots := 0, locals := 72 } s m args below meth c H locs 0 0 (MQ below (va_Qi (fun r y => r = (parcelF x a0).1 ∧ y = (parcelF x a0).2) (mAft D cI cJ ad A) A) args s 0 0 A) (F0 m 142 ls []) := by
            intro n
            induction n with
            | zero => intro r hn2 hr2; exact absurd hn2 (by omega)
            | succ n ih142 =>
              intro r hn2 hr2 H locs hP hD hS ls hl
              have hR := ruleN_inv (f := a0) (kd := k) (by omega) h4 hI1 r
              have hR25 := h25.2
              refine lv_iload hx hb dX12_parcel_142 (lv_at hl 7 rfl) ?_
              refine lv_aload_n hx hb dX12_parcel_144 rfl (lv_at hl 0 rfl) ?_
              refine M_get hx hb hts hin hown hK hP 25 (by decide) rfl (index := 216) (by decide +kernel) rfl dX12_parcel_145 ?_
              refine lv_topi (fun v145 ev145 => ?_)
              refine lv_icmp_ge (tgt := 215) hx hb dX12_parcel_148 (by decide) (fun c148 => ?_) (fun c148 => ?_)
              · skip
                simp only [ev145] at c148
                have hrN : r = nN x 25 := by rw [hR.1.1.1 25 (by decide), h25.1] at c148; have := (nI_leI (by omega) (by omega)).mp c148; omega
                have hend : ruleN a0 k (kin1 (kinN x a0 k).1 a0 k) (nN (kinN x a0 k).1 25) = (ruleN a0 k (kin1 (kinN x a0 k).1 a0 k) r) := by rw [hzN, hrN]
                refine lv_iload hx hb dX12_parcel_215 (lv_at hl 4 rfl) ?_
                refine lv_iload hx hb dX12_parcel_217 (lv_at hl 6 rfl) ?_
                refine lv_iadd hx hb dX12_parcel_219 ?_
                refine lv_topi (fun x220 ex220 => ?_)
                refine lv_istore (lv' := [(4, .int x220), (0, .ref (ad 0)), (1, .int a0), (2, .int (refN x a0 (mI x 2) (nN x 20))), (3, .int (mI x 37)), (5, .int (nI k)), (6, .int (ruleN a0 k (kin1 (kinN x a0 k).1 a0 k) r).2), (7, .int (nI r))]) hx hb dX12_parcel_220 hl (by decide) rfl (fun ls hl => ?_)
                obtain ⟨x222, ex222⟩ : ∃ y : Int32, y = (nI k) + 1 := ⟨_, rfl⟩
                refine lv_iinc (v := x222) (lv' := [(5, .int x222), (4, .int x220), (0, .ref (ad 0)), (1, .int a0), (2, .int (refN x a0 (mI x 2) (nN x 20))), (3, .int (mI x 37)), (6, .int (ruleN a0 k (kin1 (kinN x a0 k).1 a0 k) r).2), (7, .int (nI r))]) hx hb dX12_parcel_222 hl (k := 5) rfl (by rw [ex222]; rfl) (by decide) rfl (fun ls hl => ?_)
                refine lv_goto (tgt := 98) hx hb dX12_parcel_225 (by decide) ?_
                have q4 : x220 = (kinN x a0 (k + 1)).2 := by rw [ex220, kinN_s, kinS, hend]
                have q5 : x222 = (nI (k + 1)) := by rw [ex222]; exact nI_1 k
                rw [q4, q5] at hl
                have qx : (ruleN a0 k (kin1 (kinN x a0 k).1 a0 k) r).1 = (kinN x a0 (k + 1)).1 := by rw [kinN_s, kinS, hend]
                rw [qx] at hP hD
                exact ih98 (k + 1) (by omega) (by omega) (c77) _ _ hP hD hS ls (lv_sub hl [2, 3, 4, 5, 1, 0] rfl)
              · skip
                simp only [ev145] at c148
                have hrN : r < nN x 25 := by
                  rw [hR.1.1.1 25 (by decide), h25.1] at c148
                  rcases Nat.lt_or_ge r (nN x 25) with q | q
                  · exact q
                  · exact absurd (nI_le q (by omega)) c148
                refine lv_iload hx hb dX12_parcel_151 (lv_at hl 6 rfl) ?_
                refine lv_if_le (tgt := 215) hx hb dX12_parcel_153 (by decide) (fun c153 => ?_) (fun c153 => ?_)
                · skip
                  have hend : ruleN a0 k (kin1 (kinN x a0 k).1 a0 k) (nN (kinN x a0 k).1 25) = (ruleN a0 k (kin1 (kinN x a0 k).1 a0 k) r) := by
                    have e := ruleN_stay a0 k (kin1 (kinN x a0 k).1 a0 k) r c153 (nN x 25 - r)
                    rw [show r + (nN x 25 - r) = nN x 25 by omega] at e
                    rw [hzN]; exact e
                  refine lv_iload hx hb dX12_parcel_215 (lv_at hl 4 rfl) ?_
                  refine lv_iload hx hb dX12_parcel_217 (lv_at hl 6 rfl) ?_
                  refine lv_iadd hx hb dX12_parcel_219 ?_
                  refine lv_topi (fun x220 ex220 => ?_)
                  refine lv_istore (lv' := [(4, .int x220), (0, .ref (ad 0)), (1, .int a0), (2, .int (refN x a0 (mI x 2) (nN x 20))), (3, .int (mI x 37)), (5, .int (nI k)), (6, .int (ruleN a0 k (kin1 (kinN x a0 k).1 a0 k) r).2), (7, .int (nI r))]) hx hb dX12_parcel_220 hl (by decide) rfl (fun ls hl => ?_)
                  obtain ⟨x222, ex222⟩ : ∃ y : Int32, y = (nI k) + 1 := ⟨_, rfl⟩
                  refine lv_iinc (v := x222) (lv' := [(5, .int x222), (4, .int x220), (0, .ref (ad 0)), (1, .int a0), (2, .int (refN x a0 (mI x 2) (nN x 20))), (3, .int (mI x 37)), (6, .int (ruleN a0 k (kin1 (kinN x a0 k).1 a0 k) r).2), (7, .int (nI r))]) hx hb dX12_parcel_222 hl (k := 5) rfl (by rw [ex222]; rfl) (by decide) rfl (fun ls hl => ?_)
                  refine lv_goto (tgt := 98) hx hb dX12_parcel_225 (by decide) ?_
                  have q4 : x220 = (kinN x a0 (k + 1)).2 := by rw [ex220, kinN_s, kinS, hend]
                  have q5 : x222 = (nI (k + 1)) := by rw [ex222]; exact nI_1 k
                  rw [q4, q5] at hl
                  have qx : (ruleN a0 k (kin1 (kinN x a0 k).1 a0 k) r).1 = (kinN x a0 (k + 1)).1 := by rw [kinN_s, kinS, hend]
                  rw [qx] at hP hD
                  exact ih98 (k + 1) (by omega) (by omega) (c77) _ _ hP hD hS ls (lv_sub hl [2, 3, 4, 5, 1, 0] rfl)
                · skip
                  refine lv_aload_n hx hb dX12_parcel_156 rfl (lv_at hl 0 rfl) ?_
                  refine M_get hx hb hts hin hown hK hP 26 (by decide) rfl (index := 65) (by decide +kernel) rfl dX12_parcel_157 ?_
                  refine lv_iload hx hb dX12_parcel_160 (lv_at hl 7 rfl) ?_
                  have h162 : vp_in ((nI r)) 30 := by exact vp_in_nI (by omega) (by decide)
                  refine va_iald hx hb hK hP 19 0 rfl rfl h162 dX12_parcel_162 ?_
                  refine lv_topi (fun v162 ev162 => ?_)
                  rw [nI_clamp (by omega)] at ev162
                  refine lv_iconst (v := 2) hx hb dX12_parcel_163 (by decide) ?_
                  refine lv_icmp_ne (tgt := 209) hx hb dX12_parcel_164 (by decide) (fun c164 => ?_) (fun c164 => ?_)
                  · skip
                    simp only [ev162] at c164
                    obtain ⟨x209, ex209⟩ : ∃ y : Int32, y = (nI r) + 1 := ⟨_, rfl⟩
                    refine lv_iinc (v := x209) (lv' := [(7, .int x209), (0, .ref (ad 0)), (1, .int a0), (2, .int (refN x a0 (mI x 2) (nN x 20))), (3, .int (mI x 37)), (4, .int (kinN x a0 k).2), (5, .int (nI k)), (6, .int (ruleN a0 k (kin1 (kinN x a0 k).1 a0 k) r).2)]) hx hb dX12_parcel_209 hl (k := 7) rfl (by rw [ex209]; rfl) (by decide) rfl (fun ls hl => ?_)
                    refine lv_goto (tgt := 142) hx hb dX12_parcel_212 (by decide) ?_
                    have q6 : (ruleN a0 k (kin1 (kinN x a0 k).1 a0 k) r).2 = (ruleN a0 k (kin1 (kinN x a0 k).1 a0 k) (r + 1)).2 := by rw [ruleN_s, ruleS]; (try simp only [hw7, ev145, ev162, ex209]); simp only [c148, c153, c164, not_true_eq_false, not_false_eq_true, and_true, true_and, and_false, false_and, and_self, if_true, if_false, ite_true, ite_false, ↓reduceIte, Int32.add_zero, Bool.not_eq_false, Bool.and_true, Bool.true_and, Bool.and_false, Bool.false_and, Bool.false_eq_true, Bool.true_eq_false]
                    have q7 : x209 = (nI (r + 1)) := by rw [ex209]; exact nI_1 r
                    rw [q6, q7] at hl
                    have qx : (ruleN a0 k (kin1 (kinN x a0 k).1 a0 k) r).1 = (ruleN a0 k (kin1 (kinN x a0 k).1 a0 k) (r + 1)).1 := by rw [ruleN_s, ruleS]; (try simp only [hw7, ev145, ev162, ex209]); simp only [c148, c153, c164, not_true_eq_false, not_false_eq_true, and_true, true_and, and_false, false_and, and_self, if_true, if_false, ite_true, ite_false, ↓reduceIte, Int32.add_zero, Bool.not_eq_false, Bool.and_true, Bool.true_and, Bool.and_false, Bool.false_and, Bool.false_eq_true, Bool.true_eq_false]
                    rw [qx] at hP hD
                    exact ih142 (r + 1) (by omega) (by omega) _ _ hP hD hS ls (lv_sub hl [1, 2, 3, 4, 5, 6, 7, 0] rfl)
                  · skip
                    simp only [ev162] at c164
                    have hrk : vp_in (mA x 28 r) 10 := hru r hrN (by have e := hR.1.1.2.1 26 (by decide) (by decide) (by decide) (by decide); rw [e] at c164; exact c164)
                    have e28 := hR.1.1.2.1 28 (by decide) (by decide) (by decide) (by decide)
                    refine lv_aload_n hx hb dX12_parcel_167 rfl (lv_at hl 0 rfl) ?_
                    refine M_get hx hb hts hin hown hK hP 27 (by decide) rfl (index := 68) (by decide +kernel) rfl dX12_parcel_168 ?_
                    refine lv_iload hx hb dX12_parcel_171 (lv_at hl 7 rfl) ?_
                    have h173 : vp_in ((nI r)) 30 := by exact vp_in_nI (by omega) (by decide)
                    refine va_iald hx hb hK hP 20 0 rfl rfl h173 dX12_parcel_173 ?_
                    refine lv_topi (fun v173 ev173 => ?_)
                    rw [nI_clamp (by omega)] at ev173
                    refine lv_iload hx hb dX12_parcel_174 (lv_at hl 5 rfl) ?_
                    refine lv_icmp_ne (tgt := 209) hx hb dX12_parcel_176 (by decide) (fun c176 => ?_) (fun c176 => ?_)
                    · skip
                      simp only [ev173] at c176
                      obtain ⟨x209, ex209⟩ : ∃ y : Int32, y = (nI r) + 1 := ⟨_, rfl⟩
                      refine lv_iinc (v := x209) (lv' := [(7, .int x209), (0, .ref (ad 0)), (1, .int a0), (2, .int (refN x a0 (mI x 2) (nN x 20))), (3, .int (mI x 37)), (4, .int (kinN x a0 k).2), (5, .int (nI k)), (6, .int (ruleN a0 k (kin1 (kinN x a0 k).1 a0 k) r).2)]) hx hb dX12_parcel_209 hl (k := 7) rfl (by rw [ex209]; rfl) (by decide) rfl (fun ls hl => ?_)
                      refine lv_goto (tgt := 142) hx hb dX12_parcel_212 (by decide) ?_
                      have q6 : (ruleN a0 k (kin1 (kinN x a0 k).1 a0 k) r).2 = (ruleN a0 k (kin1 (kinN x a0 k).1 a0 k) (r + 1)).2 := by rw [ruleN_s, ruleS]; (try simp only [hw7, ev145, ev162, ev173, ex209]); simp only [c148, c153, c164, c176, not_true_eq_false, not_false_eq_true, and_true, true_and, and_false, false_and, and_self, if_true, if_false, ite_true, ite_false, ↓reduceIte, Int32.add_zero, Bool.not_eq_false, Bool.and_true, Bool.true_and, Bool.and_false, Bool.false_and, Bool.false_eq_true, Bool.true_eq_false]
                      have q7 : x209 = (nI (r + 1)) := by rw [ex209]; exact nI_1 r
                      rw [q6, q7] at hl
                      have qx : (ruleN a0 k (kin1 (kinN x a0 k).1 a0 k) r).1 = (ruleN a0 k (kin1 (kinN x a0 k).1 a0 k) (r + 1)).1 := by rw [ruleN_s, ruleS]; (try simp only [hw7, ev145, ev162, ev173, ex209]); simp only [c148, c153, c164, c176, not_true_eq_false, not_false_eq_true, and_true, true_and, and_false, false_and, and_self, if_true, if_false, ite_true, ite_false, ↓reduceIte, Int32.add_zero, Bool.not_eq_false, Bool.and_true, Bool.true_and, Bool.and_false, Bool.false_and, Bool.false_eq_true, Bool.true_eq_false]
                      rw [qx] at hP hD
                      exact ih142 (r + 1) (by omega) (by omega) _ _ hP hD hS ls (lv_sub hl [1, 2, 3, 4, 5, 6, 7, 0] rfl)
                    · skip
                      simp only [ev173] at c176
                      refine lv_aload_n hx hb dX12_parcel_179 rfl (lv_at hl 0 rfl) ?_
                      refine lv_iload_n hx hb dX12_parcel_180 rfl (lv_at hl 1 rfl) ?_
                      refine lv_aload_n hx hb dX12_parcel_181 rfl (lv_at hl 0 rfl) ?_
                      refine M_get hx hb hts hin hown hK hP 28 (by decide) rfl (index := 71) (by decide +kernel) rfl dX12_parcel_182 ?_
                      refine lv_iload hx hb dX12_parcel_185 (lv_at hl 7 rfl) ?_
                      have h187 : vp_in ((nI r)) 30 := by exact vp_in_nI (by omega) (by decide)
                      refine va_iald hx hb hK hP 21 0 rfl rfl h187 dX12_parcel_187 ?_
                      refine lv_topi (fun v187 ev187 => ?_)
                      rw [nI_clamp (by omega)] at ev187
                      refine M_callr (av := [.int a0, .int v187]) (rest := []) ⟨hx, hb, hml, hown, hts⟩ hA hK hP hD hS (c_isBarred l D cI cJ ad (ruleN a0 k (kin1 (kinN x a0 k).1 a0 k) r).1 (a0) (v187) hf (by rw [ev187, e28]; exact hrk)) (cwV 2 hts gX12_parcel_X12_isBarred rfl rfl rfl (by decide +kernel) ⟨Nat.le_of_ble_eq_true rfl, Nat.le_of_ble_eq_true rfl⟩) rfl hl.1 rfl (Nat.le_of_ble_eq_true rfl) dX12_parcel_188 ⟨Nat.le_of_ble_eq_true rfl, Nat.le_of_ble_eq_true rfl⟩ (fun r188 H locs hw188 hP hD hS => ?_)
                      refine lv_if_ne (tgt := 209) hx hb dX12_parcel_191 (by decide) (fun c191 => ?_) (fun c191 => ?_)
                      · skip
                        simp only [hw188, ev187, bI_0, bI_1, Bool.not_eq_false] at c191
                        obtain ⟨x209, ex209⟩ : ∃ y : Int32, y = (nI r) + 1 := ⟨_, rfl⟩
                        refine lv_iinc (v := x209) (lv' := [(7, .int x209), (0, .ref (ad 0)), (1, .int a0), (2, .int (refN x a0 (mI x 2) (nN x 20))), (3, .int (mI x 37)), (4, .int (kinN x a0 k).2), (5, .int (nI k)), (6, .int (ruleN a0 k (kin1 (kinN x a0 k).1 a0 k) r).2)]) hx hb dX12_parcel_209 hl (k := 7) rfl (by rw [ex209]; rfl) (by decide) rfl (fun ls hl => ?_)
                        refine lv_goto (tgt := 142) hx hb dX12_parcel_212 (by decide) ?_
                        have q6 : (ruleN a0 k (kin1 (kinN x a0 k).1 a0 k) r).2 = (ruleN a0 k (kin1 (kinN x a0 k).1 a0 k) (r + 1)).2 := by rw [ruleN_s, ruleS]; (try simp only [hw7, ev145, ev162, ev173, ev187, hw188, ex209]); simp only [c148, c153, c164, c176, c191, not_true_eq_false, not_false_eq_true, and_true, true_and, and_false, false_and, and_self, if_true, if_false, ite_true, ite_false, ↓reduceIte, Int32.add_zero, Bool.not_eq_false, Bool.and_true, Bool.true_and, Bool.and_false, Bool.false_and, Bool.false_eq_true, Bool.true_eq_false]
                        have q7 : x209 = (nI (r + 1)) := by rw [ex209]; exact nI_1 r
                        rw [q6, q7] at hl
                        have qx : (ruleN a0 k (kin1 (kinN x a0 k).1 a0 k) r).1 = (ruleN a0 k (kin1 (kinN x a0 k).1 a0 k) (r + 1)).1 := by rw [ruleN_s, ruleS]; (try simp only [hw7, ev145, ev162, ev173, ev187, hw188, ex209]); simp only [c148, c153, c164, c176, c191, not_true_eq_false, not_false_eq_true, and_true, true_and, and_false, false_and, and_self, if_true, if_false, ite_true, ite_false, ↓reduceIte, Int32.add_zero, Bool.not_eq_false, Bool.and_true, Bool.true_and, Bool.and_false, Bool.false_and, Bool.false_eq_true, Bool.true_eq_false]
                        rw [qx] at hP hD
                        exact ih142 (r + 1) (by omega) (by omega) _ _ hP hD hS ls (lv_sub hl [1, 2, 3, 4, 5, 6, 7, 0] rfl)
                      · skip
                        simp only [hw188, ev187, bI_0, bI_1, Bool.not_eq_false] at c191
                        refine lv_aload_n hx hb dX12_parcel_194 rfl (lv_at hl 0 rfl) ?_
                        refine lv_aload_n hx hb dX12_parcel_195 rfl (lv_at hl 0 rfl) ?_
                        refine M_get hx hb hts hin hown hK hP 28 (by decide) rfl (index := 71) (by decide +kernel) rfl dX12_parcel_196 ?_
                        refine lv_iload hx hb dX12_parcel_199 (lv_at hl 7 rfl) ?_
                        have h201 : vp_in ((nI r)) 30 := by exact vp_in_nI (by omega) (by decide)
                        refine va_iald hx hb hK hP 21 0 rfl rfl h201 dX12_parcel_201 ?_
                        refine lv_topi (fun v201 ev201 => ?_)
                        rw [nI_clamp (by omega)] at ev201
                        refine lv_iload hx hb dX12_parcel_202 (lv_at hl 6 rfl) ?_
                        refine M_calli (av := [.int v201, .int (ruleN a0 k (kin1 (kinN x a0 k).1 a0 k) r).2]) (rest := []) ⟨hx, hb, hml, hown, hts⟩ hA hK hP hD hS (c_take l D cI cJ ad (ruleN a0 k (kin1 (kinN x a0 k).1 a0 k) r).1 (v201) ((ruleN a0 k (kin1 (kinN x a0 k).1 a0 k) r).2) (PInv_T (hR.2 c153) (by omega) h4 h25 _)) (cwV 2 hts gX12_parcel_X12_take rfl rfl rfl (by decide +kernel) ⟨Nat.le_of_ble_eq_true rfl, Nat.le_of_ble_eq_true rfl⟩) rfl hl.1 rfl (Nat.le_of_ble_eq_true rfl) dX12_parcel_204 ⟨Nat.le_of_ble_eq_true rfl, Nat.le_of_ble_eq_true rfl⟩ (fun r204 y204 H locs hw204 hP hD hS => ?_)
                        obtain ⟨er204, ey204⟩ := hw204
                        refine lv_topi (fun x207 ex207 => ?_)
                        refine lv_istore (lv' := [(6, .int x207), (0, .ref (ad 0)), (1, .int a0), (2, .int (refN x a0 (mI x 2) (nN x 20))), (3, .int (mI x 37)), (4, .int (kinN x a0 k).2), (5, .int (nI k)), (7, .int (nI r))]) hx hb dX12_parcel_207 hl (by decide) rfl (fun ls hl => ?_)
                        obtain ⟨x209, ex209⟩ : ∃ y : Int32, y = (nI r) + 1 := ⟨_, rfl⟩
                        refine lv_iinc (v := x209) (lv' := [(7, .int x209), (6, .int x207), (0, .ref (ad 0)), (1, .int a0), (2, .int (refN x a0 (mI x 2) (nN x 20))), (3, .int (mI x 37)), (4, .int (kinN x a0 k).2), (5, .int (nI k))]) hx hb dX12_parcel_209 hl (k := 7) rfl (by rw [ex209]; rfl) (by decide) rfl (fun ls hl => ?_)
                        refine lv_goto (tgt := 142) hx hb dX12_parcel_212 (by decide) ?_
                        have q6 : x207 = (ruleN a0 k (kin1 (kinN x a0 k).1 a0 k) (r + 1)).2 := by rw [ruleN_s, ruleS]; (try simp only [hw7, ev145, ev162, ev173, ev187, hw188, ev201, er204, ey204, ex207, ex209]); simp only [c148, c153, c164, c176, c191, not_true_eq_false, not_false_eq_true, and_true, true_and, and_false, false_and, and_self, if_true, if_false, ite_true, ite_false, ↓reduceIte, Int32.add_zero, Bool.not_eq_false, Bool.and_true, Bool.true_and, Bool.and_false, Bool.false_and, Bool.false_eq_true, Bool.true_eq_false]
                        have q7 : x209 = (nI (r + 1)) := by rw [ex209]; exact nI_1 r
                        rw [q6, q7] at hl
                        have qx : y204 = (ruleN a0 k (kin1 (kinN x a0 k).1 a0 k) (r + 1)).1 := by rw [ruleN_s, ruleS]; (try simp only [hw7, ev145, ev162, ev173, ev187, hw188, ev201, er204, ey204, ex207, ex209]); simp only [c148, c153, c164, c176, c191, not_true_eq_false, not_false_eq_true, and_true, true_and, and_false, false_and, and_self, if_true, if_false, ite_true, ite_false, ↓reduceIte, Int32.add_zero, Bool.not_eq_false, Bool.and_true, Bool.true_and, Bool.and_false, Bool.false_and, Bool.false_eq_true, Bool.true_eq_false]
                        rw [qx] at hP hD
                        exact ih142 (r + 1) (by omega) (by omega) _ _ hP hD hS ls (lv_sub hl [2, 3, 4, 5, 6, 7, 1, 0] rfl)
          refine lv_aload_n hx hb dX12_parcel_105 rfl (lv_at hl 0 rfl) ?_
          refine lv_iload_n hx hb dX12_parcel_106 rfl (lv_at hl 1 rfl) ?_
          refine lv_iload hx hb dX12_parcel_107 (lv_at hl 5 rfl) ?_
          refine M_callr (av := [.int a0, .int (nI k)]) (rest := []) ⟨hx, hb, hml, hown, hts⟩ hA hK hP hD hS (c_needOf l D cI cJ ad (kinN x a0 k).1 (a0) ((nI k)) hf hz25) (cwV 2 hts gX12_parcel_X12_needOf rfl rfl rfl (by decide +kernel) ⟨Nat.le_of_ble_eq_true rfl, Nat.le_of_ble_eq_true rfl⟩) rfl hl.1 rfl (Nat.le_of_ble_eq_true rfl) dX12_parcel_109 ⟨Nat.le_of_ble_eq_true rfl, Nat.le_of_ble_eq_true rfl⟩ (fun r109 H locs hw109 hP hD hS => ?_)
          refine lv_topi (fun x112 ex112 => ?_)
          refine lv_istore (lv' := [(6, .int x112), (0, .ref (ad 0)), (1, .int a0), (2, .int (refN x a0 (mI x 2) (nN x 20))), (3, .int (mI x 37)), (4, .int (kinN x a0 k).2), (5, .int (nI k))]) hx hb dX12_parcel_112 hl (by decide) rfl (fun ls hl => ?_)
          refine lv_aload_n hx hb dX12_parcel_114 rfl (lv_at hl 1 rfl) ?_
          refine lv_iload_n hx hb dX12_parcel_115 rfl (lv_at hl 2 rfl) ?_
          refine lv_iload hx hb dX12_parcel_116 (lv_at hl 6 rfl) ?_
          refine M_callr (av := [.int a0, .int (nI k)]) (rest := []) ⟨hx, hb, hml, hown, hts⟩ hA hK hP hD hS (c_isBarred l D cI cJ ad (kinN x a0 k).1 (a0) ((nI k)) hf (vp_in_nI (by omega) (by decide))) (cwV 2 hts gX12_parcel_X12_isBarred rfl rfl rfl (by decide +kernel) ⟨Nat.le_of_ble_eq_true rfl, Nat.le_of_ble_eq_true rfl⟩) rfl hl.1 rfl (Nat.le_of_ble_eq_true rfl) dX12_parcel_118 ⟨Nat.le_of_ble_eq_true rfl, Nat.le_of_ble_eq_true rfl⟩ (fun r118 H locs hw118 hP hD hS => ?_)
          refine lv_if_eq (tgt := 129) hx hb dX12_parcel_121 (by decide) (fun c121 => ?_) (fun c121 => ?_)
          · skip
            simp only [hw118, bI_0, bI_1, Bool.not_eq_false] at c121
            refine lv_aload_n hx hb dX12_parcel_129 rfl (lv_at hl 1 rfl) ?_
            refine lv_iload hx hb dX12_parcel_130 (lv_at hl 6 rfl) ?_
            refine lv_iload hx hb dX12_parcel_132 (lv_at hl 0 rfl) ?_
            refine M_calli (av := [.int (nI k), .int x112]) (rest := []) ⟨hx, hb, hml, hown, hts⟩ hA hK hP hD hS (c_take l D cI cJ ad (kinN x a0 k).1 ((nI k)) (x112) (PInv_T hI (by omega) h4 h25 _)) (cwV 2 hts gX12_parcel_X12_take rfl rfl rfl (by decide +kernel) ⟨Nat.le_of_ble_eq_true rfl, Nat.le_of_ble_eq_true rfl⟩) rfl hl.1 rfl (Nat.le_of_ble_eq_true rfl) dX12_parcel_134 ⟨Nat.le_of_ble_eq_true rfl, Nat.le_of_ble_eq_true rfl⟩ (fun r134 y134 H locs hw134 hP hD hS => ?_)
            obtain ⟨er134, ey134⟩ := hw134
            refine lv_topi (fun x137 ex137 => ?_)
            refine lv_istore (lv' := [(6, .int x137), (0, .ref (ad 0)), (1, .int a0), (2, .int (refN x a0 (mI x 2) (nN x 20))), (3, .int (mI x 37)), (4, .int (kinN x a0 k).2), (5, .int (nI k))]) hx hb dX12_parcel_137 hl (by decide) rfl (fun ls hl => ?_)
            refine lv_iconst (v := 0) hx hb dX12_parcel_139 (by decide) ?_
            refine lv_topi (fun x140 ex140 => ?_)
            refine lv_istore (lv' := [(7, .int x140), (6, .int x137), (0, .ref (ad 0)), (1, .int a0), (2, .int (refN x a0 (mI x 2) (nN x 20))), (3, .int (mI x 37)), (4, .int (kinN x a0 k).2), (5, .int (nI k))]) hx hb dX12_parcel_140 hl (by decide) rfl (fun ls hl => ?_)
            have q6 : x137 = (ruleN a0 k (kin1 (kinN x a0 k).1 a0 k) 0).2 := by simp only [hw7, hw109, ex112, hw118, er134, ey134, ex137, ex140, ruleN, itN_0, kin1, c102, c121, not_true_eq_false, not_false_eq_true, and_true, true_and, and_false, false_and, and_self, if_true, if_false, ite_true, ite_false, ↓reduceIte, Int32.add_zero, Bool.not_eq_false, Bool.and_true, Bool.true_and, Bool.and_false, Bool.false_and, Bool.false_eq_true, Bool.true_eq_false]
            have q7 : x140 = (nI 0) := by rw [ex140]; exact nI_0.symm
            rw [q6, q7] at hl
            have qx : y134 = (ruleN a0 k (kin1 (kinN x a0 k).1 a0 k) 0).1 := by simp only [hw7, hw109, ex112, hw118, er134, ey134, ex137, ex140, ruleN, itN_0, kin1, c102, c121, not_true_eq_false, not_false_eq_true, and_true, true_and, and_false, false_and, and_self, if_true, if_false, ite_true, ite_false, ↓reduceIte, Int32.add_zero, Bool.not_eq_false, Bool.and_true, Bool.true_and, Bool.and_false, Bool.false_and, Bool.false_eq_true, Bool.true_eq_false]
            rw [qx] at hP hD
            exact lp142 (nN x 25 + 1) 0 (by omega) (by omega) _ _ hP hD hS ls (lv_sub hl [2, 3, 4, 5, 6, 7, 1, 0] rfl)
          · skip
            simp only [hw118, bI_0, bI_1, Bool.not_eq_false] at c121
            refine lv_iload hx hb dX12_parcel_124 (lv_at hl 0 rfl) ?_
            refine lv_goto (tgt := 137) hx hb dX12_parcel_126 (by decide) ?_
            refine lv_topi (fun x137 ex137 => ?_)
            refine lv_istore (lv' := [(6, .int x137), (0, .ref (ad 0)), (1, .int a0), (2, .int (refN x a0 (mI x 2) (nN x 20))), (3, .int (mI x 37)), (4, .int (kinN x a0 k).2), (5, .int (nI k))]) hx hb dX12_parcel_137 hl (by decide) rfl (fun ls hl => ?_)
            refine lv_iconst (v := 0) hx hb dX12_parcel_139 (by decide) ?_
            refine lv_topi (fun x140 ex140 => ?_)
            refine lv_istore (lv' := [(7, .int x140), (6, .int x137), (0, .ref (ad 0)), (1, .int a0), (2, .int (refN x a0 (mI x 2) (nN x 20))), (3, .int (mI x 37)), (4, .int (kinN x a0 k).2), (5, .int (nI k))]) hx hb dX12_parcel_140 hl (by decide) rfl (fun ls hl => ?_)
            have q6 : x137 = (ruleN a0 k (kin1 (kinN x a0 k).1 a0 k) 0).2 := by simp only [hw7, hw109, ex112, hw118, ex137, ex140, ruleN, itN_0, kin1, c102, c121, not_true_eq_false, not_false_eq_true, and_true, true_and, and_false, false_and, and_self, if_true, if_false, ite_true, ite_false, ↓reduceIte, Int32.add_zero, Bool.not_eq_false, Bool.and_true, Bool.true_and, Bool.and_false, Bool.false_and, Bool.false_eq_true, Bool.true_eq_false]
            have q7 : x140 = (nI 0) := by rw [ex140]; exact nI_0.symm
            rw [q6, q7] at hl
            have qx : (kinN x a0 k).1 = (ruleN a0 k (kin1 (kinN x a0 k).1 a0 k) 0).1 := by simp only [hw7, hw109, ex112, hw118, ex137, ex140, ruleN, itN_0, kin1, c102, c121, not_true_eq_false, not_false_eq_true, and_true, true_and, and_false, false_and, and_self, if_true, if_false, ite_true, ite_false, ↓reduceIte, Int32.add_zero, Bool.not_eq_false, Bool.and_true, Bool.true_and, Bool.and_false, Bool.false_and, Bool.false_eq_true, Bool.true_eq_false]
            rw [qx] at hP hD
            exact lp142 (nN x 25 + 1) 0 (by omega) (by omega) _ _ hP hD hS ls (lv_sub hl [2, 3, 4, 5, 6, 7, 1, 0] rfl)
    refine lv_iconst (v := -1) hx hb dX12_parcel_20 (by decide) ?_
    refine lv_topi (fun x21 ex21 => ?_)
    refine lv_istore_n (lv' := [(2, .int x21), (0, .ref (ad 0)), (1, .int a0)]) hx hb dX12_parcel_21 rfl hl (by decide) rfl (fun ls hl => ?_)
    refine lv_iconst (v := 0) hx hb dX12_parcel_22 (by decide) ?_
    refine lv_topi (fun x23 ex23 => ?_)
    refine lv_istore_n (lv' := [(3, .int x23), (2, .int x21), (0, .ref (ad 0)), (1, .int a0)]) hx hb dX12_parcel_23 rfl hl (by decide) rfl (fun ls hl => ?_)
    have lp24 : ∀ (n : Nat) (k : Nat), (nN x 20 < k + n) → (k ≤ nN x 20) → ∀ (H : Heap) (locs : List Loc), va_P D vwCl (wsM cI cJ ad x) H → va_D A (wsM cI cJ ad x) → va_S A s.heap H locs → ∀ ls : Array Slot, lv_has ls 8 [(3, .int (nI k)), (2, .int (refN x a0 (mI x 2) k)), (0, .ref (ad 0)), (1, .int a0)] → W p l e { frames := 3, cells := 0, slots := 0, locals := 72 } s m args below meth c H locs 0 0 (MQ below (va_Qi (fun r y => r = (parcelF x a0).1 ∧ y = (parcelF x a0).2) (mAft D cI cJ ad A) A) args s 0 0 A) (F0 m 24 ls []) := by
      intro n
      induction n with
      | zero => intro k hn hk; exact absurd hn (by omega)
      | succ n ih24 =>
        intro k hn hk H locs hP hD hS ls hl
        refine lv_iload_n hx hb dX12_parcel_24 rfl (lv_at hl 0 rfl) ?_
        refine lv_aload_n hx hb dX12_parcel_25 rfl (lv_at hl 2 rfl) ?_
        refine M_get hx hb hts hin hown hK hP 20 (by decide) rfl (index := 209) (by decide +kernel) rfl dX12_parcel_26 ?_
        refine lv_topi (fun v26 ev26 => ?_)
        refine lv_icmp_ge (tgt := 76) hx hb dX12_parcel_29 (by decide) (fun c29 => ?_) (fun c29 => ?_)
        · skip
          simp only [ev26] at c29
          have hkN : k = nN x 20 := by rw [hN] at c29; have := (nI_leI (by omega) (by omega)).mp c29; omega
          rw [hkN] at hl
          refine lv_iload_n hx hb dX12_parcel_76 rfl (lv_at hl 1 rfl) ?_
          refine lv_if_ge (tgt := 87) hx hb dX12_parcel_77 (by decide) (fun c77 => ?_) (fun c77 => ?_)
          · skip
            refine lv_aload_n hx hb dX12_parcel_87 rfl (lv_at hl 2 rfl) ?_
            refine M_get hx hb hts hin hown hK hP 37 (by decide) rfl (index := 229) (by decide +kernel) rfl dX12_parcel_88 ?_
            refine lv_topi (fun v88 ev88 => ?_)
            refine lv_topi (fun x91 ex91 => ?_)
            refine lv_istore_n (lv' := [(3, .int x91), (2, .int (refN x a0 (mI x 2) (nN x 20))), (0, .ref (ad 0)), (1, .int a0)]) hx hb dX12_parcel_91 rfl hl (by decide) rfl (fun ls hl => ?_)
            rw [ex91, ev88] at hl
            refine lv_iconst (v := 0) hx hb dX12_parcel_92 (by decide) ?_
            refine lv_topi (fun x93 ex93 => ?_)
            refine lv_istore (lv' := [(4, .int x93), (3, .int (mI x 37)), (2, .int (refN x a0 (mI x 2) (nN x 20))), (0, .ref (ad 0)), (1, .int a0)]) hx hb dX12_parcel_93 hl (by decide) rfl (fun ls hl => ?_)
            refine lv_iconst (v := 0) hx hb dX12_parcel_95 (by decide) ?_
            refine lv_topi (fun x96 ex96 => ?_)
            refine lv_istore (lv' := [(5, .int x96), (4, .int x93), (3, .int (mI x 37)), (2, .int (refN x a0 (mI x 2) (nN x 20))), (0, .ref (ad 0)), (1, .int a0)]) hx hb dX12_parcel_96 hl (by decide) rfl (fun ls hl => ?_)
            have q4 : x93 = (kinN x a0 0).2 := by rw [ex93, kinN_0]
            have q5 : x96 = (nI 0) := by rw [ex96]; exact nI_0.symm
            rw [q4, q5] at hl
            have qx : x = (kinN x a0 0).1 := by rw [kinN_0]
            rw [qx] at hP hD
            exact lp98 11 0 (by omega) (by omega) (c77) _ _ hP hD hS ls (lv_sub hl [4, 5, 3, 2, 1, 0] rfl)
          · skip
            refine lv_aload_n hx hb dX12_parcel_80 rfl (lv_at hl 2 rfl) ?_
            refine lv_bipush (v := -3) hx hb dX12_parcel_81 (by decide) ?_
            refine M_calli (av := [.int (-3 : Int32)]) (rest := []) ⟨hx, hb, hml, hown, hts⟩ hA hK hP hD hS (c_told l D cI cJ ad x ((-3 : Int32)) ) (cwV 1 hts gX12_parcel_X12_told rfl rfl rfl (by decide +kernel) ⟨Nat.le_of_ble_eq_true rfl, Nat.le_of_ble_eq_true rfl⟩) rfl hl.1 rfl (Nat.le_of_ble_eq_true rfl) dX12_parcel_83 ⟨Nat.le_of_ble_eq_true rfl, Nat.le_of_ble_eq_true rfl⟩ (fun r83 y83 H locs hw83 hP hD hS => ?_)
            obtain ⟨er83, ey83⟩ := hw83
            refine M_iret (v := r83) hx hb hr hlocks hK hP hD hS dX12_parcel_86 ?_
            simp only [hw7, ex21, ex23, ev26, er83, ey83, parcelF, c10, c77, not_true_eq_false, not_false_eq_true, and_true, true_and, and_false, false_and, and_self, if_true, if_false, ite_true, ite_false, ↓reduceIte, Int32.add_zero, Bool.not_eq_false, Bool.and_true, Bool.true_and, Bool.and_false, Bool.false_and, Bool.false_eq_true, Bool.true_eq_false]
        · skip
          simp only [ev26] at c29
          have hkN : k < nN x 20 := by
            rw [hN] at c29
            rcases Nat.lt_or_ge k (nN x 20) with q | q
            · exact q
            · exact absurd (nI_le q (by omega)) c29
          refine lv_aload_n hx hb dX12_parcel_32 rfl (lv_at hl 2 rfl) ?_
          refine lv_iload_n hx hb dX12_parcel_33 rfl (lv_at hl 0 rfl) ?_
          refine lv_iload_n hx hb dX12_parcel_34 rfl (lv_at hl 3 rfl) ?_
          refine lv_aload_n hx hb dX12_parcel_35 rfl (lv_at hl 2 rfl) ?_
          refine M_get hx hb hts hin hown hK hP 2 (by decide) rfl (index := 189) (by decide +kernel) rfl dX12_parcel_36 ?_
          refine lv_topi (fun v36 ev36 => ?_)
          refine M_callr (av := [.int (nI k), .int a0, .int v36]) (rest := []) ⟨hx, hb, hml, hown, hts⟩ hA hK hP hD hS (c_lets l D cI cJ ad x (k) (a0) (v36) (by omega)) (cwV 3 hts gX12_parcel_X12_lets rfl rfl rfl (by decide +kernel) ⟨Nat.le_of_ble_eq_true rfl, Nat.le_of_ble_eq_true rfl⟩) rfl hl.1 rfl (Nat.le_of_ble_eq_true rfl) dX12_parcel_39 ⟨Nat.le_of_ble_eq_true rfl, Nat.le_of_ble_eq_true rfl⟩ (fun r39 H locs hw39 hP hD hS => ?_)
          rw [ev36] at hw39
          refine lv_if_eq (tgt := 68) hx hb dX12_parcel_42 (by decide) (fun c42 => ?_) (fun c42 => ?_)
          · skip
            simp only [hw39, ev36, bI_0, bI_1, Bool.not_eq_false] at c42
            refine lv_iload_n hx hb dX12_parcel_68 rfl (lv_at hl 1 rfl) ?_
            refine lv_topi (fun x69 ex69 => ?_)
            refine lv_istore_n (lv' := [(2, .int x69), (3, .int (nI k)), (0, .ref (ad 0)), (1, .int a0)]) hx hb dX12_parcel_69 rfl hl (by decide) rfl (fun ls hl => ?_)
            obtain ⟨x70, ex70⟩ : ∃ y : Int32, y = (nI k) + 1 := ⟨_, rfl⟩
            refine lv_iinc (v := x70) (lv' := [(3, .int x70), (2, .int x69), (0, .ref (ad 0)), (1, .int a0)]) hx hb dX12_parcel_70 hl (k := 1) rfl (by rw [ex70]; rfl) (by decide) rfl (fun ls hl => ?_)
            refine lv_goto (tgt := 24) hx hb dX12_parcel_73 (by decide) ?_
            have q3 : x70 = (nI (k + 1)) := by rw [ex70]; exact nI_1 k
            have q2 : x69 = (refN x a0 (mI x 2) (k + 1)) := by rw [ex69, refN_s]; simp only [c29, c42, not_true_eq_false, not_false_eq_true, and_true, true_and, and_false, false_and, and_self, if_true, if_false, ite_true, ite_false, ↓reduceIte, Int32.add_zero, Bool.not_eq_false, Bool.and_true, Bool.true_and, Bool.and_false, Bool.false_and, Bool.false_eq_true, Bool.true_eq_false, true_or, or_true, or_self]
            rw [q3, q2] at hl
            exact ih24 (k + 1) (by omega) (by omega) _ _ hP hD hS ls (lv_sub hl [0, 1, 2, 3] rfl)
          · skip
            simp only [hw39, ev36, bI_0, bI_1, Bool.not_eq_false] at c42
            refine lv_iload_n hx hb dX12_parcel_45 rfl (lv_at hl 1 rfl) ?_
            refine lv_if_lt (tgt := 64) hx hb dX12_parcel_46 (by decide) (fun c46 => ?_) (fun c46 => ?_)
            · skip
              refine lv_iload_n hx hb dX12_parcel_64 rfl (lv_at hl 0 rfl) ?_
              refine lv_goto (tgt := 69) hx hb dX12_parcel_65 (by decide) ?_
              refine lv_topi (fun x69 ex69 => ?_)
              refine lv_istore_n (lv' := [(2, .int x69), (3, .int (nI k)), (0, .ref (ad 0)), (1, .int a0)]) hx hb dX12_parcel_69 rfl hl (by decide) rfl (fun ls hl => ?_)
              obtain ⟨x70, ex70⟩ : ∃ y : Int32, y = (nI k) + 1 := ⟨_, rfl⟩
              refine lv_iinc (v := x70) (lv' := [(3, .int x70), (2, .int x69), (0, .ref (ad 0)), (1, .int a0)]) hx hb dX12_parcel_70 hl (k := 1) rfl (by rw [ex70]; rfl) (by decide) rfl (fun ls hl => ?_)
              refine lv_goto (tgt := 24) hx hb dX12_parcel_73 (by decide) ?_
              have q3 : x70 = (nI (k + 1)) := by rw [ex70]; exact nI_1 k
              have q2 : x69 = (refN x a0 (mI x 2) (k + 1)) := by rw [ex69, refN_s]; simp only [c29, c42, c46, not_true_eq_false, not_false_eq_true, and_true, true_and, and_false, false_and, and_self, if_true, if_false, ite_true, ite_false, ↓reduceIte, Int32.add_zero, Bool.not_eq_false, Bool.and_true, Bool.true_and, Bool.and_false, Bool.false_and, Bool.false_eq_true, Bool.true_eq_false, true_or, or_true, or_self]
              rw [q3, q2] at hl
              exact ih24 (k + 1) (by omega) (by omega) _ _ hP hD hS ls (lv_sub hl [0, 1, 2, 3] rfl)
            · skip
              refine lv_aload_n hx hb dX12_parcel_49 rfl (lv_at hl 2 rfl) ?_
              refine M_get hx hb hts hin hown hK hP 23 (by decide) rfl (index := 59) (by decide +kernel) rfl dX12_parcel_50 ?_
              refine lv_iload_n hx hb dX12_parcel_53 rfl (lv_at hl 0 rfl) ?_
              have h54 : vp_in ((nI k)) 100 := by exact vp_in_nI (by omega) (by decide)
              refine va_iald hx hb hK hP 17 0 rfl rfl h54 dX12_parcel_54 ?_
              refine lv_topi (fun v54 ev54 => ?_)
              rw [nI_clamp (by omega)] at ev54
              refine lv_aload_n hx hb dX12_parcel_55 rfl (lv_at hl 2 rfl) ?_
              refine M_get hx hb hts hin hown hK hP 23 (by decide) rfl (index := 59) (by decide +kernel) rfl dX12_parcel_56 ?_
              refine lv_iload_n hx hb dX12_parcel_59 rfl (lv_at hl 1 rfl) ?_
              have h60 : vp_in ((refN x a0 (mI x 2) k)) 100 := by
                rcases refN_rng x a0 (mI x 2) k with h | ⟨i, hi, h⟩
                · exact absurd (by rw [h]; decide) c46
                · rw [h]; exact vp_in_nI (by omega) (by decide)
              refine va_iald hx hb hK hP 17 0 rfl rfl h60 dX12_parcel_60 ?_
              refine lv_topi (fun v60 ev60 => ?_)
              refine lv_icmp_ge (tgt := 68) hx hb dX12_parcel_61 (by decide) (fun c61 => ?_) (fun c61 => ?_)
              · skip
                simp only [ev60, ev54] at c61
                refine lv_iload_n hx hb dX12_parcel_68 rfl (lv_at hl 1 rfl) ?_
                refine lv_topi (fun x69 ex69 => ?_)
                refine lv_istore_n (lv' := [(2, .int x69), (3, .int (nI k)), (0, .ref (ad 0)), (1, .int a0)]) hx hb dX12_parcel_69 rfl hl (by decide) rfl (fun ls hl => ?_)
                obtain ⟨x70, ex70⟩ : ∃ y : Int32, y = (nI k) + 1 := ⟨_, rfl⟩
                refine lv_iinc (v := x70) (lv' := [(3, .int x70), (2, .int x69), (0, .ref (ad 0)), (1, .int a0)]) hx hb dX12_parcel_70 hl (k := 1) rfl (by rw [ex70]; rfl) (by decide) rfl (fun ls hl => ?_)
                refine lv_goto (tgt := 24) hx hb dX12_parcel_73 (by decide) ?_
                have q3 : x70 = (nI (k + 1)) := by rw [ex70]; exact nI_1 k
                have q2 : x69 = (refN x a0 (mI x 2) (k + 1)) := by rw [ex69, refN_s]; simp only [c29, c42, c46, c61, not_true_eq_false, not_false_eq_true, and_true, true_and, and_false, false_and, and_self, if_true, if_false, ite_true, ite_false, ↓reduceIte, Int32.add_zero, Bool.not_eq_false, Bool.and_true, Bool.true_and, Bool.and_false, Bool.false_and, Bool.false_eq_true, Bool.true_eq_false, true_or, or_true, or_self]
                rw [q3, q2] at hl
                exact ih24 (k + 1) (by omega) (by omega) _ _ hP hD hS ls (lv_sub hl [0, 1, 2, 3] rfl)
              · skip
                simp only [ev60, ev54] at c61
                refine lv_iload_n hx hb dX12_parcel_64 rfl (lv_at hl 0 rfl) ?_
                refine lv_goto (tgt := 69) hx hb dX12_parcel_65 (by decide) ?_
                refine lv_topi (fun x69 ex69 => ?_)
                refine lv_istore_n (lv' := [(2, .int x69), (3, .int (nI k)), (0, .ref (ad 0)), (1, .int a0)]) hx hb dX12_parcel_69 rfl hl (by decide) rfl (fun ls hl => ?_)
                obtain ⟨x70, ex70⟩ : ∃ y : Int32, y = (nI k) + 1 := ⟨_, rfl⟩
                refine lv_iinc (v := x70) (lv' := [(3, .int x70), (2, .int x69), (0, .ref (ad 0)), (1, .int a0)]) hx hb dX12_parcel_70 hl (k := 1) rfl (by rw [ex70]; rfl) (by decide) rfl (fun ls hl => ?_)
                refine lv_goto (tgt := 24) hx hb dX12_parcel_73 (by decide) ?_
                have q3 : x70 = (nI (k + 1)) := by rw [ex70]; exact nI_1 k
                have q2 : x69 = (refN x a0 (mI x 2) (k + 1)) := by rw [ex69, refN_s]; simp only [c29, c42, c46, c61, not_true_eq_false, not_false_eq_true, and_true, true_and, and_false, false_and, and_self, if_true, if_false, ite_true, ite_false, ↓reduceIte, Int32.add_zero, Bool.not_eq_false, Bool.and_true, Bool.true_and, Bool.and_false, Bool.false_and, Bool.false_eq_true, Bool.true_eq_false, true_or, or_true, or_self]
                rw [q3, q2] at hl
                exact ih24 (k + 1) (by omega) (by omega) _ _ hP hD hS ls (lv_sub hl [0, 1, 2, 3] rfl)
    have q3 : x23 = (nI 0) := by rw [ex23]; exact nI_0.symm
    have q2 : x21 = (refN x a0 (mI x 2) 0) := by rw [ex21]; rfl
    rw [q3, q2] at hl
    exact lp24 (nN x 20 + 1) 0 (by omega) (by omega) _ _ hP hD hS ls (lv_sub hl [0, 1, 2, 3] rfl)
  · skip
    simp only [hw7, bI_0, bI_1, Bool.not_eq_false] at c10
    refine lv_aload_n hx hb dX12_parcel_13 rfl (lv_at hl 0 rfl) ?_
    refine lv_bipush (v := -2) hx hb dX12_parcel_14 (by decide) ?_
    refine M_calli (av := [.int (-2 : Int32)]) (rest := []) ⟨hx, hb, hml, hown, hts⟩ hA hK hP hD hS (c_told l D cI cJ ad x ((-2 : Int32)) ) (cwV 1 hts gX12_parcel_X12_told rfl rfl rfl (by decide +kernel) ⟨Nat.le_of_ble_eq_true rfl, Nat.le_of_ble_eq_true rfl⟩) rfl hl.1 rfl (Nat.le_of_ble_eq_true rfl) dX12_parcel_16 ⟨Nat.le_of_ble_eq_true rfl, Nat.le_of_ble_eq_true rfl⟩ (fun r16 y16 H locs hw16 hP hD hS => ?_)
    obtain ⟨er16, ey16⟩ := hw16
    refine M_iret (v := r16) hx hb hr hlocks hK hP hD hS dX12_parcel_19 ?_
    simp only [hw7, er16, ey16, parcelF, c10, not_true_eq_false, not_false_eq_true, and_true, true_and, and_false, false_and, and_self, if_true, if_false, ite_true, ite_false, ↓reduceIte, Int32.add_zero, Bool.not_eq_false, Bool.and_true, Bool.true_and, Bool.and_false, Bool.false_and, Bool.false_eq_true, Bool.true_eq_false]
