/-! pure words of the reference -/
def inL (v lo hi : Int64) : Bool := decide (lo ≤ v) && decide (v ≤ hi)
def isB (v lo hi : Int32) : Bool := decide (lo ≤ v) && decide (v ≤ hi)
theorem toInt64_le (a b : Int32) : (a.toInt64 ≤ b.toInt64) = (a ≤ b) := by
  rw [Int64.le_iff_toInt_le, Int32.le_iff_toInt_le, Int32.toInt_toInt64, Int32.toInt_toInt64]
theorem inL_i (v lo hi : Int32) : inL v.toInt64 lo.toInt64 hi.toInt64 = isB v lo hi := by
  simp only [inL, isB, toInt64_le]
theorem in_1 {a b h : Int64} (c : a < b) : 0 = bI (inL a b h) := by
  have := Int64.not_le.mpr c
  simp [inL, bI, this]
theorem in_2 {a b h : Int64} (c : h < a) : 0 = bI (inL a b h) := by
  have := Int64.not_le.mpr c
  simp [inL, bI, this]
theorem in_3 {a b h : Int64} (c : ¬ a < b) (c2 : ¬ h < a) : 1 = bI (inL a b h) := by
  have h1 := Int64.not_lt.mp c
  have h2 := Int64.not_lt.mp c2
  simp [inL, bI, h1, h2]
/-- an index among n -/
def ixB (n k : Int32) : Bool := inL k.toInt64 0 (n.toInt64 - 1)
def toldF (x : MS) (p : Int32) : MS := sI x 1 (if 0 ≤ p then 0 else p)
section MRR
variable {p : Program} {l : Launch} {e : Env} {R : Room} {s : State} {m : MethodId} {args : Array Value} {below : List Frame} {meth : Method} {c : Code} {H : Heap} {locs : List Loc} {cells slots : Nat} {Q : State → Prop}
variable {cc : ByteArray} {pc : Nat} {ls : Array Slot} {rest : List Value} {D : va_G} {A : Nat → Prop} {cI cJ : ClassId} {ad : Nat → Nat} {x : MS} {Ts : List Cond}
variable {y : MethodName} {bytes : ByteArray} {maxL nL n index : Nat} {ret : Option FieldType} {ws : List Cond} {rm : Room} {av : List Value} {st0 : List Value}
theorem M_callr (S : CallFix p m c cc nL s args Ts RX12) (hA : ∀ q, s.heap.size ≤ q → A q) (hK : va_K D vwCl (tyM cI cJ) s) (hP : va_P D vwCl (wsM cI cJ ad x) H) (hD : va_D A (wsM cI cJ ad x)) (hS : va_S A s.heap H locs) {post : Int32 → Prop} (hM : Mi l y ws rm D cI cJ ad av x (fun r y => y = x ∧ post r)) (cw : CallW R s args RX12 RX12 index y bytes maxL ret ws rm 0 0 n) (hn : av.length = n) (hsize : ls.size = nL) (hst : st0 = av.reverse ++ .ref (ad 0) :: rest) (hW : (rest.map fun v => v.category).sum ≤ 8) (hdg : decode cc pc = .ok (.invokevirtual index, 3)) (hf : cells + 0 ≤ R.cells ∧ slots + 0 ≤ R.slots)
    (kk : ∀ (r : Int32) (H : Heap) (locs : List Loc), post r → va_P D vwCl (wsM cI cJ ad x) H → va_D A (wsM cI cJ ad x) → va_S A s.heap H locs → W p l e R s m args below meth c H locs cells slots Q (F0 m (pc + 3) ls (.int r :: rest))) : W p l e R s m args below meth c H locs cells slots Q (F0 m pc ls st0) :=
  M_calli S hA hK hP hD hS hM cw hn hsize hst hW hdg hf (fun r y H1 locs1 hp hP1 hD1 hS1 => by obtain ⟨h1, hp⟩ := hp; rw [h1] at hP1 hD1; exact kk r H1 locs1 hp hP1 hD1 hS1)
theorem M_callq (S : CallFix p m c cc nL s args Ts RX12) (hA : ∀ q, s.heap.size ≤ q → A q) (hK : va_K D vwCl (tyM cI cJ) s) (hP : va_P D vwCl (wsM cI cJ ad x) H) (hD : va_D A (wsM cI cJ ad x)) (hS : va_S A s.heap H locs) {post : Int64 → Prop} (hM : Ml l y ws rm D cI cJ ad av x (fun r y => y = x ∧ post r)) (cw : CallW R s args RX12 RX12 index y bytes maxL ret ws rm 0 0 n) (hn : av.length = n) (hsize : ls.size = nL) (hst : st0 = av.reverse ++ .ref (ad 0) :: rest) (hW : (rest.map fun v => v.category).sum ≤ 8) (hdg : decode cc pc = .ok (.invokevirtual index, 3)) (hf : cells + 0 ≤ R.cells ∧ slots + 0 ≤ R.slots)
    (kk : ∀ (r : Int64) (H : Heap) (locs : List Loc), post r → va_P D vwCl (wsM cI cJ ad x) H → va_D A (wsM cI cJ ad x) → va_S A s.heap H locs → W p l e R s m args below meth c H locs cells slots Q (F0 m (pc + 3) ls (.long r :: rest))) : W p l e R s m args below meth c H locs cells slots Q (F0 m pc ls st0) :=
  M_calll S hA hK hP hD hS hM cw hn hsize hst hW hdg hf (fun r y H1 locs1 hp hP1 hD1 hS1 => by obtain ⟨h1, hp⟩ := hp; rw [h1] at hP1 hD1; exact kk r H1 locs1 hp hP1 hD1 hS1)
end MRR
/-- a switch's default -/
theorem sw_out (lo hi : Int) (v : Int32) (hd : -2147483648 ≤ lo ∧ hi ≤ 2147483647) (h : ∀ k : Int, lo ≤ k → k ≤ hi → ¬ v = Int32.ofInt k) : v.toInt < lo ∨ hi < v.toInt := by
  rcases Int.lt_or_le v.toInt lo with h1 | h1
  · exact Or.inl h1
  · rcases Int.lt_or_le hi v.toInt with h2 | h2
    · exact Or.inr h2
    · exact absurd (by rw [Int32.ofInt_toInt]) (h v.toInt h1 h2)

theorem toldF_neg (x : MS) (p : Int32) (h : ¬ 0 ≤ p) : toldF x p = sI x 1 p := by simp [toldF, h]
theorem toldF_pos (x : MS) (p : Int32) (h : 0 ≤ p) : toldF x p = sI x 1 0 := by simp [toldF, h]
theorem sI_0 {x : MS} (h : mI x 0 = 0) : sI x 0 0 = x := by
  unfold sI
  refine Prod.ext ?_ rfl
  funext j
  simp only [upd]
  split
  · subst_vars; exact h.symm
  · rfl
/-- a field that counts -/
def nN (x : MS) (k : Nat) : Nat := (mI x k).toNatClampNeg
def okN (x : MS) (k b : Nat) : Prop := mI x k = nI (nN x k) ∧ nN x k ≤ b
theorem isB_in {k h : Int32} {n : Nat} (hb : isB k 0 h = true) (hn : h.toInt + 1 = n) : vp_in k n := by
  simp only [isB, Bool.and_eq_true, decide_eq_true_eq, Int32.le_iff_toInt_le] at hb
  rw [vp_in_iff]
  have : (0 : Int32).toInt = 0 := by decide
  omega
theorem isB_nI {k h : Int32} {n : Nat} (hb : isB k 0 h = true) (hn : h.toInt + 1 = n) (hn2 : n < 2 ^ 31) : ∃ j : Nat, j < n ∧ k = nI j := vp_in_of (isB_in hb hn) hn2
theorem sub1_64 {n : Nat} (hn : n < 2 ^ 31) : ((nI n).toInt64 - 1).toInt = (n : Int) - 1 := by
  have h2 : (1 : Int64).toInt = 1 := by decide
  rw [Int64.toInt_sub, nI_l hn, lN_toInt hn, h2]
  exact Int.bmod_eq_of_le (by omega) (by omega)
theorem ixB_iff {k : Int32} {n : Nat} (hn : n < 2 ^ 31) : ixB (nI n) k = true ↔ vp_in k n := by
  have h1 : (0 : Int64).toInt = 0 := by decide
  simp only [ixB, inL, Bool.and_eq_true, decide_eq_true_eq, Int64.le_iff_toInt_le]
  rw [vp_in_iff, sub1_64 hn, Int32.toInt_toInt64, h1]
  omega
theorem ixB_in {k : Int32} {n : Nat} (hb : ixB (nI n) k = true) (hn : n < 2 ^ 31) : vp_in k n := (ixB_iff hn).mp hb
theorem ixB_of {x : MS} {f b : Nat} {k : Int32} (h : okN x f b) (hb : ixB (mI x f) k = true) (hb2 : b < 2 ^ 31) : ∃ j : Nat, j < nN x f ∧ k = nI j := by
  rw [h.1] at hb
  have := h.2
  exact vp_in_of (ixB_in hb (by omega)) (by omega)
theorem ixB_nI {x : MS} {f b j : Nat} (h : okN x f b) (hb2 : b < 2 ^ 31) (hj : j < nN x f) : ixB (mI x f) (nI j) = true := by
  rw [h.1]
  have := h.2
  exact (ixB_iff (by omega)).mpr (vp_in_nI hj (by omega))
theorem nIne {n N : Nat} (h : n ≤ N) (hN : N < 2 ^ 31) {c : Int32} (hc : c = nI N) (h1 : ¬ nI n = c) : n < N := by
  rcases Nat.lt_or_ge n N with q | q
  · exact q
  · exact absurd (by rw [hc, Nat.le_antisymm h q]) h1
theorem toldF_nI (x : MS) {n : Nat} (h : n < 2 ^ 31) : toldF x (nI n) = toldF x 0 := by rw [toldF_pos x _ (nI_pos' h), toldF_pos x 0 (by decide)]
/-- contents -/
def contentsF (x : MS) (k b : Int32) : Int32 × MS := if isB k 0 9 && isB b 0 255 then (0, toldF (sA x 3 (upd (mA x 3) k.toNatClampNeg b)) 0) else (-1, toldF x (-1))
/-- gift -/
def giftX (x : MS) (n : Nat) (k g la gi : Int32) : MS := sI (sA (sA (sA (sA (sA x 5 (upd (mA x 5) n k)) 6 (upd (mA x 6) n g)) 7 (upd (mA x 7) n la)) 8 (upd (mA x 8) n gi)) 9 (upd (mA x 9) n g)) 4 (nI (n + 1))
def giftF (x : MS) (k g la gi : Int32) : Int32 × MS := if isB k 0 9 && isB g 1 1000000 && isB la (mI x 2) 1000 && isB gi 0 19 then (if nN x 4 = 200 then (-5, toldF x (-5)) else (nI (nN x 4), toldF (giftX x (nN x 4) k g la gi) 0)) else (-1, toldF x (-1))
/-- a referral lets -/
def letsB (x : MS) (j : Nat) (f d : Int32) : Bool := decide (mA x 21 j = f) && isB d (mA x 22 j) (mA x 23 j) && decide (0 < mA x 24 j)
def allowedN (x : MS) (f d : Int32) (k : Nat) : Int32 := itN (fun j a => a + if letsB x j f d then mA x 24 j else 0) 0 k
def needN (x : MS) (hd kd : Int32) (k : Nat) : Int32 := itN (fun j a => a + if mA x 26 j = 0 ∧ mA x 27 j = kd ∧ ¬ hd ≤ mA x 29 j then mA x 28 j * hd else 0) 0 k
def spareN (x : MS) (kd : Int32) (k : Nat) : Int32 := itN (fun j a => if mA x 26 j = 1 ∧ mA x 27 j = kd ∧ ¬ mA x 28 j ≤ a then mA x 28 j else a) 0 k
set_option maxHeartbeats 4000000 in
set_option maxRecDepth 100000 in
theorem c_in (l : Launch) (a : Int64) (b : Int64) (h : Int64)  : Si l yX12_in wsX12_in { frames := 0, cells := 0, slots := 0, locals := 0 } [.long a, .long b, .long h] (fun r => r = bI (inL a b h)) := by
  refine Si_of (cc := cX12_in) (nL := 6) (ret := (some .boolean)) (by decide) rfl rfl (Nat.le_of_ble_eq_true rfl) ?_
  intro p e s m args below meth c hx hb hr hlocks hml hts hown ls hl
  have hl : lv_has ls 6 [(0, .long a), (2, .long b), (4, .long h)] := hl
  refine lv_lload_n hx hb dX12_in_0 rfl (lv_at hl 0 rfl) ?_
  refine lv_lload_n hx hb dX12_in_1 rfl (lv_at hl 1 rfl) ?_
  refine W.lcmp hx hb dX12_in_2 ?_
  refine lv_if_lt (tgt := 17) hx hb dX12_in_3 (by decide) (fun c3 => ?_) (fun c3 => ?_)
  · skip
    simp only [lg_cmp_lt, lg_cmp_le, lg_cmp_gt, lg_cmp_ge, lg_cmp_eq] at c3
    refine lv_iconst (v := 0) hx hb dX12_in_17 (by decide) ?_
    refine S_iret (v := (0 : Int32)) hx hb hr hlocks dX12_in_18 ?_ ?_
    · first | rfl | (simp [narrow]; done)
    · first | exact in_1 c3 | exact in_2 c10 | exact in_3 c3 c10
  · skip
    simp only [lg_cmp_lt, lg_cmp_le, lg_cmp_gt, lg_cmp_ge, lg_cmp_eq] at c3
    refine lv_lload_n hx hb dX12_in_6 rfl (lv_at hl 0 rfl) ?_
    refine lv_lload hx hb dX12_in_7 (lv_at hl 2 rfl) ?_
    refine W.lcmp hx hb dX12_in_9 ?_
    refine lv_if_gt (tgt := 17) hx hb dX12_in_10 (by decide) (fun c10 => ?_) (fun c10 => ?_)
    · skip
      simp only [lg_cmp_lt, lg_cmp_le, lg_cmp_gt, lg_cmp_ge, lg_cmp_eq] at c10
      refine lv_iconst (v := 0) hx hb dX12_in_17 (by decide) ?_
      refine S_iret (v := (0 : Int32)) hx hb hr hlocks dX12_in_18 ?_ ?_
      · first | rfl | (simp [narrow]; done)
      · first | exact in_1 c3 | exact in_2 c10 | exact in_3 c3 c10
    · skip
      simp only [lg_cmp_lt, lg_cmp_le, lg_cmp_gt, lg_cmp_ge, lg_cmp_eq] at c10
      refine lv_iconst (v := 1) hx hb dX12_in_13 (by decide) ?_
      refine lv_goto (tgt := 18) hx hb dX12_in_14 (by decide) ?_
      refine S_iret (v := (1 : Int32)) hx hb hr hlocks dX12_in_18 ?_ ?_
      · first | rfl | (simp [narrow]; done)
      · first | exact in_1 c3 | exact in_2 c10 | exact in_3 c3 c10

set_option maxHeartbeats 4000000 in
set_option maxRecDepth 100000 in
theorem c_told (l : Launch) (D : va_G) (cI cJ : ClassId) (ad : Nat → Nat) (x : MS) (a0 : Int32)  : Mi l yX12_told wsX12_told { frames := 0, cells := 0, slots := 0, locals := 0 } D cI cJ ad [.int a0] x (fun r y => r = a0 ∧ y = toldF x a0) := by
  refine Mi_of (cc := cX12_told) (nL := 2) (ret := (some .int)) (by decide) rfl rfl (Nat.le_of_ble_eq_true rfl) ?_
  intro p e s m args below meth c A hx hb hr hlocks hml hts hown hA hK hP hD hS ls hl
  have hin : ∀ w ∈ wsX120, w ∈ wsX12_told := fun w h => List.mem_cons_of_mem _ (List.mem_append_right _ h)
  have hl : lv_has ls 2 [(0, .ref (ad 0)), (1, .int a0)] := hl
  refine lv_aload_n hx hb dX12_told_0 rfl (lv_at hl 0 rfl) ?_
  refine lv_iload_n hx hb dX12_told_1 rfl (lv_at hl 1 rfl) ?_
  refine lv_if_ge (tgt := 9) hx hb dX12_told_2 (by decide) (fun c2 => ?_) (fun c2 => ?_)
  · skip
    refine lv_iconst (v := 0) hx hb dX12_told_9 (by decide) ?_
    refine M_put hx hb hts hin hown hK hP hD hS 1 (by decide) rfl rfl (index := 159) (by decide +kernel) (ty := .int) (by decide +kernel) rfl rfl (pI_1 cI cJ ad x _) dX12_told_10 (fun y10 H locs ey10 hP hD hS => ?_)
    refine lv_iload_n hx hb dX12_told_13 rfl (lv_at hl 1 rfl) ?_
    refine M_iret (v := a0) hx hb hr hlocks hK hP hD hS dX12_told_14 ?_
    subst_vars; exact ⟨rfl, by simp [toldF, c2]⟩
  · skip
    refine lv_iload_n hx hb dX12_told_5 rfl (lv_at hl 1 rfl) ?_
    refine lv_goto (tgt := 10) hx hb dX12_told_6 (by decide) ?_
    refine M_put hx hb hts hin hown hK hP hD hS 1 (by decide) rfl rfl (index := 159) (by decide +kernel) (ty := .int) (by decide +kernel) rfl rfl (pI_1 cI cJ ad x _) dX12_told_10 (fun y10 H locs ey10 hP hD hS => ?_)
    refine lv_iload_n hx hb dX12_told_13 rfl (lv_at hl 1 rfl) ?_
    refine M_iret (v := a0) hx hb hr hlocks hK hP hD hS dX12_told_14 ?_
    subst_vars; exact ⟨rfl, by simp [toldF, c2]⟩

set_option maxHeartbeats 4000000 in
set_option maxRecDepth 100000 in
theorem c_isKind (l : Launch) (k : Int32)  : Si l yX12_isKind wsX12_isKind { frames := 1, cells := 0, slots := 0, locals := 25 } [.int k] (fun r => r = bI (isB k 0 9)) := by
  refine Si_of (cc := cX12_isKind) (nL := 1) (ret := (some .boolean)) (by decide) rfl rfl (Nat.le_of_ble_eq_true rfl) ?_
  intro p e s m args below meth c hx hb hr hlocks hml hts hown ls hl
  have hl : lv_has ls 1 [(0, .int k)] := hl
  refine lv_iload_n hx hb dX12_isKind_0 rfl (lv_at hl 0 rfl) ?_
  refine lv_i2l hx hb dX12_isKind_1 rfl ?_
  refine lv_lconst (v := 0) hx hb dX12_isKind_2 (by decide) ?_
  refine lv_ldc2 (v := 9) hx hb hown (hts (.constantLong RX12 162 (9)) (by decide +kernel)) dX12_isKind_3 ?_
  refine S_calli (av := [.long k.toInt64, .long (0 : Int64), .long (9 : Int64)]) (rest := []) ⟨hx, hb, hml, hown, hts⟩ (c_in l (k.toInt64) ((0 : Int64)) ((9 : Int64)) ) (va_cwS 3 hts gX12_isKind_X12_in rfl rfl rfl (by decide +kernel) ⟨Nat.le_of_ble_eq_true rfl, Nat.le_of_ble_eq_true rfl⟩) rfl hl.1 rfl (Nat.le_of_ble_eq_true rfl) dX12_isKind_6 ⟨Nat.le_of_ble_eq_true rfl, Nat.le_of_ble_eq_true rfl⟩ (fun r6 hw6 => ?_)
  refine S_iret (v := r6) hx hb hr hlocks dX12_isKind_9 ?_ ?_
  · rw [hw6]; exact bI_nar _
  · rw [hw6]; exact congrArg bI (inL_i k 0 9)

set_option maxHeartbeats 4000000 in
set_option maxRecDepth 100000 in
theorem c_isLot (l : Launch) (D : va_G) (cI cJ : ClassId) (ad : Nat → Nat) (x : MS) (k : Int32)  : Mi l yX12_isLot wsX12_isLot { frames := 1, cells := 0, slots := 0, locals := 25 } D cI cJ ad [.int k] x (fun r y => y = x ∧ r = bI (ixB (mI x 4) k)) := by
  refine Mi_of (cc := cX12_isLot) (nL := 2) (ret := (some .boolean)) (by decide) rfl rfl (Nat.le_of_ble_eq_true rfl) ?_
  intro p e s m args below meth c A hx hb hr hlocks hml hts hown hA hK hP hD hS ls hl
  have hin : ∀ w ∈ wsX120, w ∈ wsX12_isLot := fun w h => List.mem_cons_of_mem _ (List.mem_append_right _ h)
  have hl : lv_has ls 2 [(0, .ref (ad 0)), (1, .int k)] := hl
  refine lv_iload_n hx hb dX12_isLot_0 rfl (lv_at hl 1 rfl) ?_
  refine lv_i2l hx hb dX12_isLot_1 rfl ?_
  refine lv_lconst (v := 0) hx hb dX12_isLot_2 (by decide) ?_
  refine lv_aload_n hx hb dX12_isLot_3 rfl (lv_at hl 0 rfl) ?_
  refine M_get hx hb hts hin hown hK hP 4 (by decide) rfl (index := 168) (by decide +kernel) rfl dX12_isLot_4 ?_
  refine lv_topi (fun v4 ev4 => ?_)
  refine lv_i2l hx hb dX12_isLot_7 rfl ?_
  refine lv_lconst (v := 1) hx hb dX12_isLot_8 (by decide) ?_
  refine lv_lsub hx hb dX12_isLot_9 ?_
  refine S_calli (av := [.long k.toInt64, .long (0 : Int64), .long (v4.toInt64 - (1 : Int64))]) (rest := []) ⟨hx, hb, hml, hown, hts⟩ (c_in l (k.toInt64) ((0 : Int64)) ((v4.toInt64 - (1 : Int64))) ) (va_cwS 3 hts gX12_isLot_X12_in rfl rfl rfl (by decide +kernel) ⟨Nat.le_of_ble_eq_true rfl, Nat.le_of_ble_eq_true rfl⟩) rfl hl.1 rfl (Nat.le_of_ble_eq_true rfl) dX12_isLot_10 ⟨Nat.le_of_ble_eq_true rfl, Nat.le_of_ble_eq_true rfl⟩ (fun r10 hw10 => ?_)
  refine M_zret (v := r10) hx hb hr hlocks hK hP hD hS dX12_isLot_13 ?_ ?_
  · rw [hw10]; exact bI_nar _
  · exact ⟨rfl, by rw [hw10, ev4]; rfl⟩

set_option maxHeartbeats 4000000 in
set_option maxRecDepth 100000 in
theorem c_isTable (l : Launch) (D : va_G) (cI cJ : ClassId) (ad : Nat → Nat) (x : MS) (k : Int32)  : Mi l yX12_isTable wsX12_isTable { frames := 1, cells := 0, slots := 0, locals := 25 } D cI cJ ad [.int k] x (fun r y => y = x ∧ r = bI (ixB (mI x 13) k)) := by
  refine Mi_of (cc := cX12_isTable) (nL := 2) (ret := (some .boolean)) (by decide) rfl rfl (Nat.le_of_ble_eq_true rfl) ?_
  intro p e s m args below meth c A hx hb hr hlocks hml hts hown hA hK hP hD hS ls hl
  have hin : ∀ w ∈ wsX120, w ∈ wsX12_isTable := fun w h => List.mem_cons_of_mem _ (List.mem_append_right _ h)
  have hl : lv_has ls 2 [(0, .ref (ad 0)), (1, .int k)] := hl
  refine lv_iload_n hx hb dX12_isTable_0 rfl (lv_at hl 1 rfl) ?_
  refine lv_i2l hx hb dX12_isTable_1 rfl ?_
  refine lv_lconst (v := 0) hx hb dX12_isTable_2 (by decide) ?_
  refine lv_aload_n hx hb dX12_isTable_3 rfl (lv_at hl 0 rfl) ?_
  refine M_get hx hb hts hin hown hK hP 13 (by decide) rfl (index := 171) (by decide +kernel) rfl dX12_isTable_4 ?_
  refine lv_topi (fun v4 ev4 => ?_)
  refine lv_i2l hx hb dX12_isTable_7 rfl ?_
  refine lv_lconst (v := 1) hx hb dX12_isTable_8 (by decide) ?_
  refine lv_lsub hx hb dX12_isTable_9 ?_
  refine S_calli (av := [.long k.toInt64, .long (0 : Int64), .long (v4.toInt64 - (1 : Int64))]) (rest := []) ⟨hx, hb, hml, hown, hts⟩ (c_in l (k.toInt64) ((0 : Int64)) ((v4.toInt64 - (1 : Int64))) ) (va_cwS 3 hts gX12_isTable_X12_in rfl rfl rfl (by decide +kernel) ⟨Nat.le_of_ble_eq_true rfl, Nat.le_of_ble_eq_true rfl⟩) rfl hl.1 rfl (Nat.le_of_ble_eq_true rfl) dX12_isTable_10 ⟨Nat.le_of_ble_eq_true rfl, Nat.le_of_ble_eq_true rfl⟩ (fun r10 hw10 => ?_)
  refine M_zret (v := r10) hx hb hr hlocks hK hP hD hS dX12_isTable_13 ?_ ?_
  · rw [hw10]; exact bI_nar _
  · exact ⟨rfl, by rw [hw10, ev4]; rfl⟩

set_option maxHeartbeats 4000000 in
set_option maxRecDepth 100000 in
theorem c_isFamily (l : Launch) (D : va_G) (cI cJ : ClassId) (ad : Nat → Nat) (x : MS) (k : Int32)  : Mi l yX12_isFamily wsX12_isFamily { frames := 1, cells := 0, slots := 0, locals := 25 } D cI cJ ad [.int k] x (fun r y => y = x ∧ r = bI (ixB (mI x 16) k)) := by
  refine Mi_of (cc := cX12_isFamily) (nL := 2) (ret := (some .boolean)) (by decide) rfl rfl (Nat.le_of_ble_eq_true rfl) ?_
  intro p e s m args below meth c A hx hb hr hlocks hml hts hown hA hK hP hD hS ls hl
  have hin : ∀ w ∈ wsX120, w ∈ wsX12_isFamily := fun w h => List.mem_cons_of_mem _ (List.mem_append_right _ h)
  have hl : lv_has ls 2 [(0, .ref (ad 0)), (1, .int k)] := hl
  refine lv_iload_n hx hb dX12_isFamily_0 rfl (lv_at hl 1 rfl) ?_
  refine lv_i2l hx hb dX12_isFamily_1 rfl ?_
  refine lv_lconst (v := 0) hx hb dX12_isFamily_2 (by decide) ?_
  refine lv_aload_n hx hb dX12_isFamily_3 rfl (lv_at hl 0 rfl) ?_
  refine M_get hx hb hts hin hown hK hP 16 (by decide) rfl (index := 174) (by decide +kernel) rfl dX12_isFamily_4 ?_
  refine lv_topi (fun v4 ev4 => ?_)
  refine lv_i2l hx hb dX12_isFamily_7 rfl ?_
  refine lv_lconst (v := 1) hx hb dX12_isFamily_8 (by decide) ?_
  refine lv_lsub hx hb dX12_isFamily_9 ?_
  refine S_calli (av := [.long k.toInt64, .long (0 : Int64), .long (v4.toInt64 - (1 : Int64))]) (rest := []) ⟨hx, hb, hml, hown, hts⟩ (c_in l (k.toInt64) ((0 : Int64)) ((v4.toInt64 - (1 : Int64))) ) (va_cwS 3 hts gX12_isFamily_X12_in rfl rfl rfl (by decide +kernel) ⟨Nat.le_of_ble_eq_true rfl, Nat.le_of_ble_eq_true rfl⟩) rfl hl.1 rfl (Nat.le_of_ble_eq_true rfl) dX12_isFamily_10 ⟨Nat.le_of_ble_eq_true rfl, Nat.le_of_ble_eq_true rfl⟩ (fun r10 hw10 => ?_)
  refine M_zret (v := r10) hx hb hr hlocks hK hP hD hS dX12_isFamily_13 ?_ ?_
  · rw [hw10]; exact bI_nar _
  · exact ⟨rfl, by rw [hw10, ev4]; rfl⟩

set_option maxHeartbeats 4000000 in
set_option maxRecDepth 100000 in
theorem c_contents (l : Launch) (D : va_G) (cI cJ : ClassId) (ad : Nat → Nat) (x : MS) (a0 : Int32) (a1 : Int32) (h0 : mI x 0 = 0)  : Mi l yX12_contents wsX12_contents { frames := 2, cells := 0, slots := 0, locals := 45 } D cI cJ ad [.int a0, .int a1] x (fun r y => r = (contentsF x a0 a1).1 ∧ y = (contentsF x a0 a1).2) := by
  refine Mi_of (cc := cX12_contents) (nL := 3) (ret := (some .int)) (by decide) rfl rfl (Nat.le_of_ble_eq_true rfl) ?_
  intro p e s m args below meth c A hx hb hr hlocks hml hts hown hA hK hP hD hS ls hl
  have hin : ∀ w ∈ wsX120, w ∈ wsX12_contents := fun w h => List.mem_cons_of_mem _ (List.mem_append_right _ h)
  have hl : lv_has ls 3 [(0, .ref (ad 0)), (1, .int a0), (2, .int a1)] := hl
  refine lv_aload_n hx hb dX12_contents_0 rfl (lv_at hl 0 rfl) ?_
  refine lv_iconst (v := 0) hx hb dX12_contents_1 (by decide) ?_
  refine M_put hx hb hts hin hown hK hP hD hS 0 (by decide) rfl rfl (index := 156) (by decide +kernel) (ty := .int) (by decide +kernel) rfl rfl (pI_0 cI cJ ad x _) dX12_contents_2 (fun y2 H locs ey2 hP hD hS => ?_)
  rw [ey2.trans (sI_0 h0)] at hP hD
  refine lv_iload_n hx hb dX12_contents_5 rfl (lv_at hl 1 rfl) ?_
  refine S_calli (av := [.int a0]) (rest := []) ⟨hx, hb, hml, hown, hts⟩ (c_isKind l (a0) ) (va_cwS 1 hts gX12_contents_X12_isKind rfl rfl rfl (by decide +kernel) ⟨Nat.le_of_ble_eq_true rfl, Nat.le_of_ble_eq_true rfl⟩) rfl hl.1 rfl (Nat.le_of_ble_eq_true rfl) dX12_contents_6 ⟨Nat.le_of_ble_eq_true rfl, Nat.le_of_ble_eq_true rfl⟩ (fun r6 hw6 => ?_)
  refine lv_if_eq (tgt := 24) hx hb dX12_contents_9 (by decide) (fun c9 => ?_) (fun c9 => ?_)
  · skip
    simp only [hw6, bI_0, bI_1, Bool.not_eq_false] at c9
    refine lv_aload_n hx hb dX12_contents_24 rfl (lv_at hl 0 rfl) ?_
    refine lv_iconst (v := -1) hx hb dX12_contents_25 (by decide) ?_
    refine M_calli (av := [.int (-1 : Int32)]) (rest := []) ⟨hx, hb, hml, hown, hts⟩ hA hK hP hD hS (c_told l D cI cJ ad x ((-1 : Int32)) ) (cwV 1 hts gX12_contents_X12_told rfl rfl rfl (by decide +kernel) ⟨Nat.le_of_ble_eq_true rfl, Nat.le_of_ble_eq_true rfl⟩) rfl hl.1 rfl (Nat.le_of_ble_eq_true rfl) dX12_contents_26 ⟨Nat.le_of_ble_eq_true rfl, Nat.le_of_ble_eq_true rfl⟩ (fun r26 y26 H locs hw26 hP hD hS => ?_)
    obtain ⟨er26, ey26⟩ := hw26
    refine M_iret (v := r26) hx hb hr hlocks hK hP hD hS dX12_contents_29 ?_
    simp only [hw6, er26, ey26, contentsF, c9, not_true_eq_false, not_false_eq_true, and_true, true_and, and_false, false_and, and_self, if_true, if_false, ite_true, ite_false, ↓reduceIte, Int32.add_zero, Bool.not_eq_false, Bool.and_true, Bool.true_and, Bool.and_false, Bool.false_and, Bool.false_eq_true, Bool.true_eq_false]
  · skip
    simp only [hw6, bI_0, bI_1, Bool.not_eq_false] at c9
    refine lv_iload_n hx hb dX12_contents_12 rfl (lv_at hl 2 rfl) ?_
    refine lv_i2l hx hb dX12_contents_13 rfl ?_
    refine lv_lconst (v := 0) hx hb dX12_contents_14 (by decide) ?_
    refine lv_ldc2 (v := 255) hx hb hown (hts (.constantLong RX12 181 (255)) (by decide +kernel)) dX12_contents_15 ?_
    refine S_calli (av := [.long a1.toInt64, .long (0 : Int64), .long (255 : Int64)]) (rest := []) ⟨hx, hb, hml, hown, hts⟩ (c_in l (a1.toInt64) ((0 : Int64)) ((255 : Int64)) ) (va_cwS 3 hts gX12_contents_X12_in rfl rfl rfl (by decide +kernel) ⟨Nat.le_of_ble_eq_true rfl, Nat.le_of_ble_eq_true rfl⟩) rfl hl.1 rfl (Nat.le_of_ble_eq_true rfl) dX12_contents_18 ⟨Nat.le_of_ble_eq_true rfl, Nat.le_of_ble_eq_true rfl⟩ (fun r18 hw18 => ?_)
    rw [show inL a1.toInt64 (0) 255 = isB a1 0 255 from inL_i a1 0 255] at hw18
    refine lv_if_ne (tgt := 30) hx hb dX12_contents_21 (by decide) (fun c21 => ?_) (fun c21 => ?_)
    · skip
      simp only [hw18, bI_0, bI_1, Bool.not_eq_false] at c21
      refine lv_aload_n hx hb dX12_contents_30 rfl (lv_at hl 0 rfl) ?_
      refine M_get hx hb hts hin hown hK hP 3 (by decide) rfl (index := 7) (by decide +kernel) rfl dX12_contents_31 ?_
      refine lv_iload_n hx hb dX12_contents_34 rfl (lv_at hl 1 rfl) ?_
      refine lv_iload_n hx hb dX12_contents_35 rfl (lv_at hl 2 rfl) ?_
      have h36 : vp_in a0 10 := by exact isB_in (h := 9) (by simpa using c9) (by decide)
      refine M_iast hx hb hK hP hD hS 1 rfl h36 (pA_3 cI cJ ad x _) dX12_contents_36 (fun y36 H locs ey36 hP hD hS => ?_)
      refine lv_aload_n hx hb dX12_contents_37 rfl (lv_at hl 0 rfl) ?_
      refine lv_iconst (v := 0) hx hb dX12_contents_38 (by decide) ?_
      refine M_calli (av := [.int (0 : Int32)]) (rest := []) ⟨hx, hb, hml, hown, hts⟩ hA hK hP hD hS (c_told l D cI cJ ad y36 ((0 : Int32)) ) (cwV 1 hts gX12_contents_X12_told rfl rfl rfl (by decide +kernel) ⟨Nat.le_of_ble_eq_true rfl, Nat.le_of_ble_eq_true rfl⟩) rfl hl.1 rfl (Nat.le_of_ble_eq_true rfl) dX12_contents_39 ⟨Nat.le_of_ble_eq_true rfl, Nat.le_of_ble_eq_true rfl⟩ (fun r39 y39 H locs hw39 hP hD hS => ?_)
      obtain ⟨er39, ey39⟩ := hw39
      refine M_iret (v := r39) hx hb hr hlocks hK hP hD hS dX12_contents_42 ?_
      simp only [hw6, hw18, ey36, er39, ey39, contentsF, c9, c21, not_true_eq_false, not_false_eq_true, and_true, true_and, and_false, false_and, and_self, if_true, if_false, ite_true, ite_false, ↓reduceIte, Int32.add_zero, Bool.not_eq_false, Bool.and_true, Bool.true_and, Bool.and_false, Bool.false_and, Bool.false_eq_true, Bool.true_eq_false]
    · skip
      simp only [hw18, bI_0, bI_1, Bool.not_eq_false] at c21
      refine lv_aload_n hx hb dX12_contents_24 rfl (lv_at hl 0 rfl) ?_
      refine lv_iconst (v := -1) hx hb dX12_contents_25 (by decide) ?_
      refine M_calli (av := [.int (-1 : Int32)]) (rest := []) ⟨hx, hb, hml, hown, hts⟩ hA hK hP hD hS (c_told l D cI cJ ad x ((-1 : Int32)) ) (cwV 1 hts gX12_contents_X12_told rfl rfl rfl (by decide +kernel) ⟨Nat.le_of_ble_eq_true rfl, Nat.le_of_ble_eq_true rfl⟩) rfl hl.1 rfl (Nat.le_of_ble_eq_true rfl) dX12_contents_26 ⟨Nat.le_of_ble_eq_true rfl, Nat.le_of_ble_eq_true rfl⟩ (fun r26 y26 H locs hw26 hP hD hS => ?_)
      obtain ⟨er26, ey26⟩ := hw26
      refine M_iret (v := r26) hx hb hr hlocks hK hP hD hS dX12_contents_29 ?_
      simp only [hw6, hw18, er26, ey26, contentsF, c9, c21, not_true_eq_false, not_false_eq_true, and_true, true_and, and_false, false_and, and_self, if_true, if_false, ite_true, ite_false, ↓reduceIte, Int32.add_zero, Bool.not_eq_false, Bool.and_true, Bool.true_and, Bool.and_false, Bool.false_and, Bool.false_eq_true, Bool.true_eq_false]

set_option maxHeartbeats 4000000 in
set_option maxRecDepth 100000 in
theorem c_gift (l : Launch) (D : va_G) (cI cJ : ClassId) (ad : Nat → Nat) (x : MS) (a0 : Int32) (a1 : Int32) (a2 : Int32) (a3 : Int32) (h0 : mI x 0 = 0) (h4 : okN x 4 200) : Mi l yX12_gift wsX12_gift { frames := 2, cells := 0, slots := 0, locals := 45 } D cI cJ ad [.int a0, .int a1, .int a2, .int a3] x (fun r y => r = (giftF x a0 a1 a2 a3).1 ∧ y = (giftF x a0 a1 a2 a3).2) := by
  have h41 := h4.1
  have h42 := h4.2
  refine Mi_of (cc := cX12_gift) (nL := 5) (ret := (some .int)) (by decide) rfl rfl (Nat.le_of_ble_eq_true rfl) ?_
  intro p e s m args below meth c A hx hb hr hlocks hml hts hown hA hK hP hD hS ls hl
  have hin : ∀ w ∈ wsX120, w ∈ wsX12_gift := fun w h => List.mem_cons_of_mem _ (List.mem_append_right _ h)
  have hl : lv_has ls 5 [(0, .ref (ad 0)), (1, .int a0), (2, .int a1), (3, .int a2), (4, .int a3)] := hl
  refine lv_aload_n hx hb dX12_gift_0 rfl (lv_at hl 0 rfl) ?_
  refine lv_iconst (v := 0) hx hb dX12_gift_1 (by decide) ?_
  refine M_put hx hb hts hin hown hK hP hD hS 0 (by decide) rfl rfl (index := 156) (by decide +kernel) (ty := .int) (by decide +kernel) rfl rfl (pI_0 cI cJ ad x _) dX12_gift_2 (fun y2 H locs ey2 hP hD hS => ?_)
  rw [ey2.trans (sI_0 h0)] at hP hD
  refine lv_iload_n hx hb dX12_gift_5 rfl (lv_at hl 1 rfl) ?_
  refine S_calli (av := [.int a0]) (rest := []) ⟨hx, hb, hml, hown, hts⟩ (c_isKind l (a0) ) (va_cwS 1 hts gX12_gift_X12_isKind rfl rfl rfl (by decide +kernel) ⟨Nat.le_of_ble_eq_true rfl, Nat.le_of_ble_eq_true rfl⟩) rfl hl.1 rfl (Nat.le_of_ble_eq_true rfl) dX12_gift_6 ⟨Nat.le_of_ble_eq_true rfl, Nat.le_of_ble_eq_true rfl⟩ (fun r6 hw6 => ?_)
  refine lv_if_eq (tgt := 53) hx hb dX12_gift_9 (by decide) (fun c9 => ?_) (fun c9 => ?_)
  · skip
    simp only [hw6, bI_0, bI_1, Bool.not_eq_false] at c9
    refine lv_aload_n hx hb dX12_gift_53 rfl (lv_at hl 0 rfl) ?_
    refine lv_iconst (v := -1) hx hb dX12_gift_54 (by decide) ?_
    refine M_calli (av := [.int (-1 : Int32)]) (rest := []) ⟨hx, hb, hml, hown, hts⟩ hA hK hP hD hS (c_told l D cI cJ ad x ((-1 : Int32)) ) (cwV 1 hts gX12_gift_X12_told rfl rfl rfl (by decide +kernel) ⟨Nat.le_of_ble_eq_true rfl, Nat.le_of_ble_eq_true rfl⟩) rfl hl.1 rfl (Nat.le_of_ble_eq_true rfl) dX12_gift_55 ⟨Nat.le_of_ble_eq_true rfl, Nat.le_of_ble_eq_true rfl⟩ (fun r55 y55 H locs hw55 hP hD hS => ?_)
    obtain ⟨er55, ey55⟩ := hw55
    refine M_iret (v := r55) hx hb hr hlocks hK hP hD hS dX12_gift_58 ?_
    simp only [hw6, er55, ey55, giftF, c9, not_true_eq_false, not_false_eq_true, and_true, true_and, and_false, false_and, and_self, if_true, if_false, ite_true, ite_false, ↓reduceIte, Int32.add_zero, Bool.not_eq_false, Bool.and_true, Bool.true_and, Bool.and_false, Bool.false_and, Bool.false_eq_true, Bool.true_eq_false]
  · skip
    simp only [hw6, bI_0, bI_1, Bool.not_eq_false] at c9
    refine lv_iload_n hx hb dX12_gift_12 rfl (lv_at hl 2 rfl) ?_
    refine lv_i2l hx hb dX12_gift_13 rfl ?_
    refine lv_lconst (v := 1) hx hb dX12_gift_14 (by decide) ?_
    refine lv_ldc2 (v := 1000000) hx hb hown (hts (.constantLong RX12 187 (1000000)) (by decide +kernel)) dX12_gift_15 ?_
    refine S_calli (av := [.long a1.toInt64, .long (1 : Int64), .long (1000000 : Int64)]) (rest := []) ⟨hx, hb, hml, hown, hts⟩ (c_in l (a1.toInt64) ((1 : Int64)) ((1000000 : Int64)) ) (va_cwS 3 hts gX12_gift_X12_in rfl rfl rfl (by decide +kernel) ⟨Nat.le_of_ble_eq_true rfl, Nat.le_of_ble_eq_true rfl⟩) rfl hl.1 rfl (Nat.le_of_ble_eq_true rfl) dX12_gift_18 ⟨Nat.le_of_ble_eq_true rfl, Nat.le_of_ble_eq_true rfl⟩ (fun r18 hw18 => ?_)
    rw [show inL a1.toInt64 (1) 1000000 = isB a1 1 1000000 from inL_i a1 1 1000000] at hw18
    refine lv_if_eq (tgt := 53) hx hb dX12_gift_21 (by decide) (fun c21 => ?_) (fun c21 => ?_)
    · skip
      simp only [hw18, bI_0, bI_1, Bool.not_eq_false] at c21
      refine lv_aload_n hx hb dX12_gift_53 rfl (lv_at hl 0 rfl) ?_
      refine lv_iconst (v := -1) hx hb dX12_gift_54 (by decide) ?_
      refine M_calli (av := [.int (-1 : Int32)]) (rest := []) ⟨hx, hb, hml, hown, hts⟩ hA hK hP hD hS (c_told l D cI cJ ad x ((-1 : Int32)) ) (cwV 1 hts gX12_gift_X12_told rfl rfl rfl (by decide +kernel) ⟨Nat.le_of_ble_eq_true rfl, Nat.le_of_ble_eq_true rfl⟩) rfl hl.1 rfl (Nat.le_of_ble_eq_true rfl) dX12_gift_55 ⟨Nat.le_of_ble_eq_true rfl, Nat.le_of_ble_eq_true rfl⟩ (fun r55 y55 H locs hw55 hP hD hS => ?_)
      obtain ⟨er55, ey55⟩ := hw55
      refine M_iret (v := r55) hx hb hr hlocks hK hP hD hS dX12_gift_58 ?_
      simp only [hw6, hw18, er55, ey55, giftF, c9, c21, not_true_eq_false, not_false_eq_true, and_true, true_and, and_false, false_and, and_self, if_true, if_false, ite_true, ite_false, ↓reduceIte, Int32.add_zero, Bool.not_eq_false, Bool.and_true, Bool.true_and, Bool.and_false, Bool.false_and, Bool.false_eq_true, Bool.true_eq_false]
    · skip
      simp only [hw18, bI_0, bI_1, Bool.not_eq_false] at c21
      refine lv_iload_n hx hb dX12_gift_24 rfl (lv_at hl 3 rfl) ?_
      refine lv_i2l hx hb dX12_gift_25 rfl ?_
      refine lv_aload_n hx hb dX12_gift_26 rfl (lv_at hl 0 rfl) ?_
      refine M_get hx hb hts hin hown hK hP 2 (by decide) rfl (index := 189) (by decide +kernel) rfl dX12_gift_27 ?_
      refine lv_topi (fun v27 ev27 => ?_)
      refine lv_i2l hx hb dX12_gift_30 rfl ?_
      refine lv_ldc2 (v := 1000) hx hb hown (hts (.constantLong RX12 192 (1000)) (by decide +kernel)) dX12_gift_31 ?_
      refine S_calli (av := [.long a2.toInt64, .long v27.toInt64, .long (1000 : Int64)]) (rest := []) ⟨hx, hb, hml, hown, hts⟩ (c_in l (a2.toInt64) (v27.toInt64) ((1000 : Int64)) ) (va_cwS 3 hts gX12_gift_X12_in rfl rfl rfl (by decide +kernel) ⟨Nat.le_of_ble_eq_true rfl, Nat.le_of_ble_eq_true rfl⟩) rfl hl.1 rfl (Nat.le_of_ble_eq_true rfl) dX12_gift_34 ⟨Nat.le_of_ble_eq_true rfl, Nat.le_of_ble_eq_true rfl⟩ (fun r34 hw34 => ?_)
      rw [ev27, show inL a2.toInt64 (mI x 2).toInt64 1000 = isB a2 (mI x 2) 1000 from inL_i a2 (mI x 2) 1000] at hw34
      refine lv_if_eq (tgt := 53) hx hb dX12_gift_37 (by decide) (fun c37 => ?_) (fun c37 => ?_)
      · skip
        simp only [hw34, ev27, bI_0, bI_1, Bool.not_eq_false] at c37
        refine lv_aload_n hx hb dX12_gift_53 rfl (lv_at hl 0 rfl) ?_
        refine lv_iconst (v := -1) hx hb dX12_gift_54 (by decide) ?_
        refine M_calli (av := [.int (-1 : Int32)]) (rest := []) ⟨hx, hb, hml, hown, hts⟩ hA hK hP hD hS (c_told l D cI cJ ad x ((-1 : Int32)) ) (cwV 1 hts gX12_gift_X12_told rfl rfl rfl (by decide +kernel) ⟨Nat.le_of_ble_eq_true rfl, Nat.le_of_ble_eq_true rfl⟩) rfl hl.1 rfl (Nat.le_of_ble_eq_true rfl) dX12_gift_55 ⟨Nat.le_of_ble_eq_true rfl, Nat.le_of_ble_eq_true rfl⟩ (fun r55 y55 H locs hw55 hP hD hS => ?_)
        obtain ⟨er55, ey55⟩ := hw55
        refine M_iret (v := r55) hx hb hr hlocks hK hP hD hS dX12_gift_58 ?_
        simp only [hw6, hw18, ev27, hw34, er55, ey55, giftF, c9, c21, c37, not_true_eq_false, not_false_eq_true, and_true, true_and, and_false, false_and, and_self, if_true, if_false, ite_true, ite_false, ↓reduceIte, Int32.add_zero, Bool.not_eq_false, Bool.and_true, Bool.true_and, Bool.and_false, Bool.false_and, Bool.false_eq_true, Bool.true_eq_false]
      · skip
        simp only [hw34, ev27, bI_0, bI_1, Bool.not_eq_false] at c37
        refine lv_iload hx hb dX12_gift_40 (lv_at hl 4 rfl) ?_
        refine lv_i2l hx hb dX12_gift_42 rfl ?_
        refine lv_lconst (v := 0) hx hb dX12_gift_43 (by decide) ?_
        refine lv_ldc2 (v := 19) hx hb hown (hts (.constantLong RX12 194 (19)) (by decide +kernel)) dX12_gift_44 ?_
        refine S_calli (av := [.long a3.toInt64, .long (0 : Int64), .long (19 : Int64)]) (rest := []) ⟨hx, hb, hml, hown, hts⟩ (c_in l (a3.toInt64) ((0 : Int64)) ((19 : Int64)) ) (va_cwS 3 hts gX12_gift_X12_in rfl rfl rfl (by decide +kernel) ⟨Nat.le_of_ble_eq_true rfl, Nat.le_of_ble_eq_true rfl⟩) rfl hl.1 rfl (Nat.le_of_ble_eq_true rfl) dX12_gift_47 ⟨Nat.le_of_ble_eq_true rfl, Nat.le_of_ble_eq_true rfl⟩ (fun r47 hw47 => ?_)
        rw [show inL a3.toInt64 (0) 19 = isB a3 0 19 from inL_i a3 0 19] at hw47
        refine lv_if_ne (tgt := 59) hx hb dX12_gift_50 (by decide) (fun c50 => ?_) (fun c50 => ?_)
        · skip
          simp only [hw47, bI_0, bI_1, Bool.not_eq_false] at c50
          refine lv_aload_n hx hb dX12_gift_59 rfl (lv_at hl 0 rfl) ?_
          refine M_get hx hb hts hin hown hK hP 4 (by decide) rfl (index := 168) (by decide +kernel) rfl dX12_gift_60 ?_
          refine lv_topi (fun v60 ev60 => ?_)
          refine lv_sipush (v := 200) hx hb dX12_gift_63 (by decide) ?_
          refine lv_icmp_ne (tgt := 76) hx hb dX12_gift_66 (by decide) (fun c66 => ?_) (fun c66 => ?_)
          · skip
            simp only [ev60] at c66
            have hN : nN x 4 < 200 := by rw [h41] at c66; exact nIne h42 (by decide) rfl c66
            refine lv_aload_n hx hb dX12_gift_76 rfl (lv_at hl 0 rfl) ?_
            refine M_get hx hb hts hin hown hK hP 5 (by decide) rfl (index := 13) (by decide +kernel) rfl dX12_gift_77 ?_
            refine lv_aload_n hx hb dX12_gift_80 rfl (lv_at hl 0 rfl) ?_
            refine M_get hx hb hts hin hown hK hP 4 (by decide) rfl (index := 168) (by decide +kernel) rfl dX12_gift_81 ?_
            refine lv_topi (fun v81 ev81 => ?_)
            refine lv_iload_n hx hb dX12_gift_84 rfl (lv_at hl 1 rfl) ?_
            have h85 : vp_in v81 200 := by simp only [hw6, hw18, ev27, hw34, hw47, ev60, ev81, mI_sA, h41]; exact vp_in_nI hN (by decide)
            refine M_iast hx hb hK hP hD hS 2 rfl h85 (pA_5 cI cJ ad x _) dX12_gift_85 (fun y85 H locs ey85 hP hD hS => ?_)
            refine lv_aload_n hx hb dX12_gift_86 rfl (lv_at hl 0 rfl) ?_
            refine M_get hx hb hts hin hown hK hP 6 (by decide) rfl (index := 16) (by decide +kernel) rfl dX12_gift_87 ?_
            refine lv_aload_n hx hb dX12_gift_90 rfl (lv_at hl 0 rfl) ?_
            refine M_get hx hb hts hin hown hK hP 4 (by decide) rfl (index := 168) (by decide +kernel) rfl dX12_gift_91 ?_
            refine lv_topi (fun v91 ev91 => ?_)
            refine lv_iload_n hx hb dX12_gift_94 rfl (lv_at hl 2 rfl) ?_
            have h95 : vp_in v91 200 := by simp only [hw6, hw18, ev27, hw34, hw47, ev60, ev81, ey85, ev91, mI_sA, h41]; exact vp_in_nI hN (by decide)
            refine M_iast hx hb hK hP hD hS 3 rfl h95 (pA_6 cI cJ ad y85 _) dX12_gift_95 (fun y95 H locs ey95 hP hD hS => ?_)
            refine lv_aload_n hx hb dX12_gift_96 rfl (lv_at hl 0 rfl) ?_
            refine M_get hx hb hts hin hown hK hP 7 (by decide) rfl (index := 19) (by decide +kernel) rfl dX12_gift_97 ?_
            refine lv_aload_n hx hb dX12_gift_100 rfl (lv_at hl 0 rfl) ?_
            refine M_get hx hb hts hin hown hK hP 4 (by decide) rfl (index := 168) (by decide +kernel) rfl dX12_gift_101 ?_
            refine lv_topi (fun v101 ev101 => ?_)
            refine lv_iload_n hx hb dX12_gift_104 rfl (lv_at hl 3 rfl) ?_
            have h105 : vp_in v101 200 := by simp only [hw6, hw18, ev27, hw34, hw47, ev60, ev81, ey85, ev91, ey95, ev101, mI_sA, h41]; exact vp_in_nI hN (by decide)
            refine M_iast hx hb hK hP hD hS 4 rfl h105 (pA_7 cI cJ ad y95 _) dX12_gift_105 (fun y105 H locs ey105 hP hD hS => ?_)
            refine lv_aload_n hx hb dX12_gift_106 rfl (lv_at hl 0 rfl) ?_
            refine M_get hx hb hts hin hown hK hP 8 (by decide) rfl (index := 22) (by decide +kernel) rfl dX12_gift_107 ?_
            refine lv_aload_n hx hb dX12_gift_110 rfl (lv_at hl 0 rfl) ?_
            refine M_get hx hb hts hin hown hK hP 4 (by decide) rfl (index := 168) (by decide +kernel) rfl dX12_gift_111 ?_
            refine lv_topi (fun v111 ev111 => ?_)
            refine lv_iload hx hb dX12_gift_114 (lv_at hl 4 rfl) ?_
            have h116 : vp_in v111 200 := by simp only [hw6, hw18, ev27, hw34, hw47, ev60, ev81, ey85, ev91, ey95, ev101, ey105, ev111, mI_sA, h41]; exact vp_in_nI hN (by decide)
            refine M_iast hx hb hK hP hD hS 5 rfl h116 (pA_8 cI cJ ad y105 _) dX12_gift_116 (fun y116 H locs ey116 hP hD hS => ?_)
            refine lv_aload_n hx hb dX12_gift_117 rfl (lv_at hl 0 rfl) ?_
            refine M_get hx hb hts hin hown hK hP 9 (by decide) rfl (index := 25) (by decide +kernel) rfl dX12_gift_118 ?_
            refine lv_aload_n hx hb dX12_gift_121 rfl (lv_at hl 0 rfl) ?_
            refine M_get hx hb hts hin hown hK hP 4 (by decide) rfl (index := 168) (by decide +kernel) rfl dX12_gift_122 ?_
            refine lv_topi (fun v122 ev122 => ?_)
            refine lv_iload_n hx hb dX12_gift_125 rfl (lv_at hl 2 rfl) ?_
            have h126 : vp_in v122 200 := by simp only [hw6, hw18, ev27, hw34, hw47, ev60, ev81, ey85, ev91, ey95, ev101, ey105, ev111, ey116, ev122, mI_sA, h41]; exact vp_in_nI hN (by decide)
            refine M_iast hx hb hK hP hD hS 6 rfl h126 (pA_9 cI cJ ad y116 _) dX12_gift_126 (fun y126 H locs ey126 hP hD hS => ?_)
            refine lv_aload_n hx hb dX12_gift_127 rfl (lv_at hl 0 rfl) ?_
            refine lv_dup hx hb dX12_gift_128 rfl ?_
            refine M_get hx hb hts hin hown hK hP 4 (by decide) rfl (index := 168) (by decide +kernel) rfl dX12_gift_129 ?_
            refine lv_topi (fun v129 ev129 => ?_)
            refine lv_iconst (v := 1) hx hb dX12_gift_132 (by decide) ?_
            refine lv_iadd hx hb dX12_gift_133 ?_
            refine M_put hx hb hts hin hown hK hP hD hS 4 (by decide) rfl rfl (index := 168) (by decide +kernel) (ty := .int) (by decide +kernel) rfl rfl (pI_4 cI cJ ad y126 _) dX12_gift_134 (fun y134 H locs ey134 hP hD hS => ?_)
            refine lv_aload_n hx hb dX12_gift_137 rfl (lv_at hl 0 rfl) ?_
            refine lv_aload_n hx hb dX12_gift_138 rfl (lv_at hl 0 rfl) ?_
            refine M_get hx hb hts hin hown hK hP 4 (by decide) rfl (index := 168) (by decide +kernel) rfl dX12_gift_139 ?_
            refine lv_topi (fun v139 ev139 => ?_)
            refine lv_iconst (v := 1) hx hb dX12_gift_142 (by decide) ?_
            refine lv_isub hx hb dX12_gift_143 ?_
            refine M_calli (av := [.int (v139 - (1 : Int32))]) (rest := []) ⟨hx, hb, hml, hown, hts⟩ hA hK hP hD hS (c_told l D cI cJ ad y134 ((v139 - (1 : Int32))) ) (cwV 1 hts gX12_gift_X12_told rfl rfl rfl (by decide +kernel) ⟨Nat.le_of_ble_eq_true rfl, Nat.le_of_ble_eq_true rfl⟩) rfl hl.1 rfl (Nat.le_of_ble_eq_true rfl) dX12_gift_144 ⟨Nat.le_of_ble_eq_true rfl, Nat.le_of_ble_eq_true rfl⟩ (fun r144 y144 H locs hw144 hP hD hS => ?_)
            obtain ⟨er144, ey144⟩ := hw144
            refine M_iret (v := r144) hx hb hr hlocks hK hP hD hS dX12_gift_147 ?_
            have hcl : (nI (nN x 4)).toNatClampNeg = nN x 4 := nI_clamp (by omega)
            have e1 : r144 = nI (nN x 4) := by simp [hw6, hw18, ev27, hw34, hw47, ev60, ev81, ey85, ev91, ey95, ev101, ey105, ev111, ey116, ev122, ey126, ev129, ey134, ev139, er144, ey144, mI_sA, mI_sI, h41, nI_1, nI_pred]
            rw [← er144, e1, toldF_nI _ (by omega)] at ey144
            rw [ey144, e1]
            simp [giftF, giftX, hw6, hw18, ev27, hw34, hw47, ev60, ev81, ey85, ev91, ey95, ev101, ey105, ev111, ey116, ev122, ey126, ev129, ey134, ev139, er144, ey144, mI_sI, mI_sA, mI_sL, mI_sB, mL_sI, mL_sA, mL_sL, mL_sB, mA_sI, mA_sA, mA_sL, mA_sB, mB_sI, mB_sA, mB_sL, mB_sB, h41, hcl, nI_1, c9, c21, c37, c50, c66, Nat.ne_of_lt hN]
          · skip
            simp only [ev60] at c66
            have hN : nN x 4 = 200 := by rw [h41] at c66; exact (nI_eq (by omega) (by omega)).mp c66
            refine lv_aload_n hx hb dX12_gift_69 rfl (lv_at hl 0 rfl) ?_
            refine lv_bipush (v := -5) hx hb dX12_gift_70 (by decide) ?_
            refine M_calli (av := [.int (-5 : Int32)]) (rest := []) ⟨hx, hb, hml, hown, hts⟩ hA hK hP hD hS (c_told l D cI cJ ad x ((-5 : Int32)) ) (cwV 1 hts gX12_gift_X12_told rfl rfl rfl (by decide +kernel) ⟨Nat.le_of_ble_eq_true rfl, Nat.le_of_ble_eq_true rfl⟩) rfl hl.1 rfl (Nat.le_of_ble_eq_true rfl) dX12_gift_72 ⟨Nat.le_of_ble_eq_true rfl, Nat.le_of_ble_eq_true rfl⟩ (fun r72 y72 H locs hw72 hP hD hS => ?_)
            obtain ⟨er72, ey72⟩ := hw72
            refine M_iret (v := r72) hx hb hr hlocks hK hP hD hS dX12_gift_75 ?_
            simp only [hw6, hw18, ev27, hw34, hw47, ev60, er72, ey72, giftF, c9, c21, c37, c50, c66, not_true_eq_false, not_false_eq_true, and_true, true_and, and_false, false_and, and_self, if_true, if_false, ite_true, ite_false, ↓reduceIte, Int32.add_zero, Bool.not_eq_false, Bool.and_true, Bool.true_and, Bool.and_false, Bool.false_and, Bool.false_eq_true, Bool.true_eq_false, hN]
        · skip
          simp only [hw47, bI_0, bI_1, Bool.not_eq_false] at c50
          refine lv_aload_n hx hb dX12_gift_53 rfl (lv_at hl 0 rfl) ?_
          refine lv_iconst (v := -1) hx hb dX12_gift_54 (by decide) ?_
          refine M_calli (av := [.int (-1 : Int32)]) (rest := []) ⟨hx, hb, hml, hown, hts⟩ hA hK hP hD hS (c_told l D cI cJ ad x ((-1 : Int32)) ) (cwV 1 hts gX12_gift_X12_told rfl rfl rfl (by decide +kernel) ⟨Nat.le_of_ble_eq_true rfl, Nat.le_of_ble_eq_true rfl⟩) rfl hl.1 rfl (Nat.le_of_ble_eq_true rfl) dX12_gift_55 ⟨Nat.le_of_ble_eq_true rfl, Nat.le_of_ble_eq_true rfl⟩ (fun r55 y55 H locs hw55 hP hD hS => ?_)
          obtain ⟨er55, ey55⟩ := hw55
          refine M_iret (v := r55) hx hb hr hlocks hK hP hD hS dX12_gift_58 ?_
          simp only [hw6, hw18, ev27, hw34, hw47, er55, ey55, giftF, c9, c21, c37, c50, not_true_eq_false, not_false_eq_true, and_true, true_and, and_false, false_and, and_self, if_true, if_false, ite_true, ite_false, ↓reduceIte, Int32.add_zero, Bool.not_eq_false, Bool.and_true, Bool.true_and, Bool.and_false, Bool.false_and, Bool.false_eq_true, Bool.true_eq_false]

set_option maxHeartbeats 4000000 in
set_option maxRecDepth 100000 in
theorem c_lets (l : Launch) (D : va_G) (cI cJ : ClassId) (ad : Nat → Nat) (x : MS) (j : Nat) (f : Int32) (d : Int32) (hj : j < 100) : Mi l yX12_lets wsX12_lets { frames := 1, cells := 0, slots := 0, locals := 25 } D cI cJ ad [.int (nI j), .int f, .int d] x (fun r y => y = x ∧ r = bI (letsB x j f d)) := by
  refine Mi_of (cc := cX12_lets) (nL := 4) (ret := (some .boolean)) (by decide) rfl rfl (Nat.le_of_ble_eq_true rfl) ?_
  intro p e s m args below meth c A hx hb hr hlocks hml hts hown hA hK hP hD hS ls hl
  have hin : ∀ w ∈ wsX120, w ∈ wsX12_lets := fun w h => List.mem_cons_of_mem _ (List.mem_append_right _ h)
  have hl : lv_has ls 4 [(0, .ref (ad 0)), (1, .int (nI j)), (2, .int f), (3, .int d)] := hl
  refine lv_aload_n hx hb dX12_lets_0 rfl (lv_at hl 0 rfl) ?_
  refine M_get hx hb hts hin hown hK hP 21 (by decide) rfl (index := 53) (by decide +kernel) rfl dX12_lets_1 ?_
  refine lv_iload_n hx hb dX12_lets_4 rfl (lv_at hl 1 rfl) ?_
  have h5 : vp_in ((nI j)) 100 := by exact vp_in_nI (by omega) (by decide)
  refine va_iald hx hb hK hP 15 0 rfl rfl h5 dX12_lets_5 ?_
  refine lv_topi (fun v5 ev5 => ?_)
  rw [nI_clamp (by omega)] at ev5
  refine lv_iload_n hx hb dX12_lets_6 rfl (lv_at hl 2 rfl) ?_
  refine lv_icmp_ne (tgt := 45) hx hb dX12_lets_7 (by decide) (fun c7 => ?_) (fun c7 => ?_)
  · skip
    simp only [ev5] at c7
    refine lv_iconst (v := 0) hx hb dX12_lets_45 (by decide) ?_
    refine M_zret (v := (0 : Int32)) hx hb hr hlocks hK hP hD hS dX12_lets_46 ?_ ?_
    · first | rfl | (simp [narrow]; done)
    · simp_all [letsB, bI_0, bI]
  · skip
    simp only [ev5] at c7
    refine lv_iload_n hx hb dX12_lets_10 rfl (lv_at hl 3 rfl) ?_
    refine lv_i2l hx hb dX12_lets_11 rfl ?_
    refine lv_aload_n hx hb dX12_lets_12 rfl (lv_at hl 0 rfl) ?_
    refine M_get hx hb hts hin hown hK hP 22 (by decide) rfl (index := 56) (by decide +kernel) rfl dX12_lets_13 ?_
    refine lv_iload_n hx hb dX12_lets_16 rfl (lv_at hl 1 rfl) ?_
    have h17 : vp_in ((nI j)) 100 := by exact vp_in_nI (by omega) (by decide)
    refine va_iald hx hb hK hP 16 0 rfl rfl h17 dX12_lets_17 ?_
    refine lv_topi (fun v17 ev17 => ?_)
    rw [nI_clamp (by omega)] at ev17
    refine lv_i2l hx hb dX12_lets_18 rfl ?_
    refine lv_aload_n hx hb dX12_lets_19 rfl (lv_at hl 0 rfl) ?_
    refine M_get hx hb hts hin hown hK hP 23 (by decide) rfl (index := 59) (by decide +kernel) rfl dX12_lets_20 ?_
    refine lv_iload_n hx hb dX12_lets_23 rfl (lv_at hl 1 rfl) ?_
    have h24 : vp_in ((nI j)) 100 := by exact vp_in_nI (by omega) (by decide)
    refine va_iald hx hb hK hP 17 0 rfl rfl h24 dX12_lets_24 ?_
    refine lv_topi (fun v24 ev24 => ?_)
    rw [nI_clamp (by omega)] at ev24
    refine lv_i2l hx hb dX12_lets_25 rfl ?_
    refine S_calli (av := [.long d.toInt64, .long v17.toInt64, .long v24.toInt64]) (rest := []) ⟨hx, hb, hml, hown, hts⟩ (c_in l (d.toInt64) (v17.toInt64) (v24.toInt64) ) (va_cwS 3 hts gX12_lets_X12_in rfl rfl rfl (by decide +kernel) ⟨Nat.le_of_ble_eq_true rfl, Nat.le_of_ble_eq_true rfl⟩) rfl hl.1 rfl (Nat.le_of_ble_eq_true rfl) dX12_lets_26 ⟨Nat.le_of_ble_eq_true rfl, Nat.le_of_ble_eq_true rfl⟩ (fun r26 hw26 => ?_)
    rw [inL_i] at hw26
    refine lv_if_eq (tgt := 45) hx hb dX12_lets_29 (by decide) (fun c29 => ?_) (fun c29 => ?_)
    · skip
      simp only [hw26, ev17, ev24, bI_0, bI_1, Bool.not_eq_false] at c29
      refine lv_iconst (v := 0) hx hb dX12_lets_45 (by decide) ?_
      refine M_zret (v := (0 : Int32)) hx hb hr hlocks hK hP hD hS dX12_lets_46 ?_ ?_
      · first | rfl | (simp [narrow]; done)
      · simp_all [letsB, bI_0, bI]
    · skip
      simp only [hw26, ev17, ev24, bI_0, bI_1, Bool.not_eq_false] at c29
      refine lv_aload_n hx hb dX12_lets_32 rfl (lv_at hl 0 rfl) ?_
      refine M_get hx hb hts hin hown hK hP 24 (by decide) rfl (index := 62) (by decide +kernel) rfl dX12_lets_33 ?_
      refine lv_iload_n hx hb dX12_lets_36 rfl (lv_at hl 1 rfl) ?_
      have h37 : vp_in ((nI j)) 100 := by exact vp_in_nI (by omega) (by decide)
      refine va_iald hx hb hK hP 18 0 rfl rfl h37 dX12_lets_37 ?_
      refine lv_topi (fun v37 ev37 => ?_)
      rw [nI_clamp (by omega)] at ev37
      refine lv_if_le (tgt := 45) hx hb dX12_lets_38 (by decide) (fun c38 => ?_) (fun c38 => ?_)
      · skip
        simp only [ev37] at c38
        refine lv_iconst (v := 0) hx hb dX12_lets_45 (by decide) ?_
        refine M_zret (v := (0 : Int32)) hx hb hr hlocks hK hP hD hS dX12_lets_46 ?_ ?_
        · first | rfl | (simp [narrow]; done)
        · simp_all [letsB, bI_0, bI]
      · skip
        simp only [ev37] at c38
        refine lv_iconst (v := 1) hx hb dX12_lets_41 (by decide) ?_
        refine lv_goto (tgt := 46) hx hb dX12_lets_42 (by decide) ?_
        refine M_zret (v := (1 : Int32)) hx hb hr hlocks hK hP hD hS dX12_lets_46 ?_ ?_
        · first | rfl | (simp [narrow]; done)
        · simp_all [letsB, bI_0, bI]

set_option maxHeartbeats 4000000 in
set_option maxRecDepth 100000 in
theorem c_allowed (l : Launch) (D : va_G) (cI cJ : ClassId) (ad : Nat → Nat) (x : MS) (f : Int32) (d : Int32) (h0 : mI x 0 = 0) (h20 : okN x 20 100) : Mi l yX12_allowed wsX12_allowed { frames := 2, cells := 0, slots := 0, locals := 48 } D cI cJ ad [.int f, .int d] x (fun r y => y = x ∧ r = (if ixB (mI x 16) f && isB d 0 1000 then allowedN x f d (nN x 20) else -1)) := by
  have hN := h20.1
  have hN2 := h20.2
  refine Mi_of (cc := cX12_allowed) (nL := 5) (ret := (some .int)) (by decide) rfl rfl (Nat.le_of_ble_eq_true rfl) ?_
  intro p e s m args below meth c A hx hb hr hlocks hml hts hown hA hK hP hD hS ls hl
  have hin : ∀ w ∈ wsX120, w ∈ wsX12_allowed := fun w h => List.mem_cons_of_mem _ (List.mem_append_right _ h)
  have hl : lv_has ls 5 [(0, .ref (ad 0)), (1, .int f), (2, .int d)] := hl
  refine lv_aload_n hx hb dX12_allowed_0 rfl (lv_at hl 0 rfl) ?_
  refine lv_iconst (v := 0) hx hb dX12_allowed_1 (by decide) ?_
  refine M_put hx hb hts hin hown hK hP hD hS 0 (by decide) rfl rfl (index := 156) (by decide +kernel) (ty := .int) (by decide +kernel) rfl rfl (pI_0 cI cJ ad x _) dX12_allowed_2 (fun y2 H locs ey2 hP hD hS => ?_)
  rw [ey2.trans (sI_0 h0)] at hP hD
  refine lv_aload_n hx hb dX12_allowed_5 rfl (lv_at hl 0 rfl) ?_
  refine lv_iload_n hx hb dX12_allowed_6 rfl (lv_at hl 1 rfl) ?_
  refine M_callr (av := [.int f]) (rest := []) ⟨hx, hb, hml, hown, hts⟩ hA hK hP hD hS (c_isFamily l D cI cJ ad x (f) ) (cwV 1 hts gX12_allowed_X12_isFamily rfl rfl rfl (by decide +kernel) ⟨Nat.le_of_ble_eq_true rfl, Nat.le_of_ble_eq_true rfl⟩) rfl hl.1 rfl (Nat.le_of_ble_eq_true rfl) dX12_allowed_7 ⟨Nat.le_of_ble_eq_true rfl, Nat.le_of_ble_eq_true rfl⟩ (fun r7 H locs hw7 hP hD hS => ?_)
  refine lv_if_eq (tgt := 25) hx hb dX12_allowed_10 (by decide) (fun c10 => ?_) (fun c10 => ?_)
  · skip
    simp only [hw7, bI_0, bI_1, Bool.not_eq_false] at c10
    refine lv_iconst (v := -1) hx hb dX12_allowed_25 (by decide) ?_
    refine M_iret (v := (-1 : Int32)) hx hb hr hlocks hK hP hD hS dX12_allowed_26 ?_
    simp only [hw7, c10, not_true_eq_false, not_false_eq_true, and_true, true_and, and_false, false_and, and_self, if_true, if_false, ite_true, ite_false, ↓reduceIte, Int32.add_zero, Bool.not_eq_false, Bool.and_true, Bool.true_and, Bool.and_false, Bool.false_and, Bool.false_eq_true, Bool.true_eq_false]
  · skip
    simp only [hw7, bI_0, bI_1, Bool.not_eq_false] at c10
    refine lv_iload_n hx hb dX12_allowed_13 rfl (lv_at hl 2 rfl) ?_
    refine lv_i2l hx hb dX12_allowed_14 rfl ?_
    refine lv_lconst (v := 0) hx hb dX12_allowed_15 (by decide) ?_
    refine lv_ldc2 (v := 1000) hx hb hown (hts (.constantLong RX12 192 (1000)) (by decide +kernel)) dX12_allowed_16 ?_
    refine S_calli (av := [.long d.toInt64, .long (0 : Int64), .long (1000 : Int64)]) (rest := []) ⟨hx, hb, hml, hown, hts⟩ (c_in l (d.toInt64) ((0 : Int64)) ((1000 : Int64)) ) (va_cwS 3 hts gX12_allowed_X12_in rfl rfl rfl (by decide +kernel) ⟨Nat.le_of_ble_eq_true rfl, Nat.le_of_ble_eq_true rfl⟩) rfl hl.1 rfl (Nat.le_of_ble_eq_true rfl) dX12_allowed_19 ⟨Nat.le_of_ble_eq_true rfl, Nat.le_of_ble_eq_true rfl⟩ (fun r19 hw19 => ?_)
    rw [show inL d.toInt64 (0) 1000 = isB d 0 1000 from inL_i d 0 1000] at hw19
    refine lv_if_ne (tgt := 27) hx hb dX12_allowed_22 (by decide) (fun c22 => ?_) (fun c22 => ?_)
    · skip
      simp only [hw19, bI_0, bI_1, Bool.not_eq_false] at c22
      refine lv_iconst (v := 0) hx hb dX12_allowed_27 (by decide) ?_
      refine lv_topi (fun x28 ex28 => ?_)
      refine lv_istore_n (lv' := [(3, .int x28), (0, .ref (ad 0)), (1, .int f), (2, .int d)]) hx hb dX12_allowed_28 rfl hl (by decide) rfl (fun ls hl => ?_)
      refine lv_iconst (v := 0) hx hb dX12_allowed_29 (by decide) ?_
      refine lv_topi (fun x30 ex30 => ?_)
      refine lv_istore (lv' := [(4, .int x30), (3, .int x28), (0, .ref (ad 0)), (1, .int f), (2, .int d)]) hx hb dX12_allowed_30 hl (by decide) rfl (fun ls hl => ?_)
      have lp32 : ∀ (n : Nat) (k : Nat), (nN x 20 < k + n) → (k ≤ nN x 20) → ∀ (H : Heap) (locs : List Loc), va_P D vwCl (wsM cI cJ ad x) H → va_D A (wsM cI cJ ad x) → va_S A s.heap H locs → ∀ ls : Array Slot, lv_has ls 5 [(4, .int (nI k)), (3, .int (allowedN x f d k)), (0, .ref (ad 0)), (1, .int f), (2, .int d)] → W p l e { frames := 2, cells := 0, slots := 0, locals := 48 } s m args below meth c H locs 0 0 (MQ below (va_Qi (fun r y => y = x ∧ r = (if ixB (mI x 16) f && isB d 0 1000 then allowedN x f d (nN x 20) else -1)) (mAft D cI cJ ad A) A) args s 0 0 A) (F0 m 32 ls []) := by
        intro n
        induction n with
        | zero => intro k hn hk; exact absurd hn (by omega)
        | succ n ih32 =>
          intro k hn hk H locs hP hD hS ls hl
          refine lv_iload hx hb dX12_allowed_32 (lv_at hl 0 rfl) ?_
          refine lv_aload_n hx hb dX12_allowed_34 rfl (lv_at hl 2 rfl) ?_
          refine M_get hx hb hts hin hown hK hP 20 (by decide) rfl (index := 209) (by decide +kernel) rfl dX12_allowed_35 ?_
          refine lv_topi (fun v35 ev35 => ?_)
          refine lv_icmp_ge (tgt := 72) hx hb dX12_allowed_38 (by decide) (fun c38 => ?_) (fun c38 => ?_)
          · skip
            simp only [ev35] at c38
            have hkN : k = nN x 20 := by rw [hN] at c38; have := (nI_leI (by omega) (by omega)).mp c38; omega
            refine lv_iload_n hx hb dX12_allowed_72 rfl (lv_at hl 1 rfl) ?_
            refine M_iret (v := (allowedN x f d k)) hx hb hr hlocks hK hP hD hS dX12_allowed_73 ?_
            simp only [hkN, c10, c22, not_true_eq_false, not_false_eq_true, and_true, true_and, and_false, false_and, and_self, if_true, if_false, ite_true, ite_false, ↓reduceIte, Int32.add_zero, Bool.not_eq_false, Bool.and_true, Bool.true_and, Bool.and_false, Bool.false_and, Bool.false_eq_true, Bool.true_eq_false]
          · skip
            simp only [ev35] at c38
            have hkN : k < nN x 20 := by
              rw [hN] at c38
              rcases Nat.lt_or_ge k (nN x 20) with q | q
              · exact q
              · exact absurd (nI_le q (by omega)) c38
            refine lv_iload_n hx hb dX12_allowed_41 rfl (lv_at hl 1 rfl) ?_
            refine lv_aload_n hx hb dX12_allowed_42 rfl (lv_at hl 2 rfl) ?_
            refine lv_iload hx hb dX12_allowed_43 (lv_at hl 0 rfl) ?_
            refine lv_iload_n hx hb dX12_allowed_45 rfl (lv_at hl 3 rfl) ?_
            refine lv_iload_n hx hb dX12_allowed_46 rfl (lv_at hl 4 rfl) ?_
            refine M_callr (av := [.int (nI k), .int f, .int d]) (rest := [.int (allowedN x f d k)]) ⟨hx, hb, hml, hown, hts⟩ hA hK hP hD hS (c_lets l D cI cJ ad x (k) (f) (d) (by omega)) (cwV 3 hts gX12_allowed_X12_lets rfl rfl rfl (by decide +kernel) ⟨Nat.le_of_ble_eq_true rfl, Nat.le_of_ble_eq_true rfl⟩) rfl hl.1 rfl (Nat.le_of_ble_eq_true rfl) dX12_allowed_47 ⟨Nat.le_of_ble_eq_true rfl, Nat.le_of_ble_eq_true rfl⟩ (fun r47 H locs hw47 hP hD hS => ?_)
            refine lv_if_eq (tgt := 63) hx hb dX12_allowed_50 (by decide) (fun c50 => ?_) (fun c50 => ?_)
            · skip
              simp only [hw47, bI_0, bI_1, Bool.not_eq_false] at c50
              refine lv_iconst (v := 0) hx hb dX12_allowed_63 (by decide) ?_
              refine lv_iadd hx hb dX12_allowed_64 ?_
              refine lv_topi (fun x65 ex65 => ?_)
              refine lv_istore_n (lv' := [(3, .int x65), (4, .int (nI k)), (0, .ref (ad 0)), (1, .int f), (2, .int d)]) hx hb dX12_allowed_65 rfl hl (by decide) rfl (fun ls hl => ?_)
              obtain ⟨x66, ex66⟩ : ∃ y : Int32, y = (nI k) + 1 := ⟨_, rfl⟩
              refine lv_iinc (v := x66) (lv' := [(4, .int x66), (3, .int x65), (0, .ref (ad 0)), (1, .int f), (2, .int d)]) hx hb dX12_allowed_66 hl (k := 1) rfl (by rw [ex66]; rfl) (by decide) rfl (fun ls hl => ?_)
              refine lv_goto (tgt := 32) hx hb dX12_allowed_69 (by decide) ?_
              have q4 : x66 = (nI (k + 1)) := by rw [ex66]; exact nI_1 k
              have q3 : x65 = (allowedN x f d (k + 1)) := by simp only [hw7, hw19, ex28, ex30, ev35, hw47, ex65, ex66, allowedN, itN_s, c38, c50, not_true_eq_false, not_false_eq_true, and_true, true_and, and_false, false_and, and_self, if_true, if_false, ite_true, ite_false, ↓reduceIte, Int32.add_zero, Bool.not_eq_false, Bool.and_true, Bool.true_and, Bool.and_false, Bool.false_and, Bool.false_eq_true, Bool.true_eq_false]
              rw [q4, q3] at hl
              exact ih32 (k + 1) (by omega) (by omega) _ _ hP hD hS ls (lv_sub hl [0, 1, 2, 3, 4] rfl)
            · skip
              simp only [hw47, bI_0, bI_1, Bool.not_eq_false] at c50
              refine lv_aload_n hx hb dX12_allowed_53 rfl (lv_at hl 2 rfl) ?_
              refine M_get hx hb hts hin hown hK hP 24 (by decide) rfl (index := 62) (by decide +kernel) rfl dX12_allowed_54 ?_
              refine lv_iload hx hb dX12_allowed_57 (lv_at hl 0 rfl) ?_
              have h59 : vp_in ((nI k)) 100 := by exact vp_in_nI (by omega) (by decide)
              refine va_iald hx hb hK hP 18 0 rfl rfl h59 dX12_allowed_59 ?_
              refine lv_topi (fun v59 ev59 => ?_)
              rw [nI_clamp (by omega)] at ev59
              refine lv_goto (tgt := 64) hx hb dX12_allowed_60 (by decide) ?_
              refine lv_iadd hx hb dX12_allowed_64 ?_
              refine lv_topi (fun x65 ex65 => ?_)
              refine lv_istore_n (lv' := [(3, .int x65), (4, .int (nI k)), (0, .ref (ad 0)), (1, .int f), (2, .int d)]) hx hb dX12_allowed_65 rfl hl (by decide) rfl (fun ls hl => ?_)
              obtain ⟨x66, ex66⟩ : ∃ y : Int32, y = (nI k) + 1 := ⟨_, rfl⟩
              refine lv_iinc (v := x66) (lv' := [(4, .int x66), (3, .int x65), (0, .ref (ad 0)), (1, .int f), (2, .int d)]) hx hb dX12_allowed_66 hl (k := 1) rfl (by rw [ex66]; rfl) (by decide) rfl (fun ls hl => ?_)
              refine lv_goto (tgt := 32) hx hb dX12_allowed_69 (by decide) ?_
              have q4 : x66 = (nI (k + 1)) := by rw [ex66]; exact nI_1 k
              have q3 : x65 = (allowedN x f d (k + 1)) := by simp only [hw7, hw19, ex28, ex30, ev35, hw47, ev59, ex65, ex66, allowedN, itN_s, c38, c50, not_true_eq_false, not_false_eq_true, and_true, true_and, and_false, false_and, and_self, if_true, if_false, ite_true, ite_false, ↓reduceIte, Int32.add_zero, Bool.not_eq_false, Bool.and_true, Bool.true_and, Bool.and_false, Bool.false_and, Bool.false_eq_true, Bool.true_eq_false]
              rw [q4, q3] at hl
              exact ih32 (k + 1) (by omega) (by omega) _ _ hP hD hS ls (lv_sub hl [0, 1, 2, 3, 4] rfl)
      have q4 : x30 = (nI 0) := by rw [ex30]; exact nI_0.symm
      have q3 : x28 = (allowedN x f d 0) := by rw [ex28]; rfl
      rw [q4, q3] at hl
      exact lp32 (nN x 20 + 1) 0 (by omega) (by omega) _ _ hP hD hS ls (lv_sub hl [0, 1, 2, 3, 4] rfl)
    · skip
      simp only [hw19, bI_0, bI_1, Bool.not_eq_false] at c22
      refine lv_iconst (v := -1) hx hb dX12_allowed_25 (by decide) ?_
      refine M_iret (v := (-1 : Int32)) hx hb hr hlocks hK hP hD hS dX12_allowed_26 ?_
      simp only [hw7, hw19, c10, c22, not_true_eq_false, not_false_eq_true, and_true, true_and, and_false, false_and, and_self, if_true, if_false, ite_true, ite_false, ↓reduceIte, Int32.add_zero, Bool.not_eq_false, Bool.and_true, Bool.true_and, Bool.and_false, Bool.false_and, Bool.false_eq_true, Bool.true_eq_false]

set_option maxHeartbeats 4000000 in
set_option maxRecDepth 100000 in
theorem c_needOf (l : Launch) (D : va_G) (cI cJ : ClassId) (ad : Nat → Nat) (x : MS) (f : Int32) (d : Int32) (hf : vp_in f 40) (h25 : okN x 25 30) : Mi l yX12_needOf wsX12_needOf { frames := 0, cells := 0, slots := 0, locals := 0 } D cI cJ ad [.int f, .int d] x (fun r y => y = x ∧ r = needN x (mA x 18 f.toNatClampNeg) d (nN x 25)) := by
  have hN := h25.1
  have hN2 := h25.2
  refine Mi_of (cc := cX12_needOf) (nL := 5) (ret := (some .int)) (by decide) rfl rfl (Nat.le_of_ble_eq_true rfl) ?_
  intro p e s m args below meth c A hx hb hr hlocks hml hts hown hA hK hP hD hS ls hl
  have hin : ∀ w ∈ wsX120, w ∈ wsX12_needOf := fun w h => List.mem_cons_of_mem _ (List.mem_append_right _ h)
  have hl : lv_has ls 5 [(0, .ref (ad 0)), (1, .int f), (2, .int d)] := hl
  refine lv_iconst (v := 0) hx hb dX12_needOf_0 (by decide) ?_
  refine lv_topi (fun x1 ex1 => ?_)
  refine lv_istore_n (lv' := [(3, .int x1), (0, .ref (ad 0)), (1, .int f), (2, .int d)]) hx hb dX12_needOf_1 rfl hl (by decide) rfl (fun ls hl => ?_)
  refine lv_iconst (v := 0) hx hb dX12_needOf_2 (by decide) ?_
  refine lv_topi (fun x3 ex3 => ?_)
  refine lv_istore (lv' := [(4, .int x3), (3, .int x1), (0, .ref (ad 0)), (1, .int f), (2, .int d)]) hx hb dX12_needOf_3 hl (by decide) rfl (fun ls hl => ?_)
  have lp5 : ∀ (n : Nat) (k : Nat), (nN x 25 < k + n) → (k ≤ nN x 25) → ∀ (H : Heap) (locs : List Loc), va_P D vwCl (wsM cI cJ ad x) H → va_D A (wsM cI cJ ad x) → va_S A s.heap H locs → ∀ ls : Array Slot, lv_has ls 5 [(4, .int (nI k)), (3, .int (needN x (mA x 18 f.toNatClampNeg) d k)), (0, .ref (ad 0)), (1, .int f), (2, .int d)] → W p l e { frames := 0, cells := 0, slots := 0, locals := 0 } s m args below meth c H locs 0 0 (MQ below (va_Qi (fun r y => y = x ∧ r = needN x (mA x 18 f.toNatClampNeg) d (nN x 25)) (mAft D cI cJ ad A) A) args s 0 0 A) (F0 m 5 ls []) := by
    intro n
    induction n with
    | zero => intro k hn hk; exact absurd hn (by omega)
    | succ n ih5 =>
      intro k hn hk H locs hP hD hS ls hl
      refine lv_iload hx hb dX12_needOf_5 (lv_at hl 0 rfl) ?_
      refine lv_aload_n hx hb dX12_needOf_7 rfl (lv_at hl 2 rfl) ?_
      refine M_get hx hb hts hin hown hK hP 25 (by decide) rfl (index := 216) (by decide +kernel) rfl dX12_needOf_8 ?_
      refine lv_topi (fun v8 ev8 => ?_)
      refine lv_icmp_ge (tgt := 78) hx hb dX12_needOf_11 (by decide) (fun c11 => ?_) (fun c11 => ?_)
      · skip
        simp only [ev8] at c11
        have hkN : k = nN x 25 := by rw [hN] at c11; have := (nI_leI (by omega) (by omega)).mp c11; omega
        refine lv_iload_n hx hb dX12_needOf_78 rfl (lv_at hl 1 rfl) ?_
        refine M_iret (v := (needN x (mA x 18 f.toNatClampNeg) d k)) hx hb hr hlocks hK hP hD hS dX12_needOf_79 ?_
        simp only [hkN, not_true_eq_false, not_false_eq_true, and_true, true_and, and_false, false_and, and_self, if_true, if_false, ite_true, ite_false, ↓reduceIte, Int32.add_zero, Bool.not_eq_false, Bool.and_true, Bool.true_and, Bool.and_false, Bool.false_and, Bool.false_eq_true, Bool.true_eq_false]
      · skip
        simp only [ev8] at c11
        have hkN : k < nN x 25 := by
          rw [hN] at c11
          rcases Nat.lt_or_ge k (nN x 25) with q | q
          · exact q
          · exact absurd (nI_le q (by omega)) c11
        refine lv_iload_n hx hb dX12_needOf_14 rfl (lv_at hl 1 rfl) ?_
        refine lv_aload_n hx hb dX12_needOf_15 rfl (lv_at hl 2 rfl) ?_
        refine M_get hx hb hts hin hown hK hP 26 (by decide) rfl (index := 65) (by decide +kernel) rfl dX12_needOf_16 ?_
        refine lv_iload hx hb dX12_needOf_19 (lv_at hl 0 rfl) ?_
        have h21 : vp_in ((nI k)) 30 := by exact vp_in_nI (by omega) (by decide)
        refine va_iald hx hb hK hP 19 0 rfl rfl h21 dX12_needOf_21 ?_
        refine lv_topi (fun v21 ev21 => ?_)
        rw [nI_clamp (by omega)] at ev21
        refine lv_if_ne (tgt := 69) hx hb dX12_needOf_22 (by decide) (fun c22 => ?_) (fun c22 => ?_)
        · skip
          simp only [ev21] at c22
          refine lv_iconst (v := 0) hx hb dX12_needOf_69 (by decide) ?_
          refine lv_iadd hx hb dX12_needOf_70 ?_
          refine lv_topi (fun x71 ex71 => ?_)
          refine lv_istore_n (lv' := [(3, .int x71), (4, .int (nI k)), (0, .ref (ad 0)), (1, .int f), (2, .int d)]) hx hb dX12_needOf_71 rfl hl (by decide) rfl (fun ls hl => ?_)
          obtain ⟨x72, ex72⟩ : ∃ y : Int32, y = (nI k) + 1 := ⟨_, rfl⟩
          refine lv_iinc (v := x72) (lv' := [(4, .int x72), (3, .int x71), (0, .ref (ad 0)), (1, .int f), (2, .int d)]) hx hb dX12_needOf_72 hl (k := 1) rfl (by rw [ex72]; rfl) (by decide) rfl (fun ls hl => ?_)
          refine lv_goto (tgt := 5) hx hb dX12_needOf_75 (by decide) ?_
          have q4 : x72 = (nI (k + 1)) := by rw [ex72]; exact nI_1 k
          have q3 : x71 = (needN x (mA x 18 f.toNatClampNeg) d (k + 1)) := by simp only [ex1, ex3, ev8, ev21, ex71, ex72, needN, itN_s, c11, c22, not_true_eq_false, not_false_eq_true, and_true, true_and, and_false, false_and, and_self, if_true, if_false, ite_true, ite_false, ↓reduceIte, Int32.add_zero, Bool.not_eq_false, Bool.and_true, Bool.true_and, Bool.and_false, Bool.false_and, Bool.false_eq_true, Bool.true_eq_false]
          rw [q4, q3] at hl
          exact ih5 (k + 1) (by omega) (by omega) _ _ hP hD hS ls (lv_sub hl [0, 1, 2, 3, 4] rfl)
        · skip
          simp only [ev21] at c22
          refine lv_aload_n hx hb dX12_needOf_25 rfl (lv_at hl 2 rfl) ?_
          refine M_get hx hb hts hin hown hK hP 27 (by decide) rfl (index := 68) (by decide +kernel) rfl dX12_needOf_26 ?_
          refine lv_iload hx hb dX12_needOf_29 (lv_at hl 0 rfl) ?_
          have h31 : vp_in ((nI k)) 30 := by exact vp_in_nI (by omega) (by decide)
          refine va_iald hx hb hK hP 20 0 rfl rfl h31 dX12_needOf_31 ?_
          refine lv_topi (fun v31 ev31 => ?_)
          rw [nI_clamp (by omega)] at ev31
          refine lv_iload_n hx hb dX12_needOf_32 rfl (lv_at hl 4 rfl) ?_
          refine lv_icmp_ne (tgt := 69) hx hb dX12_needOf_33 (by decide) (fun c33 => ?_) (fun c33 => ?_)
          · skip
            simp only [ev31] at c33
            refine lv_iconst (v := 0) hx hb dX12_needOf_69 (by decide) ?_
            refine lv_iadd hx hb dX12_needOf_70 ?_
            refine lv_topi (fun x71 ex71 => ?_)
            refine lv_istore_n (lv' := [(3, .int x71), (4, .int (nI k)), (0, .ref (ad 0)), (1, .int f), (2, .int d)]) hx hb dX12_needOf_71 rfl hl (by decide) rfl (fun ls hl => ?_)
            obtain ⟨x72, ex72⟩ : ∃ y : Int32, y = (nI k) + 1 := ⟨_, rfl⟩
            refine lv_iinc (v := x72) (lv' := [(4, .int x72), (3, .int x71), (0, .ref (ad 0)), (1, .int f), (2, .int d)]) hx hb dX12_needOf_72 hl (k := 1) rfl (by rw [ex72]; rfl) (by decide) rfl (fun ls hl => ?_)
            refine lv_goto (tgt := 5) hx hb dX12_needOf_75 (by decide) ?_
            have q4 : x72 = (nI (k + 1)) := by rw [ex72]; exact nI_1 k
            have q3 : x71 = (needN x (mA x 18 f.toNatClampNeg) d (k + 1)) := by simp only [ex1, ex3, ev8, ev21, ev31, ex71, ex72, needN, itN_s, c11, c22, c33, not_true_eq_false, not_false_eq_true, and_true, true_and, and_false, false_and, and_self, if_true, if_false, ite_true, ite_false, ↓reduceIte, Int32.add_zero, Bool.not_eq_false, Bool.and_true, Bool.true_and, Bool.and_false, Bool.false_and, Bool.false_eq_true, Bool.true_eq_false]
            rw [q4, q3] at hl
            exact ih5 (k + 1) (by omega) (by omega) _ _ hP hD hS ls (lv_sub hl [0, 1, 2, 3, 4] rfl)
          · skip
            simp only [ev31] at c33
            refine lv_aload_n hx hb dX12_needOf_36 rfl (lv_at hl 2 rfl) ?_
            refine M_get hx hb hts hin hown hK hP 18 (by decide) rfl (index := 47) (by decide +kernel) rfl dX12_needOf_37 ?_
            refine lv_iload_n hx hb dX12_needOf_40 rfl (lv_at hl 3 rfl) ?_
            have h41 : vp_in f 40 := by exact hf
            refine va_iald hx hb hK hP 13 0 rfl rfl h41 dX12_needOf_41 ?_
            refine lv_topi (fun v41 ev41 => ?_)
            refine lv_aload_n hx hb dX12_needOf_42 rfl (lv_at hl 2 rfl) ?_
            refine M_get hx hb hts hin hown hK hP 29 (by decide) rfl (index := 74) (by decide +kernel) rfl dX12_needOf_43 ?_
            refine lv_iload hx hb dX12_needOf_46 (lv_at hl 0 rfl) ?_
            have h48 : vp_in ((nI k)) 30 := by exact vp_in_nI (by omega) (by decide)
            refine va_iald hx hb hK hP 22 0 rfl rfl h48 dX12_needOf_48 ?_
            refine lv_topi (fun v48 ev48 => ?_)
            rw [nI_clamp (by omega)] at ev48
            refine lv_icmp_le (tgt := 69) hx hb dX12_needOf_49 (by decide) (fun c49 => ?_) (fun c49 => ?_)
            · skip
              simp only [ev48, ev41] at c49
              refine lv_iconst (v := 0) hx hb dX12_needOf_69 (by decide) ?_
              refine lv_iadd hx hb dX12_needOf_70 ?_
              refine lv_topi (fun x71 ex71 => ?_)
              refine lv_istore_n (lv' := [(3, .int x71), (4, .int (nI k)), (0, .ref (ad 0)), (1, .int f), (2, .int d)]) hx hb dX12_needOf_71 rfl hl (by decide) rfl (fun ls hl => ?_)
              obtain ⟨x72, ex72⟩ : ∃ y : Int32, y = (nI k) + 1 := ⟨_, rfl⟩
              refine lv_iinc (v := x72) (lv' := [(4, .int x72), (3, .int x71), (0, .ref (ad 0)), (1, .int f), (2, .int d)]) hx hb dX12_needOf_72 hl (k := 1) rfl (by rw [ex72]; rfl) (by decide) rfl (fun ls hl => ?_)
              refine lv_goto (tgt := 5) hx hb dX12_needOf_75 (by decide) ?_
              have q4 : x72 = (nI (k + 1)) := by rw [ex72]; exact nI_1 k
              have q3 : x71 = (needN x (mA x 18 f.toNatClampNeg) d (k + 1)) := by simp only [ex1, ex3, ev8, ev21, ev31, ev41, ev48, ex71, ex72, needN, itN_s, c11, c22, c33, c49, not_true_eq_false, not_false_eq_true, and_true, true_and, and_false, false_and, and_self, if_true, if_false, ite_true, ite_false, ↓reduceIte, Int32.add_zero, Bool.not_eq_false, Bool.and_true, Bool.true_and, Bool.and_false, Bool.false_and, Bool.false_eq_true, Bool.true_eq_false]
              rw [q4, q3] at hl
              exact ih5 (k + 1) (by omega) (by omega) _ _ hP hD hS ls (lv_sub hl [0, 1, 2, 3, 4] rfl)
            · skip
              simp only [ev48, ev41] at c49
              refine lv_aload_n hx hb dX12_needOf_52 rfl (lv_at hl 2 rfl) ?_
              refine M_get hx hb hts hin hown hK hP 28 (by decide) rfl (index := 71) (by decide +kernel) rfl dX12_needOf_53 ?_
              refine lv_iload hx hb dX12_needOf_56 (lv_at hl 0 rfl) ?_
              have h58 : vp_in ((nI k)) 30 := by exact vp_in_nI (by omega) (by decide)
              refine va_iald hx hb hK hP 21 0 rfl rfl h58 dX12_needOf_58 ?_
              refine lv_topi (fun v58 ev58 => ?_)
              rw [nI_clamp (by omega)] at ev58
              refine lv_aload_n hx hb dX12_needOf_59 rfl (lv_at hl 2 rfl) ?_
              refine M_get hx hb hts hin hown hK hP 18 (by decide) rfl (index := 47) (by decide +kernel) rfl dX12_needOf_60 ?_
              refine lv_iload_n hx hb dX12_needOf_63 rfl (lv_at hl 3 rfl) ?_
              have h64 : vp_in f 40 := by exact hf
              refine va_iald hx hb hK hP 13 0 rfl rfl h64 dX12_needOf_64 ?_
              refine lv_topi (fun v64 ev64 => ?_)
              refine lv_imul hx hb dX12_needOf_65 ?_
              refine lv_goto (tgt := 70) hx hb dX12_needOf_66 (by decide) ?_
              refine lv_iadd hx hb dX12_needOf_70 ?_
              refine lv_topi (fun x71 ex71 => ?_)
              refine lv_istore_n (lv' := [(3, .int x71), (4, .int (nI k)), (0, .ref (ad 0)), (1, .int f), (2, .int d)]) hx hb dX12_needOf_71 rfl hl (by decide) rfl (fun ls hl => ?_)
              obtain ⟨x72, ex72⟩ : ∃ y : Int32, y = (nI k) + 1 := ⟨_, rfl⟩
              refine lv_iinc (v := x72) (lv' := [(4, .int x72), (3, .int x71), (0, .ref (ad 0)), (1, .int f), (2, .int d)]) hx hb dX12_needOf_72 hl (k := 1) rfl (by rw [ex72]; rfl) (by decide) rfl (fun ls hl => ?_)
              refine lv_goto (tgt := 5) hx hb dX12_needOf_75 (by decide) ?_
              have q4 : x72 = (nI (k + 1)) := by rw [ex72]; exact nI_1 k
              have q3 : x71 = (needN x (mA x 18 f.toNatClampNeg) d (k + 1)) := by simp only [ex1, ex3, ev8, ev21, ev31, ev41, ev48, ev58, ev64, ex71, ex72, needN, itN_s, c11, c22, c33, c49, not_true_eq_false, not_false_eq_true, and_true, true_and, and_false, false_and, and_self, if_true, if_false, ite_true, ite_false, ↓reduceIte, Int32.add_zero, Bool.not_eq_false, Bool.and_true, Bool.true_and, Bool.and_false, Bool.false_and, Bool.false_eq_true, Bool.true_eq_false]
              rw [q4, q3] at hl
              exact ih5 (k + 1) (by omega) (by omega) _ _ hP hD hS ls (lv_sub hl [0, 1, 2, 3, 4] rfl)
  have q4 : x3 = (nI 0) := by rw [ex3]; exact nI_0.symm
  have q3 : x1 = (needN x (mA x 18 f.toNatClampNeg) d 0) := by rw [ex1]; rfl
  rw [q4, q3] at hl
  exact lp5 (nN x 25 + 1) 0 (by omega) (by omega) _ _ hP hD hS ls (lv_sub hl [0, 1, 2, 3, 4] rfl)

set_option maxHeartbeats 4000000 in
set_option maxRecDepth 100000 in
theorem c_sparedOf (l : Launch) (D : va_G) (cI cJ : ClassId) (ad : Nat → Nat) (x : MS) (d : Int32) (h25 : okN x 25 30) : Mi l yX12_sparedOf wsX12_sparedOf { frames := 0, cells := 0, slots := 0, locals := 0 } D cI cJ ad [.int d] x (fun r y => y = x ∧ r = spareN x d (nN x 25)) := by
  have hN := h25.1
  have hN2 := h25.2
  refine Mi_of (cc := cX12_sparedOf) (nL := 4) (ret := (some .int)) (by decide) rfl rfl (Nat.le_of_ble_eq_true rfl) ?_
  intro p e s m args below meth c A hx hb hr hlocks hml hts hown hA hK hP hD hS ls hl
  have hin : ∀ w ∈ wsX120, w ∈ wsX12_sparedOf := fun w h => List.mem_cons_of_mem _ (List.mem_append_right _ h)
  have hl : lv_has ls 4 [(0, .ref (ad 0)), (1, .int d)] := hl
  refine lv_iconst (v := 0) hx hb dX12_sparedOf_0 (by decide) ?_
  refine lv_topi (fun x1 ex1 => ?_)
  refine lv_istore_n (lv' := [(2, .int x1), (0, .ref (ad 0)), (1, .int d)]) hx hb dX12_sparedOf_1 rfl hl (by decide) rfl (fun ls hl => ?_)
  refine lv_iconst (v := 0) hx hb dX12_sparedOf_2 (by decide) ?_
  refine lv_topi (fun x3 ex3 => ?_)
  refine lv_istore_n (lv' := [(3, .int x3), (2, .int x1), (0, .ref (ad 0)), (1, .int d)]) hx hb dX12_sparedOf_3 rfl hl (by decide) rfl (fun ls hl => ?_)
  have lp4 : ∀ (n : Nat) (k : Nat), (nN x 25 < k + n) → (k ≤ nN x 25) → ∀ (H : Heap) (locs : List Loc), va_P D vwCl (wsM cI cJ ad x) H → va_D A (wsM cI cJ ad x) → va_S A s.heap H locs → ∀ ls : Array Slot, lv_has ls 4 [(3, .int (nI k)), (2, .int (spareN x d k)), (0, .ref (ad 0)), (1, .int d)] → W p l e { frames := 0, cells := 0, slots := 0, locals := 0 } s m args below meth c H locs 0 0 (MQ below (va_Qi (fun r y => y = x ∧ r = spareN x d (nN x 25)) (mAft D cI cJ ad A) A) args s 0 0 A) (F0 m 4 ls []) := by
    intro n
    induction n with
    | zero => intro k hn hk; exact absurd hn (by omega)
    | succ n ih4 =>
      intro k hn hk H locs hP hD hS ls hl
      refine lv_iload_n hx hb dX12_sparedOf_4 rfl (lv_at hl 0 rfl) ?_
      refine lv_aload_n hx hb dX12_sparedOf_5 rfl (lv_at hl 2 rfl) ?_
      refine M_get hx hb hts hin hown hK hP 25 (by decide) rfl (index := 216) (by decide +kernel) rfl dX12_sparedOf_6 ?_
      refine lv_topi (fun v6 ev6 => ?_)
      refine lv_icmp_ge (tgt := 59) hx hb dX12_sparedOf_9 (by decide) (fun c9 => ?_) (fun c9 => ?_)
      · skip
        simp only [ev6] at c9
        have hkN : k = nN x 25 := by rw [hN] at c9; have := (nI_leI (by omega) (by omega)).mp c9; omega
        refine lv_iload_n hx hb dX12_sparedOf_59 rfl (lv_at hl 1 rfl) ?_
        refine M_iret (v := (spareN x d k)) hx hb hr hlocks hK hP hD hS dX12_sparedOf_60 ?_
        simp only [hkN, not_true_eq_false, not_false_eq_true, and_true, true_and, and_false, false_and, and_self, if_true, if_false, ite_true, ite_false, ↓reduceIte, Int32.add_zero, Bool.not_eq_false, Bool.and_true, Bool.true_and, Bool.and_false, Bool.false_and, Bool.false_eq_true, Bool.true_eq_false]
      · skip
        simp only [ev6] at c9
        have hkN : k < nN x 25 := by
          rw [hN] at c9
          rcases Nat.lt_or_ge k (nN x 25) with q | q
          · exact q
          · exact absurd (nI_le q (by omega)) c9
        refine lv_aload_n hx hb dX12_sparedOf_12 rfl (lv_at hl 2 rfl) ?_
        refine M_get hx hb hts hin hown hK hP 26 (by decide) rfl (index := 65) (by decide +kernel) rfl dX12_sparedOf_13 ?_
        refine lv_iload_n hx hb dX12_sparedOf_16 rfl (lv_at hl 0 rfl) ?_
        have h17 : vp_in ((nI k)) 30 := by exact vp_in_nI (by omega) (by decide)
        refine va_iald hx hb hK hP 19 0 rfl rfl h17 dX12_sparedOf_17 ?_
        refine lv_topi (fun v17 ev17 => ?_)
        rw [nI_clamp (by omega)] at ev17
        refine lv_iconst (v := 1) hx hb dX12_sparedOf_18 (by decide) ?_
        refine lv_icmp_ne (tgt := 51) hx hb dX12_sparedOf_19 (by decide) (fun c19 => ?_) (fun c19 => ?_)
        · skip
          simp only [ev17] at c19
          refine lv_iload_n hx hb dX12_sparedOf_51 rfl (lv_at hl 1 rfl) ?_
          refine lv_topi (fun x52 ex52 => ?_)
          refine lv_istore_n (lv' := [(2, .int x52), (3, .int (nI k)), (0, .ref (ad 0)), (1, .int d)]) hx hb dX12_sparedOf_52 rfl hl (by decide) rfl (fun ls hl => ?_)
          obtain ⟨x53, ex53⟩ : ∃ y : Int32, y = (nI k) + 1 := ⟨_, rfl⟩
          refine lv_iinc (v := x53) (lv' := [(3, .int x53), (2, .int x52), (0, .ref (ad 0)), (1, .int d)]) hx hb dX12_sparedOf_53 hl (k := 1) rfl (by rw [ex53]; rfl) (by decide) rfl (fun ls hl => ?_)
          refine lv_goto (tgt := 4) hx hb dX12_sparedOf_56 (by decide) ?_
          have q3 : x53 = (nI (k + 1)) := by rw [ex53]; exact nI_1 k
          have q2 : x52 = (spareN x d (k + 1)) := by simp only [ex1, ex3, ev6, ev17, ex52, ex53, spareN, itN_s] at *; simp only [c9, c19, not_true_eq_false, not_false_eq_true, and_true, true_and, and_false, false_and, and_self, if_true, if_false, ite_true, ite_false, ↓reduceIte, Int32.add_zero, Bool.not_eq_false, Bool.and_true, Bool.true_and, Bool.and_false, Bool.false_and, Bool.false_eq_true, Bool.true_eq_false]
          rw [q3, q2] at hl
          exact ih4 (k + 1) (by omega) (by omega) _ _ hP hD hS ls (lv_sub hl [0, 1, 2, 3] rfl)
        · skip
          simp only [ev17] at c19
          refine lv_aload_n hx hb dX12_sparedOf_22 rfl (lv_at hl 2 rfl) ?_
          refine M_get hx hb hts hin hown hK hP 27 (by decide) rfl (index := 68) (by decide +kernel) rfl dX12_sparedOf_23 ?_
          refine lv_iload_n hx hb dX12_sparedOf_26 rfl (lv_at hl 0 rfl) ?_
          have h27 : vp_in ((nI k)) 30 := by exact vp_in_nI (by omega) (by decide)
          refine va_iald hx hb hK hP 20 0 rfl rfl h27 dX12_sparedOf_27 ?_
          refine lv_topi (fun v27 ev27 => ?_)
          rw [nI_clamp (by omega)] at ev27
          refine lv_iload_n hx hb dX12_sparedOf_28 rfl (lv_at hl 3 rfl) ?_
          refine lv_icmp_ne (tgt := 51) hx hb dX12_sparedOf_29 (by decide) (fun c29 => ?_) (fun c29 => ?_)
          · skip
            simp only [ev27] at c29
            refine lv_iload_n hx hb dX12_sparedOf_51 rfl (lv_at hl 1 rfl) ?_
            refine lv_topi (fun x52 ex52 => ?_)
            refine lv_istore_n (lv' := [(2, .int x52), (3, .int (nI k)), (0, .ref (ad 0)), (1, .int d)]) hx hb dX12_sparedOf_52 rfl hl (by decide) rfl (fun ls hl => ?_)
            obtain ⟨x53, ex53⟩ : ∃ y : Int32, y = (nI k) + 1 := ⟨_, rfl⟩
            refine lv_iinc (v := x53) (lv' := [(3, .int x53), (2, .int x52), (0, .ref (ad 0)), (1, .int d)]) hx hb dX12_sparedOf_53 hl (k := 1) rfl (by rw [ex53]; rfl) (by decide) rfl (fun ls hl => ?_)
            refine lv_goto (tgt := 4) hx hb dX12_sparedOf_56 (by decide) ?_
            have q3 : x53 = (nI (k + 1)) := by rw [ex53]; exact nI_1 k
            have q2 : x52 = (spareN x d (k + 1)) := by simp only [ex1, ex3, ev6, ev17, ev27, ex52, ex53, spareN, itN_s] at *; simp only [c9, c19, c29, not_true_eq_false, not_false_eq_true, and_true, true_and, and_false, false_and, and_self, if_true, if_false, ite_true, ite_false, ↓reduceIte, Int32.add_zero, Bool.not_eq_false, Bool.and_true, Bool.true_and, Bool.and_false, Bool.false_and, Bool.false_eq_true, Bool.true_eq_false]
            rw [q3, q2] at hl
            exact ih4 (k + 1) (by omega) (by omega) _ _ hP hD hS ls (lv_sub hl [0, 1, 2, 3] rfl)
          · skip
            simp only [ev27] at c29
            refine lv_aload_n hx hb dX12_sparedOf_32 rfl (lv_at hl 2 rfl) ?_
            refine M_get hx hb hts hin hown hK hP 28 (by decide) rfl (index := 71) (by decide +kernel) rfl dX12_sparedOf_33 ?_
            refine lv_iload_n hx hb dX12_sparedOf_36 rfl (lv_at hl 0 rfl) ?_
            have h37 : vp_in ((nI k)) 30 := by exact vp_in_nI (by omega) (by decide)
            refine va_iald hx hb hK hP 21 0 rfl rfl h37 dX12_sparedOf_37 ?_
            refine lv_topi (fun v37 ev37 => ?_)
            rw [nI_clamp (by omega)] at ev37
            refine lv_iload_n hx hb dX12_sparedOf_38 rfl (lv_at hl 1 rfl) ?_
            refine lv_icmp_le (tgt := 51) hx hb dX12_sparedOf_39 (by decide) (fun c39 => ?_) (fun c39 => ?_)
            · skip
              simp only [ev37] at c39
              refine lv_iload_n hx hb dX12_sparedOf_51 rfl (lv_at hl 1 rfl) ?_
              refine lv_topi (fun x52 ex52 => ?_)
              refine lv_istore_n (lv' := [(2, .int x52), (3, .int (nI k)), (0, .ref (ad 0)), (1, .int d)]) hx hb dX12_sparedOf_52 rfl hl (by decide) rfl (fun ls hl => ?_)
              obtain ⟨x53, ex53⟩ : ∃ y : Int32, y = (nI k) + 1 := ⟨_, rfl⟩
              refine lv_iinc (v := x53) (lv' := [(3, .int x53), (2, .int x52), (0, .ref (ad 0)), (1, .int d)]) hx hb dX12_sparedOf_53 hl (k := 1) rfl (by rw [ex53]; rfl) (by decide) rfl (fun ls hl => ?_)
              refine lv_goto (tgt := 4) hx hb dX12_sparedOf_56 (by decide) ?_
              have q3 : x53 = (nI (k + 1)) := by rw [ex53]; exact nI_1 k
              have q2 : x52 = (spareN x d (k + 1)) := by simp only [ex1, ex3, ev6, ev17, ev27, ev37, ex52, ex53, spareN, itN_s] at *; simp only [c9, c19, c29, c39, not_true_eq_false, not_false_eq_true, and_true, true_and, and_false, false_and, and_self, if_true, if_false, ite_true, ite_false, ↓reduceIte, Int32.add_zero, Bool.not_eq_false, Bool.and_true, Bool.true_and, Bool.and_false, Bool.false_and, Bool.false_eq_true, Bool.true_eq_false]
              rw [q3, q2] at hl
              exact ih4 (k + 1) (by omega) (by omega) _ _ hP hD hS ls (lv_sub hl [0, 1, 2, 3] rfl)
            · skip
              simp only [ev37] at c39
              refine lv_aload_n hx hb dX12_sparedOf_42 rfl (lv_at hl 2 rfl) ?_
              refine M_get hx hb hts hin hown hK hP 28 (by decide) rfl (index := 71) (by decide +kernel) rfl dX12_sparedOf_43 ?_
              refine lv_iload_n hx hb dX12_sparedOf_46 rfl (lv_at hl 0 rfl) ?_
              have h47 : vp_in ((nI k)) 30 := by exact vp_in_nI (by omega) (by decide)
              refine va_iald hx hb hK hP 21 0 rfl rfl h47 dX12_sparedOf_47 ?_
              refine lv_topi (fun v47 ev47 => ?_)
              rw [nI_clamp (by omega)] at ev47
              refine lv_goto (tgt := 52) hx hb dX12_sparedOf_48 (by decide) ?_
              refine lv_topi (fun x52 ex52 => ?_)
              refine lv_istore_n (lv' := [(2, .int x52), (3, .int (nI k)), (0, .ref (ad 0)), (1, .int d)]) hx hb dX12_sparedOf_52 rfl hl (by decide) rfl (fun ls hl => ?_)
              obtain ⟨x53, ex53⟩ : ∃ y : Int32, y = (nI k) + 1 := ⟨_, rfl⟩
              refine lv_iinc (v := x53) (lv' := [(3, .int x53), (2, .int x52), (0, .ref (ad 0)), (1, .int d)]) hx hb dX12_sparedOf_53 hl (k := 1) rfl (by rw [ex53]; rfl) (by decide) rfl (fun ls hl => ?_)
              refine lv_goto (tgt := 4) hx hb dX12_sparedOf_56 (by decide) ?_
              have q3 : x53 = (nI (k + 1)) := by rw [ex53]; exact nI_1 k
              have q2 : x52 = (spareN x d (k + 1)) := by simp only [ex1, ex3, ev6, ev17, ev27, ev37, ev47, ex52, ex53, spareN, itN_s] at *; simp only [c9, c19, c29, c39, not_true_eq_false, not_false_eq_true, and_true, true_and, and_false, false_and, and_self, if_true, if_false, ite_true, ite_false, ↓reduceIte, Int32.add_zero, Bool.not_eq_false, Bool.and_true, Bool.true_and, Bool.and_false, Bool.false_and, Bool.false_eq_true, Bool.true_eq_false]
              rw [q3, q2] at hl
              exact ih4 (k + 1) (by omega) (by omega) _ _ hP hD hS ls (lv_sub hl [0, 1, 2, 3] rfl)
  have q3 : x3 = (nI 0) := by rw [ex3]; exact nI_0.symm
  have q2 : x1 = (spareN x d 0) := by rw [ex1]; rfl
  rw [q3, q2] at hl
  exact lp4 (nN x 25 + 1) 0 (by omega) (by omega) _ _ hP hD hS ls (lv_sub hl [0, 1, 2, 3] rfl)
