/-! ArrayList: its members over the class's world; r: which of the five lists (lots, tables, families, parcels, lines) -/
def wQ (S : CS) (k a : Nat) (f : Nat → Option Nat) : CS := (nx S, cL S, cD S, cN S, cI S, cR S, cA S, set1 (cQ S) k (set1 (cQ S k) a f))
theorem nx_wQ (S : CS) (k a : Nat) (f : Nat → Option Nat) : nx (wQ S k a f) = nx S := rfl
theorem cL_wQ (S : CS) (k a : Nat) (f : Nat → Option Nat) : cL (wQ S k a f) = cL S := rfl
theorem cD_wQ (S : CS) (k a : Nat) (f : Nat → Option Nat) : cD (wQ S k a f) = cD S := rfl
theorem cN_wQ (S : CS) (k a : Nat) (f : Nat → Option Nat) : cN (wQ S k a f) = cN S := rfl
theorem cI_wQ (S : CS) (k a : Nat) (f : Nat → Option Nat) : cI (wQ S k a f) = cI S := rfl
theorem cR_wQ (S : CS) (k a : Nat) (f : Nat → Option Nat) : cR (wQ S k a f) = cR S := rfl
theorem cA_wQ (S : CS) (k a : Nat) (f : Nat → Option Nat) : cA (wQ S k a f) = cA S := rfl
theorem cQ_wQ (S : CS) (k a : Nat) (f : Nat → Option Nat) : cQ (wQ S k a f) = set1 (cQ S) k (set1 (cQ S k) a f) := rfl
theorem off_wQ {cc : Nat → ClassId} {S : CS} {k a : Nat} {f : Nat → Option Nat} {b : Nat} (h : b ≠ a) : cellOf cc (wQ S k a f) b = cellOf cc S b := cellOf_cong rfl rfl (fun _ => rfl) (fun _ => rfl) (fun _ => rfl) (fun j => by rw [cQ_wQ]; by_cases e : j = k <;> simp [set1, e, h])
/-- the kind of a list's elements, their class -/
def elk (r : Nat) : Nat := match r with | 0 => 3 | 1 => 9 | 2 => 1 | 3 => 4 | _ => 2
def elC (r : Nat) : String := match r with | 0 => RX2 | 1 => RX8 | 2 => RX0 | 3 => RX3 | _ => RX1
def gM (r : Nat) : Nat := 20 * (20 + r)
def gE (r : Nat) : Nat := 20 * (20 + r) + 1
def gS (r : Nat) : Nat := 20 * (20 + r) + 2
def elOk (S : CS) (r b i : Nat) : Bool := match cQ S (30 + r) b i with | some y => cD S y == elk r | none => true
theorem puL_M {cc : Nat → ClassId} {S : CS} {a r : Nat} (hr : r < 5) (h : cD S a = 20 + r) (v : Int32) : cellOf cc (uI S (gM r) a v) a = .inr (0, ([.int (cI S (20 * (20 + r)) a), va_rf (cR S (20 * (20 + r) + 1) a), .int (cI S (20 * (20 + r) + 2) a)]).set 0 (.int v)) := by
  rw [cell_L (S := uI S (gM r) a v) hr h]
  simp [cI_uI, cR_uI, set1, gM]
theorem puL_E {cc : Nat → ClassId} {S : CS} {a r : Nat} (hr : r < 5) (h : cD S a = 20 + r) (v : Option Nat) : cellOf cc (uR S (gE r) a v) a = .inr (0, ([.int (cI S (20 * (20 + r)) a), va_rf (cR S (20 * (20 + r) + 1) a), .int (cI S (20 * (20 + r) + 2) a)]).set 1 (va_rf v)) := by
  rw [cell_L (S := uR S (gE r) a v) hr h]
  simp [cI_uR, cR_uR, set1, gE]
theorem puL_S {cc : Nat → ClassId} {S : CS} {a r : Nat} (hr : r < 5) (h : cD S a = 20 + r) (v : Int32) : cellOf cc (uI S (gS r) a v) a = .inr (0, ([.int (cI S (20 * (20 + r)) a), va_rf (cR S (20 * (20 + r) + 1) a), .int (cI S (20 * (20 + r) + 2) a)]).set 2 (.int v)) := by
  rw [cell_L (S := uI S (gS r) a v) hr h]
  simp [cI_uI, cR_uI, set1, gS]
theorem W_sz {p : Program} {l : Launch} {e : Env} {R : Room} {s : State} {m : MethodId} {args : Array Value} {below : List Frame} {meth : Method} {c : Code} {H : Heap} {locs : List Loc} {cells slots : Nat} {Q : State → Prop} {g : JFrame} (k : s.heap.size ≤ H.size → H.size ≤ s.heap.size + cells → W p l e R s m args below meth c H locs cells slots Q g) : W p l e R s m args below meth c H locs cells slots Q g := fun T hT X => k (by rw [← hT]; exact X.same.2.1) (by rw [← hT]; exact X.same.2.2.1) T hT X
section LROWS
variable {p : Program} {l : Launch} {e : Env} {R : Room} {s : State} {m : MethodId} {args : Array Value} {below : List Frame} {meth : Method} {c : Code} {H : Heap} {locs : List Loc} {cells slots : Nat} {Q : State → Prop}
variable {bb : ByteArray} {pc : Nat} {ls : Array Slot} {rest st0 : List Value} {D : va_G} {A : Nat → Prop} {cc : Nat → ClassId} {S : CS} {a : Nat} {Ts : List Cond} {E : Nat → Nat}
theorem C_alenO (hx : p.tables.exec = Jvm.exec) (hb : c.code = bb) (hK : va_K D vwCl (tyC cc) s) (hw : cWd D cc A s.heap S H locs) {r : Nat} (hr : r < 5) (hd : cD S a = 30 + r) (hdg : decode bb pc = .ok (.arraylength, 1))
    (kk : W p l e R s m args below meth c H locs cells slots Q (F0 m (pc + 1) ls (.int (Int32.ofNat (cN S a)) :: rest))) : W p l e R s m args below meth c H locs cells slots Q (F0 m pc ls (.ref a :: rest)) := by
  obtain ⟨q0, he⟩ := cP_get (cc := cc) (hw.1 a (by omega))
  rw [cell_O hr hd] at he
  exact va_alen hx hb hK hw.2.2.1 q0 2 he rfl rfl hdg kk
/-- a new array of references -/
theorem C_newO (hx : p.tables.exec = Jvm.exec) (hb : c.code = bb) {own C : String} {index : Nat} (hown : s.vm.findClass own = some m.cls) (hcl : (Cond.classLink own index C).before args s = true) (hover : va_AO C s) (hK : va_K D vwCl (tyC cc) s) (hA : ∀ q, s.heap.size ≤ q → A q) (hw : cWd D cc A s.heap S H locs) (t0 : Nat) {ct : ClassId} (ht : (tyC cc)[t0]? = some (ct, .object C)) {n : Int32} {N d : Nat} (hcell : cellOf cc (nw S d N) (nx S) = .inl (ct, N, .inr (.inr (.inr (.inr (fun _ => none)))))) (hn : ¬ n < 0) (hN : n.toNatClampNeg = N) (hbytes : N * 4 ≤ 536870912) (hcells : cells + 1 ≤ R.cells) (hslots : slots + N ≤ R.slots) (hdg : decode bb pc = .ok (.anewarray index, 3))
    (kk : ∀ (q : Nat) (S1 : CS) (H1 : Heap), q = nx S → S1 = nw S d N → cWd D cc A s.heap S1 H1 locs → W p l e R s m args below meth c H1 locs (cells + 1) (slots + N) Q (F0 m (pc + 3) ls (.ref q :: rest))) : W p l e R s m args below meth c H locs cells slots Q (F0 m pc ls (.int n :: rest)) := by
  obtain ⟨hok, hsz, hP, hD, hS⟩ := hw
  subst hN
  refine W.anew hx hb hown hcl (va_AO.use hover) rfl hdg rfl hn hbytes hcells hslots fun cx kA comp f1 f2 f3 f4 => ?_
  have hcx : cx = ct := by
    obtain ⟨-, -, -, -, -, h4⟩ := (hK.2 t0 _ ht).2
    exact Option.some.inj (f1.symm.trans h4)
  subst hcx
  generalize hH1 : H.push ({ cls := cx, slots := Array.replicate n.toNatClampNeg .null, vm := .none } : Cell) = H1
  have z1 : H1.size = nx S + 1 := by rw [← hH1, Array.size_push, hsz]
  have e1 : H1[nx S]? = some (arrV cx n.toNatClampNeg (fun _ => .null)) := by rw [← hsz, ← hH1, Array.getElem?_push_size, ← arrV_new]
  have o1 : ∀ q : Nat, q < H.size → H1[q]? = H[q]? := fun q hq => by rw [← hH1, Array.getElem?_push, if_neg (Nat.ne_of_lt hq)]
  have hk : ∀ (k : Nat) (x : Nat × va_E), (cPs cc S)[k]? = some x → H1[x.1]? = H[x.1]? := fun k x hx => o1 x.1 ((hP k x hx).lt)
  have hf : nx S ∉ cL S := va_pl_fresh (X := []) hP (Nat.le_of_eq hsz)
  have hq : cPs cc S ++ [(nx S, .inl (cx, n.toNatClampNeg, .inr (.inr (.inr (.inr (fun _ => none))))))] = cPs cc (nw S d n.toNatClampNeg) := by
    have := va_pl_push (f := cellOf cc S) (e := .inl (cx, n.toNatClampNeg, .inr (.inr (.inr (.inr (fun _ => none)))))) hf
    unfold cPs
    rw [this]
    refine va_pl_congr (fun b => ?_)
    by_cases hb : b = nx S
    · subst hb
      rw [hcell]
      simp [va_up]
    · rw [off_nw hb]
      simp [va_up, hb]
  rw [hsz]
  refine kk _ _ H1 rfl rfl ⟨fun b hb => ?_, z1, ?_, ?_, ⟨Nat.le_trans hS.1 (by omega), fun x h1 h2 => (o1 x (Nat.lt_of_lt_of_le h1 hS.1)).trans (hS.2.1 x h1 h2), hS.2.2⟩⟩
  · rw [cL_nw]
    by_cases h : b = nx S
    · subst h
      exact List.mem_append_right _ (List.mem_singleton.mpr rfl)
    · rw [cD_nw, set1_n _ _ h] at hb
      exact List.mem_append_left _ (hok b hb)
  · rw [← hq]
    refine (hP.kept hk).app (fun k x hx => ?_)
    have hz : k < 1 := (List.getElem?_eq_some_iff.mp hx).1
    rw [show k = 0 by omega] at hx
    cases hx
    exact e1
  · rw [← hq]
    exact hD.push hP hsz.symm (hA _ (by rw [← hsz]; exact hS.1))
/-- a store of an element into a list's array -/
theorem C_aastO (hx : p.tables.exec = Jvm.exec) (hb : c.code = bb) (hK : va_K D vwCl (tyC cc) s) (hro : cRO E A s s.heap) (hw : cWd D cc A s.heap S H locs) {r : Nat} (hr : r < 5) (hd : cD S a = 30 + r) {v : Nat} (hv : cD S v = elk r) {i : Int32} (hin : ¬ (i < 0 ∨ cN S a ≤ i.toNatClampNeg)) (hdg : decode bb pc = .ok (.aastore, 1))
    (kk : ∀ (S1 : CS) (H1 : Heap) (locs1 : List Loc), S1 = uQ S (30 + r) a i.toNatClampNeg (some v) → cWd D cc A s.heap S1 H1 locs1 → W p l e R s m args below meth c H1 locs1 cells slots Q (F0 m (pc + 1) ls rest)) : W p l e R s m args below meth c H locs cells slots Q (F0 m pc ls (.ref v :: .int i :: .ref a :: rest)) := by
  have hcv : ∃ (ci : Nat) (rc : vw_C) (vs : List Value), cellOf cc S v = .inr (ci, vs) ∧ vwCl[ci]? = some rc ∧ va_Nw (.castable rc.1 "java/lang/Object") s := by
    rcases (show r = 0 ∨ r = 1 ∨ r = 2 ∨ r = 3 ∨ r = 4 by omega) with rfl | rfl | rfl | rfl | rfl
    · exact ⟨_, (RX2, TX2, 11), _, cell_3 hv, rfl, hro.2.1 RX2 (by decide)⟩
    · exact ⟨_, (RX8, TX8, 3), _, cell_9 hv, rfl, hro.2.1 RX8 (by decide)⟩
    · exact ⟨_, (RX0, TX0, 4), _, cell_1 hv, rfl, hro.2.1 RX0 (by decide)⟩
    · exact ⟨_, (RX3, TX3, 5), _, cell_4 hv, rfl, hro.2.1 RX3 (by decide)⟩
    · exact ⟨_, (RX1, TX1, 2), _, cell_2 hv, rfl, hro.2.1 RX1 (by decide)⟩
  have hv0 : cD S v ≠ 0 := by
    rcases (show r = 0 ∨ r = 1 ∨ r = 2 ∨ r = 3 ∨ r = 4 by omega) with rfl | rfl | rfl | rfl | rfl <;> rw [hv] <;> decide
  obtain ⟨ci, rc, vs, hcell, hc, hca⟩ := hcv
  obtain ⟨hok, hsz, hP, hD, hS⟩ := hw
  have hm := hok a (by omega)
  obtain ⟨q0, he0⟩ := cP_get (cc := cc) hm
  obtain ⟨qk, hev⟩ := cP_get (cc := cc) (hok v hv0)
  rw [hcell] at hev
  have hset : cellOf cc (uQ S (30 + r) a i.toNatClampNeg (some v)) a = .inl (cc 2, cN S a, .inr (.inr (.inr (.inr (va_up (cQ S (30 + r) a) i.toNatClampNeg (some v)))))) := by
    rw [cell_O (S := uQ S (30 + r) a i.toNatClampNeg (some v)) hr hd, cQ_uQ, set1_s, set1_s]
    rfl
  have hq := cP_set hD hm he0 (S' := uQ S (30 + r) a i.toNatClampNeg (some v)) rfl hset (fun b hb => off_uQ hb)
  have he := he0
  rw [cell_O hr hd] at he
  refine W_sz (fun h1 h2 => ?_)
  have hlt : i.toNatClampNeg < cN S a := Nat.not_le.mp fun q => hin (Or.inr q)
  have h0 : ¬ i < 0 := fun q => hin (Or.inl q)
  obtain ⟨r', hr', cellV, g1, g2, g3, -⟩ := hP qk _ hev
  have hcls := (hK.1 ci rc hc).2
  obtain ⟨kA, comp, k1, k2, k3, -⟩ := (hK.2 2 (cc 2, .object "java/lang/Object") rfl).2
  obtain ⟨kE, hkE, -⟩ := Vm.findClass_spec k3
  obtain ⟨c0, t1, f1, f2, f3⟩ := Cond.castable_spec (va_Nw.use (A := args) rfl hca)
  cases hcls.1.symm.trans f1
  cases k3.symm.trans f2
  obtain ⟨kC, hkC, -⟩ := hcls.2
  refine W.aast hx hb (hP q0 _ he) (fun q h => by cases h) (fun h => by cases h) k1 k2 rfl hkE ⟨h0, by show _ < (arrV _ _ _).slots.size; rw [arrV_size]; exact hlt⟩ g1 (fun q h => by rw [g3] at h; cases h) (by rw [g2]; exact hkC) (by rw [g2]; exact f3) rfl rfl hdg fun H1 e z oq => ?_
  refine kk _ H1 _ rfl ⟨hok, z.trans hsz, ?_, ?_, hS.put z oq (hD.2 q0 _ he)⟩
  · rw [← hq]
    refine hP.set hD he ?_ oq
    show H1[a]? = some (vp_cell _ _)
    rw [e, vp_cell_q, vp_cell_q, arrV_store]
    congr 2
    funext q
    by_cases hq : q = i.toNatClampNeg
    · subst hq
      simp [updV, va_up, va_rf]
    · simp [updV, va_up, hq]
  · rw [← hq]
    exact hD.set he
end LROWS
theorem cnew_O {cc : Nat → ClassId} {r : Nat} (hr : r < 5) (S : CS) {n : Nat} : cellOf cc (nw S (30 + r) n) (nx S) = .inl (cc 2, n, .inr (.inr (.inr (.inr (fun _ => none))))) := by
  rw [cell_O hr (cD_new S (30 + r) n), cN_nw, cQ_nw, set1_s]
  show Sum.inl (cc 2, n, Sum.inr (Sum.inr (Sum.inr (Sum.inr (set1 (cQ S (30 + r)) (nx S) (fun _ => none) (nx S)))))) = _
  rw [set1_s]
theorem cnew_61 {cc : Nat → ClassId} (S : CS) {n : Nat} : cellOf cc (nw S 61 n) (nx S) = .inl (cc 3, n, .inr (.inr (.inr (.inr (fun _ => none))))) := by
  rw [cell_61 (cD_new S 61 n), cN_nw, cQ_nw, set1_s]
  show Sum.inl (cc 3, n, Sum.inr (Sum.inr (Sum.inr (Sum.inr (set1 (cQ S 61) (nx S) (fun _ => none) (nx S)))))) = _
  rw [set1_s]
