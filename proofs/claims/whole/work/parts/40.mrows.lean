/-! the reference's world under one name; rows as for the class -/
def mWd (D : va_G) (cI cJ : ClassId) (ad : Nat → Nat) (A : Nat → Prop) (H0 : Heap) (x : MS) (H : Heap) (locs : List Loc) : Prop := va_P D vwCl (wsM cI cJ ad x) H ∧ va_D A (wsM cI cJ ad x) ∧ va_S A H0 H locs
section NROWS
variable {p : Program} {l : Launch} {e : Env} {R : Room} {s : State} {m : MethodId} {args : Array Value} {below : List Frame} {meth : Method} {c : Code} {H : Heap} {locs : List Loc} {cells slots : Nat} {Q : State → Prop}
variable {bb : ByteArray} {pc : Nat} {ls : Array Slot} {rest st0 : List Value} {D : va_G} {A : Nat → Prop} {cI cJ : ClassId} {ad : Nat → Nat} {x T : MS} {Ts : List Cond}
theorem N_get (hx : p.tables.exec = Jvm.exec) (hb : c.code = bb) (hts : ∀ w ∈ Ts, w.before args s = true) (hin : ∀ w ∈ wsX120, w ∈ Ts) (hown : s.vm.findClass RX12 = some m.cls) (hK : va_K D vwCl (tyM cI cJ) s) (hw : mWd D cI cJ ad A s.heap x H locs) (k : Nat) (hk : k < 69) (hr : (TX12 k).1 = RX12) {index : Nat} (hlink : Cond.fieldLink RX12 index RX12 (TX12 k).2.1 (TX12 k).2.2.1 ∈ Ts) {v : Value} (hv : (fsM ad x)[k]? = some v) (hdg : decode bb pc = .ok (.getfield index, 3))
    (kk : W p l e R s m args below meth c H locs cells slots Q (F0 m (pc + 3) ls (v :: rest))) : W p l e R s m args below meth c H locs cells slots Q (F0 m pc ls (.ref (ad 0) :: rest)) :=
  M_get hx hb hts hin hown hK hw.1 k hk hr hlink hv hdg kk
theorem N_put (hx : p.tables.exec = Jvm.exec) (hb : c.code = bb) (hts : ∀ w ∈ Ts, w.before args s = true) (hin : ∀ w ∈ wsX120, w ∈ Ts) (hown : s.vm.findClass RX12 = some m.cls) (hK : va_K D vwCl (tyM cI cJ) s) (hw : mWd D cI cJ ad A s.heap x H locs) (k : Nat) (hk : k < 69) (hr : (TX12 k).1 = RX12) (hfin : (TX12 k).2.2.2 = false) {index : Nat} (hlink : Cond.fieldLink RX12 index RX12 (TX12 k).2.1 (TX12 k).2.2.1 ∈ Ts) {v : Value} {ty : FieldType} (hd : parseFieldDescriptor (TX12 k).2.2.1 = some ty) (hn : narrow ty v = v) (hfit : fits ty v = true) {x' : MS} (hset : (wsM cI cJ ad x).set 0 (ad 0, .inr (13, (fsM ad x).set k v)) = wsM cI cJ ad x') (hdg : decode bb pc = .ok (.putfield index, 3))
    (kk : ∀ (y : MS) (H : Heap) (locs : List Loc), y = x' → mWd D cI cJ ad A s.heap y H locs → W p l e R s m args below meth c H locs cells slots Q (F0 m (pc + 3) ls rest)) : W p l e R s m args below meth c H locs cells slots Q (F0 m pc ls (v :: .ref (ad 0) :: rest)) :=
  M_put hx hb hts hin hown hK hw.1 hw.2.1 hw.2.2 k hk hr hfin hlink hd hn hfit hset hdg (fun y H locs e h1 h2 h3 => kk y H locs e ⟨h1, h2, h3⟩)
theorem N_iast (hx : p.tables.exec = Jvm.exec) (hb : c.code = bb) (hK : va_K D vwCl (tyM cI cJ) s) (hw : mWd D cI cJ ad A s.heap x H locs) (q0 : Nat) {a n : Nat} {f : Nat → Int32} (ha : (wsM cI cJ ad x)[q0]? = some (a, .inl (cI, n, .inl f))) {i v : Int32} (hin : ¬ (i < 0 ∨ n ≤ i.toNatClampNeg)) {x' : MS} (hset : (wsM cI cJ ad x).set q0 (a, .inl (cI, n, .inl (upd f i.toNatClampNeg v))) = wsM cI cJ ad x') (hdg : decode bb pc = .ok (.iastore, 1))
    (kk : ∀ (y : MS) (H : Heap) (locs : List Loc), y = x' → mWd D cI cJ ad A s.heap y H locs → W p l e R s m args below meth c H locs cells slots Q (F0 m (pc + 1) ls rest)) : W p l e R s m args below meth c H locs cells slots Q (F0 m pc ls (.int v :: .int i :: .ref a :: rest)) :=
  M_iast hx hb hK hw.1 hw.2.1 hw.2.2 q0 ha hin hset hdg (fun y H locs e h1 h2 h3 => kk y H locs e ⟨h1, h2, h3⟩)
theorem N_last (hx : p.tables.exec = Jvm.exec) (hb : c.code = bb) (hK : va_K D vwCl (tyM cI cJ) s) (hw : mWd D cI cJ ad A s.heap x H locs) (q0 : Nat) {a n : Nat} {f : Nat → Int64} (ha : (wsM cI cJ ad x)[q0]? = some (a, .inl (cJ, n, .inr (.inl f)))) {i : Int32} {v : Int64} (hin : ¬ (i < 0 ∨ n ≤ i.toNatClampNeg)) {x' : MS} (hset : (wsM cI cJ ad x).set q0 (a, .inl (cJ, n, .inr (.inl (vp_updL f i.toNatClampNeg v)))) = wsM cI cJ ad x') (hdg : decode bb pc = .ok (.lastore, 1))
    (kk : ∀ (y : MS) (H : Heap) (locs : List Loc), y = x' → mWd D cI cJ ad A s.heap y H locs → W p l e R s m args below meth c H locs cells slots Q (F0 m (pc + 1) ls rest)) : W p l e R s m args below meth c H locs cells slots Q (F0 m pc ls (.long v :: .int i :: .ref a :: rest)) :=
  M_last hx hb hK hw.1 hw.2.1 hw.2.2 q0 ha hin hset hdg (fun y H locs e h1 h2 h3 => kk y H locs e ⟨h1, h2, h3⟩)
variable {y : MethodName} {bytes : ByteArray} {maxL nL n index : Nat} {ret : Option FieldType} {ws : List Cond} {rm : Room} {av : List Value}
theorem N_calli (Sx : CallFix p m c bb nL s args Ts RX12) (hA : ∀ q, s.heap.size ≤ q → A q) (hK : va_K D vwCl (tyM cI cJ) s) (hw : mWd D cI cJ ad A s.heap x H locs) {r : Int32} (hM : Mi l y ws rm D cI cJ ad av x (fun r' u => r' = r ∧ u = T)) (cw : CallW R s args RX12 RX12 index y bytes maxL ret ws rm 0 0 n) (hn : av.length = n) (hsize : ls.size = nL) (hst : st0 = av.reverse ++ .ref (ad 0) :: rest) (hW : (rest.map fun v => v.category).sum ≤ 8) (hdg : decode bb pc = .ok (.invokevirtual index, 3)) (hf : cells + 0 ≤ R.cells ∧ slots + 0 ≤ R.slots)
    (kk : ∀ (H : Heap) (locs : List Loc), mWd D cI cJ ad A s.heap T H locs → W p l e R s m args below meth c H locs cells slots Q (F0 m (pc + 3) ls (.int r :: rest))) : W p l e R s m args below meth c H locs cells slots Q (F0 m pc ls st0) :=
  M_calli Sx hA hK hw.1 hw.2.1 hw.2.2 hM cw hn hsize hst hW hdg hf (fun r1 u H locs hp h1 h2 h3 => by
    obtain ⟨rfl, rfl⟩ := hp
    exact kk H locs ⟨h1, h2, h3⟩)
theorem N_calll (Sx : CallFix p m c bb nL s args Ts RX12) (hA : ∀ q, s.heap.size ≤ q → A q) (hK : va_K D vwCl (tyM cI cJ) s) (hw : mWd D cI cJ ad A s.heap x H locs) {r : Int64} (hM : Ml l y ws rm D cI cJ ad av x (fun r' u => r' = r ∧ u = T)) (cw : CallW R s args RX12 RX12 index y bytes maxL ret ws rm 0 0 n) (hn : av.length = n) (hsize : ls.size = nL) (hst : st0 = av.reverse ++ .ref (ad 0) :: rest) (hW : (rest.map fun v => v.category).sum ≤ 8) (hdg : decode bb pc = .ok (.invokevirtual index, 3)) (hf : cells + 0 ≤ R.cells ∧ slots + 0 ≤ R.slots)
    (kk : ∀ (H : Heap) (locs : List Loc), mWd D cI cJ ad A s.heap T H locs → W p l e R s m args below meth c H locs cells slots Q (F0 m (pc + 3) ls (.long r :: rest))) : W p l e R s m args below meth c H locs cells slots Q (F0 m pc ls st0) :=
  M_calll Sx hA hK hw.1 hw.2.1 hw.2.2 hM cw hn hsize hst hW hdg hf (fun r1 u H locs hp h1 h2 h3 => by
    obtain ⟨rfl, rfl⟩ := hp
    exact kk H locs ⟨h1, h2, h3⟩)
theorem N_callv (Sx : CallFix p m c bb nL s args Ts RX12) (hA : ∀ q, s.heap.size ≤ q → A q) (hK : va_K D vwCl (tyM cI cJ) s) (hw : mWd D cI cJ ad A s.heap x H locs) (hM : Mv l y ws rm D cI cJ ad av x (fun u => u = T)) (cw : CallW R s args RX12 RX12 index y bytes maxL ret ws rm 0 0 n) (hn : av.length = n) (hsize : ls.size = nL) (hst : st0 = av.reverse ++ .ref (ad 0) :: rest) (hW : (rest.map fun v => v.category).sum ≤ 8) (hdg : decode bb pc = .ok (.invokevirtual index, 3)) (hf : cells + 0 ≤ R.cells ∧ slots + 0 ≤ R.slots)
    (kk : ∀ (H : Heap) (locs : List Loc), mWd D cI cJ ad A s.heap T H locs → W p l e R s m args below meth c H locs cells slots Q (F0 m (pc + 3) ls rest)) : W p l e R s m args below meth c H locs cells slots Q (F0 m pc ls st0) :=
  M_callv Sx hA hK hw.1 hw.2.1 hw.2.2 hM cw hn hsize hst hW hdg hf (fun u H locs hp h1 h2 h3 => by
    subst hp
    exact kk H locs ⟨h1, h2, h3⟩)
theorem C_sl {post : Int64 → Prop} {aa : Array Value} (hr : va_Run p l e R s m args below meth c H locs cells slots 0 0 (F0 m pc ls st0) rest (vp_Sl post aa) (fun _ => False)) (kk : ∀ r : Int64, post r → W p l e R s m args below meth c H locs cells slots Q (F0 m (pc + 3) ls (.long r :: rest))) : W p l e R s m args below meth c H locs cells slots Q (F0 m pc ls st0) := by
  intro T hT X
  obtain ⟨v, st₀, t, T', L, h0, X', hL, e1, e2, ⟨r, hv, hp, hh⟩, st⟩ := hr T hT X
  cases hv
  have hLn : L = [] := by
    cases L with
    | nil => rfl
    | cons q w => exact absurd (hL q List.mem_cons_self) id
  subst hLn
  rw [List.append_nil] at X'
  obtain ⟨t2, a1, b1⟩ := kk r hp T' (by rw [e1, hh, h0]) X'
  exact ⟨t2, st t2 a1, b1⟩
end NROWS
