/-! starts and ends of the reference's methods -/
section MST
variable {l : Launch} {y : MethodName} {ws ws' : List Cond} {rm : Room} {D : va_G} {cI cJ : ClassId} {ad : Nat → Nat} {av : List Value} {x : MS} {cc : ByteArray} {nL : Nat} {ret : Option FieldType}
theorem Mi_of {post : Int32 → MS → Prop} (hy : plainName y.cls = true) (hw : ws = Cond.code y cc nL ret :: ws') (hc : y.cls = RX12) (hsl : (lg_sl (.ref (ad 0) :: av)).length ≤ nL)
    (body : ∀ (p : Program) (e : Env) (s : State) (m : MethodId) (args : Array Value) (below : List Frame) (meth : Method) (c : Code) (A : Nat → Prop), p.tables.exec = Jvm.exec → c.code = cc → meth.sig.returnType = ret → meth.locks = false → c.maxLocals = nL → (∀ w ∈ ws, w.before args s = true) → s.vm.findClass RX12 = some m.cls → (∀ q : Nat, s.heap.size ≤ q → A q) → va_K D vwCl (tyM cI cJ) s → va_P D vwCl (wsM cI cJ ad x) s.heap → va_D A (wsM cI cJ ad x) → va_S A s.heap s.heap [] → ∀ ls : Array Slot, lv_has ls nL (lv_args 0 (.ref (ad 0) :: av)) → W p l e rm s m args below meth c s.heap [] 0 0 (MQ below (va_Qi post (mAft D cI cJ ad A) A) args s 0 0 A) (F0 m 0 ls [])) : Mi l y ws rm D cI cJ ad av x post := by
  intro sz
  refine Met.ofW (cc := cc) (maxL := nL) (ret := ret) hy hw ?_
  intro p e s m args below meth c s₁ B hml hv
  obtain ⟨rfl, hsz, hP, hK, hD0⟩ := hv
  have hl := lv_entry (.ref (ad 0) :: av) (n := nL) hsl
  rw [lg_entry_eq]
  subst hsz
  exact body p e s m _ below meth c _ B.exec B.bytes B.returns B.notSynchronized hml (atoms_spec (ws := ws) B.pre) (by rw [← hc]; exact findClass_of_methodNamed B.named) (fun q h => Or.inr h) hK hP (hD0.self) va_S.rf _ hl
theorem Ml_of {post : Int64 → MS → Prop} (hy : plainName y.cls = true) (hw : ws = Cond.code y cc nL ret :: ws') (hc : y.cls = RX12) (hsl : (lg_sl (.ref (ad 0) :: av)).length ≤ nL)
    (body : ∀ (p : Program) (e : Env) (s : State) (m : MethodId) (args : Array Value) (below : List Frame) (meth : Method) (c : Code) (A : Nat → Prop), p.tables.exec = Jvm.exec → c.code = cc → meth.sig.returnType = ret → meth.locks = false → c.maxLocals = nL → (∀ w ∈ ws, w.before args s = true) → s.vm.findClass RX12 = some m.cls → (∀ q : Nat, s.heap.size ≤ q → A q) → va_K D vwCl (tyM cI cJ) s → va_P D vwCl (wsM cI cJ ad x) s.heap → va_D A (wsM cI cJ ad x) → va_S A s.heap s.heap [] → ∀ ls : Array Slot, lv_has ls nL (lv_args 0 (.ref (ad 0) :: av)) → W p l e rm s m args below meth c s.heap [] 0 0 (MQ below (va_Ql post (mAft D cI cJ ad A) A) args s 0 0 A) (F0 m 0 ls [])) : Ml l y ws rm D cI cJ ad av x post := by
  intro sz
  refine Met.ofW (cc := cc) (maxL := nL) (ret := ret) hy hw ?_
  intro p e s m args below meth c s₁ B hml hv
  obtain ⟨rfl, hsz, hP, hK, hD0⟩ := hv
  have hl := lv_entry (.ref (ad 0) :: av) (n := nL) hsl
  rw [lg_entry_eq]
  subst hsz
  exact body p e s m _ below meth c _ B.exec B.bytes B.returns B.notSynchronized hml (atoms_spec (ws := ws) B.pre) (by rw [← hc]; exact findClass_of_methodNamed B.named) (fun q h => Or.inr h) hK hP (hD0.self) va_S.rf _ hl
theorem Mv_of {post : MS → Prop} (hy : plainName y.cls = true) (hw : ws = Cond.code y cc nL ret :: ws') (hc : y.cls = RX12) (hsl : (lg_sl (.ref (ad 0) :: av)).length ≤ nL)
    (body : ∀ (p : Program) (e : Env) (s : State) (m : MethodId) (args : Array Value) (below : List Frame) (meth : Method) (c : Code) (A : Nat → Prop), p.tables.exec = Jvm.exec → c.code = cc → meth.sig.returnType = ret → meth.locks = false → c.maxLocals = nL → (∀ w ∈ ws, w.before args s = true) → s.vm.findClass RX12 = some m.cls → (∀ q : Nat, s.heap.size ≤ q → A q) → va_K D vwCl (tyM cI cJ) s → va_P D vwCl (wsM cI cJ ad x) s.heap → va_D A (wsM cI cJ ad x) → va_S A s.heap s.heap [] → ∀ ls : Array Slot, lv_has ls nL (lv_args 0 (.ref (ad 0) :: av)) → W p l e rm s m args below meth c s.heap [] 0 0 (MQ below (va_Qv post (mAft D cI cJ ad A) A) args s 0 0 A) (F0 m 0 ls [])) : Mv l y ws rm D cI cJ ad av x post := by
  intro sz
  refine Met.ofW (cc := cc) (maxL := nL) (ret := ret) hy hw ?_
  intro p e s m args below meth c s₁ B hml hv
  obtain ⟨rfl, hsz, hP, hK, hD0⟩ := hv
  have hl := lv_entry (.ref (ad 0) :: av) (n := nL) hsl
  rw [lg_entry_eq]
  subst hsz
  exact body p e s m _ below meth c _ B.exec B.bytes B.returns B.notSynchronized hml (atoms_spec (ws := ws) B.pre) (by rw [← hc]; exact findClass_of_methodNamed B.named) (fun q h => Or.inr h) hK hP (hD0.self) va_S.rf _ hl
theorem Si_of {own : String} {post : Int32 → Prop} (hy : plainName y.cls = true) (hw : ws = Cond.code y cc nL ret :: ws') (hc : y.cls = own) (hsl : (lg_sl av).length ≤ nL)
    (body : ∀ (p : Program) (e : Env) (s : State) (m : MethodId) (args : Array Value) (below : List Frame) (meth : Method) (c : Code), p.tables.exec = Jvm.exec → c.code = cc → meth.sig.returnType = ret → meth.locks = false → c.maxLocals = nL → (∀ w ∈ ws, w.before args s = true) → s.vm.findClass own = some m.cls → ∀ ls : Array Slot, lv_has ls nL (lv_args 0 av) → W p l e rm s m args below meth c s.heap [] 0 0 (MQ below (vp_Si post) args s 0 0 (fun _ => False)) (F0 m 0 ls [])) : Si l y ws rm av post := by
  refine Met.ofW (cc := cc) (maxL := nL) (ret := ret) hy hw ?_
  intro p e s m args below meth c s₁ B hml hv
  obtain ⟨rfl, -⟩ := hv
  have hl := lv_entry av (n := nL) hsl
  rw [lg_entry_eq]
  exact body p e s m _ below meth c B.exec B.bytes B.returns B.notSynchronized hml (atoms_spec (ws := ws) B.pre) (by rw [← hc]; exact findClass_of_methodNamed B.named) _ hl
theorem Sl_of {own : String} {post : Int64 → Prop} (hy : plainName y.cls = true) (hw : ws = Cond.code y cc nL ret :: ws') (hc : y.cls = own) (hsl : (lg_sl av).length ≤ nL)
    (body : ∀ (p : Program) (e : Env) (s : State) (m : MethodId) (args : Array Value) (below : List Frame) (meth : Method) (c : Code), p.tables.exec = Jvm.exec → c.code = cc → meth.sig.returnType = ret → meth.locks = false → c.maxLocals = nL → (∀ w ∈ ws, w.before args s = true) → s.vm.findClass own = some m.cls → ∀ ls : Array Slot, lv_has ls nL (lv_args 0 av) → W p l e rm s m args below meth c s.heap [] 0 0 (MQ below (vp_Sl post) args s 0 0 (fun _ => False)) (F0 m 0 ls [])) : Sl l y ws rm av post := by
  refine Met.ofW (cc := cc) (maxL := nL) (ret := ret) hy hw ?_
  intro p e s m args below meth c s₁ B hml hv
  obtain ⟨rfl, -⟩ := hv
  have hl := lv_entry av (n := nL) hsl
  rw [lg_entry_eq]
  exact body p e s m _ below meth c B.exec B.bytes B.returns B.notSynchronized hml (atoms_spec (ws := ws) B.pre) (by rw [← hc]; exact findClass_of_methodNamed B.named) _ hl
end MST
section MEND
variable {p : Program} {l : Launch} {e : Env} {R : Room} {s : State} {m : MethodId} {args : Array Value} {below : List Frame} {meth : Method} {c : Code} {H : Heap} {locs : List Loc} {cells slots : Nat}
variable {cc : ByteArray} {pc : Nat} {ls : Array Slot} {D : va_G} {A : Nat → Prop} {cI cJ : ClassId} {ad : Nat → Nat} {x : MS}
theorem M_iret {post : Int32 → MS → Prop} {v : Int32} (hx : p.tables.exec = Jvm.exec) (hb : c.code = cc) (hr : meth.sig.returnType = some .int) (hlocks : meth.locks = false) (hK : va_K D vwCl (tyM cI cJ) s) (hP : va_P D vwCl (wsM cI cJ ad x) H) (hD : va_D A (wsM cI cJ ad x)) (hS : va_S A s.heap H locs) (hdg : decode cc pc = .ok (.ireturn, 1)) (hp : post v x) : W p l e R s m args below meth c H locs cells slots (MQ below (va_Qi post (mAft D cI cJ ad A) A) args s cells slots A) (F0 m pc ls [.int v]) :=
  W.iret hx hb hr (fun t ht hW => ⟨⟨v, x, rfl, hp, by rw [ht]; exact hP, va_K.moved hW.alike hK, hD⟩, hS.F ht⟩) hS.2.2 hdg hlocks
theorem M_zret {post : Int32 → MS → Prop} {v : Int32} {ty : FieldType} (hx : p.tables.exec = Jvm.exec) (hb : c.code = cc) (hr : meth.sig.returnType = some ty) (hlocks : meth.locks = false) (hK : va_K D vwCl (tyM cI cJ) s) (hP : va_P D vwCl (wsM cI cJ ad x) H) (hD : va_D A (wsM cI cJ ad x)) (hS : va_S A s.heap H locs) (hdg : decode cc pc = .ok (.ireturn, 1)) (hn : narrow ty (.int v) = .int v) (hp : post v x) : W p l e R s m args below meth c H locs cells slots (MQ below (va_Qi post (mAft D cI cJ ad A) A) args s cells slots A) (F0 m pc ls [.int v]) :=
  W.zret hx hb hr hn (fun t ht hW => ⟨⟨v, x, rfl, hp, by rw [ht]; exact hP, va_K.moved hW.alike hK, hD⟩, hS.F ht⟩) hS.2.2 hdg hlocks
theorem M_lret {post : Int64 → MS → Prop} {v : Int64} (hx : p.tables.exec = Jvm.exec) (hb : c.code = cc) (hr : meth.sig.returnType = some .long) (hlocks : meth.locks = false) (hK : va_K D vwCl (tyM cI cJ) s) (hP : va_P D vwCl (wsM cI cJ ad x) H) (hD : va_D A (wsM cI cJ ad x)) (hS : va_S A s.heap H locs) (hdg : decode cc pc = .ok (.lreturn, 1)) (hp : post v x) : W p l e R s m args below meth c H locs cells slots (MQ below (va_Ql post (mAft D cI cJ ad A) A) args s cells slots A) (F0 m pc ls [.long v]) :=
  W.lret hx hb hr (fun t ht hW => ⟨⟨v, x, rfl, hp, by rw [ht]; exact hP, va_K.moved hW.alike hK, hD⟩, hS.F ht⟩) hS.2.2 hdg hlocks
theorem M_vret {post : MS → Prop} (hx : p.tables.exec = Jvm.exec) (hb : c.code = cc) (hr : meth.sig.returnType = none) (hlocks : meth.locks = false) (hK : va_K D vwCl (tyM cI cJ) s) (hP : va_P D vwCl (wsM cI cJ ad x) H) (hD : va_D A (wsM cI cJ ad x)) (hS : va_S A s.heap H locs) (hdg : decode cc pc = .ok (.return_, 1)) (hp : post x) : W p l e R s m args below meth c H locs cells slots (MQ below (va_Qv post (mAft D cI cJ ad A) A) args s cells slots A) (F0 m pc ls []) :=
  W.vret hx hb hr (fun t ht hW => ⟨⟨x, rfl, hp, by rw [ht]; exact hP, va_K.moved hW.alike hK, hD⟩, hS.F ht⟩) hS.2.2 hdg hlocks
theorem S_iret {post : Int32 → Prop} {v : Int32} {ty : FieldType} (hx : p.tables.exec = Jvm.exec) (hb : c.code = cc) (hr : meth.sig.returnType = some ty) (hlocks : meth.locks = false) (hdg : decode cc pc = .ok (.ireturn, 1)) (hn : narrow ty (.int v) = .int v) (hp : post v) : W p l e R s m args below meth c s.heap [] cells slots (MQ below (vp_Si post) args s cells slots (fun _ => False)) (F0 m pc ls [.int v]) :=
  W.zret hx hb hr hn (fun t ht hW => ⟨v, rfl, hp, ht⟩) (fun q h => by cases h) hdg hlocks
theorem S_lret {post : Int64 → Prop} {v : Int64} (hx : p.tables.exec = Jvm.exec) (hb : c.code = cc) (hr : meth.sig.returnType = some .long) (hlocks : meth.locks = false) (hdg : decode cc pc = .ok (.lreturn, 1)) (hp : post v) : W p l e R s m args below meth c s.heap [] cells slots (MQ below (vp_Sl post) args s cells slots (fun _ => False)) (F0 m pc ls [.long v]) :=
  W.lret hx hb hr (fun t ht hW => ⟨v, rfl, hp, ht⟩) (fun q h => by cases h) hdg hlocks
end MEND
/-- a counting loop's numbers: f applied to 0 .. n-1 -/
def itN {α : Type} (f : Nat → α → α) (a : α) : Nat → α
  | 0 => a
  | n + 1 => f n (itN f a n)
theorem itN_0 {α : Type} (f : Nat → α → α) (a : α) : itN f a 0 = a := rfl
theorem itN_s {α : Type} (f : Nat → α → α) (a : α) (n : Nat) : itN f a (n + 1) = f n (itN f a n) := rfl
