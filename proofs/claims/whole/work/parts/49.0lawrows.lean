/-! the two worlds side by side -/
def setNx (S : CS) (k : Nat) : CS := (k, S.2)
theorem cPs_setNx (cc : Nat → ClassId) (S : CS) (k : Nat) : cPs cc (setNx S k) = cPs cc S := rfl
def mAd (ad : Nat → Nat) : List Nat := (wsM 0 0 ad x0).map Prod.fst
theorem wsM_fst (cI cJ : ClassId) (ad : Nat → Nat) (x : MS) : (wsM cI cJ ad x).map Prod.fst = mAd ad := rfl
theorem wsM_in {cI cJ : ClassId} {ad : Nat → Nat} {x : MS} {k : Nat} {q : Nat × va_E} (h : (wsM cI cJ ad x)[k]? = some q) : q.1 ∈ mAd ad := by
  rw [← wsM_fst cI cJ ad x]
  exact List.mem_map.mpr ⟨q, List.mem_of_getElem? h, rfl⟩
theorem mAd_in {cI cJ : ClassId} {ad : Nat → Nat} (x : MS) {a : Nat} (h : a ∈ mAd ad) : ∃ (k : Nat) (e : va_E), (wsM cI cJ ad x)[k]? = some (a, e) := by
  rw [← wsM_fst cI cJ ad x] at h
  obtain ⟨q, hq, rfl⟩ := List.mem_map.mp h
  obtain ⟨k, hk⟩ := List.getElem?_of_mem hq
  exact ⟨k, q.2, hk⟩
def lWd (D : va_G) (cc : Nat → ClassId) (cI cJ : ClassId) (ad : Nat → Nat) (A : Nat → Prop) (H0 : Heap) (S : CS) (x : MS) (H : Heap) (locs : List Loc) : Prop := cWd D cc A H0 S H locs ∧ va_P D vwCl (wsM cI cJ ad x) H ∧ va_D A (wsM cI cJ ad x) ∧ ∀ a ∈ mAd ad, a ∉ cL S
section LAWR
variable {p : Program} {l : Launch} {e : Env} {R : Room} {s : State} {m : MethodId} {args : Array Value} {below : List Frame} {meth : Method} {c : Code} {H : Heap} {locs : List Loc} {cells slots : Nat} {Q : State → Prop}
variable {bb : ByteArray} {pc : Nat} {ls : Array Slot} {rest : List Value} {D : va_G} {A : Nat → Prop} {cc : Nat → ClassId} {cI cJ : ClassId} {ad : Nat → Nat} {E : Nat → Nat} {S T : CS} {x : MS} {Ts : List Cond}
variable {y : MethodName} {bytes : ByteArray} {maxL nL n index mc ms : Nat} {ret : Option FieldType} {ws : List Cond} {f lo : Nat} {av : List Value} {st0 : List Value} {own : String} {b : Nat}
/-- the class's world behind a call of it, the reference's untouched -/
theorem L_back {t : State} {H1 : Heap} {locs1 : List Loc} (hA : ∀ q, s.heap.size ≤ q → A q) (hw : lWd D cc cI cJ ad A s.heap S x H locs) (ht : t.heap = H1) (hB : cAft D cc (va_A (cPs cc S) (nx S)) T t) (hk : ∀ q : Nat, q < H.size → ¬ va_A (cPs cc S) (nx S) q → H1[q]? = H[q]?) (hS1 : va_S A s.heap H1 locs1) : lWd D cc cI cJ ad A s.heap T x H1 locs1 := by
  obtain ⟨hc, hPm, hDm, hdj⟩ := hw
  have hlt : ∀ a ∈ mAd ad, a < nx S := fun a ha => by
    obtain ⟨k, e, hk⟩ := mAd_in (cI := cI) (cJ := cJ) x ha
    rw [← hc.2.1]
    exact (hPm k _ hk).lt
  have hnA : ∀ a ∈ mAd ad, ¬ va_A (cPs cc S) (nx S) a := fun a ha q => by
    rcases q with ⟨k, e, h⟩ | h
    · have hm := List.mem_of_getElem? h
      obtain ⟨z, hz, ez⟩ := List.mem_map.mp hm
      have : z = a := congrArg Prod.fst ez
      exact hdj a ha (this ▸ hz)
    · have := hlt a ha
      omega
  refine ⟨C_back hA hc ht hB hS1, hPm.kept (fun k q hq => hk q.1 (by rw [hc.2.1]; exact hlt _ (wsM_in hq)) (hnA _ (wsM_in hq))), hDm, fun a ha h => ?_⟩
  obtain ⟨k, hk2⟩ := cP_get (cc := cc) h
  exact hnA a ha (hB.2.2.2.2 k _ hk2)
theorem L_i {r : Int32} (hA : ∀ q, s.heap.size ≤ q → A q) (hw : lWd D cc cI cJ ad A s.heap S x H locs) {aa : Array Value} (hr : va_Run p l e R s m args below meth c H locs cells slots mc ms (F0 m pc ls st0) rest (va_Qi (fun x u => x = r ∧ u = T) (cAft D cc (va_A (cPs cc S) (nx S))) (va_A (cPs cc S) (nx S)) aa) (va_A (cPs cc S) (nx S)))
    (kk : ∀ (H1 : Heap) (locs1 : List Loc), lWd D cc cI cJ ad A s.heap T x H1 locs1 → W p l e R s m args below meth c H1 locs1 (cells + mc) (slots + ms) Q (F0 m (pc + 3) ls (.int r :: rest))) : W p l e R s m args below meth c H locs cells slots Q (F0 m pc ls st0) :=
  va_calli hr hw.1.2.2.2.2 (fun q _ h => C_free hA hw.1 q h) (C_free hA hw.1) (fun r1 u t H1 locs1 ht hvm hp hB hz hk hS1 => by
    obtain ⟨rfl, rfl⟩ := hp
    exact kk H1 locs1 (L_back hA hw ht hB hk hS1))
theorem L_l {r : Int64} (hA : ∀ q, s.heap.size ≤ q → A q) (hw : lWd D cc cI cJ ad A s.heap S x H locs) {aa : Array Value} (hr : va_Run p l e R s m args below meth c H locs cells slots mc ms (F0 m pc ls st0) rest (va_Ql (fun x u => x = r ∧ u = T) (cAft D cc (va_A (cPs cc S) (nx S))) (va_A (cPs cc S) (nx S)) aa) (va_A (cPs cc S) (nx S)))
    (kk : ∀ (H1 : Heap) (locs1 : List Loc), lWd D cc cI cJ ad A s.heap T x H1 locs1 → W p l e R s m args below meth c H1 locs1 (cells + mc) (slots + ms) Q (F0 m (pc + 3) ls (.long r :: rest))) : W p l e R s m args below meth c H locs cells slots Q (F0 m pc ls st0) :=
  va_calll hr hw.1.2.2.2.2 (fun q _ h => C_free hA hw.1 q h) (C_free hA hw.1) (fun r1 u t H1 locs1 ht hvm hp hB hz hk hS1 => by
    obtain ⟨rfl, rfl⟩ := hp
    exact kk H1 locs1 (L_back hA hw ht hB hk hS1))
/-- the reference's world behind a call of it, the class's untouched -/
theorem L_backM {u : MS} {t : State} {H1 : Heap} {locs1 : List Loc} (hw : lWd D cc cI cJ ad A s.heap S x H locs) (hA : ∀ q, s.heap.size ≤ q → A q) (ht : t.heap = H1) (hB : mAft D cI cJ ad (va_A (wsM cI cJ ad x) H.size) u t) (hz : H.size ≤ H1.size) (hk : ∀ q : Nat, q < H.size → ¬ va_A (wsM cI cJ ad x) H.size q → H1[q]? = H[q]?) (hS1 : va_S A s.heap H1 locs1) : lWd D cc cI cJ ad A s.heap (setNx S H1.size) u H1 locs1 := by
  obtain ⟨hc, hPm, hDm, hdj⟩ := hw
  obtain ⟨hP1, hK1, hD1⟩ := hB
  rw [ht] at hP1
  refine ⟨⟨hc.1, rfl, ?_, hc.2.2.2.1, hS1⟩, hP1, ?_, hdj⟩
  · rw [cPs_setNx]
    refine hc.2.2.1.kept (fun k q hq => hk q.1 ((hc.2.2.1 k q hq).lt) (fun z => ?_))
    rcases z with ⟨k2, e2, h2⟩ | h2
    · have hm := List.mem_of_getElem? hq
      obtain ⟨a, ha, ea⟩ := List.mem_map.mp hm
      have : a = q.1 := congrArg Prod.fst ea
      exact hdj _ (wsM_in h2) (this ▸ ha)
    · have := (hc.2.2.1 k q hq).lt
      omega
  · refine hD1.weaken (fun k q hq h => ?_)
    rcases h with ⟨k2, e2, h2⟩ | h2
    · exact hDm.2 k2 (q.1, e2) h2
    · exact hA _ (Nat.le_trans hc.2.2.2.2.1 h2)
theorem L_freeM (hw : lWd D cc cI cJ ad A s.heap S x H locs) (hA : ∀ q, s.heap.size ≤ q → A q) : ∀ q, va_A (wsM cI cJ ad x) H.size q → A q := fun q h => by
  rcases h with ⟨k, e, h⟩ | h
  · exact hw.2.2.1.2 k (q, e) h
  · exact hA q (Nat.le_trans hw.1.2.2.2.2.1 h)
variable {rm : Room} {u : MS}
theorem L_mi (Sx : CallFix p m c bb nL s args Ts own) (hA : ∀ q, s.heap.size ≤ q → A q) (hK : va_K D vwCl (tyM cI cJ) s) (hw : lWd D cc cI cJ ad A s.heap S x H locs) {r : Int32} (hM : Mi l y ws rm D cI cJ ad av x (fun r' v => r' = r ∧ v = u)) (cw : CallW R s args own RX12 index y bytes maxL ret ws rm 0 0 n) (hn : av.length = n) (hsize : ls.size = nL) (hst : st0 = av.reverse ++ .ref (ad 0) :: rest) (hW : (rest.map fun v => v.category).sum ≤ 8) (hdg : decode bb pc = .ok (.invokevirtual index, 3)) (hf : cells + 0 ≤ R.cells ∧ slots + 0 ≤ R.slots)
    (kk : ∀ (j : Nat) (H1 : Heap) (locs1 : List Loc), nx S ≤ j → lWd D cc cI cJ ad A s.heap (setNx S j) u H1 locs1 → W p l e R s m args below meth c H1 locs1 cells slots Q (F0 m (pc + 3) ls (.int r :: rest))) : W p l e R s m args below meth c H locs cells slots Q (F0 m pc ls st0) := by
  have hFc := L_freeM hw hA
  refine va_calli (va_runV (As := av) (rest := rest) Sx (hM H.size) cw ⟨mBlind D cI cJ ad x H.size _, va_recv hK hw.2.1 (ci := 13) (q0 := 0) rfl rfl, fun U hU hW => ⟨rfl, by rw [hU], by rw [hU]; exact hw.2.1, va_K.moved hW.alike hK, hw.2.2.1.weaken (fun _ _ _ _ => trivial)⟩⟩ rfl hn hsize hst (lv_room hW) hdg hf) hw.1.2.2.2.2 (fun q _ h => hFc q h) hFc (fun r1 v t H1 locs1 ht hvm hp hB hz hk hS1 => ?_)
  obtain ⟨rfl, rfl⟩ := hp
  exact kk H1.size H1 locs1 (by rw [← hw.1.2.1]; exact hz) (L_backM hw hA ht hB hz hk hS1)
theorem L_ml (Sx : CallFix p m c bb nL s args Ts own) (hA : ∀ q, s.heap.size ≤ q → A q) (hK : va_K D vwCl (tyM cI cJ) s) (hw : lWd D cc cI cJ ad A s.heap S x H locs) {r : Int64} (hM : Ml l y ws rm D cI cJ ad av x (fun r' v => r' = r ∧ v = u)) (cw : CallW R s args own RX12 index y bytes maxL ret ws rm 0 0 n) (hn : av.length = n) (hsize : ls.size = nL) (hst : st0 = av.reverse ++ .ref (ad 0) :: rest) (hW : (rest.map fun v => v.category).sum ≤ 8) (hdg : decode bb pc = .ok (.invokevirtual index, 3)) (hf : cells + 0 ≤ R.cells ∧ slots + 0 ≤ R.slots)
    (kk : ∀ (j : Nat) (H1 : Heap) (locs1 : List Loc), nx S ≤ j → lWd D cc cI cJ ad A s.heap (setNx S j) u H1 locs1 → W p l e R s m args below meth c H1 locs1 cells slots Q (F0 m (pc + 3) ls (.long r :: rest))) : W p l e R s m args below meth c H locs cells slots Q (F0 m pc ls st0) := by
  have hFc := L_freeM hw hA
  refine va_calll (va_runV (As := av) (rest := rest) Sx (hM H.size) cw ⟨mBlind D cI cJ ad x H.size _, va_recv hK hw.2.1 (ci := 13) (q0 := 0) rfl rfl, fun U hU hW => ⟨rfl, by rw [hU], by rw [hU]; exact hw.2.1, va_K.moved hW.alike hK, hw.2.2.1.weaken (fun _ _ _ _ => trivial)⟩⟩ rfl hn hsize hst (lv_room hW) hdg hf) hw.1.2.2.2.2 (fun q _ h => hFc q h) hFc (fun r1 v t H1 locs1 ht hvm hp hB hz hk hS1 => ?_)
  obtain ⟨rfl, rfl⟩ := hp
  exact kk H1.size H1 locs1 (by rw [← hw.1.2.1]; exact hz) (L_backM hw hA ht hB hz hk hS1)
end LAWR

/-- what a step of the law rests on: class and reference answer alike, and what holds of both goes on -/
def SPi (Inv : Nat → CS → MS → Prop) (n : Nat × Nat) (a0 : Nat) (y1 : MethodName) (w1 : List Cond) (f1 l1 : Nat) (y2 : MethodName) (w2 : List Cond) (rm2 : Room) (av : List Value) : Prop := ∀ (k : Nat) (S : CS) (x : MS), k < 512 → Inv k S x → ∃ (r : Int32) (T : CS) (mc ms : Nat) (u : MS), (∀ (l : Launch) (D : va_G) (cc : Nat → ClassId) (E : Nat → Nat), E 0 = n.2 → Ci l y1 w1 f1 l1 D cc E (.ref a0 :: av) S r T mc ms) ∧ mc ≤ 1100 ∧ ms ≤ 14000 ∧ (∀ (l : Launch) (D : va_G) (cI cJ : ClassId) (ad : Nat → Nat), Mi l y2 w2 rm2 D cI cJ ad av x (fun r' v => r' = r ∧ v = u)) ∧ Inv (k + 1) T u
def SPl (Inv : Nat → CS → MS → Prop) (n : Nat × Nat) (a0 : Nat) (y1 : MethodName) (w1 : List Cond) (f1 l1 : Nat) (y2 : MethodName) (w2 : List Cond) (rm2 : Room) (av : List Value) : Prop := ∀ (k : Nat) (S : CS) (x : MS), k < 512 → Inv k S x → ∃ (r : Int64) (T : CS) (mc ms : Nat) (u : MS), (∀ (l : Launch) (D : va_G) (cc : Nat → ClassId) (E : Nat → Nat), E 0 = n.2 → Cl l y1 w1 f1 l1 D cc E (.ref a0 :: av) S r T mc ms) ∧ mc ≤ 1100 ∧ ms ≤ 14000 ∧ (∀ (l : Launch) (D : va_G) (cI cJ : ClassId) (ad : Nat → Nat), Ml l y2 w2 rm2 D cI cJ ad av x (fun r' v => r' = r ∧ v = u)) ∧ Inv (k + 1) T u
theorem L_arg {p : Program} {l : Launch} {e : Env} {R : Room} {s : State} {m : MethodId} {args : Array Value} {below : List Frame} {meth : Method} {c : Code} {H : Heap} {locs : List Loc} {cells slots : Nat} {Q : State → Prop} {pc : Nat} {ls : Array Slot} {rest : List Value} {A : Nat → Prop} {b L a0 a1 : Nat} {xs : Nat → Int32} {k : Nat} (hx : p.tables.exec = Jvm.exec) (hb : c.code = code) (hX : va_X b L xs s s.heap) (hbl : b < s.heap.size) (hbA : ¬ A b) (hS : va_S A s.heap H locs) (hl : lv_has ls 4 [(0, .ref b), (1, .ref a0), (2, .ref a1), (3, .int (nI (6 * k)))]) (hL : L ≤ 3072) (hk : 6 * k + 6 ≤ L) (j : Nat) (hj : j < 6) {v : Int} (hv : Int32.ofInt v = nI j) (d1 : decode code pc = .ok (.aload_n 0, 1)) (d2 : decode code (pc + 1) = .ok (.iload_n 3, 1)) (d3 : decode code (pc + 1 + 1) = .ok (.iconst v, 1)) (d4 : decode code (pc + 1 + 1 + 1) = .ok (.iadd, 1)) (d5 : decode code (pc + 1 + 1 + 1 + 1) = .ok (.iaload, 1))
    (kk : W p l e R s m args below meth c H locs cells slots Q (F0 m (pc + 5) ls (.int (xs (6 * k + j)) :: rest))) : W p l e R s m args below meth c H locs cells slots Q (F0 m pc ls rest) := by
  refine lv_aload_n hx hb d1 rfl (lv_at hl 0 rfl) ?_
  refine lv_iload_n hx hb d2 rfl (lv_at hl 3 rfl) ?_
  refine lv_iconst (v := nI j) hx hb d3 hv ?_
  refine lv_iadd hx hb d4 ?_
  have ej : nI (6 * k) + nI j = nI (6 * k + j) := nI_add _ _
  rw [ej]
  refine va_sld hx hb hX hbl hbA hS (vp_in_nI (by omega) (by omega)) d5 ?_
  rw [nI_clamp (by omega)]
  exact kk

