/-! int[13][13] -/
def mnaS (S : CS) : CS := (nx S + 14, cL S ++ (List.range 14).map (fun i => nx S + i), (fun a => if a = nx S then 62 else if nx S < a ∧ a < nx S + 14 then 55 else cD S a), (fun a => if nx S ≤ a ∧ a < nx S + 14 then 13 else cN S a), (fun g a => if nx S ≤ a ∧ a < nx S + 14 then 0 else cI S g a), (fun g a => if nx S ≤ a ∧ a < nx S + 14 then none else cR S g a), (fun k a => if nx S ≤ a ∧ a < nx S + 14 then (fun _ => 0) else cA S k a), (fun k a => if a = nx S then (fun i => if i < 13 then some (nx S + 1 + i) else none) else if nx S < a ∧ a < nx S + 14 then (fun _ => none) else cQ S k a))
theorem mna_old {cc : Nat → ClassId} {S : CS} {b : Nat} (h : b < nx S) : cellOf cc (mnaS S) b = cellOf cc S b := by
  refine cellOf_cong ?_ ?_ (fun g => ?_) (fun g => ?_) (fun g => ?_) (fun g => ?_)
  · show (if b = nx S then 62 else if nx S < b ∧ b < nx S + 14 then 55 else cD S b) = _
    rw [if_neg (by omega), if_neg (by omega)]
  · show (if nx S ≤ b ∧ b < nx S + 14 then 13 else cN S b) = _
    rw [if_neg (by omega)]
  · show (if nx S ≤ b ∧ b < nx S + 14 then 0 else cI S g b) = _
    rw [if_neg (by omega)]
  · show (if nx S ≤ b ∧ b < nx S + 14 then none else cR S g b) = _
    rw [if_neg (by omega)]
  · show (if nx S ≤ b ∧ b < nx S + 14 then (fun _ => 0) else cA S g b) = _
    rw [if_neg (by omega)]
  · show (if b = nx S then (fun i => if i < 13 then some (nx S + 1 + i) else none) else if nx S < b ∧ b < nx S + 14 then (fun _ => none) else cQ S g b) = _
    rw [if_neg (by omega), if_neg (by omega)]
theorem mna_out {cc : Nat → ClassId} {S : CS} : cellOf cc (mnaS S) (nx S) = .inl (cc 4, 13, .inr (.inr (.inr (.inr (fun i => if i < 13 then some (nx S + 1 + i) else none))))) := by
  have hd : cD (mnaS S) (nx S) = 62 := if_pos rfl
  rw [cell_62 hd]
  have hn : cN (mnaS S) (nx S) = 13 := if_pos ⟨Nat.le_refl _, by omega⟩
  have hq : cQ (mnaS S) 62 (nx S) = (fun i => if i < 13 then some (nx S + 1 + i) else none) := if_pos rfl
  rw [hn, hq]
theorem mna_row {cc : Nat → ClassId} {S : CS} {i : Nat} (h : i < 13) : cellOf cc (mnaS S) (nx S + 1 + i) = .inl (cc 0, 13, .inl (fun _ => 0)) := by
  have hd : cD (mnaS S) (nx S + 1 + i) = 55 := by
    show (if nx S + 1 + i = nx S then 62 else if nx S < nx S + 1 + i ∧ nx S + 1 + i < nx S + 14 then 55 else _) = 55
    rw [if_neg (by omega), if_pos (by omega)]
  rw [cell_A (by decide) (by decide) hd]
  have hn : cN (mnaS S) (nx S + 1 + i) = 13 := if_pos ⟨by omega, by omega⟩
  have hq : cA (mnaS S) 55 (nx S + 1 + i) = (fun _ => 0) := if_pos ⟨by omega, by omega⟩
  rw [hn, hq]
theorem mna_outer (c : ClassId) (N h0 : Nat) : ∀ i : Nat, Jvm.Free.Multi.outerC c N h0 i = arrV c N (fun j => va_rf (if j < i then some (h0 + 1 + j) else none))
  | 0 => by
    show ({ cls := c, slots := Array.replicate N .null, vm := .none } : Cell) = _
    rw [arrV_new]
    refine congrArg (arrV c N) (funext fun j => ?_)
    simp [va_rf]
  | i + 1 => by
    show (Jvm.Free.Multi.outerC c N h0 i).setSlot i (.ref (h0 + 1 + i)) = _
    rw [mna_outer c N h0 i, arrV_store]
    refine congrArg (arrV c N) (funext fun j => ?_)
    by_cases e : j = i
    · subst e
      simp [updV, va_rf]
    · by_cases h : j < i
      · simp [updV, e, h, Nat.lt_succ_of_lt h]
      · simp [updV, e, h, show ¬ j < i + 1 by omega]
theorem C_mna {p : Program} {l : Launch} {e : Env} {R : Room} {s : State} {m : MethodId} {args : Array Value} {below : List Frame} {meth : Method} {c : Code} {H : Heap} {locs : List Loc} {cells slots : Nat} {Q : State → Prop} {bb : ByteArray} {pc : Nat} {ls : Array Slot} {rest : List Value} {D : va_G} {A : Nat → Prop} {cc : Nat → ClassId} {S : CS} (hx : p.tables.exec = Jvm.exec) (hb : c.code = bb) {own : String} {index : Nat} (hown : s.vm.findClass own = some m.cls) (hclink : (Cond.classLink own index "[[I").before args s = true) (hover : va_AI s) (harr : (Cond.arrayClass .int).before args s = true) (hK : va_K D vwCl (tyC cc) s) (hA : ∀ q, s.heap.size ≤ q → A q) (hw : cWd D cc A s.heap S H locs) (hcells : cells + 14 ≤ R.cells) (hslots : slots + 182 ≤ R.slots) (hdg : decode bb pc = .ok (.multianewarray index 2, 4))
    (kk : ∀ (q : Nat) (S1 : CS) (H1 : Heap), q = nx S → S1 = mnaS S → cWd D cc A s.heap S1 H1 locs → W p l e R s m args below meth c H1 locs (cells + 14) (slots + 182) Q (F0 m (pc + 4) ls (.ref q :: rest))) : W p l e R s m args below meth c H locs cells slots Q (F0 m pc ls (.int 13 :: .int 13 :: rest)) := by
  obtain ⟨hok, hsz, hP, hD, hS⟩ := hw
  have hltL : ∀ a, a ∈ cL S → a < nx S := fun a ha => by rw [← hsz]; exact va_pl_lt (X := []) hP ha
  have hcy : s.vm.findClass (FieldType.array .int).toString = some (cc 0) := (hK.2 0 (cc 0, .int) rfl).2
  have hcA : ∃ (kA : Class) (comp : ClassId), s.vm.classes[cc 4]? = some kA ∧ kA.kind = .array comp (.array .int) := by
    obtain ⟨-, kA, h1, comp, h2⟩ := (hK.2 4 (cc 4, .array .int) rfl).1 0 (fun _ => .null)
    exact ⟨kA, comp, h1, h2⟩
  have hn4 : s.vm.findClass ("[" ++ (FieldType.array .int).toString) = some (cc 4) := (hK.2 4 (cc 4, .array .int) rfl).2
  intro T hT Xs
  obtain ⟨vm₁, cx, comp, -, fA, fC, hO, -, X', step⟩ := Xs.multianewarray2F (ty := .int) (n := 13) (k := 13) hx hown hclink (va_AI.use hover) harr (g := F0 m pc ls (.int 13 :: .int 13 :: rest)) rfl (by rw [hb]; exact hdg) rfl (by decide) (by decide) (by decide) (by decide) (by decide) rfl rfl (by show cells + (1 + 13) ≤ _; omega) (by show slots + (13 + 13 * 13) ≤ _; omega)
  have ec : some (cc 0) = some comp := hcy.symm.trans fC
  cases ec
  have ex : some (cc 4) = some cx := hn4.symm.trans fA
  cases ex
  have e13 : (13 : Int32).toNatClampNeg = 13 := by decide
  rw [e13] at X' step
  generalize hF : Jvm.Free.Multi.fill (T.setVm vm₁) (cc 4) (cc 0) 13 13 (defaultValue .int) 13 = F at X' step
  have hTh : (T.setVm vm₁).heap = H := hT
  obtain ⟨f1, f2, -, -⟩ := Jvm.Free.Multi.fill_facts (T.setVm vm₁) (cc 4) (cc 0) 13 13 (defaultValue .int) 13
  rw [hF, hTh] at f1 f2
  have hold : ∀ x : Nat, x < H.size → F.heap[x]? = H[x]? := fun x hx => by
    have := Jvm.Free.Multi.fill_old (T.setVm vm₁) (cc 4) (cc 0) 13 13 (defaultValue .int) (a := x) (by rw [hTh]; exact hx) 13
    rw [hF, hTh] at this
    exact this
  have hrow : ∀ j : Nat, j < 13 → F.heap[H.size + 1 + j]? = some (Jvm.Free.Multi.innerC (cc 0) 13 (defaultValue .int)) := fun j hj => by
    have := Jvm.Free.Multi.fill_inner (T.setVm vm₁) (cc 4) (cc 0) 13 13 (defaultValue .int) 13 j hj
    rw [hF, hTh] at this
    exact this
  rw [mna_outer] at f2
  have hz : Jvm.Free.Multi.innerC (cc 0) 13 (defaultValue .int) = vp_cell (cc 0) (13, .inl (fun _ => 0)) := by
    show ({ cls := cc 0, slots := Array.replicate 13 (.int 0), vm := .none } : Cell) = arrV (cc 0) 13 (fun _ => .int 0)
    rw [← arrV_new]
  have hcL : cL (mnaS S) = cL S ++ (List.range 14).map (fun i => nx S + i) := rfl
  have hw1 : va_pl (cL S) (cellOf cc (mnaS S)) = cPs cc S := by
    unfold va_pl cPs
    exact List.map_congr_left (fun a ha => by rw [mna_old (hltL a ha)])
  have hsplit : cPs cc (mnaS S) = cPs cc S ++ va_pl ((List.range 14).map (fun i => nx S + i)) (cellOf cc (mnaS S)) := by
    rw [← hw1]
    unfold cPs va_pl
    rw [hcL, List.map_append]
  have hw2 : ∀ (k : Nat) (q : Nat × va_E), (va_pl ((List.range 14).map (fun i => nx S + i)) (cellOf cc (mnaS S)))[k]? = some q → k < 14 ∧ q = (nx S + k, cellOf cc (mnaS S) (nx S + k)) := by
    intro k q hk
    unfold va_pl at hk
    rw [List.map_map, List.getElem?_map] at hk
    by_cases h : k < 14
    · rw [List.getElem?_range h] at hk
      exact ⟨h, (Option.some.inj hk).symm⟩
    · rw [List.getElem?_eq_none (by rw [List.length_range]; omega)] at hk
      cases hk
  have hworld : cWd D cc A s.heap (mnaS S) F.heap locs := by
    refine ⟨fun b hb => ?_, ?_, ?_, ?_, ?_⟩
    · rw [hcL]
      by_cases h : nx S ≤ b ∧ b < nx S + 14
      · exact List.mem_append_right _ (List.mem_map.mpr ⟨b - nx S, List.mem_range.mpr (by omega), by omega⟩)
      · have hb2 : cD (mnaS S) b = cD S b := by
          show (if b = nx S then 62 else if nx S < b ∧ b < nx S + 14 then 55 else cD S b) = _
          rw [if_neg (by omega), if_neg (by omega)]
        rw [hb2] at hb
        exact List.mem_append_left _ (hok b hb)
    · show F.heap.size = nx S + 14
      rw [f1, hsz]
    · rw [hsplit]
      refine (hP.kept (fun k x hx => hold x.1 ((hP k x hx).lt))).app (fun k q hk => ?_)
      obtain ⟨h, rfl⟩ := hw2 k q hk
      rcases Nat.eq_zero_or_pos k with rfl | h0
      · rw [Nat.add_zero, mna_out]
        show F.heap[nx S]? = some (vp_cell _ _)
        rw [vp_cell_q, ← hsz]
        exact f2
      · obtain ⟨j, rfl⟩ : ∃ j, k = 1 + j := ⟨k - 1, by omega⟩
        rw [← Nat.add_assoc, mna_row (by omega)]
        show F.heap[nx S + 1 + j]? = some (vp_cell _ _)
        rw [← hz, ← hsz]
        exact hrow j (by omega)
    · rw [hsplit]
      refine hD.app ⟨fun i j p q hi hj e => ?_, fun k q hk => ?_⟩ (fun i j p q hi hj => ?_)
      · obtain ⟨h1, rfl⟩ := hw2 i p hi
        obtain ⟨h2, rfl⟩ := hw2 j q hj
        have : nx S + i = nx S + j := e
        omega
      · obtain ⟨h1, rfl⟩ := hw2 k q hk
        exact hA _ (Nat.le_trans hS.1 (by show H.size ≤ nx S + k; omega))
      · obtain ⟨h2, rfl⟩ := hw2 j q hj
        have hlt := (hP i p hi).lt
        show p.1 ≠ nx S + j
        omega
    · exact ⟨by rw [f1]; exact Nat.le_trans hS.1 (by omega), fun x h1 h2 => (hold x (Nat.lt_of_lt_of_le h1 hS.1)).trans (hS.2.1 x h1 h2), hS.2.2⟩
  rw [hT, hsz] at step
  obtain ⟨t, a1, b1⟩ := kk (nx S) (mnaS S) F.heap rfl rfl hworld F rfl X'
  exact ⟨t, step t a1, b1⟩
