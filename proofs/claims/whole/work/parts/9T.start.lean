/-! THE LAW'S START: classes, what is read only -/
theorem arr_of {s : State} {A : Array Value} {ty : FieldType} (hty : ∀ C, ty ≠ .object C) (h : (Cond.arrayClass ty).before A s = true) : ∃ c : ClassId, ArrOfT s c ty ∧ va_RA s c ty := by
  obtain ⟨c, k, comp, h1, h2, h3⟩ := Cond.arrayClass_spec h
  refine ⟨c, fun N z => ⟨(fun k h => by cases h), k, h2, comp, h3⟩, ?_⟩
  cases ty with
  | object C => exact absurd rfl (hty C)
  | _ => exact h1
theorem arr_ofO {s : State} {A : Array Value} {C : String} (h : (Cond.arrayOver (.object C)).before A s = true) : ∃ c : ClassId, ArrOfT s c (.object C) ∧ va_RA s c (.object C) := by
  obtain ⟨comp, c, k, h1, -, h2, h3, h4⟩ := Cond.arrayOver_spec h
  exact ⟨c, fun N z => ⟨(fun k h => by cases h), k, h2, comp, h3⟩, k, comp, h2, h3, h1, h4⟩
theorem arr_ofA {s : State} {A : Array Value} {t : FieldType} (h : (Cond.arrayOver (.array t)).before A s = true) : ∃ c : ClassId, ArrOfT s c (.array t) ∧ va_RA s c (.array t) := by
  obtain ⟨comp, c, k, h1, h2, h3, h4⟩ := Cond.arrayOver_specA h
  exact ⟨c, fun N z => ⟨(fun k h => by cases h), k, h2, comp, h3⟩, h4⟩
set_option maxHeartbeats 8000000 in
set_option maxRecDepth 100000 in
theorem start_K {s : State} {A : Array Value} (hts : ∀ w ∈ lw_tbl, w.before A s = true) : ∃ (D : va_G) (cc : Nat → ClassId) (cI cJ : ClassId), va_K D vwCl (tyC cc) s ∧ va_K D vwCl (tyM cI cJ) s := by
  obtain ⟨k0, i0, hK0⟩ := u_known (C := RJx4a65c) (T := TJx4a65c) (N := 3) (n := 3) hts (by decide +kernel) (hts (.instantiable RJx4a65c 3) (by decide +kernel))
  obtain ⟨k1, i1, hK1⟩ := u_known (C := RX0) (T := TX0) (N := 4) (n := 4) hts (by decide +kernel) (hts (.instantiable RX0 4) (by decide +kernel))
  obtain ⟨k2, i2, hK2⟩ := u_known (C := RX1) (T := TX1) (N := 2) (n := 2) hts (by decide +kernel) (hts (.instantiable RX1 2) (by decide +kernel))
  obtain ⟨k3, i3, hK3⟩ := u_known (C := RX2) (T := TX2) (N := 11) (n := 11) hts (by decide +kernel) (hts (.instantiable RX2 11) (by decide +kernel))
  obtain ⟨k4, i4, hK4⟩ := u_known (C := RX3) (T := TX3) (N := 5) (n := 5) hts (by decide +kernel) (hts (.instantiable RX3 5) (by decide +kernel))
  obtain ⟨k5, i5, hK5⟩ := u_known (C := RX4) (T := TX4) (N := 4) (n := 4) hts (by decide +kernel) (hts (.instantiable RX4 4) (by decide +kernel))
  obtain ⟨k6, i6, hK6⟩ := u_known (C := RX5) (T := TX5) (N := 6) (n := 6) hts (by decide +kernel) (hts (.instantiable RX5 6) (by decide +kernel))
  obtain ⟨k7, i7, hK7⟩ := u_known (C := RX6) (T := TX6) (N := 5) (n := 5) hts (by decide +kernel) (hts (.instantiable RX6 5) (by decide +kernel))
  obtain ⟨k8, i8, hK8⟩ := u_known (C := RX7) (T := TX7) (N := 2) (n := 2) hts (by decide +kernel) (hts (.instantiable RX7 2) (by decide +kernel))
  obtain ⟨k9, i9, hK9⟩ := u_known (C := RX8) (T := TX8) (N := 3) (n := 3) hts (by decide +kernel) (hts (.instantiable RX8 3) (by decide +kernel))
  obtain ⟨k10, i10, hK10⟩ := u_known (C := RX9) (T := TX9) (N := 10) (n := 10) hts (by decide +kernel) (hts (.instantiable RX9 10) (by decide +kernel))
  obtain ⟨k11, i11, hK11⟩ := u_known (C := RX10) (T := TX10) (N := 3) (n := 3) hts (by decide +kernel) (hts (.instantiable RX10 3) (by decide +kernel))
  obtain ⟨k12, i12, hK12⟩ := u_known (C := RX11) (T := TX11) (N := 12) (n := 12) hts (by decide +kernel) (hts (.instantiable RX11 12) (by decide +kernel))
  obtain ⟨k13, i13, hK13⟩ := u_known (C := RX12) (T := TX12) (N := 69) (n := 69) hts (by decide +kernel) (hts (.instantiable RX12 69) (by decide +kernel))
  obtain ⟨a0, hA0⟩ := arr_of (ty := .int) (fun C h => by cases h) (hts (.arrayClass .int) (by decide +kernel))
  obtain ⟨a1, hA1⟩ := arr_of (ty := .byte) (fun C h => by cases h) (hts (.arrayClass .byte) (by decide +kernel))
  obtain ⟨a2, hA2⟩ := arr_ofO (hts (.arrayOver (.object "java/lang/Object")) (by decide +kernel))
  obtain ⟨a3, hA3⟩ := arr_ofO (hts (.arrayOver (.object RX2)) (by decide +kernel))
  obtain ⟨a4, hA4⟩ := arr_ofA (t := .int) (hts (.arrayOver (.array .int)) (by decide +kernel))
  obtain ⟨a5, hA5⟩ := arr_of (ty := .long) (fun C h => by cases h) (hts (.arrayClass .long) (by decide +kernel))
  have hC : ∀ (c : Nat) (q : vw_C), vwCl[c]? = some q → u_Kn s q.1 q.2.1 q.2.2 (([k0, k1, k2, k3, k4, k5, k6, k7, k8, k9, k10, k11, k12, k13] : List ClassId).getD c k0) (([i0, i1, i2, i3, i4, i5, i6, i7, i8, i9, i10, i11, i12, i13] : List (Nat → Nat)).getD c i0) := by
    intro c q hq
    match c, hq with
    | 0, hq => cases hq; exact hK0
    | 1, hq => cases hq; exact hK1
    | 2, hq => cases hq; exact hK2
    | 3, hq => cases hq; exact hK3
    | 4, hq => cases hq; exact hK4
    | 5, hq => cases hq; exact hK5
    | 6, hq => cases hq; exact hK6
    | 7, hq => cases hq; exact hK7
    | 8, hq => cases hq; exact hK8
    | 9, hq => cases hq; exact hK9
    | 10, hq => cases hq; exact hK10
    | 11, hq => cases hq; exact hK11
    | 12, hq => cases hq; exact hK12
    | 13, hq => cases hq; exact hK13
    | c + 14, hq => simp [vwCl] at hq
  refine ⟨(fun c => ([k0, k1, k2, k3, k4, k5, k6, k7, k8, k9, k10, k11, k12, k13] : List ClassId).getD c k0, fun c => ([i0, i1, i2, i3, i4, i5, i6, i7, i8, i9, i10, i11, i12, i13] : List (Nat → Nat)).getD c i0), fun j => ([a0, a1, a2, a3, a4] : List ClassId).getD j a0, a0, a5, ⟨hC, fun k q hq => ?_⟩, ⟨hC, fun k q hq => ?_⟩⟩
  · match k, hq with
    | 0, hq => cases hq; exact hA0
    | 1, hq => cases hq; exact hA1
    | 2, hq => cases hq; exact hA2
    | 3, hq => cases hq; exact hA3
    | 4, hq => cases hq; exact hA4
    | k + 5, hq => simp [tyC] at hq
  · match k, hq with
    | 0, hq => cases hq; exact hA0
    | 1, hq => cases hq; exact hA5
    | k + 2, hq => simp [tyM] at hq
set_option maxHeartbeats 8000000 in
set_option maxRecDepth 100000 in
theorem start_ro {s : State} {b : Nat} (hts : ∀ w ∈ lw_tbl, w.before #[Value.ref b] s = true) (hgv : (Jvm.Cond.and given_1 narrow_1).before #[Value.ref b] s = true) : ∃ E : Nat → Nat, cRO E (fun q => s.heap.size ≤ q) s s.heap ∧ E 0 < s.heap.size := by
  have hs := flat_of_before _ hgv
  have hA : ∀ a : Nat, a < s.heap.size → ¬ (fun q : Nat => s.heap.size ≤ q) a := fun a h => Nat.not_le.mpr h
  obtain ⟨ae, hae, hT⟩ := va_Tof (tm := .static "java/util/ArrayList" "DEFAULTCAPACITY_EMPTY_ELEMENTDATA" "[Ljava/lang/Object;") (ty := .object "java/lang/Object") (N := 0) (f := fun _ => .null) (by decide) (hs _ (by decide +kernel)) (va_eqt (hs (.eq (.length (.static "java/util/ArrayList" "DEFAULTCAPACITY_EMPTY_ELEMENTDATA" "[Ljava/lang/Object;")) (.int 0)) (by decide +kernel))) (fun j hj => absurd hj (Nat.not_lt_zero _)) hA
  have hz0 := va_Zref (hts (.laysStatic "java/util/ArrayList" "DEFAULTCAPACITY_EMPTY_ELEMENTDATA" "[Ljava/lang/Object;") (by decide +kernel)) (hts (.initialized "java/util/ArrayList") (by decide +kernel)) hae hA
  have hz1 := va_Zof (hts (.laysStatic "java/lang/String" "COMPACT_STRINGS" "Z") (by decide +kernel)) (hts (.initialized "java/lang/String") (by decide +kernel)) (va_eqt (hs (.eq (.static "java/lang/String" "COMPACT_STRINGS" "Z") (.int 1)) (by decide +kernel))) hA
  have hz2 := va_Zqof (hts (.laysStatic "jdk/internal/util/Preconditions" "SIOOBE_FORMATTER" "Ljava/util/function/BiFunction;") (by decide +kernel)) (hts (.initialized "jdk/internal/util/Preconditions") (by decide +kernel)) (hs (.isRef (.static "jdk/internal/util/Preconditions" "SIOOBE_FORMATTER" "Ljava/util/function/BiFunction;")) (by decide +kernel)) hA
  obtain ⟨mi, hmi⟩ := va_Mi.of (hs (.isRef (.mirror "[Ljava/lang/Object;")) (by decide +kernel))
  obtain ⟨adK, adV, hS, hK⟩ := vk_Sof (args := #[Value.ref b]) (s := s) (N := 6) (tm := fun i => .string RX5 ((sxK.getD i (0, "")).1)) (len := [4, 5, 4, 5, 3, 1]) (byt := [[110, 101, 101, 100], [115, 112, 97, 114, 101], [115, 119, 97, 112], [97, 98, 111, 118, 101], [102, 111, 114], [59]]) (A := fun q => s.heap.size ≤ q)
    (fun i hi => by
      match i, hi with
      | 0, _ => decide
      | 1, _ => decide
      | 2, _ => decide
      | 3, _ => decide
      | 4, _ => decide
      | 5, _ => decide)
    (fun i hi => by
      match i, hi with
      | 0, _ => exact hs _ (by decide +kernel)
      | 1, _ => exact hs _ (by decide +kernel)
      | 2, _ => exact hs _ (by decide +kernel)
      | 3, _ => exact hs _ (by decide +kernel)
      | 4, _ => exact hs _ (by decide +kernel)
      | 5, _ => exact hs _ (by decide +kernel))
    (fun i hi => by
      match i, hi with
      | 0, _ => exact hs _ (by decide +kernel)
      | 1, _ => exact hs _ (by decide +kernel)
      | 2, _ => exact hs _ (by decide +kernel)
      | 3, _ => exact hs _ (by decide +kernel)
      | 4, _ => exact hs _ (by decide +kernel)
      | 5, _ => exact hs _ (by decide +kernel))
    (fun i hi => by
      match i, hi with
      | 0, _ => exact hs _ (by decide +kernel)
      | 1, _ => exact hs _ (by decide +kernel)
      | 2, _ => exact hs _ (by decide +kernel)
      | 3, _ => exact hs _ (by decide +kernel)
      | 4, _ => exact hs _ (by decide +kernel)
      | 5, _ => exact hs _ (by decide +kernel))
    (fun i hi => by
      match i, hi with
      | 0, _ => exact hs _ (by decide +kernel)
      | 1, _ => exact hs _ (by decide +kernel)
      | 2, _ => exact hs _ (by decide +kernel)
      | 3, _ => exact hs _ (by decide +kernel)
      | 4, _ => exact hs _ (by decide +kernel)
      | 5, _ => exact hs _ (by decide +kernel))
    (fun i hi j hj => by
      match i, hi, j, hj with
      | 0, _, 0, _ => exact hs _ (by decide +kernel)
      | 0, _, 1, _ => exact hs _ (by decide +kernel)
      | 0, _, 2, _ => exact hs _ (by decide +kernel)
      | 0, _, 3, _ => exact hs _ (by decide +kernel)
      | 1, _, 0, _ => exact hs _ (by decide +kernel)
      | 1, _, 1, _ => exact hs _ (by decide +kernel)
      | 1, _, 2, _ => exact hs _ (by decide +kernel)
      | 1, _, 3, _ => exact hs _ (by decide +kernel)
      | 1, _, 4, _ => exact hs _ (by decide +kernel)
      | 2, _, 0, _ => exact hs _ (by decide +kernel)
      | 2, _, 1, _ => exact hs _ (by decide +kernel)
      | 2, _, 2, _ => exact hs _ (by decide +kernel)
      | 2, _, 3, _ => exact hs _ (by decide +kernel)
      | 3, _, 0, _ => exact hs _ (by decide +kernel)
      | 3, _, 1, _ => exact hs _ (by decide +kernel)
      | 3, _, 2, _ => exact hs _ (by decide +kernel)
      | 3, _, 3, _ => exact hs _ (by decide +kernel)
      | 3, _, 4, _ => exact hs _ (by decide +kernel)
      | 4, _, 0, _ => exact hs _ (by decide +kernel)
      | 4, _, 1, _ => exact hs _ (by decide +kernel)
      | 4, _, 2, _ => exact hs _ (by decide +kernel)
      | 5, _, 0, _ => exact hs _ (by decide +kernel))
    (fun i j hi hj hne => by
      match i, hi, j, hj, hne with
      | 0, _, 0, _, h => exact absurd rfl h
      | 1, _, 1, _, h => exact absurd rfl h
      | 2, _, 2, _, h => exact absurd rfl h
      | 3, _, 3, _, h => exact absurd rfl h
      | 4, _, 4, _, h => exact absurd rfl h
      | 5, _, 5, _, h => exact absurd rfl h
      | 0, _, 1, _, _ => exact Or.inl (hs _ (by decide +kernel))
      | 0, _, 2, _, _ => exact Or.inl (hs _ (by decide +kernel))
      | 0, _, 3, _, _ => exact Or.inl (hs _ (by decide +kernel))
      | 0, _, 4, _, _ => exact Or.inl (hs _ (by decide +kernel))
      | 0, _, 5, _, _ => exact Or.inl (hs _ (by decide +kernel))
      | 1, _, 2, _, _ => exact Or.inl (hs _ (by decide +kernel))
      | 1, _, 3, _, _ => exact Or.inr (hs _ (by decide +kernel))
      | 1, _, 4, _, _ => exact Or.inl (hs _ (by decide +kernel))
      | 1, _, 5, _, _ => exact Or.inl (hs _ (by decide +kernel))
      | 2, _, 3, _, _ => exact Or.inr (hs _ (by decide +kernel))
      | 2, _, 4, _, _ => exact Or.inl (hs _ (by decide +kernel))
      | 2, _, 5, _, _ => exact Or.inl (hs _ (by decide +kernel))
      | 3, _, 4, _, _ => exact Or.inl (hs _ (by decide +kernel))
      | 3, _, 5, _, _ => exact Or.inl (hs _ (by decide +kernel))
      | 4, _, 5, _, _ => exact Or.inl (hs _ (by decide +kernel))
      | 1, _, 0, _, _ => exact Or.inr (hs _ (by decide +kernel))
      | 2, _, 0, _, _ => exact Or.inr (hs _ (by decide +kernel))
      | 3, _, 0, _, _ => exact Or.inr (hs _ (by decide +kernel))
      | 4, _, 0, _, _ => exact Or.inr (hs _ (by decide +kernel))
      | 5, _, 0, _, _ => exact Or.inr (hs _ (by decide +kernel))
      | 2, _, 1, _, _ => exact Or.inr (hs _ (by decide +kernel))
      | 3, _, 1, _, _ => exact Or.inl (hs _ (by decide +kernel))
      | 4, _, 1, _, _ => exact Or.inr (hs _ (by decide +kernel))
      | 5, _, 1, _, _ => exact Or.inr (hs _ (by decide +kernel))
      | 3, _, 2, _, _ => exact Or.inl (hs _ (by decide +kernel))
      | 4, _, 2, _, _ => exact Or.inr (hs _ (by decide +kernel))
      | 5, _, 2, _, _ => exact Or.inr (hs _ (by decide +kernel))
      | 4, _, 3, _, _ => exact Or.inr (hs _ (by decide +kernel))
      | 5, _, 3, _, _ => exact Or.inr (hs _ (by decide +kernel))
      | 5, _, 4, _, _ => exact Or.inr (hs _ (by decide +kernel))) hA
  have hael : ae < s.heap.size := by
    obtain ⟨cell, hc, -⟩ := hT
    exact (Array.getElem?_eq_some_iff.mp hc).1
  have key : cRO (fun j => if j = 0 then ae else if j = 1 then mi else if j < 20 then adK (j - 10) else adV (j - 20)) (fun q => s.heap.size ≤ q) s s.heap := by
    refine ⟨fun w hw => ?_, fun w hw => ?_, hz0, hT, hz1, hz2, ?_, fun i q hq => ?_, hmi, ?_, ?_, ?_, ?_⟩
    · exact va_Nw.of rfl (hts _ (show Cond.methodLinkNest w.1 w.2.1 w.2.2 RX11 ∈ lw_tbl from (by decide +kernel : ∀ w ∈ nxN, Cond.methodLinkNest w.1 w.2.1 w.2.2 RX11 ∈ lw_tbl) w hw))
    · exact va_Nw.of rfl (hts _ ((by decide +kernel : ∀ w ∈ nxC, Cond.castable w "java/lang/Object" ∈ lw_tbl) w hw))
    · refine ⟨fun i hi => ?_, fun i j hi hj e => ?_⟩
      · have h := hS.1 i hi
        have e1 : (if 10 + i = 0 then ae else if 10 + i = 1 then mi else if 10 + i < 20 then adK (10 + i - 10) else adV (10 + i - 20)) = adK i := by
          rw [if_neg (by omega), if_neg (by omega), if_pos (by omega)]; congr 1; omega
        have e2 : (if 20 + i = 0 then ae else if 20 + i = 1 then mi else if 20 + i < 20 then adK (20 + i - 10) else adV (20 + i - 20)) = adV i := by
          rw [if_neg (by omega), if_neg (by omega), if_neg (by omega)]; congr 1; omega
        dsimp only
        rw [e1, e2]
        exact h
      · have e1 : ∀ i, i < 6 → (if 10 + i = 0 then ae else if 10 + i = 1 then mi else if 10 + i < 20 then adK (10 + i - 10) else adV (10 + i - 20)) = adK i := fun i hi => by
          rw [if_neg (by omega), if_neg (by omega), if_pos (by omega)]; congr 1; omega
        dsimp only at e
        rw [e1 i hi, e1 j hj] at e
        exact hS.2 i j hi hj e
    · have hi : i < 6 := (List.getElem?_eq_some_iff.mp hq).1
      have e1 : (if 10 + i = 0 then ae else if 10 + i = 1 then mi else if 10 + i < 20 then adK (10 + i - 10) else adV (10 + i - 20)) = adK i := by
        rw [if_neg (by omega), if_neg (by omega), if_pos (by omega)]; congr 1; omega
      show vk_R RX5 q.1 q.2 (if 10 + i = 0 then ae else if 10 + i = 1 then mi else if 10 + i < 20 then adK (10 + i - 10) else adV (10 + i - 20)) s
      rw [e1]
      have hk := hK i hi
      have eq : sxK.getD i (0, "") = q := by rw [List.getD_eq_getElem?_getD, hq]; rfl
      have hk : (Term.string RX5 (sxK.getD i (0, "")).1).eval #[Value.ref b] s none [] s = some (.ref (adK i)) := hk
      rw [eq] at hk
      exact vk_R.of (hts _ ((by decide +kernel : ∀ q ∈ sxK, Cond.stringRef RX5 q.1 q.2 ∈ lw_tbl) q (List.mem_of_getElem? hq))) hk
    · exact hts (.declares ⟨"java/lang/Object", "getClass", "()Ljava/lang/Class;"⟩) (by decide +kernel)
    · exact hts (.arrayOver (.object RX2)) (by decide +kernel)
    · exact hts (.arrayOver (.object "java/lang/Object")) (by decide +kernel)
    · exact hts (.arrayOver (.array .int)) (by decide +kernel)
  exact ⟨_, key, hael⟩
