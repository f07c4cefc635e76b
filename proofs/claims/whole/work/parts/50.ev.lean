/-! PURE: what the class's functions answer -/
theorem ev_within (a b c : Int32) : fX11_isWithin a b c = bI (isB a b c) := by
  unfold fX11_isWithin
  by_cases h1 : a < b
  · rw [if_pos h1]; exact isB_1 h1
  · rw [if_neg h1]
    by_cases h2 : c < a
    · rw [if_pos h2]; exact isB_2 h2
    · rw [if_neg h2]; exact isB_3 h1 h2
theorem ev_kind (a : Int32) : fX11_isKind a = bI (isB a 0 9) := by
  unfold fX11_isKind bnd
  exact ev_within a 0 9
theorem bI_eq0 (b : Bool) : (bI b = 0) ↔ b = false := by cases b <;> simp [bI]
theorem ev_refuse {n : Nat × Nat} {S : CS} {a : Nat} (v : Int32) (h : cD S a = 12) : fX11_refuse n S a v = some (v, uI S 251 a v) := by
  simp [fX11_refuse, grd, bnd, h]
theorem ev_accept {n : Nat × Nat} {S : CS} {a : Nat} (v : Int32) (h : cD S a = 12) : fX11_accept n S a v = some (v, uI S 251 a 0) := by
  simp [fX11_accept, grd, bnd, h]
/-- an index among n -/
theorem ix_is {n : Nat} (hn : n < 2 ^ 31) (k : Int32) : isB k 0 (nI n - 1) = ixB (nI n) k := by
  rw [Bool.eq_iff_iff, ixB_iff hn, vp_in_iff]
  simp only [isB, Bool.and_eq_true, decide_eq_true_eq, Int32.le_iff_toInt_le]
  have h0 : (0 : Int32).toInt = 0 := by decide
  have h1 : (nI n - 1).toInt = (n : Int) - 1 := by
    rcases Nat.eq_zero_or_pos n with rfl | hp
    · decide
    · have e := pk_sub (a := n) (b := 1) hp
      rw [show (1 : Int32) = nI 1 from rfl, e, nI_toInt (by omega)]
      omega
  rw [h0, h1]
  omega
/-- a list: where it lies, how many it holds, what -/
def listOk (ae : Nat) (S : CS) (r a n : Nat) (f : Nat → Nat) : Prop :=
  cD S a = 20 + r ∧ cI S (gS r) a = nI n ∧ n ≤ 20000 ∧ ∃ b, cR S (gE r) a = some b ∧ ((n = 0 ∧ b = ae) ∨ (b ≠ ae ∧ cD S b = 30 + r ∧ n ≤ cN S b ∧ 10 ≤ cN S b ∧ cN S b ≤ 30000 ∧ (∀ i, i < n → cQ S (30 + r) b i = some (f i)) ∧ ∀ i, n ≤ i → cQ S (30 + r) b i = none)) ∧ ∀ i, i < n → cD S (f i) = elk r
theorem ev_size {ae : Nat} {S : CS} {r a k : Nat} {f : Nat → Nat} (n : Nat × Nat) (h : listOk ae S r a k f) : fL_size n r S a = some (nI k) := by
  simp [fL_size, grd, h.1, h.2.1]
theorem ev_isEmpty {ae : Nat} {S : CS} {r a k : Nat} {f : Nat → Nat} (n : Nat × Nat) (h : listOk ae S r a k f) : fL_isEmpty n r S a = some (if k = 0 then 1 else 0) := by
  have hk := h.2.2.1
  simp only [fL_isEmpty, grd, h.1, h.2.1, if_true]
  by_cases h0 : k = 0
  · subst h0; rfl
  · rw [if_neg (nI_ne0 (by omega) (by omega)), if_neg h0]
theorem ev_get {ae : Nat} {S : CS} {r a k : Nat} {f : Nat → Nat} (n : Nat × Nat) (h : listOk ae S r a k f) {i : Nat} (hi : i < k) : fL_get n r S a (nI i) = some (some (f i)) := by
  obtain ⟨h1, h2, h3, b, h4, h5, h6⟩ := h
  rcases h5 with ⟨h0, -⟩ | ⟨-, g1, g2, g3, g4, g5, -⟩
  · omega
  · have e : (nI i).toNatClampNeg = i := nI_clamp (by omega)
    simp only [fL_get, fL_elem, grd, onn, h1, h2, h4, g1, e, if_true]
    rw [if_pos (nI_pos (by omega)), if_pos (nI_lt hi (by omega)), if_pos (by
      intro q
      rcases q with q | q
      · exact nI_pos (by omega) q
      · omega), g5 i hi]
/-! what a stretch of the class's work leaves as it was -/
def ext (S T : CS) : Prop := (nx S ≤ nx T ∧ ∀ q, q < nx S → cD T q = cD S q) ∧ ∀ q, cD S q ≠ 0 → cD T q = cD S q ∧ cN T q = cN S q
def keep (S T : CS) (GI GR GA GQ : List Nat) : Prop := ext S T ∧ (∀ g, g ∉ GI → ∀ q, cD S q ≠ 0 → cI T g q = cI S g q) ∧ (∀ g, g ∉ GR → ∀ q, cD S q ≠ 0 → cR T g q = cR S g q) ∧ (∀ g, g ∉ GA → ∀ q, cD S q ≠ 0 → cA T g q = cA S g q) ∧ (∀ g, g ∉ GQ → ∀ q, cD S q ≠ 0 → cQ T g q = cQ S g q)
theorem ext_rf (S : CS) : ext S S := ⟨⟨Nat.le_refl _, fun _ _ => rfl⟩, fun _ _ => ⟨rfl, rfl⟩⟩
theorem ext_tr {S T U : CS} (h : ext S T) (h2 : ext T U) : ext S U := ⟨⟨Nat.le_trans h.1.1 h2.1.1, fun q hq => (h2.1.2 q (Nat.lt_of_lt_of_le hq h.1.1)).trans (h.1.2 q hq)⟩, fun q hq => by
  have a := h.2 q hq
  have b := h2.2 q (by rw [a.1]; exact hq)
  exact ⟨b.1.trans a.1, b.2.trans a.2⟩⟩
theorem keep_rf (S : CS) : keep S S [] [] [] [] := ⟨ext_rf S, fun _ _ _ _ => rfl, fun _ _ _ _ => rfl, fun _ _ _ _ => rfl, fun _ _ _ _ => rfl⟩
theorem keep_tr {S T U : CS} {a b c d a' b' c' d' : List Nat} (h : keep S T a b c d) (h2 : keep T U a' b' c' d') : keep S U (a ++ a') (b ++ b') (c ++ c') (d ++ d') := by
  obtain ⟨e1, i1, r1, x1, q1⟩ := h
  obtain ⟨e2, i2, r2, x2, q2⟩ := h2
  have nz : ∀ q, cD S q ≠ 0 → cD T q ≠ 0 := fun q hq => by rw [(e1.2 q hq).1]; exact hq
  exact ⟨ext_tr e1 e2, fun g hg q hq => (i2 g (fun z => hg (List.mem_append_right _ z)) q (nz q hq)).trans (i1 g (fun z => hg (List.mem_append_left _ z)) q hq), fun g hg q hq => (r2 g (fun z => hg (List.mem_append_right _ z)) q (nz q hq)).trans (r1 g (fun z => hg (List.mem_append_left _ z)) q hq), fun g hg q hq => (x2 g (fun z => hg (List.mem_append_right _ z)) q (nz q hq)).trans (x1 g (fun z => hg (List.mem_append_left _ z)) q hq), fun g hg q hq => (q2 g (fun z => hg (List.mem_append_right _ z)) q (nz q hq)).trans (q1 g (fun z => hg (List.mem_append_left _ z)) q hq)⟩
theorem keep_uI (S : CS) (g a : Nat) (v : Int32) : keep S (uI S g a v) [g] [] [] [] := ⟨ext_rf S, fun k hk q _ => by rw [cI_uI]; exact congrFun (set1_n _ _ (fun z => hk (by rw [z]; exact List.mem_singleton.mpr rfl))) q, fun _ _ _ _ => rfl, fun _ _ _ _ => rfl, fun _ _ _ _ => rfl⟩
theorem keep_uR (S : CS) (g a : Nat) (v : Option Nat) : keep S (uR S g a v) [] [g] [] [] := ⟨ext_rf S, fun _ _ _ _ => rfl, fun k hk q _ => by rw [cR_uR]; exact congrFun (set1_n _ _ (fun z => hk (by rw [z]; exact List.mem_singleton.mpr rfl))) q, fun _ _ _ _ => rfl, fun _ _ _ _ => rfl⟩
theorem keep_uA (S : CS) (g a i : Nat) (v : Int32) : keep S (uA S g a i v) [] [] [g] [] := ⟨ext_rf S, fun _ _ _ _ => rfl, fun _ _ _ _ => rfl, fun k hk q _ => by rw [cA_uA]; exact congrFun (set1_n _ _ (fun z => hk (by rw [z]; exact List.mem_singleton.mpr rfl))) q, fun _ _ _ _ => rfl⟩
theorem keep_uQ (S : CS) (g a i : Nat) (v : Option Nat) : keep S (uQ S g a i v) [] [] [] [g] := ⟨ext_rf S, fun _ _ _ _ => rfl, fun _ _ _ _ => rfl, fun _ _ _ _ => rfl, fun k hk q _ => by rw [cQ_uQ]; exact congrFun (set1_n _ _ (fun z => hk (by rw [z]; exact List.mem_singleton.mpr rfl))) q⟩
theorem keep_nw {S : CS} (d n : Nat) (hf : cD S (nx S) = 0) : keep S (nw S d n) [] [] [] [] := by
  have ne : ∀ q, cD S q ≠ 0 → q ≠ nx S := fun q hq z => hq (z ▸ hf)
  exact ⟨⟨⟨Nat.le_succ _, fun q hq => by rw [cD_nw]; exact set1_n _ _ (Nat.ne_of_lt hq)⟩, fun q hq => ⟨by rw [cD_nw]; exact set1_n _ _ (ne q hq), by rw [cN_nw]; exact set1_n _ _ (ne q hq)⟩⟩, fun g _ q hq => by rw [cI_nw]; exact set1_n _ _ (ne q hq), fun g _ q hq => by rw [cR_nw]; exact set1_n _ _ (ne q hq), fun g _ q hq => by rw [cA_nw]; exact set1_n _ _ (ne q hq), fun g _ q hq => by rw [cQ_nw]; exact set1_n _ _ (ne q hq)⟩
/-- what is not yet made has no kind -/
def frsh (S : CS) : Prop := ∀ q, nx S ≤ q → cD S q = 0
theorem frsh_nw {S : CS} (d n : Nat) (h : frsh S) : frsh (nw S d n) := fun q hq => by
  rw [cD_nw]
  have hq : nx S + 1 ≤ q := hq
  rw [set1_n _ _ (by omega)]
  exact h q (by omega)
theorem keep_list {ae : Nat} {S T : CS} {GI GR GA GQ : List Nat} {r a n : Nat} {f : Nat → Nat} (hk : keep S T GI GR GA GQ) (h : listOk ae S r a n f) (h1 : gS r ∉ GI) (h2 : gE r ∉ GR) (h3 : 30 + r ∉ GQ) : listOk ae T r a n f := by
  obtain ⟨g1, g2, g3, b, g4, g5, g6⟩ := h
  have ha : cD S a ≠ 0 := by omega
  refine ⟨(hk.1.2 a ha).1.trans g1, (hk.2.1 _ h1 a ha).trans g2, g3, b, (hk.2.2.1 _ h2 a ha).trans g4, ?_, fun i hi => ?_⟩
  · rcases g5 with g5 | ⟨q0, q1, q2, q3, q4, q5, q6⟩
    · exact Or.inl g5
    · have hb : cD S b ≠ 0 := by omega
      have hN := (hk.1.2 b hb).2
      have hQ := hk.2.2.2.2 _ h3 b hb
      exact Or.inr ⟨q0, (hk.1.2 b hb).1.trans q1, by rw [hN]; exact q2, by rw [hN]; exact q3, by rw [hN]; exact q4, fun i hi => by rw [hQ]; exact q5 i hi, fun i hi => by rw [hQ]; exact q6 i hi⟩
  · have h0 : cD S (f i) ≠ 0 := by
      rw [g6 i hi]
      unfold elk
      split <;> decide
    exact (hk.1.2 _ h0).1.trans (g6 i hi)
