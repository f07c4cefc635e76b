/-! PURE: a new food bank stands for a new reference -/
def S00 (z : Nat) : CS := (z, [], fun _ => 0, fun _ => 0, fun _ _ => 0, fun _ _ => none, fun _ _ _ => 0, fun _ _ _ => none)
theorem frsh_00 (z : Nat) : frsh (S00 z) := fun _ _ => rfl
def M0 (z : Nat) : Nat → Nat → Nat := fun g i => if g = 0 then z + ([0, 1, 2, 3, 4, 5, 6, 7, 8, 9, 15, 16, 30, 31, 32, 33, 34, 35, 36] : List Nat).getD i 0 else if g = 12 then z + 17 + i else if g = 13 then (if i = 0 then z + 37 else z + 10) else if g = 14 then (if i = 0 then z + 38 else z + 11) else if g = 15 then (if i = 0 then z + 39 else z + 12) else if g = 16 then (if i = 0 then z + 40 else z + 13) else (if i = 0 then z + 41 else z + 14)
/-- a list without elements -/
def liE (n : Nat × Nat) (T : CS) (r a : Nat) : Prop := cD T a = 20 + r ∧ cI T (gS r) a = 0 ∧ cR T (gE r) a = some n.2
theorem liE_k {n : Nat × Nat} {S T : CS} {r a : Nat} (h : liE n S r a) (hk : keep S T [] [] [] []) : liE n T r a := ⟨kD hk h.1 (by omega), kI hk h.1 (by omega) (by simp) h.2.1, kR hk h.1 (by omega) (by simp) h.2.2⟩
theorem liE_ok {n : Nat × Nat} {T : CS} {r a : Nat} (h : liE n T r a) (f : Nat → Nat) : listOk n.2 T r a 0 f := ⟨h.1, h.2.1, Nat.zero_le _, n.2, h.2.2, Or.inl ⟨rfl, rfl⟩, fun i hi => absurd hi (Nat.not_lt_zero _)⟩
/-- one more field of the food bank itself: a new list -/
theorem li_new (n : Nat × Nat) {S : CS} (hf : frsh S) (r : Nat) : fL_init n r (nw S (20 + r) 0) (nx S) = some (uR (uI (nw S (20 + r) 0) (gM r) (nx S) 0) (gE r) (nx S) (some n.2)) ∧ keep S (uR (uI (nw S (20 + r) 0) (gM r) (nx S) 0) (gE r) (nx S) (some n.2)) [] [] [] [] ∧ frsh (uR (uI (nw S (20 + r) 0) (gM r) (nx S) 0) (gE r) (nx S) (some n.2)) ∧ liE n (uR (uI (nw S (20 + r) 0) (gM r) (nx S) 0) (gE r) (nx S) (some n.2)) r (nx S) := by
  have z : cD S (nx S) = 0 := hf _ (Nat.le_refl _)
  refine ⟨?_, kn_R (kn_I (kn_w (keep_rf S) hf (20 + r) 0) z _ _) z _ _, frsh_nw (20 + r) 0 hf, ?_, ?_, ?_⟩
  · have : cD (nw S (20 + r) 0) (nx S) = 20 + r := cD_new S _ _
    simp only [fL_init, grd, this, if_true]
  · exact cD_new S (20 + r) 0
  · rw [cI_uR, cI_uI, set1_n _ _ (show gS r ≠ gM r by unfold gS gM; omega), cI_nw]
    exact set1_s _ _ _
  · rw [cR_uR, set1_s, set1_s]
def kz (S T : CS) : Prop := keep S T [248, 249, 250, 251] [241, 242, 243, 244, 245, 246, 247] [] []
theorem kz_tr {S T U : CS} (h : kz S T) (h2 : kz T U) : kz S U := kpre (keep_tr h h2) (by simp) (by simp) (by simp) (by simp)
theorem kz_of {S T : CS} (h : keep S T [] [] [] []) : kz S T := kpre h (by simp) (by simp) (by simp) (by simp)
theorem kz_R {S : CS} {g a : Nat} {v : Option Nat} (hg : g ∈ [241, 242, 243, 244, 245, 246, 247]) : kz S (uR S g a v) := kpre (keep_uR S g a v) (by simp) (fun k hk => by rw [List.mem_singleton] at hk; rw [hk]; exact hg) (by simp) (by simp)
theorem kz_I {S : CS} {g a : Nat} {v : Int32} (hg : g ∈ [248, 249, 250, 251]) : kz S (uI S g a v) := kpre (keep_uI S g a v) (fun k hk => by rw [List.mem_singleton] at hk; rw [hk]; exact hg) (by simp) (by simp) (by simp)
def b6 (T : CS) (q : Nat) : Prop := cD T q = 7 ∧ cR T 140 q = some (q + 1) ∧ cR T 141 q = some (q + 2) ∧ cR T 142 q = some (q + 3) ∧ cR T 143 q = some (q + 4) ∧ (cD T (q + 1) = 42 ∧ cN T (q + 1) = 30) ∧ (cD T (q + 2) = 43 ∧ cN T (q + 2) = 30) ∧ (cD T (q + 3) = 44 ∧ cN T (q + 3) = 30) ∧ (cD T (q + 4) = 45 ∧ cN T (q + 4) = 30)
theorem b6_k {S T : CS} {q : Nat} (k : kz S T) (h : b6 S q) : b6 T q := by
  obtain ⟨x1, x2, x3, x4, x5, ⟨x6, x7⟩, ⟨x8, x9⟩, ⟨y1, y2⟩, ⟨y3, y4⟩⟩ := h
  exact ⟨kD k x1 (by decide), kR k x1 (by decide) (by decide) x2, kR k x1 (by decide) (by decide) x3, kR k x1 (by decide) (by decide) x4, kR k x1 (by decide) (by decide) x5, ⟨kD k x6 (by decide), kN k x6 (by decide) x7⟩, ⟨kD k x8 (by decide), kN k x8 (by decide) x9⟩, ⟨kD k y1 (by decide), kN k y1 (by decide) y2⟩, ⟨kD k y3 (by decide), kN k y3 (by decide) y4⟩⟩
def b5 (T : CS) (q : Nat) : Prop := cD T q = 6 ∧ cR T 120 q = some (q + 1) ∧ cD T (q + 1) = 60 ∧ cN T (q + 1) = 400 ∧ cI T 124 q = 0 ∧ cI T 125 q = -1 ∧ cR T 121 q = some (q + 2)
theorem b5_k {S T : CS} {q : Nat} (k : kz S T) (h : b5 S q) : b5 T q := by
  obtain ⟨x1, x2, x3, x4, x5, x6, x7⟩ := h
  exact ⟨kD k x1 (by decide), kR k x1 (by decide) (by decide) x2, kD k x3 (by decide), kN k x3 (by decide) x4, kI k x1 (by decide) (by decide) x5, kI k x1 (by decide) (by decide) x6, kR k x1 (by decide) (by decide) x7⟩
def b9 (T : CS) (q : Nat) : Prop := cD T q = 10 ∧ cR T 200 q = some (q + 1) ∧ cR T 201 q = some (q + 15) ∧ cR T 202 q = some (q + 16) ∧ cR T 204 q = some (q + 17) ∧ cR T 205 q = some (q + 18) ∧ cR T 206 q = some (q + 19) ∧ cR T 207 q = some (q + 20) ∧ cR T 208 q = some (q + 21) ∧ (cD T (q + 15) = 48 ∧ cN T (q + 15) = 8) ∧ (cD T (q + 16) = 49 ∧ cN T (q + 16) = 8) ∧ (cD T (q + 17) = 50 ∧ cN T (q + 17) = 256) ∧ (cD T (q + 18) = 51 ∧ cN T (q + 18) = 2048) ∧ (cD T (q + 19) = 52 ∧ cN T (q + 19) = 256) ∧ (cD T (q + 20) = 53 ∧ cN T (q + 20) = 256) ∧ cD T (q + 21) = 54 ∧ cN T (q + 21) = 15 ∧ cA T 50 (q + 17) 0 = 0
theorem b9_k {S T : CS} {q : Nat} (k : kz S T) (h : b9 S q) : b9 T q := by
  obtain ⟨x1, x2, x3, x4, x5, x6, x7, x8, x9, ⟨a1, a2⟩, ⟨a3, a4⟩, ⟨a5, a6⟩, ⟨a7, a8⟩, ⟨c1, c2⟩, ⟨c3, c4⟩, c5, c6, c7⟩ := h
  exact ⟨kD k x1 (by decide), kR k x1 (by decide) (by decide) x2, kR k x1 (by decide) (by decide) x3, kR k x1 (by decide) (by decide) x4, kR k x1 (by decide) (by decide) x5, kR k x1 (by decide) (by decide) x6, kR k x1 (by decide) (by decide) x7, kR k x1 (by decide) (by decide) x8, kR k x1 (by decide) (by decide) x9, ⟨kD k a1 (by decide), kN k a1 (by decide) a2⟩, ⟨kD k a3 (by decide), kN k a3 (by decide) a4⟩, ⟨kD k a5 (by decide), kN k a5 (by decide) a6⟩, ⟨kD k a7 (by decide), kN k a7 (by decide) a8⟩, ⟨kD k c1 (by decide), kN k c1 (by decide) c2⟩, ⟨kD k c3 (by decide), kN k c3 (by decide) c4⟩, kD k c5 (by decide), kN k c5 (by decide) c6, kA k a5 (by decide) (by decide) 0 c7⟩
def b8 (T : CS) (q : Nat) : Prop := cD T (q + 1) = 62 ∧ cN T (q + 1) = 13 ∧ ∀ i, i < 13 → cQ T 62 (q + 1) i = some (q + 2 + i) ∧ cD T (q + 2 + i) = 55 ∧ cN T (q + 2 + i) = 13 ∧ ∀ j, cA T 55 (q + 2 + i) j = 0
theorem b8_k {S T : CS} {q : Nat} (k : kz S T) (h : b8 S q) : b8 T q := ⟨kD k h.1 (by decide), kN k h.1 (by decide) h.2.1, fun i hi => have w := h.2.2 i hi; ⟨kQ k h.1 (by decide) (by decide) i w.1, kD k w.2.1 (by decide), kN k w.2.1 (by decide) w.2.2.1, fun j => kA k w.2.1 (by decide) (by decide) j (w.2.2.2 j)⟩⟩
def b7 (n : Nat × Nat) (T : CS) (q : Nat) : Prop := cD T q = 8 ∧ cR T 160 q = some (q + 1) ∧ cR T 161 q = some (q + 2) ∧ liE n T 0 (q + 1) ∧ cD T (q + 2) = 61 ∧ cN T (q + 2) = 10 ∧ ∀ i, cQ T 61 (q + 2) i = none
theorem liE_z {n : Nat × Nat} {S T : CS} {r a : Nat} (hr : r < 4) (k : kz S T) (h : liE n S r a) : liE n T r a := by
  have e1 : gS r ∉ [248, 249, 250, 251] := by
    match r, hr with
    | 0, _ => decide
    | 1, _ => decide
    | 2, _ => decide
    | 3, _ => decide
  have e2 : gE r ∉ [241, 242, 243, 244, 245, 246, 247] := by
    match r, hr with
    | 0, _ => decide
    | 1, _ => decide
    | 2, _ => decide
    | 3, _ => decide
  exact ⟨kD k h.1 (by omega), kI k h.1 (by omega) e1 h.2.1, kR k h.1 (by omega) e2 h.2.2⟩
theorem b7_k {n : Nat × Nat} {S T : CS} {q : Nat} (k : kz S T) (h : b7 n S q) : b7 n T q := by
  obtain ⟨x1, x2, x3, x4, x5, x6, x7⟩ := h
  exact ⟨kD k x1 (by decide), kR k x1 (by decide) (by decide) x2, kR k x1 (by decide) (by decide) x3, liE_z (by decide) k x4, kD k x5 (by decide), kN k x5 (by decide) x6, fun i => kQ k x5 (by decide) (by decide) i (x7 i)⟩
/-- what holds of the new food bank's parts -/
def b11 (n : Nat × Nat) (T : CS) (z : Nat) : Prop := frsh T ∧ nx T = z + 42 ∧ (∀ q, q < z → cD T q = 0) ∧ (cD T z = 12 ∧ cR T 240 z = some (z + 1) ∧ cR T 241 z = some (z + 2) ∧ cR T 242 z = some (z + 5) ∧ cR T 243 z = some (z + 6) ∧ cR T 244 z = some (z + 7) ∧ cR T 245 z = some (z + 8) ∧ cR T 246 z = some (z + 15) ∧ cR T 247 z = some (z + 37) ∧ cI T 248 z = 0 ∧ cI T 249 z = 0 ∧ cI T 250 z = 0 ∧ cI T 251 z = 0) ∧ (cD T (z + 1) = 40 ∧ cN T (z + 1) = 10 ∧ ∀ k, cA T 40 (z + 1) k = 0) ∧ b7 n T (z + 2) ∧ liE n T 1 (z + 5) ∧ liE n T 2 (z + 6) ∧ liE n T 3 (z + 7) ∧ b5 T (z + 8) ∧ b6 T (z + 10) ∧ b9 T (z + 15) ∧ cI T 209 (z + 15) = -1 ∧ b8 T (z + 15) ∧ b6 T (z + 37) ∧ cI T 144 (z + 37) = 0
set_option maxHeartbeats 4000000 in
theorem i11 (n : Nat × Nat) (z : Nat) : ∃ T, fX11_init n (nw (S00 z) 12 0) z = some (T, 41, 3729) ∧ b11 n T z := by
  have f00 := frsh_00 z
  -- the counts of what is there
  obtain ⟨A0, eA0⟩ : ∃ A, A = uR (nw (nw (S00 z) 12 0) 40 10) 240 z (some (z + 1)) := ⟨_, rfl⟩
  have fA0 : frsh A0 := by rw [eA0]; exact frsh_nw 40 10 (frsh_nw 12 0 f00)
  have nA0 : nx A0 = z + 2 := by rw [eA0]; rfl
  have lA0 : ∀ q, q < z → cD A0 q = 0 := fun q hq => by
    rw [eA0]
    show set1 (set1 (fun _ => 0) z 12) (z + 1) 40 q = 0
    rw [set1_n _ _ (show q ≠ z + 1 by omega), set1_n _ _ (show q ≠ z by omega)]
  have dA0 : cD A0 z = 12 := by
    rw [eA0]
    show set1 (set1 (fun _ => 0) z 12) (z + 1) 40 z = 12
    rw [set1_n _ _ (show z ≠ z + 1 by omega), set1_s]
  have g0 : cD (nw (nw (S00 z) 12 0) 40 10) z = 12 := by rw [eA0] at dA0; exact dA0
  have rA0 : cR A0 240 z = some (z + 1) := by rw [eA0, cR_uR, set1_s, set1_s]
  have cA0 : cD A0 (z + 1) = 40 ∧ cN A0 (z + 1) = 10 ∧ ∀ k, cA A0 40 (z + 1) k = 0 := by
    rw [eA0]
    refine ⟨set1_s _ _ _, set1_s _ _ _, fun k => ?_⟩
    rw [cA_uR, cA_nw]
    exact congrFun (set1_s _ (z + 1) _) k
  obtain ⟨A1, e1, k1, f1, n1, w1⟩ := i7 n fA0
  rw [nA0] at e1 n1 w1
  have d1 : cD A1 z = 12 := kD k1 dA0 (by decide)
  obtain ⟨A2, eA2⟩ : ∃ A, A = uR A1 241 z (some (z + 2)) := ⟨_, rfl⟩
  have f2 : frsh A2 := by rw [eA2]; exact f1
  have n2 : nx A2 = z + 5 := by rw [eA2, nx_uR, n1]
  have k2 : kz A1 A2 := by rw [eA2]; exact kz_R (by decide)
  have d2 : cD A2 z = 12 := kD k2 d1 (by decide)
  have r2 : cR A2 241 z = some (z + 2) := by rw [eA2, cR_uR, set1_s, set1_s]
  obtain ⟨l1, l2, l3, l4⟩ := li_new n f2 1
  obtain ⟨A3, eA3⟩ : ∃ A, A = uR (uI (nw A2 (20 + 1) 0) (gM 1) (nx A2) 0) (gE 1) (nx A2) (some n.2) := ⟨_, rfl⟩
  rw [← eA3] at l1 l2 l3 l4
  rw [n2] at l1 l4
  have n3 : nx A3 = z + 6 := by rw [eA3, nx_uR, nx_uI, nx_nw, n2]
  have d3 : cD A3 z = 12 := kD l2 d2 (by decide)
  obtain ⟨A4, eA4⟩ : ∃ A, A = uR A3 242 z (some (z + 5)) := ⟨_, rfl⟩
  have f4 : frsh A4 := by rw [eA4]; exact l3
  have n4 : nx A4 = z + 6 := by rw [eA4, nx_uR, n3]
  have k4 : kz A3 A4 := by rw [eA4]; exact kz_R (by decide)
  have d4 : cD A4 z = 12 := kD k4 d3 (by decide)
  have r4 : cR A4 242 z = some (z + 5) := by rw [eA4, cR_uR, set1_s, set1_s]
  obtain ⟨m1, m2, m3, m4⟩ := li_new n f4 2
  obtain ⟨A5, eA5⟩ : ∃ A, A = uR (uI (nw A4 (20 + 2) 0) (gM 2) (nx A4) 0) (gE 2) (nx A4) (some n.2) := ⟨_, rfl⟩
  rw [← eA5] at m1 m2 m3 m4
  rw [n4] at m1 m4
  have n5 : nx A5 = z + 7 := by rw [eA5, nx_uR, nx_uI, nx_nw, n4]
  have d5 : cD A5 z = 12 := kD m2 d4 (by decide)
  obtain ⟨A6, eA6⟩ : ∃ A, A = uR A5 243 z (some (z + 6)) := ⟨_, rfl⟩
  have f6 : frsh A6 := by rw [eA6]; exact m3
  have n6 : nx A6 = z + 7 := by rw [eA6, nx_uR, n5]
  have k6 : kz A5 A6 := by rw [eA6]; exact kz_R (by decide)
  have d6 : cD A6 z = 12 := kD k6 d5 (by decide)
  have r6 : cR A6 243 z = some (z + 6) := by rw [eA6, cR_uR, set1_s, set1_s]
  obtain ⟨p1, p2, p3, p4⟩ := li_new n f6 3
  obtain ⟨A7, eA7⟩ : ∃ A, A = uR (uI (nw A6 (20 + 3) 0) (gM 3) (nx A6) 0) (gE 3) (nx A6) (some n.2) := ⟨_, rfl⟩
  rw [← eA7] at p1 p2 p3 p4
  rw [n6] at p1 p4
  have n7 : nx A7 = z + 8 := by rw [eA7, nx_uR, nx_uI, nx_nw, n6]
  have d7 : cD A7 z = 12 := kD p2 d6 (by decide)
  obtain ⟨A8, eA8⟩ : ∃ A, A = uR A7 244 z (some (z + 7)) := ⟨_, rfl⟩
  have f8 : frsh A8 := by rw [eA8]; exact p3
  have n8 : nx A8 = z + 8 := by rw [eA8, nx_uR, n7]
  have k8 : kz A7 A8 := by rw [eA8]; exact kz_R (by decide)
  have d8 : cD A8 z = 12 := kD k8 d7 (by decide)
  have r8 : cR A8 244 z = some (z + 7) := by rw [eA8, cR_uR, set1_s, set1_s]
  obtain ⟨A9, e9, k9, f9, n9, w9, v9⟩ := i5 n f8
  rw [n8] at e9 n9 w9 v9
  have d9 : cD A9 z = 12 := kD k9 d8 (by decide)
  obtain ⟨B0, eB0⟩ : ∃ A, A = uR A9 245 z (some (z + 8)) := ⟨_, rfl⟩
  have g0' : frsh B0 := by rw [eB0]; exact f9
  have nB0 : nx B0 = z + 15 := by rw [eB0, nx_uR, n9]
  have kB0 : kz A9 B0 := by rw [eB0]; exact kz_R (by decide)
  have dB0 : cD B0 z = 12 := kD kB0 d9 (by decide)
  have rB0 : cR B0 245 z = some (z + 8) := by rw [eB0, cR_uR, set1_s, set1_s]
  obtain ⟨B1, eB1, kB1, fB1, nB1, wB1, vB1, uB1⟩ := i9 n g0'
  rw [nB0] at eB1 nB1 wB1 vB1 uB1
  have dB1 : cD B1 z = 12 := kD kB1 dB0 (by decide)
  obtain ⟨B2, eB2⟩ : ∃ A, A = uR B1 246 z (some (z + 15)) := ⟨_, rfl⟩
  have fB2 : frsh B2 := by rw [eB2]; exact fB1
  have nB2 : nx B2 = z + 37 := by rw [eB2, nx_uR, nB1]
  have kB2 : kz B1 B2 := by rw [eB2]; exact kz_R (by decide)
  have dB2 : cD B2 z = 12 := kD kB2 dB1 (by decide)
  have rB2 : cR B2 246 z = some (z + 15) := by rw [eB2, cR_uR, set1_s, set1_s]
  obtain ⟨B3, eB3, kB3, fB3, nB3, wB3, vB3⟩ := i6 n fB2
  rw [nB2] at eB3 nB3 wB3 vB3
  have dB3 : cD B3 z = 12 := kD kB3 dB2 (by decide)
  obtain ⟨T, eT⟩ : ∃ A, A = uI (uI (uI (uI (uR B3 247 z (some (z + 37))) 248 z 0) 249 z 0) 250 z 0) 251 z 0 := ⟨_, rfl⟩
  have kT : kz B3 T := by rw [eT]; exact kz_tr (kz_R (by decide)) (kz_tr (kz_I (by decide)) (kz_tr (kz_I (by decide)) (kz_tr (kz_I (by decide)) (kz_I (by decide)))))
  have dT : cD T z = 12 := kD kT dB3 (by decide)
  -- what is kept to the end
  have K3 : kz B2 T := kz_tr (kz_of kB3) kT
  have K1 : kz B1 T := kz_tr kB2 K3
  have K0 : kz B0 T := kz_tr (kz_of kB1) K1
  have J9 : kz A9 T := kz_tr kB0 K0
  have J8 : kz A8 T := kz_tr (kz_of k9) J9
  have J7 : kz A7 T := kz_tr k8 J8
  have J6 : kz A6 T := kz_tr (kz_of p2) J7
  have J5 : kz A5 T := kz_tr k6 J6
  have J4 : kz A4 T := kz_tr (kz_of m2) J5
  have J3 : kz A3 T := kz_tr k4 J4
  have J2 : kz A2 T := kz_tr (kz_of l2) J3
  have J1 : kz A1 T := kz_tr k2 J2
  have J0 : kz A0 T := kz_tr (kz_of k1) J1
  -- each field of the food bank itself: what comes behind leaves it
  have q241 : keep A2 T [248, 249, 250, 251] [242, 243, 244, 245, 246, 247] [] [] := by
    rw [eT]
    refine kpre (keep_tr l2 (keep_tr (show keep A3 A4 [] [242] [] [] by rw [eA4]; exact keep_uR _ _ _ _) (keep_tr m2 (keep_tr (show keep A5 A6 [] [243] [] [] by rw [eA6]; exact keep_uR _ _ _ _) (keep_tr p2 (keep_tr (show keep A7 A8 [] [244] [] [] by rw [eA8]; exact keep_uR _ _ _ _) (keep_tr k9 (keep_tr (show keep A9 B0 [] [245] [] [] by rw [eB0]; exact keep_uR _ _ _ _) (keep_tr kB1 (keep_tr (show keep B1 B2 [] [246] [] [] by rw [eB2]; exact keep_uR _ _ _ _) (keep_tr kB3 (keep_tr (keep_uR B3 247 z (some (z + 37))) (keep_tr (keep_uI _ 248 z 0) (keep_tr (keep_uI _ 249 z 0) (keep_tr (keep_uI _ 250 z 0) (keep_uI _ 251 z 0)))))))))))))))) (by simp) (by simp) (by simp) (by simp)
  have q242 : keep A4 T [248, 249, 250, 251] [243, 244, 245, 246, 247] [] [] := by
    rw [eT]
    refine kpre (keep_tr m2 (keep_tr (show keep A5 A6 [] [243] [] [] by rw [eA6]; exact keep_uR _ _ _ _) (keep_tr p2 (keep_tr (show keep A7 A8 [] [244] [] [] by rw [eA8]; exact keep_uR _ _ _ _) (keep_tr k9 (keep_tr (show keep A9 B0 [] [245] [] [] by rw [eB0]; exact keep_uR _ _ _ _) (keep_tr kB1 (keep_tr (show keep B1 B2 [] [246] [] [] by rw [eB2]; exact keep_uR _ _ _ _) (keep_tr kB3 (keep_tr (keep_uR B3 247 z (some (z + 37))) (keep_tr (keep_uI _ 248 z 0) (keep_tr (keep_uI _ 249 z 0) (keep_tr (keep_uI _ 250 z 0) (keep_uI _ 251 z 0)))))))))))))) (by simp) (by simp) (by simp) (by simp)
  have q243 : keep A6 T [248, 249, 250, 251] [244, 245, 246, 247] [] [] := by
    rw [eT]
    refine kpre (keep_tr p2 (keep_tr (show keep A7 A8 [] [244] [] [] by rw [eA8]; exact keep_uR _ _ _ _) (keep_tr k9 (keep_tr (show keep A9 B0 [] [245] [] [] by rw [eB0]; exact keep_uR _ _ _ _) (keep_tr kB1 (keep_tr (show keep B1 B2 [] [246] [] [] by rw [eB2]; exact keep_uR _ _ _ _) (keep_tr kB3 (keep_tr (keep_uR B3 247 z (some (z + 37))) (keep_tr (keep_uI _ 248 z 0) (keep_tr (keep_uI _ 249 z 0) (keep_tr (keep_uI _ 250 z 0) (keep_uI _ 251 z 0)))))))))))) (by simp) (by simp) (by simp) (by simp)
  have q244 : keep A8 T [248, 249, 250, 251] [245, 246, 247] [] [] := by
    rw [eT]
    refine kpre (keep_tr k9 (keep_tr (show keep A9 B0 [] [245] [] [] by rw [eB0]; exact keep_uR _ _ _ _) (keep_tr kB1 (keep_tr (show keep B1 B2 [] [246] [] [] by rw [eB2]; exact keep_uR _ _ _ _) (keep_tr kB3 (keep_tr (keep_uR B3 247 z (some (z + 37))) (keep_tr (keep_uI _ 248 z 0) (keep_tr (keep_uI _ 249 z 0) (keep_tr (keep_uI _ 250 z 0) (keep_uI _ 251 z 0)))))))))) (by simp) (by simp) (by simp) (by simp)
  have q245 : keep B0 T [248, 249, 250, 251] [246, 247] [] [] := by
    rw [eT]
    refine kpre (keep_tr kB1 (keep_tr (show keep B1 B2 [] [246] [] [] by rw [eB2]; exact keep_uR _ _ _ _) (keep_tr kB3 (keep_tr (keep_uR B3 247 z (some (z + 37))) (keep_tr (keep_uI _ 248 z 0) (keep_tr (keep_uI _ 249 z 0) (keep_tr (keep_uI _ 250 z 0) (keep_uI _ 251 z 0)))))))) (by simp) (by simp) (by simp) (by simp)
  have q246 : keep B2 T [248, 249, 250, 251] [247] [] [] := by
    rw [eT]
    refine kpre (keep_tr kB3 (keep_tr (keep_uR B3 247 z (some (z + 37))) (keep_tr (keep_uI _ 248 z 0) (keep_tr (keep_uI _ 249 z 0) (keep_tr (keep_uI _ 250 z 0) (keep_uI _ 251 z 0)))))) (by simp) (by simp) (by simp) (by simp)
  have nT : nx T = z + 42 := by rw [eT, nx_uI, nx_uI, nx_uI, nx_uI, nx_uR, nB3]
  refine ⟨T, ?_, by rw [eT]; exact fB3, nT, fun q hq => ?_, ⟨dT, kR J0 dA0 (by decide) (by decide) rA0, kR q241 d2 (by decide) (by decide) r2, kR q242 d4 (by decide) (by decide) r4, kR q243 d6 (by decide) (by decide) r6, kR q244 d8 (by decide) (by decide) r8, kR q245 dB0 (by decide) (by decide) rB0, kR q246 dB2 (by decide) (by decide) rB2, by rw [eT, cR_uI, cR_uI, cR_uI, cR_uI, cR_uR, set1_s, set1_s], ?_, ?_, ?_, ?_⟩, ⟨kD J0 cA0.1 (by decide), kN J0 cA0.1 (by decide) cA0.2.1, fun k => kA J0 cA0.1 (by decide) (by decide) k (cA0.2.2 k)⟩, b7_k J1 w1, liE_z (by decide) J3 l4, liE_z (by decide) J5 m4, liE_z (by decide) J7 p4, b5_k J9 w9, b6_k J9 v9, b9_k K1 wB1, kI K1 wB1.1 (by decide) (by decide) vB1, b8_k K1 uB1, b6_k kT wB3, kI kT wB3.1 (by decide) (by decide) vB3⟩
  · have x1 : nx (nw (S00 z) 12 0) = z + 1 := rfl
    have l1 : fL_init n 1 (nw A2 21 0) (z + 5) = some A3 := l1
    have m1 : fL_init n 2 (nw A4 22 0) (z + 6) = some A5 := m1
    have p1 : fL_init n 3 (nw A6 23 0) (z + 7) = some A7 := p1
    unfold fX11_init
    simp only [bnd, grd, cal, un2, adc, x1, g0, ← eA0, nA0, e1, d1, ← eA2, n2, l1, d3, ← eA4, n4, m1, d5, ← eA6, n6, p1, d7, ← eA8, n8, e9, d9, ← eB0, nB0, eB1, dB1, ← eB2, nB2, eB3, dB3, ← eT, if_true]
  · have h := J0.1.1.2 q (by rw [nA0]; omega)
    rw [h]
    exact lA0 q hq
  · rw [eT, cI_uI, set1_n _ _ (by decide), cI_uI, set1_n _ _ (by decide), cI_uI, set1_n _ _ (by decide), cI_uI, set1_s, set1_s]
  · rw [eT, cI_uI, set1_n _ _ (by decide), cI_uI, set1_n _ _ (by decide), cI_uI, set1_s, set1_s]
  · rw [eT, cI_uI, set1_n _ _ (by decide), cI_uI, set1_s, set1_s]
  · rw [eT, cI_uI, set1_s, set1_s]
