/-! THE CLASS'S WORLD: every cell that the class has made, by its address: kind, int fields, reference fields (each by a number of its own), arrays by kind -/
abbrev CS : Type := Nat × List Nat × (Nat → Nat) × (Nat → Nat) × (Nat → Nat → Int32) × (Nat → Nat → Option Nat) × (Nat → Nat → Nat → Int32) × (Nat → Nat → Nat → Option Nat)
def nx (S : CS) : Nat := S.1
def cL (S : CS) : List Nat := S.2.1
def cD (S : CS) : Nat → Nat := S.2.2.1
def cN (S : CS) : Nat → Nat := S.2.2.2.1
def cI (S : CS) : Nat → Nat → Int32 := S.2.2.2.2.1
def cR (S : CS) : Nat → Nat → Option Nat := S.2.2.2.2.2.1
def cA (S : CS) : Nat → Nat → Nat → Int32 := S.2.2.2.2.2.2.1
def cQ (S : CS) : Nat → Nat → Nat → Option Nat := S.2.2.2.2.2.2.2
def set1 {α : Type} (f : Nat → α) (k : Nat) (v : α) : Nat → α := fun j => if j = k then v else f j
theorem set1_s {α : Type} (f : Nat → α) (k : Nat) (v : α) : set1 f k v k = v := if_pos rfl
theorem set1_n {α : Type} (f : Nat → α) {j k : Nat} (v : α) (h : j ≠ k) : set1 f k v j = f j := if_neg h
def uI (S : CS) (g a : Nat) (v : Int32) : CS := (nx S, cL S, cD S, cN S, set1 (cI S) g (set1 (cI S g) a v), cR S, cA S, cQ S)
def uR (S : CS) (g a : Nat) (v : Option Nat) : CS := (nx S, cL S, cD S, cN S, cI S, set1 (cR S) g (set1 (cR S g) a v), cA S, cQ S)
def uA (S : CS) (k a i : Nat) (v : Int32) : CS := (nx S, cL S, cD S, cN S, cI S, cR S, set1 (cA S) k (set1 (cA S k) a (upd (cA S k a) i v)), cQ S)
def uQ (S : CS) (k a i : Nat) (v : Option Nat) : CS := (nx S, cL S, cD S, cN S, cI S, cR S, cA S, set1 (cQ S) k (set1 (cQ S k) a (va_up (cQ S k a) i v)))
/-- a new cell of kind d, of n elements (an object: 0) -/
def nw (S : CS) (d n : Nat) : CS := (nx S + 1, cL S ++ [nx S], set1 (cD S) (nx S) d, set1 (cN S) (nx S) n, fun g => set1 (cI S g) (nx S) 0, fun g => set1 (cR S g) (nx S) none, fun k => set1 (cA S k) (nx S) (fun _ => 0), fun k => set1 (cQ S k) (nx S) (fun _ => none))
/-- a whole field, a whole array at once -/
def wI (S : CS) (g : Nat) (f : Nat → Int32) : CS := (nx S, cL S, cD S, cN S, set1 (cI S) g f, cR S, cA S, cQ S)
theorem nx_uI (S : CS) (g a : Nat) (v : Int32) : nx (uI S g a v) = nx S := rfl
theorem cL_uI (S : CS) (g a : Nat) (v : Int32) : cL (uI S g a v) = cL S := rfl
theorem cD_uI (S : CS) (g a : Nat) (v : Int32) : cD (uI S g a v) = cD S := rfl
theorem cN_uI (S : CS) (g a : Nat) (v : Int32) : cN (uI S g a v) = cN S := rfl
theorem cI_uI (S : CS) (g a : Nat) (v : Int32) : cI (uI S g a v) = set1 (cI S) g (set1 (cI S g) a v) := rfl
theorem cR_uI (S : CS) (g a : Nat) (v : Int32) : cR (uI S g a v) = cR S := rfl
theorem cA_uI (S : CS) (g a : Nat) (v : Int32) : cA (uI S g a v) = cA S := rfl
theorem cQ_uI (S : CS) (g a : Nat) (v : Int32) : cQ (uI S g a v) = cQ S := rfl
theorem nx_uR (S : CS) (g a : Nat) (v : Option Nat) : nx (uR S g a v) = nx S := rfl
theorem cL_uR (S : CS) (g a : Nat) (v : Option Nat) : cL (uR S g a v) = cL S := rfl
theorem cD_uR (S : CS) (g a : Nat) (v : Option Nat) : cD (uR S g a v) = cD S := rfl
theorem cN_uR (S : CS) (g a : Nat) (v : Option Nat) : cN (uR S g a v) = cN S := rfl
theorem cI_uR (S : CS) (g a : Nat) (v : Option Nat) : cI (uR S g a v) = cI S := rfl
theorem cR_uR (S : CS) (g a : Nat) (v : Option Nat) : cR (uR S g a v) = set1 (cR S) g (set1 (cR S g) a v) := rfl
theorem cA_uR (S : CS) (g a : Nat) (v : Option Nat) : cA (uR S g a v) = cA S := rfl
theorem cQ_uR (S : CS) (g a : Nat) (v : Option Nat) : cQ (uR S g a v) = cQ S := rfl
theorem nx_uA (S : CS) (k a i : Nat) (v : Int32) : nx (uA S k a i v) = nx S := rfl
theorem cL_uA (S : CS) (k a i : Nat) (v : Int32) : cL (uA S k a i v) = cL S := rfl
theorem cD_uA (S : CS) (k a i : Nat) (v : Int32) : cD (uA S k a i v) = cD S := rfl
theorem cN_uA (S : CS) (k a i : Nat) (v : Int32) : cN (uA S k a i v) = cN S := rfl
theorem cI_uA (S : CS) (k a i : Nat) (v : Int32) : cI (uA S k a i v) = cI S := rfl
theorem cR_uA (S : CS) (k a i : Nat) (v : Int32) : cR (uA S k a i v) = cR S := rfl
theorem cA_uA (S : CS) (k a i : Nat) (v : Int32) : cA (uA S k a i v) = set1 (cA S) k (set1 (cA S k) a (upd (cA S k a) i v)) := rfl
theorem cQ_uA (S : CS) (k a i : Nat) (v : Int32) : cQ (uA S k a i v) = cQ S := rfl
theorem nx_uQ (S : CS) (k a i : Nat) (v : Option Nat) : nx (uQ S k a i v) = nx S := rfl
theorem cL_uQ (S : CS) (k a i : Nat) (v : Option Nat) : cL (uQ S k a i v) = cL S := rfl
theorem cD_uQ (S : CS) (k a i : Nat) (v : Option Nat) : cD (uQ S k a i v) = cD S := rfl
theorem cN_uQ (S : CS) (k a i : Nat) (v : Option Nat) : cN (uQ S k a i v) = cN S := rfl
theorem cI_uQ (S : CS) (k a i : Nat) (v : Option Nat) : cI (uQ S k a i v) = cI S := rfl
theorem cR_uQ (S : CS) (k a i : Nat) (v : Option Nat) : cR (uQ S k a i v) = cR S := rfl
theorem cA_uQ (S : CS) (k a i : Nat) (v : Option Nat) : cA (uQ S k a i v) = cA S := rfl
theorem cQ_uQ (S : CS) (k a i : Nat) (v : Option Nat) : cQ (uQ S k a i v) = set1 (cQ S) k (set1 (cQ S k) a (va_up (cQ S k a) i v)) := rfl
theorem nx_wI (S : CS) (g : Nat) (f : Nat → Int32) : nx (wI S g f) = nx S := rfl
theorem cL_wI (S : CS) (g : Nat) (f : Nat → Int32) : cL (wI S g f) = cL S := rfl
theorem cD_wI (S : CS) (g : Nat) (f : Nat → Int32) : cD (wI S g f) = cD S := rfl
theorem cN_wI (S : CS) (g : Nat) (f : Nat → Int32) : cN (wI S g f) = cN S := rfl
theorem cI_wI (S : CS) (g : Nat) (f : Nat → Int32) : cI (wI S g f) = set1 (cI S) g f := rfl
theorem cR_wI (S : CS) (g : Nat) (f : Nat → Int32) : cR (wI S g f) = cR S := rfl
theorem cA_wI (S : CS) (g : Nat) (f : Nat → Int32) : cA (wI S g f) = cA S := rfl
theorem cQ_wI (S : CS) (g : Nat) (f : Nat → Int32) : cQ (wI S g f) = cQ S := rfl
theorem nx_nw (S : CS) (d n : Nat) : nx (nw S d n) = nx S + 1 := rfl
theorem cL_nw (S : CS) (d n : Nat) : cL (nw S d n) = cL S ++ [nx S] := rfl
theorem cD_nw (S : CS) (d n : Nat) : cD (nw S d n) = set1 (cD S) (nx S) d := rfl
theorem cN_nw (S : CS) (d n : Nat) : cN (nw S d n) = set1 (cN S) (nx S) n := rfl
theorem cI_nw (S : CS) (d n : Nat) : cI (nw S d n) = fun g => set1 (cI S g) (nx S) 0 := rfl
theorem cR_nw (S : CS) (d n : Nat) : cR (nw S d n) = fun g => set1 (cR S g) (nx S) none := rfl
theorem cA_nw (S : CS) (d n : Nat) : cA (nw S d n) = fun k => set1 (cA S k) (nx S) (fun _ => 0) := rfl
theorem cQ_nw (S : CS) (d n : Nat) : cQ (nw S d n) = fun k => set1 (cQ S k) (nx S) (fun _ => none) := rfl
/-- the cell at an address -/
def cellOf (cc : Nat → ClassId) (S : CS) (a : Nat) : va_E :=
  if cD S a < 13 then (match cD S a with
    | 1 => .inr (1, [.int (cI S 20 a), .int (cI S 21 a), va_rf (cR S 22 a), va_rf (cR S 23 a)])
    | 2 => .inr (2, [.int (cI S 40 a), .int (cI S 41 a)])
    | 3 => .inr (3, [.int (cI S 60 a), .int (cI S 61 a), .int (cI S 62 a), .int (cI S 63 a), .int (cI S 64 a), .int (cI S 65 a), .int (cI S 66 a), .int (cI S 67 a), .int (cI S 68 a), va_rf (cR S 69 a), va_rf (cR S 70 a)])
    | 4 => .inr (4, [.int (cI S 80 a), .int (cI S 81 a), va_rf (cR S 82 a), .int (cI S 83 a), .int (cI S 84 a)])
    | 5 => .inr (5, [.int (cI S 100 a), .int (cI S 101 a), .int (cI S 102 a), va_rf (cR S 103 a)])
    | 6 => .inr (6, [va_rf (cR S 120 a), va_rf (cR S 121 a), .int (cI S 122 a), .int (cI S 123 a), .int (cI S 124 a), .int (cI S 125 a)])
    | 7 => .inr (7, [va_rf (cR S 140 a), va_rf (cR S 141 a), va_rf (cR S 142 a), va_rf (cR S 143 a), .int (cI S 144 a)])
    | 8 => .inr (8, [va_rf (cR S 160 a), va_rf (cR S 161 a)])
    | 9 => .inr (9, [va_rf (cR S 180 a), va_rf (cR S 181 a), .int (cI S 182 a)])
    | 10 => .inr (10, [va_rf (cR S 200 a), va_rf (cR S 201 a), va_rf (cR S 202 a), .int (cI S 203 a), va_rf (cR S 204 a), va_rf (cR S 205 a), va_rf (cR S 206 a), va_rf (cR S 207 a), va_rf (cR S 208 a), .int (cI S 209 a)])
    | 11 => .inr (11, [.int (cI S 220 a), .int (cI S 221 a), va_rf (cR S 222 a)])
    | 12 => .inr (12, [va_rf (cR S 240 a), va_rf (cR S 241 a), va_rf (cR S 242 a), va_rf (cR S 243 a), va_rf (cR S 244 a), va_rf (cR S 245 a), va_rf (cR S 246 a), va_rf (cR S 247 a), .int (cI S 248 a), .int (cI S 249 a), .int (cI S 250 a), .int (cI S 251 a)])
    | _ => .inr (2, []))
  else if cD S a < 30 then .inr (0, [.int (cI S (20 * cD S a) a), va_rf (cR S (20 * cD S a + 1) a), .int (cI S (20 * cD S a + 2) a)])
  else if cD S a < 40 then .inl (cc 2, cN S a, .inr (.inr (.inr (.inr (cQ S (cD S a) a)))))
  else if cD S a < 60 then .inl (cc 0, cN S a, .inl (cA S (cD S a) a))
  else if cD S a = 60 then .inl (cc 1, cN S a, .inl (cA S (cD S a) a))
  else if cD S a = 61 then .inl (cc 3, cN S a, .inr (.inr (.inr (.inr (cQ S (cD S a) a)))))
  else .inl (cc 4, cN S a, .inr (.inr (.inr (.inr (cQ S (cD S a) a)))))
/-- the arrays' classes -/
abbrev tyC (cc : Nat → ClassId) : List (ClassId × FieldType) := [(cc 0, .int), (cc 1, .byte), (cc 2, .object "java/lang/Object"), (cc 3, .object RX2), (cc 4, .array .int)]
theorem cellOf_cong {cc : Nat → ClassId} {S S' : CS} {b : Nat} (h1 : cD S' b = cD S b) (h2 : cN S' b = cN S b) (h3 : ∀ g, cI S' g b = cI S g b) (h4 : ∀ g, cR S' g b = cR S g b) (h5 : ∀ g, cA S' g b = cA S g b) (h6 : ∀ g, cQ S' g b = cQ S g b) : cellOf cc S' b = cellOf cc S b := by
  unfold cellOf
  simp only [h1, h2, h3, h4, h5, h6]
theorem cell_1 {cc : Nat → ClassId} {S : CS} {a : Nat} (h : cD S a = 1) : cellOf cc S a = .inr (1, [.int (cI S 20 a), .int (cI S 21 a), va_rf (cR S 22 a), va_rf (cR S 23 a)]) := by unfold cellOf; rw [h]; rfl
theorem cell_2 {cc : Nat → ClassId} {S : CS} {a : Nat} (h : cD S a = 2) : cellOf cc S a = .inr (2, [.int (cI S 40 a), .int (cI S 41 a)]) := by unfold cellOf; rw [h]; rfl
theorem cell_3 {cc : Nat → ClassId} {S : CS} {a : Nat} (h : cD S a = 3) : cellOf cc S a = .inr (3, [.int (cI S 60 a), .int (cI S 61 a), .int (cI S 62 a), .int (cI S 63 a), .int (cI S 64 a), .int (cI S 65 a), .int (cI S 66 a), .int (cI S 67 a), .int (cI S 68 a), va_rf (cR S 69 a), va_rf (cR S 70 a)]) := by unfold cellOf; rw [h]; rfl
theorem cell_4 {cc : Nat → ClassId} {S : CS} {a : Nat} (h : cD S a = 4) : cellOf cc S a = .inr (4, [.int (cI S 80 a), .int (cI S 81 a), va_rf (cR S 82 a), .int (cI S 83 a), .int (cI S 84 a)]) := by unfold cellOf; rw [h]; rfl
theorem cell_5 {cc : Nat → ClassId} {S : CS} {a : Nat} (h : cD S a = 5) : cellOf cc S a = .inr (5, [.int (cI S 100 a), .int (cI S 101 a), .int (cI S 102 a), va_rf (cR S 103 a)]) := by unfold cellOf; rw [h]; rfl
theorem cell_6 {cc : Nat → ClassId} {S : CS} {a : Nat} (h : cD S a = 6) : cellOf cc S a = .inr (6, [va_rf (cR S 120 a), va_rf (cR S 121 a), .int (cI S 122 a), .int (cI S 123 a), .int (cI S 124 a), .int (cI S 125 a)]) := by unfold cellOf; rw [h]; rfl
theorem cell_7 {cc : Nat → ClassId} {S : CS} {a : Nat} (h : cD S a = 7) : cellOf cc S a = .inr (7, [va_rf (cR S 140 a), va_rf (cR S 141 a), va_rf (cR S 142 a), va_rf (cR S 143 a), .int (cI S 144 a)]) := by unfold cellOf; rw [h]; rfl
theorem cell_8 {cc : Nat → ClassId} {S : CS} {a : Nat} (h : cD S a = 8) : cellOf cc S a = .inr (8, [va_rf (cR S 160 a), va_rf (cR S 161 a)]) := by unfold cellOf; rw [h]; rfl
theorem cell_9 {cc : Nat → ClassId} {S : CS} {a : Nat} (h : cD S a = 9) : cellOf cc S a = .inr (9, [va_rf (cR S 180 a), va_rf (cR S 181 a), .int (cI S 182 a)]) := by unfold cellOf; rw [h]; rfl
theorem cell_10 {cc : Nat → ClassId} {S : CS} {a : Nat} (h : cD S a = 10) : cellOf cc S a = .inr (10, [va_rf (cR S 200 a), va_rf (cR S 201 a), va_rf (cR S 202 a), .int (cI S 203 a), va_rf (cR S 204 a), va_rf (cR S 205 a), va_rf (cR S 206 a), va_rf (cR S 207 a), va_rf (cR S 208 a), .int (cI S 209 a)]) := by unfold cellOf; rw [h]; rfl
theorem cell_11 {cc : Nat → ClassId} {S : CS} {a : Nat} (h : cD S a = 11) : cellOf cc S a = .inr (11, [.int (cI S 220 a), .int (cI S 221 a), va_rf (cR S 222 a)]) := by unfold cellOf; rw [h]; rfl
theorem cell_12 {cc : Nat → ClassId} {S : CS} {a : Nat} (h : cD S a = 12) : cellOf cc S a = .inr (12, [va_rf (cR S 240 a), va_rf (cR S 241 a), va_rf (cR S 242 a), va_rf (cR S 243 a), va_rf (cR S 244 a), va_rf (cR S 245 a), va_rf (cR S 246 a), va_rf (cR S 247 a), .int (cI S 248 a), .int (cI S 249 a), .int (cI S 250 a), .int (cI S 251 a)]) := by unfold cellOf; rw [h]; rfl
theorem cell_L {cc : Nat → ClassId} {S : CS} {a r : Nat} (hr : r < 5) (h : cD S a = 20 + r) : cellOf cc S a = .inr (0, [.int (cI S (20 * (20 + r)) a), va_rf (cR S (20 * (20 + r) + 1) a), .int (cI S (20 * (20 + r) + 2) a)]) := by
  unfold cellOf; rw [h, if_neg (by omega), if_pos (by omega)]
theorem cell_O {cc : Nat → ClassId} {S : CS} {a r : Nat} (hr : r < 5) (h : cD S a = 30 + r) : cellOf cc S a = .inl (cc 2, cN S a, .inr (.inr (.inr (.inr (cQ S (30 + r) a))))) := by
  unfold cellOf; rw [h, if_neg (by omega), if_neg (by omega), if_pos (by omega)]
theorem cell_A {cc : Nat → ClassId} {S : CS} {a d : Nat} (h1 : 40 ≤ d) (h2 : d < 60) (h : cD S a = d) : cellOf cc S a = .inl (cc 0, cN S a, .inl (cA S d a)) := by
  unfold cellOf; rw [h, if_neg (by omega), if_neg (by omega), if_neg (by omega), if_pos h2]
theorem cell_B {cc : Nat → ClassId} {S : CS} {a : Nat} (h : cD S a = 60) : cellOf cc S a = .inl (cc 1, cN S a, .inl (cA S 60 a)) := by
  unfold cellOf; rw [h]; rfl
theorem cell_61 {cc : Nat → ClassId} {S : CS} {a : Nat} (h : cD S a = 61) : cellOf cc S a = .inl (cc 3, cN S a, .inr (.inr (.inr (.inr (cQ S 61 a))))) := by
  unfold cellOf; rw [h]; rfl
theorem cell_62 {cc : Nat → ClassId} {S : CS} {a : Nat} (h : cD S a = 62) : cellOf cc S a = .inl (cc 4, cN S a, .inr (.inr (.inr (.inr (cQ S 62 a))))) := by
  unfold cellOf; rw [h]; rfl
theorem off_uI {cc : Nat → ClassId} {S : CS} {g a : Nat} {v : Int32} {b : Nat} (h : b ≠ a) : cellOf cc (uI S g a v) b = cellOf cc S b := cellOf_cong rfl rfl (fun k => by rw [cI_uI]; by_cases e : k = g <;> simp [set1, e, h]) (fun _ => rfl) (fun _ => rfl) (fun _ => rfl)
theorem off_uR {cc : Nat → ClassId} {S : CS} {g a : Nat} {v : Option Nat} {b : Nat} (h : b ≠ a) : cellOf cc (uR S g a v) b = cellOf cc S b := cellOf_cong rfl rfl (fun _ => rfl) (fun k => by rw [cR_uR]; by_cases e : k = g <;> simp [set1, e, h]) (fun _ => rfl) (fun _ => rfl)
theorem off_uA {cc : Nat → ClassId} {S : CS} {k a i : Nat} {v : Int32} {b : Nat} (h : b ≠ a) : cellOf cc (uA S k a i v) b = cellOf cc S b := cellOf_cong rfl rfl (fun _ => rfl) (fun _ => rfl) (fun j => by rw [cA_uA]; by_cases e : j = k <;> simp [set1, e, h]) (fun _ => rfl)
theorem off_uQ {cc : Nat → ClassId} {S : CS} {k a i : Nat} {v : Option Nat} {b : Nat} (h : b ≠ a) : cellOf cc (uQ S k a i v) b = cellOf cc S b := cellOf_cong rfl rfl (fun _ => rfl) (fun _ => rfl) (fun _ => rfl) (fun j => by rw [cQ_uQ]; by_cases e : j = k <;> simp [set1, e, h])
theorem off_nw {cc : Nat → ClassId} {S : CS} {d n b : Nat} (h : b ≠ nx S) : cellOf cc (nw S d n) b = cellOf cc S b := cellOf_cong (set1_n _ _ h) (set1_n _ _ h) (fun _ => set1_n _ _ h) (fun _ => set1_n _ _ h) (fun _ => set1_n _ _ h) (fun _ => set1_n _ _ h)
theorem cD_new (S : CS) (d n : Nat) : cD (nw S d n) (nx S) = d := set1_s _ _ _
theorem cnew_1 {cc : Nat → ClassId} (S : CS) : cellOf cc (nw S 1 0) (nx S) = .inr (1, [.int 0, .int 0, .null, .null]) := by rw [cell_1 (cD_new S _ _)]; simp [cI_nw, cR_nw, set1, va_rf]
theorem pu_20 {cc : Nat → ClassId} {S : CS} {a : Nat} (h : cD S a = 1) (v : Int32) : cellOf cc (uI S 20 a v) a = .inr (1, ([.int (cI S 20 a), .int (cI S 21 a), va_rf (cR S 22 a), va_rf (cR S 23 a)]).set 0 (.int v)) := by rw [cell_1 (S := uI S 20 a v) h]; simp [cI_uI, cR_uI, set1]
theorem pu_21 {cc : Nat → ClassId} {S : CS} {a : Nat} (h : cD S a = 1) (v : Int32) : cellOf cc (uI S 21 a v) a = .inr (1, ([.int (cI S 20 a), .int (cI S 21 a), va_rf (cR S 22 a), va_rf (cR S 23 a)]).set 1 (.int v)) := by rw [cell_1 (S := uI S 21 a v) h]; simp [cI_uI, cR_uI, set1]
theorem pu_22 {cc : Nat → ClassId} {S : CS} {a : Nat} (h : cD S a = 1) (v : Option Nat) : cellOf cc (uR S 22 a v) a = .inr (1, ([.int (cI S 20 a), .int (cI S 21 a), va_rf (cR S 22 a), va_rf (cR S 23 a)]).set 2 (va_rf v)) := by rw [cell_1 (S := uR S 22 a v) h]; simp [cI_uR, cR_uR, set1]
theorem pu_23 {cc : Nat → ClassId} {S : CS} {a : Nat} (h : cD S a = 1) (v : Option Nat) : cellOf cc (uR S 23 a v) a = .inr (1, ([.int (cI S 20 a), .int (cI S 21 a), va_rf (cR S 22 a), va_rf (cR S 23 a)]).set 3 (va_rf v)) := by rw [cell_1 (S := uR S 23 a v) h]; simp [cI_uR, cR_uR, set1]
theorem cnew_2 {cc : Nat → ClassId} (S : CS) : cellOf cc (nw S 2 0) (nx S) = .inr (2, [.int 0, .int 0]) := by rw [cell_2 (cD_new S _ _)]; simp [cI_nw, cR_nw, set1, va_rf]
theorem pu_40 {cc : Nat → ClassId} {S : CS} {a : Nat} (h : cD S a = 2) (v : Int32) : cellOf cc (uI S 40 a v) a = .inr (2, ([.int (cI S 40 a), .int (cI S 41 a)]).set 0 (.int v)) := by rw [cell_2 (S := uI S 40 a v) h]; simp [cI_uI, cR_uI, set1]
theorem pu_41 {cc : Nat → ClassId} {S : CS} {a : Nat} (h : cD S a = 2) (v : Int32) : cellOf cc (uI S 41 a v) a = .inr (2, ([.int (cI S 40 a), .int (cI S 41 a)]).set 1 (.int v)) := by rw [cell_2 (S := uI S 41 a v) h]; simp [cI_uI, cR_uI, set1]
theorem cnew_3 {cc : Nat → ClassId} (S : CS) : cellOf cc (nw S 3 0) (nx S) = .inr (3, [.int 0, .int 0, .int 0, .int 0, .int 0, .int 0, .int 0, .int 0, .int 0, .null, .null]) := by rw [cell_3 (cD_new S _ _)]; simp [cI_nw, cR_nw, set1, va_rf]
theorem pu_60 {cc : Nat → ClassId} {S : CS} {a : Nat} (h : cD S a = 3) (v : Int32) : cellOf cc (uI S 60 a v) a = .inr (3, ([.int (cI S 60 a), .int (cI S 61 a), .int (cI S 62 a), .int (cI S 63 a), .int (cI S 64 a), .int (cI S 65 a), .int (cI S 66 a), .int (cI S 67 a), .int (cI S 68 a), va_rf (cR S 69 a), va_rf (cR S 70 a)]).set 0 (.int v)) := by rw [cell_3 (S := uI S 60 a v) h]; simp [cI_uI, cR_uI, set1]
theorem pu_61 {cc : Nat → ClassId} {S : CS} {a : Nat} (h : cD S a = 3) (v : Int32) : cellOf cc (uI S 61 a v) a = .inr (3, ([.int (cI S 60 a), .int (cI S 61 a), .int (cI S 62 a), .int (cI S 63 a), .int (cI S 64 a), .int (cI S 65 a), .int (cI S 66 a), .int (cI S 67 a), .int (cI S 68 a), va_rf (cR S 69 a), va_rf (cR S 70 a)]).set 1 (.int v)) := by rw [cell_3 (S := uI S 61 a v) h]; simp [cI_uI, cR_uI, set1]
theorem pu_62 {cc : Nat → ClassId} {S : CS} {a : Nat} (h : cD S a = 3) (v : Int32) : cellOf cc (uI S 62 a v) a = .inr (3, ([.int (cI S 60 a), .int (cI S 61 a), .int (cI S 62 a), .int (cI S 63 a), .int (cI S 64 a), .int (cI S 65 a), .int (cI S 66 a), .int (cI S 67 a), .int (cI S 68 a), va_rf (cR S 69 a), va_rf (cR S 70 a)]).set 2 (.int v)) := by rw [cell_3 (S := uI S 62 a v) h]; simp [cI_uI, cR_uI, set1]
theorem pu_63 {cc : Nat → ClassId} {S : CS} {a : Nat} (h : cD S a = 3) (v : Int32) : cellOf cc (uI S 63 a v) a = .inr (3, ([.int (cI S 60 a), .int (cI S 61 a), .int (cI S 62 a), .int (cI S 63 a), .int (cI S 64 a), .int (cI S 65 a), .int (cI S 66 a), .int (cI S 67 a), .int (cI S 68 a), va_rf (cR S 69 a), va_rf (cR S 70 a)]).set 3 (.int v)) := by rw [cell_3 (S := uI S 63 a v) h]; simp [cI_uI, cR_uI, set1]
theorem pu_64 {cc : Nat → ClassId} {S : CS} {a : Nat} (h : cD S a = 3) (v : Int32) : cellOf cc (uI S 64 a v) a = .inr (3, ([.int (cI S 60 a), .int (cI S 61 a), .int (cI S 62 a), .int (cI S 63 a), .int (cI S 64 a), .int (cI S 65 a), .int (cI S 66 a), .int (cI S 67 a), .int (cI S 68 a), va_rf (cR S 69 a), va_rf (cR S 70 a)]).set 4 (.int v)) := by rw [cell_3 (S := uI S 64 a v) h]; simp [cI_uI, cR_uI, set1]
theorem pu_65 {cc : Nat → ClassId} {S : CS} {a : Nat} (h : cD S a = 3) (v : Int32) : cellOf cc (uI S 65 a v) a = .inr (3, ([.int (cI S 60 a), .int (cI S 61 a), .int (cI S 62 a), .int (cI S 63 a), .int (cI S 64 a), .int (cI S 65 a), .int (cI S 66 a), .int (cI S 67 a), .int (cI S 68 a), va_rf (cR S 69 a), va_rf (cR S 70 a)]).set 5 (.int v)) := by rw [cell_3 (S := uI S 65 a v) h]; simp [cI_uI, cR_uI, set1]
theorem pu_66 {cc : Nat → ClassId} {S : CS} {a : Nat} (h : cD S a = 3) (v : Int32) : cellOf cc (uI S 66 a v) a = .inr (3, ([.int (cI S 60 a), .int (cI S 61 a), .int (cI S 62 a), .int (cI S 63 a), .int (cI S 64 a), .int (cI S 65 a), .int (cI S 66 a), .int (cI S 67 a), .int (cI S 68 a), va_rf (cR S 69 a), va_rf (cR S 70 a)]).set 6 (.int v)) := by rw [cell_3 (S := uI S 66 a v) h]; simp [cI_uI, cR_uI, set1]
theorem pu_67 {cc : Nat → ClassId} {S : CS} {a : Nat} (h : cD S a = 3) (v : Int32) : cellOf cc (uI S 67 a v) a = .inr (3, ([.int (cI S 60 a), .int (cI S 61 a), .int (cI S 62 a), .int (cI S 63 a), .int (cI S 64 a), .int (cI S 65 a), .int (cI S 66 a), .int (cI S 67 a), .int (cI S 68 a), va_rf (cR S 69 a), va_rf (cR S 70 a)]).set 7 (.int v)) := by rw [cell_3 (S := uI S 67 a v) h]; simp [cI_uI, cR_uI, set1]
theorem pu_68 {cc : Nat → ClassId} {S : CS} {a : Nat} (h : cD S a = 3) (v : Int32) : cellOf cc (uI S 68 a v) a = .inr (3, ([.int (cI S 60 a), .int (cI S 61 a), .int (cI S 62 a), .int (cI S 63 a), .int (cI S 64 a), .int (cI S 65 a), .int (cI S 66 a), .int (cI S 67 a), .int (cI S 68 a), va_rf (cR S 69 a), va_rf (cR S 70 a)]).set 8 (.int v)) := by rw [cell_3 (S := uI S 68 a v) h]; simp [cI_uI, cR_uI, set1]
theorem pu_69 {cc : Nat → ClassId} {S : CS} {a : Nat} (h : cD S a = 3) (v : Option Nat) : cellOf cc (uR S 69 a v) a = .inr (3, ([.int (cI S 60 a), .int (cI S 61 a), .int (cI S 62 a), .int (cI S 63 a), .int (cI S 64 a), .int (cI S 65 a), .int (cI S 66 a), .int (cI S 67 a), .int (cI S 68 a), va_rf (cR S 69 a), va_rf (cR S 70 a)]).set 9 (va_rf v)) := by rw [cell_3 (S := uR S 69 a v) h]; simp [cI_uR, cR_uR, set1]
theorem pu_70 {cc : Nat → ClassId} {S : CS} {a : Nat} (h : cD S a = 3) (v : Option Nat) : cellOf cc (uR S 70 a v) a = .inr (3, ([.int (cI S 60 a), .int (cI S 61 a), .int (cI S 62 a), .int (cI S 63 a), .int (cI S 64 a), .int (cI S 65 a), .int (cI S 66 a), .int (cI S 67 a), .int (cI S 68 a), va_rf (cR S 69 a), va_rf (cR S 70 a)]).set 10 (va_rf v)) := by rw [cell_3 (S := uR S 70 a v) h]; simp [cI_uR, cR_uR, set1]
theorem cnew_4 {cc : Nat → ClassId} (S : CS) : cellOf cc (nw S 4 0) (nx S) = .inr (4, [.int 0, .int 0, .null, .int 0, .int 0]) := by rw [cell_4 (cD_new S _ _)]; simp [cI_nw, cR_nw, set1, va_rf]
theorem pu_80 {cc : Nat → ClassId} {S : CS} {a : Nat} (h : cD S a = 4) (v : Int32) : cellOf cc (uI S 80 a v) a = .inr (4, ([.int (cI S 80 a), .int (cI S 81 a), va_rf (cR S 82 a), .int (cI S 83 a), .int (cI S 84 a)]).set 0 (.int v)) := by rw [cell_4 (S := uI S 80 a v) h]; simp [cI_uI, cR_uI, set1]
theorem pu_81 {cc : Nat → ClassId} {S : CS} {a : Nat} (h : cD S a = 4) (v : Int32) : cellOf cc (uI S 81 a v) a = .inr (4, ([.int (cI S 80 a), .int (cI S 81 a), va_rf (cR S 82 a), .int (cI S 83 a), .int (cI S 84 a)]).set 1 (.int v)) := by rw [cell_4 (S := uI S 81 a v) h]; simp [cI_uI, cR_uI, set1]
theorem pu_82 {cc : Nat → ClassId} {S : CS} {a : Nat} (h : cD S a = 4) (v : Option Nat) : cellOf cc (uR S 82 a v) a = .inr (4, ([.int (cI S 80 a), .int (cI S 81 a), va_rf (cR S 82 a), .int (cI S 83 a), .int (cI S 84 a)]).set 2 (va_rf v)) := by rw [cell_4 (S := uR S 82 a v) h]; simp [cI_uR, cR_uR, set1]
theorem pu_83 {cc : Nat → ClassId} {S : CS} {a : Nat} (h : cD S a = 4) (v : Int32) : cellOf cc (uI S 83 a v) a = .inr (4, ([.int (cI S 80 a), .int (cI S 81 a), va_rf (cR S 82 a), .int (cI S 83 a), .int (cI S 84 a)]).set 3 (.int v)) := by rw [cell_4 (S := uI S 83 a v) h]; simp [cI_uI, cR_uI, set1]
theorem pu_84 {cc : Nat → ClassId} {S : CS} {a : Nat} (h : cD S a = 4) (v : Int32) : cellOf cc (uI S 84 a v) a = .inr (4, ([.int (cI S 80 a), .int (cI S 81 a), va_rf (cR S 82 a), .int (cI S 83 a), .int (cI S 84 a)]).set 4 (.int v)) := by rw [cell_4 (S := uI S 84 a v) h]; simp [cI_uI, cR_uI, set1]
theorem cnew_5 {cc : Nat → ClassId} (S : CS) : cellOf cc (nw S 5 0) (nx S) = .inr (5, [.int 0, .int 0, .int 0, .null]) := by rw [cell_5 (cD_new S _ _)]; simp [cI_nw, cR_nw, set1, va_rf]
theorem pu_100 {cc : Nat → ClassId} {S : CS} {a : Nat} (h : cD S a = 5) (v : Int32) : cellOf cc (uI S 100 a v) a = .inr (5, ([.int (cI S 100 a), .int (cI S 101 a), .int (cI S 102 a), va_rf (cR S 103 a)]).set 0 (.int v)) := by rw [cell_5 (S := uI S 100 a v) h]; simp [cI_uI, cR_uI, set1]
theorem pu_101 {cc : Nat → ClassId} {S : CS} {a : Nat} (h : cD S a = 5) (v : Int32) : cellOf cc (uI S 101 a v) a = .inr (5, ([.int (cI S 100 a), .int (cI S 101 a), .int (cI S 102 a), va_rf (cR S 103 a)]).set 1 (.int v)) := by rw [cell_5 (S := uI S 101 a v) h]; simp [cI_uI, cR_uI, set1]
theorem pu_102 {cc : Nat → ClassId} {S : CS} {a : Nat} (h : cD S a = 5) (v : Int32) : cellOf cc (uI S 102 a v) a = .inr (5, ([.int (cI S 100 a), .int (cI S 101 a), .int (cI S 102 a), va_rf (cR S 103 a)]).set 2 (.int v)) := by rw [cell_5 (S := uI S 102 a v) h]; simp [cI_uI, cR_uI, set1]
theorem pu_103 {cc : Nat → ClassId} {S : CS} {a : Nat} (h : cD S a = 5) (v : Option Nat) : cellOf cc (uR S 103 a v) a = .inr (5, ([.int (cI S 100 a), .int (cI S 101 a), .int (cI S 102 a), va_rf (cR S 103 a)]).set 3 (va_rf v)) := by rw [cell_5 (S := uR S 103 a v) h]; simp [cI_uR, cR_uR, set1]
theorem cnew_6 {cc : Nat → ClassId} (S : CS) : cellOf cc (nw S 6 0) (nx S) = .inr (6, [.null, .null, .int 0, .int 0, .int 0, .int 0]) := by rw [cell_6 (cD_new S _ _)]; simp [cI_nw, cR_nw, set1, va_rf]
theorem pu_120 {cc : Nat → ClassId} {S : CS} {a : Nat} (h : cD S a = 6) (v : Option Nat) : cellOf cc (uR S 120 a v) a = .inr (6, ([va_rf (cR S 120 a), va_rf (cR S 121 a), .int (cI S 122 a), .int (cI S 123 a), .int (cI S 124 a), .int (cI S 125 a)]).set 0 (va_rf v)) := by rw [cell_6 (S := uR S 120 a v) h]; simp [cI_uR, cR_uR, set1]
theorem pu_121 {cc : Nat → ClassId} {S : CS} {a : Nat} (h : cD S a = 6) (v : Option Nat) : cellOf cc (uR S 121 a v) a = .inr (6, ([va_rf (cR S 120 a), va_rf (cR S 121 a), .int (cI S 122 a), .int (cI S 123 a), .int (cI S 124 a), .int (cI S 125 a)]).set 1 (va_rf v)) := by rw [cell_6 (S := uR S 121 a v) h]; simp [cI_uR, cR_uR, set1]
theorem pu_122 {cc : Nat → ClassId} {S : CS} {a : Nat} (h : cD S a = 6) (v : Int32) : cellOf cc (uI S 122 a v) a = .inr (6, ([va_rf (cR S 120 a), va_rf (cR S 121 a), .int (cI S 122 a), .int (cI S 123 a), .int (cI S 124 a), .int (cI S 125 a)]).set 2 (.int v)) := by rw [cell_6 (S := uI S 122 a v) h]; simp [cI_uI, cR_uI, set1]
theorem pu_123 {cc : Nat → ClassId} {S : CS} {a : Nat} (h : cD S a = 6) (v : Int32) : cellOf cc (uI S 123 a v) a = .inr (6, ([va_rf (cR S 120 a), va_rf (cR S 121 a), .int (cI S 122 a), .int (cI S 123 a), .int (cI S 124 a), .int (cI S 125 a)]).set 3 (.int v)) := by rw [cell_6 (S := uI S 123 a v) h]; simp [cI_uI, cR_uI, set1]
theorem pu_124 {cc : Nat → ClassId} {S : CS} {a : Nat} (h : cD S a = 6) (v : Int32) : cellOf cc (uI S 124 a v) a = .inr (6, ([va_rf (cR S 120 a), va_rf (cR S 121 a), .int (cI S 122 a), .int (cI S 123 a), .int (cI S 124 a), .int (cI S 125 a)]).set 4 (.int v)) := by rw [cell_6 (S := uI S 124 a v) h]; simp [cI_uI, cR_uI, set1]
theorem pu_125 {cc : Nat → ClassId} {S : CS} {a : Nat} (h : cD S a = 6) (v : Int32) : cellOf cc (uI S 125 a v) a = .inr (6, ([va_rf (cR S 120 a), va_rf (cR S 121 a), .int (cI S 122 a), .int (cI S 123 a), .int (cI S 124 a), .int (cI S 125 a)]).set 5 (.int v)) := by rw [cell_6 (S := uI S 125 a v) h]; simp [cI_uI, cR_uI, set1]
theorem cnew_7 {cc : Nat → ClassId} (S : CS) : cellOf cc (nw S 7 0) (nx S) = .inr (7, [.null, .null, .null, .null, .int 0]) := by rw [cell_7 (cD_new S _ _)]; simp [cI_nw, cR_nw, set1, va_rf]
theorem pu_140 {cc : Nat → ClassId} {S : CS} {a : Nat} (h : cD S a = 7) (v : Option Nat) : cellOf cc (uR S 140 a v) a = .inr (7, ([va_rf (cR S 140 a), va_rf (cR S 141 a), va_rf (cR S 142 a), va_rf (cR S 143 a), .int (cI S 144 a)]).set 0 (va_rf v)) := by rw [cell_7 (S := uR S 140 a v) h]; simp [cI_uR, cR_uR, set1]
theorem pu_141 {cc : Nat → ClassId} {S : CS} {a : Nat} (h : cD S a = 7) (v : Option Nat) : cellOf cc (uR S 141 a v) a = .inr (7, ([va_rf (cR S 140 a), va_rf (cR S 141 a), va_rf (cR S 142 a), va_rf (cR S 143 a), .int (cI S 144 a)]).set 1 (va_rf v)) := by rw [cell_7 (S := uR S 141 a v) h]; simp [cI_uR, cR_uR, set1]
theorem pu_142 {cc : Nat → ClassId} {S : CS} {a : Nat} (h : cD S a = 7) (v : Option Nat) : cellOf cc (uR S 142 a v) a = .inr (7, ([va_rf (cR S 140 a), va_rf (cR S 141 a), va_rf (cR S 142 a), va_rf (cR S 143 a), .int (cI S 144 a)]).set 2 (va_rf v)) := by rw [cell_7 (S := uR S 142 a v) h]; simp [cI_uR, cR_uR, set1]
theorem pu_143 {cc : Nat → ClassId} {S : CS} {a : Nat} (h : cD S a = 7) (v : Option Nat) : cellOf cc (uR S 143 a v) a = .inr (7, ([va_rf (cR S 140 a), va_rf (cR S 141 a), va_rf (cR S 142 a), va_rf (cR S 143 a), .int (cI S 144 a)]).set 3 (va_rf v)) := by rw [cell_7 (S := uR S 143 a v) h]; simp [cI_uR, cR_uR, set1]
theorem pu_144 {cc : Nat → ClassId} {S : CS} {a : Nat} (h : cD S a = 7) (v : Int32) : cellOf cc (uI S 144 a v) a = .inr (7, ([va_rf (cR S 140 a), va_rf (cR S 141 a), va_rf (cR S 142 a), va_rf (cR S 143 a), .int (cI S 144 a)]).set 4 (.int v)) := by rw [cell_7 (S := uI S 144 a v) h]; simp [cI_uI, cR_uI, set1]
theorem cnew_8 {cc : Nat → ClassId} (S : CS) : cellOf cc (nw S 8 0) (nx S) = .inr (8, [.null, .null]) := by rw [cell_8 (cD_new S _ _)]; simp [cI_nw, cR_nw, set1, va_rf]
theorem pu_160 {cc : Nat → ClassId} {S : CS} {a : Nat} (h : cD S a = 8) (v : Option Nat) : cellOf cc (uR S 160 a v) a = .inr (8, ([va_rf (cR S 160 a), va_rf (cR S 161 a)]).set 0 (va_rf v)) := by rw [cell_8 (S := uR S 160 a v) h]; simp [cI_uR, cR_uR, set1]
theorem pu_161 {cc : Nat → ClassId} {S : CS} {a : Nat} (h : cD S a = 8) (v : Option Nat) : cellOf cc (uR S 161 a v) a = .inr (8, ([va_rf (cR S 160 a), va_rf (cR S 161 a)]).set 1 (va_rf v)) := by rw [cell_8 (S := uR S 161 a v) h]; simp [cI_uR, cR_uR, set1]
theorem cnew_9 {cc : Nat → ClassId} (S : CS) : cellOf cc (nw S 9 0) (nx S) = .inr (9, [.null, .null, .int 0]) := by rw [cell_9 (cD_new S _ _)]; simp [cI_nw, cR_nw, set1, va_rf]
theorem pu_180 {cc : Nat → ClassId} {S : CS} {a : Nat} (h : cD S a = 9) (v : Option Nat) : cellOf cc (uR S 180 a v) a = .inr (9, ([va_rf (cR S 180 a), va_rf (cR S 181 a), .int (cI S 182 a)]).set 0 (va_rf v)) := by rw [cell_9 (S := uR S 180 a v) h]; simp [cI_uR, cR_uR, set1]
theorem pu_181 {cc : Nat → ClassId} {S : CS} {a : Nat} (h : cD S a = 9) (v : Option Nat) : cellOf cc (uR S 181 a v) a = .inr (9, ([va_rf (cR S 180 a), va_rf (cR S 181 a), .int (cI S 182 a)]).set 1 (va_rf v)) := by rw [cell_9 (S := uR S 181 a v) h]; simp [cI_uR, cR_uR, set1]
theorem pu_182 {cc : Nat → ClassId} {S : CS} {a : Nat} (h : cD S a = 9) (v : Int32) : cellOf cc (uI S 182 a v) a = .inr (9, ([va_rf (cR S 180 a), va_rf (cR S 181 a), .int (cI S 182 a)]).set 2 (.int v)) := by rw [cell_9 (S := uI S 182 a v) h]; simp [cI_uI, cR_uI, set1]
theorem cnew_10 {cc : Nat → ClassId} (S : CS) : cellOf cc (nw S 10 0) (nx S) = .inr (10, [.null, .null, .null, .int 0, .null, .null, .null, .null, .null, .int 0]) := by rw [cell_10 (cD_new S _ _)]; simp [cI_nw, cR_nw, set1, va_rf]
theorem pu_200 {cc : Nat → ClassId} {S : CS} {a : Nat} (h : cD S a = 10) (v : Option Nat) : cellOf cc (uR S 200 a v) a = .inr (10, ([va_rf (cR S 200 a), va_rf (cR S 201 a), va_rf (cR S 202 a), .int (cI S 203 a), va_rf (cR S 204 a), va_rf (cR S 205 a), va_rf (cR S 206 a), va_rf (cR S 207 a), va_rf (cR S 208 a), .int (cI S 209 a)]).set 0 (va_rf v)) := by rw [cell_10 (S := uR S 200 a v) h]; simp [cI_uR, cR_uR, set1]
theorem pu_201 {cc : Nat → ClassId} {S : CS} {a : Nat} (h : cD S a = 10) (v : Option Nat) : cellOf cc (uR S 201 a v) a = .inr (10, ([va_rf (cR S 200 a), va_rf (cR S 201 a), va_rf (cR S 202 a), .int (cI S 203 a), va_rf (cR S 204 a), va_rf (cR S 205 a), va_rf (cR S 206 a), va_rf (cR S 207 a), va_rf (cR S 208 a), .int (cI S 209 a)]).set 1 (va_rf v)) := by rw [cell_10 (S := uR S 201 a v) h]; simp [cI_uR, cR_uR, set1]
theorem pu_202 {cc : Nat → ClassId} {S : CS} {a : Nat} (h : cD S a = 10) (v : Option Nat) : cellOf cc (uR S 202 a v) a = .inr (10, ([va_rf (cR S 200 a), va_rf (cR S 201 a), va_rf (cR S 202 a), .int (cI S 203 a), va_rf (cR S 204 a), va_rf (cR S 205 a), va_rf (cR S 206 a), va_rf (cR S 207 a), va_rf (cR S 208 a), .int (cI S 209 a)]).set 2 (va_rf v)) := by rw [cell_10 (S := uR S 202 a v) h]; simp [cI_uR, cR_uR, set1]
theorem pu_203 {cc : Nat → ClassId} {S : CS} {a : Nat} (h : cD S a = 10) (v : Int32) : cellOf cc (uI S 203 a v) a = .inr (10, ([va_rf (cR S 200 a), va_rf (cR S 201 a), va_rf (cR S 202 a), .int (cI S 203 a), va_rf (cR S 204 a), va_rf (cR S 205 a), va_rf (cR S 206 a), va_rf (cR S 207 a), va_rf (cR S 208 a), .int (cI S 209 a)]).set 3 (.int v)) := by rw [cell_10 (S := uI S 203 a v) h]; simp [cI_uI, cR_uI, set1]
theorem pu_204 {cc : Nat → ClassId} {S : CS} {a : Nat} (h : cD S a = 10) (v : Option Nat) : cellOf cc (uR S 204 a v) a = .inr (10, ([va_rf (cR S 200 a), va_rf (cR S 201 a), va_rf (cR S 202 a), .int (cI S 203 a), va_rf (cR S 204 a), va_rf (cR S 205 a), va_rf (cR S 206 a), va_rf (cR S 207 a), va_rf (cR S 208 a), .int (cI S 209 a)]).set 4 (va_rf v)) := by rw [cell_10 (S := uR S 204 a v) h]; simp [cI_uR, cR_uR, set1]
theorem pu_205 {cc : Nat → ClassId} {S : CS} {a : Nat} (h : cD S a = 10) (v : Option Nat) : cellOf cc (uR S 205 a v) a = .inr (10, ([va_rf (cR S 200 a), va_rf (cR S 201 a), va_rf (cR S 202 a), .int (cI S 203 a), va_rf (cR S 204 a), va_rf (cR S 205 a), va_rf (cR S 206 a), va_rf (cR S 207 a), va_rf (cR S 208 a), .int (cI S 209 a)]).set 5 (va_rf v)) := by rw [cell_10 (S := uR S 205 a v) h]; simp [cI_uR, cR_uR, set1]
theorem pu_206 {cc : Nat → ClassId} {S : CS} {a : Nat} (h : cD S a = 10) (v : Option Nat) : cellOf cc (uR S 206 a v) a = .inr (10, ([va_rf (cR S 200 a), va_rf (cR S 201 a), va_rf (cR S 202 a), .int (cI S 203 a), va_rf (cR S 204 a), va_rf (cR S 205 a), va_rf (cR S 206 a), va_rf (cR S 207 a), va_rf (cR S 208 a), .int (cI S 209 a)]).set 6 (va_rf v)) := by rw [cell_10 (S := uR S 206 a v) h]; simp [cI_uR, cR_uR, set1]
theorem pu_207 {cc : Nat → ClassId} {S : CS} {a : Nat} (h : cD S a = 10) (v : Option Nat) : cellOf cc (uR S 207 a v) a = .inr (10, ([va_rf (cR S 200 a), va_rf (cR S 201 a), va_rf (cR S 202 a), .int (cI S 203 a), va_rf (cR S 204 a), va_rf (cR S 205 a), va_rf (cR S 206 a), va_rf (cR S 207 a), va_rf (cR S 208 a), .int (cI S 209 a)]).set 7 (va_rf v)) := by rw [cell_10 (S := uR S 207 a v) h]; simp [cI_uR, cR_uR, set1]
theorem pu_208 {cc : Nat → ClassId} {S : CS} {a : Nat} (h : cD S a = 10) (v : Option Nat) : cellOf cc (uR S 208 a v) a = .inr (10, ([va_rf (cR S 200 a), va_rf (cR S 201 a), va_rf (cR S 202 a), .int (cI S 203 a), va_rf (cR S 204 a), va_rf (cR S 205 a), va_rf (cR S 206 a), va_rf (cR S 207 a), va_rf (cR S 208 a), .int (cI S 209 a)]).set 8 (va_rf v)) := by rw [cell_10 (S := uR S 208 a v) h]; simp [cI_uR, cR_uR, set1]
theorem pu_209 {cc : Nat → ClassId} {S : CS} {a : Nat} (h : cD S a = 10) (v : Int32) : cellOf cc (uI S 209 a v) a = .inr (10, ([va_rf (cR S 200 a), va_rf (cR S 201 a), va_rf (cR S 202 a), .int (cI S 203 a), va_rf (cR S 204 a), va_rf (cR S 205 a), va_rf (cR S 206 a), va_rf (cR S 207 a), va_rf (cR S 208 a), .int (cI S 209 a)]).set 9 (.int v)) := by rw [cell_10 (S := uI S 209 a v) h]; simp [cI_uI, cR_uI, set1]
theorem cnew_11 {cc : Nat → ClassId} (S : CS) : cellOf cc (nw S 11 0) (nx S) = .inr (11, [.int 0, .int 0, .null]) := by rw [cell_11 (cD_new S _ _)]; simp [cI_nw, cR_nw, set1, va_rf]
theorem pu_220 {cc : Nat → ClassId} {S : CS} {a : Nat} (h : cD S a = 11) (v : Int32) : cellOf cc (uI S 220 a v) a = .inr (11, ([.int (cI S 220 a), .int (cI S 221 a), va_rf (cR S 222 a)]).set 0 (.int v)) := by rw [cell_11 (S := uI S 220 a v) h]; simp [cI_uI, cR_uI, set1]
theorem pu_221 {cc : Nat → ClassId} {S : CS} {a : Nat} (h : cD S a = 11) (v : Int32) : cellOf cc (uI S 221 a v) a = .inr (11, ([.int (cI S 220 a), .int (cI S 221 a), va_rf (cR S 222 a)]).set 1 (.int v)) := by rw [cell_11 (S := uI S 221 a v) h]; simp [cI_uI, cR_uI, set1]
theorem pu_222 {cc : Nat → ClassId} {S : CS} {a : Nat} (h : cD S a = 11) (v : Option Nat) : cellOf cc (uR S 222 a v) a = .inr (11, ([.int (cI S 220 a), .int (cI S 221 a), va_rf (cR S 222 a)]).set 2 (va_rf v)) := by rw [cell_11 (S := uR S 222 a v) h]; simp [cI_uR, cR_uR, set1]
theorem cnew_12 {cc : Nat → ClassId} (S : CS) : cellOf cc (nw S 12 0) (nx S) = .inr (12, [.null, .null, .null, .null, .null, .null, .null, .null, .int 0, .int 0, .int 0, .int 0]) := by rw [cell_12 (cD_new S _ _)]; simp [cI_nw, cR_nw, set1, va_rf]
theorem pu_240 {cc : Nat → ClassId} {S : CS} {a : Nat} (h : cD S a = 12) (v : Option Nat) : cellOf cc (uR S 240 a v) a = .inr (12, ([va_rf (cR S 240 a), va_rf (cR S 241 a), va_rf (cR S 242 a), va_rf (cR S 243 a), va_rf (cR S 244 a), va_rf (cR S 245 a), va_rf (cR S 246 a), va_rf (cR S 247 a), .int (cI S 248 a), .int (cI S 249 a), .int (cI S 250 a), .int (cI S 251 a)]).set 0 (va_rf v)) := by rw [cell_12 (S := uR S 240 a v) h]; simp [cI_uR, cR_uR, set1]
theorem pu_241 {cc : Nat → ClassId} {S : CS} {a : Nat} (h : cD S a = 12) (v : Option Nat) : cellOf cc (uR S 241 a v) a = .inr (12, ([va_rf (cR S 240 a), va_rf (cR S 241 a), va_rf (cR S 242 a), va_rf (cR S 243 a), va_rf (cR S 244 a), va_rf (cR S 245 a), va_rf (cR S 246 a), va_rf (cR S 247 a), .int (cI S 248 a), .int (cI S 249 a), .int (cI S 250 a), .int (cI S 251 a)]).set 1 (va_rf v)) := by rw [cell_12 (S := uR S 241 a v) h]; simp [cI_uR, cR_uR, set1]
theorem pu_242 {cc : Nat → ClassId} {S : CS} {a : Nat} (h : cD S a = 12) (v : Option Nat) : cellOf cc (uR S 242 a v) a = .inr (12, ([va_rf (cR S 240 a), va_rf (cR S 241 a), va_rf (cR S 242 a), va_rf (cR S 243 a), va_rf (cR S 244 a), va_rf (cR S 245 a), va_rf (cR S 246 a), va_rf (cR S 247 a), .int (cI S 248 a), .int (cI S 249 a), .int (cI S 250 a), .int (cI S 251 a)]).set 2 (va_rf v)) := by rw [cell_12 (S := uR S 242 a v) h]; simp [cI_uR, cR_uR, set1]
theorem pu_243 {cc : Nat → ClassId} {S : CS} {a : Nat} (h : cD S a = 12) (v : Option Nat) : cellOf cc (uR S 243 a v) a = .inr (12, ([va_rf (cR S 240 a), va_rf (cR S 241 a), va_rf (cR S 242 a), va_rf (cR S 243 a), va_rf (cR S 244 a), va_rf (cR S 245 a), va_rf (cR S 246 a), va_rf (cR S 247 a), .int (cI S 248 a), .int (cI S 249 a), .int (cI S 250 a), .int (cI S 251 a)]).set 3 (va_rf v)) := by rw [cell_12 (S := uR S 243 a v) h]; simp [cI_uR, cR_uR, set1]
theorem pu_244 {cc : Nat → ClassId} {S : CS} {a : Nat} (h : cD S a = 12) (v : Option Nat) : cellOf cc (uR S 244 a v) a = .inr (12, ([va_rf (cR S 240 a), va_rf (cR S 241 a), va_rf (cR S 242 a), va_rf (cR S 243 a), va_rf (cR S 244 a), va_rf (cR S 245 a), va_rf (cR S 246 a), va_rf (cR S 247 a), .int (cI S 248 a), .int (cI S 249 a), .int (cI S 250 a), .int (cI S 251 a)]).set 4 (va_rf v)) := by rw [cell_12 (S := uR S 244 a v) h]; simp [cI_uR, cR_uR, set1]
theorem pu_245 {cc : Nat → ClassId} {S : CS} {a : Nat} (h : cD S a = 12) (v : Option Nat) : cellOf cc (uR S 245 a v) a = .inr (12, ([va_rf (cR S 240 a), va_rf (cR S 241 a), va_rf (cR S 242 a), va_rf (cR S 243 a), va_rf (cR S 244 a), va_rf (cR S 245 a), va_rf (cR S 246 a), va_rf (cR S 247 a), .int (cI S 248 a), .int (cI S 249 a), .int (cI S 250 a), .int (cI S 251 a)]).set 5 (va_rf v)) := by rw [cell_12 (S := uR S 245 a v) h]; simp [cI_uR, cR_uR, set1]
theorem pu_246 {cc : Nat → ClassId} {S : CS} {a : Nat} (h : cD S a = 12) (v : Option Nat) : cellOf cc (uR S 246 a v) a = .inr (12, ([va_rf (cR S 240 a), va_rf (cR S 241 a), va_rf (cR S 242 a), va_rf (cR S 243 a), va_rf (cR S 244 a), va_rf (cR S 245 a), va_rf (cR S 246 a), va_rf (cR S 247 a), .int (cI S 248 a), .int (cI S 249 a), .int (cI S 250 a), .int (cI S 251 a)]).set 6 (va_rf v)) := by rw [cell_12 (S := uR S 246 a v) h]; simp [cI_uR, cR_uR, set1]
theorem pu_247 {cc : Nat → ClassId} {S : CS} {a : Nat} (h : cD S a = 12) (v : Option Nat) : cellOf cc (uR S 247 a v) a = .inr (12, ([va_rf (cR S 240 a), va_rf (cR S 241 a), va_rf (cR S 242 a), va_rf (cR S 243 a), va_rf (cR S 244 a), va_rf (cR S 245 a), va_rf (cR S 246 a), va_rf (cR S 247 a), .int (cI S 248 a), .int (cI S 249 a), .int (cI S 250 a), .int (cI S 251 a)]).set 7 (va_rf v)) := by rw [cell_12 (S := uR S 247 a v) h]; simp [cI_uR, cR_uR, set1]
theorem pu_248 {cc : Nat → ClassId} {S : CS} {a : Nat} (h : cD S a = 12) (v : Int32) : cellOf cc (uI S 248 a v) a = .inr (12, ([va_rf (cR S 240 a), va_rf (cR S 241 a), va_rf (cR S 242 a), va_rf (cR S 243 a), va_rf (cR S 244 a), va_rf (cR S 245 a), va_rf (cR S 246 a), va_rf (cR S 247 a), .int (cI S 248 a), .int (cI S 249 a), .int (cI S 250 a), .int (cI S 251 a)]).set 8 (.int v)) := by rw [cell_12 (S := uI S 248 a v) h]; simp [cI_uI, cR_uI, set1]
theorem pu_249 {cc : Nat → ClassId} {S : CS} {a : Nat} (h : cD S a = 12) (v : Int32) : cellOf cc (uI S 249 a v) a = .inr (12, ([va_rf (cR S 240 a), va_rf (cR S 241 a), va_rf (cR S 242 a), va_rf (cR S 243 a), va_rf (cR S 244 a), va_rf (cR S 245 a), va_rf (cR S 246 a), va_rf (cR S 247 a), .int (cI S 248 a), .int (cI S 249 a), .int (cI S 250 a), .int (cI S 251 a)]).set 9 (.int v)) := by rw [cell_12 (S := uI S 249 a v) h]; simp [cI_uI, cR_uI, set1]
theorem pu_250 {cc : Nat → ClassId} {S : CS} {a : Nat} (h : cD S a = 12) (v : Int32) : cellOf cc (uI S 250 a v) a = .inr (12, ([va_rf (cR S 240 a), va_rf (cR S 241 a), va_rf (cR S 242 a), va_rf (cR S 243 a), va_rf (cR S 244 a), va_rf (cR S 245 a), va_rf (cR S 246 a), va_rf (cR S 247 a), .int (cI S 248 a), .int (cI S 249 a), .int (cI S 250 a), .int (cI S 251 a)]).set 10 (.int v)) := by rw [cell_12 (S := uI S 250 a v) h]; simp [cI_uI, cR_uI, set1]
theorem pu_251 {cc : Nat → ClassId} {S : CS} {a : Nat} (h : cD S a = 12) (v : Int32) : cellOf cc (uI S 251 a v) a = .inr (12, ([va_rf (cR S 240 a), va_rf (cR S 241 a), va_rf (cR S 242 a), va_rf (cR S 243 a), va_rf (cR S 244 a), va_rf (cR S 245 a), va_rf (cR S 246 a), va_rf (cR S 247 a), .int (cI S 248 a), .int (cI S 249 a), .int (cI S 250 a), .int (cI S 251 a)]).set 11 (.int v)) := by rw [cell_12 (S := uI S 251 a v) h]; simp [cI_uI, cR_uI, set1]
def cPs (cc : Nat → ClassId) (S : CS) : va_W := va_pl (cL S) (cellOf cc S)
/-- the words that no method's list holds: nest mates, casts -/
def nxN : List (String × Nat × MethodName) := [(RX11, 106, yX8_init), (RX11, 15, yX7_init), (RX11, 35, yX5_init), (RX11, 42, yX9_init), (RX11, 49, yX6_init), (RX0, 41, yX11_isWithin), (RX3, 44, yX11_isWithin), (RX4, 23, yX11_isWithin), (RX5, 17, yX6_init), (RX6, 32, yX11_isWithin), (RX7, 28, yX11_isWithin), (RX7, 36, yX11_isKind), (RX9, 45, yX11_isWithin)]
def nxC : List String := [RX0, RX1, RX2, RX3, RX8]
def sxK : List (Nat × String) := [(54, "need"), (59, "spare"), (64, "swap"), (74, "above"), (84, "for"), (48, ";")]
/-- arrays of arrays of ints can be made -/
def va_AI (U : State) : Prop := (Cond.arrayOver (.array .int)).before #[] U = true
theorem va_AI.use {A : Array Value} {U : State} (h : va_AI U) : (Cond.arrayOver (.array .int)).before A U = true := h
theorem va_AI.moved {u U : State} (hvm : u.vm.Alike U.vm) (h : va_AI u) : va_AI U := Jvm.Stand.arrayOver_alikeB hvm h
/-- what is read, and never written: ArrayList's empty array, the six texts, the class files' facts -/
def cRO (E : Nat → Nat) (A : Nat → Prop) (U : State) (H : Heap) : Prop :=
  (∀ w ∈ nxN, va_Nw (.methodLinkNest w.1 w.2.1 w.2.2 RX11) U) ∧ (∀ w ∈ nxC, va_Nw (.castable w "java/lang/Object") U) ∧
  va_Z "java/util/ArrayList" "DEFAULTCAPACITY_EMPTY_ELEMENTDATA" "[Ljava/lang/Object;" (.ref (E 0)) A U H ∧ va_T (.object "java/lang/Object") (E 0) 0 (fun _ => .null) A U H ∧
  va_Z "java/lang/String" "COMPACT_STRINGS" "Z" (.int 1) A U H ∧ va_Zq "jdk/internal/util/Preconditions" "SIOOBE_FORMATTER" "Ljava/util/function/BiFunction;" A U H ∧
  vk_S 6 [4, 5, 4, 5, 3, 1] [[110, 101, 101, 100], [115, 112, 97, 114, 101], [115, 119, 97, 112], [97, 98, 111, 118, 101], [102, 111, 114], [59]] (fun i => E (10 + i)) (fun i => E (20 + i)) A U H ∧
  (∀ i : Nat, ∀ q : Nat × String, sxK[i]? = some q → vk_R RX5 q.1 q.2 (E (10 + i)) U) ∧ va_Mi "[Ljava/lang/Object;" (E 1) U ∧ va_Dc U ∧ va_AO RX2 U ∧ va_AO "java/lang/Object" U ∧ va_AI U
theorem cRO_call {E : Nat → Nat} {A B : Nat → Prop} {s U : State} {H : Heap} {locs : List Loc} (h : cRO E A s s.heap) (hS : va_S A s.heap H locs) (hB : ∀ q, B q → A q) (hU : U.heap = H) (hW : s.WarmedH U.vm) : cRO E B U U.heap := by
  obtain ⟨h1, h2, h3, h4, h5, h6, h7, h8, h9, h10, h11, h12, h13⟩ := h
  have hk : ∀ a : Nat, a < s.heap.size → ¬ A a → U.heap[a]? = s.heap[a]? := fun a p q => by rw [hU]; exact hS.2.1 a p q
  exact ⟨fun w m => va_Nw.warmM hW (h1 w m), fun w m => va_Nw.warmC hW (h2 w m), ((h3.kept hk).narrow hB).moved hW.alike, ((h4.kept hk).narrow hB).moved hW.alike, ((h5.kept hk).narrow hB).moved hW.alike, ((h6.kept hk).narrow hB).moved hW.alike, ((h7.kept hk).narrow hB).moved hW.alike, fun i q e => vk_R.warm hW (h8 i q e), h9.moved hW.alike, h10.moved hW.alike, h11.moved hW.alike, h12.moved hW.alike, h13.moved hW.alike⟩
theorem cRO_blind {E : Nat → Nat} {A : Nat → Prop} {U : State} (h : cRO E A U U.heap) (a : Array Value) (g : JFrame) (mk : MethodId) : cRO E A (U.calling g mk a) (U.calling g mk a).heap := by
  obtain ⟨h1, h2, h3, h4, h5, h6, h7, h8, h9, h10, h11, h12, h13⟩ := h
  have al : U.vm.Alike (U.calling g mk a).vm := Vm.Alike.refl U.vm
  exact ⟨fun w m => va_Nw.same rfl (u := U) rfl (h1 w m), fun w m => va_Nw.same rfl (u := U) rfl (h2 w m), h3.moved al, h4.moved al, h5.moved al, h6.moved al, h7.moved al, fun i q e => vk_R.same (u := U) rfl (h8 i q e), h9.moved al, h10.moved al, h11.moved al, h12.moved al, h13.moved al⟩
def cWd (D : va_G) (cc : Nat → ClassId) (A : Nat → Prop) (H0 : Heap) (S : CS) (H : Heap) (locs : List Loc) : Prop := (∀ a, cD S a ≠ 0 → a ∈ cL S) ∧ H.size = nx S ∧ va_P D vwCl (cPs cc S) H ∧ va_D A (cPs cc S) ∧ va_S A H0 H locs
theorem cP_get {cc : Nat → ClassId} {S : CS} {a : Nat} (h : a ∈ cL S) : ∃ k : Nat, (cPs cc S)[k]? = some (a, cellOf cc S a) := va_pl_get (X := []) h
theorem cP_set {A : Nat → Prop} {cc : Nat → ClassId} {S S' : CS} {a k : Nat} {e : va_E} (hD : va_D A (cPs cc S)) (h : a ∈ cL S) (hk : (cPs cc S)[k]? = some (a, cellOf cc S a)) (hL : cL S' = cL S) (ha : cellOf cc S' a = e) (ho : ∀ b, b ≠ a → cellOf cc S' b = cellOf cc S b) : (cPs cc S).set k (a, e) = cPs cc S' := by
  have h1 : (cPs cc S).set k (a, e) = va_pl (cL S) (va_up (cellOf cc S) a e) := va_pl_set (X := []) hD h hk
  rw [h1]
  unfold cPs
  rw [hL]
  refine va_pl_congr (fun b => ?_)
  by_cases hb : b = a
  · subst hb
    rw [ha]
    simp [va_up]
  · rw [ho b hb]
    simp [va_up, hb]
theorem nar_rf (C : String) (o : Option Nat) : narrow (.object C) (va_rf o) = va_rf o := by cases o <;> rfl
theorem nar_rfa (t : FieldType) (o : Option Nat) : narrow (.array t) (va_rf o) = va_rf o := by cases o <;> rfl
theorem fit_rf (C : String) (o : Option Nat) : fits (.object C) (va_rf o) = true := by cases o <;> rfl
theorem fit_rfa (t : FieldType) (o : Option Nat) : fits (.array t) (va_rf o) = true := by cases o <;> rfl
section CROWS
variable {p : Program} {l : Launch} {e : Env} {R : Room} {s : State} {m : MethodId} {args : Array Value} {below : List Frame} {meth : Method} {c : Code} {H : Heap} {locs : List Loc} {cells slots : Nat} {Q : State → Prop}
variable {bb : ByteArray} {pc : Nat} {ls : Array Slot} {rest : List Value} {D : va_G} {A : Nat → Prop} {cc : Nat → ClassId} {S : CS} {Ts : List Cond} {a : Nat}
theorem C_get2 (hx : p.tables.exec = Jvm.exec) (hb : c.code = bb) {own C : String} {T : u_T} {N ci index : Nat} {ref : String} (hts : ∀ w ∈ Ts, w.before args s = true) (hin : ∀ w ∈ u_ws C T N, w ∈ Ts) (hown : s.vm.findClass own = some m.cls) (hK : va_K D vwCl (tyC cc) s) (hw : cWd D cc A s.heap S H locs) {fs : List Value} (hcell : cellOf cc S a = .inr (ci, fs)) (hd : cD S a ≠ 0) (hc : vwCl[ci]? = some (C, T, N)) (k : Nat) (hk : k < N) (hlink : Cond.fieldLink own index ref (T k).2.1 (T k).2.2.1 ∈ Ts) (hsame : ∀ x, s.fieldFound? (T k).1 (T k).2.1 (T k).2.2.1 = some x → s.fieldFound? ref (T k).2.1 (T k).2.2.1 = some x) {v : Value} (hv : fs[k]? = some v) (hdg : decode bb pc = .ok (.getfield index, 3))
    (kk : W p l e R s m args below meth c H locs cells slots Q (F0 m (pc + 3) ls (v :: rest))) : W p l e R s m args below meth c H locs cells slots Q (F0 m pc ls (.ref a :: rest)) := by
  obtain ⟨q0, he⟩ := cP_get (cc := cc) (hw.1 a hd)
  rw [hcell] at he
  exact va_get (C := C) (T := T) (N := N) (ci := ci) (fs := fs) (ref := ref) hx hb hts hin hown hK hw.2.2.1 q0 he hc k hk (hts _ hlink) hsame hv hdg kk
theorem C_get (hx : p.tables.exec = Jvm.exec) (hb : c.code = bb) {own C : String} {T : u_T} {N ci index : Nat} {ref : String} (hts : ∀ w ∈ Ts, w.before args s = true) (hin : ∀ w ∈ u_ws C T N, w ∈ Ts) (hown : s.vm.findClass own = some m.cls) (hK : va_K D vwCl (tyC cc) s) (hw : cWd D cc A s.heap S H locs) {fs : List Value} (hcell : cellOf cc S a = .inr (ci, fs)) (hd : cD S a ≠ 0) (hc : vwCl[ci]? = some (C, T, N)) (k : Nat) (hk : k < N) (hlink : Cond.fieldLink own index ref (T k).2.1 (T k).2.2.1 ∈ Ts) (hsame : (T k).1 = ref) {v : Value} (hv : fs[k]? = some v) (hdg : decode bb pc = .ok (.getfield index, 3))
    (kk : W p l e R s m args below meth c H locs cells slots Q (F0 m (pc + 3) ls (v :: rest))) : W p l e R s m args below meth c H locs cells slots Q (F0 m pc ls (.ref a :: rest)) := by
  obtain ⟨q0, he⟩ := cP_get (cc := cc) (hw.1 a hd)
  rw [hcell] at he
  exact va_get (C := C) (T := T) (N := N) (ci := ci) (fs := fs) (ref := ref) hx hb hts hin hown hK hw.2.2.1 q0 he hc k hk (hts _ hlink) (fun y h => by rw [← hsame]; exact h) hv hdg kk
theorem C_put2 (hx : p.tables.exec = Jvm.exec) (hb : c.code = bb) {own C : String} {T : u_T} {N ci index : Nat} {ref : String} (hts : ∀ w ∈ Ts, w.before args s = true) (hin : ∀ w ∈ u_ws C T N, w ∈ Ts) (ty0 : Nat → FieldType) (hty : ∀ k, k < N → parseFieldDescriptor (T k).2.2.1 = some (ty0 k)) (hnm : ∀ a, a < N → ∀ b, b < N → a ≠ b → (T a).2.1 ≠ (T b).2.1) (hown : s.vm.findClass own = some m.cls) (hK : va_K D vwCl (tyC cc) s) (hw : cWd D cc A s.heap S H locs) {fs : List Value} (hcell : cellOf cc S a = .inr (ci, fs)) (hd : cD S a ≠ 0) (hc : vwCl[ci]? = some (C, T, N)) (k : Nat) (hk : k < N) (hlink : Cond.fieldLink own index ref (T k).2.1 (T k).2.2.1 ∈ Ts) (hsame : ∀ x, s.fieldFound? (T k).1 (T k).2.1 (T k).2.2.1 = some x → s.fieldFound? ref (T k).2.1 (T k).2.2.1 = some x) (hfin : (T k).2.2.2 = false) {ty : FieldType} {v : Value} (hpd : parseFieldDescriptor (T k).2.2.1 = some ty) (hn : narrow ty v = v) (hfit : fits ty v = true) (hl : k < fs.length) {S' : CS} (hL : cL S' = cL S) (hX : nx S' = nx S) (hD' : cD S' = cD S) (hset : cellOf cc S' a = .inr (ci, fs.set k v)) (hoff : ∀ b, b ≠ a → cellOf cc S' b = cellOf cc S b) (hdg : decode bb pc = .ok (.putfield index, 3))
    (kk : ∀ (S1 : CS) (H1 : Heap) (locs1 : List Loc), S1 = S' → cWd D cc A s.heap S1 H1 locs1 → W p l e R s m args below meth c H1 locs1 cells slots Q (F0 m (pc + 3) ls rest)) : W p l e R s m args below meth c H locs cells slots Q (F0 m pc ls (v :: .ref a :: rest)) := by
  obtain ⟨hok, hsz, hP, hD, hS0⟩ := hw
  obtain ⟨q0, he0⟩ := cP_get (cc := cc) (hok a hd)
  have hq := cP_set hD (hok a hd) he0 hL hset hoff
  have he := he0
  rw [hcell] at he
  have hap := va_apart (own := own) hts hin ty0 hty hnm hK hc
  obtain ⟨r, h1, cell, q1, q2, q3, q4⟩ := hP q0 _ he
  have hr : r = (C, T, N) := Option.some.inj (h1.symm.trans hc)
  subst hr
  obtain ⟨hS, hfc, kC, hkC, hkind⟩ := hK.1 ci _ hc
  obtain ⟨cf, kf, fi, f, hi, hsl⟩ := hS k hk
  have hlay := hts _ (hin _ (u_in_lay hk))
  unfold u_lay at hlay
  rw [if_neg (by rw [hfin]; decide)] at hlay
  have hst := (u_facts hfc hkC (u_lays hts hin hk) hi).1
  have h6 := u_store hfc hkC hkind hlay hi hpd hn hfit
  refine W.putK hx hb (f := f) ⟨hown, hts _ hlink, ⟨_, _, _, hsame _ hi⟩, hst⟩ (by rw [q2]; exact h6) q1 q3 (by rw [hsl]; exact k2_hasslot (q4 k hk)) rfl rfl hdg fun H' e1 e2 e3 => ?_
  rw [hsl] at e1 ⊢
  refine kk S' H' _ rfl ⟨by rw [hD', hL]; exact hok, by rw [e2, hX]; exact hsz, ?_, ?_, hS0.put e2 e3 (hD.2 q0 _ he)⟩
  · rw [← hq]
    exact hP.set hD he ⟨_, hc, t_OB.to (V := updV (vp_V fs) k v) ⟨_, e1, q2, q3, t_set q4 hap hk v⟩ (fun j _ => vp_updV_set hl v j)⟩ e3
  · rw [← hq]
    exact hD.set he
theorem C_put (hx : p.tables.exec = Jvm.exec) (hb : c.code = bb) {own C : String} {T : u_T} {N ci index : Nat} {ref : String} (hts : ∀ w ∈ Ts, w.before args s = true) (hin : ∀ w ∈ u_ws C T N, w ∈ Ts) (ty0 : Nat → FieldType) (hty : ∀ k, k < N → parseFieldDescriptor (T k).2.2.1 = some (ty0 k)) (hnm : ∀ a, a < N → ∀ b, b < N → a ≠ b → (T a).2.1 ≠ (T b).2.1) (hown : s.vm.findClass own = some m.cls) (hK : va_K D vwCl (tyC cc) s) (hw : cWd D cc A s.heap S H locs) {fs : List Value} (hcell : cellOf cc S a = .inr (ci, fs)) (hd : cD S a ≠ 0) (hc : vwCl[ci]? = some (C, T, N)) (k : Nat) (hk : k < N) (hlink : Cond.fieldLink own index ref (T k).2.1 (T k).2.2.1 ∈ Ts) (hsame : (T k).1 = ref) (hfin : (T k).2.2.2 = false) {ty : FieldType} {v : Value} (hpd : parseFieldDescriptor (T k).2.2.1 = some ty) (hn : narrow ty v = v) (hfit : fits ty v = true) (hl : k < fs.length) {S' : CS} (hL : cL S' = cL S) (hX : nx S' = nx S) (hD' : cD S' = cD S) (hset : cellOf cc S' a = .inr (ci, fs.set k v)) (hoff : ∀ b, b ≠ a → cellOf cc S' b = cellOf cc S b) (hdg : decode bb pc = .ok (.putfield index, 3))
    (kk : ∀ (S1 : CS) (H1 : Heap) (locs1 : List Loc), S1 = S' → cWd D cc A s.heap S1 H1 locs1 → W p l e R s m args below meth c H1 locs1 cells slots Q (F0 m (pc + 3) ls rest)) : W p l e R s m args below meth c H locs cells slots Q (F0 m pc ls (v :: .ref a :: rest)) :=
  C_put2 hx hb hts hin ty0 hty hnm hown hK hw hcell hd hc k hk hlink (fun x h => by rw [← hsame]; exact h) hfin hpd hn hfit hl hL hX hD' hset hoff hdg kk
theorem C_putF (hx : p.tables.exec = Jvm.exec) (hb : c.code = bb) {own C : String} {T : u_T} {N ci index : Nat} {ref : String} (hts : ∀ w ∈ Ts, w.before args s = true) (hin : ∀ w ∈ u_ws C T N, w ∈ Ts) (ty0 : Nat → FieldType) (hty : ∀ k, k < N → parseFieldDescriptor (T k).2.2.1 = some (ty0 k)) (hnm : ∀ a, a < N → ∀ b, b < N → a ≠ b → (T a).2.1 ≠ (T b).2.1) (hown : s.vm.findClass own = some m.cls) (hK : va_K D vwCl (tyC cc) s) (hw : cWd D cc A s.heap S H locs) {fs : List Value} (hcell : cellOf cc S a = .inr (ci, fs)) (hd : cD S a ≠ 0) (hc : vwCl[ci]? = some (C, T, N)) (k : Nat) (hk : k < N) (hlink : Cond.fieldLink own index ref (T k).2.1 (T k).2.2.1 ∈ Ts) (hsame : (T k).1 = ref) (hfin : (T k).2.2.2 = true) (hin2 : meth.name = "<init>") (hdecl : (T k).1 = own) {ty : FieldType} {v : Value} (hpd : parseFieldDescriptor (T k).2.2.1 = some ty) (hn : narrow ty v = v) (hfit : fits ty v = true) (hl : k < fs.length) {S' : CS} (hL : cL S' = cL S) (hX : nx S' = nx S) (hD' : cD S' = cD S) (hset : cellOf cc S' a = .inr (ci, fs.set k v)) (hoff : ∀ b, b ≠ a → cellOf cc S' b = cellOf cc S b) (hdg : decode bb pc = .ok (.putfield index, 3))
    (kk : ∀ (S1 : CS) (H1 : Heap) (locs1 : List Loc), S1 = S' → cWd D cc A s.heap S1 H1 locs1 → W p l e R s m args below meth c H1 locs1 cells slots Q (F0 m (pc + 3) ls rest)) : W p l e R s m args below meth c H locs cells slots Q (F0 m pc ls (v :: .ref a :: rest)) := by
  obtain ⟨hok, hsz, hP, hD, hS0⟩ := hw
  obtain ⟨q0, he0⟩ := cP_get (cc := cc) (hok a hd)
  have hq := cP_set hD (hok a hd) he0 hL hset hoff
  have he := he0
  rw [hcell] at he
  have hap := va_apart (own := own) hts hin ty0 hty hnm hK hc
  obtain ⟨r, h1, cell, q1, q2, q3, q4⟩ := hP q0 _ he
  have hr : r = (C, T, N) := Option.some.inj (h1.symm.trans hc)
  subst hr
  obtain ⟨hS, hfc, kC, hkC, hkind⟩ := hK.1 ci _ hc
  obtain ⟨cf, kf, fi, f, hi, hsl⟩ := hS k hk
  have hlay := hts _ (hin _ (u_in_lay hk))
  unfold u_lay at hlay
  rw [if_pos hfin] at hlay
  have hst := (u_facts hfc hkC (u_lays hts hin hk) hi).1
  have hcf : m.cls = cf := by
    obtain ⟨_, _, c', _, _, _, -, -, hf', -, -, -, hown2, -⟩ := Cond.laysFinal_spec hlay
    have e1 : c' = cf := by have := hi.symm.trans hf'; simp at this; exact this.1.symm
    rw [hdecl] at hown2
    rw [← e1]; exact Option.some.inj (hown.symm.trans hown2)
  have h6 := u_fits hfc hkC hkind (Or.inr hlay) hi hpd hn hfit
  refine W.putFinK hx hb hown (hts _ hlink) (by rw [← hsame]; exact hi) hst hcf hin2 (by rw [q2]; exact h6) q1 q3 (by rw [hsl]; exact k2_hasslot (q4 k hk)) rfl rfl hdg fun H' e1 e2 e3 => ?_
  rw [hsl] at e1 ⊢
  refine kk S' H' _ rfl ⟨by rw [hD', hL]; exact hok, by rw [e2, hX]; exact hsz, ?_, ?_, hS0.put e2 e3 (hD.2 q0 _ he)⟩
  · rw [← hq]
    exact hP.set hD he ⟨_, hc, t_OB.to (V := updV (vp_V fs) k v) ⟨_, e1, q2, q3, t_set q4 hap hk v⟩ (fun j _ => vp_updV_set hl v j)⟩ e3
  · rw [← hq]
    exact hD.set he
/-- arrays: a read of an int, a byte, a reference; the length -/
theorem C_iald (hx : p.tables.exec = Jvm.exec) (hb : c.code = bb) (hK : va_K D vwCl (tyC cc) s) (hw : cWd D cc A s.heap S H locs) {d : Nat} (hd : cD S a = d) (h1 : 40 ≤ d) (h2 : d < 60) {i : Int32} (hin : ¬ (i < 0 ∨ cN S a ≤ i.toNatClampNeg)) (hdg : decode bb pc = .ok (.iaload, 1))
    (kk : W p l e R s m args below meth c H locs cells slots Q (F0 m (pc + 1) ls (.int (cA S d a i.toNatClampNeg) :: rest))) : W p l e R s m args below meth c H locs cells slots Q (F0 m pc ls (.int i :: .ref a :: rest)) := by
  obtain ⟨q0, he⟩ := cP_get (cc := cc) (hw.1 a (by omega))
  rw [cell_A h1 h2 hd] at he
  exact va_iald hx hb hK hw.2.2.1 q0 0 he rfl hin hdg kk
theorem C_bald (hx : p.tables.exec = Jvm.exec) (hb : c.code = bb) (hK : va_K D vwCl (tyC cc) s) (hw : cWd D cc A s.heap S H locs) (hd : cD S a = 60) {i : Int32} (hin : ¬ (i < 0 ∨ cN S a ≤ i.toNatClampNeg)) (hdg : decode bb pc = .ok (.baload, 1))
    (kk : W p l e R s m args below meth c H locs cells slots Q (F0 m (pc + 1) ls (.int (cA S 60 a i.toNatClampNeg) :: rest))) : W p l e R s m args below meth c H locs cells slots Q (F0 m pc ls (.int i :: .ref a :: rest)) := by
  obtain ⟨q0, he⟩ := cP_get (cc := cc) (hw.1 a (by omega))
  rw [cell_B hd] at he
  exact va_bald hx hb hK hw.2.2.1 q0 1 he rfl hin hdg kk
theorem C_aald61 (hx : p.tables.exec = Jvm.exec) (hb : c.code = bb) (hK : va_K D vwCl (tyC cc) s) (hw : cWd D cc A s.heap S H locs) (hd : cD S a = 61) {i : Int32} (hin : ¬ (i < 0 ∨ cN S a ≤ i.toNatClampNeg)) (hdg : decode bb pc = .ok (.aaload, 1))
    (kk : W p l e R s m args below meth c H locs cells slots Q (F0 m (pc + 1) ls (va_rf (cQ S 61 a i.toNatClampNeg) :: rest))) : W p l e R s m args below meth c H locs cells slots Q (F0 m pc ls (.int i :: .ref a :: rest)) := by
  obtain ⟨q0, he⟩ := cP_get (cc := cc) (hw.1 a (by omega))
  rw [cell_61 hd] at he
  exact va_aldq hx hb hK hw.2.2.1 q0 3 he rfl hin hdg kk
theorem C_aaldO (hx : p.tables.exec = Jvm.exec) (hb : c.code = bb) (hK : va_K D vwCl (tyC cc) s) (hw : cWd D cc A s.heap S H locs) {r : Nat} (hr : r < 5) (hd : cD S a = 30 + r) {i : Int32} (hin : ¬ (i < 0 ∨ cN S a ≤ i.toNatClampNeg)) (hdg : decode bb pc = .ok (.aaload, 1))
    (kk : W p l e R s m args below meth c H locs cells slots Q (F0 m (pc + 1) ls (va_rf (cQ S (30 + r) a i.toNatClampNeg) :: rest))) : W p l e R s m args below meth c H locs cells slots Q (F0 m pc ls (.int i :: .ref a :: rest)) := by
  obtain ⟨q0, he⟩ := cP_get (cc := cc) (hw.1 a (by omega))
  rw [cell_O hr hd] at he
  exact va_aldq hx hb hK hw.2.2.1 q0 2 he rfl hin hdg kk
theorem C_aald62 (hx : p.tables.exec = Jvm.exec) (hb : c.code = bb) (hK : va_K D vwCl (tyC cc) s) (hw : cWd D cc A s.heap S H locs) (hd : cD S a = 62) {i : Int32} (hin : ¬ (i < 0 ∨ cN S a ≤ i.toNatClampNeg)) (hdg : decode bb pc = .ok (.aaload, 1))
    (kk : W p l e R s m args below meth c H locs cells slots Q (F0 m (pc + 1) ls (va_rf (cQ S 62 a i.toNatClampNeg) :: rest))) : W p l e R s m args below meth c H locs cells slots Q (F0 m pc ls (.int i :: .ref a :: rest)) := by
  obtain ⟨q0, he⟩ := cP_get (cc := cc) (hw.1 a (by omega))
  rw [cell_62 hd] at he
  have hlt : i.toNatClampNeg < cN S a := Nat.not_le.mp fun q => hin (Or.inr q)
  exact W.aald (v := va_rf (cQ S 62 a i.toNatClampNeg)) (ty := .array .int) hx hb (hw.2.2.1 q0 _ he) ((hK.2 4 (cc 4, .array .int) rfl).1 (cN S a) (fun j => va_rf (cQ S 62 a j))) rfl (fun q => by cases q) (by show ¬ (i < 0 ∨ (arrV _ _ _).slots.size ≤ _); rw [arrV_size]; exact hin) (by show (arrV _ _ _).slots[_]? = _; rw [arrV_read _ _ hlt]) rfl rfl hdg kk
theorem C_iast (hx : p.tables.exec = Jvm.exec) (hb : c.code = bb) (hK : va_K D vwCl (tyC cc) s) (hw : cWd D cc A s.heap S H locs) {d : Nat} (hd : cD S a = d) (h1 : 40 ≤ d) (h2 : d < 60) {i v : Int32} (hin : ¬ (i < 0 ∨ cN S a ≤ i.toNatClampNeg)) (hdg : decode bb pc = .ok (.iastore, 1))
    (kk : ∀ (S1 : CS) (H1 : Heap) (locs1 : List Loc), S1 = uA S d a i.toNatClampNeg v → cWd D cc A s.heap S1 H1 locs1 → W p l e R s m args below meth c H1 locs1 cells slots Q (F0 m (pc + 1) ls rest)) : W p l e R s m args below meth c H locs cells slots Q (F0 m pc ls (.int v :: .int i :: .ref a :: rest)) := by
  obtain ⟨hok, hsz, hP, hD, hS⟩ := hw
  have hm := hok a (by omega)
  obtain ⟨q0, he0⟩ := cP_get (cc := cc) hm
  have hset : cellOf cc (uA S d a i.toNatClampNeg v) a = .inl (cc 0, cN S a, .inl (upd (cA S d a) i.toNatClampNeg v)) := by
    rw [cell_A (S := uA S d a i.toNatClampNeg v) h1 h2 hd, cA_uA, set1_s, set1_s]
    rfl
  have hq := cP_set hD hm he0 (S' := uA S d a i.toNatClampNeg v) rfl hset (fun b hb => off_uA hb)
  have he := he0
  rw [cell_A h1 h2 hd] at he
  refine W.iast hx hb (hP q0 _ he) ((hK.2 0 (cc 0, .int) rfl).1 (cN S a) (fun j => .int (cA S d a j))) (fun q => by cases q) (by show ¬ (i < 0 ∨ (arrV _ _ _).slots.size ≤ _); rw [arrV_size]; exact hin) rfl rfl hdg fun H1 e z oq => ?_
  refine kk _ H1 _ rfl ⟨hok, z.trans hsz, ?_, ?_, hS.put z oq (hD.2 q0 _ he)⟩
  · rw [← hq]
    refine hP.set hD he ?_ oq
    show H1[a]? = some (vp_cell _ _)
    rw [e, vp_cell_i, vp_cell_i, arrV_store]
    congr 2
    funext q
    by_cases hq : q = i.toNatClampNeg
    · subst hq
      simp [updV, upd]
    · simp [updV, upd, hq]
  · rw [← hq]
    exact hD.set he
theorem C_bast (hx : p.tables.exec = Jvm.exec) (hb : c.code = bb) (hK : va_K D vwCl (tyC cc) s) (hw : cWd D cc A s.heap S H locs) (hd : cD S a = 60) {i v : Int32} (hin : ¬ (i < 0 ∨ cN S a ≤ i.toNatClampNeg)) (hdg : decode bb pc = .ok (.bastore, 1))
    (kk : ∀ (S1 : CS) (H1 : Heap) (locs1 : List Loc), S1 = uA S 60 a i.toNatClampNeg (vp_nar .byte v) → cWd D cc A s.heap S1 H1 locs1 → W p l e R s m args below meth c H1 locs1 cells slots Q (F0 m (pc + 1) ls rest)) : W p l e R s m args below meth c H locs cells slots Q (F0 m pc ls (.int v :: .int i :: .ref a :: rest)) := by
  obtain ⟨hok, hsz, hP, hD, hS⟩ := hw
  have hm := hok a (by omega)
  obtain ⟨q0, he0⟩ := cP_get (cc := cc) hm
  have hset : cellOf cc (uA S 60 a i.toNatClampNeg (vp_nar .byte v)) a = .inl (cc 1, cN S a, .inl (upd (cA S 60 a) i.toNatClampNeg (vp_nar .byte v))) := by
    rw [cell_B (S := uA S 60 a i.toNatClampNeg (vp_nar .byte v)) hd, cA_uA, set1_s, set1_s]
    rfl
  have hq := cP_set hD hm he0 (S' := uA S 60 a i.toNatClampNeg (vp_nar .byte v)) rfl hset (fun b hb => off_uA hb)
  have he := he0
  rw [cell_B hd] at he
  refine W.bast hx hb (hP q0 _ he) ((hK.2 1 (cc 1, .byte) rfl).1 (cN S a) (fun j => .int (cA S 60 a j))) (fun q => by cases q) (by show ¬ (i < 0 ∨ (arrV _ _ _).slots.size ≤ _); rw [arrV_size]; exact hin) rfl rfl hdg fun H1 e z oq => ?_
  refine kk _ H1 _ rfl ⟨hok, z.trans hsz, ?_, ?_, hS.put z oq (hD.2 q0 _ he)⟩
  · rw [← hq]
    refine hP.set hD he ?_ oq
    show H1[a]? = some (vp_cell _ _)
    rw [e, vp_cell_i, vp_cell_i, arrV_store]
    congr 2
    funext q
    by_cases hq : q = i.toNatClampNeg
    · subst hq
      simp [updV, upd, vp_nar, narrow]
    · simp [updV, upd, hq]
  · rw [← hq]
    exact hD.set he
/-- a new object -/
theorem C_new (hx : p.tables.exec = Jvm.exec) (hb : c.code = bb) {own C : String} {T : u_T} {N ci index : Nat} (hts : ∀ w ∈ Ts, w.before args s = true) (hin : ∀ w ∈ u_ws C T N, w ∈ Ts) (ty : Nat → FieldType) (hty : ∀ k, k < N → parseFieldDescriptor (T k).2.2.1 = some (ty k)) (hown : s.vm.findClass own = some m.cls) (hcl : Cond.classLink own index C ∈ Ts) (hinst : Cond.instantiable C N ∈ Ts) (hini : Cond.initialized C ∈ Ts) (hK : va_K D vwCl (tyC cc) s) (hA : ∀ q, s.heap.size ≤ q → A q) (hw : cWd D cc A s.heap S H locs) (hc : vwCl[ci]? = some (C, T, N)) {fs : List Value} (hfs : ∀ j, j < N → defaultValue (ty j) = vp_V fs j) {d : Nat} (hd : cellOf cc (nw S d 0) (nx S) = .inr (ci, fs)) (hcells : cells + 1 ≤ R.cells) (hslots : slots + N ≤ R.slots) (hdg : decode bb pc = .ok (.new index, 3))
    (kk : ∀ (q : Nat) (S1 : CS) (H1 : Heap), q = nx S → S1 = nw S d 0 → cWd D cc A s.heap S1 H1 locs → W p l e R s m args below meth c H1 locs (cells + 1) (slots + N) Q (F0 m (pc + 3) ls (.ref q :: rest))) : W p l e R s m args below meth c H locs cells slots Q (F0 m pc ls rest) := by
  obtain ⟨hok, hsz, hP, hD, hS⟩ := hw
  have hKn := hK.1 ci _ hc
  refine W.newcK hx hb hown (hts _ hcl) (hts _ hinst) (hts _ hini) rfl hdg hcells hslots hKn.2.1 hsz fun H1 kC hkC e1 z1 o1 => ?_
  rw [← hsz] at o1
  have hk : ∀ (k : Nat) (x : Nat × va_E), (cPs cc S)[k]? = some x → H1[x.1]? = H[x.1]? := fun k x hx => o1 x.1 ((hP k x hx).lt)
  have hf : nx S ∉ cL S := va_pl_fresh (X := []) hP (Nat.le_of_eq hsz)
  have hq : cPs cc S ++ [(nx S, .inr (ci, fs))] = cPs cc (nw S d 0) := by
    have := va_pl_push (f := cellOf cc S) (e := .inr (ci, fs)) hf
    unfold cPs
    rw [this]
    refine va_pl_congr (fun b => ?_)
    by_cases hb : b = nx S
    · subst hb
      rw [hd]
      simp [va_up]
    · rw [off_nw hb]
      simp [va_up, hb]
  refine kk _ _ H1 rfl rfl ⟨fun b hb => ?_, z1, ?_, ?_, ⟨Nat.le_trans hS.1 (by omega), fun x h1 h2 => (o1 x (Nat.lt_of_lt_of_le h1 hS.1)).trans (hS.2.1 x h1 h2), hS.2.2⟩⟩
  · rw [cL_nw]
    by_cases h : b = nx S
    · subst h
      exact List.mem_append_right _ (List.mem_singleton.mpr rfl)
    · rw [cD_nw, set1_n _ _ h] at hb
      exact List.mem_append_left _ (hok b hb)
  · rw [← hq]
    refine (hP.kept hk).app (fun k x hx => ?_)
    have hz : k < 1 := (List.getElem?_eq_some_iff.mp hx).1
    rw [show k = 0 by omega] at hx
    cases hx
    exact ⟨_, hc, (u_born ty hts hin hKn hkC e1 hty).to hfs⟩
  · rw [← hq]
    exact hD.push hP hsz.symm (hA _ (by rw [← hsz]; exact hS.1))
/-- a new array of ints, of bytes -/
theorem C_newa (hx : p.tables.exec = Jvm.exec) (hb : c.code = bb) {atype : ArrayType} (hts : ∀ w ∈ Ts, w.before args s = true) (harr : Cond.arrayClass (newarray.typeOf atype) ∈ Ts) {ty : FieldType} (hty : newarray.typeOf atype = ty) (hK : va_K D vwCl (tyC cc) s) (hA : ∀ q, s.heap.size ≤ q → A q) (hw : cWd D cc A s.heap S H locs) (t0 : Nat) {ct : ClassId} (ht : (tyC cc)[t0]? = some (ct, ty)) (hrt : ∀ U cx, va_RA U cx ty = (U.vm.findClass ("[" ++ ty.toString) = some cx))
    {n : Int32} {N' d : Nat} {a0 : vp_A} (ha : ∀ cx : ClassId, vp_cell cx a0 = arrV cx N' (fun _ => defaultValue ty)) (hcell : cellOf cc (nw S d N') (nx S) = .inl (ct, a0)) (hd : d ≠ 0) (hn : ¬ n < 0) (hN : n.toNatClampNeg = N') (hbytes : N' * componentBytes ty ≤ 536870912) (hcells : cells + 1 ≤ R.cells) (hslots : slots + N' ≤ R.slots) (hdg : decode bb pc = .ok (.newarray atype, 2))
    (kk : ∀ (q : Nat) (S1 : CS) (H1 : Heap), q = nx S → S1 = nw S d N' → cWd D cc A s.heap S1 H1 locs → W p l e R s m args below meth c H1 locs (cells + 1) (slots + N') Q (F0 m (pc + 2) ls (.ref q :: rest))) : W p l e R s m args below meth c H locs cells slots Q (F0 m pc ls (.int n :: rest)) := by
  obtain ⟨hok, hsz, hP, hD, hS⟩ := hw
  subst hty
  refine va_newaK hx hb (hts _ harr) rfl hdg rfl hn hN hbytes hcells hslots hsz fun H1 cx e1 z1 o1 hAr hNm => ?_
  have hcx : cx = ct := by
    have h1 := (hK.2 t0 _ ht).2
    rw [hrt] at h1
    exact Option.some.inj (hNm.symm.trans h1)
  subst hcx
  rw [← hsz] at o1
  have hk : ∀ (k : Nat) (x : Nat × va_E), (cPs cc S)[k]? = some x → H1[x.1]? = H[x.1]? := fun k x hx => o1 x.1 ((hP k x hx).lt)
  have hf : nx S ∉ cL S := va_pl_fresh (X := []) hP (Nat.le_of_eq hsz)
  have hq : cPs cc S ++ [(nx S, .inl (cx, a0))] = cPs cc (nw S d N') := by
    have := va_pl_push (f := cellOf cc S) (e := .inl (cx, a0)) hf
    unfold cPs
    rw [this]
    refine va_pl_congr (fun b => ?_)
    by_cases hb : b = nx S
    · subst hb
      rw [hcell]
      simp [va_up]
    · rw [off_nw hb]
      simp [va_up, hb]
  refine kk _ _ H1 rfl rfl ⟨fun b hb => ?_, z1, ?_, ?_, ⟨Nat.le_trans hS.1 (by omega), fun x h1 h2 => (o1 x (Nat.lt_of_lt_of_le h1 hS.1)).trans (hS.2.1 x h1 h2), hS.2.2⟩⟩
  · rw [cL_nw]
    by_cases h : b = nx S
    · subst h
      exact List.mem_append_right _ (List.mem_singleton.mpr rfl)
    · rw [cD_nw, set1_n _ _ h] at hb
      exact List.mem_append_left _ (hok b hb)
  · rw [← hq]
    refine (hP.kept hk).app (fun k x hx => ?_)
    have hz : k < 1 := (List.getElem?_eq_some_iff.mp hx).1
    rw [show k = 0 by omega] at hx
    cases hx
    show H1[nx S]? = some (vp_cell _ _)
    rw [ha]
    exact e1
  · rw [← hq]
    exact hD.push hP hsz.symm (hA _ (by rw [← hsz]; exact hS.1))
end CROWS
/-! contracts of the class's methods: 'from the world S it answers r and leaves the world T; mc cells of ms slots are new' -/
def cPre (D : va_G) (cc : Nat → ClassId) (E : Nat → Nat) (S : CS) (U : State) : Prop := (∀ a, cD S a ≠ 0 → a ∈ cL S) ∧ U.heap.size = nx S ∧ va_P D vwCl (cPs cc S) U.heap ∧ va_D (fun _ => True) (cPs cc S) ∧ va_K D vwCl (tyC cc) U ∧ cRO E (va_A (cPs cc S) (nx S)) U U.heap
def cAft (D : va_G) (cc : Nat → ClassId) (A : Nat → Prop) (S : CS) (t : State) : Prop := (∀ a, cD S a ≠ 0 → a ∈ cL S) ∧ t.heap.size = nx S ∧ va_P D vwCl (cPs cc S) t.heap ∧ va_D A (cPs cc S)
abbrev cRm (f lo mc ms : Nat) : Room := { frames := f, cells := mc, slots := ms, locals := lo }
def Ci (l : Launch) (y : MethodName) (ws : List Cond) (f lo : Nat) (D : va_G) (cc : Nat → ClassId) (E : Nat → Nat) (av : List Value) (S : CS) (r : Int32) (T : CS) (mc ms : Nat) : Prop :=
  Met l y ws (cRm f lo mc ms) (va_Pc av (cPre D cc E S)) (va_Qi (fun x u => x = r ∧ u = T) (cAft D cc (va_A (cPs cc S) (nx S))) (va_A (cPs cc S) (nx S))) mc ms (va_A (cPs cc S) (nx S))
def Cl (l : Launch) (y : MethodName) (ws : List Cond) (f lo : Nat) (D : va_G) (cc : Nat → ClassId) (E : Nat → Nat) (av : List Value) (S : CS) (r : Int64) (T : CS) (mc ms : Nat) : Prop :=
  Met l y ws (cRm f lo mc ms) (va_Pc av (cPre D cc E S)) (va_Ql (fun x u => x = r ∧ u = T) (cAft D cc (va_A (cPs cc S) (nx S))) (va_A (cPs cc S) (nx S))) mc ms (va_A (cPs cc S) (nx S))
def Cv (l : Launch) (y : MethodName) (ws : List Cond) (f lo : Nat) (D : va_G) (cc : Nat → ClassId) (E : Nat → Nat) (av : List Value) (S : CS) (T : CS) (mc ms : Nat) : Prop :=
  Met l y ws (cRm f lo mc ms) (va_Pc av (cPre D cc E S)) (va_Qv (fun u => u = T) (cAft D cc (va_A (cPs cc S) (nx S))) (va_A (cPs cc S) (nx S))) mc ms (va_A (cPs cc S) (nx S))
def Cq (l : Launch) (y : MethodName) (ws : List Cond) (f lo : Nat) (D : va_G) (cc : Nat → ClassId) (E : Nat → Nat) (av : List Value) (S : CS) (r : Option Nat) (T : CS) (mc ms : Nat) : Prop :=
  Met l y ws (cRm f lo mc ms) (va_Pc av (cPre D cc E S)) (va_Qq (fun x u => x = r ∧ u = T) (cAft D cc (va_A (cPs cc S) (nx S))) (va_A (cPs cc S) (nx S))) mc ms (va_A (cPs cc S) (nx S))
theorem cBlind (D : va_G) (cc : Nat → ClassId) (E : Nat → Nat) (S : CS) (av : List Value) : FrameBlind (va_Pc av (cPre D cc E S)) := fun a U g mk q => by
  obtain ⟨q0, q1, q2, q3, q4, q5, q6⟩ := q
  exact ⟨q0, q1, q2, q3, q4, va_K.moved (u := U) (U := U.calling g mk a) (Vm.Alike.refl U.vm) q5, cRO_blind q6 a g mk⟩
section CCALL
variable {p : Program} {l : Launch} {e : Env} {R : Room} {s : State} {m : MethodId} {args : Array Value} {below : List Frame} {meth : Method} {c : Code} {H : Heap} {locs : List Loc} {cells slots : Nat} {Q : State → Prop}
variable {bb : ByteArray} {pc : Nat} {ls : Array Slot} {rest : List Value} {D : va_G} {A : Nat → Prop} {cc : Nat → ClassId} {E : Nat → Nat} {S T : CS} {Ts : List Cond}
variable {y : MethodName} {bytes : ByteArray} {maxL nL n index mc ms : Nat} {ret : Option FieldType} {ws : List Cond} {f lo : Nat} {av : List Value} {st0 : List Value} {own C host : String} {b : Nat}
theorem C_free (hA : ∀ q, s.heap.size ≤ q → A q) (hw : cWd D cc A s.heap S H locs) : ∀ q, va_A (cPs cc S) (nx S) q → A q := fun q h => by
  rcases h with ⟨k, e, h⟩ | h
  · exact hw.2.2.2.1.2 k (q, e) h
  · exact hA q (Nat.le_trans hw.2.2.2.2.1 (by rw [hw.2.1]; exact h))
theorem C_pre (hA : ∀ q, s.heap.size ≤ q → A q) (hK : va_K D vwCl (tyC cc) s) (hro : cRO E A s s.heap) (hw : cWd D cc A s.heap S H locs) (U : State) (hU : U.heap = H) (hW : s.WarmedH U.vm) : cPre D cc E S U := ⟨hw.1, by rw [hU]; exact hw.2.1, by rw [hU]; exact hw.2.2.1, hw.2.2.2.1.weaken (fun _ _ _ _ => trivial), va_K.moved hW.alike hK, cRO_call hro hw.2.2.2.2 (C_free hA hw) hU hW⟩
theorem C_back {u : CS} {t : State} {H1 : Heap} {locs1 : List Loc} (hA : ∀ q, s.heap.size ≤ q → A q) (hw : cWd D cc A s.heap S H locs) (ht : t.heap = H1) (hB : cAft D cc (va_A (cPs cc S) (nx S)) u t) (hS1 : va_S A s.heap H1 locs1) : cWd D cc A s.heap u H1 locs1 := by
  obtain ⟨h1, h2, h3, h4⟩ := hB
  rw [ht] at h2 h3
  exact ⟨h1, h2, h3, h4.weaken (fun _ q _ h => C_free hA hw q.1 h), hS1⟩
theorem C_recv {ci : Nat} {r : vw_C} {fs : List Value} (hK : va_K D vwCl (tyC cc) s) (hw : cWd D cc A s.heap S H locs) (hd : cD S b ≠ 0) (hcell : cellOf cc S b = .inr (ci, fs)) (hc : vwCl[ci]? = some r) : ∃ cell : Cell, H[b]? = some cell ∧ cell.vm.isStatics = false ∧ s.vm.findClass r.1 = some cell.cls := by
  obtain ⟨q0, he⟩ := cP_get (cc := cc) (hw.1 b hd)
  rw [hcell] at he
  exact va_recv hK hw.2.2.1 hc he
theorem C_i {r : Int32} (hA : ∀ q, s.heap.size ≤ q → A q) (hw : cWd D cc A s.heap S H locs) {aa : Array Value} (hr : va_Run p l e R s m args below meth c H locs cells slots mc ms (F0 m pc ls st0) rest (va_Qi (fun x u => x = r ∧ u = T) (cAft D cc (va_A (cPs cc S) (nx S))) (va_A (cPs cc S) (nx S)) aa) (va_A (cPs cc S) (nx S)))
    (kk : ∀ (H1 : Heap) (locs1 : List Loc), cWd D cc A s.heap T H1 locs1 → W p l e R s m args below meth c H1 locs1 (cells + mc) (slots + ms) Q (F0 m (pc + 3) ls (.int r :: rest))) : W p l e R s m args below meth c H locs cells slots Q (F0 m pc ls st0) :=
  va_calli hr hw.2.2.2.2 (fun q _ h => C_free hA hw q h) (C_free hA hw) (fun r1 u t H1 locs1 ht hvm hp hB hz hk hS1 => by
    obtain ⟨rfl, rfl⟩ := hp
    exact kk H1 locs1 (C_back hA hw ht hB hS1))
theorem C_l {r : Int64} (hA : ∀ q, s.heap.size ≤ q → A q) (hw : cWd D cc A s.heap S H locs) {aa : Array Value} (hr : va_Run p l e R s m args below meth c H locs cells slots mc ms (F0 m pc ls st0) rest (va_Ql (fun x u => x = r ∧ u = T) (cAft D cc (va_A (cPs cc S) (nx S))) (va_A (cPs cc S) (nx S)) aa) (va_A (cPs cc S) (nx S)))
    (kk : ∀ (H1 : Heap) (locs1 : List Loc), cWd D cc A s.heap T H1 locs1 → W p l e R s m args below meth c H1 locs1 (cells + mc) (slots + ms) Q (F0 m (pc + 3) ls (.long r :: rest))) : W p l e R s m args below meth c H locs cells slots Q (F0 m pc ls st0) :=
  va_calll hr hw.2.2.2.2 (fun q _ h => C_free hA hw q h) (C_free hA hw) (fun r1 u t H1 locs1 ht hvm hp hB hz hk hS1 => by
    obtain ⟨rfl, rfl⟩ := hp
    exact kk H1 locs1 (C_back hA hw ht hB hS1))
theorem C_v (hA : ∀ q, s.heap.size ≤ q → A q) (hw : cWd D cc A s.heap S H locs) {aa : Array Value} (hr : va_Run p l e R s m args below meth c H locs cells slots mc ms (F0 m pc ls st0) rest (va_Qv (fun u => u = T) (cAft D cc (va_A (cPs cc S) (nx S))) (va_A (cPs cc S) (nx S)) aa) (va_A (cPs cc S) (nx S)))
    (kk : ∀ (H1 : Heap) (locs1 : List Loc), cWd D cc A s.heap T H1 locs1 → W p l e R s m args below meth c H1 locs1 (cells + mc) (slots + ms) Q (F0 m (pc + 3) ls rest)) : W p l e R s m args below meth c H locs cells slots Q (F0 m pc ls st0) :=
  va_callv hr hw.2.2.2.2 (fun q _ h => C_free hA hw q h) (C_free hA hw) (fun u t H1 locs1 ht hvm hp hB hz hk hS1 => by
    subst hp
    exact kk H1 locs1 (C_back hA hw ht hB hS1))
theorem C_q {r : Option Nat} (hA : ∀ q, s.heap.size ≤ q → A q) (hw : cWd D cc A s.heap S H locs) {aa : Array Value} (hr : va_Run p l e R s m args below meth c H locs cells slots mc ms (F0 m pc ls st0) rest (va_Qq (fun x u => x = r ∧ u = T) (cAft D cc (va_A (cPs cc S) (nx S))) (va_A (cPs cc S) (nx S)) aa) (va_A (cPs cc S) (nx S)))
    (kk : ∀ (H1 : Heap) (locs1 : List Loc), cWd D cc A s.heap T H1 locs1 → W p l e R s m args below meth c H1 locs1 (cells + mc) (slots + ms) Q (F0 m (pc + 3) ls (va_rf r :: rest))) : W p l e R s m args below meth c H locs cells slots Q (F0 m pc ls st0) :=
  va_callq hr hw.2.2.2.2 (fun q _ h => C_free hA hw q h) (C_free hA hw) (fun r1 u t H1 locs1 ht hvm hp hB hz hk hS1 => by
    obtain ⟨rfl, rfl⟩ := hp
    exact kk H1 locs1 (C_back hA hw ht hB hS1))
/-- starts -/
theorem C_of {Qc : Array Value → State → Outcome → State → Prop} {ws' : List Cond} (hy : plainName y.cls = true) (hwd : ws = Cond.code y bb nL ret :: ws') (hc : y.cls = own) (hsl : (lg_sl av).length ≤ nL)
    (body : ∀ (p : Program) (e : Env) (s : State) (m : MethodId) (args : Array Value) (below : List Frame) (meth : Method) (c : Code), p.tables.exec = Jvm.exec → c.code = bb → meth.sig.returnType = ret → meth.locks = false → c.maxLocals = nL → (∀ w ∈ ws, w.before args s = true) → s.vm.findClass own = some m.cls → meth.name = y.name → (∀ q : Nat, s.heap.size ≤ q → va_A (cPs cc S) (nx S) q) → va_K D vwCl (tyC cc) s → cRO E (va_A (cPs cc S) (nx S)) s s.heap → cWd D cc (va_A (cPs cc S) (nx S)) s.heap S s.heap [] → ∀ ls : Array Slot, lv_has ls nL (lv_args 0 av) → W p l e (cRm f lo mc ms) s m args below meth c s.heap [] 0 0 (MQ below Qc args s mc ms (va_A (cPs cc S) (nx S))) (F0 m 0 ls [])) : Met l y ws (cRm f lo mc ms) (va_Pc av (cPre D cc E S)) Qc mc ms (va_A (cPs cc S) (nx S)) := by
  refine Met.ofW (cc := bb) (maxL := nL) (ret := ret) hy hwd ?_
  intro p e s m args below meth c s₁ B hml hv
  obtain ⟨rfl, h1, h2, h3, h4, h5, h6⟩ := hv
  have hl := lv_entry av (n := nL) hsl
  rw [lg_entry_eq]
  exact body p e s m _ below meth c B.exec B.bytes B.returns B.notSynchronized hml (atoms_spec (ws := ws) B.pre) (by rw [← hc]; exact findClass_of_methodNamed B.named) (name_of_methodNamed B.named B.method).1 (fun q h => Or.inr (by rw [← h2]; exact h)) h5 h6 ⟨h1, h2, h3, h4.self, va_S.rf⟩ _ hl
/-- ends -/
theorem C_iret {r : Int32} {ty : FieldType} {A : Nat → Prop} (hx : p.tables.exec = Jvm.exec) (hb : c.code = bb) (hr : meth.sig.returnType = some ty) (hlocks : meth.locks = false) (hw : cWd D cc A s.heap T H locs) (hn : narrow ty (.int r) = .int r) (hdg : decode bb pc = .ok (.ireturn, 1)) : W p l e R s m args below meth c H locs cells slots (MQ below (va_Qi (fun x u => x = r ∧ u = T) (cAft D cc A) A) args s cells slots A) (F0 m pc ls [.int r]) :=
  W.zret hx hb hr hn (fun t ht hW => ⟨⟨r, T, rfl, ⟨rfl, rfl⟩, hw.1, by rw [ht]; exact hw.2.1, by rw [ht]; exact hw.2.2.1, hw.2.2.2.1⟩, hw.2.2.2.2.F ht⟩) hw.2.2.2.2.2.2 hdg hlocks
theorem C_lret {r : Int64} {A : Nat → Prop} (hx : p.tables.exec = Jvm.exec) (hb : c.code = bb) (hr : meth.sig.returnType = some .long) (hlocks : meth.locks = false) (hw : cWd D cc A s.heap T H locs) (hdg : decode bb pc = .ok (.lreturn, 1)) : W p l e R s m args below meth c H locs cells slots (MQ below (va_Ql (fun x u => x = r ∧ u = T) (cAft D cc A) A) args s cells slots A) (F0 m pc ls [.long r]) :=
  W.lret hx hb hr (fun t ht hW => ⟨⟨r, T, rfl, ⟨rfl, rfl⟩, hw.1, by rw [ht]; exact hw.2.1, by rw [ht]; exact hw.2.2.1, hw.2.2.2.1⟩, hw.2.2.2.2.F ht⟩) hw.2.2.2.2.2.2 hdg hlocks
theorem C_vret {A : Nat → Prop} (hx : p.tables.exec = Jvm.exec) (hb : c.code = bb) (hr : meth.sig.returnType = none) (hlocks : meth.locks = false) (hw : cWd D cc A s.heap T H locs) (hdg : decode bb pc = .ok (.return_, 1)) : W p l e R s m args below meth c H locs cells slots (MQ below (va_Qv (fun u => u = T) (cAft D cc A) A) args s cells slots A) (F0 m pc ls []) :=
  W.vret hx hb hr (fun t ht hW => ⟨⟨T, rfl, rfl, hw.1, by rw [ht]; exact hw.2.1, by rw [ht]; exact hw.2.2.1, hw.2.2.2.1⟩, hw.2.2.2.2.F ht⟩) hw.2.2.2.2.2.2 hdg hlocks
theorem C_aret {r : Option Nat} {rt : FieldType} {A : Nat → Prop} (hx : p.tables.exec = Jvm.exec) (hb : c.code = bb) (hr : meth.sig.returnType = some rt) (hlocks : meth.locks = false) (hrt : (∃ n, rt = .object n) ∨ ∃ t, rt = .array t) (hw : cWd D cc A s.heap T H locs) (hdg : decode bb pc = .ok (.areturn, 1)) : W p l e R s m args below meth c H locs cells slots (MQ below (va_Qq (fun x u => x = r ∧ u = T) (cAft D cc A) A) args s cells slots A) (F0 m pc ls [va_rf r]) :=
  W.aret (v := va_rf r) hx hb hr hrt (by cases r with | none => exact Or.inl rfl | some a => exact Or.inr ⟨a, rfl⟩) (fun t ht hW => ⟨⟨r, T, rfl, ⟨rfl, rfl⟩, hw.1, by rw [ht]; exact hw.2.1, by rw [ht]; exact hw.2.2.1, hw.2.2.2.1⟩, hw.2.2.2.2.F ht⟩) hw.2.2.2.2.2.2 hdg hlocks
end CCALL
/-! the words of a walked method's function -/
def bnd {α β : Type} (v : α) (k : α → β) : β := k v
def grd {β : Type} (c : Prop) [Decidable c] (k : Option β) : Option β := if c then k else none
def onn {β : Type} (o : Option Nat) (k : Nat → Option β) : Option β := match o with | some a => k a | none => none
def oel {β : Type} (o : Option Nat) (x : β) (k : Nat → β) : β := match o with | some a => k a | none => x
def cal {α β : Type} (o : Option α) (k : α → Option β) : Option β := match o with | some a => k a | none => none
def adc {α : Type} (c s : Nat) (o : Option (α × Nat × Nat)) : Option (α × Nat × Nat) := match o with | some (a, x, y) => some (a, c + x, s + y) | none => none
theorem of_bnd {α β : Type} {v : α} {k : α → β} {z : β} (h : bnd v k = z) {w : α} (hw : w = v) : k w = z := by subst hw; exact h
theorem of_grd {β : Type} {c : Prop} [Decidable c] {k : Option β} {z : β} (h : grd c k = some z) : c ∧ k = some z := by
  unfold grd at h
  by_cases hc : c
  · rw [if_pos hc] at h; exact ⟨hc, h⟩
  · rw [if_neg hc] at h; cases h
theorem of_onn {β : Type} {o : Option Nat} {k : Nat → Option β} {z : β} (h : onn o k = some z) : ∃ a, o = some a ∧ k a = some z := by
  cases o with
  | none => cases h
  | some a => exact ⟨a, rfl, h⟩
theorem of_cal {α β : Type} {o : Option α} {k : α → Option β} {z : β} (h : cal o k = some z) : ∃ a, o = some a ∧ k a = some z := by
  cases o with
  | none => cases h
  | some a => exact ⟨a, rfl, h⟩
theorem of_adc {α : Type} {c s : Nat} {o : Option (α × Nat × Nat)} {z : α} {x y : Nat} (h : adc c s o = some (z, x, y)) : ∃ x' y', o = some (z, x', y') ∧ x = c + x' ∧ y = s + y' := by
  cases o with
  | none => cases h
  | some q =>
    obtain ⟨a, b, d⟩ := q
    cases h
    exact ⟨b, d, rfl, rfl, rfl⟩
theorem of_it {β : Type} {c : Prop} [Decidable c] {a b z : β} (h : (if c then a else b) = z) (hc : c) : a = z := by rw [if_pos hc] at h; exact h
theorem of_if {β : Type} {c : Prop} [Decidable c] {a b z : β} (h : (if c then a else b) = z) (hc : ¬ c) : b = z := by rw [if_neg hc] at h; exact h
theorem of_bndE {α β : Type} {v : α} {k : α → β} {z : β} (h : bnd v k = z) : ∃ w, w = v ∧ k w = z := ⟨v, rfl, h⟩
theorem of_oelN {β : Type} {x z : β} {k : Nat → β} (h : oel none x k = z) : x = z := h
theorem of_oelS {β : Type} {x z : β} {k : Nat → β} {a : Nat} (h : oel (some a) x k = z) : k a = z := h
def un2 {α β γ : Type} (k : α → β → γ) (q : α × β) : γ := k q.1 q.2
theorem of_un2 {α β γ : Type} {k : α → β → γ} {x : α} {y : β} {z : γ} (h : un2 k (x, y) = z) : k x y = z := h
theorem of_ret2 {α β : Type} {x r : α} {y t : β} (h : some (x, y) = some (r, t)) : r = x ∧ t = y := by cases h; exact ⟨rfl, rfl⟩
theorem of_ret3 {α : Type} {x r : α} {k1 k2 : Nat} (h : some (x, 0, 0) = some (r, k1, k2)) : r = x ∧ k1 = 0 ∧ k2 = 0 := by cases h; exact ⟨rfl, rfl, rfl⟩
theorem of_retA {α β : Type} {x r : α} {y t : β} {k1 k2 : Nat} (h : some ((x, y), 0, 0) = some ((r, t), k1, k2)) : r = x ∧ t = y ∧ k1 = 0 ∧ k2 = 0 := by cases h; exact ⟨rfl, rfl, rfl, rfl⟩
theorem of_retV {α : Type} {x r : α} {k1 k2 : Nat} (h : some (x, 0, 0) = some (r, k1, k2)) : r = x ∧ k1 = 0 ∧ k2 = 0 := by cases h; exact ⟨rfl, rfl, rfl⟩
section CMORE
variable {p : Program} {l : Launch} {e : Env} {R : Room} {s : State} {m : MethodId} {args : Array Value} {below : List Frame} {meth : Method} {c : Code} {H : Heap} {locs : List Loc} {cells slots : Nat} {Q : State → Prop}
variable {bb : ByteArray} {pc : Nat} {ls : Array Slot} {rest st0 : List Value} {D : va_G} {A : Nat → Prop} {cc : Nat → ClassId} {S : CS} {a : Nat}
theorem C_s {post : Int32 → Prop} {aa : Array Value} (hr : va_Run p l e R s m args below meth c H locs cells slots 0 0 (F0 m pc ls st0) rest (vp_Si post aa) (fun _ => False)) (kk : ∀ r : Int32, post r → W p l e R s m args below meth c H locs cells slots Q (F0 m (pc + 3) ls (.int r :: rest))) : W p l e R s m args below meth c H locs cells slots Q (F0 m pc ls st0) := by
  intro T hT X
  obtain ⟨v, st₀, t, T', L, h0, X', hL, e1, e2, ⟨r, hv, hp, hh⟩, st⟩ := hr T hT X
  cases hv
  have hLn : L = [] := by
    cases L with
    | nil => rfl
    | cons q w => exact absurd (hL q List.mem_cons_self) id
  subst hLn
  rw [List.append_nil] at X'
  obtain ⟨t2, a1, b1⟩ := kk r hp T' (by rw [e1, hh, h0]) X'
  exact ⟨t2, st t2 a1, b1⟩
theorem lv_aload_nq (hx : p.tables.exec = Jvm.exec) (hb : c.code = bb) {k : Fin 4} {i : Nat} {o : Option Nat} (hdg : decode bb pc = .ok (.aload_n k, 1)) (hi : (k : Nat) = i) (hl : ls[i]? = some (.val (va_rf o)))
    (kk : W p l e R s m args below meth c H locs cells slots Q (F0 m (pc + 1) ls (va_rf o :: rest))) : W p l e R s m args below meth c H locs cells slots Q (F0 m pc ls rest) := by
  cases o with
  | none => exact lv_aload_nN hx hb hdg hi hl kk
  | some x => exact lv_aload_n hx hb hdg hi hl kk
theorem lv_aloadq (hx : p.tables.exec = Jvm.exec) (hb : c.code = bb) {i : Nat} {o : Option Nat} (hdg : decode bb pc = .ok (.aload i, 2)) (hl : ls[i]? = some (.val (va_rf o)))
    (kk : W p l e R s m args below meth c H locs cells slots Q (F0 m (pc + 2) ls (va_rf o :: rest))) : W p l e R s m args below meth c H locs cells slots Q (F0 m pc ls rest) := by
  cases o with
  | none => exact lv_aloadN hx hb hdg hl kk
  | some x => exact lv_aload hx hb hdg hl kk
theorem lv_astore_nq (hx : p.tables.exec = Jvm.exec) (hb : c.code = bb) {k : Fin 4} {i nL : Nat} {o : Option Nat} {lv lv' : List (Nat × Value)} (hdg : decode bb pc = .ok (.astore_n k, 1)) (hi : (k : Nat) = i) (h : lv_has ls nL lv) (hn : i < nL) (hl : (i, va_rf o) :: lv.filter (fun q => !(q.1 == i) && !(q.1 + 1 == i && q.2.category == 2)) = lv')
    (kk : ∀ ls' : Array Slot, lv_has ls' nL lv' → W p l e R s m args below meth c H locs cells slots Q (F0 m (pc + 1) ls' rest)) : W p l e R s m args below meth c H locs cells slots Q (F0 m pc ls (va_rf o :: rest)) := by
  cases o with
  | none => exact lv_astore_nN hx hb hdg hi h hn hl kk
  | some x => exact lv_astore_n hx hb hdg hi h hn hl kk
theorem lv_astoreq (hx : p.tables.exec = Jvm.exec) (hb : c.code = bb) {i nL : Nat} {o : Option Nat} {lv lv' : List (Nat × Value)} (hdg : decode bb pc = .ok (.astore i, 2)) (h : lv_has ls nL lv) (hn : i < nL) (hl : (i, va_rf o) :: lv.filter (fun q => !(q.1 == i) && !(q.1 + 1 == i && q.2.category == 2)) = lv')
    (kk : ∀ ls' : Array Slot, lv_has ls' nL lv' → W p l e R s m args below meth c H locs cells slots Q (F0 m (pc + 2) ls' rest)) : W p l e R s m args below meth c H locs cells slots Q (F0 m pc ls (va_rf o :: rest)) := by
  cases o with
  | none => exact lv_astoreN hx hb hdg h hn hl kk
  | some x => exact lv_astore hx hb hdg h hn hl kk
theorem C_aast61 (hx : p.tables.exec = Jvm.exec) (hb : c.code = bb) (hK : va_K D vwCl (tyC cc) s) (hw : cWd D cc A s.heap S H locs) (hd : cD S a = 61) {v : Nat} (hv : cD S v = 3) {i : Int32} (hin : ¬ (i < 0 ∨ cN S a ≤ i.toNatClampNeg)) (hdg : decode bb pc = .ok (.aastore, 1))
    (kk : ∀ (S1 : CS) (H1 : Heap) (locs1 : List Loc), S1 = uQ S 61 a i.toNatClampNeg (some v) → cWd D cc A s.heap S1 H1 locs1 → W p l e R s m args below meth c H1 locs1 cells slots Q (F0 m (pc + 1) ls rest)) : W p l e R s m args below meth c H locs cells slots Q (F0 m pc ls (.ref v :: .int i :: .ref a :: rest)) := by
  obtain ⟨hok, hsz, hP, hD, hS⟩ := hw
  have hm := hok a (by omega)
  obtain ⟨q0, he0⟩ := cP_get (cc := cc) hm
  obtain ⟨qk, hev⟩ := cP_get (cc := cc) (hok v (by omega))
  rw [cell_3 hv] at hev
  have hset : cellOf cc (uQ S 61 a i.toNatClampNeg (some v)) a = .inl (cc 3, cN S a, .inr (.inr (.inr (.inr (va_up (cQ S 61 a) i.toNatClampNeg (some v)))))) := by
    rw [cell_61 (S := uQ S 61 a i.toNatClampNeg (some v)) hd, cQ_uQ, set1_s, set1_s]
    rfl
  have hq := cP_set hD hm he0 (S' := uQ S 61 a i.toNatClampNeg (some v)) rfl hset (fun b hb => off_uQ hb)
  have he := he0
  rw [cell_61 hd] at he
  have hlt : i.toNatClampNeg < cN S a := Nat.not_le.mp fun q => hin (Or.inr q)
  have h0 : ¬ i < 0 := fun q => hin (Or.inl q)
  have hc : vwCl[3]? = some (RX2, TX2, 11) := rfl
  obtain ⟨r', hr', cellV, g1, g2, g3, -⟩ := hP qk _ hev
  have hcls := (hK.1 3 _ hc).2
  obtain ⟨kA, comp, k1, k2, k3, -⟩ := (hK.2 3 (cc 3, .object RX2) rfl).2
  have hcomp : comp = D.1 3 := Option.some.inj (k3.symm.trans hcls.1)
  subst hcomp
  obtain ⟨kC, hkC, -⟩ := hcls.2
  refine W.aast hx hb (hP q0 _ he) (fun q h => by cases h) (fun h => by cases h) k1 k2 rfl hkC ⟨h0, by show _ < (arrV _ _ _).slots.size; rw [arrV_size]; exact hlt⟩ g1 (fun q h => by rw [g3] at h; cases h) (by rw [g2]; exact hkC) (by rw [g2]; exact va_assign hcls) rfl rfl hdg fun H1 e z oq => ?_
  refine kk _ H1 _ rfl ⟨hok, z.trans hsz, ?_, ?_, hS.put z oq (hD.2 q0 _ he)⟩
  · rw [← hq]
    refine hP.set hD he ?_ oq
    show H1[a]? = some (vp_cell _ _)
    rw [e, vp_cell_q, vp_cell_q, arrV_store]
    congr 2
    funext q
    by_cases hq : q = i.toNatClampNeg
    · subst hq
      simp [updV, va_up, va_rf]
    · simp [updV, va_up, hq]
  · rw [← hq]
    exact hD.set he
end CMORE
theorem cnew_A {cc : Nat → ClassId} (S : CS) {d n : Nat} (h1 : 40 ≤ d) (h2 : d < 60) : cellOf cc (nw S d n) (nx S) = .inl (cc 0, n, .inl (fun _ => 0)) := by
  rw [cell_A h1 h2 (cD_new S d n), cN_nw, cA_nw, set1_s]
  show Sum.inl (cc 0, n, Sum.inl (set1 (cA S d) (nx S) (fun _ => 0) (nx S))) = _
  rw [set1_s]
theorem cnew_B {cc : Nat → ClassId} (S : CS) {n : Nat} : cellOf cc (nw S 60 n) (nx S) = .inl (cc 1, n, .inl (fun _ => 0)) := by
  rw [cell_B (cD_new S 60 n), cN_nw, cA_nw, set1_s]
  show Sum.inl (cc 1, n, Sum.inl (set1 (cA S 60) (nx S) (fun _ => 0) (nx S))) = _
  rw [set1_s]
theorem cnew_L {cc : Nat → ClassId} {r : Nat} (hr : r < 5) (S : CS) : cellOf cc (nw S (20 + r) 0) (nx S) = .inr (0, [.int 0, .null, .int 0]) := by
  rw [cell_L hr (cD_new S (20 + r) 0)]
  simp [cI_nw, cR_nw, set1, va_rf]

theorem dfX0 (j : Nat) (hj : j < 4) : defaultValue (tyX0 j) = vp_V [.int 0, .int 0, .null, .null] j := by
  rcases (show j = 0 ∨ j = 1 ∨ j = 2 ∨ j = 3 by omega) with rfl | rfl | rfl | rfl <;> rfl
theorem dfX1 (j : Nat) (hj : j < 2) : defaultValue (tyX1 j) = vp_V [.int 0, .int 0] j := by
  rcases (show j = 0 ∨ j = 1 by omega) with rfl | rfl <;> rfl
theorem dfX2 (j : Nat) (hj : j < 11) : defaultValue (tyX2 j) = vp_V [.int 0, .int 0, .int 0, .int 0, .int 0, .int 0, .int 0, .int 0, .int 0, .null, .null] j := by
  rcases (show j = 0 ∨ j = 1 ∨ j = 2 ∨ j = 3 ∨ j = 4 ∨ j = 5 ∨ j = 6 ∨ j = 7 ∨ j = 8 ∨ j = 9 ∨ j = 10 by omega) with rfl | rfl | rfl | rfl | rfl | rfl | rfl | rfl | rfl | rfl | rfl <;> rfl
theorem dfX3 (j : Nat) (hj : j < 5) : defaultValue (tyX3 j) = vp_V [.int 0, .int 0, .null, .int 0, .int 0] j := by
  rcases (show j = 0 ∨ j = 1 ∨ j = 2 ∨ j = 3 ∨ j = 4 by omega) with rfl | rfl | rfl | rfl | rfl <;> rfl
theorem dfX4 (j : Nat) (hj : j < 4) : defaultValue (tyX4 j) = vp_V [.int 0, .int 0, .int 0, .null] j := by
  rcases (show j = 0 ∨ j = 1 ∨ j = 2 ∨ j = 3 by omega) with rfl | rfl | rfl | rfl <;> rfl
theorem dfX5 (j : Nat) (hj : j < 6) : defaultValue (tyX5 j) = vp_V [.null, .null, .int 0, .int 0, .int 0, .int 0] j := by
  rcases (show j = 0 ∨ j = 1 ∨ j = 2 ∨ j = 3 ∨ j = 4 ∨ j = 5 by omega) with rfl | rfl | rfl | rfl | rfl | rfl <;> rfl
theorem dfX6 (j : Nat) (hj : j < 5) : defaultValue (tyX6 j) = vp_V [.null, .null, .null, .null, .int 0] j := by
  rcases (show j = 0 ∨ j = 1 ∨ j = 2 ∨ j = 3 ∨ j = 4 by omega) with rfl | rfl | rfl | rfl | rfl <;> rfl
theorem dfX7 (j : Nat) (hj : j < 2) : defaultValue (tyX7 j) = vp_V [.null, .null] j := by
  rcases (show j = 0 ∨ j = 1 by omega) with rfl | rfl <;> rfl
theorem dfX8 (j : Nat) (hj : j < 3) : defaultValue (tyX8 j) = vp_V [.null, .null, .int 0] j := by
  rcases (show j = 0 ∨ j = 1 ∨ j = 2 by omega) with rfl | rfl | rfl <;> rfl
theorem dfX9 (j : Nat) (hj : j < 10) : defaultValue (tyX9 j) = vp_V [.null, .null, .null, .int 0, .null, .null, .null, .null, .null, .int 0] j := by
  rcases (show j = 0 ∨ j = 1 ∨ j = 2 ∨ j = 3 ∨ j = 4 ∨ j = 5 ∨ j = 6 ∨ j = 7 ∨ j = 8 ∨ j = 9 by omega) with rfl | rfl | rfl | rfl | rfl | rfl | rfl | rfl | rfl | rfl <;> rfl
theorem dfX10 (j : Nat) (hj : j < 3) : defaultValue (tyX10 j) = vp_V [.int 0, .int 0, .null] j := by
  rcases (show j = 0 ∨ j = 1 ∨ j = 2 by omega) with rfl | rfl | rfl <;> rfl
theorem dfX11 (j : Nat) (hj : j < 12) : defaultValue (tyX11 j) = vp_V [.null, .null, .null, .null, .null, .null, .null, .null, .int 0, .int 0, .int 0, .int 0] j := by
  rcases (show j = 0 ∨ j = 1 ∨ j = 2 ∨ j = 3 ∨ j = 4 ∨ j = 5 ∨ j = 6 ∨ j = 7 ∨ j = 8 ∨ j = 9 ∨ j = 10 ∨ j = 11 by omega) with rfl | rfl | rfl | rfl | rfl | rfl | rfl | rfl | rfl | rfl | rfl | rfl <;> rfl
theorem dfJx4a65c (j : Nat) (hj : j < 3) : defaultValue (tyJx4a65c j) = vp_V [.int 0, .null, .int 0] j := by
  rcases (show j = 0 ∨ j = 1 ∨ j = 2 by omega) with rfl | rfl | rfl <;> rfl
