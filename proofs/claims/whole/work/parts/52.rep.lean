/-! PURE: how the class's world stands for the reference's -/
def nin (A B : List Nat) : Bool := A.all (fun g => !B.contains g)
theorem nin_of {A B : List Nat} (h : nin A B = true) {g : Nat} (hg : g ∈ A) : g ∉ B := fun hb => by
  have := List.all_eq_true.mp h g hg
  rw [List.contains_iff_mem.mpr hb] at this
  exact absurd this (by decide)
def injOn (f : Nat → Nat) (n : Nat) : Prop := ∀ i j, i < n → j < n → f i = f j → i = j
section KEEPS
variable {S T : CS} {GI GR GA GQ : List Nat}
theorem kD (hk : keep S T GI GR GA GQ) {q d : Nat} (h : cD S q = d) (h0 : d ≠ 0) : cD T q = d := (hk.1.2 q (h ▸ h0)).1.trans h
theorem kN (hk : keep S T GI GR GA GQ) {q d N : Nat} (h : cD S q = d) (h0 : d ≠ 0) (hn : cN S q = N) : cN T q = N := (hk.1.2 q (h ▸ h0)).2.trans hn
theorem kI (hk : keep S T GI GR GA GQ) {q d g : Nat} {v : Int32} (h : cD S q = d) (h0 : d ≠ 0) (hg : g ∉ GI) (e : cI S g q = v) : cI T g q = v := (hk.2.1 g hg q (h ▸ h0)).trans e
theorem kR (hk : keep S T GI GR GA GQ) {q d g : Nat} {v : Option Nat} (h : cD S q = d) (h0 : d ≠ 0) (hg : g ∉ GR) (e : cR S g q = v) : cR T g q = v := (hk.2.2.1 g hg q (h ▸ h0)).trans e
theorem kA (hk : keep S T GI GR GA GQ) {q d g : Nat} (h : cD S q = d) (h0 : d ≠ 0) (hg : g ∉ GA) (i : Nat) {v : Int32} (e : cA S g q i = v) : cA T g q i = v := (congrFun (hk.2.2.2.1 g hg q (h ▸ h0)) i).trans e
theorem kQ (hk : keep S T GI GR GA GQ) {q d g : Nat} (h : cD S q = d) (h0 : d ≠ 0) (hg : g ∉ GQ) (i : Nat) {v : Option Nat} (e : cQ S g q i = v) : cQ T g q i = v := (congrFun (hk.2.2.2.2 g hg q (h ▸ h0)) i).trans e
end KEEPS
/-- the references that never change -/
def rFix (M : Nat → Nat → Nat) (S : CS) : Prop := cD S (M 0 0) = 12 ∧ cD S (M 0 2) = 8 ∧ cD S (M 0 8) = 6 ∧ cD S (M 0 10) = 10 ∧ cR S 240 (M 0 0) = some (M 0 1) ∧ cR S 241 (M 0 0) = some (M 0 2) ∧ cR S 242 (M 0 0) = some (M 0 5) ∧ cR S 243 (M 0 0) = some (M 0 6) ∧ cR S 244 (M 0 0) = some (M 0 7) ∧ cR S 245 (M 0 0) = some (M 0 8) ∧ cR S 246 (M 0 0) = some (M 0 10) ∧ cR S 160 (M 0 2) = some (M 0 3) ∧ cR S 161 (M 0 2) = some (M 0 4) ∧ cR S 120 (M 0 8) = some (M 0 9)
/-- the plain numbers -/
def rNum (M : Nat → Nat → Nat) (x : MS) (S : CS) : Prop := cD S (M 0 0) = 12 ∧ cI S 248 (M 0 0) = mI x 2 ∧ cI S 249 (M 0 0) = mI x 20 ∧ cI S 250 (M 0 0) = mI x 65
def rSta (M : Nat → Nat → Nat) (x : MS) (S : CS) : Prop := cD S (M 0 0) = 12 ∧ cI S 251 (M 0 0) = mI x 1
def rCon (M : Nat → Nat → Nat) (x : MS) (S : CS) : Prop := cD S (M 0 1) = 40 ∧ cN S (M 0 1) = 10 ∧ ∀ k, k < 10 → cA S 40 (M 0 1) k = mA x 3 k
/-- the lots, by number -/
def rLotL (ae : Nat) (M : Nat → Nat → Nat) (x : MS) (S : CS) : Prop := listOk ae S 0 (M 0 3) (nN x 4) (M 1) ∧ injOn (M 1) (nN x 4)
def rLot (M : Nat → Nat → Nat) (x : MS) (S : CS) : Prop := ∀ i, i < nN x 4 → cD S (M 1 i) = 3 ∧ cI S 60 (M 1 i) = nI i ∧ cI S 61 (M 1 i) = mA x 5 i ∧ cI S 62 (M 1 i) = mA x 6 i ∧ cI S 63 (M 1 i) = mA x 7 i ∧ cI S 64 (M 1 i) = mA x 8 i ∧ cI S 65 (M 1 i) = mA x 9 i ∧ cI S 66 (M 1 i) = mA x 10 i ∧ cI S 67 (M 1 i) = mA x 11 i ∧ cI S 68 (M 1 i) = mA x 12 i
/-- a chain of cells of one kind through a reference field -/
def chn (S : CS) (d g : Nat) (f : Nat → Nat) : Option Nat → List Nat → Prop
  | o, [] => o = none
  | o, j :: js => o = some (f j) ∧ cD S (f j) = d ∧ chn S d g f (cR S g (f j)) js
theorem keep_chn {S T : CS} {GI GR GA GQ : List Nat} (hk : keep S T GI GR GA GQ) {d g : Nat} {f : Nat → Nat} (hd : d ≠ 0) (hg : g ∉ GR) : ∀ (js : List Nat) (o : Option Nat), chn S d g f o js → chn T d g f o js
  | [], _, h => h
  | j :: js, o, h => ⟨h.1, kD hk h.2.1 hd, by
      have e := kR hk h.2.1 hd hg rfl
      rw [e]
      exact keep_chn hk hd hg js _ h.2.2⟩
def sooner (x : MS) (a b : Nat) : Prop := mA x 7 a < mA x 7 b ∨ (mA x 7 a = mA x 7 b ∧ a < b)
def rCha (M : Nat → Nat → Nat) (x : MS) (S : CS) : Prop := cD S (M 0 4) = 61 ∧ cN S (M 0 4) = 10 ∧ ∀ k, k < 10 → ∃ js : List Nat, chn S 3 69 (M 1) (cQ S 61 (M 0 4) k) js ∧ (∀ j, j ∈ js ↔ j < nN x 4 ∧ mA x 5 j = nI k) ∧ js.Pairwise (sooner x)
/-- the weighings of each lot, the newest first -/
def rWei (M : Nat → Nat → Nat) (x : MS) (S : CS) : Prop := injOn (M 8) (nN x 65) ∧ (∀ w, w < nN x 65 → cD S (M 8 w) = 11 ∧ cI S 220 (M 8 w) = mA x 67 w ∧ cI S 221 (M 8 w) = mA x 68 w) ∧ ∀ i, i < nN x 4 → cD S (M 1 i) = 3 ∧ ∃ ws : List Nat, chn S 11 222 (M 8) (cR S 70 (M 1 i)) ws ∧ (∀ w, w ∈ ws ↔ w < nN x 65 ∧ mA x 66 w = nI i) ∧ ws.Pairwise (fun a b => b < a)
/-- the tables -/
def rTabL (ae : Nat) (M : Nat → Nat → Nat) (x : MS) (S : CS) : Prop := listOk ae S 1 (M 0 5) (nN x 13) (M 2) ∧ injOn (M 2) (nN x 13) ∧ injOn (M 3) (nN x 13) ∧ injOn (M 4) (nN x 13)
def rTab (M : Nat → Nat → Nat) (S : CS) (x : MS) : Prop := ∀ t, t < nN x 13 → cD S (M 2 t) = 9 ∧ cR S 180 (M 2 t) = some (M 3 t) ∧ cR S 181 (M 2 t) = some (M 4 t) ∧ cD S (M 3 t) = 46 ∧ cN S (M 3 t) = 10 ∧ cD S (M 4 t) = 47 ∧ cN S (M 4 t) = 10
def rWan (M : Nat → Nat → Nat) (x : MS) (S : CS) : Prop := (∀ t, t < nN x 13 → cD S (M 3 t) = 46 ∧ ∀ k, k < 10 → cA S 46 (M 3 t) k = mA x 14 (10 * t + k)) ∧ ∀ j, 10 * nN x 13 ≤ j → mA x 14 j = 0
def rGot (M : Nat → Nat → Nat) (x : MS) (S : CS) : Prop := (∀ t, t < nN x 13 → cD S (M 4 t) = 47 ∧ ∀ k, k < 10 → cA S 47 (M 4 t) k = (mB x 15 (10 * t + k)).toInt32) ∧ ∀ j, 10 * nN x 13 ≤ j → mB x 15 j = 0
def rLoa (M : Nat → Nat → Nat) (x : MS) (S : CS) : Prop := (∀ t, t < nN x 13 → cD S (M 2 t) = 9 ∧ cI S 182 (M 2 t) = mA x 43 t) ∧ (∀ j, nN x 13 ≤ j → mA x 43 j = 0) ∧ (∀ j, 0 ≤ mA x 43 j ∧ mA x 43 j ≤ 1000000) ∧ mI x 44 = nI (cntP (mA x 43) (nN x 13)) ∧ cntP (mA x 43) (nN x 13) ≤ 8
/-- the families -/
def rFamL (ae : Nat) (M : Nat → Nat → Nat) (x : MS) (S : CS) : Prop := listOk ae S 2 (M 0 6) (nN x 16) (M 5) ∧ injOn (M 5) (nN x 16) ∧ injOn (M 6) (nN x 16)
def rFam (M : Nat → Nat → Nat) (x : MS) (S : CS) : Prop := ∀ i, i < nN x 16 → cD S (M 5 i) = 1 ∧ cI S 20 (M 5 i) = mA x 18 i ∧ cI S 21 (M 5 i) = mA x 19 i ∧ cR S 22 (M 5 i) = some (M 6 i) ∧ cD S (M 6 i) = 41 ∧ cN S (M 6 i) = 20
def rHad (M : Nat → Nat → Nat) (x : MS) (S : CS) : Prop := ∀ i, i < nN x 16 → cD S (M 6 i) = 41 ∧ ∀ g, g < 20 → (cA S 41 (M 6 i) g).toInt64 = ledN x (nI g) (nI i) (nN x 32)
/-- the referrals of each family, the newest first -/
def rRef (M : Nat → Nat → Nat) (x : MS) (S : CS) : Prop := injOn (M 7) (nN x 20) ∧ (∀ e, e < nN x 20 → cD S (M 7 e) = 5 ∧ cI S 100 (M 7 e) = mA x 22 e ∧ cI S 101 (M 7 e) = mA x 23 e ∧ cI S 102 (M 7 e) = mA x 24 e ∧ 0 ≤ mA x 24 e) ∧ ∀ i, i < nN x 16 → cD S (M 5 i) = 1 ∧ ∃ es : List Nat, chn S 5 103 (M 7) (cR S 23 (M 5 i)) es ∧ (∀ e, e ∈ es ↔ e < nN x 20 ∧ mA x 21 e = nI i) ∧ es.Pairwise (fun a b => b < a)
/-- the parcels and their lines -/
def rParL (ae : Nat) (M : Nat → Nat → Nat) (x : MS) (S : CS) : Prop := listOk ae S 3 (M 0 7) (nN x 32) (M 9) ∧ injOn (M 9) (nN x 32)
def grmN (x : MS) (a n : Nat) : Int32 := itN (fun j s => s + mA x 39 (a + j)) 0 n
def rPar (ae : Nat) (M : Nat → Nat → Nat) (x : MS) (S : CS) : Prop := (∀ p, p < nN x 32 → cD S (M 9 p) = 4 ∧ cI S 80 (M 9 p) = mA x 33 p ∧ cI S 81 (M 9 p) = mA x 34 p ∧ cR S 82 (M 9 p) = some (M 10 p) ∧ cI S 83 (M 9 p) = grmN x (nA x 35 p) (nA x 35 (p + 1) - nA x 35 p) ∧ cI S 84 (M 9 p) = mA x 36 p ∧ listOk ae S 4 (M 10 p) (nA x 35 (p + 1) - nA x 35 p) (fun j => M 11 (nA x 35 p + j))) ∧ ∀ q, q < nN x 37 → cD S (M 11 q) = 2 ∧ cI S 40 (M 11 q) = mA x 38 q ∧ cI S 41 (M 11 q) = mA x 39 q
/-- the tape -/
def rTap (M : Nat → Nat → Nat) (x : MS) (S : CS) : Prop := cD S (M 0 8) = 6 ∧ cD S (M 0 9) = 60 ∧ cN S (M 0 9) = 400 ∧ cI S 124 (M 0 8) = mI x 58 ∧ cI S 125 (M 0 8) = mI x 63 ∧ ∀ i, i < nN x 58 → isB (mA x 57 i) 0 255 = true ∧ cA S 60 (M 0 9) i = (mA x 57 i).toInt8.toInt32
/-- the rules: the set that holds, and the draft -/
def rRul (M : Nat → Nat → Nat) (x : MS) (S : CS) : Prop := cD S (M 0 0) = 12 ∧ cD S (M 0 8) = 6 ∧ cR S 247 (M 0 0) = some (M 13 0) ∧ cR S 121 (M 0 8) = some (M 13 1) ∧ (∀ j, j < 2 → cD S (M 13 j) = 7 ∧ cR S 140 (M 13 j) = some (M 14 j) ∧ cR S 141 (M 13 j) = some (M 15 j) ∧ cR S 142 (M 13 j) = some (M 16 j) ∧ cR S 143 (M 13 j) = some (M 17 j) ∧ (cD S (M 14 j) = 42 ∧ cN S (M 14 j) = 30) ∧ (cD S (M 15 j) = 43 ∧ cN S (M 15 j) = 30) ∧ (cD S (M 16 j) = 44 ∧ cN S (M 16 j) = 30) ∧ (cD S (M 17 j) = 45 ∧ cN S (M 17 j) = 30)) ∧ (M 13 0 ≠ M 13 1 ∧ M 14 0 ≠ M 14 1 ∧ M 15 0 ≠ M 15 1 ∧ M 16 0 ≠ M 16 1 ∧ M 17 0 ≠ M 17 1) ∧ cI S 144 (M 13 0) = mI x 25 ∧ ∀ r, r < nN x 25 → cA S 42 (M 14 0) r = mA x 26 r + 1 ∧ cA S 43 (M 15 0) r = mA x 27 r ∧ cA S 44 (M 16 0) r = mA x 28 r ∧ (mA x 26 r = 0 → cA S 45 (M 17 0) r = mA x 29 r)
/-- the roads and the row of stops -/
def rVan (M : Nat → Nat → Nat) (S : CS) : Prop := cD S (M 0 10) = 10 ∧ cR S 200 (M 0 10) = some (M 0 11) ∧ cR S 201 (M 0 10) = some (M 0 12) ∧ cR S 202 (M 0 10) = some (M 0 13) ∧ cR S 204 (M 0 10) = some (M 0 14) ∧ cR S 205 (M 0 10) = some (M 0 15) ∧ cR S 206 (M 0 10) = some (M 0 16) ∧ cR S 207 (M 0 10) = some (M 0 17) ∧ cR S 208 (M 0 10) = some (M 0 18) ∧ (cD S (M 0 12) = 48 ∧ cN S (M 0 12) = 8) ∧ (cD S (M 0 13) = 49 ∧ cN S (M 0 13) = 8) ∧ (cD S (M 0 14) = 50 ∧ cN S (M 0 14) = 256) ∧ (cD S (M 0 15) = 51 ∧ cN S (M 0 15) = 2048) ∧ (cD S (M 0 16) = 52 ∧ cN S (M 0 16) = 256) ∧ (cD S (M 0 17) = 53 ∧ cN S (M 0 17) = 256) ∧ cD S (M 0 18) = 54 ∧ cN S (M 0 18) = 15 ∧ cA S 50 (M 0 14) 0 = 0
def rRoa (M : Nat → Nat → Nat) (x : MS) (S : CS) : Prop := cD S (M 0 11) = 62 ∧ cN S (M 0 11) = 13 ∧ injOn (M 12) 13 ∧ (∀ i, i < 13 → cQ S 62 (M 0 11) i = some (M 12 i) ∧ cD S (M 12 i) = 55 ∧ cN S (M 12 i) = 13 ∧ ∀ j, j < 13 → cA S 55 (M 12 i) j = mA x 42 (13 * i + j) ∧ mA x 42 (13 * i + j) = mA x 42 (13 * j + i) ∧ isB (mA x 42 (13 * i + j)) 0 600 = true)
def rSto (M : Nat → Nat → Nat) (x : MS) (S : CS) : Prop := cD S (M 0 10) = 10 ∧ cD S (M 0 18) = 54 ∧ cI S 209 (M 0 10) = mI x 56 ∧ (mI x 56 = -1 ∨ (okN x 56 15 ∧ ∀ i, i < nN x 56 → cA S 54 (M 0 18) i = mA x 55 i))
/-- what holds of the reference alone, after at most k calls -/
def rOk (k : Nat) (x : MS) : Prop := mI x 0 = 0 ∧ okN x 4 200 ∧ okN x 13 12 ∧ okN x 16 40 ∧ okN x 20 100 ∧ okN x 25 30 ∧ okN x 58 400 ∧ okN x 65 100 ∧ (okN x 32 512 ∧ nN x 32 ≤ k) ∧ isB (mI x 2) 0 500 = true ∧ lnOk x ∧ mI x 37 = nI (nN x 37) ∧ nN x 37 + cntL x ≤ 11 * k ∧ nA x 35 (nN x 32) = nN x 37
def rLim (x : MS) : Prop := (∀ j, 0 ≤ mA x 9 j) ∧ (∀ i, i < nN x 4 → isB (mA x 5 i) 0 9 = true ∧ isB (mA x 6 i) 1 1000000 = true ∧ isB (mA x 7 i) 0 1000 = true ∧ isB (mA x 8 i) 0 19 = true ∧ isB (mA x 9 i) 0 1000000 = true ∧ (mA x 6 i).toInt = (mA x 9 i).toInt + (mA x 10 i).toInt + (mA x 11 i).toInt + (mA x 12 i).toInt ∧ 0 ≤ mA x 10 i ∧ 0 ≤ mA x 11 i ∧ 0 ≤ mA x 12 i) ∧ (∀ j, isB (mA x 14 j) 0 1000000 = true) ∧ (∀ r, r < nN x 25 → isB (mA x 26 r) 0 2 = true ∧ isB (mA x 27 r) 0 9 = true ∧ (mA x 26 r = 2 → isB (mA x 28 r) 0 9 = true) ∧ (mA x 26 r = 1 → isB (mA x 28 r) 0 1000 = true) ∧ (mA x 26 r = 0 → isB (mA x 28 r) 0 100000 = true)) ∧ (∀ i, i < nN x 16 → isB (mA x 18 i) 1 12 = true)
/-- empty places of the reference's tables that a fresh object takes over -/
def rNew (x : MS) : Prop := ∀ j, nN x 4 ≤ j → mA x 10 j = 0 ∧ mA x 11 j = 0 ∧ mA x 12 j = 0 ∧ mA x 9 j = 0
/-- sums: what parcels lack in all; the lines' grams are what the lots handed out -/
def rSum (x : MS) : Prop := mL x 40 = itN (fun p s => s + (mA x 36 p).toInt64) 0 (nN x 32) ∧ (∀ q, q < nN x 37 → 0 ≤ mA x 39 q) ∧ itN (fun q s => s + (mA x 39 q).toInt) (0 : Int) (nN x 37) = itN (fun i s => s + (mA x 10 i).toInt) (0 : Int) (nN x 4)
/-- whose parcels, referrals and weighings they are -/
def rWho (x : MS) : Prop := (∀ p, p < nN x 32 → ∃ f, f < nN x 16 ∧ mA x 33 p = nI f) ∧ (∀ e, e < nN x 20 → ∃ f, f < nN x 16 ∧ mA x 21 e = nI f) ∧ (∀ w, w < nN x 65 → ∃ j, j < nN x 4 ∧ mA x 66 w = nI j) ∧ (∀ p, p < nN x 32 → nA x 35 (p + 1) - nA x 35 p ≤ 300) ∧ ∀ q, q < nN x 37 → ∃ j, j < nN x 4 ∧ mA x 38 q = nI j
def Rep (ae k : Nat) (M : Nat → Nat → Nat) (x : MS) (S : CS) : Prop :=
  (frsh S ∧ cD S ae = 0 ∧ ae < nx S) ∧ rOk k x ∧ rLim x ∧ rNew x ∧ rSum x ∧ rWho x ∧ rFix M S ∧ rNum M x S ∧ rSta M x S ∧ rCon M x S ∧ rLotL ae M x S ∧ rLot M x S ∧ rCha M x S ∧ rWei M x S ∧ rTabL ae M x S ∧ rTab M S x ∧ rWan M x S ∧ rGot M x S ∧ rLoa M x S ∧ rFamL ae M x S ∧ rFam M x S ∧ rHad M x S ∧ rRef M x S ∧ rParL ae M x S ∧ rPar ae M x S ∧ rTap M x S ∧ rRul M x S ∧ rVan M S ∧ rRoa M x S ∧ rSto M x S
