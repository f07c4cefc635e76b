/-! PURE: van rounds: least of many, sets as numbers -/
def mnF (B : Nat) (p : Nat → Bool) (f : Nat → Nat) : Nat → Nat
  | 0 => B
  | k + 1 => if p k = true then min (mnF B p f k) (f k) else mnF B p f k
section MN
variable {B : Nat} {p : Nat → Bool} {f : Nat → Nat}
theorem mnF_s (k : Nat) : mnF B p f (k + 1) = if p k = true then min (mnF B p f k) (f k) else mnF B p f k := rfl
theorem mnF_B : ∀ k, mnF B p f k ≤ B
  | 0 => Nat.le_refl _
  | k + 1 => by
    have := mnF_B k
    rw [mnF_s]
    split <;> omega
theorem mnF_le : ∀ (k j : Nat), j < k → p j = true → mnF B p f k ≤ f j
  | 0, _, h, _ => absurd h (Nat.not_lt_zero _)
  | k + 1, j, h, hp => by
    rw [mnF_s]
    by_cases e : j = k
    · subst e
      rw [if_pos hp]
      omega
    · have := mnF_le k j (by omega) hp
      split <;> omega
theorem mnF_at : ∀ k, mnF B p f k = B ∨ ∃ j, j < k ∧ p j = true ∧ f j = mnF B p f k
  | 0 => Or.inl rfl
  | k + 1 => by
    have ih := mnF_at k
    rw [mnF_s]
    by_cases hp : p k = true
    · rw [if_pos hp]
      by_cases c : mnF B p f k ≤ f k
      · rw [Nat.min_eq_left c]
        rcases ih with q | ⟨j, h1, h2, h3⟩
        · exact Or.inl q
        · exact Or.inr ⟨j, by omega, h2, h3⟩
      · rw [Nat.min_eq_right (by omega)]
        exact Or.inr ⟨k, by omega, hp, rfl⟩
    · rw [if_neg hp]
      rcases ih with q | ⟨j, h1, h2, h3⟩
      · exact Or.inl q
      · exact Or.inr ⟨j, by omega, h2, h3⟩
theorem mnF_is {k v : Nat} (h1 : ∃ j, j < k ∧ p j = true ∧ f j = v) (h2 : ∀ j, j < k → p j = true → v ≤ f j) (h3 : v ≤ B) : mnF B p f k = v := by
  obtain ⟨j, a, b, c⟩ := h1
  have h := mnF_le (B := B) (f := f) k j a b
  rcases mnF_at (B := B) (p := p) (f := f) k with q | ⟨i, q1, q2, q3⟩
  · omega
  · have := h2 i q1 q2
    omega
theorem mnF_cg {g : Nat → Nat} : ∀ k, (∀ j, j < k → p j = true → f j = g j) → mnF B p f k = mnF B p g k
  | 0, _ => rfl
  | k + 1, h => by
    have ih := mnF_cg k (fun j hj => h j (by omega))
    rw [mnF_s, mnF_s, ih]
    by_cases hp : p k = true
    · rw [if_pos hp, if_pos hp, h k (by omega) hp]
    · rw [if_neg hp, if_neg hp]
end MN
theorem first_ex {p : Nat → Prop} : ∀ k, (∃ j, j < k ∧ p j) → ∃ j, j < k ∧ p j ∧ ∀ i, i < j → ¬ p i
  | 0, ⟨j, h, _⟩ => absurd h (Nat.not_lt_zero _)
  | k + 1, ⟨j, h, hp⟩ => by
    by_cases c : ∃ j, j < k ∧ p j
    · obtain ⟨i, a, b, d⟩ := first_ex k c
      exact ⟨i, by omega, b, d⟩
    · have e : j = k := by
        by_cases w : j < k
        · exact absurd ⟨j, w, hp⟩ c
        · omega
      subst e
      exact ⟨j, by omega, hp, fun i hi hpi => c ⟨i, hi, hpi⟩⟩
/-! sets -/
def pc (s : Nat) : Nat := s % 2 + s / 2 % 2 + s / 4 % 2 + s / 8 % 2 + s / 16 % 2 + s / 32 % 2 + s / 64 % 2 + s / 128 % 2
def lo (s : Nat) : Nat := s - (s &&& (s - 1))
def cB (s r : Nat) : Bool := ((r &&& s) == r) && ((r &&& lo s) != 0)
theorem t_bit : ∀ s, s < 256 → ∀ k, k < 8 → s.testBit k = true → (s ^^^ 2 ^ k) + 2 ^ k = s ∧ pc (s ^^^ 2 ^ k) + 1 = pc s := by decide +kernel
theorem t_ex : ∀ s, s < 256 → s ≠ 0 → ∃ k, k < 8 ∧ s.testBit k = true := by decide +kernel
theorem t_pc8 : ∀ s, s < 256 → pc s ≤ 8 ∧ (pc s = 0 → s = 0) := by decide +kernel
theorem t_lo : ∀ s, s < 256 → s ≠ 0 → cB s s = true ∧ cB s (lo s) = true ∧ pc (lo s) = 1 ∧ lo s < 256 ∧ ∃ k, k < 8 ∧ lo s = 2 ^ k ∧ s.testBit k = true := by decide +kernel
def all2 (p : Nat → Nat → Bool) (k : Nat) : Nat → Bool
  | 0 => true
  | n + 1 => p k n && all2 p k n
def all1 (p : Nat → Nat → Bool) (N : Nat) : Nat → Bool
  | 0 => true
  | n + 1 => all2 p n N && all1 p N n
theorem all2_of {p : Nat → Nat → Bool} {k : Nat} : ∀ n, all2 p k n = true → ∀ j, j < n → p k j = true
  | 0, _, j, h => absurd h (Nat.not_lt_zero _)
  | n + 1, e, j, h => by
    have e : (p k n && all2 p k n) = true := e
    rw [Bool.and_eq_true] at e
    by_cases c : j = n
    · rw [c]; exact e.1
    · exact all2_of n e.2 j (by omega)
theorem all1_of {p : Nat → Nat → Bool} {N : Nat} : ∀ n, all1 p N n = true → ∀ s, s < n → ∀ j, j < N → p s j = true
  | 0, _, j, h => absurd h (Nat.not_lt_zero _)
  | n + 1, e, s, h => by
    have e : (all2 p n N && all1 p N n) = true := e
    rw [Bool.and_eq_true] at e
    by_cases c : s = n
    · rw [c]; exact all2_of N e.1
    · exact all1_of n e.2 s (by omega)
def qB (s r : Nat) : Bool := !(cB s r) || (Nat.beq ((s ^^^ r) + r) s && Nat.blt 0 r && Nat.beq (pc (s ^^^ r) + pc r) (pc s) && Nat.beq (r &&& s) r && Nat.beq ((s ^^^ r) &&& (s &&& (s - 1))) (s ^^^ r) && Nat.beq (s ^^^ (s ^^^ r)) r)
theorem qB_all : all1 qB 256 256 = true := by decide +kernel
theorem t_cB (s : Nat) (hs : s < 256) (r : Nat) (hr : r < 256) (h : cB s r = true) : (s ^^^ r) + r = s ∧ 0 < r ∧ pc (s ^^^ r) + pc r = pc s ∧ (r &&& s) = r ∧ ((s ^^^ r) &&& (s &&& (s - 1))) = s ^^^ r ∧ s ^^^ (s ^^^ r) = r := by
  have q := all1_of 256 qB_all s hs r hr
  unfold qB at q
  rw [h, Bool.not_true, Bool.false_or] at q
  simp only [Bool.and_eq_true, Nat.beq_eq, Nat.blt_eq] at q
  obtain ⟨⟨⟨⟨⟨a, b⟩, c⟩, d⟩, e⟩, f⟩ := q
  exact ⟨a, b, c, d, e, f⟩
def qC (s t : Nat) : Bool := !(Nat.beq (t &&& (s &&& (s - 1))) t) || Nat.beq s 0 || (cB s (s ^^^ t) && Nat.beq (s ^^^ (s ^^^ t)) t && Nat.blt (s ^^^ t) 256)
theorem qC_all : all1 qC 256 256 = true := by decide +kernel
theorem t_cls (s : Nat) (hs : s < 256) (h0 : s ≠ 0) (t : Nat) (ht : t < 256) (h : (t &&& (s &&& (s - 1))) = t) : cB s (s ^^^ t) = true ∧ s ^^^ (s ^^^ t) = t ∧ s ^^^ t < 256 := by
  have q := all1_of 256 qC_all s hs t ht
  unfold qC at q
  have n0 : Nat.beq s 0 = false := by
    cases e : Nat.beq s 0
    · rfl
    · exact absurd (Nat.eq_of_beq_eq_true e) h0
  rw [(show Nat.beq (t &&& (s &&& (s - 1))) t = true by rw [h]; exact Nat.beq_refl t), Bool.not_true, Bool.false_or, n0, Bool.false_or] at q
  simp only [Bool.and_eq_true, Nat.beq_eq, Nat.blt_eq] at q
  exact ⟨q.1.1, q.1.2, q.2⟩
theorem and_lt {a b N : Nat} (h : a < N) : (a &&& b) < N := Nat.lt_of_le_of_lt Nat.and_le_left h
/-- the next lesser part of a set passes none by -/
theorem sub_le : ∀ (t O u : Nat), (t &&& O) = t → (u &&& O) = u → u < t → u ≤ ((t - 1) &&& O) := by
  intro t
  induction t using Nat.strongRecOn with
  | _ t ih =>
    intro O u ht hu hlt
    have d1 : ((t - 1) &&& O) / 2 = (t - 1) / 2 &&& O / 2 := Nat.and_div_two
    have d2 : (t / 2 &&& O / 2) = t / 2 := by rw [← Nat.and_div_two, ht]
    have d3 : (u / 2 &&& O / 2) = u / 2 := by rw [← Nat.and_div_two, hu]
    have m1 := Nat.and_mod_two_eq_one (a := t - 1) (b := O)
    have m2 := Nat.and_mod_two_eq_one (a := u) (b := O)
    rw [hu] at m2
    by_cases c : t % 2 = 1
    · have e : (t - 1) / 2 = t / 2 := by omega
      rw [e, d2] at d1
      omega
    · have e : (t - 1) / 2 = t / 2 - 1 := by omega
      rw [e] at d1
      have g : (t - 1) % 2 = 1 := by omega
      by_cases w : u / 2 < t / 2
      · have := ih (t / 2) (by omega) (O / 2) (u / 2) d2 d3 w
        rw [← d1] at this
        by_cases z : u % 2 = 1
        · have z2 := m1.mpr ⟨g, (m2.mp z).2⟩
          omega
        · omega
      · omega
theorem sub_ok {t O : Nat} : (((t - 1) &&& O) &&& O) = ((t - 1) &&& O) := by
  rw [Nat.and_assoc, Nat.and_self]
