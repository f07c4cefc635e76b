/-! PURE: van rounds: the shortest way by all of a set, the tour, its number -/
def mdF (m : Nat) (lg : Nat → Nat → Nat) : Nat → Nat → Nat → Nat
  | 0, _, a => lg a 8
  | f + 1, s, a => if s = 0 then lg a 8 else mnF 1000000 s.testBit (fun k => lg a k + mdF m lg f (s ^^^ 2 ^ k) k) m
def md (m : Nat) (lg : Nat → Nat → Nat) (s a : Nat) : Nat := mdF m lg s s a
theorem p28 {m : Nat} (hm : m ≤ 8) : 2 ^ m ≤ 256 := Nat.pow_le_pow_right (by decide) hm
theorem bit_lt {m s k : Nat} (hs : s < 2 ^ m) (h : s.testBit k = true) : k < m := by
  rcases Nat.lt_or_ge k m with q | q
  · exact q
  · have := Nat.testBit_lt_two_pow (Nat.lt_of_lt_of_le hs (Nat.pow_le_pow_right (by decide) q))
    rw [this] at h
    exact absurd h (by decide)
section MD
variable {m : Nat} {lg : Nat → Nat → Nat}
theorem mdF_fu (hm : m ≤ 8) : ∀ (f g s a : Nat), s < 256 → s ≤ f → s ≤ g → mdF m lg f s a = mdF m lg g s a
  | 0, 0, _, _, _, _, _ => rfl
  | 0, g + 1, s, a, _, h, _ => by
    rw [show s = 0 by omega]
    rfl
  | f + 1, 0, s, a, _, _, h => by
    rw [show s = 0 by omega]
    rfl
  | f + 1, g + 1, s, a, hs, h1, h2 => by
    show (if s = 0 then lg a 8 else mnF 1000000 s.testBit (fun k => lg a k + mdF m lg f (s ^^^ 2 ^ k) k) m) = (if s = 0 then lg a 8 else mnF 1000000 s.testBit (fun k => lg a k + mdF m lg g (s ^^^ 2 ^ k) k) m)
    by_cases c : s = 0
    · rw [if_pos c, if_pos c]
    · rw [if_neg c, if_neg c]
      refine mnF_cg m (fun j hj hp => ?_)
      have t := (t_bit s hs j (by omega) hp).1
      have := Nat.two_pow_pos j
      rw [mdF_fu hm f g (s ^^^ 2 ^ j) j (by omega) (by omega) (by omega)]
theorem md_0 (a : Nat) : md m lg 0 a = lg a 8 := rfl
theorem md_s (hm : m ≤ 8) {s : Nat} (hs : s < 256) (h0 : s ≠ 0) (a : Nat) : md m lg s a = mnF 1000000 s.testBit (fun k => lg a k + md m lg (s ^^^ 2 ^ k) k) m := by
  have e : md m lg s a = mdF m lg (s - 1 + 1) s a := by rw [show s - 1 + 1 = s by omega]; rfl
  rw [e]
  show (if s = 0 then lg a 8 else mnF 1000000 s.testBit (fun k => lg a k + mdF m lg (s - 1) (s ^^^ 2 ^ k) k) m) = _
  rw [if_neg h0]
  refine mnF_cg m (fun j hj hp => ?_)
  have t := (t_bit s hs j (by omega) hp).1
  have := Nat.two_pow_pos j
  show lg a j + mdF m lg (s - 1) (s ^^^ 2 ^ j) j = lg a j + mdF m lg (s ^^^ 2 ^ j) (s ^^^ 2 ^ j) j
  rw [mdF_fu hm (s - 1) (s ^^^ 2 ^ j) (s ^^^ 2 ^ j) j (by omega) (by omega) (by omega)]
theorem md_b (hm : m ≤ 8) (hl : ∀ a b, lg a b ≤ 600) : ∀ (s : Nat), s < 2 ^ m → ∀ a, md m lg s a ≤ 600 * (pc s + 1) := by
  intro s
  induction s using Nat.strongRecOn with
  | _ s ih =>
    intro hs a
    have h8 := p28 hm
    by_cases c : s = 0
    · subst c
      rw [md_0]
      have := hl a 8
      omega
    · obtain ⟨k, k8, hk⟩ := t_ex s (by omega) c
      have km := bit_lt hs hk
      obtain ⟨t, tp⟩ := t_bit s (by omega) k k8 hk
      have := Nat.two_pow_pos k
      rw [md_s hm (by omega) c]
      have b := mnF_le (B := 1000000) (f := fun k => lg a k + md m lg (s ^^^ 2 ^ k) k) m k km hk
      have i := ih (s ^^^ 2 ^ k) (by omega) (by omega) k
      have l := hl a k
      omega
theorem md_c (hm : m ≤ 8) (hl : ∀ a b, lg a b ≤ 600) {s : Nat} (hs : s < 2 ^ m) (a : Nat) : md m lg s a ≤ 5400 := by
  have := md_b hm hl s hs a
  have h8 := p28 hm
  have := t_pc8 s (by omega)
  omega
theorem md_k (hm : m ≤ 8) {s k : Nat} (hs : s < 2 ^ m) (hk : s.testBit k = true) (a : Nat) : md m lg s a ≤ lg a k + md m lg (s ^^^ 2 ^ k) k := by
  have h8 := p28 hm
  have c : s ≠ 0 := fun z => by rw [z, Nat.zero_testBit] at hk; exact absurd hk (by decide)
  rw [md_s hm (by omega) c]
  exact mnF_le (f := fun k => lg a k + md m lg (s ^^^ 2 ^ k) k) m k (bit_lt hs hk) hk
/-- the first next member that a shortest way may take -/
def IsFst (m : Nat) (lg : Nat → Nat → Nat) (s a k : Nat) : Prop := k < m ∧ (s.testBit k = true ∧ lg a k + md m lg (s ^^^ 2 ^ k) k = md m lg s a) ∧ ∀ j, j < k → ¬ (s.testBit j = true ∧ lg a j + md m lg (s ^^^ 2 ^ j) j = md m lg s a)
def isP (m : Nat) (lg : Nat → Nat → Nat) : Nat → Nat → List Nat → Prop
  | s, _, [] => s = 0
  | s, a, k :: p => IsFst m lg s a k ∧ isP m lg (s ^^^ 2 ^ k) k p
theorem fst_ex (hm : m ≤ 8) (hl : ∀ a b, lg a b ≤ 600) {s : Nat} (hs : s < 2 ^ m) (h0 : s ≠ 0) (a : Nat) : ∃ k, IsFst m lg s a k := by
  have h8 := p28 hm
  have b := md_c hm hl hs a
  obtain ⟨j, j1, j2, j3⟩ : ∃ j, j < m ∧ (s.testBit j = true ∧ lg a j + md m lg (s ^^^ 2 ^ j) j = md m lg s a) := by
    rw [md_s hm (by omega) h0] at b ⊢
    rcases mnF_at (B := 1000000) (p := s.testBit) (f := fun k => lg a k + md m lg (s ^^^ 2 ^ k) k) m with q | ⟨j, q1, q2, q3⟩
    · rw [q] at b
      omega
    · exact ⟨j, q1, q2, q3⟩
  obtain ⟨k, k1, k2, k3⟩ := first_ex (p := fun j => s.testBit j = true ∧ lg a j + md m lg (s ^^^ 2 ^ j) j = md m lg s a) m ⟨j, j1, j2, j3⟩
  exact ⟨k, k1, k2, k3⟩
theorem path_ex (hm : m ≤ 8) (hl : ∀ a b, lg a b ≤ 600) : ∀ (s : Nat), s < 2 ^ m → ∀ a, ∃ p, isP m lg s a p := by
  intro s
  induction s using Nat.strongRecOn with
  | _ s ih =>
    intro hs a
    have h8 := p28 hm
    by_cases c : s = 0
    · exact ⟨[], c⟩
    · obtain ⟨k, hk⟩ := fst_ex hm hl hs c a
      have km := hk.1
      obtain ⟨t, tp⟩ := t_bit s (by omega) k (by omega) hk.2.1.1
      have := Nat.two_pow_pos k
      obtain ⟨p, hp⟩ := ih (s ^^^ 2 ^ k) (by omega) (by omega) k
      exact ⟨k :: p, hk, hp⟩
def sOf : List Nat → Nat
  | [] => 0
  | k :: p => sOf p + 2 ^ k
theorem isP_all (hm : m ≤ 8) : ∀ (p : List Nat) (s a : Nat), s < 2 ^ m → isP m lg s a p → sOf p = s ∧ p.length = pc s ∧ ∀ k, k ∈ p → k < m
  | [], s, a, _, h => by
    have h : s = 0 := h
    subst h
    exact ⟨rfl, rfl, fun k hk => absurd hk List.not_mem_nil⟩
  | k :: p, s, a, hs, h => by
    have h8 := p28 hm
    have km := h.1.1
    obtain ⟨t, tp⟩ := t_bit s (by omega) k (by omega) h.1.2.1.1
    have := Nat.two_pow_pos k
    obtain ⟨i1, i2, i3⟩ := isP_all hm p (s ^^^ 2 ^ k) k (by omega) h.2
    refine ⟨by show sOf p + 2 ^ k = s; omega, by rw [List.length_cons]; omega, fun j hj => ?_⟩
    rcases List.mem_cons.mp hj with q | q
    · omega
    · exact i3 j q
end MD
/-! rows as numbers: a stop each four bits -/
def nm : Nat → List Nat → Nat
  | 0, _ => 0
  | L + 1, [] => 12 * 16 ^ L + nm L []
  | L + 1, d :: p => d * 16 ^ L + nm L p
theorem nm_lt : ∀ (L : Nat) (p : List Nat), (∀ d, d ∈ p → d < 12) → nm L p < 16 ^ L
  | 0, _, _ => Nat.one_pos
  | L + 1, [], h => by
    have := nm_lt L [] h
    show 12 * 16 ^ L + nm L [] < 16 ^ (L + 1)
    rw [Nat.pow_succ]
    omega
  | L + 1, d :: p, h => by
    have := nm_lt L p (fun x hx => h x (List.mem_cons_of_mem _ hx))
    have hd := h d List.mem_cons_self
    show d * 16 ^ L + nm L p < 16 ^ (L + 1)
    rw [Nat.pow_succ]
    have := Nat.mul_le_mul_right (16 ^ L) (show d ≤ 11 by omega)
    omega
theorem nm_cmp {x y d e L : Nat} (hx : x < 16 ^ L) (hy : y < 16 ^ L) (h : d < e) : d * 16 ^ L + x < e * 16 ^ L + y := by
  have := Nat.mul_le_mul_right (16 ^ L) (show d + 1 ≤ e from h)
  rw [Nat.add_mul] at this
  omega
def isF : List Nat → List Nat → Bool
  | [], _ => false
  | _ :: _, [] => false
  | x :: p, y :: q => if x = y then isF p q else decide (x < y)
/-- rows are compared as their first rounds' numbers -/
theorem isF_nm : ∀ (L : Nat) (p q t u : List Nat), (∀ d, d ∈ p → d < 12) → (∀ d, d ∈ q → d < 12) → p.length ≤ L → q.length ≤ L → (t = [] → q.length ≤ p.length) → (u = [] → p.length ≤ q.length) → (t = [] ∨ ∃ t', t = 12 :: t') → (u = [] ∨ ∃ u', u = 12 :: u') → p ≠ q → isF (p ++ t) (q ++ u) = decide (nm L p < nm L q) ∧ nm L p ≠ nm L q
  | L, [], [], t, u, _, _, _, _, _, _, _, _, h => absurd rfl h
  | 0, _ :: _, _, t, u, _, _, h, _, _, _, _, _, _ => absurd h (by simp)
  | 0, _, _ :: _, t, u, _, _, _, h, _, _, _, _, _ => absurd h (by simp)
  | L + 1, [], y :: q, t, u, hp, hq, lp, lq, ht, hu, et, eu, hne => by
    have hy := hq y List.mem_cons_self
    rcases et with e | ⟨t', e⟩
    · have := ht e
      simp at this
    · subst e
      have n1 := nm_lt L [] hp
      have n2 := nm_lt L q (fun x hx => hq x (List.mem_cons_of_mem _ hx))
      have c := nm_cmp n2 n1 hy
      have e1 : nm (L + 1) [] = 12 * 16 ^ L + nm L [] := rfl
      have e2 : nm (L + 1) (y :: q) = y * 16 ^ L + nm L q := rfl
      refine ⟨?_, by omega⟩
      show (if 12 = y then isF t' (q ++ u) else decide (12 < y)) = _
      rw [if_neg (by omega), decide_eq_false (by omega), decide_eq_false (by omega)]
  | L + 1, x :: p, [], t, u, hp, hq, lp, lq, ht, hu, et, eu, hne => by
    have hx := hp x List.mem_cons_self
    rcases eu with e | ⟨u', e⟩
    · have := hu e
      simp at this
    · subst e
      have n1 := nm_lt L [] hq
      have n2 := nm_lt L p (fun x hx => hp x (List.mem_cons_of_mem _ hx))
      have c := nm_cmp n2 n1 hx
      have e1 : nm (L + 1) [] = 12 * 16 ^ L + nm L [] := rfl
      have e2 : nm (L + 1) (x :: p) = x * 16 ^ L + nm L p := rfl
      refine ⟨?_, by omega⟩
      show (if x = 12 then isF (p ++ t) u' else decide (x < 12)) = _
      rw [if_neg (by omega), decide_eq_true (by omega), decide_eq_true (by omega)]
  | L + 1, x :: p, y :: q, t, u, hp, hq, lp, lq, ht, hu, et, eu, hne => by
    have n1 := nm_lt L p (fun x hx => hp x (List.mem_cons_of_mem _ hx))
    have n2 := nm_lt L q (fun x hx => hq x (List.mem_cons_of_mem _ hx))
    have e1 : nm (L + 1) (x :: p) = x * 16 ^ L + nm L p := rfl
    have e2 : nm (L + 1) (y :: q) = y * 16 ^ L + nm L q := rfl
    simp only [List.length_cons] at lp lq ht hu
    have hh : isF ((x :: p) ++ t) ((y :: q) ++ u) = if x = y then isF (p ++ t) (q ++ u) else decide (x < y) := rfl
    by_cases c : x = y
    · subst c
      obtain ⟨i1, i2⟩ := isF_nm L p q t u (fun x hx => hp x (List.mem_cons_of_mem _ hx)) (fun x hx => hq x (List.mem_cons_of_mem _ hx)) (by omega) (by omega) (fun z => by have := ht z; omega) (fun z => by have := hu z; omega) et eu (fun z => hne (by rw [z]))
      refine ⟨?_, by omega⟩
      rw [hh, if_pos rfl, i1, e1, e2]
      exact decide_eq_decide.mpr (by omega)
    · rw [hh, if_neg c]
      rcases Nat.lt_or_gt_of_ne c with w | w
      · have := nm_cmp n1 n2 w
        exact ⟨by rw [decide_eq_true w, decide_eq_true (by omega)], by omega⟩
      · have := nm_cmp n2 n1 w
        exact ⟨by rw [decide_eq_false (by omega), decide_eq_false (by omega)], by omega⟩
