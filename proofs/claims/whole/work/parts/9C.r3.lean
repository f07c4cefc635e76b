/-! PURE: van rounds: weights, costs, the best first round, rows -/
def wS (g : Nat → Nat) (s : Nat) : Nat → Nat
  | 0 => 0
  | k + 1 => wS g s k + if s.testBit k = true then g k else 0
section WS
variable {g : Nat → Nat}
theorem wS_s (s k : Nat) : wS g s (k + 1) = wS g s k + if s.testBit k = true then g k else 0 := rfl
theorem wS_b (h : ∀ i, g i ≤ 1000000) (s : Nat) : ∀ k, wS g s k ≤ k * 1000000
  | 0 => Nat.zero_le _
  | k + 1 => by
    have a := wS_b h s k
    have b := h k
    rw [wS_s, Nat.succ_mul]
    refine Nat.add_le_add a ?_
    split
    · exact b
    · exact Nat.zero_le _
theorem wS_mono {s t : Nat} (h : ∀ i, t.testBit i = true → s.testBit i = true) : ∀ k, wS g t k ≤ wS g s k
  | 0 => Nat.le_refl _
  | k + 1 => by
    have := wS_mono h k
    rw [wS_s, wS_s]
    by_cases c : t.testBit k = true
    · rw [if_pos c, if_pos (h k c)]; omega
    · rw [if_neg c]; omega
theorem wS_xor {s i : Nat} (hi : s.testBit i = true) (k : Nat) : wS g (s ^^^ 2 ^ i) k ≤ wS g s k := by
  refine wS_mono (fun j hj => ?_) k
  rw [Nat.testBit_xor, Nat.testBit_two_pow] at hj
  by_cases c : i = j
  · rw [← c]; exact hi
  · rw [decide_eq_false c, Bool.xor_false] at hj
    exact hj
theorem wS_or {l j : Nat} (hl : l < 2 ^ j) : ∀ k, wS g (l ||| 2 ^ j) k = wS g l k + if j < k then g j else 0
  | 0 => by rw [if_neg (Nat.not_lt_zero _)]; rfl
  | k + 1 => by
    have ih := wS_or hl k
    rw [wS_s, wS_s, ih, Nat.testBit_or, Nat.testBit_two_pow]
    by_cases c : j = k
    · subst c
      rw [Nat.testBit_lt_two_pow hl, if_neg (Nat.lt_irrefl j), decide_eq_true rfl, Bool.or_true, if_pos rfl, if_neg (show ¬ false = true by decide), if_pos (Nat.lt_succ_self j), Nat.add_zero]
    · rw [decide_eq_false c, Bool.or_false]
      by_cases d : j < k
      · rw [if_pos d, if_pos (show j < k + 1 by omega)]; omega
      · rw [if_neg d, if_neg (show ¬ j < k + 1 by omega)]; omega
theorem wS_0 : ∀ k, wS g 0 k = 0
  | 0 => rfl
  | k + 1 => by rw [wS_s, wS_0 k, Nat.zero_testBit, if_neg (by decide)]
theorem wS_1 {i m : Nat} (hi : i < m) : wS g (2 ^ i) m = g i := by
  have := wS_or (g := g) (l := 0) (j := i) (Nat.two_pow_pos i) m
  rw [Nat.zero_or, wS_0, if_pos hi] at this
  omega
end WS
def CF (W T : Nat → Nat) (cap : Nat) : Nat → Nat → Nat
  | 0, _ => 0
  | f + 1, s => if s = 0 then 0 else mnF 100000000 (fun r => cB s r && decide (W r ≤ cap)) (fun r => 16 * T r + 1 + CF W T cap f (s ^^^ r)) 256
def CC (W T : Nat → Nat) (cap s : Nat) : Nat := CF W T cap s s
def vst (W T : Nat → Nat) (cap s r : Nat) : Nat := 16 * T r + 1 + CC W T cap (s ^^^ r)
/-- a first round that may be -/
def okR (W : Nat → Nat) (cap s r : Nat) : Prop := r < 256 ∧ cB s r = true ∧ W r ≤ cap
def VEn (m : Nat) (W T : Nat → Nat) (cap : Nat) (PW : Nat → List Nat) : Prop := m ≤ 8 ∧ (∀ s, s < 2 ^ m → T s ≤ 600 * (pc s + 1)) ∧ (∀ k, k < m → W (2 ^ k) ≤ cap) ∧ (∀ s, s < 2 ^ m → (PW s).length = pc s) ∧ (∀ s, s < 2 ^ m → ∀ d, d ∈ PW s → d < 12) ∧ (∀ s t, s < 2 ^ m → t < 2 ^ m → PW s = PW t → s = t)
section CO
variable {m : Nat} {W T : Nat → Nat} {cap : Nat} {PW : Nat → List Nat}
theorem CF_fu : ∀ (f g s : Nat), s < 256 → s ≤ f → s ≤ g → CF W T cap f s = CF W T cap g s
  | 0, 0, _, _, _, _ => rfl
  | 0, g + 1, s, _, h, _ => by rw [show s = 0 by omega]; rfl
  | f + 1, 0, s, _, _, h => by rw [show s = 0 by omega]; rfl
  | f + 1, g + 1, s, hs, h1, h2 => by
    show (if s = 0 then 0 else mnF 100000000 (fun r => cB s r && decide (W r ≤ cap)) (fun r => 16 * T r + 1 + CF W T cap f (s ^^^ r)) 256) = (if s = 0 then 0 else mnF 100000000 (fun r => cB s r && decide (W r ≤ cap)) (fun r => 16 * T r + 1 + CF W T cap g (s ^^^ r)) 256)
    by_cases c : s = 0
    · rw [if_pos c, if_pos c]
    · rw [if_neg c, if_neg c]
      refine mnF_cg 256 (fun j hj hp => ?_)
      rw [Bool.and_eq_true] at hp
      have t := t_cB s hs j hj hp.1
      rw [CF_fu f g (s ^^^ j) (by omega) (by omega) (by omega)]
theorem CC_0 : CC W T cap 0 = 0 := rfl
theorem CC_s {s : Nat} (hs : s < 256) (h0 : s ≠ 0) : CC W T cap s = mnF 100000000 (fun r => cB s r && decide (W r ≤ cap)) (vst W T cap s) 256 := by
  have e : CC W T cap s = CF W T cap (s - 1 + 1) s := by rw [show s - 1 + 1 = s by omega]; rfl
  rw [e]
  show (if s = 0 then 0 else mnF 100000000 (fun r => cB s r && decide (W r ≤ cap)) (fun r => 16 * T r + 1 + CF W T cap (s - 1) (s ^^^ r)) 256) = _
  rw [if_neg h0]
  refine mnF_cg 256 (fun j hj hp => ?_)
  rw [Bool.and_eq_true] at hp
  have t := t_cB s hs j hj hp.1
  show 16 * T j + 1 + CF W T cap (s - 1) (s ^^^ j) = 16 * T j + 1 + CF W T cap (s ^^^ j) (s ^^^ j)
  rw [CF_fu (s - 1) (s ^^^ j) (s ^^^ j) (by omega) (by omega) (by omega)]
theorem okR_b {s r : Nat} (h : okR W cap s r) : (cB s r && decide (W r ≤ cap)) = true := by
  rw [h.2.1, decide_eq_true h.2.2]; rfl
theorem CC_le {s r : Nat} (hs : s < 256) (h0 : s ≠ 0) (h : okR W cap s r) : CC W T cap s ≤ vst W T cap s r := by
  rw [CC_s hs h0]
  exact mnF_le (p := fun r => cB s r && decide (W r ≤ cap)) 256 r h.1 (okR_b h)
theorem lo_ok (he : VEn m W T cap PW) {s : Nat} (hs : s < 2 ^ m) (h0 : s ≠ 0) : okR W cap s (lo s) := by
  have h8 := p28 he.1
  obtain ⟨a, b, c, d, k, k8, e, hk⟩ := t_lo s (by omega) h0
  exact ⟨d, b, by rw [e]; exact he.2.2.1 k (bit_lt hs hk)⟩
theorem CC_b (he : VEn m W T cap PW) : ∀ s, s < 2 ^ m → CC W T cap s ≤ 19201 * pc s := by
  intro s
  induction s using Nat.strongRecOn with
  | _ s ih =>
    intro hs
    have h8 := p28 he.1
    by_cases c : s = 0
    · subst c
      rw [CC_0]
      omega
    · have q := lo_ok he hs c
      have l := CC_le (T := T) (by omega) c q
      have t := t_cB s (by omega) (lo s) q.1 q.2.1
      have z := (t_lo s (by omega) c).2.2.1
      have i := ih (s ^^^ lo s) (by omega) (by omega)
      have u := he.2.1 (lo s) (by omega)
      unfold vst at l
      omega
theorem CC_at (he : VEn m W T cap PW) {s : Nat} (hs : s < 2 ^ m) (h0 : s ≠ 0) : ∃ b, okR W cap s b ∧ vst W T cap s b = CC W T cap s := by
  have h8 := p28 he.1
  have b := CC_b he s hs
  have p8 := (t_pc8 s (by omega)).1
  have e := CC_s (W := W) (T := T) (cap := cap) (s := s) (by omega) h0
  rcases mnF_at (B := 100000000) (p := fun r => cB s r && decide (W r ≤ cap)) (f := vst W T cap s) 256 with q | ⟨j, q1, q2, q3⟩
  · omega
  · rw [Bool.and_eq_true, decide_eq_true_eq] at q2
    exact ⟨j, ⟨q1, q2.1, q2.2⟩, by rw [e]; exact q3⟩
theorem CC_is (he : VEn m W T cap PW) {s v : Nat} (hs : s < 2 ^ m) (h0 : s ≠ 0) (h1 : ∃ r, okR W cap s r ∧ vst W T cap s r = v) (h2 : ∀ r, okR W cap s r → v ≤ vst W T cap s r) : v = CC W T cap s := by
  have h8 := p28 he.1
  obtain ⟨b, hb, eb⟩ := CC_at he hs h0
  obtain ⟨r, hr, er⟩ := h1
  have a := h2 b hb
  have c := CC_le (T := T) (by omega) h0 hr
  omega
theorem CC_mod (he : VEn m W T cap PW) : ∀ s, s < 2 ^ m → CC W T cap s % 16 ≤ pc s ∧ (s ≠ 0 → 1 ≤ CC W T cap s % 16) := by
  intro s
  induction s using Nat.strongRecOn with
  | _ s ih =>
    intro hs
    have h8 := p28 he.1
    by_cases c : s = 0
    · subst c
      rw [CC_0]
      exact ⟨by omega, fun z => absurd rfl z⟩
    · obtain ⟨b, q, e⟩ := CC_at he hs c
      have t := t_cB s (by omega) b q.1 q.2.1
      have i := (ih (s ^^^ b) (by omega) (by omega)).1
      have p8 := (t_pc8 s (by omega)).1
      have pb := (t_pc8 b (by omega)).2
      unfold vst at e
      have : pc b ≠ 0 := fun z => by have := pb z; omega
      omega
def Nb (PW : Nat → List Nat) (s : Nat) : Nat := nm 9 (PW s)
theorem Nb_inj (he : VEn m W T cap PW) {s t : Nat} (hs : s < 2 ^ m) (ht : t < 2 ^ m) (h : Nb PW s = Nb PW t) : s = t := by
  have h8 := p28 he.1
  by_cases c : PW s = PW t
  · exact he.2.2.2.2.2 s t hs ht c
  · have a := he.2.2.2.1 s hs
    have b := he.2.2.2.1 t ht
    have p1 := (t_pc8 s (by omega)).1
    have p2 := (t_pc8 t (by omega)).1
    exact absurd h (isF_nm 9 (PW s) (PW t) [12] [12] (he.2.2.2.2.1 s hs) (he.2.2.2.2.1 t ht) (by omega) (by omega) (fun z => absurd z (by simp)) (fun z => absurd z (by simp)) (Or.inr ⟨[], rfl⟩) (Or.inr ⟨[], rfl⟩) c).2
def Best (W T : Nat → Nat) (cap : Nat) (PW : Nat → List Nat) (s b : Nat) : Prop := okR W cap s b ∧ vst W T cap s b = CC W T cap s ∧ ∀ r, okR W cap s r → vst W T cap s r = CC W T cap s → Nb PW b ≤ Nb PW r
theorem okR_lt {s r : Nat} (hs : s < 256) (h : okR W cap s r) : r ≤ s ∧ s ^^^ r < s ∧ (s ^^^ r) + r = s := by
  have t := t_cB s hs r h.1 h.2.1
  omega
theorem Best_u (he : VEn m W T cap PW) {s a b : Nat} (hs : s < 2 ^ m) (h1 : Best W T cap PW s a) (h2 : Best W T cap PW s b) : a = b := by
  have h8 := p28 he.1
  have i := h1.2.2 b h2.1 h2.2.1
  have j := h2.2.2 a h1.1 h1.2.1
  have la := okR_lt (by omega) h1.1
  have lb := okR_lt (by omega) h2.1
  exact Nb_inj he (by omega) (by omega) (by omega)
def tl (s r : Nat) (L : List Nat) : List Nat := if s ^^^ r = 0 then [] else 12 :: L
theorem tl_or (s r : Nat) (L : List Nat) : tl s r L = [] ∨ ∃ t, tl s r L = 12 :: t := by
  unfold tl
  split
  · exact Or.inl rfl
  · exact Or.inr ⟨L, rfl⟩
/-- two first rounds of one set: their rows are compared as their numbers -/
theorem row_cmp (he : VEn m W T cap PW) {s r b : Nat} (hs : s < 2 ^ m) (hr : okR W cap s r) (hb : okR W cap s b) (hne : r ≠ b) (L1 L2 : List Nat) : isF (PW r ++ tl s r L1) (PW b ++ tl s b L2) = decide (Nb PW r < Nb PW b) ∧ Nb PW r ≠ Nb PW b := by
  have h8 := p28 he.1
  have lr := okR_lt (by omega) hr
  have lb := okR_lt (by omega) hb
  have p1 := (t_pc8 r (by omega)).1
  have p2 := (t_pc8 b (by omega)).1
  have tr := t_cB s (by omega) r hr.1 hr.2.1
  have tb := t_cB s (by omega) b hb.1 hb.2.1
  have a1 := he.2.2.2.1 r (by omega)
  have a2 := he.2.2.2.1 b (by omega)
  have z : ∀ (c : Nat) (L : List Nat), tl s c L = [] → s ^^^ c = 0 := fun c L h => by
    unfold tl at h
    by_cases w : s ^^^ c = 0
    · exact w
    · rw [if_neg w] at h
      exact absurd h (by simp)
  refine isF_nm 9 (PW r) (PW b) _ _ (he.2.2.2.2.1 r (by omega)) (he.2.2.2.2.1 b (by omega)) (by omega) (by omega) (fun h => ?_) (fun h => ?_) (tl_or s r L1) (tl_or s b L2) (fun h => hne (he.2.2.2.2.2 r b (by omega) (by omega) h))
  · have e := z r L1 h
    have p0 : pc 0 = 0 := rfl
    rw [e] at tr
    omega
  · have e := z b L2 h
    have p0 : pc 0 = 0 := rfl
    rw [e] at tb
    omega
def IsRow (W T : Nat → Nat) (cap : Nat) (PW : Nat → List Nat) : Nat → Nat → List Nat → Prop
  | 0, s, L => s = 0 ∧ L = []
  | f + 1, s, L => (s = 0 ∧ L = []) ∨ (s ≠ 0 ∧ ∃ b L', Best W T cap PW s b ∧ IsRow W T cap PW f (s ^^^ b) L' ∧ L = PW b ++ tl s b L')
theorem IsRow_mono : ∀ (f g s : Nat) (L : List Nat), f ≤ g → IsRow W T cap PW f s L → IsRow W T cap PW g s L
  | 0, 0, _, _, _, h => h
  | 0, g + 1, _, _, _, h => Or.inl h
  | f + 1, 0, _, _, h, _ => absurd h (by omega)
  | f + 1, g + 1, s, L, hfg, h => by
    rcases h with h | ⟨h, b, L', h1, h2, h3⟩
    · exact Or.inl h
    · exact Or.inr ⟨h, b, L', h1, IsRow_mono f g _ _ (by omega) h2, h3⟩
theorem tl_len (s r : Nat) (L : List Nat) : (tl s r L).length ≤ L.length + 1 ∧ (s ^^^ r = 0 → (tl s r L).length = 0) := by
  unfold tl
  by_cases c : s ^^^ r = 0
  · rw [if_pos c]
    exact ⟨by simp, fun _ => rfl⟩
  · rw [if_neg c]
    exact ⟨by simp, fun z => absurd z c⟩
theorem IsRow_len (he : VEn m W T cap PW) : ∀ (f s : Nat) (L : List Nat), s < 2 ^ m → IsRow W T cap PW f s L → L.length ≤ 2 * pc s - 1
  | 0, s, L, _, h => by rw [h.2]; simp
  | f + 1, s, L, hs, h => by
    have h8 := p28 he.1
    rcases h with h | ⟨h, b, L', h1, h2, h3⟩
    · rw [h.2]; simp
    · have lb := okR_lt (by omega) h1.1
      have tb := t_cB s (by omega) b h1.1.1 h1.1.2.1
      have i := IsRow_len he f (s ^^^ b) L' (by omega) h2
      have a := he.2.2.2.1 b (by omega)
      have t := tl_len s b L'
      have pb := (t_pc8 b (by omega)).2
      have pr := (t_pc8 (s ^^^ b) (by omega)).2
      have : pc b ≠ 0 := fun z => by have := pb z; omega
      rw [h3, List.length_append, a]
      by_cases c : s ^^^ b = 0
      · have := t.2 c
        omega
      · have : pc (s ^^^ b) ≠ 0 := fun z => c (pr z)
        omega
end CO
