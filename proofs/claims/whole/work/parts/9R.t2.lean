/-! PURE: a new food bank stands for a new reference -/
theorem x0I {k : Nat} (h1 : k ≠ 56) (h2 : k ≠ 63) : mI x0 k = 0 := by
  show (if k = 56 then (-1 : Int32) else if k = 63 then -1 else 0) = 0
  rw [if_neg h1, if_neg h2]
theorem c0N : (0 : Int32).toNatClampNeg = 0 := by decide
theorem x0N {k : Nat} (h1 : k ≠ 56) (h2 : k ≠ 63) : nN x0 k = 0 := by
  unfold nN
  rw [x0I h1 h2, c0N]
theorem x0A (k j : Nat) : mA x0 k j = 0 := rfl
theorem x0nA (k j : Nat) : nA x0 k j = 0 := by
  unfold nA
  rw [x0A, c0N]
theorem ok0 {k b : Nat} (h1 : k ≠ 56) (h2 : k ≠ 63) : okN x0 k b := ⟨by rw [x0I h1 h2, x0N h1 h2, nI_0], by rw [x0N h1 h2]; exact Nat.zero_le _⟩
theorem rOk0 : rOk 0 x0 := by
  have n32 : nN x0 32 = 0 := x0N (by decide) (by decide)
  have n37 : nN x0 37 = 0 := x0N (by decide) (by decide)
  refine ⟨x0I (by decide) (by decide), ok0 (by decide) (by decide), ok0 (by decide) (by decide), ok0 (by decide) (by decide), ok0 (by decide) (by decide), ok0 (by decide) (by decide), ok0 (by decide) (by decide), ok0 (by decide) (by decide), ⟨ok0 (by decide) (by decide), by rw [n32]; exact Nat.le_refl _⟩, ?_, ⟨?_, fun p _ => ?_, fun p hp => ?_, fun k hk => ?_⟩, ?_, ?_, ?_⟩
  · rw [x0I (by decide) (by decide)]; decide
  · rw [n37]; exact Nat.zero_le _
  · rw [x0A, x0nA, nI_0]
    exact ⟨rfl, Nat.zero_le _⟩
  · rw [n32] at hp; exact absurd hp (Nat.not_lt_zero _)
  · rw [n37] at hk; exact absurd hk (Nat.not_lt_zero _)
  · rw [x0I (by decide) (by decide), n37, nI_0]
  · unfold cntL
    rw [n37, x0N (by decide) (by decide)]
    exact Nat.le_refl _
  · rw [x0nA, n37]
theorem rSum0 : rSum x0 := by
  unfold rSum
  rw [x0N (k := 32) (by decide) (by decide), x0N (k := 37) (by decide) (by decide), x0N (k := 4) (by decide) (by decide)]
  exact ⟨rfl, fun q hq => absurd hq (Nat.not_lt_zero _), rfl⟩
theorem rLim0 : rLim x0 := by
  have n4 : nN x0 4 = 0 := x0N (by decide) (by decide)
  have n16 : nN x0 16 = 0 := x0N (by decide) (by decide)
  have n25 : nN x0 25 = 0 := x0N (by decide) (by decide)
  refine ⟨fun j => by rw [x0A]; exact Int32.le_refl 0, fun i hi => ?_, fun j => by rw [x0A]; decide, fun r hr => ?_, fun i hi => ?_⟩
  · rw [n4] at hi; exact absurd hi (Nat.not_lt_zero _)
  · rw [n25] at hr; exact absurd hr (Nat.not_lt_zero _)
  · rw [n16] at hi; exact absurd hi (Nat.not_lt_zero _)
theorem rLoa0 (M : Nat → Nat → Nat) (T : CS) : rLoa M x0 T := by
  have n13 : nN x0 13 = 0 := x0N (by decide) (by decide)
  unfold rLoa
  rw [n13]
  exact ⟨fun t ht => absurd ht (Nat.not_lt_zero _), fun j _ => x0A _ _, fun j => by rw [x0A]; exact ⟨Int32.le_refl 0, by decide⟩, by rw [x0I (by decide) (by decide)]; rfl, Nat.zero_le _⟩
theorem ne5 (z : Nat) : z + 37 ≠ z + 10 ∧ z + 37 + 1 ≠ z + 10 + 1 ∧ z + 37 + 2 ≠ z + 10 + 2 ∧ z + 37 + 3 ≠ z + 10 + 3 ∧ z + 37 + 4 ≠ z + 10 + 4 := by omega
theorem rep_new {n : Nat × Nat} {T : CS} {z : Nat} (hz : n.2 < z) (h : b11 n T z) : Rep n.2 0 (M0 z) x0 T := by
  obtain ⟨hf, hnx, hlow, hz12, h40, hb7, hl1, hl2, hl3, hb5, hb6, hb9, h209, hb8, hb6', h144⟩ := h
  obtain ⟨z1, z2, z3, z4, z5, z6, z7, z8, z9, w1, w2, w3, w4⟩ := hz12
  have n4 : nN x0 4 = 0 := x0N (by decide) (by decide)
  have n13 : nN x0 13 = 0 := x0N (by decide) (by decide)
  have n16 : nN x0 16 = 0 := x0N (by decide) (by decide)
  have n20 : nN x0 20 = 0 := x0N (by decide) (by decide)
  have n25 : nN x0 25 = 0 := x0N (by decide) (by decide)
  have n32 : nN x0 32 = 0 := x0N (by decide) (by decide)
  have n37 : nN x0 37 = 0 := x0N (by decide) (by decide)
  have n58 : nN x0 58 = 0 := x0N (by decide) (by decide)
  have n65 : nN x0 65 = 0 := x0N (by decide) (by decide)
  have no : ∀ {P : Prop} {i k : Nat}, k = 0 → i < k → P := fun e hi => absurd hi (by rw [e]; exact Nat.not_lt_zero _)
  have m0 : M0 z 0 0 = z := rfl
  have m1 : M0 z 0 1 = z + 1 := rfl
  have m2 : M0 z 0 2 = z + 2 := rfl
  have m3 : M0 z 0 3 = z + 2 + 1 := rfl
  have m4 : M0 z 0 4 = z + 2 + 2 := rfl
  have m5 : M0 z 0 5 = z + 5 := rfl
  have m6 : M0 z 0 6 = z + 6 := rfl
  have m7 : M0 z 0 7 = z + 7 := rfl
  have m8 : M0 z 0 8 = z + 8 := rfl
  have m9 : M0 z 0 9 = z + 8 + 1 := rfl
  have m10 : M0 z 0 10 = z + 15 := rfl
  have m11 : M0 z 0 11 = z + 15 + 1 := rfl
  have m12 : M0 z 0 12 = z + 15 + 15 := rfl
  have m13 : M0 z 0 13 = z + 15 + 16 := rfl
  have m14 : M0 z 0 14 = z + 15 + 17 := rfl
  have m15 : M0 z 0 15 = z + 15 + 18 := rfl
  have m16 : M0 z 0 16 = z + 15 + 19 := rfl
  have m17 : M0 z 0 17 = z + 15 + 20 := rfl
  have m18 : M0 z 0 18 = z + 15 + 21 := rfl
  have mr : ∀ i, M0 z 12 i = z + 15 + 2 + i := fun i => rfl
  have hB : frsh T ∧ cD T n.2 = 0 ∧ n.2 < nx T := ⟨hf, hlow _ hz, by rw [hnx]; exact Nat.lt_of_lt_of_le hz (Nat.le_add_right _ _)⟩
  have g0 : rOk 0 x0 := by
    exact rOk0
  have g1 : rLim x0 := by
    exact rLim0
  have g2 : rNew x0 := by
    exact fun j _ => ⟨x0A _ _, x0A _ _, x0A _ _, x0A _ _⟩
  have g3 : rSum x0 := by
    exact rSum0
  have g4 : rWho x0 := by
    exact ⟨fun p hp => no n32 hp, fun e he => no n20 he, fun w hw => no n65 hw, fun p hp => no n32 hp, fun q hq => no n37 hq⟩
  have g5 : rFix (M0 z) T := by
    -- rFix
    unfold rFix
    rw [m0, m1, m2, m3, m4, m5, m6, m7, m8, m9, m10]
    exact ⟨z1, hb7.1, hb5.1, hb9.1, z2, z3, z4, z5, z6, z7, z8, hb7.2.1, hb7.2.2.1, hb5.2.1⟩
  have g6 : rNum (M0 z) x0 T := by
    unfold rNum
    rw [m0]
    rw [x0I (by decide) (by decide), x0I (by decide) (by decide), x0I (by decide) (by decide)]
    exact ⟨z1, w1, w2, w3⟩
  have g7 : rSta (M0 z) x0 T := by
    unfold rSta
    rw [m0]
    rw [x0I (by decide) (by decide)]
    exact ⟨z1, w4⟩
  have g8 : rCon (M0 z) x0 T := by
    unfold rCon
    rw [m1]
    exact ⟨h40.1, h40.2.1, fun k _ => h40.2.2 k⟩
  have g9 : rLotL n.2 (M0 z) x0 T := by
    unfold rLotL
    rw [n4, m3]
    exact ⟨liE_ok hb7.2.2.2.1 _, fun i j hi => absurd hi (Nat.not_lt_zero _)⟩
  have g10 : rLot (M0 z) x0 T := by
    exact fun i hi => no n4 hi
  have g11 : rCha (M0 z) x0 T := by
    unfold rCha
    rw [m4]
    refine ⟨hb7.2.2.2.2.1, hb7.2.2.2.2.2.1, fun k hk => ⟨[], ?_, ?_, List.Pairwise.nil⟩⟩
    · exact hb7.2.2.2.2.2.2 k
    · intro j
      rw [n4]
      exact ⟨fun w => absurd w List.not_mem_nil, fun w => absurd w.1 (Nat.not_lt_zero _)⟩
  have g12 : rWei (M0 z) x0 T := by
    exact ⟨fun i j hi => no n65 hi, fun w hw => no n65 hw, fun i hi => no n4 hi⟩
  have g13 : rTabL n.2 (M0 z) x0 T := by
    unfold rTabL
    rw [n13, m5]
    exact ⟨liE_ok hl1 _, fun i j hi => absurd hi (Nat.not_lt_zero _), fun i j hi => absurd hi (Nat.not_lt_zero _), fun i j hi => absurd hi (Nat.not_lt_zero _)⟩
  have g14 : rTab (M0 z) T x0 := by
    exact fun i hi => no n13 hi
  have g15 : rWan (M0 z) x0 T := by
    exact ⟨fun i hi => no n13 hi, fun j _ => rfl⟩
  have g16 : rGot (M0 z) x0 T := by
    exact ⟨fun i hi => no n13 hi, fun j _ => rfl⟩
  have g17 : rLoa (M0 z) x0 T := by
    exact rLoa0 _ _
  have g18 : rFamL n.2 (M0 z) x0 T := by
    unfold rFamL
    rw [n16, m6]
    exact ⟨liE_ok hl2 _, fun i j hi => absurd hi (Nat.not_lt_zero _), fun i j hi => absurd hi (Nat.not_lt_zero _)⟩
  have g19 : rFam (M0 z) x0 T := by
    exact fun i hi => no n16 hi
  have g20 : rHad (M0 z) x0 T := by
    exact fun i hi => no n16 hi
  have g21 : rRef (M0 z) x0 T := by
    exact ⟨fun i j hi => no n20 hi, fun w hw => no n20 hw, fun i hi => no n16 hi⟩
  have g22 : rParL n.2 (M0 z) x0 T := by
    unfold rParL
    rw [n32, m7]
    exact ⟨liE_ok hl3 _, fun i j hi => absurd hi (Nat.not_lt_zero _)⟩
  have g23 : rPar n.2 (M0 z) x0 T := by
    exact ⟨fun p hp => no n32 hp, fun q hq => no n37 hq⟩
  have g24 : rTap (M0 z) x0 T := by
    unfold rTap
    rw [m8, m9]
    exact ⟨hb5.1, hb5.2.2.1, hb5.2.2.2.1, by rw [x0I (by decide) (by decide)]; exact hb5.2.2.2.2.1, hb5.2.2.2.2.2.1, fun i hi => no n58 hi⟩
  have g25 : rRul (M0 z) x0 T := by
    -- rRul
    unfold rRul
    rw [m0, m8]
    have a0 : M0 z 13 0 = z + 37 := rfl
    have a1 : M0 z 13 1 = z + 10 := rfl
    have a2 : M0 z 14 0 = z + 37 + 1 := rfl
    have a3 : M0 z 14 1 = z + 10 + 1 := rfl
    have a4 : M0 z 15 0 = z + 37 + 2 := rfl
    have a5 : M0 z 15 1 = z + 10 + 2 := rfl
    have a6 : M0 z 16 0 = z + 37 + 3 := rfl
    have a7 : M0 z 16 1 = z + 10 + 3 := rfl
    have a8 : M0 z 17 0 = z + 37 + 4 := rfl
    have a9 : M0 z 17 1 = z + 10 + 4 := rfl
    refine ⟨z1, hb5.1, by rw [a0]; exact z9, by rw [a1]; exact hb5.2.2.2.2.2.2, fun j hj => ?_, ?_, by rw [a0, x0I (by decide) (by decide)]; exact h144, fun r hr => no n25 hr⟩
    · match j, hj with
      | 0, _ => rw [a0, a2, a4, a6, a8]; exact hb6'
      | 1, _ => rw [a1, a3, a5, a7, a9]; exact hb6
    · rw [a0, a1, a2, a3, a4, a5, a6, a7, a8, a9]
      exact ne5 z
  have g26 : rVan (M0 z) T := by
    unfold rVan
    rw [m10, m11, m12, m13, m14, m15, m16, m17, m18]
    exact hb9
  have g27 : rRoa (M0 z) x0 T := by
    unfold rRoa
    rw [m11]
    refine ⟨hb8.1, hb8.2.1, fun i j hi hj e => ?_, fun i hi => ?_⟩
    · rw [mr, mr] at e
      omega
    · have w := hb8.2.2 i hi
      rw [mr]
      exact ⟨w.1, w.2.1, w.2.2.1, fun j hj => ⟨by rw [x0A]; exact w.2.2.2 j, by rw [x0A, x0A], by rw [x0A]; decide⟩⟩
  have g28 : rSto (M0 z) x0 T := by
    unfold rSto
    rw [m10, m18]
    exact ⟨hb9.1, hb9.2.2.2.2.2.2.2.2.2.2.2.2.2.2.2.1, h209, Or.inl rfl⟩
  exact ⟨hB, g0, g1, g2, g3, g4, g5, g6, g7, g8, g9, g10, g11, g12, g13, g14, g15, g16, g17, g18, g19, g20, g21, g22, g23, g24, g25, g26, g27, g28⟩
