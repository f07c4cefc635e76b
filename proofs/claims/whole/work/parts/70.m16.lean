/-! PURE: count -/
section M16
variable {ae k : Nat} {M : Nat → Nat → Nat} {x : MS} {S : CS}
theorem tell_sum {a w : Int32} (h : ∀ j, tellF x j a = pick x w j) (n : Nat) : tellN x a n = sumN x w (-1) n := by
  unfold tellN sumN
  refine it_cong _ (fun j _ s => ?_)
  rw [h j, if_pos (Or.inl (by decide))]
theorem st_count (n : Nat × Nat) (hn : 30000 ≤ n.1) (h : Rep ae k M x S) (w : Int32) : fX11_count n S (M 0 0) w = some (countF x w) := by
  have hF := g_rFix h
  have hNm := g_rNum h
  have hO := g_rOk h
  have hT := g_rTap h
  have hR := g_rRul h
  unfold fX11_count countF
  simp only [bnd, ev_within]
  cases h1 : isB w 20 29
  · have e1 : ¬ (false = true) := by decide
    have l1 : cD S (M 0 5) = 21 := (g_rTabL h).1.1
    have l2 : cD S (M 0 6) = 22 := (g_rFamL h).1.1
    have l3 : cD S (M 0 7) = 23 := (g_rParL h).1.1
    have l0 : cD S (M 0 3) = 20 := (g_rLotL h).1.1
    have s0 : fX7_size n S (M 0 2) = some (mI x 4) := by
      simp only [fX7_size, grd, onn, cal, hF.2.1, hF.2.2.2.2.2.2.2.2.2.2.2.1, l0, ev_size n (g_rLotL h).1, if_true]
      rw [hO.2.1.1]
    have t8 := tell_sum (x := x) (a := 1) (w := 8) (fun j => by simp [tellF, pick]) (nN x 4)
    have t9 := tell_sum (x := x) (a := 4) (w := 9) (fun j => by simp [tellF, pick]) (nN x 4)
    have t10 := tell_sum (x := x) (a := 5) (w := 10) (fun j => by simp [tellF, pick]) (nN x 4)
    have t11 := tell_sum (x := x) (a := 6) (w := 11) (fun j => by simp [tellF, pick]) (nN x 4)
    have t12 := tell_sum (x := x) (a := 7) (w := 12) (fun j => by simp [tellF, pick]) (nN x 4)
    simp only [bI, grd, onn, cal, hF.1, hF.2.1, hF.2.2.2.2.2.1, hF.2.2.2.2.2.2.1, hF.2.2.2.2.2.2.2.1, hF.2.2.2.2.2.2.2.2.1, hF.2.2.2.2.2.2.2.2.2.1, hR.2.2.1, (hR.2.2.2.2.1 0 (by decide)).1, hR.2.2.2.2.2.2.1, l1, l2, l3, hT.1, hT.2.2.2.1, hNm.2.1, hNm.2.2.1, hNm.2.2.2, s0, ev_size n (g_rTabL h).1, ev_size n (g_rFamL h).1, ev_size n (g_rParL h).1, ev_sumOver n hn h, ev_short n hn h, t8, t9, t10, t11, t12, ← hO.2.2.1.1, ← hO.2.2.2.1.1, ← hO.2.2.2.2.2.2.2.2.1.1.1, if_true]
    by_cases c8 : w = 8
    · subst c8; simp
    by_cases c9 : w = 9
    · subst c9; simp
    by_cases c10 : w = 10
    · subst c10; simp
    by_cases c11 : w = 11
    · subst c11; simp
    by_cases c12 : w = 12
    · subst c12; simp
    simp only [c8, c9, c10, c11, c12, or_self, if_false]
    simp only [Bool.false_eq_true, if_false, if_true]
    (repeat' split) <;> rfl
  · have hw : ∃ j, j < 10 ∧ w - 20 = nI j := by
      simp only [isB, Bool.and_eq_true, decide_eq_true_eq, Int32.le_iff_toInt_le] at h1
      have z2 : (20 : Int32).toInt = 20 := by decide
      have z9 : (29 : Int32).toInt = 29 := by decide
      obtain ⟨q, hq, rfl⟩ := nI_of (x := w) (by rw [Int32.lt_iff_toInt_lt]; have : (0 : Int32).toInt = 0 := by decide
                                                omega)
      rw [nI_toInt hq] at h1
      exact ⟨q - 20, by omega, pk_sub (b := 20) (by omega)⟩
    obtain ⟨j, hj, ej⟩ := hw
    rw [ej]
    simp only [bI, if_true, if_neg n10, grd, onn, cal, hF.1, hF.2.1, hF.2.2.2.2.2.1, ev_leftOfKind n hn h hj]
end M16
