/-! PURE: feed -/
section M13
variable {ae k : Nat} {M : Nat → Nat → Nat} {x : MS} {S : CS}
theorem ev_byte (n : Nat × Nat) (h : Rep ae k M x S) (hlt : nN x 58 < 400) (v : Int32) (fuel : Nat) {l2 : Int32} (hl : ¬ l2 < 0) : fX5_append_lp3 n (M 0 8) v (fuel + 1) l2 S = fX5_append_lp3 n (M 0 8) v fuel (l2 + -8) (uI (uA S 60 (M 0 9) (nN x 58) ((v >>> (l2 &&& 31)) &&& 255).toInt8.toInt32) 124 (M 0 8) (nI (nN x 58 + 1))) := by
  have hT := g_rTap h
  have hF := g_rFix h
  have o58 := (g_rOk h).2.2.2.2.2.2.1
  have c1 : ¬ (400 : Int32) ≤ nI (nN x 58) := by
    show ¬ nI 400 ≤ nI (nN x 58)
    rw [nI_leI (by decide) (by omega)]
    omega
  have e1 : (nI (nN x 58)).toNatClampNeg = nN x 58 := nI_clamp (by omega)
  have c2 : ¬ (nI (nN x 58) < 0 ∨ 400 ≤ nN x 58) := by
    have := vp_in_nI (n := nN x 58) (N := 400) hlt (by decide)
    unfold vp_in at this
    rw [e1] at this
    exact this
  have hI : ∀ w, cI (uA S 60 (M 0 9) (nN x 58) w) 124 (M 0 8) = nI (nN x 58) := fun w => by rw [cI_uA, hT.2.2.2.1]; exact o58.1
  have hrT : cR S 120 (M 0 8) = some (M 0 9) := hF.2.2.2.2.2.2.2.2.2.2.2.2.2
  have h124 : cI S 124 (M 0 8) = nI (nN x 58) := hT.2.2.2.1.trans o58.1
  rw [fX5_append_lp3]
  simp only [if_neg hl, grd, bnd, onn, hT.1, hT.2.1, hT.2.2.1, h124, if_neg c1, hrT, e1, if_pos c2, if_true, pk_vb, hI, nI_1, and255_8]
theorem app_lp (n : Nat × Nat) (v : Int32) (h96 : nN x 58 ≤ 396) : ∀ (r j fuel : Nat) (S : CS), j + r = 4 → Rep ae k M (fourN x v j) S → nN (fourN x v j) 58 = nN x 58 + j → r < fuel → ∃ T, fX5_append_lp3 n (M 0 8) v fuel (24 - 8 * nI j) S = some T ∧ Rep ae k M (fourN x v 4) T ∧ nN (fourN x v 4) 58 = nN x 58 + 4
  | r, j, 0, _, _, _, _, hf => absurd hf (Nat.not_lt_zero _)
  | 0, j, fuel + 1, S, hj, hR, hn, _ => by
    have : j = 4 := by omega
    subst this
    refine ⟨S, ?_, hR, hn⟩
    rw [fX5_append_lp3, if_pos (by decide)]
  | r + 1, j, fuel + 1, S, hj, hR, hn, hf => by
    have h4 : j = 0 ∨ j = 1 ∨ j = 2 ∨ j = 3 := by omega
    have hl : ¬ (24 - 8 * nI j : Int32) < 0 := by rcases h4 with rfl | rfl | rfl | rfl <;> decide
    have hs : (24 - 8 * nI j : Int32) + -8 = 24 - 8 * nI (j + 1) := by rcases h4 with rfl | rfl | rfl | rfl <;> decide
    rw [ev_byte n hR (by rw [hn]; omega) v fuel hl, hs]
    have st : fourN x v (j + 1) = sI (sA (fourN x v j) 57 (upd (mA (fourN x v j) 57) (nN x 58 + j) ((v >>> ((24 - 8 * nI j) &&& 31)) &&& 255))) 58 (nI (nN x 58 + j + 1)) := rfl
    have hb := byte_rep hR (by rw [hn]; omega) (and255 (v >>> ((24 - 8 * nI j) &&& 31)))
    rw [hn] at hb ⊢
    rw [← st] at hb
    refine app_lp n v h96 r (j + 1) fuel _ (by omega) hb ?_ (by omega)
    rw [st]
    show (upd (fourN x v j).1 58 (nI (nN x 58 + j + 1)) 58).toNatClampNeg = _
    rw [show ∀ (f : Nat → Int32) v, upd f 58 v 58 = v from fun f v => if_pos rfl, nI_clamp (by omega)]
    omega
theorem ev_append (n : Nat × Nat) (hn : 30000 ≤ n.1) (h : Rep ae k M x S) (h96 : nN x 58 ≤ 396) (v : Int32) : ∃ T, fX5_append n S (M 0 8) v = some T ∧ Rep ae k M (fourN x v 4) T ∧ nN (fourN x v 4) 58 = nN x 58 + 4 := by
  obtain ⟨T, e, hR, hx⟩ := app_lp (x := x) n v h96 4 0 n.1 S (by omega) h rfl (by omega)
  refine ⟨T, ?_, hR, hx⟩
  simp only [fX5_append, bnd, cal]
  rw [show (24 : Int32) = 24 - 8 * nI 0 by decide, e]
theorem st_feed (n : Nat × Nat) (hn : 30000 ≤ n.1) (h : Rep ae k M x S) (a b c d e : Int32) : ∃ T, fX11_feed n S (M 0 0) a b c d e = some ((feedF x a b c d e).1, T) ∧ Rep ae (k + 1) M (feedF x a b c d e).2 T := by
  have hF := g_rFix h
  have hT := g_rTap h
  have o58 := (g_rOk h).2.2.2.2.2.2.1
  have h4 := o58.2
  have F : ∀ {y : MS} {U : CS}, Rep ae k M y U → cD U (M 0 0) = 12 ∧ cR U 245 (M 0 0) = some (M 0 8) ∧ cD U (M 0 8) = 6 ∧ cI U 124 (M 0 8) = mI y 58 := fun r => ⟨(g_rFix r).1, (g_rFix r).2.2.2.2.2.2.2.2.2.1, (g_rTap r).1, (g_rTap r).2.2.2.1⟩
  obtain ⟨f1, f2, f3, f4⟩ := F h
  by_cases cc : mI x 58 + 20 ≤ 400
  · have h380 : nN x 58 ≤ 380 := by
      rw [o58.1, show (20 : Int32) = nI 20 from rfl, nI_add, show (400 : Int32) = nI 400 from rfl, nI_leI (by omega) (by decide)] at cc
      omega
    obtain ⟨T1, e1, r1, n1⟩ := ev_append n hn h (by omega) a
    obtain ⟨T2, e2, r2, n2⟩ := ev_append n hn r1 (by omega) b
    obtain ⟨T3, e3, r3, n3⟩ := ev_append n hn r2 (by omega) c
    obtain ⟨T4, e4, r4, n4⟩ := ev_append n hn r3 (by omega) d
    obtain ⟨T5, e5, r5, n5⟩ := ev_append n hn r4 (by omega) e
    obtain ⟨g1, g2, g3, g4⟩ := F r1
    obtain ⟨i1, i2, i3, i4⟩ := F r2
    obtain ⟨j1, j2, j3, j4⟩ := F r3
    obtain ⟨l1, l2, l3, l4⟩ := F r4
    obtain ⟨m1, m2, m3, m4⟩ := F r5
    refine ⟨T5, ?_, ?_⟩
    · simp only [fX11_feed, feedF, grd, onn, cal, bnd, f1, f2, f3, f4, if_true, if_pos cc, e1, e2, e3, e4, e5, g1, g2, g3, i1, i2, i3, j1, j2, j3, l1, l2, l3, m1, m2, m3, m4]
      rfl
    · simp only [feedF, if_pos cc]
      exact rep_mono r5
  · refine ⟨S, ?_, ?_⟩
    · simp only [fX11_feed, feedF, grd, onn, cal, bnd, f1, f2, f3, f4, if_true, if_neg cc]
    · simp only [feedF, if_neg cc]
      exact rep_mono h
end M13
