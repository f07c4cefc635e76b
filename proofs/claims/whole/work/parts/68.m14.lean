/-! PURE: sums over all lots -/
section M14
variable {ae k : Nat} {M : Nat → Nat → Nat} {x : MS} {S : CS}
def tellF (x : MS) (j : Nat) (w : Int32) : Int32 := if w = 0 then mA x 5 j else if w = 1 then mA x 6 j else if w = 2 then mA x 7 j else if w = 3 then mA x 8 j else if w = 4 then mA x 9 j else if w = 5 then mA x 10 j else if w = 6 then mA x 11 j else if w = 7 then mA x 12 j else -1
def tellN (x : MS) (w : Int32) (n : Nat) : Int64 := itN (fun j s => s + (tellF x j w).toInt64) 0 n
theorem ev_sum_lp (n : Nat × Nat) (h : Rep ae k M x S) (w : Int32) : ∀ (d i fuel : Nat), i + d = nN x 4 → d < fuel → fX7_sumOver_lp5 n S (M 0 2) w fuel (tellN x w i) (nI i) = some (tellN x w (nN x 4))
  | d, i, 0, _, hf => absurd hf (Nat.not_lt_zero _)
  | d, i, fuel + 1, hi, hf => by
    have hO := (g_rOk h).2.1
    have h200 := hO.2
    have hL := (g_rLotL h).1
    have hF := g_rFix h
    unfold fX7_sumOver_lp5
    have kl : cD S (M 0 3) = 20 := hL.1
    simp only [grd, bnd, cal, onn, hF.2.1, hF.2.2.2.2.2.2.2.2.2.2.2.1, kl, ev_size n hL, if_true]
    cases d with
    | zero =>
      rw [if_pos (nI_le (by omega) (by omega)), show i = nN x 4 by omega]
    | succ d =>
      have hlt : i < nN x 4 := by omega
      have hl := g_rLot h i hlt
      have et : fX2_tell n S (M 1 i) w = some (tellF x i w) := ev_tell n h hlt w
      rw [if_neg (nI_ge hlt (by omega))]
      simp only [ev_get n hL hlt, hl.1, if_true, et]
      have ih := ev_sum_lp n h w d (i + 1) fuel (by omega) (by omega)
      rw [← nI_1] at ih
      exact ih
theorem ev_sumOver (n : Nat × Nat) (hn : 30000 ≤ n.1) (h : Rep ae k M x S) (w : Int32) : fX7_sumOver n S (M 0 2) w = some (tellN x w (nN x 4)) := by
  have lp := ev_sum_lp n h w (nN x 4) 0 n.1 (by omega) (by have := (g_rOk h).2.1.2; omega)
  rw [show tellN x w 0 = 0 from rfl, nI_0] at lp
  simp only [fX7_sumOver, bnd, cal, lp]
end M14
