/-! PURE: sums over a chain; what parcels lack; count -/
theorem it_filter (g : Nat → Int64) (p : Nat → Prop) [DecidablePred p] : ∀ n : Nat, ((List.range n).filter (fun j => decide (p j))).foldl (fun s j => s + g j) 0 = itN (fun j s => s + if p j then g j else 0) 0 n
  | 0 => rfl
  | n + 1 => by
    have ih := it_filter g p n
    have st : itN (fun j s => s + if p j then g j else (0 : Int64)) 0 (n + 1) = itN (fun j s => s + if p j then g j else 0) 0 n + if p n then g n else 0 := rfl
    rw [st, List.range_succ, List.filter_append, List.foldl_append, ih]
    by_cases c : p n
    · simp [c]
    · simp [c]
theorem perm_fold (g : Nat → Int64) {l l' : List Nat} (h : l.Perm l') : ∀ a : Int64, l.foldl (fun s j => s + g j) a = l'.foldl (fun s j => s + g j) a := by
  induction h with
  | nil => intro a; rfl
  | cons x _ ih => intro a; exact ih _
  | swap x y l => intro a; simp only [List.foldl_cons]; rw [Int64.add_assoc, Int64.add_assoc, Int64.add_comm (g y)]
  | trans _ _ i1 i2 => intro a; rw [i1, i2]
theorem chain_sum (g : Nat → Int64) (p : Nat → Prop) [DecidablePred p] {n : Nat} {js : List Nat} (hn : js.Nodup) (hm : ∀ j, j ∈ js ↔ j < n ∧ p j) : js.foldl (fun s j => s + g j) 0 = itN (fun j s => s + if p j then g j else 0) 0 n := by
  rw [← it_filter]
  refine perm_fold g ?_ 0
  refine (List.perm_ext_iff_of_nodup hn (List.Pairwise.filter _ List.nodup_range)).mpr (fun j => ?_)
  rw [hm j, List.mem_filter, List.mem_range]
  simp
theorem sooner_nd {x : MS} {js : List Nat} (h : js.Pairwise (sooner x)) : js.Nodup := by
  refine List.Pairwise.imp ?_ h
  intro a b hab e
  subst e
  rcases hab with z | z
  · rw [Int32.lt_iff_toInt_lt] at z; omega
  · omega
section M15
variable {ae k : Nat} {M : Nat → Nat → Nat} {x : MS} {S : CS}
theorem ev_soonest (n : Nat × Nat) (h : Rep ae k M x S) {j : Nat} (hj : j < 10) : fX7_soonestOf n S (M 0 2) (nI j) = some (cQ S 61 (M 0 4) j) := by
  have hF := g_rFix h
  have hC := g_rCha h
  have ej : (nI j).toNatClampNeg = j := nI_clamp (by omega)
  have e1 : isB (nI j) 0 9 = true := by
    simp only [isB, Bool.and_eq_true, decide_eq_true_eq]
    exact ⟨nI_le (a := 0) (Nat.zero_le _) (by omega), nI_le (b := 9) (by omega) (by decide)⟩
  have c2 : ¬ (nI j < 0 ∨ 10 ≤ j) := by
    have := vp_in_nI (n := j) (N := 10) hj (by decide)
    unfold vp_in at this
    rw [ej] at this
    exact this
  simp only [fX7_soonestOf, bnd, grd, onn, ev_kind, e1, bI, if_true, if_neg n10, hF.2.1, hF.2.2.2.2.2.2.2.2.2.2.2.2.1, hC.1, hC.2.1, ej, if_pos c2]
theorem ev_left_sum (n : Nat × Nat) : ∀ (js : List Nat) (o : Option Nat) (fuel : Nat) (a : Int64), chn S 3 69 (M 1) o js → js.length < fuel → fX7_leftOfKind_lp9 n S fuel a o = some (js.foldl (fun s j => s + (cI S 65 (M 1 j)).toInt64) a)
  | js, o, 0, a, _, hf => absurd hf (Nat.not_lt_zero _)
  | [], o, fuel + 1, a, h, _ => by
    have h : o = none := h
    subst h
    rfl
  | j :: js, o, fuel + 1, a, h, hf => by
    obtain ⟨rfl, hd, ht⟩ := h
    have ih := ev_left_sum n js _ fuel (a + (cI S 65 (M 1 j)).toInt64) ht (by simp at hf; omega)
    simp only [fX7_leftOfKind_lp9, oel, grd, bnd, hd, if_true, List.foldl_cons]
    exact ih
theorem chain_len {p : Nat → Prop} [DecidablePred p] {js : List Nat} {n : Nat} (hn : js.Nodup) (hm : ∀ j, j ∈ js ↔ j < n ∧ p j) : js.length ≤ n := by
  have hp : js.Perm ((List.range n).filter (fun j => decide (p j))) := (List.perm_ext_iff_of_nodup hn (List.Pairwise.filter _ List.nodup_range)).mpr (fun j => by
    rw [hm j, List.mem_filter, List.mem_range]
    simp)
  rw [hp.length_eq]
  exact Nat.le_trans (List.length_filter_le _ _) (by rw [List.length_range]; exact Nat.le_refl _)
theorem ev_leftOfKind (n : Nat × Nat) (hn : 30000 ≤ n.1) (h : Rep ae k M x S) {j : Nat} (hj : j < 10) : fX7_leftOfKind n S (M 0 2) (nI j) = some (sumN x 9 (nI j) (nN x 4)) := by
  obtain ⟨js, h1, h2, h3⟩ := (g_rCha h).2.2 j hj
  have h200 := (g_rOk h).2.1.2
  have nd := sooner_nd h3
  have hlen : js.length ≤ nN x 4 := chain_len nd h2
  have lp := ev_left_sum n js _ n.1 0 h1 (by omega)
  simp only [fX7_leftOfKind, bnd, grd, cal, (g_rFix h).2.1, if_true, ev_soonest n h hj, lp]
  congr 1
  rw [fold_cong (g := fun s q => s + (fun q => (mA x 9 q).toInt64) q) js 0 (fun q hq s => by rw [(g_rLot h q ((h2 q).mp hq).1).2.2.2.2.2.2.1]), chain_sum _ _ nd h2]
  unfold sumN
  refine it_cong _ (fun q _ s => ?_)
  have hn0 : ¬ nI j < 0 := nI_pos (by omega)
  by_cases c : mA x 5 q = nI j
  · rw [if_pos c, if_pos (Or.inr c)]; rfl
  · rw [if_neg c, if_neg (fun z => z.elim hn0 c)]
theorem ev_short_lp (n : Nat × Nat) (h : Rep ae k M x S) : ∀ (d i fuel : Nat), i + d = nN x 32 → d < fuel → fX11_shortInAllParcels_lp4 n S (M 0 0) fuel (itN (fun p s => s + (mA x 36 p).toInt64) 0 i) (nI i) = some (itN (fun p s => s + (mA x 36 p).toInt64) 0 (nN x 32))
  | d, i, 0, _, hf => absurd hf (Nat.not_lt_zero _)
  | d, i, fuel + 1, hi, hf => by
    have hO := (g_rOk h).2.2.2.2.2.2.2.2.1.1
    have h512 := hO.2
    have hL := (g_rParL h).1
    have hF := g_rFix h
    unfold fX11_shortInAllParcels_lp4
    have kl : cD S (M 0 7) = 23 := hL.1
    simp only [grd, bnd, cal, onn, hF.1, hF.2.2.2.2.2.2.2.2.1, kl, ev_size n hL, if_true]
    cases d with
    | zero =>
      rw [if_pos (nI_le (by omega) (by omega)), show i = nN x 32 by omega]
    | succ d =>
      have hlt : i < nN x 32 := by omega
      have hl := (g_rPar h).1 i hlt
      rw [if_neg (nI_ge hlt (by omega))]
      simp only [ev_get n hL hlt, hl.1, hl.2.2.2.2.2.1, if_true]
      have ih := ev_short_lp n h d (i + 1) fuel (by omega) (by omega)
      rw [← nI_1] at ih
      exact ih
theorem ev_short (n : Nat × Nat) (hn : 30000 ≤ n.1) (h : Rep ae k M x S) : fX11_shortInAllParcels n S (M 0 0) = some (mL x 40) := by
  have lp := ev_short_lp n h (nN x 32) 0 n.1 (by omega) (by have := (g_rOk h).2.2.2.2.2.2.2.2.1.1.2; omega)
  rw [itN_0, nI_0, ← (g_rSum h).1] at lp
  simp only [fX11_shortInAllParcels, bnd, cal, lp]
end M15
