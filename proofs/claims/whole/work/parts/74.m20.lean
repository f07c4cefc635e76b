/-! PURE: rules asked, piece by piece; which lot goes next -/
section M20
variable {ae k : Nat} {M : Nat → Nat → Nat} {x : MS} {S : CS}
theorem ev_isRule' (n : Nat × Nat) (o25 : okN x 25 30) (hRu : rRul M x S) {r : Nat} (hr : r < nN x 25) (v kd : Int32) : fX6_isRule n S (M 13 0) (nI r) v kd = some (if mA x 26 r + 1 = v ∧ mA x 27 r = kd then 1 else 0) := by
  have hR := hRu
  have z := hR.2.2.2.2.1 0 (by decide)
  have q := hR.2.2.2.2.2.2.2 r hr
  have h30 := o25.2
  have er : (nI r).toNatClampNeg = r := nI_clamp (by omega)
  have e1 : isB (nI r) 0 29 = true := by
    simp only [isB, Bool.and_eq_true, decide_eq_true_eq]
    exact ⟨nI_le (a := 0) (Nat.zero_le _) (by omega), nI_le (b := 29) (by omega) (by decide)⟩
  have hv : ¬ (nI r < 0 ∨ 30 ≤ (nI r).toNatClampNeg) := vp_in_nI (by omega) (by decide)
  unfold fX6_isRule
  rw [er] at hv
  simp only [grd, bnd, onn, ev_within, e1, bI, if_true, z.1, z.2.1, z.2.2.1, z.2.2.2.2.2.1.1, z.2.2.2.2.2.1.2, z.2.2.2.2.2.2.1.1, z.2.2.2.2.2.2.1.2, er, q.1, q.2.1, if_pos hv]
  rw [if_neg (by decide)]
  by_cases c1 : mA x 26 r + 1 = v
  · by_cases c2 : mA x 27 r = kd
    · simp [c1, c2]
    · simp [c1, c2]
  · simp [c1]
theorem ev_need_lp' (n : Nat × Nat) (o25 : okN x 25 30) (hRu : rRul M x S) (kd hd : Int32) : ∀ (d i fuel : Nat), i + d = nN x 25 → d < fuel → fX6_gramsNeeded_lp5 n S (M 13 0) kd hd fuel (needN x hd kd i) (nI i) = some (needN x hd kd (nN x 25))
  | d, i, 0, _, hf => absurd hf (Nat.not_lt_zero _)
  | d, i, fuel + 1, hi, hf => by
    have hR := hRu
    have z := hR.2.2.2.2.1 0 (by decide)
    have o25 := o25
    have h30 := o25.2
    have er : (nI i).toNatClampNeg = i := nI_clamp (by omega)
    unfold fX6_gramsNeeded_lp5
    simp only [grd, bnd, z.1, hR.2.2.2.2.2.2.1, o25.1, if_true]
    cases d with
    | zero =>
      rw [if_pos (nI_le (by omega) (by omega)), show i = nN x 25 by omega]
    | succ d =>
      have hlt : i < nN x 25 := by omega
      have q := hR.2.2.2.2.2.2.2 i hlt
      have hv : ¬ (nI i < 0 ∨ 30 ≤ (nI i).toNatClampNeg) := vp_in_nI (by omega) (by decide)
      rw [er] at hv
      rw [if_neg (nI_ge hlt (by omega))]
      simp only [cal, ev_isRule' n o25 hRu hlt]
      have ih := ev_need_lp' n o25 hRu kd hd d (i + 1) fuel (by omega) (by omega)
      rw [← nI_1] at ih
      have st : needN x hd kd (i + 1) = needN x hd kd i + if mA x 26 i = 0 ∧ mA x 27 i = kd ∧ ¬ hd ≤ mA x 29 i then mA x 28 i * hd else 0 := rfl
      by_cases c : mA x 26 i + 1 = 1 ∧ mA x 27 i = kd
      · have c0 : mA x 26 i = 0 := (i32_inc _ 0).mp c.1
        rw [if_pos c, if_neg (by decide)]
        simp only [onn, z.2.2.2.2.1, z.2.2.2.2.2.2.2.2.1, z.2.2.2.2.2.2.2.2.2, z.2.2.2.1, z.2.2.2.2.2.2.2.1.1, z.2.2.2.2.2.2.2.1.2, er, if_true, if_pos hv, q.2.2.1, q.2.2.2 c0]
        by_cases c2 : hd ≤ mA x 29 i
        · rw [if_pos c2]
          rw [st, if_neg (fun z => z.2.2 c2)] at ih
          simpa using ih
        · rw [if_neg c2]
          rw [st, if_pos ⟨c0, c.2, c2⟩] at ih
          exact ih
      · rw [if_neg c, if_pos rfl]
        rw [st, if_neg (fun z => c ⟨(i32_inc _ 0).mpr z.1, z.2.1⟩)] at ih
        simpa using ih
theorem ev_gramsNeeded' (n : Nat × Nat) (hn : 30000 ≤ n.1) (o25 : okN x 25 30) (hRu : rRul M x S) (kd hd : Int32) : fX6_gramsNeeded n S (M 13 0) kd hd = some (needN x hd kd (nN x 25)) := by
  have := ev_need_lp' n o25 hRu kd hd (nN x 25) 0 n.1 (by omega) (by have := o25.2; omega)
  simp only [fX6_gramsNeeded, bnd, cal]
  rw [show needN x hd kd 0 = 0 from rfl, nI_0] at this
  rw [this]
theorem ev_spare_lp' (n : Nat × Nat) (o25 : okN x 25 30) (hRu : rRul M x S) (kd : Int32) : ∀ (d i fuel : Nat), i + d = nN x 25 → d < fuel → fX6_daysSpared_lp4 n S (M 13 0) kd fuel (spareN x kd i) (nI i) = some (spareN x kd (nN x 25))
  | d, i, 0, _, hf => absurd hf (Nat.not_lt_zero _)
  | d, i, fuel + 1, hi, hf => by
    have hR := hRu
    have z := hR.2.2.2.2.1 0 (by decide)
    have o25 := o25
    have h30 := o25.2
    have er : (nI i).toNatClampNeg = i := nI_clamp (by omega)
    unfold fX6_daysSpared_lp4
    simp only [grd, bnd, z.1, hR.2.2.2.2.2.2.1, o25.1, if_true]
    cases d with
    | zero =>
      rw [if_pos (nI_le (by omega) (by omega)), show i = nN x 25 by omega]
    | succ d =>
      have hlt : i < nN x 25 := by omega
      have q := hR.2.2.2.2.2.2.2 i hlt
      have hv : ¬ (nI i < 0 ∨ 30 ≤ (nI i).toNatClampNeg) := vp_in_nI (by omega) (by decide)
      rw [er] at hv
      rw [if_neg (nI_ge hlt (by omega))]
      simp only [cal, ev_isRule' n o25 hRu hlt]
      have ih := ev_spare_lp' n o25 hRu kd d (i + 1) fuel (by omega) (by omega)
      rw [← nI_1] at ih
      have st : spareN x kd (i + 1) = if mA x 26 i = 1 ∧ mA x 27 i = kd ∧ ¬ mA x 28 i ≤ spareN x kd i then mA x 28 i else spareN x kd i := rfl
      by_cases c : mA x 26 i + 1 = 2 ∧ mA x 27 i = kd
      · have c0 : mA x 26 i = 1 := (i32_inc _ 1).mp c.1
        rw [if_pos c, if_neg (by decide)]
        simp only [onn, z.2.2.2.1, z.2.2.2.2.2.2.2.1.1, z.2.2.2.2.2.2.2.1.2, er, if_true, if_pos hv, q.2.2.1]
        have e : (if spareN x kd i < mA x 28 i then mA x 28 i else spareN x kd i) = spareN x kd (i + 1) := by
          rw [st]
          by_cases c2 : mA x 28 i ≤ spareN x kd i
          · rw [if_neg (by rw [Int32.lt_iff_toInt_lt]; rw [Int32.le_iff_toInt_le] at c2; omega), if_neg (fun z => z.2.2 c2)]
          · rw [if_pos (by rw [Int32.lt_iff_toInt_lt]; rw [Int32.le_iff_toInt_le] at c2; omega), if_pos ⟨c0, c.2, c2⟩]
        rw [e]
        exact ih
      · rw [if_neg c, if_pos rfl]
        rw [st, if_neg (fun z => c ⟨(i32_inc _ 1).mpr z.1, z.2.1⟩)] at ih
        exact ih
theorem ev_daysSpared' (n : Nat × Nat) (hn : 30000 ≤ n.1) (o25 : okN x 25 30) (hRu : rRul M x S) (kd : Int32) : fX6_daysSpared n S (M 13 0) kd = some (spareN x kd (nN x 25)) := by
  have := ev_spare_lp' n o25 hRu kd (nN x 25) 0 n.1 (by omega) (by have := o25.2; omega)
  simp only [fX6_daysSpared, bnd, cal]
  rw [show spareN x kd 0 = 0 from rfl, nI_0] at this
  rw [this]
end M20
def can (z : MS) (kd le : Int32) (j : Nat) : Prop := mA z 5 j = kd ∧ ¬ mA z 9 j ≤ 0 ∧ ¬ mA z 7 j < le
def may (z : MS) (le : Int32) (j : Nat) : Prop := ¬ mA z 9 j ≤ 0 ∧ ¬ mA z 7 j < le
theorem nextN_s' (z : MS) (kd le : Int32) (k : Nat) : nextN z kd le (k + 1) = if mA z 5 k = kd ∧ ¬ mA z 9 k ≤ 0 ∧ ¬ mA z 7 k < le ∧ (nextN z kd le k < 0 ∨ ¬ mA z 7 (nextN z kd le k).toNatClampNeg ≤ mA z 7 k) then nI k else nextN z kd le k := rfl
theorem sooner_irr {z : MS} {i j : Nat} (h : sooner z i j) (h2 : sooner z j i) : False := by
  unfold sooner at h h2
  simp only [Int32.lt_iff_toInt_lt] at h h2
  rcases h with h | h <;> rcases h2 with h2 | h2
  · omega
  · rw [h2.1] at h; omega
  · rw [h.1] at h2; omega
  · omega
theorem nextN_min (z : MS) (kd le : Int32) : ∀ k, k < 2 ^ 31 → (nextN z kd le k = -1 ∧ ∀ j, j < k → ¬ can z kd le j) ∨ ∃ i, i < k ∧ nextN z kd le k = nI i ∧ can z kd le i ∧ ∀ j, j < k → can z kd le j → j = i ∨ sooner z i j := by
  intro k
  induction k with
  | zero => exact fun _ => Or.inl ⟨rfl, fun j hj => absurd hj (Nat.not_lt_zero _)⟩
  | succ k ih =>
    intro hk
    rcases ih (by omega) with ⟨e, no⟩ | ⟨i, hi, e, ci, mi⟩
    · rw [nextN_s', e]
      by_cases c : can z kd le k
      · rw [if_pos ⟨c.1, c.2.1, c.2.2, Or.inl (by decide)⟩]
        refine Or.inr ⟨k, by omega, rfl, c, fun j hj cj => ?_⟩
        rcases Nat.lt_or_ge j k with q | q
        · exact absurd cj (no j q)
        · exact Or.inl (by omega)
      · rw [if_neg (fun q => c ⟨q.1, q.2.1, q.2.2.1⟩)]
        refine Or.inl ⟨rfl, fun j hj => ?_⟩
        rcases Nat.lt_or_ge j k with q | q
        · exact no j q
        · rw [show j = k by omega]; exact c
    · rw [nextN_s', e, nI_clamp (show i < 2 ^ 31 by omega)]
      by_cases c : can z kd le k
      · by_cases c2 : mA z 7 i ≤ mA z 7 k
        · rw [if_neg (fun q => q.2.2.2.elim (fun w => nI_pos (show i < 2 ^ 31 by omega) w) (fun w => w c2))]
          refine Or.inr ⟨i, by omega, rfl, ci, fun j hj cj => ?_⟩
          rcases Nat.lt_or_ge j k with q | q
          · exact mi j q cj
          · rw [show j = k by omega]
            refine Or.inr ?_
            rcases Int32.lt_or_eq_of_le c2 with w | w
            · exact Or.inl w
            · exact Or.inr ⟨w, hi⟩
        · rw [if_pos ⟨c.1, c.2.1, c.2.2, Or.inr c2⟩]
          refine Or.inr ⟨k, by omega, rfl, c, fun j hj cj => ?_⟩
          rcases Nat.lt_or_ge j k with q | q
          · refine Or.inr (Or.inl ?_)
            have c3 := Int32.not_le.mp c2
            rcases mi j q cj with w | w
            · rw [w]; exact c3
            · unfold sooner at w
              simp only [Int32.lt_iff_toInt_lt] at w c3 ⊢
              rcases w with w | w
              · omega
              · rw [← w.1]; omega
          · exact Or.inl (by omega)
      · rw [if_neg (fun q => c ⟨q.1, q.2.1, q.2.2.1⟩)]
        refine Or.inr ⟨i, by omega, rfl, ci, fun j hj cj => ?_⟩
        rcases Nat.lt_or_ge j k with q | q
        · exact mi j q cj
        · rw [show j = k by omega] at cj; exact absurd cj c
theorem next_at {z : MS} {kd : Nat} {le : Int32} {js1 js2 : List Nat} {j : Nat} (hm : ∀ i, i ∈ js1 ++ j :: js2 ↔ i < nN z 4 ∧ mA z 5 i = nI kd) (hp : (js1 ++ j :: js2).Pairwise (sooner z)) (h4 : nN z 4 < 2 ^ 31) (h1 : ∀ i ∈ js1, ¬ may z le i) (hj : may z le j) : nextN z (nI kd) le (nN z 4) = nI j := by
  have hjm := (hm j).mp (by simp)
  have cj : can z (nI kd) le j := ⟨hjm.2, hj⟩
  rcases nextN_min z (nI kd) le (nN z 4) h4 with ⟨-, no⟩ | ⟨i, hi, e, ci, mi⟩
  · exact absurd cj (no j hjm.1)
  · rw [e]
    rcases mi j hjm.1 cj with w | w
    · rw [w]
    · have him := (hm i).mpr ⟨hi, ci.1⟩
      rw [List.mem_append, List.mem_cons] at him
      rcases him with q | q | q
      · exact absurd ci.2 (h1 i q)
      · rw [q]
      · have := List.pairwise_append.mp hp
        have := (List.pairwise_cons.mp this.2.1).1 i q
        exact (sooner_irr this w).elim
theorem next_no {z : MS} {kd : Nat} {le : Int32} {js : List Nat} (hm : ∀ i, i ∈ js ↔ i < nN z 4 ∧ mA z 5 i = nI kd) (h4 : nN z 4 < 2 ^ 31) (h1 : ∀ i ∈ js, ¬ may z le i) : nextN z (nI kd) le (nN z 4) = -1 := by
  rcases nextN_min z (nI kd) le (nN z 4) h4 with ⟨e, -⟩ | ⟨i, hi, e, ci, mi⟩
  · exact e
  · exact absurd ci.2 (h1 i ((hm i).mpr ⟨hi, ci.1⟩))
