/-! PURE: shares laid out -/
theorem to_b {x : MS} {kd : Nat} (hLim : rLim x) {L r : Int} (hL : 0 ≤ L) : ∀ k, 0 ≤ toS x kd L r k ∧ toS x kd L r k ≤ k * 1000000
  | 0 => by rw [toS_0]; omega
  | k + 1 => by
    have := to_b (kd := kd) (r := r) hLim hL k
    have a := sh_b (kd := kd) (r := r) hLim hL k
    have := wnt_b (kd := kd) hLim k
    rw [toS_s]
    omega
theorem rmS_s (x : MS) (kd : Nat) (L r : Int) (t : Nat) : rmS x kd L r (t + 1) = if L < wnt x kd t ∧ 0 < rmS x kd L r t then rmS x kd L r t - 1 else rmS x kd L r t := rfl
section M33
variable {ae k : Nat} {M : Nat → Nat → Nat} {x : MS} {S : CS}
def QL (M : Nat → Nat → Nat) (x : MS) (S : CS) (kd : Nat) (gs : Nat → Nat) (t : Nat) (T : CS) : Prop := keep S T [] [] [46, 47] [] ∧ nx T = nx S ∧ (∀ q, cD T q = cD S q) ∧ ∀ i, i < nN x 13 → ∀ q, q < 10 → cA T 46 (M 3 i) q = (if i < t ∧ q = kd then mA x 14 (10 * i + kd) - nI (gs i) else mA x 14 (10 * i + q)) ∧ cA T 47 (M 4 i) q = (if i < t ∧ q = kd then (mB x 15 (10 * i + kd)).toInt32 + nI (gs i) else (mB x 15 (10 * i + q)).toInt32)
theorem QL_0 (h : Rep ae k M x S) (kd : Nat) (gs : Nat → Nat) : QL M x S kd gs 0 S := by
  refine ⟨kpre (keep_rf S) (by simp) (by simp) (by simp) (by simp), rfl, fun _ => rfl, fun i hi q hq => ?_⟩
  rw [if_neg (fun w => Nat.not_lt_zero _ w.1), if_neg (fun w => Nat.not_lt_zero _ w.1)]
  exact ⟨((g_rWan h).1 i hi).2 q hq, ((g_rGot h).1 i hi).2 q hq⟩
theorem QL_step (h : Rep ae k M x S) {kd t : Nat} {gs : Nat → Nat} {T : CS} (hQ : QL M x S kd gs t T) (ht : t < nN x 13) (hkd : kd < 10) : QL M x S kd gs (t + 1) (uA (uA T 46 (M 3 t) kd (mA x 14 (10 * t + kd) - nI (gs t))) 47 (M 4 t) kd ((mB x 15 (10 * t + kd)).toInt32 + nI (gs t))) := by
  obtain ⟨hk, hx, hd, hv⟩ := hQ
  refine ⟨kpre (keep_tr hk (keep_tr (keep_uA T 46 (M 3 t) kd (mA x 14 (10 * t + kd) - nI (gs t))) (keep_uA _ 47 (M 4 t) kd _))) (by simp) (by simp) (by simp) (by simp), hx, hd, fun i hi q hq => ?_⟩
  have v := hv i hi q hq
  have hL := g_rTabL h
  refine ⟨?_, ?_⟩
  · rw [cA_uA, set1_n _ _ (by decide), cA_uA, set1_s]
    by_cases e : i = t
    · subst e
      rw [set1_s]
      by_cases eq : q = kd
      · rw [eq, pk_us, if_pos ⟨Nat.lt_succ_self _, rfl⟩]
      · rw [pk_un eq, if_neg (fun w => eq w.2), v.1, if_neg (fun w => eq w.2)]
    · rw [set1_n _ _ (fun w => e (hL.2.2.1 i t hi ht w)), v.1]
      by_cases c : i < t ∧ q = kd
      · rw [if_pos c, if_pos ⟨by omega, c.2⟩]
      · rw [if_neg c, if_neg (fun w => c ⟨by omega, w.2⟩)]
  · rw [cA_uA, set1_s]
    by_cases e : i = t
    · subst e
      rw [set1_s]
      by_cases eq : q = kd
      · rw [eq, pk_us, if_pos ⟨Nat.lt_succ_self _, rfl⟩]
      · rw [pk_un eq, if_neg (fun w => eq w.2), cA_uA, set1_n _ _ (by decide), v.2, if_neg (fun w => eq w.2)]
    · rw [set1_n _ _ (fun w => e (hL.2.2.2 i t hi ht w)), cA_uA, set1_n _ _ (by decide), v.2]
      by_cases c : i < t ∧ q = kd
      · rw [if_pos c, if_pos ⟨by omega, c.2⟩]
      · rw [if_neg c, if_neg (fun w => c ⟨by omega, w.2⟩)]
theorem lvl_lp (n : Nat × Nat) (h : Rep ae k M x S) {kd : Nat} (hkd : kd < 10) {L : Nat} (hL : L < 2 ^ 20) {r : Int} (hr : 0 ≤ r) (hr2 : r < 2000000000) {gs : Nat → Nat} (hgs : ∀ t, (gs t : Int) = shS x kd L r t) : ∀ (d t fuel : Nat) (over parted : Int32) (T : CS), t + d = nN x 13 → d < fuel → over.toInt = rmS x kd L r t → parted.toInt = toS x kd L r t → QL M x S kd gs t T → ∃ (p : Int32) (T' : CS), fX11_partAtLevel_lp9 n (M 0 0) (nI kd) (nI L) fuel over parted (nI t) T = some (p, T') ∧ p.toInt = toS x kd L r (nN x 13) ∧ QL M x S kd gs (nN x 13) T'
  | d, t, 0, _, _, _, _, hf, _, _, _ => absurd hf (Nat.not_lt_zero _)
  | d, t, fuel + 1, over, parted, T, hi, hf, ho, hp, hQ => by
    have hk := hQ.1
    have hF := k_rFix hk (by decide) (g_rFix h)
    have o13 := (g_rOk h).2.2.1
    have h12 := o13.2
    have hLim := g_rLim h
    have hLt := keep_list hk (g_rTabL h).1 (by decide) (by decide) (by decide)
    have kl : cD T (M 0 5) = 21 := hLt.1
    have ek : (nI kd).toNatClampNeg = kd := nI_clamp (by omega)
    have c2 : ¬ (nI kd < 0 ∨ 10 ≤ kd) := by
      have := vp_in_nI (n := kd) (N := 10) hkd (by decide)
      unfold vp_in at this
      rw [ek] at this
      exact this
    unfold fX11_partAtLevel_lp9
    by_cases hd : d = 0
    · simp only [grd, onn, cal, bnd, hF.1, hF.2.2.2.2.2.2.1, kl, ev_size n hLt, if_true]
      rw [if_pos (nI_le (by omega) (by omega))]
      have e : t = nN x 13 := by omega
      rw [e] at hp hQ
      exact ⟨parted, T, rfl, hp, hQ⟩
    · have hlt : t < nN x 13 := by omega
      have htb := k_rTab hk (by decide) rfl (g_rTab h) t hlt
      have v := hQ.2.2.2 t hlt kd hkd
      rw [if_neg (fun w => Nat.lt_irrefl _ w.1), if_neg (fun w => Nat.lt_irrefl _ w.1)] at v
      have w := wnt_b (kd := kd) hLim t
      have sb := sh_b (kd := kd) (r := r) hLim (show (0 : Int) ≤ L by omega) t
      have tb := to_b (kd := kd) (r := r) hLim (show (0 : Int) ≤ L by omega) t
      have eL : (nI L).toInt = L := nI_toInt (by omega)
      have q20 : (2 : Nat) ^ 20 = 1048576 := by decide
      have hwe : (mA x 14 (10 * t + kd)).toInt = wnt x kd t := rfl
      have m0 : (0 : Int32).toInt = 0 := by decide
      have m1 : (1 : Int32).toInt = 1 := by decide
      have mm : (-1 : Int32).toInt = -1 := by decide
      have hg := hgs t
      have eg : (nI (gs t)).toInt = shS x kd L r t := by rw [nI_toInt (by omega)]; exact hg
      have em : (if nI L < mA x 14 (10 * t + kd) then nI L else mA x 14 (10 * t + kd)).toInt = min (wnt x kd t) L := by
        split
        · rename_i c; rw [Int32.lt_iff_toInt_lt, eL, hwe] at c; omega
        · rename_i c; rw [Int32.lt_iff_toInt_lt, eL, hwe] at c; omega
      have sdef : shS x kd L r t = min (wnt x kd t) L + if (L : Int) < wnt x kd t ∧ 0 < rmS x kd L r t then 1 else 0 := rfl
      have rdef := rmS_s x kd L r t
      have hQ2 := QL_step h hQ hlt hkd
      obtain ⟨T2, eT2⟩ : ∃ q, q = uA (uA T 46 (M 3 t) kd (mA x 14 (10 * t + kd) - nI (gs t))) 47 (M 4 t) kd ((mB x 15 (10 * t + kd)).toInt32 + nI (gs t)) := ⟨_, rfl⟩
      rw [← eT2] at hQ2
      have pt : (parted + nI (gs t)).toInt = toS x kd L r (t + 1) := by
        rw [i32_add (by omega) (by omega), hp, eg, toS_s]
      have y1 : cD (uA T 46 (M 3 t) kd (mA x 14 (10 * t + kd) - nI (gs t))) (M 4 t) = 47 := htb.2.2.2.2.2.1
      have y2 : cN (uA T 46 (M 3 t) kd (mA x 14 (10 * t + kd) - nI (gs t))) (M 4 t) = 10 := htb.2.2.2.2.2.2
      have y3 : cR (uA T 46 (M 3 t) kd (mA x 14 (10 * t + kd) - nI (gs t))) 181 (M 2 t) = some (M 4 t) := htb.2.2.1
      have y4 : cA (uA T 46 (M 3 t) kd (mA x 14 (10 * t + kd) - nI (gs t))) 47 (M 4 t) kd = (mB x 15 (10 * t + kd)).toInt32 := by rw [cA_uA, set1_n _ _ (by decide)]; exact v.2
      have rec1 : ∀ o2 : Int32, o2.toInt = rmS x kd L r (t + 1) → ∃ (p : Int32) (T' : CS), fX11_partAtLevel_lp9 n (M 0 0) (nI kd) (nI L) fuel o2 (parted + nI (gs t)) (nI (t + 1)) T2 = some (p, T') ∧ p.toInt = toS x kd L r (nN x 13) ∧ QL M x S kd gs (nN x 13) T' := fun o2 ho2 => lvl_lp n h hkd hL hr hr2 hgs (d - 1) (t + 1) fuel o2 _ T2 (by omega) (by omega) ho2 pt hQ2
      simp only [grd, onn, cal, bnd, hF.1, hF.2.2.2.2.2.2.1, kl, ev_size n hLt, if_true, if_neg (nI_ge hlt (show nN x 13 < 2 ^ 31 by omega)), ev_get n hLt hlt, htb.1, htb.2.1, htb.2.2.2.1, htb.2.2.2.2.1, ek, if_pos c2, v.1]
      by_cases c1 : mA x 14 (10 * t + kd) ≤ nI L
      · have c1' := c1
        rw [Int32.le_iff_toInt_le, eL, hwe] at c1'
        rw [if_neg (fun z => by omega)] at sdef rdef
        have es : (if nI L < mA x 14 (10 * t + kd) then nI L else mA x 14 (10 * t + kd)) = nI (gs t) := Int32.toInt.inj (by rw [em, eg]; omega)
        simp only [if_pos c1, es, y1, y2, y3, y4, if_pos c2, if_true, ← eT2, nI_inc1]
        exact rec1 over (by rw [ho, rdef])
      · have c1' := c1
        rw [Int32.le_iff_toInt_le, eL, hwe] at c1'
        by_cases c3 : over ≤ 0
        · have c3' := c3
          rw [Int32.le_iff_toInt_le, m0] at c3'
          rw [if_neg (fun z => by omega)] at sdef rdef
          have es : (if nI L < mA x 14 (10 * t + kd) then nI L else mA x 14 (10 * t + kd)) = nI (gs t) := Int32.toInt.inj (by rw [em, eg]; omega)
          simp only [if_neg c1, if_pos c3, es, y1, y2, y3, y4, if_pos c2, if_true, ← eT2, nI_inc1]
          exact rec1 over (by rw [ho, rdef])
        · have c3' := c3
          rw [Int32.le_iff_toInt_le, m0] at c3'
          rw [if_pos ⟨by omega, by omega⟩] at sdef rdef
          have es : (if nI L < mA x 14 (10 * t + kd) then nI L else mA x 14 (10 * t + kd)) + 1 = nI (gs t) := Int32.toInt.inj (by rw [i32_add (by rw [em]; omega) (by rw [em]; omega), em, eg]; omega)
          have ob := rm_is (x := x) (kd := kd) (L := L) hr t
          have cn := cW_nn (x := x) (kd := kd) L t
          simp only [if_neg c1, if_neg c3, es, y1, y2, y3, y4, if_pos c2, if_true, ← eT2, nI_inc1]
          exact rec1 (over + -1) (by rw [i32_add (by omega) (by omega), ho, rdef]; omega)
end M33
/-- the reference lays its shares out -/
def Kr (x y : MS) : Prop := (∀ f, mI y f = mI x f) ∧ (∀ f, f ≠ 41 → mA y f = mA x f) ∧ (∀ f, mL y f = mL x f) ∧ ∀ f, mB y f = mB x f
theorem shr_lp (n : Nat × Nat) {x : MS} (o13 : okN x 13 12) (hLim : rLim x) {kd : Nat} (hkd : kd < 10) {L : Int64} (hL : 0 ≤ L.toInt ∧ L.toInt ≤ 1000000) {r : Int} (hr : 0 ≤ r) (hr2 : r < 2000000000) {gs : Nat → Nat} (hgs : ∀ t, (gs t : Int) = shS x kd L.toInt r t) : ∀ (d t fuel : Nat) (rest : Int64) (y : MS), t + d = nN x 13 → d < fuel → rest.toInt = rmS x kd L.toInt r t → Kr x y → (∀ i, i < t → mA y 41 i = nI (gs i)) → ∃ y', fX12_part_lp189 n (nI kd) L fuel rest (nI t) y = some y' ∧ Kr x y' ∧ ∀ i, i < nN x 13 → mA y' 41 i = nI (gs i)
  | d, t, 0, _, _, _, hf, _, _, _ => absurd hf (Nat.not_lt_zero _)
  | d, t, fuel + 1, rest, y, hi, hf, ho, hK, h41 => by
    have h12 := o13.2
    unfold fX12_part_lp189
    have e13 : mI y 13 = nI (nN x 13) := by rw [hK.1 13]; exact o13.1
    by_cases hd : d = 0
    · simp only [bnd, e13]
      rw [if_pos (nI_le (by omega) (by omega))]
      exact ⟨y, rfl, hK, fun i hi2 => h41 i (by omega)⟩
    · have hlt : t < nN x 13 := by omega
      obtain ⟨e1, e2, e3⟩ := ix10 (t := t) (kd := kd) (by omega) hkd
      have e14 : mA y 14 = mA x 14 := hK.2.1 14 (by decide)
      have et : (nI t).toNatClampNeg = t := nI_clamp (by omega)
      have ht : ¬ (nI t < 0 ∨ 12 ≤ t) := by
        have := vp_in_nI (n := t) (N := 12) (by omega) (by decide)
        unfold vp_in at this
        rw [et] at this
        exact this
      have w := wnt_b (kd := kd) hLim t
      have sb := sh_b (kd := kd) (r := r) hLim hL.1 t
      have hwe : (mA x 14 (10 * t + kd)).toInt = wnt x kd t := rfl
      have hg := hgs t
      have eg : (nI (gs t)).toInt = shS x kd L.toInt r t := by rw [nI_toInt (by omega)]; exact hg
      have sdef : shS x kd L.toInt r t = min (wnt x kd t) L.toInt + if L.toInt < wnt x kd t ∧ 0 < rmS x kd L.toInt r t then 1 else 0 := rfl
      have rdef := rmS_s x kd L.toInt r t
      have ob := rm_is (x := x) (kd := kd) (L := L.toInt) hr t
      have cn := cW_nn (x := x) (kd := kd) L.toInt t
      have z0 : (0 : Int64).toInt = 0 := by decide
      have z1 : (1 : Int64).toInt = 1 := by decide
      have m0 : (0 : Int32).toInt = 0 := by decide
      have m1 : (1 : Int32).toInt = 1 := by decide
      have t32 : ∀ a : Int64, 0 ≤ a.toInt → a.toInt ≤ 1000000 → a.toInt32.toInt = a.toInt := fun a h0 h1 => by
        rw [Int64.toInt_toInt32]
        exact Int.bmod_eq_of_le (by omega) (by omega)
      have w64 : (mA x 14 (10 * t + kd)).toInt64.toInt = wnt x kd t := by rw [Int32.toInt_toInt64]; rfl
      obtain ⟨y2, ey2⟩ : ∃ q, q = sA y 41 (upd (mA y 41) t (nI (gs t))) := ⟨_, rfl⟩
      have rec1 : ∀ o2 : Int64, o2.toInt = rmS x kd L.toInt r (t + 1) → ∃ y', fX12_part_lp189 n (nI kd) L fuel o2 (nI (t + 1)) y2 = some y' ∧ Kr x y' ∧ ∀ i, i < nN x 13 → mA y' 41 i = nI (gs i) := fun o2 ho2 => shr_lp n o13 hLim hkd hL hr hr2 hgs (d - 1) (t + 1) fuel o2 y2 (by omega) (by omega) ho2 ⟨fun f => by rw [ey2]; exact hK.1 f, fun f hf => by rw [ey2, mA_sA, if_neg hf]; exact hK.2.1 f hf, fun f => by rw [ey2]; exact hK.2.2.1 f, fun f => by rw [ey2]; exact hK.2.2.2 f⟩ (fun i hi2 => by
          rw [ey2, mA_sA, if_pos rfl]
          by_cases e : i = t
          · rw [e, pk_us]
          · rw [pk_un e]; exact h41 i (by omega))
      simp only [bnd, e13, if_neg (nI_ge hlt (show nN x 13 < 2 ^ 31 by omega)), e1, e2, grd, if_pos e3, e14, et, if_pos ht, nI_inc1, lg_cmp_le, lg_cmp_ge]
      have em : (if L ≤ (mA x 14 (10 * t + kd)).toInt64 then L else (mA x 14 (10 * t + kd)).toInt64).toInt = min (wnt x kd t) L.toInt := by
        split
        · rename_i c; rw [Int64.le_iff_toInt_le, w64] at c; omega
        · rename_i c; rw [Int64.le_iff_toInt_le, w64] at c; rw [w64]; omega
      have s0 : ∀ v : Int64, v.toInt = min (wnt x kd t) L.toInt → shS x kd L.toInt r t = min (wnt x kd t) L.toInt → v.toInt32 + 0 = nI (gs t) := fun v hv hs => by
        apply Int32.toInt.inj
        rw [Int32.add_zero, t32 v (by omega) (by omega), eg, hv, hs]
      have s1 : ∀ v : Int64, v.toInt = min (wnt x kd t) L.toInt → shS x kd L.toInt r t = min (wnt x kd t) L.toInt + 1 → v.toInt32 + 1 = nI (gs t) := fun v hv hs => by
        have := t32 v (by omega) (by omega)
        apply Int32.toInt.inj
        rw [i32_add (by omega) (by omega), eg, hs, m1]
        omega
      by_cases c1 : (mA x 14 (10 * t + kd)).toInt64 ≤ L
      · have c1' := c1
        rw [Int64.le_iff_toInt_le, w64] at c1'
        rw [if_neg (fun z => by omega)] at sdef rdef
        have r1 := rec1 (rest - 0) (by rw [i64_sub (by omega) (by omega), ho, rdef]; omega)
        rw [if_pos c1]
        simp only [if_true]
        by_cases c2 : L ≤ (mA x 14 (10 * t + kd)).toInt64
        · rw [if_pos c2] at em ⊢
          rw [s0 L em (by omega), ← ey2]
          exact r1
        · rw [if_neg c2] at em ⊢
          rw [s0 _ em (by omega), ← ey2]
          exact r1
      · have c1' := c1
        rw [Int64.le_iff_toInt_le, w64] at c1'
        have c2 : L ≤ (mA x 14 (10 * t + kd)).toInt64 := by rw [Int64.le_iff_toInt_le, w64]; omega
        rw [if_neg c1]
        by_cases c3 : rest ≤ 0
        · have c3' := c3
          rw [Int64.le_iff_toInt_le, z0] at c3'
          rw [if_neg (fun z => by omega)] at sdef rdef
          have r1 := rec1 (rest - 0) (by rw [i64_sub (by omega) (by omega), ho, rdef]; omega)
          rw [if_pos c3]
          simp only [if_true]
          rw [if_pos c2] at em ⊢
          rw [s0 L em (by omega), ← ey2]
          exact r1
        · have c3' := c3
          rw [Int64.le_iff_toInt_le, z0] at c3'
          rw [if_pos ⟨by omega, by omega⟩] at sdef rdef
          have r1 := rec1 (rest - 1) (by rw [i64_sub (by omega) (by omega), ho, rdef]; omega)
          rw [if_neg c3]
          simp only [if_neg n10]
          rw [if_pos c2] at em ⊢
          rw [s1 L em (by omega), ← ey2]
          exact r1
