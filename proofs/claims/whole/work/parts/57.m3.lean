/-! PURE: rules asked, roads, loads -/
section M3
variable {ae k : Nat} {M : Nat → Nat → Nat} {x : MS} {S : CS}
theorem ev_isRule (n : Nat × Nat) (h : Rep ae k M x S) {r : Nat} (hr : r < nN x 25) (v kd : Int32) : fX6_isRule n S (M 13 0) (nI r) v kd = some (if mA x 26 r + 1 = v ∧ mA x 27 r = kd then 1 else 0) := by
  have hR := g_rRul h
  have z := hR.2.2.2.2.1 0 (by decide)
  have q := hR.2.2.2.2.2.2.2 r hr
  have h30 := (g_rOk h).2.2.2.2.2.1.2
  have er : (nI r).toNatClampNeg = r := nI_clamp (by omega)
  have e1 : isB (nI r) 0 29 = true := by
    simp only [isB, Bool.and_eq_true, decide_eq_true_eq]
    exact ⟨nI_le (a := 0) (Nat.zero_le _) (by omega), nI_le (b := 29) (by omega) (by decide)⟩
  have hv : ¬ (nI r < 0 ∨ 30 ≤ (nI r).toNatClampNeg) := vp_in_nI (by omega) (by decide)
  unfold fX6_isRule
  rw [er] at hv
  simp only [grd, bnd, onn, ev_within, e1, bI, if_true, z.1, z.2.1, z.2.2.1, z.2.2.2.2.2.1.1, z.2.2.2.2.2.1.2, z.2.2.2.2.2.2.1.1, z.2.2.2.2.2.2.1.2, er, q.1, q.2.1, if_pos hv]
  rw [if_neg (by decide)]
  by_cases c1 : mA x 26 r + 1 = v
  · by_cases c2 : mA x 27 r = kd
    · simp [c1, c2]
    · simp [c1, c2]
  · simp [c1]
theorem i32_inc (a b : Int32) : a + 1 = b + 1 ↔ a = b := by
  constructor
  · intro e
    have := congrArg (fun z => z - 1) e
    simpa using this
  · rintro rfl; rfl
theorem ev_need_lp (n : Nat × Nat) (h : Rep ae k M x S) (kd hd : Int32) : ∀ (d i fuel : Nat), i + d = nN x 25 → d < fuel → fX6_gramsNeeded_lp5 n S (M 13 0) kd hd fuel (needN x hd kd i) (nI i) = some (needN x hd kd (nN x 25))
  | d, i, 0, _, hf => absurd hf (Nat.not_lt_zero _)
  | d, i, fuel + 1, hi, hf => by
    have hR := g_rRul h
    have z := hR.2.2.2.2.1 0 (by decide)
    have o25 := (g_rOk h).2.2.2.2.2.1
    have h30 := o25.2
    have er : (nI i).toNatClampNeg = i := nI_clamp (by omega)
    unfold fX6_gramsNeeded_lp5
    simp only [grd, bnd, z.1, hR.2.2.2.2.2.2.1, o25.1, if_true]
    cases d with
    | zero =>
      rw [if_pos (nI_le (by omega) (by omega)), show i = nN x 25 by omega]
    | succ d =>
      have hlt : i < nN x 25 := by omega
      have q := hR.2.2.2.2.2.2.2 i hlt
      have hv : ¬ (nI i < 0 ∨ 30 ≤ (nI i).toNatClampNeg) := vp_in_nI (by omega) (by decide)
      rw [er] at hv
      rw [if_neg (nI_ge hlt (by omega))]
      simp only [cal, ev_isRule n h hlt]
      have ih := ev_need_lp n h kd hd d (i + 1) fuel (by omega) (by omega)
      rw [← nI_1] at ih
      have st : needN x hd kd (i + 1) = needN x hd kd i + if mA x 26 i = 0 ∧ mA x 27 i = kd ∧ ¬ hd ≤ mA x 29 i then mA x 28 i * hd else 0 := rfl
      by_cases c : mA x 26 i + 1 = 1 ∧ mA x 27 i = kd
      · have c0 : mA x 26 i = 0 := (i32_inc _ 0).mp c.1
        rw [if_pos c, if_neg (by decide)]
        simp only [onn, z.2.2.2.2.1, z.2.2.2.2.2.2.2.2.1, z.2.2.2.2.2.2.2.2.2, z.2.2.2.1, z.2.2.2.2.2.2.2.1.1, z.2.2.2.2.2.2.2.1.2, er, if_true, if_pos hv, q.2.2.1, q.2.2.2 c0]
        by_cases c2 : hd ≤ mA x 29 i
        · rw [if_pos c2]
          rw [st, if_neg (fun z => z.2.2 c2)] at ih
          simpa using ih
        · rw [if_neg c2]
          rw [st, if_pos ⟨c0, c.2, c2⟩] at ih
          exact ih
      · rw [if_neg c, if_pos rfl]
        rw [st, if_neg (fun z => c ⟨(i32_inc _ 0).mpr z.1, z.2.1⟩)] at ih
        simpa using ih
theorem ev_gramsNeeded (n : Nat × Nat) (hn : 30000 ≤ n.1) (h : Rep ae k M x S) (kd hd : Int32) : fX6_gramsNeeded n S (M 13 0) kd hd = some (needN x hd kd (nN x 25)) := by
  have := ev_need_lp n h kd hd (nN x 25) 0 n.1 (by omega) (by have := (g_rOk h).2.2.2.2.2.1.2; omega)
  simp only [fX6_gramsNeeded, bnd, cal]
  rw [show needN x hd kd 0 = 0 from rfl, nI_0] at this
  rw [this]
theorem ev_spare_lp (n : Nat × Nat) (h : Rep ae k M x S) (kd : Int32) : ∀ (d i fuel : Nat), i + d = nN x 25 → d < fuel → fX6_daysSpared_lp4 n S (M 13 0) kd fuel (spareN x kd i) (nI i) = some (spareN x kd (nN x 25))
  | d, i, 0, _, hf => absurd hf (Nat.not_lt_zero _)
  | d, i, fuel + 1, hi, hf => by
    have hR := g_rRul h
    have z := hR.2.2.2.2.1 0 (by decide)
    have o25 := (g_rOk h).2.2.2.2.2.1
    have h30 := o25.2
    have er : (nI i).toNatClampNeg = i := nI_clamp (by omega)
    unfold fX6_daysSpared_lp4
    simp only [grd, bnd, z.1, hR.2.2.2.2.2.2.1, o25.1, if_true]
    cases d with
    | zero =>
      rw [if_pos (nI_le (by omega) (by omega)), show i = nN x 25 by omega]
    | succ d =>
      have hlt : i < nN x 25 := by omega
      have q := hR.2.2.2.2.2.2.2 i hlt
      have hv : ¬ (nI i < 0 ∨ 30 ≤ (nI i).toNatClampNeg) := vp_in_nI (by omega) (by decide)
      rw [er] at hv
      rw [if_neg (nI_ge hlt (by omega))]
      simp only [cal, ev_isRule n h hlt]
      have ih := ev_spare_lp n h kd d (i + 1) fuel (by omega) (by omega)
      rw [← nI_1] at ih
      have st : spareN x kd (i + 1) = if mA x 26 i = 1 ∧ mA x 27 i = kd ∧ ¬ mA x 28 i ≤ spareN x kd i then mA x 28 i else spareN x kd i := rfl
      by_cases c : mA x 26 i + 1 = 2 ∧ mA x 27 i = kd
      · have c0 : mA x 26 i = 1 := (i32_inc _ 1).mp c.1
        rw [if_pos c, if_neg (by decide)]
        simp only [onn, z.2.2.2.1, z.2.2.2.2.2.2.2.1.1, z.2.2.2.2.2.2.2.1.2, er, if_true, if_pos hv, q.2.2.1]
        have e : (if spareN x kd i < mA x 28 i then mA x 28 i else spareN x kd i) = spareN x kd (i + 1) := by
          rw [st]
          by_cases c2 : mA x 28 i ≤ spareN x kd i
          · rw [if_neg (by rw [Int32.lt_iff_toInt_lt]; rw [Int32.le_iff_toInt_le] at c2; omega), if_neg (fun z => z.2.2 c2)]
          · rw [if_pos (by rw [Int32.lt_iff_toInt_lt]; rw [Int32.le_iff_toInt_le] at c2; omega), if_pos ⟨c0, c.2, c2⟩]
        rw [e]
        exact ih
      · rw [if_neg c, if_pos rfl]
        rw [st, if_neg (fun z => c ⟨(i32_inc _ 1).mpr z.1, z.2.1⟩)] at ih
        exact ih
theorem ev_daysSpared (n : Nat × Nat) (hn : 30000 ≤ n.1) (h : Rep ae k M x S) (kd : Int32) : fX6_daysSpared n S (M 13 0) kd = some (spareN x kd (nN x 25)) := by
  have := ev_spare_lp n h kd (nN x 25) 0 n.1 (by omega) (by have := (g_rOk h).2.2.2.2.2.1.2; omega)
  simp only [fX6_daysSpared, bnd, cal]
  rw [show spareN x kd 0 = 0 from rfl, nI_0] at this
  rw [this]
theorem st_need (n : Nat × Nat) (hn : 30000 ≤ n.1) (h : Rep ae k M x S) (a b : Int32) : fX11_need n S (M 0 0) a b = some (needF x a b) := by
  have hF := g_rFix h
  have hR := g_rRul h
  unfold fX11_need needF
  simp only [grd, bnd, cal, onn, hF.1, ev_findFamily n h, ev_kind, if_true]
  cases hb : ixB (mI x 16) a
  · simp [oel]
  · cases h2 : isB b 0 9
    · simp [oel, bI]
    · obtain ⟨j, hj, rfl⟩ := ixB_of (g_rOk h).2.2.2.1 hb (by decide)
      have hj2 : j < 2 ^ 31 := by have := (g_rOk h).2.2.2.1.2; omega
      have hf := g_rFam h j hj
      simp only [oel, bI, if_true, nI_clamp hj2, hf.1, hf.2.1, hR.2.2.1, (hR.2.2.2.2.1 0 (by decide)).1, ev_gramsNeeded n hn h, Bool.and_self]
      simp
theorem ev_loads_lp (n : Nat × Nat) {F : Nat → Int32} {m : Nat} (hF : rFix M S) (hL : listOk ae S 1 (M 0 5) m (M 2)) (hG : ∀ t, t < m → cI S 182 (M 2 t) = F t) (hm : m ≤ 12) : ∀ (d i fuel : Nat), i + d = m → d < fuel → fX11_loads_lp4 n S (M 0 0) fuel (nI (cntP F i)) (nI i) = some (nI (cntP F m))
  | d, i, 0, _, hf => absurd hf (Nat.not_lt_zero _)
  | d, i, fuel + 1, hi, hf => by
    unfold fX11_loads_lp4
    have kl : cD S (M 0 5) = 21 := hL.1
    simp only [grd, bnd, cal, onn, hF.1, hF.2.2.2.2.2.2.1, kl, ev_size n hL, if_true]
    cases d with
    | zero =>
      rw [if_pos (nI_le (by omega) (by omega)), show i = m by omega]
    | succ d =>
      have hlt : i < m := by omega
      have ke : cD S (M 2 i) = 9 := list_el hL hlt
      rw [if_neg (nI_ge hlt (by omega))]
      simp only [ev_get n hL hlt, ke, hG i hlt, if_true]
      have ih := ev_loads_lp n hF hL hG hm d (i + 1) fuel (by omega) (by omega)
      rw [← nI_1] at ih
      have st : cntP F (i + 1) = if F i ≤ 0 then cntP F i else cntP F i + 1 := rfl
      by_cases c : F i ≤ 0
      · rw [if_pos c]
        rw [st, if_pos c] at ih
        exact ih
      · rw [if_neg c]
        rw [st, if_neg c, ← nI_1] at ih
        exact ih
theorem ev_loads (n : Nat × Nat) (hn : 30000 ≤ n.1) {F : Nat → Int32} {m : Nat} (hF : rFix M S) (hL : listOk ae S 1 (M 0 5) m (M 2)) (hG : ∀ t, t < m → cI S 182 (M 2 t) = F t) (hm : m ≤ 12) : fX11_loads n S (M 0 0) = some (nI (cntP F m)) := by
  have := ev_loads_lp n hF hL hG hm m 0 n.1 (by omega) (by omega)
  simp only [fX11_loads, bnd, cal]
  rw [show cntP F 0 = 0 from rfl, nI_0] at this
  rw [this]

theorem cntP_up {F : Nat → Int32} {t : Nat} {g : Int32} (m : Nat) (h : t < m) : (cntP (upd F t g) m : Int) = cntP F m + ((if g ≤ 0 then 0 else 1) - (if F t ≤ 0 then 0 else 1) : Int) := by
  induction m with
  | zero => exact absurd h (Nat.not_lt_zero _)
  | succ m ih =>
    have s1 := cntP_s (upd F t g) m
    have s2 := cntP_s F m
    by_cases e : t = m
    · subst e
      rw [s1, s2, pk_us, cntP_far F t g t (Nat.le_refl _)]
      by_cases c1 : g ≤ 0
      · by_cases c2 : F t ≤ 0
        · rw [if_pos c1, if_pos c2, if_pos c1, if_pos c2]; omega
        · rw [if_pos c1, if_neg c2, if_pos c1, if_neg c2]; omega
      · by_cases c2 : F t ≤ 0
        · rw [if_neg c1, if_pos c2, if_neg c1, if_pos c2]; omega
        · rw [if_neg c1, if_neg c2, if_neg c1, if_neg c2]; omega
    · have ih := ih (by omega)
      rw [s1, s2, pk_un (by omega)]
      by_cases c2 : F m ≤ 0
      · rw [if_pos c2, if_pos c2]; exact ih
      · rw [if_neg c2, if_neg c2]
        rw [Int.natCast_add, Int.natCast_add, ih]
        omega
theorem load_is {x : MS} {t : Nat} {g : Int32} {m : Nat} (ht : t < m) (h12 : m ≤ 12) (he : mI x 44 = nI (cntP (mA x 43) m)) : mI (loadX x (nI t) g) 44 = nI (cntP (upd (mA x 43) t g) m) := by
  have et : (nI t).toNatClampNeg = t := nI_clamp (by omega)
  show upd x.1 44 (mI x 44 + ((if g ≤ 0 then 0 else 1) - (if mA x 43 (nI t).toNatClampNeg ≤ 0 then 0 else 1))) 44 = _
  rw [show ∀ v, upd x.1 44 v 44 = v from fun v => if_pos rfl, et, he]
  have c := cntP_up (F := mA x 43) (t := t) (g := g) m ht
  obtain ⟨a, ea⟩ : ∃ a, a = cntP (mA x 43) m := ⟨_, rfl⟩
  obtain ⟨b, eb⟩ : ∃ b, b = cntP (upd (mA x 43) t g) m := ⟨_, rfl⟩
  rw [← ea, ← eb] at c ⊢
  by_cases c1 : g ≤ 0 <;> by_cases c2 : mA x 43 t ≤ 0 <;> simp only [c1, c2, if_true, if_false] at c ⊢
  · rw [show b = a by omega]; simp
  · rw [show a = b + 1 by omega, ← nI_1]; simp [Int32.add_assoc]
  · rw [show b = a + 1 by omega, ← nI_1]; simp
  · rw [show b = a by omega]; simp
theorem load_rep (h : Rep ae k M x S) {t : Nat} (ht : t < nN x 13) {g : Int32} (hg : 0 ≤ g ∧ g ≤ 1000000) (h8 : cntP (upd (mA x 43) t g) (nN x 13) ≤ 8) : Rep ae k M (loadX x (nI t) g) (uI S 182 (M 2 t) g) := by
  have h12 := (g_rOk h).2.2.1.2
  have et : (nI t).toNatClampNeg = t := nI_clamp (by omega)
  have e44 := load_is (x := x) (g := g) ht h12 (g_rLoa h).2.2.2.1
  have e43 : mA (loadX x (nI t) g) 43 = upd (mA x 43) t g := by
    show upd (mA x 43) (nI t).toNatClampNeg g = _
    rw [et]
  have e13 : nN (loadX x (nI t) g) 13 = nN x 13 := rfl
  obtain ⟨hB, hOk, hLim, hNew, hSum, hWho, hFix, hNum, hSta, hCon, hLotL, hLot, hCha, hWei, hTabL, hTab, hWan, hGot, hLoa, hFamL, hFam, hHad, hRef, hParL, hPar, hTap, hRul, hVan, hRoa, hSto⟩ := h
  have hk := keep_uI S 182 (M 2 t) g
  exact ⟨hB,
    k_rOk rfl rfl rfl rfl rfl rfl rfl rfl rfl rfl rfl rfl rfl rfl hOk,
    k_rLim rfl rfl rfl rfl rfl rfl rfl rfl rfl rfl rfl rfl rfl rfl rfl rfl hLim,
    k_rNew rfl rfl rfl rfl rfl hNew,
    k_rSum rfl rfl rfl rfl rfl rfl rfl hSum,
    k_rWho rfl rfl rfl rfl rfl rfl rfl rfl rfl rfl rfl hWho,
    k_rFix hk rfl hFix,
    k_rNum hk rfl rfl rfl rfl hNum,
    k_rSta hk rfl rfl hSta,
    k_rCon hk rfl rfl hCon,
    k_rLotL hk rfl rfl rfl rfl hLotL,
    k_rLot hk rfl rfl rfl rfl rfl rfl rfl rfl rfl rfl hLot,
    k_rCha hk rfl rfl rfl rfl rfl hCha,
    k_rWei hk rfl rfl rfl rfl rfl rfl rfl hWei,
    k_rTabL hk rfl rfl rfl rfl hTabL,
    k_rTab hk rfl rfl hTab,
    k_rWan hk rfl rfl rfl hWan,
    k_rGot hk rfl rfl rfl hGot,
    ⟨fun q hq => ⟨(hLoa.1 q hq).1, by
      rw [cI_uI, set1_s, e43]
      by_cases e : q = t
      · subst e; rw [set1_s, pk_us]
      · rw [set1_n _ _ (fun z => e (hTabL.2.1 q t hq ht z)), pk_un e]
        exact (hLoa.1 q hq).2⟩, fun j hj => by
      rw [e43]
      have hj : nN x 13 ≤ j := hj
      rw [pk_un (by omega)]
      exact hLoa.2.1 j hj, fun j => by
      rw [e43]
      by_cases e : j = t
      · rw [e, pk_us]; exact hg
      · rw [pk_un e]; exact hLoa.2.2.1 j, by rw [e44, e43, e13], by rw [e43, e13]; exact h8⟩,
    k_rFamL hk rfl rfl rfl rfl hFamL,
    k_rFam hk rfl rfl rfl rfl rfl hFam,
    k_rHad hk rfl rfl rfl rfl rfl rfl rfl rfl hHad,
    k_rRef hk rfl rfl rfl rfl rfl rfl rfl rfl hRef,
    k_rParL hk rfl rfl rfl rfl hParL,
    k_rPar hk rfl rfl rfl rfl rfl rfl rfl rfl rfl rfl rfl hPar,
    k_rTap hk rfl rfl rfl rfl rfl hTap,
    k_rRul hk rfl rfl rfl rfl rfl rfl rfl rfl hRul,
    k_rVan hk rfl hVan,
    k_rRoa hk rfl rfl rfl hRoa,
    k_rSto hk rfl rfl rfl rfl hSto⟩
theorem st_load (n : Nat × Nat) (hn : 30000 ≤ n.1) (h : Rep ae k M x S) (a b : Int32) : ∃ T, fX11_load n S (M 0 0) a b = some ((loadF x a b).1, T) ∧ Rep ae (k + 1) M (loadF x a b).2 T := by
  have hF := g_rFix h
  cases h2 : isB b 0 1000000
  · exact ⟨uI S 251 (M 0 0) (-1), by simp [fX11_load, loadF, grd, bnd, cal, un2, ev_within, h2, bI, hF.1, ev_refuse _ hF.1], by simp only [loadF, h2]; exact rep_no (by decide) h⟩
  · cases h3 : ixB (mI x 13) a
    · exact ⟨uI S 251 (M 0 0) (-2), by simp [fX11_load, loadF, grd, bnd, cal, un2, oel, ev_within, ev_findTable n h, h2, h3, bI, hF.1, ev_refuse _ hF.1], by simp only [loadF, h2, h3, if_true]; exact rep_no (by decide) h⟩
    · obtain ⟨t, ht, rfl⟩ := ixB_of (g_rOk h).2.2.1 h3 (by decide)
      have h12 := (g_rOk h).2.2.1.2
      have et : (nI t).toNatClampNeg = t := nI_clamp (by omega)
      have hT := g_rTab h t ht
      have hLo := g_rLoa h
      have hl := (hLo.1 t ht).2
      have hL := (g_rTabL h).1
      have e44 := load_is (x := x) (g := b) ht h12 hLo.2.2.2.1
      have hg0 : 0 ≤ b ∧ b ≤ 1000000 := by
        simp only [isB, Bool.and_eq_true, decide_eq_true_eq] at h2
        exact h2
      have cu := cntP_up (F := mA x 43) (t := t) (g := b) (nN x 13) ht
      have hk := keep_uI S 182 (M 2 t) b
      have ev1 : fX11_loads n S (M 0 0) = some (nI (cntP (mA x 43) (nN x 13))) := ev_loads n hn hF hL (fun q hq => (hLo.1 q hq).2) h12
      have ev2 : fX11_loads n (uI S 182 (M 2 t) b) (M 0 0) = some (nI (cntP (upd (mA x 43) t b) (nN x 13))) := ev_loads n hn (k_rFix hk rfl hF) (keep_list hk hL (by decide) (by decide) (by decide)) (fun q hq => by
        rw [cI_uI, set1_s]
        by_cases e : q = t
        · subst e; rw [set1_s, pk_us]
        · rw [set1_n _ _ (fun z => e ((g_rTabL h).2.1 q t hq ht z)), pk_un e]
          exact (hLo.1 q hq).2) h12
      have fin : cntP (upd (mA x 43) t b) (nN x 13) ≤ 8 → ∃ T, cal (fX11_accept n (uI S 182 (M 2 t) b) (M 0 0) (nI (cntP (upd (mA x 43) t b) (nN x 13)))) (un2 fun r70 S70 => some (r70, S70)) = some ((mI (loadX x (nI t) b) 44, T)) ∧ Rep ae (k + 1) M (toldF (loadX x (nI t) b) (mI (loadX x (nI t) b) 44)) T := fun h8 => by
        refine ⟨uI (uI S 182 (M 2 t) b) 251 (M 0 0) 0, ?_, rep_yes (by rw [e44]; exact nI_le (a := 0) (Nat.zero_le _) (by omega)) (load_rep h ht hg0 h8)⟩
        rw [ev_accept _ (show cD (uI S 182 (M 2 t) b) (M 0 0) = 12 from hF.1), e44]
        rfl
      unfold fX11_load loadF
      simp only [grd, bnd, ev_within, h2, h3, bI, hF.1, ev_findTable n h, et, hT.1, hl, if_true]
      rw [if_neg (by decide)]
      simp only [cal, oel, hT.1, hl, if_true]
      by_cases c1 : b ≤ 0
      · rw [if_pos c1, if_neg (fun z => z.1 c1), ev2]
        refine fin ?_
        rw [if_pos c1] at cu
        have := hLo.2.2.2.2
        split at cu <;> omega
      · rw [if_neg c1]
        by_cases c2 : mA x 43 t = 0
        · rw [if_pos c2, ev1]
          dsimp only
          have e8 : (mI x 44 = 8) ↔ cntP (mA x 43) (nN x 13) = 8 := by
            rw [hLo.2.2.2.1]
            exact nI_eq (b := 8) (by have := hLo.2.2.2.2; omega) (by decide)
          by_cases c3 : cntP (mA x 43) (nN x 13) = 8
          · rw [if_neg (show ¬ nI (cntP (mA x 43) (nN x 13)) < 8 by rw [c3]; decide), if_pos ⟨c1, c2, e8.mpr c3⟩]
            refine ⟨uI S 251 (M 0 0) (-5), ?_, rep_no (by decide) h⟩
            rw [ev_refuse _ hF.1]
            rfl
          · have h8 := hLo.2.2.2.2
            rw [if_pos (show nI (cntP (mA x 43) (nN x 13)) < 8 from nI_lt (b := 8) (by omega) (by decide)), if_neg (fun z => c3 (e8.mp z.2.2)), ev2]
            refine fin ?_
            rw [if_neg c1] at cu
            split at cu <;> omega
        · rw [if_neg c2, if_neg (fun z => c2 z.2.1), ev2]
          refine fin ?_
          have h8 := hLo.2.2.2.2
          have hp := (hLo.2.2.1 t).1
          rw [if_neg c1, if_neg (show ¬ mA x 43 t ≤ 0 from fun z => c2 (Int32.le_antisymm z hp))] at cu
          omega
end M3
