/-! PURE: days go by: the loop -/
section M11
variable {ae k : Nat} {M : Nat → Nat → Nat} {x : MS} {S : CS}
def spI (M : Nat → Nat → Nat) (x : MS) (S : CS) (t : Int32) (i : Nat) (T : CS) : Prop := keep S T [248, 65, 68] [] [] [] ∧ frsh T ∧ cI T 248 (M 0 0) = t ∧ ∀ q, q < nN x 4 → cI T 65 (M 1 q) = (if q < i ∧ ¬ t ≤ mA x 7 q then 0 else mA x 9 q) ∧ cI T 68 (M 1 q) = (if q < i ∧ ¬ t ≤ mA x 7 q then mA x 12 q + mA x 9 q else mA x 12 q)
theorem sp_step {t : Int32} (h : Rep ae k M x S) {i : Nat} (hi : i < nN x 4) {T : CS} (hT : spI M x S t i T) (c : ¬ t ≤ mA x 7 i) : spI M x S t (i + 1) (uI (uI T 65 (M 1 i) 0) 68 (M 1 i) (mA x 12 i + mA x 9 i)) := by
  obtain ⟨hk, hf, h248, hL⟩ := hT
  refine ⟨kpre (keep_tr hk (keep_tr (keep_uI T 65 (M 1 i) 0) (keep_uI _ 68 (M 1 i) (mA x 12 i + mA x 9 i)))) (by simp) (by simp) (by simp) (by simp), hf, ?_, fun q hq => ?_⟩
  · rw [cI_uI, set1_n _ _ (by decide), cI_uI, set1_n _ _ (by decide)]; exact h248
  · have e65 : cI (uI (uI T 65 (M 1 i) 0) 68 (M 1 i) (mA x 12 i + mA x 9 i)) 65 (M 1 q) = if q = i then 0 else cI T 65 (M 1 q) := by
      rw [cI_uI, set1_n _ _ (by decide), cI_uI, set1_s]
      by_cases e : q = i
      · rw [e, set1_s, if_pos rfl]
      · rw [set1_n _ _ (fun z => e ((g_rLotL h).2 q i hq hi z)), if_neg e]
    have e68 : cI (uI (uI T 65 (M 1 i) 0) 68 (M 1 i) (mA x 12 i + mA x 9 i)) 68 (M 1 q) = if q = i then mA x 12 i + mA x 9 i else cI T 68 (M 1 q) := by
      rw [cI_uI, set1_s]
      by_cases e : q = i
      · rw [e, set1_s, if_pos rfl]
      · rw [set1_n _ _ (fun z => e ((g_rLotL h).2 q i hq hi z)), cI_uI, set1_n _ _ (by decide), if_neg e]
    rw [e65, e68]
    by_cases e : q = i
    · subst e
      rw [if_pos rfl, if_pos rfl, if_pos ⟨by omega, c⟩, if_pos ⟨by omega, c⟩]
      exact ⟨rfl, rfl⟩
    · rw [if_neg e, if_neg e, (hL q hq).1, (hL q hq).2]
      by_cases c1 : q < i ∧ ¬ t ≤ mA x 7 q
      · rw [if_pos c1, if_pos c1, if_pos ⟨by omega, c1.2⟩, if_pos ⟨by omega, c1.2⟩]; exact ⟨rfl, rfl⟩
      · rw [if_neg c1, if_neg c1, if_neg (fun z => c1 ⟨by omega, z.2⟩), if_neg (fun z => c1 ⟨by omega, z.2⟩)]; exact ⟨rfl, rfl⟩
theorem sp_skip {t : Int32} {i : Nat} {T : CS} (hT : spI M x S t i T) (c : t ≤ mA x 7 i) : spI M x S t (i + 1) T := by
  obtain ⟨hk, hf, h248, hL⟩ := hT
  refine ⟨hk, hf, h248, fun q hq => ?_⟩
  rw [(hL q hq).1, (hL q hq).2]
  by_cases c1 : q < i ∧ ¬ t ≤ mA x 7 q
  · rw [if_pos c1, if_pos c1, if_pos ⟨by omega, c1.2⟩, if_pos ⟨by omega, c1.2⟩]; exact ⟨rfl, rfl⟩
  · have : ¬ (q < i + 1 ∧ ¬ t ≤ mA x 7 q) := fun z => by
      rcases Nat.lt_or_ge q i with e | e
      · exact c1 ⟨e, z.2⟩
      · have : q = i := by omega
        subst this
        exact z.2 c
    rw [if_neg c1, if_neg c1, if_neg this, if_neg this]; exact ⟨rfl, rfl⟩
theorem sp_lp (n : Nat × Nat) (h : Rep ae k M x S) (t : Int32) : ∀ (d i fuel : Nat) (S1 : CS), spI M x S t i S1 → i + d = nN x 4 → d < fuel → ∃ T, fX7_spoilBefore_lp2 n (M 0 2) t fuel (nI i) S1 = some T ∧ spI M x S t (nN x 4) T
  | d, i, 0, _, _, _, hf => absurd hf (Nat.not_lt_zero _)
  | d, i, fuel + 1, S1, hS, hi, hf => by
    have hO := (g_rOk h).2.1
    have h200 := hO.2
    have hk := hS.1
    have hL := keep_list hk (g_rLotL h).1 (by decide) (by decide) (by decide)
    have hF := k_rFix hk (by decide) (g_rFix h)
    have kl : cD S1 (M 0 3) = 20 := hL.1
    cases d with
    | zero =>
      refine ⟨S1, ?_, by rw [show nN x 4 = i by omega]; exact hS⟩
      unfold fX7_spoilBefore_lp2
      simp only [grd, bnd, cal, onn, hF.2.1, hF.2.2.2.2.2.2.2.2.2.2.2.1, kl, ev_size n hL, if_true]
      rw [if_pos (nI_le (by omega) (by omega))]
    | succ d =>
      have hlt : i < nN x 4 := by omega
      have hl := g_rLot h i hlt
      have kd : cD S1 (M 1 i) = 3 := kD hk hl.1 (by decide)
      have k63 : cI S1 63 (M 1 i) = mA x 7 i := kI hk hl.1 (by decide) (by decide) hl.2.2.2.2.1
      have k65 := (hS.2.2.2 i hlt).1
      have k68 := (hS.2.2.2 i hlt).2
      rw [if_neg (by omega)] at k65 k68
      unfold fX7_spoilBefore_lp2
      simp only [grd, bnd, cal, onn, hF.2.1, hF.2.2.2.2.2.2.2.2.2.2.2.1, kl, ev_size n hL, if_true, ev_get n hL hlt, kd, k63, k65, k68]
      rw [if_neg (nI_ge hlt (by omega))]
      by_cases c : t ≤ mA x 7 i
      · rw [if_pos c, nI_1]
        exact sp_lp n h t d (i + 1) fuel S1 (sp_skip hS c) (by omega) (by omega)
      · rw [if_neg c]
        have el : fX2_lose n S1 (M 1 i) (mA x 9 i) = some (mA x 9 i, uI S1 65 (M 1 i) 0) := by
          simp only [fX2_lose, grd, bnd, kd, k65, if_true, ite_self, Int32.sub_self]
        have kd2 : cD (uI S1 65 (M 1 i) 0) (M 1 i) = 3 := kd
        simp only [el, un2, kd2, if_true]
        rw [nI_1]
        exact sp_lp n h t d (i + 1) fuel _ (sp_step h hlt hS c) (by omega) (by omega)
theorem st_go (n : Nat × Nat) (hn : 30000 ≤ n.1) (h : Rep ae k M x S) (a : Int32) : ∃ T, fX11_go n S (M 0 0) a = some ((goF x a).1, T) ∧ Rep ae (k + 1) M (goF x a).2 T := by
  have hF := g_rFix h
  have hNm := g_rNum h
  cases h1 : isB a 1 60
  · exact ⟨uI S 251 (M 0 0) (-1), by simp [fX11_go, goF, grd, bnd, cal, un2, ev_within, h1, bI, hF.1, ev_refuse _ hF.1], by simp only [goF, h1, Bool.false_and]; exact rep_no (by decide) h⟩
  by_cases c : mI x 2 + a ≤ 500
  · obtain ⟨t, et⟩ : ∃ t, t = mI x 2 + a := ⟨_, rfl⟩
    have h2 := (g_rOk h).2.2.2.2.2.2.2.2.2.1
    have ht5 : isB t 0 500 = true := by
      rw [et]
      simp only [isB, Bool.and_eq_true, decide_eq_true_eq, Int32.le_iff_toInt_le] at h1 h2 c ⊢
      have z0 : (0 : Int32).toInt = 0 := by decide
      have z1 : (1 : Int32).toInt = 1 := by decide
      have z6 : (60 : Int32).toInt = 60 := by decide
      have z5 : (500 : Int32).toInt = 500 := by decide
      rw [i32_add (by omega) (by omega)] at c ⊢
      omega
    have ht0 : 0 ≤ t := by
      simp only [isB, Bool.and_eq_true, decide_eq_true_eq] at ht5
      exact ht5.1
    have hS : spI M x S t 0 (uI S 248 (M 0 0) t) := ⟨kpre (keep_uI S 248 (M 0 0) t) (by simp) (by simp) (by simp) (by simp), (g_rBase h).1, by rw [cI_uI, set1_s, set1_s], fun q hq => by
      have l := g_rLot h q hq
      rw [if_neg (by omega), if_neg (by omega), cI_uI, set1_n _ _ (by decide), set1_n _ _ (by decide)]
      exact ⟨l.2.2.2.2.2.2.1, l.2.2.2.2.2.2.2.2.2⟩⟩
    obtain ⟨T, eT, hT⟩ := sp_lp n h t (nN x 4) 0 n.1 _ hS (by omega) (by have := (g_rOk h).2.1.2; omega)
    rw [nI_0] at eT
    have dT : cD T (M 0 0) = 12 := kD hT.1 hF.1 (by decide)
    have d8 : cD (uI S 248 (M 0 0) t) (M 0 2) = 8 := hF.2.1
    have r1 : cR (uI S 248 (M 0 0) t) 241 (M 0 0) = some (M 0 2) := hF.2.2.2.2.2.1
    have i8 : cI (uI S 248 (M 0 0) t) 248 (M 0 0) = t := hS.2.2.1
    refine ⟨uI T 251 (M 0 0) 0, ?_, ?_⟩
    · simp only [fX11_go, goF, grd, onn, cal, bnd, un2, ev_within, h1, bI, hF.1, hNm.2.1, if_true, if_neg n10, ← et, if_pos (et ▸ c), d8, r1, i8, fX7_spoilBefore, eT, dT, hT.2.2.1, ev_accept _ dT, decide_eq_true (et ▸ c), Bool.and_self]
    · simp only [goF, h1, ← et, decide_eq_true (et ▸ c), Bool.and_self, if_true]
      exact rep_yes ht0 (go_rep h ht5 hT.1 hT.2.1 hT.2.2.1 hT.2.2.2)
  · refine ⟨uI S 251 (M 0 0) (-1), ?_, ?_⟩
    · simp only [fX11_go, goF, grd, onn, cal, bnd, un2, ev_within, h1, bI, hF.1, hNm.2.1, if_true, if_neg n10, if_neg c, ev_refuse _ hF.1, decide_eq_false c, Bool.and_false]
      rfl
    · simp only [goF, h1, decide_eq_false c, Bool.and_false]
      exact rep_no (by decide) h
end M11
