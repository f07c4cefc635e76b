/-! PURE: a list grows by one -/
theorem gM_S (r : Nat) : gM r ≠ gS r := by unfold gM gS; omega
theorem elk0 (r : Nat) : elk r ≠ 0 := by unfold elk; split <;> decide
/-- from a world S1 whose list's array b has a free place k: the element is laid there -/
theorem adT_ok {ae : Nat} {S : CS} {r a k b v : Nat} {f : Nat → Nat} (hk : k < 20000) (h1 : cD S a = 20 + r) (h4 : cR S (gE r) a = some b) (q0 : b ≠ ae) (q1 : cD S b = 30 + r) (q2 : k < cN S b) (q3 : 10 ≤ cN S b) (q4 : cN S b ≤ 30000) (q5 : ∀ i, i < k → cQ S (30 + r) b i = some (f i)) (q6 : ∀ i, k ≤ i → cQ S (30 + r) b i = none) (h6 : ∀ i, i < k → cD S (f i) = elk r) (hv : cD S v = elk r) : listOk ae (adT S r a b v (nI k)) r a (k + 1) (fun i => if i = k then v else f i) := by
  have ek : (nI k).toNatClampNeg = k := nI_clamp (by omega)
  have eQ : cQ (adT S r a b v (nI k)) (30 + r) b = va_up (cQ S (30 + r) b) k (some v) := by
    show set1 (cQ S) (30 + r) (set1 (cQ S (30 + r)) b (va_up (cQ S (30 + r) b) (nI k).toNatClampNeg (some v))) (30 + r) b = _
    rw [set1_s, set1_s, ek]
  refine ⟨h1, ?_, by omega, b, h4, Or.inr ⟨q0, q1, by show k + 1 ≤ cN S b; omega, q3, q4, fun i hi => ?_, fun i hi => ?_⟩, fun i hi => ?_⟩
  · show set1 (cI S) (gS r) (set1 (cI S (gS r)) a (nI k + 1)) (gS r) a = _
    rw [set1_s, set1_s, nI_1]
  · rw [eQ]
    by_cases e : i = k
    · simp [va_up, e]
    · simp only [va_up, e, if_false]
      exact q5 i (by omega)
  · rw [eQ]
    simp only [va_up, show i ≠ k by omega, if_false]
    exact q6 i (by omega)
  · show cD S (if i = k then v else f i) = elk r
    by_cases e : i = k
    · rw [if_pos e]; exact hv
    · rw [if_neg e]; exact h6 i (by omega)
/-- what an add does beside its list: nothing -/
def addOff (S T : CS) (r a : Nat) : Prop := (∀ g q, cD S q ≠ 0 → q ≠ a → cI T g q = cI S g q ∧ cR T g q = cR S g q) ∧ (∀ g q, cD S q ≠ 0 → cR S (gE r) a ≠ some q → cQ T g q = cQ S g q) ∧ ∀ b, cR T (gE r) a = some b → cR S (gE r) a = some b ∨ nx S ≤ b
theorem kpre {U V : CS} {A B C E A' B' C' E' : List Nat} (hk : keep U V A B C E) (a1 : ∀ g ∈ A, g ∈ A') (a2 : ∀ g ∈ B, g ∈ B') (a3 : ∀ g ∈ C, g ∈ C') (a4 : ∀ g ∈ E, g ∈ E') : keep U V A' B' C' E' := ⟨hk.1, fun g hg => hk.2.1 g (fun z => hg (a1 g z)), fun g hg => hk.2.2.1 g (fun z => hg (a2 g z)), fun g hg => hk.2.2.2.1 g (fun z => hg (a3 g z)), fun g hg => hk.2.2.2.2 g (fun z => hg (a4 g z))⟩
theorem keepAdd (U : CS) (r a b' v : Nat) (z : Int32) : keep U (adT U r a b' v z) [gS r] [] [] [30 + r] := by
  have := keep_tr (keep_uQ U (30 + r) b' z.toNatClampNeg (some v)) (keep_uI (uQ U (30 + r) b' z.toNatClampNeg (some v)) (gS r) a (z + 1))
  exact this
/-- the list gets a new array (at nx S) that holds what it held -/
theorem adG {ae : Nat} {S S2 : CS} {r a k v N : Nat} {f : Nat → Nat} (hf : frsh S) (hax : ae < nx S) (h1 : cD S a = 20 + r) (h6 : ∀ i, i < k → cD S (f i) = elk r) (hv : cD S v = elk r) (hk : k < 20000) (hx2 : nx S2 = nx S + 1) (hd2 : ∀ q, cD S2 q = if q = nx S then 30 + r else cD S q) (hN2 : cN S2 (nx S) = N) (hkN : k < N) (hN : 10 ≤ N ∧ N ≤ 30000) (hi2 : ∀ g q, q ≠ nx S → q ≠ a → cI S2 g q = cI S g q) (hr2 : ∀ g q, q ≠ nx S → cR S2 g q = cR S g q) (hq2 : ∀ g q, q ≠ nx S → cQ S2 g q = cQ S g q) (q5 : ∀ i, i < k → cQ S2 (30 + r) (nx S) i = some (f i)) (q6 : ∀ i, k ≤ i → cQ S2 (30 + r) (nx S) i = none) (kk : keep S S2 [gM r] [] [] []) :
    listOk ae (adT (uR S2 (gE r) a (some (nx S))) r a (nx S) v (nI k)) r a (k + 1) (fun i => if i = k then v else f i) ∧ keep S (adT (uR S2 (gE r) a (some (nx S))) r a (nx S) v (nI k)) [gM r, gS r] [gE r] [] [30 + r] ∧ frsh (adT (uR S2 (gE r) a (some (nx S))) r a (nx S) v (nI k)) ∧ addOff S (adT (uR S2 (gE r) a (some (nx S))) r a (nx S) v (nI k)) r a := by
  have ha0 : cD S a ≠ 0 := by omega
  have fx : ∀ q, cD S q ≠ 0 → q ≠ nx S := fun q hq z => hq (z ▸ hf (nx S) (Nat.le_refl _))
  have han := fx a ha0
  have hvn := fx v (by rw [hv]; exact elk0 r)
  obtain ⟨S3, eS3⟩ : ∃ z, z = uR S2 (gE r) a (some (nx S)) := ⟨_, rfl⟩
  rw [← eS3]
  have c3 : ∀ q, cD S3 q = if q = nx S then 30 + r else cD S q := fun q => by rw [eS3]; exact hd2 q
  have m3 : cN S3 (nx S) = N := by rw [eS3]; exact hN2
  have p3 : cR S3 (gE r) a = some (nx S) := by
    rw [eS3, cR_uR, set1_s, set1_s]
  have w3 : ∀ g q, cQ S3 g q = cQ S2 g q := fun g q => by rw [eS3]; rfl
  have i3 : ∀ g q, cI S3 g q = cI S2 g q := fun g q => by rw [eS3]; rfl
  have x3 : nx S3 = nx S + 1 := by rw [eS3]; exact hx2
  have kS3 : keep S2 S3 [] [gE r] [] [] := by rw [eS3]; exact keep_uR S2 _ _ _
  have fr : ∀ i, i < k → f i ≠ nx S := fun i hi => fx _ (by rw [h6 i hi]; exact elk0 r)
  refine ⟨adT_ok hk (by rw [c3, if_neg han]; exact h1) p3 (by omega) (by rw [c3, if_pos rfl]) (by omega) (by omega) (by omega) (fun i hi => by rw [w3]; exact q5 i hi) (fun i hi => by rw [w3]; exact q6 i hi) (fun i hi => by rw [c3, if_neg (fr i hi)]; exact h6 i hi) (by rw [c3, if_neg hvn]; exact hv), kpre (keep_tr (keep_tr kk kS3) (keepAdd S3 r a (nx S) v (nI k))) (by simp) (by simp) (by simp) (by simp), fun q hq => ?_, ⟨fun g q hq hqa => ?_, fun g q hq hqb => ?_, fun b' hb' => ?_⟩⟩
  · have hq : nx S3 ≤ q := hq
    show cD S3 q = 0
    rw [c3, if_neg (by omega)]
    exact hf q (by omega)
  · have hqn := fx q hq
    constructor
    · show set1 (cI S3) (gS r) (set1 (cI S3 (gS r)) a (nI k + 1)) g q = _
      have e3 : cI S3 g q = cI S g q := (i3 g q).trans (hi2 g q hqn hqa)
      by_cases e : g = gS r
      · rw [e, set1_s, set1_n _ _ hqa, ← e]; exact e3
      · rw [set1_n _ _ e]; exact e3
    · show cR S3 g q = _
      rw [eS3, cR_uR]
      by_cases e : g = gE r
      · rw [e, set1_s, set1_n _ _ hqa]; exact hr2 _ q hqn
      · rw [set1_n _ _ e]; exact hr2 g q hqn
  · have hqn := fx q hq
    show set1 (cQ S3) (30 + r) (set1 (cQ S3 (30 + r)) (nx S) (va_up (cQ S3 (30 + r) (nx S)) (nI k).toNatClampNeg (some v))) g q = _
    by_cases e : g = 30 + r
    · rw [e, set1_s, set1_n _ _ hqn, w3]; exact hq2 _ q hqn
    · rw [set1_n _ _ e, w3]; exact hq2 g q hqn
  · have : cR (adT S3 r a (nx S) v (nI k)) (gE r) a = some (nx S) := p3
    rw [this] at hb'
    exact Or.inr (by have := Option.some.inj hb'; omega)
/-- how many places a list has -/
def capL (ae : Nat) (S : CS) (r a : Nat) : Nat := match cR S (gE r) a with | some b => if b = ae then 0 else cN S b | none => 0
theorem cap_is {ae : Nat} {S : CS} {r a b : Nat} (h : cR S (gE r) a = some b) : capL ae S r a = if b = ae then 0 else cN S b := by unfold capL; rw [h]
theorem cap_grow {ae : Nat} {S2 : CS} {r a b v N : Nat} {z : Int32} (hb : b ≠ ae) (hN : cN S2 b = N) : capL ae (adT (uR S2 (gE r) a (some b)) r a b v z) r a = N := by
  have e : cR (adT (uR S2 (gE r) a (some b)) r a b v z) (gE r) a = some b := by
    show set1 (cR S2) (gE r) (set1 (cR S2 (gE r)) a (some b)) (gE r) a = _
    rw [set1_s, set1_s]
  rw [cap_is e, if_neg hb]
  exact hN
theorem ev_add {ae : Nat} {S : CS} {r a k v : Nat} {f : Nat → Nat} (n : Nat × Nat) (hn : n.2 = ae) (hf : frsh S) (hae : cD S ae = 0) (hax : ae < nx S) (h : listOk ae S r a k f) (hk : k < 19000) (hv : cD S v = elk r) : ∃ (T : CS) (mc ms : Nat), fL_add n r S a v = some ((1, T), mc, ms) ∧ mc ≤ 1 ∧ ms ≤ 10 + 2 * k ∧ listOk ae T r a (k + 1) (fun i => if i = k then v else f i) ∧ keep S T [gM r, gS r] [gE r] [] [30 + r] ∧ frsh T ∧ addOff S T r a ∧ 4 * capL ae S r a + ms ≤ 4 * capL ae T r a ∧ (capL ae T r a ≤ capL ae S r a ∨ capL ae T r a ≤ 10 + 2 * k) := by
  obtain ⟨h1, h2, h3, b, h4, h5, h6⟩ := h
  have ha0 : cD S a ≠ 0 := by omega
  have fx : ∀ q, cD S q ≠ 0 → q ≠ nx S := fun q hq z => hq (z ▸ hf (nx S) (Nat.le_refl _))
  have han := fx a ha0
  have hvn := fx v (by rw [hv]; exact elk0 r)
  obtain ⟨S1, eS1⟩ : ∃ z, z = uI S (gM r) a (cI S (gM r) a + 1) := ⟨_, rfl⟩
  have kS1 : keep S S1 [gM r] [] [] [] := by rw [eS1]; exact keep_uI S _ _ _
  have d1 : ∀ q, cD S1 q = cD S q := fun q => by rw [eS1]; rfl
  have n1 : ∀ q, cN S1 q = cN S q := fun q => by rw [eS1]; rfl
  have x1 : nx S1 = nx S := by rw [eS1]; rfl
  have r1 : ∀ g q, cR S1 g q = cR S g q := fun g q => by rw [eS1]; rfl
  have u1 : ∀ g q, cQ S1 g q = cQ S g q := fun g q => by rw [eS1]; rfl
  have i1 : ∀ g q, q ≠ a → cI S1 g q = cI S g q := fun g q hq => by
    rw [eS1, cI_uI]
    by_cases e : g = gM r
    · rw [e, set1_s, set1_n _ _ hq]
    · rw [set1_n _ _ e]
  have f1 : frsh S1 := fun q hq => by rw [d1]; exact hf q (by rw [← x1]; exact hq)
  have hunf : fL_add n r S a v = (if b = n.2 then grd (nI k = 0) (some ((1, adT (uR (nw S1 (30 + r) 10) (gE r) a (some (nx S1))) r a (nx S1) v (nI k)), 1, 10)) else grd (cD S b = 30 + r) (if nI k = Int32.ofNat (cN S b) then grd (2 ≤ cN S b ∧ cN S b ≤ 40000) (grd (∀ i, i < cN S b → elOk S r b i = true) (some ((1, adT (uR (gwS S1 r b (cN S b + cN S b / 2)) (gE r) a (some (nx S1))) r a (nx S1) v (nI k)), 1, cN S b + cN S b / 2))) else grd (¬ (nI k < 0 ∨ cN S b ≤ (nI k).toNatClampNeg)) (some ((1, adT S1 r a b v (nI k)), 0, 0)))) := by
    unfold fL_add
    rw [eS1]
    simp only [grd, onn, bnd, h1, hv, h4, h2, if_true]
  have hk2 : k < 20000 := by omega
  have ek : (nI k).toNatClampNeg = k := nI_clamp (by omega)
  rcases h5 with ⟨k0, b0⟩ | ⟨q0, q1, q2, q3, q4, q5, q6⟩
  · -- nothing was there: ten places
    subst k0
    have hn1 : ∀ g q, q ≠ nx S → q ≠ a → cI (nw S1 (30 + r) 10) g q = cI S g q := fun g q hq hqa => by
      rw [cI_nw]
      show set1 (cI S1 g) (nx S1) 0 q = _
      rw [x1, set1_n _ _ hq]
      exact i1 g q hqa
    have G := adG (ae := ae) (S2 := nw S1 (30 + r) 10) (N := 10) (f := f) (v := v) hf hax h1 h6 hv hk2 (by show nx S1 + 1 = _; rw [x1]) (fun q => by
      rw [cD_nw]; unfold set1; rw [x1, d1]) (by rw [cN_nw, x1, set1_s]) (by omega) ⟨by omega, by omega⟩ hn1 (fun g q hq => by
      rw [cR_nw]
      show set1 (cR S1 g) (nx S1) none q = _
      rw [x1, set1_n _ _ hq]
      exact r1 g q) (fun g q hq => by
      rw [cQ_nw]
      show set1 (cQ S1 g) (nx S1) (fun _ => none) q = _
      rw [x1, set1_n _ _ hq]
      exact u1 g q) (fun i hi => by omega) (fun i _ => by
      rw [cQ_nw]
      show set1 (cQ S1 (30 + r)) (nx S1) (fun _ => none) (nx S) i = _
      rw [x1, set1_s]) (kpre (keep_tr kS1 (keep_nw _ _ (f1 _ (Nat.le_refl _)))) (by simp) (by simp) (by simp) (by simp))
    have c1 : capL ae S r a = 0 := by rw [cap_is h4, if_pos b0]
    have c2 := cap_grow (ae := ae) (r := r) (a := a) (v := v) (z := nI 0) (S2 := nw S1 (30 + r) 10) (b := nx S) (N := 10) (by omega) (by rw [cN_nw, x1, set1_s])
    refine ⟨_, 1, 10, ?_, by omega, by omega, G.1, G.2.1, G.2.2.1, G.2.2.2, by rw [c1, c2]; omega, by rw [c2]; omega⟩
    rw [hunf, if_pos (by rw [b0, hn])]
    simp only [grd, nI_0, if_true]
    rw [x1]
  · have hb0 : cD S b ≠ 0 := by omega
    have hbn := fx b hb0
    have hne : ¬ b = n.2 := by rw [hn]; exact q0
    by_cases hfull : k = cN S b
    · -- full: half as many more
      have hkN : cN S b = k := hfull.symm
      obtain ⟨cp, ecp⟩ : ∃ z : Nat → Option Nat, z = va_cpy (cQ S1 (30 + r) b) (fun _ => none) 0 0 (cN S1 b) := ⟨_, rfl⟩
      have ecp1 : ∀ i, i < k → cp i = some (f i) := fun i hi => by
        rw [ecp, n1, hkN]
        simp only [va_cpy]
        rw [if_pos (by omega)]
        simp only [Nat.zero_add, Nat.sub_zero]
        rw [u1]
        exact q5 i hi
      have ecp2 : ∀ i, k ≤ i → cp i = none := fun i hi => by
        rw [ecp, n1, hkN]
        simp only [va_cpy]
        rw [if_neg (by omega)]
      have eg : gwS S1 r b (cN S b + cN S b / 2) = wQ (nw S1 (30 + r) (k + k / 2)) (30 + r) (nx S) cp := by
        unfold gwS
        rw [ecp, x1, hkN]
      have G := adG (ae := ae) (S2 := wQ (nw S1 (30 + r) (k + k / 2)) (30 + r) (nx S) cp) (N := k + k / 2) (f := f) (v := v) hf hax h1 h6 hv hk2 (by show nx S1 + 1 = _; rw [x1]) (fun q => by
        show set1 (cD S1) (nx S1) (30 + r) q = _; unfold set1; rw [x1, d1]) (by show set1 (cN S1) (nx S1) (k + k / 2) (nx S) = _; rw [x1, set1_s]) (by omega) ⟨by omega, by omega⟩ (fun g q hq hqa => by
        show set1 (cI S1 g) (nx S1) 0 q = _
        rw [x1, set1_n _ _ hq]
        exact i1 g q hqa) (fun g q hq => by
        show set1 (cR S1 g) (nx S1) none q = _
        rw [x1, set1_n _ _ hq]
        exact r1 g q) (fun g q hq => by
        rw [cQ_wQ]
        by_cases e : g = 30 + r
        · rw [e, set1_s, set1_n _ _ hq]
          show set1 (cQ S1 (30 + r)) (nx S1) (fun _ => none) q = _
          rw [x1, set1_n _ _ hq]
          exact u1 _ q
        · rw [set1_n _ _ e]
          show set1 (cQ S1 g) (nx S1) (fun _ => none) q = _
          rw [x1, set1_n _ _ hq]
          exact u1 g q) (fun i hi => by rw [cQ_wQ, set1_s, set1_s]; exact ecp1 i hi) (fun i hi => by rw [cQ_wQ, set1_s, set1_s]; exact ecp2 i hi) (by
        have t1 := keep_tr kS1 (keep_nw (S := S1) (30 + r) (k + k / 2) (f1 _ (Nat.le_refl _)))
        refine ⟨t1.1, t1.2.1, t1.2.2.1, t1.2.2.2.1, fun g hg q hq => ?_⟩
        have hqn := fx q hq
        rw [cQ_wQ]
        by_cases e : g = 30 + r
        · rw [e, set1_s, set1_n _ _ hqn]
          show set1 (cQ S1 (30 + r)) (nx S1) (fun _ => none) q = _
          rw [x1, set1_n _ _ hqn]
          exact u1 _ q
        · rw [set1_n _ _ e]
          show set1 (cQ S1 g) (nx S1) (fun _ => none) q = _
          rw [x1, set1_n _ _ hqn]
          exact u1 g q)
      have c1 : capL ae S r a = k := by rw [cap_is h4, if_neg q0, hkN]
      have c2 := cap_grow (ae := ae) (r := r) (a := a) (v := v) (z := nI k) (S2 := wQ (nw S1 (30 + r) (k + k / 2)) (30 + r) (nx S) cp) (b := nx S) (N := k + k / 2) (by omega) (by show set1 (cN S1) (nx S1) (k + k / 2) (nx S) = _; rw [x1, set1_s])
      refine ⟨_, 1, k + k / 2, ?_, by omega, by omega, G.1, G.2.1, G.2.2.1, G.2.2.2, by rw [c1, c2]; omega, by rw [c2]; omega⟩
      rw [hunf, if_neg hne]
      simp only [grd, q1, if_true]
      rw [if_pos (show nI k = Int32.ofNat (cN S b) by rw [hkN]; rfl), if_pos (by omega), if_pos (fun i hi => by
        unfold elOk
        rw [q5 i (by omega)]
        simp [h6 i (by omega)]), eg, hkN, x1]
    · have hlt : k < cN S b := by omega
      have c3 : capL ae (adT S1 r a b v (nI k)) r a = capL ae S r a := by
        rw [cap_is h4, cap_is (S := adT S1 r a b v (nI k)) ((r1 _ a).trans h4)]
        exact congrArg (fun z => if b = ae then 0 else z) (n1 b)
      refine ⟨adT S1 r a b v (nI k), 0, 0, ?_, by omega, by omega, adT_ok (by omega) ((d1 a).trans h1) ((r1 _ a).trans h4) q0 ((d1 b).trans q1) (by rw [n1]; exact hlt) (by rw [n1]; exact q3) (by rw [n1]; exact q4) (fun i hi => by rw [u1]; exact q5 i hi) (fun i hi => by rw [u1]; exact q6 i hi) (fun i hi => (d1 _).trans (h6 i hi)) ((d1 v).trans hv), kpre (keep_tr kS1 (keepAdd S1 r a b v (nI k))) (by simp) (by simp) (by simp) (by simp), fun q hq => f1 q hq, ⟨fun g q hq hqa => ⟨?_, r1 g q⟩, fun g q hq hqb => ?_, fun b' hb' => Or.inl (by rw [← hb']; exact (r1 _ a).symm)⟩, by rw [c3]; omega, by rw [c3]; omega⟩
      · rw [hunf, if_neg hne]
        simp only [grd, q1, if_true]
        rw [if_neg (show ¬ nI k = Int32.ofNat (cN S b) from fun z => hfull ((nI_eq (by omega) (by omega)).mp z)), if_pos (by
          rw [ek]
          intro z
          rcases z with z | z
          · exact nI_pos (by omega) z
          · omega)]
      · show set1 (cI S1) (gS r) (set1 (cI S1 (gS r)) a (nI k + 1)) g q = _
        by_cases e : g = gS r
        · rw [e, set1_s, set1_n _ _ hqa]; exact i1 _ q hqa
        · rw [set1_n _ _ e]; exact i1 g q hqa
      · show set1 (cQ S1) (30 + r) (set1 (cQ S1 (30 + r)) b (va_up (cQ S1 (30 + r) b) (nI k).toNatClampNeg (some v))) g q = _
        by_cases e : g = 30 + r
        · have hqb2 : q ≠ b := fun z => hqb (by rw [z]; exact h4)
          rw [e, set1_s, set1_n _ _ hqb2]
          exact u1 _ q
        · rw [set1_n _ _ e]
          exact u1 g q
