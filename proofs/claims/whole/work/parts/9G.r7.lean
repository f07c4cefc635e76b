/-! PURE: van rounds: the class's cheapest partings -/
def Wf (m : Nat) (g : Nat → Nat) (s : Nat) : Nat := wS g s m
def Tf (x : MS) (m : Nat) (who : Nat → Nat) (s : Nat) : Nat := md m (lgF x m who) s 8
def vC (x : MS) (m : Nat) (who g : Nat → Nat) (cap s : Nat) : Nat := CC (Wf m g) (Tf x m who) cap s
def cs1 (x : MS) (m : Nat) (who g : Nat → Nat) (cap s t : Nat) : Nat := 16 * oneR x m who g cap (s ^^^ t) + 1 + vC x m who g cap t
/-- the tables of rounds and of costs -/
def Vo (M : Nat → Nat → Nat) (x : MS) (m : Nat) (who g : Nat → Nat) (cap : Nat) (S : CS) : Prop := ∀ t, 0 < t → t < 2 ^ m → cA S 52 (M 0 16) t = nI (oneR x m who g cap t)
def Vk (M : Nat → Nat → Nat) (x : MS) (m : Nat) (who g : Nat → Nat) (cap : Nat) (S : CS) (k : Nat) : Prop := ∀ t, 0 < t → t < k → cA S 53 (M 0 17) t = nI (vC x m who g cap t)
section VCC
variable {M : Nat → Nat → Nat} {x : MS} {m : Nat} {who g : Nat → Nat} {S : CS} {cap : Nat} {PW : Nat → List Nat}
theorem one_b (h : VC M x m who g S) {s : Nat} (hs : s < 2 ^ m) : oneR x m who g cap s ≤ 1048576 := by
  have := md_c h.2.2.2.1 (lg_b h) hs 8
  unfold oneR
  split <;> omega
theorem vC_b (he : VEn m (Wf m g) (Tf x m who) cap PW) {s : Nat} (hs : s < 2 ^ m) : vC x m who g cap s ≤ 153608 := by
  have h8 := p28 he.1
  have := CC_b he s hs
  have := (t_pc8 s (by omega)).1
  unfold vC
  omega
theorem vC_0 : vC x m who g cap 0 = 0 := rfl
theorem ev_cost (n : Nat × Nat) (h : VC M x m who g S) (he : VEn m (Wf m g) (Tf x m who) cap PW) {s t : Nat} (hs : s < 2 ^ m) (h0 : s ≠ 0) (ho : Vo M x m who g cap S) (hk : Vk M x m who g cap S s) (ht : (t &&& (s &&& (s - 1))) = t) : fX9_costWithRest n S (M 0 10) (nI s) (nI t) = some (nI (cs1 x m who g cap s t)) ∧ cs1 x m who g cap s t < 20000000 ∧ cB s (s ^^^ t) = true ∧ t < s ∧ s ^^^ t ≤ s ∧ s ^^^ (s ^^^ t) = t := by
  have p8 := p28 h.2.2.2.1
  have t2 : t < 256 := by rw [← ht, Nat.and_comm]; exact and_lt (and_lt (by omega))
  obtain ⟨a, b, c⟩ := t_cls s (by omega) h0 t t2 ht
  obtain ⟨d1, d2, d3, d4, d5, d6⟩ := t_cB s (by omega) (s ^^^ t) c a
  rw [b] at d1
  have e1 := one_b (cap := cap) h (show s ^^^ t < 2 ^ m by omega)
  have e2 := vC_b he (show t < 2 ^ m by omega)
  refine ⟨?_, by unfold cs1; omega, a, by omega, by omega, b⟩
  obtain ⟨i1, i2⟩ := ixN (s := s ^^^ t) (N := 256) c (by decide)
  obtain ⟨i3, i4⟩ := ixN (s := t) (N := 256) t2 (by decide)
  have o := ho (s ^^^ t) d2 (by omega)
  unfold fX9_costWithRest cs1
  simp only [bnd, grd, onn, h.1.1, h.1.2.2.2.2.2.2.1, h.1.2.2.2.2.2.2.2.1, h.1.2.2.2.2.2.2.2.2.2.2.2.2.2.1.1, h.1.2.2.2.2.2.2.2.2.2.2.2.2.2.1.2, h.1.2.2.2.2.2.2.2.2.2.2.2.2.2.2.1.1, h.1.2.2.2.2.2.2.2.2.2.2.2.2.2.2.1.2, nI_xor (show s < 256 by omega) t2, i1, if_pos i2, i3, if_pos i4, o, if_true]
  have f : ∀ z : Nat, nI (oneR x m who g cap (s ^^^ t)) * 16 + 1 + nI z = nI (16 * oneR x m who g cap (s ^^^ t) + 1 + z) := fun z => by
    rw [show (16 : Int32) = nI 16 from rfl, pk_mul, nI_inc1, nI_add, Nat.mul_comm]
  by_cases w : t = 0
  · subst w
    rw [nI_0, if_pos rfl, vC_0, ← f 0, nI_0]
  · rw [if_neg (nI_ne0 (by omega) (by omega)), hk t (by omega) (by omega), f]
theorem cp_lp (n : Nat × Nat) (h : VC M x m who g S) (he : VEn m (Wf m g) (Tf x m who) cap PW) {s : Nat} (hs : s < 2 ^ m) (h0 : s ≠ 0) (ho : Vo M x m who g cap S) (hk : Vk M x m who g cap S s) : ∀ (fuel t v : Nat), t < fuel → v < 20000000 → (t &&& (s &&& (s - 1))) = t → ∃ v', fX9_cheapestParting_lp16 n S (M 0 10) (nI s) (nI (s &&& (s - 1))) fuel (nI v) (nI t) = some (nI v') ∧ v' ≤ v ∧ (v' = v ∨ ∃ u, (u &&& (s &&& (s - 1))) = u ∧ v' = cs1 x m who g cap s u) ∧ ∀ u, (u &&& (s &&& (s - 1))) = u → 0 < u → u ≤ t → v' ≤ cs1 x m who g cap s u := by
  intro fuel
  induction fuel with
  | zero => intro _ _ hf; exact absurd hf (Nat.not_lt_zero _)
  | succ fuel ih =>
    intro t v hf hv ht
    have p8 := p28 h.2.2.2.1
    have O2 : (s &&& (s - 1)) < 256 := and_lt (by omega)
    have t2 : t < 256 := by rw [← ht, Nat.and_comm]; exact and_lt O2
    unfold fX9_cheapestParting_lp16
    by_cases w : t = 0
    · subst w
      rw [nI_0, if_pos (Int32.le_refl 0)]
      exact ⟨v, rfl, Nat.le_refl _, Or.inl rfl, fun u _ h1 h2 => absurd h1 (by omega)⟩
    · rw [if_neg (nI_nle (by omega) (by omega))]
      obtain ⟨e, eb, -⟩ := ev_cost n h he hs h0 ho hk ht
      simp only [grd, cal, bnd, h.1.1, e, b_next t2 (by omega) O2, if_true]
      have nl : ((t - 1) &&& (s &&& (s - 1))) ≤ t - 1 := Nat.and_le_left
      have fin : ∀ v1, v1 < 20000000 → (v1 ≤ v ∧ v1 ≤ cs1 x m who g cap s t ∧ (v1 = v ∨ v1 = cs1 x m who g cap s t)) → ∃ v', fX9_cheapestParting_lp16 n S (M 0 10) (nI s) (nI (s &&& (s - 1))) fuel (nI v1) (nI ((t - 1) &&& (s &&& (s - 1)))) = some (nI v') ∧ v' ≤ v ∧ (v' = v ∨ ∃ u, (u &&& (s &&& (s - 1))) = u ∧ v' = cs1 x m who g cap s u) ∧ ∀ u, (u &&& (s &&& (s - 1))) = u → 0 < u → u ≤ t → v' ≤ cs1 x m who g cap s u := by
        intro v1 b1 b2
        obtain ⟨v', q1, q2, q3, q4⟩ := ih ((t - 1) &&& (s &&& (s - 1))) v1 (by omega) b1 sub_ok
        refine ⟨v', q1, by omega, ?_, fun u hu u0 ut => ?_⟩
        · rcases q3 with z | z
          · rcases b2.2.2 with y | y
            · exact Or.inl (by omega)
            · exact Or.inr ⟨t, ht, by omega⟩
          · exact Or.inr z
        · by_cases y : u = t
          · subst y; omega
          · exact q4 u hu u0 (sub_le t _ u ht hu (by omega))
      by_cases c : cs1 x m who g cap s t < v
      · rw [if_pos ((nI_ltI (by omega) (by omega)).mpr c)]
        exact fin _ eb ⟨by omega, Nat.le_refl _, Or.inr rfl⟩
      · rw [if_neg (fun z => c ((nI_ltI (by omega) (by omega)).mp z))]
        exact fin _ hv ⟨Nat.le_refl _, by omega, Or.inl rfl⟩
/-- a parting whose first round is light enough costs what the table of costs says; another too much -/
theorem cs_is (he : VEn m (Wf m g) (Tf x m who) cap PW) {s t : Nat} (hb : s ^^^ (s ^^^ t) = t) : (wS g (s ^^^ t) m ≤ cap → cs1 x m who g cap s t = vst (Wf m g) (Tf x m who) cap s (s ^^^ t)) ∧ (¬ wS g (s ^^^ t) m ≤ cap → 16777216 ≤ cs1 x m who g cap s t) := by
  unfold cs1 vst vC oneR Tf
  rw [hb]
  refine ⟨fun c => by rw [if_pos c], fun c => by rw [if_neg c]; omega⟩
theorem cs_ok (he : VEn m (Wf m g) (Tf x m who) cap PW) {s : Nat} (hs : s < 2 ^ m) (h0 : s ≠ 0) {r : Nat} (hr : okR (Wf m g) cap s r) : ((s ^^^ r) &&& (s &&& (s - 1))) = s ^^^ r ∧ cs1 x m who g cap s (s ^^^ r) = vst (Wf m g) (Tf x m who) cap s r ∧ (s ^^^ r = 0 → r = s) := by
  have h8 := p28 he.1
  obtain ⟨d1, d2, d3, d4, d5, d6⟩ := t_cB s (by omega) r hr.1 hr.2.1
  have q := (cs_is (x := x) (who := who) he (s := s) (t := s ^^^ r) (by rw [d6])).1
  rw [d6] at q
  exact ⟨d5, q hr.2.2, fun z => by omega⟩
theorem ev_cheap (n : Nat × Nat) (hn : 30000 ≤ n.1) (h : VC M x m who g S) (he : VEn m (Wf m g) (Tf x m who) cap PW) {s : Nat} (hs : s < 2 ^ m) (h0 : s ≠ 0) (ho : Vo M x m who g cap S) (hk : Vk M x m who g cap S s) : fX9_cheapestParting n S (M 0 10) (nI s) = some (nI (vC x m who g cap s)) := by
  have p8 := p28 h.2.2.2.1
  have O2 : (s &&& (s - 1)) < 256 := and_lt (by omega)
  have z0 : (0 &&& (s &&& (s - 1))) = 0 := Nat.zero_and _
  obtain ⟨e, eb, -⟩ := ev_cost n h he hs h0 ho hk z0
  rw [nI_0] at e
  have es : nI s &&& (nI s - 1) = nI (s &&& (s - 1)) := by
    have q : nI s - 1 = nI (s - 1) := by
      have := nI_pred (s - 1)
      rw [show s - 1 + 1 = s by omega] at this
      exact this
    rw [q, nI_and (by omega) (by omega)]
  obtain ⟨v', q1, q2, q3, q4⟩ := cp_lp n h he hs h0 ho hk n.1 (s &&& (s - 1)) (cs1 x m who g cap s 0) (by omega) eb (Nat.and_self _)
  have fin : v' = vC x m who g cap s := by
    have low : ∀ r, okR (Wf m g) cap s r → v' ≤ vst (Wf m g) (Tf x m who) cap s r := fun r hr => by
      obtain ⟨a, b, c⟩ := cs_ok (x := x) (who := who) he hs h0 hr
      rw [← b]
      by_cases w : s ^^^ r = 0
      · rw [w]; exact q2
      · refine q4 _ a (by omega) ?_
        rw [← a]; exact Nat.and_le_right
    refine CC_is he hs h0 ?_ low
    obtain ⟨b, hb, eb⟩ := CC_at he hs h0
    have lb := low b hb
    have vb := vC_b he hs
    unfold vC at vb
    have pick : ∀ u, (u &&& (s &&& (s - 1))) = u → v' = cs1 x m who g cap s u → ∃ r, okR (Wf m g) cap s r ∧ vst (Wf m g) (Tf x m who) cap s r = v' := fun u hu e => by
      have u2 : u < 256 := by rw [← hu, Nat.and_comm]; exact and_lt O2
      obtain ⟨a, b, c⟩ := t_cls s (by omega) h0 u u2 hu
      have q := cs_is (x := x) (who := who) he b
      by_cases w : wS g (s ^^^ u) m ≤ cap
      · exact ⟨s ^^^ u, ⟨c, a, w⟩, by rw [← q.1 w, e]⟩
      · have := q.2 w
        omega
    rcases q3 with z | ⟨u, hu, z⟩
    · exact pick 0 z0 z
    · exact pick u hu z
  rw [fin] at q1
  simp only [fX9_cheapestParting, grd, cal, bnd, h.1.1, e, es, q1, if_true]
theorem co_lp (n : Nat × Nat) (hn : 30000 ≤ n.1) (h : VC M x m who g S) (he : VEn m (Wf m g) (Tf x m who) cap PW) (ho : Vo M x m who g cap S) : ∀ (d s fuel : Nat) (S' : CS), s + d = 2 ^ m → 0 < s → d < fuel → kq S S' [] [] [53] [] → Vk M x m who g cap S' s → ∃ T, fX9_plan_lp65 n (M 0 10) (nI (2 ^ m - 1)) fuel (nI s) S' = some T ∧ kq S T [] [] [53] [] ∧ Vk M x m who g cap T (2 ^ m) := by
  intro d s fuel
  induction fuel generalizing d s with
  | zero => intro _ _ _ hf; exact absurd hf (Nat.not_lt_zero _)
  | succ fuel ih =>
    intro S' hs h0 hf kp hk
    have h4 := h.2.2.2.1
    have p8 := p28 h4
    have hC := VC_k h kp
    unfold fX9_plan_lp65
    by_cases hd : d = 0
    · rw [if_pos ((nI_ltI (by omega) (by omega)).mpr (by omega))]
      exact ⟨S', rfl, kp, by rw [show 2 ^ m = s by omega]; exact hk⟩
    · have hlt : s < 2 ^ m := by omega
      rw [if_neg (fun z => by have := (nI_ltI (by omega) (by omega)).mp z; omega)]
      obtain ⟨i1, i2⟩ := ixN (s := s) (N := 256) (by omega) (by decide)
      have ho' : Vo M x m who g cap S' := fun t h1 h2 => qA kp h.1.2.2.2.2.2.2.2.2.2.2.2.2.2.1.1 (by decide) (by simp) t (ho t h1 h2)
      simp only [grd, onn, bnd, cal, hC.1.1, hC.1.2.2.2.2.2.2.2.1, ev_cheap n hn hC he hlt (by omega) ho' hk, hC.1.2.2.2.2.2.2.2.2.2.2.2.2.2.2.1.1, hC.1.2.2.2.2.2.2.2.2.2.2.2.2.2.2.1.2, i1, if_pos i2, nI_inc1, if_true]
      refine ih (d - 1) (s + 1) _ (by omega) (by omega) (by omega) (kqre (kq_tr kp (kq_uA S' _ _ _ _)) (by simp) (by simp) (by simp) (by simp)) (fun t h1 h2 => ?_)
      rw [cA_same]
      by_cases q : t = s
      · subst q; rw [pk_us]
      · rw [pk_un q]; exact hk t h1 (by omega)
end VCC
