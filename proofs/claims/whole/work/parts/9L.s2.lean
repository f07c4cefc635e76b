/-! PURE: van rounds: the reference writes and compares rows -/
def Tri (y : MS) (L : List Nat) : Prop := mI y 54 = nI L.length ∧ ∀ k, k < L.length → mA y 53 k = nI (L.getD k 0)
def RoA (y : MS) (t : Nat) (L : List Nat) : Prop := mA y 52 t = nI L.length ∧ ∀ k, k < L.length → mA y 51 (16 * t + k) = nI (L.getD k 0)
section RRW
variable {x y : MS} {m : Nat} {who g : Nat → Nat}
theorem wk_lp (n : Nat × Nat) (hx : XE x m who g) (hy : YE x y m who) {s a k : Nat} (hs : s < 2 ^ m) (ha : a < m ∨ a = 8) (hw : WyR x m who y s) (hf : IsFst m (lgF x m who) s a k) : ∀ (d j fuel : Nat), j + d = k → d < fuel → fX12_writeTour_lp20 n y (nI s) (aI a) (nI (md m (lgF x m who) s a)) fuel (nI j) = some (nI k) := by
  intro d j fuel
  induction fuel generalizing d j with
  | zero => intro _ hf; exact absurd hf (Nat.not_lt_zero _)
  | succ fuel ih =>
    intro hj hfu
    have h4 := hx.1
    have p8 := p28 h4
    have km := hf.1
    have jm : j < m := by omega
    unfold fX12_writeTour_lp20
    by_cases c : s.testBit j = true
    · rw [if_neg (fun z => (b_tb (s := s) (k := j) (by omega) (by omega)).1.mp z c)]
      obtain ⟨i1, i2, i3, i4⟩ := ix8 (s := s) (k := j) (by omega) (by omega)
      have t := t_bit s (by omega) j (by omega) c
      have p2 := Nat.two_pow_pos j
      have b3 := md_c h4 (XE_b hx) (show s ^^^ 2 ^ j < 2 ^ m by omega) j
      have b4 := md_c h4 (XE_b hx) hs a
      have b2 := XE_b hx a j
      have wy := ev12_way n hx hy ha (Or.inl jm)
      rw [(aI_n (show j < 8 by omega)).1] at wy
      simp only [cal, grd, bnd, wy, i1, i3, if_pos i4, hw j jm c, nI_add, nI_inc1]
      by_cases w : lgF x m who a j + md m (lgF x m who) (s ^^^ 2 ^ j) j = md m (lgF x m who) s a
      · rw [if_pos (by rw [w])]
        have : ¬ j < k := fun z => hf.2.2 j z ⟨c, w⟩
        rw [show j = k by omega]
      · rw [if_neg (fun z => w ((nI_eq (by omega) (by omega)).mp z))]
        by_cases q : d = 0
        · rw [show j = k by omega] at w
          exact absurd hf.2.1.2 w
        · exact ih (d - 1) (j + 1) (by omega) (by omega)
    · rw [if_pos ((b_tb (s := s) (k := j) (by omega) (by omega)).1.mpr c)]
      simp only [bnd, nI_inc1]
      by_cases q : d = 0
      · rw [show j = k by omega] at c
        exact absurd hf.2.1.1 c
      · exact ih (d - 1) (j + 1) (by omega) (by omega)
theorem wt_lp (n : Nat × Nat) (hn : 30000 ≤ n.1) (hx : XE x m who g) (hy : YE x y m who) (hw : ∀ t, 0 < t → t < 2 ^ m → WyR x m who y t) : ∀ (p : List Nat) (fuel s a : Nat) (due : Int32) (out : List Nat) (y' : MS), p.length < fuel → s < 2 ^ m → (a < m ∨ a = 8) → isP m (lgF x m who) s a p → (s ≠ 0 → due = nI (md m (lgF x m who) s a)) → KM [53] [] [54] y y' → Tri y' out → out.length + p.length ≤ 16 → ∃ z, fX12_writeTour_lp13 n fuel (nI s) (aI a) due y' = some z ∧ KM [53] [] [54] y z ∧ Tri z (out ++ p.map who) := by
  intro p
  induction p with
  | nil =>
    intro fuel s a due out y' hf hs ha hp hdue kp ht hl
    cases fuel with
    | zero => exact absurd hf (Nat.not_lt_zero _)
    | succ fuel =>
      have s0 : s = 0 := hp
      subst s0
      unfold fX12_writeTour_lp13
      rw [nI_0, if_pos rfl]
      exact ⟨y', rfl, kp, by rw [List.map_nil, List.append_nil]; exact ht⟩
  | cons k p ih =>
    intro fuel s a due out y' hf hs ha hp hdue kp ht hl
    cases fuel with
    | zero => exact absurd hf (Nat.not_lt_zero _)
    | succ fuel =>
      have h4 := hx.1
      have p8 := p28 h4
      have hF := hp.1
      have km := hF.1
      have s0 : s ≠ 0 := fun z => by
        have := hF.2.1.1
        rw [z, Nat.zero_testBit] at this
        exact absurd this (by decide)
      have wk := hx.2.1 k km
      have t := t_bit s (by omega) k (by omega) hF.2.1.1
      have p2 := Nat.two_pow_pos k
      simp only [List.length_cons] at hf hl
      have hy' := YE_k hy kp
      have w46 : mA y' 46 = mA y 46 := kp.1 46 (by simp)
      have hws : WyR x m who y' s := fun i hi hb => by rw [w46]; exact hw s (by omega) hs i hi hb
      have sk := wk_lp n hx hy' hs ha hws hF k 0 n.1 (by omega) (by omega)
      rw [nI_0] at sk
      have wy := ev12_way n hx hy' ha (Or.inl km)
      obtain ⟨k1, k2⟩ := aI_n (a := k) (by omega)
      rw [k1] at wy
      obtain ⟨j1, j2⟩ := ixN (s := k) (N := 8) (by omega) (by decide)
      obtain ⟨o1, o2⟩ := ixN (s := out.length) (N := 16) (by omega) (by decide)
      have b4 := md_c h4 (XE_b hx) hs a
      have sub : nI (md m (lgF x m who) s a) - nI (lgF x m who a k) = nI (md m (lgF x m who) (s ^^^ 2 ^ k) k) := by
        have := hF.2.1.2
        rw [pk_sub (by omega)]
        congr 1
        omega
      unfold fX12_writeTour_lp13
      rw [if_neg (nI_ne0 (by omega) (by omega)), hdue s0]
      obtain ⟨u, eu⟩ : ∃ u, u = sI (sA y' 53 (upd (mA y' 53) out.length (nI (who k)))) 54 (nI (out.length + 1)) := ⟨_, rfl⟩
      have ku : KM [53] [] [54] y' u := by rw [eu]; exact KM_tr (KM_sA y' _ (by simp)) (KM_sI _ _ (by simp))
      have e54 : mI (sA y' 53 (upd (mA y' 53) out.length (nI (who k)))) 54 = nI out.length := ht.1
      have tu : Tri u (out ++ [who k]) := by
        refine ⟨by rw [eu, List.length_append, List.length_singleton]; rfl, fun j hj => ?_⟩
        have : mA u 53 = upd (mA y' 53) out.length (nI (who k)) := by rw [eu]; rfl
        rw [this, getD_app]
        rw [List.length_append, List.length_singleton] at hj
        by_cases c : j = out.length
        · subst c
          rw [pk_us, if_neg (Nat.lt_irrefl _), Nat.sub_self]
          rfl
        · rw [pk_un c, if_pos (show j < out.length by omega)]
          exact ht.2 j (by omega)
      obtain ⟨z, e1, e2, e3⟩ := ih fuel (s ^^^ 2 ^ k) k (nI (md m (lgF x m who) (s ^^^ 2 ^ k) k)) (out ++ [who k]) u (by omega) (by omega) (Or.inl km) hp.2 (fun _ => rfl) (KM_tr kp ku) tu (by rw [List.length_append, List.length_singleton]; omega)
      rw [k1] at e1
      simp only [bnd, cal, grd, sk, wy, sub, ht.1, j1, if_pos j2, hy'.2.2 k km, o1, if_pos o2, e54, nI_inc1, ← eu, b_xs (show s < 256 by omega) (show k < 8 by omega), e1]
      refine ⟨z, rfl, e2, ?_⟩
      rw [List.append_assoc] at e3
      exact e3
theorem ev_wtour (n : Nat × Nat) (hn : 30000 ≤ n.1) {PW : Nat → List Nat} (hx : XE x m who g) (hy : YE x y m who) (hT : ∀ t, 0 < t → t < 2 ^ m → TR x m who g y t) (hP : isPW x m who PW) {s : Nat} (hs : s < 2 ^ m) (h0 : s ≠ 0) (h54 : mI y 54 = 0) (a : Int32) : ∃ z, fX12_writeTour n y (nI s) a = some z ∧ KM [53] [] [54] y z ∧ Tri z (PW s) := by
  have h4 := hx.1
  have p8 := p28 h4
  obtain ⟨p, hp, ep⟩ := hP s hs
  have al := isP_all h4 p s 8 hs hp
  have pc8 := (t_pc8 s (by omega)).1
  obtain ⟨s1, s2⟩ := ixN (s := s) (N := 256) (by omega) (by decide)
  have T := (hT s (by omega) hs).2.1
  obtain ⟨z, e1, e2, e3⟩ := wt_lp n hn hx hy (fun t h1 h2 => (hT t h1 h2).1) p n.1 s 8 (nI (md m (lgF x m who) s 8)) [] y (by omega) hs (Or.inr rfl) hp (fun _ => rfl) (KM_rf _ _ _ y) ⟨h54, fun k hk => absurd hk (Nat.not_lt_zero _)⟩ (by rw [List.length_nil]; omega)
  rw [show aI 8 = -1 from rfl] at e1
  rw [List.nil_append, ← ep] at e3
  have T : mA y 47 s = nI (md m (lgF x m who) s 8) := T
  refine ⟨z, ?_, e2, e3⟩
  simp only [fX12_writeTour, bnd, grd, cal, s1, if_pos s2, T, e1]
theorem drop_at {L : List Nat} {k : Nat} (h : k < L.length) : L.drop k = L.getD k 0 :: L.drop (k + 1) := by
  rw [List.drop_eq_getElem_cons h, List.getD_eq_getElem?_getD, List.getElem?_eq_getElem h]
  rfl
theorem if_lp (n : Nat × Nat) {s : Nat} (hs : s < 256) {L1 L2 : List Nat} (h1 : Tri y L1) (h2 : RoA y s L2) (b1 : L1.length ≤ 16) (b2 : L2.length ≤ 16) (c1 : ∀ k, L1.getD k 0 < 100) (c2 : ∀ k, L2.getD k 0 < 100) : ∀ (d k fuel : Nat), k + d = L1.length → d < fuel → ∃ e j, fX12_isFirst_lp2 n y (nI s) fuel (nI k) = some (e, nI j) ∧ ((e = 1 ∧ isF (L1.drop k) (L2.drop k) = false) ∨ (e = 0 ∧ j < L1.length ∧ j < L2.length ∧ isF (L1.drop k) (L2.drop k) = decide (L1.getD j 0 < L2.getD j 0))) := by
  intro d k fuel
  induction fuel generalizing d k with
  | zero => intro _ hf; exact absurd hf (Nat.not_lt_zero _)
  | succ fuel ih =>
    intro hk hf
    obtain ⟨s1, s2⟩ := ixN (s := s) (N := 256) hs (by decide)
    unfold fX12_isFirst_lp2
    simp only [bnd, h1.1]
    by_cases hd : d = 0
    · rw [if_pos (nI_le (by omega) (by omega))]
      refine ⟨1, k, rfl, Or.inl ⟨rfl, ?_⟩⟩
      rw [List.drop_eq_nil_of_le (by omega)]
      rfl
    · have k1 : k < L1.length := by omega
      rw [if_neg (nI_ge k1 (by omega))]
      simp only [grd, s1, if_pos s2, h2.1]
      by_cases c : L2.length ≤ k
      · rw [if_pos (nI_le c (by omega))]
        refine ⟨1, k, rfl, Or.inl ⟨rfl, ?_⟩⟩
        rw [List.drop_eq_nil_of_le c, drop_at k1]
        rfl
      · have k2 : k < L2.length := by omega
        rw [if_neg (nI_ge k2 (by omega))]
        obtain ⟨i1, i2⟩ := ixN (s := k) (N := 16) (by omega) (by decide)
        obtain ⟨j1, j2, j3⟩ := ix16 (s := s) (k := k) hs (by omega)
        simp only [i1, if_pos i2, j1, j2, if_pos j3, h1.2 k k1, h2.2 k k2, nI_inc1]
        have q1 := c1 k
        have q2 := c2 k
        rw [drop_at k1, drop_at k2]
        have st : isF (L1.getD k 0 :: L1.drop (k + 1)) (L2.getD k 0 :: L2.drop (k + 1)) = if L1.getD k 0 = L2.getD k 0 then isF (L1.drop (k + 1)) (L2.drop (k + 1)) else decide (L1.getD k 0 < L2.getD k 0) := rfl
        rw [st]
        by_cases w : L1.getD k 0 = L2.getD k 0
        · rw [if_pos (by rw [w]), if_pos w]
          exact ih (d - 1) (k + 1) (by omega) (by omega)
        · rw [if_neg (fun z => w ((nI_eq (by omega) (by omega)).mp z)), if_neg w]
          exact ⟨0, k, rfl, Or.inr ⟨rfl, k1, k2, rfl⟩⟩
theorem ev_isF (n : Nat × Nat) (hn : 30000 ≤ n.1) {s : Nat} (hs : s < 256) {L1 L2 : List Nat} (h1 : Tri y L1) (h2 : RoA y s L2) (b1 : L1.length ≤ 16) (b2 : L2.length ≤ 16) (c1 : ∀ k, L1.getD k 0 < 100) (c2 : ∀ k, L2.getD k 0 < 100) : fX12_isFirst n y (nI s) = some (if isF L1 L2 = true then 1 else 0) := by
  obtain ⟨e, j, e1, e2⟩ := if_lp n hs h1 h2 b1 b2 c1 c2 L1.length 0 n.1 (by omega) (by omega)
  rw [nI_0] at e1
  rw [List.drop_zero, List.drop_zero] at e2
  simp only [fX12_isFirst, bnd, cal, un2, e1]
  rcases e2 with ⟨q1, q2⟩ | ⟨q1, q2, q3, q4⟩
  · rw [q1, q2, if_neg (by decide), if_neg (by decide)]
  · obtain ⟨i1, i2⟩ := ixN (s := j) (N := 16) (by omega) (by decide)
    obtain ⟨j1, j2, j3⟩ := ix16 (s := s) (k := j) hs (by omega)
    have w1 := c1 j
    have w2 := c2 j
    rw [q1, if_pos rfl]
    simp only [grd, i1, if_pos i2, j1, j2, if_pos j3, h1.2 j q2, h2.2 j q3]
    rw [q4]
    by_cases w : L1.getD j 0 < L2.getD j 0
    · rw [if_neg (fun z => by have := (nI_leI (by omega) (by omega)).mp z; omega), decide_eq_true w, if_pos rfl]
    · rw [if_pos ((nI_leI (by omega) (by omega)).mpr (by omega)), decide_eq_false w, if_neg (by decide)]
/-- the row of what is left, behind the tour -/
theorem c1_lp (n : Nat × Nat) {t c : Nat} (ht : t < 256) {R : List Nat} (hR : RoA y t R) (h54 : mI y 54 = nI c) (hl : c + 1 + R.length ≤ 16) : ∀ (d k fuel : Nat) (y' : MS), k + d = R.length → d < fuel → KM [53] [] [] y y' → (∀ j, j < c → mA y' 53 j = mA y 53 j) → (∀ j, j < k → mA y' 53 (c + 1 + j) = nI (R.getD j 0)) → ∃ z, fX12_findRounds_lp170 n (nI t) fuel (nI k) y' = some z ∧ KM [53] [] [] y z ∧ (∀ j, j < c → mA z 53 j = mA y 53 j) ∧ (∀ j, j < R.length → mA z 53 (c + 1 + j) = nI (R.getD j 0)) := by
  intro d k fuel
  induction fuel generalizing d k with
  | zero => intro _ _ hf; exact absurd hf (Nat.not_lt_zero _)
  | succ fuel ih =>
    intro y' hk hf kp hlo hh
    obtain ⟨s1, s2⟩ := ixN (s := t) (N := 256) ht (by decide)
    have e52 : mA y' 52 = mA y 52 := kp.1 52 (by simp)
    have e51 : mA y' 51 = mA y 51 := kp.1 51 (by simp)
    have e54 : mI y' 54 = nI c := by rw [kp.2.2.1 54 (by simp)]; exact h54
    unfold fX12_findRounds_lp170
    simp only [grd, bnd, s1, if_pos s2, e52, hR.1]
    by_cases hd : d = 0
    · rw [if_pos (nI_le (by omega) (by omega))]
      exact ⟨y', rfl, kp, hlo, fun j hj => hh j (by omega)⟩
    · have k1 : k < R.length := by omega
      rw [if_neg (nI_ge k1 (by omega))]
      obtain ⟨j1, j2, j3⟩ := ix16 (s := t) (k := k) ht (by omega)
      obtain ⟨o1, o2⟩ := ixN (s := c + 1 + k) (N := 16) (by omega) (by decide)
      simp only [e54, j1, j2, if_pos j3, e51, hR.2 k k1, nI_inc1, nI_add, o1, if_pos o2]
      refine ih (d - 1) (k + 1) _ (by omega) (by omega) (KM_tr kp (KM_sA y' _ (by simp))) (fun j hj => ?_) (fun j hj => ?_)
      · show upd (mA y' 53) (c + 1 + k) (nI (R.getD k 0)) j = _
        rw [pk_un (by omega)]
        exact hlo j hj
      · show upd (mA y' 53) (c + 1 + k) (nI (R.getD k 0)) (c + 1 + j) = _
        by_cases w : j = k
        · subst w; rw [pk_us]
        · rw [pk_un (by omega)]
          exact hh j (by omega)
/-- the trial row becomes the set's row -/
theorem c2_lp (n : Nat × Nat) {s : Nat} (hs : s < 256) {L : List Nat} (hT : Tri y L) (hl : L.length ≤ 16) : ∀ (d k fuel : Nat) (y' : MS), k + d = L.length → d < fuel → KM [51] [] [] y y' → (∀ j, j < 16 * s → mA y' 51 j = mA y 51 j) → (∀ j, j < k → mA y' 51 (16 * s + j) = nI (L.getD j 0)) → ∃ z, fX12_findRounds_lp308 n (nI s) fuel (nI k) y' = some z ∧ KM [51] [] [] y z ∧ (∀ j, j < 16 * s → mA z 51 j = mA y 51 j) ∧ (∀ j, j < L.length → mA z 51 (16 * s + j) = nI (L.getD j 0)) := by
  intro d k fuel
  induction fuel generalizing d k with
  | zero => intro _ _ hf; exact absurd hf (Nat.not_lt_zero _)
  | succ fuel ih =>
    intro y' hk hf kp hlo hh
    have e53 : mA y' 53 = mA y 53 := kp.1 53 (by simp)
    have e54 : mI y' 54 = nI L.length := by rw [kp.2.2.1 54 (by simp)]; exact hT.1
    unfold fX12_findRounds_lp308
    simp only [bnd, e54]
    by_cases hd : d = 0
    · rw [if_pos (nI_le (by omega) (by omega))]
      exact ⟨y', rfl, kp, hlo, fun j hj => hh j (by omega)⟩
    · have k1 : k < L.length := by omega
      rw [if_neg (nI_ge k1 (by omega))]
      obtain ⟨j1, j2, j3⟩ := ix16 (s := s) (k := k) hs (by omega)
      obtain ⟨o1, o2⟩ := ixN (s := k) (N := 16) (by omega) (by decide)
      simp only [grd, o1, if_pos o2, e53, hT.2 k k1, j1, j2, if_pos j3, nI_inc1]
      refine ih (d - 1) (k + 1) _ (by omega) (by omega) (KM_tr kp (KM_sA y' _ (by simp))) (fun j hj => ?_) (fun j hj => ?_)
      · show upd (mA y' 51) (16 * s + k) (nI (L.getD k 0)) j = _
        rw [pk_un (by omega)]
        exact hlo j hj
      · show upd (mA y' 51) (16 * s + k) (nI (L.getD k 0)) (16 * s + j) = _
        by_cases w : j = k
        · subst w; rw [pk_us]
        · rw [pk_un (by omega)]
          exact hh j (by omega)
end RRW
