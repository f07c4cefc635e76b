/-! PURE: van rounds: the class's shortest ways and rounds -/
section VCW
variable {M : Nat → Nat → Nat} {x : MS} {m : Nat} {who g : Nat → Nat} {S : CS}
theorem lg_b (h : VC M x m who g S) : ∀ a b, lgF x m who a b ≤ 600 := fun a b => (lg_ok h a b).2.1
/-- the ways of one set stand in the table -/
def Wy (M : Nat → Nat → Nat) (x : MS) (m : Nat) (who : Nat → Nat) (S : CS) (s : Nat) : Prop := ∀ i, i < m → s.testBit i = true → cA S 51 (M 0 15) (8 * s + i) = nI (md m (lgF x m who) (s ^^^ 2 ^ i) i)
theorem md_alt (h : VC M x m who g S) {r a B : Nat} (hB : 100000 ≤ B) (hr : r < 2 ^ m) (h0 : r ≠ 0) : mnF B r.testBit (fun k => md m (lgF x m who) (r ^^^ 2 ^ k) k + lgF x m who k a) m = md m (lgF x m who) r a := by
  obtain ⟨k, hk⟩ := fst_ex h.2.2.2.1 (lg_b h) hr h0 a
  have b := md_c h.2.2.2.1 (lg_b h) hr a
  refine mnF_is ⟨k, hk.1, hk.2.1.1, ?_⟩ (fun j hj hp => ?_) (by omega)
  · have := hk.2.1.2
    have s := (lg_ok h k a).2.2
    omega
  · have := md_k (lg := lgF x m who) h.2.2.2.1 hr hp a
    have s := (lg_ok h j a).2.2
    omega
theorem sw_lp (n : Nat × Nat) (h : VC M x m who g S) {r a : Nat} (ha : a < m) (hr : r < 2 ^ m) (hw : Wy M x m who S r) : ∀ (d k fuel : Nat), k + d = m → d < fuel → fX9_shortestWay_lp23 n S (M 0 10) (nI a) (nI r) fuel (nI (mnF 1048576 r.testBit (fun k => md m (lgF x m who) (r ^^^ 2 ^ k) k + lgF x m who k a) k)) (nI k) = some (nI (mnF 1048576 r.testBit (fun k => md m (lgF x m who) (r ^^^ 2 ^ k) k + lgF x m who k a) m)) := by
  intro d k fuel
  induction fuel generalizing d k with
  | zero => intro _ hf; exact absurd hf (Nat.not_lt_zero _)
  | succ fuel ih =>
    intro hk hf
    have h4 := h.2.2.2.1
    have p8 := p28 h4
    unfold fX9_shortestWay_lp23
    simp only [grd, bnd, h.1.1, h.2.2.1, if_true]
    by_cases hd : d = 0
    · rw [if_pos (nI_le (by omega) (by omega)), show k = m by omega]
    · have hlt : k < m := by omega
      have ih := ih (d - 1) (k + 1) (by omega) (by omega)
      rw [if_neg (nI_ge hlt (by omega))]
      rw [mnF_s] at ih
      by_cases c : r.testBit k = true
      · rw [if_neg (fun z => (b_isIn (s := r) (k := k) (by omega) (by omega)).mp z c)]
        rw [if_pos c] at ih
        obtain ⟨i1, i2, i3, i4⟩ := ix8 (s := r) (k := k) (by omega) (by omega)
        have b1 := mnF_B (B := 1048576) (p := r.testBit) (f := fun k => md m (lgF x m who) (r ^^^ 2 ^ k) k + lgF x m who k a) k
        have b2 := lg_b h k a
        have t := t_bit r (by omega) k (by omega) c
        have p2 := Nat.two_pow_pos k
        have b3 := md_c h4 (lg_b h) (show r ^^^ 2 ^ k < 2 ^ m by omega) k
        simp only [onn, cal, h.1.2.2.2.2.2.1, h.1.2.2.2.2.2.2.2.2.2.2.2.2.1.1, h.1.2.2.2.2.2.2.2.2.2.2.2.2.1.2, i2, i3, if_pos i4, hw k hlt c, ev_btw n h hlt ha, nI_add, nI_inc1, if_true]
        by_cases w : md m (lgF x m who) (r ^^^ 2 ^ k) k + lgF x m who k a < mnF 1048576 r.testBit (fun k => md m (lgF x m who) (r ^^^ 2 ^ k) k + lgF x m who k a) k
        · rw [if_pos ((nI_ltI (by omega) (by omega)).mpr w)]
          rw [Nat.min_eq_right (by omega)] at ih
          exact ih
        · rw [if_neg (fun z => w ((nI_ltI (by omega) (by omega)).mp z))]
          rw [Nat.min_eq_left (by omega)] at ih
          exact ih
      · rw [if_pos ((b_isIn (s := r) (k := k) (by omega) (by omega)).mpr c), nI_inc1]
        rw [if_neg c] at ih
        exact ih
theorem ev_sway (n : Nat × Nat) (hn : 30000 ≤ n.1) (h : VC M x m who g S) {s a : Nat} (hs : s < 2 ^ m) (ha : s.testBit a = true) (hw : Wy M x m who S (s ^^^ 2 ^ a)) : fX9_shortestWay n S (M 0 10) (nI s) (nI a) = some (nI (md m (lgF x m who) (s ^^^ 2 ^ a) a)) := by
  have h4 := h.2.2.2.1
  have p8 := p28 h4
  have am := bit_lt hs ha
  have t := t_bit s (by omega) a (by omega) ha
  have := Nat.two_pow_pos a
  unfold fX9_shortestWay
  simp only [bnd, b_xs (show s < 256 by omega) (show a < 8 by omega)]
  by_cases c : s ^^^ 2 ^ a = 0
  · rw [c, nI_0, if_pos rfl, md_0]
    simp only [grd, cal, h.1.1, ev_house n h am, if_true]
    rw [(lg_ok h a 8).2.2]
  · rw [if_neg (nI_ne0 (by omega) (by omega))]
    have lp := sw_lp n h am (show s ^^^ 2 ^ a < 2 ^ m by omega) hw m 0 n.1 (by omega) (by omega)
    rw [md_alt h (by omega) (by omega) c] at lp
    rw [nI_0, show mnF 1048576 (s ^^^ 2 ^ a).testBit (fun k => md m (lgF x m who) (s ^^^ 2 ^ a ^^^ 2 ^ k) k + lgF x m who k a) 0 = 1048576 from rfl] at lp
    simp only [cal]
    rw [show (1048576 : Int32) = nI 1048576 from rfl, lp]
/-- a round by one set: its ways are laid -/
theorem sr_lp (n : Nat × Nat) (hn : 30000 ≤ n.1) (h : VC M x m who g S) {s : Nat} (hs : s < 2 ^ m) (hw : ∀ a, s.testBit a = true → Wy M x m who S (s ^^^ 2 ^ a)) : ∀ (d k fuel : Nat) (S' : CS), k + d = m → d < fuel → kq S S' [] [] [51] [] → (∀ j, j < 8 * s → cA S' 51 (M 0 15) j = cA S 51 (M 0 15) j) → (∀ i, i < k → s.testBit i = true → cA S' 51 (M 0 15) (8 * s + i) = nI (md m (lgF x m who) (s ^^^ 2 ^ i) i)) → ∃ T, fX9_shortestRound_lp5 n (M 0 10) (nI s) fuel (nI (mnF 1048576 s.testBit (fun k => md m (lgF x m who) (s ^^^ 2 ^ k) k + lgF x m who k 8) k)) (nI k) S' = some (nI (mnF 1048576 s.testBit (fun k => md m (lgF x m who) (s ^^^ 2 ^ k) k + lgF x m who k 8) m), T) ∧ kq S T [] [] [51] [] ∧ (∀ j, j < 8 * s → cA T 51 (M 0 15) j = cA S 51 (M 0 15) j) ∧ Wy M x m who T s := by
  intro d k fuel
  induction fuel generalizing d k with
  | zero => intro _ _ hf; exact absurd hf (Nat.not_lt_zero _)
  | succ fuel ih =>
    intro S' hk hf kp hlow hhas
    have h4 := h.2.2.2.1
    have p8 := p28 h4
    have hC := VC_k h kp
    unfold fX9_shortestRound_lp5
    simp only [grd, bnd, hC.1.1, hC.2.2.1, if_true]
    by_cases hd : d = 0
    · rw [if_pos (nI_le (by omega) (by omega)), show k = m by omega]
      exact ⟨S', rfl, kp, hlow, fun i hi => hhas i (by omega)⟩
    · have hlt : k < m := by omega
      rw [if_neg (nI_ge hlt (by omega))]
      have ih := ih (d - 1) (k + 1)
      rw [mnF_s] at ih
      by_cases c : s.testBit k = true
      · rw [if_neg (fun z => (b_isIn (s := s) (k := k) (by omega) (by omega)).mp z c)]
        rw [if_pos c] at ih
        obtain ⟨i1, i2, i3, i4⟩ := ix8 (s := s) (k := k) (by omega) (by omega)
        have b1 := mnF_B (B := 1048576) (p := s.testBit) (f := fun k => md m (lgF x m who) (s ^^^ 2 ^ k) k + lgF x m who k 8) k
        have b2 := lg_b h k 8
        have t := t_bit s (by omega) k (by omega) c
        have p2 := Nat.two_pow_pos k
        have b3 := md_c h4 (lg_b h) (show s ^^^ 2 ^ k < 2 ^ m by omega) k
        have hw' : Wy M x m who S' (s ^^^ 2 ^ k) := fun i hi hb => by
          rw [hlow _ (by omega)]
          exact hw k c i hi hb
        have kp2 : kq S (uA S' 51 (M 0 15) (8 * s + k) (nI (md m (lgF x m who) (s ^^^ 2 ^ k) k))) [] [] [51] [] := kqre (kq_tr kp (kq_uA S' _ _ _ _)) (by simp) (by simp) (by simp) (by simp)
        have hC2 := VC_k h kp2
        have ho := ev_house n hC2 hlt
        rw [(lg_ok h 8 k).2.2] at ho
        simp only [onn, cal, ev_sway n hn hC hs c hw', hC.1.2.2.2.2.2.1, hC.1.2.2.2.2.2.2.2.2.2.2.2.2.1.1, hC.1.2.2.2.2.2.2.2.2.2.2.2.2.1.2, i2, i3, if_pos i4, ho, nI_add, nI_inc1, if_true]
        have ih := ih (uA S' 51 (M 0 15) (8 * s + k) (nI (md m (lgF x m who) (s ^^^ 2 ^ k) k))) (by omega) (by omega) kp2 (fun j hj => by rw [cA_same, pk_un (by omega)]; exact hlow j hj) (fun i hi hb => by
          rw [cA_same]
          by_cases e : i = k
          · subst e; rw [pk_us]
          · rw [pk_un (by omega)]; exact hhas i (by omega) hb)
        by_cases w : md m (lgF x m who) (s ^^^ 2 ^ k) k + lgF x m who k 8 < mnF 1048576 s.testBit (fun k => md m (lgF x m who) (s ^^^ 2 ^ k) k + lgF x m who k 8) k
        · rw [if_pos ((nI_ltI (by omega) (by omega)).mpr w)]
          rw [Nat.min_eq_right (by omega)] at ih
          exact ih
        · rw [if_neg (fun z => w ((nI_ltI (by omega) (by omega)).mp z))]
          rw [Nat.min_eq_left (by omega)] at ih
          exact ih
      · rw [if_pos ((b_isIn (s := s) (k := k) (by omega) (by omega)).mpr c), nI_inc1]
        rw [if_neg c] at ih
        exact ih S' (by omega) (by omega) kp hlow (fun i hi hb => by
          by_cases e : i = k
          · subst e; exact absurd hb c
          · exact hhas i (by omega) hb)
theorem ev_sround (n : Nat × Nat) (hn : 30000 ≤ n.1) (h : VC M x m who g S) {s : Nat} (hs : s < 2 ^ m) (h0 : s ≠ 0) (hw : ∀ a, s.testBit a = true → Wy M x m who S (s ^^^ 2 ^ a)) : ∃ T, fX9_shortestRound n S (M 0 10) (nI s) = some (nI (md m (lgF x m who) s 8), T) ∧ kq S T [] [] [51] [] ∧ (∀ j, j < 8 * s → cA T 51 (M 0 15) j = cA S 51 (M 0 15) j) ∧ Wy M x m who T s := by
  have h4 := h.2.2.2.1
  obtain ⟨T, e, r⟩ := sr_lp n hn h hs hw m 0 n.1 S (by omega) (by omega) (kqre (kq_rf S) (by simp) (by simp) (by simp) (by simp)) (fun j _ => rfl) (fun i hi => absurd hi (Nat.not_lt_zero _))
  rw [md_alt h (by omega) hs h0, nI_0, show mnF 1048576 s.testBit (fun k => md m (lgF x m who) (s ^^^ 2 ^ k) k + lgF x m who k 8) 0 = 1048576 from rfl] at e
  refine ⟨T, ?_, r⟩
  simp only [fX9_shortestRound, bnd, cal, un2]
  rw [show (1048576 : Int32) = nI 1048576 from rfl, e]
def oneR (x : MS) (m : Nat) (who g : Nat → Nat) (cap s : Nat) : Nat := if wS g s m ≤ cap then md m (lgF x m who) s 8 else 1048576
theorem or_lp (n : Nat × Nat) (hn : 30000 ≤ n.1) (h : VC M x m who g S) {cap : Nat} (hc : cap ≤ 10000000) (hwt : ∀ s, s < 2 ^ m → cA S 50 (M 0 14) s = nI (wS g s m)) : ∀ (d s fuel : Nat) (S' : CS), s + d = 2 ^ m → 0 < s → d < fuel → kq S S' [] [] [51, 52] [] → (∀ t, t < s → wS g t m ≤ cap → Wy M x m who S' t) → (∀ t, 0 < t → t < s → cA S' 52 (M 0 16) t = nI (oneR x m who g cap t)) → ∃ T, fX9_plan_lp21 n (M 0 10) (nI cap) (nI (2 ^ m - 1)) fuel (nI s) S' = some T ∧ kq S T [] [] [51, 52] [] ∧ (∀ t, t < 2 ^ m → wS g t m ≤ cap → Wy M x m who T t) ∧ (∀ t, 0 < t → t < 2 ^ m → cA T 52 (M 0 16) t = nI (oneR x m who g cap t)) := by
  intro d s fuel
  induction fuel generalizing d s with
  | zero => intro _ _ _ hf; exact absurd hf (Nat.not_lt_zero _)
  | succ fuel ih =>
    intro S' hs h0 hf kp hw ho
    have h4 := h.2.2.2.1
    have p8 := p28 h4
    have hC := VC_k h kp
    unfold fX9_plan_lp21
    by_cases hd : d = 0
    · rw [if_pos ((nI_ltI (by omega) (by omega)).mpr (by omega))]
      exact ⟨S', rfl, kp, fun t ht => hw t (by omega), fun t h1 h2 => ho t h1 (by omega)⟩
    · have hlt : s < 2 ^ m := by omega
      rw [if_neg (fun z => by have := (nI_ltI (by omega) (by omega)).mp z; omega)]
      obtain ⟨i1, i2⟩ := ixN (s := s) (N := 256) (by omega) (by decide)
      have wb := wS_b (g := g) h.2.2.2.2.2.2 s m
      have wb2 : wS g s m ≤ 8000000 := Nat.le_trans wb (by omega)
      have e50 : cA S' 50 (M 0 14) s = nI (wS g s m) := qA kp h.1.2.2.2.2.2.2.2.2.2.2.2.1.1 (by decide) (by simp) s (hwt s hlt)
      simp only [grd, onn, bnd, hC.1.1, hC.1.2.2.2.2.1, hC.1.2.2.2.2.2.2.1, hC.1.2.2.2.2.2.2.2.2.2.2.2.1.1, hC.1.2.2.2.2.2.2.2.2.2.2.2.1.2, hC.1.2.2.2.2.2.2.2.2.2.2.2.2.2.1.1, hC.1.2.2.2.2.2.2.2.2.2.2.2.2.2.1.2, i1, if_pos i2, e50, nI_inc1, if_true]
      by_cases c : wS g s m ≤ cap
      · rw [if_pos ((nI_leI (by omega) (by omega)).mpr c)]
        obtain ⟨T, e1, e2, e3, e4⟩ := ev_sround n hn hC hlt (by omega) (fun a ha => by
          have t := t_bit s (by omega) a (by have := bit_lt hlt ha; omega) ha
          have := Nat.two_pow_pos a
          exact hw _ (by omega) (Nat.le_trans (wS_xor ha m) c))
        have kp1 : kq S T [] [] [51, 52] [] := kqre (kq_tr kp e2) (by simp) (by simp) (by simp) (by simp)
        have kp2 : kq S (uA T 52 (M 0 16) s (nI (md m (lgF x m who) s 8))) [] [] [51, 52] [] := kqre (kq_tr kp1 (kq_uA T _ _ _ _)) (by simp) (by simp) (by simp) (by simp)
        have hT := VC_k h kp1
        simp only [cal, un2, e1, hT.1.2.2.2.2.2.2.2.2.2.2.2.2.2.1.1, hT.1.2.2.2.2.2.2.2.2.2.2.2.2.2.1.2, if_pos i2, if_true]
        have n51 : ∀ j, cA (uA T 52 (M 0 16) s (nI (md m (lgF x m who) s 8))) 51 (M 0 15) j = cA T 51 (M 0 15) j := fun j => rfl
        refine ih (d - 1) (s + 1) _ (by omega) (by omega) (by omega) kp2 (fun t ht hwt i hi hb => ?_) (fun t h1 h2 => ?_)
        · rw [n51]
          by_cases q : t = s
          · subst q; exact e4 i hi hb
          · rw [e3 _ (by omega)]; exact hw t (by omega) hwt i hi hb
        · rw [cA_same]
          by_cases q : t = s
          · subst q
            rw [pk_us]
            unfold oneR
            rw [if_pos c]
          · rw [pk_un q, qA e2 hC.1.2.2.2.2.2.2.2.2.2.2.2.2.2.1.1 (by decide) (by simp) t rfl]
            exact ho t h1 (by omega)
      · rw [if_neg (fun z => c ((nI_leI (by omega) (by omega)).mp z))]
        have kp2 : kq S (uA S' 52 (M 0 16) s 1048576) [] [] [51, 52] [] := kqre (kq_tr kp (kq_uA S' _ _ _ _)) (by simp) (by simp) (by simp) (by simp)
        have n51 : ∀ j, cA (uA S' 52 (M 0 16) s 1048576) 51 (M 0 15) j = cA S' 51 (M 0 15) j := fun j => rfl
        refine ih (d - 1) (s + 1) _ (by omega) (by omega) (by omega) kp2 (fun t ht hwt i hi hb => ?_) (fun t h1 h2 => ?_)
        · rw [n51]
          by_cases q : t = s
          · subst q; exact absurd hwt c
          · exact hw t (by omega) hwt i hi hb
        · rw [cA_same]
          by_cases q : t = s
          · subst q
            rw [pk_us]
            unfold oneR
            rw [if_neg c]
            rfl
          · rw [pk_un q]
            exact ho t h1 (by omega)
end VCW
