/-! PURE: van rounds: the class's rows as numbers, its first round -/
def aI (a : Nat) : Int32 := if a = 8 then -1 else nI a
section VCN
variable {M : Nat → Nat → Nat} {x : MS} {m : Nat} {who g : Nat → Nat} {S : CS} {cap : Nat} {PW : Nat → List Nat}
theorem aI_n {a : Nat} (ha : a < 8) : aI a = nI a ∧ ¬ nI a = -1 := ⟨by unfold aI; rw [if_neg (by omega)], nI_nm (by omega)⟩
theorem ev_leg {α : Type} (n : Nat × Nat) (h : VC M x m who g S) {a k : Nat} (ha : a < m ∨ a = 8) (hk : k < m) (J : Int32 → Option α) : (if aI a = (-1 : Int32) then cal (fX9_fromHouse n S (M 0 10) (nI k)) J else cal (fX9_between n S (M 0 10) (aI a) (nI k)) J) = J (nI (lgF x m who a k)) := by
  have h4 := h.2.2.2.1
  rcases ha with w | w
  · obtain ⟨e1, e2⟩ := aI_n (a := a) (by omega)
    rw [e1, if_neg e2, ev_btw n h w hk]
    rfl
  · subst w
    rw [show aI 8 = -1 from rfl, if_pos rfl, ev_house n h hk]
    rfl
theorem nx_lp (n : Nat × Nat) (h : VC M x m who g S) {s a k : Nat} (hs : s < 2 ^ m) (ha : a < m ∨ a = 8) (hw : Wy M x m who S s) (hf : IsFst m (lgF x m who) s a k) : ∀ (d j fuel : Nat), j + d = k → d < fuel → fX9_nextMember_lp3 n S (M 0 10) (nI s) (aI a) (nI (md m (lgF x m who) s a)) fuel (nI j) = some (0, nI k) := by
  intro d j fuel
  induction fuel generalizing d j with
  | zero => intro _ hf; exact absurd hf (Nat.not_lt_zero _)
  | succ fuel ih =>
    intro hj hfu
    have h4 := h.2.2.2.1
    have p8 := p28 h4
    have km := hf.1
    have jm : j < m := by omega
    unfold fX9_nextMember_lp3
    simp only [grd, bnd, h.1.1, h.2.2.1, if_true]
    rw [if_neg (nI_ge jm (by omega))]
    by_cases c : s.testBit j = true
    · rw [if_neg (fun z => (b_isIn (s := s) (k := j) (by omega) (by omega)).mp z c), ev_leg n h ha jm]
      obtain ⟨i1, i2, i3, i4⟩ := ix8 (s := s) (k := j) (by omega) (by omega)
      have t := t_bit s (by omega) j (by omega) c
      have p2 := Nat.two_pow_pos j
      have b3 := md_c h4 (lg_b h) (show s ^^^ 2 ^ j < 2 ^ m by omega) j
      have b4 := md_c h4 (lg_b h) hs a
      have b2 := lg_b h a j
      simp only [onn, h.1.2.2.2.2.2.1, h.1.2.2.2.2.2.2.2.2.2.2.2.2.1.1, h.1.2.2.2.2.2.2.2.2.2.2.2.2.1.2, i2, i3, if_pos i4, hw j jm c, nI_add, nI_inc1, if_true]
      by_cases w : lgF x m who a j + md m (lgF x m who) (s ^^^ 2 ^ j) j = md m (lgF x m who) s a
      · rw [if_pos (by rw [w])]
        have : ¬ j < k := fun z => hf.2.2 j z ⟨c, w⟩
        rw [show j = k by omega]
      · rw [if_neg (fun z => w ((nI_eq (by omega) (by omega)).mp z))]
        by_cases q : d = 0
        · rw [show j = k by omega] at w
          exact absurd hf.2.1.2 w
        · exact ih (d - 1) (j + 1) (by omega) (by omega)
    · rw [if_pos ((b_isIn (s := s) (k := j) (by omega) (by omega)).mpr c), nI_inc1]
      by_cases q : d = 0
      · rw [show j = k by omega] at c
        exact absurd hf.2.1.1 c
      · exact ih (d - 1) (j + 1) (by omega) (by omega)
theorem nx_0 (n : Nat × Nat) (h : VC M x m who g S) (a due : Int32) : ∀ (d j fuel : Nat), j + d = m → d < fuel → fX9_nextMember_lp3 n S (M 0 10) (nI 0) a due fuel (nI j) = some (1, nI m) := by
  intro d j fuel
  induction fuel generalizing d j with
  | zero => intro _ hf; exact absurd hf (Nat.not_lt_zero _)
  | succ fuel ih =>
    intro hj hfu
    have h4 := h.2.2.2.1
    unfold fX9_nextMember_lp3
    simp only [grd, bnd, h.1.1, h.2.2.1, if_true]
    by_cases hd : d = 0
    · rw [if_pos (nI_le (by omega) (by omega)), show j = m by omega]
    · rw [if_neg (nI_ge (show j < m by omega) (by omega)), if_pos ((b_isIn (s := 0) (k := j) (by omega) (by omega)).mpr (by rw [Nat.zero_testBit]; decide)), nI_inc1]
      exact ih (d - 1) (j + 1) (by omega) (by omega)
theorem ev_nx (n : Nat × Nat) (hn : 30000 ≤ n.1) (h : VC M x m who g S) {s a k : Nat} (hs : s < 2 ^ m) (ha : a < m ∨ a = 8) (hw : Wy M x m who S s) (hf : IsFst m (lgF x m who) s a k) : fX9_nextMember n S (M 0 10) (nI s) (aI a) (nI (md m (lgF x m who) s a)) = some (nI k) := by
  have h4 := h.2.2.2.1
  have := hf.1
  have := nx_lp n h hs ha hw hf k 0 n.1 (by omega) (by omega)
  rw [nI_0] at this
  simp only [fX9_nextMember, bnd, cal, un2, this, if_true]
theorem ev_nx0 (n : Nat × Nat) (hn : 30000 ≤ n.1) (h : VC M x m who g S) (a due : Int32) : fX9_nextMember n S (M 0 10) (nI 0) a due = some (-1) := by
  have h4 := h.2.2.2.1
  have := nx_0 n h a due m 0 n.1 (by omega) (by omega)
  rw [show (nI 0 : Int32) = 0 from nI_0] at this ⊢
  simp only [fX9_nextMember, bnd, cal, un2, this]
  rw [if_neg (by decide)]
theorem rn_lp (n : Nat × Nat) (hn : 30000 ≤ n.1) (h : VC M x m who g S) (hw : ∀ t, t < 2 ^ m → wS g t m ≤ cap → Wy M x m who S t) : ∀ (L fuel acc s a : Nat) (p : List Nat) (due : Int32), L < fuel → L ≤ 9 → acc < 16 ^ (9 - L) → s < 2 ^ m → (a < m ∨ a = 8) → wS g s m ≤ cap → isP m (lgF x m who) s a p → p.length ≤ L → (s ≠ 0 → due = nI (md m (lgF x m who) s a)) → fX9_roundAsNumber_lp19 n S (M 0 10) fuel (lN acc) (nI s) (aI a) due (nI (9 - L)) = some (lN (acc * 16 ^ L + nm L (p.map who))) := by
  intro L
  have h4 := h.2.2.2.1
  have p8 := p28 h4
  induction L with
  | zero =>
    intro fuel acc s a p due hf _ hacc hs ha hc hp hl hdue
    cases fuel with
    | zero => exact absurd hf (Nat.not_lt_zero _)
    | succ fuel =>
      unfold fX9_roundAsNumber_lp19
      rw [if_pos (show (8 : Int32) < nI (9 - 0) by decide)]
      rw [Nat.pow_zero, Nat.mul_one]
      rfl
  | succ L ih =>
    intro fuel acc s a p due hf hL hacc hs ha hc hp hl hdue
    cases fuel with
    | zero => exact absurd hf (Nat.not_lt_zero _)
    | succ fuel =>
      have e9 : 9 - (L + 1) + 1 = 9 - L := by omega
      have pw : 16 ^ (9 - L) = 16 ^ (9 - (L + 1)) * 16 := by rw [← e9, Nat.pow_succ]
      have pb : 16 ^ (9 - (L + 1)) ≤ 16 ^ 8 := Nat.pow_le_pow_right (by decide) (by omega)
      have p16 : (16 : Nat) ^ 8 = 4294967296 := by decide
      have ha40 : acc < 2 ^ 40 := by omega
      unfold fX9_roundAsNumber_lp19
      rw [if_neg (show ¬ (8 : Int32) < nI (9 - (L + 1)) from fun z => by
        have := (nI_ltI (a := 8) (b := 9 - (L + 1)) (by omega) (by omega)).mp z
        omega)]
      have gl : ∀ d q : Nat, (acc * 16 + d) * 16 ^ L + q = acc * 16 ^ (L + 1) + (d * 16 ^ L + q) := fun d q => by
        rw [Nat.pow_succ, Nat.add_mul, Nat.mul_assoc, Nat.mul_comm 16 (16 ^ L)]
        omega
      cases p with
      | nil =>
        have s0 : s = 0 := hp
        subst s0
        simp only [grd, cal, bnd, h.1.1, ev_nx0 n hn h, if_true]
        have hl12 := l_shl (d := 12) ha40 (by decide)
        rw [show (nI 12 : Int32) = 12 from rfl] at hl12
        rw [hl12, nI_inc1, e9]
        have := ih fuel (acc * 16 + 12) 0 a [] due (by omega) (by omega) (by omega) hs ha hc rfl (Nat.zero_le _) hdue
        rw [this]
        congr 2
        rw [gl]
        rfl
      | cons k p =>
        have hF := hp.1
        have km := hF.1
        have s0 : s ≠ 0 := fun z => by
          have := hF.2.1.1
          rw [z, Nat.zero_testBit] at this
          exact absurd this (by decide)
        have wk := h.2.2.2.2.2.1 k km
        have t := t_bit s (by omega) k (by omega) hF.2.1.1
        have p2 := Nat.two_pow_pos k
        rw [hdue s0]
        obtain ⟨i1, i2, i3, i4⟩ := ix8 (s := s) (k := k) (by omega) (by omega)
        obtain ⟨j1, j2⟩ := ixN (s := k) (N := 8) (by omega) (by decide)
        obtain ⟨k1, k2⟩ := aI_n (a := k) (by omega)
        simp only [grd, cal, bnd, onn, h.1.1, ev_nx n hn h hs ha (hw s hs hc) hF, if_neg k2, h.1.2.2.1, h.1.2.2.2.2.2.1, h.1.2.2.2.2.2.2.2.2.2.1.1, h.1.2.2.2.2.2.2.2.2.2.1.2, h.1.2.2.2.2.2.2.2.2.2.2.2.2.1.1, h.1.2.2.2.2.2.2.2.2.2.2.2.2.1.2, j1, if_pos j2, (h.2.2.2.2.1 k km).1, i2, i3, if_pos i4, hw s hs hc k km hF.2.1.1, b_xs (show s < 256 by omega) (show k < 8 by omega), l_shl ha40 (show who k < 16 by omega), nI_inc1, e9, if_true]
        have := ih fuel (acc * 16 + who k) (s ^^^ 2 ^ k) k p (nI (md m (lgF x m who) (s ^^^ 2 ^ k) k)) (by omega) (by omega) (by omega) (by omega) (Or.inl km) (Nat.le_trans (wS_xor hF.2.1.1 m) hc) hp.2 (by simp only [List.length_cons] at hl; omega) (fun _ => rfl)
        rw [k1] at this
        rw [this]
        congr 2
        rw [gl]
        rfl
/-- the rows of the first rounds, as the shortest ways give them -/
def isPW (x : MS) (m : Nat) (who : Nat → Nat) (PW : Nat → List Nat) : Prop := ∀ s, s < 2 ^ m → ∃ p, isP m (lgF x m who) s 8 p ∧ PW s = p.map who
theorem ev_num (n : Nat × Nat) (hn : 30000 ≤ n.1) (h : VC M x m who g S) (hP : isPW x m who PW) (hw : ∀ t, t < 2 ^ m → wS g t m ≤ cap → Wy M x m who S t) (ho : Vo M x m who g cap S) {s : Nat} (hs : s < 2 ^ m) (h0 : s ≠ 0) (hc : wS g s m ≤ cap) : fX9_roundAsNumber n S (M 0 10) (nI s) = some (lN (Nb PW s)) := by
  have h4 := h.2.2.2.1
  have p8 := p28 h4
  obtain ⟨p, hp, ep⟩ := hP s hs
  have al := isP_all h4 p s 8 hs hp
  have pc8 := (t_pc8 s (by omega)).1
  obtain ⟨i1, i2⟩ := ixN (s := s) (N := 256) (by omega) (by decide)
  have o := ho s (by omega) hs
  have o1 : oneR x m who g cap s = md m (lgF x m who) s 8 := by unfold oneR; rw [if_pos hc]
  rw [o1] at o
  have := rn_lp n hn h hw 9 n.1 0 s 8 p (nI (md m (lgF x m who) s 8)) (by omega) (by omega) (by decide) hs (Or.inr rfl) hc hp (by omega) (fun _ => rfl)
  rw [Nat.zero_mul, Nat.zero_add, ← ep, show aI 8 = -1 from rfl, show nI (9 - 9) = 0 from rfl, show lN 0 = 0 from rfl] at this
  simp only [fX9_roundAsNumber, bnd, grd, onn, cal, h.1.1, h.1.2.2.2.2.2.2.1, h.1.2.2.2.2.2.2.2.2.2.2.2.2.2.1.1, h.1.2.2.2.2.2.2.2.2.2.2.2.2.2.1.2, i1, if_pos i2, o, this, if_true]
  rfl
theorem Nb_lt (he : VEn m (Wf m g) (Tf x m who) cap PW) {s : Nat} (hs : s < 2 ^ m) : Nb PW s < 68719476736 := nm_lt 9 (PW s) (he.2.2.2.2.1 s hs)
theorem fr_lp (n : Nat × Nat) (hn : 30000 ≤ n.1) (h : VC M x m who g S) (he : VEn m (Wf m g) (Tf x m who) cap PW) (hP : isPW x m who PW) (hw : ∀ t, t < 2 ^ m → wS g t m ≤ cap → Wy M x m who S t) (ho : Vo M x m who g cap S) (hk : Vk M x m who g cap S (2 ^ m)) {s : Nat} (hs : s < 2 ^ m) (h0 : s ≠ 0) : ∀ (fuel t b f : Nat), t < fuel → f ≤ 1099511627776 → (t &&& (s &&& (s - 1))) = t → ∃ b' f', fX9_firstRound_lp17 n S (M 0 10) (nI s) (nI (s &&& (s - 1))) fuel (nI b) (lN f) (nI t) = some (nI b') ∧ f' ≤ f ∧ ((b' = b ∧ f' = f) ∨ ∃ u, (u &&& (s &&& (s - 1))) = u ∧ u ≠ 0 ∧ cs1 x m who g cap s u = vC x m who g cap s ∧ b' = s ^^^ u ∧ f' = Nb PW (s ^^^ u)) ∧ ∀ u, (u &&& (s &&& (s - 1))) = u → 0 < u → u ≤ t → cs1 x m who g cap s u = vC x m who g cap s → f' ≤ Nb PW (s ^^^ u) := by
  intro fuel
  induction fuel with
  | zero => intro _ _ _ hf; exact absurd hf (Nat.not_lt_zero _)
  | succ fuel ih =>
    intro t b f hf hb ht
    have p8 := p28 h.2.2.2.1
    have O2 : (s &&& (s - 1)) < 256 := and_lt (by omega)
    have t2 : t < 256 := by rw [← ht, Nat.and_comm]; exact and_lt O2
    unfold fX9_firstRound_lp17
    by_cases w : t = 0
    · subst w
      rw [nI_0, if_pos (Int32.le_refl 0)]
      exact ⟨b, f, rfl, Nat.le_refl _, Or.inl ⟨rfl, rfl⟩, fun u _ h1 h2 => absurd h1 (by omega)⟩
    · rw [if_neg (nI_nle (by omega) (by omega))]
      obtain ⟨e, eb, e3, e4, e5, e6⟩ := ev_cost n h he hs h0 ho (fun t h1 h2 => hk t h1 (by omega)) ht
      obtain ⟨i1, i2⟩ := ixN (s := s) (N := 256) (by omega) (by decide)
      have vb := vC_b he hs
      have nl : ((t - 1) &&& (s &&& (s - 1))) ≤ t - 1 := Nat.and_le_left
      simp only [grd, cal, bnd, onn, h.1.1, e, h.1.2.2.2.2.2.2.2.1, h.1.2.2.2.2.2.2.2.2.2.2.2.2.2.2.1.1, h.1.2.2.2.2.2.2.2.2.2.2.2.2.2.2.1.2, i1, if_pos i2, hk s (by omega) hs, b_next t2 (by omega) O2, nI_xor (show s < 256 by omega) t2, if_true]
      by_cases c : cs1 x m who g cap s t = vC x m who g cap s
      · rw [if_pos (by rw [c])]
        have wc : wS g (s ^^^ t) m ≤ cap := by
          by_cases z : wS g (s ^^^ t) m ≤ cap
          · exact z
          · have := (cs_is (x := x) (who := who) he e6).2 z
            omega
        have n0 : s ^^^ t ≠ 0 := fun z => by rw [z, Nat.xor_zero] at e6; omega
        have num := ev_num n hn h hP hw ho (show s ^^^ t < 2 ^ m by omega) n0 wc
        have nlt := Nb_lt he (show s ^^^ t < 2 ^ m by omega)
        simp only [num, lg_cmp_ge]
        by_cases q : f ≤ Nb PW (s ^^^ t)
        · rw [if_pos ((pk_lLE (by omega) (by omega)).mpr q)]
          obtain ⟨b', f', q1, q2, q3, q4⟩ := ih ((t - 1) &&& (s &&& (s - 1))) b f (by omega) hb sub_ok
          refine ⟨b', f', q1, q2, q3, fun u hu u0 ut uc => ?_⟩
          by_cases y : u = t
          · subst y; omega
          · exact q4 u hu u0 (sub_le t _ u ht hu (by omega)) uc
        · rw [if_neg (fun z => q ((pk_lLE (by omega) (by omega)).mp z))]
          obtain ⟨b', f', q1, q2, q3, q4⟩ := ih ((t - 1) &&& (s &&& (s - 1))) (s ^^^ t) (Nb PW (s ^^^ t)) (by omega) (by omega) sub_ok
          refine ⟨b', f', q1, by omega, ?_, fun u hu u0 ut uc => ?_⟩
          · rcases q3 with ⟨z1, z2⟩ | z
            · exact Or.inr ⟨t, ht, w, c, z1, z2⟩
            · exact Or.inr z
          · by_cases y : u = t
            · subst y; exact q2
            · exact q4 u hu u0 (sub_le t _ u ht hu (by omega)) uc
      · rw [if_neg (fun z => c ((nI_eq (by omega) (by omega)).mp z))]
        obtain ⟨b', f', q1, q2, q3, q4⟩ := ih ((t - 1) &&& (s &&& (s - 1))) b f (by omega) hb sub_ok
        refine ⟨b', f', q1, q2, q3, fun u hu u0 ut uc => ?_⟩
        by_cases y : u = t
        · subst y; exact absurd uc c
        · exact q4 u hu u0 (sub_le t _ u ht hu (by omega)) uc
/-- all in one round never costs what a parting into more costs: the cost tells the rounds too -/
theorem one_ne (he : VEn m (Wf m g) (Tf x m who) cap PW) {s u : Nat} (hu : u < 2 ^ m) (h0 : u ≠ 0) : cs1 x m who g cap s 0 ≠ cs1 x m who g cap s u := by
  have h8 := p28 he.1
  obtain ⟨a, b⟩ := CC_mod he u hu
  have b := b h0
  have c := (t_pc8 u (by omega)).1
  unfold cs1
  rw [vC_0]
  have e : vC x m who g cap u = CC (Wf m g) (Tf x m who) cap u := rfl
  rw [e]
  omega
theorem ev_first (n : Nat × Nat) (hn : 30000 ≤ n.1) (h : VC M x m who g S) (he : VEn m (Wf m g) (Tf x m who) cap PW) (hP : isPW x m who PW) (hw : ∀ t, t < 2 ^ m → wS g t m ≤ cap → Wy M x m who S t) (ho : Vo M x m who g cap S) (hk : Vk M x m who g cap S (2 ^ m)) {s : Nat} (hs : s < 2 ^ m) (h0 : s ≠ 0) : ∃ b, fX9_firstRound n S (M 0 10) (nI s) = some (nI b) ∧ Best (Wf m g) (Tf x m who) cap PW s b := by
  have p8 := p28 h.2.2.2.1
  have O2 : (s &&& (s - 1)) < 256 := and_lt (by omega)
  have es : nI s &&& (nI s - 1) = nI (s &&& (s - 1)) := by
    have q : nI s - 1 = nI (s - 1) := by
      have := nI_pred (s - 1)
      rw [show s - 1 + 1 = s by omega] at this
      exact this
    rw [q, nI_and (by omega) (by omega)]
  have vb := vC_b he hs
  obtain ⟨b', f', q1, q2, q3, q4⟩ := fr_lp n hn h he hP hw ho hk hs h0 n.1 (s &&& (s - 1)) s 1099511627776 (by omega) (Nat.le_refl _) (Nat.and_self _)
  refine ⟨b', ?_, ?_⟩
  · unfold fX9_firstRound
    simp only [bnd, cal, es]
    rw [show (1099511627776 : Int64) = lN 1099511627776 from rfl]
    simp only [q1]
  -- a cheapest first round that leaves something was met
  have low : ∀ r, okR (Wf m g) cap s r → vst (Wf m g) (Tf x m who) cap s r = CC (Wf m g) (Tf x m who) cap s → s ^^^ r ≠ 0 → f' ≤ Nb PW r := fun r hr hc w => by
    obtain ⟨a, b, c⟩ := cs_ok (x := x) (who := who) he hs h0 hr
    have d6 := (t_cB s (by omega) r hr.1 hr.2.1).2.2.2.2.2
    have := q4 (s ^^^ r) a (by omega) (by
      have : ((s ^^^ r) &&& (s &&& (s - 1))) ≤ (s &&& (s - 1)) := Nat.and_le_right
      rw [a] at this
      exact this) (by rw [b]; exact hc)
    rw [d6] at this
    exact this
  rcases q3 with ⟨z1, z2⟩ | ⟨u, u1, u2, u3, u4, u5⟩
  · -- none was met: all in one round
    have one : ∀ r, okR (Wf m g) cap s r → vst (Wf m g) (Tf x m who) cap s r = CC (Wf m g) (Tf x m who) cap s → r = s := fun r hr hc => by
      by_cases w : s ^^^ r = 0
      · exact (cs_ok (x := x) (who := who) he hs h0 hr).2.2 w
      · have l := low r hr hc w
        have := okR_lt (by omega) hr
        have := Nb_lt he (show r < 2 ^ m by omega)
        omega
    obtain ⟨r, hr, hc⟩ := CC_at he hs h0
    have e := one r hr hc
    subst e
    rw [z1]
    exact ⟨hr, hc, fun r' hr' hc' => Nat.le_of_eq (congrArg (Nb PW) (one r' hr' hc').symm)⟩
  · have u6 : u < 256 := by rw [← u1, Nat.and_comm]; exact and_lt O2
    obtain ⟨a, b, c⟩ := t_cls s (by omega) h0 u u6 u1
    have us : u ≤ s := by
      have : (u &&& (s &&& (s - 1))) ≤ (s &&& (s - 1)) := Nat.and_le_right
      rw [u1] at this
      exact Nat.le_trans this Nat.and_le_left
    have q := cs_is (x := x) (who := who) he b
    by_cases w : wS g (s ^^^ u) m ≤ cap
    · have q := q.1 w
      rw [u4]
      refine ⟨⟨c, a, w⟩, by rw [← q, u3]; rfl, fun r hr hc => ?_⟩
      rw [← u5]
      by_cases y : s ^^^ r = 0
      · obtain ⟨a2, b2, c2⟩ := cs_ok (x := x) (who := who) he hs h0 hr
        rw [y] at b2
        have v : CC (Wf m g) (Tf x m who) cap s = vC x m who g cap s := rfl
        exact absurd (b2.trans (hc.trans (v.trans u3.symm))) (one_ne he (show u < 2 ^ m by omega) u2)
      · exact low r hr hc y
    · have := q.2 w
      omega
end VCN
