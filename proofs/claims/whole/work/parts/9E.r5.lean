/-! PURE: van rounds: the class's ways -/
def rV0 (M : Nat → Nat → Nat) (S : CS) : Prop := cD S (M 0 10) = 10 ∧ cR S 200 (M 0 10) = some (M 0 11) ∧ cR S 201 (M 0 10) = some (M 0 12) ∧ cR S 202 (M 0 10) = some (M 0 13) ∧ cR S 204 (M 0 10) = some (M 0 14) ∧ cR S 205 (M 0 10) = some (M 0 15) ∧ cR S 206 (M 0 10) = some (M 0 16) ∧ cR S 207 (M 0 10) = some (M 0 17) ∧ cR S 208 (M 0 10) = some (M 0 18) ∧ (cD S (M 0 12) = 48 ∧ cN S (M 0 12) = 8) ∧ (cD S (M 0 13) = 49 ∧ cN S (M 0 13) = 8) ∧ (cD S (M 0 14) = 50 ∧ cN S (M 0 14) = 256) ∧ (cD S (M 0 15) = 51 ∧ cN S (M 0 15) = 2048) ∧ (cD S (M 0 16) = 52 ∧ cN S (M 0 16) = 256) ∧ (cD S (M 0 17) = 53 ∧ cN S (M 0 17) = 256) ∧ cD S (M 0 18) = 54 ∧ cN S (M 0 18) = 15
theorem k_rV0 {S T : CS} {GI GR GA GQ : List Nat} {M : Nat → Nat → Nat} (hk : keep S T GI GR GA GQ) (hR : nin [200, 201, 202, 204, 205, 206, 207, 208] GR = true)  (h : rV0 M S) : rV0 M T := by
  unfold rV0 at h ⊢
  skip
  exact ⟨kD hk h.1 (by decide), kR hk h.1 (by decide) (nin_of hR (by decide)) h.2.1, kR hk h.1 (by decide) (nin_of hR (by decide)) h.2.2.1, kR hk h.1 (by decide) (nin_of hR (by decide)) h.2.2.2.1, kR hk h.1 (by decide) (nin_of hR (by decide)) h.2.2.2.2.1, kR hk h.1 (by decide) (nin_of hR (by decide)) h.2.2.2.2.2.1, kR hk h.1 (by decide) (nin_of hR (by decide)) h.2.2.2.2.2.2.1, kR hk h.1 (by decide) (nin_of hR (by decide)) h.2.2.2.2.2.2.2.1, kR hk h.1 (by decide) (nin_of hR (by decide)) h.2.2.2.2.2.2.2.2.1, ⟨kD hk h.2.2.2.2.2.2.2.2.2.1.1 (by decide), kN hk h.2.2.2.2.2.2.2.2.2.1.1 (by decide) h.2.2.2.2.2.2.2.2.2.1.2⟩, ⟨kD hk h.2.2.2.2.2.2.2.2.2.2.1.1 (by decide), kN hk h.2.2.2.2.2.2.2.2.2.2.1.1 (by decide) h.2.2.2.2.2.2.2.2.2.2.1.2⟩, ⟨kD hk h.2.2.2.2.2.2.2.2.2.2.2.1.1 (by decide), kN hk h.2.2.2.2.2.2.2.2.2.2.2.1.1 (by decide) h.2.2.2.2.2.2.2.2.2.2.2.1.2⟩, ⟨kD hk h.2.2.2.2.2.2.2.2.2.2.2.2.1.1 (by decide), kN hk h.2.2.2.2.2.2.2.2.2.2.2.2.1.1 (by decide) h.2.2.2.2.2.2.2.2.2.2.2.2.1.2⟩, ⟨kD hk h.2.2.2.2.2.2.2.2.2.2.2.2.2.1.1 (by decide), kN hk h.2.2.2.2.2.2.2.2.2.2.2.2.2.1.1 (by decide) h.2.2.2.2.2.2.2.2.2.2.2.2.2.1.2⟩, ⟨kD hk h.2.2.2.2.2.2.2.2.2.2.2.2.2.2.1.1 (by decide), kN hk h.2.2.2.2.2.2.2.2.2.2.2.2.2.2.1.1 (by decide) h.2.2.2.2.2.2.2.2.2.2.2.2.2.2.1.2⟩, kD hk h.2.2.2.2.2.2.2.2.2.2.2.2.2.2.2.1 (by decide), kN hk h.2.2.2.2.2.2.2.2.2.2.2.2.2.2.2.1 (by decide) h.2.2.2.2.2.2.2.2.2.2.2.2.2.2.2.2⟩
theorem rV0_of {M : Nat → Nat → Nat} {S : CS} (h : rVan M S) : rV0 M S := by
  obtain ⟨a, b, c, d, e, f, g, i, j, k, l, m, n, o, p, q, r, s⟩ := h
  exact ⟨a, b, c, d, e, f, g, i, j, k, l, m, n, o, p, q, r⟩
theorem rVan_of {M : Nat → Nat → Nat} {S : CS} (h : rV0 M S) (z : cA S 50 (M 0 14) 0 = 0) : rVan M S := by
  obtain ⟨a, b, c, d, e, f, g, i, j, k, l, m, n, o, p, q, r⟩ := h
  exact ⟨a, b, c, d, e, f, g, i, j, k, l, m, n, o, p, q, r, z⟩
def tbF (m : Nat) (who : Nat → Nat) (a : Nat) : Nat := if a < m then who a else 12
def lgF (x : MS) (m : Nat) (who : Nat → Nat) (a b : Nat) : Nat := nA x 42 (13 * tbF m who a + tbF m who b)
def VC (M : Nat → Nat → Nat) (x : MS) (m : Nat) (who g : Nat → Nat) (S : CS) : Prop := rV0 M S ∧ rRoa M x S ∧ cI S 203 (M 0 10) = nI m ∧ m ≤ 8 ∧ (∀ k, k < m → cA S 48 (M 0 12) k = nI (who k) ∧ cA S 49 (M 0 13) k = nI (g k)) ∧ (∀ k, k < m → who k < 12) ∧ ∀ k, g k ≤ 1000000
def kq (S T : CS) (GI GR GA GQ : List Nat) : Prop := keep S T GI GR GA GQ ∧ nx T = nx S ∧ ∀ q, cD T q = cD S q
theorem kq_rf (S : CS) : kq S S [] [] [] [] := ⟨keep_rf S, rfl, fun _ => rfl⟩
theorem kq_tr {S T U : CS} {a b c d a' b' c' d' : List Nat} (h : kq S T a b c d) (h2 : kq T U a' b' c' d') : kq S U (a ++ a') (b ++ b') (c ++ c') (d ++ d') := ⟨keep_tr h.1 h2.1, h2.2.1.trans h.2.1, fun q => (h2.2.2 q).trans (h.2.2 q)⟩
theorem kq_uI (S : CS) (g a : Nat) (v : Int32) : kq S (uI S g a v) [g] [] [] [] := ⟨keep_uI S g a v, rfl, fun _ => rfl⟩
theorem kq_uA (S : CS) (g a i : Nat) (v : Int32) : kq S (uA S g a i v) [] [] [g] [] := ⟨keep_uA S g a i v, rfl, fun _ => rfl⟩
theorem kqre {U V : CS} {A B C E A' B' C' E' : List Nat} (hk : kq U V A B C E) (a1 : ∀ g ∈ A, g ∈ A') (a2 : ∀ g ∈ B, g ∈ B') (a3 : ∀ g ∈ C, g ∈ C') (a4 : ∀ g ∈ E, g ∈ E') : kq U V A' B' C' E' := ⟨kpre hk.1 a1 a2 a3 a4, hk.2⟩
section KQ
variable {S T : CS} {GI GR GA GQ : List Nat}
theorem qD (hk : kq S T GI GR GA GQ) {q d : Nat} (h : cD S q = d) (h0 : d ≠ 0) : cD T q = d := kD hk.1 h h0
theorem qI (hk : kq S T GI GR GA GQ) {q d g : Nat} {v : Int32} (h : cD S q = d) (h0 : d ≠ 0) (hg : g ∉ GI) (e : cI S g q = v) : cI T g q = v := kI hk.1 h h0 hg e
theorem qA (hk : kq S T GI GR GA GQ) {q d g : Nat} (h : cD S q = d) (h0 : d ≠ 0) (hg : g ∉ GA) (i : Nat) {v : Int32} (e : cA S g q i = v) : cA T g q i = v := kA hk.1 h h0 hg i e
theorem q_list {ae r a n : Nat} {f : Nat → Nat} (hk : kq S T GI GR GA GQ) (h : listOk ae S r a n f) (h1 : gS r ∉ GI) (h2 : gE r ∉ GR) (h3 : 30 + r ∉ GQ) : listOk ae T r a n f := keep_list hk.1 h h1 h2 h3
theorem q_rV0 {M : Nat → Nat → Nat} (hk : kq S T GI GR GA GQ) (hR : nin [200, 201, 202, 204, 205, 206, 207, 208] GR = true) (h : rV0 M S) : rV0 M T := k_rV0 hk.1 hR h
theorem q_rRoa {M : Nat → Nat → Nat} {x x' : MS} (hk : kq S T GI GR GA GQ) (hA : nin [55] GA = true) (hQ : nin [62] GQ = true) (e0 : mA x' 42 = mA x 42) (h : rRoa M x S) : rRoa M x' T := k_rRoa hk.1 hA hQ e0 h
end KQ
theorem VC_k {M : Nat → Nat → Nat} {x : MS} {m : Nat} {who g : Nat → Nat} {S T : CS} {GI GR GA GQ : List Nat} (h : VC M x m who g S) (hk : kq S T GI GR GA GQ) (hI : nin [203] GI = true := by decide) (hR : nin [200, 201, 202, 204, 205, 206, 207, 208] GR = true := by decide) (hA : nin [48, 49, 55] GA = true := by decide) (hQ : nin [62] GQ = true := by decide) : VC M x m who g T := by
  obtain ⟨h1, h2, h3, h4, h5, h6, h7⟩ := h
  refine ⟨q_rV0 hk hR h1, q_rRoa hk ?_ hQ rfl h2, qI hk h1.1 (by decide) (nin_of hI (by decide)) h3, h4, fun k hk2 => ⟨qA hk h1.2.2.2.2.2.2.2.2.2.1.1 (by decide) (nin_of hA (by decide)) k (h5 k hk2).1, qA hk h1.2.2.2.2.2.2.2.2.2.2.1.1 (by decide) (nin_of hA (by decide)) k (h5 k hk2).2⟩, h6, h7⟩
  have := nin_of hA (g := 55) (by decide)
  simp only [nin, List.all_cons, List.all_nil, Bool.and_true, Bool.not_eq_true']
  cases e : GA.contains 55
  · rfl
  · exact absurd (List.contains_iff_mem.mp e) this
theorem isB_nJ {v : Int32} {N : Nat} (hN : N < 2 ^ 31) (h : isB v 0 (nI N) = true) : v = nI v.toNatClampNeg ∧ v.toNatClampNeg ≤ N := by
  simp only [isB, Bool.and_eq_true, decide_eq_true_eq] at h
  obtain ⟨j, hj, e⟩ := nI_of2 (M := nI N) (n := N) (nI_toInt hN) (fun z => by
    rw [Int32.lt_iff_toInt_lt] at z
    have := h.1
    rw [Int32.le_iff_toInt_le] at this
    omega) h.2
  rw [e, nI_clamp (by omega)]
  exact ⟨rfl, hj⟩
section VCS
variable {M : Nat → Nat → Nat} {x : MS} {m : Nat} {who g : Nat → Nat} {S : CS}
theorem tb_lt (h : VC M x m who g S) (a : Nat) : tbF m who a < 13 := by
  unfold tbF
  split
  · have := h.2.2.2.2.2.1 a (by assumption)
    omega
  · omega
theorem lg_ok (h : VC M x m who g S) (a b : Nat) : mA x 42 (13 * tbF m who a + tbF m who b) = nI (lgF x m who a b) ∧ lgF x m who a b ≤ 600 ∧ lgF x m who a b = lgF x m who b a := by
  have q := (h.2.1.2.2.2 _ (tb_lt h a)).2.2.2 _ (tb_lt h b)
  have z := isB_nJ (N := 600) (by decide) q.2.2
  refine ⟨z.1, z.2, ?_⟩
  unfold lgF nA
  rw [q.2.1]
theorem ev_house (n : Nat × Nat) (h : VC M x m who g S) {k : Nat} (hk : k < m) : fX9_fromHouse n S (M 0 10) (nI k) = some (nI (lgF x m who 8 k)) := by
  obtain ⟨hv, hr, h3, h4, h5, h6, h7⟩ := id h
  have q := hr.2.2.2 12 (by decide)
  have w := h6 k hk
  have e := lg_ok h 8 k
  have t8 : tbF m who 8 = 12 := by unfold tbF; rw [if_neg (by omega)]
  have tk : tbF m who k = who k := by unfold tbF; rw [if_pos hk]
  have c12 : (12 : Int32).toNatClampNeg = 12 := by decide
  have i1 : ¬ ((12 : Int32) < 0 ∨ 13 ≤ 12) := by decide
  obtain ⟨i2, i3⟩ := ixN (s := k) (N := 8) (by omega) (by decide)
  obtain ⟨i4, i5⟩ := ixN (s := who k) (N := 13) (by omega) (by decide)
  rw [t8, tk] at e
  simp only [fX9_fromHouse, grd, onn, bnd, hv.1, hv.2.1, hv.2.2.1, hr.1, hr.2.1, c12, if_pos i1, q.1, q.2.1, q.2.2.1, hv.2.2.2.2.2.2.2.2.2.1.1, hv.2.2.2.2.2.2.2.2.2.1.2, i2, if_pos i3, (h5 k hk).1, i4, if_pos i5, (q.2.2.2 (who k) (by omega)).1, e.1, if_true]
theorem ev_btw (n : Nat × Nat) (h : VC M x m who g S) {a b : Nat} (ha : a < m) (hb : b < m) : fX9_between n S (M 0 10) (nI a) (nI b) = some (nI (lgF x m who a b)) := by
  obtain ⟨hv, hr, h3, h4, h5, h6, h7⟩ := id h
  have wa := h6 a ha
  have wb := h6 b hb
  have q := hr.2.2.2 (who a) (by omega)
  have e := lg_ok h a b
  have ta : tbF m who a = who a := by unfold tbF; rw [if_pos ha]
  have tk : tbF m who b = who b := by unfold tbF; rw [if_pos hb]
  obtain ⟨i2, i3⟩ := ixN (s := a) (N := 8) (by omega) (by decide)
  obtain ⟨j2, j3⟩ := ixN (s := b) (N := 8) (by omega) (by decide)
  obtain ⟨i4, i5⟩ := ixN (s := who a) (N := 13) (by omega) (by decide)
  obtain ⟨j4, j5⟩ := ixN (s := who b) (N := 13) (by omega) (by decide)
  rw [ta, tk] at e
  simp only [fX9_between, grd, onn, bnd, hv.1, hv.2.1, hv.2.2.1, hr.1, hr.2.1, q.1, q.2.1, q.2.2.1, hv.2.2.2.2.2.2.2.2.2.1.1, hv.2.2.2.2.2.2.2.2.2.1.2, i2, if_pos i3, j2, if_pos j3, (h5 a ha).1, (h5 b hb).1, i4, if_pos i5, j4, if_pos j5, (q.2.2.2 (who b) (by omega)).1, e.1, if_true]
theorem cA_same (S : CS) (k a i : Nat) (v : Int32) : cA (uA S k a i v) k a = upd (cA S k a) i v := by rw [cA_uA, set1_s, set1_s]
/-! weights -/
theorem we_in (n : Nat × Nat) (h : VC M x m who g S) {j : Nat} (hj : j < m) : ∀ (d l fuel : Nat) (S' : CS), l + d = 2 ^ j → d < fuel → kq S S' [] [] [50] [] → (∀ s, s < 2 ^ j + l → cA S' 50 (M 0 14) s = nI (wS g s m)) → ∃ T, fX9_weighSets_lp16 n (M 0 10) (nI j) (nI (2 ^ j)) fuel (nI l) S' = some T ∧ kq S T [] [] [50] [] ∧ ∀ s, s < 2 ^ (j + 1) → cA T 50 (M 0 14) s = nI (wS g s m) := by
  intro d l fuel
  induction fuel generalizing d l with
  | zero => intro _ _ hf; exact absurd hf (Nat.not_lt_zero _)
  | succ fuel ih =>
    intro S' hl hf hk hw
    have h4 := h.2.2.2.1
    have p8 := b_pow (k := j) (by omega)
    unfold fX9_weighSets_lp16
    by_cases hd : d = 0
    · rw [if_pos (nI_le (by omega) (by omega))]
      exact ⟨S', rfl, hk, fun s hs => hw s (by rw [Nat.pow_succ] at hs; omega)⟩
    · have hlt : l < 2 ^ j := by omega
      have hC := VC_k h hk
      have hv := hC.1
      have eor : l ||| 2 ^ j = 2 ^ j + l := by rw [Nat.or_comm]; exact (Nat.two_pow_add_eq_or_of_lt hlt 1 |> fun z => by rw [Nat.mul_one] at z; exact z.symm)
      have s2 : 2 ^ j + l < 256 := by
        have := Nat.pow_le_pow_right (n := 2) (by decide) (show j + 1 ≤ 8 by omega)
        rw [Nat.pow_succ] at this
        omega
      obtain ⟨i2, i3⟩ := ixN (s := l) (N := 256) (by omega) (by decide)
      obtain ⟨i4, i5⟩ := ixN (s := 2 ^ j + l) (N := 256) (by omega) (by decide)
      obtain ⟨i6, i7⟩ := ixN (s := j) (N := 8) (by omega) (by decide)
      rw [if_neg (nI_ge hlt (by omega))]
      simp only [grd, onn, bnd, hv.1, hv.2.2.2.1, hv.2.2.2.2.1, hv.2.2.2.2.2.2.2.2.2.2.1.1, hv.2.2.2.2.2.2.2.2.2.2.1.2, hv.2.2.2.2.2.2.2.2.2.2.2.1.1, hv.2.2.2.2.2.2.2.2.2.2.2.1.2, i2, if_pos i3, i6, if_pos i7, nI_or (show l < 256 by omega) p8, eor, i4, if_pos i5, hw l (by omega), (hC.2.2.2.2.1 j hj).2, nI_add, nI_inc1, if_true]
      refine ih (d - 1) (l + 1) _ (by omega) (by omega) (kqre (kq_tr hk (kq_uA S' _ _ _ _)) (by simp) (by simp) (by simp) (by simp)) (fun s hs => ?_)
      rw [cA_same]
      by_cases c : s = 2 ^ j + l
      · subst c
        have e := wS_or (g := g) hlt m
        rw [if_pos hj, eor] at e
        rw [pk_us, e]
      · rw [pk_un c]
        exact hw s (by omega)
theorem ev_weigh (n : Nat × Nat) (hn : 30000 ≤ n.1) (h : VC M x m who g S) (h0 : cA S 50 (M 0 14) 0 = 0) : ∃ T, fX9_weighSets n S (M 0 10) = some T ∧ kq S T [] [] [50] [] ∧ ∀ s, s < 2 ^ m → cA T 50 (M 0 14) s = nI (wS g s m) := by
  have h4 := h.2.2.2.1
  have lp : ∀ (d j fuel : Nat) (S' : CS), j + d = m → d < fuel → kq S S' [] [] [50] [] → (∀ s, s < 2 ^ j → cA S' 50 (M 0 14) s = nI (wS g s m)) → ∃ T, fX9_weighSets_lp2 n (M 0 10) fuel (nI j) S' = some T ∧ kq S T [] [] [50] [] ∧ ∀ s, s < 2 ^ m → cA T 50 (M 0 14) s = nI (wS g s m) := by
    intro d j fuel
    induction fuel generalizing d j with
    | zero => intro _ _ hf; exact absurd hf (Nat.not_lt_zero _)
    | succ fuel ih =>
      intro S' hj hf hk hw
      have hC := VC_k h hk
      unfold fX9_weighSets_lp2
      simp only [grd, bnd, hC.1.1, hC.2.2.1, if_true]
      by_cases hd : d = 0
      · rw [if_pos (nI_le (by omega) (by omega))]
        exact ⟨S', rfl, hk, fun s hs => hw s (by rw [show j = m by omega]; exact hs)⟩
      · have hlt : j < m := by omega
        have p8 := b_pow (k := j) (by omega)
        rw [if_neg (nI_ge hlt (by omega)), t_sh j (by omega)]
        obtain ⟨T, e1, e2, e3⟩ := we_in n h hlt (2 ^ j) 0 n.1 S' (by omega) (by omega) hk (fun s hs => hw s hs)
        rw [nI_0] at e1
        simp only [cal, e1, nI_inc1]
        exact ih (d - 1) (j + 1) T (by omega) (by omega) e2 e3
  obtain ⟨T, e1, e2⟩ := lp m 0 n.1 S (by omega) (by omega) (kqre (kq_rf S) (by simp) (by simp) (by simp) (by simp)) (fun s hs => by
    have : s = 0 := by rw [Nat.pow_zero] at hs; omega
    subst this
    rw [h0, wS_0]
    rfl)
  rw [nI_0] at e1
  exact ⟨T, by simp only [fX9_weighSets, bnd, cal, e1], e2⟩
end VCS
