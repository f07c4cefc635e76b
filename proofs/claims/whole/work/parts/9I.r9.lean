/-! PURE: van rounds: the class writes the row -/
def RoS (M : Nat → Nat → Nat) (S : CS) (L : List Nat) : Prop := cI S 209 (M 0 10) = nI L.length ∧ ∀ k, k < L.length → cA S 54 (M 0 18) k = nI (L.getD k 0)
theorem getD_app (L p : List Nat) (k : Nat) : (L ++ p).getD k 0 = if k < L.length then L.getD k 0 else p.getD (k - L.length) 0 := by
  rw [List.getD_eq_getElem?_getD, List.getD_eq_getElem?_getD, List.getD_eq_getElem?_getD, List.getElem?_append]
  split <;> rfl
section VCR
variable {M : Nat → Nat → Nat} {x : MS} {m : Nat} {who g : Nat → Nat} {S : CS} {cap : Nat} {PW : Nat → List Nat}
theorem ev_addStop (n : Nat × Nat) (h : rV0 M S) {L : List Nat} (hR : RoS M S L) (hl : L.length < 15) (a : Nat) : ∃ T, fX9_addStop n S (M 0 10) (nI a) = some T ∧ kq S T [209] [] [54] [] ∧ RoS M T (L ++ [a]) := by
  obtain ⟨i1, i2⟩ := ixN (s := L.length) (N := 15) hl (by decide)
  have hv : cD S (M 0 18) = 54 ∧ cN S (M 0 18) = 15 := h.2.2.2.2.2.2.2.2.2.2.2.2.2.2.2
  refine ⟨uI (uA S 54 (M 0 18) L.length (nI a)) 209 (M 0 10) (nI (L.length + 1)), ?_, kqre (kq_tr (kq_uA S _ _ _ _) (kq_uI _ _ _ _)) (by simp) (by simp) (by simp) (by simp), ?_⟩
  · have e : cI (uA S 54 (M 0 18) L.length (nI a)) 209 (M 0 10) = nI L.length := hR.1
    simp only [fX9_addStop, grd, bnd, onn, h.1, hR.1, h.2.2.2.2.2.2.2.2.1, hv.1, hv.2, i1, if_pos i2, e, nI_inc1, if_true]
    rw [if_neg (show ¬ (15 : Int32) ≤ nI L.length from nI_ge (a := L.length) (b := 15) hl (by decide))]
  · refine ⟨by rw [cI_uI, set1_s, set1_s, List.length_append]; rfl, fun k hk => ?_⟩
    have e : cA (uI (uA S 54 (M 0 18) L.length (nI a)) 209 (M 0 10) (nI (L.length + 1))) 54 (M 0 18) k = upd (cA S 54 (M 0 18)) L.length (nI a) k := by
      show cA (uA S 54 (M 0 18) L.length (nI a)) 54 (M 0 18) k = _
      rw [cA_same]
    rw [e, getD_app]
    rw [List.length_append, List.length_singleton] at hk
    by_cases c : k = L.length
    · subst c
      rw [pk_us, if_neg (Nat.lt_irrefl _), Nat.sub_self]
      rfl
    · rw [pk_un c, if_pos (show k < L.length by omega)]
      exact hR.2 k (by omega)
theorem dig {A d q L N : Nat} (hq : q < 16 ^ L) (hd : d < 16) (e : N = A * 16 ^ (L + 1) + (d * 16 ^ L + q)) : N / 16 ^ L % 16 = d ∧ N = (A * 16 + d) * 16 ^ L + q := by
  have p := Nat.pow_pos (n := L) (show 0 < 16 by decide)
  have e2 : N = (A * 16 + d) * 16 ^ L + q := by
    rw [e, Nat.pow_succ, Nat.add_mul, Nat.mul_assoc, Nat.mul_comm (16 ^ L) 16]
    omega
  refine ⟨?_, e2⟩
  rw [e2, Nat.mul_comm, Nat.mul_add_div p, Nat.div_eq_of_lt hq]
  omega
theorem ar_lp (n : Nat × Nat) {N : Nat} (hN : N < 2 ^ 40) : ∀ (L fuel A : Nat) (out p : List Nat) (S' : CS), L < fuel → L ≤ 8 → p.length ≤ L → (∀ d, d ∈ p → d < 12) → N = A * 16 ^ (L + 1) + nm (L + 1) p → rV0 M S' → RoS M S' out → out.length + p.length ≤ 15 → ∃ T, fX9_addRound_lp3 n (M 0 10) (lN N) fuel (nI (4 * L)) S' = some T ∧ kq S' T [209] [] [54] [] ∧ RoS M T (out ++ p) := by
  intro L
  induction L with
  | zero =>
    intro fuel A out p S' hf _ hp _ _ _ hR _
    cases fuel with
    | zero => exact absurd hf (Nat.not_lt_zero _)
    | succ fuel =>
      unfold fX9_addRound_lp3
      rw [show (nI (4 * 0) : Int32) = 0 from rfl, if_pos (Int32.le_refl 0)]
      have : p = [] := List.length_eq_zero_iff.mp (by omega)
      subst this
      exact ⟨S', rfl, kqre (kq_rf S') (by simp) (by simp) (by simp) (by simp), by rw [List.append_nil]; exact hR⟩
  | succ L ih =>
    intro fuel A out p S' hf hL hp hd hNe hv hR hlen
    cases fuel with
    | zero => exact absurd hf (Nat.not_lt_zero _)
    | succ fuel =>
      have e4 : nI (4 * (L + 1)) + -4 = nI (4 * L) := by
        have q : nI (4 * (L + 1)) = nI (4 * L) + 4 := by
          rw [show (4 : Int32) = nI 4 from rfl, nI_add]
          rfl
        rw [q, Int32.add_assoc, show (4 : Int32) + -4 = 0 from by decide, Int32.add_zero]
      unfold fX9_addRound_lp3
      rw [if_neg (nI_nle (by omega) (by omega))]
      simp only [bnd, l_shr hN (show L + 1 < 9 by omega), e4]
      cases p with
      | nil =>
        have hq := nm_lt (L + 1) [] hd
        obtain ⟨q1, q2⟩ := dig (A := A) (d := 12) (q := nm (L + 1) []) (L := L + 1) (N := N) hq (by decide) hNe
        rw [q1, show (nI 12 : Int32) = 12 from rfl, if_pos rfl]
        exact ih fuel (A * 16 + 12) out [] S' (by omega) (by omega) (Nat.zero_le _) hd q2 hv hR (by simpa using hlen)
      | cons d p =>
        have hq := nm_lt (L + 1) p (fun z hz => hd z (List.mem_cons_of_mem _ hz))
        have hd12 := hd d List.mem_cons_self
        obtain ⟨q1, q2⟩ := dig (A := A) (d := d) (q := nm (L + 1) p) (L := L + 1) (N := N) hq (by omega) hNe
        simp only [List.length_cons] at hp hlen
        rw [q1, if_neg (fun z => by
          have := (nI_eq (a := d) (b := 12) (by omega) (by decide)).mp z
          omega)]
        obtain ⟨T, e1, e2, e3⟩ := ev_addStop n hv hR (by omega) d
        have hv2 := q_rV0 e2 (by decide) hv
        obtain ⟨U, f1, f2, f3⟩ := ih fuel (A * 16 + d) (out ++ [d]) p T (by omega) (by omega) (by omega) (fun z hz => hd z (List.mem_cons_of_mem _ hz)) q2 hv2 e3 (by rw [List.length_append, List.length_singleton]; omega)
        simp only [grd, cal, hv.1, e1, f1, if_true]
        refine ⟨U, rfl, kqre (kq_tr e2 f2) (by simp) (by simp) (by simp) (by simp), ?_⟩
        rw [List.append_assoc] at f3
        exact f3
theorem ev_addRound (n : Nat × Nat) (hn : 30000 ≤ n.1) {out p : List Nat} (hp : p.length ≤ 8) (hd : ∀ d, d ∈ p → d < 12) (hv : rV0 M S) (hR : RoS M S out) (hlen : out.length + p.length ≤ 15) : ∃ T, fX9_addRound n S (M 0 10) (lN (nm 9 p)) = some T ∧ kq S T [209] [] [54] [] ∧ RoS M T (out ++ p) := by
  have := nm_lt 9 p hd
  obtain ⟨T, e1, e2⟩ := ar_lp (M := M) n (N := nm 9 p) (Nat.lt_trans this (by decide)) 8 n.1 0 out p S (by omega) (by omega) hp hd (by rw [Nat.zero_mul, Nat.zero_add]) hv hR hlen
  refine ⟨T, ?_, e2⟩
  rw [show (nI (4 * 8) : Int32) = 32 from rfl] at e1
  simp only [fX9_addRound, bnd, cal, e1]
def Em (j s : Nat) (R : List Nat) : List Nat := if s = 0 then [] else if j = 0 then R else 12 :: R
theorem wr_lp (n : Nat × Nat) (hn : 30000 ≤ n.1) (h : VC M x m who g S) (he : VEn m (Wf m g) (Tf x m who) cap PW) (hP : isPW x m who PW) (hw : ∀ t, t < 2 ^ m → wS g t m ≤ cap → Wy M x m who S t) (ho : Vo M x m who g cap S) (hk : Vk M x m who g cap S (2 ^ m)) : ∀ (f fuel s j : Nat) (R out : List Nat) (S' : CS), f < fuel → j + f = 8 → s < 2 ^ m → IsRow (Wf m g) (Tf x m who) cap PW f s R → kq S S' [209] [] [54] [] → RoS M S' out → out.length + (Em j s R).length ≤ 15 → ∃ T, fX9_writeRow_lp9 n (M 0 10) fuel (nI s) (nI j) S' = some T ∧ kq S T [209] [] [54] [] ∧ RoS M T (out ++ Em j s R) := by
  intro f
  induction f with
  | zero =>
    intro fuel s j R out S' hf hj hs hr kp hR hlen
    cases fuel with
    | zero => exact absurd hf (Nat.not_lt_zero _)
    | succ fuel =>
      unfold fX9_writeRow_lp9
      rw [if_pos (show (8 : Int32) ≤ nI j by rw [show j = 8 by omega]; decide)]
      refine ⟨S', rfl, kp, ?_⟩
      unfold Em
      rw [if_pos hr.1, List.append_nil]
      exact hR
  | succ f ih =>
    intro fuel s j R out S' hf hj hs hr kp hR hlen
    cases fuel with
    | zero => exact absurd hf (Nat.not_lt_zero _)
    | succ fuel =>
      have p8 := p28 h.2.2.2.1
      unfold fX9_writeRow_lp9
      rw [if_neg (show ¬ (8 : Int32) ≤ nI j from nI_ge (a := j) (b := 8) (by omega) (by decide))]
      rcases hr with ⟨s0, -⟩ | ⟨s0, b, R', hb, hr', eR⟩
      · rw [if_pos (by rw [s0]; rfl)]
        refine ⟨S', rfl, kp, ?_⟩
        unfold Em
        rw [if_pos s0, List.append_nil]
        exact hR
      · rw [if_neg (nI_ne0 (by omega) (by omega))]
        have lb := okR_lt (by omega) hb.1
        have b0 : b ≠ 0 := fun z => by rw [z, Nat.xor_zero] at lb; omega
        have pl := he.2.2.2.1 b (by omega)
        have pb := (t_pc8 b (by omega)).1
        have emx : Em (j + 1) (s ^^^ b) R' = tl s b R' := by
          unfold Em tl
          by_cases c : s ^^^ b = 0
          · rw [if_pos c, if_pos c]
          · rw [if_neg c, if_neg c, if_neg (by omega)]
        -- behind the house, if need be
        have go : ∀ (S1 : CS) (o1 : List Nat), kq S S1 [209] [] [54] [] → RoS M S1 o1 → o1.length + ((PW b).length + (tl s b R').length) ≤ 15 → ∃ T, grd (cD S1 (M 0 10) = 10) (cal (fX9_firstRound n S1 (M 0 10) (nI s)) (fun q31 => cal (fX9_roundAsNumber n S1 (M 0 10) q31) (fun q40 => cal (fX9_addRound n S1 (M 0 10) q40) (fun S43 => bnd (nI s ^^^ q31) (fun x50 => bnd (nI j + 1) (fun x51 => fX9_writeRow_lp9 n (M 0 10) fuel x50 x51 S43)))))) = some T ∧ kq S T [209] [] [54] [] ∧ RoS M T (o1 ++ (PW b ++ tl s b R')) := by
          intro S1 o1 k1 r1 l1
          have hC := VC_k h k1
          have hw1 : ∀ t, t < 2 ^ m → wS g t m ≤ cap → Wy M x m who S1 t := fun t ht hc i hi hb => qA k1 h.1.2.2.2.2.2.2.2.2.2.2.2.2.1.1 (by decide) (by simp) _ (hw t ht hc i hi hb)
          have ho1 : Vo M x m who g cap S1 := fun t h1 h2 => qA k1 h.1.2.2.2.2.2.2.2.2.2.2.2.2.2.1.1 (by decide) (by simp) t (ho t h1 h2)
          have hk1 : Vk M x m who g cap S1 (2 ^ m) := fun t h1 h2 => qA k1 h.1.2.2.2.2.2.2.2.2.2.2.2.2.2.2.1.1 (by decide) (by simp) t (hk t h1 h2)
          obtain ⟨b', e1, e2⟩ := ev_first n hn hC he hP hw1 ho1 hk1 hs s0
          have eb := Best_u he hs e2 hb
          subst eb
          have num := ev_num n hn hC hP hw1 ho1 (show b' < 2 ^ m by omega) b0 hb.1.2.2
          obtain ⟨T, f1, f2, f3⟩ := ev_addRound n hn (p := PW b') (by omega) (he.2.2.2.2.1 b' (by omega)) hC.1 r1 (by omega)
          have k2 : kq S T [209] [] [54] [] := kqre (kq_tr k1 f2) (by simp) (by simp) (by simp) (by simp)
          obtain ⟨U, g1, g2, g3⟩ := ih fuel (s ^^^ b') (j + 1) R' (o1 ++ PW b') T (by omega) (by omega) (by omega) hr' k2 f3 (by rw [List.length_append, emx]; omega)
          have num : fX9_roundAsNumber n S1 (M 0 10) (nI b') = some (lN (nm 9 (PW b'))) := num
          simp only [grd, cal, bnd, hC.1.1, e1, num, f1, nI_xor (show s < 256 by omega) (show b' < 256 by omega), nI_inc1, g1, if_true]
          refine ⟨U, rfl, g2, ?_⟩
          rw [emx, List.append_assoc] at g3
          exact g3
        unfold Em at hlen ⊢
        rw [if_neg s0] at hlen ⊢
        simp only [bnd]
        by_cases j0 : j = 0
        · rw [if_pos j0] at hlen ⊢
          rw [eR] at hlen ⊢
          rw [List.length_append] at hlen
          rw [if_pos (show nI j ≤ 0 by rw [j0]; decide)]
          exact go S' out kp hR hlen
        · rw [if_neg j0] at hlen ⊢
          rw [eR] at hlen ⊢
          rw [List.length_cons, List.length_append] at hlen
          rw [if_neg (nI_nle (by omega) (by omega))]
          have hC := VC_k h kp
          obtain ⟨T, f1, f2, f3⟩ := ev_addStop n hC.1 hR (by omega) 12
          have f1 : fX9_addStop n S' (M 0 10) (12 : Int32) = some T := f1
          simp only [grd, cal, hC.1.1, f1, if_true]
          obtain ⟨U, g1, g2, g3⟩ := go T (out ++ [12]) (kqre (kq_tr kp f2) (by simp) (by simp) (by simp) (by simp)) f3 (by rw [List.length_append, List.length_singleton]; omega)
          simp only [grd, cal, bnd] at g1
          refine ⟨U, g1, g2, ?_⟩
          rw [List.append_assoc] at g3
          exact g3
theorem ev_wrow (n : Nat × Nat) (hn : 30000 ≤ n.1) (h : VC M x m who g S) (he : VEn m (Wf m g) (Tf x m who) cap PW) (hP : isPW x m who PW) (hw : ∀ t, t < 2 ^ m → wS g t m ≤ cap → Wy M x m who S t) (ho : Vo M x m who g cap S) (hk : Vk M x m who g cap S (2 ^ m)) {s : Nat} {R : List Nat} (hs : s < 2 ^ m) (h0 : s ≠ 0) (hr : IsRow (Wf m g) (Tf x m who) cap PW (pc s) s R) : ∃ T, fX9_writeRow n S (M 0 10) (nI s) = some T ∧ kq S T [209] [] [54] [] ∧ RoS M T R := by
  have p8 := p28 h.2.2.2.1
  have pl := (t_pc8 s (by omega)).1
  have len := IsRow_len he _ s R hs hr
  have k1 : kq S (uI S 209 (M 0 10) 0) [209] [] [54] [] := kqre (kq_uI S _ _ _) (by simp) (by simp) (by simp) (by simp)
  have hC := VC_k h k1
  have em : Em 0 s R = R := by unfold Em; rw [if_neg h0, if_pos rfl]
  obtain ⟨T, e1, e2, e3⟩ := wr_lp n hn h he hP hw ho hk 8 n.1 s 0 R [] (uI S 209 (M 0 10) 0) (by omega) (by omega) hs (IsRow_mono _ 8 s R pl hr) k1 ⟨by rw [cI_uI, set1_s, set1_s]; rfl, fun k hk => absurd hk (Nat.not_lt_zero _)⟩ (by rw [em, List.length_nil]; omega)
  rw [nI_0] at e1
  rw [em, List.nil_append] at e3
  refine ⟨T, ?_, e2, e3⟩
  simp only [fX9_writeRow, grd, bnd, cal, h.1.1, e1, if_true]
end VCR
