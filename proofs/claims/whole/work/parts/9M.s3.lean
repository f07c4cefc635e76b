/-! PURE: van rounds: the reference's best row of each set -/
theorem g_t {β : Type} {c : Prop} [Decidable c] {k : Option β} (h : c) : grd c k = k := if_pos h
theorem c_t {α β : Type} {o : Option α} {v : α} {k : α → Option β} (h : o = some v) : cal o k = k v := by rw [h]; rfl
theorem b_t {α β : Type} (v : α) (k : α → β) : bnd v k = k v := rfl
theorem nI_1k (k : Nat) : (1 : Int32) + nI k = nI (1 + k) := by rw [show (1 : Int32) = nI 1 from rfl, nI_add]
section RFR
variable {x y : MS} {m : Nat} {who g : Nat → Nat} {cap : Nat} {PW : Nat → List Nat}
theorem dg_app {L p : List Nat} (h1 : ∀ k, L.getD k 0 < 100) (h2 : ∀ k, p.getD k 0 < 100) (k : Nat) : (L ++ p).getD k 0 < 100 := by
  rw [getD_app]
  split
  · exact h1 k
  · exact h2 _
theorem dg_all {L : List Nat} (h : ∀ d, d ∈ L → d < 12) (k : Nat) : L.getD k 0 < 100 := by
  rw [List.getD_eq_getElem?_getD]
  rcases Nat.lt_or_ge k L.length with c | c
  · rw [List.getElem?_eq_getElem c]
    have := h _ (List.getElem_mem c)
    show L[k] < 100
    omega
  · rw [List.getElem?_eq_none c]
    decide
theorem dg_tl {L : List Nat} (h : ∀ k, L.getD k 0 < 100) (s r k : Nat) : (tl s r L).getD k 0 < 100 := by
  unfold tl
  split
  · rw [List.getD_nil]; decide
  · cases k with
    | zero => rw [List.getD_cons_zero]; decide
    | succ k => rw [List.getD_cons_succ]; exact h k
theorem IsRow_dg (he : VEn m (Wf m g) (Tf x m who) cap PW) : ∀ (f s : Nat) (L : List Nat), s < 2 ^ m → IsRow (Wf m g) (Tf x m who) cap PW f s L → ∀ k, L.getD k 0 < 100
  | 0, s, L, _, h => fun k => by rw [h.2, List.getD_nil]; decide
  | f + 1, s, L, hs, h => by
    have h8 := p28 he.1
    rcases h with h | ⟨h, b, L', h1, h2, h3⟩
    · intro k; rw [h.2, List.getD_nil]; decide
    · have lb := okR_lt (by omega) h1.1
      rw [h3]
      exact dg_app (dg_all (he.2.2.2.2.1 b (by omega))) (dg_tl (IsRow_dg he f (s ^^^ b) L' (by omega) h2) s b)
/-- a trial row: the tour of a first round, behind it the row of what is left -/
theorem tri_go (n : Nat × Nat) (hn : 30000 ≤ n.1) (hx : XE x m who g) (he : VEn m (Wf m g) (Tf x m who) cap PW) (hP : isPW x m who PW) (hy : YE x y m who) (hT : ∀ t, 0 < t → t < 2 ^ m → TR x m who g y t) {s r : Nat} (hs : s < 2 ^ m) (hr : okR (Wf m g) cap s r) {R : List Nat} (hR : IsRow (Wf m g) (Tf x m who) cap PW (pc (s ^^^ r)) (s ^^^ r) R) (hA : RoA y (s ^^^ r) R) : ∃ z, KM [53] [] [54] y z ∧ Tri z (PW r ++ tl s r R) ∧ ∀ J : MS → Option MS, (bnd (sI y 54 (0 : Int32)) (fun S157 => cal (fX12_writeTour n S157 (nI r) (nI m)) (fun S164 => bnd (0 : Int32) (fun x168 => cal (fX12_findRounds_lp170 n (nI (s ^^^ r)) n.1 x168 S164) (fun S170 => bnd J (fun j249 => if nI (s ^^^ r) = 0 then j249 S170 else bnd (mI S170 54) (fun v225 => grd (¬ (v225 < 0 ∨ 16 ≤ v225.toNatClampNeg)) (bnd (sA S170 53 (upd (mA S170 53) v225.toNatClampNeg (12 : Int32))) (fun S230 => bnd (mI S230 54) (fun v233 => grd (¬ (nI (s ^^^ r) < 0 ∨ 256 ≤ s ^^^ r)) (bnd (mA S230 52 (s ^^^ r)) (fun v243 => bnd (sI S230 54 (v233 + ((1 : Int32) + v243))) (fun S246 => j249 S246))))))))))))) = J z := by
  have h8 := p28 he.1
  have lr := okR_lt (by omega) hr
  have tr := t_cB s (by omega) r hr.1 hr.2.1
  have pl := he.2.2.2.1 r (by omega)
  have ps := (t_pc8 s (by omega)).1
  have len := IsRow_len he _ _ R (by omega) hR
  have prn := (t_pc8 (s ^^^ r) (by omega)).2
  obtain ⟨y0, e0⟩ : ∃ z, z = sI y 54 0 := ⟨_, rfl⟩
  have k0 : KM [53] [] [54] y y0 := by rw [e0]; exact KM_sI y _ (by simp)
  have hy0 := YE_k hy k0
  have hT0 : ∀ t, 0 < t → t < 2 ^ m → TR x m who g y0 t := fun t h1 h2 => by rw [e0]; exact hT t h1 h2
  obtain ⟨y1, w1, w2, w3⟩ := ev_wtour n hn hx hy0 hT0 hP (s := r) (by omega) (by omega) (by rw [e0]; rfl) (nI m)
  have hA1 : RoA y1 (s ^^^ r) R := by
    unfold RoA
    rw [w2.1 52 (by simp), w2.1 51 (by simp), k0.1 52 (by simp), k0.1 51 (by simp)]
    exact hA
  have l16 : (PW r).length + 1 + R.length ≤ 16 := by omega
  obtain ⟨y2, c1, c2, c3, c4⟩ := c1_lp n (t := s ^^^ r) (c := (PW r).length) (by omega) hA1 w3.1 l16 R.length 0 n.1 y1 (by omega) (by omega) (KM_rf _ _ _ y1) (fun _ _ => rfl) (fun j hj => absurd hj (Nat.not_lt_zero _))
  rw [nI_0] at c1
  have k2 : KM [53] [] [54] y1 y2 := KM_w c2 (by simp) (by simp) (by simp)
  have t2 : mI y2 54 = nI (PW r).length := by rw [c2.2.2.1 54 (by simp)]; exact w3.1
  by_cases q : s ^^^ r = 0
  · refine ⟨y2, KM_tr k0 (KM_tr w2 k2), ?_, fun J => ?_⟩
    · unfold tl
      rw [if_pos q, List.append_nil]
      exact ⟨t2, fun k hk => by rw [c3 k hk]; exact w3.2 k hk⟩
    · rw [← e0]
      simp only [bnd, c_t w1, c_t c1]
      rw [if_pos (by rw [q]; rfl)]
  · obtain ⟨o1, o2⟩ := ixN (s := (PW r).length) (N := 16) (by omega) (by decide)
    obtain ⟨l1, l2⟩ := ixN (s := s ^^^ r) (N := 256) (by omega) (by decide)
    obtain ⟨y3, e3⟩ : ∃ z, z = sI (sA y2 53 (upd (mA y2 53) (PW r).length 12)) 54 (nI ((PW r).length + (1 + R.length))) := ⟨_, rfl⟩
    have k3 : KM [53] [] [54] y2 y3 := by rw [e3]; exact KM_tr (KM_sA y2 _ (by simp)) (KM_sI _ _ (by simp))
    refine ⟨y3, KM_tr k0 (KM_tr w2 (KM_tr k2 k3)), ?_, fun J => ?_⟩
    · unfold tl
      rw [if_neg q]
      have e53 : mA y3 53 = upd (mA y2 53) (PW r).length 12 := by rw [e3]; rfl
      refine ⟨by rw [e3, List.length_append, List.length_cons, Nat.add_comm R.length 1]; rfl, fun k hk => ?_⟩
      rw [e53, getD_app]
      rw [List.length_append, List.length_cons] at hk
      by_cases c : k = (PW r).length
      · subst c
        rw [pk_us, if_neg (Nat.lt_irrefl _), Nat.sub_self]
        rfl
      · rw [pk_un c]
        by_cases d : k < (PW r).length
        · rw [if_pos d, c3 k d]
          exact w3.2 k d
        · rw [if_neg d]
          obtain ⟨j, ej⟩ : ∃ j, k = (PW r).length + 1 + j := ⟨k - ((PW r).length + 1), by omega⟩
          subst ej
          rw [show (PW r).length + 1 + j - (PW r).length = j + 1 by omega, List.getD_cons_succ]
          exact c4 j (by omega)
    · have a52 : mA (sA y2 53 (upd (mA y2 53) (PW r).length 12)) 52 (s ^^^ r) = nI R.length := by
        show mA y2 52 (s ^^^ r) = _
        rw [c2.1 52 (by simp)]
        exact hA1.1
      have a54 : mI (sA y2 53 (upd (mA y2 53) (PW r).length 12)) 54 = nI (PW r).length := t2
      rw [← e0]
      simp only [bnd, c_t w1, c_t c1]
      rw [if_neg (nI_ne0 (by omega) (by omega))]
      simp only [t2, grd, o1, if_pos o2, a54, if_pos l2, a52, nI_1k, nI_add, ← e3]
/-- a trial row is taken -/
theorem acc_go (n : Nat × Nat) (hn : 30000 ≤ n.1) {s : Nat} (hs : s < 256) {L : List Nat} (hT : Tri y L) (hl : L.length ≤ 16) (u v : Int32) : ∃ z, KM [49, 50, 51, 52] [] [] y z ∧ (∀ j, mA z 49 j = upd (mA y 49) s u j ∧ mA z 50 j = upd (mA y 50) s v j ∧ (j ≠ s → mA z 52 j = mA y 52 j) ∧ (j < 16 * s → mA z 51 j = mA y 51 j)) ∧ RoA z s L ∧ ∀ K : MS → Option MS, (grd (¬ (nI s < 0 ∨ 256 ≤ s)) (bnd (sA y 49 (upd (mA y 49) s u)) (fun S286 => grd (¬ (nI s < 0 ∨ 256 ≤ s)) (bnd (sA S286 50 (upd (mA S286 50) s v)) (fun S294 => bnd (mI S294 54) (fun v301 => grd (¬ (nI s < 0 ∨ 256 ≤ s)) (bnd (sA S294 52 (upd (mA S294 52) s v301)) (fun S304 => bnd (0 : Int32) (fun x306 => cal (fX12_findRounds_lp308 n (nI s) n.1 x306 S304) (fun S308 => K S308)))))))))) = K z := by
  obtain ⟨s1, s2⟩ := ixN (s := s) (N := 256) hs (by decide)
  obtain ⟨w, ew⟩ : ∃ w, w = sA (sA (sA y 49 (upd (mA y 49) s u)) 50 (upd (mA y 50) s v)) 52 (upd (mA y 52) s (nI L.length)) := ⟨_, rfl⟩
  have kw : KM [49, 50, 51, 52] [] [] y w := by rw [ew]; exact KM_tr (KM_sA y _ (by simp)) (KM_tr (KM_sA _ _ (by simp)) (KM_sA _ _ (by simp)))
  have tw : Tri w L := by rw [ew]; exact hT
  have w49 : mA w 49 = upd (mA y 49) s u := by rw [ew]; rfl
  have w50 : mA w 50 = upd (mA y 50) s v := by rw [ew]; rfl
  have w51 : mA w 51 = mA y 51 := by rw [ew]; rfl
  have w52 : mA w 52 = upd (mA y 52) s (nI L.length) := by rw [ew]; rfl
  obtain ⟨z, c1, c2, c3, c4⟩ := c2_lp n hs tw hl L.length 0 n.1 w (by omega) (by omega) (KM_rf _ _ _ w) (fun _ _ => rfl) (fun j hj => absurd hj (Nat.not_lt_zero _))
  rw [nI_0] at c1
  refine ⟨z, KM_tr kw (KM_w c2 (by simp) (by simp) (by simp)), fun j => ⟨?_, ?_, fun hj => ?_, fun hj => ?_⟩, ⟨?_, c4⟩, fun K => ?_⟩
  · rw [c2.1 49 (by simp), w49]
  · rw [c2.1 50 (by simp), w50]
  · rw [c2.1 52 (by simp), w52, pk_un hj]
  · rw [c3 j hj, w51]
  · rw [c2.1 52 (by simp), w52, pk_us]
  · have a54 : mI (sA (sA y 49 (upd (mA y 49) s u)) 50 (upd (mA (sA y 49 (upd (mA y 49) s u)) 50) s v)) 54 = nI L.length := hT.1
    have ew2 : sA (sA (sA y 49 (upd (mA y 49) s u)) 50 (upd (mA (sA y 49 (upd (mA y 49) s u)) 50) s v)) 52 (upd (mA (sA (sA y 49 (upd (mA y 49) s u)) 50 (upd (mA (sA y 49 (upd (mA y 49) s u)) 50) s v)) 52) s (nI L.length)) = w := by rw [ew]; rfl
    simp only [g_t s2, b_t, a54, ew2, c_t c1]
end RFR
