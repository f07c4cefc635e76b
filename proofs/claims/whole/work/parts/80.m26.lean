/-! PURE: a parcel -/
theorem list_cong {ae : Nat} {S : CS} {r a m : Nat} {f f' : Nat → Nat} (h : listOk ae S r a m f) (e : ∀ i, i < m → f' i = f i) : listOk ae S r a m f' := by
  obtain ⟨h1, h2, h3, b, h4, h5, h6⟩ := h
  refine ⟨h1, h2, h3, b, h4, ?_, fun i hi => by rw [e i hi]; exact h6 i hi⟩
  rcases h5 with h5 | ⟨q0, q1, q2, q3, q4, q5, q6⟩
  · exact Or.inl h5
  · exact Or.inr ⟨q0, q1, q2, q3, q4, fun i hi => by rw [e i hi]; exact q5 i hi, q6⟩
theorem linN_acc (x : MS) (g : Int32) (a : Nat) (z : Int64) : ∀ n, linN x g a z n = z + linN x g a 0 n
  | 0 => by rw [show linN x g a z 0 = z from rfl, show linN x g a 0 0 = 0 from rfl, Int64.add_zero]
  | n + 1 => by rw [linN_s, linN_s, linN_acc x g a z n, Int64.add_assoc]
theorem led_cong2 {x X : MS} {L N : Nat} (e33 : ∀ p, p < N → mA X 33 p = mA x 33 p) (e35 : ∀ p, p ≤ N → nA X 35 p = nA x 35 p) (e8 : mA X 8 = mA x 8) (hm : ∀ p, p < N → nA x 35 (p + 1) ≤ L) (hl : ∀ q, q < L → mA X 38 q = mA x 38 q ∧ mA X 39 q = mA x 39 q) (g f : Int32) : ledN X g f N = ledN x g f N := by
  unfold ledN
  refine it_cong N (fun p hp acc => ?_)
  have := hm p hp
  rw [e33 p hp, e35 p (by omega), e35 (p + 1) (by omega)]
  have el : linN X g (nA x 35 p) acc (nA x 35 (p + 1) - nA x 35 p) = linN x g (nA x 35 p) acc (nA x 35 (p + 1) - nA x 35 p) := by
    unfold linN nA
    refine it_cong _ (fun j hj s => ?_)
    have hj : j < nA x 35 (p + 1) - nA x 35 p := hj
    have q := hl (nA x 35 p + j) (by omega)
    unfold nA at q
    rw [q.1, q.2, e8]
  rw [el]
theorem refN_lets (x : MS) (f d : Int32) : ∀ k : Nat, refN x f d k = -1 ∨ ∃ i, i < k ∧ refN x f d k = nI i ∧ letsB x i f d = true := by
  intro k
  induction k with
  | zero => exact Or.inl rfl
  | succ k ih =>
    rw [refN_s]
    split
    · rename_i c
      exact Or.inr ⟨k, by omega, rfl, c.1⟩
    · rcases ih with h | ⟨i, hi, h⟩
      · exact Or.inl h
      · exact Or.inr ⟨i, by omega, h⟩
section M26
variable {ae k : Nat} {M : Nat → Nat → Nat} {x : MS} {S : CS}
theorem par_old (h : Rep ae k M x S) {T : CS} (hk : keep S T [65, 66, 102, gM 3, gS 3] [gE 3] [41] [33]) {X : MS} {N11 : Nat → Nat} {p : Nat} (hp : p < nN x 32) (e33 : mA X 33 p = mA x 33 p) (e34 : mA X 34 p = mA x 34 p) (e36 : mA X 36 p = mA x 36 p) (e35 : nA X 35 p = nA x 35 p) (e35' : nA X 35 (p + 1) = nA x 35 (p + 1)) (e39 : ∀ q, q < nN x 37 → mA X 39 q = mA x 39 q) (eN : ∀ q, q < nN x 37 → N11 q = M 11 q) : cD T (M 9 p) = 4 ∧ cI T 80 (M 9 p) = mA X 33 p ∧ cI T 81 (M 9 p) = mA X 34 p ∧ cR T 82 (M 9 p) = some (M 10 p) ∧ cI T 83 (M 9 p) = grmN X (nA X 35 p) (nA X 35 (p + 1) - nA X 35 p) ∧ cI T 84 (M 9 p) = mA X 36 p ∧ listOk ae T 4 (M 10 p) (nA X 35 (p + 1) - nA X 35 p) (fun j => N11 (nA X 35 p + j)) := by
  have q := (k_rPar hk (by decide) (by decide) (by decide) rfl rfl rfl rfl rfl rfl rfl rfl (g_rPar h)).1 p hp
  have hln := (g_rOk h).2.2.2.2.2.2.2.2.2.2.1
  have l1 := (hln.2.1 (p + 1) (by omega)).2
  rw [e33, e34, e36, e35, e35']
  have eg : grmN X (nA x 35 p) (nA x 35 (p + 1) - nA x 35 p) = grmN x (nA x 35 p) (nA x 35 (p + 1) - nA x 35 p) := by
    unfold grmN
    refine it_cong _ (fun j hj s => ?_)
    rw [e39 _ (by omega)]
  rw [eg]
  exact ⟨q.1, q.2.1, q.2.2.1, q.2.2.2.1, q.2.2.2.2.1, q.2.2.2.2.2.1, list_cong q.2.2.2.2.2.2 (fun i hi => eN _ (by omega))⟩
def parS (S : CS) (ae : Nat) (a b : Int32) : CS := uI (uI (uI (uI (uR (uR (uI (nw (nw S 4 0) 24 0) (gM 4) (nx S + 1) 0) (gE 4) (nx S + 1) (some ae)) 82 (nx S) (some (nx S + 1))) 83 (nx S) 0) 84 (nx S) 0) 80 (nx S) a) 81 (nx S) b
theorem parS_d0 (S : CS) (ae : Nat) (a b : Int32) : cD (parS S ae a b) (nx S) = 4 := by
  unfold parS
  rw [cD_uI, cD_uI, cD_uI, cD_uI, cD_uR, cD_uR, cD_uI, cD_nw, set1_n _ _ (by rw [nx_nw]; omega), cD_nw, set1_s]
theorem parS_d1 (S : CS) (ae : Nat) (a b : Int32) : cD (parS S ae a b) (nx S + 1) = 24 := by
  unfold parS
  rw [cD_uI, cD_uI, cD_uI, cD_uI, cD_uR, cD_uR, cD_uI, cD_nw, nx_nw, set1_s]
theorem parS_k (S : CS) (hf : frsh S) (ae : Nat) (a b : Int32) : keep S (parS S ae a b) [] [] [] [] := by
  have h0 : cD S (nx S) = 0 := hf _ (Nat.le_refl _)
  have h1 : cD S (nx S + 1) = 0 := hf _ (Nat.le_succ _)
  unfold parS
  refine kn_I ?_ h0 _ _
  refine kn_I ?_ h0 _ _
  refine kn_I ?_ h0 _ _
  refine kn_I ?_ h0 _ _
  refine kn_R ?_ h0 _ _
  refine kn_R ?_ h1 _ _
  refine kn_I ?_ h1 _ _
  exact kn_w (kn_w (keep_rf S) hf 4 0) hf 24 0
theorem ev_par_init (n : Nat × Nat) (S : CS) (a b : Int32) : fX3_init n (nw S 4 0) (nx S) a b = some (parS S n.2 a b, 1 + 0, 3 + 0) := by
  have d1 : cD (nw (nw S 4 0) 24 0) (nx S + 1) = 20 + 4 := by rw [cD_nw, nx_nw, set1_s]
  have d2 : cD (uR (uI (nw (nw S 4 0) 24 0) (gM 4) (nx S + 1) 0) (gE 4) (nx S + 1) (some n.2)) (nx S) = 4 := by
    rw [cD_uR, cD_uI, cD_nw, set1_n _ _ (by rw [nx_nw]; omega), cD_nw, set1_s]
  simp only [fX3_init, fL_init, grd, bnd, cal, adc, nx_nw, d1, d2, if_true, parS]
theorem pk_0 (hae : True) (h : Rep ae k M x S) {f : Nat} : PKb ae M x S (nx S) (nx S + 1) f (nN x 37) 0 x (M 11) (parS S ae (nI f) (mI x 2)) := by
  obtain ⟨hB1, hB2, hB3⟩ := g_rBase h
  have k1 := parS_k S hB1 ae (nI f) (mI x 2)
  have hz : nN x 37 - nN x 37 = 0 := Nat.sub_self _
  have cr : cR (parS S ae (nI f) (mI x 2)) (gE 4) (nx S + 1) = some ae := by
    unfold parS
    rw [cR_uI, cR_uI, cR_uI, cR_uI, cR_uR, set1_n _ _ (by decide), cR_uR, set1_s, set1_s]
  refine ⟨⟨⟨?_, ?_, ?_⟩, kpre k1 (by simp) (by simp) (by simp) (by simp), fun b e => ?_, Kp_refl x, ⟨g_rLim h, g_rNew h, g_rSum h, g_rWho h⟩, k_rLot k1 rfl rfl rfl rfl rfl rfl rfl rfl rfl rfl (g_rLot h), ⟨fun q h1 h2 => by omega, fun q _ => ⟨rfl, rfl⟩⟩, fun i hi g hg => ?_, parS_d0 S _ _ _, ?_, ?_, ?_, ?_, ?_, ⟨parS_d1 S _ _ _, ?_, by omega, ae, cr, Or.inl ⟨hz, rfl⟩, fun i hi => by omega⟩⟩, Nat.le_refl _, ?_⟩
  · exact fun q hq => frsh_nw (S := nw S 4 0) 24 0 (frsh_nw 4 0 hB1) q hq
  · rw [k1.1.1.2 ae hB3]; exact hB2
  · have := k1.1.1.1; omega
  · rw [cr] at e
    injection e with e
    rw [← e]; exact hB2
  · rw [hz, show linN x (nI g) (nN x 37) 0 0 = 0 from rfl]
    have q := g_rHad h i hi
    rw [kA k1 q.1 (by decide) (by simp) g rfl, q.2 g hg]
    split <;> rw [Int64.add_zero]
  · unfold parS
    rw [cI_uI, set1_n _ _ (by decide), cI_uI, set1_s, set1_s]
  · unfold parS
    rw [cI_uI, set1_s, set1_s]
  · unfold parS
    rw [cR_uI, cR_uI, cR_uI, cR_uI, cR_uR, set1_s, set1_s]
  · rw [hz, show grmN x (nN x 37) 0 = 0 from rfl]
    unfold parS
    rw [cI_uI, set1_n _ _ (by decide), cI_uI, set1_n _ _ (by decide), cI_uI, set1_n _ _ (by decide), cI_uI, set1_s, set1_s]
  · unfold parS
    rw [cI_uI, set1_n _ _ (by decide), cI_uI, set1_n _ _ (by decide), cI_uI, set1_s, set1_s]
  · rw [hz, nI_0]
    unfold parS
    rw [cI_uI, set1_n _ _ (by decide), cI_uI, set1_n _ _ (by decide), cI_uI, set1_n _ _ (by decide), cI_uI, set1_n _ _ (by decide), cI_uR, cI_uR, cI_uI, set1_n _ _ (by decide), cI_nw, nx_nw]
    show set1 _ (nx S + 1) 0 (nx S + 1) = 0
    rw [set1_s]
  · rw [cap_is cr, if_pos rfl]; omega
/-- nothing was in it -/
theorem pk_nil (h : Rep ae k M x S) {P Lc f : Nat} {mis : Int32} {z : MS} {N : Nat → Nat} {T : CS} (hpk : PKb ae M x S P Lc f (nN x 37) mis z N T) (hPI : PInv x z (nN x 37 + cntL x + 10)) (h0 : nN z 37 = nN x 37) : Rep ae (k + 1) M z T := by
  obtain ⟨⟨hB, hk, harr, hKp, ⟨rl, rn, rs, rwh⟩, rlot, ⟨lin, lin0⟩, had, hrest⟩, hw, hc⟩ := hpk
  have hO := g_rOk h
  have hk' : keep S T [65, 66, 102, gM 3, gS 3] [gE 3] [41] [33] := kpre hk (by simp) (by simp) (by simp) (by simp)
  have eI : ∀ f, [37, 32].contains f = false → mI z f = mI x f := fun f e => hKp.1 f (fun q => by rw [q] at e; exact absurd e (by decide))
  have eA : ∀ f, [9, 10, 38, 39, 24, 33, 34, 35, 36].contains f = false → mA z f = mA x f := fun f e => hKp.2.1 f (fun q => by rw [q] at e; exact absurd e (by decide)) (fun q => by rw [q] at e; exact absurd e (by decide)) (fun q => by rw [q] at e; exact absurd e (by decide)) (fun q => by rw [q] at e; exact absurd e (by decide))
  have kA : ∀ f, f ≠ 9 → f ≠ 10 → f ≠ 38 → f ≠ 39 → mA z f = mA x f := hKp.2.1
  have e32 : nN z 32 = nN x 32 := Kp_N hKp 32 (by decide)
  have e35 : ∀ p, nA z 35 p = nA x 35 p := fun p => by unfold nA; rw [kA 35 (by decide) (by decide) (by decide) (by decide)]
  have e37 : mI z 37 = mI x 37 := by rw [hPI.2.1, h0]; exact hO.2.2.2.2.2.2.2.2.2.2.2.1.symm
  obtain ⟨q0, q1, q2, q3, q4, q5, q6, q7, q8, q9, q10, q11, q12, q13⟩ := hO
  refine pk_fin h (N9 := M 9) (N10 := M 10) (N11 := M 11) (by
      funext g
      by_cases c9 : g = 9
      · rw [if_pos c9, c9]
      · rw [if_neg c9]
        by_cases c10 : g = 10
        · rw [if_pos c10, c10]
        · rw [if_neg c10]
          by_cases c11 : g = 11
          · rw [if_pos c11, c11]
          · rw [if_neg c11]) hk' eI eA (fun f _ => hKp.2.2.2 f) (fun f _ => hKp.2.2.1 f) hB ?_ rl rn rs rwh rlot ?_ ?_ ?_ ?_
  · refine ⟨(eI 0 rfl).trans q0, Kp_ok hKp (by decide) q1, Kp_ok hKp (by decide) q2, Kp_ok hKp (by decide) q3, Kp_ok hKp (by decide) q4, Kp_ok hKp (by decide) q5, Kp_ok hKp (by decide) q6, Kp_ok hKp (by decide) q7, ⟨Kp_ok hKp (by decide) q8.1, by rw [e32]; have := q8.2; omega⟩, by rw [eI 2 rfl]; exact q9, ⟨by rw [h0]; exact q10.1, fun p hp => ?_, fun p hp => ?_, fun q hq => ?_⟩, hPI.2.1, by have := hPI.2.2.1; omega, by rw [e35, e32, h0]; exact q13⟩
    · rw [e32] at hp
      rw [kA 35 (by decide) (by decide) (by decide) (by decide), e35, h0]; exact q10.2.1 p hp
    · rw [e32] at hp
      rw [e35, e35]; exact q10.2.2.1 p hp
    · rw [h0] at hq
      rw [(lin0 q hq).1]; exact q10.2.2.2 q hq
  · intro i hi
    rw [Kp_N hKp 16 (by decide)] at hi
    refine ⟨kD hk (g_rHad h i hi).1 (by decide), fun g hg => ?_⟩
    have e := had i hi g hg
    rw [h0, Nat.sub_self, show linN z (nI g) (nN x 37) 0 0 = 0 from rfl] at e
    rw [e, e32]
    have : ledN z (nI g) (nI i) (nN x 32) = ledN x (nI g) (nI i) (nN x 32) := led_cong2 (L := nN x 37) (fun p _ => by rw [kA 33 (by decide) (by decide) (by decide) (by decide)]) (fun p _ => e35 p) (kA 8 (by decide) (by decide) (by decide) (by decide)) (fun p hp => (q10.2.1 (p + 1) (by omega)).2) lin0 _ _
    rw [this]
    split <;> rw [Int64.add_zero]
  · exact k_rRef hk (by decide) (by decide) (eI 16 rfl) (eI 20 rfl) (eA 21 rfl) (eA 22 rfl) (eA 23 rfl) (kA 24 (by decide) (by decide) (by decide) (by decide)) (g_rRef h)
  · exact k_rParL hk (by decide) (by decide) (by decide) (hKp.1 32 (by decide)) (g_rParL h)
  · refine ⟨fun p hp => ?_, fun q hq => ?_⟩
    · rw [e32] at hp
      exact par_old h hk' hp (by rw [kA 33 (by decide) (by decide) (by decide) (by decide)]) (by rw [kA 34 (by decide) (by decide) (by decide) (by decide)]) (by rw [kA 36 (by decide) (by decide) (by decide) (by decide)]) (e35 p) (e35 (p + 1)) (fun q hq => (lin0 q hq).2) (fun q _ => rfl)
    · rw [h0] at hq
      rw [(lin0 q hq).1, (lin0 q hq).2]
      exact (k_rPar hk (by decide) (by decide) (by decide) rfl rfl rfl rfl rfl rfl rfl rfl (g_rPar h)).2 q hq
end M26
