/-! PURE: van rounds: the reference's best row of each set, the loop -/
def Dn (x : MS) (m : Nat) (who g : Nat → Nat) (cap : Nat) (PW : Nat → List Nat) (y : MS) (t : Nat) : Prop := mA y 49 t = nI (vC x m who g cap t / 16) ∧ mA y 50 t = nI (vC x m who g cap t % 16) ∧ ∃ R, IsRow (Wf m g) (Tf x m who) cap PW (pc t) t R ∧ RoA y t R
def vS (x : MS) (m : Nat) (who g : Nat → Nat) (cap s r : Nat) : Nat := vst (Wf m g) (Tf x m who) cap s r
/-- the best of the first rounds above r -/
def Cur (x : MS) (m : Nat) (who g : Nat → Nat) (cap : Nat) (PW : Nat → List Nat) (y : MS) (s r : Nat) : Prop :=
  ((∀ c, okR (Wf m g) cap s c → c ≤ r) ∧ mA y 49 s = nI 100000000 ∧ mA y 50 s = nI 100) ∨ ∃ b R', okR (Wf m g) cap s b ∧ r < b ∧ IsRow (Wf m g) (Tf x m who) cap PW (pc (s ^^^ b)) (s ^^^ b) R' ∧ mA y 49 s = nI (vS x m who g cap s b / 16) ∧ mA y 50 s = nI (vS x m who g cap s b % 16) ∧ RoA y s (PW b ++ tl s b R') ∧ ∀ c, okR (Wf m g) cap s c → r < c → vS x m who g cap s b < vS x m who g cap s c ∨ (vS x m who g cap s c = vS x m who g cap s b ∧ Nb PW b ≤ Nb PW c)
section RFL
variable {x y z : MS} {m : Nat} {who g : Nat → Nat} {cap : Nat} {PW : Nat → List Nat}
theorem RoA_k {t : Nat} {L : List Nat} (h : RoA y t L) (h52 : mA z 52 t = mA y 52 t) (h51 : ∀ k, k < L.length → mA z 51 (16 * t + k) = mA y 51 (16 * t + k)) : RoA z t L := ⟨by rw [h52]; exact h.1, fun k hk => by rw [h51 k hk]; exact h.2 k hk⟩
theorem Dn_k {t : Nat} (he : VEn m (Wf m g) (Tf x m who) cap PW) (ht : t < 2 ^ m) (h : Dn x m who g cap PW y t) (h49 : mA z 49 t = mA y 49 t) (h50 : mA z 50 t = mA y 50 t) (h52 : mA z 52 t = mA y 52 t) (h51 : ∀ k, k < 16 → mA z 51 (16 * t + k) = mA y 51 (16 * t + k)) : Dn x m who g cap PW z t := by
  obtain ⟨a, b, R, c, d⟩ := h
  have h8 := p28 he.1
  have len := IsRow_len he _ t R ht c
  have p := (t_pc8 t (by omega)).1
  exact ⟨by rw [h49]; exact a, by rw [h50]; exact b, R, c, RoA_k d h52 (fun k hk => h51 k (by omega))⟩
/-- trial state: nothing of the tables is changed -/
theorem Dn_t {t : Nat} (k : KM [53] [] [54] y z) (h : Dn x m who g cap PW y t) : Dn x m who g cap PW z t := by
  unfold Dn RoA at h ⊢
  rw [k.1 49 (by simp), k.1 50 (by simp), k.1 51 (by simp), k.1 52 (by simp)]
  exact h
theorem Cur_t {s r : Nat} (k : KM [53] [] [54] y z) (h : Cur x m who g cap PW y s r) : Cur x m who g cap PW z s r := by
  unfold Cur RoA at h ⊢
  rw [k.1 49 (by simp), k.1 50 (by simp), k.1 51 (by simp), k.1 52 (by simp)]
  exact h
/-- the next lesser part: what lies above it is r itself or above r -/
theorem nxt_ge {s r c : Nat} (hs : s < 256) (hr : (r &&& s) = r) (hc : okR (Wf m g) cap s c) (h : ((r - 1) &&& s) < c) : c = r ∨ r < c := by
  have t := t_cB s hs c hc.1 hc.2.1
  rcases Nat.lt_or_ge c r with w | w
  · have := sub_le r s c hr t.2.2.2.1 w
    omega
  · omega
theorem Cur_no {s r : Nat} (hs : s < 256) (h0 : 0 < r) (hr : (r &&& s) = r) (hn : ¬ okR (Wf m g) cap s r) (h : Cur x m who g cap PW y s r) : Cur x m who g cap PW y s ((r - 1) &&& s) := by
  have nl : ((r - 1) &&& s) ≤ r - 1 := Nat.and_le_left
  rcases h with ⟨a, b, c⟩ | ⟨b, R', b1, b2, b3, b4, b5, b6, b7⟩
  · refine Or.inl ⟨fun d hd => ?_, b, c⟩
    rcases Nat.lt_or_ge ((r - 1) &&& s) d with w | w
    · rcases nxt_ge hs hr hd w with e | e
      · subst e; exact absurd hd hn
      · have := a d hd; omega
    · exact w
  · refine Or.inr ⟨b, R', b1, by omega, b3, b4, b5, b6, fun c hc w => ?_⟩
    rcases nxt_ge hs hr hc w with e | e
    · subst e; exact absurd hc hn
    · exact b7 c hc e
theorem vS_is (he : VEn m (Wf m g) (Tf x m who) cap PW) {s r : Nat} (hs : s < 2 ^ m) (hr : okR (Wf m g) cap s r) : vS x m who g cap s r / 16 = Tf x m who r + vC x m who g cap (s ^^^ r) / 16 ∧ vS x m who g cap s r % 16 = 1 + vC x m who g cap (s ^^^ r) % 16 ∧ vS x m who g cap s r < 1000000 ∧ Tf x m who r ≤ 5400 := by
  have h8 := p28 he.1
  have lr := okR_lt (by omega) hr
  have tr := t_cB s (by omega) r hr.1 hr.2.1
  have c := (CC_mod he (s ^^^ r) (by omega)).1
  have ps := (t_pc8 s (by omega)).1
  have pr := (t_pc8 r (by omega))
  have : pc r ≠ 0 := fun w => by have := pr.2 w; omega
  have vb := vC_b he (show s ^^^ r < 2 ^ m by omega)
  have tb := he.2.1 r (by omega)
  unfold vS vst vC at *
  omega
theorem fr_in (n : Nat × Nat) (hn : 30000 ≤ n.1) (hx : XE x m who g) (he : VEn m (Wf m g) (Tf x m who) cap PW) (hP : isPW x m who PW) (hcap : cap ≤ 10000000) {y0 : MS} (hy : YE x y0 m who) (hT : ∀ t, 0 < t → t < 2 ^ m → TR x m who g y0 t) {s : Nat} (hs : s < 2 ^ m) (h0 : s ≠ 0) : ∀ (fuel r : Nat) (y : MS), r < fuel → (r &&& s) = r → KM [49, 50, 51, 52, 53] [] [54] y0 y → (∀ t, t < s → Dn x m who g cap PW y t) → Cur x m who g cap PW y s r → ∃ z, fX12_findRounds_lp56 n (nI m) (nI cap) (nI s) (nI (lo s)) fuel (nI r) y = some z ∧ KM [49, 50, 51, 52, 53] [] [54] y0 z ∧ (∀ t, t < s → Dn x m who g cap PW z t) ∧ Cur x m who g cap PW z s 0 := by
  intro fuel
  induction fuel with
  | zero => intro _ _ hf; exact absurd hf (Nat.not_lt_zero _)
  | succ fuel ih =>
    intro r y hf hr kp hD hC
    have p8 := p28 he.1
    have r2 : r ≤ s := by rw [← hr]; exact Nat.and_le_right
    have lo8 := (t_lo s (by omega) h0).2.2.2.1
    unfold fX12_findRounds_lp56
    by_cases w : r = 0
    · subst w
      rw [nI_0, if_pos (Int32.le_refl 0)]
      exact ⟨y, rfl, kp, hD, hC⟩
    · rw [if_neg (nI_nle (by omega) (by omega)), nI_and (show r < 2 ^ 31 by omega) (show lo s < 2 ^ 31 by omega)]
      have nx := b_next (t := r) (O := s) (by omega) (by omega) (by omega)
      have nl : ((r - 1) &&& s) ≤ r - 1 := Nat.and_le_left
      obtain ⟨r', er⟩ : ∃ r', r' = ((r - 1) &&& s) := ⟨_, rfl⟩
      rw [← er] at nx nl
      have skip : ∀ z, KM [49, 50, 51, 52, 53] [] [54] y0 z → (∀ t, t < s → Dn x m who g cap PW z t) → Cur x m who g cap PW z s r' → ∃ z', bnd (nI r') (fun x348 => fX12_findRounds_lp56 n (nI m) (nI cap) (nI s) (nI (lo s)) fuel x348 z) = some z' ∧ KM [49, 50, 51, 52, 53] [] [54] y0 z' ∧ (∀ t, t < s → Dn x m who g cap PW z' t) ∧ Cur x m who g cap PW z' s 0 := fun z q1 q2 q3 => ih r' z (by omega) (by rw [er]; exact sub_ok) q1 q2 q3
      by_cases c1 : (r &&& lo s) = 0
      · rw [if_pos (by rw [c1]; rfl), nx]
        refine skip y kp hD ?_
        rw [er]
        refine Cur_no (by omega) (by omega) hr (fun z => ?_) hC
        have := z.2.1
        unfold cB at this
        rw [c1] at this
        simp at this
      · have l1 : (r &&& lo s) < 256 := and_lt (by omega)
        rw [if_neg (nI_ne0 (by omega) (by omega))]
        obtain ⟨i1, i2⟩ := ixN (s := r) (N := 256) (by omega) (by decide)
        obtain ⟨s1, s2⟩ := ixN (s := s) (N := 256) (by omega) (by decide)
        have hTy : ∀ t, 0 < t → t < 2 ^ m → TR x m who g y t := fun t h1 h2 => by
          have o := hT t h1 h2
          unfold TR WyR at o ⊢
          rw [kp.1 46 (by simp), kp.1 47 (by simp), kp.2.1 48 (by simp)]
          exact o
        have hyy := YE_k hy kp
        have t48 := (hTy r (by omega) (by omega)).2.2
        have wb : Wf m g r ≤ 8000000 := Nat.le_trans (wS_b hx.2.2.2.1 r m) (by have := hx.1; omega)
        have lc : (lg_cmp (lN (Wf m g r)) (nI cap).toInt64 ≤ 0) ↔ Wf m g r ≤ cap := by
          rw [lg_cmp_le, nI_l (by omega), pk_lLE (by omega) (by omega)]
        simp only [nx, i1, s1]
        rw [g_t i2, b_t, t48]
        by_cases c2 : Wf m g r ≤ cap
        · have hok : okR (Wf m g) cap s r := ⟨by omega, by
            unfold cB
            rw [hr, beq_self_eq_true, Bool.true_and]
            exact bne_iff_ne.mpr c1, c2⟩
          have lr := okR_lt (by omega) hok
          obtain ⟨v1, v2, v3, v4⟩ := vS_is he hs hok
          obtain ⟨l1, l2⟩ := ixN (s := s ^^^ r) (N := 256) (by omega) (by decide)
          obtain ⟨d49, d50, R, hR, hA⟩ := hD (s ^^^ r) (by omega)
          have t47 := (hTy r (by omega) (by omega)).2.1
          have vb := vC_b he (show s ^^^ r < 2 ^ m by omega)
          rw [if_pos (lc.mpr c2), b_t, nI_xor (show s < 256 by omega) (show r < 256 by omega)]
          simp only [l1]
          rw [g_t i2, b_t, t47, g_t l2, b_t, d49, b_t, nI_add, ← v1, g_t l2, b_t, d50, b_t, nI_1k, ← v2, g_t s2, b_t]
          obtain ⟨z, kz, tz, gz⟩ := tri_go n hn hx he hP hyy hTy hs hok hR hA
          have kz2 : KM [49, 50, 51, 52, 53] [] [54] y0 z := KM_tr kp (KM_w kz (by simp) (by simp) (by simp))
          have Dz : ∀ t, t < s → Dn x m who g cap PW z t := fun t ht => Dn_t kz (hD t ht)
          have Cz : Cur x m who g cap PW z s r := Cur_t kz hC
          have z49 : mA z 49 = mA y 49 := kz.1 49 (by simp)
          have z50 : mA z 50 = mA y 50 := kz.1 50 (by simp)
          have len := IsRow_len he _ _ R (by omega) hR
          have pls := he.2.2.2.1 r (by omega)
          have tr := t_cB s (by omega) r hok.1 hok.2.1
          have ps := (t_pc8 s (by omega)).1
          have tln := tl_len s r R
          have prn := (t_pc8 (s ^^^ r) (by omega)).2
          have prr := (t_pc8 r (by omega)).2
          have pr0 : pc r ≠ 0 := fun w => by have := prr w; omega
          have lenL : (PW r ++ tl s r R).length ≤ 15 := by
            rw [List.length_append, pls]
            by_cases q : s ^^^ r = 0
            · have := tln.2 q; omega
            · have : pc (s ^^^ r) ≠ 0 := fun z => q (prn z)
              omega
          -- taken
          have take : (∀ c, okR (Wf m g) cap s c → r' < c → vS x m who g cap s r < vS x m who g cap s c ∨ (vS x m who g cap s c = vS x m who g cap s r ∧ Nb PW r ≤ Nb PW c)) → ∃ z', (grd (¬ (nI s < 0 ∨ 256 ≤ s)) (bnd (sA z 49 (upd (mA z 49) s (nI (vS x m who g cap s r / 16)))) (fun S286 => grd (¬ (nI s < 0 ∨ 256 ≤ s)) (bnd (sA S286 50 (upd (mA S286 50) s (nI (vS x m who g cap s r % 16)))) (fun S294 => bnd (mI S294 54) (fun v301 => grd (¬ (nI s < 0 ∨ 256 ≤ s)) (bnd (sA S294 52 (upd (mA S294 52) s v301)) (fun S304 => bnd (0 : Int32) (fun x306 => cal (fX12_findRounds_lp308 n (nI s) n.1 x306 S304) (fun S308 => bnd (nI r') (fun x348 => fX12_findRounds_lp56 n (nI m) (nI cap) (nI s) (nI (lo s)) fuel x348 S308))))))))))) = some z' ∧ KM [49, 50, 51, 52, 53] [] [54] y0 z' ∧ (∀ t, t < s → Dn x m who g cap PW z' t) ∧ Cur x m who g cap PW z' s 0 := by
            intro hbest
            obtain ⟨u, ku, fu, ru, gu⟩ := acc_go n hn (s := s) (by omega) tz (by omega) (nI (vS x m who g cap s r / 16)) (nI (vS x m who g cap s r % 16))
            rw [gu (fun S308 => bnd (nI r') (fun x348 => fX12_findRounds_lp56 n (nI m) (nI cap) (nI s) (nI (lo s)) fuel x348 S308))]
            refine skip u (KM_tr kz2 (KM_w ku (by simp) (by simp) (by simp))) (fun t ht => ?_) ?_
            · have f := fu t
              refine Dn_k he (by omega) (Dz t ht) (by rw [f.1, pk_un (by omega)]) (by rw [f.2.1, pk_un (by omega)]) (f.2.2.1 (by omega)) (fun k hk => (fu (16 * t + k)).2.2.2 (by omega))
            · have f := fu s
              exact Or.inr ⟨r, R, hok, by omega, hR, by rw [f.1, pk_us], by rw [f.2.1, pk_us], ru, hbest⟩
          rcases hC with ⟨n1, n2, n3⟩ | ⟨b, R', b1, b2, b3, b4, b5, b6, b7⟩
          · -- the first that may be
            rw [n2, if_neg (fun w => by have := (nI_ltI (by omega) (by omega)).mp w; omega), g_t s2, b_t, b_t, if_neg (fun w => by have := (nI_eq (by omega) (by omega)).mp w; omega)]
            try dsimp only
            rw [gz]
            try dsimp only
            rw [g_t s2, b_t, z49, n2, b_t, if_pos ((nI_ltI (by omega) (by omega)).mpr (by omega))]
            try dsimp only
            refine take (fun c hc hl => ?_)
            rcases nxt_ge (show s < 256 by omega) hr hc (by rw [← er]; exact hl) with e | e
            · subst e; exact Or.inr ⟨rfl, Nat.le_refl _⟩
            · have := n1 c hc; omega
          · have lb := okR_lt (by omega) b1
            obtain ⟨w1, w2, w3, w4⟩ := vS_is he hs b1
            rw [b4]
            -- worse
            have worse : vS x m who g cap s b < vS x m who g cap s r → ∃ z', bnd (nI r') (fun x348 => fX12_findRounds_lp56 n (nI m) (nI cap) (nI s) (nI (lo s)) fuel x348 y) = some z' ∧ KM [49, 50, 51, 52, 53] [] [54] y0 z' ∧ (∀ t, t < s → Dn x m who g cap PW z' t) ∧ Cur x m who g cap PW z' s 0 := fun hw => by
              refine skip y kp hD (Or.inr ⟨b, R', b1, by omega, b3, b4, b5, b6, fun c hc hl => ?_⟩)
              rcases nxt_ge (show s < 256 by omega) hr hc (by rw [← er]; exact hl) with e | e
              · subst e; exact Or.inl hw
              · exact b7 c hc e
            have better : vS x m who g cap s r < vS x m who g cap s b ∨ (vS x m who g cap s r = vS x m who g cap s b ∧ Nb PW r < Nb PW b) → ∀ c, okR (Wf m g) cap s c → r' < c → vS x m who g cap s r < vS x m who g cap s c ∨ (vS x m who g cap s c = vS x m who g cap s r ∧ Nb PW r ≤ Nb PW c) := fun hw c hc hl => by
              rcases nxt_ge (show s < 256 by omega) hr hc (by rw [← er]; exact hl) with e | e
              · subst e; exact Or.inr ⟨rfl, Nat.le_refl _⟩
              · rcases b7 c hc e with q | q
                · rcases hw with w | w
                  · exact Or.inl (by omega)
                  · exact Or.inl (by omega)
                · rcases hw with w | w
                  · exact Or.inl (by omega)
                  · exact Or.inr (by omega)
            by_cases q1 : vS x m who g cap s b / 16 < vS x m who g cap s r / 16
            · rw [if_pos ((nI_ltI (by omega) (by omega)).mpr q1)]
              exact worse (by omega)
            · rw [if_neg (fun w => q1 ((nI_ltI (by omega) (by omega)).mp w)), g_t s2, b_t, b_t]
              by_cases q2 : vS x m who g cap s r / 16 = vS x m who g cap s b / 16
              · rw [if_pos (by rw [q2]), g_t s2, b_t, b5]
                by_cases q3 : vS x m who g cap s r % 16 ≤ vS x m who g cap s b % 16
                · rw [if_pos ((nI_leI (by omega) (by omega)).mpr q3)]
                  try dsimp only
                  rw [gz]
                  try dsimp only
                  rw [g_t s2, b_t, z49, b4, b_t, if_neg (fun w => by have := (nI_ltI (by omega) (by omega)).mp w; omega), g_t s2, b_t, z50, b5]
                  by_cases q4 : vS x m who g cap s r % 16 < vS x m who g cap s b % 16
                  · rw [if_pos ((nI_ltI (by omega) (by omega)).mpr q4)]
                    try dsimp only
                    exact take (better (Or.inl (by omega)))
                  · rw [if_neg (fun w => q4 ((nI_ltI (by omega) (by omega)).mp w))]
                    have hbz : RoA z s (PW b ++ tl s b R') := by
                      unfold RoA
                      rw [kz.1 51 (by simp), kz.1 52 (by simp)]
                      exact b6
                    have blen := IsRow_len he _ _ R' (show s ^^^ b < 2 ^ m by omega) b3
                    have bpl := he.2.2.2.1 b (by omega)
                    have btr := t_cB s (by omega) b b1.1 b1.2.1
                    have bln := tl_len s b R'
                    have cmp := row_cmp he hs hok b1 (by omega) R R'
                    have isf := ev_isF n hn (s := s) (by omega) tz hbz (by omega) (by rw [List.length_append, bpl]; omega) (dg_app (dg_all (he.2.2.2.2.1 r (by omega))) (dg_tl (IsRow_dg he _ _ R (by omega) hR) s r)) (dg_app (dg_all (he.2.2.2.2.1 b (by omega))) (dg_tl (IsRow_dg he _ _ R' (by omega) b3) s b))
                    rw [c_t isf, cmp.1]
                    by_cases q5 : Nb PW r < Nb PW b
                    · rw [decide_eq_true q5, if_pos rfl, if_neg (show ¬ (1 : Int32) = 0 by decide)]
                      try dsimp only
                      exact take (better (Or.inr ⟨by omega, q5⟩))
                    · rw [decide_eq_false q5, if_neg (show ¬ false = true by decide), if_pos rfl]
                      have z51 : RoA z s (PW b ++ tl s b R') := hbz
                      refine skip z kz2 Dz (Or.inr ⟨b, R', b1, by omega, b3, by rw [z49]; exact b4, by rw [z50]; exact b5, z51, fun c hc hl => ?_⟩)
                      rcases nxt_ge (show s < 256 by omega) hr hc (by rw [← er]; exact hl) with e | e
                      · subst e; exact Or.inr ⟨by omega, by omega⟩
                      · exact b7 c hc e
                · rw [if_neg (fun w => q3 ((nI_leI (by omega) (by omega)).mp w))]
                  exact worse (by omega)
              · rw [if_neg (fun w => q2 ((nI_eq (by omega) (by omega)).mp w))]
                try dsimp only
                rw [gz]
                try dsimp only
                rw [g_t s2, b_t, z49, b4, b_t, if_pos ((nI_ltI (by omega) (by omega)).mpr (by omega))]
                try dsimp only
                exact take (better (Or.inl (by omega)))
        · rw [if_neg (fun w => c2 (lc.mp w))]
          refine skip y kp hD ?_
          rw [er]
          exact Cur_no (by omega) (by omega) hr (fun z => c2 z.2.2) hC
end RFL
