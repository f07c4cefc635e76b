/-! PURE: van rounds: the whole call on both sides -/
section RND
variable {x y : MS} {m : Nat} {who g : Nat → Nat} {cap : Nat} {PW : Nat → List Nat}
theorem Cur_fin (he : VEn m (Wf m g) (Tf x m who) cap PW) {s : Nat} (hs : s < 2 ^ m) (h0 : s ≠ 0) (h : Cur x m who g cap PW y s 0) : Dn x m who g cap PW y s := by
  have h8 := p28 he.1
  have lok := lo_ok he hs h0
  have pos : ∀ c, okR (Wf m g) cap s c → 0 < c := fun c hc => (t_cB s (by omega) c hc.1 hc.2.1).2.1
  rcases h with ⟨a, -, -⟩ | ⟨b, R', b1, b2, b3, b4, b5, b6, b7⟩
  · have := a _ lok
    have := pos _ lok
    omega
  · have eq : vS x m who g cap s b = vC x m who g cap s := CC_is he hs h0 ⟨b, b1, rfl⟩ (fun c hc => by
      have := b7 c hc (pos c hc)
      unfold vS at this ⊢
      omega)
    have best : Best (Wf m g) (Tf x m who) cap PW s b := ⟨b1, eq, fun c hc e => by
      have e2 : vS x m who g cap s c = vC x m who g cap s := e
      rcases b7 c hc (pos c hc) with w | w
      · omega
      · exact w.2⟩
    have tb := t_cB s (by omega) b b1.1 b1.2.1
    have pb := (t_pc8 b (by have := b1.1; omega)).2
    have : pc b ≠ 0 := fun w => by have := pb w; omega
    rw [eq] at b4 b5
    refine ⟨b4, b5, _, ?_, b6⟩
    obtain ⟨f, ef⟩ : ∃ f, pc s = f + 1 := ⟨pc s - 1, by omega⟩
    rw [ef]
    exact Or.inr ⟨h0, b, R', best, IsRow_mono _ f _ _ (by omega) b3, rfl⟩
theorem ev_frounds (n : Nat × Nat) (hn : 30000 ≤ n.1) (hx : XE x m who g) (he : VEn m (Wf m g) (Tf x m who) cap PW) (hP : isPW x m who PW) (hcap : cap ≤ 10000000) (hy : YE x y m who) (hT : ∀ t, 0 < t → t < 2 ^ m → TR x m who g y t) : ∃ z, fX12_findRounds n y (nI m) (nI cap) = some z ∧ KM [49, 50, 51, 52, 53] [] [54] y z ∧ ∀ t, t < 2 ^ m → Dn x m who g cap PW z t := by
  have h8 := p28 he.1
  have hm := he.1
  have p1 := Nat.two_pow_pos m
  have lp : ∀ (d s fuel : Nat) (y' : MS), s + d = 2 ^ m → 0 < s → d < fuel → KM [49, 50, 51, 52, 53] [] [54] y y' → (∀ t, t < s → Dn x m who g cap PW y' t) → ∃ z, fX12_findRounds_lp23 n (nI m) (nI cap) fuel (nI s) y' = some z ∧ KM [49, 50, 51, 52, 53] [] [54] y z ∧ ∀ t, t < 2 ^ m → Dn x m who g cap PW z t := by
    intro d s fuel
    induction fuel generalizing d s with
    | zero => intro _ _ _ hf; exact absurd hf (Nat.not_lt_zero _)
    | succ fuel ih =>
      intro y' hs h0 hf kp hD
      unfold fX12_findRounds_lp23
      rw [t_sh m (by omega)]
      by_cases hd : d = 0
      · rw [if_pos (nI_le (by omega) (by omega))]
        exact ⟨y', rfl, kp, fun t ht => hD t (by omega)⟩
      · have hlt : s < 2 ^ m := by omega
        rw [if_neg (nI_ge hlt (by omega)), t_neg s (by omega)]
        obtain ⟨s1, s2⟩ := ixN (s := s) (N := 256) (by omega) (by decide)
        obtain ⟨u, eu⟩ : ∃ u, u = sA (sA y' 49 (upd (mA y' 49) s 100000000)) 50 (upd (mA y' 50) s 100) := ⟨_, rfl⟩
        have ku : KM [49, 50, 51, 52, 53] [] [54] y' u := by rw [eu]; exact KM_tr (KM_sA y' _ (by simp)) (KM_sA _ _ (by simp))
        have u49 : mA u 49 = upd (mA y' 49) s 100000000 := by rw [eu]; rfl
        have u50 : mA u 50 = upd (mA y' 50) s 100 := by rw [eu]; rfl
        have u51 : mA u 51 = mA y' 51 := by rw [eu]; rfl
        have u52 : mA u 52 = mA y' 52 := by rw [eu]; rfl
        obtain ⟨z, e1, e2, e3, e4⟩ := fr_in n hn hx he hP hcap hy hT hlt (by omega) n.1 s u (by omega) (Nat.and_self s) (KM_tr kp ku) (fun t ht => Dn_k he (by omega) (hD t ht) (by rw [u49, pk_un (by omega)]) (by rw [u50, pk_un (by omega)]) (by rw [u52]) (fun k _ => by rw [u51])) (Or.inl ⟨fun c hc => (okR_lt (by omega) hc).1, by rw [u49, pk_us]; rfl, by rw [u50, pk_us]; rfl⟩)
        have m50 : mA (sA y' 49 (upd (mA y' 49) s 100000000)) 50 = mA y' 50 := rfl
        simp only [bnd, grd, cal, s1, if_pos s2, m50, ← eu, e1, nI_inc1]
        refine ih (d - 1) (s + 1) z (by omega) (by omega) (by omega) e2 (fun t ht => ?_)
        by_cases q : t = s
        · subst q; exact Cur_fin he hlt (by omega) e4
        · exact e3 t (by omega)
  obtain ⟨u, eu⟩ : ∃ u, u = sA (sA (sA y 49 (upd (mA y 49) 0 0)) 50 (upd (mA y 50) 0 0)) 52 (upd (mA y 52) 0 0) := ⟨_, rfl⟩
  have ku : KM [49, 50, 51, 52, 53] [] [54] y u := by rw [eu]; exact KM_tr (KM_sA y _ (by simp)) (KM_tr (KM_sA _ _ (by simp)) (KM_sA _ _ (by simp)))
  obtain ⟨z, e1, e2⟩ := lp (2 ^ m - 1) 1 n.1 u (by omega) (by omega) (by omega) ku (fun t ht => by
    have : t = 0 := by omega
    subst this
    have p0 : pc 0 = 0 := rfl
    refine ⟨by rw [eu, vC_0]; rfl, by rw [eu, vC_0]; rfl, [], by rw [p0]; exact ⟨rfl, rfl⟩, by rw [eu]; rfl, fun k hk => absurd hk (Nat.not_lt_zero _)⟩)
  have e1 : fX12_findRounds_lp23 n (nI m) (nI cap) n.1 1 u = some z := e1
  refine ⟨z, ?_, e2⟩
  have i0 : ¬ ((0 : Int32) < 0 ∨ 256 ≤ 0) := by decide
  have c0 : (0 : Int32).toNatClampNeg = 0 := by decide
  simp only [fX12_findRounds, bnd, cal, g_t i0, c0]
  rw [show sA (sA (sA y 49 (upd (mA y 49) 0 0)) 50 (upd (mA (sA y 49 (upd (mA y 49) 0 0)) 50) 0 0)) 52 (upd (mA (sA (sA y 49 (upd (mA y 49) 0 0)) 50 (upd (mA (sA y 49 (upd (mA y 49) 0 0)) 50) 0 0)) 52) 0 0) = u by rw [eu]; rfl, e1]
/-- who has a load, and whether one is too heavy -/
theorem wh_lp (n : Nat × Nat) {f : Nat → Nat} (hF : ∀ t, mA y 43 t = nI (f t)) (hb : ∀ t, f t ≤ 1000000) (hcap : cap ≤ 10000000) (h8 : (WL (mA y 43) 12).length ≤ 8) : ∀ (d i fuel : Nat) (y' : MS), i + d = 12 → d < fuel → KM [45] [] [] y y' → (∀ k, k < (WL (mA y 43) i).length → mA y' 45 k = nI ((WL (mA y 43) i).getD k 0)) → ∃ z, fX12_rounds_lp44 n (nI cap) fuel (nI (WL (mA y 43) i).length) (if mxF f i ≤ cap then 0 else 1) (nI i) y' = some (nI (WL (mA y 43) 12).length, (if mxF f 12 ≤ cap then 0 else 1), z) ∧ KM [45] [] [] y z ∧ (∀ k, k < (WL (mA y 43) 12).length → mA z 45 k = nI ((WL (mA y 43) 12).getD k 0)) := by
  intro d i fuel
  induction fuel generalizing d i with
  | zero => intro _ _ hf; exact absurd hf (Nat.not_lt_zero _)
  | succ fuel ih =>
    intro y' hi hf kp hh
    have e43 : mA y' 43 = mA y 43 := kp.1 43 (by simp)
    unfold fX12_rounds_lp44
    by_cases hd : d = 0
    · have e12 : i = 12 := by omega
      subst e12
      rw [if_pos (show (12 : Int32) ≤ nI 12 by decide)]
      exact ⟨y', rfl, kp, hh⟩
    · rw [if_neg (show ¬ (12 : Int32) ≤ nI i from nI_ge (a := i) (b := 12) (by omega) (by decide))]
      obtain ⟨i1, i2⟩ := ixN (s := i) (N := 12) (by omega) (by decide)
      have bi := hb i
      simp only [grd, bnd, i1, if_pos i2, e43, nI_inc1]
      have ih := ih (d - 1) (i + 1)
      rw [WL_s] at ih
      have mxs : mxF f (i + 1) = if mxF f i < f i then f i else mxF f i := rfl
      by_cases c : mA y 43 i ≤ 0
      · rw [if_pos c] at ih ⊢
        have f0 : f i = 0 := by
          rw [hF i] at c
          rcases Nat.eq_zero_or_pos (f i) with w | w
          · exact w
          · exact absurd c (nI_nle w (by omega))
        rw [mxs, if_neg (show ¬ mxF f i < f i by omega)] at ih
        exact ih y' (by omega) (by omega) kp hh
      · rw [if_neg c] at ih ⊢
        have l8 : (WL (mA y 43) i).length < 8 := by
          have := (WL_pre (mA y 43) (i + 1) (12 - (i + 1))).1
          rw [show i + 1 + (12 - (i + 1)) = 12 by omega, WL_s, if_neg c, List.length_append, List.length_singleton] at this
          omega
        obtain ⟨j1, j2⟩ := ixN (s := (WL (mA y 43) i).length) (N := 8) l8 (by decide)
        simp only [j1, if_pos j2]
        have ih := ih (sA y' 45 (upd (mA y' 45) (WL (mA y 43) i).length (nI i))) (by omega) (by omega) (KM_tr kp (KM_sA y' _ (by simp))) (fun k hk => by
          show upd (mA y' 45) (WL (mA y 43) i).length (nI i) k = _
          rw [getD_app]
          rw [List.length_append, List.length_singleton] at hk
          by_cases w : k = (WL (mA y 43) i).length
          · subst w
            rw [pk_us, if_neg (Nat.lt_irrefl _), Nat.sub_self]
            rfl
          · rw [pk_un w, if_pos (show k < (WL (mA y 43) i).length by omega)]
            exact hh k (by omega))
        rw [List.length_append, List.length_singleton, mxs] at ih
        rw [hF i]
        by_cases w : mxF f i ≤ cap
        · rw [if_pos w, if_pos rfl]
          by_cases v : f i ≤ cap
          · rw [if_pos ((nI_leI (by omega) (by omega)).mpr v)]
            rw [if_pos (show (if mxF f i < f i then f i else mxF f i) ≤ cap by split <;> assumption)] at ih
            exact ih
          · rw [if_neg (fun z => v ((nI_leI (by omega) (by omega)).mp z))]
            rw [if_pos (show mxF f i < f i by omega), if_neg v] at ih
            exact ih
        · rw [if_neg w, if_neg (show ¬ (1 : Int32) = 0 by decide)]
          rw [if_neg (show ¬ (if mxF f i < f i then f i else mxF f i) ≤ cap by split <;> omega)] at ih
          exact ih
/-- the row of all is told -/
theorem st_lp (n : Nat × Nat) {s : Nat} (hs : s < 256) {L : List Nat} (hR : ∀ k, k < L.length → mA y 51 (16 * s + k) = nI (L.getD k 0)) (h56 : mI y 56 = nI L.length) (hl : L.length ≤ 16) : ∀ (d k fuel : Nat) (y' : MS), k + d = L.length → d < fuel → KM [55] [] [] y y' → (∀ j, j < k → mA y' 55 j = nI (L.getD j 0)) → ∃ z, fX12_rounds_lp142 n (nI s) fuel (nI k) y' = some z ∧ KM [55] [] [] y z ∧ (∀ j, j < L.length → mA z 55 j = nI (L.getD j 0)) := by
  intro d k fuel
  induction fuel generalizing d k with
  | zero => intro _ _ hf; exact absurd hf (Nat.not_lt_zero _)
  | succ fuel ih =>
    intro y' hk hf kp hh
    have e51 : mA y' 51 = mA y 51 := kp.1 51 (by simp)
    have e56 : mI y' 56 = nI L.length := by rw [kp.2.2.1 56 (by simp)]; exact h56
    unfold fX12_rounds_lp142
    simp only [bnd, e56]
    by_cases hd : d = 0
    · rw [if_pos (nI_le (by omega) (by omega))]
      exact ⟨y', rfl, kp, fun j hj => hh j (by omega)⟩
    · have k1 : k < L.length := by omega
      rw [if_neg (nI_ge k1 (by omega))]
      obtain ⟨j1, j2, j3⟩ := ix16 (s := s) (k := k) hs (by omega)
      obtain ⟨o1, o2⟩ := ixN (s := k) (N := 16) (by omega) (by decide)
      simp only [grd, j1, j2, if_pos j3, e51, hR k k1, o1, if_pos o2, nI_inc1]
      refine ih (d - 1) (k + 1) _ (by omega) (by omega) (KM_tr kp (KM_sA y' _ (by simp))) (fun j hj => ?_)
      show upd (mA y' 55) k (nI (L.getD k 0)) j = _
      by_cases w : j = k
      · subst w; rw [pk_us]
      · rw [pk_un w]; exact hh j (by omega)
end RND
section M46
variable {ae k : Nat} {M : Nat → Nat → Nat} {x : MS} {S : CS}
theorem van_fin (h : Rep ae k M x S) {X : MS} {T : CS} (kT : kq S T [203, 209] [] [48, 49, 50, 51, 52, 53, 54] []) (yI : ∀ f, [54, 56].contains f = false → mI X f = mI x f) (yA : ∀ f, [45, 46, 47, 49, 50, 51, 52, 53, 55].contains f = false → mA X f = mA x f) (yB : ∀ f, f ≠ 48 → mB X f = mB x f) (yL : ∀ f, mL X f = mL x f) (xVan : rVan M T) (xSto : rSto M X T) : Rep ae k M X T := by
  obtain ⟨hB, hOk, hLim, hNew, hSum, hWho, hFix, hNum, hSta, hCon, hLotL, hLot, hCha, hWei, hTabL, hTab, hWan, hGot, hLoa, hFamL, hFam, hHad, hRef, hParL, hPar, hTap, hRul, hVan, hRoa, hSto⟩ := h
  have hk := kT.1
  have hB2 : frsh T ∧ cD T ae = 0 ∧ ae < nx T := ⟨fun q hq => by rw [kT.2.2]; exact hB.1 q (by rw [← kT.2.1]; exact hq), by rw [kT.2.2]; exact hB.2.1, by rw [kT.2.1]; exact hB.2.2⟩
  exact ⟨hB2,
    k_rOk (yI 0 rfl) (yI 4 rfl) (yI 13 rfl) (yI 16 rfl) (yI 20 rfl) (yI 25 rfl) (yI 58 rfl) (yI 65 rfl) (yI 32 rfl) (yI 2 rfl) (yI 37 rfl) (yA 35 rfl) (yA 38 rfl) (yA 9 rfl) hOk,
    k_rLim (yI 4 rfl) (yI 25 rfl) (yI 16 rfl) (yA 5 rfl) (yA 6 rfl) (yA 7 rfl) (yA 8 rfl) (yA 9 rfl) (yA 10 rfl) (yA 11 rfl) (yA 12 rfl) (yA 14 rfl) (yA 26 rfl) (yA 27 rfl) (yA 28 rfl) (yA 18 rfl) hLim,
    k_rNew (yI 4 rfl) (yA 9 rfl) (yA 10 rfl) (yA 11 rfl) (yA 12 rfl) hNew,
    k_rSum (yI 4 rfl) (yI 32 rfl) (yI 37 rfl) (yL 40) (yA 36 rfl) (yA 39 rfl) (yA 10 rfl) hSum,
    k_rWho (yI 4 rfl) (yI 16 rfl) (yI 20 rfl) (yI 32 rfl) (yI 65 rfl) (yA 21 rfl) (yA 33 rfl) (yA 66 rfl) (yA 35 rfl) (yI 37 rfl) (yA 38 rfl) hWho,
    (k_rFix hk (by decide) hFix),
    (k_rNum hk (by decide) (yI 2 rfl) (yI 20 rfl) (yI 65 rfl) hNum),
    (k_rSta hk (by decide) (yI 1 rfl) hSta),
    (k_rCon hk (by decide) (yA 3 rfl) hCon),
    (k_rLotL hk (by decide) (by decide) (by decide) (yI 4 rfl) hLotL),
    (k_rLot hk (by decide) (yI 4 rfl) (yA 5 rfl) (yA 6 rfl) (yA 7 rfl) (yA 8 rfl) (yA 9 rfl) (yA 10 rfl) (yA 11 rfl) (yA 12 rfl) hLot),
    (k_rCha hk (by decide) (by decide) (yI 4 rfl) (yA 5 rfl) (yA 7 rfl) hCha),
    (k_rWei hk (by decide) (by decide) (yI 4 rfl) (yI 65 rfl) (yA 66 rfl) (yA 67 rfl) (yA 68 rfl) hWei),
    (k_rTabL hk (by decide) (by decide) (by decide) (yI 13 rfl) hTabL),
    (k_rTab hk (by decide) (yI 13 rfl) hTab),
    (k_rWan hk (by decide) (yI 13 rfl) (yA 14 rfl) hWan),
    (k_rGot hk (by decide) (yI 13 rfl) (yB 15 (by decide)) hGot),
    (k_rLoa hk (by decide) (yI 13 rfl) (yA 43 rfl) (yI 44 rfl) hLoa),
    (k_rFamL hk (by decide) (by decide) (by decide) (yI 16 rfl) hFamL),
    (k_rFam hk (by decide) (by decide) (yI 16 rfl) (yA 18 rfl) (yA 19 rfl) hFam),
    (k_rHad hk (by decide) (yI 16 rfl) (yI 32 rfl) (yA 8 rfl) (yA 33 rfl) (yA 35 rfl) (yA 38 rfl) (yA 39 rfl) hHad),
    (k_rRef hk (by decide) (by decide) (yI 16 rfl) (yI 20 rfl) (yA 21 rfl) (yA 22 rfl) (yA 23 rfl) (yA 24 rfl) hRef),
    (k_rParL hk (by decide) (by decide) (by decide) (yI 32 rfl) hParL),
    (k_rPar hk (by decide) (by decide) (by decide) (yI 32 rfl) (yI 37 rfl) (yA 33 rfl) (yA 34 rfl) (yA 35 rfl) (yA 36 rfl) (yA 38 rfl) (yA 39 rfl) hPar),
    (k_rTap hk (by decide) (by decide) (yI 58 rfl) (yI 63 rfl) (yA 57 rfl) hTap),
    (k_rRul hk (by decide) (by decide) (by decide) (yI 25 rfl) (yA 26 rfl) (yA 27 rfl) (yA 28 rfl) (yA 29 rfl) hRul),
    xVan,
    (k_rRoa hk (by decide) (by decide) (yA 42 rfl) hRoa),
    xSto⟩
theorem st_rounds (n : Nat × Nat) (hn : 30000 ≤ n.1) (h : Rep ae k M x S) (v1 : Int32) : ∃ r T X, fX11_rounds n S (M 0 0) v1 = some (r, T) ∧ fX12_rounds n x v1 = some (r, X) ∧ Rep ae (k + 1) M X T := by
  have hF := g_rFix h
  have hO := g_rOk h
  have hLo := g_rLoa h
  have hL := (g_rTabL h).1
  have hRo := g_rRoa h
  have hV := g_rVan h
  have h12 := hO.2.2.1.2
  have in1 : fX12_in v1.toInt64 1 10000000 = bI (isB v1 1 10000000) := by
    rw [ev12_in]
    exact congrArg bI (inL_i v1 1 10000000)
  cases h1 : isB v1 1 10000000
  · refine ⟨-1, uI S 251 (M 0 0) (-1), toldF x (-1), ?_, ?_, rep_no (by decide) h⟩
    · simp only [fX11_rounds, bnd, grd, cal, un2, ev_within, h1, bI, hF.1, ev_refuse _ hF.1]
      rfl
    · simp only [fX12_rounds, bnd, cal, un2, sI_0 hO.1, in1, h1, bI, ev12_told]
      rfl
  have n10 : ¬ (1 : Int32) = 0 := by decide
  obtain ⟨ec, hc⟩ : v1 = nI v1.toNatClampNeg ∧ v1.toNatClampNeg ≤ 10000000 := by
    refine isB_nJ (N := 10000000) (by decide) ?_
    simp only [isB, Bool.and_eq_true, decide_eq_true_eq] at h1 ⊢
    exact ⟨Int32.le_trans (by decide) h1.1, h1.2⟩
  obtain ⟨cap, ecap⟩ : ∃ c, c = v1.toNatClampNeg := ⟨_, rfl⟩
  rw [← ecap] at ec hc
  subst ec
  have f43 : ∀ t, mA x 43 t = nI (nA x 43 t) ∧ nA x 43 t ≤ 1000000 := fun t => isB_nJ (N := 1000000) (by decide) (by
    have := hLo.2.2.1 t
    simp only [isB, Bool.and_eq_true, decide_eq_true_eq]
    exact this)
  have hvy := ev_heavy n hn hF hL (f := nA x 43) (fun t ht => by rw [(hLo.1 t ht).2]; exact (f43 t).1) (fun t => (f43 t).2) h12
  have far : ∀ j, nN x 13 ≤ j → mA x 43 j ≤ 0 := fun j hj => by rw [hLo.2.1 j hj]; exact Int32.le_refl 0
  have wl12 : WL (mA x 43) 12 = WL (mA x 43) (nN x 13) := by
    have := WL_ext (mA x 43) (nN x 13) far (12 - nN x 13)
    rw [show nN x 13 + (12 - nN x 13) = 12 by omega] at this
    exact this
  obtain ⟨m, em⟩ : ∃ m, m = (WL (mA x 43) (nN x 13)).length := ⟨_, rfl⟩
  have em2 : m = cntP (mA x 43) (nN x 13) := by rw [em, WL_len]
  have m8 : m ≤ 8 := by rw [em2]; exact hLo.2.2.2.2
  have e44 : mI x 44 = nI m := by rw [em2]; exact hLo.2.2.2.1
  have mxN : ∀ c, mxF (nA x 43) 12 ≤ c ↔ mxF (nA x 43) (nN x 13) ≤ c := fun c => by
    rw [mx_le, mx_le]
    refine ⟨fun w t ht => w t (by omega), fun w t ht => ?_⟩
    rcases Nat.lt_or_ge t (nN x 13) with q | q
    · exact w t q
    · unfold nA
      rw [hLo.2.1 t q, show (0 : Int32).toNatClampNeg = 0 by decide]
      exact Nat.zero_le _
  have mx1 : mxF (nA x 43) (nN x 13) ≤ 1000000 := (mx_le _ _ _).mpr (fun t _ => (f43 t).2)
  by_cases m0 : m = 0
  · -- nothing to bring
    have z : mxF (nA x 43) (nN x 13) = 0 := by
      have : mxF (nA x 43) (nN x 13) ≤ 0 := (mx_le _ 0 _).mpr (fun t ht => by
        rcases Nat.eq_zero_or_pos (nA x 43 t) with w | w
        · omega
        · obtain ⟨q, q1, -⟩ := WL_mem (mA x 43) (nN x 13) t ht (by rw [(f43 t).1]; exact nI_nle w (by have := (f43 t).2; omega))
          omega)
      omega
    refine ⟨-4, uI S 251 (M 0 0) (-4), toldF x (-4), ?_, ?_, rep_no (by decide) h⟩
    · simp only [fX11_rounds, bnd, grd, cal, un2, ev_within, h1, bI, hF.1, ev_refuse _ hF.1, hvy, z, nI_0, if_true, if_neg n10]
    · simp only [fX12_rounds, bnd, cal, un2, sI_0 hO.1, in1, h1, bI, ev12_told, e44, m0, nI_0, if_true, if_neg n10]
  · have mp : ¬ mxF (nA x 43) (nN x 13) = 0 := fun z => by
      have w := WL_lt (mA x 43) (nN x 13) 0 (by omega)
      have := (mx_le (nA x 43) 0 (nN x 13)).mp (by omega) _ w.1
      apply w.2
      rw [(f43 _).1, show nA x 43 ((WL (mA x 43) (nN x 13)).getD 0 0) = 0 by omega]
      exact Int32.le_refl 0
    obtain ⟨y1, l1, l2, l3⟩ := wh_lp (y := x) (cap := cap) n (fun t => (f43 t).1) (fun t => (f43 t).2) hc (by rw [wl12]; omega) 12 0 n.1 x (by omega) (by omega) (KM_rf _ _ _ x) (fun k hk => absurd hk (Nat.not_lt_zero _))
    rw [if_pos (show mxF (nA x 43) 0 ≤ cap from Nat.zero_le _), show (WL (mA x 43) 0).length = 0 from rfl, nI_0, wl12, ← em] at l1
    rw [wl12] at l3
    by_cases hv : mxF (nA x 43) (nN x 13) ≤ cap
    · -- the plan
      rw [if_pos ((mxN cap).mpr hv)] at l1
      obtain ⟨who, ewho⟩ : ∃ w : Nat → Nat, ∀ k, w k = (WL (mA x 43) (nN x 13)).getD k 0 := ⟨_, fun _ => rfl⟩
      obtain ⟨g, eg⟩ : ∃ w : Nat → Nat, ∀ k, w k = nA x 43 (who k) := ⟨_, fun _ => rfl⟩
      have w12 : ∀ k, k < m → who k < 12 := fun k hk => by
        have := (WL_lt (mA x 43) (nN x 13) k (by omega)).1
        rw [ewho]
        omega
      have winj : injOn who m := fun i j hi hj e => by
        rw [ewho, ewho] at e
        rcases Nat.lt_trichotomy i j with q | q | q
        · have := WL_inc (mA x 43) (nN x 13) i j q (by omega); omega
        · exact q
        · have := WL_inc (mA x 43) (nN x 13) j i q (by omega); omega
      have gb : ∀ k, g k ≤ 1000000 := fun k => by rw [eg]; exact (f43 _).2
      have tb13 : ∀ a, tbF m who a < 13 := fun a => by
        unfold tbF
        split
        · have := w12 a (by assumption); omega
        · omega
      have xe : XE x m who g := by
        refine ⟨m8, w12, fun a b => ?_, gb, fun k hk => by rw [eg]; exact (f43 _).1⟩
        have q := (hRo.2.2.2 _ (tb13 a)).2.2.2 _ (tb13 b)
        have z := isB_nJ (N := 600) (by decide) q.2.2
        refine ⟨z.1, z.2, ?_⟩
        unfold lgF nA
        rw [q.2.1]
      obtain ⟨PW, hPW, hE⟩ := env_ex (x := x) (cap := cap) (g := g) m8 (XE_b xe) winj w12 (fun k hk => by
        rw [eg]
        have w := WL_lt (mA x 43) (nN x 13) k (by omega)
        rw [← ewho] at w
        exact (mx_le (nA x 43) cap (nN x 13)).mp hv _ w.1)
      have ye1 : YE x y1 m who := ⟨l2.1 42 (by simp), l2.1 43 (by simp), fun k hk => by rw [l3 k (by omega), ewho]⟩
      obtain ⟨y2, t1, t2, t3⟩ := ev_tours n hn xe ye1
      have ye2 := YE_k ye1 t2
      obtain ⟨y3, r1, r2, r3⟩ := ev_frounds n hn xe hE hPW hc ye2 t3
      have p8 := p28 m8
      have p1 := Nat.two_pow_pos m
      have p2 : 2 ≤ 2 ^ m := by
        have := Nat.pow_le_pow_right (n := 2) (by decide) (show 1 ≤ m by omega)
        omega
      obtain ⟨d1, d2, R, hR, hA⟩ := r3 (2 ^ m - 1) (by omega)
      have len := IsRow_len hE _ _ R (by omega) hR
      have pcl := (t_pc8 (2 ^ m - 1) (by omega)).1
      obtain ⟨T, c1, c2, c3, c4⟩ := ev_plan (x := x) n hn (F := mA x 43) em hV hRo hL (fun t ht => (hLo.1 t ht).2) h12 m8 (by omega) (fun k hk => ewho k) (fun k hk => by rw [eg]; exact (f43 _).1) gb hc hE hPW hR
      -- the reference tells its row
      obtain ⟨y4, e4⟩ : ∃ z, z = sI y3 56 (nI R.length) := ⟨_, rfl⟩
      obtain ⟨y5, s1, s2, s3⟩ := st_lp (y := y4) n (s := 2 ^ m - 1) (by omega) (L := R) (fun k hk => by rw [e4]; exact hA.2 k hk) (by rw [e4]; rfl) (by omega) R.length 0 n.1 y4 (by omega) (by omega) (KM_rf _ _ _ y4) (fun j hj => absurd hj (Nat.not_lt_zero _))
      rw [nI_0] at s1
      have k4 : KM [45, 46, 47, 49, 50, 51, 52, 53, 55] [48] [54, 56] x y5 := KM_tr (KM_w l2 (by simp) (by simp) (by simp)) (KM_tr (KM_w t2 (by simp) (by simp) (by simp)) (KM_tr (KM_w r2 (by simp) (by simp) (by simp)) (KM_tr (by rw [e4]; exact KM_sI y3 _ (by simp)) (KM_w s2 (by simp) (by simp) (by simp)))))
      have v49 : mA y5 49 (2 ^ m - 1) = nI (vC x m who g cap (2 ^ m - 1) / 16) := by
        rw [s2.1 49 (by simp), e4]
        exact d1
      have v0 := q_rV0 c2 (by decide) (rV0_of hV)
      have sto : rSto M y5 T := by
        have e56 : mI y5 56 = nI R.length := by rw [s2.2.2.1 56 (by simp), e4]; rfl
        have n56 : nN y5 56 = R.length := by unfold nN; rw [e56, nI_clamp (by omega)]
        refine ⟨v0.1, v0.2.2.2.2.2.2.2.2.2.2.2.2.2.2.2.1, by rw [e56]; exact c3.1, Or.inr ⟨⟨by rw [n56]; exact e56, by omega⟩, fun i hi => ?_⟩⟩
        rw [n56] at hi
        rw [c3.2 i hi, s3 i hi]
      have RR := van_fin h c2 (fun f hf => k4.2.2.1 f (fun z => by rw [List.contains_iff_mem.mpr z] at hf; exact absurd hf (by decide))) (fun f hf => k4.1 f (fun z => by rw [List.contains_iff_mem.mpr z] at hf; exact absurd hf (by decide))) (fun f hf => k4.2.1 f (by simpa using hf)) k4.2.2.2 (rVan_of v0 c4) sto
      have vb := vC_b hE (show 2 ^ m - 1 < 2 ^ m by omega)
      have hp : 0 ≤ nI (vC x m who g cap (2 ^ m - 1) / 16) := nI_pos' (by omega)
      have cT : cD T (M 0 0) = 12 := by rw [c2.2.2]; exact hF.1
      obtain ⟨i1, i2⟩ := ixN (s := 2 ^ m - 1) (N := 256) (by omega) (by decide)
      have sh : (1 : Int32) <<< (nI m &&& 31) - 1 = nI (2 ^ m - 1) := by
        rw [t_sh m (by omega)]
        have := nI_pred (2 ^ m - 1)
        rw [show 2 ^ m - 1 + 1 = 2 ^ m by omega] at this
        exact this
      refine ⟨nI (vC x m who g cap (2 ^ m - 1) / 16), uI T 251 (M 0 0) 0, toldF y5 (nI (vC x m who g cap (2 ^ m - 1) / 16)), ?_, ?_, rep_yes hp RR⟩
      · simp only [fX11_rounds, bnd, grd, cal, un2, onn, ev_within, h1, bI, hF.1, hvy, if_neg n10, if_neg (nI_ne0 (show 0 < mxF (nA x 43) (nN x 13) by omega) (by omega)), if_pos ((nI_leI (show mxF (nA x 43) (nN x 13) < 2 ^ 31 by omega) (show cap < 2 ^ 31 by omega)).mpr hv), hF.2.2.2.2.2.2.2.2.2.2.1, hF.2.2.2.2.2.2.1, hF.2.2.2.1, c1, cT, ev_accept _ cT, if_true]
      · have a52 : mA y3 52 (2 ^ m - 1) = nI R.length := hA.1
        simp only [fX12_rounds, bnd, cal, un2, grd, sI_0 hO.1, in1, h1, bI, ev12_told, e44, if_neg n10, if_neg (nI_ne0 (show 0 < m by omega) (by omega)), l1, t1, r1, sh, i1, if_pos i2, a52, ← e4, s1, v49, if_true]
    · rw [if_neg (fun z => hv ((mxN cap).mp z))] at l1
      have tl1 : Rep ae (k + 1) M (toldF y1 (-5)) (uI S 251 (M 0 0) (-5)) := by
        refine rep_no (by decide) (van_fin h (kqre (kq_rf S) (by simp) (by simp) (by simp) (by simp)) (fun f _ => l2.2.2.1 f (by simp)) (fun f hf => l2.1 f (fun z => ?_)) (fun f _ => l2.2.1 f (by simp)) l2.2.2.2 hV ?_)
        · rw [List.mem_singleton] at z
          rw [z] at hf
          exact absurd hf (by decide)
        · have q := g_rSto h
          unfold rSto okN nN at q ⊢
          rw [l2.2.2.1 56 (by simp), l2.1 55 (by simp)]
          exact q
      refine ⟨-5, uI S 251 (M 0 0) (-5), toldF y1 (-5), ?_, ?_, tl1⟩
      · simp only [fX11_rounds, bnd, grd, cal, un2, onn, ev_within, h1, bI, hF.1, hvy, if_neg n10, if_neg (nI_ne0 (show 0 < mxF (nA x 43) (nN x 13) by omega) (by omega)), if_neg (fun w => hv ((nI_leI (show mxF (nA x 43) (nN x 13) < 2 ^ 31 by omega) (show cap < 2 ^ 31 by omega)).mp w)), ev_refuse _ hF.1, if_true]
      · simp only [fX12_rounds, bnd, cal, un2, grd, sI_0 hO.1, in1, h1, bI, ev12_told, e44, if_neg n10, if_neg (nI_ne0 (show 0 < m by omega) (by omega)), l1, if_true]
end M46
