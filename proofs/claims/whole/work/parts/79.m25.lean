/-! PURE: the parcel is done, or nothing was in it -/
section M25
variable {ae k : Nat} {M : Nat → Nat → Nat} {x : MS} {S : CS}
theorem pk_fin (h : Rep ae k M x S) {X : MS} {T : CS} {N9 N10 N11 : Nat → Nat} {M' : Nat → Nat → Nat} (eM : M' = fun g => if g = 9 then N9 else if g = 10 then N10 else if g = 11 then N11 else M g) (hk : keep S T [65, 66, 102, gM 3, gS 3] [gE 3] [41] [33]) (eI : ∀ f, [37, 32].contains f = false → mI X f = mI x f) (eA : ∀ f, [9, 10, 38, 39, 24, 33, 34, 35, 36].contains f = false → mA X f = mA x f) (eB : ∀ f, ([] : List Nat).contains f = false → mB X f = mB x f) (eL : ∀ f, [40].contains f = false → mL X f = mL x f) (hB2 : frsh T ∧ cD T ae = 0 ∧ ae < nx T) (xOk : rOk (k + 1) X) (xLim : rLim X) (xNew : rNew X) (xSum : rSum X) (xWho : rWho X) (xLot : rLot M' X T) (xHad : rHad M' X T) (xRef : rRef M' X T) (xParL : rParL ae M' X T) (xPar : rPar ae M' X T) : Rep ae (k + 1) M' X T := by
  obtain ⟨hB, hOk, hLim, hNew, hSum, hWho, hFix, hNum, hSta, hCon, hLotL, hLot, hCha, hWei, hTabL, hTab, hWan, hGot, hLoa, hFamL, hFam, hHad, hRef, hParL, hPar, hTap, hRul, hVan, hRoa, hSto⟩ := h
  exact ⟨hB2,
    xOk,
    xLim,
    xNew,
    xSum,
    xWho,
    (show _ from by rw [eM]; exact k_rFix hk (by decide) hFix),
    (show _ from by rw [eM]; exact k_rNum hk (by decide) (eI 2 rfl) (eI 20 rfl) (eI 65 rfl) hNum),
    (show _ from by rw [eM]; exact k_rSta hk (by decide) (eI 1 rfl) hSta),
    (show _ from by rw [eM]; exact k_rCon hk (by decide) (eA 3 rfl) hCon),
    (show _ from by rw [eM]; exact k_rLotL hk (by decide) (by decide) (by decide) (eI 4 rfl) hLotL),
    xLot,
    (show _ from by rw [eM]; exact k_rCha hk (by decide) (by decide) (eI 4 rfl) (eA 5 rfl) (eA 7 rfl) hCha),
    (show _ from by rw [eM]; exact k_rWei hk (by decide) (by decide) (eI 4 rfl) (eI 65 rfl) (eA 66 rfl) (eA 67 rfl) (eA 68 rfl) hWei),
    (show _ from by rw [eM]; exact k_rTabL hk (by decide) (by decide) (by decide) (eI 13 rfl) hTabL),
    (show _ from by rw [eM]; exact k_rTab hk (by decide) (eI 13 rfl) hTab),
    (show _ from by rw [eM]; exact k_rWan hk (by decide) (eI 13 rfl) (eA 14 rfl) hWan),
    (show _ from by rw [eM]; exact k_rGot hk (by decide) (eI 13 rfl) (eB 15 rfl) hGot),
    (show _ from by rw [eM]; exact k_rLoa hk (by decide) (eI 13 rfl) (eA 43 rfl) (eI 44 rfl) hLoa),
    (show _ from by rw [eM]; exact k_rFamL hk (by decide) (by decide) (by decide) (eI 16 rfl) hFamL),
    (show _ from by rw [eM]; exact k_rFam hk (by decide) (by decide) (eI 16 rfl) (eA 18 rfl) (eA 19 rfl) hFam),
    xHad,
    xRef,
    xParL,
    xPar,
    (show _ from by rw [eM]; exact k_rTap hk (by decide) (by decide) (eI 58 rfl) (eI 63 rfl) (eA 57 rfl) hTap),
    (show _ from by rw [eM]; exact k_rRul hk (by decide) (by decide) (by decide) (eI 25 rfl) (eA 26 rfl) (eA 27 rfl) (eA 28 rfl) (eA 29 rfl) hRul),
    (show _ from by rw [eM]; exact k_rVan hk (by decide) hVan),
    (show _ from by rw [eM]; exact k_rRoa hk (by decide) (by decide) (eA 42 rfl) hRoa),
    (show _ from by rw [eM]; exact k_rSto hk (by decide) (by decide) (eI 56 rfl) (eA 55 rfl) hSto)⟩
def cmb (x : MS) (b : Option Nat) (r : Int32) : Option Nat := if r < 0 then b else match b with | none => some r.toNatClampNeg | some c => if mA x 23 c < mA x 23 r.toNatClampNeg then some c else some r.toNatClampNeg
theorem cmb_neg (x : MS) (b : Option Nat) : cmb x b (-1) = b := rfl
theorem cmb_nI (x : MS) (b : Option Nat) {i : Nat} (hi : i < 2 ^ 31) : cmb x b (nI i) = match b with | none => some i | some c => if mA x 23 c < mA x 23 i then some c else some i := by
  unfold cmb
  rw [if_neg (nI_pos hi), nI_clamp hi]
/-- one referral more, from the newest back -/
theorem cmb_step (x : MS) (F d : Int32) (m : Nat) (hm : m < 2 ^ 31) (b : Option Nat) (hl : letsB x m F d = true) : cmb x (match b with | none => some m | some c => if mA x 23 c < mA x 23 m then some c else some m) (refN x F d m) = cmb x b (refN x F d (m + 1)) := by
  rw [refN_s]
  rcases refN_rng x F d m with e | ⟨i, hi, e⟩
  · rw [e, cmb_neg, if_pos ⟨hl, Or.inl (by decide)⟩, cmb_nI x b hm]
  · rw [e, nI_clamp (show i < 2 ^ 31 by omega), cmb_nI x _ (show i < 2 ^ 31 by omega)]
    by_cases c1 : mA x 23 i ≤ mA x 23 m
    · rw [if_neg (fun w => w.2.elim (fun q => nI_pos (show i < 2 ^ 31 by omega) q) (fun q => q c1)), cmb_nI x _ (show i < 2 ^ 31 by omega)]
      have c1' : ¬ mA x 23 m < mA x 23 i := Int32.not_lt.mpr c1
      cases b with
      | none => exact if_neg c1'
      | some c =>
        by_cases c2 : mA x 23 c < mA x 23 m
        · simp only [if_pos c2]
        · simp only [if_neg c2, if_neg c1']
          rw [if_neg]
          rw [Int32.lt_iff_toInt_lt] at c2 ⊢
          rw [Int32.le_iff_toInt_le] at c1
          omega
    · rw [if_pos ⟨hl, Or.inr c1⟩, cmb_nI x _ hm]
      have c1' : mA x 23 m < mA x 23 i := Int32.not_le.mp c1
      cases b with
      | none => exact if_pos c1'
      | some c =>
        by_cases c2 : mA x 23 c < mA x 23 m
        · simp only [if_pos c2]
          rw [if_pos]
          rw [Int32.lt_iff_toInt_lt] at c1' c2 ⊢
          omega
        · simp only [if_neg c2, if_pos c1']
theorem ref_lp (n : Nat × Nat) (h : Rep ae k M x S) {i : Nat} (d : Int32) : ∀ (m : Nat) (es : List Nat), desc m (fun e => mA x 21 e = nI i) es → m ≤ nN x 20 → ∀ (o : Option Nat) (fuel : Nat) (b : Option Nat), (∀ c, b = some c → c < nN x 20) → chn S 5 103 (M 7) o es → es.length < fuel → fX0_referralFor_lp7 n S d fuel (b.map (M 7)) o = some ((cmb x b (refN x (nI i) d m)).map (M 7))
  | m, es, _, _, _, 0, _, _, _, hfu => absurd hfu (Nat.not_lt_zero _)
  | 0, es, hd, _, o, fuel + 1, b, _, hc, _ => by
    rw [desc_0 hd] at hc
    have hc : o = none := hc
    subst hc
    rw [show refN x (nI i) d 0 = -1 from itN_0 _ _, cmb_neg]
    rfl
  | m + 1, es, hd, hm, o, fuel + 1, b, hb, hc, hfu => by
    have h100 := (g_rOk h).2.2.2.2.1.2
    have hR := (g_rRef h).2.1
    by_cases hp : mA x 21 m = nI i
    · obtain ⟨l, rfl, hl⟩ := desc_y hd hp
      obtain ⟨rfl, hD, ht⟩ := hc
      have q := hR m (by omega)
      have hls : letsB x m (nI i) d = (isB d (mA x 22 m) (mA x 23 m) && decide (0 < mA x 24 m)) := by
        unfold letsB
        rw [decide_eq_true hp, Bool.true_and]
      have hfl : l.length < fuel := by simp at hfu; omega
      have same : letsB x m (nI i) d = false → cmb x b (refN x (nI i) d m) = cmb x b (refN x (nI i) d (m + 1)) := fun w => by
        rw [refN_s, if_neg (fun r => by rw [w] at r; exact Bool.noConfusion r.1)]
      cases c1 : isB d (mA x 22 m) (mA x 23 m)
      · have ih := ref_lp n h d m l hl (by omega) _ fuel b hb ht hfl
        rw [same (by rw [hls, c1]; rfl)] at ih
        simp only [fX0_referralFor_lp7, oel, grd, cal, bnd, hD, if_true, ev_holds n hD, q.2.1, q.2.2.1, c1, bI, Bool.false_eq_true, if_false]
        exact ih
      · by_cases c2 : mA x 24 m ≤ 0
        · have ih := ref_lp n h d m l hl (by omega) _ fuel b hb ht hfl
          rw [same (by rw [hls, c1, decide_eq_false (Int32.not_lt.mpr c2)]; rfl)] at ih
          simp only [fX0_referralFor_lp7, oel, grd, cal, bnd, hD, if_true, ev_holds n hD, q.2.1, q.2.2.1, q.2.2.2.1, c1, bI, if_neg n10, if_pos c2]
          exact ih
        · have hlt : letsB x m (nI i) d = true := by rw [hls, c1, decide_eq_true (Int32.not_le.mp c2)]; rfl
          have st := cmb_step x (nI i) d m (by omega) b hlt
          cases b with
          | none =>
            have ih := ref_lp n h d m l hl (by omega) _ fuel (some m) (fun c e => by injection e with e; omega) ht hfl
            dsimp only at st
            rw [st] at ih
            simp only [fX0_referralFor_lp7, oel, grd, cal, bnd, hD, if_true, ev_holds n hD, q.2.1, q.2.2.1, q.2.2.2.1, c1, bI, if_neg n10, if_neg c2, Option.map_none]
            exact ih
          | some c =>
            have hcl := hb c rfl
            have qc := hR c hcl
            dsimp only at st
            by_cases c3 : mA x 23 c < mA x 23 m
            · rw [if_pos c3] at st
              have ih := ref_lp n h d m l hl (by omega) _ fuel (some c) hb ht hfl
              rw [st] at ih
              simp only [fX0_referralFor_lp7, oel, grd, cal, bnd, hD, qc.1, qc.2.2.1, if_true, ev_holds n hD, q.2.1, q.2.2.1, q.2.2.2.1, c1, bI, if_neg n10, if_neg c2, Option.map_some, if_pos c3]
              exact ih
            · rw [if_neg c3] at st
              have ih := ref_lp n h d m l hl (by omega) _ fuel (some m) (fun c e => by injection e with e; omega) ht hfl
              rw [st] at ih
              simp only [fX0_referralFor_lp7, oel, grd, cal, bnd, hD, qc.1, qc.2.2.1, if_true, ev_holds n hD, q.2.1, q.2.2.1, q.2.2.2.1, c1, bI, if_neg n10, if_neg c2, Option.map_some, if_neg c3]
              exact ih
    · have ih := ref_lp n h d m es (desc_n hd hp) (by omega) o (fuel + 1) b hb hc hfu
      rw [refN_s, if_neg (fun w => hp (by have := w.1; unfold letsB at this; simp only [Bool.and_eq_true, decide_eq_true_eq] at this; exact this.1.1))]
      exact ih
theorem ev_referral (n : Nat × Nat) (hn : 30000 ≤ n.1) (h : Rep ae k M x S) {i : Nat} (hi : i < nN x 16) (d : Int32) : fX0_referralFor n S (M 5 i) d = some (if 0 ≤ refN x (nI i) d (nN x 20) then some (M 7 (refN x (nI i) d (nN x 20)).toNatClampNeg) else none) := by
  have h100 := (g_rOk h).2.2.2.2.1.2
  obtain ⟨g0, es, g1, g2, g3⟩ := (g_rRef h).2.2 i hi
  have hd : desc (nN x 20) (fun e => mA x 21 e = nI i) es := ⟨g2, g3⟩
  have len := desc_len _ _ hd
  have lp := ref_lp n h d (nN x 20) es hd (Nat.le_refl _) _ n.1 none (fun c e => by injection e) g1 (by omega)
  simp only [Option.map_none] at lp
  simp only [fX0_referralFor, grd, bnd, cal, g0, if_true, lp]
  rcases refN_rng x (nI i) d (nN x 20) with e | ⟨j, hj, e⟩
  · rw [e, cmb_neg, if_neg (by decide)]; rfl
  · rw [e, cmb_nI x _ (show j < 2 ^ 31 by omega), nI_clamp (show j < 2 ^ 31 by omega), if_pos (show (0 : Int32) ≤ nI j from nI_le (a := 0) (b := j) (Nat.zero_le _) (by omega))]; rfl
end M25
