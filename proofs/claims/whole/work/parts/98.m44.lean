/-! PURE: the call rules -/
theorem cal_some {α β : Type} {o : Option α} {f : α → Option β} {r : β} (h : cal o f = some r) : ∃ a, o = some a ∧ f a = some r := by
  cases o with
  | none => cases h
  | some a => exact ⟨a, rfl, h⟩
def j96 (n : Nat × Nat) (S : MS) : Option (Int32 × MS) := bnd (sI S 58 (0 : Int32)) (fun S98 => bnd (mI S98 64) (fun v102 => if v102 = 0 then
      bnd (mI S98 31) (fun v117 => bnd (sI S98 25 v117) (fun S120 => bnd (0 : Int32) (fun x124 => cal (fX12_rules_lp125 n n.1 x124 S120) (fun S125 => bnd (mI S125 25) (fun v203 => cal (fX12_told n S125 v203) (un2 fun r206 S206 => some (r206, S206)))))))
      else cal (fX12_told n S98 (-6 : Int32)) (un2 fun r111 S111 => some (r111, S111))))
def y00 (x : MS) : MS := sI (sI (sI (sI x 60 0) 64 0) 63 (-1)) 31 0
theorem rules_un (n : Nat × Nat) {x : MS} (h0 : mI x 0 = 0) : fX12_rules n x = cal (fX12_next n (y00 x)) (fun S26 => if mI S26 61 = 0 then j96 n S26 else cal (fX12_readRule n S26) (fun S37 => cal (fX12_rules_lp40 n n.1 S37) (fun S40 => if mI S40 64 = 0 then (if mI S40 61 = 0 then j96 n S40 else cal (fX12_must n S40 (0 : Int32)) (fun S93 => j96 n S93)) else j96 n S40))) := by
  unfold fX12_rules
  simp only [bnd, sI_0 h0]
  rfl
/-- the rules read are taken over -/
theorem copy_lp (n : Nat × Nat) {m : Nat} (hm : m ≤ 30) : ∀ (d r fuel : Nat) (z : MS), r + d = m → d < fuel → mI z 25 = nI m → (∀ i, i < r → mA z 26 i = mA z 30 (4 * i) ∧ mA z 27 i = mA z 30 (4 * i + 1) ∧ mA z 28 i = mA z 30 (4 * i + 2) ∧ mA z 29 i = mA z 30 (4 * i + 3)) → ∃ z', fX12_rules_lp125 n fuel (nI r) z = some z' ∧ (∀ f, mI z' f = mI z f) ∧ (∀ f, [26, 27, 28, 29].contains f = false → mA z' f = mA z f) ∧ (∀ f, mL z' f = mL z f) ∧ (∀ f, mB z' f = mB z f) ∧ ∀ i, i < m → mA z' 26 i = mA z 30 (4 * i) ∧ mA z' 27 i = mA z 30 (4 * i + 1) ∧ mA z' 28 i = mA z 30 (4 * i + 2) ∧ mA z' 29 i = mA z 30 (4 * i + 3)
  | d, r, 0, _, _, hf, _, _ => absurd hf (Nat.not_lt_zero _)
  | d, r, fuel + 1, z, hd, hf, h25, hi => by
    unfold fX12_rules_lp125
    by_cases hd0 : d = 0
    · simp only [bnd, h25]
      rw [if_pos (nI_le (by omega) (by omega))]
      exact ⟨z, rfl, fun _ => rfl, fun _ _ => rfl, fun _ => rfl, fun _ => rfl, fun i h => hi i (by omega)⟩
    · have hlt : r < m := by omega
      have e4 : (4 : Int32) * nI r = nI (4 * r) := by rw [show (4 : Int32) = nI 4 from rfl, pk_mul]
      have e1 : nI (4 * r) + 1 = nI (4 * r + 1) := nI_1 _
      have e2 : nI (4 * r) + 2 = nI (4 * r + 2) := by rw [show (2 : Int32) = nI 2 from rfl, nI_add]
      have e3 : nI (4 * r) + 3 = nI (4 * r + 3) := by rw [show (3 : Int32) = nI 3 from rfl, nI_add]
      obtain ⟨a0, b0⟩ := ix120 (j := 4 * r) (by omega)
      obtain ⟨a1, b1⟩ := ix120 (j := 4 * r + 1) (by omega)
      obtain ⟨a2, b2⟩ := ix120 (j := 4 * r + 2) (by omega)
      obtain ⟨a3, b3⟩ := ix120 (j := 4 * r + 3) (by omega)
      have er : (nI r).toNatClampNeg = r := nI_clamp (by omega)
      have br : ¬ (nI r < 0 ∨ 30 ≤ r) := by
        have := vp_in_nI (n := r) (N := 30) (by omega) (by decide)
        unfold vp_in at this
        rw [er] at this
        exact this
      obtain ⟨z1, ez1⟩ : ∃ q, q = sA z 26 (upd (mA z 26) r (mA z 30 (4 * r))) := ⟨_, rfl⟩
      obtain ⟨z2, ez2⟩ : ∃ q, q = sA z1 27 (upd (mA z1 27) r (mA z1 30 (4 * r + 1))) := ⟨_, rfl⟩
      obtain ⟨z3, ez3⟩ : ∃ q, q = sA z2 28 (upd (mA z2 28) r (mA z2 30 (4 * r + 2))) := ⟨_, rfl⟩
      obtain ⟨z4, ez4⟩ : ∃ q, q = sA z3 29 (upd (mA z3 29) r (mA z3 30 (4 * r + 3))) := ⟨_, rfl⟩
      have fA : ∀ f, [26, 27, 28, 29].contains f = false → mA z4 f = mA z f := fun f hf => by
        have n26 : f ≠ 26 := fun q => by rw [q] at hf; exact absurd hf (by decide)
        have n27 : f ≠ 27 := fun q => by rw [q] at hf; exact absurd hf (by decide)
        have n28 : f ≠ 28 := fun q => by rw [q] at hf; exact absurd hf (by decide)
        have n29 : f ≠ 29 := fun q => by rw [q] at hf; exact absurd hf (by decide)
        rw [ez4, mA_sA, if_neg n29, ez3, mA_sA, if_neg n28, ez2, mA_sA, if_neg n27, ez1, mA_sA, if_neg n26]
      have g26 : mA z4 26 = upd (mA z 26) r (mA z 30 (4 * r)) := by rw [ez4, ez3, ez2, ez1]; rfl
      have g27 : mA z4 27 = upd (mA z 27) r (mA z 30 (4 * r + 1)) := by rw [ez4, ez3, ez2, ez1]; rfl
      have g28 : mA z4 28 = upd (mA z 28) r (mA z 30 (4 * r + 2)) := by rw [ez4, ez3, ez2, ez1]; rfl
      have g29 : mA z4 29 = upd (mA z 29) r (mA z 30 (4 * r + 3)) := by rw [ez4, ez3, ez2, ez1]; rfl
      have g30 := fA 30 rfl
      obtain ⟨z', e, k1, k2, k3, k4, k5⟩ := copy_lp n hm (d - 1) (r + 1) fuel z4 (by omega) (by omega) (by rw [ez4, ez3, ez2, ez1]; exact h25) (fun i h => by
        rw [g26, g27, g28, g29, g30]
        by_cases c : i = r
        · rw [c, pk_us, pk_us, pk_us, pk_us]; exact ⟨rfl, rfl, rfl, rfl⟩
        · rw [pk_un c, pk_un c, pk_un c, pk_un c]; exact hi i (by omega))
      refine ⟨z', ?_, fun f => by rw [k1, ez4, ez3, ez2, ez1]; rfl, fun f hf => (k2 f hf).trans (fA f hf), fun f => by rw [k3, ez4, ez3, ez2, ez1]; rfl, fun f => by rw [k4, ez4, ez3, ez2, ez1]; rfl, fun i h => by rw [← g30]; exact k5 i h⟩
      simp only [bnd, h25, if_neg (nI_ge hlt (show m < 2 ^ 31 by omega)), grd, e4, e1, e2, e3, a0, a1, a2, a3, er, if_pos b0, if_pos b1, if_pos b2, if_pos b3, if_pos br, ← ez1, ← ez2, ← ez3, ← ez4, nI_inc1, e]
section M44
variable {ae k : Nat} {M : Nat → Nat → Nat} {x : MS} {S : CS}
theorem rul_fin (h : Rep ae k M x S) {X : MS} {T : CS} {M' : Nat → Nat → Nat} {i j : Nat} (eM : M' = fun g => if 13 ≤ g ∧ g ≤ 17 then (fun q => if q = 0 then M g i else M g j) else M g) (hk : keep S T [122, 123, 144, 124, 125] [121, 247] [42, 43, 44, 45] []) (yI : ∀ f, [58, 59, 60, 61, 63, 64, 31, 25].contains f = false → mI X f = mI x f) (yA : ∀ f, [30, 26, 27, 28, 29].contains f = false → mA X f = mA x f) (yL : ∀ f, [62].contains f = false → mL X f = mL x f) (yB : ∀ f, mB X f = mB x f) (hB2 : frsh T ∧ cD T ae = 0 ∧ ae < nx T) (xOk : rOk k X) (xLim : rLim X) (xTap : rTap M' X T) (xRul : rRul M' X T) : Rep ae k M' X T := by
  obtain ⟨hB, hOk, hLim, hNew, hSum, hWho, hFix, hNum, hSta, hCon, hLotL, hLot, hCha, hWei, hTabL, hTab, hWan, hGot, hLoa, hFamL, hFam, hHad, hRef, hParL, hPar, hTap, hRul, hVan, hRoa, hSto⟩ := h
  exact ⟨hB2,
    xOk,
    xLim,
    k_rNew (yI 4 rfl) (yA 9 rfl) (yA 10 rfl) (yA 11 rfl) (yA 12 rfl) hNew,
    k_rSum (yI 4 rfl) (yI 32 rfl) (yI 37 rfl) (yL 40 rfl) (yA 36 rfl) (yA 39 rfl) (yA 10 rfl) hSum,
    k_rWho (yI 4 rfl) (yI 16 rfl) (yI 20 rfl) (yI 32 rfl) (yI 65 rfl) (yA 21 rfl) (yA 33 rfl) (yA 66 rfl) (yA 35 rfl) (yI 37 rfl) (yA 38 rfl) hWho,
    (show _ from by rw [eM]; exact k_rFix hk (by decide) hFix),
    (show _ from by rw [eM]; exact k_rNum hk (by decide) (yI 2 rfl) (yI 20 rfl) (yI 65 rfl) hNum),
    (show _ from by rw [eM]; exact k_rSta hk (by decide) (yI 1 rfl) hSta),
    (show _ from by rw [eM]; exact k_rCon hk (by decide) (yA 3 rfl) hCon),
    (show _ from by rw [eM]; exact k_rLotL hk (by decide) (by decide) (by decide) (yI 4 rfl) hLotL),
    (show _ from by rw [eM]; exact k_rLot hk (by decide) (yI 4 rfl) (yA 5 rfl) (yA 6 rfl) (yA 7 rfl) (yA 8 rfl) (yA 9 rfl) (yA 10 rfl) (yA 11 rfl) (yA 12 rfl) hLot),
    (show _ from by rw [eM]; exact k_rCha hk (by decide) (by decide) (yI 4 rfl) (yA 5 rfl) (yA 7 rfl) hCha),
    (show _ from by rw [eM]; exact k_rWei hk (by decide) (by decide) (yI 4 rfl) (yI 65 rfl) (yA 66 rfl) (yA 67 rfl) (yA 68 rfl) hWei),
    (show _ from by rw [eM]; exact k_rTabL hk (by decide) (by decide) (by decide) (yI 13 rfl) hTabL),
    (show _ from by rw [eM]; exact k_rTab hk (by decide) (yI 13 rfl) hTab),
    (show _ from by rw [eM]; exact k_rWan hk (by decide) (yI 13 rfl) (yA 14 rfl) hWan),
    (show _ from by rw [eM]; exact k_rGot hk (by decide) (yI 13 rfl) (yB 15) hGot),
    (show _ from by rw [eM]; exact k_rLoa hk (by decide) (yI 13 rfl) (yA 43 rfl) (yI 44 rfl) hLoa),
    (show _ from by rw [eM]; exact k_rFamL hk (by decide) (by decide) (by decide) (yI 16 rfl) hFamL),
    (show _ from by rw [eM]; exact k_rFam hk (by decide) (by decide) (yI 16 rfl) (yA 18 rfl) (yA 19 rfl) hFam),
    (show _ from by rw [eM]; exact k_rHad hk (by decide) (yI 16 rfl) (yI 32 rfl) (yA 8 rfl) (yA 33 rfl) (yA 35 rfl) (yA 38 rfl) (yA 39 rfl) hHad),
    (show _ from by rw [eM]; exact k_rRef hk (by decide) (by decide) (yI 16 rfl) (yI 20 rfl) (yA 21 rfl) (yA 22 rfl) (yA 23 rfl) (yA 24 rfl) hRef),
    (show _ from by rw [eM]; exact k_rParL hk (by decide) (by decide) (by decide) (yI 32 rfl) hParL),
    (show _ from by rw [eM]; exact k_rPar hk (by decide) (by decide) (by decide) (yI 32 rfl) (yI 37 rfl) (yA 33 rfl) (yA 34 rfl) (yA 35 rfl) (yA 36 rfl) (yA 38 rfl) (yA 39 rfl) hPar),
    xTap,
    xRul,
    (show _ from by rw [eM]; exact k_rVan hk (by decide) hVan),
    (show _ from by rw [eM]; exact k_rRoa hk (by decide) (by decide) (yA 42 rfl) hRoa),
    (show _ from by rw [eM]; exact k_rSto hk (by decide) (by decide) (yI 56 rfl) (yA 55 rfl) hSto)⟩
end M44
