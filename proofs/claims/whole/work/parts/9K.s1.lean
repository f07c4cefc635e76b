/-! PURE: van rounds: the reference's ways and tours -/
def KM (A B I : List Nat) (y z : MS) : Prop := (∀ f, f ∉ A → mA z f = mA y f) ∧ (∀ f, f ∉ B → mB z f = mB y f) ∧ (∀ f, f ∉ I → mI z f = mI y f) ∧ ∀ f, mL z f = mL y f
section KMS
variable {A B I A' B' I' : List Nat} {y z w : MS}
theorem KM_rf (A B I : List Nat) (y : MS) : KM A B I y y := ⟨fun _ _ => rfl, fun _ _ => rfl, fun _ _ => rfl, fun _ => rfl⟩
theorem KM_tr (h : KM A B I y z) (h2 : KM A B I z w) : KM A B I y w := ⟨fun f hf => (h2.1 f hf).trans (h.1 f hf), fun f hf => (h2.2.1 f hf).trans (h.2.1 f hf), fun f hf => (h2.2.2.1 f hf).trans (h.2.2.1 f hf), fun f => (h2.2.2.2 f).trans (h.2.2.2 f)⟩
theorem KM_w (h : KM A B I y z) (a : ∀ f ∈ A, f ∈ A') (b : ∀ f ∈ B, f ∈ B') (i : ∀ f ∈ I, f ∈ I') : KM A' B' I' y z := ⟨fun f hf => h.1 f (fun q => hf (a f q)), fun f hf => h.2.1 f (fun q => hf (b f q)), fun f hf => h.2.2.1 f (fun q => hf (i f q)), h.2.2.2⟩
theorem KM_sA {k : Nat} (y : MS) (f : Nat → Int32) (hk : k ∈ A) : KM A B I y (sA y k f) := ⟨fun j hj => by rw [mA_sA, if_neg (fun (z : j = k) => hj (z ▸ hk))], fun _ _ => rfl, fun _ _ => rfl, fun _ => rfl⟩
theorem KM_sB {k : Nat} (y : MS) (f : Nat → Int64) (hk : k ∈ B) : KM A B I y (sB y k f) := ⟨fun _ _ => rfl, fun j hj => by rw [mB_sB, if_neg (fun (z : j = k) => hj (z ▸ hk))], fun _ _ => rfl, fun _ => rfl⟩
theorem KM_sI {k : Nat} (y : MS) (v : Int32) (hk : k ∈ I) : KM A B I y (sI y k v) := ⟨fun _ _ => rfl, fun _ _ => rfl, fun j hj => by rw [mI_sI, if_neg (fun (z : j = k) => hj (z ▸ hk))], fun _ => rfl⟩
end KMS
theorem l_add (a b : Nat) : lN a + lN b = lN (a + b) := (Int64.ofNat_add a b).symm
/-- what the roads and loads are -/
def XE (x : MS) (m : Nat) (who g : Nat → Nat) : Prop := m ≤ 8 ∧ (∀ k, k < m → who k < 12) ∧ (∀ a b, mA x 42 (13 * tbF m who a + tbF m who b) = nI (lgF x m who a b) ∧ lgF x m who a b ≤ 600 ∧ lgF x m who a b = lgF x m who b a) ∧ (∀ k, g k ≤ 1000000) ∧ ∀ k, k < m → mA x 43 (who k) = nI (g k)
def YE (x y : MS) (m : Nat) (who : Nat → Nat) : Prop := mA y 42 = mA x 42 ∧ mA y 43 = mA x 43 ∧ ∀ k, k < m → mA y 45 k = nI (who k)
section REF
variable {x y : MS} {m : Nat} {who g : Nat → Nat}
theorem YE_k {A B I : List Nat} {z : MS} (h : YE x y m who) (hk : KM A B I y z) (hA : nin [42, 43, 45] A = true := by decide) : YE x z m who := ⟨by rw [hk.1 42 (nin_of hA (by decide))]; exact h.1, by rw [hk.1 43 (nin_of hA (by decide))]; exact h.2.1, fun k hk2 => by rw [hk.1 45 (nin_of hA (by decide))]; exact h.2.2 k hk2⟩
theorem XE_tb (hx : XE x m who g) (a : Nat) : tbF m who a ≤ 12 := by
  unfold tbF
  split
  · have := hx.2.1 a (by assumption)
    omega
  · omega
theorem ev12_way (n : Nat × Nat) (hx : XE x m who g) (hy : YE x y m who) {a b : Nat} (ha : a < m ∨ a = 8) (hb : b < m ∨ b = 8) : fX12_way n y (aI a) (aI b) = some (nI (lgF x m who a b)) := by
  have h8 := hx.1
  have ta := XE_tb hx a
  have tb := XE_tb hx b
  have e := (hx.2.2.1 a b).1
  have ix : (13 : Int32) * nI (tbF m who a) + nI (tbF m who b) = nI (13 * tbF m who a + tbF m who b) := by
    rw [show (13 : Int32) = nI 13 from rfl, pk_mul, nI_add]
  obtain ⟨i1, i2⟩ := ixN (s := 13 * tbF m who a + tbF m who b) (N := 169) (by omega) (by decide)
  have one : ∀ c, c < m → (aI c = nI c ∧ 0 ≤ nI c ∧ (nI c).toNatClampNeg = c ∧ ¬ (nI c < 0 ∨ 8 ≤ c) ∧ mA y 45 c = nI (tbF m who c)) := fun c hc => by
    obtain ⟨j1, j2⟩ := ixN (s := c) (N := 8) (by omega) (by decide)
    refine ⟨(aI_n (by omega)).1, nI_pos' (by omega), j1, j2, ?_⟩
    rw [hy.2.2 c hc]
    unfold tbF
    rw [if_pos hc]
  have t8 : (12 : Int32) = nI (tbF m who 8) := by unfold tbF; rw [if_neg (by omega)]; rfl
  have m1 : ¬ (0 : Int32) ≤ -1 := by decide
  unfold fX12_way
  rcases ha with ha | ha
  · obtain ⟨a1, a2, a3, a4, a5⟩ := one a ha
    rcases hb with hb | hb
    · obtain ⟨b1, b2, b3, b4, b5⟩ := one b hb
      simp only [a1, b1, if_pos a2, if_pos b2, grd, bnd, a3, b3, if_pos a4, if_pos b4, a5, b5, ix, i1, if_pos i2, hy.1, e]
    · subst hb
      simp only [a1, show aI 8 = -1 from rfl, if_pos a2, if_neg m1, grd, bnd, a3, if_pos a4, a5, t8, ix, i1, if_pos i2, hy.1, e]
  · subst ha
    rcases hb with hb | hb
    · obtain ⟨b1, b2, b3, b4, b5⟩ := one b hb
      simp only [b1, show aI 8 = -1 from rfl, if_neg m1, if_pos b2, grd, bnd, b3, if_pos b4, b5, t8, ix, i1, if_pos i2, hy.1, e]
    · subst hb
      simp only [show aI 8 = -1 from rfl, if_neg m1, grd, bnd, t8, ix, i1, if_pos i2, hy.1, e]
def WyR (x : MS) (m : Nat) (who : Nat → Nat) (y : MS) (s : Nat) : Prop := ∀ i, i < m → s.testBit i = true → mA y 46 (8 * s + i) = nI (md m (lgF x m who) (s ^^^ 2 ^ i) i)
theorem XE_b (hx : XE x m who g) : ∀ a b, lgF x m who a b ≤ 600 := fun a b => (hx.2.2.1 a b).2.1
theorem tw_lp (n : Nat × Nat) (hx : XE x m who g) (hy : YE x y m who) {r i B : Nat} (hB : B ≤ 1000000) (hi : i < m) (hr : r < 2 ^ m) (hw : WyR x m who y r) : ∀ (d k fuel : Nat), k + d = m → d < fuel → fX12_findTours_lp93 n y (nI m) (nI i) (nI r) fuel (nI (mnF B r.testBit (fun k => lgF x m who i k + md m (lgF x m who) (r ^^^ 2 ^ k) k) k)) (nI k) = some (nI (mnF B r.testBit (fun k => lgF x m who i k + md m (lgF x m who) (r ^^^ 2 ^ k) k) m)) := by
  intro d k fuel
  induction fuel generalizing d k with
  | zero => intro _ hf; exact absurd hf (Nat.not_lt_zero _)
  | succ fuel ih =>
    intro hk hf
    have h4 := hx.1
    have p8 := p28 h4
    unfold fX12_findTours_lp93
    by_cases hd : d = 0
    · rw [if_pos (nI_le (by omega) (by omega)), show k = m by omega]
    · have hlt : k < m := by omega
      have ih := ih (d - 1) (k + 1) (by omega) (by omega)
      rw [if_neg (nI_ge hlt (by omega))]
      rw [mnF_s] at ih
      by_cases c : r.testBit k = true
      · rw [if_pos ((b_tb (s := r) (k := k) (by omega) (by omega)).2.mpr c)]
        rw [if_pos c] at ih
        obtain ⟨i1, i2, i3, i4⟩ := ix8 (s := r) (k := k) (by omega) (by omega)
        have b1 := mnF_B (B := B) (p := r.testBit) (f := fun k => lgF x m who i k + md m (lgF x m who) (r ^^^ 2 ^ k) k) k
        have b2 := XE_b hx i k
        have t := t_bit r (by omega) k (by omega) c
        have p2 := Nat.two_pow_pos k
        have b3 := md_c h4 (XE_b hx) (show r ^^^ 2 ^ k < 2 ^ m by omega) k
        have wy := ev12_way n hx hy (Or.inl hi) (Or.inl hlt)
        rw [(aI_n (show i < 8 by omega)).1, (aI_n (show k < 8 by omega)).1] at wy
        simp only [cal, bnd, grd, wy, i1, i3, if_pos i4, hw k hlt c, nI_add, nI_inc1]
        by_cases w : mnF B r.testBit (fun k => lgF x m who i k + md m (lgF x m who) (r ^^^ 2 ^ k) k) k ≤ lgF x m who i k + md m (lgF x m who) (r ^^^ 2 ^ k) k
        · rw [if_pos ((nI_leI (by omega) (by omega)).mpr w)]
          rw [Nat.min_eq_left w] at ih
          exact ih
        · rw [if_neg (fun z => w ((nI_leI (by omega) (by omega)).mp z))]
          rw [Nat.min_eq_right (by omega)] at ih
          exact ih
      · rw [if_neg (fun z => c ((b_tb (s := r) (k := k) (by omega) (by omega)).2.mp z))]
        simp only [bnd, nI_inc1]
        rw [if_neg c] at ih
        exact ih
/-- one set's tour -/
theorem ts_lp (n : Nat × Nat) (hn : 30000 ≤ n.1) (hx : XE x m who g) (hy : YE x y m who) {s : Nat} (hs : s < 2 ^ m) (hw : ∀ a, s.testBit a = true → WyR x m who y (s ^^^ 2 ^ a)) : ∀ (d i fuel : Nat) (y' : MS), i + d = m → d < fuel → KM [46, 47] [48] [] y y' → (∀ j, j < 8 * s → mA y' 46 j = mA y 46 j) → (∀ j, j ≠ s → mA y' 47 j = mA y 47 j ∧ mB y' 48 j = mB y 48 j) → (∀ j, j < i → s.testBit j = true → mA y' 46 (8 * s + j) = nI (md m (lgF x m who) (s ^^^ 2 ^ j) j)) → mB y' 48 s = lN (wS g s i) → mA y' 47 s = nI (mnF 1000000 s.testBit (fun k => lgF x m who 8 k + md m (lgF x m who) (s ^^^ 2 ^ k) k) i) → ∃ z, fX12_findTours_lp27 n (nI m) (nI s) fuel (nI i) y' = some z ∧ KM [46, 47] [48] [] y z ∧ (∀ j, j < 8 * s → mA z 46 j = mA y 46 j) ∧ (∀ j, j ≠ s → mA z 47 j = mA y 47 j ∧ mB z 48 j = mB y 48 j) ∧ WyR x m who z s ∧ mB z 48 s = lN (wS g s m) ∧ mA z 47 s = nI (mnF 1000000 s.testBit (fun k => lgF x m who 8 k + md m (lgF x m who) (s ^^^ 2 ^ k) k) m) := by
  intro d i fuel
  induction fuel generalizing d i with
  | zero => intro _ _ hf; exact absurd hf (Nat.not_lt_zero _)
  | succ fuel ih =>
    intro y' hi hf kp q46 qo qw q48 q47
    have h4 := hx.1
    have p8 := p28 h4
    have hy' := YE_k hy kp
    unfold fX12_findTours_lp27
    by_cases hd : d = 0
    · rw [if_pos (nI_le (by omega) (by omega))]
      have eim : i = m := by omega
      subst eim
      exact ⟨y', rfl, kp, q46, qo, fun j hj => qw j (by omega), q48, q47⟩
    · have hlt : i < m := by omega
      rw [if_neg (nI_ge hlt (by omega))]
      have ih := ih (d - 1) (i + 1)
      rw [mnF_s, wS_s] at ih
      by_cases c : s.testBit i = true
      · rw [if_neg (fun z => (b_tb (s := s) (k := i) (by omega) (by omega)).1.mp z c)]
        rw [if_pos c, if_pos c] at ih
        have wi := hx.2.1 i hlt
        obtain ⟨s1, s2⟩ := ixN (s := s) (N := 256) (by omega) (by decide)
        obtain ⟨j1, j2⟩ := ixN (s := i) (N := 8) (by omega) (by decide)
        obtain ⟨w1, w2⟩ := ixN (s := who i) (N := 12) wi (by decide)
        obtain ⟨i1, i2, i3, i4⟩ := ix8 (s := s) (k := i) (by omega) (by omega)
        have t := t_bit s (by omega) i (by omega) c
        have p2 := Nat.two_pow_pos i
        have gb := hx.2.2.2.1 i
        have b1 := mnF_B (B := 1000000) (p := s.testBit) (f := fun k => lgF x m who 8 k + md m (lgF x m who) (s ^^^ 2 ^ k) k) i
        have b2 := XE_b hx 8 i
        have b3 := md_c h4 (XE_b hx) (show s ^^^ 2 ^ i < 2 ^ m by omega) i
        have e43 : mA y' 43 (who i) = nI (g i) := by rw [hy'.2.1]; exact hx.2.2.2.2 i hlt
        obtain ⟨u, eu⟩ : ∃ u, u = sB y' 48 (vp_updL (mB y' 48) s (lN (wS g s i + g i))) := ⟨_, rfl⟩
        have ku : KM [46, 47] [48] [] y' u := by rw [eu]; exact KM_sB y' _ (by simp)
        have hyu := YE_k hy' ku
        have wu : WyR x m who u (s ^^^ 2 ^ i) := fun j hj hb => by
          have : mA u 46 = mA y' 46 := by rw [eu]; rfl
          rw [this, q46 _ (by omega)]
          exact hw i c j hj hb
        -- the way ahead
        have lp : ∀ z0, z0 = (if s ^^^ 2 ^ i = 0 then nI (lgF x m who i 8) else 1000000) → fX12_findTours_lp93 n u (nI m) (nI i) (nI (s ^^^ 2 ^ i)) n.1 z0 0 = some (nI (md m (lgF x m who) (s ^^^ 2 ^ i) i)) := by
          intro z0 ez
          by_cases q : s ^^^ 2 ^ i = 0
          · have b5 := XE_b hx i 8
            have := tw_lp n hx hyu (r := s ^^^ 2 ^ i) (i := i) (B := lgF x m who i 8) (by omega) hlt (by omega) wu m 0 n.1 (by omega) (by omega)
            rw [show mnF (lgF x m who i 8) (s ^^^ 2 ^ i).testBit (fun k => lgF x m who i k + md m (lgF x m who) (s ^^^ 2 ^ i ^^^ 2 ^ k) k) 0 = lgF x m who i 8 from rfl, nI_0] at this
            rw [ez, if_pos q, this]
            congr 2
            rcases mnF_at (B := lgF x m who i 8) (p := (s ^^^ 2 ^ i).testBit) (f := fun k => lgF x m who i k + md m (lgF x m who) (s ^^^ 2 ^ i ^^^ 2 ^ k) k) m with w | ⟨j, -, w, -⟩
            · rw [w, q, md_0]
            · rw [q, Nat.zero_testBit] at w
              exact absurd w (by decide)
          · have := tw_lp n hx hyu (r := s ^^^ 2 ^ i) (i := i) (B := 1000000) (by omega) hlt (by omega) wu m 0 n.1 (by omega) (by omega)
            rw [← md_s h4 (by omega) q, show mnF 1000000 (s ^^^ 2 ^ i).testBit (fun k => lgF x m who i k + md m (lgF x m who) (s ^^^ 2 ^ i ^^^ 2 ^ k) k) 0 = 1000000 from rfl, nI_0] at this
            rw [ez, if_neg q]
            exact this
        obtain ⟨v, ev⟩ : ∃ v, v = sA u 46 (upd (mA u 46) (8 * s + i) (nI (md m (lgF x m who) (s ^^^ 2 ^ i) i))) := ⟨_, rfl⟩
        have kv : KM [46, 47] [48] [] u v := by rw [ev]; exact KM_sA u _ (by simp)
        have hyv := YE_k hyu kv
        have wy8 := ev12_way n hx hyv (Or.inr rfl) (Or.inl hlt)
        rw [(aI_n (show i < 8 by omega)).1, show aI 8 = -1 from rfl] at wy8
        have wyb := ev12_way n hx hyu (Or.inl hlt) (Or.inr rfl)
        rw [(aI_n (show i < 8 by omega)).1, show aI 8 = -1 from rfl] at wyb
        have v47 : mA v 47 s = nI (mnF 1000000 s.testBit (fun k => lgF x m who 8 k + md m (lgF x m who) (s ^^^ 2 ^ k) k) i) := by
          rw [ev, eu]; exact q47
        have main : ∀ val : Nat, val = min (mnF 1000000 s.testBit (fun k => lgF x m who 8 k + md m (lgF x m who) (s ^^^ 2 ^ k) k) i) (lgF x m who 8 i + md m (lgF x m who) (s ^^^ 2 ^ i) i) → ∃ z, fX12_findTours_lp27 n (nI m) (nI s) fuel (nI (i + 1)) (sA v 47 (upd (mA v 47) s (nI val))) = some z ∧ KM [46, 47] [48] [] y z ∧ (∀ j, j < 8 * s → mA z 46 j = mA y 46 j) ∧ (∀ j, j ≠ s → mA z 47 j = mA y 47 j ∧ mB z 48 j = mB y 48 j) ∧ WyR x m who z s ∧ mB z 48 s = lN (wS g s m) ∧ mA z 47 s = nI (mnF 1000000 s.testBit (fun k => lgF x m who 8 k + md m (lgF x m who) (s ^^^ 2 ^ k) k) m) := by
          intro val hval
          have e46 : mA (sA v 47 (upd (mA v 47) s (nI val))) 46 = upd (mA y' 46) (8 * s + i) (nI (md m (lgF x m who) (s ^^^ 2 ^ i) i)) := by rw [ev, eu]; rfl
          have e47 : mA (sA v 47 (upd (mA v 47) s (nI val))) 47 = upd (mA y' 47) s (nI val) := by rw [ev, eu]; rfl
          have e48 : mB (sA v 47 (upd (mA v 47) s (nI val))) 48 = vp_updL (mB y' 48) s (lN (wS g s i + g i)) := by rw [ev, eu]; rfl
          refine ih _ (by omega) (by omega) (KM_tr kp (KM_tr ku (KM_tr kv (KM_sA v _ (by simp))))) (fun j hj => ?_) (fun j hj => ?_) (fun j hj hb => ?_) ?_ ?_
          · rw [e46, pk_un (by omega)]; exact q46 j hj
          · rw [e47, e48, pk_un hj, pk_uLn hj]; exact qo j hj
          · rw [e46]
            by_cases w : j = i
            · subst w; rw [pk_us]
            · rw [pk_un (by omega)]; exact qw j (by omega) hb
          · rw [e48, pk_uLs]
          · rw [e47, pk_us, hval]
        have xs := b_xs (show s < 256 by omega) (show i < 8 by omega)
        simp only [grd, bnd, s1, if_pos s2, q48, j1, if_pos j2, hy'.2.2 i hlt, w1, if_pos w2, e43, nI_l (show g i < 2 ^ 31 by omega), l_add, xs, nI_inc1, i1, i3, if_pos i4, ← eu]
        by_cases q : s ^^^ 2 ^ i = 0
        · rw [if_pos (by rw [q]; rfl)]
          simp only [cal, wyb, lp (nI (lgF x m who i 8)) (by rw [if_pos q]), ← ev, wy8, v47, nI_add]
          by_cases w : mnF 1000000 s.testBit (fun k => lgF x m who 8 k + md m (lgF x m who) (s ^^^ 2 ^ k) k) i ≤ lgF x m who 8 i + md m (lgF x m who) (s ^^^ 2 ^ i) i
          · rw [if_pos ((nI_leI (by omega) (by omega)).mpr w)]
            exact main _ (Nat.min_eq_left w).symm
          · rw [if_neg (fun z => w ((nI_leI (by omega) (by omega)).mp z))]
            exact main _ (Nat.min_eq_right (by omega)).symm
        · rw [if_neg (nI_ne0 (by omega) (by omega))]
          simp only [cal, lp 1000000 (by rw [if_neg q]), ← ev, wy8, v47, nI_add]
          by_cases w : mnF 1000000 s.testBit (fun k => lgF x m who 8 k + md m (lgF x m who) (s ^^^ 2 ^ k) k) i ≤ lgF x m who 8 i + md m (lgF x m who) (s ^^^ 2 ^ i) i
          · rw [if_pos ((nI_leI (by omega) (by omega)).mpr w)]
            exact main _ (Nat.min_eq_left w).symm
          · rw [if_neg (fun z => w ((nI_leI (by omega) (by omega)).mp z))]
            exact main _ (Nat.min_eq_right (by omega)).symm
      · rw [if_pos ((b_tb (s := s) (k := i) (by omega) (by omega)).1.mpr c)]
        simp only [bnd, nI_inc1]
        rw [if_neg c, if_neg c, Nat.add_zero] at ih
        exact ih y' (by omega) (by omega) kp q46 qo (fun j hj hb => by
          by_cases w : j = i
          · subst w; exact absurd hb c
          · exact qw j (by omega) hb) q48 q47
/-- what the tables of ways, tours and weights hold -/
def TR (x : MS) (m : Nat) (who g : Nat → Nat) (y : MS) (t : Nat) : Prop := WyR x m who y t ∧ mA y 47 t = nI (Tf x m who t) ∧ mB y 48 t = lN (Wf m g t)
theorem ev_tours (n : Nat × Nat) (hn : 30000 ≤ n.1) (hx : XE x m who g) (hy : YE x y m who) : ∃ z, fX12_findTours n y (nI m) = some z ∧ KM [46, 47] [48] [] y z ∧ ∀ t, 0 < t → t < 2 ^ m → TR x m who g z t := by
  have h4 := hx.1
  have p8 := p28 h4
  have p1 := Nat.two_pow_pos m
  have lp : ∀ (d s fuel : Nat) (y' : MS), s + d = 2 ^ m → 0 < s → d < fuel → KM [46, 47] [48] [] y y' → (∀ t, 0 < t → t < s → TR x m who g y' t) → ∃ z, fX12_findTours_lp2 n (nI m) fuel (nI s) y' = some z ∧ KM [46, 47] [48] [] y z ∧ ∀ t, 0 < t → t < 2 ^ m → TR x m who g z t := by
    intro d s fuel
    induction fuel generalizing d s with
    | zero => intro _ _ _ hf; exact absurd hf (Nat.not_lt_zero _)
    | succ fuel ih =>
      intro y' hs h0 hf kp ht
      unfold fX12_findTours_lp2
      rw [t_sh m (by omega)]
      by_cases hd : d = 0
      · rw [if_pos (nI_le (by omega) (by omega))]
        exact ⟨y', rfl, kp, fun t h1 h2 => ht t h1 (by omega)⟩
      · have hlt : s < 2 ^ m := by omega
        rw [if_neg (nI_ge hlt (by omega))]
        obtain ⟨s1, s2⟩ := ixN (s := s) (N := 256) (by omega) (by decide)
        obtain ⟨u, eu⟩ : ∃ u, u = sB (sA y' 47 (upd (mA y' 47) s 1000000)) 48 (vp_updL (mB y' 48) s 0) := ⟨_, rfl⟩
        have ku : KM [46, 47] [48] [] y' u := by rw [eu]; exact KM_tr (KM_sA y' _ (by simp)) (KM_sB _ _ (by simp))
        have hyu := YE_k hy (KM_tr kp ku)
        have u46 : mA u 46 = mA y' 46 := by rw [eu]; rfl
        have u47 : mA u 47 = upd (mA y' 47) s 1000000 := by rw [eu]; rfl
        have u48 : mB u 48 = vp_updL (mB y' 48) s 0 := by rw [eu]; rfl
        obtain ⟨z, e1, e2, e3, e4, e5, e6, e7⟩ := ts_lp n hn hx hyu hlt (fun a ha => by
          have am := bit_lt hlt ha
          have t := t_bit s (by omega) a (by omega) ha
          have := Nat.two_pow_pos a
          intro j hj hb
          rw [u46]
          have n0 : s ^^^ 2 ^ a ≠ 0 := fun z => by rw [z, Nat.zero_testBit] at hb; exact absurd hb (by decide)
          exact (ht (s ^^^ 2 ^ a) (by omega) (by omega)).1 j hj hb) m 0 n.1 u (by omega) (by omega) (KM_rf _ _ _ u) (fun _ _ => rfl) (fun _ _ => ⟨rfl, rfl⟩) (fun j hj => absurd hj (Nat.not_lt_zero _)) (by rw [u48, pk_uLs]; rfl) (by rw [u47, pk_us]; rfl)
        rw [nI_0] at e1
        have m48 : mB (sA y' 47 (upd (mA y' 47) s 1000000)) 48 = mB y' 48 := rfl
        simp only [grd, bnd, cal, s1, if_pos s2, m48, ← eu, e1, nI_inc1]
        refine ih (d - 1) (s + 1) z (by omega) (by omega) (by omega) (KM_tr kp (KM_tr ku e2)) (fun t h1 h2 => ?_)
        by_cases q : t = s
        · subst q
          refine ⟨e5, ?_, e6⟩
          rw [e7, ← md_s h4 (by omega) (by omega)]
          rfl
        · have o := ht t h1 (by omega)
          refine ⟨fun i hi hb => ?_, ?_, ?_⟩
          · rw [e3 _ (by omega), u46]; exact o.1 i hi hb
          · rw [(e4 t q).1, u47, pk_un q]; exact o.2.1
          · rw [(e4 t q).2, u48, pk_uLn q]; exact o.2.2
  obtain ⟨z, e1, e2⟩ := lp (2 ^ m - 1) 1 n.1 y (by omega) (by omega) (by omega) (KM_rf _ _ _ y) (fun t h1 h2 => absurd h1 (by omega))
  have e1 : fX12_findTours_lp2 n (nI m) n.1 1 y = some z := e1
  exact ⟨z, by simp only [fX12_findTours, bnd, cal, e1], e2⟩
end REF
