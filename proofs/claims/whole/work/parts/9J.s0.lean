/-! PURE: van rounds: who is to be brought something, the whole plan of the class -/
def WL (F : Nat → Int32) : Nat → List Nat
  | 0 => []
  | t + 1 => if F t ≤ 0 then WL F t else WL F t ++ [t]
theorem WL_s (F : Nat → Int32) (t : Nat) : WL F (t + 1) = if F t ≤ 0 then WL F t else WL F t ++ [t] := rfl
theorem WL_len (F : Nat → Int32) : ∀ t, (WL F t).length = cntP F t
  | 0 => rfl
  | t + 1 => by
    have := WL_len F t
    rw [WL_s, cntP_s]
    by_cases c : F t ≤ 0
    · rw [if_pos c, if_pos c]; exact this
    · rw [if_neg c, if_neg c, List.length_append, this]; rfl
theorem WL_lt (F : Nat → Int32) : ∀ t k, k < (WL F t).length → (WL F t).getD k 0 < t ∧ ¬ F ((WL F t).getD k 0) ≤ 0
  | 0, k, h => absurd h (Nat.not_lt_zero _)
  | t + 1, k, h => by
    rw [WL_s] at h ⊢
    by_cases c : F t ≤ 0
    · rw [if_pos c] at h ⊢
      have := WL_lt F t k h
      exact ⟨by omega, this.2⟩
    · rw [if_neg c] at h ⊢
      rw [List.length_append, List.length_singleton] at h
      rw [getD_app]
      by_cases d : k < (WL F t).length
      · rw [if_pos d]
        have := WL_lt F t k d
        exact ⟨by omega, this.2⟩
      · rw [if_neg d, show k - (WL F t).length = 0 by omega]
        exact ⟨Nat.lt_succ_self _, c⟩
theorem WL_inc (F : Nat → Int32) : ∀ t i j, i < j → j < (WL F t).length → (WL F t).getD i 0 < (WL F t).getD j 0
  | 0, i, j, _, h => absurd h (Nat.not_lt_zero _)
  | t + 1, i, j, hij, h => by
    rw [WL_s] at h ⊢
    by_cases c : F t ≤ 0
    · rw [if_pos c] at h ⊢
      exact WL_inc F t i j hij h
    · rw [if_neg c] at h ⊢
      rw [List.length_append, List.length_singleton] at h
      rw [getD_app, getD_app, if_pos (show i < (WL F t).length by omega)]
      by_cases d : j < (WL F t).length
      · rw [if_pos d]
        exact WL_inc F t i j hij d
      · rw [if_neg d, show j - (WL F t).length = 0 by omega]
        exact (WL_lt F t i (by omega)).1
theorem WL_pre (F : Nat → Int32) (t : Nat) : ∀ d, (WL F t).length ≤ (WL F (t + d)).length ∧ ∀ k, k < (WL F t).length → (WL F (t + d)).getD k 0 = (WL F t).getD k 0
  | 0 => ⟨Nat.le_refl _, fun _ _ => rfl⟩
  | d + 1 => by
    obtain ⟨a, b⟩ := WL_pre F t d
    rw [← Nat.add_assoc, WL_s]
    by_cases c : F (t + d) ≤ 0
    · rw [if_pos c]; exact ⟨a, b⟩
    · rw [if_neg c]
      refine ⟨by rw [List.length_append]; omega, fun k hk => ?_⟩
      rw [getD_app, if_pos (by omega)]
      exact b k hk
theorem WL_ext (F : Nat → Int32) (t : Nat) (h : ∀ j, t ≤ j → F j ≤ 0) : ∀ d, WL F (t + d) = WL F t
  | 0 => rfl
  | d + 1 => by rw [← Nat.add_assoc, WL_s, if_pos (h _ (by omega))]; exact WL_ext F t h d
theorem WL_mem (F : Nat → Int32) : ∀ t j, j < t → ¬ F j ≤ 0 → ∃ k, k < (WL F t).length ∧ (WL F t).getD k 0 = j
  | 0, j, h, _ => absurd h (Nat.not_lt_zero _)
  | t + 1, j, h, hp => by
    rw [WL_s]
    by_cases e : j = t
    · subst e
      rw [if_neg hp]
      exact ⟨(WL F j).length, by rw [List.length_append, List.length_singleton]; omega, by rw [getD_app, if_neg (Nat.lt_irrefl _), Nat.sub_self]; rfl⟩
    · obtain ⟨k, k1, k2⟩ := WL_mem F t j (by omega) hp
      by_cases c : F t ≤ 0
      · rw [if_pos c]; exact ⟨k, k1, k2⟩
      · rw [if_neg c]
        exact ⟨k, by rw [List.length_append]; omega, by rw [getD_app, if_pos k1]; exact k2⟩
section PLN
variable {ae : Nat} {M : Nat → Nat → Nat} {x : MS} {S : CS}
theorem ga_lp (n : Nat × Nat) {F : Nat → Int32} {N : Nat} (hv : rV0 M S) (hL : listOk ae S 1 (M 0 5) N (M 2)) (hG : ∀ t, t < N → cI S 182 (M 2 t) = F t) (hN : N ≤ 12) (h8 : (WL F N).length ≤ 8) : ∀ (d i fuel : Nat) (S' : CS), i + d = N → d < fuel → kq S S' [203] [] [48, 49] [] → cI S' 203 (M 0 10) = nI (WL F i).length → (∀ k, k < (WL F i).length → cA S' 48 (M 0 12) k = nI ((WL F i).getD k 0) ∧ cA S' 49 (M 0 13) k = F ((WL F i).getD k 0)) → ∃ T, fX9_gather_lp7 n (M 0 10) (M 0 5) fuel (nI i) S' = some T ∧ kq S T [203] [] [48, 49] [] ∧ cI T 203 (M 0 10) = nI (WL F N).length ∧ (∀ k, k < (WL F N).length → cA T 48 (M 0 12) k = nI ((WL F N).getD k 0) ∧ cA T 49 (M 0 13) k = F ((WL F N).getD k 0)) := by
  intro d i fuel
  induction fuel generalizing d i with
  | zero => intro _ _ hf; exact absurd hf (Nat.not_lt_zero _)
  | succ fuel ih =>
    intro S' hi hf kp h3 hh
    have hL' := q_list kp hL (by decide) (by decide) (by decide)
    have hv' := q_rV0 kp (by decide) hv
    have kl : cD S' (M 0 5) = 21 := hL'.1
    unfold fX9_gather_lp7
    simp only [grd, cal, kl, ev_size n hL', if_true]
    by_cases hd : d = 0
    · rw [if_pos (nI_le (by omega) (by omega)), ← show i = N by omega]
      exact ⟨S', rfl, kp, h3, hh⟩
    · have hlt : i < N := by omega
      have ke : cD S (M 2 i) = 9 := list_el hL hlt
      have ke' : cD S' (M 2 i) = 9 := qD kp ke (by decide)
      have gv : cI S' 182 (M 2 i) = F i := qI kp ke (by decide) (by simp) (hG i hlt)
      rw [if_neg (nI_ge hlt (by omega)), if_neg (show ¬ (12 : Int32) ≤ nI i from nI_ge (a := i) (b := 12) (by omega) (by decide))]
      simp only [ev_get n hL' hlt, onn, bnd, ke', gv, nI_inc1, if_true]
      have ih := ih (d - 1) (i + 1)
      rw [WL_s] at ih
      by_cases c : F i ≤ 0
      · rw [if_pos c] at ih ⊢
        exact ih S' (by omega) (by omega) kp h3 hh
      · rw [if_neg c] at ih ⊢
        have l8 : (WL F i).length < 8 := by
          have := (WL_pre F (i + 1) (N - (i + 1))).1
          rw [show i + 1 + (N - (i + 1)) = N by omega, WL_s, if_neg c, List.length_append, List.length_singleton] at this
          omega
        obtain ⟨i1, i2⟩ := ixN (s := (WL F i).length) (N := 8) l8 (by decide)
        have f203 : ∀ T : CS, kq S' T [] [] [48, 49] [] → cI T 203 (M 0 10) = nI (WL F i).length := fun T k => qI k hv'.1 (by decide) (by simp) h3
        have kA1 : kq S' (uA S' 48 (M 0 12) (WL F i).length (nI i)) [] [] [48, 49] [] := kqre (kq_uA S' _ _ _ _) (by simp) (by simp) (by simp) (by simp)
        have kA2 : kq S' (uA (uA S' 48 (M 0 12) (WL F i).length (nI i)) 49 (M 0 13) (WL F i).length (F i)) [] [] [48, 49] [] := kqre (kq_tr kA1 (kq_uA _ _ _ _ _)) (by simp) (by simp) (by simp) (by simp)
        have hv1 := q_rV0 kA1 (by decide) hv'
        simp only [hv'.1, h3, hv'.2.2.1, hv'.2.2.2.2.2.2.2.2.2.1.1, hv'.2.2.2.2.2.2.2.2.2.1.2, i1, if_pos i2, hv1.2.2.2.1, f203 _ kA1, f203 _ kA2, hv1.2.2.2.2.2.2.2.2.2.2.1.1, hv1.2.2.2.2.2.2.2.2.2.2.1.2, nI_inc1, if_true]
        rw [if_neg (show ¬ (8 : Int32) ≤ nI (WL F i).length from nI_ge (a := (WL F i).length) (b := 8) l8 (by decide))]
        refine ih _ (by omega) (by omega) (kqre (kq_tr kp (kq_tr kA2 (kq_uI _ _ _ _))) (by simp) (by simp) (by simp) (by simp)) (by rw [cI_uI, set1_s, set1_s, List.length_append, List.length_singleton]) (fun k hk => ?_)
        have e48 : cA (uI (uA (uA S' 48 (M 0 12) (WL F i).length (nI i)) 49 (M 0 13) (WL F i).length (F i)) 203 (M 0 10) (nI ((WL F i).length + 1))) 48 (M 0 12) k = upd (cA S' 48 (M 0 12)) (WL F i).length (nI i) k := by
          show cA (uA S' 48 (M 0 12) (WL F i).length (nI i)) 48 (M 0 12) k = _
          rw [cA_same]
        have e49 : cA (uI (uA (uA S' 48 (M 0 12) (WL F i).length (nI i)) 49 (M 0 13) (WL F i).length (F i)) 203 (M 0 10) (nI ((WL F i).length + 1))) 49 (M 0 13) k = upd (cA S' 49 (M 0 13)) (WL F i).length (F i) k := by
          show cA (uA (uA S' 48 (M 0 12) (WL F i).length (nI i)) 49 (M 0 13) (WL F i).length (F i)) 49 (M 0 13) k = _
          rw [cA_same]
          rfl
        rw [e48, e49, getD_app]
        rw [List.length_append, List.length_singleton] at hk
        by_cases w : k = (WL F i).length
        · subst w
          rw [pk_us, pk_us, if_neg (Nat.lt_irrefl _), Nat.sub_self]
          exact ⟨rfl, rfl⟩
        · rw [pk_un w, pk_un w, if_pos (show k < (WL F i).length by omega)]
          exact hh k (by omega)
def mxF (f : Nat → Nat) : Nat → Nat
  | 0 => 0
  | k + 1 => if mxF f k < f k then f k else mxF f k
theorem mx_le (f : Nat → Nat) (c : Nat) : ∀ k, (mxF f k ≤ c ↔ ∀ t, t < k → f t ≤ c)
  | 0 => ⟨fun _ t h => absurd h (Nat.not_lt_zero _), fun _ => Nat.zero_le _⟩
  | k + 1 => by
    have ih := mx_le f c k
    show (if mxF f k < f k then f k else mxF f k) ≤ c ↔ _
    constructor
    · intro h t ht
      by_cases e : t = k
      · subst e
        by_cases w : mxF f t < f t
        · rw [if_pos w] at h; exact h
        · rw [if_neg w] at h; omega
      · refine ih.mp ?_ t (by omega)
        by_cases w : mxF f k < f k
        · rw [if_pos w] at h; omega
        · rw [if_neg w] at h; exact h
    · intro h
      have a := h k (by omega)
      have b := ih.mpr (fun t ht => h t (by omega))
      split
      · exact a
      · exact b
theorem he_lp (n : Nat × Nat) {f : Nat → Nat} {N : Nat} (hF : rFix M S) (hL : listOk ae S 1 (M 0 5) N (M 2)) (hG : ∀ t, t < N → cI S 182 (M 2 t) = nI (f t)) (hb : ∀ t, f t ≤ 1000000) (hN : N ≤ 12) : ∀ (d i fuel : Nat), i + d = N → d < fuel → fX11_heaviestLoad_lp4 n S (M 0 0) fuel (nI (mxF f i)) (nI i) = some (nI (mxF f N)) := by
  intro d i fuel
  induction fuel generalizing d i with
  | zero => intro _ hf; exact absurd hf (Nat.not_lt_zero _)
  | succ fuel ih =>
    intro hi hf
    have kl : cD S (M 0 5) = 21 := hL.1
    unfold fX11_heaviestLoad_lp4
    simp only [grd, cal, bnd, onn, hF.1, hF.2.2.2.2.2.2.1, kl, ev_size n hL, if_true]
    by_cases hd : d = 0
    · rw [if_pos (nI_le (by omega) (by omega)), show i = N by omega]
    · have hlt : i < N := by omega
      have ke : cD S (M 2 i) = 9 := list_el hL hlt
      have ih := ih (d - 1) (i + 1) (by omega) (by omega)
      rw [if_neg (nI_ge hlt (by omega))]
      simp only [ev_get n hL hlt, ke, hG i hlt, nI_inc1, if_true]
      rw [show mxF f (i + 1) = if mxF f i < f i then f i else mxF f i from rfl] at ih
      have b1 := hb i
      have b2 : mxF f i ≤ 1000000 := (mx_le f 1000000 i).mpr (fun t _ => hb t)
      by_cases w : mxF f i < f i
      · rw [if_pos ((nI_ltI (by omega) (by omega)).mpr w)]
        rw [if_pos w] at ih
        exact ih
      · rw [if_neg (fun z => w ((nI_ltI (by omega) (by omega)).mp z))]
        rw [if_neg w] at ih
        exact ih
theorem ev_heavy (n : Nat × Nat) (hn : 30000 ≤ n.1) {f : Nat → Nat} {N : Nat} (hF : rFix M S) (hL : listOk ae S 1 (M 0 5) N (M 2)) (hG : ∀ t, t < N → cI S 182 (M 2 t) = nI (f t)) (hb : ∀ t, f t ≤ 1000000) (hN : N ≤ 12) : fX11_heaviestLoad n S (M 0 0) = some (nI (mxF f N)) := by
  have := he_lp n hF hL hG hb hN N 0 n.1 (by omega) (by omega)
  rw [show mxF f 0 = 0 from rfl, nI_0] at this
  simp only [fX11_heaviestLoad, bnd, cal, this]
theorem map_inj {who : Nat → Nat} {m : Nat} (hw : injOn who m) : ∀ (p q : List Nat), (∀ k, k ∈ p → k < m) → (∀ k, k ∈ q → k < m) → p.map who = q.map who → p = q
  | [], [], _, _, _ => rfl
  | [], _ :: _, _, _, h => absurd h (by simp)
  | _ :: _, [], _, _, h => absurd h (by simp)
  | a :: p, b :: q, hp, hq, h => by
    rw [List.map_cons, List.map_cons, List.cons.injEq] at h
    rw [hw a b (hp a List.mem_cons_self) (hq b List.mem_cons_self) h.1, map_inj hw p q (fun k hk => hp k (List.mem_cons_of_mem _ hk)) (fun k hk => hq k (List.mem_cons_of_mem _ hk)) h.2]
theorem env_ex {m : Nat} {who g : Nat → Nat} {cap : Nat} (hm : m ≤ 8) (hl : ∀ a b, lgF x m who a b ≤ 600) (hi : injOn who m) (hw : ∀ k, k < m → who k < 12) (hg : ∀ k, k < m → g k ≤ cap) : ∃ PW, isPW x m who PW ∧ VEn m (Wf m g) (Tf x m who) cap PW := by
  have ex : ∀ s, ∃ L : List Nat, s < 2 ^ m → ∃ p, isP m (lgF x m who) s 8 p ∧ L = p.map who := fun s => by
    by_cases c : s < 2 ^ m
    · obtain ⟨p, hp⟩ := path_ex hm hl s c 8
      exact ⟨p.map who, fun _ => ⟨p, hp, rfl⟩⟩
    · exact ⟨[], fun z => absurd z c⟩
  obtain ⟨PW, hPW⟩ := Classical.axiomOfChoice ex
  refine ⟨PW, hPW, hm, fun s hs => md_b hm hl s hs 8, fun k hk => by unfold Wf; rw [wS_1 hk]; exact hg k hk, fun s hs => ?_, fun s hs d hd => ?_, fun s t hs ht e => ?_⟩
  · obtain ⟨p, hp, e⟩ := hPW s hs
    rw [e, List.length_map]
    exact (isP_all hm p s 8 hs hp).2.1
  · obtain ⟨p, hp, e⟩ := hPW s hs
    rw [e, List.mem_map] at hd
    obtain ⟨k, k1, k2⟩ := hd
    rw [← k2]
    exact hw k ((isP_all hm p s 8 hs hp).2.2 k k1)
  · obtain ⟨p, hp, e1⟩ := hPW s hs
    obtain ⟨q, hq, e2⟩ := hPW t ht
    have a := isP_all hm p s 8 hs hp
    have b := isP_all hm q t 8 ht hq
    rw [e1, e2] at e
    have := map_inj hi p q a.2.2 b.2.2 e
    rw [← a.1, ← b.1, this]
/-- the whole plan -/
theorem ev_plan (n : Nat × Nat) (hn : 30000 ≤ n.1) {F : Nat → Int32} {N cap m : Nat} (em : m = (WL F N).length) {who g : Nat → Nat} {PW : Nat → List Nat} {R : List Nat} (hv : rVan M S) (hr : rRoa M x S) (hL : listOk ae S 1 (M 0 5) N (M 2)) (hG : ∀ t, t < N → cI S 182 (M 2 t) = F t) (hN : N ≤ 12) (h8 : m ≤ 8) (h1 : 0 < m) (hwho : ∀ k, k < m → who k = (WL F N).getD k 0) (hg : ∀ k, k < m → F (who k) = nI (g k)) (hgb : ∀ k, g k ≤ 1000000) (hc : cap ≤ 10000000) (he : VEn m (Wf m g) (Tf x m who) cap PW) (hP : isPW x m who PW) (hR : IsRow (Wf m g) (Tf x m who) cap PW (pc (2 ^ m - 1)) (2 ^ m - 1) R) : ∃ T, fX9_plan n S (M 0 10) (M 0 5) (nI cap) = some (nI (vC x m who g cap (2 ^ m - 1) / 16), T) ∧ kq S T [203, 209] [] [48, 49, 50, 51, 52, 53, 54] [] ∧ RoS M T R ∧ cA T 50 (M 0 14) 0 = 0 := by
  have v0 := rV0_of hv
  have p8 := p28 h8
  have p1 := Nat.two_pow_pos m
  have p2 : 2 ≤ 2 ^ m := by
    have := Nat.pow_le_pow_right (n := 2) (by decide) h1
    omega
  have k0 : kq S (uI S 203 (M 0 10) 0) [203] [] [48, 49] [] := kqre (kq_uI S _ _ _) (by simp) (by simp) (by simp) (by simp)
  obtain ⟨S1, g1, g2, g3, g4⟩ := ga_lp n v0 hL hG hN (by omega) N 0 n.1 (uI S 203 (M 0 10) 0) (by omega) (by omega) k0 (by rw [cI_uI, set1_s, set1_s]; rfl) (fun k hk => absurd hk (Nat.not_lt_zero _))
  rw [nI_0] at g1
  have hC1 : VC M x m who g S1 := ⟨q_rV0 g2 (by decide) v0, q_rRoa g2 (by decide) (by decide) rfl hr, by rw [em]; exact g3, h8, fun k hk => by
    have q := g4 k (by omega)
    rw [← hwho k (by omega)] at q
    exact ⟨q.1, by rw [← hg k (by omega)]; exact q.2⟩, fun k hk => by rw [hwho k hk]; have := (WL_lt F N k (by omega)).1; omega, hgb⟩
  have z1 : cA S1 50 (M 0 14) 0 = 0 := qA g2 v0.2.2.2.2.2.2.2.2.2.2.2.1.1 (by decide) (by simp) 0 hv.2.2.2.2.2.2.2.2.2.2.2.2.2.2.2.2.2
  obtain ⟨S2, w1, w2, w3⟩ := ev_weigh n hn hC1 z1
  have hC2 := VC_k hC1 w2
  obtain ⟨S3, o1, o2, o3, o4⟩ := or_lp n hn hC2 hc w3 (2 ^ m - 1) 1 n.1 S2 (by omega) (by omega) (by omega) (kqre (kq_rf S2) (by simp) (by simp) (by simp) (by simp)) (fun t ht _ i hi hb => by
    have : t = 0 := by omega
    rw [this, Nat.zero_testBit] at hb
    exact absurd hb (by decide)) (fun t ht1 ht2 => absurd ht1 (by omega))
  have hC3 := VC_k hC2 o2
  obtain ⟨S4, c1, c2, c3⟩ := co_lp n hn hC3 he o4 (2 ^ m - 1) 1 n.1 S3 (by omega) (by omega) (by omega) (kqre (kq_rf S3) (by simp) (by simp) (by simp) (by simp)) (fun t ht1 ht2 => absurd ht1 (by omega))
  have hC4 := VC_k hC3 c2
  have hw4 : ∀ t, t < 2 ^ m → wS g t m ≤ cap → Wy M x m who S4 t := fun t ht hc i hi hb => qA c2 hC3.1.2.2.2.2.2.2.2.2.2.2.2.2.1.1 (by decide) (by simp) _ (o3 t ht hc i hi hb)
  have ho4 : Vo M x m who g cap S4 := fun t h1 h2 => qA c2 hC3.1.2.2.2.2.2.2.2.2.2.2.2.2.2.1.1 (by decide) (by simp) t (o4 t h1 h2)
  obtain ⟨S5, r1, r2, r3⟩ := ev_wrow n hn hC4 he hP hw4 ho4 c3 (s := 2 ^ m - 1) (by omega) (by omega) hR
  have hC5 := VC_k hC4 r2
  have v5 : cA S5 53 (M 0 17) (2 ^ m - 1) = nI (vC x m who g cap (2 ^ m - 1)) := qA r2 hC4.1.2.2.2.2.2.2.2.2.2.2.2.2.2.2.1.1 (by decide) (by simp) _ (c3 (2 ^ m - 1) (by omega) (by omega))
  have vb := vC_b he (show 2 ^ m - 1 < 2 ^ m by omega)
  obtain ⟨i1, i2⟩ := ixN (s := 2 ^ m - 1) (N := 256) (by omega) (by decide)
  have sh : (1 : Int32) <<< (nI m &&& 31) - 1 = nI (2 ^ m - 1) := by
    rw [t_sh m (by omega)]
    have := nI_pred (2 ^ m - 1)
    rw [show 2 ^ m - 1 + 1 = 2 ^ m by omega] at this
    exact this
  have dv : nI (vC x m who g cap (2 ^ m - 1)) / 16 = nI (vC x m who g cap (2 ^ m - 1) / 16) := pk_div (by omega) (by decide) (by decide)
  have eg : fX9_gather n S (M 0 10) (M 0 5) = some S1 := by
    simp only [fX9_gather, grd, bnd, cal, v0.1, g1, if_true]
  have o1 : fX9_plan_lp21 n (M 0 10) (nI cap) (nI (2 ^ m - 1)) n.1 1 S2 = some S3 := o1
  have c1 : fX9_plan_lp65 n (M 0 10) (nI (2 ^ m - 1)) n.1 1 S3 = some S4 := c1
  refine ⟨S5, ?_, kqre (kq_tr g2 (kq_tr w2 (kq_tr o2 (kq_tr c2 r2)))) (by simp) (by simp) (by simp) (by simp), r3, ?_⟩
  · simp only [fX9_plan, grd, bnd, cal, onn, v0.1, eg, hC1.1.1, w1, hC2.1.1, hC2.2.2.1, sh, o1, c1, hC4.1.1, r1, hC5.1.1, hC5.1.2.2.2.2.2.2.2.1, hC5.1.2.2.2.2.2.2.2.2.2.2.2.2.2.2.1.1, hC5.1.2.2.2.2.2.2.2.2.2.2.2.2.2.2.1.2, i1, if_pos i2, v5, dv, if_true]
  · have w0 := w3 0 p1
    rw [wS_0, nI_0] at w0
    have q3 := qA o2 hC2.1.2.2.2.2.2.2.2.2.2.2.2.1.1 (by decide) (by simp) 0 w0
    have q4 := qA c2 hC3.1.2.2.2.2.2.2.2.2.2.2.2.1.1 (by decide) (by simp) 0 q3
    exact qA r2 hC4.1.2.2.2.2.2.2.2.2.2.2.2.1.1 (by decide) (by simp) 0 q4
end PLN
