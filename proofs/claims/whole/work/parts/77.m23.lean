/-! PURE: lots handed out along a chain -/
theorem Kp_spare {x z : MS} (h : Kp x z) (kd : Int32) (n : Nat) : spareN z kd n = spareN x kd n := by
  unfold spareN
  rw [h.2.1 26 (by decide) (by decide) (by decide) (by decide), h.2.1 27 (by decide) (by decide) (by decide) (by decide), h.2.1 28 (by decide) (by decide) (by decide) (by decide)]
theorem Kp_need {x z : MS} (h : Kp x z) (hd kd : Int32) (n : Nat) : needN z hd kd n = needN x hd kd n := by
  unfold needN
  rw [h.2.1 26 (by decide) (by decide) (by decide) (by decide), h.2.1 27 (by decide) (by decide) (by decide) (by decide), h.2.1 28 (by decide) (by decide) (by decide) (by decide), h.2.1 29 (by decide) (by decide) (by decide) (by decide)]
theorem Kp_bar {x z : MS} (h : Kp x z) (f kd : Int32) : barB z f kd = barB x f kd := by
  unfold barB
  rw [h.2.1 3 (by decide) (by decide) (by decide) (by decide), h.2.1 19 (by decide) (by decide) (by decide) (by decide)]
theorem Kp_soon {x z : MS} (h : Kp x z) : sooner z = sooner x := by
  unfold sooner
  rw [h.2.1 7 (by decide) (by decide) (by decide) (by decide)]
theorem min_le (g v : Int32) : (if g < v then g else v) = if g ≤ v then g else v := by
  by_cases c : g < v
  · rw [if_pos c, if_pos (Int32.le_of_lt c)]
  · rw [if_neg c]
    by_cases c2 : g ≤ v
    · rw [if_pos c2]; exact Int32.le_antisymm (Int32.not_lt.mp c) c2
    · rw [if_neg c2]
section M23
variable {ae k : Nat} {M : Nat → Nat → Nat} {x : MS} {S : CS}
def PKb (ae : Nat) (M : Nat → Nat → Nat) (x : MS) (S : CS) (P Lc f was : Nat) (mis : Int32) (z : MS) (N : Nat → Nat) (T : CS) : Prop := PK ae M x S P Lc f was mis z N T ∧ was ≤ nN z 37 ∧ capL ae T 4 Lc ≤ 700
/-- what it cost -/
def cst (ae Lc : Nat) (z : MS) (T : CS) (z' : MS) (T' : CS) (mc ms : Nat) : Prop := nN z 37 ≤ nN z' 37 ∧ mc ≤ 2 * (nN z' 37 - nN z 37) ∧ 4 * capL ae T 4 Lc + ms ≤ 4 * capL ae T' 4 Lc + 2 * (nN z' 37 - nN z 37)
theorem cst_rf (ae Lc : Nat) (z : MS) (T : CS) : cst ae Lc z T z T 0 0 := ⟨Nat.le_refl _, by omega, by omega⟩
theorem cst_tr {ae Lc : Nat} {z z' z'' : MS} {T T' T'' : CS} {a b c d : Nat} (h : cst ae Lc z T z' T' a b) (h2 : cst ae Lc z' T' z'' T'' c d) : cst ae Lc z T z'' T'' (a + c) (b + d) := by
  unfold cst at h h2 ⊢
  omega
theorem hand_lp (n : Nat × Nat) (hae : n.2 = ae) (h : Rep ae k M x S) {P Lc f was : Nat} {mis : Int32} (hf : f < nN x 16) (hP0 : cD S P = 0) (hL0 : cD S Lc = 0) (hwas : was = nN x 37) (hwb : was ≤ 20000) {kd : Nat} {le : Int32} (hle : le = mI x 2 + spareN x (nI kd) (nN x 25)) {js : List Nat} (hm : ∀ i, i ∈ js ↔ i < nN x 4 ∧ mA x 5 i = nI kd) (hp : js.Pairwise (sooner x)) :
    ∀ (js2 js1 : List Nat) (fuel : Nat) (z : MS) (g : Int32) (o : Option Nat) (T : CS) (N : Nat → Nat) (b tf : Nat), js = js1 ++ js2 → PKb ae M x S P Lc f was mis z N T → PInv x z b → b + (if g ≤ 0 then 0 else 1) ≤ was + 290 → chn T 3 69 (M 1) o js2 → (g ≤ 0 ∨ ∀ i ∈ js1, ¬ may z le i) → js2.length < fuel → js2.length < tf →
    ∃ (T' : CS) (N' : Nat → Nat) (mc ms : Nat), fX7_handOut_lp10 n le P (M 5 f) fuel g o T = some (((takeN (nI kd) tf z g).2, T'), mc, ms) ∧ PKb ae M x S P Lc f was mis (takeN (nI kd) tf z g).1 N' T' ∧ cst ae Lc z T (takeN (nI kd) tf z g).1 T' mc ms
  | js2, js1, 0, _, _, _, _, _, _, _, _, _, _, _, _, _, hfu, _ => absurd hfu (Nat.not_lt_zero _)
  | [], js1, fuel + 1, z, g, o, T, N, b, tf, ej, hpk, hPI, hb, hc, hno, hfu, htf => by
    have hc : o = none := hc
    subst hc
    have hKp := hPI.1
    have et : takeN (nI kd) tf z g = (z, g) := by
      by_cases hg : g ≤ 0
      · exact takeN_0 hg tf
      · obtain ⟨tf', rfl⟩ : ∃ q, tf = q + 1 := ⟨tf - 1, by simp at htf; omega⟩
        apply takeN_exit
        unfold lF
        rw [if_neg hg]
        have hno := hno.resolve_left hg
        have e : nextF z (nI kd) = -1 := by
          unfold nextF
          rw [hKp.1 2 (by decide), Kp_spare hKp, Kp_N hKp 25 (by decide), ← hle]
          refine next_no (js := js) (fun i => ?_) ?_ (fun i hi => ?_)
          · rw [hm, Kp_N hKp 4 (by decide), hKp.2.1 5 (by decide) (by decide) (by decide) (by decide)]
          · rw [Kp_N hKp 4 (by decide)]; have := (g_rOk h).2.1.2; omega
          · rw [ej, List.append_nil] at hi; exact hno i hi
        rw [e]; decide
    rw [et]
    exact ⟨T, N, 0, 0, rfl, hpk, cst_rf _ _ _ _⟩
  | j :: js2, js1, fuel + 1, z, g, o, T, N, b, tf, ej, hpk, hPI, hb, hc, hno, hfu, htf => by
    obtain ⟨rfl, hd, ht⟩ := hc
    have hKp := hPI.1
    have e4 : nN z 4 = nN x 4 := Kp_N hKp 4 (by decide)
    have h200 := (g_rOk h).2.1.2
    have hjm := (hm j).mp (by rw [ej]; simp)
    by_cases hg : g ≤ 0
    · rw [takeN_0 hg]
      refine ⟨T, N, 0, 0, ?_, hpk, cst_rf _ _ _ _⟩
      simp only [fX7_handOut_lp10, oel, if_pos hg]
    · rw [if_neg hg] at hb
      have hno := hno.resolve_left hg
      have rl := hpk.1.2.2.2.2.2.1 j (by rw [e4]; exact hjm.1)
      have hmg : fX2_mayGo n T (M 1 j) le = some (if mA z 9 j ≤ 0 then 0 else if mA z 7 j < le then 0 else 1) := by
        simp only [fX2_mayGo, grd, bnd, hd, if_true, rl.2.2.2.2.2.2.1, rl.2.2.2.2.1]
        split
        · rfl
        · split <;> rfl
      by_cases hmay : may z le j
      · obtain ⟨tf', rfl⟩ : ∃ q, tf = q + 1 := ⟨tf - 1, by simp at htf; omega⟩
        have hnx : lF z (nI kd) g = nI j := by
          unfold lF nextF
          rw [if_neg hg, hKp.1 2 (by decide), Kp_spare hKp, Kp_N hKp 25 (by decide), ← hle]
          refine next_at (js1 := js1) (js2 := js2) (fun i => ?_) ?_ ?_ hno hmay
          · rw [← ej, hm, Kp_N hKp 4 (by decide), hKp.2.1 5 (by decide) (by decide) (by decide) (by decide)]
          · rw [← ej, Kp_soon hKp]; exact hp
          · rw [Kp_N hKp 4 (by decide)]; omega
        have hjz : j < nN z 4 := by rw [e4]; exact hjm.1
        rw [takeN_step hnx (by omega)]
        obtain ⟨its, eits⟩ : ∃ q, q = itsF z j g := ⟨_, rfl⟩
        rw [← eits]
        have hg' : 0 < g.toInt := by
          have := Int32.not_le.mp hg
          rw [Int32.lt_iff_toInt_lt] at this
          exact this
        have hl' : 0 < (mA z 9 j).toInt := by
          have := Int32.not_le.mp hmay.1
          rw [Int32.lt_iff_toInt_lt] at this
          exact this
        have i0 : 0 < its.toInt := by
          rw [eits]; unfold itsF; split
          · exact hg'
          · exact hl'
        have i1 : its.toInt ≤ (mA z 9 j).toInt := by
          rw [eits]; unfold itsF; split
          · rename_i c; rw [Int32.le_iff_toInt_le] at c; exact c
          · exact Int.le_refl _
        have hn37 : nN z 37 ≤ b := by have := hPI.2.2.1; omega
        have hw := hpk.2.1
        obtain ⟨T1, T2, mc, ms, N', y1, y2, ⟨y3, y4, y5⟩, y6, y7, y8, y9, y10⟩ := pk_step n hae h hf hP0 hL0 hpk.1 hwas hw (by omega) (by omega) hjm.1 i0 i1
        have hPI2 := takeS_P hPI (by omega) hjz hg hmay.1
        rw [← eits] at hPI2
        have e37 : nN (takeS z j its) 37 = nN z 37 + 1 := (takeS_37 z j its (by omega)).2
        have ht2 : chn T2 3 69 (M 1) (cR T2 69 (M 1 j)) js2 := by
          rw [kR y7 hd (by decide) (by decide) rfl]
          exact keep_chn y7 (by decide) (by decide) js2 _ ht
        have hcap := hpk.2.2
        obtain ⟨T', N'', mc', ms', z1, z2, z3⟩ := hand_lp n hae h hf hP0 hL0 hwas hwb hle hm hp js2 (js1 ++ [j]) fuel (takeS z j its) (g - its) (cR T2 69 (M 1 j)) T2 N' (if g ≤ mA z 9 j then b + 1 else b) tf' (by rw [ej]; simp) ⟨y6, by omega, by omega⟩ hPI2 (by
            by_cases c : g ≤ mA z 9 j
            · have : its = g := by rw [eits]; exact if_pos c
              rw [if_pos c, this, if_pos (i32_sub_self g)]; omega
            · rw [if_neg c]; split <;> omega) ht2 (by
            by_cases c : g ≤ mA z 9 j
            · have : its = g := by rw [eits]; exact if_pos c
              rw [this]; exact Or.inl (i32_sub_self g)
            · have e : its = mA z 9 j := by rw [eits]; exact if_neg c
              refine Or.inr (fun i hi => ?_)
              unfold may
              rw [takeS_9]
              by_cases ei : i = j
              · rw [ei, pk_us, e, Int32.sub_self]
                exact fun q => q.1 (Int32.le_refl 0)
              · rw [pk_un ei]
                rcases List.mem_append.mp hi with q | q
                · exact hno i q
                · exact absurd (List.mem_singleton.mp q) ei) (by simp at hfu; omega) (by simp at htf; omega)
        refine ⟨T', N'', mc + mc', ms + ms', ?_, z2, ?_⟩
        · have hls : fX2_lose n T (M 1 j) g = some (its, uI T 65 (M 1 j) (mA z 9 j - its)) := by
            simp only [fX2_lose, grd, bnd, hd, if_true, rl.2.2.2.2.2.2.1, min_le]
            rw [eits]
            rfl
          have w1 : cD (uI T 65 (M 1 j) (mA z 9 j - its)) (M 1 j) = 3 := hd
          have w2 : cI (uI T 65 (M 1 j) (mA z 9 j - its)) 66 (M 1 j) = mA z 10 j := by rw [cI_uI, set1_n _ _ (by decide)]; exact rl.2.2.2.2.2.2.2.1
          have w3 : cI (uI (uI T 65 (M 1 j) (mA z 9 j - its)) 66 (M 1 j) (mA z 10 j + its)) 60 (M 1 j) = nI j := by rw [cI_uI, set1_n _ _ (by decide), cI_uI, set1_n _ _ (by decide)]; exact rl.2.1
          have w4 : cD (uI (uI T 65 (M 1 j) (mA z 9 j - its)) 66 (M 1 j) (mA z 10 j + its)) P = 4 := hpk.1.2.2.2.2.2.2.2.2.1
          have w5 : cD T2 (M 1 j) = 3 := kD y7 hd (by decide)
          have w0 : (if mA z 9 j ≤ 0 then (0 : Int32) else if mA z 7 j < le then 0 else 1) = 1 := by rw [if_neg hmay.1, if_neg hmay.2]
          simp only [fX7_handOut_lp10, oel, if_neg hg, grd, cal, bnd, un2, adc, hd, if_true, hmg, w0, if_neg n10, hls, w1, w2, w3, w4, y1, y3, y4, y5, y2, w5, z1]
        · have : cst ae Lc z T (takeS z j its) T2 mc ms := ⟨by omega, by omega, by omega⟩
          exact cst_tr this z3
      · obtain ⟨T', N'', mc', ms', z1, z2, z3⟩ := hand_lp n hae h hf hP0 hL0 hwas hwb hle hm hp js2 (js1 ++ [j]) fuel z g (cR T 69 (M 1 j)) T N b tf (by rw [ej]; simp) hpk hPI (by rw [if_neg hg]; exact hb) ht (Or.inr (fun i hi => by
            rcases List.mem_append.mp hi with q | q
            · exact hno i q
            · rw [List.mem_singleton.mp q]; exact hmay)) (by simp at hfu; omega) (by simp at htf; omega)
        refine ⟨T', N'', mc', ms', ?_, z2, z3⟩
        have w0 : (if mA z 9 j ≤ 0 then (0 : Int32) else if mA z 7 j < le then 0 else 1) = 0 := by
          by_cases c : mA z 9 j ≤ 0
          · rw [if_pos c]
          · rw [if_neg c]
            by_cases c2 : mA z 7 j < le
            · rw [if_pos c2]
            · exact absurd ⟨c, c2⟩ hmay
        simp only [fX7_handOut_lp10, oel, if_neg hg, grd, cal, bnd, hd, if_true, hmg, w0, z1]
end M23
