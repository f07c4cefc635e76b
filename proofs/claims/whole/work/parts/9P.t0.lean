/-! PURE: a new food bank -/
section NEWB
variable {S T : CS}
theorem frsh_mna (h : frsh S) : frsh (mnaS S) := fun q hq => by
  have hq : nx S + 14 ≤ q := hq
  show (if q = nx S then 62 else if nx S < q ∧ q < nx S + 14 then 55 else cD S q) = 0
  rw [if_neg (by omega), if_neg (by omega)]
  exact h q (by omega)
theorem keep_mna (h : frsh S) : keep S (mnaS S) [] [] [] [] := by
  have lt : ∀ q, cD S q ≠ 0 → q < nx S := fun q hq => by
    rcases Nat.lt_or_ge q (nx S) with w | w
    · exact w
    · exact absurd (h q w) hq
  have d : ∀ q, q < nx S → cD (mnaS S) q = cD S q := fun q hq => by
    show (if q = nx S then 62 else if nx S < q ∧ q < nx S + 14 then 55 else cD S q) = _
    rw [if_neg (by omega), if_neg (by omega)]
  refine ⟨⟨⟨by show nx S ≤ nx S + 14; omega, d⟩, fun q hq => ⟨d q (lt q hq), ?_⟩⟩, fun g _ q hq => ?_, fun g _ q hq => ?_, fun g _ q hq => ?_, fun g _ q hq => ?_⟩
  · have := lt q hq
    show (if nx S ≤ q ∧ q < nx S + 14 then 13 else cN S q) = _
    rw [if_neg (by omega)]
  · have := lt q hq
    show (if nx S ≤ q ∧ q < nx S + 14 then 0 else cI S g q) = _
    rw [if_neg (by omega)]
  · have := lt q hq
    show (if nx S ≤ q ∧ q < nx S + 14 then none else cR S g q) = _
    rw [if_neg (by omega)]
  · have := lt q hq
    show (if nx S ≤ q ∧ q < nx S + 14 then (fun _ => 0) else cA S g q) = _
    rw [if_neg (by omega)]
  · have := lt q hq
    show (if q = nx S then (fun i => if i < 13 then some (nx S + 1 + i) else none) else if nx S < q ∧ q < nx S + 14 then (fun _ => none) else cQ S g q) = _
    rw [if_neg (by omega), if_neg (by omega)]
theorem i6 (n : Nat × Nat) (hf : frsh S) : ∃ T, fX6_init n (nw S 7 0) (nx S) = some (T, 4, 120) ∧ keep S T [] [] [] [] ∧ frsh T ∧ nx T = nx S + 5 ∧ (cD T (nx S) = 7 ∧ cR T 140 (nx S) = some (nx S + 1) ∧ cR T 141 (nx S) = some (nx S + 2) ∧ cR T 142 (nx S) = some (nx S + 3) ∧ cR T 143 (nx S) = some (nx S + 4) ∧ (cD T (nx S + 1) = 42 ∧ cN T (nx S + 1) = 30) ∧ (cD T (nx S + 2) = 43 ∧ cN T (nx S + 2) = 30) ∧ (cD T (nx S + 3) = 44 ∧ cN T (nx S + 3) = 30) ∧ (cD T (nx S + 4) = 45 ∧ cN T (nx S + 4) = 30)) ∧ cI T 144 (nx S) = 0 := by
  obtain ⟨q, hq⟩ : ∃ q, q = nx S := ⟨_, rfl⟩
  have z : cD S q = 0 := hf q (by omega)
  rw [← hq]
  refine ⟨uI (uR (nw (uR (nw (uR (nw (uR (nw (nw S 7 0) 42 30) 140 q (some (q + 1))) 43 30) 141 q (some (q + 2))) 44 30) 142 q (some (q + 3))) 45 30) 143 q (some (q + 4))) 144 q 0, ?_, kn_I (kn_R (kn_w (kn_R (kn_w (kn_R (kn_w (kn_R (kn_w (kn_w (keep_rf S) hf 7 0) hf 42 30) z 140 _) hf 43 30) z 141 _) hf 44 30) z 142 _) hf 45 30) z 143 _) z 144 _, ?_, ?_, ?_, ?_⟩
  · simp [Nat.add_assoc, fX6_init, adc, bnd, grd, cD_nw, cD_uR, nx_nw, nx_uR, set1, ← hq]
  · exact frsh_nw 45 30 (frsh_nw 44 30 (frsh_nw 43 30 (frsh_nw 42 30 (frsh_nw 7 0 hf))))
  · rw [hq]; rfl
  · simp [Nat.add_assoc, cD_nw, cD_uR, cD_uI, cN_nw, cN_uR, cN_uI, cR_uI, cR_uR, cR_nw, nx_nw, nx_uR, set1, ← hq]
  · simp [Nat.add_assoc, cI_uI, set1]
theorem i7 (n : Nat × Nat) (hf : frsh S) : ∃ T, fX7_init n (nw S 8 0) (nx S) = some (T, 2, 13) ∧ keep S T [] [] [] [] ∧ frsh T ∧ nx T = nx S + 3 ∧ cD T (nx S) = 8 ∧ cR T 160 (nx S) = some (nx S + 1) ∧ cR T 161 (nx S) = some (nx S + 2) ∧ (cD T (nx S + 1) = 20 ∧ cI T (gS 0) (nx S + 1) = 0 ∧ cR T (gE 0) (nx S + 1) = some n.2) ∧ cD T (nx S + 2) = 61 ∧ cN T (nx S + 2) = 10 ∧ ∀ i, cQ T 61 (nx S + 2) i = none := by
  obtain ⟨q, hq⟩ : ∃ q, q = nx S := ⟨_, rfl⟩
  have z : cD S q = 0 := hf q (by omega)
  have z1 : cD S (q + 1) = 0 := hf (q + 1) (by omega)
  rw [← hq]
  refine ⟨uR (nw (uR (uR (uI (nw (nw S 8 0) 20 0) (gM 0) (q + 1) 0) (gE 0) (q + 1) (some n.2)) 160 q (some (q + 1))) 61 10) 161 q (some (q + 2)), ?_, kn_R (kn_w (kn_R (kn_R (kn_I (kn_w (kn_w (keep_rf S) hf 8 0) hf 20 0) z1 _ _) z1 _ _) z _ _) hf 61 10) z _ _, ?_, ?_, ?_, ?_, ?_, ?_, ?_, ?_, ?_⟩
  · simp [Nat.add_assoc, fX7_init, fL_init, cal, adc, bnd, grd, cD_nw, cD_uR, cD_uI, nx_nw, nx_uR, nx_uI, set1, ← hq]
  · exact frsh_nw 61 10 (frsh_nw 20 0 (frsh_nw 8 0 hf))
  · rw [hq]; rfl
  · simp [Nat.add_assoc, cD_nw, cD_uR, cD_uI, nx_nw, nx_uR, nx_uI, set1, ← hq]
  · simp [Nat.add_assoc, cR_uR, cR_nw, nx_nw, nx_uR, nx_uI, set1, ← hq]
  · simp [Nat.add_assoc, cR_uR, cR_nw, nx_nw, nx_uR, nx_uI, set1, ← hq]
  · simp [Nat.add_assoc, cD_nw, cD_uR, cD_uI, cI_uI, cI_uR, cI_nw, cR_uR, cR_uI, cR_nw, nx_nw, nx_uR, nx_uI, set1, gM, gS, gE, ← hq]
  · simp [Nat.add_assoc, cD_nw, cD_uR, cD_uI, nx_nw, nx_uR, nx_uI, set1, ← hq]
  · simp [Nat.add_assoc, cN_nw, cN_uR, cN_uI, nx_nw, nx_uR, nx_uI, set1, ← hq]
  · intro i
    simp [Nat.add_assoc, cQ_nw, cQ_uR, nx_nw, nx_uR, nx_uI, set1, ← hq]
theorem i5 (n : Nat × Nat) (hf : frsh S) : ∃ T, fX5_init n (nw S 6 0) (nx S) = some (T, 6, 525) ∧ keep S T [] [] [] [] ∧ frsh T ∧ nx T = nx S + 7 ∧ (cD T (nx S) = 6 ∧ cR T 120 (nx S) = some (nx S + 1) ∧ cD T (nx S + 1) = 60 ∧ cN T (nx S + 1) = 400 ∧ cI T 124 (nx S) = 0 ∧ cI T 125 (nx S) = -1 ∧ cR T 121 (nx S) = some (nx S + 2)) ∧ (cD T (nx S + 2) = 7 ∧ cR T 140 (nx S + 2) = some (nx S + 3) ∧ cR T 141 (nx S + 2) = some (nx S + 4) ∧ cR T 142 (nx S + 2) = some (nx S + 5) ∧ cR T 143 (nx S + 2) = some (nx S + 6) ∧ (cD T (nx S + 3) = 42 ∧ cN T (nx S + 3) = 30) ∧ (cD T (nx S + 4) = 43 ∧ cN T (nx S + 4) = 30) ∧ (cD T (nx S + 5) = 44 ∧ cN T (nx S + 5) = 30) ∧ (cD T (nx S + 6) = 45 ∧ cN T (nx S + 6) = 30)) := by
  obtain ⟨q, hq⟩ : ∃ q, q = nx S := ⟨_, rfl⟩
  have z : cD S q = 0 := hf q (by omega)
  rw [← hq]
  obtain ⟨U, eU⟩ : ∃ U, U = uR (nw (nw S 6 0) 60 400) 120 q (some (q + 1)) := ⟨_, rfl⟩
  have fU : frsh U := by rw [eU]; exact frsh_nw 60 400 (frsh_nw 6 0 hf)
  have nU : nx U = q + 2 := by rw [eU, hq]; rfl
  have kU : keep S U [] [] [] [] := by rw [eU]; exact kn_R (kn_w (kn_w (keep_rf S) hf 6 0) hf 60 400) z _ _
  have dU : cD U q = 6 ∧ cR U 120 q = some (q + 1) ∧ cD U (q + 1) = 60 ∧ cN U (q + 1) = 400 := by
    rw [eU]
    simp [Nat.add_assoc, cD_nw, cD_uR, cN_nw, cN_uR, cR_uR, nx_nw, set1, ← hq]
  obtain ⟨T, e1, e2, e3, e4, e5, e6⟩ := i6 n fU
  rw [nU] at e1 e4 e5 e6
  have dT : cD T q = 6 := kD e2 dU.1 (by decide)
  have r120 : cR T 120 q = some (q + 1) := kR e2 dU.1 (by decide) (by simp) dU.2.1
  have d60 : cD T (q + 1) = 60 := kD e2 dU.2.2.1 (by decide)
  have n400 : cN T (q + 1) = 400 := kN e2 dU.2.2.1 (by decide) dU.2.2.2
  simp only [Nat.add_assoc, Nat.reduceAdd] at e4 e5
  obtain ⟨x1, x2, x3, x4, x5, ⟨x6, x7⟩, ⟨x8, x9⟩, ⟨y1, y2⟩, ⟨y3, y4⟩⟩ := e5
  obtain ⟨V, eV⟩ : ∃ V, V = uI (uI (uI (uI (uR T 121 q (some (q + 2))) 122 q 0) 123 q 0) 124 q 0) 125 q (-1) := ⟨_, rfl⟩
  have vD : cD V = cD T := by rw [eV]; rfl
  have vN : cN V = cN T := by rw [eV]; rfl
  have vR : ∀ g, g ≠ 121 → cR V g = cR T g := fun g hg => by rw [eV, cR_uI, cR_uI, cR_uI, cR_uI, cR_uR]; exact set1_n _ _ hg
  refine ⟨V, ?_, ?_, ?_, ?_, ⟨by rw [vD]; exact dT, by rw [vR 120 (by decide)]; exact r120, by rw [vD]; exact d60, by rw [vN]; exact n400, ?_, ?_, ?_⟩, by rw [vD]; exact x1, by rw [vR 140 (by decide)]; exact x2, by rw [vR 141 (by decide)]; exact x3, by rw [vR 142 (by decide)]; exact x4, by rw [vR 143 (by decide)]; exact x5, ⟨by rw [vD]; exact x6, by rw [vN]; exact x7⟩, ⟨by rw [vD]; exact x8, by rw [vN]; exact x9⟩, ⟨by rw [vD]; exact y1, by rw [vN]; exact y2⟩, ⟨by rw [vD]; exact y3, by rw [vN]; exact y4⟩⟩
  · have g0 : cD (nw (nw S 6 0) 60 400) q = 6 := dU.1 |> fun h => by rw [eU] at h; exact h
    have n1 : nx (nw S 6 0) = q + 1 := by rw [hq]; rfl
    unfold fX5_init
    simp only [bnd, grd, n1, g0, if_true, ← eU, nU, cal, e1, un2, dT, adc, ← eV]
  · rw [eV]; exact kn_I (kn_I (kn_I (kn_I (kn_R (keep_tr kU e2) z _ _) z _ _) z _ _) z _ _) z _ _
  · rw [eV]; exact e3
  · rw [eV, nx_uI, nx_uI, nx_uI, nx_uI, nx_uR]; exact e4
  · rw [eV, cI_uI, set1_n _ _ (by decide), cI_uI, set1_s, set1_s]
  · rw [eV, cI_uI, set1_s, set1_s]
  · rw [eV, cR_uI, cR_uI, cR_uI, cR_uI, cR_uR, set1_s, set1_s]
set_option maxHeartbeats 4000000 in
theorem i9 (n : Nat × Nat) (hf : frsh S) : ∃ T, fX9_init n (nw S 10 0) (nx S) = some (T, 21, 3029) ∧ keep S T [] [] [] [] ∧ frsh T ∧ nx T = nx S + 22 ∧ (cD T (nx S) = 10 ∧ cR T 200 (nx S) = some (nx S + 1) ∧ cR T 201 (nx S) = some (nx S + 15) ∧ cR T 202 (nx S) = some (nx S + 16) ∧ cR T 204 (nx S) = some (nx S + 17) ∧ cR T 205 (nx S) = some (nx S + 18) ∧ cR T 206 (nx S) = some (nx S + 19) ∧ cR T 207 (nx S) = some (nx S + 20) ∧ cR T 208 (nx S) = some (nx S + 21) ∧ (cD T (nx S + 15) = 48 ∧ cN T (nx S + 15) = 8) ∧ (cD T (nx S + 16) = 49 ∧ cN T (nx S + 16) = 8) ∧ (cD T (nx S + 17) = 50 ∧ cN T (nx S + 17) = 256) ∧ (cD T (nx S + 18) = 51 ∧ cN T (nx S + 18) = 2048) ∧ (cD T (nx S + 19) = 52 ∧ cN T (nx S + 19) = 256) ∧ (cD T (nx S + 20) = 53 ∧ cN T (nx S + 20) = 256) ∧ cD T (nx S + 21) = 54 ∧ cN T (nx S + 21) = 15 ∧ cA T 50 (nx S + 17) 0 = 0) ∧ cI T 209 (nx S) = -1 ∧ (cD T (nx S + 1) = 62 ∧ cN T (nx S + 1) = 13 ∧ ∀ i, i < 13 → cQ T 62 (nx S + 1) i = some (nx S + 2 + i) ∧ cD T (nx S + 2 + i) = 55 ∧ cN T (nx S + 2 + i) = 13 ∧ ∀ j, cA T 55 (nx S + 2 + i) j = 0) := by
  obtain ⟨q, hq⟩ : ∃ q, q = nx S := ⟨_, rfl⟩
  have z : cD S q = 0 := hf q (by omega)
  rw [← hq]
  obtain ⟨U, eU⟩ : ∃ U, U = mnaS (nw S 10 0) := ⟨_, rfl⟩
  have f0 := frsh_nw 10 0 hf
  have fU : frsh U := by rw [eU]; exact frsh_mna f0
  have n0 : nx (nw S 10 0) = q + 1 := by rw [hq]; rfl
  have nU : nx U = q + 15 := by rw [eU, hq]; rfl
  have kU : keep S U [] [] [] [] := by rw [eU]; exact keep_tr (kn_w (keep_rf S) hf 10 0) (keep_mna f0)
  have dq : cD U q = 10 := by
    rw [eU]
    show (if q = nx S + 1 then 62 else if nx S + 1 < q ∧ q < nx S + 1 + 14 then 55 else set1 (cD S) (nx S) 10 q) = 10
    rw [if_neg (by omega), if_neg (by omega), hq, set1_s]
  have d1 : cD U (q + 1) = 62 ∧ cN U (q + 1) = 13 ∧ ∀ i, i < 13 → cQ U 62 (q + 1) i = some (q + 2 + i) ∧ cD U (q + 2 + i) = 55 ∧ cN U (q + 2 + i) = 13 ∧ ∀ j, cA U 55 (q + 2 + i) j = 0 := by
    rw [eU, ← n0]
    refine ⟨if_pos rfl, if_pos ⟨Nat.le_refl _, by omega⟩, fun i hi => ⟨?_, ?_, ?_, fun j => ?_⟩⟩
    · show (if nx (nw S 10 0) = nx (nw S 10 0) then (fun i => if i < 13 then some (nx (nw S 10 0) + 1 + i) else none) else if nx (nw S 10 0) < nx (nw S 10 0) ∧ nx (nw S 10 0) < nx (nw S 10 0) + 14 then (fun _ => none) else cQ (nw S 10 0) 62 (nx (nw S 10 0))) i = _
      rw [if_pos rfl, if_pos hi, n0]
    · show (if q + 2 + i = nx (nw S 10 0) then 62 else if nx (nw S 10 0) < q + 2 + i ∧ q + 2 + i < nx (nw S 10 0) + 14 then 55 else cD (nw S 10 0) (q + 2 + i)) = 55
      rw [if_neg (by omega), if_pos (by omega)]
    · show (if nx (nw S 10 0) ≤ q + 2 + i ∧ q + 2 + i < nx (nw S 10 0) + 14 then 13 else cN (nw S 10 0) (q + 2 + i)) = 13
      rw [if_pos (by omega)]
    · show (if nx (nw S 10 0) ≤ q + 2 + i ∧ q + 2 + i < nx (nw S 10 0) + 14 then (fun _ => 0) else cA (nw S 10 0) 55 (q + 2 + i)) j = 0
      rw [if_pos (by omega)]
  obtain ⟨T, eT⟩ : ∃ T, T = uI (uR (nw (uR (nw (uR (nw (uR (nw (uR (nw (uI (uR (nw (uR (nw (uR U 200 q (some (q + 1))) 48 8) 201 q (some (q + 15))) 49 8) 202 q (some (q + 16))) 203 q 0) 50 256) 204 q (some (q + 17))) 51 2048) 205 q (some (q + 18))) 52 256) 206 q (some (q + 19))) 53 256) 207 q (some (q + 20))) 54 15) 208 q (some (q + 21))) 209 q (-1) := ⟨_, rfl⟩
  have old : ∀ a, a < q + 15 → a ≠ q → cD T a = cD U a ∧ cN T a = cN U a ∧ (∀ g, cA T g a = cA U g a) ∧ (∀ g, cQ T g a = cQ U g a) := fun a ha hn => by
    have h1 : a ≠ q + 15 := by omega
    have h2 : a ≠ q + 16 := by omega
    have h3 : a ≠ q + 17 := by omega
    have h4 : a ≠ q + 18 := by omega
    have h5 : a ≠ q + 19 := by omega
    have h6 : a ≠ q + 20 := by omega
    have h7 : a ≠ q + 21 := by omega
    rw [eT]
    simp [Nat.add_assoc, cD_nw, cD_uR, cD_uI, cN_nw, cN_uR, cN_uI, cA_nw, cA_uR, cA_uI, cQ_nw, cQ_uR, cQ_uI, nx_nw, nx_uR, nx_uI, set1, nU, h1, h2, h3, h4, h5, h6, h7]
  refine ⟨T, ?_, ?_, ?_, ?_, ?_, ?_, ?_⟩
  · unfold fX9_init
    rw [eT]
    simp [Nat.add_assoc, adc, bnd, grd, n0, ← eU, cD_nw, cD_uR, cD_uI, nx_nw, nx_uR, nx_uI, set1, nU, dq]
  · rw [eT]
    exact kn_I (kn_R (kn_w (kn_R (kn_w (kn_R (kn_w (kn_R (kn_w (kn_R (kn_w (kn_I (kn_R (kn_w (kn_R (kn_w (kn_R kU z _ _) hf 48 8) z _ _) hf 49 8) z _ _) z _ _) hf 50 256) z _ _) hf 51 2048) z _ _) hf 52 256) z _ _) hf 53 256) z _ _) hf 54 15) z _ _) z _ _
  · rw [eT]
    exact frsh_nw 54 15 (frsh_nw 53 256 (frsh_nw 52 256 (frsh_nw 51 2048 (frsh_nw 50 256 (frsh_nw 49 8 (frsh_nw 48 8 fU))))))
  · rw [eT]
    simp [Nat.add_assoc, nx_nw, nx_uR, nx_uI, nU]
  · rw [eT]
    simp [Nat.add_assoc, cD_nw, cD_uR, cD_uI, cN_nw, cN_uR, cN_uI, cR_uI, cR_uR, cR_nw, cA_nw, cA_uR, cA_uI, nx_nw, nx_uR, nx_uI, set1, nU, dq]
  · rw [eT]
    simp [Nat.add_assoc, cI_uI, set1]
  · have o1 := old (q + 1) (by omega) (by omega)
    rw [o1.1, o1.2.1]
    refine ⟨d1.1, d1.2.1, fun i hi => ?_⟩
    have o2 := old (q + 2 + i) (by omega) (by omega)
    have d := d1.2.2 i hi
    rw [o1.2.2.2, o2.1, o2.2.1, o2.2.2.1]
    exact d
end NEWB
