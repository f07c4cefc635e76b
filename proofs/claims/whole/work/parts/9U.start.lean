/-! THE LAW'S START: the two objects, then the loop -/
theorem fI_eq (sz : Nat) : fI sz 0 0 0 = fI 0 0 0 0 := by
  unfold fI
  refine List.map_congr_left (fun k hk => ?_)
  have hk : k < 69 := List.mem_range.mp hk
  have tb : ∀ k, k < 69 → tyL.getD k 0 = 2 → ¬ posL.getD k 0 ≤ 0 := by decide +kernel
  unfold valI
  by_cases c : tyL.getD k 0 = 2
  · rw [if_pos c, if_pos c, if_neg (tb k hk c), if_neg (tb k hk c)]
  · rw [if_neg c, if_neg c]
theorem dfI (sz : Nat) : ∀ j, j < 69 → defaultValue (tyX12 j) = vp_V (fI sz 0 0 0) j := by
  rw [fI_eq]
  decide +kernel
set_option maxHeartbeats 8000000 in
set_option maxRecDepth 100000 in
theorem whole_start {p : Program} {e : Env} {s : State} {m : MethodId} {below : List Frame} {meth : Method} {c : Code} (l : Launch) {b L : Nat} {xs : Nat → Int32} (hL : L ≤ 3072) (C0 : lw_At p s m meth c b L xs) : W p l e room_1 s m #[Value.ref b] below meth c s.heap [] 0 0 (lw_Z below #[Value.ref b] s) (entryFrame m ([Value.ref b] : List Value).toArray 4) := by
  obtain ⟨hx, hb, hr, hml, hown, hts0, hX, hbl, hlocks, hgv⟩ := id C0
  have hts : ∀ w ∈ wsL_law, w.before #[Value.ref b] s = true := fun w h => hts0 w (wsL_law_in w h)
  have hA : ∀ q : Nat, s.heap.size ≤ q → (fun q : Nat => s.heap.size ≤ q) q := fun _ h => h
  have hown : s.vm.findClass RL = some m.cls := hown
  obtain ⟨D, cc, cI, cJ, hK1, hK2⟩ := start_K hts0
  obtain ⟨E, hro, hEl⟩ := start_ro hts0 hgv
  obtain ⟨T, eI, hT⟩ := i11 (30000, E 0) s.heap.size
  have hI : InvR (30000, E 0) s.heap.size 0 T x0 := ⟨M0 s.heap.size, rfl, rep_new hEl hT⟩
  have hw : cWd D cc (fun q : Nat => s.heap.size ≤ q) s.heap (S00 s.heap.size) s.heap [] := ⟨fun a h => absurd rfl h, rfl, fun k q h => absurd h (by rw [show cPs cc (S00 s.heap.size) = [] from rfl, List.getElem?_nil]; exact fun w => by cases w), ⟨fun i j p q h => absurd h (by rw [show cPs cc (S00 s.heap.size) = [] from rfl, List.getElem?_nil]; exact fun w => by cases w), fun k q h => absurd h (by rw [show cPs cc (S00 s.heap.size) = [] from rfl, List.getElem?_nil]; exact fun w => by cases w)⟩, va_S.rf⟩
  have hin11 : ∀ w ∈ u_ws RX11 TX11 12, w ∈ lw_tbl := by decide +kernel
  have hin12 : ∀ w ∈ u_ws RX12 TX12 69, w ∈ lw_tbl := by decide +kernel
  have hl := lv_entry ([.ref b]) (n := 4) (Nat.le_of_ble_eq_true rfl)
  rw [lg_entry_eq]
  generalize (lg_sl ([.ref b]) ++ List.replicate (4 - (lg_sl ([.ref b])).length) Slot.unset).toArray = ls at hl ⊢
  have hl : lv_has ls 4 [(0, .ref b)] := hl
  refine C_new (own := RL) (C := RX11) (T := TX11) (N := 12) (ci := 12) (index := 7) (d := 12) hx hb hts0 hin11 tyX11 tyX11_ok hown (by decide +kernel) (by decide +kernel) (by decide +kernel) hK1 hA hw rfl (fun j hj => dfX11 j hj) (cnew_12 _) (Nat.le_of_ble_eq_true rfl) (Nat.le_of_ble_eq_true rfl) dL_law_0 (fun q0 S1 H eq0 eS1 hw => ?_)
  have eq0 : q0 = s.heap.size := eq0
  subst eq0
  rw [← eS1] at eI
  refine W.widen (k := 1) (n := 12) (by omega) (by omega) ?_
  refine lv_dup hx hb dL_law_3 rfl ?_
  refine C_v hA hw (va_runI (As := []) (rest := [.ref s.heap.size]) ⟨hx, hb, hml, hown, hts⟩ (cX11_init_ok l D cc E (30000, E 0) rfl S1 s.heap.size eI) (cwI 0 hts gL_law_X11_init rfl rfl rfl (hts0 (.initialized RX11) (by decide +kernel)) (hts0 (.methodLink RL 9 yX11_init) (by decide +kernel)) (hts0 (.instanceMethod yX11_init) (by decide +kernel)) rfl (by decide +kernel) ⟨Nat.le_of_ble_eq_true rfl, Nat.le_of_ble_eq_true rfl⟩) ⟨cBlind D cc E S1 _, fun U hU hW => ⟨rfl, C_pre hA hK1 hro hw U hU hW⟩⟩ rfl rfl hl.1 rfl (lv_room (Nat.le_of_ble_eq_true rfl)) dL_law_4 ⟨Nat.le_of_ble_eq_true rfl, Nat.le_of_ble_eq_true rfl⟩) (fun H locs hw => ?_)
  refine W.widen (k := 42) (n := 3741) (by omega) (by omega) ?_
  refine lv_astore_n (lv' := [(1, .ref s.heap.size), (0, .ref b)]) hx hb dL_law_7 rfl hl (by decide) rfl (fun ls hl => ?_)
  -- the reference
  have hKn := hK2.1 13 _ (rfl : vwCl[13]? = some (RX12, TX12, 69))
  obtain ⟨h0, eh0⟩ : ∃ h0, h0 = H.size := ⟨_, rfl⟩
  refine W.newcK (own := RL) (C := RX12) (index := 10) (n := 69) (h := h0) hx hb hown (hts0 _ (by decide +kernel)) (hts0 _ (by decide +kernel)) (hts0 _ (by decide +kernel)) rfl dL_law_8 (Nat.le_of_ble_eq_true rfl) (Nat.le_of_ble_eq_true rfl) hKn.2.1 eh0.symm fun H1 kC hkC e1 z1 o1 => ?_
  refine W.eq (g2 := F0 m 11 ls [.ref h0]) rfl ?_
  refine W.widen (k := 43) (n := 3810) (by omega) (by omega) ?_
  refine lv_dup hx hb dL_law_11 rfl ?_
  obtain ⟨sz, esz⟩ : ∃ sz, sz = h0 + 1 := ⟨_, rfl⟩
  rw [← esz] at z1
  have hPJ : va_P D vwCl (wJ cI cJ h0 sz 0 0 0) H1 := fun k x hx => by
    have hx : ([(h0, .inr (13, fI sz 0 0 0))] : va_W)[k]? = some x := hx
    have hz : k < 1 := (List.getElem?_eq_some_iff.mp hx).1
    rw [show k = 0 by omega] at hx
    cases hx
    exact ⟨_, rfl, (u_born tyX12 hts0 hin12 hKn hkC e1 tyX12_ok).to (dfI sz)⟩
  have hDJ : va_D (fun _ => True) (wJ cI cJ h0 sz 0 0 0) := ⟨fun i j p q hi hj _ => by
    have h1 : i < 1 := (List.getElem?_eq_some_iff.mp hi).1
    have h2 : j < 1 := (List.getElem?_eq_some_iff.mp hj).1
    omega, fun _ _ _ => trivial⟩
  have hS : va_S (fun q : Nat => s.heap.size ≤ q) s.heap H locs := hw.2.2.2.2
  have hs0 : s.heap.size ≤ h0 := by rw [eh0]; exact hS.1
  have inA : ∀ q, va_A (wJ cI cJ h0 sz 0 0 0) sz q → h0 ≤ q := fun q h => by
    rcases h with ⟨k, e, h⟩ | h
    · have h : ([(h0, .inr (13, fI sz 0 0 0))] : va_W)[k]? = some (q, e) := h
      have hz : k < 1 := (List.getElem?_eq_some_iff.mp h).1
      rw [show k = 0 by omega] at h
      cases h
      exact Nat.le_refl _
    · omega
  have hS1 : va_S (fun q : Nat => s.heap.size ≤ q) s.heap H1 locs := ⟨by omega, fun x h1 h2 => (o1 x (by omega)).trans (hS.2.1 x h1 h2), hS.2.2⟩
  refine va_callv (va_runI (As := []) (rest := [.ref h0]) ⟨hx, hb, hml, hown, hts⟩ (c_init l D cI cJ h0 sz) (cwI 0 hts gL_law_X12_init rfl rfl rfl (hts0 (.initialized RX12) (by decide +kernel)) (hts0 (.methodLink RL 12 yX12_init) (by decide +kernel)) (hts0 (.instanceMethod yX12_init) (by decide +kernel)) rfl (by decide +kernel) ⟨Nat.le_of_ble_eq_true rfl, Nat.le_of_ble_eq_true rfl⟩) ⟨fun a U g mk q => by
    obtain ⟨q0, q1, qP, qK, qD⟩ := q
    exact ⟨q0, q1, qP, va_K.moved (u := U) (U := U.calling g mk a) (Vm.Alike.refl U.vm) qK, qD⟩, fun U hU hW => ⟨rfl, by rw [hU]; exact z1, by rw [hU]; exact hPJ, va_K.moved hW.alike hK2, hDJ⟩⟩ rfl rfl hl.1 rfl (lv_room (Nat.le_of_ble_eq_true rfl)) dL_law_12 ⟨Nat.le_of_ble_eq_true rfl, Nat.le_of_ble_eq_true rfl⟩) hS1 (fun q _ h => Nat.le_trans hs0 (inA q h)) (fun q h => Nat.le_trans hs0 (inA q h)) (fun u t H2 locs2 ht hvm hp hB hz hk hS2 => ?_)
  obtain ⟨hz2, hP2, hD2⟩ := hB
  rw [ht] at hz2 hP2
  refine W.widen (k := 89) (n := 64858) (by omega) (by omega) ?_
  have clt : ∀ (k : Nat) (x : Nat × va_E), (cPs cc T)[k]? = some x → x.1 < h0 := fun k x hx => by rw [eh0]; exact (hw.2.2.1 k x hx).lt
  have hlw : lWd D cc cI cJ (adI h0 sz) (fun q : Nat => s.heap.size ≤ q) s.heap (setNx T H2.size) x0 H2 locs2 := by
    refine ⟨⟨hw.1, rfl, ?_, hw.2.2.2.1, hS2⟩, hP2, hD2.weaken (fun k q hq h => Nat.le_trans hs0 (inA _ h)), fun a ha hc => ?_⟩
    · rw [cPs_setNx]
      refine hw.2.2.1.kept (fun k x hx => ?_)
      have h1 := clt k x hx
      rw [hk x.1 (by omega) (fun h => by have := inA _ h; omega)]
      exact o1 x.1 h1
    · obtain ⟨k, e, hk2⟩ := mAd_in (cI := cI) (cJ := cJ) x0 ha
      have h1 := inA _ (hD2.2 k _ hk2)
      obtain ⟨k3, hk3⟩ := cP_get (cc := cc) hc
      have h2 := clt k3 _ hk3
      omega
  refine lv_astore_n (lv' := [(2, .ref h0), (1, .ref s.heap.size), (0, .ref b)]) hx hb dL_law_15 rfl hl (by decide) rfl (fun ls hl => ?_)
  refine lv_iconst (v := 0) hx hb dL_law_16 (by decide) ?_
  refine lv_istore_n (lv' := [(3, .int 0), (2, .ref h0), (1, .ref s.heap.size), (0, .ref b)]) hx hb dL_law_17 rfl hl (by decide) rfl (fun ls hl => ?_)
  have hnx : nx T ≤ H2.size := by
    have := hw.2.1
    omega
  have hI2 : InvR (30000, E 0) s.heap.size 0 (setNx T H2.size) x0 := by
    obtain ⟨M, h1, h2⟩ := hI
    exact ⟨M, h1, rep_nx h2 hnx⟩
  exact law_loop l hL C0 D cc cI cJ (adI h0 sz) E (30000, E 0) rfl hK1 hK2 hro s.heap.size (InvR (30000, E 0) s.heap.size) (fun k S x j h hj => by
    obtain ⟨M, h1, h2⟩ := h
    exact ⟨M, h1, rep_nx h2 hj⟩) (fun k S x h => by
    obtain ⟨M, h1, h2⟩ := h
    rw [← h1]
    exact (g_rFix h2).1) (fun k S x h => by
    obtain ⟨M, h1, h2⟩ := h
    exact ⟨M, h1, rep_mono h2⟩) 89 64858 (by decide) (by decide) (fun v1 v2 => sp_contents (30000, E 0) (Nat.le_refl _) s.heap.size v1 v2) (fun v1 v2 v3 v4 => sp_gift (30000, E 0) (Nat.le_refl _) s.heap.size v1 v2 v3 v4) (fun v1 v2 => sp_lot (30000, E 0) (Nat.le_refl _) s.heap.size v1 v2) (sp_table (30000, E 0) (Nat.le_refl _) s.heap.size) (fun v1 v2 v3 => sp_family (30000, E 0) (Nat.le_refl _) s.heap.size v1 v2 v3) (fun v1 v2 v3 v4 => sp_refer (30000, E 0) (Nat.le_refl _) s.heap.size v1 v2 v3 v4) (fun v1 v2 => sp_allowed (30000, E 0) (Nat.le_refl _) s.heap.size v1 v2) (fun v1 v2 => sp_need (30000, E 0) (Nat.le_refl _) s.heap.size v1 v2) (fun v1 => sp_parcel (30000, E 0) (Nat.le_refl _) s.heap.size v1) (fun v1 v2 => sp_of (30000, E 0) (Nat.le_refl _) s.heap.size v1 v2) (fun v1 => sp_go (30000, E 0) (Nat.le_refl _) s.heap.size v1) (fun v1 v2 v3 => sp_want (30000, E 0) (Nat.le_refl _) s.heap.size v1 v2 v3) (fun v1 => sp_part (30000, E 0) (Nat.le_refl _) s.heap.size v1) (fun v1 v2 => sp_got (30000, E 0) (Nat.le_refl _) s.heap.size v1 v2) (fun v1 v2 v3 => sp_road (30000, E 0) (Nat.le_refl _) s.heap.size v1 v2 v3) (fun v1 v2 => sp_load (30000, E 0) (Nat.le_refl _) s.heap.size v1 v2) (fun v1 => sp_rounds (30000, E 0) (Nat.le_refl _) s.heap.size v1) (fun v1 => sp_stop (30000, E 0) (Nat.le_refl _) s.heap.size v1) (fun v1 v2 v3 v4 v5 => sp_feed (30000, E 0) (Nat.le_refl _) s.heap.size v1 v2 v3 v4 v5) (fun v1 => sp_end (30000, E 0) (Nat.le_refl _) s.heap.size v1) (sp_rules (30000, E 0) (Nat.le_refl _) s.heap.size) (sp_fault (30000, E 0) (Nat.le_refl _) s.heap.size) (fun v1 v2 v3 => sp_weigh (30000, E 0) (Nat.le_refl _) s.heap.size v1 v2 v3) (fun v1 v2 => sp_given (30000, E 0) (Nat.le_refl _) s.heap.size v1 v2) (fun v1 v2 => sp_led (30000, E 0) (Nat.le_refl _) s.heap.size v1 v2) (fun v1 => sp_count (30000, E 0) (Nat.le_refl _) s.heap.size v1) (sp_status (30000, E 0) (Nat.le_refl _) s.heap.size) 513 0 (by decide) (by decide) (setNx T H2.size) x0 hI2 H2 locs2 hlw ls (lv_sub hl [3, 2, 1, 0] rfl)
