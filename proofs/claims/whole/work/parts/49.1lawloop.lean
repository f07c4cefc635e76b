theorem lg_cmp_eq0 (r : Int64) : lg_cmp r r = 0 := (lg_cmp_eq r r).mpr rfl
set_option maxHeartbeats 16000000 in
set_option maxRecDepth 100000 in
theorem law_loop {p : Program} {e : Env} {s : State} {m : MethodId} {below : List Frame} {meth : Method} {c : Code} (l : Launch) {b L : Nat} {xs : Nat → Int32} (hL : L ≤ 3072) (C0 : lw_At p s m meth c b L xs) (D : va_G) (cc : Nat → ClassId) (cI cJ : ClassId) (ad : Nat → Nat) (E : Nat → Nat) (n : Nat × Nat) (hE : E 0 = n.2) (hK1 : va_K D vwCl (tyC cc) s) (hK2 : va_K D vwCl (tyM cI cJ) s) (hro : cRO E (fun q => s.heap.size ≤ q) s s.heap) (a0 : Nat) (Inv : Nat → CS → MS → Prop) (hnx : ∀ k S x j, Inv k S x → nx S ≤ j → Inv k (setNx S j) x) (hkd : ∀ k S x, Inv k S x → cD S a0 = 12) (hmono : ∀ k S x, Inv k S x → Inv (k + 1) S x) (K0 S0 : Nat) (hK0 : K0 + 1100 * 512 ≤ 600000) (hS0 : S0 + 14000 * 512 ≤ 7302250)
    (h_contents : ∀ v1 v2 : Int32, SPi Inv n a0 yX11_contents wsX11_contents 2 42 yX12_contents wsX12_contents ({ frames := 2, cells := 0, slots := 0, locals := 45 }) [.int v1, .int v2])
    (h_gift : ∀ v1 v2 v3 v4 : Int32, SPi Inv n a0 yX11_gift wsX11_gift 8 214 yX12_gift wsX12_gift ({ frames := 2, cells := 0, slots := 0, locals := 45 }) [.int v1, .int v2, .int v3, .int v4])
    (h_lot : ∀ v1 v2 : Int32, SPi Inv n a0 yX11_lot wsX11_lot 4 85 yX12_lot wsX12_lot ({ frames := 2, cells := 0, slots := 0, locals := 46 }) [.int v1, .int v2])
    (h_table : SPi Inv n a0 yX11_table wsX11_table 7 191 yX12_table wsX12_table ({ frames := 1, cells := 0, slots := 0, locals := 21 }) [])
    (h_family : ∀ v1 v2 v3 : Int32, SPi Inv n a0 yX11_family wsX11_family 7 191 yX12_family wsX12_family ({ frames := 2, cells := 0, slots := 0, locals := 46 }) [.int v1, .int v2, .int v3])
    (h_refer : ∀ v1 v2 v3 v4 : Int32, SPi Inv n a0 yX11_refer wsX11_refer 4 85 yX12_refer wsX12_refer ({ frames := 2, cells := 0, slots := 0, locals := 46 }) [.int v1, .int v2, .int v3, .int v4])
    (h_allowed : ∀ v1 v2 : Int32, SPi Inv n a0 yX11_allowed wsX11_allowed 4 85 yX12_allowed wsX12_allowed ({ frames := 2, cells := 0, slots := 0, locals := 48 }) [.int v1, .int v2])
    (h_need : ∀ v1 v2 : Int32, SPi Inv n a0 yX11_need wsX11_need 4 85 yX12_need wsX12_need ({ frames := 2, cells := 0, slots := 0, locals := 46 }) [.int v1, .int v2])
    (h_parcel : ∀ v1 : Int32, SPi Inv n a0 yX11_parcel wsX11_parcel 11 291 yX12_parcel wsX12_parcel ({ frames := 3, cells := 0, slots := 0, locals := 72 }) [.int v1])
    (h_of : ∀ v1 v2 : Int32, SPi Inv n a0 yX11_of wsX11_of 4 85 yX12_of wsX12_of (cRm 1 25 0 0) [.int v1, .int v2])
    (h_go : ∀ v1 : Int32, SPi Inv n a0 yX11_go wsX11_go 4 87 yX12_go wsX12_go ({ frames := 1, cells := 0, slots := 0, locals := 25 }) [.int v1])
    (h_want : ∀ v1 v2 v3 : Int32, SPi Inv n a0 yX11_want wsX11_want 4 85 yX12_want wsX12_want ({ frames := 2, cells := 0, slots := 0, locals := 46 }) [.int v1, .int v2, .int v3])
    (h_part : ∀ v1 : Int32, SPi Inv n a0 yX11_part wsX11_part 5 112 yX12_part wsX12_part (cRm 3 73 0 0) [.int v1])
    (h_got : ∀ v1 v2 : Int32, SPi Inv n a0 yX11_got wsX11_got 4 85 yX12_got wsX12_got ({ frames := 2, cells := 0, slots := 0, locals := 46 }) [.int v1, .int v2])
    (h_road : ∀ v1 v2 v3 : Int32, SPi Inv n a0 yX11_road wsX11_road 1 22 yX12_road wsX12_road ({ frames := 1, cells := 0, slots := 0, locals := 25 }) [.int v1, .int v2, .int v3])
    (h_load : ∀ v1 v2 : Int32, SPi Inv n a0 yX11_load wsX11_load 4 86 yX12_load wsX12_load ({ frames := 2, cells := 0, slots := 0, locals := 46 }) [.int v1, .int v2])
    (h_rounds : ∀ v1 : Int32, SPi Inv n a0 yX11_rounds wsX11_rounds 6 152 yX12_rounds wsX12_rounds (cRm 3 77 0 0) [.int v1])
    (h_stop : ∀ v1 : Int32, SPi Inv n a0 yX11_stop wsX11_stop 2 43 yX12_stop wsX12_stop ({ frames := 1, cells := 0, slots := 0, locals := 25 }) [.int v1])
    (h_feed : ∀ v1 v2 v3 v4 v5 : Int32, SPi Inv n a0 yX11_feed wsX11_feed 1 22 yX12_feed wsX12_feed ({ frames := 1, cells := 0, slots := 0, locals := 22 }) [.int v1, .int v2, .int v3, .int v4, .int v5])
    (h_end : ∀ v1 : Int32, SPi Inv n a0 yX11_end wsX11_end 1 22 yX12_end wsX12_end ({ frames := 0, cells := 0, slots := 0, locals := 0 }) [.int v1])
    (h_rules : SPi Inv n a0 yX11_rules wsX11_rules 8 171 yX12_rules wsX12_rules (cRm 5 108 0 0) [])
    (h_fault : SPi Inv n a0 yX11_fault wsX11_fault 0 0 yX12_fault wsX12_fault ({ frames := 0, cells := 0, slots := 0, locals := 0 }) [])
    (h_weigh : ∀ v1 v2 v3 : Int32, SPi Inv n a0 yX11_weigh wsX11_weigh 4 85 yX12_weigh wsX12_weigh ({ frames := 2, cells := 0, slots := 0, locals := 46 }) [.int v1, .int v2, .int v3])
    (h_given : ∀ v1 v2 : Int32, SPl Inv n a0 yX11_given wsX11_given 4 90 yX12_given wsX12_given ({ frames := 1, cells := 0, slots := 0, locals := 25 }) [.int v1, .int v2])
    (h_led : ∀ v1 v2 : Int32, SPl Inv n a0 yX11_led wsX11_led 4 85 yX12_led wsX12_led ({ frames := 2, cells := 0, slots := 0, locals := 46 }) [.int v1, .int v2])
    (h_count : ∀ v1 : Int32, SPl Inv n a0 yX11_count wsX11_count 4 88 yX12_count wsX12_count ({ frames := 1, cells := 0, slots := 0, locals := 26 }) [.int v1])
    (h_status : SPi Inv n a0 yX11_status wsX11_status 0 0 yX12_status wsX12_status ({ frames := 0, cells := 0, slots := 0, locals := 0 }) []) :
    ∀ (f k : Nat), 512 < f + k → k ≤ 512 → ∀ (S : CS) (x : MS), Inv k S x → ∀ (H : Heap) (locs : List Loc), lWd D cc cI cJ ad (fun q => s.heap.size ≤ q) s.heap S x H locs → ∀ ls : Array Slot, lv_has ls 4 [(0, .ref b), (1, .ref a0), (2, .ref (ad 0)), (3, .int (nI (6 * k)))] → W p l e room_1 s m #[Value.ref b] below meth c H locs (K0 + 1100 * k) (S0 + 14000 * k) (lw_Z below #[Value.ref b] s) (F0 m 18 ls []) := by
  obtain ⟨hx, hb, hr, hml, hown, hts0, hX, hbl, hlocks, hgv⟩ := C0
  have hts : ∀ w ∈ wsL_law, w.before #[Value.ref b] s = true := fun w h => hts0 w (wsL_law_in w h)
  have hA : ∀ q : Nat, s.heap.size ≤ q → (fun q : Nat => s.heap.size ≤ q) q := fun _ h => h
  have hbA : ¬ (fun q : Nat => s.heap.size ≤ q) b := Nat.not_le.mpr hbl
  have hown : s.vm.findClass RL = some m.cls := hown
  intro f
  induction f with
  | zero => intro k h1 h2; omega
  | succ f ih =>
    intro k hf hk5 S x hI H locs hw ls hl
    have tail : k < 512 → ∀ (S : CS) (x : MS), Inv (k + 1) S x → ∀ (H : Heap) (locs : List Loc), lWd D cc cI cJ ad (fun q => s.heap.size ≤ q) s.heap S x H locs → W p l e room_1 s m #[Value.ref b] below meth c H locs (K0 + 1100 * (k + 1)) (S0 + 14000 * (k + 1)) (lw_Z below #[Value.ref b] s) (F0 m 1010 ls []) := by
      intro hk S x hI H locs hw
      refine lv_iinc (v := nI (6 * (k + 1))) (lv' := [(3, .int (nI (6 * (k + 1)))), (0, .ref b), (1, .ref a0), (2, .ref (ad 0))]) hx hb dL_law_1010 hl (k := 3) rfl (by rw [show 6 * (k + 1) = 6 * k + 6 by omega]; exact (nI_add (6 * k) 6)) (by decide) rfl (fun ls hl => ?_)
      refine lv_goto (tgt := 18) hx hb dL_law_1013 (by decide) ?_
      exact ih (k + 1) (by omega) (by omega) S x hI H locs hw ls (lv_sub hl [1, 2, 3, 0] rfl)
    refine lv_iload_n hx hb dL_law_18 rfl (lv_at hl 3 rfl) ?_
    refine lv_aload_n hx hb dL_law_19 rfl (lv_at hl 0 rfl) ?_
    refine va_slen hx hb hX hbl hbA hw.1.2.2.2.2 dL_law_20 ?_
    refine lv_bipush (v := 6) hx hb dL_law_21 (by decide) ?_
    refine lv_isub hx hb dL_law_23 ?_
    have hcmp : nI L - 6 < nI (6 * k) ↔ L < 6 * k + 6 := by
      rw [Int32.lt_iff_toInt_lt, show (6 : Int32) = nI 6 from rfl, pk_sub_toInt (by omega) (by decide), nI_toInt (by omega)]
      omega
    refine lv_icmp_gt (tgt := 1016) hx hb dL_law_24 (by decide) (fun cg => ?_) (fun cg => ?_)
    · refine lv_iconst (v := 1) hx hb dL_law_1016 (by decide) ?_
      refine va_forget (fun q hq => hw.1.2.2.2.2.2.2 q hq) ?_
      refine W.widen (k := 600000) (n := 7302250) (by omega) (by omega) ?_
      exact lw_ret hx hb hr hlocks dL_law_1017
    · have hk6 : 6 * k + 6 ≤ L := by
        rcases Nat.lt_or_ge L (6 * k + 6) with q | q
        · exact absurd (hcmp.mpr q) cg
        · exact q
      have hk : k < 512 := by omega
      refine lv_aload_n hx hb dL_law_27 rfl (lv_at hl 0 rfl) ?_
      refine lv_iload_n hx hb dL_law_28 rfl (lv_at hl 3 rfl) ?_
      refine va_sld hx hb hX hbl hbA hw.1.2.2.2.2 (vp_in_nI (by omega) (by omega)) dL_law_29 ?_
      refine lv_bipush (v := 31) hx hb dL_law_30 (by decide) ?_
      refine lv_iand hx hb dL_law_32 ?_
      generalize xs (nI (6 * k)).toNatClampNeg &&& 31 = sw
      have hI0 := hI
      by_cases c33_0 : sw = 0
      · refine lv_tableIn (tgt := 156) hx hb dL_law_33 (by rw [c33_0]; decide) (by rw [c33_0]; decide) (by rw [c33_0]; rfl) (by decide) ?_
        refine lv_aload_n hx hb dL_law_156 rfl (lv_at hl 1 rfl) ?_
        refine L_arg hx hb hX hbl hbA hw.1.2.2.2.2 hl hL hk6 1 (by decide) (v := 1) (by decide) dL_law_157 dL_law_158 dL_law_159 dL_law_160 dL_law_161 ?_
        refine L_arg hx hb hX hbl hbA hw.1.2.2.2.2 hl hL hk6 2 (by decide) (v := 2) (by decide) dL_law_162 dL_law_163 dL_law_164 dL_law_165 dL_law_166 ?_
        obtain ⟨r, T, mc, ms, u, hC, hmc, hms, hM, hI⟩ := h_contents (xs (6 * k + 1)) (xs (6 * k + 2)) k S x hk hI
        have hd := hkd _ _ _ hI0
        refine L_i hA hw (va_runV (As := [.int (xs (6 * k + 1)), .int (xs (6 * k + 2))]) (rest := []) ⟨hx, hb, hml, hown, hts⟩ (hC l D cc E hE) (cwV 2 hts gL_law_X11_contents rfl rfl rfl (by decide +kernel) ⟨Nat.le_of_ble_eq_true rfl, Nat.le_of_ble_eq_true rfl⟩) ⟨cBlind D cc E S _, C_recv hK1 hw.1 (by omega) (cell_12 hd) (r := (RX11, TX11, 12)) rfl, fun U hU hW => ⟨rfl, C_pre hA hK1 hro hw.1 U hU hW⟩⟩ rfl rfl hl.1 rfl (lv_room (Nat.le_of_ble_eq_true rfl)) dL_law_167 ⟨by show _ ≤ 600000; omega, by show _ ≤ 7302250; omega⟩) (fun H locs hw => ?_)
        refine W.widen (k := K0 + 1100 * (k + 1)) (n := S0 + 14000 * (k + 1)) (by omega) (by omega) ?_
        refine lv_aload_n hx hb dL_law_170 rfl (lv_at hl 2 rfl) ?_
        refine L_arg hx hb hX hbl hbA hw.1.2.2.2.2 hl hL hk6 1 (by decide) (v := 1) (by decide) dL_law_171 dL_law_172 dL_law_173 dL_law_174 dL_law_175 ?_
        refine L_arg hx hb hX hbl hbA hw.1.2.2.2.2 hl hL hk6 2 (by decide) (v := 2) (by decide) dL_law_176 dL_law_177 dL_law_178 dL_law_179 dL_law_180 ?_
        refine L_mi (av := [.int (xs (6 * k + 1)), .int (xs (6 * k + 2))]) (rest := [.int r]) ⟨hx, hb, hml, hown, hts⟩ hA hK2 hw (hM l D cI cJ ad) (cwV 2 hts gL_law_X12_contents rfl rfl rfl (by decide +kernel) ⟨Nat.le_of_ble_eq_true rfl, Nat.le_of_ble_eq_true rfl⟩) rfl hl.1 rfl (Nat.le_of_ble_eq_true rfl) dL_law_181 ⟨by show _ ≤ 600000; omega, by show _ ≤ 7302250; omega⟩ (fun j H locs hj hw => ?_)
        refine lv_icmp_eq (tgt := 1010) hx hb dL_law_184 (by decide) (fun _ => ?_) (fun c => absurd rfl c)
        exact tail hk (setNx T j) u (hnx _ _ _ _ hI hj) H locs hw
      by_cases c33_1 : sw = 1
      · refine lv_tableIn (tgt := 189) hx hb dL_law_33 (by rw [c33_1]; decide) (by rw [c33_1]; decide) (by rw [c33_1]; rfl) (by decide) ?_
        refine lv_aload_n hx hb dL_law_189 rfl (lv_at hl 1 rfl) ?_
        refine L_arg hx hb hX hbl hbA hw.1.2.2.2.2 hl hL hk6 1 (by decide) (v := 1) (by decide) dL_law_190 dL_law_191 dL_law_192 dL_law_193 dL_law_194 ?_
        refine L_arg hx hb hX hbl hbA hw.1.2.2.2.2 hl hL hk6 2 (by decide) (v := 2) (by decide) dL_law_195 dL_law_196 dL_law_197 dL_law_198 dL_law_199 ?_
        refine L_arg hx hb hX hbl hbA hw.1.2.2.2.2 hl hL hk6 3 (by decide) (v := 3) (by decide) dL_law_200 dL_law_201 dL_law_202 dL_law_203 dL_law_204 ?_
        refine L_arg hx hb hX hbl hbA hw.1.2.2.2.2 hl hL hk6 4 (by decide) (v := 4) (by decide) dL_law_205 dL_law_206 dL_law_207 dL_law_208 dL_law_209 ?_
        obtain ⟨r, T, mc, ms, u, hC, hmc, hms, hM, hI⟩ := h_gift (xs (6 * k + 1)) (xs (6 * k + 2)) (xs (6 * k + 3)) (xs (6 * k + 4)) k S x hk hI
        have hd := hkd _ _ _ hI0
        refine L_i hA hw (va_runV (As := [.int (xs (6 * k + 1)), .int (xs (6 * k + 2)), .int (xs (6 * k + 3)), .int (xs (6 * k + 4))]) (rest := []) ⟨hx, hb, hml, hown, hts⟩ (hC l D cc E hE) (cwV 4 hts gL_law_X11_gift rfl rfl rfl (by decide +kernel) ⟨Nat.le_of_ble_eq_true rfl, Nat.le_of_ble_eq_true rfl⟩) ⟨cBlind D cc E S _, C_recv hK1 hw.1 (by omega) (cell_12 hd) (r := (RX11, TX11, 12)) rfl, fun U hU hW => ⟨rfl, C_pre hA hK1 hro hw.1 U hU hW⟩⟩ rfl rfl hl.1 rfl (lv_room (Nat.le_of_ble_eq_true rfl)) dL_law_210 ⟨by show _ ≤ 600000; omega, by show _ ≤ 7302250; omega⟩) (fun H locs hw => ?_)
        refine W.widen (k := K0 + 1100 * (k + 1)) (n := S0 + 14000 * (k + 1)) (by omega) (by omega) ?_
        refine lv_aload_n hx hb dL_law_213 rfl (lv_at hl 2 rfl) ?_
        refine L_arg hx hb hX hbl hbA hw.1.2.2.2.2 hl hL hk6 1 (by decide) (v := 1) (by decide) dL_law_214 dL_law_215 dL_law_216 dL_law_217 dL_law_218 ?_
        refine L_arg hx hb hX hbl hbA hw.1.2.2.2.2 hl hL hk6 2 (by decide) (v := 2) (by decide) dL_law_219 dL_law_220 dL_law_221 dL_law_222 dL_law_223 ?_
        refine L_arg hx hb hX hbl hbA hw.1.2.2.2.2 hl hL hk6 3 (by decide) (v := 3) (by decide) dL_law_224 dL_law_225 dL_law_226 dL_law_227 dL_law_228 ?_
        refine L_arg hx hb hX hbl hbA hw.1.2.2.2.2 hl hL hk6 4 (by decide) (v := 4) (by decide) dL_law_229 dL_law_230 dL_law_231 dL_law_232 dL_law_233 ?_
        refine L_mi (av := [.int (xs (6 * k + 1)), .int (xs (6 * k + 2)), .int (xs (6 * k + 3)), .int (xs (6 * k + 4))]) (rest := [.int r]) ⟨hx, hb, hml, hown, hts⟩ hA hK2 hw (hM l D cI cJ ad) (cwV 4 hts gL_law_X12_gift rfl rfl rfl (by decide +kernel) ⟨Nat.le_of_ble_eq_true rfl, Nat.le_of_ble_eq_true rfl⟩) rfl hl.1 rfl (Nat.le_of_ble_eq_true rfl) dL_law_234 ⟨by show _ ≤ 600000; omega, by show _ ≤ 7302250; omega⟩ (fun j H locs hj hw => ?_)
        refine lv_icmp_eq (tgt := 1010) hx hb dL_law_237 (by decide) (fun _ => ?_) (fun c => absurd rfl c)
        exact tail hk (setNx T j) u (hnx _ _ _ _ hI hj) H locs hw
      by_cases c33_2 : sw = 2
      · refine lv_tableIn (tgt := 242) hx hb dL_law_33 (by rw [c33_2]; decide) (by rw [c33_2]; decide) (by rw [c33_2]; rfl) (by decide) ?_
        refine lv_aload_n hx hb dL_law_242 rfl (lv_at hl 1 rfl) ?_
        refine L_arg hx hb hX hbl hbA hw.1.2.2.2.2 hl hL hk6 1 (by decide) (v := 1) (by decide) dL_law_243 dL_law_244 dL_law_245 dL_law_246 dL_law_247 ?_
        refine L_arg hx hb hX hbl hbA hw.1.2.2.2.2 hl hL hk6 2 (by decide) (v := 2) (by decide) dL_law_248 dL_law_249 dL_law_250 dL_law_251 dL_law_252 ?_
        obtain ⟨r, T, mc, ms, u, hC, hmc, hms, hM, hI⟩ := h_lot (xs (6 * k + 1)) (xs (6 * k + 2)) k S x hk hI
        have hd := hkd _ _ _ hI0
        refine L_i hA hw (va_runV (As := [.int (xs (6 * k + 1)), .int (xs (6 * k + 2))]) (rest := []) ⟨hx, hb, hml, hown, hts⟩ (hC l D cc E hE) (cwV 2 hts gL_law_X11_lot rfl rfl rfl (by decide +kernel) ⟨Nat.le_of_ble_eq_true rfl, Nat.le_of_ble_eq_true rfl⟩) ⟨cBlind D cc E S _, C_recv hK1 hw.1 (by omega) (cell_12 hd) (r := (RX11, TX11, 12)) rfl, fun U hU hW => ⟨rfl, C_pre hA hK1 hro hw.1 U hU hW⟩⟩ rfl rfl hl.1 rfl (lv_room (Nat.le_of_ble_eq_true rfl)) dL_law_253 ⟨by show _ ≤ 600000; omega, by show _ ≤ 7302250; omega⟩) (fun H locs hw => ?_)
        refine W.widen (k := K0 + 1100 * (k + 1)) (n := S0 + 14000 * (k + 1)) (by omega) (by omega) ?_
        refine lv_aload_n hx hb dL_law_256 rfl (lv_at hl 2 rfl) ?_
        refine L_arg hx hb hX hbl hbA hw.1.2.2.2.2 hl hL hk6 1 (by decide) (v := 1) (by decide) dL_law_257 dL_law_258 dL_law_259 dL_law_260 dL_law_261 ?_
        refine L_arg hx hb hX hbl hbA hw.1.2.2.2.2 hl hL hk6 2 (by decide) (v := 2) (by decide) dL_law_262 dL_law_263 dL_law_264 dL_law_265 dL_law_266 ?_
        refine L_mi (av := [.int (xs (6 * k + 1)), .int (xs (6 * k + 2))]) (rest := [.int r]) ⟨hx, hb, hml, hown, hts⟩ hA hK2 hw (hM l D cI cJ ad) (cwV 2 hts gL_law_X12_lot rfl rfl rfl (by decide +kernel) ⟨Nat.le_of_ble_eq_true rfl, Nat.le_of_ble_eq_true rfl⟩) rfl hl.1 rfl (Nat.le_of_ble_eq_true rfl) dL_law_267 ⟨by show _ ≤ 600000; omega, by show _ ≤ 7302250; omega⟩ (fun j H locs hj hw => ?_)
        refine lv_icmp_eq (tgt := 1010) hx hb dL_law_270 (by decide) (fun _ => ?_) (fun c => absurd rfl c)
        exact tail hk (setNx T j) u (hnx _ _ _ _ hI hj) H locs hw
      by_cases c33_3 : sw = 3
      · refine lv_tableIn (tgt := 275) hx hb dL_law_33 (by rw [c33_3]; decide) (by rw [c33_3]; decide) (by rw [c33_3]; rfl) (by decide) ?_
        refine lv_aload_n hx hb dL_law_275 rfl (lv_at hl 1 rfl) ?_
        obtain ⟨r, T, mc, ms, u, hC, hmc, hms, hM, hI⟩ := h_table  k S x hk hI
        have hd := hkd _ _ _ hI0
        refine L_i hA hw (va_runV (As := []) (rest := []) ⟨hx, hb, hml, hown, hts⟩ (hC l D cc E hE) (cwV 0 hts gL_law_X11_table rfl rfl rfl (by decide +kernel) ⟨Nat.le_of_ble_eq_true rfl, Nat.le_of_ble_eq_true rfl⟩) ⟨cBlind D cc E S _, C_recv hK1 hw.1 (by omega) (cell_12 hd) (r := (RX11, TX11, 12)) rfl, fun U hU hW => ⟨rfl, C_pre hA hK1 hro hw.1 U hU hW⟩⟩ rfl rfl hl.1 rfl (lv_room (Nat.le_of_ble_eq_true rfl)) dL_law_276 ⟨by show _ ≤ 600000; omega, by show _ ≤ 7302250; omega⟩) (fun H locs hw => ?_)
        refine W.widen (k := K0 + 1100 * (k + 1)) (n := S0 + 14000 * (k + 1)) (by omega) (by omega) ?_
        refine lv_aload_n hx hb dL_law_279 rfl (lv_at hl 2 rfl) ?_
        refine L_mi (av := []) (rest := [.int r]) ⟨hx, hb, hml, hown, hts⟩ hA hK2 hw (hM l D cI cJ ad) (cwV 0 hts gL_law_X12_table rfl rfl rfl (by decide +kernel) ⟨Nat.le_of_ble_eq_true rfl, Nat.le_of_ble_eq_true rfl⟩) rfl hl.1 rfl (Nat.le_of_ble_eq_true rfl) dL_law_280 ⟨by show _ ≤ 600000; omega, by show _ ≤ 7302250; omega⟩ (fun j H locs hj hw => ?_)
        refine lv_icmp_eq (tgt := 1010) hx hb dL_law_283 (by decide) (fun _ => ?_) (fun c => absurd rfl c)
        exact tail hk (setNx T j) u (hnx _ _ _ _ hI hj) H locs hw
      by_cases c33_4 : sw = 4
      · refine lv_tableIn (tgt := 288) hx hb dL_law_33 (by rw [c33_4]; decide) (by rw [c33_4]; decide) (by rw [c33_4]; rfl) (by decide) ?_
        refine lv_aload_n hx hb dL_law_288 rfl (lv_at hl 1 rfl) ?_
        refine L_arg hx hb hX hbl hbA hw.1.2.2.2.2 hl hL hk6 1 (by decide) (v := 1) (by decide) dL_law_289 dL_law_290 dL_law_291 dL_law_292 dL_law_293 ?_
        refine L_arg hx hb hX hbl hbA hw.1.2.2.2.2 hl hL hk6 2 (by decide) (v := 2) (by decide) dL_law_294 dL_law_295 dL_law_296 dL_law_297 dL_law_298 ?_
        refine L_arg hx hb hX hbl hbA hw.1.2.2.2.2 hl hL hk6 3 (by decide) (v := 3) (by decide) dL_law_299 dL_law_300 dL_law_301 dL_law_302 dL_law_303 ?_
        obtain ⟨r, T, mc, ms, u, hC, hmc, hms, hM, hI⟩ := h_family (xs (6 * k + 1)) (xs (6 * k + 2)) (xs (6 * k + 3)) k S x hk hI
        have hd := hkd _ _ _ hI0
        refine L_i hA hw (va_runV (As := [.int (xs (6 * k + 1)), .int (xs (6 * k + 2)), .int (xs (6 * k + 3))]) (rest := []) ⟨hx, hb, hml, hown, hts⟩ (hC l D cc E hE) (cwV 3 hts gL_law_X11_family rfl rfl rfl (by decide +kernel) ⟨Nat.le_of_ble_eq_true rfl, Nat.le_of_ble_eq_true rfl⟩) ⟨cBlind D cc E S _, C_recv hK1 hw.1 (by omega) (cell_12 hd) (r := (RX11, TX11, 12)) rfl, fun U hU hW => ⟨rfl, C_pre hA hK1 hro hw.1 U hU hW⟩⟩ rfl rfl hl.1 rfl (lv_room (Nat.le_of_ble_eq_true rfl)) dL_law_304 ⟨by show _ ≤ 600000; omega, by show _ ≤ 7302250; omega⟩) (fun H locs hw => ?_)
        refine W.widen (k := K0 + 1100 * (k + 1)) (n := S0 + 14000 * (k + 1)) (by omega) (by omega) ?_
        refine lv_aload_n hx hb dL_law_307 rfl (lv_at hl 2 rfl) ?_
        refine L_arg hx hb hX hbl hbA hw.1.2.2.2.2 hl hL hk6 1 (by decide) (v := 1) (by decide) dL_law_308 dL_law_309 dL_law_310 dL_law_311 dL_law_312 ?_
        refine L_arg hx hb hX hbl hbA hw.1.2.2.2.2 hl hL hk6 2 (by decide) (v := 2) (by decide) dL_law_313 dL_law_314 dL_law_315 dL_law_316 dL_law_317 ?_
        refine L_arg hx hb hX hbl hbA hw.1.2.2.2.2 hl hL hk6 3 (by decide) (v := 3) (by decide) dL_law_318 dL_law_319 dL_law_320 dL_law_321 dL_law_322 ?_
        refine L_mi (av := [.int (xs (6 * k + 1)), .int (xs (6 * k + 2)), .int (xs (6 * k + 3))]) (rest := [.int r]) ⟨hx, hb, hml, hown, hts⟩ hA hK2 hw (hM l D cI cJ ad) (cwV 3 hts gL_law_X12_family rfl rfl rfl (by decide +kernel) ⟨Nat.le_of_ble_eq_true rfl, Nat.le_of_ble_eq_true rfl⟩) rfl hl.1 rfl (Nat.le_of_ble_eq_true rfl) dL_law_323 ⟨by show _ ≤ 600000; omega, by show _ ≤ 7302250; omega⟩ (fun j H locs hj hw => ?_)
        refine lv_icmp_eq (tgt := 1010) hx hb dL_law_326 (by decide) (fun _ => ?_) (fun c => absurd rfl c)
        exact tail hk (setNx T j) u (hnx _ _ _ _ hI hj) H locs hw
      by_cases c33_5 : sw = 5
      · refine lv_tableIn (tgt := 331) hx hb dL_law_33 (by rw [c33_5]; decide) (by rw [c33_5]; decide) (by rw [c33_5]; rfl) (by decide) ?_
        refine lv_aload_n hx hb dL_law_331 rfl (lv_at hl 1 rfl) ?_
        refine L_arg hx hb hX hbl hbA hw.1.2.2.2.2 hl hL hk6 1 (by decide) (v := 1) (by decide) dL_law_332 dL_law_333 dL_law_334 dL_law_335 dL_law_336 ?_
        refine L_arg hx hb hX hbl hbA hw.1.2.2.2.2 hl hL hk6 2 (by decide) (v := 2) (by decide) dL_law_337 dL_law_338 dL_law_339 dL_law_340 dL_law_341 ?_
        refine L_arg hx hb hX hbl hbA hw.1.2.2.2.2 hl hL hk6 3 (by decide) (v := 3) (by decide) dL_law_342 dL_law_343 dL_law_344 dL_law_345 dL_law_346 ?_
        refine L_arg hx hb hX hbl hbA hw.1.2.2.2.2 hl hL hk6 4 (by decide) (v := 4) (by decide) dL_law_347 dL_law_348 dL_law_349 dL_law_350 dL_law_351 ?_
        obtain ⟨r, T, mc, ms, u, hC, hmc, hms, hM, hI⟩ := h_refer (xs (6 * k + 1)) (xs (6 * k + 2)) (xs (6 * k + 3)) (xs (6 * k + 4)) k S x hk hI
        have hd := hkd _ _ _ hI0
        refine L_i hA hw (va_runV (As := [.int (xs (6 * k + 1)), .int (xs (6 * k + 2)), .int (xs (6 * k + 3)), .int (xs (6 * k + 4))]) (rest := []) ⟨hx, hb, hml, hown, hts⟩ (hC l D cc E hE) (cwV 4 hts gL_law_X11_refer rfl rfl rfl (by decide +kernel) ⟨Nat.le_of_ble_eq_true rfl, Nat.le_of_ble_eq_true rfl⟩) ⟨cBlind D cc E S _, C_recv hK1 hw.1 (by omega) (cell_12 hd) (r := (RX11, TX11, 12)) rfl, fun U hU hW => ⟨rfl, C_pre hA hK1 hro hw.1 U hU hW⟩⟩ rfl rfl hl.1 rfl (lv_room (Nat.le_of_ble_eq_true rfl)) dL_law_352 ⟨by show _ ≤ 600000; omega, by show _ ≤ 7302250; omega⟩) (fun H locs hw => ?_)
        refine W.widen (k := K0 + 1100 * (k + 1)) (n := S0 + 14000 * (k + 1)) (by omega) (by omega) ?_
        refine lv_aload_n hx hb dL_law_355 rfl (lv_at hl 2 rfl) ?_
        refine L_arg hx hb hX hbl hbA hw.1.2.2.2.2 hl hL hk6 1 (by decide) (v := 1) (by decide) dL_law_356 dL_law_357 dL_law_358 dL_law_359 dL_law_360 ?_
        refine L_arg hx hb hX hbl hbA hw.1.2.2.2.2 hl hL hk6 2 (by decide) (v := 2) (by decide) dL_law_361 dL_law_362 dL_law_363 dL_law_364 dL_law_365 ?_
        refine L_arg hx hb hX hbl hbA hw.1.2.2.2.2 hl hL hk6 3 (by decide) (v := 3) (by decide) dL_law_366 dL_law_367 dL_law_368 dL_law_369 dL_law_370 ?_
        refine L_arg hx hb hX hbl hbA hw.1.2.2.2.2 hl hL hk6 4 (by decide) (v := 4) (by decide) dL_law_371 dL_law_372 dL_law_373 dL_law_374 dL_law_375 ?_
        refine L_mi (av := [.int (xs (6 * k + 1)), .int (xs (6 * k + 2)), .int (xs (6 * k + 3)), .int (xs (6 * k + 4))]) (rest := [.int r]) ⟨hx, hb, hml, hown, hts⟩ hA hK2 hw (hM l D cI cJ ad) (cwV 4 hts gL_law_X12_refer rfl rfl rfl (by decide +kernel) ⟨Nat.le_of_ble_eq_true rfl, Nat.le_of_ble_eq_true rfl⟩) rfl hl.1 rfl (Nat.le_of_ble_eq_true rfl) dL_law_376 ⟨by show _ ≤ 600000; omega, by show _ ≤ 7302250; omega⟩ (fun j H locs hj hw => ?_)
        refine lv_icmp_eq (tgt := 1010) hx hb dL_law_379 (by decide) (fun _ => ?_) (fun c => absurd rfl c)
        exact tail hk (setNx T j) u (hnx _ _ _ _ hI hj) H locs hw
      by_cases c33_6 : sw = 6
      · refine lv_tableIn (tgt := 384) hx hb dL_law_33 (by rw [c33_6]; decide) (by rw [c33_6]; decide) (by rw [c33_6]; rfl) (by decide) ?_
        refine lv_aload_n hx hb dL_law_384 rfl (lv_at hl 1 rfl) ?_
        refine L_arg hx hb hX hbl hbA hw.1.2.2.2.2 hl hL hk6 1 (by decide) (v := 1) (by decide) dL_law_385 dL_law_386 dL_law_387 dL_law_388 dL_law_389 ?_
        refine L_arg hx hb hX hbl hbA hw.1.2.2.2.2 hl hL hk6 2 (by decide) (v := 2) (by decide) dL_law_390 dL_law_391 dL_law_392 dL_law_393 dL_law_394 ?_
        obtain ⟨r, T, mc, ms, u, hC, hmc, hms, hM, hI⟩ := h_allowed (xs (6 * k + 1)) (xs (6 * k + 2)) k S x hk hI
        have hd := hkd _ _ _ hI0
        refine L_i hA hw (va_runV (As := [.int (xs (6 * k + 1)), .int (xs (6 * k + 2))]) (rest := []) ⟨hx, hb, hml, hown, hts⟩ (hC l D cc E hE) (cwV 2 hts gL_law_X11_allowed rfl rfl rfl (by decide +kernel) ⟨Nat.le_of_ble_eq_true rfl, Nat.le_of_ble_eq_true rfl⟩) ⟨cBlind D cc E S _, C_recv hK1 hw.1 (by omega) (cell_12 hd) (r := (RX11, TX11, 12)) rfl, fun U hU hW => ⟨rfl, C_pre hA hK1 hro hw.1 U hU hW⟩⟩ rfl rfl hl.1 rfl (lv_room (Nat.le_of_ble_eq_true rfl)) dL_law_395 ⟨by show _ ≤ 600000; omega, by show _ ≤ 7302250; omega⟩) (fun H locs hw => ?_)
        refine W.widen (k := K0 + 1100 * (k + 1)) (n := S0 + 14000 * (k + 1)) (by omega) (by omega) ?_
        refine lv_aload_n hx hb dL_law_398 rfl (lv_at hl 2 rfl) ?_
        refine L_arg hx hb hX hbl hbA hw.1.2.2.2.2 hl hL hk6 1 (by decide) (v := 1) (by decide) dL_law_399 dL_law_400 dL_law_401 dL_law_402 dL_law_403 ?_
        refine L_arg hx hb hX hbl hbA hw.1.2.2.2.2 hl hL hk6 2 (by decide) (v := 2) (by decide) dL_law_404 dL_law_405 dL_law_406 dL_law_407 dL_law_408 ?_
        refine L_mi (av := [.int (xs (6 * k + 1)), .int (xs (6 * k + 2))]) (rest := [.int r]) ⟨hx, hb, hml, hown, hts⟩ hA hK2 hw (hM l D cI cJ ad) (cwV 2 hts gL_law_X12_allowed rfl rfl rfl (by decide +kernel) ⟨Nat.le_of_ble_eq_true rfl, Nat.le_of_ble_eq_true rfl⟩) rfl hl.1 rfl (Nat.le_of_ble_eq_true rfl) dL_law_409 ⟨by show _ ≤ 600000; omega, by show _ ≤ 7302250; omega⟩ (fun j H locs hj hw => ?_)
        refine lv_icmp_eq (tgt := 1010) hx hb dL_law_412 (by decide) (fun _ => ?_) (fun c => absurd rfl c)
        exact tail hk (setNx T j) u (hnx _ _ _ _ hI hj) H locs hw
      by_cases c33_7 : sw = 7
      · refine lv_tableIn (tgt := 417) hx hb dL_law_33 (by rw [c33_7]; decide) (by rw [c33_7]; decide) (by rw [c33_7]; rfl) (by decide) ?_
        refine lv_aload_n hx hb dL_law_417 rfl (lv_at hl 1 rfl) ?_
        refine L_arg hx hb hX hbl hbA hw.1.2.2.2.2 hl hL hk6 1 (by decide) (v := 1) (by decide) dL_law_418 dL_law_419 dL_law_420 dL_law_421 dL_law_422 ?_
        refine L_arg hx hb hX hbl hbA hw.1.2.2.2.2 hl hL hk6 2 (by decide) (v := 2) (by decide) dL_law_423 dL_law_424 dL_law_425 dL_law_426 dL_law_427 ?_
        obtain ⟨r, T, mc, ms, u, hC, hmc, hms, hM, hI⟩ := h_need (xs (6 * k + 1)) (xs (6 * k + 2)) k S x hk hI
        have hd := hkd _ _ _ hI0
        refine L_i hA hw (va_runV (As := [.int (xs (6 * k + 1)), .int (xs (6 * k + 2))]) (rest := []) ⟨hx, hb, hml, hown, hts⟩ (hC l D cc E hE) (cwV 2 hts gL_law_X11_need rfl rfl rfl (by decide +kernel) ⟨Nat.le_of_ble_eq_true rfl, Nat.le_of_ble_eq_true rfl⟩) ⟨cBlind D cc E S _, C_recv hK1 hw.1 (by omega) (cell_12 hd) (r := (RX11, TX11, 12)) rfl, fun U hU hW => ⟨rfl, C_pre hA hK1 hro hw.1 U hU hW⟩⟩ rfl rfl hl.1 rfl (lv_room (Nat.le_of_ble_eq_true rfl)) dL_law_428 ⟨by show _ ≤ 600000; omega, by show _ ≤ 7302250; omega⟩) (fun H locs hw => ?_)
        refine W.widen (k := K0 + 1100 * (k + 1)) (n := S0 + 14000 * (k + 1)) (by omega) (by omega) ?_
        refine lv_aload_n hx hb dL_law_431 rfl (lv_at hl 2 rfl) ?_
        refine L_arg hx hb hX hbl hbA hw.1.2.2.2.2 hl hL hk6 1 (by decide) (v := 1) (by decide) dL_law_432 dL_law_433 dL_law_434 dL_law_435 dL_law_436 ?_
        refine L_arg hx hb hX hbl hbA hw.1.2.2.2.2 hl hL hk6 2 (by decide) (v := 2) (by decide) dL_law_437 dL_law_438 dL_law_439 dL_law_440 dL_law_441 ?_
        refine L_mi (av := [.int (xs (6 * k + 1)), .int (xs (6 * k + 2))]) (rest := [.int r]) ⟨hx, hb, hml, hown, hts⟩ hA hK2 hw (hM l D cI cJ ad) (cwV 2 hts gL_law_X12_need rfl rfl rfl (by decide +kernel) ⟨Nat.le_of_ble_eq_true rfl, Nat.le_of_ble_eq_true rfl⟩) rfl hl.1 rfl (Nat.le_of_ble_eq_true rfl) dL_law_442 ⟨by show _ ≤ 600000; omega, by show _ ≤ 7302250; omega⟩ (fun j H locs hj hw => ?_)
        refine lv_icmp_eq (tgt := 1010) hx hb dL_law_445 (by decide) (fun _ => ?_) (fun c => absurd rfl c)
        exact tail hk (setNx T j) u (hnx _ _ _ _ hI hj) H locs hw
      by_cases c33_8 : sw = 8
      · refine lv_tableIn (tgt := 450) hx hb dL_law_33 (by rw [c33_8]; decide) (by rw [c33_8]; decide) (by rw [c33_8]; rfl) (by decide) ?_
        refine lv_aload_n hx hb dL_law_450 rfl (lv_at hl 1 rfl) ?_
        refine L_arg hx hb hX hbl hbA hw.1.2.2.2.2 hl hL hk6 1 (by decide) (v := 1) (by decide) dL_law_451 dL_law_452 dL_law_453 dL_law_454 dL_law_455 ?_
        obtain ⟨r, T, mc, ms, u, hC, hmc, hms, hM, hI⟩ := h_parcel (xs (6 * k + 1)) k S x hk hI
        have hd := hkd _ _ _ hI0
        refine L_i hA hw (va_runV (As := [.int (xs (6 * k + 1))]) (rest := []) ⟨hx, hb, hml, hown, hts⟩ (hC l D cc E hE) (cwV 1 hts gL_law_X11_parcel rfl rfl rfl (by decide +kernel) ⟨Nat.le_of_ble_eq_true rfl, Nat.le_of_ble_eq_true rfl⟩) ⟨cBlind D cc E S _, C_recv hK1 hw.1 (by omega) (cell_12 hd) (r := (RX11, TX11, 12)) rfl, fun U hU hW => ⟨rfl, C_pre hA hK1 hro hw.1 U hU hW⟩⟩ rfl rfl hl.1 rfl (lv_room (Nat.le_of_ble_eq_true rfl)) dL_law_456 ⟨by show _ ≤ 600000; omega, by show _ ≤ 7302250; omega⟩) (fun H locs hw => ?_)
        refine W.widen (k := K0 + 1100 * (k + 1)) (n := S0 + 14000 * (k + 1)) (by omega) (by omega) ?_
        refine lv_aload_n hx hb dL_law_459 rfl (lv_at hl 2 rfl) ?_
        refine L_arg hx hb hX hbl hbA hw.1.2.2.2.2 hl hL hk6 1 (by decide) (v := 1) (by decide) dL_law_460 dL_law_461 dL_law_462 dL_law_463 dL_law_464 ?_
        refine L_mi (av := [.int (xs (6 * k + 1))]) (rest := [.int r]) ⟨hx, hb, hml, hown, hts⟩ hA hK2 hw (hM l D cI cJ ad) (cwV 1 hts gL_law_X12_parcel rfl rfl rfl (by decide +kernel) ⟨Nat.le_of_ble_eq_true rfl, Nat.le_of_ble_eq_true rfl⟩) rfl hl.1 rfl (Nat.le_of_ble_eq_true rfl) dL_law_465 ⟨by show _ ≤ 600000; omega, by show _ ≤ 7302250; omega⟩ (fun j H locs hj hw => ?_)
        refine lv_icmp_eq (tgt := 1010) hx hb dL_law_468 (by decide) (fun _ => ?_) (fun c => absurd rfl c)
        exact tail hk (setNx T j) u (hnx _ _ _ _ hI hj) H locs hw
      by_cases c33_9 : sw = 9
      · refine lv_tableIn (tgt := 473) hx hb dL_law_33 (by rw [c33_9]; decide) (by rw [c33_9]; decide) (by rw [c33_9]; rfl) (by decide) ?_
        refine lv_aload_n hx hb dL_law_473 rfl (lv_at hl 1 rfl) ?_
        refine L_arg hx hb hX hbl hbA hw.1.2.2.2.2 hl hL hk6 1 (by decide) (v := 1) (by decide) dL_law_474 dL_law_475 dL_law_476 dL_law_477 dL_law_478 ?_
        refine L_arg hx hb hX hbl hbA hw.1.2.2.2.2 hl hL hk6 2 (by decide) (v := 2) (by decide) dL_law_479 dL_law_480 dL_law_481 dL_law_482 dL_law_483 ?_
        obtain ⟨r, T, mc, ms, u, hC, hmc, hms, hM, hI⟩ := h_of (xs (6 * k + 1)) (xs (6 * k + 2)) k S x hk hI
        have hd := hkd _ _ _ hI0
        refine L_i hA hw (va_runV (As := [.int (xs (6 * k + 1)), .int (xs (6 * k + 2))]) (rest := []) ⟨hx, hb, hml, hown, hts⟩ (hC l D cc E hE) (cwV 2 hts gL_law_X11_of rfl rfl rfl (by decide +kernel) ⟨Nat.le_of_ble_eq_true rfl, Nat.le_of_ble_eq_true rfl⟩) ⟨cBlind D cc E S _, C_recv hK1 hw.1 (by omega) (cell_12 hd) (r := (RX11, TX11, 12)) rfl, fun U hU hW => ⟨rfl, C_pre hA hK1 hro hw.1 U hU hW⟩⟩ rfl rfl hl.1 rfl (lv_room (Nat.le_of_ble_eq_true rfl)) dL_law_484 ⟨by show _ ≤ 600000; omega, by show _ ≤ 7302250; omega⟩) (fun H locs hw => ?_)
        refine W.widen (k := K0 + 1100 * (k + 1)) (n := S0 + 14000 * (k + 1)) (by omega) (by omega) ?_
        refine lv_aload_n hx hb dL_law_487 rfl (lv_at hl 2 rfl) ?_
        refine L_arg hx hb hX hbl hbA hw.1.2.2.2.2 hl hL hk6 1 (by decide) (v := 1) (by decide) dL_law_488 dL_law_489 dL_law_490 dL_law_491 dL_law_492 ?_
        refine L_arg hx hb hX hbl hbA hw.1.2.2.2.2 hl hL hk6 2 (by decide) (v := 2) (by decide) dL_law_493 dL_law_494 dL_law_495 dL_law_496 dL_law_497 ?_
        refine L_mi (av := [.int (xs (6 * k + 1)), .int (xs (6 * k + 2))]) (rest := [.int r]) ⟨hx, hb, hml, hown, hts⟩ hA hK2 hw (hM l D cI cJ ad) (cwV 2 hts gL_law_X12_of rfl rfl rfl (by decide +kernel) ⟨Nat.le_of_ble_eq_true rfl, Nat.le_of_ble_eq_true rfl⟩) rfl hl.1 rfl (Nat.le_of_ble_eq_true rfl) dL_law_498 ⟨by show _ ≤ 600000; omega, by show _ ≤ 7302250; omega⟩ (fun j H locs hj hw => ?_)
        refine lv_icmp_eq (tgt := 1010) hx hb dL_law_501 (by decide) (fun _ => ?_) (fun c => absurd rfl c)
        exact tail hk (setNx T j) u (hnx _ _ _ _ hI hj) H locs hw
      by_cases c33_10 : sw = 10
      · refine lv_tableIn (tgt := 506) hx hb dL_law_33 (by rw [c33_10]; decide) (by rw [c33_10]; decide) (by rw [c33_10]; rfl) (by decide) ?_
        refine lv_aload_n hx hb dL_law_506 rfl (lv_at hl 1 rfl) ?_
        refine L_arg hx hb hX hbl hbA hw.1.2.2.2.2 hl hL hk6 1 (by decide) (v := 1) (by decide) dL_law_507 dL_law_508 dL_law_509 dL_law_510 dL_law_511 ?_
        obtain ⟨r, T, mc, ms, u, hC, hmc, hms, hM, hI⟩ := h_go (xs (6 * k + 1)) k S x hk hI
        have hd := hkd _ _ _ hI0
        refine L_i hA hw (va_runV (As := [.int (xs (6 * k + 1))]) (rest := []) ⟨hx, hb, hml, hown, hts⟩ (hC l D cc E hE) (cwV 1 hts gL_law_X11_go rfl rfl rfl (by decide +kernel) ⟨Nat.le_of_ble_eq_true rfl, Nat.le_of_ble_eq_true rfl⟩) ⟨cBlind D cc E S _, C_recv hK1 hw.1 (by omega) (cell_12 hd) (r := (RX11, TX11, 12)) rfl, fun U hU hW => ⟨rfl, C_pre hA hK1 hro hw.1 U hU hW⟩⟩ rfl rfl hl.1 rfl (lv_room (Nat.le_of_ble_eq_true rfl)) dL_law_512 ⟨by show _ ≤ 600000; omega, by show _ ≤ 7302250; omega⟩) (fun H locs hw => ?_)
        refine W.widen (k := K0 + 1100 * (k + 1)) (n := S0 + 14000 * (k + 1)) (by omega) (by omega) ?_
        refine lv_aload_n hx hb dL_law_515 rfl (lv_at hl 2 rfl) ?_
        refine L_arg hx hb hX hbl hbA hw.1.2.2.2.2 hl hL hk6 1 (by decide) (v := 1) (by decide) dL_law_516 dL_law_517 dL_law_518 dL_law_519 dL_law_520 ?_
        refine L_mi (av := [.int (xs (6 * k + 1))]) (rest := [.int r]) ⟨hx, hb, hml, hown, hts⟩ hA hK2 hw (hM l D cI cJ ad) (cwV 1 hts gL_law_X12_go rfl rfl rfl (by decide +kernel) ⟨Nat.le_of_ble_eq_true rfl, Nat.le_of_ble_eq_true rfl⟩) rfl hl.1 rfl (Nat.le_of_ble_eq_true rfl) dL_law_521 ⟨by show _ ≤ 600000; omega, by show _ ≤ 7302250; omega⟩ (fun j H locs hj hw => ?_)
        refine lv_icmp_eq (tgt := 1010) hx hb dL_law_524 (by decide) (fun _ => ?_) (fun c => absurd rfl c)
        exact tail hk (setNx T j) u (hnx _ _ _ _ hI hj) H locs hw
      by_cases c33_11 : sw = 11
      · refine lv_tableIn (tgt := 529) hx hb dL_law_33 (by rw [c33_11]; decide) (by rw [c33_11]; decide) (by rw [c33_11]; rfl) (by decide) ?_
        refine lv_aload_n hx hb dL_law_529 rfl (lv_at hl 1 rfl) ?_
        refine L_arg hx hb hX hbl hbA hw.1.2.2.2.2 hl hL hk6 1 (by decide) (v := 1) (by decide) dL_law_530 dL_law_531 dL_law_532 dL_law_533 dL_law_534 ?_
        refine L_arg hx hb hX hbl hbA hw.1.2.2.2.2 hl hL hk6 2 (by decide) (v := 2) (by decide) dL_law_535 dL_law_536 dL_law_537 dL_law_538 dL_law_539 ?_
        refine L_arg hx hb hX hbl hbA hw.1.2.2.2.2 hl hL hk6 3 (by decide) (v := 3) (by decide) dL_law_540 dL_law_541 dL_law_542 dL_law_543 dL_law_544 ?_
        obtain ⟨r, T, mc, ms, u, hC, hmc, hms, hM, hI⟩ := h_want (xs (6 * k + 1)) (xs (6 * k + 2)) (xs (6 * k + 3)) k S x hk hI
        have hd := hkd _ _ _ hI0
        refine L_i hA hw (va_runV (As := [.int (xs (6 * k + 1)), .int (xs (6 * k + 2)), .int (xs (6 * k + 3))]) (rest := []) ⟨hx, hb, hml, hown, hts⟩ (hC l D cc E hE) (cwV 3 hts gL_law_X11_want rfl rfl rfl (by decide +kernel) ⟨Nat.le_of_ble_eq_true rfl, Nat.le_of_ble_eq_true rfl⟩) ⟨cBlind D cc E S _, C_recv hK1 hw.1 (by omega) (cell_12 hd) (r := (RX11, TX11, 12)) rfl, fun U hU hW => ⟨rfl, C_pre hA hK1 hro hw.1 U hU hW⟩⟩ rfl rfl hl.1 rfl (lv_room (Nat.le_of_ble_eq_true rfl)) dL_law_545 ⟨by show _ ≤ 600000; omega, by show _ ≤ 7302250; omega⟩) (fun H locs hw => ?_)
        refine W.widen (k := K0 + 1100 * (k + 1)) (n := S0 + 14000 * (k + 1)) (by omega) (by omega) ?_
        refine lv_aload_n hx hb dL_law_548 rfl (lv_at hl 2 rfl) ?_
        refine L_arg hx hb hX hbl hbA hw.1.2.2.2.2 hl hL hk6 1 (by decide) (v := 1) (by decide) dL_law_549 dL_law_550 dL_law_551 dL_law_552 dL_law_553 ?_
        refine L_arg hx hb hX hbl hbA hw.1.2.2.2.2 hl hL hk6 2 (by decide) (v := 2) (by decide) dL_law_554 dL_law_555 dL_law_556 dL_law_557 dL_law_558 ?_
        refine L_arg hx hb hX hbl hbA hw.1.2.2.2.2 hl hL hk6 3 (by decide) (v := 3) (by decide) dL_law_559 dL_law_560 dL_law_561 dL_law_562 dL_law_563 ?_
        refine L_mi (av := [.int (xs (6 * k + 1)), .int (xs (6 * k + 2)), .int (xs (6 * k + 3))]) (rest := [.int r]) ⟨hx, hb, hml, hown, hts⟩ hA hK2 hw (hM l D cI cJ ad) (cwV 3 hts gL_law_X12_want rfl rfl rfl (by decide +kernel) ⟨Nat.le_of_ble_eq_true rfl, Nat.le_of_ble_eq_true rfl⟩) rfl hl.1 rfl (Nat.le_of_ble_eq_true rfl) dL_law_564 ⟨by show _ ≤ 600000; omega, by show _ ≤ 7302250; omega⟩ (fun j H locs hj hw => ?_)
        refine lv_icmp_eq (tgt := 1010) hx hb dL_law_567 (by decide) (fun _ => ?_) (fun c => absurd rfl c)
        exact tail hk (setNx T j) u (hnx _ _ _ _ hI hj) H locs hw
      by_cases c33_12 : sw = 12
      · refine lv_tableIn (tgt := 572) hx hb dL_law_33 (by rw [c33_12]; decide) (by rw [c33_12]; decide) (by rw [c33_12]; rfl) (by decide) ?_
        refine lv_aload_n hx hb dL_law_572 rfl (lv_at hl 1 rfl) ?_
        refine L_arg hx hb hX hbl hbA hw.1.2.2.2.2 hl hL hk6 1 (by decide) (v := 1) (by decide) dL_law_573 dL_law_574 dL_law_575 dL_law_576 dL_law_577 ?_
        obtain ⟨r, T, mc, ms, u, hC, hmc, hms, hM, hI⟩ := h_part (xs (6 * k + 1)) k S x hk hI
        have hd := hkd _ _ _ hI0
        refine L_i hA hw (va_runV (As := [.int (xs (6 * k + 1))]) (rest := []) ⟨hx, hb, hml, hown, hts⟩ (hC l D cc E hE) (cwV 1 hts gL_law_X11_part rfl rfl rfl (by decide +kernel) ⟨Nat.le_of_ble_eq_true rfl, Nat.le_of_ble_eq_true rfl⟩) ⟨cBlind D cc E S _, C_recv hK1 hw.1 (by omega) (cell_12 hd) (r := (RX11, TX11, 12)) rfl, fun U hU hW => ⟨rfl, C_pre hA hK1 hro hw.1 U hU hW⟩⟩ rfl rfl hl.1 rfl (lv_room (Nat.le_of_ble_eq_true rfl)) dL_law_578 ⟨by show _ ≤ 600000; omega, by show _ ≤ 7302250; omega⟩) (fun H locs hw => ?_)
        refine W.widen (k := K0 + 1100 * (k + 1)) (n := S0 + 14000 * (k + 1)) (by omega) (by omega) ?_
        refine lv_aload_n hx hb dL_law_581 rfl (lv_at hl 2 rfl) ?_
        refine L_arg hx hb hX hbl hbA hw.1.2.2.2.2 hl hL hk6 1 (by decide) (v := 1) (by decide) dL_law_582 dL_law_583 dL_law_584 dL_law_585 dL_law_586 ?_
        refine L_mi (av := [.int (xs (6 * k + 1))]) (rest := [.int r]) ⟨hx, hb, hml, hown, hts⟩ hA hK2 hw (hM l D cI cJ ad) (cwV 1 hts gL_law_X12_part rfl rfl rfl (by decide +kernel) ⟨Nat.le_of_ble_eq_true rfl, Nat.le_of_ble_eq_true rfl⟩) rfl hl.1 rfl (Nat.le_of_ble_eq_true rfl) dL_law_587 ⟨by show _ ≤ 600000; omega, by show _ ≤ 7302250; omega⟩ (fun j H locs hj hw => ?_)
        refine lv_icmp_eq (tgt := 1010) hx hb dL_law_590 (by decide) (fun _ => ?_) (fun c => absurd rfl c)
        exact tail hk (setNx T j) u (hnx _ _ _ _ hI hj) H locs hw
      by_cases c33_13 : sw = 13
      · refine lv_tableIn (tgt := 595) hx hb dL_law_33 (by rw [c33_13]; decide) (by rw [c33_13]; decide) (by rw [c33_13]; rfl) (by decide) ?_
        refine lv_aload_n hx hb dL_law_595 rfl (lv_at hl 1 rfl) ?_
        refine L_arg hx hb hX hbl hbA hw.1.2.2.2.2 hl hL hk6 1 (by decide) (v := 1) (by decide) dL_law_596 dL_law_597 dL_law_598 dL_law_599 dL_law_600 ?_
        refine L_arg hx hb hX hbl hbA hw.1.2.2.2.2 hl hL hk6 2 (by decide) (v := 2) (by decide) dL_law_601 dL_law_602 dL_law_603 dL_law_604 dL_law_605 ?_
        obtain ⟨r, T, mc, ms, u, hC, hmc, hms, hM, hI⟩ := h_got (xs (6 * k + 1)) (xs (6 * k + 2)) k S x hk hI
        have hd := hkd _ _ _ hI0
        refine L_i hA hw (va_runV (As := [.int (xs (6 * k + 1)), .int (xs (6 * k + 2))]) (rest := []) ⟨hx, hb, hml, hown, hts⟩ (hC l D cc E hE) (cwV 2 hts gL_law_X11_got rfl rfl rfl (by decide +kernel) ⟨Nat.le_of_ble_eq_true rfl, Nat.le_of_ble_eq_true rfl⟩) ⟨cBlind D cc E S _, C_recv hK1 hw.1 (by omega) (cell_12 hd) (r := (RX11, TX11, 12)) rfl, fun U hU hW => ⟨rfl, C_pre hA hK1 hro hw.1 U hU hW⟩⟩ rfl rfl hl.1 rfl (lv_room (Nat.le_of_ble_eq_true rfl)) dL_law_606 ⟨by show _ ≤ 600000; omega, by show _ ≤ 7302250; omega⟩) (fun H locs hw => ?_)
        refine W.widen (k := K0 + 1100 * (k + 1)) (n := S0 + 14000 * (k + 1)) (by omega) (by omega) ?_
        refine lv_aload_n hx hb dL_law_609 rfl (lv_at hl 2 rfl) ?_
        refine L_arg hx hb hX hbl hbA hw.1.2.2.2.2 hl hL hk6 1 (by decide) (v := 1) (by decide) dL_law_610 dL_law_611 dL_law_612 dL_law_613 dL_law_614 ?_
        refine L_arg hx hb hX hbl hbA hw.1.2.2.2.2 hl hL hk6 2 (by decide) (v := 2) (by decide) dL_law_615 dL_law_616 dL_law_617 dL_law_618 dL_law_619 ?_
        refine L_mi (av := [.int (xs (6 * k + 1)), .int (xs (6 * k + 2))]) (rest := [.int r]) ⟨hx, hb, hml, hown, hts⟩ hA hK2 hw (hM l D cI cJ ad) (cwV 2 hts gL_law_X12_got rfl rfl rfl (by decide +kernel) ⟨Nat.le_of_ble_eq_true rfl, Nat.le_of_ble_eq_true rfl⟩) rfl hl.1 rfl (Nat.le_of_ble_eq_true rfl) dL_law_620 ⟨by show _ ≤ 600000; omega, by show _ ≤ 7302250; omega⟩ (fun j H locs hj hw => ?_)
        refine lv_icmp_eq (tgt := 1010) hx hb dL_law_623 (by decide) (fun _ => ?_) (fun c => absurd rfl c)
        exact tail hk (setNx T j) u (hnx _ _ _ _ hI hj) H locs hw
      by_cases c33_14 : sw = 14
      · refine lv_tableIn (tgt := 628) hx hb dL_law_33 (by rw [c33_14]; decide) (by rw [c33_14]; decide) (by rw [c33_14]; rfl) (by decide) ?_
        refine lv_aload_n hx hb dL_law_628 rfl (lv_at hl 1 rfl) ?_
        refine L_arg hx hb hX hbl hbA hw.1.2.2.2.2 hl hL hk6 1 (by decide) (v := 1) (by decide) dL_law_629 dL_law_630 dL_law_631 dL_law_632 dL_law_633 ?_
        refine L_arg hx hb hX hbl hbA hw.1.2.2.2.2 hl hL hk6 2 (by decide) (v := 2) (by decide) dL_law_634 dL_law_635 dL_law_636 dL_law_637 dL_law_638 ?_
        refine L_arg hx hb hX hbl hbA hw.1.2.2.2.2 hl hL hk6 3 (by decide) (v := 3) (by decide) dL_law_639 dL_law_640 dL_law_641 dL_law_642 dL_law_643 ?_
        obtain ⟨r, T, mc, ms, u, hC, hmc, hms, hM, hI⟩ := h_road (xs (6 * k + 1)) (xs (6 * k + 2)) (xs (6 * k + 3)) k S x hk hI
        have hd := hkd _ _ _ hI0
        refine L_i hA hw (va_runV (As := [.int (xs (6 * k + 1)), .int (xs (6 * k + 2)), .int (xs (6 * k + 3))]) (rest := []) ⟨hx, hb, hml, hown, hts⟩ (hC l D cc E hE) (cwV 3 hts gL_law_X11_road rfl rfl rfl (by decide +kernel) ⟨Nat.le_of_ble_eq_true rfl, Nat.le_of_ble_eq_true rfl⟩) ⟨cBlind D cc E S _, C_recv hK1 hw.1 (by omega) (cell_12 hd) (r := (RX11, TX11, 12)) rfl, fun U hU hW => ⟨rfl, C_pre hA hK1 hro hw.1 U hU hW⟩⟩ rfl rfl hl.1 rfl (lv_room (Nat.le_of_ble_eq_true rfl)) dL_law_644 ⟨by show _ ≤ 600000; omega, by show _ ≤ 7302250; omega⟩) (fun H locs hw => ?_)
        refine W.widen (k := K0 + 1100 * (k + 1)) (n := S0 + 14000 * (k + 1)) (by omega) (by omega) ?_
        refine lv_aload_n hx hb dL_law_647 rfl (lv_at hl 2 rfl) ?_
        refine L_arg hx hb hX hbl hbA hw.1.2.2.2.2 hl hL hk6 1 (by decide) (v := 1) (by decide) dL_law_648 dL_law_649 dL_law_650 dL_law_651 dL_law_652 ?_
        refine L_arg hx hb hX hbl hbA hw.1.2.2.2.2 hl hL hk6 2 (by decide) (v := 2) (by decide) dL_law_653 dL_law_654 dL_law_655 dL_law_656 dL_law_657 ?_
        refine L_arg hx hb hX hbl hbA hw.1.2.2.2.2 hl hL hk6 3 (by decide) (v := 3) (by decide) dL_law_658 dL_law_659 dL_law_660 dL_law_661 dL_law_662 ?_
        refine L_mi (av := [.int (xs (6 * k + 1)), .int (xs (6 * k + 2)), .int (xs (6 * k + 3))]) (rest := [.int r]) ⟨hx, hb, hml, hown, hts⟩ hA hK2 hw (hM l D cI cJ ad) (cwV 3 hts gL_law_X12_road rfl rfl rfl (by decide +kernel) ⟨Nat.le_of_ble_eq_true rfl, Nat.le_of_ble_eq_true rfl⟩) rfl hl.1 rfl (Nat.le_of_ble_eq_true rfl) dL_law_663 ⟨by show _ ≤ 600000; omega, by show _ ≤ 7302250; omega⟩ (fun j H locs hj hw => ?_)
        refine lv_icmp_eq (tgt := 1010) hx hb dL_law_666 (by decide) (fun _ => ?_) (fun c => absurd rfl c)
        exact tail hk (setNx T j) u (hnx _ _ _ _ hI hj) H locs hw
      by_cases c33_15 : sw = 15
      · refine lv_tableIn (tgt := 671) hx hb dL_law_33 (by rw [c33_15]; decide) (by rw [c33_15]; decide) (by rw [c33_15]; rfl) (by decide) ?_
        refine lv_aload_n hx hb dL_law_671 rfl (lv_at hl 1 rfl) ?_
        refine L_arg hx hb hX hbl hbA hw.1.2.2.2.2 hl hL hk6 1 (by decide) (v := 1) (by decide) dL_law_672 dL_law_673 dL_law_674 dL_law_675 dL_law_676 ?_
        refine L_arg hx hb hX hbl hbA hw.1.2.2.2.2 hl hL hk6 2 (by decide) (v := 2) (by decide) dL_law_677 dL_law_678 dL_law_679 dL_law_680 dL_law_681 ?_
        obtain ⟨r, T, mc, ms, u, hC, hmc, hms, hM, hI⟩ := h_load (xs (6 * k + 1)) (xs (6 * k + 2)) k S x hk hI
        have hd := hkd _ _ _ hI0
        refine L_i hA hw (va_runV (As := [.int (xs (6 * k + 1)), .int (xs (6 * k + 2))]) (rest := []) ⟨hx, hb, hml, hown, hts⟩ (hC l D cc E hE) (cwV 2 hts gL_law_X11_load rfl rfl rfl (by decide +kernel) ⟨Nat.le_of_ble_eq_true rfl, Nat.le_of_ble_eq_true rfl⟩) ⟨cBlind D cc E S _, C_recv hK1 hw.1 (by omega) (cell_12 hd) (r := (RX11, TX11, 12)) rfl, fun U hU hW => ⟨rfl, C_pre hA hK1 hro hw.1 U hU hW⟩⟩ rfl rfl hl.1 rfl (lv_room (Nat.le_of_ble_eq_true rfl)) dL_law_682 ⟨by show _ ≤ 600000; omega, by show _ ≤ 7302250; omega⟩) (fun H locs hw => ?_)
        refine W.widen (k := K0 + 1100 * (k + 1)) (n := S0 + 14000 * (k + 1)) (by omega) (by omega) ?_
        refine lv_aload_n hx hb dL_law_685 rfl (lv_at hl 2 rfl) ?_
        refine L_arg hx hb hX hbl hbA hw.1.2.2.2.2 hl hL hk6 1 (by decide) (v := 1) (by decide) dL_law_686 dL_law_687 dL_law_688 dL_law_689 dL_law_690 ?_
        refine L_arg hx hb hX hbl hbA hw.1.2.2.2.2 hl hL hk6 2 (by decide) (v := 2) (by decide) dL_law_691 dL_law_692 dL_law_693 dL_law_694 dL_law_695 ?_
        refine L_mi (av := [.int (xs (6 * k + 1)), .int (xs (6 * k + 2))]) (rest := [.int r]) ⟨hx, hb, hml, hown, hts⟩ hA hK2 hw (hM l D cI cJ ad) (cwV 2 hts gL_law_X12_load rfl rfl rfl (by decide +kernel) ⟨Nat.le_of_ble_eq_true rfl, Nat.le_of_ble_eq_true rfl⟩) rfl hl.1 rfl (Nat.le_of_ble_eq_true rfl) dL_law_696 ⟨by show _ ≤ 600000; omega, by show _ ≤ 7302250; omega⟩ (fun j H locs hj hw => ?_)
        refine lv_icmp_eq (tgt := 1010) hx hb dL_law_699 (by decide) (fun _ => ?_) (fun c => absurd rfl c)
        exact tail hk (setNx T j) u (hnx _ _ _ _ hI hj) H locs hw
      by_cases c33_16 : sw = 16
      · refine lv_tableIn (tgt := 704) hx hb dL_law_33 (by rw [c33_16]; decide) (by rw [c33_16]; decide) (by rw [c33_16]; rfl) (by decide) ?_
        refine lv_aload_n hx hb dL_law_704 rfl (lv_at hl 1 rfl) ?_
        refine L_arg hx hb hX hbl hbA hw.1.2.2.2.2 hl hL hk6 1 (by decide) (v := 1) (by decide) dL_law_705 dL_law_706 dL_law_707 dL_law_708 dL_law_709 ?_
        obtain ⟨r, T, mc, ms, u, hC, hmc, hms, hM, hI⟩ := h_rounds (xs (6 * k + 1)) k S x hk hI
        have hd := hkd _ _ _ hI0
        refine L_i hA hw (va_runV (As := [.int (xs (6 * k + 1))]) (rest := []) ⟨hx, hb, hml, hown, hts⟩ (hC l D cc E hE) (cwV 1 hts gL_law_X11_rounds rfl rfl rfl (by decide +kernel) ⟨Nat.le_of_ble_eq_true rfl, Nat.le_of_ble_eq_true rfl⟩) ⟨cBlind D cc E S _, C_recv hK1 hw.1 (by omega) (cell_12 hd) (r := (RX11, TX11, 12)) rfl, fun U hU hW => ⟨rfl, C_pre hA hK1 hro hw.1 U hU hW⟩⟩ rfl rfl hl.1 rfl (lv_room (Nat.le_of_ble_eq_true rfl)) dL_law_710 ⟨by show _ ≤ 600000; omega, by show _ ≤ 7302250; omega⟩) (fun H locs hw => ?_)
        refine W.widen (k := K0 + 1100 * (k + 1)) (n := S0 + 14000 * (k + 1)) (by omega) (by omega) ?_
        refine lv_aload_n hx hb dL_law_713 rfl (lv_at hl 2 rfl) ?_
        refine L_arg hx hb hX hbl hbA hw.1.2.2.2.2 hl hL hk6 1 (by decide) (v := 1) (by decide) dL_law_714 dL_law_715 dL_law_716 dL_law_717 dL_law_718 ?_
        refine L_mi (av := [.int (xs (6 * k + 1))]) (rest := [.int r]) ⟨hx, hb, hml, hown, hts⟩ hA hK2 hw (hM l D cI cJ ad) (cwV 1 hts gL_law_X12_rounds rfl rfl rfl (by decide +kernel) ⟨Nat.le_of_ble_eq_true rfl, Nat.le_of_ble_eq_true rfl⟩) rfl hl.1 rfl (Nat.le_of_ble_eq_true rfl) dL_law_719 ⟨by show _ ≤ 600000; omega, by show _ ≤ 7302250; omega⟩ (fun j H locs hj hw => ?_)
        refine lv_icmp_eq (tgt := 1010) hx hb dL_law_722 (by decide) (fun _ => ?_) (fun c => absurd rfl c)
        exact tail hk (setNx T j) u (hnx _ _ _ _ hI hj) H locs hw
      by_cases c33_17 : sw = 17
      · refine lv_tableIn (tgt := 727) hx hb dL_law_33 (by rw [c33_17]; decide) (by rw [c33_17]; decide) (by rw [c33_17]; rfl) (by decide) ?_
        refine lv_aload_n hx hb dL_law_727 rfl (lv_at hl 1 rfl) ?_
        refine L_arg hx hb hX hbl hbA hw.1.2.2.2.2 hl hL hk6 1 (by decide) (v := 1) (by decide) dL_law_728 dL_law_729 dL_law_730 dL_law_731 dL_law_732 ?_
        obtain ⟨r, T, mc, ms, u, hC, hmc, hms, hM, hI⟩ := h_stop (xs (6 * k + 1)) k S x hk hI
        have hd := hkd _ _ _ hI0
        refine L_i hA hw (va_runV (As := [.int (xs (6 * k + 1))]) (rest := []) ⟨hx, hb, hml, hown, hts⟩ (hC l D cc E hE) (cwV 1 hts gL_law_X11_stop rfl rfl rfl (by decide +kernel) ⟨Nat.le_of_ble_eq_true rfl, Nat.le_of_ble_eq_true rfl⟩) ⟨cBlind D cc E S _, C_recv hK1 hw.1 (by omega) (cell_12 hd) (r := (RX11, TX11, 12)) rfl, fun U hU hW => ⟨rfl, C_pre hA hK1 hro hw.1 U hU hW⟩⟩ rfl rfl hl.1 rfl (lv_room (Nat.le_of_ble_eq_true rfl)) dL_law_733 ⟨by show _ ≤ 600000; omega, by show _ ≤ 7302250; omega⟩) (fun H locs hw => ?_)
        refine W.widen (k := K0 + 1100 * (k + 1)) (n := S0 + 14000 * (k + 1)) (by omega) (by omega) ?_
        refine lv_aload_n hx hb dL_law_736 rfl (lv_at hl 2 rfl) ?_
        refine L_arg hx hb hX hbl hbA hw.1.2.2.2.2 hl hL hk6 1 (by decide) (v := 1) (by decide) dL_law_737 dL_law_738 dL_law_739 dL_law_740 dL_law_741 ?_
        refine L_mi (av := [.int (xs (6 * k + 1))]) (rest := [.int r]) ⟨hx, hb, hml, hown, hts⟩ hA hK2 hw (hM l D cI cJ ad) (cwV 1 hts gL_law_X12_stop rfl rfl rfl (by decide +kernel) ⟨Nat.le_of_ble_eq_true rfl, Nat.le_of_ble_eq_true rfl⟩) rfl hl.1 rfl (Nat.le_of_ble_eq_true rfl) dL_law_742 ⟨by show _ ≤ 600000; omega, by show _ ≤ 7302250; omega⟩ (fun j H locs hj hw => ?_)
        refine lv_icmp_eq (tgt := 1010) hx hb dL_law_745 (by decide) (fun _ => ?_) (fun c => absurd rfl c)
        exact tail hk (setNx T j) u (hnx _ _ _ _ hI hj) H locs hw
      by_cases c33_18 : sw = 18
      · refine lv_tableIn (tgt := 750) hx hb dL_law_33 (by rw [c33_18]; decide) (by rw [c33_18]; decide) (by rw [c33_18]; rfl) (by decide) ?_
        refine lv_aload_n hx hb dL_law_750 rfl (lv_at hl 1 rfl) ?_
        refine L_arg hx hb hX hbl hbA hw.1.2.2.2.2 hl hL hk6 1 (by decide) (v := 1) (by decide) dL_law_751 dL_law_752 dL_law_753 dL_law_754 dL_law_755 ?_
        refine L_arg hx hb hX hbl hbA hw.1.2.2.2.2 hl hL hk6 2 (by decide) (v := 2) (by decide) dL_law_756 dL_law_757 dL_law_758 dL_law_759 dL_law_760 ?_
        refine L_arg hx hb hX hbl hbA hw.1.2.2.2.2 hl hL hk6 3 (by decide) (v := 3) (by decide) dL_law_761 dL_law_762 dL_law_763 dL_law_764 dL_law_765 ?_
        refine L_arg hx hb hX hbl hbA hw.1.2.2.2.2 hl hL hk6 4 (by decide) (v := 4) (by decide) dL_law_766 dL_law_767 dL_law_768 dL_law_769 dL_law_770 ?_
        refine L_arg hx hb hX hbl hbA hw.1.2.2.2.2 hl hL hk6 5 (by decide) (v := 5) (by decide) dL_law_771 dL_law_772 dL_law_773 dL_law_774 dL_law_775 ?_
        obtain ⟨r, T, mc, ms, u, hC, hmc, hms, hM, hI⟩ := h_feed (xs (6 * k + 1)) (xs (6 * k + 2)) (xs (6 * k + 3)) (xs (6 * k + 4)) (xs (6 * k + 5)) k S x hk hI
        have hd := hkd _ _ _ hI0
        refine L_i hA hw (va_runV (As := [.int (xs (6 * k + 1)), .int (xs (6 * k + 2)), .int (xs (6 * k + 3)), .int (xs (6 * k + 4)), .int (xs (6 * k + 5))]) (rest := []) ⟨hx, hb, hml, hown, hts⟩ (hC l D cc E hE) (cwV 5 hts gL_law_X11_feed rfl rfl rfl (by decide +kernel) ⟨Nat.le_of_ble_eq_true rfl, Nat.le_of_ble_eq_true rfl⟩) ⟨cBlind D cc E S _, C_recv hK1 hw.1 (by omega) (cell_12 hd) (r := (RX11, TX11, 12)) rfl, fun U hU hW => ⟨rfl, C_pre hA hK1 hro hw.1 U hU hW⟩⟩ rfl rfl hl.1 rfl (lv_room (Nat.le_of_ble_eq_true rfl)) dL_law_776 ⟨by show _ ≤ 600000; omega, by show _ ≤ 7302250; omega⟩) (fun H locs hw => ?_)
        refine W.widen (k := K0 + 1100 * (k + 1)) (n := S0 + 14000 * (k + 1)) (by omega) (by omega) ?_
        refine lv_aload_n hx hb dL_law_779 rfl (lv_at hl 2 rfl) ?_
        refine L_arg hx hb hX hbl hbA hw.1.2.2.2.2 hl hL hk6 1 (by decide) (v := 1) (by decide) dL_law_780 dL_law_781 dL_law_782 dL_law_783 dL_law_784 ?_
        refine L_arg hx hb hX hbl hbA hw.1.2.2.2.2 hl hL hk6 2 (by decide) (v := 2) (by decide) dL_law_785 dL_law_786 dL_law_787 dL_law_788 dL_law_789 ?_
        refine L_arg hx hb hX hbl hbA hw.1.2.2.2.2 hl hL hk6 3 (by decide) (v := 3) (by decide) dL_law_790 dL_law_791 dL_law_792 dL_law_793 dL_law_794 ?_
        refine L_arg hx hb hX hbl hbA hw.1.2.2.2.2 hl hL hk6 4 (by decide) (v := 4) (by decide) dL_law_795 dL_law_796 dL_law_797 dL_law_798 dL_law_799 ?_
        refine L_arg hx hb hX hbl hbA hw.1.2.2.2.2 hl hL hk6 5 (by decide) (v := 5) (by decide) dL_law_800 dL_law_801 dL_law_802 dL_law_803 dL_law_804 ?_
        refine L_mi (av := [.int (xs (6 * k + 1)), .int (xs (6 * k + 2)), .int (xs (6 * k + 3)), .int (xs (6 * k + 4)), .int (xs (6 * k + 5))]) (rest := [.int r]) ⟨hx, hb, hml, hown, hts⟩ hA hK2 hw (hM l D cI cJ ad) (cwV 5 hts gL_law_X12_feed rfl rfl rfl (by decide +kernel) ⟨Nat.le_of_ble_eq_true rfl, Nat.le_of_ble_eq_true rfl⟩) rfl hl.1 rfl (Nat.le_of_ble_eq_true rfl) dL_law_805 ⟨by show _ ≤ 600000; omega, by show _ ≤ 7302250; omega⟩ (fun j H locs hj hw => ?_)
        refine lv_icmp_eq (tgt := 1010) hx hb dL_law_808 (by decide) (fun _ => ?_) (fun c => absurd rfl c)
        exact tail hk (setNx T j) u (hnx _ _ _ _ hI hj) H locs hw
      by_cases c33_19 : sw = 19
      · refine lv_tableIn (tgt := 813) hx hb dL_law_33 (by rw [c33_19]; decide) (by rw [c33_19]; decide) (by rw [c33_19]; rfl) (by decide) ?_
        refine lv_aload_n hx hb dL_law_813 rfl (lv_at hl 1 rfl) ?_
        refine L_arg hx hb hX hbl hbA hw.1.2.2.2.2 hl hL hk6 1 (by decide) (v := 1) (by decide) dL_law_814 dL_law_815 dL_law_816 dL_law_817 dL_law_818 ?_
        obtain ⟨r, T, mc, ms, u, hC, hmc, hms, hM, hI⟩ := h_end (xs (6 * k + 1)) k S x hk hI
        have hd := hkd _ _ _ hI0
        refine L_i hA hw (va_runV (As := [.int (xs (6 * k + 1))]) (rest := []) ⟨hx, hb, hml, hown, hts⟩ (hC l D cc E hE) (cwV 1 hts gL_law_X11_end rfl rfl rfl (by decide +kernel) ⟨Nat.le_of_ble_eq_true rfl, Nat.le_of_ble_eq_true rfl⟩) ⟨cBlind D cc E S _, C_recv hK1 hw.1 (by omega) (cell_12 hd) (r := (RX11, TX11, 12)) rfl, fun U hU hW => ⟨rfl, C_pre hA hK1 hro hw.1 U hU hW⟩⟩ rfl rfl hl.1 rfl (lv_room (Nat.le_of_ble_eq_true rfl)) dL_law_819 ⟨by show _ ≤ 600000; omega, by show _ ≤ 7302250; omega⟩) (fun H locs hw => ?_)
        refine W.widen (k := K0 + 1100 * (k + 1)) (n := S0 + 14000 * (k + 1)) (by omega) (by omega) ?_
        refine lv_aload_n hx hb dL_law_822 rfl (lv_at hl 2 rfl) ?_
        refine L_arg hx hb hX hbl hbA hw.1.2.2.2.2 hl hL hk6 1 (by decide) (v := 1) (by decide) dL_law_823 dL_law_824 dL_law_825 dL_law_826 dL_law_827 ?_
        refine L_mi (av := [.int (xs (6 * k + 1))]) (rest := [.int r]) ⟨hx, hb, hml, hown, hts⟩ hA hK2 hw (hM l D cI cJ ad) (cwV 1 hts gL_law_X12_end rfl rfl rfl (by decide +kernel) ⟨Nat.le_of_ble_eq_true rfl, Nat.le_of_ble_eq_true rfl⟩) rfl hl.1 rfl (Nat.le_of_ble_eq_true rfl) dL_law_828 ⟨by show _ ≤ 600000; omega, by show _ ≤ 7302250; omega⟩ (fun j H locs hj hw => ?_)
        refine lv_icmp_eq (tgt := 1010) hx hb dL_law_831 (by decide) (fun _ => ?_) (fun c => absurd rfl c)
        exact tail hk (setNx T j) u (hnx _ _ _ _ hI hj) H locs hw
      by_cases c33_20 : sw = 20
      · refine lv_tableIn (tgt := 836) hx hb dL_law_33 (by rw [c33_20]; decide) (by rw [c33_20]; decide) (by rw [c33_20]; rfl) (by decide) ?_
        refine lv_aload_n hx hb dL_law_836 rfl (lv_at hl 1 rfl) ?_
        obtain ⟨r, T, mc, ms, u, hC, hmc, hms, hM, hI⟩ := h_rules  k S x hk hI
        have hd := hkd _ _ _ hI0
        refine L_i hA hw (va_runV (As := []) (rest := []) ⟨hx, hb, hml, hown, hts⟩ (hC l D cc E hE) (cwV 0 hts gL_law_X11_rules rfl rfl rfl (by decide +kernel) ⟨Nat.le_of_ble_eq_true rfl, Nat.le_of_ble_eq_true rfl⟩) ⟨cBlind D cc E S _, C_recv hK1 hw.1 (by omega) (cell_12 hd) (r := (RX11, TX11, 12)) rfl, fun U hU hW => ⟨rfl, C_pre hA hK1 hro hw.1 U hU hW⟩⟩ rfl rfl hl.1 rfl (lv_room (Nat.le_of_ble_eq_true rfl)) dL_law_837 ⟨by show _ ≤ 600000; omega, by show _ ≤ 7302250; omega⟩) (fun H locs hw => ?_)
        refine W.widen (k := K0 + 1100 * (k + 1)) (n := S0 + 14000 * (k + 1)) (by omega) (by omega) ?_
        refine lv_aload_n hx hb dL_law_840 rfl (lv_at hl 2 rfl) ?_
        refine L_mi (av := []) (rest := [.int r]) ⟨hx, hb, hml, hown, hts⟩ hA hK2 hw (hM l D cI cJ ad) (cwV 0 hts gL_law_X12_rules rfl rfl rfl (by decide +kernel) ⟨Nat.le_of_ble_eq_true rfl, Nat.le_of_ble_eq_true rfl⟩) rfl hl.1 rfl (Nat.le_of_ble_eq_true rfl) dL_law_841 ⟨by show _ ≤ 600000; omega, by show _ ≤ 7302250; omega⟩ (fun j H locs hj hw => ?_)
        refine lv_icmp_eq (tgt := 1010) hx hb dL_law_844 (by decide) (fun _ => ?_) (fun c => absurd rfl c)
        exact tail hk (setNx T j) u (hnx _ _ _ _ hI hj) H locs hw
      by_cases c33_21 : sw = 21
      · refine lv_tableIn (tgt := 849) hx hb dL_law_33 (by rw [c33_21]; decide) (by rw [c33_21]; decide) (by rw [c33_21]; rfl) (by decide) ?_
        refine lv_aload_n hx hb dL_law_849 rfl (lv_at hl 1 rfl) ?_
        obtain ⟨r, T, mc, ms, u, hC, hmc, hms, hM, hI⟩ := h_fault  k S x hk hI
        have hd := hkd _ _ _ hI0
        refine L_i hA hw (va_runV (As := []) (rest := []) ⟨hx, hb, hml, hown, hts⟩ (hC l D cc E hE) (cwV 0 hts gL_law_X11_fault rfl rfl rfl (by decide +kernel) ⟨Nat.le_of_ble_eq_true rfl, Nat.le_of_ble_eq_true rfl⟩) ⟨cBlind D cc E S _, C_recv hK1 hw.1 (by omega) (cell_12 hd) (r := (RX11, TX11, 12)) rfl, fun U hU hW => ⟨rfl, C_pre hA hK1 hro hw.1 U hU hW⟩⟩ rfl rfl hl.1 rfl (lv_room (Nat.le_of_ble_eq_true rfl)) dL_law_850 ⟨by show _ ≤ 600000; omega, by show _ ≤ 7302250; omega⟩) (fun H locs hw => ?_)
        refine W.widen (k := K0 + 1100 * (k + 1)) (n := S0 + 14000 * (k + 1)) (by omega) (by omega) ?_
        refine lv_aload_n hx hb dL_law_853 rfl (lv_at hl 2 rfl) ?_
        refine L_mi (av := []) (rest := [.int r]) ⟨hx, hb, hml, hown, hts⟩ hA hK2 hw (hM l D cI cJ ad) (cwV 0 hts gL_law_X12_fault rfl rfl rfl (by decide +kernel) ⟨Nat.le_of_ble_eq_true rfl, Nat.le_of_ble_eq_true rfl⟩) rfl hl.1 rfl (Nat.le_of_ble_eq_true rfl) dL_law_854 ⟨by show _ ≤ 600000; omega, by show _ ≤ 7302250; omega⟩ (fun j H locs hj hw => ?_)
        refine lv_icmp_eq (tgt := 1010) hx hb dL_law_857 (by decide) (fun _ => ?_) (fun c => absurd rfl c)
        exact tail hk (setNx T j) u (hnx _ _ _ _ hI hj) H locs hw
      by_cases c33_22 : sw = 22
      · refine lv_tableIn (tgt := 862) hx hb dL_law_33 (by rw [c33_22]; decide) (by rw [c33_22]; decide) (by rw [c33_22]; rfl) (by decide) ?_
        refine lv_aload_n hx hb dL_law_862 rfl (lv_at hl 1 rfl) ?_
        refine L_arg hx hb hX hbl hbA hw.1.2.2.2.2 hl hL hk6 1 (by decide) (v := 1) (by decide) dL_law_863 dL_law_864 dL_law_865 dL_law_866 dL_law_867 ?_
        refine L_arg hx hb hX hbl hbA hw.1.2.2.2.2 hl hL hk6 2 (by decide) (v := 2) (by decide) dL_law_868 dL_law_869 dL_law_870 dL_law_871 dL_law_872 ?_
        refine L_arg hx hb hX hbl hbA hw.1.2.2.2.2 hl hL hk6 3 (by decide) (v := 3) (by decide) dL_law_873 dL_law_874 dL_law_875 dL_law_876 dL_law_877 ?_
        obtain ⟨r, T, mc, ms, u, hC, hmc, hms, hM, hI⟩ := h_weigh (xs (6 * k + 1)) (xs (6 * k + 2)) (xs (6 * k + 3)) k S x hk hI
        have hd := hkd _ _ _ hI0
        refine L_i hA hw (va_runV (As := [.int (xs (6 * k + 1)), .int (xs (6 * k + 2)), .int (xs (6 * k + 3))]) (rest := []) ⟨hx, hb, hml, hown, hts⟩ (hC l D cc E hE) (cwV 3 hts gL_law_X11_weigh rfl rfl rfl (by decide +kernel) ⟨Nat.le_of_ble_eq_true rfl, Nat.le_of_ble_eq_true rfl⟩) ⟨cBlind D cc E S _, C_recv hK1 hw.1 (by omega) (cell_12 hd) (r := (RX11, TX11, 12)) rfl, fun U hU hW => ⟨rfl, C_pre hA hK1 hro hw.1 U hU hW⟩⟩ rfl rfl hl.1 rfl (lv_room (Nat.le_of_ble_eq_true rfl)) dL_law_878 ⟨by show _ ≤ 600000; omega, by show _ ≤ 7302250; omega⟩) (fun H locs hw => ?_)
        refine W.widen (k := K0 + 1100 * (k + 1)) (n := S0 + 14000 * (k + 1)) (by omega) (by omega) ?_
        refine lv_aload_n hx hb dL_law_881 rfl (lv_at hl 2 rfl) ?_
        refine L_arg hx hb hX hbl hbA hw.1.2.2.2.2 hl hL hk6 1 (by decide) (v := 1) (by decide) dL_law_882 dL_law_883 dL_law_884 dL_law_885 dL_law_886 ?_
        refine L_arg hx hb hX hbl hbA hw.1.2.2.2.2 hl hL hk6 2 (by decide) (v := 2) (by decide) dL_law_887 dL_law_888 dL_law_889 dL_law_890 dL_law_891 ?_
        refine L_arg hx hb hX hbl hbA hw.1.2.2.2.2 hl hL hk6 3 (by decide) (v := 3) (by decide) dL_law_892 dL_law_893 dL_law_894 dL_law_895 dL_law_896 ?_
        refine L_mi (av := [.int (xs (6 * k + 1)), .int (xs (6 * k + 2)), .int (xs (6 * k + 3))]) (rest := [.int r]) ⟨hx, hb, hml, hown, hts⟩ hA hK2 hw (hM l D cI cJ ad) (cwV 3 hts gL_law_X12_weigh rfl rfl rfl (by decide +kernel) ⟨Nat.le_of_ble_eq_true rfl, Nat.le_of_ble_eq_true rfl⟩) rfl hl.1 rfl (Nat.le_of_ble_eq_true rfl) dL_law_897 ⟨by show _ ≤ 600000; omega, by show _ ≤ 7302250; omega⟩ (fun j H locs hj hw => ?_)
        refine lv_icmp_eq (tgt := 1010) hx hb dL_law_900 (by decide) (fun _ => ?_) (fun c => absurd rfl c)
        exact tail hk (setNx T j) u (hnx _ _ _ _ hI hj) H locs hw
      by_cases c33_23 : sw = 23
      · refine lv_tableIn (tgt := 905) hx hb dL_law_33 (by rw [c33_23]; decide) (by rw [c33_23]; decide) (by rw [c33_23]; rfl) (by decide) ?_
        refine lv_aload_n hx hb dL_law_905 rfl (lv_at hl 1 rfl) ?_
        refine L_arg hx hb hX hbl hbA hw.1.2.2.2.2 hl hL hk6 1 (by decide) (v := 1) (by decide) dL_law_906 dL_law_907 dL_law_908 dL_law_909 dL_law_910 ?_
        refine L_arg hx hb hX hbl hbA hw.1.2.2.2.2 hl hL hk6 2 (by decide) (v := 2) (by decide) dL_law_911 dL_law_912 dL_law_913 dL_law_914 dL_law_915 ?_
        obtain ⟨r, T, mc, ms, u, hC, hmc, hms, hM, hI⟩ := h_given (xs (6 * k + 1)) (xs (6 * k + 2)) k S x hk hI
        have hd := hkd _ _ _ hI0
        refine L_l hA hw (va_runV (As := [.int (xs (6 * k + 1)), .int (xs (6 * k + 2))]) (rest := []) ⟨hx, hb, hml, hown, hts⟩ (hC l D cc E hE) (cwV 2 hts gL_law_X11_given rfl rfl rfl (by decide +kernel) ⟨Nat.le_of_ble_eq_true rfl, Nat.le_of_ble_eq_true rfl⟩) ⟨cBlind D cc E S _, C_recv hK1 hw.1 (by omega) (cell_12 hd) (r := (RX11, TX11, 12)) rfl, fun U hU hW => ⟨rfl, C_pre hA hK1 hro hw.1 U hU hW⟩⟩ rfl rfl hl.1 rfl (lv_room (Nat.le_of_ble_eq_true rfl)) dL_law_916 ⟨by show _ ≤ 600000; omega, by show _ ≤ 7302250; omega⟩) (fun H locs hw => ?_)
        refine W.widen (k := K0 + 1100 * (k + 1)) (n := S0 + 14000 * (k + 1)) (by omega) (by omega) ?_
        refine lv_aload_n hx hb dL_law_919 rfl (lv_at hl 2 rfl) ?_
        refine L_arg hx hb hX hbl hbA hw.1.2.2.2.2 hl hL hk6 1 (by decide) (v := 1) (by decide) dL_law_920 dL_law_921 dL_law_922 dL_law_923 dL_law_924 ?_
        refine L_arg hx hb hX hbl hbA hw.1.2.2.2.2 hl hL hk6 2 (by decide) (v := 2) (by decide) dL_law_925 dL_law_926 dL_law_927 dL_law_928 dL_law_929 ?_
        refine L_ml (av := [.int (xs (6 * k + 1)), .int (xs (6 * k + 2))]) (rest := [.long r]) ⟨hx, hb, hml, hown, hts⟩ hA hK2 hw (hM l D cI cJ ad) (cwV 2 hts gL_law_X12_given rfl rfl rfl (by decide +kernel) ⟨Nat.le_of_ble_eq_true rfl, Nat.le_of_ble_eq_true rfl⟩) rfl hl.1 rfl (Nat.le_of_ble_eq_true rfl) dL_law_930 ⟨by show _ ≤ 600000; omega, by show _ ≤ 7302250; omega⟩ (fun j H locs hj hw => ?_)
        refine W.lcmp hx hb dL_law_933 ?_
        refine lv_if_eq (tgt := 1010) hx hb dL_law_934 (by decide) (fun _ => ?_) (fun c => absurd (lg_cmp_eq0 r) c)
        exact tail hk (setNx T j) u (hnx _ _ _ _ hI hj) H locs hw
      by_cases c33_24 : sw = 24
      · refine lv_tableIn (tgt := 939) hx hb dL_law_33 (by rw [c33_24]; decide) (by rw [c33_24]; decide) (by rw [c33_24]; rfl) (by decide) ?_
        refine lv_aload_n hx hb dL_law_939 rfl (lv_at hl 1 rfl) ?_
        refine L_arg hx hb hX hbl hbA hw.1.2.2.2.2 hl hL hk6 1 (by decide) (v := 1) (by decide) dL_law_940 dL_law_941 dL_law_942 dL_law_943 dL_law_944 ?_
        refine L_arg hx hb hX hbl hbA hw.1.2.2.2.2 hl hL hk6 2 (by decide) (v := 2) (by decide) dL_law_945 dL_law_946 dL_law_947 dL_law_948 dL_law_949 ?_
        obtain ⟨r, T, mc, ms, u, hC, hmc, hms, hM, hI⟩ := h_led (xs (6 * k + 1)) (xs (6 * k + 2)) k S x hk hI
        have hd := hkd _ _ _ hI0
        refine L_l hA hw (va_runV (As := [.int (xs (6 * k + 1)), .int (xs (6 * k + 2))]) (rest := []) ⟨hx, hb, hml, hown, hts⟩ (hC l D cc E hE) (cwV 2 hts gL_law_X11_led rfl rfl rfl (by decide +kernel) ⟨Nat.le_of_ble_eq_true rfl, Nat.le_of_ble_eq_true rfl⟩) ⟨cBlind D cc E S _, C_recv hK1 hw.1 (by omega) (cell_12 hd) (r := (RX11, TX11, 12)) rfl, fun U hU hW => ⟨rfl, C_pre hA hK1 hro hw.1 U hU hW⟩⟩ rfl rfl hl.1 rfl (lv_room (Nat.le_of_ble_eq_true rfl)) dL_law_950 ⟨by show _ ≤ 600000; omega, by show _ ≤ 7302250; omega⟩) (fun H locs hw => ?_)
        refine W.widen (k := K0 + 1100 * (k + 1)) (n := S0 + 14000 * (k + 1)) (by omega) (by omega) ?_
        refine lv_aload_n hx hb dL_law_953 rfl (lv_at hl 2 rfl) ?_
        refine L_arg hx hb hX hbl hbA hw.1.2.2.2.2 hl hL hk6 1 (by decide) (v := 1) (by decide) dL_law_954 dL_law_955 dL_law_956 dL_law_957 dL_law_958 ?_
        refine L_arg hx hb hX hbl hbA hw.1.2.2.2.2 hl hL hk6 2 (by decide) (v := 2) (by decide) dL_law_959 dL_law_960 dL_law_961 dL_law_962 dL_law_963 ?_
        refine L_ml (av := [.int (xs (6 * k + 1)), .int (xs (6 * k + 2))]) (rest := [.long r]) ⟨hx, hb, hml, hown, hts⟩ hA hK2 hw (hM l D cI cJ ad) (cwV 2 hts gL_law_X12_led rfl rfl rfl (by decide +kernel) ⟨Nat.le_of_ble_eq_true rfl, Nat.le_of_ble_eq_true rfl⟩) rfl hl.1 rfl (Nat.le_of_ble_eq_true rfl) dL_law_964 ⟨by show _ ≤ 600000; omega, by show _ ≤ 7302250; omega⟩ (fun j H locs hj hw => ?_)
        refine W.lcmp hx hb dL_law_967 ?_
        refine lv_if_eq (tgt := 1010) hx hb dL_law_968 (by decide) (fun _ => ?_) (fun c => absurd (lg_cmp_eq0 r) c)
        exact tail hk (setNx T j) u (hnx _ _ _ _ hI hj) H locs hw
      by_cases c33_25 : sw = 25
      · refine lv_tableIn (tgt := 973) hx hb dL_law_33 (by rw [c33_25]; decide) (by rw [c33_25]; decide) (by rw [c33_25]; rfl) (by decide) ?_
        refine lv_aload_n hx hb dL_law_973 rfl (lv_at hl 1 rfl) ?_
        refine L_arg hx hb hX hbl hbA hw.1.2.2.2.2 hl hL hk6 1 (by decide) (v := 1) (by decide) dL_law_974 dL_law_975 dL_law_976 dL_law_977 dL_law_978 ?_
        obtain ⟨r, T, mc, ms, u, hC, hmc, hms, hM, hI⟩ := h_count (xs (6 * k + 1)) k S x hk hI
        have hd := hkd _ _ _ hI0
        refine L_l hA hw (va_runV (As := [.int (xs (6 * k + 1))]) (rest := []) ⟨hx, hb, hml, hown, hts⟩ (hC l D cc E hE) (cwV 1 hts gL_law_X11_count rfl rfl rfl (by decide +kernel) ⟨Nat.le_of_ble_eq_true rfl, Nat.le_of_ble_eq_true rfl⟩) ⟨cBlind D cc E S _, C_recv hK1 hw.1 (by omega) (cell_12 hd) (r := (RX11, TX11, 12)) rfl, fun U hU hW => ⟨rfl, C_pre hA hK1 hro hw.1 U hU hW⟩⟩ rfl rfl hl.1 rfl (lv_room (Nat.le_of_ble_eq_true rfl)) dL_law_979 ⟨by show _ ≤ 600000; omega, by show _ ≤ 7302250; omega⟩) (fun H locs hw => ?_)
        refine W.widen (k := K0 + 1100 * (k + 1)) (n := S0 + 14000 * (k + 1)) (by omega) (by omega) ?_
        refine lv_aload_n hx hb dL_law_982 rfl (lv_at hl 2 rfl) ?_
        refine L_arg hx hb hX hbl hbA hw.1.2.2.2.2 hl hL hk6 1 (by decide) (v := 1) (by decide) dL_law_983 dL_law_984 dL_law_985 dL_law_986 dL_law_987 ?_
        refine L_ml (av := [.int (xs (6 * k + 1))]) (rest := [.long r]) ⟨hx, hb, hml, hown, hts⟩ hA hK2 hw (hM l D cI cJ ad) (cwV 1 hts gL_law_X12_count rfl rfl rfl (by decide +kernel) ⟨Nat.le_of_ble_eq_true rfl, Nat.le_of_ble_eq_true rfl⟩) rfl hl.1 rfl (Nat.le_of_ble_eq_true rfl) dL_law_988 ⟨by show _ ≤ 600000; omega, by show _ ≤ 7302250; omega⟩ (fun j H locs hj hw => ?_)
        refine W.lcmp hx hb dL_law_991 ?_
        refine lv_if_eq (tgt := 1010) hx hb dL_law_992 (by decide) (fun _ => ?_) (fun c => absurd (lg_cmp_eq0 r) c)
        exact tail hk (setNx T j) u (hnx _ _ _ _ hI hj) H locs hw
      by_cases c33_26 : sw = 26
      · refine lv_tableIn (tgt := 997) hx hb dL_law_33 (by rw [c33_26]; decide) (by rw [c33_26]; decide) (by rw [c33_26]; rfl) (by decide) ?_
        refine lv_aload_n hx hb dL_law_997 rfl (lv_at hl 1 rfl) ?_
        obtain ⟨r, T, mc, ms, u, hC, hmc, hms, hM, hI⟩ := h_status  k S x hk hI
        have hd := hkd _ _ _ hI0
        refine L_i hA hw (va_runV (As := []) (rest := []) ⟨hx, hb, hml, hown, hts⟩ (hC l D cc E hE) (cwV 0 hts gL_law_X11_status rfl rfl rfl (by decide +kernel) ⟨Nat.le_of_ble_eq_true rfl, Nat.le_of_ble_eq_true rfl⟩) ⟨cBlind D cc E S _, C_recv hK1 hw.1 (by omega) (cell_12 hd) (r := (RX11, TX11, 12)) rfl, fun U hU hW => ⟨rfl, C_pre hA hK1 hro hw.1 U hU hW⟩⟩ rfl rfl hl.1 rfl (lv_room (Nat.le_of_ble_eq_true rfl)) dL_law_998 ⟨by show _ ≤ 600000; omega, by show _ ≤ 7302250; omega⟩) (fun H locs hw => ?_)
        refine W.widen (k := K0 + 1100 * (k + 1)) (n := S0 + 14000 * (k + 1)) (by omega) (by omega) ?_
        refine lv_aload_n hx hb dL_law_1001 rfl (lv_at hl 2 rfl) ?_
        refine L_mi (av := []) (rest := [.int r]) ⟨hx, hb, hml, hown, hts⟩ hA hK2 hw (hM l D cI cJ ad) (cwV 0 hts gL_law_X12_status rfl rfl rfl (by decide +kernel) ⟨Nat.le_of_ble_eq_true rfl, Nat.le_of_ble_eq_true rfl⟩) rfl hl.1 rfl (Nat.le_of_ble_eq_true rfl) dL_law_1002 ⟨by show _ ≤ 600000; omega, by show _ ≤ 7302250; omega⟩ (fun j H locs hj hw => ?_)
        refine lv_icmp_eq (tgt := 1010) hx hb dL_law_1005 (by decide) (fun _ => ?_) (fun c => absurd rfl c)
        exact tail hk (setNx T j) u (hnx _ _ _ _ hI hj) H locs hw
      refine lv_tableOut (tgt := 1010) hx hb dL_law_33 ?_ (by decide) ?_
      · refine sw_out (0) (26) sw (by decide) (fun k h1 h2 => ?_)
        have h3 : k = 0 ∨ k = 1 ∨ k = 2 ∨ k = 3 ∨ k = 4 ∨ k = 5 ∨ k = 6 ∨ k = 7 ∨ k = 8 ∨ k = 9 ∨ k = 10 ∨ k = 11 ∨ k = 12 ∨ k = 13 ∨ k = 14 ∨ k = 15 ∨ k = 16 ∨ k = 17 ∨ k = 18 ∨ k = 19 ∨ k = 20 ∨ k = 21 ∨ k = 22 ∨ k = 23 ∨ k = 24 ∨ k = 25 ∨ k = 26 := by omega
        rcases h3 with rfl | rfl | rfl | rfl | rfl | rfl | rfl | rfl | rfl | rfl | rfl | rfl | rfl | rfl | rfl | rfl | rfl | rfl | rfl | rfl | rfl | rfl | rfl | rfl | rfl | rfl | rfl <;> first | exact c33_0 | exact c33_1 | exact c33_2 | exact c33_3 | exact c33_4 | exact c33_5 | exact c33_6 | exact c33_7 | exact c33_8 | exact c33_9 | exact c33_10 | exact c33_11 | exact c33_12 | exact c33_13 | exact c33_14 | exact c33_15 | exact c33_16 | exact c33_17 | exact c33_18 | exact c33_19 | exact c33_20 | exact c33_21 | exact c33_22 | exact c33_23 | exact c33_24 | exact c33_25 | exact c33_26
      · refine W.widen (k := K0 + 1100 * (k + 1)) (n := S0 + 14000 * (k + 1)) (by omega) (by omega) ?_
        exact tail hk S x (hmono _ _ _ hI) H locs hw
