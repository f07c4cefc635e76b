/-! what the law wants of each call -/
def InvR (n : Nat × Nat) (a0 : Nat) (k : Nat) (S : CS) (x : MS) : Prop := ∃ M : Nat → Nat → Nat, M 0 0 = a0 ∧ Rep n.2 k M x S
theorem Mi_sw {l : Launch} {y : MethodName} {ws : List Cond} {rm : Room} {D : va_G} {cI cJ : ClassId} {ad : Nat → Nat} {av : List Value} {x : MS} {F : Int32} (h : Mi l y ws rm D cI cJ ad av x (fun r y => y = x ∧ r = F)) : Mi l y ws rm D cI cJ ad av x (fun r y => r = F ∧ y = x) := by
  have e : (fun (r : Int32) (y : MS) => y = x ∧ r = F) = fun r y => r = F ∧ y = x := by
    funext r y
    exact propext And.comm
  rw [← e]
  exact h
theorem Ml_sw {l : Launch} {y : MethodName} {ws : List Cond} {rm : Room} {D : va_G} {cI cJ : ClassId} {ad : Nat → Nat} {av : List Value} {x : MS} {F : Int64} (h : Ml l y ws rm D cI cJ ad av x (fun r y => y = x ∧ r = F)) : Ml l y ws rm D cI cJ ad av x (fun r y => r = F ∧ y = x) := by
  have e : (fun (r : Int64) (y : MS) => y = x ∧ r = F) = fun r y => r = F ∧ y = x := by
    funext r y
    exact propext And.comm
  rw [← e]
  exact h
theorem ok_w {x : MS} {f a b : Nat} (h : okN x f a) (hb : a ≤ b) : okN x f b := ⟨h.1, Nat.le_trans h.2 hb⟩
theorem stop_ok {ae k : Nat} {M : Nat → Nat → Nat} {x : MS} {S : CS} (h : Rep ae k M x S) : mI x 56 < 0 ∨ okN x 56 16 := by
  rcases (g_rSto h).2.2.2 with q | q
  · exact Or.inl (by rw [q]; decide)
  · exact Or.inr (ok_w q.1 (by decide))
theorem okP_of {ae k : Nat} {M : Nat → Nat → Nat} {x : MS} {S : CS} (h : Rep ae k M x S) (hk : k < 512) : okP x := by
  have hO := g_rOk h
  have h11 := hO.2.2.2.2.2.2.2.2.2.2.2.2.1
  refine ⟨hO.2.1, hO.2.2.2.1, hO.2.2.2.2.1, hO.2.2.2.2.2.1, ok_w hO.2.2.2.2.2.2.2.2.1.1 (by decide), ⟨Kp_refl x, hO.2.2.2.2.2.2.2.2.2.2.2.1, by omega, (g_rLim h).1⟩, fun r hr e => ?_⟩
  exact isB_in (((g_rLim h).2.2.2.1 r hr).2.2.1 e) (by decide)
/-- the heap has grown beside the class's own cells -/
theorem rep_nx {ae k : Nat} {M : Nat → Nat → Nat} {x : MS} {S : CS} (h : Rep ae k M x S) {j : Nat} (hj : nx S ≤ j) : Rep ae k M x (setNx S j) := by
  have hk : keep S (setNx S j) [] [] [] [] := ⟨⟨⟨hj, fun _ _ => rfl⟩, fun _ _ => ⟨rfl, rfl⟩⟩, fun _ _ _ _ => rfl, fun _ _ _ _ => rfl, fun _ _ _ _ => rfl, fun _ _ _ _ => rfl⟩
  obtain ⟨hB, hOk, hLim, hNew, hSum, hWho, hFix, hNum, hSta, hCon, hLotL, hLot, hCha, hWei, hTabL, hTab, hWan, hGot, hLoa, hFamL, hFam, hHad, hRef, hParL, hPar, hTap, hRul, hVan, hRoa, hSto⟩ := h
  exact ⟨⟨fun q hq => hB.1 q (Nat.le_trans hj hq), hB.2.1, Nat.lt_of_lt_of_le hB.2.2 hj⟩,
    k_rOk rfl rfl rfl rfl rfl rfl rfl rfl rfl rfl rfl rfl rfl rfl hOk,
    k_rLim rfl rfl rfl rfl rfl rfl rfl rfl rfl rfl rfl rfl rfl rfl rfl rfl hLim,
    k_rNew rfl rfl rfl rfl rfl hNew,
    k_rSum rfl rfl rfl rfl rfl rfl rfl hSum,
    k_rWho rfl rfl rfl rfl rfl rfl rfl rfl rfl rfl rfl hWho,
    k_rFix hk rfl hFix,
    k_rNum hk rfl rfl rfl rfl hNum,
    k_rSta hk rfl rfl hSta,
    k_rCon hk rfl rfl hCon,
    k_rLotL hk rfl rfl rfl rfl hLotL,
    k_rLot hk rfl rfl rfl rfl rfl rfl rfl rfl rfl rfl hLot,
    k_rCha hk rfl rfl rfl rfl rfl hCha,
    k_rWei hk rfl rfl rfl rfl rfl rfl rfl hWei,
    k_rTabL hk rfl rfl rfl rfl hTabL,
    k_rTab hk rfl rfl hTab,
    k_rWan hk rfl rfl rfl hWan,
    k_rGot hk rfl rfl rfl hGot,
    k_rLoa hk rfl rfl rfl rfl hLoa,
    k_rFamL hk rfl rfl rfl rfl hFamL,
    k_rFam hk rfl rfl rfl rfl rfl hFam,
    k_rHad hk rfl rfl rfl rfl rfl rfl rfl rfl hHad,
    k_rRef hk rfl rfl rfl rfl rfl rfl rfl rfl hRef,
    k_rParL hk rfl rfl rfl rfl hParL,
    k_rPar hk rfl rfl rfl rfl rfl rfl rfl rfl rfl rfl rfl hPar,
    k_rTap hk rfl rfl rfl rfl rfl hTap,
    k_rRul hk rfl rfl rfl rfl rfl rfl rfl rfl hRul,
    k_rVan hk rfl hVan,
    k_rRoa hk rfl rfl rfl hRoa,
    k_rSto hk rfl rfl rfl rfl hSto⟩
theorem sp_contents (n : Nat × Nat) (hn : 30000 ≤ n.1) (a0 : Nat) (v1 v2 : Int32) : SPi (InvR n a0) n a0 yX11_contents wsX11_contents 2 42 yX12_contents wsX12_contents ({ frames := 2, cells := 0, slots := 0, locals := 45 }) [.int v1, .int v2] := by
  rintro k S x hk ⟨M, rfl, h⟩
  have hO := g_rOk h
  obtain ⟨T, e, hR⟩ := st_contents n h v1 v2
  exact ⟨_, T, 0, 0, _, fun l D cc E hE => cX11_contents_ok l D cc E n S (M 0 0) v1 v2 e, by omega, by omega, fun l D cI cJ ad => c_contents l D cI cJ ad x v1 v2 hO.1, M, rfl, hR⟩
theorem sp_gift (n : Nat × Nat) (hn : 30000 ≤ n.1) (a0 : Nat) (v1 v2 v3 v4 : Int32) : SPi (InvR n a0) n a0 yX11_gift wsX11_gift 8 214 yX12_gift wsX12_gift ({ frames := 2, cells := 0, slots := 0, locals := 45 }) [.int v1, .int v2, .int v3, .int v4] := by
  rintro k S x hk ⟨M, rfl, h⟩
  have hO := g_rOk h
  obtain ⟨M', T, mc, ms, e, b1, b2, b0, hR⟩ := st_gift n hn rfl h v1 v2 v3 v4
  exact ⟨_, T, mc, ms, _, fun l D cc E hE => cX11_gift_ok l D cc E n hE S (M 0 0) v1 v2 v3 v4 e, b1, b2, fun l D cI cJ ad => c_gift l D cI cJ ad x v1 v2 v3 v4 hO.1 hO.2.1, M', b0, hR⟩
theorem sp_lot (n : Nat × Nat) (hn : 30000 ≤ n.1) (a0 : Nat) (v1 v2 : Int32) : SPi (InvR n a0) n a0 yX11_lot wsX11_lot 4 85 yX12_lot wsX12_lot ({ frames := 2, cells := 0, slots := 0, locals := 46 }) [.int v1, .int v2] := by
  rintro k S x hk ⟨M, rfl, h⟩
  have hO := g_rOk h
  have e := st_lot n h v1 v2
  exact ⟨_, S, 0, 0, x, fun l D cc E hE => cX11_lot_ok l D cc E n S (M 0 0) v1 v2 e, by omega, by omega, fun l D cI cJ ad => Mi_sw (c_lot l D cI cJ ad x v1 v2 hO.1 hO.2.1), M, rfl, rep_mono h⟩
theorem sp_table (n : Nat × Nat) (hn : 30000 ≤ n.1) (a0 : Nat) : SPi (InvR n a0) n a0 yX11_table wsX11_table 7 191 yX12_table wsX12_table ({ frames := 1, cells := 0, slots := 0, locals := 21 }) [] := by
  rintro k S x hk ⟨M, rfl, h⟩
  have hO := g_rOk h
  obtain ⟨M', T, mc, ms, e, b1, b2, b0, hR⟩ := st_table n rfl h 
  exact ⟨_, T, mc, ms, _, fun l D cc E hE => cX11_table_ok l D cc E n hE S (M 0 0)  e, b1, b2, fun l D cI cJ ad => c_table l D cI cJ ad x  hO.1 hO.2.2.1, M', b0, hR⟩
theorem sp_family (n : Nat × Nat) (hn : 30000 ≤ n.1) (a0 : Nat) (v1 v2 v3 : Int32) : SPi (InvR n a0) n a0 yX11_family wsX11_family 7 191 yX12_family wsX12_family ({ frames := 2, cells := 0, slots := 0, locals := 46 }) [.int v1, .int v2, .int v3] := by
  rintro k S x hk ⟨M, rfl, h⟩
  have hO := g_rOk h
  obtain ⟨M', T, mc, ms, e, b1, b2, b0, hR⟩ := st_family n rfl h v1 v2 v3
  exact ⟨_, T, mc, ms, _, fun l D cc E hE => cX11_family_ok l D cc E n hE S (M 0 0) v1 v2 v3 e, b1, b2, fun l D cI cJ ad => c_family l D cI cJ ad x v1 v2 v3 hO.1 hO.2.2.1 hO.2.2.2.1, M', b0, hR⟩
theorem sp_refer (n : Nat × Nat) (hn : 30000 ≤ n.1) (a0 : Nat) (v1 v2 v3 v4 : Int32) : SPi (InvR n a0) n a0 yX11_refer wsX11_refer 4 85 yX12_refer wsX12_refer ({ frames := 2, cells := 0, slots := 0, locals := 46 }) [.int v1, .int v2, .int v3, .int v4] := by
  rintro k S x hk ⟨M, rfl, h⟩
  have hO := g_rOk h
  obtain ⟨M', T, mc, ms, e, b1, b2, b0, hR⟩ := st_refer n h v1 v2 v3 v4
  exact ⟨_, T, mc, ms, _, fun l D cc E hE => cX11_refer_ok l D cc E n S (M 0 0) v1 v2 v3 v4 e, b1, b2, fun l D cI cJ ad => c_refer l D cI cJ ad x v1 v2 v3 v4 hO.1 hO.2.2.2.1 hO.2.2.2.2.1, M', b0, hR⟩
theorem sp_allowed (n : Nat × Nat) (hn : 30000 ≤ n.1) (a0 : Nat) (v1 v2 : Int32) : SPi (InvR n a0) n a0 yX11_allowed wsX11_allowed 4 85 yX12_allowed wsX12_allowed ({ frames := 2, cells := 0, slots := 0, locals := 48 }) [.int v1, .int v2] := by
  rintro k S x hk ⟨M, rfl, h⟩
  have hO := g_rOk h
  have e := st_allowed n hn h v1 v2
  exact ⟨_, S, 0, 0, x, fun l D cc E hE => cX11_allowed_ok l D cc E n S (M 0 0) v1 v2 e, by omega, by omega, fun l D cI cJ ad => Mi_sw (c_allowed l D cI cJ ad x v1 v2 hO.1 hO.2.2.2.2.1), M, rfl, rep_mono h⟩
theorem sp_need (n : Nat × Nat) (hn : 30000 ≤ n.1) (a0 : Nat) (v1 v2 : Int32) : SPi (InvR n a0) n a0 yX11_need wsX11_need 4 85 yX12_need wsX12_need ({ frames := 2, cells := 0, slots := 0, locals := 46 }) [.int v1, .int v2] := by
  rintro k S x hk ⟨M, rfl, h⟩
  have hO := g_rOk h
  have e := st_need n hn h v1 v2
  exact ⟨_, S, 0, 0, x, fun l D cc E hE => cX11_need_ok l D cc E n S (M 0 0) v1 v2 e, by omega, by omega, fun l D cI cJ ad => Mi_sw (c_need l D cI cJ ad x v1 v2 hO.1 hO.2.2.2.1 hO.2.2.2.2.2.1), M, rfl, rep_mono h⟩
theorem sp_parcel (n : Nat × Nat) (hn : 30000 ≤ n.1) (a0 : Nat) (v1 : Int32) : SPi (InvR n a0) n a0 yX11_parcel wsX11_parcel 11 291 yX12_parcel wsX12_parcel ({ frames := 3, cells := 0, slots := 0, locals := 72 }) [.int v1] := by
  rintro k S x hk ⟨M, rfl, h⟩
  have hO := g_rOk h
  obtain ⟨M', T, mc, ms, e, b1, b2, b0, hR⟩ := st_parcel n hn rfl hk h v1
  exact ⟨_, T, mc, ms, _, fun l D cc E hE => cX11_parcel_ok l D cc E n hE S (M 0 0) v1 e, b1, b2, fun l D cI cJ ad => c_parcel l D cI cJ ad x v1 hO.1 (okP_of h hk), M', b0, hR⟩
theorem sp_of (n : Nat × Nat) (hn : 30000 ≤ n.1) (a0 : Nat) (v1 v2 : Int32) : SPi (InvR n a0) n a0 yX11_of wsX11_of 4 85 yX12_of wsX12_of (cRm 1 25 0 0) [.int v1, .int v2] := by
  rintro k S x hk ⟨M, rfl, h⟩
  have hO := g_rOk h
  obtain ⟨r, e, e2⟩ := st_of n hn h v1 v2
  exact ⟨r, S, 0, 0, x, fun l D cc E hE => cX11_of_ok l D cc E n S (M 0 0) v1 v2 e, by omega, by omega, fun l D cI cJ ad => cX12_of_ok l D cI cJ ad n x v1 v2 e2, M, rfl, rep_mono h⟩
theorem sp_go (n : Nat × Nat) (hn : 30000 ≤ n.1) (a0 : Nat) (v1 : Int32) : SPi (InvR n a0) n a0 yX11_go wsX11_go 4 87 yX12_go wsX12_go ({ frames := 1, cells := 0, slots := 0, locals := 25 }) [.int v1] := by
  rintro k S x hk ⟨M, rfl, h⟩
  have hO := g_rOk h
  obtain ⟨T, e, hR⟩ := st_go n hn h v1
  exact ⟨_, T, 0, 0, _, fun l D cc E hE => cX11_go_ok l D cc E n S (M 0 0) v1 e, by omega, by omega, fun l D cI cJ ad => c_go l D cI cJ ad x v1 hO.1 hO.2.1, M, rfl, hR⟩
theorem sp_want (n : Nat × Nat) (hn : 30000 ≤ n.1) (a0 : Nat) (v1 v2 v3 : Int32) : SPi (InvR n a0) n a0 yX11_want wsX11_want 4 85 yX12_want wsX12_want ({ frames := 2, cells := 0, slots := 0, locals := 46 }) [.int v1, .int v2, .int v3] := by
  rintro k S x hk ⟨M, rfl, h⟩
  have hO := g_rOk h
  obtain ⟨T, e, hR⟩ := st_want n h v1 v2 v3
  exact ⟨_, T, 0, 0, _, fun l D cc E hE => cX11_want_ok l D cc E n S (M 0 0) v1 v2 v3 e, by omega, by omega, fun l D cI cJ ad => c_want l D cI cJ ad x v1 v2 v3 hO.1 hO.2.2.1, M, rfl, hR⟩
theorem sp_part (n : Nat × Nat) (hn : 30000 ≤ n.1) (a0 : Nat) (v1 : Int32) : SPi (InvR n a0) n a0 yX11_part wsX11_part 5 112 yX12_part wsX12_part (cRm 3 73 0 0) [.int v1] := by
  rintro k S x hk ⟨M, rfl, h⟩
  have hO := g_rOk h
  obtain ⟨r, T, X, e, e2, hR⟩ := st_part n hn h v1
  exact ⟨r, T, 0, 0, X, fun l D cc E hE => cX11_part_ok l D cc E n S (M 0 0) v1 e, by omega, by omega, fun l D cI cJ ad => cX12_part_ok l D cI cJ ad n x v1 e2, M, rfl, hR⟩
theorem sp_got (n : Nat × Nat) (hn : 30000 ≤ n.1) (a0 : Nat) (v1 v2 : Int32) : SPi (InvR n a0) n a0 yX11_got wsX11_got 4 85 yX12_got wsX12_got ({ frames := 2, cells := 0, slots := 0, locals := 46 }) [.int v1, .int v2] := by
  rintro k S x hk ⟨M, rfl, h⟩
  have hO := g_rOk h
  have e := st_got n h v1 v2
  exact ⟨_, S, 0, 0, x, fun l D cc E hE => cX11_got_ok l D cc E n S (M 0 0) v1 v2 e, by omega, by omega, fun l D cI cJ ad => Mi_sw (c_got l D cI cJ ad x v1 v2 hO.1 hO.2.2.1), M, rfl, rep_mono h⟩
theorem sp_road (n : Nat × Nat) (hn : 30000 ≤ n.1) (a0 : Nat) (v1 v2 v3 : Int32) : SPi (InvR n a0) n a0 yX11_road wsX11_road 1 22 yX12_road wsX12_road ({ frames := 1, cells := 0, slots := 0, locals := 25 }) [.int v1, .int v2, .int v3] := by
  rintro k S x hk ⟨M, rfl, h⟩
  have hO := g_rOk h
  obtain ⟨T, e, hR⟩ := st_road n h v1 v2 v3
  exact ⟨_, T, 0, 0, _, fun l D cc E hE => cX11_road_ok l D cc E n S (M 0 0) v1 v2 v3 e, by omega, by omega, fun l D cI cJ ad => c_road l D cI cJ ad x v1 v2 v3 hO.1, M, rfl, hR⟩
theorem sp_load (n : Nat × Nat) (hn : 30000 ≤ n.1) (a0 : Nat) (v1 v2 : Int32) : SPi (InvR n a0) n a0 yX11_load wsX11_load 4 86 yX12_load wsX12_load ({ frames := 2, cells := 0, slots := 0, locals := 46 }) [.int v1, .int v2] := by
  rintro k S x hk ⟨M, rfl, h⟩
  have hO := g_rOk h
  obtain ⟨T, e, hR⟩ := st_load n hn h v1 v2
  exact ⟨_, T, 0, 0, _, fun l D cc E hE => cX11_load_ok l D cc E n S (M 0 0) v1 v2 e, by omega, by omega, fun l D cI cJ ad => c_load l D cI cJ ad x v1 v2 hO.1 hO.2.2.1, M, rfl, hR⟩
theorem sp_rounds (n : Nat × Nat) (hn : 30000 ≤ n.1) (a0 : Nat) (v1 : Int32) : SPi (InvR n a0) n a0 yX11_rounds wsX11_rounds 6 152 yX12_rounds wsX12_rounds (cRm 3 77 0 0) [.int v1] := by
  rintro k S x hk ⟨M, rfl, h⟩
  have hO := g_rOk h
  obtain ⟨r, T, X, e, e2, hR⟩ := st_rounds n hn h v1
  exact ⟨r, T, 0, 0, X, fun l D cc E hE => cX11_rounds_ok l D cc E n S (M 0 0) v1 e, by omega, by omega, fun l D cI cJ ad => cX12_rounds_ok l D cI cJ ad n x v1 e2, M, rfl, hR⟩
theorem sp_stop (n : Nat × Nat) (hn : 30000 ≤ n.1) (a0 : Nat) (v1 : Int32) : SPi (InvR n a0) n a0 yX11_stop wsX11_stop 2 43 yX12_stop wsX12_stop ({ frames := 1, cells := 0, slots := 0, locals := 25 }) [.int v1] := by
  rintro k S x hk ⟨M, rfl, h⟩
  have hO := g_rOk h
  have e := st_stop n h v1
  exact ⟨_, S, 0, 0, x, fun l D cc E hE => cX11_stop_ok l D cc E n S (M 0 0) v1 e, by omega, by omega, fun l D cI cJ ad => Mi_sw (c_stop l D cI cJ ad x v1 hO.1 (stop_ok h)), M, rfl, rep_mono h⟩
theorem sp_feed (n : Nat × Nat) (hn : 30000 ≤ n.1) (a0 : Nat) (v1 v2 v3 v4 v5 : Int32) : SPi (InvR n a0) n a0 yX11_feed wsX11_feed 1 22 yX12_feed wsX12_feed ({ frames := 1, cells := 0, slots := 0, locals := 22 }) [.int v1, .int v2, .int v3, .int v4, .int v5] := by
  rintro k S x hk ⟨M, rfl, h⟩
  have hO := g_rOk h
  obtain ⟨T, e, hR⟩ := st_feed n hn h v1 v2 v3 v4 v5
  exact ⟨_, T, 0, 0, _, fun l D cc E hE => cX11_feed_ok l D cc E n S (M 0 0) v1 v2 v3 v4 v5 e, by omega, by omega, fun l D cI cJ ad => c_feed l D cI cJ ad x v1 v2 v3 v4 v5 hO.1 hO.2.2.2.2.2.2.1, M, rfl, hR⟩
theorem sp_end (n : Nat × Nat) (hn : 30000 ≤ n.1) (a0 : Nat) (v1 : Int32) : SPi (InvR n a0) n a0 yX11_end wsX11_end 1 22 yX12_end wsX12_end ({ frames := 0, cells := 0, slots := 0, locals := 0 }) [.int v1] := by
  rintro k S x hk ⟨M, rfl, h⟩
  have hO := g_rOk h
  obtain ⟨T, e, hR⟩ := st_end n h v1
  exact ⟨_, T, 0, 0, _, fun l D cc E hE => cX11_end_ok l D cc E n S (M 0 0) v1 e, by omega, by omega, fun l D cI cJ ad => c_end l D cI cJ ad x v1 hO.1, M, rfl, hR⟩
theorem sp_rules (n : Nat × Nat) (hn : 30000 ≤ n.1) (a0 : Nat) : SPi (InvR n a0) n a0 yX11_rules wsX11_rules 8 171 yX12_rules wsX12_rules (cRm 5 108 0 0) [] := by
  rintro k S x hk ⟨M, rfl, h⟩
  have hO := g_rOk h
  obtain ⟨r, M', T, X, e, e2, h0, hR⟩ := st_rules n hn h 
  exact ⟨r, T, 0, 0, X, fun l D cc E hE => cX11_rules_ok l D cc E n S (M 0 0)  e, by omega, by omega, fun l D cI cJ ad => cX12_rules_ok l D cI cJ ad n x  e2, M', h0, hR⟩
theorem sp_fault (n : Nat × Nat) (hn : 30000 ≤ n.1) (a0 : Nat) : SPi (InvR n a0) n a0 yX11_fault wsX11_fault 0 0 yX12_fault wsX12_fault ({ frames := 0, cells := 0, slots := 0, locals := 0 }) [] := by
  rintro k S x hk ⟨M, rfl, h⟩
  have hO := g_rOk h
  have e := st_fault n h 
  exact ⟨_, S, 0, 0, x, fun l D cc E hE => cX11_fault_ok l D cc E n S (M 0 0)  e, by omega, by omega, fun l D cI cJ ad => Mi_sw (c_fault l D cI cJ ad x  hO.1), M, rfl, rep_mono h⟩
theorem sp_weigh (n : Nat × Nat) (hn : 30000 ≤ n.1) (a0 : Nat) (v1 v2 v3 : Int32) : SPi (InvR n a0) n a0 yX11_weigh wsX11_weigh 4 85 yX12_weigh wsX12_weigh ({ frames := 2, cells := 0, slots := 0, locals := 46 }) [.int v1, .int v2, .int v3] := by
  rintro k S x hk ⟨M, rfl, h⟩
  have hO := g_rOk h
  obtain ⟨M', T, mc, ms, e, b1, b2, b0, hR⟩ := st_weigh n h v1 v2 v3
  exact ⟨_, T, mc, ms, _, fun l D cc E hE => cX11_weigh_ok l D cc E n S (M 0 0) v1 v2 v3 e, b1, b2, fun l D cI cJ ad => c_weigh l D cI cJ ad x v1 v2 v3 hO.1 hO.2.1 hO.2.2.2.2.2.2.2.1, M', b0, hR⟩
theorem sp_given (n : Nat × Nat) (hn : 30000 ≤ n.1) (a0 : Nat) (v1 v2 : Int32) : SPl (InvR n a0) n a0 yX11_given wsX11_given 4 90 yX12_given wsX12_given ({ frames := 1, cells := 0, slots := 0, locals := 25 }) [.int v1, .int v2] := by
  rintro k S x hk ⟨M, rfl, h⟩
  have hO := g_rOk h
  have e := st_given n hn h v1 v2
  exact ⟨_, S, 0, 0, x, fun l D cc E hE => cX11_given_ok l D cc E n S (M 0 0) v1 v2 e, by omega, by omega, fun l D cI cJ ad => Ml_sw (c_given l D cI cJ ad x v1 v2 hO.1 hO.2.1 hO.2.2.2.2.2.2.2.1), M, rfl, rep_mono h⟩
theorem sp_led (n : Nat × Nat) (hn : 30000 ≤ n.1) (a0 : Nat) (v1 v2 : Int32) : SPl (InvR n a0) n a0 yX11_led wsX11_led 4 85 yX12_led wsX12_led ({ frames := 2, cells := 0, slots := 0, locals := 46 }) [.int v1, .int v2] := by
  rintro k S x hk ⟨M, rfl, h⟩
  have hO := g_rOk h
  have e := st_led n h v1 v2
  exact ⟨_, S, 0, 0, x, fun l D cc E hE => cX11_led_ok l D cc E n S (M 0 0) v1 v2 e, by omega, by omega, fun l D cI cJ ad => Ml_sw (c_led l D cI cJ ad x v1 v2 hO.1 (ok_w hO.2.2.2.2.2.2.2.2.1.1 (by decide)) hO.2.2.2.2.2.2.2.2.2.2.1), M, rfl, rep_mono h⟩
theorem sp_count (n : Nat × Nat) (hn : 30000 ≤ n.1) (a0 : Nat) (v1 : Int32) : SPl (InvR n a0) n a0 yX11_count wsX11_count 4 88 yX12_count wsX12_count ({ frames := 1, cells := 0, slots := 0, locals := 26 }) [.int v1] := by
  rintro k S x hk ⟨M, rfl, h⟩
  have hO := g_rOk h
  have e := st_count n hn h v1
  exact ⟨_, S, 0, 0, x, fun l D cc E hE => cX11_count_ok l D cc E n S (M 0 0) v1 e, by omega, by omega, fun l D cI cJ ad => Ml_sw (c_count l D cI cJ ad x v1 hO.1 hO.2.1), M, rfl, rep_mono h⟩
theorem sp_status (n : Nat × Nat) (hn : 30000 ≤ n.1) (a0 : Nat) : SPi (InvR n a0) n a0 yX11_status wsX11_status 0 0 yX12_status wsX12_status ({ frames := 0, cells := 0, slots := 0, locals := 0 }) [] := by
  rintro k S x hk ⟨M, rfl, h⟩
  have hO := g_rOk h
  have e := st_status n h 
  exact ⟨_, S, 0, 0, x, fun l D cc E hE => cX11_status_ok l D cc E n S (M 0 0)  e, by omega, by omega, fun l D cI cJ ad => Mi_sw (c_status l D cI cJ ad x  hO.1), M, rfl, rep_mono h⟩
