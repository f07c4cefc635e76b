/-! PURE: a gift: the new lot, its place in the chain -/
section M18
variable {ae k : Nat} {M : Nat → Nat → Nat} {x : MS} {S : CS}
def lotS (S : CS) (i kd g la gi : Int32) : CS := uI (uI (uI (uI (uI (uI (uR (uR (uI (uI (uI (nw S 3 0) 66 (nx S) 0) 67 (nx S) 0) 68 (nx S) 0) 69 (nx S) none) 70 (nx S) none) 60 (nx S) i) 61 (nx S) kd) 62 (nx S) g) 63 (nx S) la) 64 (nx S) gi) 65 (nx S) g
theorem lotS_k (S : CS) (i kd g la gi : Int32) (hf : frsh S) : keep S (lotS S i kd g la gi) [] [] [] [] := by
  have h0 : cD S (nx S) = 0 := hf _ (Nat.le_refl _)
  unfold lotS
  refine kn_I ?_ h0 _ _
  refine kn_I ?_ h0 _ _
  refine kn_I ?_ h0 _ _
  refine kn_I ?_ h0 _ _
  refine kn_I ?_ h0 _ _
  refine kn_I ?_ h0 _ _
  refine kn_R ?_ h0 _ _
  refine kn_R ?_ h0 _ _
  refine kn_I ?_ h0 _ _
  refine kn_I ?_ h0 _ _
  refine kn_I ?_ h0 _ _
  exact kn_w (keep_rf S) hf 3 0
theorem lotS_x (S : CS) (i kd g la gi : Int32) : nx (lotS S i kd g la gi) = nx S + 1 := rfl
theorem lotS_f (S : CS) (i kd g la gi : Int32) (hf : frsh S) : frsh (lotS S i kd g la gi) := frsh_nw 3 0 hf
theorem lotS_d (S : CS) (i kd g la gi : Int32) : cD (lotS S i kd g la gi) (nx S) = 3 := by
  unfold lotS
  rw [cD_uI, cD_uI, cD_uI, cD_uI, cD_uI, cD_uI, cD_uR, cD_uR, cD_uI, cD_uI, cD_uI, cD_nw, set1_s]
theorem lotS_66 (S : CS) (i kd g la gi : Int32) : cI (lotS S i kd g la gi) 66 (nx S) = 0 := by
  unfold lotS
  rw [cI_uI, set1_n _ _ (by decide), cI_uI, set1_n _ _ (by decide), cI_uI, set1_n _ _ (by decide), cI_uI, set1_n _ _ (by decide), cI_uI, set1_n _ _ (by decide), cI_uI, set1_n _ _ (by decide), cI_uR, cI_uR, cI_uI, set1_n _ _ (by decide), cI_uI, set1_n _ _ (by decide), cI_uI, set1_s, set1_s]
theorem lotS_67 (S : CS) (i kd g la gi : Int32) : cI (lotS S i kd g la gi) 67 (nx S) = 0 := by
  unfold lotS
  rw [cI_uI, set1_n _ _ (by decide), cI_uI, set1_n _ _ (by decide), cI_uI, set1_n _ _ (by decide), cI_uI, set1_n _ _ (by decide), cI_uI, set1_n _ _ (by decide), cI_uI, set1_n _ _ (by decide), cI_uR, cI_uR, cI_uI, set1_n _ _ (by decide), cI_uI, set1_s, set1_s]
theorem lotS_68 (S : CS) (i kd g la gi : Int32) : cI (lotS S i kd g la gi) 68 (nx S) = 0 := by
  unfold lotS
  rw [cI_uI, set1_n _ _ (by decide), cI_uI, set1_n _ _ (by decide), cI_uI, set1_n _ _ (by decide), cI_uI, set1_n _ _ (by decide), cI_uI, set1_n _ _ (by decide), cI_uI, set1_n _ _ (by decide), cI_uR, cI_uR, cI_uI, set1_s, set1_s]
theorem lotS_69 (S : CS) (i kd g la gi : Int32) : cR (lotS S i kd g la gi) 69 (nx S) = none := by
  unfold lotS
  rw [cR_uI, cR_uI, cR_uI, cR_uI, cR_uI, cR_uI, cR_uR, set1_n _ _ (by decide), cR_uR, set1_s, set1_s]
theorem lotS_70 (S : CS) (i kd g la gi : Int32) : cR (lotS S i kd g la gi) 70 (nx S) = none := by
  unfold lotS
  rw [cR_uI, cR_uI, cR_uI, cR_uI, cR_uI, cR_uI, cR_uR, set1_s, set1_s]
theorem lotS_60 (S : CS) (i kd g la gi : Int32) : cI (lotS S i kd g la gi) 60 (nx S) = i := by
  unfold lotS
  rw [cI_uI, set1_n _ _ (by decide), cI_uI, set1_n _ _ (by decide), cI_uI, set1_n _ _ (by decide), cI_uI, set1_n _ _ (by decide), cI_uI, set1_n _ _ (by decide), cI_uI, set1_s, set1_s]
theorem lotS_61 (S : CS) (i kd g la gi : Int32) : cI (lotS S i kd g la gi) 61 (nx S) = kd := by
  unfold lotS
  rw [cI_uI, set1_n _ _ (by decide), cI_uI, set1_n _ _ (by decide), cI_uI, set1_n _ _ (by decide), cI_uI, set1_n _ _ (by decide), cI_uI, set1_s, set1_s]
theorem lotS_62 (S : CS) (i kd g la gi : Int32) : cI (lotS S i kd g la gi) 62 (nx S) = g := by
  unfold lotS
  rw [cI_uI, set1_n _ _ (by decide), cI_uI, set1_n _ _ (by decide), cI_uI, set1_n _ _ (by decide), cI_uI, set1_s, set1_s]
theorem lotS_63 (S : CS) (i kd g la gi : Int32) : cI (lotS S i kd g la gi) 63 (nx S) = la := by
  unfold lotS
  rw [cI_uI, set1_n _ _ (by decide), cI_uI, set1_n _ _ (by decide), cI_uI, set1_s, set1_s]
theorem lotS_64 (S : CS) (i kd g la gi : Int32) : cI (lotS S i kd g la gi) 64 (nx S) = gi := by
  unfold lotS
  rw [cI_uI, set1_n _ _ (by decide), cI_uI, set1_s, set1_s]
theorem lotS_65 (S : CS) (i kd g la gi : Int32) : cI (lotS S i kd g la gi) 65 (nx S) = g := by
  unfold lotS
  rw [cI_uI, set1_s, set1_s]
theorem ev_lot_init (n : Nat × Nat) (S : CS) (i kd g la gi : Int32) : fX2_init n (nw S 3 0) (nx S) i kd g la gi = some (lotS S i kd g la gi) := by
  simp only [fX2_init, grd, bnd, cD_new, if_true, lotS]
theorem add_lp (n : Nat × Nat) {f : Nat → Nat} {v : Nat} {la : Int32} (hv : cD S v = 3) (hla : cI S 63 v = la) (bs : List Nat) : ∀ (as : List Nat) (o : Option Nat) (fuel : Nat) (l2 : Option Nat), chn S 3 69 f o (as ++ bs) → (∀ j ∈ as, ¬ la < cI S 63 (f j)) → (∀ j ∈ bs, la < cI S 63 (f j)) → as.length < fuel → fX7_add_lp32 n S v fuel l2 o = some (as.foldl (fun _ j => some (f j)) l2)
  | as, o, 0, l2, _, _, _, hf => absurd hf (Nat.not_lt_zero _)
  | [], o, fuel + 1, l2, h, _, hb, _ => by
    cases bs with
    | nil =>
      have h : o = none := h
      subst h
      rfl
    | cons b bs =>
      obtain ⟨rfl, hd, -⟩ := h
      have := hb b List.mem_cons_self
      simp only [fX7_add_lp32, oel, grd, bnd, hd, hv, hla, if_true, if_pos this, List.foldl_nil]
  | j :: as, o, fuel + 1, l2, h, ha, hb, hf => by
    obtain ⟨rfl, hd, ht⟩ := h
    have c := ha j List.mem_cons_self
    have ih := add_lp n hv hla bs as _ fuel (some (f j)) ht (fun i hi => ha i (List.mem_cons_of_mem _ hi)) hb (by simp at hf; omega)
    simp only [fX7_add_lp32, oel, grd, bnd, hd, hv, hla, if_true, if_neg c, List.foldl_cons]
    exact ih
theorem ins_split {x : MS} (la : Int32) : ∀ js : List Nat, js.Pairwise (sooner x) → ∃ as bs, js = as ++ bs ∧ (∀ j ∈ as, ¬ la < mA x 7 j) ∧ ∀ j ∈ bs, la < mA x 7 j
  | [], _ => ⟨[], [], rfl, fun j hj => absurd hj List.not_mem_nil, fun j hj => absurd hj List.not_mem_nil⟩
  | j :: js, h => by
    obtain ⟨h1, h2⟩ := List.pairwise_cons.mp h
    by_cases c : la < mA x 7 j
    · refine ⟨[], j :: js, rfl, fun j hj => absurd hj List.not_mem_nil, fun i hi => ?_⟩
      rcases List.mem_cons.mp hi with e | e
      · rw [e]; exact c
      · have := h1 i e
        unfold sooner at this
        rw [Int32.lt_iff_toInt_lt] at c ⊢
        rcases this with z | z
        · rw [Int32.lt_iff_toInt_lt] at z; omega
        · rw [← z.1]; omega
    · obtain ⟨as, bs, e, ha, hb⟩ := ins_split la js h2
      refine ⟨j :: as, bs, by rw [e]; rfl, fun i hi => ?_, hb⟩
      rcases List.mem_cons.mp hi with e | e
      · rw [e]; exact c
      · exact ha i e
/-- a chain is the same where its cells are -/
theorem chn_pt {S T : CS} {d g : Nat} {f : Nat → Nat} : ∀ (js : List Nat) (o : Option Nat), (∀ j ∈ js, cD T (f j) = d ∧ cR T g (f j) = cR S g (f j)) → chn S d g f o js → chn T d g f o js
  | [], _, _, h => h
  | j :: js, o, hp, h => ⟨h.1, (hp j List.mem_cons_self).1, by
      rw [(hp j List.mem_cons_self).2]
      exact chn_pt js _ (fun i hi => hp i (List.mem_cons_of_mem _ hi)) h.2.2⟩
/-- a cell laid behind a -/
theorem chn_ins {S T : CS} {d g i a : Nat} {f : Nat → Nat} {bs : List Nat} (t1 : cR T g (f a) = some (f i)) (t2 : cD T (f i) = d) (t3 : cR T g (f i) = cR S g (f a)) (t4 : cD T (f a) = d) : ∀ (as : List Nat) (o : Option Nat), (∀ j ∈ as, cD T (f j) = d ∧ cR T g (f j) = cR S g (f j)) → (∀ j ∈ bs, cD T (f j) = d ∧ cR T g (f j) = cR S g (f j)) → chn S d g f o (as ++ a :: bs) → chn T d g f o (as ++ a :: i :: bs)
  | [], o, _, hb, h => by
    refine ⟨h.1, t4, t1, t2, ?_⟩
    rw [t3]
    exact chn_pt bs _ hb h.2.2
  | j :: as, o, ha, hb, h => ⟨h.1, (ha j List.mem_cons_self).1, by
      rw [(ha j List.mem_cons_self).2]
      exact chn_ins t1 t2 t3 t4 as _ (fun i hi => ha i (List.mem_cons_of_mem _ hi)) hb h.2.2⟩

theorem stock_add (n : Nat × Nat) (hn : 30000 ≤ n.1) (hae : n.2 = ae) (h : Rep ae k M x S) {S1 : CS} (k1 : keep S S1 [] [] [] []) (f1 : frsh S1) (x1 : nx S1 = nx S + 1) {kd : Nat} {la : Int32} (hkd : kd < 10) (v0 : cD S1 (nx S) = 3) (v1 : cI S1 61 (nx S) = nI kd) (v3 : cI S1 63 (nx S) = la) (hm : nN x 4 < 200) (f : Nat → Nat) (hfm : f (nN x 4) = nx S) (hfo : ∀ i, i < nN x 4 → f i = M 1 i) :
    ∃ (T : CS) (mc ms : Nat), fX7_add n S1 (M 0 2) (nx S) = some (T, mc, ms) ∧ mc ≤ 1 ∧ ms ≤ 500 ∧ frsh T ∧ keep S1 T [gM 0, gS 0] [gE 0, 69] [] [30, 61] ∧ listOk ae T 0 (M 0 3) (nN x 4 + 1) (fun i => if i = nN x 4 then nx S else M 1 i) ∧ ∀ q, q < 10 → ∃ js : List Nat, chn T 3 69 f (cQ T 61 (M 0 4) q) js ∧ (∀ j, j ∈ js ↔ j < nN x 4 + 1 ∧ upd (mA x 5) (nN x 4) (nI kd) j = nI q) ∧ js.Pairwise (fun a b => upd (mA x 7) (nN x 4) la a < upd (mA x 7) (nN x 4) la b ∨ (upd (mA x 7) (nN x 4) la a = upd (mA x 7) (nN x 4) la b ∧ a < b)) := by
  have hF := g_rFix h
  obtain ⟨hB1, hB2, hB3⟩ := g_rBase h
  have hL := (g_rLotL h).1
  have hF1 := k_rFix k1 rfl hF
  have hC := g_rCha h
  have hC1 := k_rCha k1 rfl rfl rfl rfl rfl hC
  have hLt := g_rLot h
  have hLt1 := k_rLot k1 rfl rfl rfl rfl rfl rfl rfl rfl rfl rfl hLt
  have k0 : cD S1 ae = 0 := by rw [k1.1.1.2 ae hB3]; exact hB2
  have hL1 : listOk ae S1 0 (M 0 3) (nN x 4) (M 1) := keep_list k1 hL (by decide) (by decide) (by decide)
  obtain ⟨T1, mc, ms, ea, a1, a2, a3, a4, a5, -⟩ := ev_add n hae f1 k0 (by rw [x1]; omega) hL1 (by omega) (v := nx S) v0
  have lt0 : ∀ q, cD S q ≠ 0 → q < nx S := fun q hq => by
    rcases Nat.lt_or_ge q (nx S) with z | z
    · exact z
    · exact absurd (hB1 q z) hq
  have ltl : ∀ i, i < nN x 4 → M 1 i < nx S := fun i hi => lt0 _ (by rw [(hLt i hi).1]; decide)
  -- T1
  have w0 : cD T1 (nx S) = 3 := kD a4 v0 (by decide)
  have w1 : cI T1 61 (nx S) = nI kd := kI a4 v0 (by decide) (by decide) v1
  have w3 : cI T1 63 (nx S) = la := kI a4 v0 (by decide) (by decide) v3
  have hFT : rFix M T1 := k_rFix a4 (by decide) hF1
  have hCT : rCha M x T1 := k_rCha a4 (by decide) (by decide) rfl rfl rfl hC1
  have hLT : rLot M x T1 := k_rLot a4 (by decide) rfl rfl rfl rfl rfl rfl rfl rfl rfl hLt1
  have ek : (nI kd).toNatClampNeg = kd := nI_clamp (by omega)
  have e1 : isB (nI kd) 0 9 = true := by
    simp only [isB, Bool.and_eq_true, decide_eq_true_eq]
    exact ⟨nI_le (a := 0) (Nat.zero_le _) (by omega), nI_le (b := 9) (by omega) (by decide)⟩
  have c2 : ¬ (nI kd < 0 ∨ 10 ≤ kd) := by
    have := vp_in_nI (n := kd) (N := 10) hkd (by decide)
    unfold vp_in at this
    rw [ek] at this
    exact this
  obtain ⟨js, j1, j2, j3⟩ := hCT.2.2 kd hkd
  obtain ⟨as, bs, ej, ha, hb⟩ := ins_split la js j3
  have len : js.length ≤ nN x 4 := chain_len (p := fun j => mA x 5 j = nI kd) (sooner_nd j3) j2
  have lpe := add_lp n w0 w3 bs as _ n.1 none (ej ▸ j1) (fun j hj => by
      have := (j2 j).mp (by rw [ej]; exact List.mem_append_left _ hj)
      rw [(hLT j this.1).2.2.2.2.1]; exact ha j hj) (fun j hj => by
      have := (j2 j).mp (by rw [ej]; exact List.mem_append_right _ hj)
      rw [(hLT j this.1).2.2.2.2.1]; exact hb j hj) (by rw [ej, List.length_append] at len; omega)
  -- what a new chain wants
  have fin : ∀ T : CS, (∀ q, cD T q = cD T1 q) → cR T 69 (nx S) = (match as.reverse with | [] => cQ T1 61 (M 0 4) kd | a :: _ => cR T1 69 (M 1 a)) → (∀ i, i < nN x 4 → cR T 69 (M 1 i) = (match as.reverse with | [] => cR T1 69 (M 1 i) | a :: _ => if i = a then some (nx S) else cR T1 69 (M 1 i))) → (∀ q, cQ T 61 (M 0 4) q = (match as.reverse with | [] => if q = kd then some (nx S) else cQ T1 61 (M 0 4) q | _ :: _ => cQ T1 61 (M 0 4) q)) → ∀ q, q < 10 → ∃ js : List Nat, chn T 3 69 f (cQ T 61 (M 0 4) q) js ∧ (∀ j, j ∈ js ↔ j < nN x 4 + 1 ∧ upd (mA x 5) (nN x 4) (nI kd) j = nI q) ∧ js.Pairwise (fun a b => upd (mA x 7) (nN x 4) la a < upd (mA x 7) (nN x 4) la b ∨ (upd (mA x 7) (nN x 4) la a = upd (mA x 7) (nN x 4) la b ∧ a < b)) := by
    intro T tD tv ti tq q hq
    have old : ∀ i, i < nN x 4 → cD T (M 1 i) = 3 := fun i hi => (tD _).trans (hLT i hi).1
    have pw : ∀ l : List Nat, (∀ j ∈ l, j < nN x 4) → l.Pairwise (sooner x) → l.Pairwise (fun a b => upd (mA x 7) (nN x 4) la a < upd (mA x 7) (nN x 4) la b ∨ (upd (mA x 7) (nN x 4) la a = upd (mA x 7) (nN x 4) la b ∧ a < b)) := fun l hl hp => by
      refine List.Pairwise.imp_of_mem (fun {a b} ha hb hab => ?_) hp
      rw [pk_un (Nat.ne_of_lt (hl a ha)), pk_un (Nat.ne_of_lt (hl b hb))]
      exact hab
    by_cases eq : q = kd
    · subst eq
      refine ⟨as ++ nN x 4 :: bs, ?_, fun j => ?_, ?_⟩
      · have cf : chn T1 3 69 f (cQ T1 61 (M 0 4) q) (as ++ bs) := chn_cong (as ++ bs) _ (fun j hj => (hfo j ((j2 j).mp (by rw [ej]; exact hj)).1).symm) (ej ▸ j1)
        have hin : ∀ j, j ∈ as ++ bs → j < nN x 4 := fun j hj => ((j2 j).mp (by rw [ej]; exact hj)).1
        have nd : (as ++ bs).Nodup := by rw [← ej]; exact sooner_nd j3
        rcases List.eq_nil_or_concat as with e | ⟨as', a, e⟩
        · subst e
          simp only [List.reverse_nil] at tv ti tq
          rw [tq, if_pos rfl]
          refine ⟨by rw [hfm], by rw [hfm, tD]; exact w0, ?_⟩
          rw [hfm, tv]
          refine chn_pt bs _ (fun j hj => ?_) cf
          have hj4 := hin j hj
          rw [hfo j hj4]
          exact ⟨old j hj4, ti j hj4⟩
        · rw [List.concat_eq_append] at e
          subst e
          simp only [List.reverse_append, List.reverse_cons, List.reverse_nil, List.nil_append, List.cons_append] at tv ti tq
          rw [tq, List.append_assoc]
          rw [List.append_assoc] at cf hin nd
          have ha4 : a < nN x 4 := hin a (by simp)
          have fa := hfo a ha4
          have nda : ∀ j, j ∈ as' ∨ j ∈ bs → j ≠ a := fun j hj z => by
            subst z
            rw [List.nodup_append] at nd
            rcases hj with hj | hj
            · exact nd.2.2 j hj j (by simp) rfl
            · have := nd.2.1
              rw [show [j] ++ bs = j :: bs from rfl, List.nodup_cons] at this
              exact this.1 hj
          have pt : ∀ j, j ∈ as' ∨ j ∈ bs → cD T (f j) = 3 ∧ cR T 69 (f j) = cR T1 69 (f j) := fun j hj => by
            have hj4 : j < nN x 4 := hin j (by rcases hj with hj | hj <;> simp [hj])
            rw [hfo j hj4]
            refine ⟨old j hj4, ?_⟩
            rw [ti j hj4, if_neg (nda j hj)]
          refine chn_ins (i := nN x 4) ?_ ?_ ?_ ?_ as' _ (fun j hj => pt j (Or.inl hj)) (fun j hj => pt j (Or.inr hj)) cf
          · rw [fa, hfm, ti a ha4, if_pos rfl]
          · rw [hfm, tD]; exact w0
          · rw [hfm, fa]; exact tv
          · rw [fa]; exact old a ha4
      · have := j2 j
        rw [ej, List.mem_append] at this
        rw [List.mem_append, List.mem_cons]
        by_cases e : j = nN x 4
        · subst e; rw [pk_us]; simp
        · rw [pk_un e]
          constructor
          · intro z
            have z' := this.mp (by rcases z with z | z | z; exact Or.inl z; exact absurd z e; exact Or.inr z)
            exact ⟨by omega, z'.2⟩
          · intro z
            rcases this.mpr ⟨by omega, z.2⟩ with w | w
            · exact Or.inl w
            · exact Or.inr (Or.inr w)
      · rw [ej] at j3 j2
        have hin : ∀ j, j ∈ as ++ bs → j < nN x 4 := fun j hj => ((j2 j).mp hj).1
        obtain ⟨p1, p2, p3⟩ := List.pairwise_append.mp j3
        rw [List.pairwise_append]
        refine ⟨pw as (fun j hj => hin j (List.mem_append_left _ hj)) p1, ?_, fun a ha1 b hb1 => ?_⟩
        · rw [List.pairwise_cons]
          refine ⟨fun b hb1 => ?_, pw bs (fun j hj => hin j (List.mem_append_right _ hj)) p2⟩
          have := hin b (List.mem_append_right _ hb1)
          rw [pk_us, pk_un (Nat.ne_of_lt this)]
          exact Or.inl (hb b hb1)
        · have hal := hin a (List.mem_append_left _ ha1)
          rw [pk_un (Nat.ne_of_lt hal)]
          rcases List.mem_cons.mp hb1 with e | e
          · rw [e, pk_us]
            have := ha a ha1
            rcases Int32.lt_or_eq_of_le (Int32.not_lt.mp this) with z | z
            · exact Or.inl z
            · exact Or.inr ⟨z, hal⟩
          · have := hin b (List.mem_append_right _ e)
            rw [pk_un (Nat.ne_of_lt this)]
            exact p3 a ha1 b e
    · obtain ⟨ls, l1, l2, l3⟩ := hCT.2.2 q hq
      have eQ : cQ T 61 (M 0 4) q = cQ T1 61 (M 0 4) q := by
        rw [tq]
        cases as.reverse with
        | nil => exact if_neg eq
        | cons a l => rfl
      refine ⟨ls, ?_, fun j => ?_, pw ls (fun j hj => ((l2 j).mp hj).1) l3⟩
      · rw [eQ]
        refine chn_cong ls _ (fun j hj => (hfo j ((l2 j).mp hj).1).symm) (chn_pt ls _ (fun j hj => ?_) l1)
        have hj4 := ((l2 j).mp hj).1
        refine ⟨old j hj4, ?_⟩
        rw [ti j hj4]
        cases er : as.reverse with
        | nil => rfl
        | cons a l =>
          refine if_neg (fun z => ?_)
          have ha' : a ∈ as := List.mem_reverse.mp (by rw [er]; exact List.mem_cons_self)
          have h5 := ((j2 a).mp (by rw [ej]; exact List.mem_append_left _ ha')).2
          have h6 := ((l2 j).mp hj).2
          rw [z] at h6
          rw [h5] at h6
          exact eq ((nI_eq (by omega) (by omega)).mp h6).symm
      · by_cases e : j = nN x 4
        · subst e
          rw [pk_us]
          constructor
          · intro z; have := ((l2 _).mp z).1; omega
          · intro z
            exact absurd ((nI_eq (by omega) (by omega)).mp z.2).symm eq
        · rw [pk_un e]
          exact ⟨fun z => ⟨by have := ((l2 j).mp z).1; omega, ((l2 j).mp z).2⟩, fun z => (l2 j).mpr ⟨by omega, z.2⟩⟩
  have kl : cD S1 (M 0 3) = 20 := hL1.1
  have inj := (g_rLotL h).2
  rcases List.eq_nil_or_concat as with e | ⟨as', a, e⟩
  · subst e
    obtain ⟨U, eU⟩ : ∃ z, z = uR T1 69 (nx S) (cQ T1 61 (M 0 4) kd) := ⟨_, rfl⟩
    obtain ⟨T, eT⟩ : ∃ z, z = uQ U 61 (M 0 4) kd (some (nx S)) := ⟨_, rfl⟩
    have kU : keep T1 U [] [69] [] [] := by rw [eU]; exact keep_uR _ _ _ _
    have kT : keep U T [] [] [] [61] := by rw [eT]; exact keep_uQ _ _ _ _ _
    have fT : frsh T := fun q hq => by
      rw [eT, eU] at hq ⊢
      exact a5 q hq
    refine ⟨T, mc + 0, ms + 0, ?_, by omega, by omega, fT, kpre (keep_tr a4 (keep_tr kU kT)) (by simp) (by simp) (by simp) (by simp), keep_list kT (keep_list kU a3 (by decide) (by decide) (by decide)) (by decide) (by decide) (by decide), fin T (fun q => by rw [eT, eU]; rfl) ?_ ?_ ?_⟩
    · have hFU : rFix M U := k_rFix kU (by decide) hFT
      have u1 : cI U 61 (nx S) = nI kd := kI kU w0 (by decide) (by decide) w1
      have u2 : cD U (M 0 4) = 61 := kD kU hCT.1 (by decide)
      have u3 : cN U (M 0 4) = 10 := kN kU hCT.1 (by decide) hCT.2.1
      simp only [List.foldl_nil] at lpe
      simp only [fX7_add, grd, bnd, onn, oel, cal, un2, v0, v1, ev_kind, e1, bI, if_true, if_neg n10, hF1.2.1, hF1.2.2.2.2.2.2.2.2.2.2.2.1, kl, ea, adc, hFT.2.1, hFT.2.2.2.2.2.2.2.2.2.2.2.2.1, w0, w1, hCT.1, hCT.2.1, ek, if_pos c2, lpe, ← eU, hFU.2.2.2.2.2.2.2.2.2.2.2.2.1, u1, u2, u3, ← eT]
    · show cR T 69 (nx S) = cQ T1 61 (M 0 4) kd
      rw [eT, cR_uQ, eU, cR_uR, set1_s, set1_s]
    · intro i hi
      show cR T 69 (M 1 i) = cR T1 69 (M 1 i)
      rw [eT, cR_uQ, eU, cR_uR, set1_s, set1_n _ _ (Nat.ne_of_lt (ltl i hi))]
    · intro q
      show cQ T 61 (M 0 4) q = if q = kd then some (nx S) else cQ T1 61 (M 0 4) q
      rw [eT, cQ_uQ, set1_s, set1_s]
      show va_up (cQ U 61 (M 0 4)) kd (some (nx S)) q = _
      rw [eU, cQ_uR]
      rfl
  · rw [List.concat_eq_append] at e
    subst e
    have ha4 : a < nN x 4 := ((j2 a).mp (by rw [ej]; simp)).1
    obtain ⟨U, eU⟩ : ∃ z, z = uR T1 69 (nx S) (cR T1 69 (M 1 a)) := ⟨_, rfl⟩
    obtain ⟨T, eT⟩ : ∃ z, z = uR U 69 (M 1 a) (some (nx S)) := ⟨_, rfl⟩
    have kU : keep T1 U [] [69] [] [] := by rw [eU]; exact keep_uR _ _ _ _
    have kT : keep U T [] [69] [] [] := by rw [eT]; exact keep_uR _ _ _ _
    have fT : frsh T := fun q hq => by
      rw [eT, eU] at hq ⊢
      exact a5 q hq
    have hne : nx S ≠ M 1 a := fun z => by have := ltl a ha4; omega
    refine ⟨T, mc + 0, ms + 0, ?_, by omega, by omega, fT, kpre (keep_tr a4 (keep_tr kU kT)) (by simp) (by simp) (by simp) (by simp), keep_list kT (keep_list kU a3 (by decide) (by decide) (by decide)) (by decide) (by decide) (by decide), fin T (fun q => by rw [eT, eU]; rfl) ?_ ?_ ?_⟩
    · simp only [List.foldl_append, List.foldl_cons, List.foldl_nil] at lpe
      simp only [fX7_add, grd, bnd, onn, oel, cal, un2, v0, v1, ev_kind, e1, bI, if_true, if_neg n10, hF1.2.1, hF1.2.2.2.2.2.2.2.2.2.2.2.1, kl, ea, adc, hFT.2.1, hFT.2.2.2.2.2.2.2.2.2.2.2.2.1, w0, w1, hCT.1, hCT.2.1, ek, if_pos c2, lpe, (hLT a ha4).1, ← eU, ← eT]
    · simp only [List.reverse_append, List.reverse_cons, List.reverse_nil, List.nil_append, List.cons_append]
      rw [eT, cR_uR, set1_s, set1_n _ _ hne, eU, cR_uR, set1_s, set1_s]
    · intro i hi
      simp only [List.reverse_append, List.reverse_cons, List.reverse_nil, List.nil_append, List.cons_append]
      rw [eT, cR_uR, set1_s]
      by_cases e : i = a
      · rw [e, set1_s, if_pos rfl]
      · rw [set1_n _ _ (fun z => e (inj i a hi ha4 z)), if_neg e, eU, cR_uR, set1_s, set1_n _ _ (Nat.ne_of_lt (ltl i hi))]
    · intro q
      simp only [List.reverse_append, List.reverse_cons, List.reverse_nil, List.nil_append, List.cons_append]
      rw [eT, cQ_uR, eU, cQ_uR]
end M18
