/-! PURE: chains from the newest back; allowed, given, led, road -/
def desc (n : Nat) (p : Nat → Prop) (es : List Nat) : Prop := (∀ e, e ∈ es ↔ e < n ∧ p e) ∧ es.Pairwise (fun a b => b < a)
theorem desc_0 {p : Nat → Prop} {es : List Nat} (h : desc 0 p es) : es = [] := by
  cases es with
  | nil => rfl
  | cons a l => exact absurd ((h.1 a).mp (List.mem_cons_self)).1 (Nat.not_lt_zero _)
theorem desc_y {n : Nat} {p : Nat → Prop} {es : List Nat} (h : desc (n + 1) p es) (hp : p n) : ∃ l, es = n :: l ∧ desc n p l := by
  have hm : n ∈ es := (h.1 n).mpr ⟨Nat.lt_succ_self n, hp⟩
  cases es with
  | nil => exact absurd hm List.not_mem_nil
  | cons a l =>
    have hw := List.pairwise_cons.mp h.2
    have ha : a < n + 1 := ((h.1 a).mp (List.mem_cons_self)).1
    have e : a = n := by
      rcases List.mem_cons.mp hm with e | e
      · exact e.symm
      · have := hw.1 n e; omega
    subst e
    refine ⟨l, rfl, fun q => ⟨fun hq => ⟨hw.1 q hq, ((h.1 q).mp (List.mem_cons_of_mem _ hq)).2⟩, fun hq => ?_⟩, hw.2⟩
    rcases List.mem_cons.mp ((h.1 q).mpr ⟨by omega, hq.2⟩) with e | e
    · omega
    · exact e
theorem desc_n {n : Nat} {p : Nat → Prop} {es : List Nat} (h : desc (n + 1) p es) (hp : ¬ p n) : desc n p es := by
  refine ⟨fun q => ⟨fun hq => ?_, fun hq => (h.1 q).mpr ⟨by omega, hq.2⟩⟩, h.2⟩
  have := (h.1 q).mp hq
  refine ⟨?_, this.2⟩
  rcases Nat.lt_or_ge q n with e | e
  · exact e
  · have : q = n := by omega
    subst this
    exact absurd ((h.1 q).mp hq).2 hp
theorem desc_len {p : Nat → Prop} [DecidablePred p] : ∀ (n : Nat) (es : List Nat), desc n p es → es.length ≤ n := by
  intro n
  induction n with
  | zero => intro es h; rw [desc_0 h]; exact Nat.le_refl 0
  | succ n ih =>
    intro es h
    by_cases hp : p n
    · obtain ⟨l, rfl, hl⟩ := desc_y h hp
      exact Nat.succ_le_succ (ih l hl)
    · exact Nat.le_succ_of_le (ih es (desc_n h hp))
theorem desc_sum {p : Nat → Prop} [DecidablePred p] (g : Nat → Int32) : ∀ (n : Nat) (es : List Nat), desc n p es → ∀ a : Int32, es.foldl (fun s e => s + g e) a = a + itN (fun e s => s + if p e then g e else 0) 0 n := by
  intro n
  induction n with
  | zero => intro es h a; rw [desc_0 h]; show a = a + 0; simp
  | succ n ih =>
    intro es h a
    have st : itN (fun e s => s + if p e then g e else (0 : Int32)) 0 (n + 1) = itN (fun e s => s + if p e then g e else 0) 0 n + if p n then g n else 0 := rfl
    rw [st]
    by_cases hp : p n
    · obtain ⟨l, rfl, hl⟩ := desc_y h hp
      rw [List.foldl_cons, ih l hl, if_pos hp]
      simp only [Int32.add_assoc, Int32.add_comm (g n)]
    · rw [ih es (desc_n h hp), if_neg hp]
      simp
/-- the first of a chain that fits is the last that fits, counted up -/
theorem desc_find {α : Type} {p : Nat → Prop} [DecidablePred p] (c : Nat → Bool) (g : Nat → α) (z : α) : ∀ (n : Nat) (es : List Nat), desc n p es → (match es.find? c with | some e => g e | none => z) = itN (fun e s => if p e ∧ c e = true then g e else s) z n := by
  intro n
  induction n with
  | zero => intro es h; rw [desc_0 h]; rfl
  | succ n ih =>
    intro es h
    have st : itN (fun e s => if p e ∧ c e = true then g e else s) z (n + 1) = if p n ∧ c n = true then g n else itN (fun e s => if p e ∧ c e = true then g e else s) z n := rfl
    rw [st]
    by_cases hp : p n
    · obtain ⟨l, rfl, hl⟩ := desc_y h hp
      by_cases hc : c n = true
      · rw [List.find?_cons_of_pos hc, if_pos ⟨hp, hc⟩]
      · rw [List.find?_cons_of_neg hc, if_neg (fun q => hc q.2)]
        exact ih l hl
    · rw [if_neg (fun q => hp q.1)]
      exact ih es (desc_n h hp)
section M4
variable {ae k : Nat} {M : Nat → Nat → Nat} {x : MS} {S : CS}
theorem ev_holds (n : Nat × Nat) {a : Nat} (hd : cD S a = 5) (d : Int32) : fX4_holds n S a d = some (bI (isB d (cI S 100 a) (cI S 101 a))) := by
  simp [fX4_holds, grd, bnd, hd, ev_within]
theorem ev_left_lp (n : Nat × Nat) (d : Int32) : ∀ (es : List Nat) (o : Option Nat) (fuel : Nat) (acc : Int32), chn S 5 103 (M 7) o es → es.length < fuel → fX0_parcelsLeftOn_lp7 n S d fuel acc o = some (es.foldl (fun s e => s + if isB d (cI S 100 (M 7 e)) (cI S 101 (M 7 e)) then cI S 102 (M 7 e) else 0) acc)
  | es, o, 0, acc, _, hf => absurd hf (Nat.not_lt_zero _)
  | [], o, fuel + 1, acc, h, _ => by
    have h : o = none := h
    subst h
    rfl
  | e :: es, o, fuel + 1, acc, h, hf => by
    obtain ⟨rfl, hd, ht⟩ := h
    have ih := fun acc => ev_left_lp n d es _ fuel acc ht (by simp at hf; omega)
    simp only [fX0_parcelsLeftOn_lp7, oel, grd, hd, if_true, ev_holds n hd, cal, bnd, List.foldl_cons]
    cases hb : isB d (cI S 100 (M 7 e)) (cI S 101 (M 7 e))
    · rw [if_pos (show bI false = 0 from rfl), ih]
      simp
    · rw [if_neg (show ¬ bI true = 0 by decide), ih]
      simp
theorem fold_cong {α : Type} {f g : α → Nat → α} : ∀ (es : List Nat) (a : α), (∀ e ∈ es, ∀ s, f s e = g s e) → es.foldl f a = es.foldl g a
  | [], _, _ => rfl
  | e :: es, a, h => by
    rw [List.foldl_cons, List.foldl_cons, h e (List.mem_cons_self)]
    exact fold_cong es _ (fun q hq => h q (List.mem_cons_of_mem _ hq))
theorem it_cong {α : Type} {f g : Nat → α → α} {a : α} : ∀ n, (∀ i, i < n → ∀ s, f i s = g i s) → itN f a n = itN g a n
  | 0, _ => (itN_0 _ _).trans (itN_0 _ _).symm
  | n + 1, h => by
    show f n (itN f a n) = g n (itN g a n)
    rw [it_cong n (fun i hi => h i (by omega)), h n (by omega)]
theorem st_allowed (n : Nat × Nat) (hn : 30000 ≤ n.1) (h : Rep ae k M x S) (a b : Int32) : fX11_allowed n S (M 0 0) a b = some (if ixB (mI x 16) a && isB b 0 1000 then allowedN x a b (nN x 20) else -1) := by
  have hF := g_rFix h
  unfold fX11_allowed
  simp only [grd, bnd, cal, onn, hF.1, ev_findFamily n h, ev_within, if_true]
  cases hb : ixB (mI x 16) a
  · simp [oel]
  · cases h2 : isB b 0 1000
    · simp [oel, bI]
    · obtain ⟨j, hj, rfl⟩ := ixB_of (g_rOk h).2.2.2.1 hb (by decide)
      have hj4 := (g_rOk h).2.2.2.1.2
      have h100 := (g_rOk h).2.2.2.2.1.2
      have hj2 : j < 2 ^ 31 := by omega
      obtain ⟨inj, hE, hC⟩ := g_rRef h
      obtain ⟨hd, es, h1, h3, h4⟩ := hC j hj
      have hds : desc (nN x 20) (fun e => mA x 21 e = nI j) es := ⟨h3, h4⟩
      have hlen := desc_len _ es hds
      simp only [oel, bI, if_true, nI_clamp hj2, hd, fX0_parcelsLeftOn, grd, bnd, cal, Bool.and_self]
      rw [if_neg (by decide), ev_left_lp n b es _ n.1 0 h1 (by omega)]
      simp only []
      congr 1
      rw [fold_cong (g := fun s e => s + (fun e => if isB b (mA x 22 e) (mA x 23 e) then mA x 24 e else 0) e) es 0 (fun e he s => by
        have q := hE e ((h3 e).mp he).1
        rw [q.2.1, q.2.2.1, q.2.2.2.1]), desc_sum _ _ es hds]
      rw [Int32.zero_add]
      unfold allowedN
      refine it_cong _ (fun e he s => ?_)
      have q := (hE e he).2.2.2.2
      unfold letsB
      by_cases c1 : mA x 21 e = nI j
      · cases c2 : isB b (mA x 22 e) (mA x 23 e)
        · simp [c1]
        · by_cases c3 : 0 < mA x 24 e
          · simp [c1, c3]
          · have : mA x 24 e = 0 := Int32.le_antisymm (by rw [Int32.le_iff_toInt_le]; rw [Int32.lt_iff_toInt_lt] at c3; omega) q
            simp [c1, this]
      · simp [c1]
theorem st_led (n : Nat × Nat) (h : Rep ae k M x S) (a b : Int32) : fX11_led n S (M 0 0) a b = some (ledF x a b) := by
  have hF := g_rFix h
  unfold fX11_led ledF
  simp only [grd, bnd, cal, onn, hF.1, ev_findFamily n h, ev_within, if_true]
  cases hb : ixB (mI x 16) b
  · simp [oel]
  · cases h2 : isB a 0 19
    · simp [oel, bI]
    · obtain ⟨j, hj, rfl⟩ := ixB_of (g_rOk h).2.2.2.1 hb (by decide)
      obtain ⟨i, hi, rfl⟩ := isB_nI h2 (n := 20) (by decide) (by decide)
      have hj3 := (g_rOk h).2.2.2.1.2
      have hj2 : j < 2 ^ 31 := by omega
      have hi2 : i < 2 ^ 31 := by omega
      have hf := g_rFam h j hj
      have hG := (g_rHad h j hj).2 i hi
      have hv : ¬ (nI i < 0 ∨ cN S (M 6 j) ≤ (nI i).toNatClampNeg) := by rw [hf.2.2.2.2.2]; exact vp_in_nI hi (by decide)
      rw [nI_clamp hi2] at hv
      simp only [oel, bI, if_true, nI_clamp hj2, nI_clamp hi2, hf.1, hf.2.2.2.1, hf.2.2.2.2.1, hG, Bool.and_self]
      rw [if_neg (by decide), if_pos hv]
theorem ev_known_lp (n : Nat × Nat) (d : Int32) : ∀ (es : List Nat) (o : Option Nat) (fuel : Nat), chn S 11 222 (M 8) o es → es.length < fuel → fX2_gramsAsKnown_lp5 n S d fuel o = some (match es.find? (fun e => !decide (d < cI S 221 (M 8 e))) with | some e => (0, some (M 8 e)) | none => (1, none))
  | es, o, 0, _, hf => absurd hf (Nat.not_lt_zero _)
  | [], o, fuel + 1, h, _ => by
    have h : o = none := h
    subst h
    rfl
  | e :: es, o, fuel + 1, h, hf => by
    obtain ⟨rfl, hd, ht⟩ := h
    have ih := ev_known_lp n d es _ fuel ht (by simp at hf; omega)
    simp only [fX2_gramsAsKnown_lp5, oel, grd, hd, if_true, bnd]
    by_cases c : d < cI S 221 (M 8 e)
    · rw [if_pos c, List.find?_cons_of_neg (by simp [c])]
      exact ih
    · rw [if_neg c, List.find?_cons_of_pos (by simp [c])]
theorem wN_eq (x : MS) (j : Nat) (d : Int32) (m : Nat) : wN x j d m = itN (fun e s => if mA x 66 e = nI j ∧ (!decide (d < mA x 68 e)) = true then mA x 67 e else s) (mA x 6 j) m := by
  unfold wN
  refine it_cong _ (fun e he s => ?_)
  by_cases c : d < mA x 68 e
  · rw [if_neg (fun q => q.2 c), if_neg (fun q => by rw [decide_eq_true c] at q; exact absurd q.2 (by decide))]
  · by_cases c1 : mA x 66 e = nI j
    · rw [if_pos ⟨c1, c⟩, if_pos ⟨c1, by rw [decide_eq_false c]; rfl⟩]
    · rw [if_neg (fun q => c1 q.1), if_neg (fun q => c1 q.1)]
theorem find_eq {S : CS} {M : Nat → Nat → Nat} {x : MS} (d : Int32) (l : List Nat) (hl : ∀ e ∈ l, cI S 221 (M 8 e) = mA x 68 e) : l.find? (fun e => !decide (d < cI S 221 (M 8 e))) = l.find? (fun e => !decide (d < mA x 68 e)) := by
  induction l with
  | nil => exact List.find?_nil.trans List.find?_nil.symm
  | cons e l ih =>
    rw [List.find?_cons, List.find?_cons, hl e (List.mem_cons_self), ih (fun e he => hl e (List.mem_cons_of_mem _ he))]
theorem ev_known (n : Nat × Nat) (hn : 30000 ≤ n.1) (h : Rep ae k M x S) {j : Nat} (hj : j < nN x 4) (d : Int32) : fX2_gramsAsKnown n S (M 1 j) d = some (wN x j d (nN x 65)) := by
  obtain ⟨inj, hW, hC⟩ := g_rWei h
  obtain ⟨hd, ws, h1, h2, h3⟩ := hC j hj
  have hL := g_rLot h j hj
  have h100 := (g_rOk h).2.2.2.2.2.2.2.1.2
  have hds : desc (nN x 65) (fun e => mA x 66 e = nI j) ws := ⟨h2, h3⟩
  have hlen := desc_len _ ws hds
  have ef := desc_find (fun e => !decide (d < mA x 68 e)) (mA x 67) (mA x 6 j) _ ws hds
  have eq := find_eq (S := S) (M := M) (x := x) d ws (fun e he => (hW e ((h2 e).mp he).1).2.2)
  rw [wN_eq, ← ef]
  unfold fX2_gramsAsKnown
  have lp := ev_known_lp n d ws _ n.1 h1 (by omega)
  rw [eq] at lp
  simp only [grd, bnd, hd, if_true, lp]
  cases e : ws.find? (fun e => !decide (d < mA x 68 e)) with
  | none =>
    simp only [cal, un2]
    rw [if_neg (by decide), hL.2.2.2.1]
  | some w =>
    have hw := hW w ((h2 w).mp (List.mem_of_find?_eq_some e)).1
    simp only [cal, un2, onn, hw.1, hw.2.1, if_true]
end M4

