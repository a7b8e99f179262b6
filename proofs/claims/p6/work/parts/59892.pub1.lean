/-! step, meet, treat -/
theorem hI_si {h : mH} {a j : Nat} {v : Int} (e : aSlot h a j = some (sI v)) (hv : sR v) : hI h a j = v := by rw [hI_of e]; exact sR_i hv
section PUB1
variable {sc : List Int32} {d : Nat} {h g h1 g1 : mH}
theorem nR_move {a U D : Nat} (hr : nR h g) (ha : a < 6) (hU : hI h 3 4 = (U : Int)) (hU6 : U < 64) (h6 : hI h 3 3 ≤ 6) (hD : hI h 3 5 = (D : Int)) (hD4 : D < 40) (x : ∀ p m, aSlot h1 p m = if p = 3 ∧ m = 5 then some (sI ((D : Int) + 1)) else if p = 6 ∧ m = D then some (sI ((64 * 0 + 8 * a + a : Nat) : Int)) else if p = 3 ∧ m = 4 then some (sI ((bxo U a : Nat) : Int)) else aSlot h p m) (y : ∀ p m, aSlot g1 p m = if p = 58 ∧ m = 43 then some (sI ((bxo U a : Nat) : Int)) else if p = 58 ∧ m = 80 then some (sI ((D : Int) + 1)) else if p = 58 ∧ m = 81 + (3 * D + 2) then some (sI ((0 : Nat) : Int)) else if p = 58 ∧ m = 81 + (3 * D + 1) then some (sI (a : Int)) else if p = 58 ∧ m = 81 + 3 * D then some (sI ((0 : Nat) : Int)) else aSlot g p m) : nR h1 g1 := by
  have hx := bxo_lt U hU6 a ha
  obtain ⟨a1, a2, a3, a4, a5, a6⟩ := id hr
  have sr : ∀ z : Int, 0 ≤ z → z ≤ 1000 → sR z := fun z z0 z1 => by unfold sR aMi aMa; omega
  have p3 : hI h1 3 3 = hI h 3 3 := hI_cg (by rw [x, if_neg (by omega), if_neg (by omega), if_neg (by omega)])
  refine nR_deed hr hD p3 (hI_cg (by rw [y, if_neg (by omega), if_neg (by omega), if_neg (by omega), if_neg (by omega), if_neg (by omega)])) ?_ (hI_si (by rw [x, if_pos (by omega)]) (sr _ (by omega) (by omega))) (hI_si (by rw [y, if_neg (by omega), if_pos (by omega)]) (sr _ (by omega) (by omega))) (fun b => hI_cg (by rw [x, if_neg (by omega), if_neg (by omega), if_neg (by omega)])) (fun b hb => hI_cg (by rw [y, if_neg (by omega), if_neg (by omega), if_neg (by omega), if_neg (by omega), if_neg (by omega)])) (fun b c hb hc => ?_) ?_ (fun i hi => hI_cg (by rw [x, if_neg (by omega), if_neg (by omega), if_neg (by omega)])) (fun j hj => hI_cg (by rw [y, if_neg (by omega), if_neg (by omega), if_neg (by omega), if_neg (by omega), if_neg (by omega)])) ?_
  · rw [hI_si (h := h1) (v := ((bxo U a : Nat) : Int)) (by rw [x, if_neg (by omega), if_neg (by omega), if_pos (by omega)]) (sr _ (by omega) (by omega)), hI_si (h := g1) (v := ((bxo U a : Nat) : Int)) (by rw [y, if_pos (by omega)]) (sr _ (by omega) (by omega))]
  · rw [hI_cg (h := h) (h1 := h1) (by rw [x, if_neg (by omega), if_neg (by omega), if_neg (by omega)]), hI_cg (h := g) (h1 := g1) (by rw [y, if_neg (by omega), if_neg (by omega), if_neg (by omega), if_neg (by omega), if_neg (by omega)])]
    exact (a4 b hb).2 c hc
  · have e7 : hJ h1 3 6 = hJ h 3 6 := by unfold hJ; rw [x, if_neg (by omega), if_neg (by omega), if_neg (by omega)]
    rw [e7]
    exact tR_cg (fun j hj => hI_cg (by rw [y, if_neg (by omega), if_neg (by omega), if_neg (by omega), if_neg (by omega), if_neg (by omega)])) a5
  · exact ⟨0, a, a, by decide, ha, ha, hI_si (by rw [x, if_neg (by omega), if_pos (by omega)]) (sr _ (by omega) (by omega)), hI_si (by rw [y, if_neg (by omega), if_neg (by omega), if_neg (by omega), if_neg (by omega), if_pos (by omega)]) (sr _ (by omega) (by omega)), hI_si (by rw [y, if_neg (by omega), if_neg (by omega), if_neg (by omega), if_pos (by omega)]) (sr _ (by omega) (by omega)), fun q => absurd rfl q⟩
theorem nR_see {a b D : Nat} {v : Int} (hr : nR h g) (ha : a < 6) (hb : b < 6) (v0 : 0 ≤ v) (v9 : v ≤ 9) (h6 : hI h 3 3 ≤ 6) (hD : hI h 3 5 = (D : Int)) (hD4 : D < 40) (x : ∀ p m, aSlot h1 p m = if p = 3 ∧ m = 5 then some (sI ((D : Int) + 1)) else if p = 6 ∧ m = D then some (sI ((64 * 1 + 8 * a + b : Nat) : Int)) else if p = 5 ∧ m = 6 * a + b then some (sI v) else aSlot h p m) (y : ∀ p m, aSlot g1 p m = if p = 58 ∧ m = 7 + (6 * a + b) then some (sI v) else if p = 58 ∧ m = 80 then some (sI ((D : Int) + 1)) else if p = 58 ∧ m = 81 + (3 * D + 2) then some (sI (b : Int)) else if p = 58 ∧ m = 81 + (3 * D + 1) then some (sI (a : Int)) else if p = 58 ∧ m = 81 + 3 * D then some (sI ((1 : Nat) : Int)) else aSlot g p m) : nR h1 g1 := by
  obtain ⟨a1, a2, a3, a4, a5, a6⟩ := id hr
  have sr : ∀ z : Int, 0 ≤ z → z ≤ 1000 → sR z := fun z z0 z1 => by unfold sR aMi aMa; omega
  have p3 : hI h1 3 3 = hI h 3 3 := hI_cg (by rw [x, if_neg (by omega), if_neg (by omega), if_neg (by omega)])
  refine nR_deed hr hD p3 (hI_cg (by rw [y, if_neg (by omega), if_neg (by omega), if_neg (by omega), if_neg (by omega), if_neg (by omega)])) ?_ (hI_si (by rw [x, if_pos (by omega)]) (sr _ (by omega) (by omega))) (hI_si (by rw [y, if_neg (by omega), if_pos (by omega)]) (sr _ (by omega) (by omega))) (fun b => hI_cg (by rw [x, if_neg (by omega), if_neg (by omega), if_neg (by omega)])) (fun b hb => hI_cg (by rw [y, if_neg (by omega), if_neg (by omega), if_neg (by omega), if_neg (by omega), if_neg (by omega)])) (fun e c he hc => ?_) ?_ (fun i hi => hI_cg (by rw [x, if_neg (by omega), if_neg (by omega), if_neg (by omega)])) (fun j hj => hI_cg (by rw [y, if_neg (by omega), if_neg (by omega), if_neg (by omega), if_neg (by omega), if_neg (by omega)])) ?_
  · rw [hI_cg (h := h) (h1 := h1) (by rw [x, if_neg (by omega), if_neg (by omega), if_neg (by omega)]), hI_cg (h := g) (h1 := g1) (by rw [y, if_neg (by omega), if_neg (by omega), if_neg (by omega), if_neg (by omega), if_neg (by omega)])]
    exact a2
  · by_cases w : 6 * e + c = 6 * a + b
    · rw [w, hI_si (h := h1) (v := v) (by rw [x, if_neg (by omega), if_neg (by omega), if_pos (by omega)]) (sr _ (by omega) (by omega)), hI_si (h := g1) (v := v) (by rw [y, if_pos (by omega)]) (sr _ (by omega) (by omega))]
    · rw [hI_cg (h := h) (h1 := h1) (by rw [x, if_neg (by omega), if_neg (by omega), if_neg (by omega)]), hI_cg (h := g) (h1 := g1) (by rw [y, if_neg (by omega), if_neg (by omega), if_neg (by omega), if_neg (by omega), if_neg (by omega)])]
      exact (a4 e he).2 c hc
  · have e7 : hJ h1 3 6 = hJ h 3 6 := by unfold hJ; rw [x, if_neg (by omega), if_neg (by omega), if_neg (by omega)]
    rw [e7]
    exact tR_cg (fun j hj => hI_cg (by rw [y, if_neg (by omega), if_neg (by omega), if_neg (by omega), if_neg (by omega), if_neg (by omega)])) a5
  · exact ⟨1, a, b, by decide, ha, hb, hI_si (by rw [x, if_neg (by omega), if_pos (by omega)]) (sr _ (by omega) (by omega)), hI_si (by rw [y, if_neg (by omega), if_neg (by omega), if_neg (by omega), if_neg (by omega), if_pos (by omega)]) (sr _ (by omega) (by omega)), hI_si (by rw [y, if_neg (by omega), if_neg (by omega), if_neg (by omega), if_pos (by omega)]) (sr _ (by omega) (by omega)), fun _ => hI_si (by rw [y, if_neg (by omega), if_neg (by omega), if_pos (by omega)]) (sr _ (by omega) (by omega))⟩
theorem nR_bind {a b D : Nat} (hr : nR h g) (ha : a < 6) (hb : b < 6) (hab : a ≠ b) (h6 : hI h 3 3 ≤ 6) (hD : hI h 3 5 = (D : Int)) (hD4 : D < 40) (x : ∀ p m, aSlot h1 p m = if p = 3 ∧ m = 5 then some (sI ((D : Int) + 1)) else if p = 6 ∧ m = D then some (sI ((64 * 2 + 8 * a + b : Nat) : Int)) else if p = 3 ∧ m = 6 then some (.long (hJ h 3 6 ||| pBt a b)) else aSlot h p m) (y : ∀ p m, aSlot g1 p m = if p = 58 ∧ m = 44 + (6 * b + a) then some (sI 1) else if p = 58 ∧ m = 44 + (6 * a + b) then some (sI 1) else if p = 58 ∧ m = 80 then some (sI ((D : Int) + 1)) else if p = 58 ∧ m = 81 + (3 * D + 2) then some (sI (b : Int)) else if p = 58 ∧ m = 81 + (3 * D + 1) then some (sI (a : Int)) else if p = 58 ∧ m = 81 + 3 * D then some (sI ((2 : Nat) : Int)) else aSlot g p m) : nR h1 g1 := by
  obtain ⟨a1, a2, a3, a4, a5, a6⟩ := id hr
  have sr : ∀ z : Int, 0 ≤ z → z ≤ 1000 → sR z := fun z z0 z1 => by unfold sR aMi aMa; omega
  have p3 : hI h1 3 3 = hI h 3 3 := hI_cg (by rw [x, if_neg (by omega), if_neg (by omega), if_neg (by omega)])
  refine nR_deed hr hD p3 (hI_cg (by rw [y, if_neg (by omega), if_neg (by omega), if_neg (by omega), if_neg (by omega), if_neg (by omega), if_neg (by omega)])) ?_ (hI_si (by rw [x, if_pos (by omega)]) (sr _ (by omega) (by omega))) (hI_si (by rw [y, if_neg (by omega), if_neg (by omega), if_pos (by omega)]) (sr _ (by omega) (by omega))) (fun b => hI_cg (by rw [x, if_neg (by omega), if_neg (by omega), if_neg (by omega)])) (fun b hb => hI_cg (by rw [y, if_neg (by omega), if_neg (by omega), if_neg (by omega), if_neg (by omega), if_neg (by omega), if_neg (by omega)])) (fun e c he hc => ?_) ?_ (fun i hi => hI_cg (by rw [x, if_neg (by omega), if_neg (by omega), if_neg (by omega)])) (fun j hj => hI_cg (by rw [y, if_neg (by omega), if_neg (by omega), if_neg (by omega), if_neg (by omega), if_neg (by omega), if_neg (by omega)])) ?_
  · rw [hI_cg (h := h) (h1 := h1) (by rw [x, if_neg (by omega), if_neg (by omega), if_neg (by omega)]), hI_cg (h := g) (h1 := g1) (by rw [y, if_neg (by omega), if_neg (by omega), if_neg (by omega), if_neg (by omega), if_neg (by omega), if_neg (by omega)])]
    exact a2
  · rw [hI_cg (h := h) (h1 := h1) (by rw [x, if_neg (by omega), if_neg (by omega), if_neg (by omega)]), hI_cg (h := g) (h1 := g1) (by rw [y, if_neg (by omega), if_neg (by omega), if_neg (by omega), if_neg (by omega), if_neg (by omega), if_neg (by omega)])]
    exact (a4 e he).2 c hc
  · have e7 : hJ h1 3 6 = hJ h 3 6 ||| pBt a b := hJ_of (by rw [x, if_neg (by omega), if_neg (by omega), if_pos (by omega)])
    rw [e7]
    refine tR_set ha hb hab (tR_cg (f1 := fun j => if j < 36 then hI g 58 (44 + j) else hI g1 58 (44 + j)) (fun j hj => by show (if j < 36 then _ else _) = _; rw [if_pos hj]) a5) (fun j => ?_)
    show hI g1 58 (44 + j) = if j = 6 * b + a then 1 else if j = 6 * a + b then 1 else if j < 36 then hI g 58 (44 + j) else hI g1 58 (44 + j)
    by_cases w1 : j = 6 * b + a
    · rw [if_pos w1]
      exact hI_si (by rw [y, if_pos (by omega)]) (sr _ (by omega) (by omega))
    · rw [if_neg w1]
      by_cases w2 : j = 6 * a + b
      · rw [if_pos w2]
        exact hI_si (by rw [y, if_neg (by omega), if_pos (by omega)]) (sr _ (by omega) (by omega))
      · rw [if_neg w2]
        by_cases w3 : j < 36
        · rw [if_pos w3]
          exact hI_cg (by rw [y, if_neg (by omega), if_neg (by omega), if_neg (by omega), if_neg (by omega), if_neg (by omega), if_neg (by omega)])
        · rw [if_neg w3]
  · exact ⟨2, a, b, by decide, ha, hb, hI_si (by rw [x, if_neg (by omega), if_pos (by omega)]) (sr _ (by omega) (by omega)), hI_si (by rw [y, if_neg (by omega), if_neg (by omega), if_neg (by omega), if_neg (by omega), if_neg (by omega), if_pos (by omega)]) (sr _ (by omega) (by omega)), hI_si (by rw [y, if_neg (by omega), if_neg (by omega), if_neg (by omega), if_neg (by omega), if_pos (by omega)]) (sr _ (by omega) (by omega)), fun _ => hI_si (by rw [y, if_neg (by omega), if_neg (by omega), if_neg (by omega), if_pos (by omega)]) (sr _ (by omega) (by omega))⟩
theorem fStepXb {a : Int} (hh : aHp h) (ra : sR a) (hc : ¬ (0 ≤ a ∧ a < hI h 3 3)) : nEv sc (d + 3) 55 [.ref 0, sI a] h (some (sI (-1)), h) := by
  have gp := hI_rg hh xw_p
  have gd := hI_rg hh xw_d
  unfold sR aMi aMa at ra
  refine nEv_of (t := mMe55) rfl ?_
  show nRn sc (d + 2) (mMT mMe55) (mMC mMe55) (0, [some (.ref 0), some (sI a)], [], h) _
  refine sP 1 (g1 := (1, [some (.ref 0), some (sI a)], [.ref 0], h)) rfl ?_
  refine s_get (a := 0) (j := 2) hh rfl ⟨_, rfl⟩ rfl rfl rfl (v := .ref 3) (hR_ok hh (by decide +kernel)) ?_
  refine sP 1 (g1 := (3, [some (.ref 0), some (sI a)], [sI a, .ref 3], h)) rfl ?_
  have ev1 := fHasX (sc := sc) (d := d + 1) (a := a) hh (by unfold sR aMi aMa; omega)
  rw [if_neg (by omega)] at ev1
  refine s_call (k := 35) (args := [.ref 3, sI a]) (st := []) (v := some (sI 0)) (h1 := h) rfl ⟨rfl, rfl⟩ rfl rfl rfl rfl (sRcv hh (a := 3) rfl rfl) rfl ev1 ?_
  refine s_ifc (q := .ne) (a := 0) rfl ⟨_, rfl⟩ rfl (by unfold sR aMi aMa; omega) (fun hc2 => ?_) (fun hc2 => ?_)
  · have hc2 : (0 : Int) ≠ 0 := hc2
    omega
  · have hc2 : ¬ ((0 : Int) ≠ 0) := hc2
    refine sP 1 (g1 := (6, [some (.ref 0), some (sI a)], [sI ((-1))], h)) rfl ?_
    exact s_reti rfl rfl (Or.inl rfl) rfl rfl
theorem fStepXf {a : Int} (hh : aHp h) (ra : sR a) (hc : (0 ≤ a ∧ a < hI h 3 3) ∧ hI h 3 5 = 40) : nEv sc (d + 3) 55 [.ref 0, sI a] h (some (sI (-2)), h) := by
  have gp := hI_rg hh xw_p
  have gd := hI_rg hh xw_d
  unfold sR aMi aMa at ra
  refine nEv_of (t := mMe55) rfl ?_
  show nRn sc (d + 2) (mMT mMe55) (mMC mMe55) (0, [some (.ref 0), some (sI a)], [], h) _
  refine sP 1 (g1 := (1, [some (.ref 0), some (sI a)], [.ref 0], h)) rfl ?_
  refine s_get (a := 0) (j := 2) hh rfl ⟨_, rfl⟩ rfl rfl rfl (v := .ref 3) (hR_ok hh (by decide +kernel)) ?_
  refine sP 1 (g1 := (3, [some (.ref 0), some (sI a)], [sI a, .ref 3], h)) rfl ?_
  have ev1 := fHasX (sc := sc) (d := d + 1) (a := a) hh (by unfold sR aMi aMa; omega)
  rw [if_pos (by omega)] at ev1
  refine s_call (k := 35) (args := [.ref 3, sI a]) (st := []) (v := some (sI 1)) (h1 := h) rfl ⟨rfl, rfl⟩ rfl rfl rfl rfl (sRcv hh (a := 3) rfl rfl) rfl ev1 ?_
  refine s_ifc (q := .ne) (a := 1) rfl ⟨_, rfl⟩ rfl (by unfold sR aMi aMa; omega) (fun hc2 => ?_) (fun hc2 => ?_)
  · have hc2 : (1 : Int) ≠ 0 := hc2
    refine sP 1 (g1 := (8, [some (.ref 0), some (sI a)], [.ref 0], h)) rfl ?_
    refine s_get (a := 0) (j := 2) hh rfl ⟨_, rfl⟩ rfl rfl rfl (v := .ref 3) (hR_ok hh (by decide +kernel)) ?_
    refine s_get (a := 3) (j := 5) hh rfl ⟨_, rfl⟩ rfl rfl rfl (v := sI (hI h 3 5)) (hI_ok hh xw_d) ?_
    refine sP 1 (g1 := (11, [some (.ref 0), some (sI a)], [sI 40, sI (hI h 3 5)], h)) rfl ?_
    refine s_icmp (q := .lt) (a := hI h 3 5) (b := 40) rfl ⟨_, rfl⟩ rfl (by unfold sR aMi aMa; omega) (by unfold sR aMi aMa; omega) (fun hc3 => ?_) (fun hc3 => ?_)
    · have hc3 : ((hI h 3 5) : Int) < 40 := hc3
      omega
    · have hc3 : ¬ (((hI h 3 5) : Int) < 40) := hc3
      refine sP 1 (g1 := (13, [some (.ref 0), some (sI a)], [sI ((-2))], h)) rfl ?_
      exact s_reti rfl rfl (Or.inl rfl) rfl rfl
  · have hc2 : ¬ ((1 : Int) ≠ 0) := hc2
    omega
theorem fStepMb {a : Int} (hh : aHp h) (ra : sR a) (hc : ¬ (0 ≤ a ∧ a < hI h 58 0)) : nEv sc (d + 3) 162 [.ref 53, sI a] h (some (sI (-1)), h) := by
  have gp := hI_rg hh nw_p
  have gd := hI_rg hh nw_d
  unfold sR aMi aMa at ra
  refine nEv_of (t := mMe162) rfl ?_
  show nRn sc (d + 2) (mMT mMe162) (mMC mMe162) (0, [some (.ref 53), some (sI a)], [], h) _
  refine sP 2 (g1 := (2, [some (.ref 53), some (sI a)], [sI a, .ref 53], h)) rfl ?_
  have ev1 := fIsPerson (sc := sc) (d := d + 0) (a := a) hh (by unfold sR aMi aMa; omega)
  rw [if_neg (by omega)] at ev1
  refine s_call (k := 147) (args := [.ref 53, sI a]) (st := []) (v := some (sI 0)) (h1 := h) rfl ⟨rfl, rfl⟩ rfl rfl rfl rfl (sRcv hh (a := 53) rfl rfl) rfl ev1 ?_
  refine s_ifc (q := .ne) (a := 0) rfl ⟨_, rfl⟩ rfl (by unfold sR aMi aMa; omega) (fun hc2 => ?_) (fun hc2 => ?_)
  · have hc2 : (0 : Int) ≠ 0 := hc2
    omega
  · have hc2 : ¬ ((0 : Int) ≠ 0) := hc2
    refine sP 1 (g1 := (5, [some (.ref 53), some (sI a)], [sI ((-1))], h)) rfl ?_
    exact s_reti rfl rfl (Or.inl rfl) rfl rfl
theorem fStepMf {a : Int} (hh : aHp h) (ra : sR a) (hc : (0 ≤ a ∧ a < hI h 58 0) ∧ hI h 58 80 = 40) : nEv sc (d + 3) 162 [.ref 53, sI a] h (some (sI (-2)), h) := by
  have gp := hI_rg hh nw_p
  have gd := hI_rg hh nw_d
  unfold sR aMi aMa at ra
  refine nEv_of (t := mMe162) rfl ?_
  show nRn sc (d + 2) (mMT mMe162) (mMC mMe162) (0, [some (.ref 53), some (sI a)], [], h) _
  refine sP 2 (g1 := (2, [some (.ref 53), some (sI a)], [sI a, .ref 53], h)) rfl ?_
  have ev1 := fIsPerson (sc := sc) (d := d + 0) (a := a) hh (by unfold sR aMi aMa; omega)
  rw [if_pos (by omega)] at ev1
  refine s_call (k := 147) (args := [.ref 53, sI a]) (st := []) (v := some (sI 1)) (h1 := h) rfl ⟨rfl, rfl⟩ rfl rfl rfl rfl (sRcv hh (a := 53) rfl rfl) rfl ev1 ?_
  refine s_ifc (q := .ne) (a := 1) rfl ⟨_, rfl⟩ rfl (by unfold sR aMi aMa; omega) (fun hc2 => ?_) (fun hc2 => ?_)
  · have hc2 : (1 : Int) ≠ 0 := hc2
    refine sP 1 (g1 := (7, [some (.ref 53), some (sI a)], [.ref 53], h)) rfl ?_
    refine s_call (k := 163) (args := [.ref 53]) (st := []) (v := some (sI (hI h 58 80))) (h1 := h) rfl ⟨rfl, rfl⟩ rfl rfl rfl rfl (sRcv hh (a := 53) rfl rfl) rfl (fDone hh) ?_
    refine sP 1 (g1 := (9, [some (.ref 53), some (sI a)], [sI 40, sI (hI h 58 80)], h)) rfl ?_
    refine s_icmp (q := .ne) (a := hI h 58 80) (b := 40) rfl ⟨_, rfl⟩ rfl (by unfold sR aMi aMa; omega) (by unfold sR aMi aMa; omega) (fun hc3 => ?_) (fun hc3 => ?_)
    · have hc3 : ((hI h 58 80) : Int) ≠ 40 := hc3
      omega
    · have hc3 : ¬ (((hI h 58 80) : Int) ≠ 40) := hc3
      refine sP 1 (g1 := (11, [some (.ref 53), some (sI a)], [sI ((-2))], h)) rfl ?_
      exact s_reti rfl rfl (Or.inl rfl) rfl rfl
  · have hc2 : ¬ ((1 : Int) ≠ 0) := hc2
    omega
theorem fStepX {a U D : Nat} (hh : aHp h) (ha : (a : Int) < hI h 3 3) (hU : hI h 3 4 = (U : Int)) (hD : hI h 3 5 = (D : Int)) (hD4 : D < 40) : ∃ g, nEv sc (d + 3) 55 [.ref 0, sI (a : Int)] h (some (sI ((pcn (bxo U a) : Nat) : Int)), g) ∧ aHp g ∧ ∀ p m, aSlot g p m = if p = 3 ∧ m = 5 then some (sI ((D : Int) + 1)) else if p = 6 ∧ m = D then some (sI ((64 * 0 + 8 * a + a : Nat) : Int)) else if p = 3 ∧ m = 4 then some (sI ((bxo U a : Nat) : Int)) else aSlot h p m := by
  have gp := hI_rg hh xw_p
  have gu := hI_rg hh xw_u
  have ha6 : a < 6 := by omega
  have hx := bxo_lt U (by omega) a ha6
  obtain ⟨g1, r1, r2, r3⟩ := fMove (sc := sc) (d := d) hh ha6 hU hD hD4
  refine ⟨g1, nEv_of (t := mMe55) rfl ?_, r2, r3⟩
  show nRn sc (d + 2) (mMT mMe55) (mMC mMe55) (0, [some (.ref 0), some (sI ((a : Int)))], [], h) _
  refine sP 1 (g1 := (1, [some (.ref 0), some (sI ((a : Int)))], [.ref 0], h)) rfl ?_
  refine s_get (a := 0) (j := 2) hh rfl ⟨_, rfl⟩ rfl rfl rfl (v := .ref 3) (hR_ok hh (by decide +kernel)) ?_
  refine sP 1 (g1 := (3, [some (.ref 0), some (sI ((a : Int)))], [sI ((a : Int)), .ref 3], h)) rfl ?_
  have ev1 := fHasX (sc := sc) (d := d + 1) (a := (a : Int)) hh (by unfold sR aMi aMa; omega)
  rw [if_pos (by omega)] at ev1
  refine s_call (k := 35) (args := [.ref 3, sI ((a : Int))]) (st := []) (v := some (sI 1)) (h1 := h) rfl ⟨rfl, rfl⟩ rfl rfl rfl rfl (sRcv hh (a := 3) rfl rfl) rfl ev1 ?_
  refine s_ifc (q := .ne) (a := 1) rfl ⟨_, rfl⟩ rfl (by unfold sR aMi aMa; omega) (fun hc2 => ?_) (fun hc2 => ?_)
  · have hc2 : (1 : Int) ≠ 0 := hc2
    refine sP 1 (g1 := (8, [some (.ref 0), some (sI ((a : Int)))], [.ref 0], h)) rfl ?_
    refine s_get (a := 0) (j := 2) hh rfl ⟨_, rfl⟩ rfl rfl rfl (v := .ref 3) (hR_ok hh (by decide +kernel)) ?_
    refine s_get (a := 3) (j := 5) hh rfl ⟨_, rfl⟩ rfl rfl rfl (v := sI (hI h 3 5)) (hI_ok hh xw_d) ?_
    refine sP 1 (g1 := (11, [some (.ref 0), some (sI ((a : Int)))], [sI 40, sI (hI h 3 5)], h)) rfl ?_
    refine s_icmp (q := .lt) (a := hI h 3 5) (b := 40) rfl ⟨_, rfl⟩ rfl (by unfold sR aMi aMa; omega) (by unfold sR aMi aMa; omega) (fun hc3 => ?_) (fun hc3 => ?_)
    · have hc3 : ((hI h 3 5) : Int) < 40 := hc3
      refine sP 1 (g1 := (15, [some (.ref 0), some (sI ((a : Int)))], [.ref 0], h)) rfl ?_
      refine s_get (a := 0) (j := 2) hh rfl ⟨_, rfl⟩ rfl rfl rfl (v := .ref 3) (hR_ok hh (by decide +kernel)) ?_
      refine sP 1 (g1 := (17, [some (.ref 0), some (sI ((a : Int)))], [sI ((a : Int)), .ref 3], h)) rfl ?_
      refine s_call (k := 56) (args := [.ref 3, sI ((a : Int))]) (st := []) (v := none) (h1 := g1) rfl ⟨rfl, rfl⟩ rfl rfl rfl rfl (sRcv hh (a := 3) rfl rfl) rfl r1 ?_
      refine sP 1 (g1 := (19, [some (.ref 0), some (sI ((a : Int)))], [.ref 0], g1)) rfl ?_
      refine s_get (a := 0) (j := 2) r2 rfl ⟨_, rfl⟩ rfl rfl rfl (v := .ref 3) (hR_ok r2 (by decide +kernel)) ?_
      refine s_get (a := 3) (j := 4) r2 rfl ⟨_, rfl⟩ rfl rfl rfl (v := sI (((bxo U a : Nat) : Int))) (by rw [r3, if_neg (by omega), if_neg (by omega), if_pos (by omega)]) ?_
      refine s_call (k := 58) (args := [sI (((bxo U a : Nat) : Int))]) (st := []) (v := some (sI (((pcn (bxo U a) : Nat) : Int)))) (h1 := g1) rfl ⟨rfl, rfl⟩ rfl rfl rfl rfl rfl rfl (fBitX (by omega)) ?_
      exact s_reti rfl rfl (Or.inl rfl) rfl rfl
    · have hc3 : ¬ (((hI h 3 5) : Int) < 40) := hc3
      omega
  · have hc2 : ¬ ((1 : Int) ≠ 0) := hc2
    omega
theorem fStepM {a U D : Nat} (hh : aHp h) (ha : (a : Int) < hI h 58 0) (hU : hI h 58 43 = (U : Int)) (hD : hI h 58 80 = (D : Int)) (hD4 : D < 40) : ∃ g, nEv sc (d + 3) 162 [.ref 53, sI (a : Int)] h (some (sI ((pcn (bxo U a) : Nat) : Int)), g) ∧ aHp g ∧ ∀ p m, aSlot g p m = if p = 58 ∧ m = 43 then some (sI ((bxo U a : Nat) : Int)) else if p = 58 ∧ m = 80 then some (sI ((D : Int) + 1)) else if p = 58 ∧ m = 81 + (3 * D + 2) then some (sI ((0 : Nat) : Int)) else if p = 58 ∧ m = 81 + (3 * D + 1) then some (sI (a : Int)) else if p = 58 ∧ m = 81 + 3 * D then some (sI ((0 : Nat) : Int)) else aSlot h p m := by
  have gp := hI_rg hh nw_p
  have gu := hI_rg hh nw_u
  have ha6 : a < 6 := by omega
  have hx := bxo_lt U (by omega) a ha6
  obtain ⟨g1, r1, r2, r3⟩ := fSteps0 (sc := sc) (d := d) hh ha6 hU hD hD4
  refine ⟨g1, nEv_of (t := mMe162) rfl ?_, r2, r3⟩
  show nRn sc (d + 2) (mMT mMe162) (mMC mMe162) (0, [some (.ref 53), some (sI ((a : Int)))], [], h) _
  refine sP 2 (g1 := (2, [some (.ref 53), some (sI ((a : Int)))], [sI ((a : Int)), .ref 53], h)) rfl ?_
  have ev1 := fIsPerson (sc := sc) (d := d + 0) (a := (a : Int)) hh (by unfold sR aMi aMa; omega)
  rw [if_pos (by omega)] at ev1
  refine s_call (k := 147) (args := [.ref 53, sI ((a : Int))]) (st := []) (v := some (sI 1)) (h1 := h) rfl ⟨rfl, rfl⟩ rfl rfl rfl rfl (sRcv hh (a := 53) rfl rfl) rfl ev1 ?_
  refine s_ifc (q := .ne) (a := 1) rfl ⟨_, rfl⟩ rfl (by unfold sR aMi aMa; omega) (fun hc2 => ?_) (fun hc2 => ?_)
  · have hc2 : (1 : Int) ≠ 0 := hc2
    refine sP 1 (g1 := (7, [some (.ref 53), some (sI ((a : Int)))], [.ref 53], h)) rfl ?_
    refine s_call (k := 163) (args := [.ref 53]) (st := []) (v := some (sI (hI h 58 80))) (h1 := h) rfl ⟨rfl, rfl⟩ rfl rfl rfl rfl (sRcv hh (a := 53) rfl rfl) rfl (fDone hh) ?_
    refine sP 1 (g1 := (9, [some (.ref 53), some (sI ((a : Int)))], [sI 40, sI (hI h 58 80)], h)) rfl ?_
    refine s_icmp (q := .ne) (a := hI h 58 80) (b := 40) rfl ⟨_, rfl⟩ rfl (by unfold sR aMi aMa; omega) (by unfold sR aMi aMa; omega) (fun hc3 => ?_) (fun hc3 => ?_)
    · have hc3 : ((hI h 58 80) : Int) ≠ 40 := hc3
      refine sP 2 (g1 := (14, [some (.ref 53), some (sI ((a : Int)))], [sI ((a : Int)), .ref 53], h)) rfl ?_
      refine s_call (k := 164) (args := [.ref 53, sI ((a : Int))]) (st := []) (v := none) (h1 := g1) rfl ⟨rfl, rfl⟩ rfl rfl rfl rfl (sRcv hh (a := 53) rfl rfl) rfl r1 ?_
      refine sP 1 (g1 := (16, [some (.ref 53), some (sI ((a : Int)))], [.ref 53], g1)) rfl ?_
      refine s_get (a := 53) (j := 4) r2 rfl ⟨_, rfl⟩ rfl rfl rfl (v := .ref 58) (hR_ok r2 (by decide +kernel)) ?_
      refine sP 1 (g1 := (18, [some (.ref 53), some (sI ((a : Int)))], [sI 43, .ref 58], g1)) rfl ?_
      refine s_iald (a := 58) (n := 201) (j := 43) r2 rfl rfl rfl (by omega) (by omega) (by decide) (v := sI (((bxo U a : Nat) : Int))) (by show aSlot g1 58 43 = _; rw [r3, if_pos (by omega)]) ?_
      refine s_call (k := 166) (args := [sI (((bxo U a : Nat) : Int))]) (st := []) (v := some (sI (((pcn (bxo U a) : Nat) : Int)))) (h1 := g1) rfl ⟨rfl, rfl⟩ rfl rfl rfl rfl rfl rfl (fBitsM (by omega)) ?_
      exact s_reti rfl rfl (Or.inl rfl) rfl rfl
    · have hc3 : ¬ (((hI h 58 80) : Int) ≠ 40) := hc3
      omega
  · have hc2 : ¬ ((1 : Int) ≠ 0) := hc2
    omega
theorem fMeetXb1 {a b v : Int} (hh : aHp h) (ra : sR a) (rb : sR b) (rv : sR v) (hc : ¬ ((0 ≤ a ∧ a < hI h 3 3) ∧ (0 ≤ b ∧ b < hI h 3 3) ∧ a ≠ b)) : nEv sc (d + 4) 59 [.ref 0, sI a, sI b, sI v] h (some (sI (-1)), h) := by
  have gp := hI_rg hh xw_p
  have gd := hI_rg hh xw_d
  unfold sR aMi aMa at ra rb rv
  refine nEv_of (t := mMe59) rfl ?_
  show nRn sc (d + 3) (mMT mMe59) (mMC mMe59) (0, [some (.ref 0), some (sI a), some (sI b), some (sI v)], [], h) _
  refine sP 1 (g1 := (1, [some (.ref 0), some (sI a), some (sI b), some (sI v)], [.ref 0], h)) rfl ?_
  refine s_get (a := 0) (j := 2) hh rfl ⟨_, rfl⟩ rfl rfl rfl (v := .ref 3) (hR_ok hh (by decide +kernel)) ?_
  refine sP 2 (g1 := (4, [some (.ref 0), some (sI a), some (sI b), some (sI v)], [sI b, sI a, .ref 3], h)) rfl ?_
  have ev1 := fHasTwoX (sc := sc) (d := d + 1) (a := a) (b := b) hh (by unfold sR aMi aMa; omega) (by unfold sR aMi aMa; omega)
  rw [if_neg (by omega)] at ev1
  refine s_call (k := 60) (args := [.ref 3, sI a, sI b]) (st := []) (v := some (sI 0)) (h1 := h) rfl ⟨rfl, rfl⟩ rfl rfl rfl rfl (sRcv hh (a := 3) rfl rfl) rfl ev1 ?_
  refine s_ifc (q := .eq) (a := 0) rfl ⟨_, rfl⟩ rfl (by unfold sR aMi aMa; omega) (fun hc2 => ?_) (fun hc2 => ?_)
  · have hc2 : (0 : Int) = 0 := hc2
    refine sP 1 (g1 := (13, [some (.ref 0), some (sI a), some (sI b), some (sI v)], [sI ((-1))], h)) rfl ?_
    exact s_reti rfl rfl (Or.inl rfl) rfl rfl
  · have hc2 : ¬ ((0 : Int) = 0) := hc2
    omega
theorem fMeetXb2 {a b v : Int} (hh : aHp h) (ra : sR a) (rb : sR b) (rv : sR v) (hc : ((0 ≤ a ∧ a < hI h 3 3) ∧ (0 ≤ b ∧ b < hI h 3 3) ∧ a ≠ b) ∧ ¬ (1 ≤ v ∧ v ≤ 9)) : nEv sc (d + 4) 59 [.ref 0, sI a, sI b, sI v] h (some (sI (-1)), h) := by
  have gp := hI_rg hh xw_p
  have gd := hI_rg hh xw_d
  unfold sR aMi aMa at ra rb rv
  refine nEv_of (t := mMe59) rfl ?_
  show nRn sc (d + 3) (mMT mMe59) (mMC mMe59) (0, [some (.ref 0), some (sI a), some (sI b), some (sI v)], [], h) _
  refine sP 1 (g1 := (1, [some (.ref 0), some (sI a), some (sI b), some (sI v)], [.ref 0], h)) rfl ?_
  refine s_get (a := 0) (j := 2) hh rfl ⟨_, rfl⟩ rfl rfl rfl (v := .ref 3) (hR_ok hh (by decide +kernel)) ?_
  refine sP 2 (g1 := (4, [some (.ref 0), some (sI a), some (sI b), some (sI v)], [sI b, sI a, .ref 3], h)) rfl ?_
  have ev1 := fHasTwoX (sc := sc) (d := d + 1) (a := a) (b := b) hh (by unfold sR aMi aMa; omega) (by unfold sR aMi aMa; omega)
  rw [if_pos (by omega)] at ev1
  refine s_call (k := 60) (args := [.ref 3, sI a, sI b]) (st := []) (v := some (sI 1)) (h1 := h) rfl ⟨rfl, rfl⟩ rfl rfl rfl rfl (sRcv hh (a := 3) rfl rfl) rfl ev1 ?_
  refine s_ifc (q := .eq) (a := 1) rfl ⟨_, rfl⟩ rfl (by unfold sR aMi aMa; omega) (fun hc2 => ?_) (fun hc2 => ?_)
  · have hc2 : (1 : Int) = 0 := hc2
    omega
  · have hc2 : ¬ ((1 : Int) = 0) := hc2
    refine sP 2 (g1 := (8, [some (.ref 0), some (sI a), some (sI b), some (sI v)], [sI 1, sI v], h)) rfl ?_
    refine s_icmp (q := .lt) (a := v) (b := 1) rfl ⟨_, rfl⟩ rfl (by unfold sR aMi aMa; omega) (by unfold sR aMi aMa; omega) (fun hc3 => ?_) (fun hc3 => ?_)
    · have hc3 : (v : Int) < 1 := hc3
      refine sP 1 (g1 := (13, [some (.ref 0), some (sI a), some (sI b), some (sI v)], [sI ((-1))], h)) rfl ?_
      exact s_reti rfl rfl (Or.inl rfl) rfl rfl
    · have hc3 : ¬ ((v : Int) < 1) := hc3
      refine sP 2 (g1 := (11, [some (.ref 0), some (sI a), some (sI b), some (sI v)], [sI 9, sI v], h)) rfl ?_
      refine s_icmp (q := .le) (a := v) (b := 9) rfl ⟨_, rfl⟩ rfl (by unfold sR aMi aMa; omega) (by unfold sR aMi aMa; omega) (fun hc4 => ?_) (fun hc4 => ?_)
      · have hc4 : (v : Int) ≤ 9 := hc4
        omega
      · have hc4 : ¬ ((v : Int) ≤ 9) := hc4
        refine sP 1 (g1 := (13, [some (.ref 0), some (sI a), some (sI b), some (sI v)], [sI ((-1))], h)) rfl ?_
        exact s_reti rfl rfl (Or.inl rfl) rfl rfl
theorem fMeetMb0 {a b v : Int} (hh : aHp h) (ra : sR a) (rb : sR b) (rv : sR v) (hc : ¬ (0 ≤ a ∧ a < hI h 58 0)) : nEv sc (d + 4) 167 [.ref 53, sI a, sI b, sI v] h (some (sI (-1)), h) := by
  have gp := hI_rg hh nw_p
  have gd := hI_rg hh nw_d
  unfold sR aMi aMa at ra rb rv
  refine nEv_of (t := mMe167) rfl ?_
  show nRn sc (d + 3) (mMT mMe167) (mMC mMe167) (0, [some (.ref 53), some (sI a), some (sI b), some (sI v)], [], h) _
  refine sP 2 (g1 := (2, [some (.ref 53), some (sI a), some (sI b), some (sI v)], [sI a, .ref 53], h)) rfl ?_
  have ev1 := fIsPerson (sc := sc) (d := d + 1) (a := a) hh (by unfold sR aMi aMa; omega)
  rw [if_neg (by omega)] at ev1
  refine s_call (k := 147) (args := [.ref 53, sI a]) (st := []) (v := some (sI 0)) (h1 := h) rfl ⟨rfl, rfl⟩ rfl rfl rfl rfl (sRcv hh (a := 53) rfl rfl) rfl ev1 ?_
  refine s_ifc (q := .eq) (a := 0) rfl ⟨_, rfl⟩ rfl (by unfold sR aMi aMa; omega) (fun hc2 => ?_) (fun hc2 => ?_)
  · have hc2 : (0 : Int) = 0 := hc2
    refine sP 1 (g1 := (18, [some (.ref 53), some (sI a), some (sI b), some (sI v)], [sI ((-1))], h)) rfl ?_
    exact s_reti rfl rfl (Or.inl rfl) rfl rfl
  · have hc2 : ¬ ((0 : Int) = 0) := hc2
    omega
theorem fMeetMb1 {a b v : Int} (hh : aHp h) (ra : sR a) (rb : sR b) (rv : sR v) (hc : (0 ≤ a ∧ a < hI h 58 0) ∧ ¬ (0 ≤ b ∧ b < hI h 58 0)) : nEv sc (d + 4) 167 [.ref 53, sI a, sI b, sI v] h (some (sI (-1)), h) := by
  have gp := hI_rg hh nw_p
  have gd := hI_rg hh nw_d
  unfold sR aMi aMa at ra rb rv
  refine nEv_of (t := mMe167) rfl ?_
  show nRn sc (d + 3) (mMT mMe167) (mMC mMe167) (0, [some (.ref 53), some (sI a), some (sI b), some (sI v)], [], h) _
  refine sP 2 (g1 := (2, [some (.ref 53), some (sI a), some (sI b), some (sI v)], [sI a, .ref 53], h)) rfl ?_
  have ev1 := fIsPerson (sc := sc) (d := d + 1) (a := a) hh (by unfold sR aMi aMa; omega)
  rw [if_pos (by omega)] at ev1
  refine s_call (k := 147) (args := [.ref 53, sI a]) (st := []) (v := some (sI 1)) (h1 := h) rfl ⟨rfl, rfl⟩ rfl rfl rfl rfl (sRcv hh (a := 53) rfl rfl) rfl ev1 ?_
  refine s_ifc (q := .eq) (a := 1) rfl ⟨_, rfl⟩ rfl (by unfold sR aMi aMa; omega) (fun hc2 => ?_) (fun hc2 => ?_)
  · have hc2 : (1 : Int) = 0 := hc2
    omega
  · have hc2 : ¬ ((1 : Int) = 0) := hc2
    refine sP 2 (g1 := (6, [some (.ref 53), some (sI a), some (sI b), some (sI v)], [sI b, .ref 53], h)) rfl ?_
    have ev3 := fIsPerson (sc := sc) (d := d + 1) (a := b) hh (by unfold sR aMi aMa; omega)
    rw [if_neg (by omega)] at ev3
    refine s_call (k := 147) (args := [.ref 53, sI b]) (st := []) (v := some (sI 0)) (h1 := h) rfl ⟨rfl, rfl⟩ rfl rfl rfl rfl (sRcv hh (a := 53) rfl rfl) rfl ev3 ?_
    refine s_ifc (q := .eq) (a := 0) rfl ⟨_, rfl⟩ rfl (by unfold sR aMi aMa; omega) (fun hc4 => ?_) (fun hc4 => ?_)
    · have hc4 : (0 : Int) = 0 := hc4
      refine sP 1 (g1 := (18, [some (.ref 53), some (sI a), some (sI b), some (sI v)], [sI ((-1))], h)) rfl ?_
      exact s_reti rfl rfl (Or.inl rfl) rfl rfl
    · have hc4 : ¬ ((0 : Int) = 0) := hc4
      omega
theorem fMeetMb2 {a b v : Int} (hh : aHp h) (ra : sR a) (rb : sR b) (rv : sR v) (hc : (0 ≤ a ∧ a < hI h 58 0) ∧ (0 ≤ b ∧ b < hI h 58 0) ∧ a = b) : nEv sc (d + 4) 167 [.ref 53, sI a, sI b, sI v] h (some (sI (-1)), h) := by
  have gp := hI_rg hh nw_p
  have gd := hI_rg hh nw_d
  unfold sR aMi aMa at ra rb rv
  refine nEv_of (t := mMe167) rfl ?_
  show nRn sc (d + 3) (mMT mMe167) (mMC mMe167) (0, [some (.ref 53), some (sI a), some (sI b), some (sI v)], [], h) _
  refine sP 2 (g1 := (2, [some (.ref 53), some (sI a), some (sI b), some (sI v)], [sI a, .ref 53], h)) rfl ?_
  have ev1 := fIsPerson (sc := sc) (d := d + 1) (a := a) hh (by unfold sR aMi aMa; omega)
  rw [if_pos (by omega)] at ev1
  refine s_call (k := 147) (args := [.ref 53, sI a]) (st := []) (v := some (sI 1)) (h1 := h) rfl ⟨rfl, rfl⟩ rfl rfl rfl rfl (sRcv hh (a := 53) rfl rfl) rfl ev1 ?_
  refine s_ifc (q := .eq) (a := 1) rfl ⟨_, rfl⟩ rfl (by unfold sR aMi aMa; omega) (fun hc2 => ?_) (fun hc2 => ?_)
  · have hc2 : (1 : Int) = 0 := hc2
    omega
  · have hc2 : ¬ ((1 : Int) = 0) := hc2
    refine sP 2 (g1 := (6, [some (.ref 53), some (sI a), some (sI b), some (sI v)], [sI b, .ref 53], h)) rfl ?_
    have ev3 := fIsPerson (sc := sc) (d := d + 1) (a := b) hh (by unfold sR aMi aMa; omega)
    rw [if_pos (by omega)] at ev3
    refine s_call (k := 147) (args := [.ref 53, sI b]) (st := []) (v := some (sI 1)) (h1 := h) rfl ⟨rfl, rfl⟩ rfl rfl rfl rfl (sRcv hh (a := 53) rfl rfl) rfl ev3 ?_
    refine s_ifc (q := .eq) (a := 1) rfl ⟨_, rfl⟩ rfl (by unfold sR aMi aMa; omega) (fun hc4 => ?_) (fun hc4 => ?_)
    · have hc4 : (1 : Int) = 0 := hc4
      omega
    · have hc4 : ¬ ((1 : Int) = 0) := hc4
      refine sP 2 (g1 := (10, [some (.ref 53), some (sI a), some (sI b), some (sI v)], [sI b, sI a], h)) rfl ?_
      refine s_icmp (q := .eq) (a := a) (b := b) rfl ⟨_, rfl⟩ rfl (by unfold sR aMi aMa; omega) (by unfold sR aMi aMa; omega) (fun hc5 => ?_) (fun hc5 => ?_)
      · have hc5 : (a : Int) = b := hc5
        refine sP 1 (g1 := (18, [some (.ref 53), some (sI a), some (sI b), some (sI v)], [sI ((-1))], h)) rfl ?_
        exact s_reti rfl rfl (Or.inl rfl) rfl rfl
      · have hc5 : ¬ ((a : Int) = b) := hc5
        omega
theorem fMeetMb3 {a b v : Int} (hh : aHp h) (ra : sR a) (rb : sR b) (rv : sR v) (hc : ((0 ≤ a ∧ a < hI h 58 0) ∧ (0 ≤ b ∧ b < hI h 58 0) ∧ a ≠ b) ∧ ¬ (1 ≤ v ∧ v ≤ 9)) : nEv sc (d + 4) 167 [.ref 53, sI a, sI b, sI v] h (some (sI (-1)), h) := by
  have gp := hI_rg hh nw_p
  have gd := hI_rg hh nw_d
  unfold sR aMi aMa at ra rb rv
  refine nEv_of (t := mMe167) rfl ?_
  show nRn sc (d + 3) (mMT mMe167) (mMC mMe167) (0, [some (.ref 53), some (sI a), some (sI b), some (sI v)], [], h) _
  refine sP 2 (g1 := (2, [some (.ref 53), some (sI a), some (sI b), some (sI v)], [sI a, .ref 53], h)) rfl ?_
  have ev1 := fIsPerson (sc := sc) (d := d + 1) (a := a) hh (by unfold sR aMi aMa; omega)
  rw [if_pos (by omega)] at ev1
  refine s_call (k := 147) (args := [.ref 53, sI a]) (st := []) (v := some (sI 1)) (h1 := h) rfl ⟨rfl, rfl⟩ rfl rfl rfl rfl (sRcv hh (a := 53) rfl rfl) rfl ev1 ?_
  refine s_ifc (q := .eq) (a := 1) rfl ⟨_, rfl⟩ rfl (by unfold sR aMi aMa; omega) (fun hc2 => ?_) (fun hc2 => ?_)
  · have hc2 : (1 : Int) = 0 := hc2
    omega
  · have hc2 : ¬ ((1 : Int) = 0) := hc2
    refine sP 2 (g1 := (6, [some (.ref 53), some (sI a), some (sI b), some (sI v)], [sI b, .ref 53], h)) rfl ?_
    have ev3 := fIsPerson (sc := sc) (d := d + 1) (a := b) hh (by unfold sR aMi aMa; omega)
    rw [if_pos (by omega)] at ev3
    refine s_call (k := 147) (args := [.ref 53, sI b]) (st := []) (v := some (sI 1)) (h1 := h) rfl ⟨rfl, rfl⟩ rfl rfl rfl rfl (sRcv hh (a := 53) rfl rfl) rfl ev3 ?_
    refine s_ifc (q := .eq) (a := 1) rfl ⟨_, rfl⟩ rfl (by unfold sR aMi aMa; omega) (fun hc4 => ?_) (fun hc4 => ?_)
    · have hc4 : (1 : Int) = 0 := hc4
      omega
    · have hc4 : ¬ ((1 : Int) = 0) := hc4
      refine sP 2 (g1 := (10, [some (.ref 53), some (sI a), some (sI b), some (sI v)], [sI b, sI a], h)) rfl ?_
      refine s_icmp (q := .eq) (a := a) (b := b) rfl ⟨_, rfl⟩ rfl (by unfold sR aMi aMa; omega) (by unfold sR aMi aMa; omega) (fun hc5 => ?_) (fun hc5 => ?_)
      · have hc5 : (a : Int) = b := hc5
        omega
      · have hc5 : ¬ ((a : Int) = b) := hc5
        refine sP 1 (g1 := (12, [some (.ref 53), some (sI a), some (sI b), some (sI v)], [sI v], h)) rfl ?_
        refine s_i2l (a := v) rfl rfl (by unfold sR aMi aMa; omega) ?_
        refine sP 2 (g1 := (15, [some (.ref 53), some (sI a), some (sI b), some (sI v)], [sJ 9, sJ 1, sJ v], h)) rfl ?_
        have ev6 := fIn (sc := sc) (d := d + 2) (h := h) (a := v) (b := 1) (e := 9) (by omega) (by omega) (by omega) (by omega) (by omega) (by omega)
        rw [if_neg (by omega)] at ev6
        refine s_call (k := 127) (args := [sJ v, sJ 1, sJ 9]) (st := []) (v := some (sI 0)) (h1 := h) rfl ⟨rfl, rfl⟩ rfl rfl rfl rfl rfl rfl ev6 ?_
        refine s_ifc (q := .ne) (a := 0) rfl ⟨_, rfl⟩ rfl (by unfold sR aMi aMa; omega) (fun hc7 => ?_) (fun hc7 => ?_)
        · have hc7 : (0 : Int) ≠ 0 := hc7
          omega
        · have hc7 : ¬ ((0 : Int) ≠ 0) := hc7
          refine sP 1 (g1 := (18, [some (.ref 53), some (sI a), some (sI b), some (sI v)], [sI ((-1))], h)) rfl ?_
          exact s_reti rfl rfl (Or.inl rfl) rfl rfl
theorem fMeetXs {a b : Nat} {v : Int} (hh : aHp h) (ha : (a : Int) < hI h 3 3) (hb : (b : Int) < hI h 3 3) (hab : a ≠ b) (v1 : 1 ≤ v) (v9 : v ≤ 9) (hl : hI h 5 (6 * a + b) ≠ 0) : nEv sc (d + 4) 59 [.ref 0, sI (a : Int), sI (b : Int), sI v] h (some (sI (-4)), h) := by
  have gp := hI_rg hh xw_p
  have gd := hI_rg hh xw_d
  have ha6 : a < 6 := by omega
  have hb6 : b < 6 := by omega
  have gl := hI_rg hh (xw_l (show 6 * a + b < 36 by omega))
  refine nEv_of (t := mMe59) rfl ?_
  show nRn sc (d + 3) (mMT mMe59) (mMC mMe59) (0, [some (.ref 0), some (sI ((a : Int))), some (sI ((b : Int))), some (sI v)], [], h) _
  refine sP 1 (g1 := (1, [some (.ref 0), some (sI ((a : Int))), some (sI ((b : Int))), some (sI v)], [.ref 0], h)) rfl ?_
  refine s_get (a := 0) (j := 2) hh rfl ⟨_, rfl⟩ rfl rfl rfl (v := .ref 3) (hR_ok hh (by decide +kernel)) ?_
  refine sP 2 (g1 := (4, [some (.ref 0), some (sI ((a : Int))), some (sI ((b : Int))), some (sI v)], [sI ((b : Int)), sI ((a : Int)), .ref 3], h)) rfl ?_
  have ev1 := fHasTwoX (sc := sc) (d := d + 1) (a := (a : Int)) (b := (b : Int)) hh (by unfold sR aMi aMa; omega) (by unfold sR aMi aMa; omega)
  rw [if_pos (by omega)] at ev1
  refine s_call (k := 60) (args := [.ref 3, sI ((a : Int)), sI ((b : Int))]) (st := []) (v := some (sI 1)) (h1 := h) rfl ⟨rfl, rfl⟩ rfl rfl rfl rfl (sRcv hh (a := 3) rfl rfl) rfl ev1 ?_
  refine s_ifc (q := .eq) (a := 1) rfl ⟨_, rfl⟩ rfl (by unfold sR aMi aMa; omega) (fun hc2 => ?_) (fun hc2 => ?_)
  · have hc2 : (1 : Int) = 0 := hc2
    omega
  · have hc2 : ¬ ((1 : Int) = 0) := hc2
    refine sP 2 (g1 := (8, [some (.ref 0), some (sI ((a : Int))), some (sI ((b : Int))), some (sI v)], [sI 1, sI v], h)) rfl ?_
    refine s_icmp (q := .lt) (a := v) (b := 1) rfl ⟨_, rfl⟩ rfl (by unfold sR aMi aMa; omega) (by unfold sR aMi aMa; omega) (fun hc3 => ?_) (fun hc3 => ?_)
    · have hc3 : (v : Int) < 1 := hc3
      omega
    · have hc3 : ¬ ((v : Int) < 1) := hc3
      refine sP 2 (g1 := (11, [some (.ref 0), some (sI ((a : Int))), some (sI ((b : Int))), some (sI v)], [sI 9, sI v], h)) rfl ?_
      refine s_icmp (q := .le) (a := v) (b := 9) rfl ⟨_, rfl⟩ rfl (by unfold sR aMi aMa; omega) (by unfold sR aMi aMa; omega) (fun hc4 => ?_) (fun hc4 => ?_)
      · have hc4 : (v : Int) ≤ 9 := hc4
        refine sP 1 (g1 := (15, [some (.ref 0), some (sI ((a : Int))), some (sI ((b : Int))), some (sI v)], [.ref 0], h)) rfl ?_
        refine s_get (a := 0) (j := 2) hh rfl ⟨_, rfl⟩ rfl rfl rfl (v := .ref 3) (hR_ok hh (by decide +kernel)) ?_
        refine sP 2 (g1 := (18, [some (.ref 0), some (sI ((a : Int))), some (sI ((b : Int))), some (sI v)], [sI ((b : Int)), sI ((a : Int)), .ref 3], h)) rfl ?_
        refine s_call (k := 40) (args := [.ref 3, sI ((a : Int)), sI ((b : Int))]) (st := []) (v := some (sI (hI h 5 (6 * a + b)))) (h1 := h) rfl ⟨rfl, rfl⟩ rfl rfl rfl rfl (sRcv hh (a := 3) rfl rfl) rfl (fLookX (e := 3) hh (by decide) ha6 hb6) ?_
        refine s_ifc (q := .eq) (a := hI h 5 (6 * a + b)) rfl ⟨_, rfl⟩ rfl (by unfold sR aMi aMa; omega) (fun hc5 => ?_) (fun hc5 => ?_)
        · have hc5 : ((hI h 5 (6 * a + b)) : Int) = 0 := hc5
          omega
        · have hc5 : ¬ (((hI h 5 (6 * a + b)) : Int) = 0) := hc5
          refine sP 1 (g1 := (21, [some (.ref 0), some (sI ((a : Int))), some (sI ((b : Int))), some (sI v)], [sI ((-4))], h)) rfl ?_
          exact s_reti rfl rfl (Or.inl rfl) rfl rfl
      · have hc4 : ¬ ((v : Int) ≤ 9) := hc4
        omega
theorem fMeetXf {a b : Nat} {v : Int} (hh : aHp h) (ha : (a : Int) < hI h 3 3) (hb : (b : Int) < hI h 3 3) (hab : a ≠ b) (v1 : 1 ≤ v) (v9 : v ≤ 9) (hl : hI h 5 (6 * a + b) = 0) (hf : hI h 3 5 = 40) : nEv sc (d + 4) 59 [.ref 0, sI (a : Int), sI (b : Int), sI v] h (some (sI (-2)), h) := by
  have gp := hI_rg hh xw_p
  have gd := hI_rg hh xw_d
  have ha6 : a < 6 := by omega
  have hb6 : b < 6 := by omega
  have gl := hI_rg hh (xw_l (show 6 * a + b < 36 by omega))
  refine nEv_of (t := mMe59) rfl ?_
  show nRn sc (d + 3) (mMT mMe59) (mMC mMe59) (0, [some (.ref 0), some (sI ((a : Int))), some (sI ((b : Int))), some (sI v)], [], h) _
  refine sP 1 (g1 := (1, [some (.ref 0), some (sI ((a : Int))), some (sI ((b : Int))), some (sI v)], [.ref 0], h)) rfl ?_
  refine s_get (a := 0) (j := 2) hh rfl ⟨_, rfl⟩ rfl rfl rfl (v := .ref 3) (hR_ok hh (by decide +kernel)) ?_
  refine sP 2 (g1 := (4, [some (.ref 0), some (sI ((a : Int))), some (sI ((b : Int))), some (sI v)], [sI ((b : Int)), sI ((a : Int)), .ref 3], h)) rfl ?_
  have ev1 := fHasTwoX (sc := sc) (d := d + 1) (a := (a : Int)) (b := (b : Int)) hh (by unfold sR aMi aMa; omega) (by unfold sR aMi aMa; omega)
  rw [if_pos (by omega)] at ev1
  refine s_call (k := 60) (args := [.ref 3, sI ((a : Int)), sI ((b : Int))]) (st := []) (v := some (sI 1)) (h1 := h) rfl ⟨rfl, rfl⟩ rfl rfl rfl rfl (sRcv hh (a := 3) rfl rfl) rfl ev1 ?_
  refine s_ifc (q := .eq) (a := 1) rfl ⟨_, rfl⟩ rfl (by unfold sR aMi aMa; omega) (fun hc2 => ?_) (fun hc2 => ?_)
  · have hc2 : (1 : Int) = 0 := hc2
    omega
  · have hc2 : ¬ ((1 : Int) = 0) := hc2
    refine sP 2 (g1 := (8, [some (.ref 0), some (sI ((a : Int))), some (sI ((b : Int))), some (sI v)], [sI 1, sI v], h)) rfl ?_
    refine s_icmp (q := .lt) (a := v) (b := 1) rfl ⟨_, rfl⟩ rfl (by unfold sR aMi aMa; omega) (by unfold sR aMi aMa; omega) (fun hc3 => ?_) (fun hc3 => ?_)
    · have hc3 : (v : Int) < 1 := hc3
      omega
    · have hc3 : ¬ ((v : Int) < 1) := hc3
      refine sP 2 (g1 := (11, [some (.ref 0), some (sI ((a : Int))), some (sI ((b : Int))), some (sI v)], [sI 9, sI v], h)) rfl ?_
      refine s_icmp (q := .le) (a := v) (b := 9) rfl ⟨_, rfl⟩ rfl (by unfold sR aMi aMa; omega) (by unfold sR aMi aMa; omega) (fun hc4 => ?_) (fun hc4 => ?_)
      · have hc4 : (v : Int) ≤ 9 := hc4
        refine sP 1 (g1 := (15, [some (.ref 0), some (sI ((a : Int))), some (sI ((b : Int))), some (sI v)], [.ref 0], h)) rfl ?_
        refine s_get (a := 0) (j := 2) hh rfl ⟨_, rfl⟩ rfl rfl rfl (v := .ref 3) (hR_ok hh (by decide +kernel)) ?_
        refine sP 2 (g1 := (18, [some (.ref 0), some (sI ((a : Int))), some (sI ((b : Int))), some (sI v)], [sI ((b : Int)), sI ((a : Int)), .ref 3], h)) rfl ?_
        refine s_call (k := 40) (args := [.ref 3, sI ((a : Int)), sI ((b : Int))]) (st := []) (v := some (sI (hI h 5 (6 * a + b)))) (h1 := h) rfl ⟨rfl, rfl⟩ rfl rfl rfl rfl (sRcv hh (a := 3) rfl rfl) rfl (fLookX (e := 3) hh (by decide) ha6 hb6) ?_
        refine s_ifc (q := .eq) (a := hI h 5 (6 * a + b)) rfl ⟨_, rfl⟩ rfl (by unfold sR aMi aMa; omega) (fun hc5 => ?_) (fun hc5 => ?_)
        · have hc5 : ((hI h 5 (6 * a + b)) : Int) = 0 := hc5
          refine sP 1 (g1 := (23, [some (.ref 0), some (sI ((a : Int))), some (sI ((b : Int))), some (sI v)], [.ref 0], h)) rfl ?_
          refine s_get (a := 0) (j := 2) hh rfl ⟨_, rfl⟩ rfl rfl rfl (v := .ref 3) (hR_ok hh (by decide +kernel)) ?_
          refine s_get (a := 3) (j := 5) hh rfl ⟨_, rfl⟩ rfl rfl rfl (v := sI (hI h 3 5)) (hI_ok hh xw_d) ?_
          refine sP 1 (g1 := (26, [some (.ref 0), some (sI ((a : Int))), some (sI ((b : Int))), some (sI v)], [sI 40, sI (hI h 3 5)], h)) rfl ?_
          refine s_icmp (q := .lt) (a := hI h 3 5) (b := 40) rfl ⟨_, rfl⟩ rfl (by unfold sR aMi aMa; omega) (by unfold sR aMi aMa; omega) (fun hc6 => ?_) (fun hc6 => ?_)
          · have hc6 : ((hI h 3 5) : Int) < 40 := hc6
            omega
          · have hc6 : ¬ (((hI h 3 5) : Int) < 40) := hc6
            refine sP 1 (g1 := (28, [some (.ref 0), some (sI ((a : Int))), some (sI ((b : Int))), some (sI v)], [sI ((-2))], h)) rfl ?_
            exact s_reti rfl rfl (Or.inl rfl) rfl rfl
        · have hc5 : ¬ (((hI h 5 (6 * a + b)) : Int) = 0) := hc5
          omega
      · have hc4 : ¬ ((v : Int) ≤ 9) := hc4
        omega
theorem fMeetMs {a b : Nat} {v : Int} (hh : aHp h) (ha : (a : Int) < hI h 58 0) (hb : (b : Int) < hI h 58 0) (hab : a ≠ b) (v1 : 1 ≤ v) (v9 : v ≤ 9) (hl : hI h 58 (7 + (6 * a + b)) ≠ 0) : nEv sc (d + 4) 167 [.ref 53, sI (a : Int), sI (b : Int), sI v] h (some (sI (-4)), h) := by
  have gp := hI_rg hh nw_p
  have gd := hI_rg hh nw_d
  have ha6 : a < 6 := by omega
  have hb6 : b < 6 := by omega
  have gl := hI_rg hh (nw_lk (show 6 * a + b < 36 by omega))
  refine nEv_of (t := mMe167) rfl ?_
  show nRn sc (d + 3) (mMT mMe167) (mMC mMe167) (0, [some (.ref 53), some (sI ((a : Int))), some (sI ((b : Int))), some (sI v)], [], h) _
  refine sP 2 (g1 := (2, [some (.ref 53), some (sI ((a : Int))), some (sI ((b : Int))), some (sI v)], [sI ((a : Int)), .ref 53], h)) rfl ?_
  have ev1 := fIsPerson (sc := sc) (d := d + 1) (a := (a : Int)) hh (by unfold sR aMi aMa; omega)
  rw [if_pos (by omega)] at ev1
  refine s_call (k := 147) (args := [.ref 53, sI ((a : Int))]) (st := []) (v := some (sI 1)) (h1 := h) rfl ⟨rfl, rfl⟩ rfl rfl rfl rfl (sRcv hh (a := 53) rfl rfl) rfl ev1 ?_
  refine s_ifc (q := .eq) (a := 1) rfl ⟨_, rfl⟩ rfl (by unfold sR aMi aMa; omega) (fun hc2 => ?_) (fun hc2 => ?_)
  · have hc2 : (1 : Int) = 0 := hc2
    omega
  · have hc2 : ¬ ((1 : Int) = 0) := hc2
    refine sP 2 (g1 := (6, [some (.ref 53), some (sI ((a : Int))), some (sI ((b : Int))), some (sI v)], [sI ((b : Int)), .ref 53], h)) rfl ?_
    have ev3 := fIsPerson (sc := sc) (d := d + 1) (a := (b : Int)) hh (by unfold sR aMi aMa; omega)
    rw [if_pos (by omega)] at ev3
    refine s_call (k := 147) (args := [.ref 53, sI ((b : Int))]) (st := []) (v := some (sI 1)) (h1 := h) rfl ⟨rfl, rfl⟩ rfl rfl rfl rfl (sRcv hh (a := 53) rfl rfl) rfl ev3 ?_
    refine s_ifc (q := .eq) (a := 1) rfl ⟨_, rfl⟩ rfl (by unfold sR aMi aMa; omega) (fun hc4 => ?_) (fun hc4 => ?_)
    · have hc4 : (1 : Int) = 0 := hc4
      omega
    · have hc4 : ¬ ((1 : Int) = 0) := hc4
      refine sP 2 (g1 := (10, [some (.ref 53), some (sI ((a : Int))), some (sI ((b : Int))), some (sI v)], [sI ((b : Int)), sI ((a : Int))], h)) rfl ?_
      refine s_icmp (q := .eq) (a := (a : Int)) (b := (b : Int)) rfl ⟨_, rfl⟩ rfl (by unfold sR aMi aMa; omega) (by unfold sR aMi aMa; omega) (fun hc5 => ?_) (fun hc5 => ?_)
      · have hc5 : (((a : Int)) : Int) = ((b : Int)) := hc5
        omega
      · have hc5 : ¬ ((((a : Int)) : Int) = ((b : Int))) := hc5
        refine sP 1 (g1 := (12, [some (.ref 53), some (sI ((a : Int))), some (sI ((b : Int))), some (sI v)], [sI v], h)) rfl ?_
        refine s_i2l (a := v) rfl rfl (by unfold sR aMi aMa; omega) ?_
        refine sP 2 (g1 := (15, [some (.ref 53), some (sI ((a : Int))), some (sI ((b : Int))), some (sI v)], [sJ 9, sJ 1, sJ v], h)) rfl ?_
        have ev6 := fIn (sc := sc) (d := d + 2) (h := h) (a := v) (b := 1) (e := 9) (by omega) (by omega) (by omega) (by omega) (by omega) (by omega)
        rw [if_pos (by omega)] at ev6
        refine s_call (k := 127) (args := [sJ v, sJ 1, sJ 9]) (st := []) (v := some (sI 1)) (h1 := h) rfl ⟨rfl, rfl⟩ rfl rfl rfl rfl rfl rfl ev6 ?_
        refine s_ifc (q := .ne) (a := 1) rfl ⟨_, rfl⟩ rfl (by unfold sR aMi aMa; omega) (fun hc7 => ?_) (fun hc7 => ?_)
        · have hc7 : (1 : Int) ≠ 0 := hc7
          refine sP 3 (g1 := (22, [some (.ref 53), some (sI ((a : Int))), some (sI ((b : Int))), some (sI v)], [sI ((b : Int)), sI ((a : Int)), .ref 53], h)) rfl ?_
          refine s_call (k := 152) (args := [.ref 53, sI ((a : Int)), sI ((b : Int))]) (st := []) (v := some (sI (hI h 58 (7 + (6 * a + b))))) (h1 := h) rfl ⟨rfl, rfl⟩ rfl rfl rfl rfl (sRcv hh (a := 53) rfl rfl) rfl (fLookM hh ha6 hb6) ?_
          refine s_ifc (q := .eq) (a := hI h 58 (7 + (6 * a + b))) rfl ⟨_, rfl⟩ rfl (by unfold sR aMi aMa; omega) (fun hc8 => ?_) (fun hc8 => ?_)
          · have hc8 : ((hI h 58 (7 + (6 * a + b))) : Int) = 0 := hc8
            omega
          · have hc8 : ¬ (((hI h 58 (7 + (6 * a + b))) : Int) = 0) := hc8
            refine sP 1 (g1 := (25, [some (.ref 53), some (sI ((a : Int))), some (sI ((b : Int))), some (sI v)], [sI ((-4))], h)) rfl ?_
            exact s_reti rfl rfl (Or.inl rfl) rfl rfl
        · have hc7 : ¬ ((1 : Int) ≠ 0) := hc7
          omega
theorem fMeetMf {a b : Nat} {v : Int} (hh : aHp h) (ha : (a : Int) < hI h 58 0) (hb : (b : Int) < hI h 58 0) (hab : a ≠ b) (v1 : 1 ≤ v) (v9 : v ≤ 9) (hl : hI h 58 (7 + (6 * a + b)) = 0) (hf : hI h 58 80 = 40) : nEv sc (d + 4) 167 [.ref 53, sI (a : Int), sI (b : Int), sI v] h (some (sI (-2)), h) := by
  have gp := hI_rg hh nw_p
  have gd := hI_rg hh nw_d
  have ha6 : a < 6 := by omega
  have hb6 : b < 6 := by omega
  have gl := hI_rg hh (nw_lk (show 6 * a + b < 36 by omega))
  refine nEv_of (t := mMe167) rfl ?_
  show nRn sc (d + 3) (mMT mMe167) (mMC mMe167) (0, [some (.ref 53), some (sI ((a : Int))), some (sI ((b : Int))), some (sI v)], [], h) _
  refine sP 2 (g1 := (2, [some (.ref 53), some (sI ((a : Int))), some (sI ((b : Int))), some (sI v)], [sI ((a : Int)), .ref 53], h)) rfl ?_
  have ev1 := fIsPerson (sc := sc) (d := d + 1) (a := (a : Int)) hh (by unfold sR aMi aMa; omega)
  rw [if_pos (by omega)] at ev1
  refine s_call (k := 147) (args := [.ref 53, sI ((a : Int))]) (st := []) (v := some (sI 1)) (h1 := h) rfl ⟨rfl, rfl⟩ rfl rfl rfl rfl (sRcv hh (a := 53) rfl rfl) rfl ev1 ?_
  refine s_ifc (q := .eq) (a := 1) rfl ⟨_, rfl⟩ rfl (by unfold sR aMi aMa; omega) (fun hc2 => ?_) (fun hc2 => ?_)
  · have hc2 : (1 : Int) = 0 := hc2
    omega
  · have hc2 : ¬ ((1 : Int) = 0) := hc2
    refine sP 2 (g1 := (6, [some (.ref 53), some (sI ((a : Int))), some (sI ((b : Int))), some (sI v)], [sI ((b : Int)), .ref 53], h)) rfl ?_
    have ev3 := fIsPerson (sc := sc) (d := d + 1) (a := (b : Int)) hh (by unfold sR aMi aMa; omega)
    rw [if_pos (by omega)] at ev3
    refine s_call (k := 147) (args := [.ref 53, sI ((b : Int))]) (st := []) (v := some (sI 1)) (h1 := h) rfl ⟨rfl, rfl⟩ rfl rfl rfl rfl (sRcv hh (a := 53) rfl rfl) rfl ev3 ?_
    refine s_ifc (q := .eq) (a := 1) rfl ⟨_, rfl⟩ rfl (by unfold sR aMi aMa; omega) (fun hc4 => ?_) (fun hc4 => ?_)
    · have hc4 : (1 : Int) = 0 := hc4
      omega
    · have hc4 : ¬ ((1 : Int) = 0) := hc4
      refine sP 2 (g1 := (10, [some (.ref 53), some (sI ((a : Int))), some (sI ((b : Int))), some (sI v)], [sI ((b : Int)), sI ((a : Int))], h)) rfl ?_
      refine s_icmp (q := .eq) (a := (a : Int)) (b := (b : Int)) rfl ⟨_, rfl⟩ rfl (by unfold sR aMi aMa; omega) (by unfold sR aMi aMa; omega) (fun hc5 => ?_) (fun hc5 => ?_)
      · have hc5 : (((a : Int)) : Int) = ((b : Int)) := hc5
        omega
      · have hc5 : ¬ ((((a : Int)) : Int) = ((b : Int))) := hc5
        refine sP 1 (g1 := (12, [some (.ref 53), some (sI ((a : Int))), some (sI ((b : Int))), some (sI v)], [sI v], h)) rfl ?_
        refine s_i2l (a := v) rfl rfl (by unfold sR aMi aMa; omega) ?_
        refine sP 2 (g1 := (15, [some (.ref 53), some (sI ((a : Int))), some (sI ((b : Int))), some (sI v)], [sJ 9, sJ 1, sJ v], h)) rfl ?_
        have ev6 := fIn (sc := sc) (d := d + 2) (h := h) (a := v) (b := 1) (e := 9) (by omega) (by omega) (by omega) (by omega) (by omega) (by omega)
        rw [if_pos (by omega)] at ev6
        refine s_call (k := 127) (args := [sJ v, sJ 1, sJ 9]) (st := []) (v := some (sI 1)) (h1 := h) rfl ⟨rfl, rfl⟩ rfl rfl rfl rfl rfl rfl ev6 ?_
        refine s_ifc (q := .ne) (a := 1) rfl ⟨_, rfl⟩ rfl (by unfold sR aMi aMa; omega) (fun hc7 => ?_) (fun hc7 => ?_)
        · have hc7 : (1 : Int) ≠ 0 := hc7
          refine sP 3 (g1 := (22, [some (.ref 53), some (sI ((a : Int))), some (sI ((b : Int))), some (sI v)], [sI ((b : Int)), sI ((a : Int)), .ref 53], h)) rfl ?_
          refine s_call (k := 152) (args := [.ref 53, sI ((a : Int)), sI ((b : Int))]) (st := []) (v := some (sI (hI h 58 (7 + (6 * a + b))))) (h1 := h) rfl ⟨rfl, rfl⟩ rfl rfl rfl rfl (sRcv hh (a := 53) rfl rfl) rfl (fLookM hh ha6 hb6) ?_
          refine s_ifc (q := .eq) (a := hI h 58 (7 + (6 * a + b))) rfl ⟨_, rfl⟩ rfl (by unfold sR aMi aMa; omega) (fun hc8 => ?_) (fun hc8 => ?_)
          · have hc8 : ((hI h 58 (7 + (6 * a + b))) : Int) = 0 := hc8
            refine sP 1 (g1 := (27, [some (.ref 53), some (sI ((a : Int))), some (sI ((b : Int))), some (sI v)], [.ref 53], h)) rfl ?_
            refine s_call (k := 163) (args := [.ref 53]) (st := []) (v := some (sI (hI h 58 80))) (h1 := h) rfl ⟨rfl, rfl⟩ rfl rfl rfl rfl (sRcv hh (a := 53) rfl rfl) rfl (fDone hh) ?_
            refine sP 1 (g1 := (29, [some (.ref 53), some (sI ((a : Int))), some (sI ((b : Int))), some (sI v)], [sI 40, sI (hI h 58 80)], h)) rfl ?_
            refine s_icmp (q := .ne) (a := hI h 58 80) (b := 40) rfl ⟨_, rfl⟩ rfl (by unfold sR aMi aMa; omega) (by unfold sR aMi aMa; omega) (fun hc9 => ?_) (fun hc9 => ?_)
            · have hc9 : ((hI h 58 80) : Int) ≠ 40 := hc9
              omega
            · have hc9 : ¬ (((hI h 58 80) : Int) ≠ 40) := hc9
              refine sP 1 (g1 := (31, [some (.ref 53), some (sI ((a : Int))), some (sI ((b : Int))), some (sI v)], [sI ((-2))], h)) rfl ?_
              exact s_reti rfl rfl (Or.inl rfl) rfl rfl
          · have hc8 : ¬ (((hI h 58 (7 + (6 * a + b))) : Int) = 0) := hc8
            omega
        · have hc7 : ¬ ((1 : Int) ≠ 0) := hc7
          omega
theorem fMeetX {n D : Nat} {a b : Nat} {v : Int} (hh : aHp h) (ha : (a : Int) < hI h 3 3) (hb : (b : Int) < hI h 3 3) (hab : a ≠ b) (v1 : 1 ≤ v) (v9 : v ≤ 9) (hn : hI h 3 3 = n) (hl : hI h 5 (6 * a + b) = 0) (hD : hI h 3 5 = (D : Int)) (hD4 : D < 40) : ∃ g, nEv sc (d + 4) 59 [.ref 0, sI (a : Int), sI (b : Int), sI v] h (some (sI ((uA (hI g 5) n n : Nat) : Int)), g) ∧ aHp g ∧ ∀ p m, aSlot g p m = if p = 3 ∧ m = 5 then some (sI ((D : Int) + 1)) else if p = 6 ∧ m = D then some (sI ((64 * 1 + 8 * a + b : Nat) : Int)) else if p = 5 ∧ m = 6 * a + b then some (sI v) else aSlot h p m := by
  have gp := hI_rg hh xw_p
  have gd := hI_rg hh xw_d
  have ha6 : a < 6 := by omega
  have hb6 : b < 6 := by omega
  have gl := hI_rg hh (xw_l (show 6 * a + b < 36 by omega))
  obtain ⟨g1, r1, r2, r3⟩ := fSeeFirst (sc := sc) (d := d + 1) hh ha6 hb6 (show 0 ≤ v by omega) v9 hD hD4
  have hn1 : hI g1 3 3 = n := (hI_cg (by rw [r3, if_neg (by omega), if_neg (by omega), if_neg (by omega)])).trans hn
  refine ⟨g1, nEv_of (t := mMe59) rfl ?_, r2, r3⟩
  show nRn sc (d + 3) (mMT mMe59) (mMC mMe59) (0, [some (.ref 0), some (sI ((a : Int))), some (sI ((b : Int))), some (sI v)], [], h) _
  refine sP 1 (g1 := (1, [some (.ref 0), some (sI ((a : Int))), some (sI ((b : Int))), some (sI v)], [.ref 0], h)) rfl ?_
  refine s_get (a := 0) (j := 2) hh rfl ⟨_, rfl⟩ rfl rfl rfl (v := .ref 3) (hR_ok hh (by decide +kernel)) ?_
  refine sP 2 (g1 := (4, [some (.ref 0), some (sI ((a : Int))), some (sI ((b : Int))), some (sI v)], [sI ((b : Int)), sI ((a : Int)), .ref 3], h)) rfl ?_
  have ev1 := fHasTwoX (sc := sc) (d := d + 1) (a := (a : Int)) (b := (b : Int)) hh (by unfold sR aMi aMa; omega) (by unfold sR aMi aMa; omega)
  rw [if_pos (by omega)] at ev1
  refine s_call (k := 60) (args := [.ref 3, sI ((a : Int)), sI ((b : Int))]) (st := []) (v := some (sI 1)) (h1 := h) rfl ⟨rfl, rfl⟩ rfl rfl rfl rfl (sRcv hh (a := 3) rfl rfl) rfl ev1 ?_
  refine s_ifc (q := .eq) (a := 1) rfl ⟨_, rfl⟩ rfl (by unfold sR aMi aMa; omega) (fun hc2 => ?_) (fun hc2 => ?_)
  · have hc2 : (1 : Int) = 0 := hc2
    omega
  · have hc2 : ¬ ((1 : Int) = 0) := hc2
    refine sP 2 (g1 := (8, [some (.ref 0), some (sI ((a : Int))), some (sI ((b : Int))), some (sI v)], [sI 1, sI v], h)) rfl ?_
    refine s_icmp (q := .lt) (a := v) (b := 1) rfl ⟨_, rfl⟩ rfl (by unfold sR aMi aMa; omega) (by unfold sR aMi aMa; omega) (fun hc3 => ?_) (fun hc3 => ?_)
    · have hc3 : (v : Int) < 1 := hc3
      omega
    · have hc3 : ¬ ((v : Int) < 1) := hc3
      refine sP 2 (g1 := (11, [some (.ref 0), some (sI ((a : Int))), some (sI ((b : Int))), some (sI v)], [sI 9, sI v], h)) rfl ?_
      refine s_icmp (q := .le) (a := v) (b := 9) rfl ⟨_, rfl⟩ rfl (by unfold sR aMi aMa; omega) (by unfold sR aMi aMa; omega) (fun hc4 => ?_) (fun hc4 => ?_)
      · have hc4 : (v : Int) ≤ 9 := hc4
        refine sP 1 (g1 := (15, [some (.ref 0), some (sI ((a : Int))), some (sI ((b : Int))), some (sI v)], [.ref 0], h)) rfl ?_
        refine s_get (a := 0) (j := 2) hh rfl ⟨_, rfl⟩ rfl rfl rfl (v := .ref 3) (hR_ok hh (by decide +kernel)) ?_
        refine sP 2 (g1 := (18, [some (.ref 0), some (sI ((a : Int))), some (sI ((b : Int))), some (sI v)], [sI ((b : Int)), sI ((a : Int)), .ref 3], h)) rfl ?_
        refine s_call (k := 40) (args := [.ref 3, sI ((a : Int)), sI ((b : Int))]) (st := []) (v := some (sI (hI h 5 (6 * a + b)))) (h1 := h) rfl ⟨rfl, rfl⟩ rfl rfl rfl rfl (sRcv hh (a := 3) rfl rfl) rfl (fLookX (e := 3) hh (by decide) ha6 hb6) ?_
        refine s_ifc (q := .eq) (a := hI h 5 (6 * a + b)) rfl ⟨_, rfl⟩ rfl (by unfold sR aMi aMa; omega) (fun hc5 => ?_) (fun hc5 => ?_)
        · have hc5 : ((hI h 5 (6 * a + b)) : Int) = 0 := hc5
          refine sP 1 (g1 := (23, [some (.ref 0), some (sI ((a : Int))), some (sI ((b : Int))), some (sI v)], [.ref 0], h)) rfl ?_
          refine s_get (a := 0) (j := 2) hh rfl ⟨_, rfl⟩ rfl rfl rfl (v := .ref 3) (hR_ok hh (by decide +kernel)) ?_
          refine s_get (a := 3) (j := 5) hh rfl ⟨_, rfl⟩ rfl rfl rfl (v := sI (hI h 3 5)) (hI_ok hh xw_d) ?_
          refine sP 1 (g1 := (26, [some (.ref 0), some (sI ((a : Int))), some (sI ((b : Int))), some (sI v)], [sI 40, sI (hI h 3 5)], h)) rfl ?_
          refine s_icmp (q := .lt) (a := hI h 3 5) (b := 40) rfl ⟨_, rfl⟩ rfl (by unfold sR aMi aMa; omega) (by unfold sR aMi aMa; omega) (fun hc6 => ?_) (fun hc6 => ?_)
          · have hc6 : ((hI h 3 5) : Int) < 40 := hc6
            refine sP 1 (g1 := (30, [some (.ref 0), some (sI ((a : Int))), some (sI ((b : Int))), some (sI v)], [.ref 0], h)) rfl ?_
            refine s_get (a := 0) (j := 2) hh rfl ⟨_, rfl⟩ rfl rfl rfl (v := .ref 3) (hR_ok hh (by decide +kernel)) ?_
            refine sP 3 (g1 := (34, [some (.ref 0), some (sI ((a : Int))), some (sI ((b : Int))), some (sI v)], [sI v, sI ((b : Int)), sI ((a : Int)), .ref 3], h)) rfl ?_
            refine s_call (k := 61) (args := [.ref 3, sI ((a : Int)), sI ((b : Int)), sI v]) (st := []) (v := none) (h1 := g1) rfl ⟨rfl, rfl⟩ rfl rfl rfl rfl (sRcv hh (a := 3) rfl rfl) rfl r1 ?_
            refine sP 1 (g1 := (36, [some (.ref 0), some (sI ((a : Int))), some (sI ((b : Int))), some (sI v)], [.ref 0], g1)) rfl ?_
            refine s_get (a := 0) (j := 2) r2 rfl ⟨_, rfl⟩ rfl rfl rfl (v := .ref 3) (hR_ok r2 (by decide +kernel)) ?_
            refine s_call (k := 62) (args := [.ref 3]) (st := []) (v := some (sI (((uA (hI g1 5) n n : Nat) : Int)))) (h1 := g1) rfl ⟨rfl, rfl⟩ rfl rfl rfl rfl (sRcv r2 (a := 3) rfl rfl) rfl (fUnmade r2 hn1) ?_
            exact s_reti rfl rfl (Or.inl rfl) rfl rfl
          · have hc6 : ¬ (((hI h 3 5) : Int) < 40) := hc6
            omega
        · have hc5 : ¬ (((hI h 5 (6 * a + b)) : Int) = 0) := hc5
          omega
      · have hc4 : ¬ ((v : Int) ≤ 9) := hc4
        omega
theorem fMeetM {n D : Nat} {a b : Nat} {v : Int} (hh : aHp h) (ha : (a : Int) < hI h 58 0) (hb : (b : Int) < hI h 58 0) (hab : a ≠ b) (v1 : 1 ≤ v) (v9 : v ≤ 9) (hn : hI h 58 0 = n) (hl : hI h 58 (7 + (6 * a + b)) = 0) (hD : hI h 58 80 = (D : Int)) (hD4 : D < 40) : ∃ g, nEv sc (d + 4) 167 [.ref 53, sI (a : Int), sI (b : Int), sI v] h (some (sI ((uA (fun j => hI g 58 (7 + j)) n n : Nat) : Int)), g) ∧ aHp g ∧ ∀ p m, aSlot g p m = if p = 58 ∧ m = 7 + (6 * a + b) then some (sI v) else if p = 58 ∧ m = 80 then some (sI ((D : Int) + 1)) else if p = 58 ∧ m = 81 + (3 * D + 2) then some (sI (b : Int)) else if p = 58 ∧ m = 81 + (3 * D + 1) then some (sI (a : Int)) else if p = 58 ∧ m = 81 + 3 * D then some (sI ((1 : Nat) : Int)) else aSlot h p m := by
  have gp := hI_rg hh nw_p
  have gd := hI_rg hh nw_d
  have ha6 : a < 6 := by omega
  have hb6 : b < 6 := by omega
  have gl := hI_rg hh (nw_lk (show 6 * a + b < 36 by omega))
  obtain ⟨g1, r1, r2, r3⟩ := fRemember (sc := sc) (d := d + 2) (s := 1) hh (by decide) ha6 hb6 hD hD4
  obtain ⟨g2, eg2⟩ : ∃ gz, gz = hset g1 58 (7 + (6 * a + b)) (sI v) := ⟨_, rfl⟩
  have sg2 : ∀ xa xm, aSlot g2 xa xm = if xa = 58 ∧ xm = 7 + (6 * a + b) then some (sI v) else aSlot g1 xa xm := fun xa xm => by rw [eg2]; exact hset_slot r2 (show sTg 58 = some (50, 201) from rfl) (by omega) xa xm
  have hg2 : aHp g2 := by rw [eg2]; exact hset_ii r2 (nw_il (by omega)) (by omega) (by omega) (by unfold sR aMi aMa; omega)
  have hn1 : hI g2 58 0 = n := (hI_cg (by rw [sg2, if_neg (by omega), r3, if_neg (by omega), if_neg (by omega), if_neg (by omega), if_neg (by omega)])).trans hn
  refine ⟨g2, nEv_of (t := mMe167) rfl ?_, hg2, fun p m => by rw [sg2, r3]⟩
  show nRn sc (d + 3) (mMT mMe167) (mMC mMe167) (0, [some (.ref 53), some (sI ((a : Int))), some (sI ((b : Int))), some (sI v)], [], h) _
  refine sP 2 (g1 := (2, [some (.ref 53), some (sI ((a : Int))), some (sI ((b : Int))), some (sI v)], [sI ((a : Int)), .ref 53], h)) rfl ?_
  have ev1 := fIsPerson (sc := sc) (d := d + 1) (a := (a : Int)) hh (by unfold sR aMi aMa; omega)
  rw [if_pos (by omega)] at ev1
  refine s_call (k := 147) (args := [.ref 53, sI ((a : Int))]) (st := []) (v := some (sI 1)) (h1 := h) rfl ⟨rfl, rfl⟩ rfl rfl rfl rfl (sRcv hh (a := 53) rfl rfl) rfl ev1 ?_
  refine s_ifc (q := .eq) (a := 1) rfl ⟨_, rfl⟩ rfl (by unfold sR aMi aMa; omega) (fun hc2 => ?_) (fun hc2 => ?_)
  · have hc2 : (1 : Int) = 0 := hc2
    omega
  · have hc2 : ¬ ((1 : Int) = 0) := hc2
    refine sP 2 (g1 := (6, [some (.ref 53), some (sI ((a : Int))), some (sI ((b : Int))), some (sI v)], [sI ((b : Int)), .ref 53], h)) rfl ?_
    have ev3 := fIsPerson (sc := sc) (d := d + 1) (a := (b : Int)) hh (by unfold sR aMi aMa; omega)
    rw [if_pos (by omega)] at ev3
    refine s_call (k := 147) (args := [.ref 53, sI ((b : Int))]) (st := []) (v := some (sI 1)) (h1 := h) rfl ⟨rfl, rfl⟩ rfl rfl rfl rfl (sRcv hh (a := 53) rfl rfl) rfl ev3 ?_
    refine s_ifc (q := .eq) (a := 1) rfl ⟨_, rfl⟩ rfl (by unfold sR aMi aMa; omega) (fun hc4 => ?_) (fun hc4 => ?_)
    · have hc4 : (1 : Int) = 0 := hc4
      omega
    · have hc4 : ¬ ((1 : Int) = 0) := hc4
      refine sP 2 (g1 := (10, [some (.ref 53), some (sI ((a : Int))), some (sI ((b : Int))), some (sI v)], [sI ((b : Int)), sI ((a : Int))], h)) rfl ?_
      refine s_icmp (q := .eq) (a := (a : Int)) (b := (b : Int)) rfl ⟨_, rfl⟩ rfl (by unfold sR aMi aMa; omega) (by unfold sR aMi aMa; omega) (fun hc5 => ?_) (fun hc5 => ?_)
      · have hc5 : (((a : Int)) : Int) = ((b : Int)) := hc5
        omega
      · have hc5 : ¬ ((((a : Int)) : Int) = ((b : Int))) := hc5
        refine sP 1 (g1 := (12, [some (.ref 53), some (sI ((a : Int))), some (sI ((b : Int))), some (sI v)], [sI v], h)) rfl ?_
        refine s_i2l (a := v) rfl rfl (by unfold sR aMi aMa; omega) ?_
        refine sP 2 (g1 := (15, [some (.ref 53), some (sI ((a : Int))), some (sI ((b : Int))), some (sI v)], [sJ 9, sJ 1, sJ v], h)) rfl ?_
        have ev6 := fIn (sc := sc) (d := d + 2) (h := h) (a := v) (b := 1) (e := 9) (by omega) (by omega) (by omega) (by omega) (by omega) (by omega)
        rw [if_pos (by omega)] at ev6
        refine s_call (k := 127) (args := [sJ v, sJ 1, sJ 9]) (st := []) (v := some (sI 1)) (h1 := h) rfl ⟨rfl, rfl⟩ rfl rfl rfl rfl rfl rfl ev6 ?_
        refine s_ifc (q := .ne) (a := 1) rfl ⟨_, rfl⟩ rfl (by unfold sR aMi aMa; omega) (fun hc7 => ?_) (fun hc7 => ?_)
        · have hc7 : (1 : Int) ≠ 0 := hc7
          refine sP 3 (g1 := (22, [some (.ref 53), some (sI ((a : Int))), some (sI ((b : Int))), some (sI v)], [sI ((b : Int)), sI ((a : Int)), .ref 53], h)) rfl ?_
          refine s_call (k := 152) (args := [.ref 53, sI ((a : Int)), sI ((b : Int))]) (st := []) (v := some (sI (hI h 58 (7 + (6 * a + b))))) (h1 := h) rfl ⟨rfl, rfl⟩ rfl rfl rfl rfl (sRcv hh (a := 53) rfl rfl) rfl (fLookM hh ha6 hb6) ?_
          refine s_ifc (q := .eq) (a := hI h 58 (7 + (6 * a + b))) rfl ⟨_, rfl⟩ rfl (by unfold sR aMi aMa; omega) (fun hc8 => ?_) (fun hc8 => ?_)
          · have hc8 : ((hI h 58 (7 + (6 * a + b))) : Int) = 0 := hc8
            refine sP 1 (g1 := (27, [some (.ref 53), some (sI ((a : Int))), some (sI ((b : Int))), some (sI v)], [.ref 53], h)) rfl ?_
            refine s_call (k := 163) (args := [.ref 53]) (st := []) (v := some (sI (hI h 58 80))) (h1 := h) rfl ⟨rfl, rfl⟩ rfl rfl rfl rfl (sRcv hh (a := 53) rfl rfl) rfl (fDone hh) ?_
            refine sP 1 (g1 := (29, [some (.ref 53), some (sI ((a : Int))), some (sI ((b : Int))), some (sI v)], [sI 40, sI (hI h 58 80)], h)) rfl ?_
            refine s_icmp (q := .ne) (a := hI h 58 80) (b := 40) rfl ⟨_, rfl⟩ rfl (by unfold sR aMi aMa; omega) (by unfold sR aMi aMa; omega) (fun hc9 => ?_) (fun hc9 => ?_)
            · have hc9 : ((hI h 58 80) : Int) ≠ 40 := hc9
              refine sP 4 (g1 := (36, [some (.ref 53), some (sI ((a : Int))), some (sI ((b : Int))), some (sI v)], [sI ((b : Int)), sI ((a : Int)), sI 1, .ref 53], h)) rfl ?_
              refine s_call (k := 165) (args := [.ref 53, sI 1, sI ((a : Int)), sI ((b : Int))]) (st := []) (v := none) (h1 := g1) rfl ⟨rfl, rfl⟩ rfl rfl rfl rfl (sRcv hh (a := 53) rfl rfl) rfl r1 ?_
              refine sP 1 (g1 := (38, [some (.ref 53), some (sI ((a : Int))), some (sI ((b : Int))), some (sI v)], [.ref 53], g1)) rfl ?_
              refine s_get (a := 53) (j := 4) r2 rfl ⟨_, rfl⟩ rfl rfl rfl (v := .ref 58) (hR_ok r2 (by decide +kernel)) ?_
              refine sP 3 (g1 := (42, [some (.ref 53), some (sI ((a : Int))), some (sI ((b : Int))), some (sI v)], [sI ((a : Int)), sI 6, sI 7, .ref 58], g1)) rfl ?_
              refine s_mul (a := 6) (b := (a : Int)) rfl rfl ?_
              refine s_add (a := 7) (b := 6 * ((a : Int))) rfl rfl ?_
              refine sP 1 (g1 := (45, [some (.ref 53), some (sI ((a : Int))), some (sI ((b : Int))), some (sI v)], [sI ((b : Int)), sI (7 + (6 * ((a : Int)))), .ref 58], g1)) rfl ?_
              refine s_add (a := 7 + (6 * ((a : Int)))) (b := (b : Int)) rfl rfl ?_
              refine sP 1 (g1 := (47, [some (.ref 53), some (sI ((a : Int))), some (sI ((b : Int))), some (sI v)], [sI v, sI ((7 + (6 * ((a : Int)))) + ((b : Int))), .ref 58], g1)) rfl ?_
              refine s_iast (a := 58) (n := 201) (j := (7 + (6 * ((a : Int)))) + ((b : Int))) r2 rfl rfl (show sTg 58 = some (50, 201) from rfl) (by omega) (by omega) (by decide) ?_
              rw [show ((7 + (6 * ((a : Int)))) + ((b : Int)) : Int).toNat = 7 + (6 * a + b) by omega]
              rw [← eg2]
              refine sP 1 (g1 := (49, [some (.ref 53), some (sI ((a : Int))), some (sI ((b : Int))), some (sI v)], [.ref 53], g2)) rfl ?_
              refine s_call (k := 168) (args := [.ref 53]) (st := []) (v := some (sI (((uA (fun j => hI g2 58 (7 + j)) n n : Nat) : Int)))) (h1 := g2) rfl ⟨rfl, rfl⟩ rfl rfl rfl rfl (sRcv hg2 (a := 53) rfl rfl) rfl (fUnmet hg2 hn1) ?_
              exact s_reti rfl rfl (Or.inl rfl) rfl rfl
            · have hc9 : ¬ (((hI h 58 80) : Int) ≠ 40) := hc9
              omega
          · have hc8 : ¬ (((hI h 58 (7 + (6 * a + b))) : Int) = 0) := hc8
            omega
        · have hc7 : ¬ ((1 : Int) ≠ 0) := hc7
          omega
end PUB1
