/-! deeds undone -/
section UNDO
variable {sc : List Int32} {d : Nat} {h g h1 g1 : mH}
theorem nR_less {D : Nat} (hr : nR h g) (hD : hI h 3 5 = (D : Int) + 1) (p3 : hI h1 3 3 = hI h 3 3) (m0 : hI g1 58 0 = hI g 58 0) (u : hI h1 3 4 = hI g1 58 43) (d1 : hI h1 3 5 = (D : Int)) (d2 : hI g1 58 80 = (D : Int))
    (hK : ∀ a : Nat, hI h1 4 a = hI h 4 a) (mK : ∀ a : Nat, (a : Int) < hI h 3 3 → hI g1 58 (1 + a) = hI g 58 (1 + a))
    (hG : ∀ a b : Nat, (a : Int) < hI h 3 3 → (b : Int) < hI h 3 3 → hI h1 5 (6 * a + b) = hI g1 58 (7 + (6 * a + b)))
    (ht : tR (hJ h1 3 6) (fun j => hI g1 58 (44 + j))) (hQ : ∀ i : Nat, i < D → hI h1 6 i = hI h 6 i) (mQ : ∀ j : Nat, j < 3 * D → hI g1 58 (81 + j) = hI g 58 (81 + j)) : nR h1 g1 := by
  obtain ⟨a1, a2, a3, a4, a5, a6⟩ := hr
  refine ⟨by rw [p3, m0]; exact a1, u, by rw [d1, d2], fun a ha => ⟨?_, fun b hb => ?_⟩, ht, fun i hi => ?_⟩
  · rw [p3] at ha
    rw [hK, mK a ha]
    exact (a4 a ha).1
  · rw [p3] at ha hb
    exact hG a b ha hb
  · rw [d1] at hi
    rw [hQ i (by omega), mQ _ (by omega), mQ _ (by omega), mQ _ (by omega)]
    exact a6 i (by omega)
theorem nR_un0 {a b D U : Nat} (hr : nR h g) (ha : a < 6) (hb : b < 6) (hU : hI h 3 4 = (U : Int)) (hU6 : U < 64) (h6 : hI h 3 3 ≤ 6) (hD : hI h 3 5 = (D : Int) + 1) (hD4 : D < 40) (x : ∀ p m, aSlot h1 p m = if p = 3 ∧ m = 4 then some (sI ((bxo U a : Nat) : Int)) else if p = 3 ∧ m = 5 then some (sI (D : Int)) else aSlot h p m) (y : ∀ p m, aSlot g1 p m = if p = 58 ∧ m = 43 then some (sI ((bxo U a : Nat) : Int)) else if p = 58 ∧ m = 80 then some (sI (D : Int)) else aSlot g p m) : nR h1 g1 := by
  have hx := bxo_lt U hU6 a ha
  obtain ⟨a1, a2, a3, a4, a5, a6⟩ := id hr
  have sr : ∀ z : Int, 0 ≤ z → z ≤ 1000 → sR z := fun z z0 z1 => by unfold sR aMi aMa; omega
  have p3 : hI h1 3 3 = hI h 3 3 := hI_cg (by rw [x, if_neg (by omega), if_neg (by omega)])
  refine nR_less hr hD p3 (hI_cg (by rw [y, if_neg (by omega), if_neg (by omega)])) ?_ (hI_si (by rw [x, if_neg (by omega), if_pos (by omega)]) (sr _ (by omega) (by omega))) (hI_si (by rw [y, if_neg (by omega), if_pos (by omega)]) (sr _ (by omega) (by omega))) (fun b => hI_cg (by rw [x, if_neg (by omega), if_neg (by omega)])) (fun b hb => hI_cg (by rw [y, if_neg (by omega), if_neg (by omega)])) (fun e c he hc => ?_) ?_ (fun i hi => hI_cg (by rw [x, if_neg (by omega), if_neg (by omega)])) (fun j hj => hI_cg (by rw [y, if_neg (by omega), if_neg (by omega)]))
  · rw [hI_si (h := h1) (v := ((bxo U a : Nat) : Int)) (by rw [x, if_pos (by omega)]) (sr _ (by omega) (by omega)), hI_si (h := g1) (v := ((bxo U a : Nat) : Int)) (by rw [y, if_pos (by omega)]) (sr _ (by omega) (by omega))]
  · rw [hI_cg (h := h) (h1 := h1) (by rw [x, if_neg (by omega), if_neg (by omega)]), hI_cg (h := g) (h1 := g1) (by rw [y, if_neg (by omega), if_neg (by omega)])]
    exact (a4 e he).2 c hc
  · have e7 : hJ h1 3 6 = hJ h 3 6 := by unfold hJ; rw [x, if_neg (by omega), if_neg (by omega)]
    rw [e7]
    exact tR_cg (fun j hj => hI_cg (by rw [y, if_neg (by omega), if_neg (by omega)])) a5
theorem nR_un1 {a b D U : Nat} (hr : nR h g) (ha : a < 6) (hb : b < 6) (hU : hI h 3 4 = (U : Int)) (hU6 : U < 64) (h6 : hI h 3 3 ≤ 6) (hD : hI h 3 5 = (D : Int) + 1) (hD4 : D < 40) (x : ∀ p m, aSlot h1 p m = if p = 5 ∧ m = 6 * a + b then some (sI 0) else if p = 3 ∧ m = 5 then some (sI (D : Int)) else aSlot h p m) (y : ∀ p m, aSlot g1 p m = if p = 58 ∧ m = 7 + (6 * a + b) then some (sI 0) else if p = 58 ∧ m = 80 then some (sI (D : Int)) else aSlot g p m) : nR h1 g1 := by
  have hx := bxo_lt U hU6 a ha
  obtain ⟨a1, a2, a3, a4, a5, a6⟩ := id hr
  have sr : ∀ z : Int, 0 ≤ z → z ≤ 1000 → sR z := fun z z0 z1 => by unfold sR aMi aMa; omega
  have p3 : hI h1 3 3 = hI h 3 3 := hI_cg (by rw [x, if_neg (by omega), if_neg (by omega)])
  refine nR_less hr hD p3 (hI_cg (by rw [y, if_neg (by omega), if_neg (by omega)])) ?_ (hI_si (by rw [x, if_neg (by omega), if_pos (by omega)]) (sr _ (by omega) (by omega))) (hI_si (by rw [y, if_neg (by omega), if_pos (by omega)]) (sr _ (by omega) (by omega))) (fun b => hI_cg (by rw [x, if_neg (by omega), if_neg (by omega)])) (fun b hb => hI_cg (by rw [y, if_neg (by omega), if_neg (by omega)])) (fun e c he hc => ?_) ?_ (fun i hi => hI_cg (by rw [x, if_neg (by omega), if_neg (by omega)])) (fun j hj => hI_cg (by rw [y, if_neg (by omega), if_neg (by omega)]))
  · rw [hI_cg (h := h) (h1 := h1) (by rw [x, if_neg (by omega), if_neg (by omega)]), hI_cg (h := g) (h1 := g1) (by rw [y, if_neg (by omega), if_neg (by omega)])]
    exact a2
  · by_cases w : 6 * e + c = 6 * a + b
    · rw [w, hI_si (h := h1) (v := 0) (by rw [x, if_pos (by omega)]) (sr _ (by omega) (by omega)), hI_si (h := g1) (v := 0) (by rw [y, if_pos (by omega)]) (sr _ (by omega) (by omega))]
    · rw [hI_cg (h := h) (h1 := h1) (by rw [x, if_neg (by omega), if_neg (by omega)]), hI_cg (h := g) (h1 := g1) (by rw [y, if_neg (by omega), if_neg (by omega)])]
      exact (a4 e he).2 c hc
  · have e7 : hJ h1 3 6 = hJ h 3 6 := by unfold hJ; rw [x, if_neg (by omega), if_neg (by omega)]
    rw [e7]
    exact tR_cg (fun j hj => hI_cg (by rw [y, if_neg (by omega), if_neg (by omega)])) a5
theorem nR_un2 {a b D U : Nat} (hr : nR h g) (ha : a < 6) (hb : b < 6) (hU : hI h 3 4 = (U : Int)) (hU6 : U < 64) (h6 : hI h 3 3 ≤ 6) (hD : hI h 3 5 = (D : Int) + 1) (hD4 : D < 40) (x : ∀ p m, aSlot h1 p m = if p = 3 ∧ m = 6 then some (.long (hJ h 3 6 &&& (pBt a b ^^^ Int64.ofInt (-1)))) else if p = 3 ∧ m = 5 then some (sI (D : Int)) else aSlot h p m) (y : ∀ p m, aSlot g1 p m = if p = 58 ∧ m = 44 + (6 * b + a) then some (sI 0) else if p = 58 ∧ m = 44 + (6 * a + b) then some (sI 0) else if p = 58 ∧ m = 80 then some (sI (D : Int)) else aSlot g p m) : nR h1 g1 := by
  have hx := bxo_lt U hU6 a ha
  obtain ⟨a1, a2, a3, a4, a5, a6⟩ := id hr
  have sr : ∀ z : Int, 0 ≤ z → z ≤ 1000 → sR z := fun z z0 z1 => by unfold sR aMi aMa; omega
  have p3 : hI h1 3 3 = hI h 3 3 := hI_cg (by rw [x, if_neg (by omega), if_neg (by omega)])
  refine nR_less hr hD p3 (hI_cg (by rw [y, if_neg (by omega), if_neg (by omega), if_neg (by omega)])) ?_ (hI_si (by rw [x, if_neg (by omega), if_pos (by omega)]) (sr _ (by omega) (by omega))) (hI_si (by rw [y, if_neg (by omega), if_neg (by omega), if_pos (by omega)]) (sr _ (by omega) (by omega))) (fun b => hI_cg (by rw [x, if_neg (by omega), if_neg (by omega)])) (fun b hb => hI_cg (by rw [y, if_neg (by omega), if_neg (by omega), if_neg (by omega)])) (fun e c he hc => ?_) ?_ (fun i hi => hI_cg (by rw [x, if_neg (by omega), if_neg (by omega)])) (fun j hj => hI_cg (by rw [y, if_neg (by omega), if_neg (by omega), if_neg (by omega)]))
  · rw [hI_cg (h := h) (h1 := h1) (by rw [x, if_neg (by omega), if_neg (by omega)]), hI_cg (h := g) (h1 := g1) (by rw [y, if_neg (by omega), if_neg (by omega), if_neg (by omega)])]
    exact a2
  · rw [hI_cg (h := h) (h1 := h1) (by rw [x, if_neg (by omega), if_neg (by omega)]), hI_cg (h := g) (h1 := g1) (by rw [y, if_neg (by omega), if_neg (by omega), if_neg (by omega)])]
    exact (a4 e he).2 c hc
  · have e7 : hJ h1 3 6 = hJ h 3 6 &&& (pBt a b ^^^ Int64.ofInt (-1)) := hJ_of (by rw [x, if_pos (by omega)])
    rw [e7]
    refine tR_clr ha hb (tR_cg (f1 := fun j => if j < 36 then hI g 58 (44 + j) else hI g1 58 (44 + j)) (fun j hj => by show (if j < 36 then _ else _) = _; rw [if_pos hj]) a5) (fun j => ?_)
    show hI g1 58 (44 + j) = if j = 6 * b + a then 0 else if j = 6 * a + b then 0 else if j < 36 then hI g 58 (44 + j) else hI g1 58 (44 + j)
    by_cases w1 : j = 6 * b + a
    · rw [if_pos w1]
      exact hI_si (by rw [y, if_pos (by omega)]) (sr _ (by omega) (by omega))
    · rw [if_neg w1]
      by_cases w2 : j = 6 * a + b
      · rw [if_pos w2]
        exact hI_si (by rw [y, if_neg (by omega), if_pos (by omega)]) (sr _ (by omega) (by omega))
      · rw [if_neg w2]
        by_cases w3 : j < 36
        · rw [if_pos w3]
          exact hI_cg (by rw [y, if_neg (by omega), if_neg (by omega), if_neg (by omega)])
        · rw [if_neg w3]
theorem fUn0 {a b D U : Nat} (hh : aHp h) (ha : a < 6) (hb : b < 6) (hU : hI h 58 43 = (U : Int)) (hD : hI h 58 80 = (D : Int) + 1) (hs : hI h 58 (81 + 3 * D) = 0) (hqa : hI h 58 (81 + (3 * D + 1)) = (a : Int)) (hqb : hI h 58 (81 + (3 * D + 2)) = (b : Int)) : ∃ g, nEv sc (d + 2) 177 [.ref 53] h (none, g) ∧ aHp g ∧ ∀ p m, aSlot g p m = if p = 58 ∧ m = 43 then some (sI ((bxo U a : Nat) : Int)) else if p = 58 ∧ m = 80 then some (sI (D : Int)) else aSlot h p m := by
  have gu := hI_rg hh nw_u
  have gd := hI_rg hh nw_d
  have hU6 : U < 64 := by omega
  have hx := bxo_lt U hU6 a ha
  obtain ⟨g1, eg1⟩ : ∃ gz, gz = hset h 58 80 (sI (D : Int)) := ⟨_, rfl⟩
  have sg1 : ∀ xa xm, aSlot g1 xa xm = if xa = 58 ∧ xm = 80 then some (sI (D : Int)) else aSlot h xa xm := fun xa xm => by rw [eg1]; exact hset_slot hh (show sTg 58 = some (50, 201) from rfl) (by omega) xa xm
  have hg1 : aHp g1 := by rw [eg1]; exact hset_ii hh nw_id (by omega) (by omega) (by unfold sR aMi aMa; omega)
  obtain ⟨g2, eg2⟩ : ∃ gz, gz = hset g1 58 43 (sI ((bxo U a : Nat) : Int)) := ⟨_, rfl⟩
  have sg2 : ∀ xa xm, aSlot g2 xa xm = if xa = 58 ∧ xm = 43 then some (sI ((bxo U a : Nat) : Int)) else aSlot g1 xa xm := fun xa xm => by rw [eg2]; exact hset_slot hg1 (show sTg 58 = some (50, 201) from rfl) (by omega) xa xm
  have hg2 : aHp g2 := by rw [eg2]; exact hset_ii hg1 nw_iu (by omega) (by omega) (by unfold sR aMi aMa; omega)
  refine ⟨g2, nEv_of (t := mMe177) rfl ?_, hg2, fun p m => by rw [sg2, sg1]⟩
  show nRn sc (d + 1) (mMT mMe177) (mMC mMe177) (0, [some (.ref 53), none, none, none], [], h) _
  refine sP 1 (g1 := (1, [some (.ref 53), none, none, none], [.ref 53], h)) rfl ?_
  refine s_get (a := 53) (j := 4) hh rfl ⟨_, rfl⟩ rfl rfl rfl (v := .ref 58) (hR_ok hh (by decide +kernel)) ?_
  refine sP 2 (g1 := (4, [some (.ref 53), none, none, none], [sI 80, .ref 58, sI 80, .ref 58], h)) rfl ?_
  refine s_iald (a := 58) (n := 201) (j := 80) hh rfl rfl rfl (by omega) (by omega) (by decide) (v := sI ((D : Int) + 1)) (by have q := hI_ok hh nw_d; rw [hD] at q; exact q) ?_
  refine sP 1 (g1 := (6, [some (.ref 53), none, none, none], [sI 1, sI ((D : Int) + 1), sI 80, .ref 58], h)) rfl ?_
  refine s_sub (a := (D : Int) + 1) (b := 1) rfl rfl ?_
  refine s_iast (a := 58) (n := 201) (j := 80) hh rfl rfl (show sTg 58 = some (50, 201) from rfl) (by omega) (by omega) (by decide) ?_
  rw [show (80 : Int).toNat = 80 by omega]
  rw [show (D : Int) + 1 - 1 = (D : Int) by omega]
  rw [← eg1]
  refine sP 3 (g1 := (11, [some (.ref 53), none, none, none], [.ref 53, sI 3, sI 81], g1)) rfl ?_
  refine s_get (a := 53) (j := 4) hg1 rfl ⟨_, rfl⟩ rfl rfl rfl (v := .ref 58) (hR_ok hg1 (by decide +kernel)) ?_
  refine sP 1 (g1 := (13, [some (.ref 53), none, none, none], [sI 80, .ref 58, sI 3, sI 81], g1)) rfl ?_
  refine s_iald (a := 58) (n := 201) (j := 80) hg1 rfl rfl rfl (by omega) (by omega) (by decide) (v := sI ((D : Int))) (by show aSlot g1 58 80 = _; rw [sg1, if_pos (by omega)]) ?_
  refine s_mul (a := 3) (b := (D : Int)) rfl rfl ?_
  refine s_add (a := 81) (b := 3 * ((D : Int))) rfl rfl ?_
  refine sP 2 (g1 := (18, [some (.ref 53), some (sI (81 + (3 * ((D : Int))))), none, none], [.ref 53], g1)) rfl ?_
  refine s_get (a := 53) (j := 4) hg1 rfl ⟨_, rfl⟩ rfl rfl rfl (v := .ref 58) (hR_ok hg1 (by decide +kernel)) ?_
  refine sP 2 (g1 := (21, [some (.ref 53), some (sI (81 + (3 * ((D : Int))))), none, none], [sI 1, sI (81 + (3 * ((D : Int)))), .ref 58], g1)) rfl ?_
  refine s_add (a := 81 + (3 * ((D : Int)))) (b := 1) rfl rfl ?_
  refine s_iald (a := 58) (n := 201) (j := (81 + (3 * ((D : Int)))) + 1) hg1 rfl rfl rfl (by omega) (by omega) (by decide) (v := sI ((a : Int))) (by rw [show ((81 + (3 * ((D : Int)))) + 1 : Int).toNat = 81 + (3 * D + 1) by omega, sg1, if_neg (by omega)]; have q := hI_ok hh (nw_q (show 3 * D + 1 < 120 by omega)); rw [hqa] at q; exact q) ?_
  refine sP 2 (g1 := (25, [some (.ref 53), some (sI (81 + (3 * ((D : Int))))), some (sI ((a : Int))), none], [.ref 53], g1)) rfl ?_
  refine s_get (a := 53) (j := 4) hg1 rfl ⟨_, rfl⟩ rfl rfl rfl (v := .ref 58) (hR_ok hg1 (by decide +kernel)) ?_
  refine sP 2 (g1 := (28, [some (.ref 53), some (sI (81 + (3 * ((D : Int))))), some (sI ((a : Int))), none], [sI 2, sI (81 + (3 * ((D : Int)))), .ref 58], g1)) rfl ?_
  refine s_add (a := 81 + (3 * ((D : Int)))) (b := 2) rfl rfl ?_
  refine s_iald (a := 58) (n := 201) (j := (81 + (3 * ((D : Int)))) + 2) hg1 rfl rfl rfl (by omega) (by omega) (by decide) (v := sI ((b : Int))) (by rw [show ((81 + (3 * ((D : Int)))) + 2 : Int).toNat = 81 + (3 * D + 2) by omega, sg1, if_neg (by omega)]; have q := hI_ok hh (nw_q (show 3 * D + 2 < 120 by omega)); rw [hqb] at q; exact q) ?_
  refine sP 2 (g1 := (32, [some (.ref 53), some (sI (81 + (3 * ((D : Int))))), some (sI ((a : Int))), some (sI ((b : Int)))], [.ref 53], g1)) rfl ?_
  refine s_get (a := 53) (j := 4) hg1 rfl ⟨_, rfl⟩ rfl rfl rfl (v := .ref 58) (hR_ok hg1 (by decide +kernel)) ?_
  refine sP 1 (g1 := (34, [some (.ref 53), some (sI (81 + (3 * ((D : Int))))), some (sI ((a : Int))), some (sI ((b : Int)))], [sI (81 + (3 * ((D : Int)))), .ref 58], g1)) rfl ?_
  refine s_iald (a := 58) (n := 201) (j := 81 + (3 * ((D : Int)))) hg1 rfl rfl rfl (by omega) (by omega) (by decide) (v := sI 0) (by rw [show (81 + (3 * ((D : Int))) : Int).toNat = 81 + 3 * D by omega, sg1, if_neg (by omega)]; have q := hI_ok hh (nw_q (show 3 * D < 120 by omega)); rw [hs] at q; exact q) ?_
  refine s_lsw (k := 0) rfl rfl (by unfold sR aMi aMa; omega) rfl ?_
  refine sP 1 (g1 := (37, [some (.ref 53), some (sI (81 + (3 * ((D : Int))))), some (sI ((a : Int))), some (sI ((b : Int)))], [.ref 53], g1)) rfl ?_
  refine s_get (a := 53) (j := 4) hg1 rfl ⟨_, rfl⟩ rfl rfl rfl (v := .ref 58) (hR_ok hg1 (by decide +kernel)) ?_
  refine sP 2 (g1 := (40, [some (.ref 53), some (sI (81 + (3 * ((D : Int))))), some (sI ((a : Int))), some (sI ((b : Int)))], [sI 43, .ref 58, sI 43, .ref 58], g1)) rfl ?_
  refine s_iald (a := 58) (n := 201) (j := 43) hg1 rfl rfl rfl (by omega) (by omega) (by decide) (v := sI ((U : Int))) (by show aSlot g1 58 43 = _; rw [sg1, if_neg (by omega)]; have q := hI_ok hh nw_u; rw [hU] at q; exact q) ?_
  refine sP 2 (g1 := (43, [some (.ref 53), some (sI (81 + (3 * ((D : Int))))), some (sI ((a : Int))), some (sI ((b : Int)))], [sI ((a : Int)), sI 1, sI ((U : Int)), sI 43, .ref 58], g1)) rfl ?_
  refine s_shl (a := a) rfl rfl ha ?_
  refine s_xo (s := U) (a := a) rfl rfl hU6 ha ?_
  refine s_iast (a := 58) (n := 201) (j := 43) hg1 rfl rfl (show sTg 58 = some (50, 201) from rfl) (by omega) (by omega) (by decide) ?_
  rw [show (43 : Int).toNat = 43 by omega]
  rw [← eg2]
  refine sP 1 (g1 := (64, [some (.ref 53), some (sI (81 + (3 * ((D : Int))))), some (sI ((a : Int))), some (sI ((b : Int)))], [], g2)) rfl ?_
  exact s_ret rfl rfl
theorem fUn1 {a b D U : Nat} (hh : aHp h) (ha : a < 6) (hb : b < 6) (hU : hI h 58 43 = (U : Int)) (hD : hI h 58 80 = (D : Int) + 1) (hs : hI h 58 (81 + 3 * D) = 1) (hqa : hI h 58 (81 + (3 * D + 1)) = (a : Int)) (hqb : hI h 58 (81 + (3 * D + 2)) = (b : Int)) : ∃ g, nEv sc (d + 2) 177 [.ref 53] h (none, g) ∧ aHp g ∧ ∀ p m, aSlot g p m = if p = 58 ∧ m = 7 + (6 * a + b) then some (sI 0) else if p = 58 ∧ m = 80 then some (sI (D : Int)) else aSlot h p m := by
  have gu := hI_rg hh nw_u
  have gd := hI_rg hh nw_d
  have hU6 : U < 64 := by omega
  have hx := bxo_lt U hU6 a ha
  obtain ⟨g1, eg1⟩ : ∃ gz, gz = hset h 58 80 (sI (D : Int)) := ⟨_, rfl⟩
  have sg1 : ∀ xa xm, aSlot g1 xa xm = if xa = 58 ∧ xm = 80 then some (sI (D : Int)) else aSlot h xa xm := fun xa xm => by rw [eg1]; exact hset_slot hh (show sTg 58 = some (50, 201) from rfl) (by omega) xa xm
  have hg1 : aHp g1 := by rw [eg1]; exact hset_ii hh nw_id (by omega) (by omega) (by unfold sR aMi aMa; omega)
  obtain ⟨g2, eg2⟩ : ∃ gz, gz = hset g1 58 (7 + (6 * a + b)) (sI 0) := ⟨_, rfl⟩
  have sg2 : ∀ xa xm, aSlot g2 xa xm = if xa = 58 ∧ xm = 7 + (6 * a + b) then some (sI 0) else aSlot g1 xa xm := fun xa xm => by rw [eg2]; exact hset_slot hg1 (show sTg 58 = some (50, 201) from rfl) (by omega) xa xm
  have hg2 : aHp g2 := by rw [eg2]; exact hset_ii hg1 (nw_il (by omega)) (by omega) (by omega) (by unfold sR aMi aMa; omega)
  refine ⟨g2, nEv_of (t := mMe177) rfl ?_, hg2, fun p m => by rw [sg2, sg1]⟩
  show nRn sc (d + 1) (mMT mMe177) (mMC mMe177) (0, [some (.ref 53), none, none, none], [], h) _
  refine sP 1 (g1 := (1, [some (.ref 53), none, none, none], [.ref 53], h)) rfl ?_
  refine s_get (a := 53) (j := 4) hh rfl ⟨_, rfl⟩ rfl rfl rfl (v := .ref 58) (hR_ok hh (by decide +kernel)) ?_
  refine sP 2 (g1 := (4, [some (.ref 53), none, none, none], [sI 80, .ref 58, sI 80, .ref 58], h)) rfl ?_
  refine s_iald (a := 58) (n := 201) (j := 80) hh rfl rfl rfl (by omega) (by omega) (by decide) (v := sI ((D : Int) + 1)) (by have q := hI_ok hh nw_d; rw [hD] at q; exact q) ?_
  refine sP 1 (g1 := (6, [some (.ref 53), none, none, none], [sI 1, sI ((D : Int) + 1), sI 80, .ref 58], h)) rfl ?_
  refine s_sub (a := (D : Int) + 1) (b := 1) rfl rfl ?_
  refine s_iast (a := 58) (n := 201) (j := 80) hh rfl rfl (show sTg 58 = some (50, 201) from rfl) (by omega) (by omega) (by decide) ?_
  rw [show (80 : Int).toNat = 80 by omega]
  rw [show (D : Int) + 1 - 1 = (D : Int) by omega]
  rw [← eg1]
  refine sP 3 (g1 := (11, [some (.ref 53), none, none, none], [.ref 53, sI 3, sI 81], g1)) rfl ?_
  refine s_get (a := 53) (j := 4) hg1 rfl ⟨_, rfl⟩ rfl rfl rfl (v := .ref 58) (hR_ok hg1 (by decide +kernel)) ?_
  refine sP 1 (g1 := (13, [some (.ref 53), none, none, none], [sI 80, .ref 58, sI 3, sI 81], g1)) rfl ?_
  refine s_iald (a := 58) (n := 201) (j := 80) hg1 rfl rfl rfl (by omega) (by omega) (by decide) (v := sI ((D : Int))) (by show aSlot g1 58 80 = _; rw [sg1, if_pos (by omega)]) ?_
  refine s_mul (a := 3) (b := (D : Int)) rfl rfl ?_
  refine s_add (a := 81) (b := 3 * ((D : Int))) rfl rfl ?_
  refine sP 2 (g1 := (18, [some (.ref 53), some (sI (81 + (3 * ((D : Int))))), none, none], [.ref 53], g1)) rfl ?_
  refine s_get (a := 53) (j := 4) hg1 rfl ⟨_, rfl⟩ rfl rfl rfl (v := .ref 58) (hR_ok hg1 (by decide +kernel)) ?_
  refine sP 2 (g1 := (21, [some (.ref 53), some (sI (81 + (3 * ((D : Int))))), none, none], [sI 1, sI (81 + (3 * ((D : Int)))), .ref 58], g1)) rfl ?_
  refine s_add (a := 81 + (3 * ((D : Int)))) (b := 1) rfl rfl ?_
  refine s_iald (a := 58) (n := 201) (j := (81 + (3 * ((D : Int)))) + 1) hg1 rfl rfl rfl (by omega) (by omega) (by decide) (v := sI ((a : Int))) (by rw [show ((81 + (3 * ((D : Int)))) + 1 : Int).toNat = 81 + (3 * D + 1) by omega, sg1, if_neg (by omega)]; have q := hI_ok hh (nw_q (show 3 * D + 1 < 120 by omega)); rw [hqa] at q; exact q) ?_
  refine sP 2 (g1 := (25, [some (.ref 53), some (sI (81 + (3 * ((D : Int))))), some (sI ((a : Int))), none], [.ref 53], g1)) rfl ?_
  refine s_get (a := 53) (j := 4) hg1 rfl ⟨_, rfl⟩ rfl rfl rfl (v := .ref 58) (hR_ok hg1 (by decide +kernel)) ?_
  refine sP 2 (g1 := (28, [some (.ref 53), some (sI (81 + (3 * ((D : Int))))), some (sI ((a : Int))), none], [sI 2, sI (81 + (3 * ((D : Int)))), .ref 58], g1)) rfl ?_
  refine s_add (a := 81 + (3 * ((D : Int)))) (b := 2) rfl rfl ?_
  refine s_iald (a := 58) (n := 201) (j := (81 + (3 * ((D : Int)))) + 2) hg1 rfl rfl rfl (by omega) (by omega) (by decide) (v := sI ((b : Int))) (by rw [show ((81 + (3 * ((D : Int)))) + 2 : Int).toNat = 81 + (3 * D + 2) by omega, sg1, if_neg (by omega)]; have q := hI_ok hh (nw_q (show 3 * D + 2 < 120 by omega)); rw [hqb] at q; exact q) ?_
  refine sP 2 (g1 := (32, [some (.ref 53), some (sI (81 + (3 * ((D : Int))))), some (sI ((a : Int))), some (sI ((b : Int)))], [.ref 53], g1)) rfl ?_
  refine s_get (a := 53) (j := 4) hg1 rfl ⟨_, rfl⟩ rfl rfl rfl (v := .ref 58) (hR_ok hg1 (by decide +kernel)) ?_
  refine sP 1 (g1 := (34, [some (.ref 53), some (sI (81 + (3 * ((D : Int))))), some (sI ((a : Int))), some (sI ((b : Int)))], [sI (81 + (3 * ((D : Int)))), .ref 58], g1)) rfl ?_
  refine s_iald (a := 58) (n := 201) (j := 81 + (3 * ((D : Int)))) hg1 rfl rfl rfl (by omega) (by omega) (by decide) (v := sI 1) (by rw [show (81 + (3 * ((D : Int))) : Int).toNat = 81 + 3 * D by omega, sg1, if_neg (by omega)]; have q := hI_ok hh (nw_q (show 3 * D < 120 by omega)); rw [hs] at q; exact q) ?_
  refine s_lsw (k := 1) rfl rfl (by unfold sR aMi aMa; omega) rfl ?_
  refine sP 1 (g1 := (48, [some (.ref 53), some (sI (81 + (3 * ((D : Int))))), some (sI ((a : Int))), some (sI ((b : Int)))], [.ref 53], g1)) rfl ?_
  refine s_get (a := 53) (j := 4) hg1 rfl ⟨_, rfl⟩ rfl rfl rfl (v := .ref 58) (hR_ok hg1 (by decide +kernel)) ?_
  refine sP 3 (g1 := (52, [some (.ref 53), some (sI (81 + (3 * ((D : Int))))), some (sI ((a : Int))), some (sI ((b : Int)))], [sI ((a : Int)), sI 6, sI 7, .ref 58], g1)) rfl ?_
  refine s_mul (a := 6) (b := (a : Int)) rfl rfl ?_
  refine s_add (a := 7) (b := 6 * ((a : Int))) rfl rfl ?_
  refine sP 1 (g1 := (55, [some (.ref 53), some (sI (81 + (3 * ((D : Int))))), some (sI ((a : Int))), some (sI ((b : Int)))], [sI ((b : Int)), sI (7 + (6 * ((a : Int)))), .ref 58], g1)) rfl ?_
  refine s_add (a := 7 + (6 * ((a : Int)))) (b := (b : Int)) rfl rfl ?_
  refine sP 1 (g1 := (57, [some (.ref 53), some (sI (81 + (3 * ((D : Int))))), some (sI ((a : Int))), some (sI ((b : Int)))], [sI 0, sI ((7 + (6 * ((a : Int)))) + ((b : Int))), .ref 58], g1)) rfl ?_
  refine s_iast (a := 58) (n := 201) (j := (7 + (6 * ((a : Int)))) + ((b : Int))) hg1 rfl rfl (show sTg 58 = some (50, 201) from rfl) (by omega) (by omega) (by decide) ?_
  rw [show ((7 + (6 * ((a : Int)))) + ((b : Int)) : Int).toNat = 7 + (6 * a + b) by omega]
  rw [← eg2]
  refine sP 1 (g1 := (64, [some (.ref 53), some (sI (81 + (3 * ((D : Int))))), some (sI ((a : Int))), some (sI ((b : Int)))], [], g2)) rfl ?_
  exact s_ret rfl rfl
theorem fUn2 {a b D U : Nat} (hh : aHp h) (ha : a < 6) (hb : b < 6) (hU : hI h 58 43 = (U : Int)) (hD : hI h 58 80 = (D : Int) + 1) (hs : hI h 58 (81 + 3 * D) = 2) (hqa : hI h 58 (81 + (3 * D + 1)) = (a : Int)) (hqb : hI h 58 (81 + (3 * D + 2)) = (b : Int)) : ∃ g, nEv sc (d + 2) 177 [.ref 53] h (none, g) ∧ aHp g ∧ ∀ p m, aSlot g p m = if p = 58 ∧ m = 44 + (6 * b + a) then some (sI 0) else if p = 58 ∧ m = 44 + (6 * a + b) then some (sI 0) else if p = 58 ∧ m = 80 then some (sI (D : Int)) else aSlot h p m := by
  have gu := hI_rg hh nw_u
  have gd := hI_rg hh nw_d
  have hU6 : U < 64 := by omega
  have hx := bxo_lt U hU6 a ha
  obtain ⟨g1, eg1⟩ : ∃ gz, gz = hset h 58 80 (sI (D : Int)) := ⟨_, rfl⟩
  have sg1 : ∀ xa xm, aSlot g1 xa xm = if xa = 58 ∧ xm = 80 then some (sI (D : Int)) else aSlot h xa xm := fun xa xm => by rw [eg1]; exact hset_slot hh (show sTg 58 = some (50, 201) from rfl) (by omega) xa xm
  have hg1 : aHp g1 := by rw [eg1]; exact hset_ii hh nw_id (by omega) (by omega) (by unfold sR aMi aMa; omega)
  obtain ⟨g2, q1, hg2, q3⟩ := fSigns (sc := sc) (d := d) (v := 0) hg1 ha hb (by decide) (by decide)
  refine ⟨g2, nEv_of (t := mMe177) rfl ?_, hg2, fun p m => by rw [q3, sg1]⟩
  show nRn sc (d + 1) (mMT mMe177) (mMC mMe177) (0, [some (.ref 53), none, none, none], [], h) _
  refine sP 1 (g1 := (1, [some (.ref 53), none, none, none], [.ref 53], h)) rfl ?_
  refine s_get (a := 53) (j := 4) hh rfl ⟨_, rfl⟩ rfl rfl rfl (v := .ref 58) (hR_ok hh (by decide +kernel)) ?_
  refine sP 2 (g1 := (4, [some (.ref 53), none, none, none], [sI 80, .ref 58, sI 80, .ref 58], h)) rfl ?_
  refine s_iald (a := 58) (n := 201) (j := 80) hh rfl rfl rfl (by omega) (by omega) (by decide) (v := sI ((D : Int) + 1)) (by have q := hI_ok hh nw_d; rw [hD] at q; exact q) ?_
  refine sP 1 (g1 := (6, [some (.ref 53), none, none, none], [sI 1, sI ((D : Int) + 1), sI 80, .ref 58], h)) rfl ?_
  refine s_sub (a := (D : Int) + 1) (b := 1) rfl rfl ?_
  refine s_iast (a := 58) (n := 201) (j := 80) hh rfl rfl (show sTg 58 = some (50, 201) from rfl) (by omega) (by omega) (by decide) ?_
  rw [show (80 : Int).toNat = 80 by omega]
  rw [show (D : Int) + 1 - 1 = (D : Int) by omega]
  rw [← eg1]
  refine sP 3 (g1 := (11, [some (.ref 53), none, none, none], [.ref 53, sI 3, sI 81], g1)) rfl ?_
  refine s_get (a := 53) (j := 4) hg1 rfl ⟨_, rfl⟩ rfl rfl rfl (v := .ref 58) (hR_ok hg1 (by decide +kernel)) ?_
  refine sP 1 (g1 := (13, [some (.ref 53), none, none, none], [sI 80, .ref 58, sI 3, sI 81], g1)) rfl ?_
  refine s_iald (a := 58) (n := 201) (j := 80) hg1 rfl rfl rfl (by omega) (by omega) (by decide) (v := sI ((D : Int))) (by show aSlot g1 58 80 = _; rw [sg1, if_pos (by omega)]) ?_
  refine s_mul (a := 3) (b := (D : Int)) rfl rfl ?_
  refine s_add (a := 81) (b := 3 * ((D : Int))) rfl rfl ?_
  refine sP 2 (g1 := (18, [some (.ref 53), some (sI (81 + (3 * ((D : Int))))), none, none], [.ref 53], g1)) rfl ?_
  refine s_get (a := 53) (j := 4) hg1 rfl ⟨_, rfl⟩ rfl rfl rfl (v := .ref 58) (hR_ok hg1 (by decide +kernel)) ?_
  refine sP 2 (g1 := (21, [some (.ref 53), some (sI (81 + (3 * ((D : Int))))), none, none], [sI 1, sI (81 + (3 * ((D : Int)))), .ref 58], g1)) rfl ?_
  refine s_add (a := 81 + (3 * ((D : Int)))) (b := 1) rfl rfl ?_
  refine s_iald (a := 58) (n := 201) (j := (81 + (3 * ((D : Int)))) + 1) hg1 rfl rfl rfl (by omega) (by omega) (by decide) (v := sI ((a : Int))) (by rw [show ((81 + (3 * ((D : Int)))) + 1 : Int).toNat = 81 + (3 * D + 1) by omega, sg1, if_neg (by omega)]; have q := hI_ok hh (nw_q (show 3 * D + 1 < 120 by omega)); rw [hqa] at q; exact q) ?_
  refine sP 2 (g1 := (25, [some (.ref 53), some (sI (81 + (3 * ((D : Int))))), some (sI ((a : Int))), none], [.ref 53], g1)) rfl ?_
  refine s_get (a := 53) (j := 4) hg1 rfl ⟨_, rfl⟩ rfl rfl rfl (v := .ref 58) (hR_ok hg1 (by decide +kernel)) ?_
  refine sP 2 (g1 := (28, [some (.ref 53), some (sI (81 + (3 * ((D : Int))))), some (sI ((a : Int))), none], [sI 2, sI (81 + (3 * ((D : Int)))), .ref 58], g1)) rfl ?_
  refine s_add (a := 81 + (3 * ((D : Int)))) (b := 2) rfl rfl ?_
  refine s_iald (a := 58) (n := 201) (j := (81 + (3 * ((D : Int)))) + 2) hg1 rfl rfl rfl (by omega) (by omega) (by decide) (v := sI ((b : Int))) (by rw [show ((81 + (3 * ((D : Int)))) + 2 : Int).toNat = 81 + (3 * D + 2) by omega, sg1, if_neg (by omega)]; have q := hI_ok hh (nw_q (show 3 * D + 2 < 120 by omega)); rw [hqb] at q; exact q) ?_
  refine sP 2 (g1 := (32, [some (.ref 53), some (sI (81 + (3 * ((D : Int))))), some (sI ((a : Int))), some (sI ((b : Int)))], [.ref 53], g1)) rfl ?_
  refine s_get (a := 53) (j := 4) hg1 rfl ⟨_, rfl⟩ rfl rfl rfl (v := .ref 58) (hR_ok hg1 (by decide +kernel)) ?_
  refine sP 1 (g1 := (34, [some (.ref 53), some (sI (81 + (3 * ((D : Int))))), some (sI ((a : Int))), some (sI ((b : Int)))], [sI (81 + (3 * ((D : Int)))), .ref 58], g1)) rfl ?_
  refine s_iald (a := 58) (n := 201) (j := 81 + (3 * ((D : Int)))) hg1 rfl rfl rfl (by omega) (by omega) (by decide) (v := sI 2) (by rw [show (81 + (3 * ((D : Int))) : Int).toNat = 81 + 3 * D by omega, sg1, if_neg (by omega)]; have q := hI_ok hh (nw_q (show 3 * D < 120 by omega)); rw [hs] at q; exact q) ?_
  refine s_lsw (k := 2) rfl rfl (by unfold sR aMi aMa; omega) rfl ?_
  refine sP 4 (g1 := (63, [some (.ref 53), some (sI (81 + (3 * ((D : Int))))), some (sI ((a : Int))), some (sI ((b : Int)))], [sI 0, sI ((b : Int)), sI ((a : Int)), .ref 53], g1)) rfl ?_
  refine s_call (k := 174) (args := [.ref 53, sI ((a : Int)), sI ((b : Int)), sI 0]) (st := []) (v := none) (h1 := g2) rfl ⟨rfl, rfl⟩ rfl rfl rfl rfl (sRcv hg1 (a := 53) rfl rfl) rfl q1 ?_
  exact s_ret rfl rfl
theorem fBack0 {a b D U n : Nat} {X2 X3 : Option Value} (hh : aHp h) (ha : a < 6) (hb : b < 6) (hU : hI h 3 4 = (U : Int)) (hD : hI h 3 5 = (D : Int) + 1) (hn : n ≤ D) (hq : aSlot h 6 D = some (sI ((64 * 0 + 8 * a + b : Nat) : Int))) : ∃ g, aHp g ∧ (∀ p m, aSlot g p m = if p = 3 ∧ m = 4 then some (sI ((bxo U a : Nat) : Int)) else if p = 3 ∧ m = 5 then some (sI (D : Int)) else aSlot h p m) ∧ (∀ r, nRn sc (d + 2) (mMT mMe71) (mMC mMe71) (0, [some (.ref 3), some (sI (n : Int)), some (sI (a : Int)), some (sI (b : Int))], [], g) r → nRn sc (d + 2) (mMT mMe71) (mMC mMe71) (0, [some (.ref 3), some (sI (n : Int)), X2, X3], [], h) r) := by
  have gu := hI_rg hh xw_u
  have gd := hI_rg hh xw_d
  have hU6 : U < 64 := by omega
  have hx := bxo_lt U hU6 a ha
  obtain ⟨g1, eg1⟩ : ∃ gz, gz = hset h 3 5 (sI (D : Int)) := ⟨_, rfl⟩
  have sg1 : ∀ xa xm, aSlot g1 xa xm = if xa = 3 ∧ xm = 5 then some (sI (D : Int)) else aSlot h xa xm := fun xa xm => by rw [eg1]; exact hset_slot hh (show sTg 3 = some (1, 7) from rfl) (by omega) xa xm
  have hg1 : aHp g1 := by rw [eg1]; exact hset_ii hh xw_id (by omega) (by omega) (by unfold sR aMi aMa; omega)
  obtain ⟨g2, eg2⟩ : ∃ gz, gz = hset g1 3 4 (sI ((bxo U a : Nat) : Int)) := ⟨_, rfl⟩
  have sg2 : ∀ xa xm, aSlot g2 xa xm = if xa = 3 ∧ xm = 4 then some (sI ((bxo U a : Nat) : Int)) else aSlot g1 xa xm := fun xa xm => by rw [eg2]; exact hset_slot hg1 (show sTg 3 = some (1, 7) from rfl) (by omega) xa xm
  have hg2 : aHp g2 := by rw [eg2]; exact hset_ii hg1 xw_iu (by omega) (by omega) (by unfold sR aMi aMa; omega)
  refine ⟨g2, hg2, fun p m => by rw [sg2, sg1], fun r r1 => ?_⟩
  refine sP 1 (g1 := (1, [some (.ref 3), some (sI ((n : Int))), X2, X3], [.ref 3], h)) rfl ?_
  refine s_get (a := 3) (j := 5) hh rfl ⟨_, rfl⟩ rfl rfl rfl (v := sI ((D : Int) + 1)) (by have q := hI_ok hh xw_d; rw [hD] at q; exact q) ?_
  refine sP 1 (g1 := (3, [some (.ref 3), some (sI ((n : Int))), X2, X3], [sI ((n : Int)), sI ((D : Int) + 1)], h)) rfl ?_
  refine s_icmp (q := .le) (a := (D : Int) + 1) (b := (n : Int)) rfl ⟨_, rfl⟩ rfl (by unfold sR aMi aMa; omega) (by unfold sR aMi aMa; omega) (fun hc1 => ?_) (fun hc1 => ?_)
  · have hc1 : (((D : Int) + 1) : Int) ≤ ((n : Int)) := hc1
    omega
  · have hc1 : ¬ ((((D : Int) + 1) : Int) ≤ ((n : Int))) := hc1
    refine sP 1 (g1 := (5, [some (.ref 3), some (sI ((n : Int))), X2, X3], [.ref 3], h)) rfl ?_
    refine s_get (a := 3) (j := 5) hh rfl ⟨_, rfl⟩ rfl rfl rfl (v := sI ((D : Int) + 1)) (by have q := hI_ok hh xw_d; rw [hD] at q; exact q) ?_
    refine s_ifc (q := .le) (a := (D : Int) + 1) rfl ⟨_, rfl⟩ rfl (by unfold sR aMi aMa; omega) (fun hc2 => ?_) (fun hc2 => ?_)
    · have hc2 : (((D : Int) + 1) : Int) ≤ 0 := hc2
      omega
    · have hc2 : ¬ ((((D : Int) + 1) : Int) ≤ 0) := hc2
      refine sP 2 (g1 := (9, [some (.ref 3), some (sI ((n : Int))), X2, X3], [.ref 3, .ref 3], h)) rfl ?_
      refine s_get (a := 3) (j := 5) hh rfl ⟨_, rfl⟩ rfl rfl rfl (v := sI ((D : Int) + 1)) (by have q := hI_ok hh xw_d; rw [hD] at q; exact q) ?_
      refine sP 1 (g1 := (11, [some (.ref 3), some (sI ((n : Int))), X2, X3], [sI 1, sI ((D : Int) + 1), .ref 3], h)) rfl ?_
      refine s_sub (a := (D : Int) + 1) (b := 1) rfl rfl ?_
      refine s_put (a := 3) (j := 5) (k := 1) (n := 7) hh rfl ⟨_, rfl⟩ (show sTg 3 = some (1, 7) from rfl) rfl rfl (by decide) rfl ?_
      rw [show (D : Int) + 1 - 1 = (D : Int) by omega]
      rw [← eg1]
      refine sP 1 (g1 := (14, [some (.ref 3), some (sI ((n : Int))), X2, X3], [.ref 3], g1)) rfl ?_
      refine s_get (a := 3) (j := 2) hg1 rfl ⟨_, rfl⟩ rfl rfl rfl (v := .ref 6) (hR_ok hg1 (by decide +kernel)) ?_
      refine sP 1 (g1 := (16, [some (.ref 3), some (sI ((n : Int))), X2, X3], [.ref 3, .ref 6], g1)) rfl ?_
      refine s_get (a := 3) (j := 5) hg1 rfl ⟨_, rfl⟩ rfl rfl rfl (v := sI ((D : Int))) (by rw [sg1, if_pos (by omega)]) ?_
      refine s_iald (a := 6) (n := 40) (j := (D : Int)) hg1 rfl rfl rfl (by omega) (by omega) (by decide) (v := sI (((64 * 0 + 8 * a + b : Nat) : Int))) (by rw [show ((D : Int)).toNat = D by omega, sg1, if_neg (by omega)]; exact hq) ?_
      refine sP 1 (g1 := (19, [some (.ref 3), some (sI ((n : Int))), X2, X3], [sI 3, sI (((64 * 0 + 8 * a + b : Nat) : Int))], g1)) rfl ?_
      refine s_b1 rfl rfl rfl ?_
      refine sP 1 (g1 := (21, [some (.ref 3), some (sI ((n : Int))), X2, X3], [sI 7, .int (Int32.ofInt ((64 * 0 + 8 * a + b : Nat) : Int) >>> (Int32.ofInt 3 &&& 31))], g1)) rfl ?_
      refine s_b1 rfl rfl (b_ua 0 (by decide) a ha b hb) ?_
      refine sP 2 (g1 := (24, [some (.ref 3), some (sI ((n : Int))), some (sI ((a : Int))), X3], [.ref 3], g1)) rfl ?_
      refine s_get (a := 3) (j := 2) hg1 rfl ⟨_, rfl⟩ rfl rfl rfl (v := .ref 6) (hR_ok hg1 (by decide +kernel)) ?_
      refine sP 1 (g1 := (26, [some (.ref 3), some (sI ((n : Int))), some (sI ((a : Int))), X3], [.ref 3, .ref 6], g1)) rfl ?_
      refine s_get (a := 3) (j := 5) hg1 rfl ⟨_, rfl⟩ rfl rfl rfl (v := sI ((D : Int))) (by rw [sg1, if_pos (by omega)]) ?_
      refine s_iald (a := 6) (n := 40) (j := (D : Int)) hg1 rfl rfl rfl (by omega) (by omega) (by decide) (v := sI (((64 * 0 + 8 * a + b : Nat) : Int))) (by rw [show ((D : Int)).toNat = D by omega, sg1, if_neg (by omega)]; exact hq) ?_
      refine sP 1 (g1 := (29, [some (.ref 3), some (sI ((n : Int))), some (sI ((a : Int))), X3], [sI 7, sI (((64 * 0 + 8 * a + b : Nat) : Int))], g1)) rfl ?_
      refine s_b1 rfl rfl (b_ub 0 (by decide) a ha b hb) ?_
      refine sP 2 (g1 := (32, [some (.ref 3), some (sI ((n : Int))), some (sI ((a : Int))), some (sI ((b : Int)))], [.ref 3], g1)) rfl ?_
      refine s_get (a := 3) (j := 2) hg1 rfl ⟨_, rfl⟩ rfl rfl rfl (v := .ref 6) (hR_ok hg1 (by decide +kernel)) ?_
      refine sP 1 (g1 := (34, [some (.ref 3), some (sI ((n : Int))), some (sI ((a : Int))), some (sI ((b : Int)))], [.ref 3, .ref 6], g1)) rfl ?_
      refine s_get (a := 3) (j := 5) hg1 rfl ⟨_, rfl⟩ rfl rfl rfl (v := sI ((D : Int))) (by rw [sg1, if_pos (by omega)]) ?_
      refine s_iald (a := 6) (n := 40) (j := (D : Int)) hg1 rfl rfl rfl (by omega) (by omega) (by decide) (v := sI (((64 * 0 + 8 * a + b : Nat) : Int))) (by rw [show ((D : Int)).toNat = D by omega, sg1, if_neg (by omega)]; exact hq) ?_
      refine sP 1 (g1 := (37, [some (.ref 3), some (sI ((n : Int))), some (sI ((a : Int))), some (sI ((b : Int)))], [sI 6, sI (((64 * 0 + 8 * a + b : Nat) : Int))], g1)) rfl ?_
      refine s_b1 (w := Int32.ofInt 0) rfl rfl (b_us 0 (by decide) a ha b hb) ?_
      refine s_lsw (k := 0) rfl rfl (by unfold sR aMi aMa; omega) rfl ?_
      refine sP 2 (g1 := (41, [some (.ref 3), some (sI ((n : Int))), some (sI ((a : Int))), some (sI ((b : Int)))], [.ref 3, .ref 3], g1)) rfl ?_
      refine s_get (a := 3) (j := 4) hg1 rfl ⟨_, rfl⟩ rfl rfl rfl (v := sI ((U : Int))) (by rw [sg1, if_neg (by omega)]; have q := hI_ok hh xw_u; rw [hU] at q; exact q) ?_
      refine sP 2 (g1 := (44, [some (.ref 3), some (sI ((n : Int))), some (sI ((a : Int))), some (sI ((b : Int)))], [sI ((a : Int)), sI 1, sI ((U : Int)), .ref 3], g1)) rfl ?_
      refine s_shl (a := a) rfl rfl ha ?_
      refine s_xo (s := U) (a := a) rfl rfl hU6 ha ?_
      refine s_put (a := 3) (j := 4) (k := 1) (n := 7) hg1 rfl ⟨_, rfl⟩ (show sTg 3 = some (1, 7) from rfl) rfl rfl (by decide) rfl ?_
      rw [← eg2]
      refine sP 2 (g1 := (0, [some (.ref 3), some (sI ((n : Int))), some (sI ((a : Int))), some (sI ((b : Int)))], [], g2)) rfl ?_
      exact r1
theorem fBack1 {a b D U n : Nat} {X2 X3 : Option Value} (hh : aHp h) (ha : a < 6) (hb : b < 6) (hU : hI h 3 4 = (U : Int)) (hD : hI h 3 5 = (D : Int) + 1) (hn : n ≤ D) (hq : aSlot h 6 D = some (sI ((64 * 1 + 8 * a + b : Nat) : Int))) : ∃ g, aHp g ∧ (∀ p m, aSlot g p m = if p = 5 ∧ m = 6 * a + b then some (sI 0) else if p = 3 ∧ m = 5 then some (sI (D : Int)) else aSlot h p m) ∧ (∀ r, nRn sc (d + 2) (mMT mMe71) (mMC mMe71) (0, [some (.ref 3), some (sI (n : Int)), some (sI (a : Int)), some (sI (b : Int))], [], g) r → nRn sc (d + 2) (mMT mMe71) (mMC mMe71) (0, [some (.ref 3), some (sI (n : Int)), X2, X3], [], h) r) := by
  have gu := hI_rg hh xw_u
  have gd := hI_rg hh xw_d
  have hU6 : U < 64 := by omega
  have hx := bxo_lt U hU6 a ha
  obtain ⟨g1, eg1⟩ : ∃ gz, gz = hset h 3 5 (sI (D : Int)) := ⟨_, rfl⟩
  have sg1 : ∀ xa xm, aSlot g1 xa xm = if xa = 3 ∧ xm = 5 then some (sI (D : Int)) else aSlot h xa xm := fun xa xm => by rw [eg1]; exact hset_slot hh (show sTg 3 = some (1, 7) from rfl) (by omega) xa xm
  have hg1 : aHp g1 := by rw [eg1]; exact hset_ii hh xw_id (by omega) (by omega) (by unfold sR aMi aMa; omega)
  obtain ⟨g2, eg2⟩ : ∃ gz, gz = hset g1 5 (6 * a + b) (sI 0) := ⟨_, rfl⟩
  have sg2 : ∀ xa xm, aSlot g2 xa xm = if xa = 5 ∧ xm = 6 * a + b then some (sI 0) else aSlot g1 xa xm := fun xa xm => by rw [eg2]; exact hset_slot hg1 (show sTg 5 = some (50, 36) from rfl) (by omega) xa xm
  have hg2 : aHp g2 := by rw [eg2]; exact hset_ii hg1 (xw_il (by omega)) (by omega) (by omega) (by unfold sR aMi aMa; omega)
  refine ⟨g2, hg2, fun p m => by rw [sg2, sg1], fun r r1 => ?_⟩
  refine sP 1 (g1 := (1, [some (.ref 3), some (sI ((n : Int))), X2, X3], [.ref 3], h)) rfl ?_
  refine s_get (a := 3) (j := 5) hh rfl ⟨_, rfl⟩ rfl rfl rfl (v := sI ((D : Int) + 1)) (by have q := hI_ok hh xw_d; rw [hD] at q; exact q) ?_
  refine sP 1 (g1 := (3, [some (.ref 3), some (sI ((n : Int))), X2, X3], [sI ((n : Int)), sI ((D : Int) + 1)], h)) rfl ?_
  refine s_icmp (q := .le) (a := (D : Int) + 1) (b := (n : Int)) rfl ⟨_, rfl⟩ rfl (by unfold sR aMi aMa; omega) (by unfold sR aMi aMa; omega) (fun hc1 => ?_) (fun hc1 => ?_)
  · have hc1 : (((D : Int) + 1) : Int) ≤ ((n : Int)) := hc1
    omega
  · have hc1 : ¬ ((((D : Int) + 1) : Int) ≤ ((n : Int))) := hc1
    refine sP 1 (g1 := (5, [some (.ref 3), some (sI ((n : Int))), X2, X3], [.ref 3], h)) rfl ?_
    refine s_get (a := 3) (j := 5) hh rfl ⟨_, rfl⟩ rfl rfl rfl (v := sI ((D : Int) + 1)) (by have q := hI_ok hh xw_d; rw [hD] at q; exact q) ?_
    refine s_ifc (q := .le) (a := (D : Int) + 1) rfl ⟨_, rfl⟩ rfl (by unfold sR aMi aMa; omega) (fun hc2 => ?_) (fun hc2 => ?_)
    · have hc2 : (((D : Int) + 1) : Int) ≤ 0 := hc2
      omega
    · have hc2 : ¬ ((((D : Int) + 1) : Int) ≤ 0) := hc2
      refine sP 2 (g1 := (9, [some (.ref 3), some (sI ((n : Int))), X2, X3], [.ref 3, .ref 3], h)) rfl ?_
      refine s_get (a := 3) (j := 5) hh rfl ⟨_, rfl⟩ rfl rfl rfl (v := sI ((D : Int) + 1)) (by have q := hI_ok hh xw_d; rw [hD] at q; exact q) ?_
      refine sP 1 (g1 := (11, [some (.ref 3), some (sI ((n : Int))), X2, X3], [sI 1, sI ((D : Int) + 1), .ref 3], h)) rfl ?_
      refine s_sub (a := (D : Int) + 1) (b := 1) rfl rfl ?_
      refine s_put (a := 3) (j := 5) (k := 1) (n := 7) hh rfl ⟨_, rfl⟩ (show sTg 3 = some (1, 7) from rfl) rfl rfl (by decide) rfl ?_
      rw [show (D : Int) + 1 - 1 = (D : Int) by omega]
      rw [← eg1]
      refine sP 1 (g1 := (14, [some (.ref 3), some (sI ((n : Int))), X2, X3], [.ref 3], g1)) rfl ?_
      refine s_get (a := 3) (j := 2) hg1 rfl ⟨_, rfl⟩ rfl rfl rfl (v := .ref 6) (hR_ok hg1 (by decide +kernel)) ?_
      refine sP 1 (g1 := (16, [some (.ref 3), some (sI ((n : Int))), X2, X3], [.ref 3, .ref 6], g1)) rfl ?_
      refine s_get (a := 3) (j := 5) hg1 rfl ⟨_, rfl⟩ rfl rfl rfl (v := sI ((D : Int))) (by rw [sg1, if_pos (by omega)]) ?_
      refine s_iald (a := 6) (n := 40) (j := (D : Int)) hg1 rfl rfl rfl (by omega) (by omega) (by decide) (v := sI (((64 * 1 + 8 * a + b : Nat) : Int))) (by rw [show ((D : Int)).toNat = D by omega, sg1, if_neg (by omega)]; exact hq) ?_
      refine sP 1 (g1 := (19, [some (.ref 3), some (sI ((n : Int))), X2, X3], [sI 3, sI (((64 * 1 + 8 * a + b : Nat) : Int))], g1)) rfl ?_
      refine s_b1 rfl rfl rfl ?_
      refine sP 1 (g1 := (21, [some (.ref 3), some (sI ((n : Int))), X2, X3], [sI 7, .int (Int32.ofInt ((64 * 1 + 8 * a + b : Nat) : Int) >>> (Int32.ofInt 3 &&& 31))], g1)) rfl ?_
      refine s_b1 rfl rfl (b_ua 1 (by decide) a ha b hb) ?_
      refine sP 2 (g1 := (24, [some (.ref 3), some (sI ((n : Int))), some (sI ((a : Int))), X3], [.ref 3], g1)) rfl ?_
      refine s_get (a := 3) (j := 2) hg1 rfl ⟨_, rfl⟩ rfl rfl rfl (v := .ref 6) (hR_ok hg1 (by decide +kernel)) ?_
      refine sP 1 (g1 := (26, [some (.ref 3), some (sI ((n : Int))), some (sI ((a : Int))), X3], [.ref 3, .ref 6], g1)) rfl ?_
      refine s_get (a := 3) (j := 5) hg1 rfl ⟨_, rfl⟩ rfl rfl rfl (v := sI ((D : Int))) (by rw [sg1, if_pos (by omega)]) ?_
      refine s_iald (a := 6) (n := 40) (j := (D : Int)) hg1 rfl rfl rfl (by omega) (by omega) (by decide) (v := sI (((64 * 1 + 8 * a + b : Nat) : Int))) (by rw [show ((D : Int)).toNat = D by omega, sg1, if_neg (by omega)]; exact hq) ?_
      refine sP 1 (g1 := (29, [some (.ref 3), some (sI ((n : Int))), some (sI ((a : Int))), X3], [sI 7, sI (((64 * 1 + 8 * a + b : Nat) : Int))], g1)) rfl ?_
      refine s_b1 rfl rfl (b_ub 1 (by decide) a ha b hb) ?_
      refine sP 2 (g1 := (32, [some (.ref 3), some (sI ((n : Int))), some (sI ((a : Int))), some (sI ((b : Int)))], [.ref 3], g1)) rfl ?_
      refine s_get (a := 3) (j := 2) hg1 rfl ⟨_, rfl⟩ rfl rfl rfl (v := .ref 6) (hR_ok hg1 (by decide +kernel)) ?_
      refine sP 1 (g1 := (34, [some (.ref 3), some (sI ((n : Int))), some (sI ((a : Int))), some (sI ((b : Int)))], [.ref 3, .ref 6], g1)) rfl ?_
      refine s_get (a := 3) (j := 5) hg1 rfl ⟨_, rfl⟩ rfl rfl rfl (v := sI ((D : Int))) (by rw [sg1, if_pos (by omega)]) ?_
      refine s_iald (a := 6) (n := 40) (j := (D : Int)) hg1 rfl rfl rfl (by omega) (by omega) (by decide) (v := sI (((64 * 1 + 8 * a + b : Nat) : Int))) (by rw [show ((D : Int)).toNat = D by omega, sg1, if_neg (by omega)]; exact hq) ?_
      refine sP 1 (g1 := (37, [some (.ref 3), some (sI ((n : Int))), some (sI ((a : Int))), some (sI ((b : Int)))], [sI 6, sI (((64 * 1 + 8 * a + b : Nat) : Int))], g1)) rfl ?_
      refine s_b1 (w := Int32.ofInt 1) rfl rfl (b_us 1 (by decide) a ha b hb) ?_
      refine s_lsw (k := 1) rfl rfl (by unfold sR aMi aMa; omega) rfl ?_
      refine sP 1 (g1 := (49, [some (.ref 3), some (sI ((n : Int))), some (sI ((a : Int))), some (sI ((b : Int)))], [.ref 3], g1)) rfl ?_
      refine s_get (a := 3) (j := 1) hg1 rfl ⟨_, rfl⟩ rfl rfl rfl (v := .ref 5) (hR_ok hg1 (by decide +kernel)) ?_
      refine sP 2 (g1 := (52, [some (.ref 3), some (sI ((n : Int))), some (sI ((a : Int))), some (sI ((b : Int)))], [sI ((a : Int)), sI 6, .ref 5], g1)) rfl ?_
      refine s_mul (a := 6) (b := (a : Int)) rfl rfl ?_
      refine sP 1 (g1 := (54, [some (.ref 3), some (sI ((n : Int))), some (sI ((a : Int))), some (sI ((b : Int)))], [sI ((b : Int)), sI (6 * ((a : Int))), .ref 5], g1)) rfl ?_
      refine s_add (a := 6 * ((a : Int))) (b := (b : Int)) rfl rfl ?_
      refine sP 1 (g1 := (56, [some (.ref 3), some (sI ((n : Int))), some (sI ((a : Int))), some (sI ((b : Int)))], [sI 0, sI ((6 * ((a : Int))) + ((b : Int))), .ref 5], g1)) rfl ?_
      refine s_iast (a := 5) (n := 36) (j := (6 * ((a : Int))) + ((b : Int))) hg1 rfl rfl (show sTg 5 = some (50, 36) from rfl) (by omega) (by omega) (by decide) ?_
      rw [show ((6 * ((a : Int))) + ((b : Int)) : Int).toNat = 6 * a + b by omega]
      rw [← eg2]
      refine sP 2 (g1 := (0, [some (.ref 3), some (sI ((n : Int))), some (sI ((a : Int))), some (sI ((b : Int)))], [], g2)) rfl ?_
      exact r1
theorem fBack2 {a b D U n : Nat} {X2 X3 : Option Value} (hh : aHp h) (ha : a < 6) (hb : b < 6) (hU : hI h 3 4 = (U : Int)) (hD : hI h 3 5 = (D : Int) + 1) (hn : n ≤ D) (hq : aSlot h 6 D = some (sI ((64 * 2 + 8 * a + b : Nat) : Int))) : ∃ g, aHp g ∧ (∀ p m, aSlot g p m = if p = 3 ∧ m = 6 then some (.long (hJ h 3 6 &&& (pBt a b ^^^ Int64.ofInt (-1)))) else if p = 3 ∧ m = 5 then some (sI (D : Int)) else aSlot h p m) ∧ (∀ r, nRn sc (d + 2) (mMT mMe71) (mMC mMe71) (0, [some (.ref 3), some (sI (n : Int)), some (sI (a : Int)), some (sI (b : Int))], [], g) r → nRn sc (d + 2) (mMT mMe71) (mMC mMe71) (0, [some (.ref 3), some (sI (n : Int)), X2, X3], [], h) r) := by
  have gu := hI_rg hh xw_u
  have gd := hI_rg hh xw_d
  have hU6 : U < 64 := by omega
  have hx := bxo_lt U hU6 a ha
  obtain ⟨g1, eg1⟩ : ∃ gz, gz = hset h 3 5 (sI (D : Int)) := ⟨_, rfl⟩
  have sg1 : ∀ xa xm, aSlot g1 xa xm = if xa = 3 ∧ xm = 5 then some (sI (D : Int)) else aSlot h xa xm := fun xa xm => by rw [eg1]; exact hset_slot hh (show sTg 3 = some (1, 7) from rfl) (by omega) xa xm
  have hg1 : aHp g1 := by rw [eg1]; exact hset_ii hh xw_id (by omega) (by omega) (by unfold sR aMi aMa; omega)
  obtain ⟨g2, eg2⟩ : ∃ gz, gz = hset g1 3 6 (.long (hJ h 3 6 &&& (pBt a b ^^^ Int64.ofInt (-1)))) := ⟨_, rfl⟩
  have sg2 : ∀ xa xm, aSlot g2 xa xm = if xa = 3 ∧ xm = 6 then some (.long (hJ h 3 6 &&& (pBt a b ^^^ Int64.ofInt (-1)))) else aSlot g1 xa xm := fun xa xm => by rw [eg2]; exact hset_slot hg1 (show sTg 3 = some (1, 7) from rfl) (by omega) xa xm
  have hg2 : aHp g2 := by rw [eg2]; exact hset_lng hg1 xw_t
  refine ⟨g2, hg2, fun p m => by rw [sg2, sg1], fun r r1 => ?_⟩
  refine sP 1 (g1 := (1, [some (.ref 3), some (sI ((n : Int))), X2, X3], [.ref 3], h)) rfl ?_
  refine s_get (a := 3) (j := 5) hh rfl ⟨_, rfl⟩ rfl rfl rfl (v := sI ((D : Int) + 1)) (by have q := hI_ok hh xw_d; rw [hD] at q; exact q) ?_
  refine sP 1 (g1 := (3, [some (.ref 3), some (sI ((n : Int))), X2, X3], [sI ((n : Int)), sI ((D : Int) + 1)], h)) rfl ?_
  refine s_icmp (q := .le) (a := (D : Int) + 1) (b := (n : Int)) rfl ⟨_, rfl⟩ rfl (by unfold sR aMi aMa; omega) (by unfold sR aMi aMa; omega) (fun hc1 => ?_) (fun hc1 => ?_)
  · have hc1 : (((D : Int) + 1) : Int) ≤ ((n : Int)) := hc1
    omega
  · have hc1 : ¬ ((((D : Int) + 1) : Int) ≤ ((n : Int))) := hc1
    refine sP 1 (g1 := (5, [some (.ref 3), some (sI ((n : Int))), X2, X3], [.ref 3], h)) rfl ?_
    refine s_get (a := 3) (j := 5) hh rfl ⟨_, rfl⟩ rfl rfl rfl (v := sI ((D : Int) + 1)) (by have q := hI_ok hh xw_d; rw [hD] at q; exact q) ?_
    refine s_ifc (q := .le) (a := (D : Int) + 1) rfl ⟨_, rfl⟩ rfl (by unfold sR aMi aMa; omega) (fun hc2 => ?_) (fun hc2 => ?_)
    · have hc2 : (((D : Int) + 1) : Int) ≤ 0 := hc2
      omega
    · have hc2 : ¬ ((((D : Int) + 1) : Int) ≤ 0) := hc2
      refine sP 2 (g1 := (9, [some (.ref 3), some (sI ((n : Int))), X2, X3], [.ref 3, .ref 3], h)) rfl ?_
      refine s_get (a := 3) (j := 5) hh rfl ⟨_, rfl⟩ rfl rfl rfl (v := sI ((D : Int) + 1)) (by have q := hI_ok hh xw_d; rw [hD] at q; exact q) ?_
      refine sP 1 (g1 := (11, [some (.ref 3), some (sI ((n : Int))), X2, X3], [sI 1, sI ((D : Int) + 1), .ref 3], h)) rfl ?_
      refine s_sub (a := (D : Int) + 1) (b := 1) rfl rfl ?_
      refine s_put (a := 3) (j := 5) (k := 1) (n := 7) hh rfl ⟨_, rfl⟩ (show sTg 3 = some (1, 7) from rfl) rfl rfl (by decide) rfl ?_
      rw [show (D : Int) + 1 - 1 = (D : Int) by omega]
      rw [← eg1]
      refine sP 1 (g1 := (14, [some (.ref 3), some (sI ((n : Int))), X2, X3], [.ref 3], g1)) rfl ?_
      refine s_get (a := 3) (j := 2) hg1 rfl ⟨_, rfl⟩ rfl rfl rfl (v := .ref 6) (hR_ok hg1 (by decide +kernel)) ?_
      refine sP 1 (g1 := (16, [some (.ref 3), some (sI ((n : Int))), X2, X3], [.ref 3, .ref 6], g1)) rfl ?_
      refine s_get (a := 3) (j := 5) hg1 rfl ⟨_, rfl⟩ rfl rfl rfl (v := sI ((D : Int))) (by rw [sg1, if_pos (by omega)]) ?_
      refine s_iald (a := 6) (n := 40) (j := (D : Int)) hg1 rfl rfl rfl (by omega) (by omega) (by decide) (v := sI (((64 * 2 + 8 * a + b : Nat) : Int))) (by rw [show ((D : Int)).toNat = D by omega, sg1, if_neg (by omega)]; exact hq) ?_
      refine sP 1 (g1 := (19, [some (.ref 3), some (sI ((n : Int))), X2, X3], [sI 3, sI (((64 * 2 + 8 * a + b : Nat) : Int))], g1)) rfl ?_
      refine s_b1 rfl rfl rfl ?_
      refine sP 1 (g1 := (21, [some (.ref 3), some (sI ((n : Int))), X2, X3], [sI 7, .int (Int32.ofInt ((64 * 2 + 8 * a + b : Nat) : Int) >>> (Int32.ofInt 3 &&& 31))], g1)) rfl ?_
      refine s_b1 rfl rfl (b_ua 2 (by decide) a ha b hb) ?_
      refine sP 2 (g1 := (24, [some (.ref 3), some (sI ((n : Int))), some (sI ((a : Int))), X3], [.ref 3], g1)) rfl ?_
      refine s_get (a := 3) (j := 2) hg1 rfl ⟨_, rfl⟩ rfl rfl rfl (v := .ref 6) (hR_ok hg1 (by decide +kernel)) ?_
      refine sP 1 (g1 := (26, [some (.ref 3), some (sI ((n : Int))), some (sI ((a : Int))), X3], [.ref 3, .ref 6], g1)) rfl ?_
      refine s_get (a := 3) (j := 5) hg1 rfl ⟨_, rfl⟩ rfl rfl rfl (v := sI ((D : Int))) (by rw [sg1, if_pos (by omega)]) ?_
      refine s_iald (a := 6) (n := 40) (j := (D : Int)) hg1 rfl rfl rfl (by omega) (by omega) (by decide) (v := sI (((64 * 2 + 8 * a + b : Nat) : Int))) (by rw [show ((D : Int)).toNat = D by omega, sg1, if_neg (by omega)]; exact hq) ?_
      refine sP 1 (g1 := (29, [some (.ref 3), some (sI ((n : Int))), some (sI ((a : Int))), X3], [sI 7, sI (((64 * 2 + 8 * a + b : Nat) : Int))], g1)) rfl ?_
      refine s_b1 rfl rfl (b_ub 2 (by decide) a ha b hb) ?_
      refine sP 2 (g1 := (32, [some (.ref 3), some (sI ((n : Int))), some (sI ((a : Int))), some (sI ((b : Int)))], [.ref 3], g1)) rfl ?_
      refine s_get (a := 3) (j := 2) hg1 rfl ⟨_, rfl⟩ rfl rfl rfl (v := .ref 6) (hR_ok hg1 (by decide +kernel)) ?_
      refine sP 1 (g1 := (34, [some (.ref 3), some (sI ((n : Int))), some (sI ((a : Int))), some (sI ((b : Int)))], [.ref 3, .ref 6], g1)) rfl ?_
      refine s_get (a := 3) (j := 5) hg1 rfl ⟨_, rfl⟩ rfl rfl rfl (v := sI ((D : Int))) (by rw [sg1, if_pos (by omega)]) ?_
      refine s_iald (a := 6) (n := 40) (j := (D : Int)) hg1 rfl rfl rfl (by omega) (by omega) (by decide) (v := sI (((64 * 2 + 8 * a + b : Nat) : Int))) (by rw [show ((D : Int)).toNat = D by omega, sg1, if_neg (by omega)]; exact hq) ?_
      refine sP 1 (g1 := (37, [some (.ref 3), some (sI ((n : Int))), some (sI ((a : Int))), some (sI ((b : Int)))], [sI 6, sI (((64 * 2 + 8 * a + b : Nat) : Int))], g1)) rfl ?_
      refine s_b1 (w := Int32.ofInt 2) rfl rfl (b_us 2 (by decide) a ha b hb) ?_
      refine s_lsw (k := 2) rfl rfl (by unfold sR aMi aMa; omega) rfl ?_
      refine sP 2 (g1 := (60, [some (.ref 3), some (sI ((n : Int))), some (sI ((a : Int))), some (sI ((b : Int)))], [.ref 3, .ref 3], g1)) rfl ?_
      refine s_get (a := 3) (j := 6) hg1 rfl ⟨_, rfl⟩ rfl rfl rfl (v := .long (hJ h 3 6)) (by rw [sg1, if_neg (by omega)]; exact hJ_ok hh xw_t) ?_
      refine sP 2 (g1 := (63, [some (.ref 3), some (sI ((n : Int))), some (sI ((a : Int))), some (sI ((b : Int)))], [sI ((b : Int)), sI ((a : Int)), .long (hJ h 3 6), .ref 3], g1)) rfl ?_
      refine s_call (k := 46) (args := [sI ((a : Int)), sI ((b : Int))]) (st := [.long (hJ h 3 6), .ref 3]) (v := some (.long (pBt a b))) (h1 := g1) rfl ⟨rfl, rfl⟩ rfl rfl rfl rfl rfl rfl (fPairBit ha hb) ?_
      refine sP 1 (g1 := (65, [some (.ref 3), some (sI ((n : Int))), some (sI ((a : Int))), some (sI ((b : Int)))], [sJ ((-1)), .long (pBt a b), .long (hJ h 3 6), .ref 3], g1)) rfl ?_
      refine s_b2 rfl rfl rfl ?_
      refine s_b2 rfl rfl rfl ?_
      refine s_put (a := 3) (j := 6) (k := 1) (n := 7) hg1 rfl ⟨_, rfl⟩ (show sTg 3 = some (1, 7) from rfl) rfl rfl (by decide) rfl ?_
      rw [← eg2]
      refine sP 1 (g1 := (0, [some (.ref 3), some (sI ((n : Int))), some (sI ((a : Int))), some (sI ((b : Int)))], [], g2)) rfl ?_
      exact r1
/-- both undo, deed by deed -/
theorem wBack {n : Nat} : ∀ (k : Nat) (h : mH) (X2 X3 : Option Value), aHp h → hI h 3 5 = (n : Int) + k → ∃ h1, nRn sc (d + 2) (mMT mMe71) (mMC mMe71) (0, [some (.ref 3), some (sI (n : Int)), X2, X3], [], h) (none, h1) ∧ aHp h1 ∧ (∀ p m, p ≠ 3 → p ≠ 5 → aSlot h1 p m = aSlot h p m) ∧ ∀ (g : mH) (c : Nat), c + k ≤ 40 → aHp g → nR h g → ∃ g1, nRn sc (d + 3) (mMT mMe176) (mMC mMe176) (12, [some (.ref 53), some (sI (n : Int)), some (sI (c : Int))], [], g) (some (sI ((c + k : Nat) : Int)), g1) ∧ aHp g1 ∧ (∀ p m, p ≠ 58 → aSlot g1 p m = aSlot g p m) ∧ nR h1 g1 := by
  intro k
  induction k with
  | zero =>
    intro h X2 X3 hh hD
    have gd := hI_rg hh xw_d
    refine ⟨h, ?_, hh, fun p m _ _ => rfl, fun g c hc hg hr => ⟨g, ?_, hg, fun p m _ => rfl, hr⟩⟩
    · refine sP 1 (g1 := (1, [some (.ref 3), some (sI ((n : Int))), X2, X3], [.ref 3], h)) rfl ?_
      refine s_get (a := 3) (j := 5) hh rfl ⟨_, rfl⟩ rfl rfl rfl (v := sI (hI h 3 5)) (hI_ok hh xw_d) ?_
      refine sP 1 (g1 := (3, [some (.ref 3), some (sI ((n : Int))), X2, X3], [sI ((n : Int)), sI (hI h 3 5)], h)) rfl ?_
      refine s_icmp (q := .le) (a := hI h 3 5) (b := (n : Int)) rfl ⟨_, rfl⟩ rfl (by unfold sR aMi aMa; omega) (by unfold sR aMi aMa; omega) (fun hc1 => ?_) (fun hc1 => ?_)
      · have hc1 : ((hI h 3 5) : Int) ≤ ((n : Int)) := hc1
        exact s_ret rfl rfl
      · have hc1 : ¬ (((hI h 3 5) : Int) ≤ ((n : Int))) := hc1
        omega
    · have e5 : hI h 3 5 = hI g 58 80 := hr.2.2.1
      refine sP 1 (g1 := (13, [some (.ref 53), some (sI ((n : Int))), some (sI ((c : Int)))], [.ref 53], g)) rfl ?_
      refine s_call (k := 163) (args := [.ref 53]) (st := []) (v := some (sI (hI g 58 80))) (h1 := g) rfl ⟨rfl, rfl⟩ rfl rfl rfl rfl (sRcv hg (a := 53) rfl rfl) rfl (fDone hg) ?_
      refine sP 1 (g1 := (15, [some (.ref 53), some (sI ((n : Int))), some (sI ((c : Int)))], [sI ((n : Int)), sI (hI g 58 80)], g)) rfl ?_
      refine s_icmp (q := .le) (a := hI g 58 80) (b := (n : Int)) rfl ⟨_, rfl⟩ rfl (by unfold sR aMi aMa; omega) (by unfold sR aMi aMa; omega) (fun hc1 => ?_) (fun hc1 => ?_)
      · have hc1 : ((hI g 58 80) : Int) ≤ ((n : Int)) := hc1
        refine sP 1 (g1 := (21, [some (.ref 53), some (sI ((n : Int))), some (sI ((c : Int)))], [sI ((c : Int))], g)) rfl ?_
        exact s_reti rfl rfl (Or.inl rfl) rfl rfl
      · have hc1 : ¬ (((hI g 58 80) : Int) ≤ ((n : Int))) := hc1
        omega
  | succ k ih =>
    intro h X2 X3 hh hD
    have gd := hI_rg hh xw_d
    have gu := hI_rg hh xw_u
    have gp := hI_rg hh xw_p
    obtain ⟨U, eU⟩ := iN gu.1
    have hD1 : hI h 3 5 = ((n + k : Nat) : Int) + 1 := by omega
    obtain ⟨s, hs, a, ha, b, hb, hq⟩ := hD_ok hh (xw_q (show n + k < 40 by omega))
    match s, hs with
    | 0, _ =>
      obtain ⟨h2, q2, q3, q4⟩ := fBack0 (sc := sc) (d := d) (X2 := X2) (X3 := X3) (n := n) (U := U) hh ha hb eU hD1 (by omega) hq 
      have hD2 : hI h2 3 5 = (n : Int) + k := (hI_si (by rw [q3, if_neg (by omega), if_pos (by omega)]) (by unfold sR aMi aMa; omega)).trans (by omega)
      obtain ⟨h3, i1, i2, i3, i4⟩ := ih h2 (some (sI (a : Int))) (some (sI (b : Int))) q2 hD2
      refine ⟨h3, q4 _ i1, i2, fun p m p1 p2 => by rw [i3 p m p1 p2, q3, if_neg (by omega), if_neg (by omega)], fun g c hc hg hr => ?_⟩
      obtain ⟨b1, b2, b3, b4, b5, b6⟩ := id hr
      obtain ⟨s1, a1, c1, r1, r2, r3, r4, r5, r6, r7⟩ := b6 (n + k) (by omega)
      have hq' := hI_si hq (by unfold sR aMi aMa; omega)
      rw [hq'] at r4
      have es : s1 = 0 := by omega
      subst es
      have ea : a1 = a := by omega
      subst ea
      have eb : c1 = b := by omega
      subst eb
      have gq := hI_rg hg (nw_q (show 3 * (n + k) + 2 < 120 by omega))
      obtain ⟨b0, e0⟩ := iN gq.1
      obtain ⟨g2, y1, y2, y3⟩ := fUn0 (sc := sc) (d := d + 1) (U := U) (D := n + k) hg ha (show b0 < 6 by omega) (by omega) (by omega) r5 r6 e0
      have hr2 := nR_un0 hr ha ha eU (by omega) (by omega) hD1 (by omega) q3 y3
      obtain ⟨g3, j1, j2, j3, j4⟩ := i4 g2 (c + 1) (by omega) y2 hr2
      refine ⟨g3, ?_, j2, fun p m p1 => by rw [j3 p m p1, y3, if_neg (by omega), if_neg (by omega)], j4⟩
      rw [show c + 1 + k = c + (k + 1) by omega] at j1
      refine sP 1 (g1 := (13, [some (.ref 53), some (sI ((n : Int))), some (sI ((c : Int)))], [.ref 53], g)) rfl ?_
      refine s_call (k := 163) (args := [.ref 53]) (st := []) (v := some (sI (hI g 58 80))) (h1 := g) rfl ⟨rfl, rfl⟩ rfl rfl rfl rfl (sRcv hg (a := 53) rfl rfl) rfl (fDone hg) ?_
      refine sP 1 (g1 := (15, [some (.ref 53), some (sI ((n : Int))), some (sI ((c : Int)))], [sI ((n : Int)), sI (hI g 58 80)], g)) rfl ?_
      refine s_icmp (q := .le) (a := hI g 58 80) (b := (n : Int)) rfl ⟨_, rfl⟩ rfl (by unfold sR aMi aMa; omega) (by unfold sR aMi aMa; omega) (fun hc1 => ?_) (fun hc1 => ?_)
      · have hc1 : ((hI g 58 80) : Int) ≤ ((n : Int)) := hc1
        omega
      · have hc1 : ¬ (((hI g 58 80) : Int) ≤ ((n : Int))) := hc1
        refine sP 1 (g1 := (17, [some (.ref 53), some (sI ((n : Int))), some (sI ((c : Int)))], [.ref 53], g)) rfl ?_
        refine s_call (k := 177) (args := [.ref 53]) (st := []) (v := none) (h1 := g2) rfl ⟨rfl, rfl⟩ rfl rfl rfl rfl (sRcv hg (a := 53) rfl rfl) rfl y1 ?_
        refine s_inc (a := (c : Int)) (n := 1) (k := 2) rfl rfl rfl ?_
        refine sP 1 (g1 := (12, [some (.ref 53), some (sI ((n : Int))), some (sI (((c : Int)) + 1))], [], g2)) rfl ?_
        rw [show ((c : Int) + 1) = ((c + 1 : Nat) : Int) by omega]
        exact j1
    | 1, _ =>
      obtain ⟨h2, q2, q3, q4⟩ := fBack1 (sc := sc) (d := d) (X2 := X2) (X3 := X3) (n := n) (U := U) hh ha hb eU hD1 (by omega) hq 
      have hD2 : hI h2 3 5 = (n : Int) + k := (hI_si (by rw [q3, if_neg (by omega), if_pos (by omega)]) (by unfold sR aMi aMa; omega)).trans (by omega)
      obtain ⟨h3, i1, i2, i3, i4⟩ := ih h2 (some (sI (a : Int))) (some (sI (b : Int))) q2 hD2
      refine ⟨h3, q4 _ i1, i2, fun p m p1 p2 => by rw [i3 p m p1 p2, q3, if_neg (by omega), if_neg (by omega)], fun g c hc hg hr => ?_⟩
      obtain ⟨b1, b2, b3, b4, b5, b6⟩ := id hr
      obtain ⟨s1, a1, c1, r1, r2, r3, r4, r5, r6, r7⟩ := b6 (n + k) (by omega)
      have hq' := hI_si hq (by unfold sR aMi aMa; omega)
      rw [hq'] at r4
      have es : s1 = 1 := by omega
      subst es
      have ea : a1 = a := by omega
      subst ea
      have eb : c1 = b := by omega
      subst eb
      obtain ⟨g2, y1, y2, y3⟩ := fUn1 (sc := sc) (d := d + 1) (U := U) (D := n + k) hg ha hb (by omega) (by omega) r5 r6 (r7 (by decide))
      have hr2 := nR_un1 hr ha hb eU (by omega) (by omega) hD1 (by omega) q3 y3
      obtain ⟨g3, j1, j2, j3, j4⟩ := i4 g2 (c + 1) (by omega) y2 hr2
      refine ⟨g3, ?_, j2, fun p m p1 => by rw [j3 p m p1, y3, if_neg (by omega), if_neg (by omega)], j4⟩
      rw [show c + 1 + k = c + (k + 1) by omega] at j1
      refine sP 1 (g1 := (13, [some (.ref 53), some (sI ((n : Int))), some (sI ((c : Int)))], [.ref 53], g)) rfl ?_
      refine s_call (k := 163) (args := [.ref 53]) (st := []) (v := some (sI (hI g 58 80))) (h1 := g) rfl ⟨rfl, rfl⟩ rfl rfl rfl rfl (sRcv hg (a := 53) rfl rfl) rfl (fDone hg) ?_
      refine sP 1 (g1 := (15, [some (.ref 53), some (sI ((n : Int))), some (sI ((c : Int)))], [sI ((n : Int)), sI (hI g 58 80)], g)) rfl ?_
      refine s_icmp (q := .le) (a := hI g 58 80) (b := (n : Int)) rfl ⟨_, rfl⟩ rfl (by unfold sR aMi aMa; omega) (by unfold sR aMi aMa; omega) (fun hc1 => ?_) (fun hc1 => ?_)
      · have hc1 : ((hI g 58 80) : Int) ≤ ((n : Int)) := hc1
        omega
      · have hc1 : ¬ (((hI g 58 80) : Int) ≤ ((n : Int))) := hc1
        refine sP 1 (g1 := (17, [some (.ref 53), some (sI ((n : Int))), some (sI ((c : Int)))], [.ref 53], g)) rfl ?_
        refine s_call (k := 177) (args := [.ref 53]) (st := []) (v := none) (h1 := g2) rfl ⟨rfl, rfl⟩ rfl rfl rfl rfl (sRcv hg (a := 53) rfl rfl) rfl y1 ?_
        refine s_inc (a := (c : Int)) (n := 1) (k := 2) rfl rfl rfl ?_
        refine sP 1 (g1 := (12, [some (.ref 53), some (sI ((n : Int))), some (sI (((c : Int)) + 1))], [], g2)) rfl ?_
        rw [show ((c : Int) + 1) = ((c + 1 : Nat) : Int) by omega]
        exact j1
    | 2, _ =>
      obtain ⟨h2, q2, q3, q4⟩ := fBack2 (sc := sc) (d := d) (X2 := X2) (X3 := X3) (n := n) (U := U) hh ha hb eU hD1 (by omega) hq 
      have hD2 : hI h2 3 5 = (n : Int) + k := (hI_si (by rw [q3, if_neg (by omega), if_pos (by omega)]) (by unfold sR aMi aMa; omega)).trans (by omega)
      obtain ⟨h3, i1, i2, i3, i4⟩ := ih h2 (some (sI (a : Int))) (some (sI (b : Int))) q2 hD2
      refine ⟨h3, q4 _ i1, i2, fun p m p1 p2 => by rw [i3 p m p1 p2, q3, if_neg (by omega), if_neg (by omega)], fun g c hc hg hr => ?_⟩
      obtain ⟨b1, b2, b3, b4, b5, b6⟩ := id hr
      obtain ⟨s1, a1, c1, r1, r2, r3, r4, r5, r6, r7⟩ := b6 (n + k) (by omega)
      have hq' := hI_si hq (by unfold sR aMi aMa; omega)
      rw [hq'] at r4
      have es : s1 = 2 := by omega
      subst es
      have ea : a1 = a := by omega
      subst ea
      have eb : c1 = b := by omega
      subst eb
      obtain ⟨g2, y1, y2, y3⟩ := fUn2 (sc := sc) (d := d + 1) (U := U) (D := n + k) hg ha hb (by omega) (by omega) r5 r6 (r7 (by decide))
      have hr2 := nR_un2 hr ha hb eU (by omega) (by omega) hD1 (by omega) q3 y3
      obtain ⟨g3, j1, j2, j3, j4⟩ := i4 g2 (c + 1) (by omega) y2 hr2
      refine ⟨g3, ?_, j2, fun p m p1 => by rw [j3 p m p1, y3, if_neg (by omega), if_neg (by omega), if_neg (by omega)], j4⟩
      rw [show c + 1 + k = c + (k + 1) by omega] at j1
      refine sP 1 (g1 := (13, [some (.ref 53), some (sI ((n : Int))), some (sI ((c : Int)))], [.ref 53], g)) rfl ?_
      refine s_call (k := 163) (args := [.ref 53]) (st := []) (v := some (sI (hI g 58 80))) (h1 := g) rfl ⟨rfl, rfl⟩ rfl rfl rfl rfl (sRcv hg (a := 53) rfl rfl) rfl (fDone hg) ?_
      refine sP 1 (g1 := (15, [some (.ref 53), some (sI ((n : Int))), some (sI ((c : Int)))], [sI ((n : Int)), sI (hI g 58 80)], g)) rfl ?_
      refine s_icmp (q := .le) (a := hI g 58 80) (b := (n : Int)) rfl ⟨_, rfl⟩ rfl (by unfold sR aMi aMa; omega) (by unfold sR aMi aMa; omega) (fun hc1 => ?_) (fun hc1 => ?_)
      · have hc1 : ((hI g 58 80) : Int) ≤ ((n : Int)) := hc1
        omega
      · have hc1 : ¬ (((hI g 58 80) : Int) ≤ ((n : Int))) := hc1
        refine sP 1 (g1 := (17, [some (.ref 53), some (sI ((n : Int))), some (sI ((c : Int)))], [.ref 53], g)) rfl ?_
        refine s_call (k := 177) (args := [.ref 53]) (st := []) (v := none) (h1 := g2) rfl ⟨rfl, rfl⟩ rfl rfl rfl rfl (sRcv hg (a := 53) rfl rfl) rfl y1 ?_
        refine s_inc (a := (c : Int)) (n := 1) (k := 2) rfl rfl rfl ?_
        refine sP 1 (g1 := (12, [some (.ref 53), some (sI ((n : Int))), some (sI (((c : Int)) + 1))], [], g2)) rfl ?_
        rw [show ((c : Int) + 1) = ((c + 1 : Nat) : Int) by omega]
        exact j1
    | s + 3, hs => exact absurd hs (by omega)
theorem fUndoXb {a : Int} (hh : aHp h) (ra : sR a) (hc : ¬ (0 ≤ a ∧ a < hI h 3 5)) : nEv sc (d + 1) 70 [.ref 0, sI a] h (some (sI (-1)), h) := by
  have gd := hI_rg hh xw_d
  unfold sR aMi aMa at ra
  refine nEv_of (t := mMe70) rfl ?_
  show nRn sc (d) (mMT mMe70) (mMC mMe70) (0, [some (.ref 0), some (sI a), none], [], h) _
  refine sP 1 (g1 := (1, [some (.ref 0), some (sI a), none], [sI a], h)) rfl ?_
  refine s_ifc (q := .lt) (a := a) rfl ⟨_, rfl⟩ rfl (by unfold sR aMi aMa; omega) (fun hc1 => ?_) (fun hc1 => ?_)
  · have hc1 : (a : Int) < 0 := hc1
    refine sP 1 (g1 := (8, [some (.ref 0), some (sI a), none], [sI ((-1))], h)) rfl ?_
    exact s_reti rfl rfl (Or.inl rfl) rfl rfl
  · have hc1 : ¬ ((a : Int) < 0) := hc1
    refine sP 2 (g1 := (4, [some (.ref 0), some (sI a), none], [.ref 0, sI a], h)) rfl ?_
    refine s_get (a := 0) (j := 2) hh rfl ⟨_, rfl⟩ rfl rfl rfl (v := .ref 3) (hR_ok hh (by decide +kernel)) ?_
    refine s_get (a := 3) (j := 5) hh rfl ⟨_, rfl⟩ rfl rfl rfl (v := sI (hI h 3 5)) (hI_ok hh xw_d) ?_
    refine s_icmp (q := .lt) (a := a) (b := hI h 3 5) rfl ⟨_, rfl⟩ rfl (by unfold sR aMi aMa; omega) (by unfold sR aMi aMa; omega) (fun hc2 => ?_) (fun hc2 => ?_)
    · have hc2 : (a : Int) < (hI h 3 5) := hc2
      omega
    · have hc2 : ¬ ((a : Int) < (hI h 3 5)) := hc2
      refine sP 1 (g1 := (8, [some (.ref 0), some (sI a), none], [sI ((-1))], h)) rfl ?_
      exact s_reti rfl rfl (Or.inl rfl) rfl rfl
theorem fUndoMb {a : Int} (hh : aHp h) (ra : sR a) (hc : ¬ (0 ≤ a ∧ a ≤ hI h 58 80)) : nEv sc (d + 2) 176 [.ref 53, sI a] h (some (sI (-1)), h) := by
  have gd := hI_rg hh nw_d
  have rb := ra
  unfold sR aMi aMa at ra
  have ev := fIn (sc := sc) (d := d) (h := h) (a := a) (b := 0) (e := hI h 58 80) (by omega) (by omega) (by omega) (by omega) (by omega) (by omega)
  rw [if_neg hc] at ev
  refine nEv_of (t := mMe176) rfl ?_
  show nRn sc (d + 1) (mMT mMe176) (mMC mMe176) (0, [some (.ref 53), some (sI a), none], [], h) _
  refine sP 1 (g1 := (1, [some (.ref 53), some (sI a), none], [sI a], h)) rfl ?_
  refine s_i2l (a := a) rfl rfl (by unfold sR aMi aMa; omega) ?_
  refine sP 2 (g1 := (4, [some (.ref 53), some (sI a), none], [.ref 53, sJ 0, sJ a], h)) rfl ?_
  refine s_call (k := 163) (args := [.ref 53]) (st := [sJ 0, sJ a]) (v := some (sI (hI h 58 80))) (h1 := h) rfl ⟨rfl, rfl⟩ rfl rfl rfl rfl (sRcv hh (a := 53) rfl rfl) rfl (fDone hh) ?_
  refine s_i2l (a := hI h 58 80) rfl rfl (by unfold sR aMi aMa; omega) ?_
  refine s_call (k := 127) (args := [sJ a, sJ 0, sJ (hI h 58 80)]) (st := []) (v := some (sI 0)) (h1 := h) rfl ⟨rfl, rfl⟩ rfl rfl rfl rfl rfl rfl ev ?_
  refine s_ifc (q := .ne) (a := 0) rfl ⟨_, rfl⟩ rfl (by unfold sR aMi aMa; omega) (fun hc1 => ?_) (fun hc1 => ?_)
  · have hc1 : (0 : Int) ≠ 0 := hc1
    omega
  · have hc1 : ¬ ((0 : Int) ≠ 0) := hc1
    refine sP 1 (g1 := (9, [some (.ref 53), some (sI a), none], [sI ((-1))], h)) rfl ?_
    exact s_reti rfl rfl (Or.inl rfl) rfl rfl
theorem fUndoM {n : Nat} {r : mR} (hh : aHp h) (hc : (n : Int) ≤ hI h 58 80) (hr : nRn sc (d + 1) (mMT mMe176) (mMC mMe176) (12, [some (.ref 53), some (sI (n : Int)), some (sI ((0 : Nat) : Int))], [], h) r) : nEv sc (d + 2) 176 [.ref 53, sI (n : Int)] h r := by
  have gd := hI_rg hh nw_d
  have ev := fIn (sc := sc) (d := d) (h := h) (a := (n : Int)) (b := 0) (e := hI h 58 80) (by omega) (by omega) (by omega) (by omega) (by omega) (by omega)
  rw [if_pos ⟨by omega, hc⟩] at ev
  refine nEv_of (t := mMe176) rfl ?_
  show nRn sc (d + 1) (mMT mMe176) (mMC mMe176) (0, [some (.ref 53), some (sI ((n : Int))), none], [], h) _
  refine sP 1 (g1 := (1, [some (.ref 53), some (sI ((n : Int))), none], [sI ((n : Int))], h)) rfl ?_
  refine s_i2l (a := (n : Int)) rfl rfl (by unfold sR aMi aMa; omega) ?_
  refine sP 2 (g1 := (4, [some (.ref 53), some (sI ((n : Int))), none], [.ref 53, sJ 0, sJ ((n : Int))], h)) rfl ?_
  refine s_call (k := 163) (args := [.ref 53]) (st := [sJ 0, sJ ((n : Int))]) (v := some (sI (hI h 58 80))) (h1 := h) rfl ⟨rfl, rfl⟩ rfl rfl rfl rfl (sRcv hh (a := 53) rfl rfl) rfl (fDone hh) ?_
  refine s_i2l (a := hI h 58 80) rfl rfl (by unfold sR aMi aMa; omega) ?_
  refine s_call (k := 127) (args := [sJ ((n : Int)), sJ 0, sJ (hI h 58 80)]) (st := []) (v := some (sI 1)) (h1 := h) rfl ⟨rfl, rfl⟩ rfl rfl rfl rfl rfl rfl ev ?_
  refine s_ifc (q := .ne) (a := 1) rfl ⟨_, rfl⟩ rfl (by unfold sR aMi aMa; omega) (fun hc1 => ?_) (fun hc1 => ?_)
  · have hc1 : (1 : Int) ≠ 0 := hc1
    refine sP 2 (g1 := (12, [some (.ref 53), some (sI ((n : Int))), some (sI 0)], [], h)) rfl ?_
    exact hr
  · have hc1 : ¬ ((1 : Int) ≠ 0) := hc1
    omega
theorem fUndoMz {n : Nat} (hh : aHp h) (hc : hI h 58 80 = (n : Int)) : nRn sc (d + 1) (mMT mMe176) (mMC mMe176) (12, [some (.ref 53), some (sI (n : Int)), some (sI ((0 : Nat) : Int))], [], h) (some (sI 0), h) := by
  have gd := hI_rg hh nw_d
  refine sP 1 (g1 := (13, [some (.ref 53), some (sI ((n : Int))), some (sI (((0 : Nat) : Int)))], [.ref 53], h)) rfl ?_
  refine s_call (k := 163) (args := [.ref 53]) (st := []) (v := some (sI (hI h 58 80))) (h1 := h) rfl ⟨rfl, rfl⟩ rfl rfl rfl rfl (sRcv hh (a := 53) rfl rfl) rfl (fDone hh) ?_
  refine sP 1 (g1 := (15, [some (.ref 53), some (sI ((n : Int))), some (sI (((0 : Nat) : Int)))], [sI ((n : Int)), sI (hI h 58 80)], h)) rfl ?_
  refine s_icmp (q := .le) (a := hI h 58 80) (b := (n : Int)) rfl ⟨_, rfl⟩ rfl (by unfold sR aMi aMa; omega) (by unfold sR aMi aMa; omega) (fun hc1 => ?_) (fun hc1 => ?_)
  · have hc1 : ((hI h 58 80) : Int) ≤ ((n : Int)) := hc1
    refine sP 1 (g1 := (21, [some (.ref 53), some (sI ((n : Int))), some (sI (((0 : Nat) : Int)))], [sI (((0 : Nat) : Int))], h)) rfl ?_
    exact s_reti rfl rfl (Or.inl rfl) rfl rfl
  · have hc1 : ¬ (((hI h 58 80) : Int) ≤ ((n : Int))) := hc1
    omega
theorem fUndoX {n k : Nat} {g : mH} (hh : aHp h) (hD : hI h 3 5 = (n : Int) + k) (k0 : 0 < k) (hr : nRn sc (d + 2) (mMT mMe71) (mMC mMe71) (0, [some (.ref 3), some (sI (n : Int)), none, none], [], h) (none, g)) (hg : aHp g) : nEv sc (d + 4) 70 [.ref 0, sI (n : Int)] h (some (sI (k : Int)), g) := by
  have gd := hI_rg hh xw_d
  have ev : nEv sc (d + 3) 71 [.ref 3, sI (n : Int)] h (none, g) := by
    refine nEv_of (t := mMe71) rfl ?_
    exact hr
  refine nEv_of (t := mMe70) rfl ?_
  show nRn sc (d + 3) (mMT mMe70) (mMC mMe70) (0, [some (.ref 0), some (sI ((n : Int))), none], [], h) _
  refine sP 1 (g1 := (1, [some (.ref 0), some (sI ((n : Int))), none], [sI ((n : Int))], h)) rfl ?_
  refine s_ifc (q := .lt) (a := (n : Int)) rfl ⟨_, rfl⟩ rfl (by unfold sR aMi aMa; omega) (fun hc1 => ?_) (fun hc1 => ?_)
  · have hc1 : (((n : Int)) : Int) < 0 := hc1
    omega
  · have hc1 : ¬ ((((n : Int)) : Int) < 0) := hc1
    refine sP 2 (g1 := (4, [some (.ref 0), some (sI ((n : Int))), none], [.ref 0, sI ((n : Int))], h)) rfl ?_
    refine s_get (a := 0) (j := 2) hh rfl ⟨_, rfl⟩ rfl rfl rfl (v := .ref 3) (hR_ok hh (by decide +kernel)) ?_
    refine s_get (a := 3) (j := 5) hh rfl ⟨_, rfl⟩ rfl rfl rfl (v := sI (hI h 3 5)) (hI_ok hh xw_d) ?_
    refine s_icmp (q := .lt) (a := (n : Int)) (b := hI h 3 5) rfl ⟨_, rfl⟩ rfl (by unfold sR aMi aMa; omega) (by unfold sR aMi aMa; omega) (fun hc2 => ?_) (fun hc2 => ?_)
    · have hc2 : (((n : Int)) : Int) < (hI h 3 5) := hc2
      refine sP 1 (g1 := (10, [some (.ref 0), some (sI ((n : Int))), none], [.ref 0], h)) rfl ?_
      refine s_get (a := 0) (j := 2) hh rfl ⟨_, rfl⟩ rfl rfl rfl (v := .ref 3) (hR_ok hh (by decide +kernel)) ?_
      refine s_get (a := 3) (j := 5) hh rfl ⟨_, rfl⟩ rfl rfl rfl (v := sI (hI h 3 5)) (hI_ok hh xw_d) ?_
      refine sP 1 (g1 := (13, [some (.ref 0), some (sI ((n : Int))), none], [sI ((n : Int)), sI (hI h 3 5)], h)) rfl ?_
      refine s_sub (a := hI h 3 5) (b := (n : Int)) rfl rfl ?_
      refine sP 2 (g1 := (16, [some (.ref 0), some (sI ((n : Int))), some (sI ((hI h 3 5) - ((n : Int))))], [.ref 0], h)) rfl ?_
      refine s_get (a := 0) (j := 2) hh rfl ⟨_, rfl⟩ rfl rfl rfl (v := .ref 3) (hR_ok hh (by decide +kernel)) ?_
      refine sP 1 (g1 := (18, [some (.ref 0), some (sI ((n : Int))), some (sI ((hI h 3 5) - ((n : Int))))], [sI ((n : Int)), .ref 3], h)) rfl ?_
      refine s_call (k := 71) (args := [.ref 3, sI ((n : Int))]) (st := []) (v := none) (h1 := g) rfl ⟨rfl, rfl⟩ rfl rfl rfl rfl (sRcv hh (a := 3) rfl rfl) rfl ev ?_
      refine sP 1 (g1 := (20, [some (.ref 0), some (sI ((n : Int))), some (sI ((hI h 3 5) - ((n : Int))))], [sI ((hI h 3 5) - ((n : Int)))], g)) rfl ?_
      exact s_reti rfl rfl (Or.inl rfl) (by omega) rfl
    · have hc2 : ¬ ((((n : Int)) : Int) < (hI h 3 5)) := hc2
      omega
end UNDO
theorem wUndo {sc : List Int32} {h : mH} (x : Int32) (hp : wP h) : ∃ z1 h1 z2 h2, nEv sc 100 70 (.ref 0 :: [x].map Value.int) h (some (.int z1), h1) ∧ aHp h1 ∧ nEv sc 100 176 (.ref 53 :: [x].map Value.int) h1 (some (.int z2), h2) ∧ wP h2 := by
  have hh := wP_a h hp
  have rx : sR x.toInt := aI_rg x
  have e5 : hI h 3 5 = hI h 58 80 := hp.2.1.2.2.1
  have gd := hI_rg hh xw_d
  have fin : ∀ {v1 v2 : Int} {h1 h2 : mH}, nEv sc 100 70 [.ref 0, sI x.toInt] h (some (sI v1), h1) → aHp h1 → nEv sc 100 176 [.ref 53, sI x.toInt] h1 (some (sI v2), h2) → wP h2 → ∃ z1 h1 z2 h2, nEv sc 100 70 (.ref 0 :: [x].map Value.int) h (some (.int z1), h1) ∧ aHp h1 ∧ nEv sc 100 176 (.ref 53 :: [x].map Value.int) h1 (some (.int z2), h2) ∧ wP h2 := by
    intro v1 v2 h1 h2 a1 a2 a3 a4
    refine ⟨Int32.ofInt v1, h1, Int32.ofInt v2, h2, ?_, a2, ?_, a4⟩
    · show nEv sc 100 70 [.ref 0, .int x] h _
      rw [sI_of x]
      exact a1
    · show nEv sc 100 176 [.ref 53, .int x] h1 _
      rw [sI_of x]
      exact a3
  by_cases c0 : 0 ≤ x.toInt ∧ x.toInt ≤ hI h 3 5
  · obtain ⟨n, en⟩ := iN c0.1
    obtain ⟨k, ek⟩ := iN (show 0 ≤ hI h 3 5 - x.toInt by omega)
    by_cases c1 : k = 0
    · exact fin (v1 := -1) (v2 := 0) (fUndoXb (d := 99) hh rx (by omega)) hh (by rw [en]; exact fUndoM (d := 98) hh (by omega) (fUndoMz (d := 98) hh (by omega))) hp
    · obtain ⟨h1, i1, i2, i3, i4⟩ := wBack (sc := sc) (d := 96) (n := n) k h none none hh (by omega)
      have k0 : ∀ p m, ¬ (3 ≤ p ∧ p ≤ 6) → aSlot h1 p m = aSlot h p m := fun p m w => i3 p m (by omega) (by omega)
      obtain ⟨g1, j1, j2, j3, j4⟩ := i4 h1 0 (by omega) i2 (wP_two hp k0)
      have q8 : hI h1 58 80 = hI h 58 80 := hI_cg (k0 58 80 (by omega))
      exact fin (by rw [en]; exact fUndoX (d := 96) (k := k) hh (by omega) (by omega) i1 i2) i2 (by rw [en]; exact fUndoM (d := 98) i2 (by omega) j1) (wP_now hp j2 k0 (fun p m w => j3 p m w) j4)
  · exact fin (fUndoXb (d := 99) hh rx (by omega)) hh (fUndoMb (d := 98) hh rx (by omega)) hp
