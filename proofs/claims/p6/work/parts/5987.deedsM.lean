/-! deeds, in the reference -/
section DEEDM
variable {sc : List Int32} {d : Nat} {h : mH}
theorem fIsPerson {a : Int} (hh : aHp h) (ha : sR a) : nEv sc (d + 2) 147 [.ref 53, sI a] h (some (sI (if 0 ≤ a ∧ a < hI h 58 0 then 1 else 0)), h) := by
  have gp := hI_rg hh nw_p
  unfold sR aMi aMa at ha
  have ev := fIn (sc := sc) (d := d) (h := h) (a := a) (b := 0) (e := hI h 58 0 - 1) (by omega) (by omega) (by omega) (by omega) (by omega) (by omega)
  refine nEv_of (t := mMe147) rfl ?_
  have e0 : (if 0 ≤ a ∧ a ≤ hI h 58 0 - 1 then (1 : Int) else 0) = if 0 ≤ a ∧ a < hI h 58 0 then 1 else 0 := by
    by_cases c : 0 ≤ a ∧ a < hI h 58 0
    · rw [if_pos c, if_pos (by omega)]
    · rw [if_neg c, if_neg (by omega)]
  rw [e0] at ev
  have e1 : (if 0 ≤ a ∧ a < hI h 58 0 then (1 : Int) else 0) = 0 ∨ (if 0 ≤ a ∧ a < hI h 58 0 then (1 : Int) else 0) = 1 := by
    split
    · exact Or.inr rfl
    · exact Or.inl rfl
  generalize (if 0 ≤ a ∧ a < hI h 58 0 then (1 : Int) else 0) = z at *
  show nRn sc (d + 1) (mMT mMe147) (mMC mMe147) (0, [some (.ref 53), some (sI a)], [], h) _
  refine sP 1 (g1 := (1, [some (.ref 53), some (sI a)], [sI a], h)) rfl ?_
  refine s_i2l (a := a) rfl rfl (by unfold sR aMi aMa; omega) ?_
  refine sP 2 (g1 := (4, [some (.ref 53), some (sI a)], [.ref 53, sJ 0, sJ a], h)) rfl ?_
  refine s_get (a := 53) (j := 4) hh rfl ⟨_, rfl⟩ rfl rfl rfl (v := .ref 58) (hR_ok hh (by decide +kernel)) ?_
  refine sP 1 (g1 := (6, [some (.ref 53), some (sI a)], [sI 0, .ref 58, sJ 0, sJ a], h)) rfl ?_
  refine s_iald (a := 58) (n := 201) (j := 0) hh rfl rfl rfl (by omega) (by omega) (by decide) (v := sI (hI h 58 0)) (hI_ok hh nw_p) ?_
  refine sP 1 (g1 := (8, [some (.ref 53), some (sI a)], [sI 1, sI (hI h 58 0), sJ 0, sJ a], h)) rfl ?_
  refine s_sub (a := hI h 58 0) (b := 1) rfl rfl ?_
  refine s_i2l (a := (hI h 58 0) - 1) rfl rfl (by unfold sR aMi aMa; omega) ?_
  refine s_call (k := 127) (args := [sJ a, sJ 0, sJ ((hI h 58 0) - 1)]) (st := []) (v := some (sI z)) (h1 := h) rfl ⟨rfl, rfl⟩ rfl rfl rfl rfl rfl rfl ev ?_
  exact s_reti rfl rfl (Or.inr ⟨rfl, by omega⟩) rfl rfl
theorem fRemember {s a b D : Nat} (hh : aHp h) (hs : s < 3) (ha : a < 6) (hb : b < 6) (hD : hI h 58 80 = (D : Int)) (hD4 : D < 40) : ∃ g, nEv sc (d + 1) 165 [.ref 53, sI (s : Int), sI (a : Int), sI (b : Int)] h (none, g) ∧ aHp g ∧ ∀ p m, aSlot g p m = if p = 58 ∧ m = 80 then some (sI ((D : Int) + 1)) else if p = 58 ∧ m = 81 + (3 * D + 2) then some (sI (b : Int)) else if p = 58 ∧ m = 81 + (3 * D + 1) then some (sI (a : Int)) else if p = 58 ∧ m = 81 + 3 * D then some (sI (s : Int)) else aSlot h p m := by
  obtain ⟨g1, eg1⟩ : ∃ gz, gz = hset h 58 (81 + 3 * D) (sI (s : Int)) := ⟨_, rfl⟩
  have sg1 : ∀ xa xm, aSlot g1 xa xm = if xa = 58 ∧ xm = 81 + 3 * D then some (sI (s : Int)) else aSlot h xa xm := fun xa xm => by rw [eg1]; exact hset_slot hh (show sTg 58 = some (50, 201) from rfl) (by omega) xa xm
  have hg1 : aHp g1 := by rw [eg1]; exact hset_ii hh (nw_iq (by omega)) (by omega) (by omega) (by unfold sR aMi aMa; omega)
  obtain ⟨g2, eg2⟩ : ∃ gz, gz = hset g1 58 (81 + (3 * D + 1)) (sI (a : Int)) := ⟨_, rfl⟩
  have sg2 : ∀ xa xm, aSlot g2 xa xm = if xa = 58 ∧ xm = 81 + (3 * D + 1) then some (sI (a : Int)) else aSlot g1 xa xm := fun xa xm => by rw [eg2]; exact hset_slot hg1 (show sTg 58 = some (50, 201) from rfl) (by omega) xa xm
  have hg2 : aHp g2 := by rw [eg2]; exact hset_ii hg1 (nw_iq (by omega)) (by omega) (by omega) (by unfold sR aMi aMa; omega)
  obtain ⟨g3, eg3⟩ : ∃ gz, gz = hset g2 58 (81 + (3 * D + 2)) (sI (b : Int)) := ⟨_, rfl⟩
  have sg3 : ∀ xa xm, aSlot g3 xa xm = if xa = 58 ∧ xm = 81 + (3 * D + 2) then some (sI (b : Int)) else aSlot g2 xa xm := fun xa xm => by rw [eg3]; exact hset_slot hg2 (show sTg 58 = some (50, 201) from rfl) (by omega) xa xm
  have hg3 : aHp g3 := by rw [eg3]; exact hset_ii hg2 (nw_iq (by omega)) (by omega) (by omega) (by unfold sR aMi aMa; omega)
  obtain ⟨g4, eg4⟩ : ∃ gz, gz = hset g3 58 80 (sI ((D : Int) + 1)) := ⟨_, rfl⟩
  have sg4 : ∀ xa xm, aSlot g4 xa xm = if xa = 58 ∧ xm = 80 then some (sI ((D : Int) + 1)) else aSlot g3 xa xm := fun xa xm => by rw [eg4]; exact hset_slot hg3 (show sTg 58 = some (50, 201) from rfl) (by omega) xa xm
  have hg4 : aHp g4 := by rw [eg4]; exact hset_ii hg3 nw_id (by omega) (by omega) (by unfold sR aMi aMa; omega)
  refine ⟨g4, nEv_of (t := mMe165) rfl ?_, hg4, fun p m => by rw [sg4, sg3, sg2, sg1]⟩
  show nRn sc (d) (mMT mMe165) (mMC mMe165) (0, [some (.ref 53), some (sI ((s : Int))), some (sI ((a : Int))), some (sI ((b : Int))), none], [], h) _
  refine sP 3 (g1 := (3, [some (.ref 53), some (sI ((s : Int))), some (sI ((a : Int))), some (sI ((b : Int))), none], [.ref 53, sI 3, sI 81], h)) rfl ?_
  refine s_get (a := 53) (j := 4) hh rfl ⟨_, rfl⟩ rfl rfl rfl (v := .ref 58) (hR_ok hh (by decide +kernel)) ?_
  refine sP 1 (g1 := (5, [some (.ref 53), some (sI ((s : Int))), some (sI ((a : Int))), some (sI ((b : Int))), none], [sI 80, .ref 58, sI 3, sI 81], h)) rfl ?_
  refine s_iald (a := 58) (n := 201) (j := 80) hh rfl rfl rfl (by omega) (by omega) (by decide) (v := sI ((D : Int))) (by have q := hI_ok hh nw_d; rw [hD] at q; exact q) ?_
  refine s_mul (a := 3) (b := (D : Int)) rfl rfl ?_
  refine s_add (a := 81) (b := 3 * ((D : Int))) rfl rfl ?_
  refine sP 2 (g1 := (10, [some (.ref 53), some (sI ((s : Int))), some (sI ((a : Int))), some (sI ((b : Int))), some (sI (81 + (3 * ((D : Int)))))], [.ref 53], h)) rfl ?_
  refine s_get (a := 53) (j := 4) hh rfl ⟨_, rfl⟩ rfl rfl rfl (v := .ref 58) (hR_ok hh (by decide +kernel)) ?_
  refine sP 2 (g1 := (13, [some (.ref 53), some (sI ((s : Int))), some (sI ((a : Int))), some (sI ((b : Int))), some (sI (81 + (3 * ((D : Int)))))], [sI ((s : Int)), sI (81 + (3 * ((D : Int)))), .ref 58], h)) rfl ?_
  refine s_iast (a := 58) (n := 201) (j := 81 + (3 * ((D : Int)))) hh rfl rfl (show sTg 58 = some (50, 201) from rfl) (by omega) (by omega) (by decide) ?_
  rw [show (81 + (3 * ((D : Int))) : Int).toNat = 81 + 3 * D by omega]
  rw [← eg1]
  refine sP 1 (g1 := (15, [some (.ref 53), some (sI ((s : Int))), some (sI ((a : Int))), some (sI ((b : Int))), some (sI (81 + (3 * ((D : Int)))))], [.ref 53], g1)) rfl ?_
  refine s_get (a := 53) (j := 4) hg1 rfl ⟨_, rfl⟩ rfl rfl rfl (v := .ref 58) (hR_ok hg1 (by decide +kernel)) ?_
  refine sP 2 (g1 := (18, [some (.ref 53), some (sI ((s : Int))), some (sI ((a : Int))), some (sI ((b : Int))), some (sI (81 + (3 * ((D : Int)))))], [sI 1, sI (81 + (3 * ((D : Int)))), .ref 58], g1)) rfl ?_
  refine s_add (a := 81 + (3 * ((D : Int)))) (b := 1) rfl rfl ?_
  refine sP 1 (g1 := (20, [some (.ref 53), some (sI ((s : Int))), some (sI ((a : Int))), some (sI ((b : Int))), some (sI (81 + (3 * ((D : Int)))))], [sI ((a : Int)), sI ((81 + (3 * ((D : Int)))) + 1), .ref 58], g1)) rfl ?_
  refine s_iast (a := 58) (n := 201) (j := (81 + (3 * ((D : Int)))) + 1) hg1 rfl rfl (show sTg 58 = some (50, 201) from rfl) (by omega) (by omega) (by decide) ?_
  rw [show ((81 + (3 * ((D : Int)))) + 1 : Int).toNat = 81 + (3 * D + 1) by omega]
  rw [← eg2]
  refine sP 1 (g1 := (22, [some (.ref 53), some (sI ((s : Int))), some (sI ((a : Int))), some (sI ((b : Int))), some (sI (81 + (3 * ((D : Int)))))], [.ref 53], g2)) rfl ?_
  refine s_get (a := 53) (j := 4) hg2 rfl ⟨_, rfl⟩ rfl rfl rfl (v := .ref 58) (hR_ok hg2 (by decide +kernel)) ?_
  refine sP 2 (g1 := (25, [some (.ref 53), some (sI ((s : Int))), some (sI ((a : Int))), some (sI ((b : Int))), some (sI (81 + (3 * ((D : Int)))))], [sI 2, sI (81 + (3 * ((D : Int)))), .ref 58], g2)) rfl ?_
  refine s_add (a := 81 + (3 * ((D : Int)))) (b := 2) rfl rfl ?_
  refine sP 1 (g1 := (27, [some (.ref 53), some (sI ((s : Int))), some (sI ((a : Int))), some (sI ((b : Int))), some (sI (81 + (3 * ((D : Int)))))], [sI ((b : Int)), sI ((81 + (3 * ((D : Int)))) + 2), .ref 58], g2)) rfl ?_
  refine s_iast (a := 58) (n := 201) (j := (81 + (3 * ((D : Int)))) + 2) hg2 rfl rfl (show sTg 58 = some (50, 201) from rfl) (by omega) (by omega) (by decide) ?_
  rw [show ((81 + (3 * ((D : Int)))) + 2 : Int).toNat = 81 + (3 * D + 2) by omega]
  rw [← eg3]
  refine sP 1 (g1 := (29, [some (.ref 53), some (sI ((s : Int))), some (sI ((a : Int))), some (sI ((b : Int))), some (sI (81 + (3 * ((D : Int)))))], [.ref 53], g3)) rfl ?_
  refine s_get (a := 53) (j := 4) hg3 rfl ⟨_, rfl⟩ rfl rfl rfl (v := .ref 58) (hR_ok hg3 (by decide +kernel)) ?_
  refine sP 2 (g1 := (32, [some (.ref 53), some (sI ((s : Int))), some (sI ((a : Int))), some (sI ((b : Int))), some (sI (81 + (3 * ((D : Int)))))], [sI 80, .ref 58, sI 80, .ref 58], g3)) rfl ?_
  refine s_iald (a := 58) (n := 201) (j := 80) hg3 rfl rfl rfl (by omega) (by omega) (by decide) (v := sI ((D : Int))) (by rw [sg3, if_neg (by omega), sg2, if_neg (by omega), sg1, if_neg (by omega)]; exact (by have q := hI_ok hh nw_d; rw [hD] at q; exact q)) ?_
  refine sP 1 (g1 := (34, [some (.ref 53), some (sI ((s : Int))), some (sI ((a : Int))), some (sI ((b : Int))), some (sI (81 + (3 * ((D : Int)))))], [sI 1, sI ((D : Int)), sI 80, .ref 58], g3)) rfl ?_
  refine s_add (a := (D : Int)) (b := 1) rfl rfl ?_
  refine s_iast (a := 58) (n := 201) (j := 80) hg3 rfl rfl (show sTg 58 = some (50, 201) from rfl) (by omega) (by omega) (by decide) ?_
  rw [show (80 : Int).toNat = 80 by omega]
  rw [← eg4]
  exact s_ret rfl rfl
theorem fSteps0 {a U D : Nat} (hh : aHp h) (ha : a < 6) (hU : hI h 58 43 = (U : Int)) (hD : hI h 58 80 = (D : Int)) (hD4 : D < 40) : ∃ g, nEv sc (d + 2) 164 [.ref 53, sI (a : Int)] h (none, g) ∧ aHp g ∧ ∀ p m, aSlot g p m = if p = 58 ∧ m = 43 then some (sI ((bxo U a : Nat) : Int)) else if p = 58 ∧ m = 80 then some (sI ((D : Int) + 1)) else if p = 58 ∧ m = 81 + (3 * D + 2) then some (sI ((0 : Nat) : Int)) else if p = 58 ∧ m = 81 + (3 * D + 1) then some (sI (a : Int)) else if p = 58 ∧ m = 81 + 3 * D then some (sI ((0 : Nat) : Int)) else aSlot h p m := by
  have gu := hI_rg hh nw_u
  have hU6 : U < 64 := by omega
  have hx := bxo_lt U hU6 a ha
  obtain ⟨g1, r1, r2, r3⟩ := fRemember (sc := sc) (d := d) (s := 0) (b := 0) hh (by decide) ha (by decide) hD hD4
  have hU1 : hI g1 58 43 = (U : Int) := (hI_cg (by rw [r3, if_neg (by omega), if_neg (by omega), if_neg (by omega), if_neg (by omega)])).trans hU
  obtain ⟨g2, eg2⟩ : ∃ gz, gz = hset g1 58 43 (sI ((bxo U a : Nat) : Int)) := ⟨_, rfl⟩
  have sg2 : ∀ xa xm, aSlot g2 xa xm = if xa = 58 ∧ xm = 43 then some (sI ((bxo U a : Nat) : Int)) else aSlot g1 xa xm := fun xa xm => by rw [eg2]; exact hset_slot r2 (show sTg 58 = some (50, 201) from rfl) (by omega) xa xm
  have hg2 : aHp g2 := by rw [eg2]; exact hset_ii r2 nw_iu (by omega) (by omega) (by unfold sR aMi aMa; omega)
  refine ⟨g2, nEv_of (t := mMe164) rfl ?_, hg2, fun p m => by rw [sg2, r3]⟩
  show nRn sc (d + 1) (mMT mMe164) (mMC mMe164) (0, [some (.ref 53), some (sI ((a : Int)))], [], h) _
  refine sP 4 (g1 := (4, [some (.ref 53), some (sI ((a : Int)))], [sI 0, sI ((a : Int)), sI 0, .ref 53], h)) rfl ?_
  refine s_call (k := 165) (args := [.ref 53, sI 0, sI ((a : Int)), sI 0]) (st := []) (v := none) (h1 := g1) rfl ⟨rfl, rfl⟩ rfl rfl rfl rfl (sRcv hh (a := 53) rfl rfl) rfl r1 ?_
  refine sP 1 (g1 := (6, [some (.ref 53), some (sI ((a : Int)))], [.ref 53], g1)) rfl ?_
  refine s_get (a := 53) (j := 4) r2 rfl ⟨_, rfl⟩ rfl rfl rfl (v := .ref 58) (hR_ok r2 (by decide +kernel)) ?_
  refine sP 2 (g1 := (9, [some (.ref 53), some (sI ((a : Int)))], [sI 43, .ref 58, sI 43, .ref 58], g1)) rfl ?_
  refine s_iald (a := 58) (n := 201) (j := 43) r2 rfl rfl rfl (by omega) (by omega) (by decide) (v := sI ((U : Int))) (by have q := hI_ok r2 nw_u; rw [hU1] at q; exact q) ?_
  refine sP 2 (g1 := (12, [some (.ref 53), some (sI ((a : Int)))], [sI ((a : Int)), sI 1, sI ((U : Int)), sI 43, .ref 58], g1)) rfl ?_
  refine s_shl (a := a) rfl rfl ha ?_
  refine s_xo (s := U) (a := a) rfl rfl hU6 ha ?_
  refine s_iast (a := 58) (n := 201) (j := 43) r2 rfl rfl (show sTg 58 = some (50, 201) from rfl) (by omega) (by omega) (by decide) ?_
  rw [show (43 : Int).toNat = 43 by omega]
  rw [← eg2]
  exact s_ret rfl rfl
theorem fSigns {a b : Nat} {v : Int} (hh : aHp h) (ha : a < 6) (hb : b < 6) (v0 : 0 ≤ v) (v1 : v ≤ 1) : ∃ g, nEv sc (d + 1) 174 [.ref 53, sI (a : Int), sI (b : Int), sI v] h (none, g) ∧ aHp g ∧ ∀ p m, aSlot g p m = if p = 58 ∧ m = 44 + (6 * b + a) then some (sI v) else if p = 58 ∧ m = 44 + (6 * a + b) then some (sI v) else aSlot h p m := by
  obtain ⟨g1, eg1⟩ : ∃ gz, gz = hset h 58 (44 + (6 * a + b)) (sI v) := ⟨_, rfl⟩
  have sg1 : ∀ xa xm, aSlot g1 xa xm = if xa = 58 ∧ xm = 44 + (6 * a + b) then some (sI v) else aSlot h xa xm := fun xa xm => by rw [eg1]; exact hset_slot hh (show sTg 58 = some (50, 201) from rfl) (by omega) xa xm
  have hg1 : aHp g1 := by rw [eg1]; exact hset_ii hh (nw_it (by omega)) (by omega) (by omega) (by unfold sR aMi aMa; omega)
  obtain ⟨g2, eg2⟩ : ∃ gz, gz = hset g1 58 (44 + (6 * b + a)) (sI v) := ⟨_, rfl⟩
  have sg2 : ∀ xa xm, aSlot g2 xa xm = if xa = 58 ∧ xm = 44 + (6 * b + a) then some (sI v) else aSlot g1 xa xm := fun xa xm => by rw [eg2]; exact hset_slot hg1 (show sTg 58 = some (50, 201) from rfl) (by omega) xa xm
  have hg2 : aHp g2 := by rw [eg2]; exact hset_ii hg1 (nw_it (by omega)) (by omega) (by omega) (by unfold sR aMi aMa; omega)
  refine ⟨g2, nEv_of (t := mMe174) rfl ?_, hg2, fun p m => by rw [sg2, sg1]⟩
  show nRn sc (d) (mMT mMe174) (mMC mMe174) (0, [some (.ref 53), some (sI ((a : Int))), some (sI ((b : Int))), some (sI v)], [], h) _
  refine sP 1 (g1 := (1, [some (.ref 53), some (sI ((a : Int))), some (sI ((b : Int))), some (sI v)], [.ref 53], h)) rfl ?_
  refine s_get (a := 53) (j := 4) hh rfl ⟨_, rfl⟩ rfl rfl rfl (v := .ref 58) (hR_ok hh (by decide +kernel)) ?_
  refine sP 3 (g1 := (5, [some (.ref 53), some (sI ((a : Int))), some (sI ((b : Int))), some (sI v)], [sI ((a : Int)), sI 6, sI 44, .ref 58], h)) rfl ?_
  refine s_mul (a := 6) (b := (a : Int)) rfl rfl ?_
  refine s_add (a := 44) (b := 6 * ((a : Int))) rfl rfl ?_
  refine sP 1 (g1 := (8, [some (.ref 53), some (sI ((a : Int))), some (sI ((b : Int))), some (sI v)], [sI ((b : Int)), sI (44 + (6 * ((a : Int)))), .ref 58], h)) rfl ?_
  refine s_add (a := 44 + (6 * ((a : Int)))) (b := (b : Int)) rfl rfl ?_
  refine sP 1 (g1 := (10, [some (.ref 53), some (sI ((a : Int))), some (sI ((b : Int))), some (sI v)], [sI v, sI ((44 + (6 * ((a : Int)))) + ((b : Int))), .ref 58], h)) rfl ?_
  refine s_iast (a := 58) (n := 201) (j := (44 + (6 * ((a : Int)))) + ((b : Int))) hh rfl rfl (show sTg 58 = some (50, 201) from rfl) (by omega) (by omega) (by decide) ?_
  rw [show ((44 + (6 * ((a : Int)))) + ((b : Int)) : Int).toNat = 44 + (6 * a + b) by omega]
  rw [← eg1]
  refine sP 1 (g1 := (12, [some (.ref 53), some (sI ((a : Int))), some (sI ((b : Int))), some (sI v)], [.ref 53], g1)) rfl ?_
  refine s_get (a := 53) (j := 4) hg1 rfl ⟨_, rfl⟩ rfl rfl rfl (v := .ref 58) (hR_ok hg1 (by decide +kernel)) ?_
  refine sP 3 (g1 := (16, [some (.ref 53), some (sI ((a : Int))), some (sI ((b : Int))), some (sI v)], [sI ((b : Int)), sI 6, sI 44, .ref 58], g1)) rfl ?_
  refine s_mul (a := 6) (b := (b : Int)) rfl rfl ?_
  refine s_add (a := 44) (b := 6 * ((b : Int))) rfl rfl ?_
  refine sP 1 (g1 := (19, [some (.ref 53), some (sI ((a : Int))), some (sI ((b : Int))), some (sI v)], [sI ((a : Int)), sI (44 + (6 * ((b : Int)))), .ref 58], g1)) rfl ?_
  refine s_add (a := 44 + (6 * ((b : Int)))) (b := (a : Int)) rfl rfl ?_
  refine sP 1 (g1 := (21, [some (.ref 53), some (sI ((a : Int))), some (sI ((b : Int))), some (sI v)], [sI v, sI ((44 + (6 * ((b : Int)))) + ((a : Int))), .ref 58], g1)) rfl ?_
  refine s_iast (a := 58) (n := 201) (j := (44 + (6 * ((b : Int)))) + ((a : Int))) hg1 rfl rfl (show sTg 58 = some (50, 201) from rfl) (by omega) (by omega) (by decide) ?_
  rw [show ((44 + (6 * ((b : Int)))) + ((a : Int)) : Int).toNat = 44 + (6 * b + a) by omega]
  rw [← eg2]
  exact s_ret rfl rfl
theorem fTreats {a b D : Nat} (hh : aHp h) (ha : a < 6) (hb : b < 6) (hD : hI h 58 80 = (D : Int)) (hD4 : D < 40) : ∃ g, nEv sc (d + 2) 173 [.ref 53, sI (a : Int), sI (b : Int)] h (none, g) ∧ aHp g ∧ ∀ p m, aSlot g p m = if p = 58 ∧ m = 44 + (6 * b + a) then some (sI 1) else if p = 58 ∧ m = 44 + (6 * a + b) then some (sI 1) else if p = 58 ∧ m = 80 then some (sI ((D : Int) + 1)) else if p = 58 ∧ m = 81 + (3 * D + 2) then some (sI (b : Int)) else if p = 58 ∧ m = 81 + (3 * D + 1) then some (sI (a : Int)) else if p = 58 ∧ m = 81 + 3 * D then some (sI ((2 : Nat) : Int)) else aSlot h p m := by
  obtain ⟨g1, r1, r2, r3⟩ := fRemember (sc := sc) (d := d) (s := 2) hh (by decide) ha hb hD hD4
  obtain ⟨g2, q1, q2, q3⟩ := fSigns (sc := sc) (d := d) (v := 1) r2 ha hb (by decide) (by decide)
  refine ⟨g2, nEv_of (t := mMe173) rfl ?_, q2, fun p m => by rw [q3, r3]⟩
  show nRn sc (d + 1) (mMT mMe173) (mMC mMe173) (0, [some (.ref 53), some (sI ((a : Int))), some (sI ((b : Int)))], [], h) _
  refine sP 4 (g1 := (4, [some (.ref 53), some (sI ((a : Int))), some (sI ((b : Int)))], [sI ((b : Int)), sI ((a : Int)), sI 2, .ref 53], h)) rfl ?_
  refine s_call (k := 165) (args := [.ref 53, sI 2, sI ((a : Int)), sI ((b : Int))]) (st := []) (v := none) (h1 := g1) rfl ⟨rfl, rfl⟩ rfl rfl rfl rfl (sRcv hh (a := 53) rfl rfl) rfl r1 ?_
  refine sP 4 (g1 := (9, [some (.ref 53), some (sI ((a : Int))), some (sI ((b : Int)))], [sI 1, sI ((b : Int)), sI ((a : Int)), .ref 53], g1)) rfl ?_
  refine s_call (k := 174) (args := [.ref 53, sI ((a : Int)), sI ((b : Int)), sI 1]) (st := []) (v := none) (h1 := g2) rfl ⟨rfl, rfl⟩ rfl rfl rfl rfl (sRcv r2 (a := 53) rfl rfl) rfl q1 ?_
  exact s_ret rfl rfl
theorem pAg_uv {x y : Int} {u v : Bool} : pAg x y u v = true ↔ u = true ∧ v = true ∧ pAg x y true true = true := by
  unfold pAg
  cases u <;> cases v <;> simp
theorem fMayM {n a b U ka kb : Nat} (hh : aHp h) (hn : hI h 58 0 = n) (ha : a < 6) (hb : b < 6) (hU : hI h 58 43 = (U : Int)) (hka : hI h 58 (1 + a) = ka) (hkb : hI h 58 (1 + b) = kb) : nEv sc (d + 5) 170 [.ref 53, sI (a : Int), sI (b : Int)] h (some (sI (if pMay a b (decide (hI h 58 (44 + (6 * a + b)) ≠ 0)) (pAg (pSeem (fun j => hI h 58 (7 + j)) n ka a U) (pSeem (fun j => hI h 58 (7 + j)) n kb b U) (bt U a) (bt U b)) = true then 1 else 0)), h) := by
  have gu := hI_rg hh nw_u
  have gt := hI_rg hh (nw_t (show 6 * a + b < 36 by omega))
  have hU6 : U < 64 := by omega
  have ev : nEv sc (d + 4) 171 [.ref 53, sI (a : Int), sI (b : Int), sI (U : Int)] h (some (sI (if pAg (pSeem (fun j => hI h 58 (7 + j)) n ka a U) (pSeem (fun j => hI h 58 (7 + j)) n kb b U) true true = true then 1 else 0)), h) := fDoAgree hh hn ha hb hU6 hka hkb
  have hq := @pAg_uv (pSeem (fun j => hI h 58 (7 + j)) n ka a U) (pSeem (fun j => hI h 58 (7 + j)) n kb b U) (bt U a) (bt U b)
  have va := fHas (sc := sc) (d := d + 3) (h := h) (s := U) (a := a) hU6 ha
  have vb := fHas (sc := sc) (d := d + 3) (h := h) (s := U) (a := b) hU6 hb
  refine nEv_of (t := mMe170) rfl ?_
  generalize pAg (pSeem (fun j => hI h 58 (7 + j)) n ka a U) (pSeem (fun j => hI h 58 (7 + j)) n kb b U) (bt U a) (bt U b) = agg at *
  generalize pAg (pSeem (fun j => hI h 58 (7 + j)) n ka a U) (pSeem (fun j => hI h 58 (7 + j)) n kb b U) true true = ag at *
  generalize bt U a = ua at *
  generalize bt U b = ub at *
  cases ua <;> cases ub <;> cases ag
  · have va : nEv sc (d + 4) 149 [sI (U : Int), sI (a : Int)] h (some (sI 0), h) := va
    have vb : nEv sc (d + 4) 149 [sI (U : Int), sI (b : Int)] h (some (sI 0), h) := vb
    have ev : nEv sc (d + 4) 171 [.ref 53, sI (a : Int), sI (b : Int), sI (U : Int)] h (some (sI 0), h) := ev
    show nRn sc (d + 4) (mMT mMe170) (mMC mMe170) (0, [some (.ref 53), some (sI ((a : Int))), some (sI ((b : Int)))], [], h) _
    refine sP 2 (g1 := (2, [some (.ref 53), some (sI ((a : Int))), some (sI ((b : Int)))], [sI ((b : Int)), sI ((a : Int))], h)) rfl ?_
    refine s_icmp (q := .eq) (a := (a : Int)) (b := (b : Int)) rfl ⟨_, rfl⟩ rfl (by unfold sR aMi aMa; omega) (by unfold sR aMi aMa; omega) (fun hc1 => ?_) (fun hc1 => ?_)
    · have hc1 : (((a : Int)) : Int) = ((b : Int)) := hc1
      refine sP 1 (g1 := (40, [some (.ref 53), some (sI ((a : Int))), some (sI ((b : Int)))], [sI 0], h)) rfl ?_
      exact s_reti rfl rfl (Or.inr ⟨rfl, by omega⟩) (by first | rw [if_neg (fun q => (pMay_iff.mp q).1 (by omega))] | rw [if_neg (fun q => absurd (pMay_iff.mp q).2.1 (by rw [decide_eq_true (by omega)]; decide))] | rw [if_neg (fun q => absurd (hq.mp (pMay_iff.mp q).2.2) (by decide))] | rw [if_pos (pMay_iff.mpr ⟨by omega, decide_eq_false (by omega), hq.mpr (by decide)⟩)]) rfl
    · have hc1 : ¬ ((((a : Int)) : Int) = ((b : Int))) := hc1
      refine sP 1 (g1 := (4, [some (.ref 53), some (sI ((a : Int))), some (sI ((b : Int)))], [.ref 53], h)) rfl ?_
      refine s_get (a := 53) (j := 4) hh rfl ⟨_, rfl⟩ rfl rfl rfl (v := .ref 58) (hR_ok hh (by decide +kernel)) ?_
      refine sP 3 (g1 := (8, [some (.ref 53), some (sI ((a : Int))), some (sI ((b : Int)))], [sI ((a : Int)), sI 6, sI 44, .ref 58], h)) rfl ?_
      refine s_mul (a := 6) (b := (a : Int)) rfl rfl ?_
      refine s_add (a := 44) (b := 6 * ((a : Int))) rfl rfl ?_
      refine sP 1 (g1 := (11, [some (.ref 53), some (sI ((a : Int))), some (sI ((b : Int)))], [sI ((b : Int)), sI (44 + (6 * ((a : Int)))), .ref 58], h)) rfl ?_
      refine s_add (a := 44 + (6 * ((a : Int)))) (b := (b : Int)) rfl rfl ?_
      refine s_iald (a := 58) (n := 201) (j := (44 + (6 * ((a : Int)))) + ((b : Int))) hh rfl rfl rfl (by omega) (by omega) (by decide) (v := sI (hI h 58 (44 + (6 * a + b)))) (by rw [show ((44 + (6 * ((a : Int)))) + ((b : Int)) : Int).toNat = 44 + (6 * a + b) by omega]; exact hI_ok hh (nw_t (by omega))) ?_
      refine s_ifc (q := .ne) (a := hI h 58 (44 + (6 * a + b))) rfl ⟨_, rfl⟩ rfl (by unfold sR aMi aMa; omega) (fun hc2 => ?_) (fun hc2 => ?_)
      · have hc2 : ((hI h 58 (44 + (6 * a + b))) : Int) ≠ 0 := hc2
        refine sP 1 (g1 := (40, [some (.ref 53), some (sI ((a : Int))), some (sI ((b : Int)))], [sI 0], h)) rfl ?_
        exact s_reti rfl rfl (Or.inr ⟨rfl, by omega⟩) (by first | rw [if_neg (fun q => (pMay_iff.mp q).1 (by omega))] | rw [if_neg (fun q => absurd (pMay_iff.mp q).2.1 (by rw [decide_eq_true (by omega)]; decide))] | rw [if_neg (fun q => absurd (hq.mp (pMay_iff.mp q).2.2) (by decide))] | rw [if_pos (pMay_iff.mpr ⟨by omega, decide_eq_false (by omega), hq.mpr (by decide)⟩)]) rfl
      · have hc2 : ¬ (((hI h 58 (44 + (6 * a + b))) : Int) ≠ 0) := hc2
        refine sP 1 (g1 := (15, [some (.ref 53), some (sI ((a : Int))), some (sI ((b : Int)))], [.ref 53], h)) rfl ?_
        refine s_get (a := 53) (j := 4) hh rfl ⟨_, rfl⟩ rfl rfl rfl (v := .ref 58) (hR_ok hh (by decide +kernel)) ?_
        refine sP 1 (g1 := (17, [some (.ref 53), some (sI ((a : Int))), some (sI ((b : Int)))], [sI 43, .ref 58], h)) rfl ?_
        refine s_iald (a := 58) (n := 201) (j := 43) hh rfl rfl rfl (by omega) (by omega) (by decide) (v := sI ((U : Int))) (by have q := hI_ok hh nw_u; rw [hU] at q; exact q) ?_
        refine sP 1 (g1 := (19, [some (.ref 53), some (sI ((a : Int))), some (sI ((b : Int)))], [sI ((a : Int)), sI ((U : Int))], h)) rfl ?_
        refine s_call (k := 149) (args := [sI ((U : Int)), sI ((a : Int))]) (st := []) (v := some (sI 0)) (h1 := h) rfl ⟨rfl, rfl⟩ rfl rfl rfl rfl rfl rfl va ?_
        refine s_ifc (q := .eq) (a := 0) rfl ⟨_, rfl⟩ rfl (by unfold sR aMi aMa; omega) (fun hc3 => ?_) (fun hc3 => ?_)
        · have hc3 : (0 : Int) = 0 := hc3
          refine sP 1 (g1 := (40, [some (.ref 53), some (sI ((a : Int))), some (sI ((b : Int)))], [sI 0], h)) rfl ?_
          exact s_reti rfl rfl (Or.inr ⟨rfl, by omega⟩) (by first | rw [if_neg (fun q => (pMay_iff.mp q).1 (by omega))] | rw [if_neg (fun q => absurd (pMay_iff.mp q).2.1 (by rw [decide_eq_true (by omega)]; decide))] | rw [if_neg (fun q => absurd (hq.mp (pMay_iff.mp q).2.2) (by decide))] | rw [if_pos (pMay_iff.mpr ⟨by omega, decide_eq_false (by omega), hq.mpr (by decide)⟩)]) rfl
        · have hc3 : ¬ ((0 : Int) = 0) := hc3
          omega
  · have va : nEv sc (d + 4) 149 [sI (U : Int), sI (a : Int)] h (some (sI 0), h) := va
    have vb : nEv sc (d + 4) 149 [sI (U : Int), sI (b : Int)] h (some (sI 0), h) := vb
    have ev : nEv sc (d + 4) 171 [.ref 53, sI (a : Int), sI (b : Int), sI (U : Int)] h (some (sI 1), h) := ev
    show nRn sc (d + 4) (mMT mMe170) (mMC mMe170) (0, [some (.ref 53), some (sI ((a : Int))), some (sI ((b : Int)))], [], h) _
    refine sP 2 (g1 := (2, [some (.ref 53), some (sI ((a : Int))), some (sI ((b : Int)))], [sI ((b : Int)), sI ((a : Int))], h)) rfl ?_
    refine s_icmp (q := .eq) (a := (a : Int)) (b := (b : Int)) rfl ⟨_, rfl⟩ rfl (by unfold sR aMi aMa; omega) (by unfold sR aMi aMa; omega) (fun hc1 => ?_) (fun hc1 => ?_)
    · have hc1 : (((a : Int)) : Int) = ((b : Int)) := hc1
      refine sP 1 (g1 := (40, [some (.ref 53), some (sI ((a : Int))), some (sI ((b : Int)))], [sI 0], h)) rfl ?_
      exact s_reti rfl rfl (Or.inr ⟨rfl, by omega⟩) (by first | rw [if_neg (fun q => (pMay_iff.mp q).1 (by omega))] | rw [if_neg (fun q => absurd (pMay_iff.mp q).2.1 (by rw [decide_eq_true (by omega)]; decide))] | rw [if_neg (fun q => absurd (hq.mp (pMay_iff.mp q).2.2) (by decide))] | rw [if_pos (pMay_iff.mpr ⟨by omega, decide_eq_false (by omega), hq.mpr (by decide)⟩)]) rfl
    · have hc1 : ¬ ((((a : Int)) : Int) = ((b : Int))) := hc1
      refine sP 1 (g1 := (4, [some (.ref 53), some (sI ((a : Int))), some (sI ((b : Int)))], [.ref 53], h)) rfl ?_
      refine s_get (a := 53) (j := 4) hh rfl ⟨_, rfl⟩ rfl rfl rfl (v := .ref 58) (hR_ok hh (by decide +kernel)) ?_
      refine sP 3 (g1 := (8, [some (.ref 53), some (sI ((a : Int))), some (sI ((b : Int)))], [sI ((a : Int)), sI 6, sI 44, .ref 58], h)) rfl ?_
      refine s_mul (a := 6) (b := (a : Int)) rfl rfl ?_
      refine s_add (a := 44) (b := 6 * ((a : Int))) rfl rfl ?_
      refine sP 1 (g1 := (11, [some (.ref 53), some (sI ((a : Int))), some (sI ((b : Int)))], [sI ((b : Int)), sI (44 + (6 * ((a : Int)))), .ref 58], h)) rfl ?_
      refine s_add (a := 44 + (6 * ((a : Int)))) (b := (b : Int)) rfl rfl ?_
      refine s_iald (a := 58) (n := 201) (j := (44 + (6 * ((a : Int)))) + ((b : Int))) hh rfl rfl rfl (by omega) (by omega) (by decide) (v := sI (hI h 58 (44 + (6 * a + b)))) (by rw [show ((44 + (6 * ((a : Int)))) + ((b : Int)) : Int).toNat = 44 + (6 * a + b) by omega]; exact hI_ok hh (nw_t (by omega))) ?_
      refine s_ifc (q := .ne) (a := hI h 58 (44 + (6 * a + b))) rfl ⟨_, rfl⟩ rfl (by unfold sR aMi aMa; omega) (fun hc2 => ?_) (fun hc2 => ?_)
      · have hc2 : ((hI h 58 (44 + (6 * a + b))) : Int) ≠ 0 := hc2
        refine sP 1 (g1 := (40, [some (.ref 53), some (sI ((a : Int))), some (sI ((b : Int)))], [sI 0], h)) rfl ?_
        exact s_reti rfl rfl (Or.inr ⟨rfl, by omega⟩) (by first | rw [if_neg (fun q => (pMay_iff.mp q).1 (by omega))] | rw [if_neg (fun q => absurd (pMay_iff.mp q).2.1 (by rw [decide_eq_true (by omega)]; decide))] | rw [if_neg (fun q => absurd (hq.mp (pMay_iff.mp q).2.2) (by decide))] | rw [if_pos (pMay_iff.mpr ⟨by omega, decide_eq_false (by omega), hq.mpr (by decide)⟩)]) rfl
      · have hc2 : ¬ (((hI h 58 (44 + (6 * a + b))) : Int) ≠ 0) := hc2
        refine sP 1 (g1 := (15, [some (.ref 53), some (sI ((a : Int))), some (sI ((b : Int)))], [.ref 53], h)) rfl ?_
        refine s_get (a := 53) (j := 4) hh rfl ⟨_, rfl⟩ rfl rfl rfl (v := .ref 58) (hR_ok hh (by decide +kernel)) ?_
        refine sP 1 (g1 := (17, [some (.ref 53), some (sI ((a : Int))), some (sI ((b : Int)))], [sI 43, .ref 58], h)) rfl ?_
        refine s_iald (a := 58) (n := 201) (j := 43) hh rfl rfl rfl (by omega) (by omega) (by decide) (v := sI ((U : Int))) (by have q := hI_ok hh nw_u; rw [hU] at q; exact q) ?_
        refine sP 1 (g1 := (19, [some (.ref 53), some (sI ((a : Int))), some (sI ((b : Int)))], [sI ((a : Int)), sI ((U : Int))], h)) rfl ?_
        refine s_call (k := 149) (args := [sI ((U : Int)), sI ((a : Int))]) (st := []) (v := some (sI 0)) (h1 := h) rfl ⟨rfl, rfl⟩ rfl rfl rfl rfl rfl rfl va ?_
        refine s_ifc (q := .eq) (a := 0) rfl ⟨_, rfl⟩ rfl (by unfold sR aMi aMa; omega) (fun hc3 => ?_) (fun hc3 => ?_)
        · have hc3 : (0 : Int) = 0 := hc3
          refine sP 1 (g1 := (40, [some (.ref 53), some (sI ((a : Int))), some (sI ((b : Int)))], [sI 0], h)) rfl ?_
          exact s_reti rfl rfl (Or.inr ⟨rfl, by omega⟩) (by first | rw [if_neg (fun q => (pMay_iff.mp q).1 (by omega))] | rw [if_neg (fun q => absurd (pMay_iff.mp q).2.1 (by rw [decide_eq_true (by omega)]; decide))] | rw [if_neg (fun q => absurd (hq.mp (pMay_iff.mp q).2.2) (by decide))] | rw [if_pos (pMay_iff.mpr ⟨by omega, decide_eq_false (by omega), hq.mpr (by decide)⟩)]) rfl
        · have hc3 : ¬ ((0 : Int) = 0) := hc3
          omega
  · have va : nEv sc (d + 4) 149 [sI (U : Int), sI (a : Int)] h (some (sI 0), h) := va
    have vb : nEv sc (d + 4) 149 [sI (U : Int), sI (b : Int)] h (some (sI 1), h) := vb
    have ev : nEv sc (d + 4) 171 [.ref 53, sI (a : Int), sI (b : Int), sI (U : Int)] h (some (sI 0), h) := ev
    show nRn sc (d + 4) (mMT mMe170) (mMC mMe170) (0, [some (.ref 53), some (sI ((a : Int))), some (sI ((b : Int)))], [], h) _
    refine sP 2 (g1 := (2, [some (.ref 53), some (sI ((a : Int))), some (sI ((b : Int)))], [sI ((b : Int)), sI ((a : Int))], h)) rfl ?_
    refine s_icmp (q := .eq) (a := (a : Int)) (b := (b : Int)) rfl ⟨_, rfl⟩ rfl (by unfold sR aMi aMa; omega) (by unfold sR aMi aMa; omega) (fun hc1 => ?_) (fun hc1 => ?_)
    · have hc1 : (((a : Int)) : Int) = ((b : Int)) := hc1
      refine sP 1 (g1 := (40, [some (.ref 53), some (sI ((a : Int))), some (sI ((b : Int)))], [sI 0], h)) rfl ?_
      exact s_reti rfl rfl (Or.inr ⟨rfl, by omega⟩) (by first | rw [if_neg (fun q => (pMay_iff.mp q).1 (by omega))] | rw [if_neg (fun q => absurd (pMay_iff.mp q).2.1 (by rw [decide_eq_true (by omega)]; decide))] | rw [if_neg (fun q => absurd (hq.mp (pMay_iff.mp q).2.2) (by decide))] | rw [if_pos (pMay_iff.mpr ⟨by omega, decide_eq_false (by omega), hq.mpr (by decide)⟩)]) rfl
    · have hc1 : ¬ ((((a : Int)) : Int) = ((b : Int))) := hc1
      refine sP 1 (g1 := (4, [some (.ref 53), some (sI ((a : Int))), some (sI ((b : Int)))], [.ref 53], h)) rfl ?_
      refine s_get (a := 53) (j := 4) hh rfl ⟨_, rfl⟩ rfl rfl rfl (v := .ref 58) (hR_ok hh (by decide +kernel)) ?_
      refine sP 3 (g1 := (8, [some (.ref 53), some (sI ((a : Int))), some (sI ((b : Int)))], [sI ((a : Int)), sI 6, sI 44, .ref 58], h)) rfl ?_
      refine s_mul (a := 6) (b := (a : Int)) rfl rfl ?_
      refine s_add (a := 44) (b := 6 * ((a : Int))) rfl rfl ?_
      refine sP 1 (g1 := (11, [some (.ref 53), some (sI ((a : Int))), some (sI ((b : Int)))], [sI ((b : Int)), sI (44 + (6 * ((a : Int)))), .ref 58], h)) rfl ?_
      refine s_add (a := 44 + (6 * ((a : Int)))) (b := (b : Int)) rfl rfl ?_
      refine s_iald (a := 58) (n := 201) (j := (44 + (6 * ((a : Int)))) + ((b : Int))) hh rfl rfl rfl (by omega) (by omega) (by decide) (v := sI (hI h 58 (44 + (6 * a + b)))) (by rw [show ((44 + (6 * ((a : Int)))) + ((b : Int)) : Int).toNat = 44 + (6 * a + b) by omega]; exact hI_ok hh (nw_t (by omega))) ?_
      refine s_ifc (q := .ne) (a := hI h 58 (44 + (6 * a + b))) rfl ⟨_, rfl⟩ rfl (by unfold sR aMi aMa; omega) (fun hc2 => ?_) (fun hc2 => ?_)
      · have hc2 : ((hI h 58 (44 + (6 * a + b))) : Int) ≠ 0 := hc2
        refine sP 1 (g1 := (40, [some (.ref 53), some (sI ((a : Int))), some (sI ((b : Int)))], [sI 0], h)) rfl ?_
        exact s_reti rfl rfl (Or.inr ⟨rfl, by omega⟩) (by first | rw [if_neg (fun q => (pMay_iff.mp q).1 (by omega))] | rw [if_neg (fun q => absurd (pMay_iff.mp q).2.1 (by rw [decide_eq_true (by omega)]; decide))] | rw [if_neg (fun q => absurd (hq.mp (pMay_iff.mp q).2.2) (by decide))] | rw [if_pos (pMay_iff.mpr ⟨by omega, decide_eq_false (by omega), hq.mpr (by decide)⟩)]) rfl
      · have hc2 : ¬ (((hI h 58 (44 + (6 * a + b))) : Int) ≠ 0) := hc2
        refine sP 1 (g1 := (15, [some (.ref 53), some (sI ((a : Int))), some (sI ((b : Int)))], [.ref 53], h)) rfl ?_
        refine s_get (a := 53) (j := 4) hh rfl ⟨_, rfl⟩ rfl rfl rfl (v := .ref 58) (hR_ok hh (by decide +kernel)) ?_
        refine sP 1 (g1 := (17, [some (.ref 53), some (sI ((a : Int))), some (sI ((b : Int)))], [sI 43, .ref 58], h)) rfl ?_
        refine s_iald (a := 58) (n := 201) (j := 43) hh rfl rfl rfl (by omega) (by omega) (by decide) (v := sI ((U : Int))) (by have q := hI_ok hh nw_u; rw [hU] at q; exact q) ?_
        refine sP 1 (g1 := (19, [some (.ref 53), some (sI ((a : Int))), some (sI ((b : Int)))], [sI ((a : Int)), sI ((U : Int))], h)) rfl ?_
        refine s_call (k := 149) (args := [sI ((U : Int)), sI ((a : Int))]) (st := []) (v := some (sI 0)) (h1 := h) rfl ⟨rfl, rfl⟩ rfl rfl rfl rfl rfl rfl va ?_
        refine s_ifc (q := .eq) (a := 0) rfl ⟨_, rfl⟩ rfl (by unfold sR aMi aMa; omega) (fun hc3 => ?_) (fun hc3 => ?_)
        · have hc3 : (0 : Int) = 0 := hc3
          refine sP 1 (g1 := (40, [some (.ref 53), some (sI ((a : Int))), some (sI ((b : Int)))], [sI 0], h)) rfl ?_
          exact s_reti rfl rfl (Or.inr ⟨rfl, by omega⟩) (by first | rw [if_neg (fun q => (pMay_iff.mp q).1 (by omega))] | rw [if_neg (fun q => absurd (pMay_iff.mp q).2.1 (by rw [decide_eq_true (by omega)]; decide))] | rw [if_neg (fun q => absurd (hq.mp (pMay_iff.mp q).2.2) (by decide))] | rw [if_pos (pMay_iff.mpr ⟨by omega, decide_eq_false (by omega), hq.mpr (by decide)⟩)]) rfl
        · have hc3 : ¬ ((0 : Int) = 0) := hc3
          omega
  · have va : nEv sc (d + 4) 149 [sI (U : Int), sI (a : Int)] h (some (sI 0), h) := va
    have vb : nEv sc (d + 4) 149 [sI (U : Int), sI (b : Int)] h (some (sI 1), h) := vb
    have ev : nEv sc (d + 4) 171 [.ref 53, sI (a : Int), sI (b : Int), sI (U : Int)] h (some (sI 1), h) := ev
    show nRn sc (d + 4) (mMT mMe170) (mMC mMe170) (0, [some (.ref 53), some (sI ((a : Int))), some (sI ((b : Int)))], [], h) _
    refine sP 2 (g1 := (2, [some (.ref 53), some (sI ((a : Int))), some (sI ((b : Int)))], [sI ((b : Int)), sI ((a : Int))], h)) rfl ?_
    refine s_icmp (q := .eq) (a := (a : Int)) (b := (b : Int)) rfl ⟨_, rfl⟩ rfl (by unfold sR aMi aMa; omega) (by unfold sR aMi aMa; omega) (fun hc1 => ?_) (fun hc1 => ?_)
    · have hc1 : (((a : Int)) : Int) = ((b : Int)) := hc1
      refine sP 1 (g1 := (40, [some (.ref 53), some (sI ((a : Int))), some (sI ((b : Int)))], [sI 0], h)) rfl ?_
      exact s_reti rfl rfl (Or.inr ⟨rfl, by omega⟩) (by first | rw [if_neg (fun q => (pMay_iff.mp q).1 (by omega))] | rw [if_neg (fun q => absurd (pMay_iff.mp q).2.1 (by rw [decide_eq_true (by omega)]; decide))] | rw [if_neg (fun q => absurd (hq.mp (pMay_iff.mp q).2.2) (by decide))] | rw [if_pos (pMay_iff.mpr ⟨by omega, decide_eq_false (by omega), hq.mpr (by decide)⟩)]) rfl
    · have hc1 : ¬ ((((a : Int)) : Int) = ((b : Int))) := hc1
      refine sP 1 (g1 := (4, [some (.ref 53), some (sI ((a : Int))), some (sI ((b : Int)))], [.ref 53], h)) rfl ?_
      refine s_get (a := 53) (j := 4) hh rfl ⟨_, rfl⟩ rfl rfl rfl (v := .ref 58) (hR_ok hh (by decide +kernel)) ?_
      refine sP 3 (g1 := (8, [some (.ref 53), some (sI ((a : Int))), some (sI ((b : Int)))], [sI ((a : Int)), sI 6, sI 44, .ref 58], h)) rfl ?_
      refine s_mul (a := 6) (b := (a : Int)) rfl rfl ?_
      refine s_add (a := 44) (b := 6 * ((a : Int))) rfl rfl ?_
      refine sP 1 (g1 := (11, [some (.ref 53), some (sI ((a : Int))), some (sI ((b : Int)))], [sI ((b : Int)), sI (44 + (6 * ((a : Int)))), .ref 58], h)) rfl ?_
      refine s_add (a := 44 + (6 * ((a : Int)))) (b := (b : Int)) rfl rfl ?_
      refine s_iald (a := 58) (n := 201) (j := (44 + (6 * ((a : Int)))) + ((b : Int))) hh rfl rfl rfl (by omega) (by omega) (by decide) (v := sI (hI h 58 (44 + (6 * a + b)))) (by rw [show ((44 + (6 * ((a : Int)))) + ((b : Int)) : Int).toNat = 44 + (6 * a + b) by omega]; exact hI_ok hh (nw_t (by omega))) ?_
      refine s_ifc (q := .ne) (a := hI h 58 (44 + (6 * a + b))) rfl ⟨_, rfl⟩ rfl (by unfold sR aMi aMa; omega) (fun hc2 => ?_) (fun hc2 => ?_)
      · have hc2 : ((hI h 58 (44 + (6 * a + b))) : Int) ≠ 0 := hc2
        refine sP 1 (g1 := (40, [some (.ref 53), some (sI ((a : Int))), some (sI ((b : Int)))], [sI 0], h)) rfl ?_
        exact s_reti rfl rfl (Or.inr ⟨rfl, by omega⟩) (by first | rw [if_neg (fun q => (pMay_iff.mp q).1 (by omega))] | rw [if_neg (fun q => absurd (pMay_iff.mp q).2.1 (by rw [decide_eq_true (by omega)]; decide))] | rw [if_neg (fun q => absurd (hq.mp (pMay_iff.mp q).2.2) (by decide))] | rw [if_pos (pMay_iff.mpr ⟨by omega, decide_eq_false (by omega), hq.mpr (by decide)⟩)]) rfl
      · have hc2 : ¬ (((hI h 58 (44 + (6 * a + b))) : Int) ≠ 0) := hc2
        refine sP 1 (g1 := (15, [some (.ref 53), some (sI ((a : Int))), some (sI ((b : Int)))], [.ref 53], h)) rfl ?_
        refine s_get (a := 53) (j := 4) hh rfl ⟨_, rfl⟩ rfl rfl rfl (v := .ref 58) (hR_ok hh (by decide +kernel)) ?_
        refine sP 1 (g1 := (17, [some (.ref 53), some (sI ((a : Int))), some (sI ((b : Int)))], [sI 43, .ref 58], h)) rfl ?_
        refine s_iald (a := 58) (n := 201) (j := 43) hh rfl rfl rfl (by omega) (by omega) (by decide) (v := sI ((U : Int))) (by have q := hI_ok hh nw_u; rw [hU] at q; exact q) ?_
        refine sP 1 (g1 := (19, [some (.ref 53), some (sI ((a : Int))), some (sI ((b : Int)))], [sI ((a : Int)), sI ((U : Int))], h)) rfl ?_
        refine s_call (k := 149) (args := [sI ((U : Int)), sI ((a : Int))]) (st := []) (v := some (sI 0)) (h1 := h) rfl ⟨rfl, rfl⟩ rfl rfl rfl rfl rfl rfl va ?_
        refine s_ifc (q := .eq) (a := 0) rfl ⟨_, rfl⟩ rfl (by unfold sR aMi aMa; omega) (fun hc3 => ?_) (fun hc3 => ?_)
        · have hc3 : (0 : Int) = 0 := hc3
          refine sP 1 (g1 := (40, [some (.ref 53), some (sI ((a : Int))), some (sI ((b : Int)))], [sI 0], h)) rfl ?_
          exact s_reti rfl rfl (Or.inr ⟨rfl, by omega⟩) (by first | rw [if_neg (fun q => (pMay_iff.mp q).1 (by omega))] | rw [if_neg (fun q => absurd (pMay_iff.mp q).2.1 (by rw [decide_eq_true (by omega)]; decide))] | rw [if_neg (fun q => absurd (hq.mp (pMay_iff.mp q).2.2) (by decide))] | rw [if_pos (pMay_iff.mpr ⟨by omega, decide_eq_false (by omega), hq.mpr (by decide)⟩)]) rfl
        · have hc3 : ¬ ((0 : Int) = 0) := hc3
          omega
  · have va : nEv sc (d + 4) 149 [sI (U : Int), sI (a : Int)] h (some (sI 1), h) := va
    have vb : nEv sc (d + 4) 149 [sI (U : Int), sI (b : Int)] h (some (sI 0), h) := vb
    have ev : nEv sc (d + 4) 171 [.ref 53, sI (a : Int), sI (b : Int), sI (U : Int)] h (some (sI 0), h) := ev
    show nRn sc (d + 4) (mMT mMe170) (mMC mMe170) (0, [some (.ref 53), some (sI ((a : Int))), some (sI ((b : Int)))], [], h) _
    refine sP 2 (g1 := (2, [some (.ref 53), some (sI ((a : Int))), some (sI ((b : Int)))], [sI ((b : Int)), sI ((a : Int))], h)) rfl ?_
    refine s_icmp (q := .eq) (a := (a : Int)) (b := (b : Int)) rfl ⟨_, rfl⟩ rfl (by unfold sR aMi aMa; omega) (by unfold sR aMi aMa; omega) (fun hc1 => ?_) (fun hc1 => ?_)
    · have hc1 : (((a : Int)) : Int) = ((b : Int)) := hc1
      refine sP 1 (g1 := (40, [some (.ref 53), some (sI ((a : Int))), some (sI ((b : Int)))], [sI 0], h)) rfl ?_
      exact s_reti rfl rfl (Or.inr ⟨rfl, by omega⟩) (by first | rw [if_neg (fun q => (pMay_iff.mp q).1 (by omega))] | rw [if_neg (fun q => absurd (pMay_iff.mp q).2.1 (by rw [decide_eq_true (by omega)]; decide))] | rw [if_neg (fun q => absurd (hq.mp (pMay_iff.mp q).2.2) (by decide))] | rw [if_pos (pMay_iff.mpr ⟨by omega, decide_eq_false (by omega), hq.mpr (by decide)⟩)]) rfl
    · have hc1 : ¬ ((((a : Int)) : Int) = ((b : Int))) := hc1
      refine sP 1 (g1 := (4, [some (.ref 53), some (sI ((a : Int))), some (sI ((b : Int)))], [.ref 53], h)) rfl ?_
      refine s_get (a := 53) (j := 4) hh rfl ⟨_, rfl⟩ rfl rfl rfl (v := .ref 58) (hR_ok hh (by decide +kernel)) ?_
      refine sP 3 (g1 := (8, [some (.ref 53), some (sI ((a : Int))), some (sI ((b : Int)))], [sI ((a : Int)), sI 6, sI 44, .ref 58], h)) rfl ?_
      refine s_mul (a := 6) (b := (a : Int)) rfl rfl ?_
      refine s_add (a := 44) (b := 6 * ((a : Int))) rfl rfl ?_
      refine sP 1 (g1 := (11, [some (.ref 53), some (sI ((a : Int))), some (sI ((b : Int)))], [sI ((b : Int)), sI (44 + (6 * ((a : Int)))), .ref 58], h)) rfl ?_
      refine s_add (a := 44 + (6 * ((a : Int)))) (b := (b : Int)) rfl rfl ?_
      refine s_iald (a := 58) (n := 201) (j := (44 + (6 * ((a : Int)))) + ((b : Int))) hh rfl rfl rfl (by omega) (by omega) (by decide) (v := sI (hI h 58 (44 + (6 * a + b)))) (by rw [show ((44 + (6 * ((a : Int)))) + ((b : Int)) : Int).toNat = 44 + (6 * a + b) by omega]; exact hI_ok hh (nw_t (by omega))) ?_
      refine s_ifc (q := .ne) (a := hI h 58 (44 + (6 * a + b))) rfl ⟨_, rfl⟩ rfl (by unfold sR aMi aMa; omega) (fun hc2 => ?_) (fun hc2 => ?_)
      · have hc2 : ((hI h 58 (44 + (6 * a + b))) : Int) ≠ 0 := hc2
        refine sP 1 (g1 := (40, [some (.ref 53), some (sI ((a : Int))), some (sI ((b : Int)))], [sI 0], h)) rfl ?_
        exact s_reti rfl rfl (Or.inr ⟨rfl, by omega⟩) (by first | rw [if_neg (fun q => (pMay_iff.mp q).1 (by omega))] | rw [if_neg (fun q => absurd (pMay_iff.mp q).2.1 (by rw [decide_eq_true (by omega)]; decide))] | rw [if_neg (fun q => absurd (hq.mp (pMay_iff.mp q).2.2) (by decide))] | rw [if_pos (pMay_iff.mpr ⟨by omega, decide_eq_false (by omega), hq.mpr (by decide)⟩)]) rfl
      · have hc2 : ¬ (((hI h 58 (44 + (6 * a + b))) : Int) ≠ 0) := hc2
        refine sP 1 (g1 := (15, [some (.ref 53), some (sI ((a : Int))), some (sI ((b : Int)))], [.ref 53], h)) rfl ?_
        refine s_get (a := 53) (j := 4) hh rfl ⟨_, rfl⟩ rfl rfl rfl (v := .ref 58) (hR_ok hh (by decide +kernel)) ?_
        refine sP 1 (g1 := (17, [some (.ref 53), some (sI ((a : Int))), some (sI ((b : Int)))], [sI 43, .ref 58], h)) rfl ?_
        refine s_iald (a := 58) (n := 201) (j := 43) hh rfl rfl rfl (by omega) (by omega) (by decide) (v := sI ((U : Int))) (by have q := hI_ok hh nw_u; rw [hU] at q; exact q) ?_
        refine sP 1 (g1 := (19, [some (.ref 53), some (sI ((a : Int))), some (sI ((b : Int)))], [sI ((a : Int)), sI ((U : Int))], h)) rfl ?_
        refine s_call (k := 149) (args := [sI ((U : Int)), sI ((a : Int))]) (st := []) (v := some (sI 1)) (h1 := h) rfl ⟨rfl, rfl⟩ rfl rfl rfl rfl rfl rfl va ?_
        refine s_ifc (q := .eq) (a := 1) rfl ⟨_, rfl⟩ rfl (by unfold sR aMi aMa; omega) (fun hc3 => ?_) (fun hc3 => ?_)
        · have hc3 : (1 : Int) = 0 := hc3
          omega
        · have hc3 : ¬ ((1 : Int) = 0) := hc3
          refine sP 1 (g1 := (22, [some (.ref 53), some (sI ((a : Int))), some (sI ((b : Int)))], [.ref 53], h)) rfl ?_
          refine s_get (a := 53) (j := 4) hh rfl ⟨_, rfl⟩ rfl rfl rfl (v := .ref 58) (hR_ok hh (by decide +kernel)) ?_
          refine sP 1 (g1 := (24, [some (.ref 53), some (sI ((a : Int))), some (sI ((b : Int)))], [sI 43, .ref 58], h)) rfl ?_
          refine s_iald (a := 58) (n := 201) (j := 43) hh rfl rfl rfl (by omega) (by omega) (by decide) (v := sI ((U : Int))) (by have q := hI_ok hh nw_u; rw [hU] at q; exact q) ?_
          refine sP 1 (g1 := (26, [some (.ref 53), some (sI ((a : Int))), some (sI ((b : Int)))], [sI ((b : Int)), sI ((U : Int))], h)) rfl ?_
          refine s_call (k := 149) (args := [sI ((U : Int)), sI ((b : Int))]) (st := []) (v := some (sI 0)) (h1 := h) rfl ⟨rfl, rfl⟩ rfl rfl rfl rfl rfl rfl vb ?_
          refine s_ifc (q := .eq) (a := 0) rfl ⟨_, rfl⟩ rfl (by unfold sR aMi aMa; omega) (fun hc4 => ?_) (fun hc4 => ?_)
          · have hc4 : (0 : Int) = 0 := hc4
            refine sP 1 (g1 := (40, [some (.ref 53), some (sI ((a : Int))), some (sI ((b : Int)))], [sI 0], h)) rfl ?_
            exact s_reti rfl rfl (Or.inr ⟨rfl, by omega⟩) (by first | rw [if_neg (fun q => (pMay_iff.mp q).1 (by omega))] | rw [if_neg (fun q => absurd (pMay_iff.mp q).2.1 (by rw [decide_eq_true (by omega)]; decide))] | rw [if_neg (fun q => absurd (hq.mp (pMay_iff.mp q).2.2) (by decide))] | rw [if_pos (pMay_iff.mpr ⟨by omega, decide_eq_false (by omega), hq.mpr (by decide)⟩)]) rfl
          · have hc4 : ¬ ((0 : Int) = 0) := hc4
            omega
  · have va : nEv sc (d + 4) 149 [sI (U : Int), sI (a : Int)] h (some (sI 1), h) := va
    have vb : nEv sc (d + 4) 149 [sI (U : Int), sI (b : Int)] h (some (sI 0), h) := vb
    have ev : nEv sc (d + 4) 171 [.ref 53, sI (a : Int), sI (b : Int), sI (U : Int)] h (some (sI 1), h) := ev
    show nRn sc (d + 4) (mMT mMe170) (mMC mMe170) (0, [some (.ref 53), some (sI ((a : Int))), some (sI ((b : Int)))], [], h) _
    refine sP 2 (g1 := (2, [some (.ref 53), some (sI ((a : Int))), some (sI ((b : Int)))], [sI ((b : Int)), sI ((a : Int))], h)) rfl ?_
    refine s_icmp (q := .eq) (a := (a : Int)) (b := (b : Int)) rfl ⟨_, rfl⟩ rfl (by unfold sR aMi aMa; omega) (by unfold sR aMi aMa; omega) (fun hc1 => ?_) (fun hc1 => ?_)
    · have hc1 : (((a : Int)) : Int) = ((b : Int)) := hc1
      refine sP 1 (g1 := (40, [some (.ref 53), some (sI ((a : Int))), some (sI ((b : Int)))], [sI 0], h)) rfl ?_
      exact s_reti rfl rfl (Or.inr ⟨rfl, by omega⟩) (by first | rw [if_neg (fun q => (pMay_iff.mp q).1 (by omega))] | rw [if_neg (fun q => absurd (pMay_iff.mp q).2.1 (by rw [decide_eq_true (by omega)]; decide))] | rw [if_neg (fun q => absurd (hq.mp (pMay_iff.mp q).2.2) (by decide))] | rw [if_pos (pMay_iff.mpr ⟨by omega, decide_eq_false (by omega), hq.mpr (by decide)⟩)]) rfl
    · have hc1 : ¬ ((((a : Int)) : Int) = ((b : Int))) := hc1
      refine sP 1 (g1 := (4, [some (.ref 53), some (sI ((a : Int))), some (sI ((b : Int)))], [.ref 53], h)) rfl ?_
      refine s_get (a := 53) (j := 4) hh rfl ⟨_, rfl⟩ rfl rfl rfl (v := .ref 58) (hR_ok hh (by decide +kernel)) ?_
      refine sP 3 (g1 := (8, [some (.ref 53), some (sI ((a : Int))), some (sI ((b : Int)))], [sI ((a : Int)), sI 6, sI 44, .ref 58], h)) rfl ?_
      refine s_mul (a := 6) (b := (a : Int)) rfl rfl ?_
      refine s_add (a := 44) (b := 6 * ((a : Int))) rfl rfl ?_
      refine sP 1 (g1 := (11, [some (.ref 53), some (sI ((a : Int))), some (sI ((b : Int)))], [sI ((b : Int)), sI (44 + (6 * ((a : Int)))), .ref 58], h)) rfl ?_
      refine s_add (a := 44 + (6 * ((a : Int)))) (b := (b : Int)) rfl rfl ?_
      refine s_iald (a := 58) (n := 201) (j := (44 + (6 * ((a : Int)))) + ((b : Int))) hh rfl rfl rfl (by omega) (by omega) (by decide) (v := sI (hI h 58 (44 + (6 * a + b)))) (by rw [show ((44 + (6 * ((a : Int)))) + ((b : Int)) : Int).toNat = 44 + (6 * a + b) by omega]; exact hI_ok hh (nw_t (by omega))) ?_
      refine s_ifc (q := .ne) (a := hI h 58 (44 + (6 * a + b))) rfl ⟨_, rfl⟩ rfl (by unfold sR aMi aMa; omega) (fun hc2 => ?_) (fun hc2 => ?_)
      · have hc2 : ((hI h 58 (44 + (6 * a + b))) : Int) ≠ 0 := hc2
        refine sP 1 (g1 := (40, [some (.ref 53), some (sI ((a : Int))), some (sI ((b : Int)))], [sI 0], h)) rfl ?_
        exact s_reti rfl rfl (Or.inr ⟨rfl, by omega⟩) (by first | rw [if_neg (fun q => (pMay_iff.mp q).1 (by omega))] | rw [if_neg (fun q => absurd (pMay_iff.mp q).2.1 (by rw [decide_eq_true (by omega)]; decide))] | rw [if_neg (fun q => absurd (hq.mp (pMay_iff.mp q).2.2) (by decide))] | rw [if_pos (pMay_iff.mpr ⟨by omega, decide_eq_false (by omega), hq.mpr (by decide)⟩)]) rfl
      · have hc2 : ¬ (((hI h 58 (44 + (6 * a + b))) : Int) ≠ 0) := hc2
        refine sP 1 (g1 := (15, [some (.ref 53), some (sI ((a : Int))), some (sI ((b : Int)))], [.ref 53], h)) rfl ?_
        refine s_get (a := 53) (j := 4) hh rfl ⟨_, rfl⟩ rfl rfl rfl (v := .ref 58) (hR_ok hh (by decide +kernel)) ?_
        refine sP 1 (g1 := (17, [some (.ref 53), some (sI ((a : Int))), some (sI ((b : Int)))], [sI 43, .ref 58], h)) rfl ?_
        refine s_iald (a := 58) (n := 201) (j := 43) hh rfl rfl rfl (by omega) (by omega) (by decide) (v := sI ((U : Int))) (by have q := hI_ok hh nw_u; rw [hU] at q; exact q) ?_
        refine sP 1 (g1 := (19, [some (.ref 53), some (sI ((a : Int))), some (sI ((b : Int)))], [sI ((a : Int)), sI ((U : Int))], h)) rfl ?_
        refine s_call (k := 149) (args := [sI ((U : Int)), sI ((a : Int))]) (st := []) (v := some (sI 1)) (h1 := h) rfl ⟨rfl, rfl⟩ rfl rfl rfl rfl rfl rfl va ?_
        refine s_ifc (q := .eq) (a := 1) rfl ⟨_, rfl⟩ rfl (by unfold sR aMi aMa; omega) (fun hc3 => ?_) (fun hc3 => ?_)
        · have hc3 : (1 : Int) = 0 := hc3
          omega
        · have hc3 : ¬ ((1 : Int) = 0) := hc3
          refine sP 1 (g1 := (22, [some (.ref 53), some (sI ((a : Int))), some (sI ((b : Int)))], [.ref 53], h)) rfl ?_
          refine s_get (a := 53) (j := 4) hh rfl ⟨_, rfl⟩ rfl rfl rfl (v := .ref 58) (hR_ok hh (by decide +kernel)) ?_
          refine sP 1 (g1 := (24, [some (.ref 53), some (sI ((a : Int))), some (sI ((b : Int)))], [sI 43, .ref 58], h)) rfl ?_
          refine s_iald (a := 58) (n := 201) (j := 43) hh rfl rfl rfl (by omega) (by omega) (by decide) (v := sI ((U : Int))) (by have q := hI_ok hh nw_u; rw [hU] at q; exact q) ?_
          refine sP 1 (g1 := (26, [some (.ref 53), some (sI ((a : Int))), some (sI ((b : Int)))], [sI ((b : Int)), sI ((U : Int))], h)) rfl ?_
          refine s_call (k := 149) (args := [sI ((U : Int)), sI ((b : Int))]) (st := []) (v := some (sI 0)) (h1 := h) rfl ⟨rfl, rfl⟩ rfl rfl rfl rfl rfl rfl vb ?_
          refine s_ifc (q := .eq) (a := 0) rfl ⟨_, rfl⟩ rfl (by unfold sR aMi aMa; omega) (fun hc4 => ?_) (fun hc4 => ?_)
          · have hc4 : (0 : Int) = 0 := hc4
            refine sP 1 (g1 := (40, [some (.ref 53), some (sI ((a : Int))), some (sI ((b : Int)))], [sI 0], h)) rfl ?_
            exact s_reti rfl rfl (Or.inr ⟨rfl, by omega⟩) (by first | rw [if_neg (fun q => (pMay_iff.mp q).1 (by omega))] | rw [if_neg (fun q => absurd (pMay_iff.mp q).2.1 (by rw [decide_eq_true (by omega)]; decide))] | rw [if_neg (fun q => absurd (hq.mp (pMay_iff.mp q).2.2) (by decide))] | rw [if_pos (pMay_iff.mpr ⟨by omega, decide_eq_false (by omega), hq.mpr (by decide)⟩)]) rfl
          · have hc4 : ¬ ((0 : Int) = 0) := hc4
            omega
  · have va : nEv sc (d + 4) 149 [sI (U : Int), sI (a : Int)] h (some (sI 1), h) := va
    have vb : nEv sc (d + 4) 149 [sI (U : Int), sI (b : Int)] h (some (sI 1), h) := vb
    have ev : nEv sc (d + 4) 171 [.ref 53, sI (a : Int), sI (b : Int), sI (U : Int)] h (some (sI 0), h) := ev
    show nRn sc (d + 4) (mMT mMe170) (mMC mMe170) (0, [some (.ref 53), some (sI ((a : Int))), some (sI ((b : Int)))], [], h) _
    refine sP 2 (g1 := (2, [some (.ref 53), some (sI ((a : Int))), some (sI ((b : Int)))], [sI ((b : Int)), sI ((a : Int))], h)) rfl ?_
    refine s_icmp (q := .eq) (a := (a : Int)) (b := (b : Int)) rfl ⟨_, rfl⟩ rfl (by unfold sR aMi aMa; omega) (by unfold sR aMi aMa; omega) (fun hc1 => ?_) (fun hc1 => ?_)
    · have hc1 : (((a : Int)) : Int) = ((b : Int)) := hc1
      refine sP 1 (g1 := (40, [some (.ref 53), some (sI ((a : Int))), some (sI ((b : Int)))], [sI 0], h)) rfl ?_
      exact s_reti rfl rfl (Or.inr ⟨rfl, by omega⟩) (by first | rw [if_neg (fun q => (pMay_iff.mp q).1 (by omega))] | rw [if_neg (fun q => absurd (pMay_iff.mp q).2.1 (by rw [decide_eq_true (by omega)]; decide))] | rw [if_neg (fun q => absurd (hq.mp (pMay_iff.mp q).2.2) (by decide))] | rw [if_pos (pMay_iff.mpr ⟨by omega, decide_eq_false (by omega), hq.mpr (by decide)⟩)]) rfl
    · have hc1 : ¬ ((((a : Int)) : Int) = ((b : Int))) := hc1
      refine sP 1 (g1 := (4, [some (.ref 53), some (sI ((a : Int))), some (sI ((b : Int)))], [.ref 53], h)) rfl ?_
      refine s_get (a := 53) (j := 4) hh rfl ⟨_, rfl⟩ rfl rfl rfl (v := .ref 58) (hR_ok hh (by decide +kernel)) ?_
      refine sP 3 (g1 := (8, [some (.ref 53), some (sI ((a : Int))), some (sI ((b : Int)))], [sI ((a : Int)), sI 6, sI 44, .ref 58], h)) rfl ?_
      refine s_mul (a := 6) (b := (a : Int)) rfl rfl ?_
      refine s_add (a := 44) (b := 6 * ((a : Int))) rfl rfl ?_
      refine sP 1 (g1 := (11, [some (.ref 53), some (sI ((a : Int))), some (sI ((b : Int)))], [sI ((b : Int)), sI (44 + (6 * ((a : Int)))), .ref 58], h)) rfl ?_
      refine s_add (a := 44 + (6 * ((a : Int)))) (b := (b : Int)) rfl rfl ?_
      refine s_iald (a := 58) (n := 201) (j := (44 + (6 * ((a : Int)))) + ((b : Int))) hh rfl rfl rfl (by omega) (by omega) (by decide) (v := sI (hI h 58 (44 + (6 * a + b)))) (by rw [show ((44 + (6 * ((a : Int)))) + ((b : Int)) : Int).toNat = 44 + (6 * a + b) by omega]; exact hI_ok hh (nw_t (by omega))) ?_
      refine s_ifc (q := .ne) (a := hI h 58 (44 + (6 * a + b))) rfl ⟨_, rfl⟩ rfl (by unfold sR aMi aMa; omega) (fun hc2 => ?_) (fun hc2 => ?_)
      · have hc2 : ((hI h 58 (44 + (6 * a + b))) : Int) ≠ 0 := hc2
        refine sP 1 (g1 := (40, [some (.ref 53), some (sI ((a : Int))), some (sI ((b : Int)))], [sI 0], h)) rfl ?_
        exact s_reti rfl rfl (Or.inr ⟨rfl, by omega⟩) (by first | rw [if_neg (fun q => (pMay_iff.mp q).1 (by omega))] | rw [if_neg (fun q => absurd (pMay_iff.mp q).2.1 (by rw [decide_eq_true (by omega)]; decide))] | rw [if_neg (fun q => absurd (hq.mp (pMay_iff.mp q).2.2) (by decide))] | rw [if_pos (pMay_iff.mpr ⟨by omega, decide_eq_false (by omega), hq.mpr (by decide)⟩)]) rfl
      · have hc2 : ¬ (((hI h 58 (44 + (6 * a + b))) : Int) ≠ 0) := hc2
        refine sP 1 (g1 := (15, [some (.ref 53), some (sI ((a : Int))), some (sI ((b : Int)))], [.ref 53], h)) rfl ?_
        refine s_get (a := 53) (j := 4) hh rfl ⟨_, rfl⟩ rfl rfl rfl (v := .ref 58) (hR_ok hh (by decide +kernel)) ?_
        refine sP 1 (g1 := (17, [some (.ref 53), some (sI ((a : Int))), some (sI ((b : Int)))], [sI 43, .ref 58], h)) rfl ?_
        refine s_iald (a := 58) (n := 201) (j := 43) hh rfl rfl rfl (by omega) (by omega) (by decide) (v := sI ((U : Int))) (by have q := hI_ok hh nw_u; rw [hU] at q; exact q) ?_
        refine sP 1 (g1 := (19, [some (.ref 53), some (sI ((a : Int))), some (sI ((b : Int)))], [sI ((a : Int)), sI ((U : Int))], h)) rfl ?_
        refine s_call (k := 149) (args := [sI ((U : Int)), sI ((a : Int))]) (st := []) (v := some (sI 1)) (h1 := h) rfl ⟨rfl, rfl⟩ rfl rfl rfl rfl rfl rfl va ?_
        refine s_ifc (q := .eq) (a := 1) rfl ⟨_, rfl⟩ rfl (by unfold sR aMi aMa; omega) (fun hc3 => ?_) (fun hc3 => ?_)
        · have hc3 : (1 : Int) = 0 := hc3
          omega
        · have hc3 : ¬ ((1 : Int) = 0) := hc3
          refine sP 1 (g1 := (22, [some (.ref 53), some (sI ((a : Int))), some (sI ((b : Int)))], [.ref 53], h)) rfl ?_
          refine s_get (a := 53) (j := 4) hh rfl ⟨_, rfl⟩ rfl rfl rfl (v := .ref 58) (hR_ok hh (by decide +kernel)) ?_
          refine sP 1 (g1 := (24, [some (.ref 53), some (sI ((a : Int))), some (sI ((b : Int)))], [sI 43, .ref 58], h)) rfl ?_
          refine s_iald (a := 58) (n := 201) (j := 43) hh rfl rfl rfl (by omega) (by omega) (by decide) (v := sI ((U : Int))) (by have q := hI_ok hh nw_u; rw [hU] at q; exact q) ?_
          refine sP 1 (g1 := (26, [some (.ref 53), some (sI ((a : Int))), some (sI ((b : Int)))], [sI ((b : Int)), sI ((U : Int))], h)) rfl ?_
          refine s_call (k := 149) (args := [sI ((U : Int)), sI ((b : Int))]) (st := []) (v := some (sI 1)) (h1 := h) rfl ⟨rfl, rfl⟩ rfl rfl rfl rfl rfl rfl vb ?_
          refine s_ifc (q := .eq) (a := 1) rfl ⟨_, rfl⟩ rfl (by unfold sR aMi aMa; omega) (fun hc4 => ?_) (fun hc4 => ?_)
          · have hc4 : (1 : Int) = 0 := hc4
            omega
          · have hc4 : ¬ ((1 : Int) = 0) := hc4
            refine sP 4 (g1 := (32, [some (.ref 53), some (sI ((a : Int))), some (sI ((b : Int)))], [.ref 53, sI ((b : Int)), sI ((a : Int)), .ref 53], h)) rfl ?_
            refine s_get (a := 53) (j := 4) hh rfl ⟨_, rfl⟩ rfl rfl rfl (v := .ref 58) (hR_ok hh (by decide +kernel)) ?_
            refine sP 1 (g1 := (34, [some (.ref 53), some (sI ((a : Int))), some (sI ((b : Int)))], [sI 43, .ref 58, sI ((b : Int)), sI ((a : Int)), .ref 53], h)) rfl ?_
            refine s_iald (a := 58) (n := 201) (j := 43) hh rfl rfl rfl (by omega) (by omega) (by decide) (v := sI ((U : Int))) (by have q := hI_ok hh nw_u; rw [hU] at q; exact q) ?_
            refine s_call (k := 171) (args := [.ref 53, sI ((a : Int)), sI ((b : Int)), sI ((U : Int))]) (st := []) (v := some (sI 0)) (h1 := h) rfl ⟨rfl, rfl⟩ rfl rfl rfl rfl (sRcv hh (a := 53) rfl rfl) rfl ev ?_
            refine s_ifc (q := .eq) (a := 0) rfl ⟨_, rfl⟩ rfl (by unfold sR aMi aMa; omega) (fun hc5 => ?_) (fun hc5 => ?_)
            · have hc5 : (0 : Int) = 0 := hc5
              refine sP 1 (g1 := (40, [some (.ref 53), some (sI ((a : Int))), some (sI ((b : Int)))], [sI 0], h)) rfl ?_
              exact s_reti rfl rfl (Or.inr ⟨rfl, by omega⟩) (by first | rw [if_neg (fun q => (pMay_iff.mp q).1 (by omega))] | rw [if_neg (fun q => absurd (pMay_iff.mp q).2.1 (by rw [decide_eq_true (by omega)]; decide))] | rw [if_neg (fun q => absurd (hq.mp (pMay_iff.mp q).2.2) (by decide))] | rw [if_pos (pMay_iff.mpr ⟨by omega, decide_eq_false (by omega), hq.mpr (by decide)⟩)]) rfl
            · have hc5 : ¬ ((0 : Int) = 0) := hc5
              omega
  · have va : nEv sc (d + 4) 149 [sI (U : Int), sI (a : Int)] h (some (sI 1), h) := va
    have vb : nEv sc (d + 4) 149 [sI (U : Int), sI (b : Int)] h (some (sI 1), h) := vb
    have ev : nEv sc (d + 4) 171 [.ref 53, sI (a : Int), sI (b : Int), sI (U : Int)] h (some (sI 1), h) := ev
    show nRn sc (d + 4) (mMT mMe170) (mMC mMe170) (0, [some (.ref 53), some (sI ((a : Int))), some (sI ((b : Int)))], [], h) _
    refine sP 2 (g1 := (2, [some (.ref 53), some (sI ((a : Int))), some (sI ((b : Int)))], [sI ((b : Int)), sI ((a : Int))], h)) rfl ?_
    refine s_icmp (q := .eq) (a := (a : Int)) (b := (b : Int)) rfl ⟨_, rfl⟩ rfl (by unfold sR aMi aMa; omega) (by unfold sR aMi aMa; omega) (fun hc1 => ?_) (fun hc1 => ?_)
    · have hc1 : (((a : Int)) : Int) = ((b : Int)) := hc1
      refine sP 1 (g1 := (40, [some (.ref 53), some (sI ((a : Int))), some (sI ((b : Int)))], [sI 0], h)) rfl ?_
      exact s_reti rfl rfl (Or.inr ⟨rfl, by omega⟩) (by first | rw [if_neg (fun q => (pMay_iff.mp q).1 (by omega))] | rw [if_neg (fun q => absurd (pMay_iff.mp q).2.1 (by rw [decide_eq_true (by omega)]; decide))] | rw [if_neg (fun q => absurd (hq.mp (pMay_iff.mp q).2.2) (by decide))] | rw [if_pos (pMay_iff.mpr ⟨by omega, decide_eq_false (by omega), hq.mpr (by decide)⟩)]) rfl
    · have hc1 : ¬ ((((a : Int)) : Int) = ((b : Int))) := hc1
      refine sP 1 (g1 := (4, [some (.ref 53), some (sI ((a : Int))), some (sI ((b : Int)))], [.ref 53], h)) rfl ?_
      refine s_get (a := 53) (j := 4) hh rfl ⟨_, rfl⟩ rfl rfl rfl (v := .ref 58) (hR_ok hh (by decide +kernel)) ?_
      refine sP 3 (g1 := (8, [some (.ref 53), some (sI ((a : Int))), some (sI ((b : Int)))], [sI ((a : Int)), sI 6, sI 44, .ref 58], h)) rfl ?_
      refine s_mul (a := 6) (b := (a : Int)) rfl rfl ?_
      refine s_add (a := 44) (b := 6 * ((a : Int))) rfl rfl ?_
      refine sP 1 (g1 := (11, [some (.ref 53), some (sI ((a : Int))), some (sI ((b : Int)))], [sI ((b : Int)), sI (44 + (6 * ((a : Int)))), .ref 58], h)) rfl ?_
      refine s_add (a := 44 + (6 * ((a : Int)))) (b := (b : Int)) rfl rfl ?_
      refine s_iald (a := 58) (n := 201) (j := (44 + (6 * ((a : Int)))) + ((b : Int))) hh rfl rfl rfl (by omega) (by omega) (by decide) (v := sI (hI h 58 (44 + (6 * a + b)))) (by rw [show ((44 + (6 * ((a : Int)))) + ((b : Int)) : Int).toNat = 44 + (6 * a + b) by omega]; exact hI_ok hh (nw_t (by omega))) ?_
      refine s_ifc (q := .ne) (a := hI h 58 (44 + (6 * a + b))) rfl ⟨_, rfl⟩ rfl (by unfold sR aMi aMa; omega) (fun hc2 => ?_) (fun hc2 => ?_)
      · have hc2 : ((hI h 58 (44 + (6 * a + b))) : Int) ≠ 0 := hc2
        refine sP 1 (g1 := (40, [some (.ref 53), some (sI ((a : Int))), some (sI ((b : Int)))], [sI 0], h)) rfl ?_
        exact s_reti rfl rfl (Or.inr ⟨rfl, by omega⟩) (by first | rw [if_neg (fun q => (pMay_iff.mp q).1 (by omega))] | rw [if_neg (fun q => absurd (pMay_iff.mp q).2.1 (by rw [decide_eq_true (by omega)]; decide))] | rw [if_neg (fun q => absurd (hq.mp (pMay_iff.mp q).2.2) (by decide))] | rw [if_pos (pMay_iff.mpr ⟨by omega, decide_eq_false (by omega), hq.mpr (by decide)⟩)]) rfl
      · have hc2 : ¬ (((hI h 58 (44 + (6 * a + b))) : Int) ≠ 0) := hc2
        refine sP 1 (g1 := (15, [some (.ref 53), some (sI ((a : Int))), some (sI ((b : Int)))], [.ref 53], h)) rfl ?_
        refine s_get (a := 53) (j := 4) hh rfl ⟨_, rfl⟩ rfl rfl rfl (v := .ref 58) (hR_ok hh (by decide +kernel)) ?_
        refine sP 1 (g1 := (17, [some (.ref 53), some (sI ((a : Int))), some (sI ((b : Int)))], [sI 43, .ref 58], h)) rfl ?_
        refine s_iald (a := 58) (n := 201) (j := 43) hh rfl rfl rfl (by omega) (by omega) (by decide) (v := sI ((U : Int))) (by have q := hI_ok hh nw_u; rw [hU] at q; exact q) ?_
        refine sP 1 (g1 := (19, [some (.ref 53), some (sI ((a : Int))), some (sI ((b : Int)))], [sI ((a : Int)), sI ((U : Int))], h)) rfl ?_
        refine s_call (k := 149) (args := [sI ((U : Int)), sI ((a : Int))]) (st := []) (v := some (sI 1)) (h1 := h) rfl ⟨rfl, rfl⟩ rfl rfl rfl rfl rfl rfl va ?_
        refine s_ifc (q := .eq) (a := 1) rfl ⟨_, rfl⟩ rfl (by unfold sR aMi aMa; omega) (fun hc3 => ?_) (fun hc3 => ?_)
        · have hc3 : (1 : Int) = 0 := hc3
          omega
        · have hc3 : ¬ ((1 : Int) = 0) := hc3
          refine sP 1 (g1 := (22, [some (.ref 53), some (sI ((a : Int))), some (sI ((b : Int)))], [.ref 53], h)) rfl ?_
          refine s_get (a := 53) (j := 4) hh rfl ⟨_, rfl⟩ rfl rfl rfl (v := .ref 58) (hR_ok hh (by decide +kernel)) ?_
          refine sP 1 (g1 := (24, [some (.ref 53), some (sI ((a : Int))), some (sI ((b : Int)))], [sI 43, .ref 58], h)) rfl ?_
          refine s_iald (a := 58) (n := 201) (j := 43) hh rfl rfl rfl (by omega) (by omega) (by decide) (v := sI ((U : Int))) (by have q := hI_ok hh nw_u; rw [hU] at q; exact q) ?_
          refine sP 1 (g1 := (26, [some (.ref 53), some (sI ((a : Int))), some (sI ((b : Int)))], [sI ((b : Int)), sI ((U : Int))], h)) rfl ?_
          refine s_call (k := 149) (args := [sI ((U : Int)), sI ((b : Int))]) (st := []) (v := some (sI 1)) (h1 := h) rfl ⟨rfl, rfl⟩ rfl rfl rfl rfl rfl rfl vb ?_
          refine s_ifc (q := .eq) (a := 1) rfl ⟨_, rfl⟩ rfl (by unfold sR aMi aMa; omega) (fun hc4 => ?_) (fun hc4 => ?_)
          · have hc4 : (1 : Int) = 0 := hc4
            omega
          · have hc4 : ¬ ((1 : Int) = 0) := hc4
            refine sP 4 (g1 := (32, [some (.ref 53), some (sI ((a : Int))), some (sI ((b : Int)))], [.ref 53, sI ((b : Int)), sI ((a : Int)), .ref 53], h)) rfl ?_
            refine s_get (a := 53) (j := 4) hh rfl ⟨_, rfl⟩ rfl rfl rfl (v := .ref 58) (hR_ok hh (by decide +kernel)) ?_
            refine sP 1 (g1 := (34, [some (.ref 53), some (sI ((a : Int))), some (sI ((b : Int)))], [sI 43, .ref 58, sI ((b : Int)), sI ((a : Int)), .ref 53], h)) rfl ?_
            refine s_iald (a := 58) (n := 201) (j := 43) hh rfl rfl rfl (by omega) (by omega) (by decide) (v := sI ((U : Int))) (by have q := hI_ok hh nw_u; rw [hU] at q; exact q) ?_
            refine s_call (k := 171) (args := [.ref 53, sI ((a : Int)), sI ((b : Int)), sI ((U : Int))]) (st := []) (v := some (sI 1)) (h1 := h) rfl ⟨rfl, rfl⟩ rfl rfl rfl rfl (sRcv hh (a := 53) rfl rfl) rfl ev ?_
            refine s_ifc (q := .eq) (a := 1) rfl ⟨_, rfl⟩ rfl (by unfold sR aMi aMa; omega) (fun hc5 => ?_) (fun hc5 => ?_)
            · have hc5 : (1 : Int) = 0 := hc5
              omega
            · have hc5 : ¬ ((1 : Int) = 0) := hc5
              refine sP 2 (g1 := (40, [some (.ref 53), some (sI ((a : Int))), some (sI ((b : Int)))], [sI 1], h)) rfl ?_
              exact s_reti rfl rfl (Or.inr ⟨rfl, by omega⟩) (by first | rw [if_neg (fun q => (pMay_iff.mp q).1 (by omega))] | rw [if_neg (fun q => absurd (pMay_iff.mp q).2.1 (by rw [decide_eq_true (by omega)]; decide))] | rw [if_neg (fun q => absurd (hq.mp (pMay_iff.mp q).2.2) (by decide))] | rw [if_pos (pMay_iff.mpr ⟨by omega, decide_eq_false (by omega), hq.mpr (by decide)⟩)]) rfl
end DEEDM
