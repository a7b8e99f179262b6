/-! keep, on -/
section KEEP
variable {sc : List Int32} {d : Nat} {h : mH} {k : Nat}
theorem ka_e (hk : k < 3) : 41 + 4 * k ∈ eAd := (show ∀ k, k < 3 → 41 + 4 * k ∈ eAd by decide) k hk
theorem ka_r (hk : k < 3) : zRef 7 k (41 + 4 * k) = true := (show ∀ k, k < 3 → zRef 7 k (41 + 4 * k) = true by decide +kernel) k hk
theorem ka_c (hk : k < 3) : cpB 58 0 60 (201 * k) = true ∧ cpB 60 (201 * k) 58 0 = true := (show ∀ k, k < 3 → cpB 58 0 60 (201 * k) = true ∧ cpB 60 (201 * k) 58 0 = true by decide +kernel) k hk
theorem ka_b (hk : k < 3) : zCell 61 k 0 1 = true := (show ∀ k, k < 3 → zCell 61 k 0 1 = true by decide +kernel) k hk
theorem ka_i (hk : k < 3) : zIn 61 k 0 1 = true := (show ∀ k, k < 3 → zIn 61 k 0 1 = true by decide +kernel) k hk
theorem nw_p : zCell 58 0 0 6 = true := by decide +kernel
theorem nw_d : zCell 58 80 0 40 = true := by decide +kernel
theorem xw_p : zCell 3 3 0 6 = true := by decide +kernel
theorem xw_d : zCell 3 5 0 40 = true := by decide +kernel
theorem km_1 : (Int32.ofInt 1 &&& 1) = Int32.ofInt 1 := by decide
theorem fKeptAt (hh : aHp h) (hk : k < 3) : nEv sc (d + 1) 73 [.ref 0, sI (k : Int)] h (some (.ref (41 + 4 * k)), h) := by
  refine nEv_of (t := mMe73) rfl ?_
  show nRn sc (d) (mMT mMe73) (mMC mMe73) (0, [some (.ref 0), some (sI ((k : Int)))], [], h) _
  refine sP 1 (g1 := (1, [some (.ref 0), some (sI ((k : Int)))], [sI ((k : Int))], h)) rfl ?_
  refine s_ifc (q := .lt) (a := (k : Int)) rfl ⟨_, rfl⟩ rfl (by unfold sR aMi aMa; omega) (fun hc1 => ?_) (fun hc1 => ?_)
  · have hc1 : (((k : Int)) : Int) < 0 := hc1
    omega
  · have hc1 : ¬ ((((k : Int)) : Int) < 0) := hc1
    refine sP 2 (g1 := (4, [some (.ref 0), some (sI ((k : Int)))], [sI 3, sI ((k : Int))], h)) rfl ?_
    refine s_icmp (q := .ge) (a := (k : Int)) (b := 3) rfl ⟨_, rfl⟩ rfl (by unfold sR aMi aMa; omega) (by unfold sR aMi aMa; omega) (fun hc2 => ?_) (fun hc2 => ?_)
    · have hc2 : (3 : Int) ≤ ((k : Int)) := hc2
      omega
    · have hc2 : ¬ ((3 : Int) ≤ ((k : Int))) := hc2
      refine sP 1 (g1 := (6, [some (.ref 0), some (sI ((k : Int)))], [.ref 0], h)) rfl ?_
      refine s_get (a := 0) (j := 3) hh rfl ⟨_, rfl⟩ rfl rfl rfl (v := .ref 7) (hR_ok hh (by decide +kernel)) ?_
      refine sP 1 (g1 := (8, [some (.ref 0), some (sI ((k : Int)))], [sI ((k : Int)), .ref 7], h)) rfl ?_
      refine s_aald (a := 7) (n := 3) (j := (k : Int)) hh rfl rfl rfl (by decide) (by omega) (by omega) (by decide) (v := .ref (41 + 4 * k)) (by rw [Int.toNat_natCast]; exact hR_ok hh (ka_r hk)) ?_
      refine sP 1 (g1 := (11, [some (.ref 0), some (sI ((k : Int)))], [.ref (41 + 4 * k)], h)) rfl ?_
      exact s_ret rfl rfl
theorem fDone (hh : aHp h) : nEv sc (d + 1) 163 [.ref 53] h (some (sI (hI h 58 80)), h) := by
  refine nEv_of (t := mMe163) rfl ?_
  show nRn sc (d) (mMT mMe163) (mMC mMe163) (0, [some (.ref 53)], [], h) _
  refine sP 1 (g1 := (1, [some (.ref 53)], [.ref 53], h)) rfl ?_
  refine s_get (a := 53) (j := 4) hh rfl ⟨_, rfl⟩ rfl rfl rfl (v := .ref 58) (hR_ok hh (by decide +kernel)) ?_
  refine sP 1 (g1 := (3, [some (.ref 53)], [sI 80, .ref 58], h)) rfl ?_
  refine s_iald (a := 58) (n := 201) (j := 80) hh rfl rfl rfl (by omega) (by omega) (by decide) (v := sI (hI h 58 80)) (hI_ok hh nw_d) ?_
  exact s_reti rfl rfl (Or.inl rfl) rfl rfl
theorem fKeepX (hh : aHp h) (hk : k < 3) (hp : hI h 3 3 ≠ 0) : ∃ z h1, nEv sc (d + 2) 72 [.ref 0, sI (k : Int)] h (some (sI z), h1) ∧ aHp h1 ∧ z = hI h 3 5 ∧ ∀ b m, aSlot h1 b m = if b = 41 + 4 * k + 1 then aSlot h 4 m else if b = 41 + 4 * k + 2 then aSlot h 5 m else if b = 41 + 4 * k + 3 then aSlot h 6 m else if b = 41 + 4 * k ∧ 3 ≤ m ∧ m ≤ 6 then aSlot h 3 m else aSlot h b m := by
  have gp := hI_rg hh xw_p
  obtain ⟨h1, r1, r2, r3⟩ := fBecome (sc := sc) (d := d) (e := 41 + 4 * k) (o := 3) hh (ka_e hk) (by decide) (by omega)
  have e5 : hI h1 3 5 = hI h 3 5 := by unfold hI; rw [r3, if_neg (by omega), if_neg (by omega), if_neg (by omega), if_neg (by omega)]
  refine ⟨hI h1 3 5, h1, nEv_of (t := mMe72) rfl ?_, r2, e5, r3⟩
  show nRn sc (d + 1) (mMT mMe72) (mMC mMe72) (0, [some (.ref 0), some (sI (k : Int)), none], [], h) _
  refine sP 2 (g1 := (2, [some (.ref 0), some (sI ((k : Int))), none], [sI ((k : Int)), .ref 0], h)) rfl ?_
  refine s_call (k := 73) (args := [.ref 0, sI ((k : Int))]) (st := []) (v := some (.ref (41 + 4 * k))) (h1 := h) rfl ⟨rfl, rfl⟩ rfl rfl rfl rfl (sRcv hh (a := 0) rfl rfl) rfl (fKeptAt hh hk) ?_
  refine sP 2 (g1 := (5, [some (.ref 0), some (sI ((k : Int))), some (.ref (41 + 4 * k))], [.ref (41 + 4 * k)], h)) rfl ?_
  refine s_null rfl (Or.inr ⟨⟨_, rfl⟩, rfl⟩) ?_
  refine sP 1 (g1 := (9, [some (.ref 0), some (sI ((k : Int))), some (.ref (41 + 4 * k))], [.ref 0], h)) rfl ?_
  refine s_get (a := 0) (j := 2) hh rfl ⟨_, rfl⟩ rfl rfl rfl (v := .ref 3) (hR_ok hh (by decide +kernel)) ?_
  refine s_get (a := 3) (j := 3) hh rfl ⟨_, rfl⟩ rfl rfl rfl (v := sI (hI h 3 3)) (hI_ok hh xw_p) ?_
  refine s_ifc (q := .ne) (a := hI h 3 3) rfl ⟨_, rfl⟩ rfl (by unfold sR aMi aMa; omega) (fun hc1 => ?_) (fun hc1 => ?_)
  · have hc1 : ((hI h 3 3) : Int) ≠ 0 := hc1
    refine sP 2 (g1 := (16, [some (.ref 0), some (sI ((k : Int))), some (.ref (41 + 4 * k))], [.ref 0, .ref (41 + 4 * k)], h)) rfl ?_
    refine s_get (a := 0) (j := 2) hh rfl ⟨_, rfl⟩ rfl rfl rfl (v := .ref 3) (hR_ok hh (by decide +kernel)) ?_
    refine s_call (k := 33) (args := [.ref (41 + 4 * k), .ref 3]) (st := []) (v := none) (h1 := h1) rfl ⟨rfl, rfl⟩ rfl rfl rfl rfl (sRcv hh (ea_t (ka_e hk)) rfl) rfl r1 ?_
    refine sP 1 (g1 := (19, [some (.ref 0), some (sI ((k : Int))), some (.ref (41 + 4 * k))], [.ref 0], h1)) rfl ?_
    refine s_get (a := 0) (j := 2) r2 rfl ⟨_, rfl⟩ rfl rfl rfl (v := .ref 3) (hR_ok r2 (by decide +kernel)) ?_
    refine s_get (a := 3) (j := 5) r2 rfl ⟨_, rfl⟩ rfl rfl rfl (v := sI (hI h1 3 5)) (hI_ok r2 xw_d) ?_
    exact s_reti rfl rfl (Or.inl rfl) rfl rfl
  · have hc1 : ¬ (((hI h 3 3) : Int) ≠ 0) := hc1
    omega
theorem fOnX (hh : aHp h) (hk : k < 3) (hp : hI h (41 + 4 * k) 3 ≠ 0) : ∃ z h1, nEv sc (d + 2) 74 [.ref 0, sI (k : Int)] h (some (sI z), h1) ∧ aHp h1 ∧ z = hI h (41 + 4 * k) 5 ∧ ∀ b m, aSlot h1 b m = if b = 4 then aSlot h (41 + 4 * k + 1) m else if b = 5 then aSlot h (41 + 4 * k + 2) m else if b = 6 then aSlot h (41 + 4 * k + 3) m else if b = 3 ∧ 3 ≤ m ∧ m ≤ 6 then aSlot h (41 + 4 * k) m else aSlot h b m := by
  have gp := hI_rg hh (ea_p (ka_e hk))
  obtain ⟨h1, r1, r2, r3⟩ := fBecome (sc := sc) (d := d) (e := 3) (o := 41 + 4 * k) hh (by decide) (ka_e hk) (by omega)
  have e5 : hI h1 3 5 = hI h (41 + 4 * k) 5 := by unfold hI; rw [r3, if_neg (by omega), if_neg (by omega), if_neg (by omega), if_pos (by omega)]
  refine ⟨hI h1 3 5, h1, nEv_of (t := mMe74) rfl ?_, r2, e5, r3⟩
  show nRn sc (d + 1) (mMT mMe74) (mMC mMe74) (0, [some (.ref 0), some (sI (k : Int)), none], [], h) _
  refine sP 2 (g1 := (2, [some (.ref 0), some (sI ((k : Int))), none], [sI ((k : Int)), .ref 0], h)) rfl ?_
  refine s_call (k := 73) (args := [.ref 0, sI ((k : Int))]) (st := []) (v := some (.ref (41 + 4 * k))) (h1 := h) rfl ⟨rfl, rfl⟩ rfl rfl rfl rfl (sRcv hh (a := 0) rfl rfl) rfl (fKeptAt hh hk) ?_
  refine sP 2 (g1 := (5, [some (.ref 0), some (sI ((k : Int))), some (.ref (41 + 4 * k))], [.ref (41 + 4 * k)], h)) rfl ?_
  refine s_null rfl (Or.inr ⟨⟨_, rfl⟩, rfl⟩) ?_
  refine sP 1 (g1 := (9, [some (.ref 0), some (sI ((k : Int))), some (.ref (41 + 4 * k))], [.ref (41 + 4 * k)], h)) rfl ?_
  refine s_get (a := 41 + 4 * k) (j := 3) hh rfl ⟨_, rfl⟩ (ea_t (ka_e hk)) rfl rfl (v := sI (hI h (41 + 4 * k) 3)) (hI_ok hh (ea_p (ka_e hk))) ?_
  refine s_ifc (q := .ne) (a := hI h (41 + 4 * k) 3) rfl ⟨_, rfl⟩ rfl (by unfold sR aMi aMa; omega) (fun hc1 => ?_) (fun hc1 => ?_)
  · have hc1 : ((hI h (41 + 4 * k) 3) : Int) ≠ 0 := hc1
    refine sP 1 (g1 := (16, [some (.ref 0), some (sI ((k : Int))), some (.ref (41 + 4 * k))], [.ref 0], h)) rfl ?_
    refine s_get (a := 0) (j := 2) hh rfl ⟨_, rfl⟩ rfl rfl rfl (v := .ref 3) (hR_ok hh (by decide +kernel)) ?_
    refine sP 1 (g1 := (18, [some (.ref 0), some (sI ((k : Int))), some (.ref (41 + 4 * k))], [.ref (41 + 4 * k), .ref 3], h)) rfl ?_
    refine s_call (k := 33) (args := [.ref 3, .ref (41 + 4 * k)]) (st := []) (v := none) (h1 := h1) rfl ⟨rfl, rfl⟩ rfl rfl rfl rfl (sRcv hh (a := 3) rfl rfl) rfl r1 ?_
    refine sP 1 (g1 := (20, [some (.ref 0), some (sI ((k : Int))), some (.ref (41 + 4 * k))], [.ref 0], h1)) rfl ?_
    refine s_get (a := 0) (j := 2) r2 rfl ⟨_, rfl⟩ rfl rfl rfl (v := .ref 3) (hR_ok r2 (by decide +kernel)) ?_
    refine s_get (a := 3) (j := 5) r2 rfl ⟨_, rfl⟩ rfl rfl rfl (v := sI (hI h1 3 5)) (hI_ok r2 xw_d) ?_
    exact s_reti rfl rfl (Or.inl rfl) rfl rfl
  · have hc1 : ¬ (((hI h (41 + 4 * k) 3) : Int) ≠ 0) := hc1
    omega
theorem fKeepM (hh : aHp h) (hk : k < 3) (hp : hI h 58 0 ≠ 0) : ∃ z h1, nEv sc (d + 2) 178 [.ref 53, sI (k : Int)] h (some (sI z), h1) ∧ aHp h1 ∧ z = hI h 58 80 ∧ ∀ b m, aSlot h1 b m = if b = 61 ∧ m = k then some (sI 1) else if b = 60 ∧ 201 * k ≤ m ∧ m < 201 * k + 201 then aSlot h 58 (m - 201 * k) else aSlot h b m := by
  have gp := hI_rg hh nw_p
  obtain ⟨g, r1, r2, r3⟩ := fCopies (sc := sc) (d := d) (A := 58) (B := 60) (i := 0) (j := 201 * k) (nA := 201) (nB := 603) (by decide) rfl rfl (by omega) (by omega) (by decide) (by decide) (ka_c hk).1 hh
  have m1 : aHp (hset g 61 (k : Int).toNat (.int (Int32.ofInt 1 &&& 1))) := by
    rw [km_1, Int.toNat_natCast]
    exact hset_in r2 (ka_i hk) (by decide) (by decide)
  have u1 := fun b m => hset_slot (v := .int (Int32.ofInt 1 &&& 1)) (a := 61) (k := 52) (n := 3) r2 rfl (show (k : Int).toNat < 3 by omega) b m
  have e5 : hI (hset g 61 (k : Int).toNat (.int (Int32.ofInt 1 &&& 1))) 58 80 = hI h 58 80 := by unfold hI; rw [u1, if_neg (by omega), r3, if_neg (by omega)]
  refine ⟨_, _, nEv_of (t := mMe178) rfl ?_, m1, e5, fun b m => ?_⟩
  rotate_left
  · rw [u1, km_1]
    by_cases b1 : b = 61 ∧ m = k
    · rw [if_pos (by omega), if_pos b1]
    · rw [if_neg (by omega), if_neg b1, r3]
      by_cases b2 : b = 60 ∧ 201 * k ≤ m ∧ m < 201 * k + 201
      · rw [if_pos (by omega), if_pos b2, show 0 + (m - 201 * k) = m - 201 * k by omega]
      · rw [if_neg (by omega), if_neg b2]
  show nRn sc (d + 1) (mMT mMe178) (mMC mMe178) (0, [some (.ref 53), some (sI (k : Int))], [], h) _
  refine sP 1 (g1 := (1, [some (.ref 53), some (sI ((k : Int)))], [sI ((k : Int))], h)) rfl ?_
  refine s_i2l (a := (k : Int)) rfl rfl (by unfold sR aMi aMa; omega) ?_
  refine sP 2 (g1 := (4, [some (.ref 53), some (sI ((k : Int)))], [sJ 2, sJ 0, sJ ((k : Int))], h)) rfl ?_
  have ev1 := fIn (sc := sc) (d := d) (h := h) (a := (k : Int)) (b := 0) (e := 2) (by omega) (by omega) (by omega) (by omega) (by omega) (by omega)
  rw [if_pos (by omega)] at ev1
  refine s_call (k := 127) (args := [sJ ((k : Int)), sJ 0, sJ 2]) (st := []) (v := some (sI 1)) (h1 := h) rfl ⟨rfl, rfl⟩ rfl rfl rfl rfl rfl rfl ev1 ?_
  refine s_ifc (q := .ne) (a := 1) rfl ⟨_, rfl⟩ rfl (by unfold sR aMi aMa; omega) (fun hc2 => ?_) (fun hc2 => ?_)
  · have hc2 : (1 : Int) ≠ 0 := hc2
    refine sP 1 (g1 := (9, [some (.ref 53), some (sI ((k : Int)))], [.ref 53], h)) rfl ?_
    refine s_get (a := 53) (j := 4) hh rfl ⟨_, rfl⟩ rfl rfl rfl (v := .ref 58) (hR_ok hh (by decide +kernel)) ?_
    refine sP 1 (g1 := (11, [some (.ref 53), some (sI ((k : Int)))], [sI 0, .ref 58], h)) rfl ?_
    refine s_iald (a := 58) (n := 201) (j := 0) hh rfl rfl rfl (by omega) (by omega) (by decide) (v := sI (hI h 58 0)) (hI_ok hh nw_p) ?_
    refine s_ifc (q := .ne) (a := hI h 58 0) rfl ⟨_, rfl⟩ rfl (by unfold sR aMi aMa; omega) (fun hc3 => ?_) (fun hc3 => ?_)
    · have hc3 : ((hI h 58 0) : Int) ≠ 0 := hc3
      refine sP 1 (g1 := (16, [some (.ref 53), some (sI ((k : Int)))], [.ref 53], h)) rfl ?_
      refine s_get (a := 53) (j := 4) hh rfl ⟨_, rfl⟩ rfl rfl rfl (v := .ref 58) (hR_ok hh (by decide +kernel)) ?_
      refine sP 2 (g1 := (19, [some (.ref 53), some (sI ((k : Int)))], [.ref 53, sI 0, .ref 58], h)) rfl ?_
      refine s_get (a := 53) (j := 6) hh rfl ⟨_, rfl⟩ rfl rfl rfl (v := .ref 60) (hR_ok hh (by decide +kernel)) ?_
      refine sP 2 (g1 := (22, [some (.ref 53), some (sI ((k : Int)))], [sI ((k : Int)), sI 201, .ref 60, sI 0, .ref 58], h)) rfl ?_
      refine s_mul (a := 201) (b := (k : Int)) rfl rfl ?_
      rw [show (201 : Int) * (k : Int) = ((201 * k : Nat) : Int) by omega]
      refine s_call (k := 145) (args := [.ref 58, sI ((0 : Nat) : Int), .ref 60, sI ((201 * k : Nat) : Int)]) (st := []) (v := none) (h1 := g) rfl ⟨rfl, rfl⟩ rfl rfl rfl rfl rfl rfl r1 ?_
      refine sP 1 (g1 := (25, [some (.ref 53), some (sI ((k : Int)))], [.ref 53], g)) rfl ?_
      refine s_get (a := 53) (j := 7) r2 rfl ⟨_, rfl⟩ rfl rfl rfl (v := .ref 61) (hR_ok r2 (by decide +kernel)) ?_
      refine sP 2 (g1 := (28, [some (.ref 53), some (sI ((k : Int)))], [sI 1, sI ((k : Int)), .ref 61], g)) rfl ?_
      refine s_bast2 (a := 61) (n := 3) (j := (k : Int)) r2 rfl rfl rfl (by omega) (by omega) (by decide) ?_
      refine sP 1 (g1 := (30, [some (.ref 53), some (sI ((k : Int)))], [.ref 53], (hset g 61 (k : Int).toNat (.int (Int32.ofInt 1 &&& 1))))) rfl ?_
      refine s_call (k := 163) (args := [.ref 53]) (st := []) (v := some (sI (hI ((hset g 61 (k : Int).toNat (.int (Int32.ofInt 1 &&& 1)))) 58 80))) (h1 := (hset g 61 (k : Int).toNat (.int (Int32.ofInt 1 &&& 1)))) rfl ⟨rfl, rfl⟩ rfl rfl rfl rfl (sRcv m1 (a := 53) rfl rfl) rfl (fDone m1) ?_
      exact s_reti rfl rfl (Or.inl rfl) rfl rfl
    · have hc3 : ¬ (((hI h 58 0) : Int) ≠ 0) := hc3
      omega
  · have hc2 : ¬ ((1 : Int) ≠ 0) := hc2
    omega
theorem fOnM (hh : aHp h) (hk : k < 3) (hp : hI h 61 k ≠ 0) : ∃ z h1, nEv sc (d + 2) 179 [.ref 53, sI (k : Int)] h (some (sI z), h1) ∧ aHp h1 ∧ z = hI h 60 (201 * k + 80) ∧ ∀ b m, aSlot h1 b m = if b = 58 ∧ m < 201 then aSlot h 60 (201 * k + m) else aSlot h b m := by
  have gp := hI_rg hh (ka_b hk)
  obtain ⟨g, r1, r2, r3⟩ := fCopies (sc := sc) (d := d) (A := 60) (B := 58) (i := 201 * k) (j := 0) (nA := 603) (nB := 201) (by decide) rfl rfl (by omega) (by omega) (by decide) (by decide) (ka_c hk).2 hh
  have e5 : hI g 58 80 = hI h 60 (201 * k + 80) := by unfold hI; rw [r3, if_pos (by omega)]
  refine ⟨_, g, nEv_of (t := mMe179) rfl ?_, r2, e5, fun b m => ?_⟩
  rotate_left
  · rw [r3]
    by_cases b2 : b = 58 ∧ m < 201
    · rw [if_pos (by omega), if_pos b2, show m - 0 = m by omega]
    · rw [if_neg (by omega), if_neg b2]
  show nRn sc (d + 1) (mMT mMe179) (mMC mMe179) (0, [some (.ref 53), some (sI (k : Int))], [], h) _
  refine sP 1 (g1 := (1, [some (.ref 53), some (sI ((k : Int)))], [sI ((k : Int))], h)) rfl ?_
  refine s_i2l (a := (k : Int)) rfl rfl (by unfold sR aMi aMa; omega) ?_
  refine sP 2 (g1 := (4, [some (.ref 53), some (sI ((k : Int)))], [sJ 2, sJ 0, sJ ((k : Int))], h)) rfl ?_
  have ev1 := fIn (sc := sc) (d := d) (h := h) (a := (k : Int)) (b := 0) (e := 2) (by omega) (by omega) (by omega) (by omega) (by omega) (by omega)
  rw [if_pos (by omega)] at ev1
  refine s_call (k := 127) (args := [sJ ((k : Int)), sJ 0, sJ 2]) (st := []) (v := some (sI 1)) (h1 := h) rfl ⟨rfl, rfl⟩ rfl rfl rfl rfl rfl rfl ev1 ?_
  refine s_ifc (q := .ne) (a := 1) rfl ⟨_, rfl⟩ rfl (by unfold sR aMi aMa; omega) (fun hc2 => ?_) (fun hc2 => ?_)
  · have hc2 : (1 : Int) ≠ 0 := hc2
    refine sP 1 (g1 := (9, [some (.ref 53), some (sI ((k : Int)))], [.ref 53], h)) rfl ?_
    refine s_get (a := 53) (j := 7) hh rfl ⟨_, rfl⟩ rfl rfl rfl (v := .ref 61) (hR_ok hh (by decide +kernel)) ?_
    refine sP 1 (g1 := (11, [some (.ref 53), some (sI ((k : Int)))], [sI ((k : Int)), .ref 61], h)) rfl ?_
    refine s_bald (a := 61) (n := 3) (j := (k : Int)) hh rfl rfl rfl (by decide) (by omega) (by omega) (by decide) (v := sI (hI h 61 k)) (by rw [Int.toNat_natCast]; exact hI_ok hh (ka_b hk)) ?_
    refine s_ifc (q := .ne) (a := hI h 61 k) rfl ⟨_, rfl⟩ rfl (by unfold sR aMi aMa; omega) (fun hc3 => ?_) (fun hc3 => ?_)
    · have hc3 : ((hI h 61 k) : Int) ≠ 0 := hc3
      refine sP 1 (g1 := (18, [some (.ref 53), some (sI ((k : Int)))], [.ref 53], h)) rfl ?_
      refine s_get (a := 53) (j := 6) hh rfl ⟨_, rfl⟩ rfl rfl rfl (v := .ref 60) (hR_ok hh (by decide +kernel)) ?_
      refine sP 2 (g1 := (21, [some (.ref 53), some (sI ((k : Int)))], [sI ((k : Int)), sI 201, .ref 60], h)) rfl ?_
      refine s_mul (a := 201) (b := (k : Int)) rfl rfl ?_
      refine sP 1 (g1 := (23, [some (.ref 53), some (sI ((k : Int)))], [.ref 53, sI (201 * ((k : Int))), .ref 60], h)) rfl ?_
      refine s_get (a := 53) (j := 4) hh rfl ⟨_, rfl⟩ rfl rfl rfl (v := .ref 58) (hR_ok hh (by decide +kernel)) ?_
      refine sP 1 (g1 := (25, [some (.ref 53), some (sI ((k : Int)))], [sI 0, .ref 58, sI (201 * ((k : Int))), .ref 60], h)) rfl ?_
      rw [show (201 : Int) * (k : Int) = ((201 * k : Nat) : Int) by omega]
      refine s_call (k := 145) (args := [.ref 60, sI ((201 * k : Nat) : Int), .ref 58, sI ((0 : Nat) : Int)]) (st := []) (v := none) (h1 := g) rfl ⟨rfl, rfl⟩ rfl rfl rfl rfl rfl rfl r1 ?_
      refine sP 1 (g1 := (27, [some (.ref 53), some (sI ((k : Int)))], [.ref 53], g)) rfl ?_
      refine s_call (k := 163) (args := [.ref 53]) (st := []) (v := some (sI (hI g 58 80))) (h1 := g) rfl ⟨rfl, rfl⟩ rfl rfl rfl rfl (sRcv r2 (a := 53) rfl rfl) rfl (fDone r2) ?_
      exact s_reti rfl rfl (Or.inl rfl) rfl rfl
    · have hc3 : ¬ (((hI h 61 k) : Int) ≠ 0) := hc3
      omega
  · have hc2 : ¬ ((1 : Int) ≠ 0) := hc2
    omega
end KEEP
