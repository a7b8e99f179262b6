/-! treat; class and reference go on alike -/
section PUB2
variable {sc : List Int32} {d : Nat} {h g h1 g1 : mH}
theorem fTreatXb {a b : Int} (hh : aHp h) (ra : sR a) (rb : sR b) (hc : ¬ ((0 ≤ a ∧ a < hI h 3 3) ∧ (0 ≤ b ∧ b < hI h 3 3) ∧ a ≠ b)) : nEv sc (d + 7) 63 [.ref 0, sI a, sI b] h (some (sI (-1)), h) := by
  have gp := hI_rg hh xw_p
  have gd := hI_rg hh xw_d
  unfold sR aMi aMa at ra rb
  refine nEv_of (t := mMe63) rfl ?_
  show nRn sc (d + 6) (mMT mMe63) (mMC mMe63) (0, [some (.ref 0), some (sI a), some (sI b)], [], h) _
  refine sP 1 (g1 := (1, [some (.ref 0), some (sI a), some (sI b)], [.ref 0], h)) rfl ?_
  refine s_get (a := 0) (j := 2) hh rfl ⟨_, rfl⟩ rfl rfl rfl (v := .ref 3) (hR_ok hh (by decide +kernel)) ?_
  refine sP 2 (g1 := (4, [some (.ref 0), some (sI a), some (sI b)], [sI b, sI a, .ref 3], h)) rfl ?_
  have ev1 := fHasTwoX (sc := sc) (d := d + 4) (a := a) (b := b) hh (by unfold sR aMi aMa; omega) (by unfold sR aMi aMa; omega)
  rw [if_neg (by omega)] at ev1
  refine s_call (k := 60) (args := [.ref 3, sI a, sI b]) (st := []) (v := some (sI 0)) (h1 := h) rfl ⟨rfl, rfl⟩ rfl rfl rfl rfl (sRcv hh (a := 3) rfl rfl) rfl ev1 ?_
  refine s_ifc (q := .ne) (a := 0) rfl ⟨_, rfl⟩ rfl (by unfold sR aMi aMa; omega) (fun hc2 => ?_) (fun hc2 => ?_)
  · have hc2 : (0 : Int) ≠ 0 := hc2
    omega
  · have hc2 : ¬ ((0 : Int) ≠ 0) := hc2
    refine sP 1 (g1 := (7, [some (.ref 0), some (sI a), some (sI b)], [sI ((-1))], h)) rfl ?_
    exact s_reti rfl rfl (Or.inl rfl) rfl rfl
theorem fTreatMb0 {a b : Int} (hh : aHp h) (ra : sR a) (rb : sR b) (hc : ¬ (0 ≤ a ∧ a < hI h 58 0)) : nEv sc (d + 7) 169 [.ref 53, sI a, sI b] h (some (sI (-1)), h) := by
  have gp := hI_rg hh nw_p
  have gd := hI_rg hh nw_d
  unfold sR aMi aMa at ra rb
  refine nEv_of (t := mMe169) rfl ?_
  show nRn sc (d + 6) (mMT mMe169) (mMC mMe169) (0, [some (.ref 53), some (sI a), some (sI b)], [], h) _
  refine sP 2 (g1 := (2, [some (.ref 53), some (sI a), some (sI b)], [sI a, .ref 53], h)) rfl ?_
  have ev1 := fIsPerson (sc := sc) (d := d + 4) (a := a) hh (by unfold sR aMi aMa; omega)
  rw [if_neg (by omega)] at ev1
  refine s_call (k := 147) (args := [.ref 53, sI a]) (st := []) (v := some (sI 0)) (h1 := h) rfl ⟨rfl, rfl⟩ rfl rfl rfl rfl (sRcv hh (a := 53) rfl rfl) rfl ev1 ?_
  refine s_ifc (q := .eq) (a := 0) rfl ⟨_, rfl⟩ rfl (by unfold sR aMi aMa; omega) (fun hc2 => ?_) (fun hc2 => ?_)
  · have hc2 : (0 : Int) = 0 := hc2
    refine sP 1 (g1 := (12, [some (.ref 53), some (sI a), some (sI b)], [sI ((-1))], h)) rfl ?_
    exact s_reti rfl rfl (Or.inl rfl) rfl rfl
  · have hc2 : ¬ ((0 : Int) = 0) := hc2
    omega
theorem fTreatMb1 {a b : Int} (hh : aHp h) (ra : sR a) (rb : sR b) (hc : (0 ≤ a ∧ a < hI h 58 0) ∧ ¬ (0 ≤ b ∧ b < hI h 58 0)) : nEv sc (d + 7) 169 [.ref 53, sI a, sI b] h (some (sI (-1)), h) := by
  have gp := hI_rg hh nw_p
  have gd := hI_rg hh nw_d
  unfold sR aMi aMa at ra rb
  refine nEv_of (t := mMe169) rfl ?_
  show nRn sc (d + 6) (mMT mMe169) (mMC mMe169) (0, [some (.ref 53), some (sI a), some (sI b)], [], h) _
  refine sP 2 (g1 := (2, [some (.ref 53), some (sI a), some (sI b)], [sI a, .ref 53], h)) rfl ?_
  have ev1 := fIsPerson (sc := sc) (d := d + 4) (a := a) hh (by unfold sR aMi aMa; omega)
  rw [if_pos (by omega)] at ev1
  refine s_call (k := 147) (args := [.ref 53, sI a]) (st := []) (v := some (sI 1)) (h1 := h) rfl ⟨rfl, rfl⟩ rfl rfl rfl rfl (sRcv hh (a := 53) rfl rfl) rfl ev1 ?_
  refine s_ifc (q := .eq) (a := 1) rfl ⟨_, rfl⟩ rfl (by unfold sR aMi aMa; omega) (fun hc2 => ?_) (fun hc2 => ?_)
  · have hc2 : (1 : Int) = 0 := hc2
    omega
  · have hc2 : ¬ ((1 : Int) = 0) := hc2
    refine sP 2 (g1 := (6, [some (.ref 53), some (sI a), some (sI b)], [sI b, .ref 53], h)) rfl ?_
    have ev3 := fIsPerson (sc := sc) (d := d + 4) (a := b) hh (by unfold sR aMi aMa; omega)
    rw [if_neg (by omega)] at ev3
    refine s_call (k := 147) (args := [.ref 53, sI b]) (st := []) (v := some (sI 0)) (h1 := h) rfl ⟨rfl, rfl⟩ rfl rfl rfl rfl (sRcv hh (a := 53) rfl rfl) rfl ev3 ?_
    refine s_ifc (q := .eq) (a := 0) rfl ⟨_, rfl⟩ rfl (by unfold sR aMi aMa; omega) (fun hc4 => ?_) (fun hc4 => ?_)
    · have hc4 : (0 : Int) = 0 := hc4
      refine sP 1 (g1 := (12, [some (.ref 53), some (sI a), some (sI b)], [sI ((-1))], h)) rfl ?_
      exact s_reti rfl rfl (Or.inl rfl) rfl rfl
    · have hc4 : ¬ ((0 : Int) = 0) := hc4
      omega
theorem fTreatMb2 {a b : Int} (hh : aHp h) (ra : sR a) (rb : sR b) (hc : (0 ≤ a ∧ a < hI h 58 0) ∧ (0 ≤ b ∧ b < hI h 58 0) ∧ a = b) : nEv sc (d + 7) 169 [.ref 53, sI a, sI b] h (some (sI (-1)), h) := by
  have gp := hI_rg hh nw_p
  have gd := hI_rg hh nw_d
  unfold sR aMi aMa at ra rb
  refine nEv_of (t := mMe169) rfl ?_
  show nRn sc (d + 6) (mMT mMe169) (mMC mMe169) (0, [some (.ref 53), some (sI a), some (sI b)], [], h) _
  refine sP 2 (g1 := (2, [some (.ref 53), some (sI a), some (sI b)], [sI a, .ref 53], h)) rfl ?_
  have ev1 := fIsPerson (sc := sc) (d := d + 4) (a := a) hh (by unfold sR aMi aMa; omega)
  rw [if_pos (by omega)] at ev1
  refine s_call (k := 147) (args := [.ref 53, sI a]) (st := []) (v := some (sI 1)) (h1 := h) rfl ⟨rfl, rfl⟩ rfl rfl rfl rfl (sRcv hh (a := 53) rfl rfl) rfl ev1 ?_
  refine s_ifc (q := .eq) (a := 1) rfl ⟨_, rfl⟩ rfl (by unfold sR aMi aMa; omega) (fun hc2 => ?_) (fun hc2 => ?_)
  · have hc2 : (1 : Int) = 0 := hc2
    omega
  · have hc2 : ¬ ((1 : Int) = 0) := hc2
    refine sP 2 (g1 := (6, [some (.ref 53), some (sI a), some (sI b)], [sI b, .ref 53], h)) rfl ?_
    have ev3 := fIsPerson (sc := sc) (d := d + 4) (a := b) hh (by unfold sR aMi aMa; omega)
    rw [if_pos (by omega)] at ev3
    refine s_call (k := 147) (args := [.ref 53, sI b]) (st := []) (v := some (sI 1)) (h1 := h) rfl ⟨rfl, rfl⟩ rfl rfl rfl rfl (sRcv hh (a := 53) rfl rfl) rfl ev3 ?_
    refine s_ifc (q := .eq) (a := 1) rfl ⟨_, rfl⟩ rfl (by unfold sR aMi aMa; omega) (fun hc4 => ?_) (fun hc4 => ?_)
    · have hc4 : (1 : Int) = 0 := hc4
      omega
    · have hc4 : ¬ ((1 : Int) = 0) := hc4
      refine sP 2 (g1 := (10, [some (.ref 53), some (sI a), some (sI b)], [sI b, sI a], h)) rfl ?_
      refine s_icmp (q := .ne) (a := a) (b := b) rfl ⟨_, rfl⟩ rfl (by unfold sR aMi aMa; omega) (by unfold sR aMi aMa; omega) (fun hc5 => ?_) (fun hc5 => ?_)
      · have hc5 : (a : Int) ≠ b := hc5
        omega
      · have hc5 : ¬ ((a : Int) ≠ b) := hc5
        refine sP 1 (g1 := (12, [some (.ref 53), some (sI a), some (sI b)], [sI ((-1))], h)) rfl ?_
        exact s_reti rfl rfl (Or.inl rfl) rfl rfl
theorem fTreatXs {a b : Nat} (hh : aHp h) (ha : (a : Int) < hI h 3 3) (hb : (b : Int) < hI h 3 3) (hab : a ≠ b) (hm : nEv sc (d + 6) 64 [.ref 3, sI (a : Int), sI (b : Int)] h (some (sI 0), h))  : nEv sc (d + 7) 63 [.ref 0, sI (a : Int), sI (b : Int)] h (some (sI (-4)), h) := by
  have gp := hI_rg hh xw_p
  have gd := hI_rg hh xw_d
  have ha6 : a < 6 := by omega
  have hb6 : b < 6 := by omega
  refine nEv_of (t := mMe63) rfl ?_
  show nRn sc (d + 6) (mMT mMe63) (mMC mMe63) (0, [some (.ref 0), some (sI ((a : Int))), some (sI ((b : Int)))], [], h) _
  refine sP 1 (g1 := (1, [some (.ref 0), some (sI ((a : Int))), some (sI ((b : Int)))], [.ref 0], h)) rfl ?_
  refine s_get (a := 0) (j := 2) hh rfl ⟨_, rfl⟩ rfl rfl rfl (v := .ref 3) (hR_ok hh (by decide +kernel)) ?_
  refine sP 2 (g1 := (4, [some (.ref 0), some (sI ((a : Int))), some (sI ((b : Int)))], [sI ((b : Int)), sI ((a : Int)), .ref 3], h)) rfl ?_
  have ev1 := fHasTwoX (sc := sc) (d := d + 4) (a := (a : Int)) (b := (b : Int)) hh (by unfold sR aMi aMa; omega) (by unfold sR aMi aMa; omega)
  rw [if_pos (by omega)] at ev1
  refine s_call (k := 60) (args := [.ref 3, sI ((a : Int)), sI ((b : Int))]) (st := []) (v := some (sI 1)) (h1 := h) rfl ⟨rfl, rfl⟩ rfl rfl rfl rfl (sRcv hh (a := 3) rfl rfl) rfl ev1 ?_
  refine s_ifc (q := .ne) (a := 1) rfl ⟨_, rfl⟩ rfl (by unfold sR aMi aMa; omega) (fun hc2 => ?_) (fun hc2 => ?_)
  · have hc2 : (1 : Int) ≠ 0 := hc2
    refine sP 1 (g1 := (9, [some (.ref 0), some (sI ((a : Int))), some (sI ((b : Int)))], [.ref 0], h)) rfl ?_
    refine s_get (a := 0) (j := 2) hh rfl ⟨_, rfl⟩ rfl rfl rfl (v := .ref 3) (hR_ok hh (by decide +kernel)) ?_
    refine sP 2 (g1 := (12, [some (.ref 0), some (sI ((a : Int))), some (sI ((b : Int)))], [sI ((b : Int)), sI ((a : Int)), .ref 3], h)) rfl ?_
    refine s_call (k := 64) (args := [.ref 3, sI ((a : Int)), sI ((b : Int))]) (st := []) (v := some (sI 0)) (h1 := h) rfl ⟨rfl, rfl⟩ rfl rfl rfl rfl (sRcv hh (a := 3) rfl rfl) rfl hm ?_
    refine s_ifc (q := .ne) (a := 0) rfl ⟨_, rfl⟩ rfl (by unfold sR aMi aMa; omega) (fun hc3 => ?_) (fun hc3 => ?_)
    · have hc3 : (0 : Int) ≠ 0 := hc3
      omega
    · have hc3 : ¬ ((0 : Int) ≠ 0) := hc3
      refine sP 1 (g1 := (15, [some (.ref 0), some (sI ((a : Int))), some (sI ((b : Int)))], [sI ((-4))], h)) rfl ?_
      exact s_reti rfl rfl (Or.inl rfl) rfl rfl
  · have hc2 : ¬ ((1 : Int) ≠ 0) := hc2
    omega
theorem fTreatXf {a b : Nat} (hh : aHp h) (ha : (a : Int) < hI h 3 3) (hb : (b : Int) < hI h 3 3) (hab : a ≠ b) (hm : nEv sc (d + 6) 64 [.ref 3, sI (a : Int), sI (b : Int)] h (some (sI 1), h)) (hf : hI h 3 5 = 40) : nEv sc (d + 7) 63 [.ref 0, sI (a : Int), sI (b : Int)] h (some (sI (-2)), h) := by
  have gp := hI_rg hh xw_p
  have gd := hI_rg hh xw_d
  have ha6 : a < 6 := by omega
  have hb6 : b < 6 := by omega
  refine nEv_of (t := mMe63) rfl ?_
  show nRn sc (d + 6) (mMT mMe63) (mMC mMe63) (0, [some (.ref 0), some (sI ((a : Int))), some (sI ((b : Int)))], [], h) _
  refine sP 1 (g1 := (1, [some (.ref 0), some (sI ((a : Int))), some (sI ((b : Int)))], [.ref 0], h)) rfl ?_
  refine s_get (a := 0) (j := 2) hh rfl ⟨_, rfl⟩ rfl rfl rfl (v := .ref 3) (hR_ok hh (by decide +kernel)) ?_
  refine sP 2 (g1 := (4, [some (.ref 0), some (sI ((a : Int))), some (sI ((b : Int)))], [sI ((b : Int)), sI ((a : Int)), .ref 3], h)) rfl ?_
  have ev1 := fHasTwoX (sc := sc) (d := d + 4) (a := (a : Int)) (b := (b : Int)) hh (by unfold sR aMi aMa; omega) (by unfold sR aMi aMa; omega)
  rw [if_pos (by omega)] at ev1
  refine s_call (k := 60) (args := [.ref 3, sI ((a : Int)), sI ((b : Int))]) (st := []) (v := some (sI 1)) (h1 := h) rfl ⟨rfl, rfl⟩ rfl rfl rfl rfl (sRcv hh (a := 3) rfl rfl) rfl ev1 ?_
  refine s_ifc (q := .ne) (a := 1) rfl ⟨_, rfl⟩ rfl (by unfold sR aMi aMa; omega) (fun hc2 => ?_) (fun hc2 => ?_)
  · have hc2 : (1 : Int) ≠ 0 := hc2
    refine sP 1 (g1 := (9, [some (.ref 0), some (sI ((a : Int))), some (sI ((b : Int)))], [.ref 0], h)) rfl ?_
    refine s_get (a := 0) (j := 2) hh rfl ⟨_, rfl⟩ rfl rfl rfl (v := .ref 3) (hR_ok hh (by decide +kernel)) ?_
    refine sP 2 (g1 := (12, [some (.ref 0), some (sI ((a : Int))), some (sI ((b : Int)))], [sI ((b : Int)), sI ((a : Int)), .ref 3], h)) rfl ?_
    refine s_call (k := 64) (args := [.ref 3, sI ((a : Int)), sI ((b : Int))]) (st := []) (v := some (sI 1)) (h1 := h) rfl ⟨rfl, rfl⟩ rfl rfl rfl rfl (sRcv hh (a := 3) rfl rfl) rfl hm ?_
    refine s_ifc (q := .ne) (a := 1) rfl ⟨_, rfl⟩ rfl (by unfold sR aMi aMa; omega) (fun hc3 => ?_) (fun hc3 => ?_)
    · have hc3 : (1 : Int) ≠ 0 := hc3
      refine sP 1 (g1 := (17, [some (.ref 0), some (sI ((a : Int))), some (sI ((b : Int)))], [.ref 0], h)) rfl ?_
      refine s_get (a := 0) (j := 2) hh rfl ⟨_, rfl⟩ rfl rfl rfl (v := .ref 3) (hR_ok hh (by decide +kernel)) ?_
      refine s_get (a := 3) (j := 5) hh rfl ⟨_, rfl⟩ rfl rfl rfl (v := sI (hI h 3 5)) (hI_ok hh xw_d) ?_
      refine sP 1 (g1 := (20, [some (.ref 0), some (sI ((a : Int))), some (sI ((b : Int)))], [sI 40, sI (hI h 3 5)], h)) rfl ?_
      refine s_icmp (q := .lt) (a := hI h 3 5) (b := 40) rfl ⟨_, rfl⟩ rfl (by unfold sR aMi aMa; omega) (by unfold sR aMi aMa; omega) (fun hc4 => ?_) (fun hc4 => ?_)
      · have hc4 : ((hI h 3 5) : Int) < 40 := hc4
        omega
      · have hc4 : ¬ (((hI h 3 5) : Int) < 40) := hc4
        refine sP 1 (g1 := (22, [some (.ref 0), some (sI ((a : Int))), some (sI ((b : Int)))], [sI ((-2))], h)) rfl ?_
        exact s_reti rfl rfl (Or.inl rfl) rfl rfl
    · have hc3 : ¬ ((1 : Int) ≠ 0) := hc3
      omega
  · have hc2 : ¬ ((1 : Int) ≠ 0) := hc2
    omega
theorem fTreatMs {a b : Nat} (hh : aHp h) (ha : (a : Int) < hI h 58 0) (hb : (b : Int) < hI h 58 0) (hab : a ≠ b) (hm : nEv sc (d + 6) 170 [.ref 53, sI (a : Int), sI (b : Int)] h (some (sI 0), h))  : nEv sc (d + 7) 169 [.ref 53, sI (a : Int), sI (b : Int)] h (some (sI (-4)), h) := by
  have gp := hI_rg hh nw_p
  have gd := hI_rg hh nw_d
  have ha6 : a < 6 := by omega
  have hb6 : b < 6 := by omega
  refine nEv_of (t := mMe169) rfl ?_
  show nRn sc (d + 6) (mMT mMe169) (mMC mMe169) (0, [some (.ref 53), some (sI ((a : Int))), some (sI ((b : Int)))], [], h) _
  refine sP 2 (g1 := (2, [some (.ref 53), some (sI ((a : Int))), some (sI ((b : Int)))], [sI ((a : Int)), .ref 53], h)) rfl ?_
  have ev1 := fIsPerson (sc := sc) (d := d + 4) (a := (a : Int)) hh (by unfold sR aMi aMa; omega)
  rw [if_pos (by omega)] at ev1
  refine s_call (k := 147) (args := [.ref 53, sI ((a : Int))]) (st := []) (v := some (sI 1)) (h1 := h) rfl ⟨rfl, rfl⟩ rfl rfl rfl rfl (sRcv hh (a := 53) rfl rfl) rfl ev1 ?_
  refine s_ifc (q := .eq) (a := 1) rfl ⟨_, rfl⟩ rfl (by unfold sR aMi aMa; omega) (fun hc2 => ?_) (fun hc2 => ?_)
  · have hc2 : (1 : Int) = 0 := hc2
    omega
  · have hc2 : ¬ ((1 : Int) = 0) := hc2
    refine sP 2 (g1 := (6, [some (.ref 53), some (sI ((a : Int))), some (sI ((b : Int)))], [sI ((b : Int)), .ref 53], h)) rfl ?_
    have ev3 := fIsPerson (sc := sc) (d := d + 4) (a := (b : Int)) hh (by unfold sR aMi aMa; omega)
    rw [if_pos (by omega)] at ev3
    refine s_call (k := 147) (args := [.ref 53, sI ((b : Int))]) (st := []) (v := some (sI 1)) (h1 := h) rfl ⟨rfl, rfl⟩ rfl rfl rfl rfl (sRcv hh (a := 53) rfl rfl) rfl ev3 ?_
    refine s_ifc (q := .eq) (a := 1) rfl ⟨_, rfl⟩ rfl (by unfold sR aMi aMa; omega) (fun hc4 => ?_) (fun hc4 => ?_)
    · have hc4 : (1 : Int) = 0 := hc4
      omega
    · have hc4 : ¬ ((1 : Int) = 0) := hc4
      refine sP 2 (g1 := (10, [some (.ref 53), some (sI ((a : Int))), some (sI ((b : Int)))], [sI ((b : Int)), sI ((a : Int))], h)) rfl ?_
      refine s_icmp (q := .ne) (a := (a : Int)) (b := (b : Int)) rfl ⟨_, rfl⟩ rfl (by unfold sR aMi aMa; omega) (by unfold sR aMi aMa; omega) (fun hc5 => ?_) (fun hc5 => ?_)
      · have hc5 : (((a : Int)) : Int) ≠ ((b : Int)) := hc5
        refine sP 3 (g1 := (16, [some (.ref 53), some (sI ((a : Int))), some (sI ((b : Int)))], [sI ((b : Int)), sI ((a : Int)), .ref 53], h)) rfl ?_
        refine s_call (k := 170) (args := [.ref 53, sI ((a : Int)), sI ((b : Int))]) (st := []) (v := some (sI 0)) (h1 := h) rfl ⟨rfl, rfl⟩ rfl rfl rfl rfl (sRcv hh (a := 53) rfl rfl) rfl hm ?_
        refine s_ifc (q := .ne) (a := 0) rfl ⟨_, rfl⟩ rfl (by unfold sR aMi aMa; omega) (fun hc6 => ?_) (fun hc6 => ?_)
        · have hc6 : (0 : Int) ≠ 0 := hc6
          omega
        · have hc6 : ¬ ((0 : Int) ≠ 0) := hc6
          refine sP 1 (g1 := (19, [some (.ref 53), some (sI ((a : Int))), some (sI ((b : Int)))], [sI ((-4))], h)) rfl ?_
          exact s_reti rfl rfl (Or.inl rfl) rfl rfl
      · have hc5 : ¬ ((((a : Int)) : Int) ≠ ((b : Int))) := hc5
        omega
theorem fTreatMf {a b : Nat} (hh : aHp h) (ha : (a : Int) < hI h 58 0) (hb : (b : Int) < hI h 58 0) (hab : a ≠ b) (hm : nEv sc (d + 6) 170 [.ref 53, sI (a : Int), sI (b : Int)] h (some (sI 1), h)) (hf : hI h 58 80 = 40) : nEv sc (d + 7) 169 [.ref 53, sI (a : Int), sI (b : Int)] h (some (sI (-2)), h) := by
  have gp := hI_rg hh nw_p
  have gd := hI_rg hh nw_d
  have ha6 : a < 6 := by omega
  have hb6 : b < 6 := by omega
  refine nEv_of (t := mMe169) rfl ?_
  show nRn sc (d + 6) (mMT mMe169) (mMC mMe169) (0, [some (.ref 53), some (sI ((a : Int))), some (sI ((b : Int)))], [], h) _
  refine sP 2 (g1 := (2, [some (.ref 53), some (sI ((a : Int))), some (sI ((b : Int)))], [sI ((a : Int)), .ref 53], h)) rfl ?_
  have ev1 := fIsPerson (sc := sc) (d := d + 4) (a := (a : Int)) hh (by unfold sR aMi aMa; omega)
  rw [if_pos (by omega)] at ev1
  refine s_call (k := 147) (args := [.ref 53, sI ((a : Int))]) (st := []) (v := some (sI 1)) (h1 := h) rfl ⟨rfl, rfl⟩ rfl rfl rfl rfl (sRcv hh (a := 53) rfl rfl) rfl ev1 ?_
  refine s_ifc (q := .eq) (a := 1) rfl ⟨_, rfl⟩ rfl (by unfold sR aMi aMa; omega) (fun hc2 => ?_) (fun hc2 => ?_)
  · have hc2 : (1 : Int) = 0 := hc2
    omega
  · have hc2 : ¬ ((1 : Int) = 0) := hc2
    refine sP 2 (g1 := (6, [some (.ref 53), some (sI ((a : Int))), some (sI ((b : Int)))], [sI ((b : Int)), .ref 53], h)) rfl ?_
    have ev3 := fIsPerson (sc := sc) (d := d + 4) (a := (b : Int)) hh (by unfold sR aMi aMa; omega)
    rw [if_pos (by omega)] at ev3
    refine s_call (k := 147) (args := [.ref 53, sI ((b : Int))]) (st := []) (v := some (sI 1)) (h1 := h) rfl ⟨rfl, rfl⟩ rfl rfl rfl rfl (sRcv hh (a := 53) rfl rfl) rfl ev3 ?_
    refine s_ifc (q := .eq) (a := 1) rfl ⟨_, rfl⟩ rfl (by unfold sR aMi aMa; omega) (fun hc4 => ?_) (fun hc4 => ?_)
    · have hc4 : (1 : Int) = 0 := hc4
      omega
    · have hc4 : ¬ ((1 : Int) = 0) := hc4
      refine sP 2 (g1 := (10, [some (.ref 53), some (sI ((a : Int))), some (sI ((b : Int)))], [sI ((b : Int)), sI ((a : Int))], h)) rfl ?_
      refine s_icmp (q := .ne) (a := (a : Int)) (b := (b : Int)) rfl ⟨_, rfl⟩ rfl (by unfold sR aMi aMa; omega) (by unfold sR aMi aMa; omega) (fun hc5 => ?_) (fun hc5 => ?_)
      · have hc5 : (((a : Int)) : Int) ≠ ((b : Int)) := hc5
        refine sP 3 (g1 := (16, [some (.ref 53), some (sI ((a : Int))), some (sI ((b : Int)))], [sI ((b : Int)), sI ((a : Int)), .ref 53], h)) rfl ?_
        refine s_call (k := 170) (args := [.ref 53, sI ((a : Int)), sI ((b : Int))]) (st := []) (v := some (sI 1)) (h1 := h) rfl ⟨rfl, rfl⟩ rfl rfl rfl rfl (sRcv hh (a := 53) rfl rfl) rfl hm ?_
        refine s_ifc (q := .ne) (a := 1) rfl ⟨_, rfl⟩ rfl (by unfold sR aMi aMa; omega) (fun hc6 => ?_) (fun hc6 => ?_)
        · have hc6 : (1 : Int) ≠ 0 := hc6
          refine sP 1 (g1 := (21, [some (.ref 53), some (sI ((a : Int))), some (sI ((b : Int)))], [.ref 53], h)) rfl ?_
          refine s_call (k := 163) (args := [.ref 53]) (st := []) (v := some (sI (hI h 58 80))) (h1 := h) rfl ⟨rfl, rfl⟩ rfl rfl rfl rfl (sRcv hh (a := 53) rfl rfl) rfl (fDone hh) ?_
          refine sP 1 (g1 := (23, [some (.ref 53), some (sI ((a : Int))), some (sI ((b : Int)))], [sI 40, sI (hI h 58 80)], h)) rfl ?_
          refine s_icmp (q := .ne) (a := hI h 58 80) (b := 40) rfl ⟨_, rfl⟩ rfl (by unfold sR aMi aMa; omega) (by unfold sR aMi aMa; omega) (fun hc7 => ?_) (fun hc7 => ?_)
          · have hc7 : ((hI h 58 80) : Int) ≠ 40 := hc7
            omega
          · have hc7 : ¬ (((hI h 58 80) : Int) ≠ 40) := hc7
            refine sP 1 (g1 := (25, [some (.ref 53), some (sI ((a : Int))), some (sI ((b : Int)))], [sI ((-2))], h)) rfl ?_
            exact s_reti rfl rfl (Or.inl rfl) rfl rfl
        · have hc6 : ¬ ((1 : Int) ≠ 0) := hc6
          omega
      · have hc5 : ¬ ((((a : Int)) : Int) ≠ ((b : Int))) := hc5
        omega
theorem fTreatX {D : Nat} {a b : Nat} (hh : aHp h) (ha : (a : Int) < hI h 3 3) (hb : (b : Int) < hI h 3 3) (hab : a ≠ b) (hm : nEv sc (d + 6) 64 [.ref 3, sI (a : Int), sI (b : Int)] h (some (sI 1), h)) (hD : hI h 3 5 = (D : Int)) (hD4 : D < 40) : ∃ g, nEv sc (d + 7) 63 [.ref 0, sI (a : Int), sI (b : Int)] h (some (.int (lbc (hJ h 3 6 ||| pBt a b))), g) ∧ aHp g ∧ ∀ p m, aSlot g p m = if p = 3 ∧ m = 5 then some (sI ((D : Int) + 1)) else if p = 6 ∧ m = D then some (sI ((64 * 2 + 8 * a + b : Nat) : Int)) else if p = 3 ∧ m = 6 then some (.long (hJ h 3 6 ||| pBt a b)) else aSlot h p m := by
  have gp := hI_rg hh xw_p
  have gd := hI_rg hh xw_d
  have ha6 : a < 6 := by omega
  have hb6 : b < 6 := by omega
  obtain ⟨g1, r1, r2, r3⟩ := fBind (sc := sc) (d := d + 3) hh ha6 hb6 hD hD4
  refine ⟨g1, nEv_of (t := mMe63) rfl ?_, r2, r3⟩
  show nRn sc (d + 6) (mMT mMe63) (mMC mMe63) (0, [some (.ref 0), some (sI ((a : Int))), some (sI ((b : Int)))], [], h) _
  refine sP 1 (g1 := (1, [some (.ref 0), some (sI ((a : Int))), some (sI ((b : Int)))], [.ref 0], h)) rfl ?_
  refine s_get (a := 0) (j := 2) hh rfl ⟨_, rfl⟩ rfl rfl rfl (v := .ref 3) (hR_ok hh (by decide +kernel)) ?_
  refine sP 2 (g1 := (4, [some (.ref 0), some (sI ((a : Int))), some (sI ((b : Int)))], [sI ((b : Int)), sI ((a : Int)), .ref 3], h)) rfl ?_
  have ev1 := fHasTwoX (sc := sc) (d := d + 4) (a := (a : Int)) (b := (b : Int)) hh (by unfold sR aMi aMa; omega) (by unfold sR aMi aMa; omega)
  rw [if_pos (by omega)] at ev1
  refine s_call (k := 60) (args := [.ref 3, sI ((a : Int)), sI ((b : Int))]) (st := []) (v := some (sI 1)) (h1 := h) rfl ⟨rfl, rfl⟩ rfl rfl rfl rfl (sRcv hh (a := 3) rfl rfl) rfl ev1 ?_
  refine s_ifc (q := .ne) (a := 1) rfl ⟨_, rfl⟩ rfl (by unfold sR aMi aMa; omega) (fun hc2 => ?_) (fun hc2 => ?_)
  · have hc2 : (1 : Int) ≠ 0 := hc2
    refine sP 1 (g1 := (9, [some (.ref 0), some (sI ((a : Int))), some (sI ((b : Int)))], [.ref 0], h)) rfl ?_
    refine s_get (a := 0) (j := 2) hh rfl ⟨_, rfl⟩ rfl rfl rfl (v := .ref 3) (hR_ok hh (by decide +kernel)) ?_
    refine sP 2 (g1 := (12, [some (.ref 0), some (sI ((a : Int))), some (sI ((b : Int)))], [sI ((b : Int)), sI ((a : Int)), .ref 3], h)) rfl ?_
    refine s_call (k := 64) (args := [.ref 3, sI ((a : Int)), sI ((b : Int))]) (st := []) (v := some (sI 1)) (h1 := h) rfl ⟨rfl, rfl⟩ rfl rfl rfl rfl (sRcv hh (a := 3) rfl rfl) rfl hm ?_
    refine s_ifc (q := .ne) (a := 1) rfl ⟨_, rfl⟩ rfl (by unfold sR aMi aMa; omega) (fun hc3 => ?_) (fun hc3 => ?_)
    · have hc3 : (1 : Int) ≠ 0 := hc3
      refine sP 1 (g1 := (17, [some (.ref 0), some (sI ((a : Int))), some (sI ((b : Int)))], [.ref 0], h)) rfl ?_
      refine s_get (a := 0) (j := 2) hh rfl ⟨_, rfl⟩ rfl rfl rfl (v := .ref 3) (hR_ok hh (by decide +kernel)) ?_
      refine s_get (a := 3) (j := 5) hh rfl ⟨_, rfl⟩ rfl rfl rfl (v := sI (hI h 3 5)) (hI_ok hh xw_d) ?_
      refine sP 1 (g1 := (20, [some (.ref 0), some (sI ((a : Int))), some (sI ((b : Int)))], [sI 40, sI (hI h 3 5)], h)) rfl ?_
      refine s_icmp (q := .lt) (a := hI h 3 5) (b := 40) rfl ⟨_, rfl⟩ rfl (by unfold sR aMi aMa; omega) (by unfold sR aMi aMa; omega) (fun hc4 => ?_) (fun hc4 => ?_)
      · have hc4 : ((hI h 3 5) : Int) < 40 := hc4
        refine sP 1 (g1 := (24, [some (.ref 0), some (sI ((a : Int))), some (sI ((b : Int)))], [.ref 0], h)) rfl ?_
        refine s_get (a := 0) (j := 2) hh rfl ⟨_, rfl⟩ rfl rfl rfl (v := .ref 3) (hR_ok hh (by decide +kernel)) ?_
        refine sP 2 (g1 := (27, [some (.ref 0), some (sI ((a : Int))), some (sI ((b : Int)))], [sI ((b : Int)), sI ((a : Int)), .ref 3], h)) rfl ?_
        refine s_call (k := 68) (args := [.ref 3, sI ((a : Int)), sI ((b : Int))]) (st := []) (v := none) (h1 := g1) rfl ⟨rfl, rfl⟩ rfl rfl rfl rfl (sRcv hh (a := 3) rfl rfl) rfl r1 ?_
        refine sP 1 (g1 := (29, [some (.ref 0), some (sI ((a : Int))), some (sI ((b : Int)))], [.ref 0], g1)) rfl ?_
        refine s_get (a := 0) (j := 2) r2 rfl ⟨_, rfl⟩ rfl rfl rfl (v := .ref 3) (hR_ok r2 (by decide +kernel)) ?_
        refine s_get (a := 3) (j := 6) r2 rfl ⟨_, rfl⟩ rfl rfl rfl (v := .long (hJ h 3 6 ||| pBt a b)) (by rw [r3, if_neg (by omega), if_neg (by omega), if_pos (by omega)]) ?_
        refine s_call (k := 69) (args := [.long (hJ h 3 6 ||| pBt a b)]) (st := []) (v := some (.int (lbc (hJ h 3 6 ||| pBt a b)))) (h1 := g1) rfl ⟨rfl, rfl⟩ rfl rfl rfl rfl rfl rfl lbc_ok ?_
        exact s_retz rfl rfl rfl rfl
      · have hc4 : ¬ (((hI h 3 5) : Int) < 40) := hc4
        omega
    · have hc3 : ¬ ((1 : Int) ≠ 0) := hc3
      omega
  · have hc2 : ¬ ((1 : Int) ≠ 0) := hc2
    omega
theorem fTreatM {D : Nat} {a b : Nat} (hh : aHp h) (ha : (a : Int) < hI h 58 0) (hb : (b : Int) < hI h 58 0) (hab : a ≠ b) (hm : nEv sc (d + 6) 170 [.ref 53, sI (a : Int), sI (b : Int)] h (some (sI 1), h)) (hD : hI h 58 80 = (D : Int)) (hD4 : D < 40) : ∃ g, nEv sc (d + 7) 169 [.ref 53, sI (a : Int), sI (b : Int)] h (some (sI (yA (fun j => hI g 58 (44 + j)) 6 / 2)), g) ∧ aHp g ∧ ∀ p m, aSlot g p m = if p = 58 ∧ m = 44 + (6 * b + a) then some (sI 1) else if p = 58 ∧ m = 44 + (6 * a + b) then some (sI 1) else if p = 58 ∧ m = 80 then some (sI ((D : Int) + 1)) else if p = 58 ∧ m = 81 + (3 * D + 2) then some (sI (b : Int)) else if p = 58 ∧ m = 81 + (3 * D + 1) then some (sI (a : Int)) else if p = 58 ∧ m = 81 + 3 * D then some (sI ((2 : Nat) : Int)) else aSlot h p m := by
  have gp := hI_rg hh nw_p
  have gd := hI_rg hh nw_d
  have ha6 : a < 6 := by omega
  have hb6 : b < 6 := by omega
  obtain ⟨g1, r1, r2, r3⟩ := fTreats (sc := sc) (d := d + 4) hh ha6 hb6 hD hD4
  refine ⟨g1, nEv_of (t := mMe169) rfl ?_, r2, r3⟩
  show nRn sc (d + 6) (mMT mMe169) (mMC mMe169) (0, [some (.ref 53), some (sI ((a : Int))), some (sI ((b : Int)))], [], h) _
  refine sP 2 (g1 := (2, [some (.ref 53), some (sI ((a : Int))), some (sI ((b : Int)))], [sI ((a : Int)), .ref 53], h)) rfl ?_
  have ev1 := fIsPerson (sc := sc) (d := d + 4) (a := (a : Int)) hh (by unfold sR aMi aMa; omega)
  rw [if_pos (by omega)] at ev1
  refine s_call (k := 147) (args := [.ref 53, sI ((a : Int))]) (st := []) (v := some (sI 1)) (h1 := h) rfl ⟨rfl, rfl⟩ rfl rfl rfl rfl (sRcv hh (a := 53) rfl rfl) rfl ev1 ?_
  refine s_ifc (q := .eq) (a := 1) rfl ⟨_, rfl⟩ rfl (by unfold sR aMi aMa; omega) (fun hc2 => ?_) (fun hc2 => ?_)
  · have hc2 : (1 : Int) = 0 := hc2
    omega
  · have hc2 : ¬ ((1 : Int) = 0) := hc2
    refine sP 2 (g1 := (6, [some (.ref 53), some (sI ((a : Int))), some (sI ((b : Int)))], [sI ((b : Int)), .ref 53], h)) rfl ?_
    have ev3 := fIsPerson (sc := sc) (d := d + 4) (a := (b : Int)) hh (by unfold sR aMi aMa; omega)
    rw [if_pos (by omega)] at ev3
    refine s_call (k := 147) (args := [.ref 53, sI ((b : Int))]) (st := []) (v := some (sI 1)) (h1 := h) rfl ⟨rfl, rfl⟩ rfl rfl rfl rfl (sRcv hh (a := 53) rfl rfl) rfl ev3 ?_
    refine s_ifc (q := .eq) (a := 1) rfl ⟨_, rfl⟩ rfl (by unfold sR aMi aMa; omega) (fun hc4 => ?_) (fun hc4 => ?_)
    · have hc4 : (1 : Int) = 0 := hc4
      omega
    · have hc4 : ¬ ((1 : Int) = 0) := hc4
      refine sP 2 (g1 := (10, [some (.ref 53), some (sI ((a : Int))), some (sI ((b : Int)))], [sI ((b : Int)), sI ((a : Int))], h)) rfl ?_
      refine s_icmp (q := .ne) (a := (a : Int)) (b := (b : Int)) rfl ⟨_, rfl⟩ rfl (by unfold sR aMi aMa; omega) (by unfold sR aMi aMa; omega) (fun hc5 => ?_) (fun hc5 => ?_)
      · have hc5 : (((a : Int)) : Int) ≠ ((b : Int)) := hc5
        refine sP 3 (g1 := (16, [some (.ref 53), some (sI ((a : Int))), some (sI ((b : Int)))], [sI ((b : Int)), sI ((a : Int)), .ref 53], h)) rfl ?_
        refine s_call (k := 170) (args := [.ref 53, sI ((a : Int)), sI ((b : Int))]) (st := []) (v := some (sI 1)) (h1 := h) rfl ⟨rfl, rfl⟩ rfl rfl rfl rfl (sRcv hh (a := 53) rfl rfl) rfl hm ?_
        refine s_ifc (q := .ne) (a := 1) rfl ⟨_, rfl⟩ rfl (by unfold sR aMi aMa; omega) (fun hc6 => ?_) (fun hc6 => ?_)
        · have hc6 : (1 : Int) ≠ 0 := hc6
          refine sP 1 (g1 := (21, [some (.ref 53), some (sI ((a : Int))), some (sI ((b : Int)))], [.ref 53], h)) rfl ?_
          refine s_call (k := 163) (args := [.ref 53]) (st := []) (v := some (sI (hI h 58 80))) (h1 := h) rfl ⟨rfl, rfl⟩ rfl rfl rfl rfl (sRcv hh (a := 53) rfl rfl) rfl (fDone hh) ?_
          refine sP 1 (g1 := (23, [some (.ref 53), some (sI ((a : Int))), some (sI ((b : Int)))], [sI 40, sI (hI h 58 80)], h)) rfl ?_
          refine s_icmp (q := .ne) (a := hI h 58 80) (b := 40) rfl ⟨_, rfl⟩ rfl (by unfold sR aMi aMa; omega) (by unfold sR aMi aMa; omega) (fun hc7 => ?_) (fun hc7 => ?_)
          · have hc7 : ((hI h 58 80) : Int) ≠ 40 := hc7
            refine sP 3 (g1 := (29, [some (.ref 53), some (sI ((a : Int))), some (sI ((b : Int)))], [sI ((b : Int)), sI ((a : Int)), .ref 53], h)) rfl ?_
            refine s_call (k := 173) (args := [.ref 53, sI ((a : Int)), sI ((b : Int))]) (st := []) (v := none) (h1 := g1) rfl ⟨rfl, rfl⟩ rfl rfl rfl rfl (sRcv hh (a := 53) rfl rfl) rfl r1 ?_
            refine sP 1 (g1 := (31, [some (.ref 53), some (sI ((a : Int))), some (sI ((b : Int)))], [.ref 53], g1)) rfl ?_
            refine s_call (k := 175) (args := [.ref 53]) (st := []) (v := some (sI (yA (fun j => hI g1 58 (44 + j)) 6 / 2))) (h1 := g1) rfl ⟨rfl, rfl⟩ rfl rfl rfl rfl (sRcv r2 (a := 53) rfl rfl) rfl (fTrs r2) ?_
            exact s_reti rfl rfl (Or.inl rfl) rfl rfl
          · have hc7 : ¬ (((hI h 58 80) : Int) ≠ 40) := hc7
            omega
        · have hc6 : ¬ ((1 : Int) ≠ 0) := hc6
          omega
      · have hc5 : ¬ ((((a : Int)) : Int) ≠ ((b : Int))) := hc5
        omega
theorem sI_of (x : Int32) : Value.int x = sI x.toInt := by unfold sI; rw [Int32.ofInt_toInt]
theorem pair1 {kx km : Nat} {x : Int32} {v1 v2 : Int} {h2 : mH} (a1 : nEv sc 100 kx [.ref 0, sI x.toInt] h (some (sI v1), h1)) (a2 : aHp h1) (a3 : nEv sc 100 km [.ref 53, sI x.toInt] h1 (some (sI v2), h2)) (a4 : wP h2) (a5 : v2 = v1) : ∃ z1 h1 z2 h2, nEv sc 100 kx (.ref 0 :: [x].map Value.int) h (some (.int z1), h1) ∧ aHp h1 ∧ nEv sc 100 km (.ref 53 :: [x].map Value.int) h1 (some (.int z2), h2) ∧ wP h2 ∧ z2 = z1 := by
  refine ⟨Int32.ofInt v1, h1, Int32.ofInt v2, h2, ?_, a2, ?_, a4, by rw [a5]⟩
  · show nEv sc 100 kx [.ref 0, .int x] h _
    rw [sI_of x]
    exact a1
  · show nEv sc 100 km [.ref 53, .int x] h1 _
    rw [sI_of x]
    exact a3
theorem pair3 {kx km : Nat} {x y w : Int32} {v1 v2 : Int} {h2 : mH} (a1 : nEv sc 100 kx [.ref 0, sI x.toInt, sI y.toInt, sI w.toInt] h (some (sI v1), h1)) (a2 : aHp h1) (a3 : nEv sc 100 km [.ref 53, sI x.toInt, sI y.toInt, sI w.toInt] h1 (some (sI v2), h2)) (a4 : wP h2) (a5 : v2 = v1) : ∃ z1 h1 z2 h2, nEv sc 100 kx (.ref 0 :: [x, y, w].map Value.int) h (some (.int z1), h1) ∧ aHp h1 ∧ nEv sc 100 km (.ref 53 :: [x, y, w].map Value.int) h1 (some (.int z2), h2) ∧ wP h2 ∧ z2 = z1 := by
  refine ⟨Int32.ofInt v1, h1, Int32.ofInt v2, h2, ?_, a2, ?_, a4, by rw [a5]⟩
  · show nEv sc 100 kx [.ref 0, .int x, .int y, .int w] h _
    rw [sI_of x, sI_of y, sI_of w]
    exact a1
  · show nEv sc 100 km [.ref 53, .int x, .int y, .int w] h1 _
    rw [sI_of x, sI_of y, sI_of w]
    exact a3
theorem pair2 {kx km : Nat} {x y : Int32} {z1 z2 : Int32} {h2 : mH} (a1 : nEv sc 100 kx [.ref 0, sI x.toInt, sI y.toInt] h (some (.int z1), h1)) (a2 : aHp h1) (a3 : nEv sc 100 km [.ref 53, sI x.toInt, sI y.toInt] h1 (some (.int z2), h2)) (a4 : wP h2) : nEv sc 100 kx (.ref 0 :: [x, y].map Value.int) h (some (.int z1), h1) ∧ aHp h1 ∧ nEv sc 100 km (.ref 53 :: [x, y].map Value.int) h1 (some (.int z2), h2) ∧ wP h2 := by
  refine ⟨?_, a2, ?_, a4⟩
  · show nEv sc 100 kx [.ref 0, .int x, .int y] h _
    rw [sI_of x, sI_of y]
    exact a1
  · show nEv sc 100 km [.ref 53, .int x, .int y] h1 _
    rw [sI_of x, sI_of y]
    exact a3
end PUB2
theorem iN {z : Int} (h0 : 0 ≤ z) : ∃ k : Nat, z = (k : Int) := ⟨z.toNat, by omega⟩
theorem wStep {sc : List Int32} {h : mH} (x : Int32) (hp : wP h) : ∃ z1 h1 z2 h2, nEv sc 100 55 (.ref 0 :: [x].map Value.int) h (some (.int z1), h1) ∧ aHp h1 ∧ nEv sc 100 162 (.ref 53 :: [x].map Value.int) h1 (some (.int z2), h2) ∧ wP h2 ∧ z2 = z1 := by
  have hh := wP_a h hp
  have rx : sR x.toInt := aI_rg x
  have e3 : hI h 3 3 = hI h 58 0 := hp.2.1.1
  have e4 : hI h 3 4 = hI h 58 43 := hp.2.1.2.1
  have e5 : hI h 3 5 = hI h 58 80 := hp.2.1.2.2.1
  have gd := hI_rg hh xw_d
  have gu := hI_rg hh xw_u
  have gp := hI_rg hh xw_p
  by_cases c1 : 0 ≤ x.toInt ∧ x.toInt < hI h 3 3
  · by_cases c2 : hI h 3 5 = 40
    · exact pair1 (fStepXf (d := 97) hh rx ⟨c1, c2⟩) hh (fStepMf (d := 97) hh rx ⟨by omega, by omega⟩) hp rfl
    · obtain ⟨a, ea⟩ := iN c1.1
      obtain ⟨U, eU⟩ := iN gu.1
      obtain ⟨D, eD⟩ := iN gd.1
      rw [ea] at c1
      obtain ⟨g1, r1, r2, r3⟩ := fStepX (sc := sc) (d := 97) hh c1.2 eU eD (by omega)
      have k0 : ∀ p m, ¬ (3 ≤ p ∧ p ≤ 6) → aSlot g1 p m = aSlot h p m := fun p m w => by rw [r3, if_neg (by omega), if_neg (by omega), if_neg (by omega)]
      have q0 : ∀ m, hI g1 58 m = hI h 58 m := fun m => hI_cg (k0 58 m (by omega))
      obtain ⟨g2, y1, y2, y3⟩ := fStepM (sc := sc) (d := 97) (a := a) (U := U) (D := D) r2 (by rw [q0]; omega) (by rw [q0]; omega) (by rw [q0]; omega) (by omega)
      refine pair1 (h1 := g1) (h2 := g2) (by rw [ea]; exact r1) r2 (by rw [ea]; exact y1) (wP_now hp y2 k0 (fun p m w => by rw [y3, if_neg (by omega), if_neg (by omega), if_neg (by omega), if_neg (by omega), if_neg (by omega)]) (nR_move (wP_two hp k0) (by omega) eU (by omega) (by omega) eD (by omega) r3 y3)) rfl
  · exact pair1 (fStepXb (d := 97) hh rx c1) hh (fStepMb (d := 97) hh rx (by omega)) hp rfl
theorem wMeet {sc : List Int32} {h : mH} (x y w : Int32) (hp : wP h) : ∃ z1 h1 z2 h2, nEv sc 100 59 (.ref 0 :: [x, y, w].map Value.int) h (some (.int z1), h1) ∧ aHp h1 ∧ nEv sc 100 167 (.ref 53 :: [x, y, w].map Value.int) h1 (some (.int z2), h2) ∧ wP h2 ∧ z2 = z1 := by
  have hh := wP_a h hp
  have rx : sR x.toInt := aI_rg x
  have ry : sR y.toInt := aI_rg y
  have rw' : sR w.toInt := aI_rg w
  have e3 : hI h 3 3 = hI h 58 0 := hp.2.1.1
  have e5 : hI h 3 5 = hI h 58 80 := hp.2.1.2.2.1
  have gd := hI_rg hh xw_d
  have gp := hI_rg hh xw_p
  by_cases c1 : (0 ≤ x.toInt ∧ x.toInt < hI h 3 3) ∧ (0 ≤ y.toInt ∧ y.toInt < hI h 3 3) ∧ x.toInt ≠ y.toInt
  · by_cases c2 : 1 ≤ w.toInt ∧ w.toInt ≤ 9
    · obtain ⟨a, ea⟩ := iN c1.1.1
      obtain ⟨b, eb⟩ := iN c1.2.1.1
      obtain ⟨D, eD⟩ := iN gd.1
      obtain ⟨n, en⟩ := iN gp.1
      rw [ea, eb] at c1
      have el : hI h 5 (6 * a + b) = hI h 58 (7 + (6 * a + b)) := (hp.2.1.2.2.2.1 a (by omega)).2 b (by omega)
      by_cases c3 : hI h 5 (6 * a + b) = 0
      · by_cases c4 : hI h 3 5 = 40
        · exact pair3 (by rw [ea, eb]; exact fMeetXf (d := 96) hh (by omega) (by omega) (by omega) c2.1 c2.2 c3 c4) hh (by rw [ea, eb]; exact fMeetMf (d := 96) hh (by omega) (by omega) (by omega) c2.1 c2.2 (by omega) (by omega)) hp rfl
        · obtain ⟨g1, r1, r2, r3⟩ := fMeetX (sc := sc) (d := 96) (a := a) (b := b) hh (by omega) (by omega) (by omega) c2.1 c2.2 en c3 eD (by omega)
          have k0 : ∀ p m, ¬ (3 ≤ p ∧ p ≤ 6) → aSlot g1 p m = aSlot h p m := fun p m w => by rw [r3, if_neg (by omega), if_neg (by omega), if_neg (by omega)]
          have q0 : ∀ m, hI g1 58 m = hI h 58 m := fun m => hI_cg (k0 58 m (by omega))
          obtain ⟨g2, y1, y2, y3⟩ := fMeetM (sc := sc) (d := 96) (a := a) (b := b) (n := n) (D := D) r2 (by rw [q0]; omega) (by rw [q0]; omega) (by omega) c2.1 c2.2 (by rw [q0]; omega) (by rw [q0]; omega) (by rw [q0]; omega) (by omega)
          have hr := nR_see (wP_two hp k0) (show a < 6 by omega) (show b < 6 by omega) (by omega) c2.2 (by omega) eD (by omega) r3 y3
          have en1 : hI g1 3 3 = n := (hI_cg (by rw [r3, if_neg (by omega), if_neg (by omega), if_neg (by omega)])).trans en
          have hw := wP_now hp y2 k0 (fun p m w => by rw [y3, if_neg (by omega), if_neg (by omega), if_neg (by omega), if_neg (by omega), if_neg (by omega)]) hr
          refine pair3 (h1 := g1) (h2 := g2) (by rw [ea, eb]; exact r1) r2 (by rw [ea, eb]; exact y1) hw ?_
          rw [uA_cg (fun a b ha hb => ((hr.2.2.2.1 a (by omega)).2 b (by omega)).symm) n (Nat.le_refl n)]
      · exact pair3 (by rw [ea, eb]; exact fMeetXs (d := 96) hh (by omega) (by omega) (by omega) c2.1 c2.2 c3) hh (by rw [ea, eb]; exact fMeetMs (d := 96) hh (by omega) (by omega) (by omega) c2.1 c2.2 (by omega)) hp rfl
    · exact pair3 (fMeetXb2 (d := 96) hh rx ry rw' ⟨c1, c2⟩) hh (fMeetMb3 (d := 96) hh rx ry rw' ⟨by omega, c2⟩) hp rfl
  · by_cases d1 : 0 ≤ x.toInt ∧ x.toInt < hI h 58 0
    · by_cases d2 : 0 ≤ y.toInt ∧ y.toInt < hI h 58 0
      · exact pair3 (fMeetXb1 (d := 96) hh rx ry rw' c1) hh (fMeetMb2 (d := 96) hh rx ry rw' ⟨d1, d2, by omega⟩) hp rfl
      · exact pair3 (fMeetXb1 (d := 96) hh rx ry rw' c1) hh (fMeetMb1 (d := 96) hh rx ry rw' ⟨d1, d2⟩) hp rfl
    · exact pair3 (fMeetXb1 (d := 96) hh rx ry rw' c1) hh (fMeetMb0 (d := 96) hh rx ry rw' d1) hp rfl
theorem sF_cg {G G1 : Nat → Int} {n kd a s : Nat} (hg : ∀ b, b < n → G1 (6 * a + b) = G (6 * a + b)) : ∀ b, b ≤ n → sF G1 kd a s b = sF G kd a s b
  | 0, _ => rfl
  | b + 1, hb => by
    unfold sF
    rw [sF_cg hg b (by omega), hg b (by omega)]
theorem pSeem_cg {G G1 : Nat → Int} {n kd a s : Nat} (hg : ∀ b, b < n → G1 (6 * a + b) = G (6 * a + b)) : pSeem G1 n kd a s = pSeem G n kd a s := by
  unfold pSeem
  rw [sF_cg hg n (Nat.le_refl n)]
/-- may two have a treaty: class and reference say the same -/
theorem wMay {sc : List Int32} {a b : Nat} {h g : mH} (hh : aHp h) (hg : aHp g) (hr : nR h g) (ha : (a : Int) < hI h 3 3) (hb : (b : Int) < hI h 3 3) : ∃ v : Int, (v = 0 ∨ v = 1 ∧ a ≠ b) ∧ (∀ d, nEv sc (d + 6) 64 [.ref 3, sI (a : Int), sI (b : Int)] h (some (sI v), h)) ∧ ∀ d, nEv sc (d + 6) 170 [.ref 53, sI (a : Int), sI (b : Int)] g (some (sI v), g) := by
  have gp := hI_rg hh xw_p
  have gu := hI_rg hh xw_u
  obtain ⟨a1, a2, a3, a4, a5, a6⟩ := hr
  obtain ⟨n, en⟩ := iN gp.1
  obtain ⟨U, eU⟩ := iN gu.1
  obtain ⟨ka, eka⟩ := iN (hI_rg hh (xw_k (show a < 6 by omega))).1
  obtain ⟨kb, ekb⟩ := iN (hI_rg hh (xw_k (show b < 6 by omega))).1
  have x1 := fun d => fMayX (sc := sc) (d := d) (n := n) (U := U) hh en (show a < 6 by omega) (show b < 6 by omega) eU eka ekb
  have x2 := fun d => fMayM (sc := sc) (d := d + 1) (n := n) (U := U) (a := a) (b := b) (ka := ka) (kb := kb) hg (by omega) (by omega) (by omega) (by omega) (by rw [← (a4 a ha).1]; exact eka) (by rw [← (a4 b hb).1]; exact ekb)
  rw [pSeem_cg (G := hI h 5) (a := a) (fun c hc => ((a4 a ha).2 c (by omega)).symm), pSeem_cg (G := hI h 5) (a := b) (fun c hc => ((a4 b hb).2 c (by omega)).symm)] at x2
  have e1 : pMay a b (decide (hI g 58 (44 + (6 * a + b)) ≠ 0)) (pAg (pSeem (hI h 5) n ka a U) (pSeem (hI h 5) n kb b U) (bt U a) (bt U b)) = pMay a b (tb (hJ h 3 6) (pI a b)) (pAg (pSeem (hI h 5) n ka a U) (pSeem (hI h 5) n kb b U) (bt U a) (bt U b)) := by
    have t1 := a5.1 a (by omega) b (by omega)
    have t1 : hI g 58 (44 + (6 * a + b)) = if a ≠ b ∧ tb (hJ h 3 6) (pI a b) = true then 1 else 0 := t1
    unfold pMay
    by_cases hab : a = b
    · rw [decide_eq_false (fun q => q hab), Bool.false_and, Bool.false_and]
    · rw [t1]
      cases tb (hJ h 3 6) (pI a b) with
      | true => rw [if_pos ⟨hab, rfl⟩]; rfl
      | false => rw [if_neg (fun q => absurd q.2 (by decide))]; rfl
  rw [e1] at x2
  cases hv : pMay a b (tb (hJ h 3 6) (pI a b)) (pAg (pSeem (hI h 5) n ka a U) (pSeem (hI h 5) n kb b U) (bt U a) (bt U b)) with
  | true =>
    rw [hv, if_pos rfl] at x1 x2
    exact ⟨1, Or.inr ⟨rfl, (pMay_iff.mp hv).1⟩, x1, x2⟩
  | false =>
    rw [hv, if_neg (by decide)] at x1 x2
    exact ⟨0, Or.inl rfl, x1, x2⟩
theorem wTreat {sc : List Int32} {h : mH} (x y : Int32) (hp : wP h) : ∃ z1 h1 z2 h2, nEv sc 100 63 (.ref 0 :: [x, y].map Value.int) h (some (.int z1), h1) ∧ aHp h1 ∧ nEv sc 100 169 (.ref 53 :: [x, y].map Value.int) h1 (some (.int z2), h2) ∧ wP h2 := by
  have hh := wP_a h hp
  have rx : sR x.toInt := aI_rg x
  have ry : sR y.toInt := aI_rg y
  have e3 : hI h 3 3 = hI h 58 0 := hp.2.1.1
  have e5 : hI h 3 5 = hI h 58 80 := hp.2.1.2.2.1
  have gd := hI_rg hh xw_d
  have gp := hI_rg hh xw_p
  by_cases c1 : (0 ≤ x.toInt ∧ x.toInt < hI h 3 3) ∧ (0 ≤ y.toInt ∧ y.toInt < hI h 3 3) ∧ x.toInt ≠ y.toInt
  · obtain ⟨a, ea⟩ := iN c1.1.1
    obtain ⟨b, eb⟩ := iN c1.2.1.1
    obtain ⟨D, eD⟩ := iN gd.1
    rw [ea, eb] at c1
    obtain ⟨v, hv, m1, m2⟩ := wMay (sc := sc) hh hh hp.2.1 (a := a) (b := b) (by omega) (by omega)
    rcases hv with rfl | ⟨rfl, hab⟩
    · exact ⟨_, h, _, h, pair2 (by rw [ea, eb]; exact fTreatXs (d := 93) hh (by omega) (by omega) (by omega) (m1 93)) hh (by rw [ea, eb]; exact fTreatMs (d := 93) hh (by omega) (by omega) (by omega) (m2 93)) hp⟩
    · by_cases c4 : hI h 3 5 = 40
      · exact ⟨_, h, _, h, pair2 (by rw [ea, eb]; exact fTreatXf (d := 93) hh (by omega) (by omega) (by omega) (m1 93) c4) hh (by rw [ea, eb]; exact fTreatMf (d := 93) hh (by omega) (by omega) (by omega) (m2 93) (by omega)) hp⟩
      · obtain ⟨g1, r1, r2, r3⟩ := fTreatX (sc := sc) (d := 93) (a := a) (b := b) hh (by omega) (by omega) (by omega) (m1 93) eD (by omega)
        have k0 : ∀ p m, ¬ (3 ≤ p ∧ p ≤ 6) → aSlot g1 p m = aSlot h p m := fun p m w => by rw [r3, if_neg (by omega), if_neg (by omega), if_neg (by omega)]
        have q0 : ∀ m, hI g1 58 m = hI h 58 m := fun m => hI_cg (k0 58 m (by omega))
        have hr := wP_two hp k0
        obtain ⟨v, hv, n1, n2⟩ := wMay (sc := sc) hh r2 hr (a := a) (b := b) (by omega) (by omega)
        have ev : v = 1 := by
          have e := nEv_det (m1 93) (n1 93)
          rcases hv with rfl | ⟨rfl, -⟩
          · exact absurd (Value.int.inj (Option.some.inj (congrArg Prod.fst e : (some (sI 1) : Option Value) = some (sI 0)))) (by decide)
          · rfl
        subst ev
        obtain ⟨g2, y1, y2, y3⟩ := fTreatM (sc := sc) (d := 93) (a := a) (b := b) (D := D) r2 (by rw [q0]; omega) (by rw [q0]; omega) (by omega) (n2 93) (by rw [q0]; omega) (by omega)
        exact ⟨_, g1, _, g2, pair2 (by rw [ea, eb]; exact r1) r2 (by rw [ea, eb]; exact y1) (wP_now hp y2 k0 (fun p m w => by rw [y3, if_neg (by omega), if_neg (by omega), if_neg (by omega), if_neg (by omega), if_neg (by omega), if_neg (by omega)]) (nR_bind hr (by omega) (by omega) hab (by omega) eD (by omega) r3 y3))⟩
  · by_cases d1 : 0 ≤ x.toInt ∧ x.toInt < hI h 58 0
    · by_cases d2 : 0 ≤ y.toInt ∧ y.toInt < hI h 58 0
      · exact ⟨_, h, _, h, pair2 (fTreatXb (d := 93) hh rx ry c1) hh (fTreatMb2 (d := 93) hh rx ry ⟨d1, d2, by omega⟩) hp⟩
      · exact ⟨_, h, _, h, pair2 (fTreatXb (d := 93) hh rx ry c1) hh (fTreatMb1 (d := 93) hh rx ry ⟨d1, d2⟩) hp⟩
    · exact ⟨_, h, _, h, pair2 (fTreatXb (d := 93) hh rx ry c1) hh (fTreatMb0 (d := 93) hh rx ry d1) hp⟩
