/-! looks -/
section LOOKS
variable {sc : List Int32} {d : Nat} {h : mH}
theorem fLooksXb0 {a b : Int} (hh : aHp h) (ra : sR a) (rb : sR b) (hc : ¬ (0 ≤ a ∧ a < hI h 3 3)) : nEv sc (d + 3) 48 [.ref 0, sI a, sI b] h (some (sI (-1)), h) := by
  have gp := hI_rg hh xw_p
  unfold sR aMi aMa at ra rb
  refine nEv_of (t := mMe48) rfl ?_
  show nRn sc (d + 2) (mMT mMe48) (mMC mMe48) (0, [some (.ref 0), some (sI a), some (sI b)], [], h) _
  refine sP 1 (g1 := (1, [some (.ref 0), some (sI a), some (sI b)], [.ref 0], h)) rfl ?_
  refine s_get (a := 0) (j := 2) hh rfl ⟨_, rfl⟩ rfl rfl rfl (v := .ref 3) (hR_ok hh (by decide +kernel)) ?_
  refine sP 1 (g1 := (3, [some (.ref 0), some (sI a), some (sI b)], [sI a, .ref 3], h)) rfl ?_
  have ev1 := fHasX (sc := sc) (d := d + 1) (a := a) hh (by unfold sR aMi aMa; omega)
  rw [if_neg (by omega)] at ev1
  refine s_call (k := 35) (args := [.ref 3, sI a]) (st := []) (v := some (sI 0)) (h1 := h) rfl ⟨rfl, rfl⟩ rfl rfl rfl rfl (sRcv hh (a := 3) rfl rfl) rfl ev1 ?_
  refine s_ifc (q := .eq) (a := 0) rfl ⟨_, rfl⟩ rfl (by unfold sR aMi aMa; omega) (fun hc2 => ?_) (fun hc2 => ?_)
  · have hc2 : (0 : Int) = 0 := hc2
    refine sP 1 (g1 := (11, [some (.ref 0), some (sI a), some (sI b)], [sI ((-1))], h)) rfl ?_
    exact s_reti rfl rfl (Or.inl rfl) rfl rfl
  · have hc2 : ¬ ((0 : Int) = 0) := hc2
    omega
theorem fLooksXb1 {a b : Int} (hh : aHp h) (ra : sR a) (rb : sR b) (hc : (0 ≤ a ∧ a < hI h 3 3) ∧ ¬ (0 ≤ b ∧ b < hI h 3 3)) : nEv sc (d + 3) 48 [.ref 0, sI a, sI b] h (some (sI (-1)), h) := by
  have gp := hI_rg hh xw_p
  unfold sR aMi aMa at ra rb
  refine nEv_of (t := mMe48) rfl ?_
  show nRn sc (d + 2) (mMT mMe48) (mMC mMe48) (0, [some (.ref 0), some (sI a), some (sI b)], [], h) _
  refine sP 1 (g1 := (1, [some (.ref 0), some (sI a), some (sI b)], [.ref 0], h)) rfl ?_
  refine s_get (a := 0) (j := 2) hh rfl ⟨_, rfl⟩ rfl rfl rfl (v := .ref 3) (hR_ok hh (by decide +kernel)) ?_
  refine sP 1 (g1 := (3, [some (.ref 0), some (sI a), some (sI b)], [sI a, .ref 3], h)) rfl ?_
  have ev1 := fHasX (sc := sc) (d := d + 1) (a := a) hh (by unfold sR aMi aMa; omega)
  rw [if_pos (by omega)] at ev1
  refine s_call (k := 35) (args := [.ref 3, sI a]) (st := []) (v := some (sI 1)) (h1 := h) rfl ⟨rfl, rfl⟩ rfl rfl rfl rfl (sRcv hh (a := 3) rfl rfl) rfl ev1 ?_
  refine s_ifc (q := .eq) (a := 1) rfl ⟨_, rfl⟩ rfl (by unfold sR aMi aMa; omega) (fun hc2 => ?_) (fun hc2 => ?_)
  · have hc2 : (1 : Int) = 0 := hc2
    omega
  · have hc2 : ¬ ((1 : Int) = 0) := hc2
    refine sP 1 (g1 := (6, [some (.ref 0), some (sI a), some (sI b)], [.ref 0], h)) rfl ?_
    refine s_get (a := 0) (j := 2) hh rfl ⟨_, rfl⟩ rfl rfl rfl (v := .ref 3) (hR_ok hh (by decide +kernel)) ?_
    refine sP 1 (g1 := (8, [some (.ref 0), some (sI a), some (sI b)], [sI b, .ref 3], h)) rfl ?_
    have ev3 := fHasX (sc := sc) (d := d + 1) (a := b) hh (by unfold sR aMi aMa; omega)
    rw [if_neg (by omega)] at ev3
    refine s_call (k := 35) (args := [.ref 3, sI b]) (st := []) (v := some (sI 0)) (h1 := h) rfl ⟨rfl, rfl⟩ rfl rfl rfl rfl (sRcv hh (a := 3) rfl rfl) rfl ev3 ?_
    refine s_ifc (q := .ne) (a := 0) rfl ⟨_, rfl⟩ rfl (by unfold sR aMi aMa; omega) (fun hc4 => ?_) (fun hc4 => ?_)
    · have hc4 : (0 : Int) ≠ 0 := hc4
      omega
    · have hc4 : ¬ ((0 : Int) ≠ 0) := hc4
      refine sP 1 (g1 := (11, [some (.ref 0), some (sI a), some (sI b)], [sI ((-1))], h)) rfl ?_
      exact s_reti rfl rfl (Or.inl rfl) rfl rfl
theorem fLooksMb0 {a b : Int} (hh : aHp h) (ra : sR a) (rb : sR b) (hc : ¬ (0 ≤ a ∧ a < hI h 58 0)) : nEv sc (d + 3) 156 [.ref 53, sI a, sI b] h (some (sI (-1)), h) := by
  have gp := hI_rg hh nw_p
  unfold sR aMi aMa at ra rb
  refine nEv_of (t := mMe156) rfl ?_
  show nRn sc (d + 2) (mMT mMe156) (mMC mMe156) (0, [some (.ref 53), some (sI a), some (sI b)], [], h) _
  refine sP 2 (g1 := (2, [some (.ref 53), some (sI a), some (sI b)], [sI a, .ref 53], h)) rfl ?_
  have ev1 := fIsPerson (sc := sc) (d := d + 0) (a := a) hh (by unfold sR aMi aMa; omega)
  rw [if_neg (by omega)] at ev1
  refine s_call (k := 147) (args := [.ref 53, sI a]) (st := []) (v := some (sI 0)) (h1 := h) rfl ⟨rfl, rfl⟩ rfl rfl rfl rfl (sRcv hh (a := 53) rfl rfl) rfl ev1 ?_
  refine s_ifc (q := .eq) (a := 0) rfl ⟨_, rfl⟩ rfl (by unfold sR aMi aMa; omega) (fun hc2 => ?_) (fun hc2 => ?_)
  · have hc2 : (0 : Int) = 0 := hc2
    refine sP 1 (g1 := (14, [some (.ref 53), some (sI a), some (sI b)], [sI ((-1))], h)) rfl ?_
    exact s_reti rfl rfl (Or.inl rfl) rfl rfl
  · have hc2 : ¬ ((0 : Int) = 0) := hc2
    omega
theorem fLooksMb1 {a b : Int} (hh : aHp h) (ra : sR a) (rb : sR b) (hc : (0 ≤ a ∧ a < hI h 58 0) ∧ ¬ (0 ≤ b ∧ b < hI h 58 0)) : nEv sc (d + 3) 156 [.ref 53, sI a, sI b] h (some (sI (-1)), h) := by
  have gp := hI_rg hh nw_p
  unfold sR aMi aMa at ra rb
  refine nEv_of (t := mMe156) rfl ?_
  show nRn sc (d + 2) (mMT mMe156) (mMC mMe156) (0, [some (.ref 53), some (sI a), some (sI b)], [], h) _
  refine sP 2 (g1 := (2, [some (.ref 53), some (sI a), some (sI b)], [sI a, .ref 53], h)) rfl ?_
  have ev1 := fIsPerson (sc := sc) (d := d + 0) (a := a) hh (by unfold sR aMi aMa; omega)
  rw [if_pos (by omega)] at ev1
  refine s_call (k := 147) (args := [.ref 53, sI a]) (st := []) (v := some (sI 1)) (h1 := h) rfl ⟨rfl, rfl⟩ rfl rfl rfl rfl (sRcv hh (a := 53) rfl rfl) rfl ev1 ?_
  refine s_ifc (q := .eq) (a := 1) rfl ⟨_, rfl⟩ rfl (by unfold sR aMi aMa; omega) (fun hc2 => ?_) (fun hc2 => ?_)
  · have hc2 : (1 : Int) = 0 := hc2
    omega
  · have hc2 : ¬ ((1 : Int) = 0) := hc2
    refine sP 2 (g1 := (6, [some (.ref 53), some (sI a), some (sI b)], [sI b, .ref 53], h)) rfl ?_
    have ev3 := fIsPerson (sc := sc) (d := d + 0) (a := b) hh (by unfold sR aMi aMa; omega)
    rw [if_neg (by omega)] at ev3
    refine s_call (k := 147) (args := [.ref 53, sI b]) (st := []) (v := some (sI 0)) (h1 := h) rfl ⟨rfl, rfl⟩ rfl rfl rfl rfl (sRcv hh (a := 53) rfl rfl) rfl ev3 ?_
    refine s_ifc (q := .eq) (a := 0) rfl ⟨_, rfl⟩ rfl (by unfold sR aMi aMa; omega) (fun hc4 => ?_) (fun hc4 => ?_)
    · have hc4 : (0 : Int) = 0 := hc4
      refine sP 1 (g1 := (14, [some (.ref 53), some (sI a), some (sI b)], [sI ((-1))], h)) rfl ?_
      exact s_reti rfl rfl (Or.inl rfl) rfl rfl
    · have hc4 : ¬ ((0 : Int) = 0) := hc4
      omega
theorem fLooksX {a b : Nat} (hh : aHp h) (ha : (a : Int) < hI h 3 3) (hb : (b : Int) < hI h 3 3) : nEv sc (d + 3) 48 [.ref 0, sI (a : Int), sI (b : Int)] h (some (sI (hI h 5 (6 * a + b))), h) := by
  have gp := hI_rg hh xw_p
  refine nEv_of (t := mMe48) rfl ?_
  show nRn sc (d + 2) (mMT mMe48) (mMC mMe48) (0, [some (.ref 0), some (sI ((a : Int))), some (sI ((b : Int)))], [], h) _
  refine sP 1 (g1 := (1, [some (.ref 0), some (sI ((a : Int))), some (sI ((b : Int)))], [.ref 0], h)) rfl ?_
  refine s_get (a := 0) (j := 2) hh rfl ⟨_, rfl⟩ rfl rfl rfl (v := .ref 3) (hR_ok hh (by decide +kernel)) ?_
  refine sP 1 (g1 := (3, [some (.ref 0), some (sI ((a : Int))), some (sI ((b : Int)))], [sI ((a : Int)), .ref 3], h)) rfl ?_
  have ev1 := fHasX (sc := sc) (d := d + 1) (a := (a : Int)) hh (by unfold sR aMi aMa; omega)
  rw [if_pos (by omega)] at ev1
  refine s_call (k := 35) (args := [.ref 3, sI ((a : Int))]) (st := []) (v := some (sI 1)) (h1 := h) rfl ⟨rfl, rfl⟩ rfl rfl rfl rfl (sRcv hh (a := 3) rfl rfl) rfl ev1 ?_
  refine s_ifc (q := .eq) (a := 1) rfl ⟨_, rfl⟩ rfl (by unfold sR aMi aMa; omega) (fun hc2 => ?_) (fun hc2 => ?_)
  · have hc2 : (1 : Int) = 0 := hc2
    omega
  · have hc2 : ¬ ((1 : Int) = 0) := hc2
    refine sP 1 (g1 := (6, [some (.ref 0), some (sI ((a : Int))), some (sI ((b : Int)))], [.ref 0], h)) rfl ?_
    refine s_get (a := 0) (j := 2) hh rfl ⟨_, rfl⟩ rfl rfl rfl (v := .ref 3) (hR_ok hh (by decide +kernel)) ?_
    refine sP 1 (g1 := (8, [some (.ref 0), some (sI ((a : Int))), some (sI ((b : Int)))], [sI ((b : Int)), .ref 3], h)) rfl ?_
    have ev3 := fHasX (sc := sc) (d := d + 1) (a := (b : Int)) hh (by unfold sR aMi aMa; omega)
    rw [if_pos (by omega)] at ev3
    refine s_call (k := 35) (args := [.ref 3, sI ((b : Int))]) (st := []) (v := some (sI 1)) (h1 := h) rfl ⟨rfl, rfl⟩ rfl rfl rfl rfl (sRcv hh (a := 3) rfl rfl) rfl ev3 ?_
    refine s_ifc (q := .ne) (a := 1) rfl ⟨_, rfl⟩ rfl (by unfold sR aMi aMa; omega) (fun hc4 => ?_) (fun hc4 => ?_)
    · have hc4 : (1 : Int) ≠ 0 := hc4
      refine sP 1 (g1 := (13, [some (.ref 0), some (sI ((a : Int))), some (sI ((b : Int)))], [.ref 0], h)) rfl ?_
      refine s_get (a := 0) (j := 2) hh rfl ⟨_, rfl⟩ rfl rfl rfl (v := .ref 3) (hR_ok hh (by decide +kernel)) ?_
      refine sP 2 (g1 := (16, [some (.ref 0), some (sI ((a : Int))), some (sI ((b : Int)))], [sI ((b : Int)), sI ((a : Int)), .ref 3], h)) rfl ?_
      refine s_call (k := 40) (args := [.ref 3, sI ((a : Int)), sI ((b : Int))]) (st := []) (v := some (sI (hI h 5 (6 * a + b)))) (h1 := h) rfl ⟨rfl, rfl⟩ rfl rfl rfl rfl (sRcv hh (a := 3) rfl rfl) rfl (fLookX (e := 3) hh (by decide) (by omega) (by omega)) ?_
      exact s_reti rfl rfl (Or.inl rfl) rfl rfl
    · have hc4 : ¬ ((1 : Int) ≠ 0) := hc4
      omega
theorem fLooksM {a b : Nat} (hh : aHp h) (ha : (a : Int) < hI h 58 0) (hb : (b : Int) < hI h 58 0) : nEv sc (d + 3) 156 [.ref 53, sI (a : Int), sI (b : Int)] h (some (sI (hI h 58 (7 + (6 * a + b)))), h) := by
  have gp := hI_rg hh nw_p
  refine nEv_of (t := mMe156) rfl ?_
  show nRn sc (d + 2) (mMT mMe156) (mMC mMe156) (0, [some (.ref 53), some (sI ((a : Int))), some (sI ((b : Int)))], [], h) _
  refine sP 2 (g1 := (2, [some (.ref 53), some (sI ((a : Int))), some (sI ((b : Int)))], [sI ((a : Int)), .ref 53], h)) rfl ?_
  have ev1 := fIsPerson (sc := sc) (d := d + 0) (a := (a : Int)) hh (by unfold sR aMi aMa; omega)
  rw [if_pos (by omega)] at ev1
  refine s_call (k := 147) (args := [.ref 53, sI ((a : Int))]) (st := []) (v := some (sI 1)) (h1 := h) rfl ⟨rfl, rfl⟩ rfl rfl rfl rfl (sRcv hh (a := 53) rfl rfl) rfl ev1 ?_
  refine s_ifc (q := .eq) (a := 1) rfl ⟨_, rfl⟩ rfl (by unfold sR aMi aMa; omega) (fun hc2 => ?_) (fun hc2 => ?_)
  · have hc2 : (1 : Int) = 0 := hc2
    omega
  · have hc2 : ¬ ((1 : Int) = 0) := hc2
    refine sP 2 (g1 := (6, [some (.ref 53), some (sI ((a : Int))), some (sI ((b : Int)))], [sI ((b : Int)), .ref 53], h)) rfl ?_
    have ev3 := fIsPerson (sc := sc) (d := d + 0) (a := (b : Int)) hh (by unfold sR aMi aMa; omega)
    rw [if_pos (by omega)] at ev3
    refine s_call (k := 147) (args := [.ref 53, sI ((b : Int))]) (st := []) (v := some (sI 1)) (h1 := h) rfl ⟨rfl, rfl⟩ rfl rfl rfl rfl (sRcv hh (a := 53) rfl rfl) rfl ev3 ?_
    refine s_ifc (q := .eq) (a := 1) rfl ⟨_, rfl⟩ rfl (by unfold sR aMi aMa; omega) (fun hc4 => ?_) (fun hc4 => ?_)
    · have hc4 : (1 : Int) = 0 := hc4
      omega
    · have hc4 : ¬ ((1 : Int) = 0) := hc4
      refine sP 3 (g1 := (11, [some (.ref 53), some (sI ((a : Int))), some (sI ((b : Int)))], [sI ((b : Int)), sI ((a : Int)), .ref 53], h)) rfl ?_
      refine s_call (k := 152) (args := [.ref 53, sI ((a : Int)), sI ((b : Int))]) (st := []) (v := some (sI (hI h 58 (7 + (6 * a + b))))) (h1 := h) rfl ⟨rfl, rfl⟩ rfl rfl rfl rfl (sRcv hh (a := 53) rfl rfl) rfl (fLookM hh (by omega) (by omega)) ?_
      refine sP 1 (g1 := (14, [some (.ref 53), some (sI ((a : Int))), some (sI ((b : Int)))], [sI (hI h 58 (7 + (6 * a + b)))], h)) rfl ?_
      exact s_reti rfl rfl (Or.inl rfl) rfl rfl
end LOOKS
theorem pair2e {sc : List Int32} {h h1 h2 : mH} {kx km : Nat} {x y : Int32} {v1 v2 : Int} (a1 : nEv sc 100 kx [.ref 0, sI x.toInt, sI y.toInt] h (some (sI v1), h1)) (a2 : aHp h1) (a3 : nEv sc 100 km [.ref 53, sI x.toInt, sI y.toInt] h1 (some (sI v2), h2)) (a4 : wP h2) (a5 : v2 = v1) : ∃ z1 h1 z2 h2, nEv sc 100 kx (.ref 0 :: [x, y].map Value.int) h (some (.int z1), h1) ∧ aHp h1 ∧ nEv sc 100 km (.ref 53 :: [x, y].map Value.int) h1 (some (.int z2), h2) ∧ wP h2 ∧ z2 = z1 := by
  obtain ⟨b1, b2, b3, b4⟩ := pair2 (x := x) (y := y) a1 a2 a3 a4
  exact ⟨_, h1, _, h2, b1, b2, b3, b4, by rw [a5]⟩
theorem wLooks {sc : List Int32} {h : mH} (x y : Int32) (hp : wP h) : ∃ z1 h1 z2 h2, nEv sc 100 48 (.ref 0 :: [x, y].map Value.int) h (some (.int z1), h1) ∧ aHp h1 ∧ nEv sc 100 156 (.ref 53 :: [x, y].map Value.int) h1 (some (.int z2), h2) ∧ wP h2 ∧ z2 = z1 := by
  have hh := wP_a h hp
  have rx : sR x.toInt := aI_rg x
  have ry : sR y.toInt := aI_rg y
  have e3 : hI h 3 3 = hI h 58 0 := hp.2.1.1
  by_cases c1 : 0 ≤ x.toInt ∧ x.toInt < hI h 3 3
  · by_cases c2 : 0 ≤ y.toInt ∧ y.toInt < hI h 3 3
    · obtain ⟨a, ea⟩ := iN c1.1
      obtain ⟨b, eb⟩ := iN c2.1
      exact pair2e (by rw [ea, eb]; exact fLooksX (d := 97) hh (by omega) (by omega)) hh (by rw [ea, eb]; exact fLooksM (d := 97) hh (by omega) (by omega)) hp ((hp.2.1.2.2.2.1 a (by omega)).2 b (by omega)).symm
    · exact pair2e (fLooksXb1 (d := 97) hh rx ry ⟨c1, c2⟩) hh (fLooksMb1 (d := 97) hh rx ry ⟨by omega, by omega⟩) hp rfl
  · exact pair2e (fLooksXb0 (d := 97) hh rx ry c1) hh (fLooksMb0 (d := 97) hh rx ry (by omega)) hp rfl
