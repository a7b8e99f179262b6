/-! lots, as a call -/
section LOTP
variable {sc : List Int32} {d : Nat} {h g h1 g1 : mH}
theorem fLotsXb {n s : Int} (hh : aHp h) (rn : sR n) (rs : sR s) (hc : ¬ (1 ≤ n ∧ n ≤ 20 ∧ 1 ≤ s ∧ s ≤ 2147483646)) : nEv sc (d + 8) 108 [.ref 0, sI n, sI s] h (some (sI (-1)), h) := by
  have gp := hI_rg hh xw_p
  have gd := hI_rg hh xw_d
  unfold sR aMi aMa at rn rs
  refine nEv_of (t := mMe108) rfl ?_
  show nRn sc (d + 7) (mMT mMe108) (mMC mMe108) (0, [some (.ref 0), some (sI n), some (sI s), none, none, none], [], h) _
  refine sP 2 (g1 := (2, [some (.ref 0), some (sI n), some (sI s), none, none, none], [sI 1, sI n], h)) rfl ?_
  refine s_icmp (q := .lt) (a := n) (b := 1) rfl ⟨_, rfl⟩ rfl (by unfold sR aMi aMa; omega) (by unfold sR aMi aMa; omega) (fun hc1 => ?_) (fun hc1 => ?_)
  · have hc1 : (n : Int) < 1 := hc1
    refine sP 1 (g1 := (15, [some (.ref 0), some (sI n), some (sI s), none, none, none], [sI ((-1))], h)) rfl ?_
    exact s_reti rfl rfl (Or.inl rfl) rfl rfl
  · have hc1 : ¬ ((n : Int) < 1) := hc1
    refine sP 2 (g1 := (5, [some (.ref 0), some (sI n), some (sI s), none, none, none], [sI 20, sI n], h)) rfl ?_
    refine s_icmp (q := .gt) (a := n) (b := 20) rfl ⟨_, rfl⟩ rfl (by unfold sR aMi aMa; omega) (by unfold sR aMi aMa; omega) (fun hc2 => ?_) (fun hc2 => ?_)
    · have hc2 : (20 : Int) < n := hc2
      refine sP 1 (g1 := (15, [some (.ref 0), some (sI n), some (sI s), none, none, none], [sI ((-1))], h)) rfl ?_
      exact s_reti rfl rfl (Or.inl rfl) rfl rfl
    · have hc2 : ¬ ((20 : Int) < n) := hc2
      refine sP 2 (g1 := (8, [some (.ref 0), some (sI n), some (sI s), none, none, none], [sI 1, sI s], h)) rfl ?_
      refine s_icmp (q := .lt) (a := s) (b := 1) rfl ⟨_, rfl⟩ rfl (by unfold sR aMi aMa; omega) (by unfold sR aMi aMa; omega) (fun hc3 => ?_) (fun hc3 => ?_)
      · have hc3 : (s : Int) < 1 := hc3
        refine sP 1 (g1 := (15, [some (.ref 0), some (sI n), some (sI s), none, none, none], [sI ((-1))], h)) rfl ?_
        exact s_reti rfl rfl (Or.inl rfl) rfl rfl
      · have hc3 : ¬ ((s : Int) < 1) := hc3
        refine sP 1 (g1 := (10, [some (.ref 0), some (sI n), some (sI s), none, none, none], [sI s], h)) rfl ?_
        refine s_i2l (a := s) rfl rfl (by unfold sR aMi aMa; omega) ?_
        refine sP 1 (g1 := (12, [some (.ref 0), some (sI n), some (sI s), none, none, none], [sJ 2147483647, sJ s], h)) rfl ?_
        refine s_lif (q := .lt) (a := s) (b := 2147483647) rfl rfl rfl ⟨_, rfl⟩ rfl (by unfold sRJ; omega) (by unfold sRJ; omega) (fun hc4 => ?_) (fun hc4 => ?_)
        · have hc4 : (s : Int) < 2147483647 := hc4
          omega
        · have hc4 : ¬ ((s : Int) < 2147483647) := hc4
          refine sP 1 (g1 := (15, [some (.ref 0), some (sI n), some (sI s), none, none, none], [sI ((-1))], h)) rfl ?_
          exact s_reti rfl rfl (Or.inl rfl) rfl rfl
theorem fLotsXs {n s : Int} (hh : aHp h) (rn : sR n) (rs : sR s) (hc : 1 ≤ n ∧ n ≤ 20 ∧ 1 ≤ s ∧ s ≤ 2147483646) (hz : hI h 3 3 = 0) : nEv sc (d + 8) 108 [.ref 0, sI n, sI s] h (some (sI (-4)), h) := by
  have gp := hI_rg hh xw_p
  have gd := hI_rg hh xw_d
  unfold sR aMi aMa at rn rs
  refine nEv_of (t := mMe108) rfl ?_
  show nRn sc (d + 7) (mMT mMe108) (mMC mMe108) (0, [some (.ref 0), some (sI n), some (sI s), none, none, none], [], h) _
  refine sP 2 (g1 := (2, [some (.ref 0), some (sI n), some (sI s), none, none, none], [sI 1, sI n], h)) rfl ?_
  refine s_icmp (q := .lt) (a := n) (b := 1) rfl ⟨_, rfl⟩ rfl (by unfold sR aMi aMa; omega) (by unfold sR aMi aMa; omega) (fun hc1 => ?_) (fun hc1 => ?_)
  · have hc1 : (n : Int) < 1 := hc1
    omega
  · have hc1 : ¬ ((n : Int) < 1) := hc1
    refine sP 2 (g1 := (5, [some (.ref 0), some (sI n), some (sI s), none, none, none], [sI 20, sI n], h)) rfl ?_
    refine s_icmp (q := .gt) (a := n) (b := 20) rfl ⟨_, rfl⟩ rfl (by unfold sR aMi aMa; omega) (by unfold sR aMi aMa; omega) (fun hc2 => ?_) (fun hc2 => ?_)
    · have hc2 : (20 : Int) < n := hc2
      omega
    · have hc2 : ¬ ((20 : Int) < n) := hc2
      refine sP 2 (g1 := (8, [some (.ref 0), some (sI n), some (sI s), none, none, none], [sI 1, sI s], h)) rfl ?_
      refine s_icmp (q := .lt) (a := s) (b := 1) rfl ⟨_, rfl⟩ rfl (by unfold sR aMi aMa; omega) (by unfold sR aMi aMa; omega) (fun hc3 => ?_) (fun hc3 => ?_)
      · have hc3 : (s : Int) < 1 := hc3
        omega
      · have hc3 : ¬ ((s : Int) < 1) := hc3
        refine sP 1 (g1 := (10, [some (.ref 0), some (sI n), some (sI s), none, none, none], [sI s], h)) rfl ?_
        refine s_i2l (a := s) rfl rfl (by unfold sR aMi aMa; omega) ?_
        refine sP 1 (g1 := (12, [some (.ref 0), some (sI n), some (sI s), none, none, none], [sJ 2147483647, sJ s], h)) rfl ?_
        refine s_lif (q := .lt) (a := s) (b := 2147483647) rfl rfl rfl ⟨_, rfl⟩ rfl (by unfold sRJ; omega) (by unfold sRJ; omega) (fun hc4 => ?_) (fun hc4 => ?_)
        · have hc4 : (s : Int) < 2147483647 := hc4
          refine sP 1 (g1 := (17, [some (.ref 0), some (sI n), some (sI s), none, none, none], [.ref 0], h)) rfl ?_
          refine s_get (a := 0) (j := 2) hh rfl ⟨_, rfl⟩ rfl rfl rfl (v := .ref 3) (hR_ok hh (by decide +kernel)) ?_
          refine s_get (a := 3) (j := 3) hh rfl ⟨_, rfl⟩ rfl rfl rfl (v := sI (hI h 3 3)) (hI_ok hh xw_p) ?_
          refine s_ifc (q := .ne) (a := hI h 3 3) rfl ⟨_, rfl⟩ rfl (by unfold sR aMi aMa; omega) (fun hc5 => ?_) (fun hc5 => ?_)
          · have hc5 : ((hI h 3 3) : Int) ≠ 0 := hc5
            omega
          · have hc5 : ¬ (((hI h 3 3) : Int) ≠ 0) := hc5
            refine sP 1 (g1 := (21, [some (.ref 0), some (sI n), some (sI s), none, none, none], [sI ((-4))], h)) rfl ?_
            exact s_reti rfl rfl (Or.inl rfl) rfl rfl
        · have hc4 : ¬ ((s : Int) < 2147483647) := hc4
          omega
theorem fLotsXf {n s : Int} (hh : aHp h) (rn : sR n) (rs : sR s) (hc : 1 ≤ n ∧ n ≤ 20 ∧ 1 ≤ s ∧ s ≤ 2147483646) (hz : hI h 3 3 ≠ 0) (hf : 40 < hI h 3 5 + n) : nEv sc (d + 8) 108 [.ref 0, sI n, sI s] h (some (sI (-2)), h) := by
  have gp := hI_rg hh xw_p
  have gd := hI_rg hh xw_d
  unfold sR aMi aMa at rn rs
  refine nEv_of (t := mMe108) rfl ?_
  show nRn sc (d + 7) (mMT mMe108) (mMC mMe108) (0, [some (.ref 0), some (sI n), some (sI s), none, none, none], [], h) _
  refine sP 2 (g1 := (2, [some (.ref 0), some (sI n), some (sI s), none, none, none], [sI 1, sI n], h)) rfl ?_
  refine s_icmp (q := .lt) (a := n) (b := 1) rfl ⟨_, rfl⟩ rfl (by unfold sR aMi aMa; omega) (by unfold sR aMi aMa; omega) (fun hc1 => ?_) (fun hc1 => ?_)
  · have hc1 : (n : Int) < 1 := hc1
    omega
  · have hc1 : ¬ ((n : Int) < 1) := hc1
    refine sP 2 (g1 := (5, [some (.ref 0), some (sI n), some (sI s), none, none, none], [sI 20, sI n], h)) rfl ?_
    refine s_icmp (q := .gt) (a := n) (b := 20) rfl ⟨_, rfl⟩ rfl (by unfold sR aMi aMa; omega) (by unfold sR aMi aMa; omega) (fun hc2 => ?_) (fun hc2 => ?_)
    · have hc2 : (20 : Int) < n := hc2
      omega
    · have hc2 : ¬ ((20 : Int) < n) := hc2
      refine sP 2 (g1 := (8, [some (.ref 0), some (sI n), some (sI s), none, none, none], [sI 1, sI s], h)) rfl ?_
      refine s_icmp (q := .lt) (a := s) (b := 1) rfl ⟨_, rfl⟩ rfl (by unfold sR aMi aMa; omega) (by unfold sR aMi aMa; omega) (fun hc3 => ?_) (fun hc3 => ?_)
      · have hc3 : (s : Int) < 1 := hc3
        omega
      · have hc3 : ¬ ((s : Int) < 1) := hc3
        refine sP 1 (g1 := (10, [some (.ref 0), some (sI n), some (sI s), none, none, none], [sI s], h)) rfl ?_
        refine s_i2l (a := s) rfl rfl (by unfold sR aMi aMa; omega) ?_
        refine sP 1 (g1 := (12, [some (.ref 0), some (sI n), some (sI s), none, none, none], [sJ 2147483647, sJ s], h)) rfl ?_
        refine s_lif (q := .lt) (a := s) (b := 2147483647) rfl rfl rfl ⟨_, rfl⟩ rfl (by unfold sRJ; omega) (by unfold sRJ; omega) (fun hc4 => ?_) (fun hc4 => ?_)
        · have hc4 : (s : Int) < 2147483647 := hc4
          refine sP 1 (g1 := (17, [some (.ref 0), some (sI n), some (sI s), none, none, none], [.ref 0], h)) rfl ?_
          refine s_get (a := 0) (j := 2) hh rfl ⟨_, rfl⟩ rfl rfl rfl (v := .ref 3) (hR_ok hh (by decide +kernel)) ?_
          refine s_get (a := 3) (j := 3) hh rfl ⟨_, rfl⟩ rfl rfl rfl (v := sI (hI h 3 3)) (hI_ok hh xw_p) ?_
          refine s_ifc (q := .ne) (a := hI h 3 3) rfl ⟨_, rfl⟩ rfl (by unfold sR aMi aMa; omega) (fun hc5 => ?_) (fun hc5 => ?_)
          · have hc5 : ((hI h 3 3) : Int) ≠ 0 := hc5
            refine sP 1 (g1 := (23, [some (.ref 0), some (sI n), some (sI s), none, none, none], [.ref 0], h)) rfl ?_
            refine s_get (a := 0) (j := 2) hh rfl ⟨_, rfl⟩ rfl rfl rfl (v := .ref 3) (hR_ok hh (by decide +kernel)) ?_
            refine s_get (a := 3) (j := 5) hh rfl ⟨_, rfl⟩ rfl rfl rfl (v := sI (hI h 3 5)) (hI_ok hh xw_d) ?_
            refine sP 1 (g1 := (26, [some (.ref 0), some (sI n), some (sI s), none, none, none], [sI n, sI (hI h 3 5)], h)) rfl ?_
            refine s_add (a := hI h 3 5) (b := n) rfl rfl ?_
            refine sP 1 (g1 := (28, [some (.ref 0), some (sI n), some (sI s), none, none, none], [sI 40, sI ((hI h 3 5) + n)], h)) rfl ?_
            refine s_icmp (q := .le) (a := (hI h 3 5) + n) (b := 40) rfl ⟨_, rfl⟩ rfl (by unfold sR aMi aMa; omega) (by unfold sR aMi aMa; omega) (fun hc6 => ?_) (fun hc6 => ?_)
            · have hc6 : (((hI h 3 5) + n) : Int) ≤ 40 := hc6
              omega
            · have hc6 : ¬ ((((hI h 3 5) + n) : Int) ≤ 40) := hc6
              refine sP 1 (g1 := (30, [some (.ref 0), some (sI n), some (sI s), none, none, none], [sI ((-2))], h)) rfl ?_
              exact s_reti rfl rfl (Or.inl rfl) rfl rfl
          · have hc5 : ¬ (((hI h 3 3) : Int) ≠ 0) := hc5
            omega
        · have hc4 : ¬ ((s : Int) < 2147483647) := hc4
          omega
theorem fLotsMb0 {n s : Int} (hh : aHp h) (rn : sR n) (rs : sR s) (hc : ¬ (1 ≤ n ∧ n ≤ 20)) : nEv sc (d + 8) 212 [.ref 53, sI n, sI s] h (some (sI (-1)), h) := by
  have gp := hI_rg hh nw_p
  have gd := hI_rg hh nw_d
  unfold sR aMi aMa at rn rs
  refine nEv_of (t := mMe212) rfl ?_
  show nRn sc (d + 7) (mMT mMe212) (mMC mMe212) (0, [some (.ref 53), some (sI n), some (sI s), none, none, none, none, none], [], h) _
  refine sP 1 (g1 := (1, [some (.ref 53), some (sI n), some (sI s), none, none, none, none, none], [sI n], h)) rfl ?_
  refine s_i2l (a := n) rfl rfl (by unfold sR aMi aMa; omega) ?_
  refine sP 2 (g1 := (4, [some (.ref 53), some (sI n), some (sI s), none, none, none, none, none], [sJ 20, sJ 1, sJ n], h)) rfl ?_
  have ev1 := fIn (sc := sc) (d := d + 6) (h := h) (a := n) (b := 1) (e := 20) (by omega) (by omega) (by omega) (by omega) (by omega) (by omega)
  rw [if_neg (by omega)] at ev1
  refine s_call (k := 127) (args := [sJ n, sJ 1, sJ 20]) (st := []) (v := some (sI 0)) (h1 := h) rfl ⟨rfl, rfl⟩ rfl rfl rfl rfl rfl rfl ev1 ?_
  refine s_ifc (q := .eq) (a := 0) rfl ⟨_, rfl⟩ rfl (by unfold sR aMi aMa; omega) (fun hc2 => ?_) (fun hc2 => ?_)
  · have hc2 : (0 : Int) = 0 := hc2
    refine sP 1 (g1 := (13, [some (.ref 53), some (sI n), some (sI s), none, none, none, none, none], [sI ((-1))], h)) rfl ?_
    exact s_reti rfl rfl (Or.inl rfl) rfl rfl
  · have hc2 : ¬ ((0 : Int) = 0) := hc2
    omega
theorem fLotsMb1 {n s : Int} (hh : aHp h) (rn : sR n) (rs : sR s) (hc : (1 ≤ n ∧ n ≤ 20) ∧ ¬ (1 ≤ s ∧ s ≤ 2147483646)) : nEv sc (d + 8) 212 [.ref 53, sI n, sI s] h (some (sI (-1)), h) := by
  have gp := hI_rg hh nw_p
  have gd := hI_rg hh nw_d
  unfold sR aMi aMa at rn rs
  refine nEv_of (t := mMe212) rfl ?_
  show nRn sc (d + 7) (mMT mMe212) (mMC mMe212) (0, [some (.ref 53), some (sI n), some (sI s), none, none, none, none, none], [], h) _
  refine sP 1 (g1 := (1, [some (.ref 53), some (sI n), some (sI s), none, none, none, none, none], [sI n], h)) rfl ?_
  refine s_i2l (a := n) rfl rfl (by unfold sR aMi aMa; omega) ?_
  refine sP 2 (g1 := (4, [some (.ref 53), some (sI n), some (sI s), none, none, none, none, none], [sJ 20, sJ 1, sJ n], h)) rfl ?_
  have ev1 := fIn (sc := sc) (d := d + 6) (h := h) (a := n) (b := 1) (e := 20) (by omega) (by omega) (by omega) (by omega) (by omega) (by omega)
  rw [if_pos (by omega)] at ev1
  refine s_call (k := 127) (args := [sJ n, sJ 1, sJ 20]) (st := []) (v := some (sI 1)) (h1 := h) rfl ⟨rfl, rfl⟩ rfl rfl rfl rfl rfl rfl ev1 ?_
  refine s_ifc (q := .eq) (a := 1) rfl ⟨_, rfl⟩ rfl (by unfold sR aMi aMa; omega) (fun hc2 => ?_) (fun hc2 => ?_)
  · have hc2 : (1 : Int) = 0 := hc2
    omega
  · have hc2 : ¬ ((1 : Int) = 0) := hc2
    refine sP 1 (g1 := (7, [some (.ref 53), some (sI n), some (sI s), none, none, none, none, none], [sI s], h)) rfl ?_
    refine s_i2l (a := s) rfl rfl (by unfold sR aMi aMa; omega) ?_
    refine sP 2 (g1 := (10, [some (.ref 53), some (sI n), some (sI s), none, none, none, none, none], [sJ 2147483646, sJ 1, sJ s], h)) rfl ?_
    have ev3 := fIn (sc := sc) (d := d + 6) (h := h) (a := s) (b := 1) (e := 2147483646) (by omega) (by omega) (by omega) (by omega) (by omega) (by omega)
    rw [if_neg (by omega)] at ev3
    refine s_call (k := 127) (args := [sJ s, sJ 1, sJ 2147483646]) (st := []) (v := some (sI 0)) (h1 := h) rfl ⟨rfl, rfl⟩ rfl rfl rfl rfl rfl rfl ev3 ?_
    refine s_ifc (q := .ne) (a := 0) rfl ⟨_, rfl⟩ rfl (by unfold sR aMi aMa; omega) (fun hc4 => ?_) (fun hc4 => ?_)
    · have hc4 : (0 : Int) ≠ 0 := hc4
      omega
    · have hc4 : ¬ ((0 : Int) ≠ 0) := hc4
      refine sP 1 (g1 := (13, [some (.ref 53), some (sI n), some (sI s), none, none, none, none, none], [sI ((-1))], h)) rfl ?_
      exact s_reti rfl rfl (Or.inl rfl) rfl rfl
theorem fLotsMs {n s : Int} (hh : aHp h) (rn : sR n) (rs : sR s) (hc : 1 ≤ n ∧ n ≤ 20 ∧ 1 ≤ s ∧ s ≤ 2147483646) (hz : hI h 58 0 = 0) : nEv sc (d + 8) 212 [.ref 53, sI n, sI s] h (some (sI (-4)), h) := by
  have gp := hI_rg hh nw_p
  have gd := hI_rg hh nw_d
  unfold sR aMi aMa at rn rs
  refine nEv_of (t := mMe212) rfl ?_
  show nRn sc (d + 7) (mMT mMe212) (mMC mMe212) (0, [some (.ref 53), some (sI n), some (sI s), none, none, none, none, none], [], h) _
  refine sP 1 (g1 := (1, [some (.ref 53), some (sI n), some (sI s), none, none, none, none, none], [sI n], h)) rfl ?_
  refine s_i2l (a := n) rfl rfl (by unfold sR aMi aMa; omega) ?_
  refine sP 2 (g1 := (4, [some (.ref 53), some (sI n), some (sI s), none, none, none, none, none], [sJ 20, sJ 1, sJ n], h)) rfl ?_
  have ev1 := fIn (sc := sc) (d := d + 6) (h := h) (a := n) (b := 1) (e := 20) (by omega) (by omega) (by omega) (by omega) (by omega) (by omega)
  rw [if_pos (by omega)] at ev1
  refine s_call (k := 127) (args := [sJ n, sJ 1, sJ 20]) (st := []) (v := some (sI 1)) (h1 := h) rfl ⟨rfl, rfl⟩ rfl rfl rfl rfl rfl rfl ev1 ?_
  refine s_ifc (q := .eq) (a := 1) rfl ⟨_, rfl⟩ rfl (by unfold sR aMi aMa; omega) (fun hc2 => ?_) (fun hc2 => ?_)
  · have hc2 : (1 : Int) = 0 := hc2
    omega
  · have hc2 : ¬ ((1 : Int) = 0) := hc2
    refine sP 1 (g1 := (7, [some (.ref 53), some (sI n), some (sI s), none, none, none, none, none], [sI s], h)) rfl ?_
    refine s_i2l (a := s) rfl rfl (by unfold sR aMi aMa; omega) ?_
    refine sP 2 (g1 := (10, [some (.ref 53), some (sI n), some (sI s), none, none, none, none, none], [sJ 2147483646, sJ 1, sJ s], h)) rfl ?_
    have ev3 := fIn (sc := sc) (d := d + 6) (h := h) (a := s) (b := 1) (e := 2147483646) (by omega) (by omega) (by omega) (by omega) (by omega) (by omega)
    rw [if_pos (by omega)] at ev3
    refine s_call (k := 127) (args := [sJ s, sJ 1, sJ 2147483646]) (st := []) (v := some (sI 1)) (h1 := h) rfl ⟨rfl, rfl⟩ rfl rfl rfl rfl rfl rfl ev3 ?_
    refine s_ifc (q := .ne) (a := 1) rfl ⟨_, rfl⟩ rfl (by unfold sR aMi aMa; omega) (fun hc4 => ?_) (fun hc4 => ?_)
    · have hc4 : (1 : Int) ≠ 0 := hc4
      refine sP 1 (g1 := (15, [some (.ref 53), some (sI n), some (sI s), none, none, none, none, none], [.ref 53], h)) rfl ?_
      refine s_get (a := 53) (j := 4) hh rfl ⟨_, rfl⟩ rfl rfl rfl (v := .ref 58) (hR_ok hh (by decide +kernel)) ?_
      refine sP 1 (g1 := (17, [some (.ref 53), some (sI n), some (sI s), none, none, none, none, none], [sI 0, .ref 58], h)) rfl ?_
      refine s_iald (a := 58) (n := 201) (j := 0) hh rfl rfl rfl (by omega) (by omega) (by decide) (v := sI (hI h 58 0)) (hI_ok hh nw_p) ?_
      refine s_ifc (q := .ne) (a := hI h 58 0) rfl ⟨_, rfl⟩ rfl (by unfold sR aMi aMa; omega) (fun hc5 => ?_) (fun hc5 => ?_)
      · have hc5 : ((hI h 58 0) : Int) ≠ 0 := hc5
        omega
      · have hc5 : ¬ (((hI h 58 0) : Int) ≠ 0) := hc5
        refine sP 1 (g1 := (20, [some (.ref 53), some (sI n), some (sI s), none, none, none, none, none], [sI ((-4))], h)) rfl ?_
        exact s_reti rfl rfl (Or.inl rfl) rfl rfl
    · have hc4 : ¬ ((1 : Int) ≠ 0) := hc4
      omega
theorem fLotsMf {n s : Int} (hh : aHp h) (rn : sR n) (rs : sR s) (hc : 1 ≤ n ∧ n ≤ 20 ∧ 1 ≤ s ∧ s ≤ 2147483646) (hz : hI h 58 0 ≠ 0) (hf : 40 < hI h 58 80 + n) : nEv sc (d + 8) 212 [.ref 53, sI n, sI s] h (some (sI (-2)), h) := by
  have gp := hI_rg hh nw_p
  have gd := hI_rg hh nw_d
  unfold sR aMi aMa at rn rs
  refine nEv_of (t := mMe212) rfl ?_
  show nRn sc (d + 7) (mMT mMe212) (mMC mMe212) (0, [some (.ref 53), some (sI n), some (sI s), none, none, none, none, none], [], h) _
  refine sP 1 (g1 := (1, [some (.ref 53), some (sI n), some (sI s), none, none, none, none, none], [sI n], h)) rfl ?_
  refine s_i2l (a := n) rfl rfl (by unfold sR aMi aMa; omega) ?_
  refine sP 2 (g1 := (4, [some (.ref 53), some (sI n), some (sI s), none, none, none, none, none], [sJ 20, sJ 1, sJ n], h)) rfl ?_
  have ev1 := fIn (sc := sc) (d := d + 6) (h := h) (a := n) (b := 1) (e := 20) (by omega) (by omega) (by omega) (by omega) (by omega) (by omega)
  rw [if_pos (by omega)] at ev1
  refine s_call (k := 127) (args := [sJ n, sJ 1, sJ 20]) (st := []) (v := some (sI 1)) (h1 := h) rfl ⟨rfl, rfl⟩ rfl rfl rfl rfl rfl rfl ev1 ?_
  refine s_ifc (q := .eq) (a := 1) rfl ⟨_, rfl⟩ rfl (by unfold sR aMi aMa; omega) (fun hc2 => ?_) (fun hc2 => ?_)
  · have hc2 : (1 : Int) = 0 := hc2
    omega
  · have hc2 : ¬ ((1 : Int) = 0) := hc2
    refine sP 1 (g1 := (7, [some (.ref 53), some (sI n), some (sI s), none, none, none, none, none], [sI s], h)) rfl ?_
    refine s_i2l (a := s) rfl rfl (by unfold sR aMi aMa; omega) ?_
    refine sP 2 (g1 := (10, [some (.ref 53), some (sI n), some (sI s), none, none, none, none, none], [sJ 2147483646, sJ 1, sJ s], h)) rfl ?_
    have ev3 := fIn (sc := sc) (d := d + 6) (h := h) (a := s) (b := 1) (e := 2147483646) (by omega) (by omega) (by omega) (by omega) (by omega) (by omega)
    rw [if_pos (by omega)] at ev3
    refine s_call (k := 127) (args := [sJ s, sJ 1, sJ 2147483646]) (st := []) (v := some (sI 1)) (h1 := h) rfl ⟨rfl, rfl⟩ rfl rfl rfl rfl rfl rfl ev3 ?_
    refine s_ifc (q := .ne) (a := 1) rfl ⟨_, rfl⟩ rfl (by unfold sR aMi aMa; omega) (fun hc4 => ?_) (fun hc4 => ?_)
    · have hc4 : (1 : Int) ≠ 0 := hc4
      refine sP 1 (g1 := (15, [some (.ref 53), some (sI n), some (sI s), none, none, none, none, none], [.ref 53], h)) rfl ?_
      refine s_get (a := 53) (j := 4) hh rfl ⟨_, rfl⟩ rfl rfl rfl (v := .ref 58) (hR_ok hh (by decide +kernel)) ?_
      refine sP 1 (g1 := (17, [some (.ref 53), some (sI n), some (sI s), none, none, none, none, none], [sI 0, .ref 58], h)) rfl ?_
      refine s_iald (a := 58) (n := 201) (j := 0) hh rfl rfl rfl (by omega) (by omega) (by decide) (v := sI (hI h 58 0)) (hI_ok hh nw_p) ?_
      refine s_ifc (q := .ne) (a := hI h 58 0) rfl ⟨_, rfl⟩ rfl (by unfold sR aMi aMa; omega) (fun hc5 => ?_) (fun hc5 => ?_)
      · have hc5 : ((hI h 58 0) : Int) ≠ 0 := hc5
        refine sP 1 (g1 := (22, [some (.ref 53), some (sI n), some (sI s), none, none, none, none, none], [.ref 53], h)) rfl ?_
        refine s_call (k := 163) (args := [.ref 53]) (st := []) (v := some (sI (hI h 58 80))) (h1 := h) rfl ⟨rfl, rfl⟩ rfl rfl rfl rfl (sRcv hh (a := 53) rfl rfl) rfl (fDone hh) ?_
        refine sP 1 (g1 := (24, [some (.ref 53), some (sI n), some (sI s), none, none, none, none, none], [sI n, sI (hI h 58 80)], h)) rfl ?_
        refine s_add (a := hI h 58 80) (b := n) rfl rfl ?_
        refine sP 1 (g1 := (26, [some (.ref 53), some (sI n), some (sI s), none, none, none, none, none], [sI 40, sI ((hI h 58 80) + n)], h)) rfl ?_
        refine s_icmp (q := .le) (a := (hI h 58 80) + n) (b := 40) rfl ⟨_, rfl⟩ rfl (by unfold sR aMi aMa; omega) (by unfold sR aMi aMa; omega) (fun hc6 => ?_) (fun hc6 => ?_)
        · have hc6 : (((hI h 58 80) + n) : Int) ≤ 40 := hc6
          omega
        · have hc6 : ¬ ((((hI h 58 80) + n) : Int) ≤ 40) := hc6
          refine sP 1 (g1 := (28, [some (.ref 53), some (sI n), some (sI s), none, none, none, none, none], [sI ((-2))], h)) rfl ?_
          exact s_reti rfl rfl (Or.inl rfl) rfl rfl
      · have hc5 : ¬ (((hI h 58 0) : Int) ≠ 0) := hc5
        omega
    · have hc4 : ¬ ((1 : Int) ≠ 0) := hc4
      omega
theorem fLotsX {n s : Nat} {r : mR} (hh : aHp h) (hc : 1 ≤ n ∧ n ≤ 20 ∧ 1 ≤ s ∧ s < 2147483647) (hz : hI h 3 3 ≠ 0) (hf : hI h 3 5 + n ≤ 40) (hr : nRn sc (d + 7) (mMT mMe108) (mMC mMe108) (36, [some (.ref 0), some (sI (n : Int)), some (sI (s : Int)), some (sJ (s : Int)), none, some (sI ((0 : Nat) : Int))], [], h) r) : nEv sc (d + 8) 108 [.ref 0, sI (n : Int), sI (s : Int)] h r := by
  have gp := hI_rg hh xw_p
  have gd := hI_rg hh xw_d
  refine nEv_of (t := mMe108) rfl ?_
  show nRn sc (d + 7) (mMT mMe108) (mMC mMe108) (0, [some (.ref 0), some (sI ((n : Int))), some (sI ((s : Int))), none, none, none], [], h) _
  refine sP 2 (g1 := (2, [some (.ref 0), some (sI ((n : Int))), some (sI ((s : Int))), none, none, none], [sI 1, sI ((n : Int))], h)) rfl ?_
  refine s_icmp (q := .lt) (a := (n : Int)) (b := 1) rfl ⟨_, rfl⟩ rfl (by unfold sR aMi aMa; omega) (by unfold sR aMi aMa; omega) (fun hc1 => ?_) (fun hc1 => ?_)
  · have hc1 : (((n : Int)) : Int) < 1 := hc1
    omega
  · have hc1 : ¬ ((((n : Int)) : Int) < 1) := hc1
    refine sP 2 (g1 := (5, [some (.ref 0), some (sI ((n : Int))), some (sI ((s : Int))), none, none, none], [sI 20, sI ((n : Int))], h)) rfl ?_
    refine s_icmp (q := .gt) (a := (n : Int)) (b := 20) rfl ⟨_, rfl⟩ rfl (by unfold sR aMi aMa; omega) (by unfold sR aMi aMa; omega) (fun hc2 => ?_) (fun hc2 => ?_)
    · have hc2 : (20 : Int) < ((n : Int)) := hc2
      omega
    · have hc2 : ¬ ((20 : Int) < ((n : Int))) := hc2
      refine sP 2 (g1 := (8, [some (.ref 0), some (sI ((n : Int))), some (sI ((s : Int))), none, none, none], [sI 1, sI ((s : Int))], h)) rfl ?_
      refine s_icmp (q := .lt) (a := (s : Int)) (b := 1) rfl ⟨_, rfl⟩ rfl (by unfold sR aMi aMa; omega) (by unfold sR aMi aMa; omega) (fun hc3 => ?_) (fun hc3 => ?_)
      · have hc3 : (((s : Int)) : Int) < 1 := hc3
        omega
      · have hc3 : ¬ ((((s : Int)) : Int) < 1) := hc3
        refine sP 1 (g1 := (10, [some (.ref 0), some (sI ((n : Int))), some (sI ((s : Int))), none, none, none], [sI ((s : Int))], h)) rfl ?_
        refine s_i2l (a := (s : Int)) rfl rfl (by unfold sR aMi aMa; omega) ?_
        refine sP 1 (g1 := (12, [some (.ref 0), some (sI ((n : Int))), some (sI ((s : Int))), none, none, none], [sJ 2147483647, sJ ((s : Int))], h)) rfl ?_
        refine s_lif (q := .lt) (a := (s : Int)) (b := 2147483647) rfl rfl rfl ⟨_, rfl⟩ rfl (by unfold sRJ; omega) (by unfold sRJ; omega) (fun hc4 => ?_) (fun hc4 => ?_)
        · have hc4 : (((s : Int)) : Int) < 2147483647 := hc4
          refine sP 1 (g1 := (17, [some (.ref 0), some (sI ((n : Int))), some (sI ((s : Int))), none, none, none], [.ref 0], h)) rfl ?_
          refine s_get (a := 0) (j := 2) hh rfl ⟨_, rfl⟩ rfl rfl rfl (v := .ref 3) (hR_ok hh (by decide +kernel)) ?_
          refine s_get (a := 3) (j := 3) hh rfl ⟨_, rfl⟩ rfl rfl rfl (v := sI (hI h 3 3)) (hI_ok hh xw_p) ?_
          refine s_ifc (q := .ne) (a := hI h 3 3) rfl ⟨_, rfl⟩ rfl (by unfold sR aMi aMa; omega) (fun hc5 => ?_) (fun hc5 => ?_)
          · have hc5 : ((hI h 3 3) : Int) ≠ 0 := hc5
            refine sP 1 (g1 := (23, [some (.ref 0), some (sI ((n : Int))), some (sI ((s : Int))), none, none, none], [.ref 0], h)) rfl ?_
            refine s_get (a := 0) (j := 2) hh rfl ⟨_, rfl⟩ rfl rfl rfl (v := .ref 3) (hR_ok hh (by decide +kernel)) ?_
            refine s_get (a := 3) (j := 5) hh rfl ⟨_, rfl⟩ rfl rfl rfl (v := sI (hI h 3 5)) (hI_ok hh xw_d) ?_
            refine sP 1 (g1 := (26, [some (.ref 0), some (sI ((n : Int))), some (sI ((s : Int))), none, none, none], [sI ((n : Int)), sI (hI h 3 5)], h)) rfl ?_
            refine s_add (a := hI h 3 5) (b := (n : Int)) rfl rfl ?_
            refine sP 1 (g1 := (28, [some (.ref 0), some (sI ((n : Int))), some (sI ((s : Int))), none, none, none], [sI 40, sI ((hI h 3 5) + ((n : Int)))], h)) rfl ?_
            refine s_icmp (q := .le) (a := (hI h 3 5) + ((n : Int))) (b := 40) rfl ⟨_, rfl⟩ rfl (by unfold sR aMi aMa; omega) (by unfold sR aMi aMa; omega) (fun hc6 => ?_) (fun hc6 => ?_)
            · have hc6 : (((hI h 3 5) + ((n : Int))) : Int) ≤ 40 := hc6
              refine sP 1 (g1 := (32, [some (.ref 0), some (sI ((n : Int))), some (sI ((s : Int))), none, none, none], [sI ((s : Int))], h)) rfl ?_
              refine s_i2l (a := (s : Int)) rfl rfl (by unfold sR aMi aMa; omega) ?_
              refine sP 3 (g1 := (36, [some (.ref 0), some (sI ((n : Int))), some (sI ((s : Int))), some (sJ ((s : Int))), none, some (sI 0)], [], h)) rfl ?_
              exact hr
            · have hc6 : ¬ ((((hI h 3 5) + ((n : Int))) : Int) ≤ 40) := hc6
              omega
          · have hc5 : ¬ (((hI h 3 3) : Int) ≠ 0) := hc5
            omega
        · have hc4 : ¬ ((((s : Int)) : Int) < 2147483647) := hc4
          omega
theorem fLotsM {n s : Nat} {r : mR} (hh : aHp h) (hc : 1 ≤ n ∧ n ≤ 20 ∧ 1 ≤ s ∧ s < 2147483647) (hz : hI h 58 0 ≠ 0) (hf : hI h 58 80 + n ≤ 40) (hr : nRn sc (d + 7) (mMT mMe212) (mMC mMe212) (34, [some (.ref 53), some (sI (n : Int)), some (sI (s : Int)), some (sJ (s : Int)), none, some (sI ((0 : Nat) : Int)), none, none], [], h) r) : nEv sc (d + 8) 212 [.ref 53, sI (n : Int), sI (s : Int)] h r := by
  have gp := hI_rg hh nw_p
  have gd := hI_rg hh nw_d
  refine nEv_of (t := mMe212) rfl ?_
  show nRn sc (d + 7) (mMT mMe212) (mMC mMe212) (0, [some (.ref 53), some (sI ((n : Int))), some (sI ((s : Int))), none, none, none, none, none], [], h) _
  refine sP 1 (g1 := (1, [some (.ref 53), some (sI ((n : Int))), some (sI ((s : Int))), none, none, none, none, none], [sI ((n : Int))], h)) rfl ?_
  refine s_i2l (a := (n : Int)) rfl rfl (by unfold sR aMi aMa; omega) ?_
  refine sP 2 (g1 := (4, [some (.ref 53), some (sI ((n : Int))), some (sI ((s : Int))), none, none, none, none, none], [sJ 20, sJ 1, sJ ((n : Int))], h)) rfl ?_
  have ev1 := fIn (sc := sc) (d := d + 6) (h := h) (a := (n : Int)) (b := 1) (e := 20) (by omega) (by omega) (by omega) (by omega) (by omega) (by omega)
  rw [if_pos (by omega)] at ev1
  refine s_call (k := 127) (args := [sJ ((n : Int)), sJ 1, sJ 20]) (st := []) (v := some (sI 1)) (h1 := h) rfl ⟨rfl, rfl⟩ rfl rfl rfl rfl rfl rfl ev1 ?_
  refine s_ifc (q := .eq) (a := 1) rfl ⟨_, rfl⟩ rfl (by unfold sR aMi aMa; omega) (fun hc2 => ?_) (fun hc2 => ?_)
  · have hc2 : (1 : Int) = 0 := hc2
    omega
  · have hc2 : ¬ ((1 : Int) = 0) := hc2
    refine sP 1 (g1 := (7, [some (.ref 53), some (sI ((n : Int))), some (sI ((s : Int))), none, none, none, none, none], [sI ((s : Int))], h)) rfl ?_
    refine s_i2l (a := (s : Int)) rfl rfl (by unfold sR aMi aMa; omega) ?_
    refine sP 2 (g1 := (10, [some (.ref 53), some (sI ((n : Int))), some (sI ((s : Int))), none, none, none, none, none], [sJ 2147483646, sJ 1, sJ ((s : Int))], h)) rfl ?_
    have ev3 := fIn (sc := sc) (d := d + 6) (h := h) (a := (s : Int)) (b := 1) (e := 2147483646) (by omega) (by omega) (by omega) (by omega) (by omega) (by omega)
    rw [if_pos (by omega)] at ev3
    refine s_call (k := 127) (args := [sJ ((s : Int)), sJ 1, sJ 2147483646]) (st := []) (v := some (sI 1)) (h1 := h) rfl ⟨rfl, rfl⟩ rfl rfl rfl rfl rfl rfl ev3 ?_
    refine s_ifc (q := .ne) (a := 1) rfl ⟨_, rfl⟩ rfl (by unfold sR aMi aMa; omega) (fun hc4 => ?_) (fun hc4 => ?_)
    · have hc4 : (1 : Int) ≠ 0 := hc4
      refine sP 1 (g1 := (15, [some (.ref 53), some (sI ((n : Int))), some (sI ((s : Int))), none, none, none, none, none], [.ref 53], h)) rfl ?_
      refine s_get (a := 53) (j := 4) hh rfl ⟨_, rfl⟩ rfl rfl rfl (v := .ref 58) (hR_ok hh (by decide +kernel)) ?_
      refine sP 1 (g1 := (17, [some (.ref 53), some (sI ((n : Int))), some (sI ((s : Int))), none, none, none, none, none], [sI 0, .ref 58], h)) rfl ?_
      refine s_iald (a := 58) (n := 201) (j := 0) hh rfl rfl rfl (by omega) (by omega) (by decide) (v := sI (hI h 58 0)) (hI_ok hh nw_p) ?_
      refine s_ifc (q := .ne) (a := hI h 58 0) rfl ⟨_, rfl⟩ rfl (by unfold sR aMi aMa; omega) (fun hc5 => ?_) (fun hc5 => ?_)
      · have hc5 : ((hI h 58 0) : Int) ≠ 0 := hc5
        refine sP 1 (g1 := (22, [some (.ref 53), some (sI ((n : Int))), some (sI ((s : Int))), none, none, none, none, none], [.ref 53], h)) rfl ?_
        refine s_call (k := 163) (args := [.ref 53]) (st := []) (v := some (sI (hI h 58 80))) (h1 := h) rfl ⟨rfl, rfl⟩ rfl rfl rfl rfl (sRcv hh (a := 53) rfl rfl) rfl (fDone hh) ?_
        refine sP 1 (g1 := (24, [some (.ref 53), some (sI ((n : Int))), some (sI ((s : Int))), none, none, none, none, none], [sI ((n : Int)), sI (hI h 58 80)], h)) rfl ?_
        refine s_add (a := hI h 58 80) (b := (n : Int)) rfl rfl ?_
        refine sP 1 (g1 := (26, [some (.ref 53), some (sI ((n : Int))), some (sI ((s : Int))), none, none, none, none, none], [sI 40, sI ((hI h 58 80) + ((n : Int)))], h)) rfl ?_
        refine s_icmp (q := .le) (a := (hI h 58 80) + ((n : Int))) (b := 40) rfl ⟨_, rfl⟩ rfl (by unfold sR aMi aMa; omega) (by unfold sR aMi aMa; omega) (fun hc6 => ?_) (fun hc6 => ?_)
        · have hc6 : (((hI h 58 80) + ((n : Int))) : Int) ≤ 40 := hc6
          refine sP 1 (g1 := (30, [some (.ref 53), some (sI ((n : Int))), some (sI ((s : Int))), none, none, none, none, none], [sI ((s : Int))], h)) rfl ?_
          refine s_i2l (a := (s : Int)) rfl rfl (by unfold sR aMi aMa; omega) ?_
          refine sP 3 (g1 := (34, [some (.ref 53), some (sI ((n : Int))), some (sI ((s : Int))), some (sJ ((s : Int))), none, some (sI 0), none, none], [], h)) rfl ?_
          exact hr
        · have hc6 : ¬ ((((hI h 58 80) + ((n : Int))) : Int) ≤ 40) := hc6
          omega
      · have hc5 : ¬ (((hI h 58 0) : Int) ≠ 0) := hc5
        omega
    · have hc4 : ¬ ((1 : Int) ≠ 0) := hc4
      omega
end LOTP
theorem wLotsP {sc : List Int32} {h : mH} (x y : Int32) (hp : wP h) : ∃ z1 h1 z2 h2, nEv sc 100 108 (.ref 0 :: [x, y].map Value.int) h (some (.int z1), h1) ∧ aHp h1 ∧ nEv sc 100 212 (.ref 53 :: [x, y].map Value.int) h1 (some (.int z2), h2) ∧ wP h2 := by
  have hh := wP_a h hp
  have rx : sR x.toInt := aI_rg x
  have ry : sR y.toInt := aI_rg y
  have e3 : hI h 3 3 = hI h 58 0 := hp.2.1.1
  have e5 : hI h 3 5 = hI h 58 80 := hp.2.1.2.2.1
  have gd := hI_rg hh xw_d
  have gp := hI_rg hh xw_p
  by_cases c1 : 1 ≤ x.toInt ∧ x.toInt ≤ 20 ∧ 1 ≤ y.toInt ∧ y.toInt ≤ 2147483646
  · by_cases c2 : hI h 3 3 = 0
    · exact ⟨_, h, _, h, pair2 (fLotsXs (d := 92) hh rx ry c1 c2) hh (fLotsMs (d := 92) hh rx ry c1 (by omega)) hp⟩
    · by_cases c3 : 40 < hI h 3 5 + x.toInt
      · exact ⟨_, h, _, h, pair2 (fLotsXf (d := 92) hh rx ry c1 c2 c3) hh (fLotsMf (d := 92) hh rx ry c1 (by omega) (by omega)) hp⟩
      · obtain ⟨n, en⟩ := iN (show 0 ≤ x.toInt by omega)
        obtain ⟨s, es⟩ := iN (show 0 ≤ y.toInt by omega)
        obtain ⟨h1, i1, i2, i3, i4⟩ := wLots (sc := sc) (d := 92) (n := n) (S := (s : Int)) (SS := (s : Int)) n 0 s h (by omega) (by omega) (by omega) hh (by omega) (by omega)
        have k0 : ∀ p m, ¬ (3 ≤ p ∧ p ≤ 6) → aSlot h1 p m = aSlot h p m := i3
        have q0 : ∀ m, hI h1 58 m = hI h 58 m := fun m => hI_cg (k0 58 m (by omega))
        obtain ⟨g1, j1, j2, j3, j4⟩ := i4 h1 none none i2 (wP_two hp k0)
        exact ⟨_, h1, _, g1, pair2 (by rw [en, es]; exact fLotsX (d := 92) hh (by omega) c2 (by omega) i1) i2 (by rw [en, es]; exact fLotsM (d := 92) i2 (by omega) (by rw [q0]; omega) (by rw [q0]; omega) j1) (wP_now hp j2 k0 (fun p m w => j3 p m w) j4)⟩
  · by_cases d1 : 1 ≤ x.toInt ∧ x.toInt ≤ 20
    · exact ⟨_, h, _, h, pair2 (fLotsXb (d := 92) hh rx ry c1) hh (fLotsMb1 (d := 92) hh rx ry ⟨d1, by omega⟩) hp⟩
    · exact ⟨_, h, _, h, pair2 (fLotsXb (d := 92) hh rx ry c1) hh (fLotsMb0 (d := 92) hh rx ry d1) hp⟩
