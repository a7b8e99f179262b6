/-! seems -/
section SEEMS
variable {sc : List Int32} {d : Nat} {h : mH}
theorem fSeeming {n a s ka : Nat} (hh : aHp h) (hn : hI h 3 3 = n) (ha : a < 6) (hs : s < 64) (hka : hI h 4 a = ka) : nEv sc (d + 4) 37 [.ref 3, sI (a : Int), sI (s : Int)] h (some (sI (pSeem (hI h 5) n ka a s)), h) := by
  have rka := hI_rg hh (xw_k ha)
  have h6 : ka < 6 := by omega
  have ev : nEv sc (d + 3) 38 [.ref 3, sI (ka : Int), sI (a : Int), sI (s : Int)] h (some (sI (pSeem (hI h 5) n ka a s)), h) := fSeemAs (e := 3) hh (by decide) hn h6 ha hs
  refine nEv_of (t := mMe37) rfl ?_
  show nRn sc (d + 3) (mMT mMe37) (mMC mMe37) (0, [some (.ref 3), some (sI ((a : Int))), some (sI ((s : Int)))], [], h) _
  refine sP 2 (g1 := (2, [some (.ref 3), some (sI ((a : Int))), some (sI ((s : Int)))], [.ref 3, .ref 3], h)) rfl ?_
  refine s_get (a := 3) (j := 0) hh rfl ⟨_, rfl⟩ rfl rfl rfl (v := .ref 4) (hR_ok hh (by decide +kernel)) ?_
  refine sP 1 (g1 := (4, [some (.ref 3), some (sI ((a : Int))), some (sI ((s : Int)))], [sI ((a : Int)), .ref 4, .ref 3], h)) rfl ?_
  refine s_iald (a := 4) (n := 6) (j := (a : Int)) hh rfl rfl rfl (by omega) (by omega) (by decide) (v := sI ((ka : Int))) (by rw [Int.toNat_natCast]; have q := hI_ok hh (xw_k ha); rw [hka] at q; exact q) ?_
  refine sP 2 (g1 := (7, [some (.ref 3), some (sI ((a : Int))), some (sI ((s : Int)))], [sI ((s : Int)), sI ((a : Int)), sI ((ka : Int)), .ref 3], h)) rfl ?_
  refine s_call (k := 38) (args := [.ref 3, sI ((ka : Int)), sI ((a : Int)), sI ((s : Int))]) (st := []) (v := some (sI (pSeem (hI h 5) n ka a s))) (h1 := h) rfl ⟨rfl, rfl⟩ rfl rfl rfl rfl (sRcv hh (a := 3) rfl rfl) rfl ev ?_
  exact s_reti rfl rfl (Or.inl rfl) rfl rfl
theorem fSeemsXb0 {a s : Int} (hh : aHp h) (ra : sR a) (rs : sR s) (hc : ¬ (0 ≤ a ∧ a < hI h 3 3)) : nEv sc (d + 5) 75 [.ref 0, sI a, sI s] h (some (sI (-1)), h) := by
  have gp := hI_rg hh xw_p
  unfold sR aMi aMa at ra rs
  refine nEv_of (t := mMe75) rfl ?_
  show nRn sc (d + 4) (mMT mMe75) (mMC mMe75) (0, [some (.ref 0), some (sI a), some (sI s)], [], h) _
  refine sP 1 (g1 := (1, [some (.ref 0), some (sI a), some (sI s)], [.ref 0], h)) rfl ?_
  refine s_get (a := 0) (j := 2) hh rfl ⟨_, rfl⟩ rfl rfl rfl (v := .ref 3) (hR_ok hh (by decide +kernel)) ?_
  refine sP 1 (g1 := (3, [some (.ref 0), some (sI a), some (sI s)], [sI a, .ref 3], h)) rfl ?_
  have ev1 := fHasX (sc := sc) (d := d + 3) (a := a) hh (by unfold sR aMi aMa; omega)
  rw [if_neg (by omega)] at ev1
  refine s_call (k := 35) (args := [.ref 3, sI a]) (st := []) (v := some (sI 0)) (h1 := h) rfl ⟨rfl, rfl⟩ rfl rfl rfl rfl (sRcv hh (a := 3) rfl rfl) rfl ev1 ?_
  refine s_ifc (q := .eq) (a := 0) rfl ⟨_, rfl⟩ rfl (by unfold sR aMi aMa; omega) (fun hc2 => ?_) (fun hc2 => ?_)
  · have hc2 : (0 : Int) = 0 := hc2
    refine sP 1 (g1 := (11, [some (.ref 0), some (sI a), some (sI s)], [sI ((-1))], h)) rfl ?_
    exact s_reti rfl rfl (Or.inl rfl) rfl rfl
  · have hc2 : ¬ ((0 : Int) = 0) := hc2
    omega
theorem fSeemsXb1 {a s : Int} {n : Nat} (hh : aHp h) (hn : hI h 3 3 = (n : Int)) (ra : sR a) (rs : sR s) (hc : (0 ≤ a ∧ a < hI h 3 3) ∧ ¬ (0 ≤ s ∧ s < ((2 ^ n : Nat) : Int))) : nEv sc (d + 5) 75 [.ref 0, sI a, sI s] h (some (sI (-1)), h) := by
  have gp := hI_rg hh xw_p
  have p2 := p2_le (show n ≤ 6 by omega)
  unfold sR aMi aMa at ra rs
  refine nEv_of (t := mMe75) rfl ?_
  show nRn sc (d + 4) (mMT mMe75) (mMC mMe75) (0, [some (.ref 0), some (sI a), some (sI s)], [], h) _
  refine sP 1 (g1 := (1, [some (.ref 0), some (sI a), some (sI s)], [.ref 0], h)) rfl ?_
  refine s_get (a := 0) (j := 2) hh rfl ⟨_, rfl⟩ rfl rfl rfl (v := .ref 3) (hR_ok hh (by decide +kernel)) ?_
  refine sP 1 (g1 := (3, [some (.ref 0), some (sI a), some (sI s)], [sI a, .ref 3], h)) rfl ?_
  have ev1 := fHasX (sc := sc) (d := d + 3) (a := a) hh (by unfold sR aMi aMa; omega)
  rw [if_pos (by omega)] at ev1
  refine s_call (k := 35) (args := [.ref 3, sI a]) (st := []) (v := some (sI 1)) (h1 := h) rfl ⟨rfl, rfl⟩ rfl rfl rfl rfl (sRcv hh (a := 3) rfl rfl) rfl ev1 ?_
  refine s_ifc (q := .eq) (a := 1) rfl ⟨_, rfl⟩ rfl (by unfold sR aMi aMa; omega) (fun hc2 => ?_) (fun hc2 => ?_)
  · have hc2 : (1 : Int) = 0 := hc2
    omega
  · have hc2 : ¬ ((1 : Int) = 0) := hc2
    refine sP 1 (g1 := (6, [some (.ref 0), some (sI a), some (sI s)], [.ref 0], h)) rfl ?_
    refine s_get (a := 0) (j := 2) hh rfl ⟨_, rfl⟩ rfl rfl rfl (v := .ref 3) (hR_ok hh (by decide +kernel)) ?_
    refine sP 1 (g1 := (8, [some (.ref 0), some (sI a), some (sI s)], [sI s, .ref 3], h)) rfl ?_
    have ev3 := fHasSet (sc := sc) (d := d + 3) (n := n) (s := s) hh hn (by unfold sR aMi aMa; omega)
    rw [if_neg (by omega)] at ev3
    refine s_call (k := 76) (args := [.ref 3, sI s]) (st := []) (v := some (sI 0)) (h1 := h) rfl ⟨rfl, rfl⟩ rfl rfl rfl rfl (sRcv hh (a := 3) rfl rfl) rfl ev3 ?_
    refine s_ifc (q := .ne) (a := 0) rfl ⟨_, rfl⟩ rfl (by unfold sR aMi aMa; omega) (fun hc4 => ?_) (fun hc4 => ?_)
    · have hc4 : (0 : Int) ≠ 0 := hc4
      omega
    · have hc4 : ¬ ((0 : Int) ≠ 0) := hc4
      refine sP 1 (g1 := (11, [some (.ref 0), some (sI a), some (sI s)], [sI ((-1))], h)) rfl ?_
      exact s_reti rfl rfl (Or.inl rfl) rfl rfl
theorem fSeemsMb0 {a s : Int} (hh : aHp h) (ra : sR a) (rs : sR s) (hc : ¬ (0 ≤ a ∧ a < hI h 58 0)) : nEv sc (d + 5) 180 [.ref 53, sI a, sI s] h (some (sI (-1)), h) := by
  have gp := hI_rg hh nw_p
  unfold sR aMi aMa at ra rs
  refine nEv_of (t := mMe180) rfl ?_
  show nRn sc (d + 4) (mMT mMe180) (mMC mMe180) (0, [some (.ref 53), some (sI a), some (sI s)], [], h) _
  refine sP 2 (g1 := (2, [some (.ref 53), some (sI a), some (sI s)], [sI a, .ref 53], h)) rfl ?_
  have ev1 := fIsPerson (sc := sc) (d := d + 2) (a := a) hh (by unfold sR aMi aMa; omega)
  rw [if_neg (by omega)] at ev1
  refine s_call (k := 147) (args := [.ref 53, sI a]) (st := []) (v := some (sI 0)) (h1 := h) rfl ⟨rfl, rfl⟩ rfl rfl rfl rfl (sRcv hh (a := 53) rfl rfl) rfl ev1 ?_
  refine s_ifc (q := .eq) (a := 0) rfl ⟨_, rfl⟩ rfl (by unfold sR aMi aMa; omega) (fun hc2 => ?_) (fun hc2 => ?_)
  · have hc2 : (0 : Int) = 0 := hc2
    refine sP 1 (g1 := (14, [some (.ref 53), some (sI a), some (sI s)], [sI ((-1))], h)) rfl ?_
    exact s_reti rfl rfl (Or.inl rfl) rfl rfl
  · have hc2 : ¬ ((0 : Int) = 0) := hc2
    omega
theorem fSeemsMb1 {a s : Int} {n : Nat} (hh : aHp h) (hn : hI h 58 0 = (n : Int)) (ra : sR a) (rs : sR s) (hc : (0 ≤ a ∧ a < hI h 58 0) ∧ ¬ (0 ≤ s ∧ s < ((2 ^ n : Nat) : Int))) : nEv sc (d + 5) 180 [.ref 53, sI a, sI s] h (some (sI (-1)), h) := by
  have gp := hI_rg hh nw_p
  have p2 := p2_le (show n ≤ 6 by omega)
  unfold sR aMi aMa at ra rs
  refine nEv_of (t := mMe180) rfl ?_
  show nRn sc (d + 4) (mMT mMe180) (mMC mMe180) (0, [some (.ref 53), some (sI a), some (sI s)], [], h) _
  refine sP 2 (g1 := (2, [some (.ref 53), some (sI a), some (sI s)], [sI a, .ref 53], h)) rfl ?_
  have ev1 := fIsPerson (sc := sc) (d := d + 2) (a := a) hh (by unfold sR aMi aMa; omega)
  rw [if_pos (by omega)] at ev1
  refine s_call (k := 147) (args := [.ref 53, sI a]) (st := []) (v := some (sI 1)) (h1 := h) rfl ⟨rfl, rfl⟩ rfl rfl rfl rfl (sRcv hh (a := 53) rfl rfl) rfl ev1 ?_
  refine s_ifc (q := .eq) (a := 1) rfl ⟨_, rfl⟩ rfl (by unfold sR aMi aMa; omega) (fun hc2 => ?_) (fun hc2 => ?_)
  · have hc2 : (1 : Int) = 0 := hc2
    omega
  · have hc2 : ¬ ((1 : Int) = 0) := hc2
    refine sP 2 (g1 := (6, [some (.ref 53), some (sI a), some (sI s)], [sI s, .ref 53], h)) rfl ?_
    have ev3 := fIsSet (sc := sc) (d := d + 2) (n := n) (s := s) hh hn (by unfold sR aMi aMa; omega)
    rw [if_neg (by omega)] at ev3
    refine s_call (k := 181) (args := [.ref 53, sI s]) (st := []) (v := some (sI 0)) (h1 := h) rfl ⟨rfl, rfl⟩ rfl rfl rfl rfl (sRcv hh (a := 53) rfl rfl) rfl ev3 ?_
    refine s_ifc (q := .eq) (a := 0) rfl ⟨_, rfl⟩ rfl (by unfold sR aMi aMa; omega) (fun hc4 => ?_) (fun hc4 => ?_)
    · have hc4 : (0 : Int) = 0 := hc4
      refine sP 1 (g1 := (14, [some (.ref 53), some (sI a), some (sI s)], [sI ((-1))], h)) rfl ?_
      exact s_reti rfl rfl (Or.inl rfl) rfl rfl
    · have hc4 : ¬ ((0 : Int) = 0) := hc4
      omega
theorem fSeemsX {n a s ka : Nat} (hh : aHp h) (hn : hI h 3 3 = n) (ha : a < n) (hs : s < 2 ^ n) (hka : hI h 4 a = ka) : nEv sc (d + 5) 75 [.ref 0, sI (a : Int), sI (s : Int)] h (some (sI (pSeem (hI h 5) n ka a s)), h) := by
  have gp := hI_rg hh xw_p
  have p2 := p2_le (show n ≤ 6 by omega)
  have ev := fSeeming (sc := sc) (d := d) hh hn (show a < 6 by omega) (show s < 64 by omega) hka
  refine nEv_of (t := mMe75) rfl ?_
  show nRn sc (d + 4) (mMT mMe75) (mMC mMe75) (0, [some (.ref 0), some (sI ((a : Int))), some (sI ((s : Int)))], [], h) _
  refine sP 1 (g1 := (1, [some (.ref 0), some (sI ((a : Int))), some (sI ((s : Int)))], [.ref 0], h)) rfl ?_
  refine s_get (a := 0) (j := 2) hh rfl ⟨_, rfl⟩ rfl rfl rfl (v := .ref 3) (hR_ok hh (by decide +kernel)) ?_
  refine sP 1 (g1 := (3, [some (.ref 0), some (sI ((a : Int))), some (sI ((s : Int)))], [sI ((a : Int)), .ref 3], h)) rfl ?_
  have ev1 := fHasX (sc := sc) (d := d + 3) (a := (a : Int)) hh (by unfold sR aMi aMa; omega)
  rw [if_pos (by omega)] at ev1
  refine s_call (k := 35) (args := [.ref 3, sI ((a : Int))]) (st := []) (v := some (sI 1)) (h1 := h) rfl ⟨rfl, rfl⟩ rfl rfl rfl rfl (sRcv hh (a := 3) rfl rfl) rfl ev1 ?_
  refine s_ifc (q := .eq) (a := 1) rfl ⟨_, rfl⟩ rfl (by unfold sR aMi aMa; omega) (fun hc2 => ?_) (fun hc2 => ?_)
  · have hc2 : (1 : Int) = 0 := hc2
    omega
  · have hc2 : ¬ ((1 : Int) = 0) := hc2
    refine sP 1 (g1 := (6, [some (.ref 0), some (sI ((a : Int))), some (sI ((s : Int)))], [.ref 0], h)) rfl ?_
    refine s_get (a := 0) (j := 2) hh rfl ⟨_, rfl⟩ rfl rfl rfl (v := .ref 3) (hR_ok hh (by decide +kernel)) ?_
    refine sP 1 (g1 := (8, [some (.ref 0), some (sI ((a : Int))), some (sI ((s : Int)))], [sI ((s : Int)), .ref 3], h)) rfl ?_
    have ev3 := fHasSet (sc := sc) (d := d + 3) (n := n) (s := (s : Int)) hh hn (by unfold sR aMi aMa; omega)
    rw [if_pos (by omega)] at ev3
    refine s_call (k := 76) (args := [.ref 3, sI ((s : Int))]) (st := []) (v := some (sI 1)) (h1 := h) rfl ⟨rfl, rfl⟩ rfl rfl rfl rfl (sRcv hh (a := 3) rfl rfl) rfl ev3 ?_
    refine s_ifc (q := .ne) (a := 1) rfl ⟨_, rfl⟩ rfl (by unfold sR aMi aMa; omega) (fun hc4 => ?_) (fun hc4 => ?_)
    · have hc4 : (1 : Int) ≠ 0 := hc4
      refine sP 1 (g1 := (13, [some (.ref 0), some (sI ((a : Int))), some (sI ((s : Int)))], [.ref 0], h)) rfl ?_
      refine s_get (a := 0) (j := 2) hh rfl ⟨_, rfl⟩ rfl rfl rfl (v := .ref 3) (hR_ok hh (by decide +kernel)) ?_
      refine sP 2 (g1 := (16, [some (.ref 0), some (sI ((a : Int))), some (sI ((s : Int)))], [sI ((s : Int)), sI ((a : Int)), .ref 3], h)) rfl ?_
      refine s_call (k := 37) (args := [.ref 3, sI ((a : Int)), sI ((s : Int))]) (st := []) (v := some (sI (pSeem (hI h 5) n ka a s))) (h1 := h) rfl ⟨rfl, rfl⟩ rfl rfl rfl rfl (sRcv hh (a := 3) rfl rfl) rfl ev ?_
      exact s_reti rfl rfl (Or.inl rfl) rfl rfl
    · have hc4 : ¬ ((1 : Int) ≠ 0) := hc4
      omega
theorem fSeemsM {n a s ka : Nat} (hh : aHp h) (hn : hI h 58 0 = n) (ha : a < n) (hs : s < 2 ^ n) (hka : hI h 58 (1 + a) = ka) : nEv sc (d + 5) 180 [.ref 53, sI (a : Int), sI (s : Int)] h (some (sI (pSeem (fun j => hI h 58 (7 + j)) n ka a s)), h) := by
  have gp := hI_rg hh nw_p
  have p2 := p2_le (show n ≤ 6 by omega)
  have ev := fSeemM (sc := sc) (d := d + 1) hh hn (show a < 6 by omega) (show s < 64 by omega) hka
  refine nEv_of (t := mMe180) rfl ?_
  show nRn sc (d + 4) (mMT mMe180) (mMC mMe180) (0, [some (.ref 53), some (sI ((a : Int))), some (sI ((s : Int)))], [], h) _
  refine sP 2 (g1 := (2, [some (.ref 53), some (sI ((a : Int))), some (sI ((s : Int)))], [sI ((a : Int)), .ref 53], h)) rfl ?_
  have ev1 := fIsPerson (sc := sc) (d := d + 2) (a := (a : Int)) hh (by unfold sR aMi aMa; omega)
  rw [if_pos (by omega)] at ev1
  refine s_call (k := 147) (args := [.ref 53, sI ((a : Int))]) (st := []) (v := some (sI 1)) (h1 := h) rfl ⟨rfl, rfl⟩ rfl rfl rfl rfl (sRcv hh (a := 53) rfl rfl) rfl ev1 ?_
  refine s_ifc (q := .eq) (a := 1) rfl ⟨_, rfl⟩ rfl (by unfold sR aMi aMa; omega) (fun hc2 => ?_) (fun hc2 => ?_)
  · have hc2 : (1 : Int) = 0 := hc2
    omega
  · have hc2 : ¬ ((1 : Int) = 0) := hc2
    refine sP 2 (g1 := (6, [some (.ref 53), some (sI ((a : Int))), some (sI ((s : Int)))], [sI ((s : Int)), .ref 53], h)) rfl ?_
    have ev3 := fIsSet (sc := sc) (d := d + 2) (n := n) (s := (s : Int)) hh hn (by unfold sR aMi aMa; omega)
    rw [if_pos (by omega)] at ev3
    refine s_call (k := 181) (args := [.ref 53, sI ((s : Int))]) (st := []) (v := some (sI 1)) (h1 := h) rfl ⟨rfl, rfl⟩ rfl rfl rfl rfl (sRcv hh (a := 53) rfl rfl) rfl ev3 ?_
    refine s_ifc (q := .eq) (a := 1) rfl ⟨_, rfl⟩ rfl (by unfold sR aMi aMa; omega) (fun hc4 => ?_) (fun hc4 => ?_)
    · have hc4 : (1 : Int) = 0 := hc4
      omega
    · have hc4 : ¬ ((1 : Int) = 0) := hc4
      refine sP 3 (g1 := (11, [some (.ref 53), some (sI ((a : Int))), some (sI ((s : Int)))], [sI ((s : Int)), sI ((a : Int)), .ref 53], h)) rfl ?_
      refine s_call (k := 150) (args := [.ref 53, sI ((a : Int)), sI ((s : Int))]) (st := []) (v := some (sI (pSeem (fun j => hI h 58 (7 + j)) n ka a s))) (h1 := h) rfl ⟨rfl, rfl⟩ rfl rfl rfl rfl (sRcv hh (a := 53) rfl rfl) rfl ev ?_
      refine sP 1 (g1 := (14, [some (.ref 53), some (sI ((a : Int))), some (sI ((s : Int)))], [sI (pSeem (fun j => hI h 58 (7 + j)) n ka a s)], h)) rfl ?_
      exact s_reti rfl rfl (Or.inl rfl) rfl rfl
end SEEMS
/-- what one seems: class and reference say the same -/
theorem nR_seem {h g : mH} {n kd a s : Nat} (hr : nR h g) (hn : hI h 3 3 = (n : Int)) (ha : a < n) : pSeem (fun j => hI g 58 (7 + j)) n kd a s = pSeem (hI h 5) n kd a s := pSeem_cg (fun b hb => ((hr.2.2.2.1 a (by omega)).2 b (by omega)).symm)
theorem wSeems {sc : List Int32} {h : mH} (x y : Int32) (hp : wP h) : ∃ z1 h1 z2 h2, nEv sc 100 75 (.ref 0 :: [x, y].map Value.int) h (some (.int z1), h1) ∧ aHp h1 ∧ nEv sc 100 180 (.ref 53 :: [x, y].map Value.int) h1 (some (.int z2), h2) ∧ wP h2 ∧ z2 = z1 := by
  have hh := wP_a h hp
  have rx : sR x.toInt := aI_rg x
  have ry : sR y.toInt := aI_rg y
  have e3 : hI h 3 3 = hI h 58 0 := hp.2.1.1
  have gp := hI_rg hh xw_p
  obtain ⟨n, en⟩ := iN gp.1
  by_cases c1 : 0 ≤ x.toInt ∧ x.toInt < hI h 3 3
  · by_cases c2 : 0 ≤ y.toInt ∧ y.toInt < ((2 ^ n : Nat) : Int)
    · obtain ⟨a, ea⟩ := iN c1.1
      obtain ⟨s, es⟩ := iN c2.1
      obtain ⟨ka, ek⟩ := iN (hI_rg hh (xw_k (show a < 6 by omega))).1
      exact pair2e (by rw [ea, es]; exact fSeemsX (d := 95) hh en (by omega) (by omega) ek) hh (by rw [ea, es]; exact fSeemsM (d := 95) (n := n) (ka := ka) hh (by omega) (by omega) (by omega) (by rw [← (hp.2.1.2.2.2.1 a (by omega)).1]; exact ek)) hp (nR_seem hp.2.1 en (by omega))
    · exact pair2e (fSeemsXb1 (d := 95) hh en rx ry ⟨c1, c2⟩) hh (fSeemsMb1 (d := 95) (n := n) hh (by omega) rx ry ⟨by omega, c2⟩) hp rfl
  · exact pair2e (fSeemsXb0 (d := 95) hh rx ry c1) hh (fSeemsMb0 (d := 95) hh rx ry (by omega)) hp rfl
