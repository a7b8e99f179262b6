/-! there -/
section THERE
variable {sc : List Int32} {d : Nat} {h : mH}
noncomputable def thX (h : mH) (n s a : Nat) : Bool := bt s a && decide (0 < sX h n a s)
noncomputable def thM (h : mH) (n s a : Nat) : Bool := bt s a && decide (0 < sM h n a s)
theorem p2_6 {a n : Nat} (h1 : a ≤ n) (h2 : n ≤ 6) : 2 ^ a ≤ 64 := (p2_le (show a ≤ 6 by omega)).2
theorem fThL {n s : Nat} (hh : aHp h) (hn : hI h 3 3 = n) (hs : s < 64) : ∀ (k a : Nat), a + k = n → nRn sc (d + 4) (mMT mMe77) (mMC mMe77) (11, [some (.ref 0), some (sI (s : Int)), some (sI ((pFw (thX h n s) a : Nat) : Int)), some (sI (a : Int))], [], h) (some (sI ((pFw (thX h n s) n : Nat) : Int)), h) := by
  have gp := hI_rg hh xw_p
  intro k
  induction k with
  | zero =>
    intro a ha
    have hbn : a = n := by omega
    subst hbn
    have pa := pFw_lt (thX h a s) a
    have p6 := p2_6 (Nat.le_refl a) (show a ≤ 6 by omega)
    refine sP 2 (g1 := (13, [some (.ref 0), some (sI ((s : Int))), some (sI (((pFw (thX h a s) a : Nat) : Int))), some (sI ((a : Int)))], [.ref 0, sI ((a : Int))], h)) rfl ?_
    refine s_get (a := 0) (j := 2) hh rfl ⟨_, rfl⟩ rfl rfl rfl (v := .ref 3) (hR_ok hh (by decide +kernel)) ?_
    refine s_get (a := 3) (j := 3) hh rfl ⟨_, rfl⟩ rfl rfl rfl (v := sI (hI h 3 3)) (hI_ok hh xw_p) ?_
    refine s_icmp (q := .ge) (a := (a : Int)) (b := hI h 3 3) rfl ⟨_, rfl⟩ rfl (by unfold sR aMi aMa; omega) (by unfold sR aMi aMa; omega) (fun hc1 => ?_) (fun hc1 => ?_)
    · have hc1 : ((hI h 3 3) : Int) ≤ ((a : Int)) := hc1
      refine sP 1 (g1 := (35, [some (.ref 0), some (sI ((s : Int))), some (sI (((pFw (thX h a s) a : Nat) : Int))), some (sI ((a : Int)))], [sI (((pFw (thX h a s) a : Nat) : Int))], h)) rfl ?_
      exact s_reti rfl rfl (Or.inl rfl) rfl rfl
    · have hc1 : ¬ (((hI h 3 3) : Int) ≤ ((a : Int))) := hc1
      omega
  | succ k ih =>
    intro a ha
    have ha6 : a < 6 := by omega
    have pa := pFw_lt (thX h n s) a
    have p6 := p2_6 (show a ≤ 6 by omega) (Nat.le_refl 6)
    have r1 := ih (a + 1) (by omega)
    have e1 : pFw (thX h n s) (a + 1) = pFw (thX h n s) a + (if thX h n s a = true then 2 ^ a else 0) := rfl
    rw [e1] at r1
    have vi := fIsIn (sc := sc) (d := d + 3) (h := h) (s := s) (a := a) hs ha6
    have ev := fSeemK (sc := sc) (d := d) hh hn ha6 hs
    have sr := sX_rg (h := h) (n := n) (a := a) (s := s) hh (by omega) ha6
    by_cases u1 : bt s a = true
    · rw [if_pos u1] at vi
      by_cases u2 : 0 < sX h n a s
      · rw [if_pos (by unfold thX; rw [u1, decide_eq_true u2]; rfl)] at r1
        refine sP 2 (g1 := (13, [some (.ref 0), some (sI ((s : Int))), some (sI (((pFw (thX h n s) a : Nat) : Int))), some (sI ((a : Int)))], [.ref 0, sI ((a : Int))], h)) rfl ?_
        refine s_get (a := 0) (j := 2) hh rfl ⟨_, rfl⟩ rfl rfl rfl (v := .ref 3) (hR_ok hh (by decide +kernel)) ?_
        refine s_get (a := 3) (j := 3) hh rfl ⟨_, rfl⟩ rfl rfl rfl (v := sI (hI h 3 3)) (hI_ok hh xw_p) ?_
        refine s_icmp (q := .ge) (a := (a : Int)) (b := hI h 3 3) rfl ⟨_, rfl⟩ rfl (by unfold sR aMi aMa; omega) (by unfold sR aMi aMa; omega) (fun hc1 => ?_) (fun hc1 => ?_)
        · have hc1 : ((hI h 3 3) : Int) ≤ ((a : Int)) := hc1
          omega
        · have hc1 : ¬ (((hI h 3 3) : Int) ≤ ((a : Int))) := hc1
          refine sP 2 (g1 := (18, [some (.ref 0), some (sI ((s : Int))), some (sI (((pFw (thX h n s) a : Nat) : Int))), some (sI ((a : Int)))], [sI ((a : Int)), sI ((s : Int))], h)) rfl ?_
          refine s_call (k := 39) (args := [sI ((s : Int)), sI ((a : Int))]) (st := []) (v := some (sI 1)) (h1 := h) rfl ⟨rfl, rfl⟩ rfl rfl rfl rfl rfl rfl vi ?_
          refine s_ifc (q := .eq) (a := 1) rfl ⟨_, rfl⟩ rfl (by unfold sR aMi aMa; omega) (fun hc2 => ?_) (fun hc2 => ?_)
          · have hc2 : (1 : Int) = 0 := hc2
            omega
          · have hc2 : ¬ ((1 : Int) = 0) := hc2
            refine sP 1 (g1 := (21, [some (.ref 0), some (sI ((s : Int))), some (sI (((pFw (thX h n s) a : Nat) : Int))), some (sI ((a : Int)))], [.ref 0], h)) rfl ?_
            refine s_get (a := 0) (j := 2) hh rfl ⟨_, rfl⟩ rfl rfl rfl (v := .ref 3) (hR_ok hh (by decide +kernel)) ?_
            refine sP 2 (g1 := (24, [some (.ref 0), some (sI ((s : Int))), some (sI (((pFw (thX h n s) a : Nat) : Int))), some (sI ((a : Int)))], [sI ((s : Int)), sI ((a : Int)), .ref 3], h)) rfl ?_
            refine s_call (k := 37) (args := [.ref 3, sI ((a : Int)), sI ((s : Int))]) (st := []) (v := some (sI (sX h n a s))) (h1 := h) rfl ⟨rfl, rfl⟩ rfl rfl rfl rfl (sRcv hh (a := 3) rfl rfl) rfl ev ?_
            refine s_ifc (q := .le) (a := sX h n a s) rfl ⟨_, rfl⟩ rfl (by unfold sR aMi aMa; omega) (fun hc3 => ?_) (fun hc3 => ?_)
            · have hc3 : ((sX h n a s) : Int) ≤ 0 := hc3
              omega
            · have hc3 : ¬ (((sX h n a s) : Int) ≤ 0) := hc3
              refine sP 3 (g1 := (29, [some (.ref 0), some (sI ((s : Int))), some (sI (((pFw (thX h n s) a : Nat) : Int))), some (sI ((a : Int)))], [sI ((a : Int)), sI 1, sI (((pFw (thX h n s) a : Nat) : Int))], h)) rfl ?_
              refine s_shl7 (a := a) rfl rfl (by omega) ?_
              refine s_b1 rfl rfl (b_or2 a (by omega) (pFw (thX h n s) a) (by omega) pa) ?_
              refine sP 1 (g1 := (32, [some (.ref 0), some (sI ((s : Int))), some (sI (((pFw (thX h n s) a + 2 ^ a : Nat) : Int))), some (sI ((a : Int)))], [], h)) rfl ?_
              refine s_inc (a := (a : Int)) (n := 1) (k := 3) rfl rfl rfl ?_
              refine sP 1 (g1 := (11, [some (.ref 0), some (sI ((s : Int))), some (sI (((pFw (thX h n s) a + 2 ^ a : Nat) : Int))), some (sI (((a : Int)) + 1))], [], h)) rfl ?_
              rw [show ((a : Int) + 1) = ((a + 1 : Nat) : Int) by omega]
              exact r1
      · rw [if_neg (by unfold thX; rw [u1, decide_eq_false u2]; decide), Nat.add_zero] at r1
        refine sP 2 (g1 := (13, [some (.ref 0), some (sI ((s : Int))), some (sI (((pFw (thX h n s) a : Nat) : Int))), some (sI ((a : Int)))], [.ref 0, sI ((a : Int))], h)) rfl ?_
        refine s_get (a := 0) (j := 2) hh rfl ⟨_, rfl⟩ rfl rfl rfl (v := .ref 3) (hR_ok hh (by decide +kernel)) ?_
        refine s_get (a := 3) (j := 3) hh rfl ⟨_, rfl⟩ rfl rfl rfl (v := sI (hI h 3 3)) (hI_ok hh xw_p) ?_
        refine s_icmp (q := .ge) (a := (a : Int)) (b := hI h 3 3) rfl ⟨_, rfl⟩ rfl (by unfold sR aMi aMa; omega) (by unfold sR aMi aMa; omega) (fun hc1 => ?_) (fun hc1 => ?_)
        · have hc1 : ((hI h 3 3) : Int) ≤ ((a : Int)) := hc1
          omega
        · have hc1 : ¬ (((hI h 3 3) : Int) ≤ ((a : Int))) := hc1
          refine sP 2 (g1 := (18, [some (.ref 0), some (sI ((s : Int))), some (sI (((pFw (thX h n s) a : Nat) : Int))), some (sI ((a : Int)))], [sI ((a : Int)), sI ((s : Int))], h)) rfl ?_
          refine s_call (k := 39) (args := [sI ((s : Int)), sI ((a : Int))]) (st := []) (v := some (sI 1)) (h1 := h) rfl ⟨rfl, rfl⟩ rfl rfl rfl rfl rfl rfl vi ?_
          refine s_ifc (q := .eq) (a := 1) rfl ⟨_, rfl⟩ rfl (by unfold sR aMi aMa; omega) (fun hc2 => ?_) (fun hc2 => ?_)
          · have hc2 : (1 : Int) = 0 := hc2
            omega
          · have hc2 : ¬ ((1 : Int) = 0) := hc2
            refine sP 1 (g1 := (21, [some (.ref 0), some (sI ((s : Int))), some (sI (((pFw (thX h n s) a : Nat) : Int))), some (sI ((a : Int)))], [.ref 0], h)) rfl ?_
            refine s_get (a := 0) (j := 2) hh rfl ⟨_, rfl⟩ rfl rfl rfl (v := .ref 3) (hR_ok hh (by decide +kernel)) ?_
            refine sP 2 (g1 := (24, [some (.ref 0), some (sI ((s : Int))), some (sI (((pFw (thX h n s) a : Nat) : Int))), some (sI ((a : Int)))], [sI ((s : Int)), sI ((a : Int)), .ref 3], h)) rfl ?_
            refine s_call (k := 37) (args := [.ref 3, sI ((a : Int)), sI ((s : Int))]) (st := []) (v := some (sI (sX h n a s))) (h1 := h) rfl ⟨rfl, rfl⟩ rfl rfl rfl rfl (sRcv hh (a := 3) rfl rfl) rfl ev ?_
            refine s_ifc (q := .le) (a := sX h n a s) rfl ⟨_, rfl⟩ rfl (by unfold sR aMi aMa; omega) (fun hc3 => ?_) (fun hc3 => ?_)
            · have hc3 : ((sX h n a s) : Int) ≤ 0 := hc3
              refine s_inc (a := (a : Int)) (n := 1) (k := 3) rfl rfl rfl ?_
              refine sP 1 (g1 := (11, [some (.ref 0), some (sI ((s : Int))), some (sI (((pFw (thX h n s) a : Nat) : Int))), some (sI (((a : Int)) + 1))], [], h)) rfl ?_
              rw [show ((a : Int) + 1) = ((a + 1 : Nat) : Int) by omega]
              exact r1
            · have hc3 : ¬ (((sX h n a s) : Int) ≤ 0) := hc3
              omega
    · rw [if_neg u1] at vi
      rw [if_neg (by unfold thX; rw [Bool.eq_false_iff.mpr u1, Bool.false_and]; decide), Nat.add_zero] at r1
      refine sP 2 (g1 := (13, [some (.ref 0), some (sI ((s : Int))), some (sI (((pFw (thX h n s) a : Nat) : Int))), some (sI ((a : Int)))], [.ref 0, sI ((a : Int))], h)) rfl ?_
      refine s_get (a := 0) (j := 2) hh rfl ⟨_, rfl⟩ rfl rfl rfl (v := .ref 3) (hR_ok hh (by decide +kernel)) ?_
      refine s_get (a := 3) (j := 3) hh rfl ⟨_, rfl⟩ rfl rfl rfl (v := sI (hI h 3 3)) (hI_ok hh xw_p) ?_
      refine s_icmp (q := .ge) (a := (a : Int)) (b := hI h 3 3) rfl ⟨_, rfl⟩ rfl (by unfold sR aMi aMa; omega) (by unfold sR aMi aMa; omega) (fun hc1 => ?_) (fun hc1 => ?_)
      · have hc1 : ((hI h 3 3) : Int) ≤ ((a : Int)) := hc1
        omega
      · have hc1 : ¬ (((hI h 3 3) : Int) ≤ ((a : Int))) := hc1
        refine sP 2 (g1 := (18, [some (.ref 0), some (sI ((s : Int))), some (sI (((pFw (thX h n s) a : Nat) : Int))), some (sI ((a : Int)))], [sI ((a : Int)), sI ((s : Int))], h)) rfl ?_
        refine s_call (k := 39) (args := [sI ((s : Int)), sI ((a : Int))]) (st := []) (v := some (sI 0)) (h1 := h) rfl ⟨rfl, rfl⟩ rfl rfl rfl rfl rfl rfl vi ?_
        refine s_ifc (q := .eq) (a := 0) rfl ⟨_, rfl⟩ rfl (by unfold sR aMi aMa; omega) (fun hc2 => ?_) (fun hc2 => ?_)
        · have hc2 : (0 : Int) = 0 := hc2
          refine s_inc (a := (a : Int)) (n := 1) (k := 3) rfl rfl rfl ?_
          refine sP 1 (g1 := (11, [some (.ref 0), some (sI ((s : Int))), some (sI (((pFw (thX h n s) a : Nat) : Int))), some (sI (((a : Int)) + 1))], [], h)) rfl ?_
          rw [show ((a : Int) + 1) = ((a + 1 : Nat) : Int) by omega]
          exact r1
        · have hc2 : ¬ ((0 : Int) = 0) := hc2
          omega
theorem fThereXb {s : Int} {n : Nat} (hh : aHp h) (hn : hI h 3 3 = (n : Int)) (rs : sR s) (hc : ¬ (0 ≤ s ∧ s < ((2 ^ n : Nat) : Int))) : nEv sc (d + 5) 77 [.ref 0, sI s] h (some (sI (-1)), h) := by
  have gp := hI_rg hh xw_p
  have p2 := p2_le (show n ≤ 6 by omega)
  unfold sR aMi aMa at rs
  refine nEv_of (t := mMe77) rfl ?_
  show nRn sc (d + 4) (mMT mMe77) (mMC mMe77) (0, [some (.ref 0), some (sI s), none, none], [], h) _
  refine sP 1 (g1 := (1, [some (.ref 0), some (sI s), none, none], [.ref 0], h)) rfl ?_
  refine s_get (a := 0) (j := 2) hh rfl ⟨_, rfl⟩ rfl rfl rfl (v := .ref 3) (hR_ok hh (by decide +kernel)) ?_
  refine sP 1 (g1 := (3, [some (.ref 0), some (sI s), none, none], [sI s, .ref 3], h)) rfl ?_
  have ev1 := fHasSet (sc := sc) (d := d + 3) (n := n) (s := s) hh hn (by unfold sR aMi aMa; omega)
  rw [if_neg (by omega)] at ev1
  refine s_call (k := 76) (args := [.ref 3, sI s]) (st := []) (v := some (sI 0)) (h1 := h) rfl ⟨rfl, rfl⟩ rfl rfl rfl rfl (sRcv hh (a := 3) rfl rfl) rfl ev1 ?_
  refine s_ifc (q := .ne) (a := 0) rfl ⟨_, rfl⟩ rfl (by unfold sR aMi aMa; omega) (fun hc2 => ?_) (fun hc2 => ?_)
  · have hc2 : (0 : Int) ≠ 0 := hc2
    omega
  · have hc2 : ¬ ((0 : Int) ≠ 0) := hc2
    refine sP 1 (g1 := (6, [some (.ref 0), some (sI s), none, none], [sI ((-1))], h)) rfl ?_
    exact s_reti rfl rfl (Or.inl rfl) rfl rfl
theorem fThereX {n s : Nat} (hh : aHp h) (hn : hI h 3 3 = n) (hs : s < 2 ^ n) : nEv sc (d + 5) 77 [.ref 0, sI (s : Int)] h (some (sI ((pFw (thX h n s) n : Nat) : Int)), h) := by
  have gp := hI_rg hh xw_p
  have p2 := p2_le (show n ≤ 6 by omega)
  have r1 := fThL (sc := sc) (d := d) hh hn (show s < 64 by omega) n 0 (by omega)
  refine nEv_of (t := mMe77) rfl ?_
  show nRn sc (d + 4) (mMT mMe77) (mMC mMe77) (0, [some (.ref 0), some (sI ((s : Int))), none, none], [], h) _
  refine sP 1 (g1 := (1, [some (.ref 0), some (sI ((s : Int))), none, none], [.ref 0], h)) rfl ?_
  refine s_get (a := 0) (j := 2) hh rfl ⟨_, rfl⟩ rfl rfl rfl (v := .ref 3) (hR_ok hh (by decide +kernel)) ?_
  refine sP 1 (g1 := (3, [some (.ref 0), some (sI ((s : Int))), none, none], [sI ((s : Int)), .ref 3], h)) rfl ?_
  have ev1 := fHasSet (sc := sc) (d := d + 3) (n := n) (s := (s : Int)) hh hn (by unfold sR aMi aMa; omega)
  rw [if_pos (by omega)] at ev1
  refine s_call (k := 76) (args := [.ref 3, sI ((s : Int))]) (st := []) (v := some (sI 1)) (h1 := h) rfl ⟨rfl, rfl⟩ rfl rfl rfl rfl (sRcv hh (a := 3) rfl rfl) rfl ev1 ?_
  refine s_ifc (q := .ne) (a := 1) rfl ⟨_, rfl⟩ rfl (by unfold sR aMi aMa; omega) (fun hc2 => ?_) (fun hc2 => ?_)
  · have hc2 : (1 : Int) ≠ 0 := hc2
    refine sP 4 (g1 := (11, [some (.ref 0), some (sI ((s : Int))), some (sI 0), some (sI 0)], [], h)) rfl ?_
    exact r1
  · have hc2 : ¬ ((1 : Int) ≠ 0) := hc2
    omega
theorem fThML {n s : Nat} (hh : aHp h) (hn : hI h 58 0 = n) (hs : s < 64) : ∀ (k a : Nat), a + k = n → nRn sc (d + 3) (mMT mMe183) (mMC mMe183) (4, [some (.ref 53), some (sI (s : Int)), some (sI ((pFw (thM h n s) a : Nat) : Int)), some (sI (a : Int))], [], h) (some (sI ((pFw (thM h n s) n : Nat) : Int)), h) := by
  have gp := hI_rg hh nw_p
  intro k
  induction k with
  | zero =>
    intro a ha
    have hbn : a = n := by omega
    subst hbn
    have pa := pFw_lt (thM h a s) a
    have p6 := p2_6 (Nat.le_refl a) (show a ≤ 6 by omega)
    refine sP 2 (g1 := (6, [some (.ref 53), some (sI ((s : Int))), some (sI (((pFw (thM h a s) a : Nat) : Int))), some (sI ((a : Int)))], [.ref 53, sI ((a : Int))], h)) rfl ?_
    refine s_get (a := 53) (j := 4) hh rfl ⟨_, rfl⟩ rfl rfl rfl (v := .ref 58) (hR_ok hh (by decide +kernel)) ?_
    refine sP 1 (g1 := (8, [some (.ref 53), some (sI ((s : Int))), some (sI (((pFw (thM h a s) a : Nat) : Int))), some (sI ((a : Int)))], [sI 0, .ref 58, sI ((a : Int))], h)) rfl ?_
    refine s_iald (a := 58) (n := 201) (j := 0) hh rfl rfl rfl (by omega) (by omega) (by decide) (v := sI (hI h 58 0)) (hI_ok hh nw_p) ?_
    refine s_icmp (q := .ge) (a := (a : Int)) (b := hI h 58 0) rfl ⟨_, rfl⟩ rfl (by unfold sR aMi aMa; omega) (by unfold sR aMi aMa; omega) (fun hc1 => ?_) (fun hc1 => ?_)
    · have hc1 : ((hI h 58 0) : Int) ≤ ((a : Int)) := hc1
      refine sP 1 (g1 := (30, [some (.ref 53), some (sI ((s : Int))), some (sI (((pFw (thM h a s) a : Nat) : Int))), some (sI ((a : Int)))], [sI (((pFw (thM h a s) a : Nat) : Int))], h)) rfl ?_
      exact s_reti rfl rfl (Or.inl rfl) rfl rfl
    · have hc1 : ¬ (((hI h 58 0) : Int) ≤ ((a : Int))) := hc1
      omega
  | succ k ih =>
    intro a ha
    have ha6 : a < 6 := by omega
    have pa := pFw_lt (thM h n s) a
    have p6 := p2_6 (show a ≤ 6 by omega) (Nat.le_refl 6)
    have r1 := ih (a + 1) (by omega)
    have e1 : pFw (thM h n s) (a + 1) = pFw (thM h n s) a + (if thM h n s a = true then 2 ^ a else 0) := rfl
    rw [e1] at r1
    have vi := fHas (sc := sc) (d := d + 2) (h := h) (s := s) (a := a) hs ha6
    have ev := fSeemKM (sc := sc) (d := d) hh hn ha6 hs
    have sr := sM_rg (h := h) (n := n) (a := a) (s := s) hh (by omega) ha6
    by_cases u1 : bt s a = true
    · rw [if_pos u1] at vi
      by_cases u2 : 0 < sM h n a s
      · rw [if_pos (by unfold thM; rw [u1, decide_eq_true u2]; rfl)] at r1
        refine sP 2 (g1 := (6, [some (.ref 53), some (sI ((s : Int))), some (sI (((pFw (thM h n s) a : Nat) : Int))), some (sI ((a : Int)))], [.ref 53, sI ((a : Int))], h)) rfl ?_
        refine s_get (a := 53) (j := 4) hh rfl ⟨_, rfl⟩ rfl rfl rfl (v := .ref 58) (hR_ok hh (by decide +kernel)) ?_
        refine sP 1 (g1 := (8, [some (.ref 53), some (sI ((s : Int))), some (sI (((pFw (thM h n s) a : Nat) : Int))), some (sI ((a : Int)))], [sI 0, .ref 58, sI ((a : Int))], h)) rfl ?_
        refine s_iald (a := 58) (n := 201) (j := 0) hh rfl rfl rfl (by omega) (by omega) (by decide) (v := sI (hI h 58 0)) (hI_ok hh nw_p) ?_
        refine s_icmp (q := .ge) (a := (a : Int)) (b := hI h 58 0) rfl ⟨_, rfl⟩ rfl (by unfold sR aMi aMa; omega) (by unfold sR aMi aMa; omega) (fun hc1 => ?_) (fun hc1 => ?_)
        · have hc1 : ((hI h 58 0) : Int) ≤ ((a : Int)) := hc1
          omega
        · have hc1 : ¬ (((hI h 58 0) : Int) ≤ ((a : Int))) := hc1
          refine sP 3 (g1 := (13, [some (.ref 53), some (sI ((s : Int))), some (sI (((pFw (thM h n s) a : Nat) : Int))), some (sI ((a : Int)))], [sI ((a : Int)), sI ((s : Int)), sI (((pFw (thM h n s) a : Nat) : Int))], h)) rfl ?_
          refine s_call (k := 149) (args := [sI ((s : Int)), sI ((a : Int))]) (st := [sI (((pFw (thM h n s) a : Nat) : Int))]) (v := some (sI 1)) (h1 := h) rfl ⟨rfl, rfl⟩ rfl rfl rfl rfl rfl rfl vi ?_
          refine s_ifc (q := .eq) (a := 1) rfl ⟨_, rfl⟩ rfl (by unfold sR aMi aMa; omega) (fun hc2 => ?_) (fun hc2 => ?_)
          · have hc2 : (1 : Int) = 0 := hc2
            omega
          · have hc2 : ¬ ((1 : Int) = 0) := hc2
            refine sP 3 (g1 := (18, [some (.ref 53), some (sI ((s : Int))), some (sI (((pFw (thM h n s) a : Nat) : Int))), some (sI ((a : Int)))], [sI ((s : Int)), sI ((a : Int)), .ref 53, sI (((pFw (thM h n s) a : Nat) : Int))], h)) rfl ?_
            refine s_call (k := 150) (args := [.ref 53, sI ((a : Int)), sI ((s : Int))]) (st := [sI (((pFw (thM h n s) a : Nat) : Int))]) (v := some (sI (sM h n a s))) (h1 := h) rfl ⟨rfl, rfl⟩ rfl rfl rfl rfl (sRcv hh (a := 53) rfl rfl) rfl ev ?_
            refine s_ifc (q := .le) (a := sM h n a s) rfl ⟨_, rfl⟩ rfl (by unfold sR aMi aMa; omega) (fun hc3 => ?_) (fun hc3 => ?_)
            · have hc3 : ((sM h n a s) : Int) ≤ 0 := hc3
              omega
            · have hc3 : ¬ (((sM h n a s) : Int) ≤ 0) := hc3
              refine sP 2 (g1 := (22, [some (.ref 53), some (sI ((s : Int))), some (sI (((pFw (thM h n s) a : Nat) : Int))), some (sI ((a : Int)))], [sI ((a : Int)), sI 1, sI (((pFw (thM h n s) a : Nat) : Int))], h)) rfl ?_
              refine s_shl7 (a := a) rfl rfl (by omega) ?_
              refine sP 1 (g1 := (25, [some (.ref 53), some (sI ((s : Int))), some (sI (((pFw (thM h n s) a : Nat) : Int))), some (sI ((a : Int)))], [sI (((2 ^ a : Nat) : Int)), sI (((pFw (thM h n s) a : Nat) : Int))], h)) rfl ?_
              refine s_b1 rfl rfl (b_or2 a (by omega) (pFw (thM h n s) a) (by omega) pa) ?_
              refine sP 1 (g1 := (27, [some (.ref 53), some (sI ((s : Int))), some (sI (((pFw (thM h n s) a + 2 ^ a : Nat) : Int))), some (sI ((a : Int)))], [], h)) rfl ?_
              refine s_inc (a := (a : Int)) (n := 1) (k := 3) rfl rfl rfl ?_
              refine sP 1 (g1 := (4, [some (.ref 53), some (sI ((s : Int))), some (sI (((pFw (thM h n s) a + 2 ^ a : Nat) : Int))), some (sI (((a : Int)) + 1))], [], h)) rfl ?_
              rw [show ((a : Int) + 1) = ((a + 1 : Nat) : Int) by omega]
              exact r1
      · rw [if_neg (by unfold thM; rw [u1, decide_eq_false u2]; decide), Nat.add_zero] at r1
        refine sP 2 (g1 := (6, [some (.ref 53), some (sI ((s : Int))), some (sI (((pFw (thM h n s) a : Nat) : Int))), some (sI ((a : Int)))], [.ref 53, sI ((a : Int))], h)) rfl ?_
        refine s_get (a := 53) (j := 4) hh rfl ⟨_, rfl⟩ rfl rfl rfl (v := .ref 58) (hR_ok hh (by decide +kernel)) ?_
        refine sP 1 (g1 := (8, [some (.ref 53), some (sI ((s : Int))), some (sI (((pFw (thM h n s) a : Nat) : Int))), some (sI ((a : Int)))], [sI 0, .ref 58, sI ((a : Int))], h)) rfl ?_
        refine s_iald (a := 58) (n := 201) (j := 0) hh rfl rfl rfl (by omega) (by omega) (by decide) (v := sI (hI h 58 0)) (hI_ok hh nw_p) ?_
        refine s_icmp (q := .ge) (a := (a : Int)) (b := hI h 58 0) rfl ⟨_, rfl⟩ rfl (by unfold sR aMi aMa; omega) (by unfold sR aMi aMa; omega) (fun hc1 => ?_) (fun hc1 => ?_)
        · have hc1 : ((hI h 58 0) : Int) ≤ ((a : Int)) := hc1
          omega
        · have hc1 : ¬ (((hI h 58 0) : Int) ≤ ((a : Int))) := hc1
          refine sP 3 (g1 := (13, [some (.ref 53), some (sI ((s : Int))), some (sI (((pFw (thM h n s) a : Nat) : Int))), some (sI ((a : Int)))], [sI ((a : Int)), sI ((s : Int)), sI (((pFw (thM h n s) a : Nat) : Int))], h)) rfl ?_
          refine s_call (k := 149) (args := [sI ((s : Int)), sI ((a : Int))]) (st := [sI (((pFw (thM h n s) a : Nat) : Int))]) (v := some (sI 1)) (h1 := h) rfl ⟨rfl, rfl⟩ rfl rfl rfl rfl rfl rfl vi ?_
          refine s_ifc (q := .eq) (a := 1) rfl ⟨_, rfl⟩ rfl (by unfold sR aMi aMa; omega) (fun hc2 => ?_) (fun hc2 => ?_)
          · have hc2 : (1 : Int) = 0 := hc2
            omega
          · have hc2 : ¬ ((1 : Int) = 0) := hc2
            refine sP 3 (g1 := (18, [some (.ref 53), some (sI ((s : Int))), some (sI (((pFw (thM h n s) a : Nat) : Int))), some (sI ((a : Int)))], [sI ((s : Int)), sI ((a : Int)), .ref 53, sI (((pFw (thM h n s) a : Nat) : Int))], h)) rfl ?_
            refine s_call (k := 150) (args := [.ref 53, sI ((a : Int)), sI ((s : Int))]) (st := [sI (((pFw (thM h n s) a : Nat) : Int))]) (v := some (sI (sM h n a s))) (h1 := h) rfl ⟨rfl, rfl⟩ rfl rfl rfl rfl (sRcv hh (a := 53) rfl rfl) rfl ev ?_
            refine s_ifc (q := .le) (a := sM h n a s) rfl ⟨_, rfl⟩ rfl (by unfold sR aMi aMa; omega) (fun hc3 => ?_) (fun hc3 => ?_)
            · have hc3 : ((sM h n a s) : Int) ≤ 0 := hc3
              refine sP 1 (g1 := (25, [some (.ref 53), some (sI ((s : Int))), some (sI (((pFw (thM h n s) a : Nat) : Int))), some (sI ((a : Int)))], [sI 0, sI (((pFw (thM h n s) a : Nat) : Int))], h)) rfl ?_
              refine s_b1 rfl rfl (b_or0 (pFw (thM h n s) a) (by omega)) ?_
              refine sP 1 (g1 := (27, [some (.ref 53), some (sI ((s : Int))), some (sI (((pFw (thM h n s) a : Nat) : Int))), some (sI ((a : Int)))], [], h)) rfl ?_
              refine s_inc (a := (a : Int)) (n := 1) (k := 3) rfl rfl rfl ?_
              refine sP 1 (g1 := (4, [some (.ref 53), some (sI ((s : Int))), some (sI (((pFw (thM h n s) a : Nat) : Int))), some (sI (((a : Int)) + 1))], [], h)) rfl ?_
              rw [show ((a : Int) + 1) = ((a + 1 : Nat) : Int) by omega]
              exact r1
            · have hc3 : ¬ (((sM h n a s) : Int) ≤ 0) := hc3
              omega
    · rw [if_neg u1] at vi
      rw [if_neg (by unfold thM; rw [Bool.eq_false_iff.mpr u1, Bool.false_and]; decide), Nat.add_zero] at r1
      refine sP 2 (g1 := (6, [some (.ref 53), some (sI ((s : Int))), some (sI (((pFw (thM h n s) a : Nat) : Int))), some (sI ((a : Int)))], [.ref 53, sI ((a : Int))], h)) rfl ?_
      refine s_get (a := 53) (j := 4) hh rfl ⟨_, rfl⟩ rfl rfl rfl (v := .ref 58) (hR_ok hh (by decide +kernel)) ?_
      refine sP 1 (g1 := (8, [some (.ref 53), some (sI ((s : Int))), some (sI (((pFw (thM h n s) a : Nat) : Int))), some (sI ((a : Int)))], [sI 0, .ref 58, sI ((a : Int))], h)) rfl ?_
      refine s_iald (a := 58) (n := 201) (j := 0) hh rfl rfl rfl (by omega) (by omega) (by decide) (v := sI (hI h 58 0)) (hI_ok hh nw_p) ?_
      refine s_icmp (q := .ge) (a := (a : Int)) (b := hI h 58 0) rfl ⟨_, rfl⟩ rfl (by unfold sR aMi aMa; omega) (by unfold sR aMi aMa; omega) (fun hc1 => ?_) (fun hc1 => ?_)
      · have hc1 : ((hI h 58 0) : Int) ≤ ((a : Int)) := hc1
        omega
      · have hc1 : ¬ (((hI h 58 0) : Int) ≤ ((a : Int))) := hc1
        refine sP 3 (g1 := (13, [some (.ref 53), some (sI ((s : Int))), some (sI (((pFw (thM h n s) a : Nat) : Int))), some (sI ((a : Int)))], [sI ((a : Int)), sI ((s : Int)), sI (((pFw (thM h n s) a : Nat) : Int))], h)) rfl ?_
        refine s_call (k := 149) (args := [sI ((s : Int)), sI ((a : Int))]) (st := [sI (((pFw (thM h n s) a : Nat) : Int))]) (v := some (sI 0)) (h1 := h) rfl ⟨rfl, rfl⟩ rfl rfl rfl rfl rfl rfl vi ?_
        refine s_ifc (q := .eq) (a := 0) rfl ⟨_, rfl⟩ rfl (by unfold sR aMi aMa; omega) (fun hc2 => ?_) (fun hc2 => ?_)
        · have hc2 : (0 : Int) = 0 := hc2
          refine sP 1 (g1 := (25, [some (.ref 53), some (sI ((s : Int))), some (sI (((pFw (thM h n s) a : Nat) : Int))), some (sI ((a : Int)))], [sI 0, sI (((pFw (thM h n s) a : Nat) : Int))], h)) rfl ?_
          refine s_b1 rfl rfl (b_or0 (pFw (thM h n s) a) (by omega)) ?_
          refine sP 1 (g1 := (27, [some (.ref 53), some (sI ((s : Int))), some (sI (((pFw (thM h n s) a : Nat) : Int))), some (sI ((a : Int)))], [], h)) rfl ?_
          refine s_inc (a := (a : Int)) (n := 1) (k := 3) rfl rfl rfl ?_
          refine sP 1 (g1 := (4, [some (.ref 53), some (sI ((s : Int))), some (sI (((pFw (thM h n s) a : Nat) : Int))), some (sI (((a : Int)) + 1))], [], h)) rfl ?_
          rw [show ((a : Int) + 1) = ((a + 1 : Nat) : Int) by omega]
          exact r1
        · have hc2 : ¬ ((0 : Int) = 0) := hc2
          omega
theorem fThereOf {n s : Nat} (hh : aHp h) (hn : hI h 58 0 = n) (hs : s < 64) : nEv sc (d + 4) 183 [.ref 53, sI (s : Int)] h (some (sI ((pFw (thM h n s) n : Nat) : Int)), h) := by
  have r1 := fThML (sc := sc) (d := d) hh hn hs n 0 (by omega)
  refine nEv_of (t := mMe183) rfl ?_
  show nRn sc (d + 3) (mMT mMe183) (mMC mMe183) (0, [some (.ref 53), some (sI (s : Int)), none, none], [], h) _
  refine sP 4 (g1 := (4, [some (.ref 53), some (sI (s : Int)), some (sI ((0 : Nat) : Int)), some (sI ((0 : Nat) : Int))], [], h)) rfl ?_
  exact r1
theorem fThereMb {s : Int} {n : Nat} (hh : aHp h) (hn : hI h 58 0 = (n : Int)) (rs : sR s) (hc : ¬ (0 ≤ s ∧ s < ((2 ^ n : Nat) : Int))) : nEv sc (d + 5) 182 [.ref 53, sI s] h (some (sI (-1)), h) := by
  have gp := hI_rg hh nw_p
  have p2 := p2_le (show n ≤ 6 by omega)
  unfold sR aMi aMa at rs
  refine nEv_of (t := mMe182) rfl ?_
  show nRn sc (d + 4) (mMT mMe182) (mMC mMe182) (0, [some (.ref 53), some (sI s)], [], h) _
  refine sP 2 (g1 := (2, [some (.ref 53), some (sI s)], [sI s, .ref 53], h)) rfl ?_
  have ev1 := fIsSet (sc := sc) (d := d + 2) (n := n) (s := s) hh hn (by unfold sR aMi aMa; omega)
  rw [if_neg (by omega)] at ev1
  refine s_call (k := 181) (args := [.ref 53, sI s]) (st := []) (v := some (sI 0)) (h1 := h) rfl ⟨rfl, rfl⟩ rfl rfl rfl rfl (sRcv hh (a := 53) rfl rfl) rfl ev1 ?_
  refine s_ifc (q := .eq) (a := 0) rfl ⟨_, rfl⟩ rfl (by unfold sR aMi aMa; omega) (fun hc2 => ?_) (fun hc2 => ?_)
  · have hc2 : (0 : Int) = 0 := hc2
    refine sP 1 (g1 := (9, [some (.ref 53), some (sI s)], [sI ((-1))], h)) rfl ?_
    exact s_reti rfl rfl (Or.inl rfl) rfl rfl
  · have hc2 : ¬ ((0 : Int) = 0) := hc2
    omega
theorem fThereM {n s : Nat} (hh : aHp h) (hn : hI h 58 0 = n) (hs : s < 2 ^ n) : nEv sc (d + 5) 182 [.ref 53, sI (s : Int)] h (some (sI ((pFw (thM h n s) n : Nat) : Int)), h) := by
  have gp := hI_rg hh nw_p
  have p2 := p2_le (show n ≤ 6 by omega)
  have ev := fThereOf (sc := sc) (d := d) hh hn (show s < 64 by omega)
  refine nEv_of (t := mMe182) rfl ?_
  show nRn sc (d + 4) (mMT mMe182) (mMC mMe182) (0, [some (.ref 53), some (sI ((s : Int)))], [], h) _
  refine sP 2 (g1 := (2, [some (.ref 53), some (sI ((s : Int)))], [sI ((s : Int)), .ref 53], h)) rfl ?_
  have ev1 := fIsSet (sc := sc) (d := d + 2) (n := n) (s := (s : Int)) hh hn (by unfold sR aMi aMa; omega)
  rw [if_pos (by omega)] at ev1
  refine s_call (k := 181) (args := [.ref 53, sI ((s : Int))]) (st := []) (v := some (sI 1)) (h1 := h) rfl ⟨rfl, rfl⟩ rfl rfl rfl rfl (sRcv hh (a := 53) rfl rfl) rfl ev1 ?_
  refine s_ifc (q := .eq) (a := 1) rfl ⟨_, rfl⟩ rfl (by unfold sR aMi aMa; omega) (fun hc2 => ?_) (fun hc2 => ?_)
  · have hc2 : (1 : Int) = 0 := hc2
    omega
  · have hc2 : ¬ ((1 : Int) = 0) := hc2
    refine sP 2 (g1 := (6, [some (.ref 53), some (sI ((s : Int)))], [sI ((s : Int)), .ref 53], h)) rfl ?_
    refine s_call (k := 183) (args := [.ref 53, sI ((s : Int))]) (st := []) (v := some (sI (((pFw (thM h n s) n : Nat) : Int)))) (h1 := h) rfl ⟨rfl, rfl⟩ rfl rfl rfl rfl (sRcv hh (a := 53) rfl rfl) rfl ev ?_
    refine sP 1 (g1 := (9, [some (.ref 53), some (sI ((s : Int)))], [sI (((pFw (thM h n s) n : Nat) : Int))], h)) rfl ?_
    exact s_reti rfl rfl (Or.inl rfl) rfl rfl
end THERE
theorem wThere {sc : List Int32} {h : mH} (x : Int32) (hp : wP h) : ∃ z1 h1 z2 h2, nEv sc 100 77 (.ref 0 :: [x].map Value.int) h (some (.int z1), h1) ∧ aHp h1 ∧ nEv sc 100 182 (.ref 53 :: [x].map Value.int) h1 (some (.int z2), h2) ∧ wP h2 ∧ z2 = z1 := by
  have hh := wP_a h hp
  have rx : sR x.toInt := aI_rg x
  have e3 : hI h 3 3 = hI h 58 0 := hp.2.1.1
  have gp := hI_rg hh xw_p
  obtain ⟨n, en⟩ := iN gp.1
  by_cases c2 : 0 ≤ x.toInt ∧ x.toInt < ((2 ^ n : Nat) : Int)
  · obtain ⟨s, es⟩ := iN c2.1
    refine pair1 (by rw [es]; exact fThereX (d := 95) hh en (by omega)) hh (by rw [es]; exact fThereM (d := 95) (n := n) hh (by omega) (by omega)) hp ?_
    rw [pFw_cg (n := n) (fun a ha => show thM h n s a = thX h n s a by unfold thM thX; rw [nR_sX hp.2.1 en ha]) n (Nat.le_refl n)]
  · exact pair1 (fThereXb (d := 95) hh en rx c2) hh (fThereMb (d := 95) (n := n) hh (by omega) rx c2) hp rfl
