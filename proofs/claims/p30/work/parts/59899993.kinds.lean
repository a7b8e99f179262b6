/-! kinds -/
section KINDS
variable {sc : List Int32} {d : Nat} {h : mH}
theorem fKindsXL {r n K a : Nat} {z : Int} (hh : aHp h) (hr : r < 6) (hn : hI h 3 3 = n) (ha : a < 6) (hz : hI h (21 + 2 * r) 1 = z) (hK : z = 2 * (K : Int)) (hK6 : K ≤ 6) (hs : ∀ j, j < K → 0 ≤ (hI h (22 + 2 * r)) (2 * j) ∧ (hI h (22 + 2 * r)) (2 * j) < 64) : ∀ (c v : Nat), v + c = 6 → nRn sc (d + 4) (mMT mMe94) (mMC mMe94) (27, [some (.ref 0), some (sI ((a : Int))), some (sI ((r : Int))), some (.ref (21 + 2 * r)), some (sI 0), some (sI (((pFw (fun kd => pNt (hI h 5) n kd a (hI h (22 + 2 * r)) K 0) v : Nat) : Int))), some (sI ((v : Int)))], [], h) (some (sI ((pFw (fun kd => pNt (hI h 5) n kd a (hI h (22 + 2 * r)) K 0) 6 : Nat) : Int)), h) := by
  intro c
  induction c with
  | zero =>
    intro v hv
    have hv6 : v = 6 := by omega
    subst hv6
    have p6 := pFw_lt (fun kd => pNt (hI h 5) n kd a (hI h (22 + 2 * r)) K 0) 6
    refine sP 2 (g1 := (29, [some (.ref 0), some (sI ((a : Int))), some (sI ((r : Int))), some (.ref (21 + 2 * r)), some (sI 0), some (sI (((pFw (fun kd => pNt (hI h 5) n kd a (hI h (22 + 2 * r)) K 0) 6 : Nat) : Int))), some (sI (((6 : Nat) : Int)))], [sI 6, sI (((6 : Nat) : Int))], h)) rfl ?_
    refine s_icmp (q := .ge) (a := ((6 : Nat) : Int)) (b := 6) rfl ⟨_, rfl⟩ rfl (by unfold sR aMi aMa; omega) (by unfold sR aMi aMa; omega) (fun hc1 => ?_) (fun hc1 => ?_)
    · have hc1 : (6 : Int) ≤ (((6 : Nat) : Int)) := hc1
      refine sP 1 (g1 := (45, [some (.ref 0), some (sI ((a : Int))), some (sI ((r : Int))), some (.ref (21 + 2 * r)), some (sI 0), some (sI (((pFw (fun kd => pNt (hI h 5) n kd a (hI h (22 + 2 * r)) K 0) 6 : Nat) : Int))), some (sI (((6 : Nat) : Int)))], [sI (((pFw (fun kd => pNt (hI h 5) n kd a (hI h (22 + 2 * r)) K 0) 6 : Nat) : Int))], h)) rfl ?_
      exact s_reti rfl rfl (Or.inl rfl) rfl rfl
    · have hc1 : ¬ ((6 : Int) ≤ (((6 : Nat) : Int))) := hc1
      omega
  | succ c ih =>
    intro v hv
    have pv := pFw_lt (fun kd => pNt (hI h 5) n kd a (hI h (22 + 2 * r)) K 0) v
    have p10 := p2_10 (show v ≤ 10 by omega)
    have ev := fNoted (sc := sc) (d := d) (r := r) (n := n) (K := K) (kd := v) (a := a) (z := z) hh hr hn (by omega) ha hz hK hK6 hs
    have r1 := ih (v + 1) (by omega)
    have e1 : pFw (fun kd => pNt (hI h 5) n kd a (hI h (22 + 2 * r)) K 0) (v + 1) = pFw (fun kd => pNt (hI h 5) n kd a (hI h (22 + 2 * r)) K 0) v + (if pNt (hI h 5) n v a (hI h (22 + 2 * r)) K 0 = true then 2 ^ v else 0) := rfl
    rw [e1] at r1
    cases hb2 : pNt (hI h 5) n v a (hI h (22 + 2 * r)) K 0 with
    | true =>
      rw [hb2, if_pos rfl] at ev r1
      refine sP 2 (g1 := (29, [some (.ref 0), some (sI ((a : Int))), some (sI ((r : Int))), some (.ref (21 + 2 * r)), some (sI 0), some (sI (((pFw (fun kd => pNt (hI h 5) n kd a (hI h (22 + 2 * r)) K 0) v : Nat) : Int))), some (sI ((v : Int)))], [sI 6, sI ((v : Int))], h)) rfl ?_
      refine s_icmp (q := .ge) (a := (v : Int)) (b := 6) rfl ⟨_, rfl⟩ rfl (by unfold sR aMi aMa; omega) (by unfold sR aMi aMa; omega) (fun hc1 => ?_) (fun hc1 => ?_)
      · have hc1 : (6 : Int) ≤ ((v : Int)) := hc1
        omega
      · have hc1 : ¬ ((6 : Int) ≤ ((v : Int))) := hc1
        refine sP 4 (g1 := (34, [some (.ref 0), some (sI ((a : Int))), some (sI ((r : Int))), some (.ref (21 + 2 * r)), some (sI 0), some (sI (((pFw (fun kd => pNt (hI h 5) n kd a (hI h (22 + 2 * r)) K 0) v : Nat) : Int))), some (sI ((v : Int)))], [.ref (21 + 2 * r), sI ((v : Int)), sI ((a : Int)), .ref 0], h)) rfl ?_
        refine s_call (k := 93) (args := [.ref 0, sI ((a : Int)), sI ((v : Int)), .ref (21 + 2 * r)]) (st := []) (v := some (sI 1)) (h1 := h) rfl ⟨rfl, rfl⟩ rfl rfl rfl rfl (sRcv hh (a := 0) rfl rfl) rfl ev ?_
        refine s_ifc (q := .eq) (a := 1) rfl ⟨_, rfl⟩ rfl (by unfold sR aMi aMa; omega) (fun hc2 => ?_) (fun hc2 => ?_)
        · have hc2 : (1 : Int) = 0 := hc2
          omega
        · have hc2 : ¬ ((1 : Int) = 0) := hc2
          refine sP 3 (g1 := (39, [some (.ref 0), some (sI ((a : Int))), some (sI ((r : Int))), some (.ref (21 + 2 * r)), some (sI 0), some (sI (((pFw (fun kd => pNt (hI h 5) n kd a (hI h (22 + 2 * r)) K 0) v : Nat) : Int))), some (sI ((v : Int)))], [sI ((v : Int)), sI 1, sI (((pFw (fun kd => pNt (hI h 5) n kd a (hI h (22 + 2 * r)) K 0) v : Nat) : Int))], h)) rfl ?_
          refine s_shl7 (a := v) rfl rfl (by omega) ?_
          refine s_b1 rfl rfl (b_or2 v (by omega) (pFw (fun kd => pNt (hI h 5) n kd a (hI h (22 + 2 * r)) K 0) v) (by omega) pv) ?_
          refine sP 1 (g1 := (42, [some (.ref 0), some (sI ((a : Int))), some (sI ((r : Int))), some (.ref (21 + 2 * r)), some (sI 0), some (sI (((pFw (fun kd => pNt (hI h 5) n kd a (hI h (22 + 2 * r)) K 0) v + 2 ^ v : Nat) : Int))), some (sI ((v : Int)))], [], h)) rfl ?_
          refine s_inc (a := (v : Int)) (n := 1) (k := 6) rfl rfl rfl ?_
          refine sP 1 (g1 := (27, [some (.ref 0), some (sI ((a : Int))), some (sI ((r : Int))), some (.ref (21 + 2 * r)), some (sI 0), some (sI (((pFw (fun kd => pNt (hI h 5) n kd a (hI h (22 + 2 * r)) K 0) v + 2 ^ v : Nat) : Int))), some (sI (((v : Int)) + 1))], [], h)) rfl ?_
          rw [show ((v : Int) + 1) = ((v + 1 : Nat) : Int) by omega]
          exact r1
    | false =>
      rw [hb2, if_neg (by decide)] at ev r1
      rw [Nat.add_zero] at r1
      refine sP 2 (g1 := (29, [some (.ref 0), some (sI ((a : Int))), some (sI ((r : Int))), some (.ref (21 + 2 * r)), some (sI 0), some (sI (((pFw (fun kd => pNt (hI h 5) n kd a (hI h (22 + 2 * r)) K 0) v : Nat) : Int))), some (sI ((v : Int)))], [sI 6, sI ((v : Int))], h)) rfl ?_
      refine s_icmp (q := .ge) (a := (v : Int)) (b := 6) rfl ⟨_, rfl⟩ rfl (by unfold sR aMi aMa; omega) (by unfold sR aMi aMa; omega) (fun hc1 => ?_) (fun hc1 => ?_)
      · have hc1 : (6 : Int) ≤ ((v : Int)) := hc1
        omega
      · have hc1 : ¬ ((6 : Int) ≤ ((v : Int))) := hc1
        refine sP 4 (g1 := (34, [some (.ref 0), some (sI ((a : Int))), some (sI ((r : Int))), some (.ref (21 + 2 * r)), some (sI 0), some (sI (((pFw (fun kd => pNt (hI h 5) n kd a (hI h (22 + 2 * r)) K 0) v : Nat) : Int))), some (sI ((v : Int)))], [.ref (21 + 2 * r), sI ((v : Int)), sI ((a : Int)), .ref 0], h)) rfl ?_
        refine s_call (k := 93) (args := [.ref 0, sI ((a : Int)), sI ((v : Int)), .ref (21 + 2 * r)]) (st := []) (v := some (sI 0)) (h1 := h) rfl ⟨rfl, rfl⟩ rfl rfl rfl rfl (sRcv hh (a := 0) rfl rfl) rfl ev ?_
        refine s_ifc (q := .eq) (a := 0) rfl ⟨_, rfl⟩ rfl (by unfold sR aMi aMa; omega) (fun hc2 => ?_) (fun hc2 => ?_)
        · have hc2 : (0 : Int) = 0 := hc2
          refine s_inc (a := (v : Int)) (n := 1) (k := 6) rfl rfl rfl ?_
          refine sP 1 (g1 := (27, [some (.ref 0), some (sI ((a : Int))), some (sI ((r : Int))), some (.ref (21 + 2 * r)), some (sI 0), some (sI (((pFw (fun kd => pNt (hI h 5) n kd a (hI h (22 + 2 * r)) K 0) v : Nat) : Int))), some (sI (((v : Int)) + 1))], [], h)) rfl ?_
          rw [show ((v : Int) + 1) = ((v + 1 : Nat) : Int) by omega]
          exact r1
        · have hc2 : ¬ ((0 : Int) = 0) := hc2
          omega
theorem fKindsXb0 {a r : Int} (hh : aHp h) (rr : sR r) (hc : ¬ (0 ≤ r ∧ r < 6)) : nEv sc (d + 5) 94 [.ref 0, sI a, sI r] h (some (sI (-1)), h) := by
  unfold sR aMi aMa at rr
  refine nEv_of (t := mMe94) rfl ?_
  show nRn sc (d + 4) (mMT mMe94) (mMC mMe94) (0, [some (.ref 0), some (sI a), some (sI r), none, none, none, none], [], h) _
  refine sP 2 (g1 := (2, [some (.ref 0), some (sI a), some (sI r), none, none, none, none], [sI r, .ref 0], h)) rfl ?_
  refine s_call (k := 8) (args := [.ref 0, sI r]) (st := []) (v := some (.null)) (h1 := h) rfl ⟨rfl, rfl⟩ rfl rfl rfl rfl (sRcv hh (a := 0) rfl rfl) rfl (fRowNo (by unfold sR aMi aMa; omega) (by omega)) ?_
  refine sP 2 (g1 := (5, [some (.ref 0), some (sI a), some (sI r), some (.null), none, none, none], [.null], h)) rfl ?_
  refine s_nil rfl (Or.inl ⟨⟨_, rfl⟩, rfl⟩) ?_
  refine sP 1 (g1 := (12, [some (.ref 0), some (sI a), some (sI r), some (.null), none, none, none], [sI ((-1))], h)) rfl ?_
  exact s_reti rfl rfl (Or.inl rfl) rfl rfl
theorem fKindsXb1 {a : Int} {r : Nat} (hh : aHp h) (ra : sR a) (hr : r < 6) (hc : ¬ (0 ≤ a ∧ a < hI h 3 3)) : nEv sc (d + 5) 94 [.ref 0, sI a, sI (r : Int)] h (some (sI (-1)), h) := by
  have gp := hI_rg hh xw_p
  unfold sR aMi aMa at ra
  refine nEv_of (t := mMe94) rfl ?_
  show nRn sc (d + 4) (mMT mMe94) (mMC mMe94) (0, [some (.ref 0), some (sI a), some (sI ((r : Int))), none, none, none, none], [], h) _
  refine sP 2 (g1 := (2, [some (.ref 0), some (sI a), some (sI ((r : Int))), none, none, none, none], [sI ((r : Int)), .ref 0], h)) rfl ?_
  refine s_call (k := 8) (args := [.ref 0, sI ((r : Int))]) (st := []) (v := some (.ref (21 + 2 * r))) (h1 := h) rfl ⟨rfl, rfl⟩ rfl rfl rfl rfl (sRcv hh (a := 0) rfl rfl) rfl (fRowAt hh hr) ?_
  refine sP 2 (g1 := (5, [some (.ref 0), some (sI a), some (sI ((r : Int))), some (.ref (21 + 2 * r)), none, none, none], [.ref (21 + 2 * r)], h)) rfl ?_
  refine s_null rfl (Or.inl ⟨⟨_, rfl⟩, rfl⟩) ?_
  refine sP 1 (g1 := (7, [some (.ref 0), some (sI a), some (sI ((r : Int))), some (.ref (21 + 2 * r)), none, none, none], [.ref 0], h)) rfl ?_
  refine s_get (a := 0) (j := 2) hh rfl ⟨_, rfl⟩ rfl rfl rfl (v := .ref 3) (hR_ok hh (by decide +kernel)) ?_
  refine sP 1 (g1 := (9, [some (.ref 0), some (sI a), some (sI ((r : Int))), some (.ref (21 + 2 * r)), none, none, none], [sI a, .ref 3], h)) rfl ?_
  have ev1 := fHasX (sc := sc) (d := d + 3) (a := a) hh (by unfold sR aMi aMa; omega)
  rw [if_neg (by omega)] at ev1
  refine s_call (k := 35) (args := [.ref 3, sI a]) (st := []) (v := some (sI 0)) (h1 := h) rfl ⟨rfl, rfl⟩ rfl rfl rfl rfl (sRcv hh (a := 3) rfl rfl) rfl ev1 ?_
  refine s_ifc (q := .ne) (a := 0) rfl ⟨_, rfl⟩ rfl (by unfold sR aMi aMa; omega) (fun hc2 => ?_) (fun hc2 => ?_)
  · have hc2 : (0 : Int) ≠ 0 := hc2
    omega
  · have hc2 : ¬ ((0 : Int) ≠ 0) := hc2
    refine sP 1 (g1 := (12, [some (.ref 0), some (sI a), some (sI ((r : Int))), some (.ref (21 + 2 * r)), none, none, none], [sI ((-1))], h)) rfl ?_
    exact s_reti rfl rfl (Or.inl rfl) rfl rfl
theorem fKindsXw {r n a q : Nat} (hh : aHp h) (hr : r < 6) (hn : hI h 3 3 = n) (hq : 2 ^ n = q) (ha : a < n) {f : Nat} (hf : f < 6) (f0 : f ≠ 0) (hw : pWr (hI h (21 + 2 * r) 1) (hI h (22 + 2 * r)) (q : Int) = (f : Int)) : ∃ g, nEv sc (d + 5) 94 [.ref 0, sI (a : Int), sI (r : Int)] h (some (sI (-3)), g) ∧ oFX f h g := by
  have gp := hI_rg hh xw_p
  have ew := fWhyN (sc := sc) (d := d + 2) hh hr hn hq
  rw [hw] at ew
  obtain ⟨g1, r1, r2, r3⟩ := fFoundX (sc := sc) (d := d + 3) hh hf
  refine ⟨g1, nEv_of (t := mMe94) rfl ?_, r2, r3⟩
  show nRn sc (d + 4) (mMT mMe94) (mMC mMe94) (0, [some (.ref 0), some (sI ((a : Int))), some (sI ((r : Int))), none, none, none, none], [], h) _
  refine sP 2 (g1 := (2, [some (.ref 0), some (sI ((a : Int))), some (sI ((r : Int))), none, none, none, none], [sI ((r : Int)), .ref 0], h)) rfl ?_
  refine s_call (k := 8) (args := [.ref 0, sI ((r : Int))]) (st := []) (v := some (.ref (21 + 2 * r))) (h1 := h) rfl ⟨rfl, rfl⟩ rfl rfl rfl rfl (sRcv hh (a := 0) rfl rfl) rfl (fRowAt hh hr) ?_
  refine sP 2 (g1 := (5, [some (.ref 0), some (sI ((a : Int))), some (sI ((r : Int))), some (.ref (21 + 2 * r)), none, none, none], [.ref (21 + 2 * r)], h)) rfl ?_
  refine s_null rfl (Or.inl ⟨⟨_, rfl⟩, rfl⟩) ?_
  refine sP 1 (g1 := (7, [some (.ref 0), some (sI ((a : Int))), some (sI ((r : Int))), some (.ref (21 + 2 * r)), none, none, none], [.ref 0], h)) rfl ?_
  refine s_get (a := 0) (j := 2) hh rfl ⟨_, rfl⟩ rfl rfl rfl (v := .ref 3) (hR_ok hh (by decide +kernel)) ?_
  refine sP 1 (g1 := (9, [some (.ref 0), some (sI ((a : Int))), some (sI ((r : Int))), some (.ref (21 + 2 * r)), none, none, none], [sI ((a : Int)), .ref 3], h)) rfl ?_
  have ev1 := fHasX (sc := sc) (d := d + 3) (a := (a : Int)) hh (by unfold sR aMi aMa; omega)
  rw [if_pos (by omega)] at ev1
  refine s_call (k := 35) (args := [.ref 3, sI ((a : Int))]) (st := []) (v := some (sI 1)) (h1 := h) rfl ⟨rfl, rfl⟩ rfl rfl rfl rfl (sRcv hh (a := 3) rfl rfl) rfl ev1 ?_
  refine s_ifc (q := .ne) (a := 1) rfl ⟨_, rfl⟩ rfl (by unfold sR aMi aMa; omega) (fun hc2 => ?_) (fun hc2 => ?_)
  · have hc2 : (1 : Int) ≠ 0 := hc2
    refine sP 2 (g1 := (15, [some (.ref 0), some (sI ((a : Int))), some (sI ((r : Int))), some (.ref (21 + 2 * r)), none, none, none], [.ref (21 + 2 * r), .ref 0], h)) rfl ?_
    refine s_call (k := 92) (args := [.ref 0, .ref (21 + 2 * r)]) (st := []) (v := some (sI ((f : Int)))) (h1 := h) rfl ⟨rfl, rfl⟩ rfl rfl rfl rfl (sRcv hh (a := 0) rfl rfl) rfl ew ?_
    refine sP 2 (g1 := (18, [some (.ref 0), some (sI ((a : Int))), some (sI ((r : Int))), some (.ref (21 + 2 * r)), some (sI ((f : Int))), none, none], [sI ((f : Int))], h)) rfl ?_
    refine s_ifc (q := .eq) (a := (f : Int)) rfl ⟨_, rfl⟩ rfl (by unfold sR aMi aMa; omega) (fun hc3 => ?_) (fun hc3 => ?_)
    · have hc3 : (((f : Int)) : Int) = 0 := hc3
      omega
    · have hc3 : ¬ ((((f : Int)) : Int) = 0) := hc3
      refine sP 2 (g1 := (21, [some (.ref 0), some (sI ((a : Int))), some (sI ((r : Int))), some (.ref (21 + 2 * r)), some (sI ((f : Int))), none, none], [sI ((f : Int)), .ref 0], h)) rfl ?_
      refine s_call (k := 9) (args := [.ref 0, sI ((f : Int))]) (st := []) (v := some (sI ((-3)))) (h1 := g1) rfl ⟨rfl, rfl⟩ rfl rfl rfl rfl (sRcv hh (a := 0) rfl rfl) rfl r1 ?_
      exact s_reti rfl rfl (Or.inl rfl) rfl rfl
  · have hc2 : ¬ ((1 : Int) ≠ 0) := hc2
    omega
theorem fKindsX {r n a q : Nat} (hh : aHp h) (hr : r < 6) (hn : hI h 3 3 = n) (hq : 2 ^ n = q) (ha : a < n) (hw : pWr (hI h (21 + 2 * r) 1) (hI h (22 + 2 * r)) (q : Int) = 0) : nEv sc (d + 5) 94 [.ref 0, sI (a : Int), sI (r : Int)] h (some (sI ((pFw (fun kd => pNt (hI h 5) n kd a (hI h (22 + 2 * r)) ((hI h (21 + 2 * r) 1) / 2).toNat 0) 6 : Nat) : Int)), h) := by
  have gp := hI_rg hh xw_p
  have gz := hI_rg hh (ra_z hr)
  have ew := fWhyN (sc := sc) (d := d + 2) hh hr hn hq
  have p2 := p2_le (show n ≤ 6 by omega)
  rw [hw] at ew
  obtain ⟨z, hz⟩ : ∃ z, hI h (21 + 2 * r) 1 = z := ⟨_, rfl⟩
  rw [hz] at hw gz ⊢
  unfold pWr at hw
  by_cases c0 : z = -1
  · rw [if_pos c0] at hw
    omega
  rw [if_neg c0] at hw
  by_cases c1 : z % 2 ≠ 0 ∨ 12 < z
  · rw [if_pos c1] at hw
    omega
  rw [if_neg c1] at hw
  by_cases c3 : ¬ (bN (hI h (22 + 2 * r)) (q : Int) (z / 2).toNat 0 = true)
  · rw [if_neg c3] at hw
    omega
  have c2 := Decidable.not_not.mp c3
  have hs : ∀ j, j < (z / 2).toNat → 0 ≤ (hI h (22 + 2 * r)) (2 * j) ∧ (hI h (22 + 2 * r)) (2 * j) < 64 := fun j hj => by
    have w := (okP_iff.mp (bN_at _ 0 j c2 (by omega) (by omega))).1
    exact ⟨w.1, Int.lt_of_lt_of_le w.2 (by omega)⟩
  have r1 := fKindsXL (sc := sc) (d := d) (K := (z / 2).toNat) hh hr hn (show a < 6 by omega) hz (by omega) (by omega) hs 6 0 (by omega)
  refine nEv_of (t := mMe94) rfl ?_
  show nRn sc (d + 4) (mMT mMe94) (mMC mMe94) (0, [some (.ref 0), some (sI ((a : Int))), some (sI ((r : Int))), none, none, none, none], [], h) _
  refine sP 2 (g1 := (2, [some (.ref 0), some (sI ((a : Int))), some (sI ((r : Int))), none, none, none, none], [sI ((r : Int)), .ref 0], h)) rfl ?_
  refine s_call (k := 8) (args := [.ref 0, sI ((r : Int))]) (st := []) (v := some (.ref (21 + 2 * r))) (h1 := h) rfl ⟨rfl, rfl⟩ rfl rfl rfl rfl (sRcv hh (a := 0) rfl rfl) rfl (fRowAt hh hr) ?_
  refine sP 2 (g1 := (5, [some (.ref 0), some (sI ((a : Int))), some (sI ((r : Int))), some (.ref (21 + 2 * r)), none, none, none], [.ref (21 + 2 * r)], h)) rfl ?_
  refine s_null rfl (Or.inl ⟨⟨_, rfl⟩, rfl⟩) ?_
  refine sP 1 (g1 := (7, [some (.ref 0), some (sI ((a : Int))), some (sI ((r : Int))), some (.ref (21 + 2 * r)), none, none, none], [.ref 0], h)) rfl ?_
  refine s_get (a := 0) (j := 2) hh rfl ⟨_, rfl⟩ rfl rfl rfl (v := .ref 3) (hR_ok hh (by decide +kernel)) ?_
  refine sP 1 (g1 := (9, [some (.ref 0), some (sI ((a : Int))), some (sI ((r : Int))), some (.ref (21 + 2 * r)), none, none, none], [sI ((a : Int)), .ref 3], h)) rfl ?_
  have ev1 := fHasX (sc := sc) (d := d + 3) (a := (a : Int)) hh (by unfold sR aMi aMa; omega)
  rw [if_pos (by omega)] at ev1
  refine s_call (k := 35) (args := [.ref 3, sI ((a : Int))]) (st := []) (v := some (sI 1)) (h1 := h) rfl ⟨rfl, rfl⟩ rfl rfl rfl rfl (sRcv hh (a := 3) rfl rfl) rfl ev1 ?_
  refine s_ifc (q := .ne) (a := 1) rfl ⟨_, rfl⟩ rfl (by unfold sR aMi aMa; omega) (fun hc2 => ?_) (fun hc2 => ?_)
  · have hc2 : (1 : Int) ≠ 0 := hc2
    refine sP 2 (g1 := (15, [some (.ref 0), some (sI ((a : Int))), some (sI ((r : Int))), some (.ref (21 + 2 * r)), none, none, none], [.ref (21 + 2 * r), .ref 0], h)) rfl ?_
    refine s_call (k := 92) (args := [.ref 0, .ref (21 + 2 * r)]) (st := []) (v := some (sI 0)) (h1 := h) rfl ⟨rfl, rfl⟩ rfl rfl rfl rfl (sRcv hh (a := 0) rfl rfl) rfl ew ?_
    refine sP 2 (g1 := (18, [some (.ref 0), some (sI ((a : Int))), some (sI ((r : Int))), some (.ref (21 + 2 * r)), some (sI 0), none, none], [sI 0], h)) rfl ?_
    refine s_ifc (q := .eq) (a := 0) rfl ⟨_, rfl⟩ rfl (by unfold sR aMi aMa; omega) (fun hc3 => ?_) (fun hc3 => ?_)
    · have hc3 : (0 : Int) = 0 := hc3
      refine sP 4 (g1 := (27, [some (.ref 0), some (sI ((a : Int))), some (sI ((r : Int))), some (.ref (21 + 2 * r)), some (sI 0), some (sI 0), some (sI 0)], [], h)) rfl ?_
      exact r1
    · have hc3 : ¬ ((0 : Int) = 0) := hc3
      omega
  · have hc2 : ¬ ((1 : Int) ≠ 0) := hc2
    omega
theorem fKindsML {r n K a : Nat} {z : Int} (hh : aHp h) (hr : r < 6) (hn : hI h 58 0 = n) (ha : a < 6) (hz : hI h 54 r = z) (hK : z = 2 * (K : Int)) (hK6 : K ≤ 6) (hs : ∀ j, j < K → 0 ≤ (fun j => hI h 55 (40 * r + j)) (2 * j) ∧ (fun j => hI h 55 (40 * r + j)) (2 * j) < 64) : ∀ (c v : Nat), v + c = 6 → nRn sc (d + 4) (mMT mMe198) (mMC mMe198) (23, [some (.ref 53), some (sI ((a : Int))), some (sI ((r : Int))), some (sI 0), some (sI (((pFw (fun kd => pNt (fun j => hI h 58 (7 + j)) n kd a (fun j => hI h 55 (40 * r + j)) K 0) v : Nat) : Int))), some (sI ((v : Int)))], [], h) (some (sI ((pFw (fun kd => pNt (fun j => hI h 58 (7 + j)) n kd a (fun j => hI h 55 (40 * r + j)) K 0) 6 : Nat) : Int)), h) := by
  intro c
  induction c with
  | zero =>
    intro v hv
    have hv6 : v = 6 := by omega
    subst hv6
    have p6 := pFw_lt (fun kd => pNt (fun j => hI h 58 (7 + j)) n kd a (fun j => hI h 55 (40 * r + j)) K 0) 6
    refine sP 2 (g1 := (25, [some (.ref 53), some (sI ((a : Int))), some (sI ((r : Int))), some (sI 0), some (sI (((pFw (fun kd => pNt (fun j => hI h 58 (7 + j)) n kd a (fun j => hI h 55 (40 * r + j)) K 0) 6 : Nat) : Int))), some (sI (((6 : Nat) : Int)))], [sI 6, sI (((6 : Nat) : Int))], h)) rfl ?_
    refine s_icmp (q := .ge) (a := ((6 : Nat) : Int)) (b := 6) rfl ⟨_, rfl⟩ rfl (by unfold sR aMi aMa; omega) (by unfold sR aMi aMa; omega) (fun hc1 => ?_) (fun hc1 => ?_)
    · have hc1 : (6 : Int) ≤ (((6 : Nat) : Int)) := hc1
      refine sP 1 (g1 := (43, [some (.ref 53), some (sI ((a : Int))), some (sI ((r : Int))), some (sI 0), some (sI (((pFw (fun kd => pNt (fun j => hI h 58 (7 + j)) n kd a (fun j => hI h 55 (40 * r + j)) K 0) 6 : Nat) : Int))), some (sI (((6 : Nat) : Int)))], [sI (((pFw (fun kd => pNt (fun j => hI h 58 (7 + j)) n kd a (fun j => hI h 55 (40 * r + j)) K 0) 6 : Nat) : Int))], h)) rfl ?_
      exact s_reti rfl rfl (Or.inl rfl) rfl rfl
    · have hc1 : ¬ ((6 : Int) ≤ (((6 : Nat) : Int))) := hc1
      omega
  | succ c ih =>
    intro v hv
    have pv := pFw_lt (fun kd => pNt (fun j => hI h 58 (7 + j)) n kd a (fun j => hI h 55 (40 * r + j)) K 0) v
    have p10 := p2_10 (show v ≤ 10 by omega)
    have ev := fIsSo (sc := sc) (d := d + 1) (r := r) (n := n) (K := K) (kd := v) (a := a) (z := z) hh hr hn (by omega) ha hz hK hK6 hs
    have r1 := ih (v + 1) (by omega)
    have e1 : pFw (fun kd => pNt (fun j => hI h 58 (7 + j)) n kd a (fun j => hI h 55 (40 * r + j)) K 0) (v + 1) = pFw (fun kd => pNt (fun j => hI h 58 (7 + j)) n kd a (fun j => hI h 55 (40 * r + j)) K 0) v + (if pNt (fun j => hI h 58 (7 + j)) n v a (fun j => hI h 55 (40 * r + j)) K 0 = true then 2 ^ v else 0) := rfl
    rw [e1] at r1
    cases hb2 : pNt (fun j => hI h 58 (7 + j)) n v a (fun j => hI h 55 (40 * r + j)) K 0 with
    | true =>
      rw [hb2, if_pos rfl] at ev r1
      refine sP 2 (g1 := (25, [some (.ref 53), some (sI ((a : Int))), some (sI ((r : Int))), some (sI 0), some (sI (((pFw (fun kd => pNt (fun j => hI h 58 (7 + j)) n kd a (fun j => hI h 55 (40 * r + j)) K 0) v : Nat) : Int))), some (sI ((v : Int)))], [sI 6, sI ((v : Int))], h)) rfl ?_
      refine s_icmp (q := .ge) (a := (v : Int)) (b := 6) rfl ⟨_, rfl⟩ rfl (by unfold sR aMi aMa; omega) (by unfold sR aMi aMa; omega) (fun hc1 => ?_) (fun hc1 => ?_)
      · have hc1 : (6 : Int) ≤ ((v : Int)) := hc1
        omega
      · have hc1 : ¬ ((6 : Int) ≤ ((v : Int))) := hc1
        refine sP 5 (g1 := (31, [some (.ref 53), some (sI ((a : Int))), some (sI ((r : Int))), some (sI 0), some (sI (((pFw (fun kd => pNt (fun j => hI h 58 (7 + j)) n kd a (fun j => hI h 55 (40 * r + j)) K 0) v : Nat) : Int))), some (sI ((v : Int)))], [sI ((r : Int)), sI ((v : Int)), sI ((a : Int)), .ref 53, sI (((pFw (fun kd => pNt (fun j => hI h 58 (7 + j)) n kd a (fun j => hI h 55 (40 * r + j)) K 0) v : Nat) : Int))], h)) rfl ?_
        refine s_call (k := 197) (args := [.ref 53, sI ((a : Int)), sI ((v : Int)), sI ((r : Int))]) (st := [sI (((pFw (fun kd => pNt (fun j => hI h 58 (7 + j)) n kd a (fun j => hI h 55 (40 * r + j)) K 0) v : Nat) : Int))]) (v := some (sI 1)) (h1 := h) rfl ⟨rfl, rfl⟩ rfl rfl rfl rfl (sRcv hh (a := 53) rfl rfl) rfl ev ?_
        refine s_ifc (q := .eq) (a := 1) rfl ⟨_, rfl⟩ rfl (by unfold sR aMi aMa; omega) (fun hc2 => ?_) (fun hc2 => ?_)
        · have hc2 : (1 : Int) = 0 := hc2
          omega
        · have hc2 : ¬ ((1 : Int) = 0) := hc2
          refine sP 2 (g1 := (35, [some (.ref 53), some (sI ((a : Int))), some (sI ((r : Int))), some (sI 0), some (sI (((pFw (fun kd => pNt (fun j => hI h 58 (7 + j)) n kd a (fun j => hI h 55 (40 * r + j)) K 0) v : Nat) : Int))), some (sI ((v : Int)))], [sI ((v : Int)), sI 1, sI (((pFw (fun kd => pNt (fun j => hI h 58 (7 + j)) n kd a (fun j => hI h 55 (40 * r + j)) K 0) v : Nat) : Int))], h)) rfl ?_
          refine s_shl7 (a := v) rfl rfl (by omega) ?_
          refine sP 1 (g1 := (38, [some (.ref 53), some (sI ((a : Int))), some (sI ((r : Int))), some (sI 0), some (sI (((pFw (fun kd => pNt (fun j => hI h 58 (7 + j)) n kd a (fun j => hI h 55 (40 * r + j)) K 0) v : Nat) : Int))), some (sI ((v : Int)))], [sI (((2 ^ v : Nat) : Int)), sI (((pFw (fun kd => pNt (fun j => hI h 58 (7 + j)) n kd a (fun j => hI h 55 (40 * r + j)) K 0) v : Nat) : Int))], h)) rfl ?_
          refine s_b1 rfl rfl (b_or2 v (by omega) (pFw (fun kd => pNt (fun j => hI h 58 (7 + j)) n kd a (fun j => hI h 55 (40 * r + j)) K 0) v) (by omega) pv) ?_
          refine sP 1 (g1 := (40, [some (.ref 53), some (sI ((a : Int))), some (sI ((r : Int))), some (sI 0), some (sI (((pFw (fun kd => pNt (fun j => hI h 58 (7 + j)) n kd a (fun j => hI h 55 (40 * r + j)) K 0) v + 2 ^ v : Nat) : Int))), some (sI ((v : Int)))], [], h)) rfl ?_
          refine s_inc (a := (v : Int)) (n := 1) (k := 5) rfl rfl rfl ?_
          refine sP 1 (g1 := (23, [some (.ref 53), some (sI ((a : Int))), some (sI ((r : Int))), some (sI 0), some (sI (((pFw (fun kd => pNt (fun j => hI h 58 (7 + j)) n kd a (fun j => hI h 55 (40 * r + j)) K 0) v + 2 ^ v : Nat) : Int))), some (sI (((v : Int)) + 1))], [], h)) rfl ?_
          rw [show ((v : Int) + 1) = ((v + 1 : Nat) : Int) by omega]
          exact r1
    | false =>
      rw [hb2, if_neg (by decide)] at ev r1
      rw [Nat.add_zero] at r1
      refine sP 2 (g1 := (25, [some (.ref 53), some (sI ((a : Int))), some (sI ((r : Int))), some (sI 0), some (sI (((pFw (fun kd => pNt (fun j => hI h 58 (7 + j)) n kd a (fun j => hI h 55 (40 * r + j)) K 0) v : Nat) : Int))), some (sI ((v : Int)))], [sI 6, sI ((v : Int))], h)) rfl ?_
      refine s_icmp (q := .ge) (a := (v : Int)) (b := 6) rfl ⟨_, rfl⟩ rfl (by unfold sR aMi aMa; omega) (by unfold sR aMi aMa; omega) (fun hc1 => ?_) (fun hc1 => ?_)
      · have hc1 : (6 : Int) ≤ ((v : Int)) := hc1
        omega
      · have hc1 : ¬ ((6 : Int) ≤ ((v : Int))) := hc1
        refine sP 5 (g1 := (31, [some (.ref 53), some (sI ((a : Int))), some (sI ((r : Int))), some (sI 0), some (sI (((pFw (fun kd => pNt (fun j => hI h 58 (7 + j)) n kd a (fun j => hI h 55 (40 * r + j)) K 0) v : Nat) : Int))), some (sI ((v : Int)))], [sI ((r : Int)), sI ((v : Int)), sI ((a : Int)), .ref 53, sI (((pFw (fun kd => pNt (fun j => hI h 58 (7 + j)) n kd a (fun j => hI h 55 (40 * r + j)) K 0) v : Nat) : Int))], h)) rfl ?_
        refine s_call (k := 197) (args := [.ref 53, sI ((a : Int)), sI ((v : Int)), sI ((r : Int))]) (st := [sI (((pFw (fun kd => pNt (fun j => hI h 58 (7 + j)) n kd a (fun j => hI h 55 (40 * r + j)) K 0) v : Nat) : Int))]) (v := some (sI 0)) (h1 := h) rfl ⟨rfl, rfl⟩ rfl rfl rfl rfl (sRcv hh (a := 53) rfl rfl) rfl ev ?_
        refine s_ifc (q := .eq) (a := 0) rfl ⟨_, rfl⟩ rfl (by unfold sR aMi aMa; omega) (fun hc2 => ?_) (fun hc2 => ?_)
        · have hc2 : (0 : Int) = 0 := hc2
          refine sP 1 (g1 := (38, [some (.ref 53), some (sI ((a : Int))), some (sI ((r : Int))), some (sI 0), some (sI (((pFw (fun kd => pNt (fun j => hI h 58 (7 + j)) n kd a (fun j => hI h 55 (40 * r + j)) K 0) v : Nat) : Int))), some (sI ((v : Int)))], [sI 0, sI (((pFw (fun kd => pNt (fun j => hI h 58 (7 + j)) n kd a (fun j => hI h 55 (40 * r + j)) K 0) v : Nat) : Int))], h)) rfl ?_
          refine s_b1 rfl rfl (b_or0 (pFw (fun kd => pNt (fun j => hI h 58 (7 + j)) n kd a (fun j => hI h 55 (40 * r + j)) K 0) v) (by omega)) ?_
          refine sP 1 (g1 := (40, [some (.ref 53), some (sI ((a : Int))), some (sI ((r : Int))), some (sI 0), some (sI (((pFw (fun kd => pNt (fun j => hI h 58 (7 + j)) n kd a (fun j => hI h 55 (40 * r + j)) K 0) v : Nat) : Int))), some (sI ((v : Int)))], [], h)) rfl ?_
          refine s_inc (a := (v : Int)) (n := 1) (k := 5) rfl rfl rfl ?_
          refine sP 1 (g1 := (23, [some (.ref 53), some (sI ((a : Int))), some (sI ((r : Int))), some (sI 0), some (sI (((pFw (fun kd => pNt (fun j => hI h 58 (7 + j)) n kd a (fun j => hI h 55 (40 * r + j)) K 0) v : Nat) : Int))), some (sI (((v : Int)) + 1))], [], h)) rfl ?_
          rw [show ((v : Int) + 1) = ((v + 1 : Nat) : Int) by omega]
          exact r1
        · have hc2 : ¬ ((0 : Int) = 0) := hc2
          omega
theorem fKindsMb0 {a r : Int} (hh : aHp h) (ra : sR a) (hc : ¬ (0 ≤ a ∧ a < hI h 58 0)) : nEv sc (d + 5) 198 [.ref 53, sI a, sI r] h (some (sI (-1)), h) := by
  have gp := hI_rg hh nw_p
  unfold sR aMi aMa at ra
  refine nEv_of (t := mMe198) rfl ?_
  show nRn sc (d + 4) (mMT mMe198) (mMC mMe198) (0, [some (.ref 53), some (sI a), some (sI r), none, none, none], [], h) _
  refine sP 2 (g1 := (2, [some (.ref 53), some (sI a), some (sI r), none, none, none], [sI a, .ref 53], h)) rfl ?_
  have ev1 := fIsPerson (sc := sc) (d := d + 2) (a := a) hh (by unfold sR aMi aMa; omega)
  rw [if_neg (by omega)] at ev1
  refine s_call (k := 147) (args := [.ref 53, sI a]) (st := []) (v := some (sI 0)) (h1 := h) rfl ⟨rfl, rfl⟩ rfl rfl rfl rfl (sRcv hh (a := 53) rfl rfl) rfl ev1 ?_
  refine s_ifc (q := .eq) (a := 0) rfl ⟨_, rfl⟩ rfl (by unfold sR aMi aMa; omega) (fun hc2 => ?_) (fun hc2 => ?_)
  · have hc2 : (0 : Int) = 0 := hc2
    refine sP 1 (g1 := (8, [some (.ref 53), some (sI a), some (sI r), none, none, none], [sI ((-1))], h)) rfl ?_
    exact s_reti rfl rfl (Or.inl rfl) rfl rfl
  · have hc2 : ¬ ((0 : Int) = 0) := hc2
    omega
theorem fKindsMb1 {a r : Int} (hh : aHp h) (ra : sR a) (rr : sR r) (hc : (0 ≤ a ∧ a < hI h 58 0)) (hd : ¬ (0 ≤ r ∧ r < 6)) : nEv sc (d + 5) 198 [.ref 53, sI a, sI r] h (some (sI (-1)), h) := by
  have gp := hI_rg hh nw_p
  unfold sR aMi aMa at ra rr
  refine nEv_of (t := mMe198) rfl ?_
  show nRn sc (d + 4) (mMT mMe198) (mMC mMe198) (0, [some (.ref 53), some (sI a), some (sI r), none, none, none], [], h) _
  refine sP 2 (g1 := (2, [some (.ref 53), some (sI a), some (sI r), none, none, none], [sI a, .ref 53], h)) rfl ?_
  have ev1 := fIsPerson (sc := sc) (d := d + 2) (a := a) hh (by unfold sR aMi aMa; omega)
  rw [if_pos (by omega)] at ev1
  refine s_call (k := 147) (args := [.ref 53, sI a]) (st := []) (v := some (sI 1)) (h1 := h) rfl ⟨rfl, rfl⟩ rfl rfl rfl rfl (sRcv hh (a := 53) rfl rfl) rfl ev1 ?_
  refine s_ifc (q := .eq) (a := 1) rfl ⟨_, rfl⟩ rfl (by unfold sR aMi aMa; omega) (fun hc2 => ?_) (fun hc2 => ?_)
  · have hc2 : (1 : Int) = 0 := hc2
    omega
  · have hc2 : ¬ ((1 : Int) = 0) := hc2
    refine sP 1 (g1 := (5, [some (.ref 53), some (sI a), some (sI r), none, none, none], [sI r], h)) rfl ?_
    have ev3 := fIsRow (sc := sc) (d := d + 2) (h := h) (r := r) (by unfold sR aMi aMa; omega)
    rw [if_neg (by omega)] at ev3
    refine s_call (k := 126) (args := [sI r]) (st := []) (v := some (sI 0)) (h1 := h) rfl ⟨rfl, rfl⟩ rfl rfl rfl rfl rfl rfl ev3 ?_
    refine s_ifc (q := .ne) (a := 0) rfl ⟨_, rfl⟩ rfl (by unfold sR aMi aMa; omega) (fun hc4 => ?_) (fun hc4 => ?_)
    · have hc4 : (0 : Int) ≠ 0 := hc4
      omega
    · have hc4 : ¬ ((0 : Int) ≠ 0) := hc4
      refine sP 1 (g1 := (8, [some (.ref 53), some (sI a), some (sI r), none, none, none], [sI ((-1))], h)) rfl ?_
      exact s_reti rfl rfl (Or.inl rfl) rfl rfl
theorem fKindsMw {r n a q : Nat} (hh : aHp h) (hr : r < 6) (hn : hI h 58 0 = n) (hq : 2 ^ n = q) (ha : a < n) {f : Nat} (hf : f < 6) (f0 : f ≠ 0) (hw : pWr (hI h 54 r) (fun j => hI h 55 (40 * r + j)) (q : Int) = (f : Int)) : ∃ g, nEv sc (d + 5) 198 [.ref 53, sI (a : Int), sI (r : Int)] h (some (sI (-3)), g) ∧ oFM f h g := by
  have gp := hI_rg hh nw_p
  have ew := fWrong (sc := sc) (d := d + 1) hh hr hn hq
  rw [hw] at ew
  obtain ⟨g1, r1, r2, r3⟩ := fFoundM (sc := sc) (d := d + 3) hh hf
  refine ⟨g1, nEv_of (t := mMe198) rfl ?_, r2, r3⟩
  show nRn sc (d + 4) (mMT mMe198) (mMC mMe198) (0, [some (.ref 53), some (sI ((a : Int))), some (sI ((r : Int))), none, none, none], [], h) _
  refine sP 2 (g1 := (2, [some (.ref 53), some (sI ((a : Int))), some (sI ((r : Int))), none, none, none], [sI ((a : Int)), .ref 53], h)) rfl ?_
  have ev1 := fIsPerson (sc := sc) (d := d + 2) (a := (a : Int)) hh (by unfold sR aMi aMa; omega)
  rw [if_pos (by omega)] at ev1
  refine s_call (k := 147) (args := [.ref 53, sI ((a : Int))]) (st := []) (v := some (sI 1)) (h1 := h) rfl ⟨rfl, rfl⟩ rfl rfl rfl rfl (sRcv hh (a := 53) rfl rfl) rfl ev1 ?_
  refine s_ifc (q := .eq) (a := 1) rfl ⟨_, rfl⟩ rfl (by unfold sR aMi aMa; omega) (fun hc2 => ?_) (fun hc2 => ?_)
  · have hc2 : (1 : Int) = 0 := hc2
    omega
  · have hc2 : ¬ ((1 : Int) = 0) := hc2
    refine sP 1 (g1 := (5, [some (.ref 53), some (sI ((a : Int))), some (sI ((r : Int))), none, none, none], [sI ((r : Int))], h)) rfl ?_
    have ev3 := fIsRow (sc := sc) (d := d + 2) (h := h) (r := (r : Int)) (by unfold sR aMi aMa; omega)
    rw [if_pos (by omega)] at ev3
    refine s_call (k := 126) (args := [sI ((r : Int))]) (st := []) (v := some (sI 1)) (h1 := h) rfl ⟨rfl, rfl⟩ rfl rfl rfl rfl rfl rfl ev3 ?_
    refine s_ifc (q := .ne) (a := 1) rfl ⟨_, rfl⟩ rfl (by unfold sR aMi aMa; omega) (fun hc4 => ?_) (fun hc4 => ?_)
    · have hc4 : (1 : Int) ≠ 0 := hc4
      refine sP 2 (g1 := (11, [some (.ref 53), some (sI ((a : Int))), some (sI ((r : Int))), none, none, none], [sI ((r : Int)), .ref 53], h)) rfl ?_
      refine s_call (k := 196) (args := [.ref 53, sI ((r : Int))]) (st := []) (v := some (sI ((f : Int)))) (h1 := h) rfl ⟨rfl, rfl⟩ rfl rfl rfl rfl (sRcv hh (a := 53) rfl rfl) rfl ew ?_
      refine sP 2 (g1 := (14, [some (.ref 53), some (sI ((a : Int))), some (sI ((r : Int))), some (sI ((f : Int))), none, none], [sI ((f : Int))], h)) rfl ?_
      refine s_ifc (q := .eq) (a := (f : Int)) rfl ⟨_, rfl⟩ rfl (by unfold sR aMi aMa; omega) (fun hc5 => ?_) (fun hc5 => ?_)
      · have hc5 : (((f : Int)) : Int) = 0 := hc5
        omega
      · have hc5 : ¬ ((((f : Int)) : Int) = 0) := hc5
        refine sP 2 (g1 := (17, [some (.ref 53), some (sI ((a : Int))), some (sI ((r : Int))), some (sI ((f : Int))), none, none], [sI ((f : Int)), .ref 53], h)) rfl ?_
        refine s_call (k := 128) (args := [.ref 53, sI ((f : Int))]) (st := []) (v := some (sI ((-3)))) (h1 := g1) rfl ⟨rfl, rfl⟩ rfl rfl rfl rfl (sRcv hh (a := 53) rfl rfl) rfl r1 ?_
        exact s_reti rfl rfl (Or.inl rfl) rfl rfl
    · have hc4 : ¬ ((1 : Int) ≠ 0) := hc4
      omega
theorem fKindsM {r n a q : Nat} (hh : aHp h) (hr : r < 6) (hn : hI h 58 0 = n) (hq : 2 ^ n = q) (ha : a < n) (hw : pWr (hI h 54 r) (fun j => hI h 55 (40 * r + j)) (q : Int) = 0) : nEv sc (d + 5) 198 [.ref 53, sI (a : Int), sI (r : Int)] h (some (sI ((pFw (fun kd => pNt (fun j => hI h 58 (7 + j)) n kd a (fun j => hI h 55 (40 * r + j)) ((hI h 54 r) / 2).toNat 0) 6 : Nat) : Int)), h) := by
  have gp := hI_rg hh nw_p
  have gz := hI_rg hh (rm_z hr)
  have ew := fWrong (sc := sc) (d := d + 1) hh hr hn hq
  have p2 := p2_le (show n ≤ 6 by omega)
  rw [hw] at ew
  obtain ⟨z, hz⟩ : ∃ z, hI h 54 r = z := ⟨_, rfl⟩
  rw [hz] at hw gz ⊢
  unfold pWr at hw
  by_cases c0 : z = -1
  · rw [if_pos c0] at hw
    omega
  rw [if_neg c0] at hw
  by_cases c1 : z % 2 ≠ 0 ∨ 12 < z
  · rw [if_pos c1] at hw
    omega
  rw [if_neg c1] at hw
  by_cases c3 : ¬ (bN (fun j => hI h 55 (40 * r + j)) (q : Int) (z / 2).toNat 0 = true)
  · rw [if_neg c3] at hw
    omega
  have c2 := Decidable.not_not.mp c3
  have hs : ∀ j, j < (z / 2).toNat → 0 ≤ (fun j => hI h 55 (40 * r + j)) (2 * j) ∧ (fun j => hI h 55 (40 * r + j)) (2 * j) < 64 := fun j hj => by
    have w := (okP_iff.mp (bN_at _ 0 j c2 (by omega) (by omega))).1
    exact ⟨w.1, Int.lt_of_lt_of_le w.2 (by omega)⟩
  have r1 := fKindsML (sc := sc) (d := d) (K := (z / 2).toNat) hh hr hn (show a < 6 by omega) hz (by omega) (by omega) hs 6 0 (by omega)
  refine nEv_of (t := mMe198) rfl ?_
  show nRn sc (d + 4) (mMT mMe198) (mMC mMe198) (0, [some (.ref 53), some (sI ((a : Int))), some (sI ((r : Int))), none, none, none], [], h) _
  refine sP 2 (g1 := (2, [some (.ref 53), some (sI ((a : Int))), some (sI ((r : Int))), none, none, none], [sI ((a : Int)), .ref 53], h)) rfl ?_
  have ev1 := fIsPerson (sc := sc) (d := d + 2) (a := (a : Int)) hh (by unfold sR aMi aMa; omega)
  rw [if_pos (by omega)] at ev1
  refine s_call (k := 147) (args := [.ref 53, sI ((a : Int))]) (st := []) (v := some (sI 1)) (h1 := h) rfl ⟨rfl, rfl⟩ rfl rfl rfl rfl (sRcv hh (a := 53) rfl rfl) rfl ev1 ?_
  refine s_ifc (q := .eq) (a := 1) rfl ⟨_, rfl⟩ rfl (by unfold sR aMi aMa; omega) (fun hc2 => ?_) (fun hc2 => ?_)
  · have hc2 : (1 : Int) = 0 := hc2
    omega
  · have hc2 : ¬ ((1 : Int) = 0) := hc2
    refine sP 1 (g1 := (5, [some (.ref 53), some (sI ((a : Int))), some (sI ((r : Int))), none, none, none], [sI ((r : Int))], h)) rfl ?_
    have ev3 := fIsRow (sc := sc) (d := d + 2) (h := h) (r := (r : Int)) (by unfold sR aMi aMa; omega)
    rw [if_pos (by omega)] at ev3
    refine s_call (k := 126) (args := [sI ((r : Int))]) (st := []) (v := some (sI 1)) (h1 := h) rfl ⟨rfl, rfl⟩ rfl rfl rfl rfl rfl rfl ev3 ?_
    refine s_ifc (q := .ne) (a := 1) rfl ⟨_, rfl⟩ rfl (by unfold sR aMi aMa; omega) (fun hc4 => ?_) (fun hc4 => ?_)
    · have hc4 : (1 : Int) ≠ 0 := hc4
      refine sP 2 (g1 := (11, [some (.ref 53), some (sI ((a : Int))), some (sI ((r : Int))), none, none, none], [sI ((r : Int)), .ref 53], h)) rfl ?_
      refine s_call (k := 196) (args := [.ref 53, sI ((r : Int))]) (st := []) (v := some (sI 0)) (h1 := h) rfl ⟨rfl, rfl⟩ rfl rfl rfl rfl (sRcv hh (a := 53) rfl rfl) rfl ew ?_
      refine sP 2 (g1 := (14, [some (.ref 53), some (sI ((a : Int))), some (sI ((r : Int))), some (sI 0), none, none], [sI 0], h)) rfl ?_
      refine s_ifc (q := .eq) (a := 0) rfl ⟨_, rfl⟩ rfl (by unfold sR aMi aMa; omega) (fun hc5 => ?_) (fun hc5 => ?_)
      · have hc5 : (0 : Int) = 0 := hc5
        refine sP 4 (g1 := (23, [some (.ref 53), some (sI ((a : Int))), some (sI ((r : Int))), some (sI 0), some (sI 0), some (sI 0)], [], h)) rfl ?_
        exact r1
      · have hc5 : ¬ ((0 : Int) = 0) := hc5
        omega
    · have hc4 : ¬ ((1 : Int) ≠ 0) := hc4
      omega
end KINDS
theorem bN_cg {R R1 : Nat → Int} {q : Int} : ∀ c k, (∀ j, j < 2 * (k + c) → R1 j = R j) → bN R1 q c k = bN R q c k
  | 0, _, _ => rfl
  | c + 1, k, h => by
    show (okP R1 q k && bN R1 q c (k + 1)) = (okP R q k && bN R q c (k + 1))
    rw [bN_cg c (k + 1) (fun j hj => h j (by omega))]
    unfold okP
    rw [h (2 * k) (by omega), h (2 * k + 1) (by omega)]
theorem pNt_cg {G G1 R R1 : Nat → Int} {n kd a : Nat} (hg : ∀ s, pSeem G1 n kd a s = pSeem G n kd a s) : ∀ c k, (∀ j, j < 2 * (k + c) → R1 j = R j) → pNt G1 n kd a R1 c k = pNt G n kd a R c k
  | 0, _, _ => rfl
  | c + 1, k, h => by
    show (decide (pSeem G1 n kd a (R1 (2 * k)).toNat = R1 (2 * k + 1)) && pNt G1 n kd a R1 c (k + 1)) = (decide (pSeem G n kd a (R (2 * k)).toNat = R (2 * k + 1)) && pNt G n kd a R c (k + 1))
    rw [pNt_cg hg c (k + 1) (fun j hj => h j (by omega)), hg, h (2 * k) (by omega), h (2 * k + 1) (by omega)]
theorem pWr_cg {sz : Int} {R R1 : Nat → Int} {q : Int} (h : ∀ j, j < 12 → R1 j = R j) : pWr sz R1 q = pWr sz R q := by
  unfold pWr
  by_cases c0 : sz = -1
  · rw [if_pos c0, if_pos c0]
  · rw [if_neg c0, if_neg c0]
    by_cases c1 : sz % 2 ≠ 0 ∨ 12 < sz
    · rw [if_pos c1, if_pos c1]
    · rw [if_neg c1, if_neg c1, bN_cg (sz / 2).toNat 0 (fun j hj => h j (by omega))]
/-- what the notes of a row are, in class and reference -/
theorem rW {h g : mH} (hp : vP h) (hs : ∀ m, aSlot g 54 m = aSlot h 54 m) (ht : ∀ m, aSlot g 55 m = aSlot h 55 m) {r : Nat} (hr : r < 6) (q : Int) : pWr (hI g 54 r) (fun j => hI g 55 (40 * r + j)) q = pWr (hI h (21 + 2 * r) 1) (hI h (22 + 2 * r)) q := by
  rw [hI_cg (hs r), rS hp.2 hr]
  exact pWr_cg (fun j hj => (hI_cg (ht _)).trans (rCe hp.2 hr (by omega)))
theorem rK {h : mH} (hp : vP h) {r n kd a K : Nat} (hr : r < 6) (hK : K ≤ 6) (G G1 : Nat → Int) (hg : ∀ s, pSeem G1 n kd a s = pSeem G n kd a s) : pNt G1 n kd a (fun j => hI h 55 (40 * r + j)) K 0 = pNt G n kd a (hI h (22 + 2 * r)) K 0 := pNt_cg hg K 0 (fun j hj => rCe hp.2 hr (by omega))
theorem pWr0 {sz : Int} {R : Nat → Int} {q : Int} (h : pWr sz R q = 0) : (sz / 2).toNat ≤ 6 := by
  unfold pWr at h
  by_cases c0 : sz = -1
  · rw [c0]
    decide
  · rw [if_neg c0] at h
    by_cases c1 : sz % 2 ≠ 0 ∨ 12 < sz
    · rw [if_pos c1] at h
      omega
    · omega
theorem vKinds {sc : List Int32} {h : mH} (x y : Int32) (hp : vP h) : ∃ z1 h1 z2 h2, nEv sc 100 94 (.ref 0 :: [x, y].map Value.int) h (some (.int z1), h1) ∧ aHp h1 ∧ nEv sc 100 198 (.ref 53 :: [x, y].map Value.int) h1 (some (.int z2), h2) ∧ vE h h2 ∧ z2 = z1 := by
  have hh := vP_a h hp
  have rx : sR x.toInt := aI_rg x
  have ry : sR y.toInt := aI_rg y
  have e3 : hI h 3 3 = hI h 58 0 := hp.1.2.1.1
  have gp := hI_rg hh xw_p
  obtain ⟨n, en⟩ := iN gp.1
  by_cases c1 : 0 ≤ y.toInt ∧ y.toInt < 6
  · obtain ⟨r, er⟩ := iN c1.1
    by_cases c2 : 0 ≤ x.toInt ∧ x.toInt < hI h 3 3
    · obtain ⟨a, ea⟩ := iN c2.1
      rcases pWr_rg (hI h (21 + 2 * r) 1) (hI h (22 + 2 * r)) ((2 ^ n : Nat) : Int) with hw | ⟨f, f6, f0, hw⟩
      · have k6 := pWr0 hw
        have b1 := fKindsM (sc := sc) (d := 95) (r := r) (n := n) (a := a) hh (by omega) (by omega) rfl (by omega) (by rw [rW hp (fun _ => rfl) (fun _ => rfl) (by omega)]; exact hw)
        rw [rS hp.2 (show r < 6 by omega), pFw_cg (n := 6) (fun v hv => rK hp (show r < 6 by omega) k6 (hI h 5) (fun j => hI h 58 (7 + j)) (fun s => nR_seem hp.1.2.1 en (by omega))) 6 (by omega)] at b1
        exact pk2 _ (by rw [ea, er]; exact fKindsX (d := 95) hh (by omega) en rfl (by omega) hw) hh (by rw [ea, er]; exact b1) (v_same hp)
      · obtain ⟨h1, a1, a2⟩ := fKindsXw (sc := sc) (d := 95) (r := r) (a := a) hh (by omega) en rfl (by omega) f6 f0 hw
        obtain ⟨h2, b1, b2⟩ := fKindsMw (sc := sc) (d := 95) (r := r) (n := n) (a := a) a2.1 (by omega) (by rw [hI_cg (a2.sl (by omega) (by omega))]; omega) rfl (by omega) f6 f0 (by rw [rW hp (fun _ => a2.sl (by omega) (by omega)) (fun _ => a2.sl (by omega) (by omega)) (by omega)]; exact hw)
        exact pk2 (-3) (by rw [ea, er]; exact a1) a2.1 (by rw [ea, er]; exact b1) (v_found f6 hp a2 b2)
    · exact pk2 (-1) (by rw [er]; exact fKindsXb1 (d := 95) hh rx (by omega) c2) hh (fKindsMb0 (d := 95) hh rx (by omega)) (v_same hp)
  · by_cases c2 : 0 ≤ x.toInt ∧ x.toInt < hI h 58 0
    · exact pk2 (-1) (fKindsXb0 (d := 95) hh ry c1) hh (fKindsMb1 (d := 95) hh rx ry c2 c1) (v_same hp)
    · exact pk2 (-1) (fKindsXb0 (d := 95) hh ry c1) hh (fKindsMb0 (d := 95) hh rx c2) (v_same hp)
theorem vFitsE {sc : List Int32} {h : mH} (x y z : Int32) (hp : vP h) : ∃ z1 h1 z2 h2, nEv sc 100 91 (.ref 0 :: [x, y, z].map Value.int) h (some (.int z1), h1) ∧ aHp h1 ∧ nEv sc 100 195 (.ref 53 :: [x, y, z].map Value.int) h1 (some (.int z2), h2) ∧ vE h h2 ∧ z2 = z1 := by
  have hh := vP_a h hp
  have rx : sR x.toInt := aI_rg x
  have ry : sR y.toInt := aI_rg y
  have rz : sR z.toInt := aI_rg z
  have e3 : hI h 3 3 = hI h 58 0 := hp.1.2.1.1
  have gp := hI_rg hh xw_p
  obtain ⟨n, en⟩ := iN gp.1
  have badM : ¬ (((0 ≤ x.toInt ∧ x.toInt < hI h 58 0) ∧ (0 ≤ y.toInt ∧ y.toInt < hI h 58 0) ∧ x.toInt ≠ y.toInt) ∧ (0 ≤ z.toInt ∧ z.toInt < 6)) → nEv sc 100 195 [.ref 53, sI x.toInt, sI y.toInt, sI z.toInt] h (some (sI (-1)), h) := fun hb => by
    by_cases d1 : 0 ≤ x.toInt ∧ x.toInt < hI h 58 0
    · by_cases d2 : 0 ≤ y.toInt ∧ y.toInt < hI h 58 0
      · by_cases d3 : x.toInt = y.toInt
        · exact fFitsMb2 (d := 95) hh rx ry rz ⟨d1, d2, d3⟩
        · exact fFitsMb3 (d := 95) hh rx ry rz ⟨⟨d1, d2, d3⟩, fun q => hb ⟨⟨d1, d2, d3⟩, q⟩⟩
      · exact fFitsMb1 (d := 95) hh rx ry rz ⟨d1, d2⟩
    · exact fFitsMb0 (d := 95) hh rx ry rz d1
  by_cases c1 : 0 ≤ z.toInt ∧ z.toInt < 6
  · obtain ⟨r, er⟩ := iN c1.1
    by_cases c2 : (0 ≤ x.toInt ∧ x.toInt < hI h 3 3) ∧ (0 ≤ y.toInt ∧ y.toInt < hI h 3 3) ∧ x.toInt ≠ y.toInt
    · obtain ⟨a, ea⟩ := iN c2.1.1
      obtain ⟨b, eb⟩ := iN c2.2.1.1
      rcases pWr_rg (hI h (21 + 2 * r) 1) (hI h (22 + 2 * r)) ((2 ^ n : Nat) : Int) with hw | ⟨f, f6, f0, hw⟩
      · have k6 := pWr0 hw
        obtain ⟨kd, ek⟩ := iN (hI_rg hh (xw_k (show a < 6 by omega))).1
        have ek2 : hI h 58 (1 + a) = (kd : Int) := by rw [← (hp.1.2.1.2.2.2.1 a (by omega)).1]; exact ek
        have b1 := fFitsM (sc := sc) (d := 95) (r := r) (n := n) (a := a) (b := b) (kd := kd) hh (by omega) (by omega) rfl (by omega) (by omega) (by omega) ek2 (by rw [rW hp (fun _ => rfl) (fun _ => rfl) (by omega)]; exact hw)
        rw [rS hp.2 (show r < 6 by omega), pFw_cg (n := 10) (fun v hv => rK hp (show r < 6 by omega) k6 (gUp (hI h 5) (6 * a + b) v) (gUp (fun j => hI h 58 (7 + j)) (6 * a + b) v) (fun s => pSeem_cg (fun e he => by
          unfold gUp
          by_cases w : 6 * a + e = 6 * a + b
          · rw [if_pos w, if_pos w]
          · rw [if_neg w, if_neg w]
            exact ((hp.1.2.1.2.2.2.1 a (by omega)).2 e (by omega)).symm))) 10 (by omega)] at b1
        exact pk3 _ (by rw [ea, eb, er]; exact fFitsX (d := 95) hh (by omega) en rfl (by omega) (by omega) (by omega) ek hw) hh (by rw [ea, eb, er]; exact b1) (v_same hp)
      · obtain ⟨h1, a1, a2, a3⟩ := fFitsXw (sc := sc) (d := 95) (r := r) (a := a) (b := b) hh (by omega) en rfl (by omega) (by omega) (by omega) f6 f0 hw
        have ax : oFX f h h1 := ⟨a2, a3⟩
        obtain ⟨h2, b1, b2, b3⟩ := fFitsMw (sc := sc) (d := 95) (r := r) (n := n) (a := a) (b := b) a2 (by omega) (by rw [hI_cg (ax.sl (by omega) (by omega))]; omega) rfl (by omega) (by omega) (by omega) f6 f0 (by rw [rW hp (fun _ => ax.sl (by omega) (by omega)) (fun _ => ax.sl (by omega) (by omega)) (by omega)]; exact hw)
        exact pk3 (-3) (by rw [ea, eb, er]; exact a1) a2 (by rw [ea, eb, er]; exact b1) (v_found f6 hp ax ⟨b2, b3⟩)
    · exact pk3 (-1) (by rw [er]; exact fFitsXb1 (d := 95) hh rx ry (by omega) c2) hh (badM (fun q => c2 (by rw [e3]; exact q.1))) (v_same hp)
  · exact pk3 (-1) (fFitsXb0 (d := 95) hh rx ry rz c1) hh (badM (fun q => c1 q.2)) (v_same hp)
