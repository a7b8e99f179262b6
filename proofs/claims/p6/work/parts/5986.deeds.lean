/-! deeds, in the class -/
section DEED
variable {sc : List Int32} {d : Nat} {h : mH}
theorem fHasX {a : Int} (hh : aHp h) (ha : sR a) : nEv sc (d + 1) 35 [.ref 3, sI a] h (some (sI (if 0 ≤ a ∧ a < hI h 3 3 then 1 else 0)), h) := by
  have gp := hI_rg hh xw_p
  unfold sR aMi aMa at ha
  refine nEv_of (t := mMe35) rfl ?_
  show nRn sc (d) (mMT mMe35) (mMC mMe35) (0, [some (.ref 3), some (sI a)], [], h) _
  refine sP 1 (g1 := (1, [some (.ref 3), some (sI a)], [sI a], h)) rfl ?_
  refine s_ifc (q := .lt) (a := a) rfl ⟨_, rfl⟩ rfl (by unfold sR aMi aMa; omega) (fun hc1 => ?_) (fun hc1 => ?_)
  · have hc1 : (a : Int) < 0 := hc1
    refine sP 1 (g1 := (9, [some (.ref 3), some (sI a)], [sI 0], h)) rfl ?_
    exact s_reti rfl rfl (Or.inr ⟨rfl, by omega⟩) (by first | rw [if_pos (by omega)] | rw [if_neg (by omega)]) rfl
  · have hc1 : ¬ ((a : Int) < 0) := hc1
    refine sP 2 (g1 := (4, [some (.ref 3), some (sI a)], [.ref 3, sI a], h)) rfl ?_
    refine s_get (a := 3) (j := 3) hh rfl ⟨_, rfl⟩ rfl rfl rfl (v := sI (hI h 3 3)) (hI_ok hh xw_p) ?_
    refine s_icmp (q := .ge) (a := a) (b := hI h 3 3) rfl ⟨_, rfl⟩ rfl (by unfold sR aMi aMa; omega) (by unfold sR aMi aMa; omega) (fun hc2 => ?_) (fun hc2 => ?_)
    · have hc2 : ((hI h 3 3) : Int) ≤ a := hc2
      refine sP 1 (g1 := (9, [some (.ref 3), some (sI a)], [sI 0], h)) rfl ?_
      exact s_reti rfl rfl (Or.inr ⟨rfl, by omega⟩) (by first | rw [if_pos (by omega)] | rw [if_neg (by omega)]) rfl
    · have hc2 : ¬ (((hI h 3 3) : Int) ≤ a) := hc2
      refine sP 2 (g1 := (9, [some (.ref 3), some (sI a)], [sI 1], h)) rfl ?_
      exact s_reti rfl rfl (Or.inr ⟨rfl, by omega⟩) (by first | rw [if_pos (by omega)] | rw [if_neg (by omega)]) rfl
theorem fHasTwoX {a b : Int} (hh : aHp h) (ha : sR a) (hb : sR b) : nEv sc (d + 2) 60 [.ref 3, sI a, sI b] h (some (sI (if (0 ≤ a ∧ a < hI h 3 3) ∧ (0 ≤ b ∧ b < hI h 3 3) ∧ a ≠ b then 1 else 0)), h) := by
  have ev1 := fHasX (sc := sc) (d := d) hh ha
  have ev2 := fHasX (sc := sc) (d := d) hh hb
  unfold sR aMi aMa at ha hb
  refine nEv_of (t := mMe60) rfl ?_
  by_cases ca : 0 ≤ a ∧ a < hI h 3 3
  · rw [if_pos ca] at ev1
    by_cases cb : 0 ≤ b ∧ b < hI h 3 3
    · rw [if_pos cb] at ev2
      show nRn sc (d + 1) (mMT mMe60) (mMC mMe60) (0, [some (.ref 3), some (sI a), some (sI b)], [], h) _
      refine sP 2 (g1 := (2, [some (.ref 3), some (sI a), some (sI b)], [sI a, .ref 3], h)) rfl ?_
      refine s_call (k := 35) (args := [.ref 3, sI a]) (st := []) (v := some (sI 1)) (h1 := h) rfl ⟨rfl, rfl⟩ rfl rfl rfl rfl (sRcv hh (a := 3) rfl rfl) rfl ev1 ?_
      refine s_ifc (q := .eq) (a := 1) rfl ⟨_, rfl⟩ rfl (by unfold sR aMi aMa; omega) (fun hc1 => ?_) (fun hc1 => ?_)
      · have hc1 : (1 : Int) = 0 := hc1
        omega
      · have hc1 : ¬ ((1 : Int) = 0) := hc1
        refine sP 2 (g1 := (6, [some (.ref 3), some (sI a), some (sI b)], [sI b, .ref 3], h)) rfl ?_
        refine s_call (k := 35) (args := [.ref 3, sI b]) (st := []) (v := some (sI 1)) (h1 := h) rfl ⟨rfl, rfl⟩ rfl rfl rfl rfl (sRcv hh (a := 3) rfl rfl) rfl ev2 ?_
        refine s_ifc (q := .eq) (a := 1) rfl ⟨_, rfl⟩ rfl (by unfold sR aMi aMa; omega) (fun hc2 => ?_) (fun hc2 => ?_)
        · have hc2 : (1 : Int) = 0 := hc2
          omega
        · have hc2 : ¬ ((1 : Int) = 0) := hc2
          refine sP 2 (g1 := (10, [some (.ref 3), some (sI a), some (sI b)], [sI b, sI a], h)) rfl ?_
          refine s_icmp (q := .eq) (a := a) (b := b) rfl ⟨_, rfl⟩ rfl (by unfold sR aMi aMa; omega) (by unfold sR aMi aMa; omega) (fun hc3 => ?_) (fun hc3 => ?_)
          · have hc3 : (a : Int) = b := hc3
            refine sP 1 (g1 := (14, [some (.ref 3), some (sI a), some (sI b)], [sI 0], h)) rfl ?_
            exact s_reti rfl rfl (Or.inr ⟨rfl, by omega⟩) (by first | rw [if_pos ⟨ca, cb, by omega⟩] | rw [if_neg (fun q => by omega)]) rfl
          · have hc3 : ¬ ((a : Int) = b) := hc3
            refine sP 2 (g1 := (14, [some (.ref 3), some (sI a), some (sI b)], [sI 1], h)) rfl ?_
            exact s_reti rfl rfl (Or.inr ⟨rfl, by omega⟩) (by first | rw [if_pos ⟨ca, cb, by omega⟩] | rw [if_neg (fun q => by omega)]) rfl
    · rw [if_neg cb] at ev2
      show nRn sc (d + 1) (mMT mMe60) (mMC mMe60) (0, [some (.ref 3), some (sI a), some (sI b)], [], h) _
      refine sP 2 (g1 := (2, [some (.ref 3), some (sI a), some (sI b)], [sI a, .ref 3], h)) rfl ?_
      refine s_call (k := 35) (args := [.ref 3, sI a]) (st := []) (v := some (sI 1)) (h1 := h) rfl ⟨rfl, rfl⟩ rfl rfl rfl rfl (sRcv hh (a := 3) rfl rfl) rfl ev1 ?_
      refine s_ifc (q := .eq) (a := 1) rfl ⟨_, rfl⟩ rfl (by unfold sR aMi aMa; omega) (fun hc1 => ?_) (fun hc1 => ?_)
      · have hc1 : (1 : Int) = 0 := hc1
        omega
      · have hc1 : ¬ ((1 : Int) = 0) := hc1
        refine sP 2 (g1 := (6, [some (.ref 3), some (sI a), some (sI b)], [sI b, .ref 3], h)) rfl ?_
        refine s_call (k := 35) (args := [.ref 3, sI b]) (st := []) (v := some (sI 0)) (h1 := h) rfl ⟨rfl, rfl⟩ rfl rfl rfl rfl (sRcv hh (a := 3) rfl rfl) rfl ev2 ?_
        refine s_ifc (q := .eq) (a := 0) rfl ⟨_, rfl⟩ rfl (by unfold sR aMi aMa; omega) (fun hc2 => ?_) (fun hc2 => ?_)
        · have hc2 : (0 : Int) = 0 := hc2
          refine sP 1 (g1 := (14, [some (.ref 3), some (sI a), some (sI b)], [sI 0], h)) rfl ?_
          exact s_reti rfl rfl (Or.inr ⟨rfl, by omega⟩) (by rw [if_neg (fun q => cb q.2.1)]) rfl
        · have hc2 : ¬ ((0 : Int) = 0) := hc2
          omega
  · rw [if_neg ca] at ev1
    show nRn sc (d + 1) (mMT mMe60) (mMC mMe60) (0, [some (.ref 3), some (sI a), some (sI b)], [], h) _
    refine sP 2 (g1 := (2, [some (.ref 3), some (sI a), some (sI b)], [sI a, .ref 3], h)) rfl ?_
    refine s_call (k := 35) (args := [.ref 3, sI a]) (st := []) (v := some (sI 0)) (h1 := h) rfl ⟨rfl, rfl⟩ rfl rfl rfl rfl (sRcv hh (a := 3) rfl rfl) rfl ev1 ?_
    refine s_ifc (q := .eq) (a := 0) rfl ⟨_, rfl⟩ rfl (by unfold sR aMi aMa; omega) (fun hc1 => ?_) (fun hc1 => ?_)
    · have hc1 : (0 : Int) = 0 := hc1
      refine sP 1 (g1 := (14, [some (.ref 3), some (sI a), some (sI b)], [sI 0], h)) rfl ?_
      exact s_reti rfl rfl (Or.inr ⟨rfl, by omega⟩) (by rw [if_neg (fun q => ca q.1)]) rfl
    · have hc1 : ¬ ((0 : Int) = 0) := hc1
      omega
theorem fPairBit {a b : Nat} (ha : a < 6) (hb : b < 6) : nEv sc (d + 2) 46 [sI (a : Int), sI (b : Int)] h (some (.long (pBt a b)), h) := by
  refine nEv_of (t := mMe46) rfl ?_
  show nRn sc (d + 1) (mMT mMe46) (mMC mMe46) (0, [some (sI ((a : Int))), some (sI ((b : Int)))], [], h) _
  refine sP 4 (g1 := (4, [some (sI ((a : Int))), some (sI ((b : Int)))], [sI ((b : Int)), sI ((a : Int)), sI 6, sJ 1], h)) rfl ?_
  refine s_call (k := 43) (args := [sI ((a : Int)), sI ((b : Int))]) (st := [sI 6, sJ 1]) (v := some (sI (min ((a : Int)) ((b : Int))))) (h1 := h) rfl ⟨rfl, rfl⟩ rfl rfl rfl rfl rfl rfl (fMin (by omega) (by omega) (by omega) (by omega)) ?_
  refine s_mul (a := 6) (b := min ((a : Int)) ((b : Int))) rfl rfl ?_
  refine sP 2 (g1 := (8, [some (sI ((a : Int))), some (sI ((b : Int)))], [sI ((b : Int)), sI ((a : Int)), sI (6 * (min ((a : Int)) ((b : Int)))), sJ 1], h)) rfl ?_
  refine s_call (k := 42) (args := [sI ((a : Int)), sI ((b : Int))]) (st := [sI (6 * (min ((a : Int)) ((b : Int)))), sJ 1]) (v := some (sI (max ((a : Int)) ((b : Int))))) (h1 := h) rfl ⟨rfl, rfl⟩ rfl rfl rfl rfl rfl rfl (fMax (by omega) (by omega) (by omega) (by omega)) ?_
  refine s_add (a := 6 * (min ((a : Int)) ((b : Int)))) (b := max ((a : Int)) ((b : Int))) rfl rfl ?_
  refine s_lsh (z := pBt a b) rfl rfl ?_
  exact s_ret rfl rfl
theorem fNote {s a b D : Nat} (hh : aHp h) (hs : s < 3) (ha : a < 6) (hb : b < 6) (hD : hI h 3 5 = (D : Int)) (hD4 : D < 40) : ∃ g, nEv sc (d + 1) 57 [.ref 3, sI (s : Int), sI (a : Int), sI (b : Int)] h (none, g) ∧ aHp g ∧ ∀ p m, aSlot g p m = if p = 3 ∧ m = 5 then some (sI ((D : Int) + 1)) else if p = 6 ∧ m = D then some (sI ((64 * s + 8 * a + b : Nat) : Int)) else aSlot h p m := by
  obtain ⟨g1, eg1⟩ : ∃ gz, gz = hset h 6 D (sI ((64 * s + 8 * a + b : Nat) : Int)) := ⟨_, rfl⟩
  have sg1 : ∀ xa xm, aSlot g1 xa xm = if xa = 6 ∧ xm = D then some (sI ((64 * s + 8 * a + b : Nat) : Int)) else aSlot h xa xm := fun xa xm => by rw [eg1]; exact hset_slot hh (show sTg 6 = some (50, 40) from rfl) (by omega) xa xm
  have hg1 : aHp g1 := by rw [eg1]; exact hset_dd hh (xw_q hD4) hs ha hb
  obtain ⟨g2, eg2⟩ : ∃ gz, gz = hset g1 3 5 (sI ((D : Int) + 1)) := ⟨_, rfl⟩
  have sg2 : ∀ xa xm, aSlot g2 xa xm = if xa = 3 ∧ xm = 5 then some (sI ((D : Int) + 1)) else aSlot g1 xa xm := fun xa xm => by rw [eg2]; exact hset_slot hg1 (show sTg 3 = some (1, 7) from rfl) (by omega) xa xm
  have hg2 : aHp g2 := by rw [eg2]; exact hset_ii hg1 xw_id (by omega) (by omega) (by unfold sR aMi aMa; omega)
  refine ⟨g2, nEv_of (t := mMe57) rfl ?_, hg2, fun p m => by rw [sg2, sg1]⟩
  show nRn sc (d) (mMT mMe57) (mMC mMe57) (0, [some (.ref 3), some (sI ((s : Int))), some (sI ((a : Int))), some (sI ((b : Int)))], [], h) _
  refine sP 1 (g1 := (1, [some (.ref 3), some (sI ((s : Int))), some (sI ((a : Int))), some (sI ((b : Int)))], [.ref 3], h)) rfl ?_
  refine s_get (a := 3) (j := 5) hh rfl ⟨_, rfl⟩ rfl rfl rfl (v := sI ((D : Int))) (by have q := hI_ok hh xw_d; rw [hD] at q; exact q) ?_
  refine sP 1 (g1 := (3, [some (.ref 3), some (sI ((s : Int))), some (sI ((a : Int))), some (sI ((b : Int)))], [sI 40, sI ((D : Int))], h)) rfl ?_
  refine s_icmp (q := .ge) (a := (D : Int)) (b := 40) rfl ⟨_, rfl⟩ rfl (by unfold sR aMi aMa; omega) (by unfold sR aMi aMa; omega) (fun hc1 => ?_) (fun hc1 => ?_)
  · have hc1 : (40 : Int) ≤ ((D : Int)) := hc1
    omega
  · have hc1 : ¬ ((40 : Int) ≤ ((D : Int))) := hc1
    refine sP 1 (g1 := (5, [some (.ref 3), some (sI ((s : Int))), some (sI ((a : Int))), some (sI ((b : Int)))], [.ref 3], h)) rfl ?_
    refine s_get (a := 3) (j := 2) hh rfl ⟨_, rfl⟩ rfl rfl rfl (v := .ref 6) (hR_ok hh (by decide +kernel)) ?_
    refine sP 1 (g1 := (7, [some (.ref 3), some (sI ((s : Int))), some (sI ((a : Int))), some (sI ((b : Int)))], [.ref 3, .ref 6], h)) rfl ?_
    refine s_get (a := 3) (j := 5) hh rfl ⟨_, rfl⟩ rfl rfl rfl (v := sI ((D : Int))) (by have q := hI_ok hh xw_d; rw [hD] at q; exact q) ?_
    refine sP 2 (g1 := (10, [some (.ref 3), some (sI ((s : Int))), some (sI ((a : Int))), some (sI ((b : Int)))], [sI 6, sI ((s : Int)), sI ((D : Int)), .ref 6], h)) rfl ?_
    refine s_b1 rfl rfl (b_d6 s hs) ?_
    refine sP 2 (g1 := (13, [some (.ref 3), some (sI ((s : Int))), some (sI ((a : Int))), some (sI ((b : Int)))], [sI 3, sI ((a : Int)), sI (((64 * s : Nat) : Int)), sI ((D : Int)), .ref 6], h)) rfl ?_
    refine s_b1 rfl rfl (b_d3 a ha) ?_
    refine s_b1 rfl rfl (b_o1 s hs a ha) ?_
    refine sP 1 (g1 := (16, [some (.ref 3), some (sI ((s : Int))), some (sI ((a : Int))), some (sI ((b : Int)))], [sI ((b : Int)), sI (((64 * s + 8 * a : Nat) : Int)), sI ((D : Int)), .ref 6], h)) rfl ?_
    refine s_b1 rfl rfl (b_o2 s hs a ha b hb) ?_
    refine s_iast (a := 6) (n := 40) (j := (D : Int)) hh rfl rfl (show sTg 6 = some (50, 40) from rfl) (by omega) (by omega) (by decide) ?_
    rw [show ((D : Int) : Int).toNat = D by omega]
    rw [← eg1]
    refine sP 2 (g1 := (20, [some (.ref 3), some (sI ((s : Int))), some (sI ((a : Int))), some (sI ((b : Int)))], [.ref 3, .ref 3], g1)) rfl ?_
    refine s_get (a := 3) (j := 5) hg1 rfl ⟨_, rfl⟩ rfl rfl rfl (v := sI ((D : Int))) (by rw [sg1, if_neg (by omega)]; exact (by have q := hI_ok hh xw_d; rw [hD] at q; exact q)) ?_
    refine sP 1 (g1 := (22, [some (.ref 3), some (sI ((s : Int))), some (sI ((a : Int))), some (sI ((b : Int)))], [sI 1, sI ((D : Int)), .ref 3], g1)) rfl ?_
    refine s_add (a := (D : Int)) (b := 1) rfl rfl ?_
    refine s_put (a := 3) (j := 5) (k := 1) (n := 7) hg1 rfl ⟨_, rfl⟩ (show sTg 3 = some (1, 7) from rfl) rfl rfl (by decide) rfl ?_
    rw [← eg2]
    exact s_ret rfl rfl
theorem fMove {a U D : Nat} (hh : aHp h) (ha : a < 6) (hU : hI h 3 4 = (U : Int)) (hD : hI h 3 5 = (D : Int)) (hD4 : D < 40) : ∃ g, nEv sc (d + 2) 56 [.ref 3, sI (a : Int)] h (none, g) ∧ aHp g ∧ ∀ p m, aSlot g p m = if p = 3 ∧ m = 5 then some (sI ((D : Int) + 1)) else if p = 6 ∧ m = D then some (sI ((64 * 0 + 8 * a + a : Nat) : Int)) else if p = 3 ∧ m = 4 then some (sI ((bxo U a : Nat) : Int)) else aSlot h p m := by
  have gu := hI_rg hh xw_u
  have hU6 : U < 64 := by omega
  have hx := bxo_lt U hU6 a ha
  obtain ⟨g1, eg1⟩ : ∃ gz, gz = hset h 3 4 (sI ((bxo U a : Nat) : Int)) := ⟨_, rfl⟩
  have sg1 : ∀ xa xm, aSlot g1 xa xm = if xa = 3 ∧ xm = 4 then some (sI ((bxo U a : Nat) : Int)) else aSlot h xa xm := fun xa xm => by rw [eg1]; exact hset_slot hh (show sTg 3 = some (1, 7) from rfl) (by omega) xa xm
  have hg1 : aHp g1 := by rw [eg1]; exact hset_ii hh xw_iu (by omega) (by omega) (by unfold sR aMi aMa; omega)
  have eD : hI g1 3 5 = (D : Int) := (hI_cg (by rw [sg1, if_neg (by omega)])).trans hD
  obtain ⟨g2, r1, r2, r3⟩ := fNote (sc := sc) (d := d) (s := 0) hg1 (by decide) ha ha eD hD4
  refine ⟨g2, nEv_of (t := mMe56) rfl ?_, r2, fun p m => by rw [r3, sg1]⟩
  show nRn sc (d + 1) (mMT mMe56) (mMC mMe56) (0, [some (.ref 3), some (sI ((a : Int)))], [], h) _
  refine sP 2 (g1 := (2, [some (.ref 3), some (sI ((a : Int)))], [.ref 3, .ref 3], h)) rfl ?_
  refine s_get (a := 3) (j := 4) hh rfl ⟨_, rfl⟩ rfl rfl rfl (v := sI ((U : Int))) (by have q := hI_ok hh xw_u; rw [hU] at q; exact q) ?_
  refine sP 2 (g1 := (5, [some (.ref 3), some (sI ((a : Int)))], [sI ((a : Int)), sI 1, sI ((U : Int)), .ref 3], h)) rfl ?_
  refine s_shl (a := a) rfl rfl ha ?_
  refine s_xo (s := U) (a := a) rfl rfl hU6 ha ?_
  refine s_put (a := 3) (j := 4) (k := 1) (n := 7) hh rfl ⟨_, rfl⟩ (show sTg 3 = some (1, 7) from rfl) rfl rfl (by decide) rfl ?_
  rw [← eg1]
  refine sP 4 (g1 := (12, [some (.ref 3), some (sI ((a : Int)))], [sI ((a : Int)), sI ((a : Int)), sI 0, .ref 3], g1)) rfl ?_
  refine s_call (k := 57) (args := [.ref 3, sI 0, sI ((a : Int)), sI ((a : Int))]) (st := []) (v := none) (h1 := g2) rfl ⟨rfl, rfl⟩ rfl rfl rfl rfl (sRcv hg1 (a := 3) rfl rfl) rfl r1 ?_
  exact s_ret rfl rfl
theorem fSeeFirst {a b D : Nat} {v : Int} (hh : aHp h) (ha : a < 6) (hb : b < 6) (v0 : 0 ≤ v) (v9 : v ≤ 9) (hD : hI h 3 5 = (D : Int)) (hD4 : D < 40) : ∃ g, nEv sc (d + 2) 61 [.ref 3, sI (a : Int), sI (b : Int), sI v] h (none, g) ∧ aHp g ∧ ∀ p m, aSlot g p m = if p = 3 ∧ m = 5 then some (sI ((D : Int) + 1)) else if p = 6 ∧ m = D then some (sI ((64 * 1 + 8 * a + b : Nat) : Int)) else if p = 5 ∧ m = 6 * a + b then some (sI v) else aSlot h p m := by
  obtain ⟨g1, eg1⟩ : ∃ gz, gz = hset h 5 (6 * a + b) (sI v) := ⟨_, rfl⟩
  have sg1 : ∀ xa xm, aSlot g1 xa xm = if xa = 5 ∧ xm = 6 * a + b then some (sI v) else aSlot h xa xm := fun xa xm => by rw [eg1]; exact hset_slot hh (show sTg 5 = some (50, 36) from rfl) (by omega) xa xm
  have hg1 : aHp g1 := by rw [eg1]; exact hset_ii hh (xw_il (by omega)) v0 v9 (by unfold sR aMi aMa; omega)
  have eD : hI g1 3 5 = (D : Int) := (hI_cg (by rw [sg1, if_neg (by omega)])).trans hD
  obtain ⟨g2, r1, r2, r3⟩ := fNote (sc := sc) (d := d) (s := 1) hg1 (by decide) ha hb eD hD4
  refine ⟨g2, nEv_of (t := mMe61) rfl ?_, r2, fun p m => by rw [r3, sg1]⟩
  show nRn sc (d + 1) (mMT mMe61) (mMC mMe61) (0, [some (.ref 3), some (sI ((a : Int))), some (sI ((b : Int))), some (sI v)], [], h) _
  refine sP 1 (g1 := (1, [some (.ref 3), some (sI ((a : Int))), some (sI ((b : Int))), some (sI v)], [.ref 3], h)) rfl ?_
  refine s_get (a := 3) (j := 1) hh rfl ⟨_, rfl⟩ rfl rfl rfl (v := .ref 5) (hR_ok hh (by decide +kernel)) ?_
  refine sP 2 (g1 := (4, [some (.ref 3), some (sI ((a : Int))), some (sI ((b : Int))), some (sI v)], [sI ((a : Int)), sI 6, .ref 5], h)) rfl ?_
  refine s_mul (a := 6) (b := (a : Int)) rfl rfl ?_
  refine sP 1 (g1 := (6, [some (.ref 3), some (sI ((a : Int))), some (sI ((b : Int))), some (sI v)], [sI ((b : Int)), sI (6 * ((a : Int))), .ref 5], h)) rfl ?_
  refine s_add (a := 6 * ((a : Int))) (b := (b : Int)) rfl rfl ?_
  refine sP 1 (g1 := (8, [some (.ref 3), some (sI ((a : Int))), some (sI ((b : Int))), some (sI v)], [sI v, sI ((6 * ((a : Int))) + ((b : Int))), .ref 5], h)) rfl ?_
  refine s_iast (a := 5) (n := 36) (j := (6 * ((a : Int))) + ((b : Int))) hh rfl rfl (show sTg 5 = some (50, 36) from rfl) (by omega) (by omega) (by decide) ?_
  rw [show ((6 * ((a : Int))) + ((b : Int)) : Int).toNat = 6 * a + b by omega]
  rw [← eg1]
  refine sP 4 (g1 := (13, [some (.ref 3), some (sI ((a : Int))), some (sI ((b : Int))), some (sI v)], [sI ((b : Int)), sI ((a : Int)), sI 1, .ref 3], g1)) rfl ?_
  refine s_call (k := 57) (args := [.ref 3, sI 1, sI ((a : Int)), sI ((b : Int))]) (st := []) (v := none) (h1 := g2) rfl ⟨rfl, rfl⟩ rfl rfl rfl rfl (sRcv hg1 (a := 3) rfl rfl) rfl r1 ?_
  exact s_ret rfl rfl
theorem fBind {a b D : Nat} (hh : aHp h) (ha : a < 6) (hb : b < 6) (hD : hI h 3 5 = (D : Int)) (hD4 : D < 40) : ∃ g, nEv sc (d + 3) 68 [.ref 3, sI (a : Int), sI (b : Int)] h (none, g) ∧ aHp g ∧ ∀ p m, aSlot g p m = if p = 3 ∧ m = 5 then some (sI ((D : Int) + 1)) else if p = 6 ∧ m = D then some (sI ((64 * 2 + 8 * a + b : Nat) : Int)) else if p = 3 ∧ m = 6 then some (.long (hJ h 3 6 ||| pBt a b)) else aSlot h p m := by
  obtain ⟨g1, eg1⟩ : ∃ gz, gz = hset h 3 6 (.long (hJ h 3 6 ||| pBt a b)) := ⟨_, rfl⟩
  have sg1 : ∀ xa xm, aSlot g1 xa xm = if xa = 3 ∧ xm = 6 then some (.long (hJ h 3 6 ||| pBt a b)) else aSlot h xa xm := fun xa xm => by rw [eg1]; exact hset_slot hh (show sTg 3 = some (1, 7) from rfl) (by omega) xa xm
  have hg1 : aHp g1 := by rw [eg1]; exact hset_lng hh xw_t
  have eD : hI g1 3 5 = (D : Int) := (hI_cg (by rw [sg1, if_neg (by omega)])).trans hD
  obtain ⟨g2, r1, r2, r3⟩ := fNote (sc := sc) (d := d + 1) (s := 2) hg1 (by decide) ha hb eD hD4
  refine ⟨g2, nEv_of (t := mMe68) rfl ?_, r2, fun p m => by rw [r3, sg1]⟩
  show nRn sc (d + 2) (mMT mMe68) (mMC mMe68) (0, [some (.ref 3), some (sI ((a : Int))), some (sI ((b : Int)))], [], h) _
  refine sP 2 (g1 := (2, [some (.ref 3), some (sI ((a : Int))), some (sI ((b : Int)))], [.ref 3, .ref 3], h)) rfl ?_
  refine s_get (a := 3) (j := 6) hh rfl ⟨_, rfl⟩ rfl rfl rfl (v := .long (hJ h 3 6)) (hJ_ok hh xw_t) ?_
  refine sP 2 (g1 := (5, [some (.ref 3), some (sI ((a : Int))), some (sI ((b : Int)))], [sI ((b : Int)), sI ((a : Int)), .long (hJ h 3 6), .ref 3], h)) rfl ?_
  refine s_call (k := 46) (args := [sI ((a : Int)), sI ((b : Int))]) (st := [.long (hJ h 3 6), .ref 3]) (v := some (.long (pBt a b))) (h1 := h) rfl ⟨rfl, rfl⟩ rfl rfl rfl rfl rfl rfl (fPairBit ha hb) ?_
  refine s_b2 rfl rfl rfl ?_
  refine s_put (a := 3) (j := 6) (k := 1) (n := 7) hh rfl ⟨_, rfl⟩ (show sTg 3 = some (1, 7) from rfl) rfl rfl (by decide) rfl ?_
  rw [← eg1]
  refine sP 4 (g1 := (12, [some (.ref 3), some (sI ((a : Int))), some (sI ((b : Int)))], [sI ((b : Int)), sI ((a : Int)), sI 2, .ref 3], g1)) rfl ?_
  refine s_call (k := 57) (args := [.ref 3, sI 2, sI ((a : Int)), sI ((b : Int))]) (st := []) (v := none) (h1 := g2) rfl ⟨rfl, rfl⟩ rfl rfl rfl rfl (sRcv hg1 (a := 3) rfl rfl) rfl r1 ?_
  exact s_ret rfl rfl
noncomputable def pMay (a b : Nat) (t : Bool) (g : Bool) : Bool := decide (a ≠ b) && (!t && g)
theorem pMay_iff {a b : Nat} {t g : Bool} : pMay a b t g = true ↔ a ≠ b ∧ t = false ∧ g = true := by
  unfold pMay
  rw [Bool.and_eq_true, Bool.and_eq_true, decide_eq_true_eq, Bool.not_eq_true']
theorem fMayX {n a b U ka kb : Nat} (hh : aHp h) (hn : hI h 3 3 = n) (ha : a < 6) (hb : b < 6) (hU : hI h 3 4 = (U : Int)) (hka : hI h 4 a = ka) (hkb : hI h 4 b = kb) : nEv sc (d + 6) 64 [.ref 3, sI (a : Int), sI (b : Int)] h (some (sI (if pMay a b (tb (hJ h 3 6) (pI a b)) (pAg (pSeem (hI h 5) n ka a U) (pSeem (hI h 5) n kb b U) (bt U a) (bt U b)) = true then 1 else 0)), h) := by
  have gu := hI_rg hh xw_u
  have hU6 : U < 64 := by omega
  have ev : nEv sc (d + 5) 65 [.ref 3, sI (a : Int), sI (b : Int), sI (U : Int)] h (some (sI (if pAg (pSeem (hI h 5) n ka a U) (pSeem (hI h 5) n kb b U) (bt U a) (bt U b) = true then 1 else 0)), h) := fAgreed (e := 3) hh (by decide) hn ha hb hU6 hka hkb
  have hz := tb_pB (t := hJ h 3 6) ha hb
  refine nEv_of (t := mMe64) rfl ?_
  generalize pAg (pSeem (hI h 5) n ka a U) (pSeem (hI h 5) n kb b U) (bt U a) (bt U b) = ag at *
  cases ag with
  | false =>
    rw [if_neg (by decide)] at ev
    show nRn sc (d + 5) (mMT mMe64) (mMC mMe64) (0, [some (.ref 3), some (sI ((a : Int))), some (sI ((b : Int)))], [], h) _
    refine sP 2 (g1 := (2, [some (.ref 3), some (sI ((a : Int))), some (sI ((b : Int)))], [sI ((b : Int)), sI ((a : Int))], h)) rfl ?_
    refine s_icmp (q := .eq) (a := (a : Int)) (b := (b : Int)) rfl ⟨_, rfl⟩ rfl (by unfold sR aMi aMa; omega) (by unfold sR aMi aMa; omega) (fun hc1 => ?_) (fun hc1 => ?_)
    · have hc1 : (((a : Int)) : Int) = ((b : Int)) := hc1
      refine sP 1 (g1 := (22, [some (.ref 3), some (sI ((a : Int))), some (sI ((b : Int)))], [sI 0], h)) rfl ?_
      exact s_reti rfl rfl (Or.inr ⟨rfl, by omega⟩) (by first | rw [if_neg (fun q => (pMay_iff.mp q).1 (by omega))] | rw [if_neg (fun q => absurd (hz.mpr (pMay_iff.mp q).2.1) (by assumption))] | rw [if_neg (fun q => absurd (pMay_iff.mp q).2.2 (by decide))] | rw [if_pos (pMay_iff.mpr ⟨by omega, hz.mp (by assumption), rfl⟩)]) rfl
    · have hc1 : ¬ ((((a : Int)) : Int) = ((b : Int))) := hc1
      refine sP 1 (g1 := (4, [some (.ref 3), some (sI ((a : Int))), some (sI ((b : Int)))], [.ref 3], h)) rfl ?_
      refine s_get (a := 3) (j := 6) hh rfl ⟨_, rfl⟩ rfl rfl rfl (v := .long (hJ h 3 6)) (hJ_ok hh xw_t) ?_
      refine sP 2 (g1 := (7, [some (.ref 3), some (sI ((a : Int))), some (sI ((b : Int)))], [sI ((b : Int)), sI ((a : Int)), .long (hJ h 3 6)], h)) rfl ?_
      refine s_call (k := 46) (args := [sI ((a : Int)), sI ((b : Int))]) (st := [.long (hJ h 3 6)]) (v := some (.long (pBt a b))) (h1 := h) rfl ⟨rfl, rfl⟩ rfl rfl rfl rfl rfl rfl (fPairBit ha hb) ?_
      refine s_b2 rfl rfl rfl ?_
      refine sP 1 (g1 := (10, [some (.ref 3), some (sI ((a : Int))), some (sI ((b : Int)))], [sJ 0, .long (hJ h 3 6 &&& pBt a b)], h)) rfl ?_
      refine s_lnz (x := hJ h 3 6 &&& pBt a b) rfl rfl rfl ⟨_, rfl⟩ rfl (fun hc2 => ?_) (fun hc2 => ?_)
      · have hc2 : hJ h 3 6 &&& pBt a b ≠ 0 := hc2
        refine sP 1 (g1 := (22, [some (.ref 3), some (sI ((a : Int))), some (sI ((b : Int)))], [sI 0], h)) rfl ?_
        exact s_reti rfl rfl (Or.inr ⟨rfl, by omega⟩) (by first | rw [if_neg (fun q => (pMay_iff.mp q).1 (by omega))] | rw [if_neg (fun q => absurd (hz.mpr (pMay_iff.mp q).2.1) (by assumption))] | rw [if_neg (fun q => absurd (pMay_iff.mp q).2.2 (by decide))] | rw [if_pos (pMay_iff.mpr ⟨by omega, hz.mp (by assumption), rfl⟩)]) rfl
      · have hc2 : hJ h 3 6 &&& pBt a b = 0 := hc2
        refine sP 4 (g1 := (16, [some (.ref 3), some (sI ((a : Int))), some (sI ((b : Int)))], [.ref 3, sI ((b : Int)), sI ((a : Int)), .ref 3], h)) rfl ?_
        refine s_get (a := 3) (j := 4) hh rfl ⟨_, rfl⟩ rfl rfl rfl (v := sI ((U : Int))) (by have q := hI_ok hh xw_u; rw [hU] at q; exact q) ?_
        refine s_call (k := 65) (args := [.ref 3, sI ((a : Int)), sI ((b : Int)), sI ((U : Int))]) (st := []) (v := some (sI 0)) (h1 := h) rfl ⟨rfl, rfl⟩ rfl rfl rfl rfl (sRcv hh (a := 3) rfl rfl) rfl ev ?_
        refine s_ifc (q := .eq) (a := 0) rfl ⟨_, rfl⟩ rfl (by unfold sR aMi aMa; omega) (fun hc3 => ?_) (fun hc3 => ?_)
        · have hc3 : (0 : Int) = 0 := hc3
          refine sP 1 (g1 := (22, [some (.ref 3), some (sI ((a : Int))), some (sI ((b : Int)))], [sI 0], h)) rfl ?_
          exact s_reti rfl rfl (Or.inr ⟨rfl, by omega⟩) (by first | rw [if_neg (fun q => (pMay_iff.mp q).1 (by omega))] | rw [if_neg (fun q => absurd (hz.mpr (pMay_iff.mp q).2.1) (by assumption))] | rw [if_neg (fun q => absurd (pMay_iff.mp q).2.2 (by decide))] | rw [if_pos (pMay_iff.mpr ⟨by omega, hz.mp (by assumption), rfl⟩)]) rfl
        · have hc3 : ¬ ((0 : Int) = 0) := hc3
          omega
  | true =>
    rw [if_pos rfl] at ev
    show nRn sc (d + 5) (mMT mMe64) (mMC mMe64) (0, [some (.ref 3), some (sI ((a : Int))), some (sI ((b : Int)))], [], h) _
    refine sP 2 (g1 := (2, [some (.ref 3), some (sI ((a : Int))), some (sI ((b : Int)))], [sI ((b : Int)), sI ((a : Int))], h)) rfl ?_
    refine s_icmp (q := .eq) (a := (a : Int)) (b := (b : Int)) rfl ⟨_, rfl⟩ rfl (by unfold sR aMi aMa; omega) (by unfold sR aMi aMa; omega) (fun hc1 => ?_) (fun hc1 => ?_)
    · have hc1 : (((a : Int)) : Int) = ((b : Int)) := hc1
      refine sP 1 (g1 := (22, [some (.ref 3), some (sI ((a : Int))), some (sI ((b : Int)))], [sI 0], h)) rfl ?_
      exact s_reti rfl rfl (Or.inr ⟨rfl, by omega⟩) (by first | rw [if_neg (fun q => (pMay_iff.mp q).1 (by omega))] | rw [if_neg (fun q => absurd (hz.mpr (pMay_iff.mp q).2.1) (by assumption))] | rw [if_neg (fun q => absurd (pMay_iff.mp q).2.2 (by decide))] | rw [if_pos (pMay_iff.mpr ⟨by omega, hz.mp (by assumption), rfl⟩)]) rfl
    · have hc1 : ¬ ((((a : Int)) : Int) = ((b : Int))) := hc1
      refine sP 1 (g1 := (4, [some (.ref 3), some (sI ((a : Int))), some (sI ((b : Int)))], [.ref 3], h)) rfl ?_
      refine s_get (a := 3) (j := 6) hh rfl ⟨_, rfl⟩ rfl rfl rfl (v := .long (hJ h 3 6)) (hJ_ok hh xw_t) ?_
      refine sP 2 (g1 := (7, [some (.ref 3), some (sI ((a : Int))), some (sI ((b : Int)))], [sI ((b : Int)), sI ((a : Int)), .long (hJ h 3 6)], h)) rfl ?_
      refine s_call (k := 46) (args := [sI ((a : Int)), sI ((b : Int))]) (st := [.long (hJ h 3 6)]) (v := some (.long (pBt a b))) (h1 := h) rfl ⟨rfl, rfl⟩ rfl rfl rfl rfl rfl rfl (fPairBit ha hb) ?_
      refine s_b2 rfl rfl rfl ?_
      refine sP 1 (g1 := (10, [some (.ref 3), some (sI ((a : Int))), some (sI ((b : Int)))], [sJ 0, .long (hJ h 3 6 &&& pBt a b)], h)) rfl ?_
      refine s_lnz (x := hJ h 3 6 &&& pBt a b) rfl rfl rfl ⟨_, rfl⟩ rfl (fun hc2 => ?_) (fun hc2 => ?_)
      · have hc2 : hJ h 3 6 &&& pBt a b ≠ 0 := hc2
        refine sP 1 (g1 := (22, [some (.ref 3), some (sI ((a : Int))), some (sI ((b : Int)))], [sI 0], h)) rfl ?_
        exact s_reti rfl rfl (Or.inr ⟨rfl, by omega⟩) (by first | rw [if_neg (fun q => (pMay_iff.mp q).1 (by omega))] | rw [if_neg (fun q => absurd (hz.mpr (pMay_iff.mp q).2.1) (by assumption))] | rw [if_neg (fun q => absurd (pMay_iff.mp q).2.2 (by decide))] | rw [if_pos (pMay_iff.mpr ⟨by omega, hz.mp (by assumption), rfl⟩)]) rfl
      · have hc2 : hJ h 3 6 &&& pBt a b = 0 := hc2
        refine sP 4 (g1 := (16, [some (.ref 3), some (sI ((a : Int))), some (sI ((b : Int)))], [.ref 3, sI ((b : Int)), sI ((a : Int)), .ref 3], h)) rfl ?_
        refine s_get (a := 3) (j := 4) hh rfl ⟨_, rfl⟩ rfl rfl rfl (v := sI ((U : Int))) (by have q := hI_ok hh xw_u; rw [hU] at q; exact q) ?_
        refine s_call (k := 65) (args := [.ref 3, sI ((a : Int)), sI ((b : Int)), sI ((U : Int))]) (st := []) (v := some (sI 1)) (h1 := h) rfl ⟨rfl, rfl⟩ rfl rfl rfl rfl (sRcv hh (a := 3) rfl rfl) rfl ev ?_
        refine s_ifc (q := .eq) (a := 1) rfl ⟨_, rfl⟩ rfl (by unfold sR aMi aMa; omega) (fun hc3 => ?_) (fun hc3 => ?_)
        · have hc3 : (1 : Int) = 0 := hc3
          omega
        · have hc3 : ¬ ((1 : Int) = 0) := hc3
          refine sP 2 (g1 := (22, [some (.ref 3), some (sI ((a : Int))), some (sI ((b : Int)))], [sI 1], h)) rfl ?_
          exact s_reti rfl rfl (Or.inr ⟨rfl, by omega⟩) (by first | rw [if_neg (fun q => (pMay_iff.mp q).1 (by omega))] | rw [if_neg (fun q => absurd (hz.mpr (pMay_iff.mp q).2.1) (by assumption))] | rw [if_neg (fun q => absurd (pMay_iff.mp q).2.2 (by decide))] | rw [if_pos (pMay_iff.mpr ⟨by omega, hz.mp (by assumption), rfl⟩)]) rfl
end DEED
