/-! texts: the methods, walked -/
section TXT
variable {sc : List Int32} {d : Nat} {h : mH}
theorem s_i2b {rt : Option FieldType} {cs : List mE} {i : Nat} {L : mL} {st : List Value} {r : mR} {en : mE} {x : Int32} (he : cs[i]? = some en) (ho : en.2.1 = .i2b) (hr : nRn sc d rt cs (i + 1, L, .int x.toInt8.toInt32 :: st, h) r) : nRn sc d rt cs (i, L, .int x :: st, h) r := by
  refine sStep he (by unfold nCl; rw [ho]; intro q; cases q) (fun call => mStep_B2 ?_) hr
  unfold mB2
  rw [ho]
theorem tx_a {c : Nat} (hc : c < 4) : sTg (33 + 2 * c) = some (6, 2) := (show ∀ c, c < 4 → sTg (33 + 2 * c) = some (6, 2) by decide +kernel) c hc
theorem tx_b {c : Nat} (hc : c < 4) : sTg (34 + 2 * c) = some (51, 60) := (show ∀ c, c < 4 → sTg (34 + 2 * c) = some (51, 60) by decide +kernel) c hc
theorem tx_r {c : Nat} (hc : c < 4) : zRef (33 + 2 * c) 0 (34 + 2 * c) = true := (show ∀ c, c < 4 → zRef (33 + 2 * c) 0 (34 + 2 * c) = true by decide +kernel) c hc
theorem tx_t {c : Nat} (hc : c < 4) : zRef 2 c (33 + 2 * c) = true := (show ∀ c, c < 4 → zRef 2 c (33 + 2 * c) = true by decide +kernel) c hc
theorem tx_z {c : Nat} (hc : c < 4) : zCell (33 + 2 * c) 1 (-1) 60 = true := (show ∀ c, c < 4 → zCell (33 + 2 * c) 1 (-1) 60 = true by decide +kernel) c hc
theorem tx_s {c j : Nat} (hc : c < 4) (hj : j < 60) : zCell (34 + 2 * c) j (-128) 127 = true := (show ∀ c, c < 4 → ∀ j, j < 60 → zCell (34 + 2 * c) j (-128) 127 = true by decide +kernel) c hc j hj
theorem tx_m {j : Nat} (hj : j < 240) : zCell 57 j (-128) 127 = true := (show ∀ j, j < 240 → zCell 57 j (-128) 127 = true by decide +kernel) j hj
theorem tx_n {j : Nat} (hj : j < 4) : zCell 56 j (-1) 60 = true := (show ∀ j, j < 4 → zCell 56 j (-1) 60 = true by decide +kernel) j hj
theorem fWhy {a b : Int} (a1 : -2147483648 ≤ a) (a2 : a ≤ 2147483647) (b1 : -2147483648 ≤ b) (b2 : b ≤ 2147483647) : nEv sc (d + 1) 13 [sI a, sI b] h (some (sI (if a = -1 then 1 else if b < 0 ∨ a ≤ b then 2 else 0)), h) := by
  refine nEv_of (t := mMe13) rfl ?_
  show nRn sc (d) (mMT mMe13) (mMC mMe13) (0, [some (sI a), some (sI b)], [], h) _
  refine sP 2 (g1 := (2, [some (sI a), some (sI b)], [sI ((-1)), sI a], h)) rfl ?_
  refine s_icmp (q := .ne) (a := a) (b := (-1)) rfl ⟨_, rfl⟩ rfl (by unfold sR aMi aMa; omega) (by unfold sR aMi aMa; omega) (fun hc1 => ?_) (fun hc1 => ?_)
  · have hc1 : (a : Int) ≠ ((-1)) := hc1
    refine sP 1 (g1 := (6, [some (sI a), some (sI b)], [sI b], h)) rfl ?_
    refine s_ifc (q := .lt) (a := b) rfl ⟨_, rfl⟩ rfl (by unfold sR aMi aMa; omega) (fun hc2 => ?_) (fun hc2 => ?_)
    · have hc2 : (b : Int) < 0 := hc2
      refine sP 2 (g1 := (13, [some (sI a), some (sI b)], [sI 2], h)) rfl ?_
      exact s_reti rfl rfl (Or.inl rfl) (by (repeat' split) <;> omega) rfl
    · have hc2 : ¬ ((b : Int) < 0) := hc2
      refine sP 2 (g1 := (9, [some (sI a), some (sI b)], [sI a, sI b], h)) rfl ?_
      refine s_icmp (q := .lt) (a := b) (b := a) rfl ⟨_, rfl⟩ rfl (by unfold sR aMi aMa; omega) (by unfold sR aMi aMa; omega) (fun hc3 => ?_) (fun hc3 => ?_)
      · have hc3 : (b : Int) < a := hc3
        refine sP 1 (g1 := (13, [some (sI a), some (sI b)], [sI 0], h)) rfl ?_
        exact s_reti rfl rfl (Or.inl rfl) (by (repeat' split) <;> omega) rfl
      · have hc3 : ¬ ((b : Int) < a) := hc3
        refine sP 2 (g1 := (13, [some (sI a), some (sI b)], [sI 2], h)) rfl ?_
        exact s_reti rfl rfl (Or.inl rfl) (by (repeat' split) <;> omega) rfl
  · have hc1 : ¬ ((a : Int) ≠ ((-1))) := hc1
    refine sP 1 (g1 := (4, [some (sI a), some (sI b)], [sI 1], h)) rfl ?_
    exact s_reti rfl rfl (Or.inl rfl) (by (repeat' split) <;> omega) rfl
theorem fTextAt {c : Nat} (hh : aHp h) (hc : c < 4) : nEv sc (d + 1) 21 [.ref 0, sI (c : Int)] h (some (.ref (33 + 2 * c)), h) := by
  refine nEv_of (t := mMe21) rfl ?_
  show nRn sc (d) (mMT mMe21) (mMC mMe21) (0, [some (.ref 0), some (sI ((c : Int)))], [], h) _
  refine sP 1 (g1 := (1, [some (.ref 0), some (sI ((c : Int)))], [sI ((c : Int))], h)) rfl ?_
  refine s_ifc (q := .lt) (a := (c : Int)) rfl ⟨_, rfl⟩ rfl (by unfold sR aMi aMa; omega) (fun hc1 => ?_) (fun hc1 => ?_)
  · have hc1 : (((c : Int)) : Int) < 0 := hc1
    omega
  · have hc1 : ¬ ((((c : Int)) : Int) < 0) := hc1
    refine sP 2 (g1 := (4, [some (.ref 0), some (sI ((c : Int)))], [sI 4, sI ((c : Int))], h)) rfl ?_
    refine s_icmp (q := .ge) (a := (c : Int)) (b := 4) rfl ⟨_, rfl⟩ rfl (by unfold sR aMi aMa; omega) (by unfold sR aMi aMa; omega) (fun hc2 => ?_) (fun hc2 => ?_)
    · have hc2 : (4 : Int) ≤ ((c : Int)) := hc2
      omega
    · have hc2 : ¬ ((4 : Int) ≤ ((c : Int))) := hc2
      refine sP 1 (g1 := (6, [some (.ref 0), some (sI ((c : Int)))], [.ref 0], h)) rfl ?_
      refine s_get (a := 0) (j := 1) hh rfl ⟨_, rfl⟩ rfl rfl rfl (v := .ref 2) (hR_ok hh (by decide +kernel)) ?_
      refine sP 1 (g1 := (8, [some (.ref 0), some (sI ((c : Int)))], [sI ((c : Int)), .ref 2], h)) rfl ?_
      refine s_aald (a := 2) (n := 4) (j := (c : Int)) hh rfl rfl rfl (by decide) (by omega) (by omega) (by decide) (v := .ref (33 + 2 * c)) (by rw [Int.toNat_natCast]; exact hR_ok hh (tx_t hc)) ?_
      refine sP 1 (g1 := (11, [some (.ref 0), some (sI ((c : Int)))], [.ref (33 + 2 * c)], h)) rfl ?_
      exact s_ret rfl rfl
theorem fPutX {c : Nat} {i : Int} {v : Int32} (hh : aHp h) (hc : c < 4) (i0 : 0 ≤ i) (i1 : i < hI h (33 + 2 * c) 1) : nEv sc (d + 2) 24 [.ref 0, sI (c : Int), sI i, .int v] h (some (sI (hI h (34 + 2 * c) i.toNat + 1000)), hset h (34 + 2 * c) i.toNat (.int v.toInt8.toInt32.toInt8.toInt32)) := by
  have sz := hI_rg hh (tx_z hc)
  refine nEv_of (t := mMe24) rfl ?_
  show nRn sc (d + 1) (mMT mMe24) (mMC mMe24) (0, [some (.ref 0), some (sI ((c : Int))), some (sI i), some (.int v), none, none, none], [], h) _
  refine sP 2 (g1 := (2, [some (.ref 0), some (sI ((c : Int))), some (sI i), some (.int v), none, none, none], [sI ((c : Int)), .ref 0], h)) rfl ?_
  refine s_call (k := 21) (args := [.ref 0, sI ((c : Int))]) (st := []) (v := some (.ref (33 + 2 * c))) (h1 := h) rfl ⟨rfl, rfl⟩ rfl rfl rfl rfl (sRcv hh (a := 0) rfl rfl) rfl (fTextAt hh hc) ?_
  refine sP 2 (g1 := (5, [some (.ref 0), some (sI ((c : Int))), some (sI i), some (.int v), some (.ref (33 + 2 * c)), none, none], [.ref (33 + 2 * c)], h)) rfl ?_
  refine s_null rfl (Or.inr ⟨⟨_, rfl⟩, rfl⟩) ?_
  refine sP 1 (g1 := (9, [some (.ref 0), some (sI ((c : Int))), some (sI i), some (.int v), some (.ref (33 + 2 * c)), none, none], [.ref (33 + 2 * c)], h)) rfl ?_
  have rg1 := hI_rg hh (tx_z hc)
  refine s_get (a := 33 + 2 * c) (j := 1) hh rfl ⟨_, rfl⟩ (tx_a hc) rfl rfl (v := sI (hI h (33 + 2 * c) 1)) (hI_ok hh (tx_z hc)) ?_
  refine sP 1 (g1 := (11, [some (.ref 0), some (sI ((c : Int))), some (sI i), some (.int v), some (.ref (33 + 2 * c)), none, none], [sI i, sI (hI h (33 + 2 * c) 1)], h)) rfl ?_
  have ev2 := fWhy (sc := sc) (d := d) (h := h) (a := hI h (33 + 2 * c) 1) (b := i) (by omega) (by omega) (by omega) (by omega)
  rw [if_neg (by omega), if_neg (by omega)] at ev2
  refine s_call (k := 13) (args := [sI (hI h (33 + 2 * c) 1), sI i]) (st := []) (v := some (sI 0)) (h1 := h) rfl ⟨rfl, rfl⟩ rfl rfl rfl rfl rfl rfl ev2 ?_
  refine sP 2 (g1 := (14, [some (.ref 0), some (sI ((c : Int))), some (sI i), some (.int v), some (.ref (33 + 2 * c)), some (sI 0), none], [sI 0], h)) rfl ?_
  refine s_ifc (q := .eq) (a := 0) rfl ⟨_, rfl⟩ rfl (by unfold sR aMi aMa; omega) (fun hc3 => ?_) (fun hc3 => ?_)
  · have hc3 : (0 : Int) = 0 := hc3
    refine sP 1 (g1 := (20, [some (.ref 0), some (sI ((c : Int))), some (sI i), some (.int v), some (.ref (33 + 2 * c)), some (sI 0), none], [.ref (33 + 2 * c)], h)) rfl ?_
    refine s_get (a := 33 + 2 * c) (j := 0) hh rfl ⟨_, rfl⟩ (tx_a hc) rfl rfl (v := .ref (34 + 2 * c)) (hR_ok hh (tx_r hc)) ?_
    refine sP 1 (g1 := (22, [some (.ref 0), some (sI ((c : Int))), some (sI i), some (.int v), some (.ref (33 + 2 * c)), some (sI 0), none], [sI i, .ref (34 + 2 * c)], h)) rfl ?_
    have rg4 := hI_rg hh (tx_s hc (j := (i).toNat) (by omega))
    refine s_bald (a := 34 + 2 * c) (n := 60) (j := i) hh rfl rfl (tx_b hc) (by decide) (by omega) (by omega) (by decide) (v := sI (hI h (34 + 2 * c) (i).toNat)) (hI_ok hh (tx_s hc (j := (i).toNat) (by omega))) ?_
    refine sP 2 (g1 := (25, [some (.ref 0), some (sI ((c : Int))), some (sI i), some (.int v), some (.ref (33 + 2 * c)), some (sI 0), some (sI (hI h (34 + 2 * c) (i).toNat))], [.ref (33 + 2 * c)], h)) rfl ?_
    refine s_get (a := 33 + 2 * c) (j := 0) hh rfl ⟨_, rfl⟩ (tx_a hc) rfl rfl (v := .ref (34 + 2 * c)) (hR_ok hh (tx_r hc)) ?_
    refine sP 2 (g1 := (28, [some (.ref 0), some (sI ((c : Int))), some (sI i), some (.int v), some (.ref (33 + 2 * c)), some (sI 0), some (sI (hI h (34 + 2 * c) (i).toNat))], [.int v, sI i, .ref (34 + 2 * c)], h)) rfl ?_
    refine s_i2b rfl rfl ?_
    refine s_bast (a := 34 + 2 * c) (n := 60) (j := i) hh rfl rfl (tx_b hc) (by omega) (by omega) (by decide) ?_
    refine sP 2 (g1 := (32, [some (.ref 0), some (sI ((c : Int))), some (sI i), some (.int v), some (.ref (33 + 2 * c)), some (sI 0), some (sI (hI h (34 + 2 * c) (i).toNat))], [sI 1000, sI (hI h (34 + 2 * c) (i).toNat)], (hset h (34 + 2 * c) (i).toNat (.int (v.toInt8.toInt32).toInt8.toInt32)))) rfl ?_
    refine s_add (a := hI h (34 + 2 * c) (i).toNat) (b := 1000) rfl rfl ?_
    exact s_reti rfl rfl (Or.inl rfl) rfl rfl
  · have hc3 : ¬ ((0 : Int) = 0) := hc3
    omega
theorem fIn {a b e : Int} (a1 : -9223372036854775808 ≤ a) (a2 : a ≤ 9223372036854775807) (b1 : -9223372036854775808 ≤ b) (b2 : b ≤ 9223372036854775807) (e1 : -9223372036854775808 ≤ e) (e2 : e ≤ 9223372036854775807) : nEv sc (d + 1) 127 [sJ a, sJ b, sJ e] h (some (sI (if b ≤ a ∧ a ≤ e then 1 else 0)), h) := by
  refine nEv_of (t := mMe127) rfl ?_
  show nRn sc (d) (mMT mMe127) (mMC mMe127) (0, [some (sJ a), none, some (sJ b), none, some (sJ e), none], [], h) _
  refine sP 2 (g1 := (2, [some (sJ a), none, some (sJ b), none, some (sJ e), none], [sJ b, sJ a], h)) rfl ?_
  refine s_lif (q := .lt) (a := a) (b := b) rfl rfl rfl ⟨_, rfl⟩ rfl (by unfold sRJ; omega) (by unfold sRJ; omega) (fun hc1 => ?_) (fun hc1 => ?_)
  · have hc1 : (a : Int) < b := hc1
    refine sP 1 (g1 := (11, [some (sJ a), none, some (sJ b), none, some (sJ e), none], [sI 0], h)) rfl ?_
    exact s_reti rfl rfl (Or.inr ⟨rfl, by omega⟩) (by split <;> omega) rfl
  · have hc1 : ¬ ((a : Int) < b) := hc1
    refine sP 2 (g1 := (6, [some (sJ a), none, some (sJ b), none, some (sJ e), none], [sJ e, sJ a], h)) rfl ?_
    refine s_lif (q := .gt) (a := a) (b := e) rfl rfl rfl ⟨_, rfl⟩ rfl (by unfold sRJ; omega) (by unfold sRJ; omega) (fun hc2 => ?_) (fun hc2 => ?_)
    · have hc2 : (e : Int) < a := hc2
      refine sP 1 (g1 := (11, [some (sJ a), none, some (sJ b), none, some (sJ e), none], [sI 0], h)) rfl ?_
      exact s_reti rfl rfl (Or.inr ⟨rfl, by omega⟩) (by split <;> omega) rfl
    · have hc2 : ¬ ((e : Int) < a) := hc2
      refine sP 2 (g1 := (11, [some (sJ a), none, some (sJ b), none, some (sJ e), none], [sI 1], h)) rfl ?_
      exact s_reti rfl rfl (Or.inr ⟨rfl, by omega⟩) (by split <;> omega) rfl
theorem fIsText1 {c : Nat} (hc : c < 4) : nEv sc (d + 2) 136 [sI (c : Int)] h (some (sI 1), h) := by
  refine nEv_of (t := mMe136) rfl ?_
  show nRn sc (d + 1) (mMT mMe136) (mMC mMe136) (0, [some (sI ((c : Int)))], [], h) _
  refine sP 1 (g1 := (1, [some (sI ((c : Int)))], [sI ((c : Int))], h)) rfl ?_
  refine s_i2l (a := (c : Int)) rfl rfl (by unfold sR aMi aMa; omega) ?_
  refine sP 2 (g1 := (4, [some (sI ((c : Int)))], [sJ 3, sJ 0, sJ ((c : Int))], h)) rfl ?_
  have ev1 := fIn (sc := sc) (d := d) (h := h) (a := (c : Int)) (b := 0) (e := 3) (by omega) (by omega) (by omega) (by omega) (by omega) (by omega)
  rw [if_pos (by omega)] at ev1
  refine s_call (k := 127) (args := [sJ ((c : Int)), sJ 0, sJ 3]) (st := []) (v := some (sI 1)) (h1 := h) rfl ⟨rfl, rfl⟩ rfl rfl rfl rfl rfl rfl ev1 ?_
  exact s_reti rfl rfl (Or.inr ⟨rfl, by omega⟩) rfl rfl
theorem fPutM {c : Nat} {i : Int} {v : Int32} (hh : aHp h) (hc : c < 4) (i0 : 0 ≤ i) (i1 : i < hI h 56 c) : nEv sc (d + 3) 137 [.ref 53, sI (c : Int), sI i, .int v] h (some (sI (hI h 57 (60 * (c : Int) + i).toNat + 1000)), hset h 57 (60 * (c : Int) + i).toNat (.int v.toInt8.toInt32)) := by
  have sz := hI_rg hh (tx_n hc)
  refine nEv_of (t := mMe137) rfl ?_
  show nRn sc (d + 2) (mMT mMe137) (mMC mMe137) (0, [some (.ref 53), some (sI ((c : Int))), some (sI i), some (.int v), none], [], h) _
  refine sP 1 (g1 := (1, [some (.ref 53), some (sI ((c : Int))), some (sI i), some (.int v), none], [sI ((c : Int))], h)) rfl ?_
  refine s_call (k := 136) (args := [sI ((c : Int))]) (st := []) (v := some (sI 1)) (h1 := h) rfl ⟨rfl, rfl⟩ rfl rfl rfl rfl rfl rfl (fIsText1 hc) ?_
  refine s_ifc (q := .ne) (a := 1) rfl ⟨_, rfl⟩ rfl (by unfold sR aMi aMa; omega) (fun hc1 => ?_) (fun hc1 => ?_)
  · have hc1 : (1 : Int) ≠ 0 := hc1
    refine sP 1 (g1 := (6, [some (.ref 53), some (sI ((c : Int))), some (sI i), some (.int v), none], [.ref 53], h)) rfl ?_
    refine s_get (a := 53) (j := 2) hh rfl ⟨_, rfl⟩ rfl rfl rfl (v := .ref 56) (hR_ok hh (by decide +kernel)) ?_
    refine sP 1 (g1 := (8, [some (.ref 53), some (sI ((c : Int))), some (sI i), some (.int v), none], [sI ((c : Int)), .ref 56], h)) rfl ?_
    have rg2 := hI_rg hh (tx_n hc)
    refine s_iald (a := 56) (n := 4) (j := (c : Int)) hh rfl rfl rfl (by omega) (by omega) (by decide) (v := sI (hI h 56 c)) (by rw [Int.toNat_natCast]; exact hI_ok hh (tx_n hc)) ?_
    refine s_ifc (q := .ge) (a := hI h 56 c) rfl ⟨_, rfl⟩ rfl (by unfold sR aMi aMa; omega) (fun hc3 => ?_) (fun hc3 => ?_)
    · have hc3 : (0 : Int) ≤ (hI h 56 c) := hc3
      refine sP 1 (g1 := (15, [some (.ref 53), some (sI ((c : Int))), some (sI i), some (.int v), none], [sI i], h)) rfl ?_
      refine s_i2l (a := i) rfl rfl (by unfold sR aMi aMa; omega) ?_
      refine sP 2 (g1 := (18, [some (.ref 53), some (sI ((c : Int))), some (sI i), some (.int v), none], [.ref 53, sJ 0, sJ i], h)) rfl ?_
      refine s_get (a := 53) (j := 2) hh rfl ⟨_, rfl⟩ rfl rfl rfl (v := .ref 56) (hR_ok hh (by decide +kernel)) ?_
      refine sP 1 (g1 := (20, [some (.ref 53), some (sI ((c : Int))), some (sI i), some (.int v), none], [sI ((c : Int)), .ref 56, sJ 0, sJ i], h)) rfl ?_
      have rg4 := hI_rg hh (tx_n hc)
      refine s_iald (a := 56) (n := 4) (j := (c : Int)) hh rfl rfl rfl (by omega) (by omega) (by decide) (v := sI (hI h 56 c)) (by rw [Int.toNat_natCast]; exact hI_ok hh (tx_n hc)) ?_
      refine sP 1 (g1 := (22, [some (.ref 53), some (sI ((c : Int))), some (sI i), some (.int v), none], [sI 1, sI (hI h 56 c), sJ 0, sJ i], h)) rfl ?_
      refine s_sub (a := hI h 56 c) (b := 1) rfl rfl ?_
      refine s_i2l (a := (hI h 56 c) - 1) rfl rfl (by unfold sR aMi aMa; omega) ?_
      have ev5 := fIn (sc := sc) (d := d + 1) (h := h) (a := i) (b := 0) (e := (hI h 56 c) - 1) (by omega) (by omega) (by omega) (by omega) (by omega) (by omega)
      rw [if_pos (by omega)] at ev5
      refine s_call (k := 127) (args := [sJ i, sJ 0, sJ ((hI h 56 c) - 1)]) (st := []) (v := some (sI 1)) (h1 := h) rfl ⟨rfl, rfl⟩ rfl rfl rfl rfl rfl rfl ev5 ?_
      refine s_ifc (q := .ne) (a := 1) rfl ⟨_, rfl⟩ rfl (by unfold sR aMi aMa; omega) (fun hc6 => ?_) (fun hc6 => ?_)
      · have hc6 : (1 : Int) ≠ 0 := hc6
        refine sP 1 (g1 := (31, [some (.ref 53), some (sI ((c : Int))), some (sI i), some (.int v), none], [.ref 53], h)) rfl ?_
        refine s_get (a := 53) (j := 3) hh rfl ⟨_, rfl⟩ rfl rfl rfl (v := .ref 57) (hR_ok hh (by decide +kernel)) ?_
        refine sP 2 (g1 := (34, [some (.ref 53), some (sI ((c : Int))), some (sI i), some (.int v), none], [sI ((c : Int)), sI 60, .ref 57], h)) rfl ?_
        refine s_mul (a := 60) (b := (c : Int)) rfl rfl ?_
        refine sP 1 (g1 := (36, [some (.ref 53), some (sI ((c : Int))), some (sI i), some (.int v), none], [sI i, sI (60 * ((c : Int))), .ref 57], h)) rfl ?_
        refine s_add (a := 60 * ((c : Int))) (b := i) rfl rfl ?_
        have rg7 := hI_rg hh (tx_m (j := ((60 * ((c : Int))) + i).toNat) (by omega))
        refine s_iald (a := 57) (n := 240) (j := (60 * ((c : Int))) + i) hh rfl rfl rfl (by omega) (by omega) (by decide) (v := sI (hI h 57 ((60 * ((c : Int))) + i).toNat)) (hI_ok hh (tx_m (j := ((60 * ((c : Int))) + i).toNat) (by omega))) ?_
        refine sP 2 (g1 := (40, [some (.ref 53), some (sI ((c : Int))), some (sI i), some (.int v), some (sI (hI h 57 ((60 * ((c : Int))) + i).toNat))], [.ref 53], h)) rfl ?_
        refine s_get (a := 53) (j := 3) hh rfl ⟨_, rfl⟩ rfl rfl rfl (v := .ref 57) (hR_ok hh (by decide +kernel)) ?_
        refine sP 2 (g1 := (43, [some (.ref 53), some (sI ((c : Int))), some (sI i), some (.int v), some (sI (hI h 57 ((60 * ((c : Int))) + i).toNat))], [sI ((c : Int)), sI 60, .ref 57], h)) rfl ?_
        refine s_mul (a := 60) (b := (c : Int)) rfl rfl ?_
        refine sP 1 (g1 := (45, [some (.ref 53), some (sI ((c : Int))), some (sI i), some (.int v), some (sI (hI h 57 ((60 * ((c : Int))) + i).toNat))], [sI i, sI (60 * ((c : Int))), .ref 57], h)) rfl ?_
        refine s_add (a := 60 * ((c : Int))) (b := i) rfl rfl ?_
        refine sP 1 (g1 := (47, [some (.ref 53), some (sI ((c : Int))), some (sI i), some (.int v), some (sI (hI h 57 ((60 * ((c : Int))) + i).toNat))], [.int v, sI ((60 * ((c : Int))) + i), .ref 57], h)) rfl ?_
        refine s_i2b rfl rfl ?_
        refine s_iast (a := 57) (n := 240) (j := (60 * ((c : Int))) + i) hh rfl rfl rfl (by omega) (by omega) (by decide) ?_
        refine sP 2 (g1 := (51, [some (.ref 53), some (sI ((c : Int))), some (sI i), some (.int v), some (sI (hI h 57 ((60 * ((c : Int))) + i).toNat))], [sI 1000, sI (hI h 57 ((60 * ((c : Int))) + i).toNat)], (hset h 57 ((60 * ((c : Int))) + i).toNat (.int (v.toInt8.toInt32))))) rfl ?_
        refine s_add (a := hI h 57 ((60 * ((c : Int))) + i).toNat) (b := 1000) rfl rfl ?_
        exact s_reti rfl rfl (Or.inl rfl) rfl rfl
      · have hc6 : ¬ ((1 : Int) ≠ 0) := hc6
        omega
    · have hc3 : ¬ ((0 : Int) ≤ (hI h 56 c)) := hc3
      omega
  · have hc1 : ¬ ((1 : Int) ≠ 0) := hc1
    omega
theorem tx_in {c j : Nat} (hc : c < 4) (hj : j < 60) : zIn (34 + 2 * c) j (-128) 127 = true := (show ∀ c, c < 4 → ∀ j, j < 60 → zIn (34 + 2 * c) j (-128) 127 = true by decide +kernel) c hc j hj
theorem tx_im {j : Nat} (hj : j < 240) : zIn 57 j (-128) 127 = true := (show ∀ j, j < 240 → zIn 57 j (-128) 127 = true by decide +kernel) j hj
theorem tx_iz {c : Nat} (hc : c < 4) : zIn (33 + 2 * c) 1 (-1) 60 = true := (show ∀ c, c < 4 → zIn (33 + 2 * c) 1 (-1) 60 = true by decide +kernel) c hc
theorem tx_iy {c : Nat} (hc : c < 4) : zIn 56 c (-1) 60 = true := (show ∀ c, c < 4 → zIn 56 c (-1) 60 = true by decide +kernel) c hc
theorem tx_32 : (Int32.ofInt 32).toInt8.toInt32 = Int32.ofInt 32 := by decide
/-- Arrays.fill, from its loop's head -/
theorem fFillL {c : Nat} (hc : c < 4) : ∀ (n k : Nat) (h : mH), k + n = 60 → aHp h → ∃ h1, nRn sc d (mMT mMe23) (mMC mMe23) (5, [some (.ref (34 + 2 * c)), some (sI 32), some (sI (k : Int)), some (sI ((60 : Nat) : Int))], [], h) (none, h1) ∧ aHp h1 ∧ ∀ b m, aSlot h1 b m = if b = 34 + 2 * c ∧ k ≤ m ∧ m < 60 then some (sI 32) else aSlot h b m := by
  intro n
  induction n with
  | zero =>
    intro k h hk hh
    refine ⟨h, ?_, hh, fun b m => by rw [if_neg (by omega)]⟩
    refine sP 2 (g1 := (7, [some (.ref (34 + 2 * c)), some (sI 32), some (sI ((k : Int))), some (sI (((60 : Nat) : Int)))], [sI (((60 : Nat) : Int)), sI ((k : Int))], h)) rfl ?_
    refine s_icmp (q := .ge) (a := (k : Int)) (b := ((60 : Nat) : Int)) rfl ⟨_, rfl⟩ rfl (by unfold sR aMi aMa; omega) (by unfold sR aMi aMa; omega) (fun hc1 => ?_) (fun hc1 => ?_)
    · have hc1 : ((((60 : Nat) : Int)) : Int) ≤ ((k : Int)) := hc1
      exact s_ret rfl rfl
    · have hc1 : ¬ (((((60 : Nat) : Int)) : Int) ≤ ((k : Int))) := hc1
      omega
  | succ n ih =>
    intro k h hk hh
    have hk6 : k < 60 := by omega
    have hh1 : aHp (hset h (34 + 2 * c) (k : Int).toNat (.int (Int32.ofInt 32).toInt8.toInt32)) := by
      rw [tx_32]
      exact hset_in hh (tx_in hc (by omega)) (by decide) (by decide)
    obtain ⟨h2, r1, r2, r3⟩ := ih (k + 1) _ (by omega) hh1
    refine ⟨h2, ?_, r2, fun b m => ?_⟩
    rotate_left
    · rw [r3 b m, hset_slot hh (tx_b hc) (show (k : Int).toNat < 60 by omega), tx_32]
      by_cases e1 : b = 34 + 2 * c ∧ k ≤ m ∧ m < 60
      · rw [if_pos e1]
        by_cases e2 : m = k
        · rw [if_neg (by omega), if_pos ⟨e1.1, by omega⟩]
        · rw [if_pos (by omega)]
      · rw [if_neg e1, if_neg (by omega), if_neg (by omega)]
    refine sP 2 (g1 := (7, [some (.ref (34 + 2 * c)), some (sI 32), some (sI ((k : Int))), some (sI (((60 : Nat) : Int)))], [sI (((60 : Nat) : Int)), sI ((k : Int))], h)) rfl ?_
    refine s_icmp (q := .ge) (a := (k : Int)) (b := ((60 : Nat) : Int)) rfl ⟨_, rfl⟩ rfl (by unfold sR aMi aMa; omega) (by unfold sR aMi aMa; omega) (fun hc1 => ?_) (fun hc1 => ?_)
    · have hc1 : ((((60 : Nat) : Int)) : Int) ≤ ((k : Int)) := hc1
      omega
    · have hc1 : ¬ (((((60 : Nat) : Int)) : Int) ≤ ((k : Int))) := hc1
      refine sP 3 (g1 := (11, [some (.ref (34 + 2 * c)), some (sI 32), some (sI ((k : Int))), some (sI (((60 : Nat) : Int)))], [sI 32, sI ((k : Int)), .ref (34 + 2 * c)], h)) rfl ?_
      refine s_bast (a := 34 + 2 * c) (n := 60) (j := (k : Int)) hh rfl rfl (tx_b hc) (by omega) (by omega) (by decide) ?_
      refine s_inc (a := (k : Int)) (n := 1) (k := 2) rfl rfl rfl ?_
      refine sP 1 (g1 := (5, [some (.ref (34 + 2 * c)), some (sI 32), some (sI (((k : Int)) + 1)), some (sI (((60 : Nat) : Int)))], [], (hset h (34 + 2 * c) ((k : Int)).toNat (.int (Int32.ofInt 32).toInt8.toInt32)))) rfl ?_
      rw [show ((k : Int) + 1) = ((k + 1 : Nat) : Int) by omega]
      exact r1
theorem fFill {c : Nat} (hc : c < 4) (hh : aHp h) : ∃ h1, nEv sc (d + 1) 23 [.ref (34 + 2 * c), sI 32] h (none, h1) ∧ aHp h1 ∧ ∀ b m, aSlot h1 b m = if b = 34 + 2 * c ∧ m < 60 then some (sI 32) else aSlot h b m := by
  obtain ⟨h1, r1, r2, r3⟩ := fFillL (sc := sc) (d := d) hc 60 0 h (by omega) hh
  refine ⟨h1, nEv_of (t := mMe23) rfl ?_, r2, fun b m => ?_⟩
  rotate_left
  · rw [r3 b m]
    by_cases e : b = 34 + 2 * c ∧ m < 60
    · rw [if_pos e, if_pos (by omega)]
    · rw [if_neg e, if_neg (by omega)]
  show nRn sc d (mMT mMe23) (mMC mMe23) (0, [some (.ref (34 + 2 * c)), some (sI 32), none, none], [], h) _
  refine sP 3 (g1 := (3, [some (.ref (34 + 2 * c)), some (sI 32), some (sI 0), none], [.ref (34 + 2 * c)], h)) rfl ?_
  refine s_len (a := 34 + 2 * c) (n := 60) hh rfl rfl (tx_b hc) (by decide) ?_
  refine sP 1 (g1 := (5, [some (.ref (34 + 2 * c)), some (sI 32), some (sI 0), some (sI ((60 : Nat)))], [], h)) rfl ?_
  exact r1
theorem fBegin {c : Nat} {n : Int} (hc : c < 4) (hh : aHp h) (n0 : 0 ≤ n) (n1 : n ≤ 60) : ∃ h1, nEv sc (d + 2) 22 [.ref (33 + 2 * c), sI n] h (none, h1) ∧ aHp h1 ∧ ∀ b m, aSlot h1 b m = if b = 34 + 2 * c ∧ m < 60 then some (sI 32) else if b = 33 + 2 * c ∧ m = 1 then some (sI n) else aSlot h b m := by
  have hh1 : aHp (hset h (33 + 2 * c) 1 (sI n)) := hset_in hh (tx_iz hc) (by rw [sR_i (by unfold sR aMi aMa; omega)]; omega) (by rw [sR_i (by unfold sR aMi aMa; omega)]; omega)
  obtain ⟨h1, r1, r2, r3⟩ := fFill (sc := sc) (d := d) hc hh1
  refine ⟨h1, nEv_of (t := mMe22) rfl ?_, r2, fun b m => ?_⟩
  rotate_left
  · rw [r3 b m, hset_slot hh (tx_a hc) (by omega)]
  show nRn sc (d + 1) (mMT mMe22) (mMC mMe22) (0, [some (.ref (33 + 2 * c)), some (sI n)], [], h) _
  refine sP 2 (g1 := (2, [some (.ref (33 + 2 * c)), some (sI n)], [sI n, .ref (33 + 2 * c)], h)) rfl ?_
  refine s_put (a := 33 + 2 * c) (j := 1) hh rfl ⟨_, rfl⟩ (tx_a hc) rfl rfl (by omega) rfl ?_
  refine sP 1 (g1 := (4, [some (.ref (33 + 2 * c)), some (sI n)], [.ref (33 + 2 * c)], (hset h (33 + 2 * c) 1 (sI n)))) rfl ?_
  refine s_get (a := 33 + 2 * c) (j := 0) hh1 rfl ⟨_, rfl⟩ (tx_a hc) rfl rfl (v := .ref (34 + 2 * c)) (hR_ok hh1 (tx_r hc)) ?_
  refine sP 1 (g1 := (6, [some (.ref (33 + 2 * c)), some (sI n)], [sI 32, .ref (34 + 2 * c)], (hset h (33 + 2 * c) 1 (sI n)))) rfl ?_
  refine s_call (k := 23) (args := [.ref (34 + 2 * c), sI 32]) (st := []) (v := none) (h1 := h1) rfl ⟨rfl, rfl⟩ rfl rfl rfl rfl rfl rfl r1 ?_
  exact s_ret rfl rfl
theorem fTextX {c : Nat} {n : Int} (hc : c < 4) (hh : aHp h) (n0 : 0 ≤ n) (n1 : n ≤ 60) : ∃ h1, nEv sc (d + 3) 20 [.ref 0, sI (c : Int), sI n] h (some (sI n), h1) ∧ aHp h1 ∧ ∀ b m, aSlot h1 b m = if b = 34 + 2 * c ∧ m < 60 then some (sI 32) else if b = 33 + 2 * c ∧ m = 1 then some (sI n) else aSlot h b m := by
  obtain ⟨h1, r1, r2, r3⟩ := fBegin (sc := sc) (d := d) hc hh n0 n1
  refine ⟨h1, nEv_of (t := mMe20) rfl ?_, r2, r3⟩
  show nRn sc (d + 2) (mMT mMe20) (mMC mMe20) (0, [some (.ref 0), some (sI (c : Int)), some (sI n), none], [], h) _
  refine sP 2 (g1 := (2, [some (.ref 0), some (sI ((c : Int))), some (sI n), none], [sI ((c : Int)), .ref 0], h)) rfl ?_
  refine s_call (k := 21) (args := [.ref 0, sI ((c : Int))]) (st := []) (v := some (.ref (33 + 2 * c))) (h1 := h) rfl ⟨rfl, rfl⟩ rfl rfl rfl rfl (sRcv hh (a := 0) rfl rfl) rfl (fTextAt hh hc) ?_
  refine sP 2 (g1 := (5, [some (.ref 0), some (sI ((c : Int))), some (sI n), some (.ref (33 + 2 * c))], [.ref (33 + 2 * c)], h)) rfl ?_
  refine s_null rfl (Or.inl ⟨⟨_, rfl⟩, rfl⟩) ?_
  refine sP 2 (g1 := (8, [some (.ref 0), some (sI ((c : Int))), some (sI n), some (.ref (33 + 2 * c))], [sI 60, sI n], h)) rfl ?_
  refine s_icmp (q := .le) (a := n) (b := 60) rfl ⟨_, rfl⟩ rfl (by unfold sR aMi aMa; omega) (by unfold sR aMi aMa; omega) (fun hc1 => ?_) (fun hc1 => ?_)
  · have hc1 : (n : Int) ≤ 60 := hc1
    refine sP 1 (g1 := (12, [some (.ref 0), some (sI ((c : Int))), some (sI n), some (.ref (33 + 2 * c))], [sI n], h)) rfl ?_
    refine s_ifc (q := .ge) (a := n) rfl ⟨_, rfl⟩ rfl (by unfold sR aMi aMa; omega) (fun hc2 => ?_) (fun hc2 => ?_)
    · have hc2 : (0 : Int) ≤ n := hc2
      refine sP 2 (g1 := (19, [some (.ref 0), some (sI ((c : Int))), some (sI n), some (.ref (33 + 2 * c))], [sI n, .ref (33 + 2 * c)], h)) rfl ?_
      refine s_call (k := 22) (args := [.ref (33 + 2 * c), sI n]) (st := []) (v := none) (h1 := h1) rfl ⟨rfl, rfl⟩ rfl rfl rfl rfl (sRcv hh (tx_a hc) rfl) rfl r1 ?_
      refine sP 1 (g1 := (21, [some (.ref 0), some (sI ((c : Int))), some (sI n), some (.ref (33 + 2 * c))], [sI n], h1)) rfl ?_
      exact s_reti rfl rfl (Or.inl rfl) rfl rfl
    · have hc2 : ¬ ((0 : Int) ≤ n) := hc2
      omega
  · have hc1 : ¬ ((n : Int) ≤ 60) := hc1
    omega
theorem fTextML {c : Nat} {n : Int} (hc : c < 4) (n0 : 0 ≤ n) (n1 : n ≤ 60) : ∀ (j k : Nat) (h : mH), k + j = 60 → aHp h → ∃ h1, nRn sc d (mMT mMe135) (mMC mMe135) (21, [some (.ref 53), some (sI (c : Int)), some (sI n), some (sI (k : Int))], [], h) (some (sI n), h1) ∧ aHp h1 ∧ ∀ b m, aSlot h1 b m = if b = 57 ∧ 60 * c + k ≤ m ∧ m < 60 * c + 60 then some (sI 32) else aSlot h b m := by
  intro j
  induction j with
  | zero =>
    intro k h hk hh
    refine ⟨h, ?_, hh, fun b m => by rw [if_neg (by omega)]⟩
    refine sP 2 (g1 := (23, [some (.ref 53), some (sI ((c : Int))), some (sI n), some (sI ((k : Int)))], [sI 60, sI ((k : Int))], h)) rfl ?_
    refine s_icmp (q := .ge) (a := (k : Int)) (b := 60) rfl ⟨_, rfl⟩ rfl (by unfold sR aMi aMa; omega) (by unfold sR aMi aMa; omega) (fun hc1 => ?_) (fun hc1 => ?_)
    · have hc1 : (60 : Int) ≤ ((k : Int)) := hc1
      refine sP 1 (g1 := (36, [some (.ref 53), some (sI ((c : Int))), some (sI n), some (sI ((k : Int)))], [sI n], h)) rfl ?_
      exact s_reti rfl rfl (Or.inl rfl) rfl rfl
    · have hc1 : ¬ ((60 : Int) ≤ ((k : Int))) := hc1
      omega
  | succ j ih =>
    intro k h hk hh
    have hk6 : k < 60 := by omega
    have hh1 : aHp (hset h 57 (60 * (c : Int) + (k : Int)).toNat (sI 32)) := hset_in hh (tx_im (by omega)) (by decide) (by decide)
    obtain ⟨h2, r1, r2, r3⟩ := ih (k + 1) _ (by omega) hh1
    refine ⟨h2, ?_, r2, fun b m => ?_⟩
    rotate_left
    · rw [r3 b m, hset_slot (k := 50) (n := 240) hh rfl (by omega)]
      by_cases e1 : b = 57 ∧ 60 * c + k ≤ m ∧ m < 60 * c + 60
      · rw [if_pos e1]
        by_cases e2 : m = 60 * c + k
        · rw [if_neg (by omega), if_pos ⟨e1.1, by omega⟩]
        · rw [if_pos (by omega)]
      · rw [if_neg e1, if_neg (by omega), if_neg (by omega)]
    refine sP 2 (g1 := (23, [some (.ref 53), some (sI ((c : Int))), some (sI n), some (sI ((k : Int)))], [sI 60, sI ((k : Int))], h)) rfl ?_
    refine s_icmp (q := .ge) (a := (k : Int)) (b := 60) rfl ⟨_, rfl⟩ rfl (by unfold sR aMi aMa; omega) (by unfold sR aMi aMa; omega) (fun hc1 => ?_) (fun hc1 => ?_)
    · have hc1 : (60 : Int) ≤ ((k : Int)) := hc1
      omega
    · have hc1 : ¬ ((60 : Int) ≤ ((k : Int))) := hc1
      refine sP 1 (g1 := (25, [some (.ref 53), some (sI ((c : Int))), some (sI n), some (sI ((k : Int)))], [.ref 53], h)) rfl ?_
      refine s_get (a := 53) (j := 3) hh rfl ⟨_, rfl⟩ rfl rfl rfl (v := .ref 57) (hR_ok hh (by decide +kernel)) ?_
      refine sP 2 (g1 := (28, [some (.ref 53), some (sI ((c : Int))), some (sI n), some (sI ((k : Int)))], [sI ((c : Int)), sI 60, .ref 57], h)) rfl ?_
      refine s_mul (a := 60) (b := (c : Int)) rfl rfl ?_
      refine sP 1 (g1 := (30, [some (.ref 53), some (sI ((c : Int))), some (sI n), some (sI ((k : Int)))], [sI ((k : Int)), sI (60 * ((c : Int))), .ref 57], h)) rfl ?_
      refine s_add (a := 60 * ((c : Int))) (b := (k : Int)) rfl rfl ?_
      refine sP 1 (g1 := (32, [some (.ref 53), some (sI ((c : Int))), some (sI n), some (sI ((k : Int)))], [sI 32, sI ((60 * ((c : Int))) + ((k : Int))), .ref 57], h)) rfl ?_
      refine s_iast (a := 57) (n := 240) (j := (60 * ((c : Int))) + ((k : Int))) hh rfl rfl rfl (by omega) (by omega) (by decide) ?_
      refine s_inc (a := (k : Int)) (n := 1) (k := 3) rfl rfl rfl ?_
      refine sP 1 (g1 := (21, [some (.ref 53), some (sI ((c : Int))), some (sI n), some (sI (((k : Int)) + 1))], [], (hset h 57 ((60 * ((c : Int))) + ((k : Int))).toNat (sI 32)))) rfl ?_
      rw [show ((k : Int) + 1) = ((k + 1 : Nat) : Int) by omega]
      exact r1
theorem fTextM {c : Nat} {n : Int} (hc : c < 4) (hh : aHp h) (n0 : 0 ≤ n) (n1 : n ≤ 60) : ∃ h1, nEv sc (d + 3) 135 [.ref 53, sI (c : Int), sI n] h (some (sI n), h1) ∧ aHp h1 ∧ ∀ b m, aSlot h1 b m = if b = 57 ∧ 60 * c ≤ m ∧ m < 60 * c + 60 then some (sI 32) else if b = 56 ∧ m = c then some (sI n) else aSlot h b m := by
  have hh1 : aHp (hset h 56 (c : Int).toNat (sI n)) := by
    rw [Int.toNat_natCast]
    exact hset_in hh (tx_iy hc) (by rw [sR_i (by unfold sR aMi aMa; omega)]; omega) (by rw [sR_i (by unfold sR aMi aMa; omega)]; omega)
  obtain ⟨h1, r1, r2, r3⟩ := fTextML (sc := sc) (d := d + 2) hc n0 n1 60 0 _ (by omega) hh1
  refine ⟨h1, nEv_of (t := mMe135) rfl ?_, r2, fun b m => ?_⟩
  rotate_left
  · rw [r3 b m, hset_slot (k := 50) (n := 4) hh rfl (by omega), Int.toNat_natCast, Nat.add_zero]
  show nRn sc (d + 2) (mMT mMe135) (mMC mMe135) (0, [some (.ref 53), some (sI (c : Int)), some (sI n), none], [], h) _
  refine sP 1 (g1 := (1, [some (.ref 53), some (sI ((c : Int))), some (sI n), none], [sI ((c : Int))], h)) rfl ?_
  refine s_call (k := 136) (args := [sI ((c : Int))]) (st := []) (v := some (sI 1)) (h1 := h) rfl ⟨rfl, rfl⟩ rfl rfl rfl rfl rfl rfl (fIsText1 hc) ?_
  refine s_ifc (q := .eq) (a := 1) rfl ⟨_, rfl⟩ rfl (by unfold sR aMi aMa; omega) (fun hc1 => ?_) (fun hc1 => ?_)
  · have hc1 : (1 : Int) = 0 := hc1
    omega
  · have hc1 : ¬ ((1 : Int) = 0) := hc1
    refine sP 2 (g1 := (5, [some (.ref 53), some (sI ((c : Int))), some (sI n), none], [sI 60, sI n], h)) rfl ?_
    refine s_icmp (q := .le) (a := n) (b := 60) rfl ⟨_, rfl⟩ rfl (by unfold sR aMi aMa; omega) (by unfold sR aMi aMa; omega) (fun hc2 => ?_) (fun hc2 => ?_)
    · have hc2 : (n : Int) ≤ 60 := hc2
      refine sP 1 (g1 := (9, [some (.ref 53), some (sI ((c : Int))), some (sI n), none], [sI n], h)) rfl ?_
      refine s_ifc (q := .ge) (a := n) rfl ⟨_, rfl⟩ rfl (by unfold sR aMi aMa; omega) (fun hc3 => ?_) (fun hc3 => ?_)
      · have hc3 : (0 : Int) ≤ n := hc3
        refine sP 1 (g1 := (15, [some (.ref 53), some (sI ((c : Int))), some (sI n), none], [.ref 53], h)) rfl ?_
        refine s_get (a := 53) (j := 2) hh rfl ⟨_, rfl⟩ rfl rfl rfl (v := .ref 56) (hR_ok hh (by decide +kernel)) ?_
        refine sP 2 (g1 := (18, [some (.ref 53), some (sI ((c : Int))), some (sI n), none], [sI n, sI ((c : Int)), .ref 56], h)) rfl ?_
        refine s_iast (a := 56) (n := 4) (j := (c : Int)) hh rfl rfl rfl (by omega) (by omega) (by decide) ?_
        refine sP 2 (g1 := (21, [some (.ref 53), some (sI ((c : Int))), some (sI n), some (sI 0)], [], (hset h 56 ((c : Int)).toNat (sI n)))) rfl ?_
        exact r1
      · have hc3 : ¬ ((0 : Int) ≤ n) := hc3
        omega
    · have hc2 : ¬ ((n : Int) ≤ 60) := hc2
      omega
end TXT
