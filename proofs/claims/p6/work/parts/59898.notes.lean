/-! sets; rows; notes -/
section NOTE
variable {sc : List Int32} {d : Nat} {h : mH}
theorem s_nil {rt : Option FieldType} {cs : List mE} {i : Nat} {L : mL} {st : List Value} {r : mR} {en : mE} {j : Nat} (he : cs[i]? = some en) (ho : (∃ z, en.2.1 = .ifnull z) ∧ mTgt en 0 = j ∨ (∃ z, en.2.1 = .ifnonnull z) ∧ i + 1 = j) (hr : nRn sc d rt cs (j, L, st, h) r) : nRn sc d rt cs (i, L, .null :: st, h) r := by
  rcases ho with ⟨⟨z, ho⟩, rfl⟩ | ⟨⟨z, ho⟩, rfl⟩
  · refine sStep he (by unfold nCl; rw [ho]; intro q; cases q) (fun call => mStep_B3 ?_) hr
    unfold mB3
    rw [ho]
  · refine sStep he (by unfold nCl; rw [ho]; intro q; cases q) (fun call => mStep_B3 ?_) hr
    unfold mB3
    rw [ho]
theorem b_shl7 : ∀ a, a < 11 → (Int32.ofInt 1 <<< (Int32.ofInt (a : Nat) &&& 31)) = Int32.ofInt ((2 ^ a : Nat) : Int) := by decide +kernel
theorem s_shl7 {rt : Option FieldType} {cs : List mE} {i : Nat} {L : mL} {st : List Value} {r : mR} {en : mE} {a : Nat} (he : cs[i]? = some en) (ho : en.2.1 = .ishl) (ha : a < 11) (hr : nRn sc d rt cs (i + 1, L, sI ((2 ^ a : Nat) : Int) :: st, h) r) : nRn sc d rt cs (i, L, sI (a : Int) :: sI 1 :: st, h) r := by
  refine s_bin he ?_ hr
  unfold mB1
  rw [ho]
  dsimp only
  rw [b_shl7 a ha]
theorem p2_le {n : Nat} (hn : n ≤ 6) : 1 ≤ 2 ^ n ∧ 2 ^ n ≤ 64 := (show ∀ n, n < 7 → 1 ≤ 2 ^ n ∧ 2 ^ n ≤ 64 by decide) n (by omega)
theorem fHasSet {n : Nat} {s : Int} (hh : aHp h) (hn : hI h 3 3 = n) (rs : sR s) : nEv sc (d + 1) 76 [.ref 3, sI s] h (some (sI (if 0 ≤ s ∧ s < ((2 ^ n : Nat) : Int) then 1 else 0)), h) := by
  have gp := hI_rg hh xw_p
  have p2 := p2_le (show n ≤ 6 by omega)
  unfold sR aMi aMa at rs
  generalize hq : 2 ^ n = q at *
  refine nEv_of (t := mMe76) rfl ?_
  show nRn sc (d) (mMT mMe76) (mMC mMe76) (0, [some (.ref 3), some (sI s)], [], h) _
  refine sP 1 (g1 := (1, [some (.ref 3), some (sI s)], [sI s], h)) rfl ?_
  refine s_ifc (q := .lt) (a := s) rfl ⟨_, rfl⟩ rfl (by unfold sR aMi aMa; omega) (fun hc1 => ?_) (fun hc1 => ?_)
  · have hc1 : (s : Int) < 0 := hc1
    refine sP 1 (g1 := (11, [some (.ref 3), some (sI s)], [sI 0], h)) rfl ?_
    exact s_reti rfl rfl (Or.inr ⟨rfl, by omega⟩) (by first | rw [if_pos (by omega)] | rw [if_neg (by omega)]) rfl
  · have hc1 : ¬ ((s : Int) < 0) := hc1
    refine sP 3 (g1 := (5, [some (.ref 3), some (sI s)], [.ref 3, sI 1, sI s], h)) rfl ?_
    refine s_get (a := 3) (j := 3) hh rfl ⟨_, rfl⟩ rfl rfl rfl (v := sI ((n : Int))) (by have q := hI_ok hh xw_p; rw [hn] at q; exact q) ?_
    refine s_shl7 (a := n) rfl rfl (by omega) ?_
    rw [hq]
    refine s_icmp (q := .ge) (a := s) (b := (q : Int)) rfl ⟨_, rfl⟩ rfl (by unfold sR aMi aMa; omega) (by unfold sR aMi aMa; omega) (fun hc2 => ?_) (fun hc2 => ?_)
    · have hc2 : (((q : Int)) : Int) ≤ s := hc2
      refine sP 1 (g1 := (11, [some (.ref 3), some (sI s)], [sI 0], h)) rfl ?_
      exact s_reti rfl rfl (Or.inr ⟨rfl, by omega⟩) (by first | rw [if_pos (by omega)] | rw [if_neg (by omega)]) rfl
    · have hc2 : ¬ ((((q : Int)) : Int) ≤ s) := hc2
      refine sP 2 (g1 := (11, [some (.ref 3), some (sI s)], [sI 1], h)) rfl ?_
      exact s_reti rfl rfl (Or.inr ⟨rfl, by omega⟩) (by first | rw [if_pos (by omega)] | rw [if_neg (by omega)]) rfl
theorem fIsSet {n : Nat} {s : Int} (hh : aHp h) (hn : hI h 58 0 = n) (rs : sR s) : nEv sc (d + 2) 181 [.ref 53, sI s] h (some (sI (if 0 ≤ s ∧ s < ((2 ^ n : Nat) : Int) then 1 else 0)), h) := by
  have gp := hI_rg hh nw_p
  have p2 := p2_le (show n ≤ 6 by omega)
  unfold sR aMi aMa at rs
  generalize hq : 2 ^ n = q at *
  have ev := fIn (sc := sc) (d := d) (h := h) (a := s) (b := 0) (e := (q : Int) - 1) (by omega) (by omega) (by omega) (by omega) (by omega) (by omega)
  have e0 : (if 0 ≤ s ∧ s ≤ (q : Int) - 1 then (1 : Int) else 0) = if 0 ≤ s ∧ s < (q : Int) then 1 else 0 := by
    by_cases c : 0 ≤ s ∧ s < (q : Int)
    · rw [if_pos c, if_pos (by omega)]
    · rw [if_neg c, if_neg (by omega)]
  rw [e0] at ev
  have e1 : (if 0 ≤ s ∧ s < (q : Int) then (1 : Int) else 0) = 0 ∨ (if 0 ≤ s ∧ s < (q : Int) then (1 : Int) else 0) = 1 := by
    split
    · exact Or.inr rfl
    · exact Or.inl rfl
  generalize (if 0 ≤ s ∧ s < (q : Int) then (1 : Int) else 0) = z at *
  refine nEv_of (t := mMe181) rfl ?_
  show nRn sc (d + 1) (mMT mMe181) (mMC mMe181) (0, [some (.ref 53), some (sI s)], [], h) _
  refine sP 1 (g1 := (1, [some (.ref 53), some (sI s)], [sI s], h)) rfl ?_
  refine s_i2l (a := s) rfl rfl (by unfold sR aMi aMa; omega) ?_
  refine sP 3 (g1 := (5, [some (.ref 53), some (sI s)], [.ref 53, sI 1, sJ 0, sJ s], h)) rfl ?_
  refine s_get (a := 53) (j := 4) hh rfl ⟨_, rfl⟩ rfl rfl rfl (v := .ref 58) (hR_ok hh (by decide +kernel)) ?_
  refine sP 1 (g1 := (7, [some (.ref 53), some (sI s)], [sI 0, .ref 58, sI 1, sJ 0, sJ s], h)) rfl ?_
  refine s_iald (a := 58) (n := 201) (j := 0) hh rfl rfl rfl (by omega) (by omega) (by decide) (v := sI ((n : Int))) (by have q := hI_ok hh nw_p; rw [hn] at q; exact q) ?_
  refine s_shl7 (a := n) rfl rfl (by omega) ?_
  rw [hq]
  refine sP 1 (g1 := (10, [some (.ref 53), some (sI s)], [sI 1, sI ((q : Int)), sJ 0, sJ s], h)) rfl ?_
  refine s_sub (a := (q : Int)) (b := 1) rfl rfl ?_
  refine s_i2l (a := ((q : Int)) - 1) rfl rfl (by unfold sR aMi aMa; omega) ?_
  refine s_call (k := 127) (args := [sJ s, sJ 0, sJ (((q : Int)) - 1)]) (st := []) (v := some (sI z)) (h1 := h) rfl ⟨rfl, rfl⟩ rfl rfl rfl rfl rfl rfl ev ?_
  exact s_reti rfl rfl (Or.inr ⟨rfl, by omega⟩) rfl rfl
theorem ra_t {r : Nat} (hr : r < 6) : sTg (21 + 2 * r) = some (5, 2) := (show ∀ r, r < 6 → sTg (21 + 2 * r) = some (5, 2) by decide +kernel) r hr
theorem ra_2 {r : Nat} (hr : r < 6) : sTg (22 + 2 * r) = some (50, 40) := (show ∀ r, r < 6 → sTg (22 + 2 * r) = some (50, 40) by decide +kernel) r hr
theorem ra_r {r : Nat} (hr : r < 6) : zRef (21 + 2 * r) 0 (22 + 2 * r) = true := (show ∀ r, r < 6 → zRef (21 + 2 * r) 0 (22 + 2 * r) = true by decide +kernel) r hr
theorem ra_q {r : Nat} (hr : r < 6) : zRef 1 r (21 + 2 * r) = true := (show ∀ r, r < 6 → zRef 1 r (21 + 2 * r) = true by decide +kernel) r hr
theorem ra_z {r : Nat} (hr : r < 6) : zCell (21 + 2 * r) 1 (-1) 40 = true := (show ∀ r, r < 6 → zCell (21 + 2 * r) 1 (-1) 40 = true by decide +kernel) r hr
theorem ra_c {r j : Nat} (hr : r < 6) (hj : j < 40) : zCell (22 + 2 * r) j (-2147483648) 2147483647 = true := (show ∀ r, r < 6 → ∀ j, j < 40 → zCell (22 + 2 * r) j (-2147483648) 2147483647 = true by decide +kernel) r hr j hj
theorem rm_z {r : Nat} (hr : r < 6) : zCell 54 r (-1) 40 = true := (show ∀ r, r < 6 → zCell 54 r (-1) 40 = true by decide +kernel) r hr
theorem rm_c {r j : Nat} (hr : r < 6) (hj : j < 40) : zCell 55 (40 * r + j) (-2147483648) 2147483647 = true := (show ∀ r, r < 6 → ∀ j, j < 40 → zCell 55 (40 * r + j) (-2147483648) 2147483647 = true by decide +kernel) r hr j hj
theorem fRowAt {r : Nat} (hh : aHp h) (hr : r < 6) : nEv sc (d + 1) 8 [.ref 0, sI (r : Int)] h (some (.ref (21 + 2 * r)), h) := by
  refine nEv_of (t := mMe8) rfl ?_
  show nRn sc (d) (mMT mMe8) (mMC mMe8) (0, [some (.ref 0), some (sI ((r : Int)))], [], h) _
  refine sP 1 (g1 := (1, [some (.ref 0), some (sI ((r : Int)))], [sI ((r : Int))], h)) rfl ?_
  refine s_ifc (q := .lt) (a := (r : Int)) rfl ⟨_, rfl⟩ rfl (by unfold sR aMi aMa; omega) (fun hc1 => ?_) (fun hc1 => ?_)
  · have hc1 : (((r : Int)) : Int) < 0 := hc1
    omega
  · have hc1 : ¬ ((((r : Int)) : Int) < 0) := hc1
    refine sP 2 (g1 := (4, [some (.ref 0), some (sI ((r : Int)))], [sI 6, sI ((r : Int))], h)) rfl ?_
    refine s_icmp (q := .ge) (a := (r : Int)) (b := 6) rfl ⟨_, rfl⟩ rfl (by unfold sR aMi aMa; omega) (by unfold sR aMi aMa; omega) (fun hc2 => ?_) (fun hc2 => ?_)
    · have hc2 : (6 : Int) ≤ ((r : Int)) := hc2
      omega
    · have hc2 : ¬ ((6 : Int) ≤ ((r : Int))) := hc2
      refine sP 1 (g1 := (6, [some (.ref 0), some (sI ((r : Int)))], [.ref 0], h)) rfl ?_
      refine s_get (a := 0) (j := 0) hh rfl ⟨_, rfl⟩ rfl rfl rfl (v := .ref 1) (hR_ok hh (by decide +kernel)) ?_
      refine sP 1 (g1 := (8, [some (.ref 0), some (sI ((r : Int)))], [sI ((r : Int)), .ref 1], h)) rfl ?_
      refine s_aald (a := 1) (n := 6) (j := (r : Int)) hh rfl rfl rfl (by decide) (by omega) (by omega) (by decide) (v := .ref (21 + 2 * r)) (by rw [Int.toNat_natCast]; exact hR_ok hh (ra_q hr)) ?_
      refine sP 1 (g1 := (11, [some (.ref 0), some (sI ((r : Int)))], [.ref (21 + 2 * r)], h)) rfl ?_
      exact s_ret rfl rfl
theorem fRowNo {r : Int} (rr : sR r) (hr : ¬ (0 ≤ r ∧ r < 6)) : nEv sc (d + 1) 8 [.ref 0, sI r] h (some .null, h) := by
  unfold sR aMi aMa at rr
  refine nEv_of (t := mMe8) rfl ?_
  show nRn sc (d) (mMT mMe8) (mMC mMe8) (0, [some (.ref 0), some (sI r)], [], h) _
  refine sP 1 (g1 := (1, [some (.ref 0), some (sI r)], [sI r], h)) rfl ?_
  refine s_ifc (q := .lt) (a := r) rfl ⟨_, rfl⟩ rfl (by unfold sR aMi aMa; omega) (fun hc1 => ?_) (fun hc1 => ?_)
  · have hc1 : (r : Int) < 0 := hc1
    refine sP 1 (g1 := (11, [some (.ref 0), some (sI r)], [.null], h)) rfl ?_
    exact s_ret rfl rfl
  · have hc1 : ¬ ((r : Int) < 0) := hc1
    refine sP 2 (g1 := (4, [some (.ref 0), some (sI r)], [sI 6, sI r], h)) rfl ?_
    refine s_icmp (q := .ge) (a := r) (b := 6) rfl ⟨_, rfl⟩ rfl (by unfold sR aMi aMa; omega) (by unfold sR aMi aMa; omega) (fun hc2 => ?_) (fun hc2 => ?_)
    · have hc2 : (6 : Int) ≤ r := hc2
      refine sP 1 (g1 := (11, [some (.ref 0), some (sI r)], [.null], h)) rfl ?_
      exact s_ret rfl rfl
    · have hc2 : ¬ ((6 : Int) ≤ r) := hc2
      omega
theorem fIsRow {r : Int} (rr : sR r) : nEv sc (d + 2) 126 [sI r] h (some (sI (if 0 ≤ r ∧ r < 6 then 1 else 0)), h) := by
  unfold sR aMi aMa at rr
  have ev := fIn (sc := sc) (d := d) (h := h) (a := r) (b := 0) (e := 5) (by omega) (by omega) (by omega) (by omega) (by omega) (by omega)
  have e0 : (if 0 ≤ r ∧ r ≤ 5 then (1 : Int) else 0) = if 0 ≤ r ∧ r < 6 then 1 else 0 := by
    by_cases c : 0 ≤ r ∧ r < 6
    · rw [if_pos c, if_pos (by omega)]
    · rw [if_neg c, if_neg (by omega)]
  rw [e0] at ev
  have e1 : (if 0 ≤ r ∧ r < 6 then (1 : Int) else 0) = 0 ∨ (if 0 ≤ r ∧ r < 6 then (1 : Int) else 0) = 1 := by
    split
    · exact Or.inr rfl
    · exact Or.inl rfl
  generalize (if 0 ≤ r ∧ r < 6 then (1 : Int) else 0) = z at *
  refine nEv_of (t := mMe126) rfl ?_
  show nRn sc (d + 1) (mMT mMe126) (mMC mMe126) (0, [some (sI r)], [], h) _
  refine sP 1 (g1 := (1, [some (sI r)], [sI r], h)) rfl ?_
  refine s_i2l (a := r) rfl rfl (by unfold sR aMi aMa; omega) ?_
  refine sP 2 (g1 := (4, [some (sI r)], [sJ 5, sJ 0, sJ r], h)) rfl ?_
  refine s_call (k := 127) (args := [sJ r, sJ 0, sJ 5]) (st := []) (v := some (sI z)) (h1 := h) rfl ⟨rfl, rfl⟩ rfl rfl rfl rfl rfl rfl ev ?_
  exact s_reti rfl rfl (Or.inr ⟨rfl, by omega⟩) rfl rfl
theorem fo_x : zIn 0 8 (-2147483648) 2147483647 = true := by decide +kernel
theorem fo_m : zIn 53 11 (-2147483648) 2147483647 = true := by decide +kernel
theorem ft_x {f : Nat} (hf : f < 6) : zIn 20 f (-2147483648) 2147483647 = true ∧ zCell 20 f (-2147483648) 2147483647 = true := (show ∀ f, f < 6 → zIn 20 f (-2147483648) 2147483647 = true ∧ zCell 20 f (-2147483648) 2147483647 = true by decide +kernel) f hf
theorem ft_m {f : Nat} (hf : f < 6) : zIn 62 f (-2147483648) 2147483647 = true ∧ zCell 62 f (-2147483648) 2147483647 = true := (show ∀ f, f < 6 → zIn 62 f (-2147483648) 2147483647 = true ∧ zCell 62 f (-2147483648) 2147483647 = true by decide +kernel) f hf
theorem hset_any {a j : Nat} {z : Int32} (hh : aHp h) (hz : zIn a j (-2147483648) 2147483647 = true) : aHp (hset h a j (.int z)) := hset_in hh hz (by have := aI_rg z; unfold aMi aMa at this; omega) (by have := aI_rg z; unfold aMi aMa at this; omega)
theorem fFoundX {f : Nat} (hh : aHp h) (hf : f < 6) : ∃ g, nEv sc (d + 1) 9 [.ref 0, sI (f : Int)] h (some (sI (-3)), g) ∧ aHp g ∧ ∀ p m, aSlot g p m = if p = 20 ∧ m = f then some (sI (hI h 20 f + 1)) else if p = 0 ∧ m = 8 then some (sI (f : Int)) else aSlot h p m := by
  obtain ⟨g1, eg1⟩ : ∃ gz, gz = hset h 0 8 (sI (f : Int)) := ⟨_, rfl⟩
  have sg1 : ∀ xa xm, aSlot g1 xa xm = if xa = 0 ∧ xm = 8 then some (sI (f : Int)) else aSlot h xa xm := fun xa xm => by rw [eg1]; exact hset_slot hh (show sTg 0 = some (0, 12) from rfl) (by omega) xa xm
  have hg1 : aHp g1 := by rw [eg1]; exact hset_any hh fo_x
  obtain ⟨g2, eg2⟩ : ∃ gz, gz = hset g1 20 f (sI (hI h 20 f + 1)) := ⟨_, rfl⟩
  have sg2 : ∀ xa xm, aSlot g2 xa xm = if xa = 20 ∧ xm = f then some (sI (hI h 20 f + 1)) else aSlot g1 xa xm := fun xa xm => by rw [eg2]; exact hset_slot hg1 (show sTg 20 = some (50, 6) from rfl) (by omega) xa xm
  have hg2 : aHp g2 := by rw [eg2]; exact hset_any hg1 (ft_x hf).1
  refine ⟨g2, nEv_of (t := mMe9) rfl ?_, hg2, fun p m => by rw [sg2, sg1]⟩
  show nRn sc (d) (mMT mMe9) (mMC mMe9) (0, [some (.ref 0), some (sI ((f : Int)))], [], h) _
  refine sP 2 (g1 := (2, [some (.ref 0), some (sI ((f : Int)))], [sI ((f : Int)), .ref 0], h)) rfl ?_
  refine s_put (a := 0) (j := 8) (k := 0) (n := 12) hh rfl ⟨_, rfl⟩ (show sTg 0 = some (0, 12) from rfl) rfl rfl (by decide) rfl ?_
  rw [← eg1]
  refine sP 1 (g1 := (4, [some (.ref 0), some (sI ((f : Int)))], [.ref 0], g1)) rfl ?_
  refine s_get (a := 0) (j := 7) hg1 rfl ⟨_, rfl⟩ rfl rfl rfl (v := .ref 20) (hR_ok hg1 (by decide +kernel)) ?_
  refine sP 2 (g1 := (7, [some (.ref 0), some (sI ((f : Int)))], [sI ((f : Int)), .ref 20, sI ((f : Int)), .ref 20], g1)) rfl ?_
  refine s_iald (a := 20) (n := 6) (j := (f : Int)) hg1 rfl rfl rfl (by omega) (by omega) (by decide) (v := sI (hI h 20 f)) (by rw [Int.toNat_natCast, sg1, if_neg (by omega)]; exact hI_ok hh (ft_x hf).2) ?_
  refine sP 1 (g1 := (9, [some (.ref 0), some (sI ((f : Int)))], [sI 1, sI (hI h 20 f), sI ((f : Int)), .ref 20], g1)) rfl ?_
  refine s_add (a := hI h 20 f) (b := 1) rfl rfl ?_
  refine s_iast (a := 20) (n := 6) (j := (f : Int)) hg1 rfl rfl (show sTg 20 = some (50, 6) from rfl) (by omega) (by omega) (by decide) ?_
  rw [show ((f : Int) : Int).toNat = f by omega]
  rw [← eg2]
  refine sP 1 (g1 := (12, [some (.ref 0), some (sI ((f : Int)))], [sI ((-3))], g2)) rfl ?_
  exact s_reti rfl rfl (Or.inl rfl) rfl rfl
theorem fFoundM {f : Nat} (hh : aHp h) (hf : f < 6) : ∃ g, nEv sc (d + 1) 128 [.ref 53, sI (f : Int)] h (some (sI (-3)), g) ∧ aHp g ∧ ∀ p m, aSlot g p m = if p = 62 ∧ m = f then some (sI (hI h 62 f + 1)) else if p = 53 ∧ m = 11 then some (sI (f : Int)) else aSlot h p m := by
  obtain ⟨g1, eg1⟩ : ∃ gz, gz = hset h 53 11 (sI (f : Int)) := ⟨_, rfl⟩
  have sg1 : ∀ xa xm, aSlot g1 xa xm = if xa = 53 ∧ xm = 11 then some (sI (f : Int)) else aSlot h xa xm := fun xa xm => by rw [eg1]; exact hset_slot hh (show sTg 53 = some (7, 21) from rfl) (by omega) xa xm
  have hg1 : aHp g1 := by rw [eg1]; exact hset_any hh fo_m
  obtain ⟨g2, eg2⟩ : ∃ gz, gz = hset g1 62 f (sI (hI h 62 f + 1)) := ⟨_, rfl⟩
  have sg2 : ∀ xa xm, aSlot g2 xa xm = if xa = 62 ∧ xm = f then some (sI (hI h 62 f + 1)) else aSlot g1 xa xm := fun xa xm => by rw [eg2]; exact hset_slot hg1 (show sTg 62 = some (50, 6) from rfl) (by omega) xa xm
  have hg2 : aHp g2 := by rw [eg2]; exact hset_any hg1 (ft_m hf).1
  refine ⟨g2, nEv_of (t := mMe128) rfl ?_, hg2, fun p m => by rw [sg2, sg1]⟩
  show nRn sc (d) (mMT mMe128) (mMC mMe128) (0, [some (.ref 53), some (sI ((f : Int)))], [], h) _
  refine sP 2 (g1 := (2, [some (.ref 53), some (sI ((f : Int)))], [sI ((f : Int)), .ref 53], h)) rfl ?_
  refine s_put (a := 53) (j := 11) (k := 7) (n := 21) hh rfl ⟨_, rfl⟩ (show sTg 53 = some (7, 21) from rfl) rfl rfl (by decide) rfl ?_
  rw [← eg1]
  refine sP 1 (g1 := (4, [some (.ref 53), some (sI ((f : Int)))], [.ref 53], g1)) rfl ?_
  refine s_get (a := 53) (j := 12) hg1 rfl ⟨_, rfl⟩ rfl rfl rfl (v := .ref 62) (hR_ok hg1 (by decide +kernel)) ?_
  refine sP 2 (g1 := (7, [some (.ref 53), some (sI ((f : Int)))], [sI ((f : Int)), .ref 62, sI ((f : Int)), .ref 62], g1)) rfl ?_
  refine s_iald (a := 62) (n := 6) (j := (f : Int)) hg1 rfl rfl rfl (by omega) (by omega) (by decide) (v := sI (hI h 62 f)) (by rw [Int.toNat_natCast, sg1, if_neg (by omega)]; exact hI_ok hh (ft_m hf).2) ?_
  refine sP 1 (g1 := (9, [some (.ref 53), some (sI ((f : Int)))], [sI 1, sI (hI h 62 f), sI ((f : Int)), .ref 62], g1)) rfl ?_
  refine s_add (a := hI h 62 f) (b := 1) rfl rfl ?_
  refine s_iast (a := 62) (n := 6) (j := (f : Int)) hg1 rfl rfl (show sTg 62 = some (50, 6) from rfl) (by omega) (by omega) (by decide) ?_
  rw [show ((f : Int) : Int).toNat = f by omega]
  rw [← eg2]
  refine sP 1 (g1 := (12, [some (.ref 53), some (sI ((f : Int)))], [sI ((-3))], g2)) rfl ?_
  exact s_reti rfl rfl (Or.inl rfl) rfl rfl
/-! what is wrong with notes -/
noncomputable def okP (R : Nat → Int) (q : Int) (k : Nat) : Bool := decide (0 ≤ R (2 * k) ∧ R (2 * k) < q) && decide (0 ≤ R (2 * k + 1) ∧ R (2 * k + 1) ≤ 9)
noncomputable def bN (R : Nat → Int) (q : Int) : Nat → Nat → Bool
  | 0, _ => true
  | c + 1, k => okP R q k && bN R q c (k + 1)
theorem okP_iff {R : Nat → Int} {q : Int} {k : Nat} : okP R q k = true ↔ (0 ≤ R (2 * k) ∧ R (2 * k) < q) ∧ (0 ≤ R (2 * k + 1) ∧ R (2 * k + 1) ≤ 9) := by
  unfold okP
  rw [Bool.and_eq_true, decide_eq_true_eq, decide_eq_true_eq]
theorem bN_at {R : Nat → Int} {q : Int} : ∀ (c k j : Nat), bN R q c k = true → k ≤ j → j < k + c → okP R q j = true
  | 0, k, j, _, h1, h2 => absurd h2 (by omega)
  | c + 1, k, j, hb, h1, h2 => by
    unfold bN at hb
    rw [Bool.and_eq_true] at hb
    by_cases e : j = k
    · rw [e]; exact hb.1
    · exact bN_at c (k + 1) j hb.2 (by omega) (by omega)
noncomputable def pWr (sz : Int) (R : Nat → Int) (q : Int) : Int := if sz = -1 then 1 else if sz % 2 ≠ 0 ∨ 12 < sz then 5 else if bN R q (sz / 2).toNat 0 = true then 0 else 3
theorem s_remZ {rt : Option FieldType} {cs : List mE} {i : Nat} {L : mL} {st : List Value} {r : mR} {en : mE} {a : Int} (he : cs[i]? = some en) (ho : en.2.1 = .irem) (a0 : 0 ≤ a) (a1 : a ≤ 100000) (hr : nRn sc d rt cs (i + 1, L, sI (a % 2) :: st, h) r) : nRn sc d rt cs (i, L, sI 2 :: sI a :: st, h) r := by
  obtain ⟨n, en⟩ := iN a0
  subst en
  refine s_remN (a := n) (b := 2) he ho (by omega) (by decide) (by decide) ?_
  exact hr
theorem fWhyL {r n K q : Nat} {z : Int} (hh : aHp h) (hr : r < 6) (hn : hI h 3 3 = n) (hq : 2 ^ n = q) (hz : hI h (21 + 2 * r) 1 = z) (hK : z = 2 * (K : Int)) (hK6 : K ≤ 6) : ∀ (c k : Nat) (X : Option Value), k + c = K → nRn sc (d + 1) (mMT mMe92) (mMC mMe92) (19, [some (.ref 0), some (.ref (21 + 2 * r)), some (sI ((2 * k : Nat) : Int)), X], [], h) (some (sI (if bN (hI h (22 + 2 * r)) (q : Int) c k = true then 0 else 3)), h) := by
  intro c
  induction c with
  | zero =>
    intro k X hk
    have hkK : k = K := by omega
    subst hkK
    refine sP 2 (g1 := (21, [some (.ref 0), some (.ref (21 + 2 * r)), some (sI (((2 * k : Nat) : Int))), X], [sI 1, sI (((2 * k : Nat) : Int))], h)) rfl ?_
    refine s_add (a := ((2 * k : Nat) : Int)) (b := 1) rfl rfl ?_
    refine sP 1 (g1 := (23, [some (.ref 0), some (.ref (21 + 2 * r)), some (sI (((2 * k : Nat) : Int))), X], [.ref (21 + 2 * r), sI ((((2 * k : Nat) : Int)) + 1)], h)) rfl ?_
    refine s_get (a := 21 + 2 * r) (j := 1) hh rfl ⟨_, rfl⟩ (ra_t hr) rfl rfl (v := sI z) (by have q := hI_ok hh (ra_z hr); rw [hz] at q; exact q) ?_
    refine s_icmp (q := .ge) (a := (((2 * k : Nat) : Int)) + 1) (b := z) rfl ⟨_, rfl⟩ rfl (by unfold sR aMi aMa; omega) (by unfold sR aMi aMa; omega) (fun hc1 => ?_) (fun hc1 => ?_)
    · have hc1 : (z : Int) ≤ ((((2 * k : Nat) : Int)) + 1) := hc1
      refine sP 1 (g1 := (50, [some (.ref 0), some (.ref (21 + 2 * r)), some (sI (((2 * k : Nat) : Int))), X], [sI 0], h)) rfl ?_
      exact s_reti rfl rfl (Or.inl rfl) rfl rfl
    · have hc1 : ¬ ((z : Int) ≤ ((((2 * k : Nat) : Int)) + 1)) := hc1
      omega
  | succ c ih =>
    intro k X hk
    have g1 := hI_rg hh (ra_c (r := r) (j := 2 * k) hr (by omega))
    have g2 := hI_rg hh (ra_c (r := r) (j := 2 * k + 1) hr (by omega))
    have ev := fHasSet (sc := sc) (d := d) (n := n) (s := hI h (22 + 2 * r) (2 * k)) hh hn (hI_sR _ _ _)
    rw [hq] at ev
    have ok := @okP_iff (hI h (22 + 2 * r)) (q : Int) k
    have e1 : bN (hI h (22 + 2 * r)) (q : Int) (c + 1) k = (okP (hI h (22 + 2 * r)) (q : Int) k && bN (hI h (22 + 2 * r)) (q : Int) c (k + 1)) := rfl
    have r1 := fun X => ih (k + 1) X (by omega)
    rw [e1]
    by_cases c1 : 0 ≤ hI h (22 + 2 * r) (2 * k) ∧ hI h (22 + 2 * r) (2 * k) < (q : Int)
    · rw [if_pos c1] at ev
      by_cases c2 : 0 ≤ hI h (22 + 2 * r) (2 * k + 1) ∧ hI h (22 + 2 * r) (2 * k + 1) ≤ 9
      · rw [ok.mpr ⟨c1, c2⟩, Bool.true_and]
        refine sP 2 (g1 := (21, [some (.ref 0), some (.ref (21 + 2 * r)), some (sI (((2 * k : Nat) : Int))), X], [sI 1, sI (((2 * k : Nat) : Int))], h)) rfl ?_
        refine s_add (a := ((2 * k : Nat) : Int)) (b := 1) rfl rfl ?_
        refine sP 1 (g1 := (23, [some (.ref 0), some (.ref (21 + 2 * r)), some (sI (((2 * k : Nat) : Int))), X], [.ref (21 + 2 * r), sI ((((2 * k : Nat) : Int)) + 1)], h)) rfl ?_
        refine s_get (a := 21 + 2 * r) (j := 1) hh rfl ⟨_, rfl⟩ (ra_t hr) rfl rfl (v := sI z) (by have q := hI_ok hh (ra_z hr); rw [hz] at q; exact q) ?_
        refine s_icmp (q := .ge) (a := (((2 * k : Nat) : Int)) + 1) (b := z) rfl ⟨_, rfl⟩ rfl (by unfold sR aMi aMa; omega) (by unfold sR aMi aMa; omega) (fun hc1 => ?_) (fun hc1 => ?_)
        · have hc1 : (z : Int) ≤ ((((2 * k : Nat) : Int)) + 1) := hc1
          omega
        · have hc1 : ¬ ((z : Int) ≤ ((((2 * k : Nat) : Int)) + 1)) := hc1
          refine sP 1 (g1 := (26, [some (.ref 0), some (.ref (21 + 2 * r)), some (sI (((2 * k : Nat) : Int))), X], [.ref (21 + 2 * r)], h)) rfl ?_
          refine s_get (a := 21 + 2 * r) (j := 0) hh rfl ⟨_, rfl⟩ (ra_t hr) rfl rfl (v := .ref (22 + 2 * r)) (hR_ok hh (ra_r hr)) ?_
          refine sP 2 (g1 := (29, [some (.ref 0), some (.ref (21 + 2 * r)), some (sI (((2 * k : Nat) : Int))), X], [sI 1, sI (((2 * k : Nat) : Int)), .ref (22 + 2 * r)], h)) rfl ?_
          refine s_add (a := ((2 * k : Nat) : Int)) (b := 1) rfl rfl ?_
          refine s_iald (a := 22 + 2 * r) (n := 40) (j := (((2 * k : Nat) : Int)) + 1) hh rfl rfl (ra_2 hr) (by omega) (by omega) (by decide) (v := sI (hI h (22 + 2 * r) (2 * k + 1))) (by rw [show ((((2 * k : Nat) : Int)) + 1 : Int).toNat = 2 * k + 1 by omega]; exact hI_ok hh (ra_c hr (by omega))) ?_
          refine sP 2 (g1 := (33, [some (.ref 0), some (.ref (21 + 2 * r)), some (sI (((2 * k : Nat) : Int))), some (sI (hI h (22 + 2 * r) (2 * k + 1)))], [.ref 0], h)) rfl ?_
          refine s_get (a := 0) (j := 2) hh rfl ⟨_, rfl⟩ rfl rfl rfl (v := .ref 3) (hR_ok hh (by decide +kernel)) ?_
          refine sP 1 (g1 := (35, [some (.ref 0), some (.ref (21 + 2 * r)), some (sI (((2 * k : Nat) : Int))), some (sI (hI h (22 + 2 * r) (2 * k + 1)))], [.ref (21 + 2 * r), .ref 3], h)) rfl ?_
          refine s_get (a := 21 + 2 * r) (j := 0) hh rfl ⟨_, rfl⟩ (ra_t hr) rfl rfl (v := .ref (22 + 2 * r)) (hR_ok hh (ra_r hr)) ?_
          refine sP 1 (g1 := (37, [some (.ref 0), some (.ref (21 + 2 * r)), some (sI (((2 * k : Nat) : Int))), some (sI (hI h (22 + 2 * r) (2 * k + 1)))], [sI (((2 * k : Nat) : Int)), .ref (22 + 2 * r), .ref 3], h)) rfl ?_
          refine s_iald (a := 22 + 2 * r) (n := 40) (j := ((2 * k : Nat) : Int)) hh rfl rfl (ra_2 hr) (by omega) (by omega) (by decide) (v := sI (hI h (22 + 2 * r) (2 * k))) (by rw [show (((2 * k : Nat) : Int) : Int).toNat = 2 * k by omega]; exact hI_ok hh (ra_c hr (by omega))) ?_
          refine s_call (k := 76) (args := [.ref 3, sI (hI h (22 + 2 * r) (2 * k))]) (st := []) (v := some (sI 1)) (h1 := h) rfl ⟨rfl, rfl⟩ rfl rfl rfl rfl (sRcv hh (a := 3) rfl rfl) rfl ev ?_
          refine s_ifc (q := .eq) (a := 1) rfl ⟨_, rfl⟩ rfl (by unfold sR aMi aMa; omega) (fun hc2 => ?_) (fun hc2 => ?_)
          · have hc2 : (1 : Int) = 0 := hc2
            omega
          · have hc2 : ¬ ((1 : Int) = 0) := hc2
            refine sP 1 (g1 := (41, [some (.ref 0), some (.ref (21 + 2 * r)), some (sI (((2 * k : Nat) : Int))), some (sI (hI h (22 + 2 * r) (2 * k + 1)))], [sI (hI h (22 + 2 * r) (2 * k + 1))], h)) rfl ?_
            refine s_ifc (q := .lt) (a := hI h (22 + 2 * r) (2 * k + 1)) rfl ⟨_, rfl⟩ rfl (by unfold sR aMi aMa; omega) (fun hc3 => ?_) (fun hc3 => ?_)
            · have hc3 : ((hI h (22 + 2 * r) (2 * k + 1)) : Int) < 0 := hc3
              omega
            · have hc3 : ¬ (((hI h (22 + 2 * r) (2 * k + 1)) : Int) < 0) := hc3
              refine sP 2 (g1 := (44, [some (.ref 0), some (.ref (21 + 2 * r)), some (sI (((2 * k : Nat) : Int))), some (sI (hI h (22 + 2 * r) (2 * k + 1)))], [sI 9, sI (hI h (22 + 2 * r) (2 * k + 1))], h)) rfl ?_
              refine s_icmp (q := .le) (a := hI h (22 + 2 * r) (2 * k + 1)) (b := 9) rfl ⟨_, rfl⟩ rfl (by unfold sR aMi aMa; omega) (by unfold sR aMi aMa; omega) (fun hc4 => ?_) (fun hc4 => ?_)
              · have hc4 : ((hI h (22 + 2 * r) (2 * k + 1)) : Int) ≤ 9 := hc4
                refine s_inc (a := ((2 * k : Nat) : Int)) (n := 2) (k := 2) rfl rfl rfl ?_
                refine sP 1 (g1 := (19, [some (.ref 0), some (.ref (21 + 2 * r)), some (sI ((((2 * k : Nat) : Int)) + 2)), some (sI (hI h (22 + 2 * r) (2 * k + 1)))], [], h)) rfl ?_
                rw [show (((2 * k : Nat) : Int) + 2) = ((2 * (k + 1) : Nat) : Int) by omega]
                exact r1 _
              · have hc4 : ¬ (((hI h (22 + 2 * r) (2 * k + 1)) : Int) ≤ 9) := hc4
                omega
      · rw [Bool.eq_false_iff.mpr (fun w => c2 (ok.mp w).2), Bool.false_and]
        refine sP 2 (g1 := (21, [some (.ref 0), some (.ref (21 + 2 * r)), some (sI (((2 * k : Nat) : Int))), X], [sI 1, sI (((2 * k : Nat) : Int))], h)) rfl ?_
        refine s_add (a := ((2 * k : Nat) : Int)) (b := 1) rfl rfl ?_
        refine sP 1 (g1 := (23, [some (.ref 0), some (.ref (21 + 2 * r)), some (sI (((2 * k : Nat) : Int))), X], [.ref (21 + 2 * r), sI ((((2 * k : Nat) : Int)) + 1)], h)) rfl ?_
        refine s_get (a := 21 + 2 * r) (j := 1) hh rfl ⟨_, rfl⟩ (ra_t hr) rfl rfl (v := sI z) (by have q := hI_ok hh (ra_z hr); rw [hz] at q; exact q) ?_
        refine s_icmp (q := .ge) (a := (((2 * k : Nat) : Int)) + 1) (b := z) rfl ⟨_, rfl⟩ rfl (by unfold sR aMi aMa; omega) (by unfold sR aMi aMa; omega) (fun hc1 => ?_) (fun hc1 => ?_)
        · have hc1 : (z : Int) ≤ ((((2 * k : Nat) : Int)) + 1) := hc1
          omega
        · have hc1 : ¬ ((z : Int) ≤ ((((2 * k : Nat) : Int)) + 1)) := hc1
          refine sP 1 (g1 := (26, [some (.ref 0), some (.ref (21 + 2 * r)), some (sI (((2 * k : Nat) : Int))), X], [.ref (21 + 2 * r)], h)) rfl ?_
          refine s_get (a := 21 + 2 * r) (j := 0) hh rfl ⟨_, rfl⟩ (ra_t hr) rfl rfl (v := .ref (22 + 2 * r)) (hR_ok hh (ra_r hr)) ?_
          refine sP 2 (g1 := (29, [some (.ref 0), some (.ref (21 + 2 * r)), some (sI (((2 * k : Nat) : Int))), X], [sI 1, sI (((2 * k : Nat) : Int)), .ref (22 + 2 * r)], h)) rfl ?_
          refine s_add (a := ((2 * k : Nat) : Int)) (b := 1) rfl rfl ?_
          refine s_iald (a := 22 + 2 * r) (n := 40) (j := (((2 * k : Nat) : Int)) + 1) hh rfl rfl (ra_2 hr) (by omega) (by omega) (by decide) (v := sI (hI h (22 + 2 * r) (2 * k + 1))) (by rw [show ((((2 * k : Nat) : Int)) + 1 : Int).toNat = 2 * k + 1 by omega]; exact hI_ok hh (ra_c hr (by omega))) ?_
          refine sP 2 (g1 := (33, [some (.ref 0), some (.ref (21 + 2 * r)), some (sI (((2 * k : Nat) : Int))), some (sI (hI h (22 + 2 * r) (2 * k + 1)))], [.ref 0], h)) rfl ?_
          refine s_get (a := 0) (j := 2) hh rfl ⟨_, rfl⟩ rfl rfl rfl (v := .ref 3) (hR_ok hh (by decide +kernel)) ?_
          refine sP 1 (g1 := (35, [some (.ref 0), some (.ref (21 + 2 * r)), some (sI (((2 * k : Nat) : Int))), some (sI (hI h (22 + 2 * r) (2 * k + 1)))], [.ref (21 + 2 * r), .ref 3], h)) rfl ?_
          refine s_get (a := 21 + 2 * r) (j := 0) hh rfl ⟨_, rfl⟩ (ra_t hr) rfl rfl (v := .ref (22 + 2 * r)) (hR_ok hh (ra_r hr)) ?_
          refine sP 1 (g1 := (37, [some (.ref 0), some (.ref (21 + 2 * r)), some (sI (((2 * k : Nat) : Int))), some (sI (hI h (22 + 2 * r) (2 * k + 1)))], [sI (((2 * k : Nat) : Int)), .ref (22 + 2 * r), .ref 3], h)) rfl ?_
          refine s_iald (a := 22 + 2 * r) (n := 40) (j := ((2 * k : Nat) : Int)) hh rfl rfl (ra_2 hr) (by omega) (by omega) (by decide) (v := sI (hI h (22 + 2 * r) (2 * k))) (by rw [show (((2 * k : Nat) : Int) : Int).toNat = 2 * k by omega]; exact hI_ok hh (ra_c hr (by omega))) ?_
          refine s_call (k := 76) (args := [.ref 3, sI (hI h (22 + 2 * r) (2 * k))]) (st := []) (v := some (sI 1)) (h1 := h) rfl ⟨rfl, rfl⟩ rfl rfl rfl rfl (sRcv hh (a := 3) rfl rfl) rfl ev ?_
          refine s_ifc (q := .eq) (a := 1) rfl ⟨_, rfl⟩ rfl (by unfold sR aMi aMa; omega) (fun hc2 => ?_) (fun hc2 => ?_)
          · have hc2 : (1 : Int) = 0 := hc2
            omega
          · have hc2 : ¬ ((1 : Int) = 0) := hc2
            refine sP 1 (g1 := (41, [some (.ref 0), some (.ref (21 + 2 * r)), some (sI (((2 * k : Nat) : Int))), some (sI (hI h (22 + 2 * r) (2 * k + 1)))], [sI (hI h (22 + 2 * r) (2 * k + 1))], h)) rfl ?_
            refine s_ifc (q := .lt) (a := hI h (22 + 2 * r) (2 * k + 1)) rfl ⟨_, rfl⟩ rfl (by unfold sR aMi aMa; omega) (fun hc3 => ?_) (fun hc3 => ?_)
            · have hc3 : ((hI h (22 + 2 * r) (2 * k + 1)) : Int) < 0 := hc3
              refine sP 1 (g1 := (46, [some (.ref 0), some (.ref (21 + 2 * r)), some (sI (((2 * k : Nat) : Int))), some (sI (hI h (22 + 2 * r) (2 * k + 1)))], [sI 3], h)) rfl ?_
              exact s_reti rfl rfl (Or.inl rfl) rfl rfl
            · have hc3 : ¬ (((hI h (22 + 2 * r) (2 * k + 1)) : Int) < 0) := hc3
              refine sP 2 (g1 := (44, [some (.ref 0), some (.ref (21 + 2 * r)), some (sI (((2 * k : Nat) : Int))), some (sI (hI h (22 + 2 * r) (2 * k + 1)))], [sI 9, sI (hI h (22 + 2 * r) (2 * k + 1))], h)) rfl ?_
              refine s_icmp (q := .le) (a := hI h (22 + 2 * r) (2 * k + 1)) (b := 9) rfl ⟨_, rfl⟩ rfl (by unfold sR aMi aMa; omega) (by unfold sR aMi aMa; omega) (fun hc4 => ?_) (fun hc4 => ?_)
              · have hc4 : ((hI h (22 + 2 * r) (2 * k + 1)) : Int) ≤ 9 := hc4
                omega
              · have hc4 : ¬ (((hI h (22 + 2 * r) (2 * k + 1)) : Int) ≤ 9) := hc4
                refine sP 1 (g1 := (46, [some (.ref 0), some (.ref (21 + 2 * r)), some (sI (((2 * k : Nat) : Int))), some (sI (hI h (22 + 2 * r) (2 * k + 1)))], [sI 3], h)) rfl ?_
                exact s_reti rfl rfl (Or.inl rfl) rfl rfl
    · rw [if_neg c1] at ev
      rw [Bool.eq_false_iff.mpr (fun w => c1 (ok.mp w).1), Bool.false_and]
      refine sP 2 (g1 := (21, [some (.ref 0), some (.ref (21 + 2 * r)), some (sI (((2 * k : Nat) : Int))), X], [sI 1, sI (((2 * k : Nat) : Int))], h)) rfl ?_
      refine s_add (a := ((2 * k : Nat) : Int)) (b := 1) rfl rfl ?_
      refine sP 1 (g1 := (23, [some (.ref 0), some (.ref (21 + 2 * r)), some (sI (((2 * k : Nat) : Int))), X], [.ref (21 + 2 * r), sI ((((2 * k : Nat) : Int)) + 1)], h)) rfl ?_
      refine s_get (a := 21 + 2 * r) (j := 1) hh rfl ⟨_, rfl⟩ (ra_t hr) rfl rfl (v := sI z) (by have q := hI_ok hh (ra_z hr); rw [hz] at q; exact q) ?_
      refine s_icmp (q := .ge) (a := (((2 * k : Nat) : Int)) + 1) (b := z) rfl ⟨_, rfl⟩ rfl (by unfold sR aMi aMa; omega) (by unfold sR aMi aMa; omega) (fun hc1 => ?_) (fun hc1 => ?_)
      · have hc1 : (z : Int) ≤ ((((2 * k : Nat) : Int)) + 1) := hc1
        omega
      · have hc1 : ¬ ((z : Int) ≤ ((((2 * k : Nat) : Int)) + 1)) := hc1
        refine sP 1 (g1 := (26, [some (.ref 0), some (.ref (21 + 2 * r)), some (sI (((2 * k : Nat) : Int))), X], [.ref (21 + 2 * r)], h)) rfl ?_
        refine s_get (a := 21 + 2 * r) (j := 0) hh rfl ⟨_, rfl⟩ (ra_t hr) rfl rfl (v := .ref (22 + 2 * r)) (hR_ok hh (ra_r hr)) ?_
        refine sP 2 (g1 := (29, [some (.ref 0), some (.ref (21 + 2 * r)), some (sI (((2 * k : Nat) : Int))), X], [sI 1, sI (((2 * k : Nat) : Int)), .ref (22 + 2 * r)], h)) rfl ?_
        refine s_add (a := ((2 * k : Nat) : Int)) (b := 1) rfl rfl ?_
        refine s_iald (a := 22 + 2 * r) (n := 40) (j := (((2 * k : Nat) : Int)) + 1) hh rfl rfl (ra_2 hr) (by omega) (by omega) (by decide) (v := sI (hI h (22 + 2 * r) (2 * k + 1))) (by rw [show ((((2 * k : Nat) : Int)) + 1 : Int).toNat = 2 * k + 1 by omega]; exact hI_ok hh (ra_c hr (by omega))) ?_
        refine sP 2 (g1 := (33, [some (.ref 0), some (.ref (21 + 2 * r)), some (sI (((2 * k : Nat) : Int))), some (sI (hI h (22 + 2 * r) (2 * k + 1)))], [.ref 0], h)) rfl ?_
        refine s_get (a := 0) (j := 2) hh rfl ⟨_, rfl⟩ rfl rfl rfl (v := .ref 3) (hR_ok hh (by decide +kernel)) ?_
        refine sP 1 (g1 := (35, [some (.ref 0), some (.ref (21 + 2 * r)), some (sI (((2 * k : Nat) : Int))), some (sI (hI h (22 + 2 * r) (2 * k + 1)))], [.ref (21 + 2 * r), .ref 3], h)) rfl ?_
        refine s_get (a := 21 + 2 * r) (j := 0) hh rfl ⟨_, rfl⟩ (ra_t hr) rfl rfl (v := .ref (22 + 2 * r)) (hR_ok hh (ra_r hr)) ?_
        refine sP 1 (g1 := (37, [some (.ref 0), some (.ref (21 + 2 * r)), some (sI (((2 * k : Nat) : Int))), some (sI (hI h (22 + 2 * r) (2 * k + 1)))], [sI (((2 * k : Nat) : Int)), .ref (22 + 2 * r), .ref 3], h)) rfl ?_
        refine s_iald (a := 22 + 2 * r) (n := 40) (j := ((2 * k : Nat) : Int)) hh rfl rfl (ra_2 hr) (by omega) (by omega) (by decide) (v := sI (hI h (22 + 2 * r) (2 * k))) (by rw [show (((2 * k : Nat) : Int) : Int).toNat = 2 * k by omega]; exact hI_ok hh (ra_c hr (by omega))) ?_
        refine s_call (k := 76) (args := [.ref 3, sI (hI h (22 + 2 * r) (2 * k))]) (st := []) (v := some (sI 0)) (h1 := h) rfl ⟨rfl, rfl⟩ rfl rfl rfl rfl (sRcv hh (a := 3) rfl rfl) rfl ev ?_
        refine s_ifc (q := .eq) (a := 0) rfl ⟨_, rfl⟩ rfl (by unfold sR aMi aMa; omega) (fun hc2 => ?_) (fun hc2 => ?_)
        · have hc2 : (0 : Int) = 0 := hc2
          refine sP 1 (g1 := (46, [some (.ref 0), some (.ref (21 + 2 * r)), some (sI (((2 * k : Nat) : Int))), some (sI (hI h (22 + 2 * r) (2 * k + 1)))], [sI 3], h)) rfl ?_
          exact s_reti rfl rfl (Or.inl rfl) rfl rfl
        · have hc2 : ¬ ((0 : Int) = 0) := hc2
          omega
theorem fWhyN {r n q : Nat} (hh : aHp h) (hr : r < 6) (hn : hI h 3 3 = n) (hq : 2 ^ n = q) : nEv sc (d + 2) 92 [.ref 0, .ref (21 + 2 * r)] h (some (sI (pWr (hI h (21 + 2 * r) 1) (hI h (22 + 2 * r)) (q : Int))), h) := by
  have gz := hI_rg hh (ra_z hr)
  obtain ⟨z, hz⟩ : ∃ z, hI h (21 + 2 * r) 1 = z := ⟨_, rfl⟩
  rw [hz] at gz ⊢
  refine nEv_of (t := mMe92) rfl ?_
  show nRn sc (d + 1) (mMT mMe92) (mMC mMe92) (0, [some (.ref 0), some (.ref (21 + 2 * r)), none, none], [], h) _
  unfold pWr
  by_cases c0 : z = -1
  · rw [if_pos c0]
    refine sP 1 (g1 := (1, [some (.ref 0), some (.ref (21 + 2 * r)), none, none], [.ref (21 + 2 * r)], h)) rfl ?_
    refine s_get (a := 21 + 2 * r) (j := 1) hh rfl ⟨_, rfl⟩ (ra_t hr) rfl rfl (v := sI z) (by have q := hI_ok hh (ra_z hr); rw [hz] at q; exact q) ?_
    refine sP 1 (g1 := (3, [some (.ref 0), some (.ref (21 + 2 * r)), none, none], [sI ((-1)), sI z], h)) rfl ?_
    refine s_icmp (q := .ne) (a := z) (b := (-1)) rfl ⟨_, rfl⟩ rfl (by unfold sR aMi aMa; omega) (by unfold sR aMi aMa; omega) (fun hc1 => ?_) (fun hc1 => ?_)
    · have hc1 : (z : Int) ≠ ((-1)) := hc1
      omega
    · have hc1 : ¬ ((z : Int) ≠ ((-1))) := hc1
      refine sP 1 (g1 := (5, [some (.ref 0), some (.ref (21 + 2 * r)), none, none], [sI 1], h)) rfl ?_
      exact s_reti rfl rfl (Or.inl rfl) rfl rfl
  · rw [if_neg c0]
    by_cases c1 : z % 2 ≠ 0 ∨ 12 < z
    · rw [if_pos c1]
      refine sP 1 (g1 := (1, [some (.ref 0), some (.ref (21 + 2 * r)), none, none], [.ref (21 + 2 * r)], h)) rfl ?_
      refine s_get (a := 21 + 2 * r) (j := 1) hh rfl ⟨_, rfl⟩ (ra_t hr) rfl rfl (v := sI z) (by have q := hI_ok hh (ra_z hr); rw [hz] at q; exact q) ?_
      refine sP 1 (g1 := (3, [some (.ref 0), some (.ref (21 + 2 * r)), none, none], [sI ((-1)), sI z], h)) rfl ?_
      refine s_icmp (q := .ne) (a := z) (b := (-1)) rfl ⟨_, rfl⟩ rfl (by unfold sR aMi aMa; omega) (by unfold sR aMi aMa; omega) (fun hc1 => ?_) (fun hc1 => ?_)
      · have hc1 : (z : Int) ≠ ((-1)) := hc1
        refine sP 1 (g1 := (7, [some (.ref 0), some (.ref (21 + 2 * r)), none, none], [.ref (21 + 2 * r)], h)) rfl ?_
        refine s_get (a := 21 + 2 * r) (j := 1) hh rfl ⟨_, rfl⟩ (ra_t hr) rfl rfl (v := sI z) (by have q := hI_ok hh (ra_z hr); rw [hz] at q; exact q) ?_
        refine sP 1 (g1 := (9, [some (.ref 0), some (.ref (21 + 2 * r)), none, none], [sI 2, sI z], h)) rfl ?_
        refine s_remZ (a := z) rfl rfl (by omega) (by omega) ?_
        refine s_ifc (q := .ne) (a := z % 2) rfl ⟨_, rfl⟩ rfl (by unfold sR aMi aMa; omega) (fun hc2 => ?_) (fun hc2 => ?_)
        · have hc2 : ((z % 2) : Int) ≠ 0 := hc2
          refine sP 1 (g1 := (16, [some (.ref 0), some (.ref (21 + 2 * r)), none, none], [sI 5], h)) rfl ?_
          exact s_reti rfl rfl (Or.inl rfl) rfl rfl
        · have hc2 : ¬ (((z % 2) : Int) ≠ 0) := hc2
          refine sP 1 (g1 := (12, [some (.ref 0), some (.ref (21 + 2 * r)), none, none], [.ref (21 + 2 * r)], h)) rfl ?_
          refine s_get (a := 21 + 2 * r) (j := 1) hh rfl ⟨_, rfl⟩ (ra_t hr) rfl rfl (v := sI z) (by have q := hI_ok hh (ra_z hr); rw [hz] at q; exact q) ?_
          refine sP 1 (g1 := (14, [some (.ref 0), some (.ref (21 + 2 * r)), none, none], [sI 12, sI z], h)) rfl ?_
          refine s_icmp (q := .le) (a := z) (b := 12) rfl ⟨_, rfl⟩ rfl (by unfold sR aMi aMa; omega) (by unfold sR aMi aMa; omega) (fun hc3 => ?_) (fun hc3 => ?_)
          · have hc3 : (z : Int) ≤ 12 := hc3
            omega
          · have hc3 : ¬ ((z : Int) ≤ 12) := hc3
            refine sP 1 (g1 := (16, [some (.ref 0), some (.ref (21 + 2 * r)), none, none], [sI 5], h)) rfl ?_
            exact s_reti rfl rfl (Or.inl rfl) rfl rfl
      · have hc1 : ¬ ((z : Int) ≠ ((-1))) := hc1
        omega
    · rw [if_neg c1]
      have r1 := fWhyL (sc := sc) (d := d) (K := (z / 2).toNat) hh hr hn hq hz (by omega) (by omega) (z / 2).toNat 0 none (by omega)
      refine sP 1 (g1 := (1, [some (.ref 0), some (.ref (21 + 2 * r)), none, none], [.ref (21 + 2 * r)], h)) rfl ?_
      refine s_get (a := 21 + 2 * r) (j := 1) hh rfl ⟨_, rfl⟩ (ra_t hr) rfl rfl (v := sI z) (by have q := hI_ok hh (ra_z hr); rw [hz] at q; exact q) ?_
      refine sP 1 (g1 := (3, [some (.ref 0), some (.ref (21 + 2 * r)), none, none], [sI ((-1)), sI z], h)) rfl ?_
      refine s_icmp (q := .ne) (a := z) (b := (-1)) rfl ⟨_, rfl⟩ rfl (by unfold sR aMi aMa; omega) (by unfold sR aMi aMa; omega) (fun hc1 => ?_) (fun hc1 => ?_)
      · have hc1 : (z : Int) ≠ ((-1)) := hc1
        refine sP 1 (g1 := (7, [some (.ref 0), some (.ref (21 + 2 * r)), none, none], [.ref (21 + 2 * r)], h)) rfl ?_
        refine s_get (a := 21 + 2 * r) (j := 1) hh rfl ⟨_, rfl⟩ (ra_t hr) rfl rfl (v := sI z) (by have q := hI_ok hh (ra_z hr); rw [hz] at q; exact q) ?_
        refine sP 1 (g1 := (9, [some (.ref 0), some (.ref (21 + 2 * r)), none, none], [sI 2, sI z], h)) rfl ?_
        refine s_remZ (a := z) rfl rfl (by omega) (by omega) ?_
        refine s_ifc (q := .ne) (a := z % 2) rfl ⟨_, rfl⟩ rfl (by unfold sR aMi aMa; omega) (fun hc2 => ?_) (fun hc2 => ?_)
        · have hc2 : ((z % 2) : Int) ≠ 0 := hc2
          omega
        · have hc2 : ¬ (((z % 2) : Int) ≠ 0) := hc2
          refine sP 1 (g1 := (12, [some (.ref 0), some (.ref (21 + 2 * r)), none, none], [.ref (21 + 2 * r)], h)) rfl ?_
          refine s_get (a := 21 + 2 * r) (j := 1) hh rfl ⟨_, rfl⟩ (ra_t hr) rfl rfl (v := sI z) (by have q := hI_ok hh (ra_z hr); rw [hz] at q; exact q) ?_
          refine sP 1 (g1 := (14, [some (.ref 0), some (.ref (21 + 2 * r)), none, none], [sI 12, sI z], h)) rfl ?_
          refine s_icmp (q := .le) (a := z) (b := 12) rfl ⟨_, rfl⟩ rfl (by unfold sR aMi aMa; omega) (by unfold sR aMi aMa; omega) (fun hc3 => ?_) (fun hc3 => ?_)
          · have hc3 : (z : Int) ≤ 12 := hc3
            refine sP 2 (g1 := (19, [some (.ref 0), some (.ref (21 + 2 * r)), some (sI 0), none], [], h)) rfl ?_
            exact r1
          · have hc3 : ¬ ((z : Int) ≤ 12) := hc3
            omega
      · have hc1 : ¬ ((z : Int) ≠ ((-1))) := hc1
        omega
theorem fWrongL {r n K q : Nat} {z : Int} (hh : aHp h) (hr : r < 6) (hn : hI h 58 0 = n) (hq : 2 ^ n = q) (hz : hI h 54 r = z) (hK : z = 2 * (K : Int)) (hK6 : K ≤ 6) : ∀ (c k : Nat) (w : Bool), k + c = K → nRn sc (d + 2) (mMT mMe196) (mMC mMe196) (27, [some (.ref 53), some (sI (r : Int)), some (sI (if w = true then 1 else 0)), some (sI ((2 * k : Nat) : Int))], [], h) (some (sI (if (w && bN (fun j => hI h 55 (40 * r + j)) (q : Int) c k) = true then 0 else 3)), h) := by
  intro c
  induction c with
  | zero =>
    intro k w hk
    have hkK : k = K := by omega
    subst hkK
    rw [show bN (fun j => hI h 55 (40 * r + j)) (q : Int) 0 k = true from rfl, Bool.and_true]
    cases w with
    | false =>
      show nRn sc (d + 2) (mMT mMe196) (mMC mMe196) (27, [some (.ref 53), some (sI ((r : Int))), some (sI 0), some (sI (((2 * k : Nat) : Int)))], [], h) _
      refine sP 2 (g1 := (29, [some (.ref 53), some (sI ((r : Int))), some (sI 0), some (sI (((2 * k : Nat) : Int)))], [.ref 53, sI (((2 * k : Nat) : Int))], h)) rfl ?_
      refine s_get (a := 53) (j := 0) hh rfl ⟨_, rfl⟩ rfl rfl rfl (v := .ref 54) (hR_ok hh (by decide +kernel)) ?_
      refine sP 1 (g1 := (31, [some (.ref 53), some (sI ((r : Int))), some (sI 0), some (sI (((2 * k : Nat) : Int)))], [sI ((r : Int)), .ref 54, sI (((2 * k : Nat) : Int))], h)) rfl ?_
      refine s_iald (a := 54) (n := 6) (j := (r : Int)) hh rfl rfl rfl (by omega) (by omega) (by decide) (v := sI z) (by rw [Int.toNat_natCast]; have q := hI_ok hh (rm_z hr); rw [hz] at q; exact q) ?_
      refine s_icmp (q := .ge) (a := ((2 * k : Nat) : Int)) (b := z) rfl ⟨_, rfl⟩ rfl (by unfold sR aMi aMa; omega) (by unfold sR aMi aMa; omega) (fun hc1 => ?_) (fun hc1 => ?_)
      · have hc1 : (z : Int) ≤ (((2 * k : Nat) : Int)) := hc1
        refine sP 1 (g1 := (68, [some (.ref 53), some (sI ((r : Int))), some (sI 0), some (sI (((2 * k : Nat) : Int)))], [sI 0], h)) rfl ?_
        refine s_ifc (q := .eq) (a := 0) rfl ⟨_, rfl⟩ rfl (by unfold sR aMi aMa; omega) (fun hc2 => ?_) (fun hc2 => ?_)
        · have hc2 : (0 : Int) = 0 := hc2
          refine sP 1 (g1 := (72, [some (.ref 53), some (sI ((r : Int))), some (sI 0), some (sI (((2 * k : Nat) : Int)))], [sI 3], h)) rfl ?_
          exact s_reti rfl rfl (Or.inl rfl) rfl rfl
        · have hc2 : ¬ ((0 : Int) = 0) := hc2
          omega
      · have hc1 : ¬ ((z : Int) ≤ (((2 * k : Nat) : Int))) := hc1
        omega
    | true =>
      show nRn sc (d + 2) (mMT mMe196) (mMC mMe196) (27, [some (.ref 53), some (sI ((r : Int))), some (sI 1), some (sI (((2 * k : Nat) : Int)))], [], h) _
      refine sP 2 (g1 := (29, [some (.ref 53), some (sI ((r : Int))), some (sI 1), some (sI (((2 * k : Nat) : Int)))], [.ref 53, sI (((2 * k : Nat) : Int))], h)) rfl ?_
      refine s_get (a := 53) (j := 0) hh rfl ⟨_, rfl⟩ rfl rfl rfl (v := .ref 54) (hR_ok hh (by decide +kernel)) ?_
      refine sP 1 (g1 := (31, [some (.ref 53), some (sI ((r : Int))), some (sI 1), some (sI (((2 * k : Nat) : Int)))], [sI ((r : Int)), .ref 54, sI (((2 * k : Nat) : Int))], h)) rfl ?_
      refine s_iald (a := 54) (n := 6) (j := (r : Int)) hh rfl rfl rfl (by omega) (by omega) (by decide) (v := sI z) (by rw [Int.toNat_natCast]; have q := hI_ok hh (rm_z hr); rw [hz] at q; exact q) ?_
      refine s_icmp (q := .ge) (a := ((2 * k : Nat) : Int)) (b := z) rfl ⟨_, rfl⟩ rfl (by unfold sR aMi aMa; omega) (by unfold sR aMi aMa; omega) (fun hc1 => ?_) (fun hc1 => ?_)
      · have hc1 : (z : Int) ≤ (((2 * k : Nat) : Int)) := hc1
        refine sP 1 (g1 := (68, [some (.ref 53), some (sI ((r : Int))), some (sI 1), some (sI (((2 * k : Nat) : Int)))], [sI 1], h)) rfl ?_
        refine s_ifc (q := .eq) (a := 1) rfl ⟨_, rfl⟩ rfl (by unfold sR aMi aMa; omega) (fun hc2 => ?_) (fun hc2 => ?_)
        · have hc2 : (1 : Int) = 0 := hc2
          omega
        · have hc2 : ¬ ((1 : Int) = 0) := hc2
          refine sP 2 (g1 := (72, [some (.ref 53), some (sI ((r : Int))), some (sI 1), some (sI (((2 * k : Nat) : Int)))], [sI 0], h)) rfl ?_
          exact s_reti rfl rfl (Or.inl rfl) rfl rfl
      · have hc1 : ¬ ((z : Int) ≤ (((2 * k : Nat) : Int))) := hc1
        omega
  | succ c ih =>
    intro k w hk
    have g1 := hI_rg hh (rm_c (r := r) (j := 2 * k) hr (by omega))
    have g2 := hI_rg hh (rm_c (r := r) (j := 2 * k + 1) hr (by omega))
    have ev := fIsSet (sc := sc) (d := d) (n := n) (s := hI h 55 (40 * r + 2 * k)) hh hn (hI_sR _ _ _)
    rw [hq] at ev
    have ok := @okP_iff (fun j => hI h 55 (40 * r + j)) (q : Int) k
    have e1 : bN (fun j => hI h 55 (40 * r + j)) (q : Int) (c + 1) k = (okP (fun j => hI h 55 (40 * r + j)) (q : Int) k && bN (fun j => hI h 55 (40 * r + j)) (q : Int) c (k + 1)) := rfl
    have r1 := fun w => ih (k + 1) w (by omega)
    rw [e1]
    cases w with
    | false =>
      rw [Bool.false_and]
      have r0 := r1 false
      rw [Bool.false_and] at r0
      show nRn sc (d + 2) (mMT mMe196) (mMC mMe196) (27, [some (.ref 53), some (sI ((r : Int))), some (sI 0), some (sI (((2 * k : Nat) : Int)))], [], h) _
      refine sP 2 (g1 := (29, [some (.ref 53), some (sI ((r : Int))), some (sI 0), some (sI (((2 * k : Nat) : Int)))], [.ref 53, sI (((2 * k : Nat) : Int))], h)) rfl ?_
      refine s_get (a := 53) (j := 0) hh rfl ⟨_, rfl⟩ rfl rfl rfl (v := .ref 54) (hR_ok hh (by decide +kernel)) ?_
      refine sP 1 (g1 := (31, [some (.ref 53), some (sI ((r : Int))), some (sI 0), some (sI (((2 * k : Nat) : Int)))], [sI ((r : Int)), .ref 54, sI (((2 * k : Nat) : Int))], h)) rfl ?_
      refine s_iald (a := 54) (n := 6) (j := (r : Int)) hh rfl rfl rfl (by omega) (by omega) (by decide) (v := sI z) (by rw [Int.toNat_natCast]; have q := hI_ok hh (rm_z hr); rw [hz] at q; exact q) ?_
      refine s_icmp (q := .ge) (a := ((2 * k : Nat) : Int)) (b := z) rfl ⟨_, rfl⟩ rfl (by unfold sR aMi aMa; omega) (by unfold sR aMi aMa; omega) (fun hc1 => ?_) (fun hc1 => ?_)
      · have hc1 : (z : Int) ≤ (((2 * k : Nat) : Int)) := hc1
        omega
      · have hc1 : ¬ ((z : Int) ≤ (((2 * k : Nat) : Int))) := hc1
        refine sP 1 (g1 := (34, [some (.ref 53), some (sI ((r : Int))), some (sI 0), some (sI (((2 * k : Nat) : Int)))], [sI 0], h)) rfl ?_
        refine s_ifc (q := .eq) (a := 0) rfl ⟨_, rfl⟩ rfl (by unfold sR aMi aMa; omega) (fun hc2 => ?_) (fun hc2 => ?_)
        · have hc2 : (0 : Int) = 0 := hc2
          refine sP 2 (g1 := (65, [some (.ref 53), some (sI ((r : Int))), some (sI 0), some (sI (((2 * k : Nat) : Int)))], [], h)) rfl ?_
          refine s_inc (a := ((2 * k : Nat) : Int)) (n := 2) (k := 3) rfl rfl rfl ?_
          refine sP 1 (g1 := (27, [some (.ref 53), some (sI ((r : Int))), some (sI 0), some (sI ((((2 * k : Nat) : Int)) + 2))], [], h)) rfl ?_
          rw [show (((2 * k : Nat) : Int) + 2) = ((2 * (k + 1) : Nat) : Int) by omega]
          exact r0
        · have hc2 : ¬ ((0 : Int) = 0) := hc2
          omega
    | true =>
      rw [Bool.true_and]
      by_cases c1 : 0 ≤ hI h 55 (40 * r + 2 * k) ∧ hI h 55 (40 * r + 2 * k) < (q : Int)
      · rw [if_pos c1] at ev
        have ev2 := fIn (sc := sc) (d := d + 1) (h := h) (a := hI h 55 (40 * r + (2 * k + 1))) (b := 0) (e := 9) (by omega) (by omega) (by omega) (by omega) (by omega) (by omega)
        by_cases c2 : 0 ≤ hI h 55 (40 * r + (2 * k + 1)) ∧ hI h 55 (40 * r + (2 * k + 1)) ≤ 9
        · rw [if_pos c2] at ev2
          rw [ok.mpr ⟨c1, c2⟩]
          have r0 := r1 true
          show nRn sc (d + 2) (mMT mMe196) (mMC mMe196) (27, [some (.ref 53), some (sI ((r : Int))), some (sI 1), some (sI (((2 * k : Nat) : Int)))], [], h) _
          refine sP 2 (g1 := (29, [some (.ref 53), some (sI ((r : Int))), some (sI 1), some (sI (((2 * k : Nat) : Int)))], [.ref 53, sI (((2 * k : Nat) : Int))], h)) rfl ?_
          refine s_get (a := 53) (j := 0) hh rfl ⟨_, rfl⟩ rfl rfl rfl (v := .ref 54) (hR_ok hh (by decide +kernel)) ?_
          refine sP 1 (g1 := (31, [some (.ref 53), some (sI ((r : Int))), some (sI 1), some (sI (((2 * k : Nat) : Int)))], [sI ((r : Int)), .ref 54, sI (((2 * k : Nat) : Int))], h)) rfl ?_
          refine s_iald (a := 54) (n := 6) (j := (r : Int)) hh rfl rfl rfl (by omega) (by omega) (by decide) (v := sI z) (by rw [Int.toNat_natCast]; have q := hI_ok hh (rm_z hr); rw [hz] at q; exact q) ?_
          refine s_icmp (q := .ge) (a := ((2 * k : Nat) : Int)) (b := z) rfl ⟨_, rfl⟩ rfl (by unfold sR aMi aMa; omega) (by unfold sR aMi aMa; omega) (fun hc1 => ?_) (fun hc1 => ?_)
          · have hc1 : (z : Int) ≤ (((2 * k : Nat) : Int)) := hc1
            omega
          · have hc1 : ¬ ((z : Int) ≤ (((2 * k : Nat) : Int))) := hc1
            refine sP 1 (g1 := (34, [some (.ref 53), some (sI ((r : Int))), some (sI 1), some (sI (((2 * k : Nat) : Int)))], [sI 1], h)) rfl ?_
            refine s_ifc (q := .eq) (a := 1) rfl ⟨_, rfl⟩ rfl (by unfold sR aMi aMa; omega) (fun hc2 => ?_) (fun hc2 => ?_)
            · have hc2 : (1 : Int) = 0 := hc2
              omega
            · have hc2 : ¬ ((1 : Int) = 0) := hc2
              refine sP 2 (g1 := (37, [some (.ref 53), some (sI ((r : Int))), some (sI 1), some (sI (((2 * k : Nat) : Int)))], [.ref 53, .ref 53], h)) rfl ?_
              refine s_get (a := 53) (j := 1) hh rfl ⟨_, rfl⟩ rfl rfl rfl (v := .ref 55) (hR_ok hh (by decide +kernel)) ?_
              refine sP 2 (g1 := (40, [some (.ref 53), some (sI ((r : Int))), some (sI 1), some (sI (((2 * k : Nat) : Int)))], [sI ((r : Int)), sI 40, .ref 55, .ref 53], h)) rfl ?_
              refine s_mul (a := 40) (b := (r : Int)) rfl rfl ?_
              refine sP 1 (g1 := (42, [some (.ref 53), some (sI ((r : Int))), some (sI 1), some (sI (((2 * k : Nat) : Int)))], [sI (((2 * k : Nat) : Int)), sI (40 * ((r : Int))), .ref 55, .ref 53], h)) rfl ?_
              refine s_add (a := 40 * ((r : Int))) (b := ((2 * k : Nat) : Int)) rfl rfl ?_
              refine s_iald (a := 55) (n := 240) (j := (40 * ((r : Int))) + (((2 * k : Nat) : Int))) hh rfl rfl rfl (by omega) (by omega) (by decide) (v := sI (hI h 55 (40 * r + (2 * k)))) (by rw [show ((40 * ((r : Int))) + (((2 * k : Nat) : Int)) : Int).toNat = 40 * r + (2 * k) by omega]; exact hI_ok hh (rm_c hr (by omega))) ?_
              refine s_call (k := 181) (args := [.ref 53, sI (hI h 55 (40 * r + (2 * k)))]) (st := []) (v := some (sI 1)) (h1 := h) rfl ⟨rfl, rfl⟩ rfl rfl rfl rfl (sRcv hh (a := 53) rfl rfl) rfl ev ?_
              refine s_ifc (q := .eq) (a := 1) rfl ⟨_, rfl⟩ rfl (by unfold sR aMi aMa; omega) (fun hc3 => ?_) (fun hc3 => ?_)
              · have hc3 : (1 : Int) = 0 := hc3
                omega
              · have hc3 : ¬ ((1 : Int) = 0) := hc3
                refine sP 1 (g1 := (47, [some (.ref 53), some (sI ((r : Int))), some (sI 1), some (sI (((2 * k : Nat) : Int)))], [.ref 53], h)) rfl ?_
                refine s_get (a := 53) (j := 1) hh rfl ⟨_, rfl⟩ rfl rfl rfl (v := .ref 55) (hR_ok hh (by decide +kernel)) ?_
                refine sP 2 (g1 := (50, [some (.ref 53), some (sI ((r : Int))), some (sI 1), some (sI (((2 * k : Nat) : Int)))], [sI ((r : Int)), sI 40, .ref 55], h)) rfl ?_
                refine s_mul (a := 40) (b := (r : Int)) rfl rfl ?_
                refine sP 1 (g1 := (52, [some (.ref 53), some (sI ((r : Int))), some (sI 1), some (sI (((2 * k : Nat) : Int)))], [sI (((2 * k : Nat) : Int)), sI (40 * ((r : Int))), .ref 55], h)) rfl ?_
                refine s_add (a := 40 * ((r : Int))) (b := ((2 * k : Nat) : Int)) rfl rfl ?_
                refine sP 1 (g1 := (54, [some (.ref 53), some (sI ((r : Int))), some (sI 1), some (sI (((2 * k : Nat) : Int)))], [sI 1, sI ((40 * ((r : Int))) + (((2 * k : Nat) : Int))), .ref 55], h)) rfl ?_
                refine s_add (a := (40 * ((r : Int))) + (((2 * k : Nat) : Int))) (b := 1) rfl rfl ?_
                refine s_iald (a := 55) (n := 240) (j := ((40 * ((r : Int))) + (((2 * k : Nat) : Int))) + 1) hh rfl rfl rfl (by omega) (by omega) (by decide) (v := sI (hI h 55 (40 * r + (2 * k + 1)))) (by rw [show (((40 * ((r : Int))) + (((2 * k : Nat) : Int))) + 1 : Int).toNat = 40 * r + (2 * k + 1) by omega]; exact hI_ok hh (rm_c hr (by omega))) ?_
                refine s_i2l (a := hI h 55 (40 * r + (2 * k + 1))) rfl rfl (by unfold sR aMi aMa; omega) ?_
                refine sP 2 (g1 := (59, [some (.ref 53), some (sI ((r : Int))), some (sI 1), some (sI (((2 * k : Nat) : Int)))], [sJ 9, sJ 0, sJ (hI h 55 (40 * r + (2 * k + 1)))], h)) rfl ?_
                refine s_call (k := 127) (args := [sJ (hI h 55 (40 * r + (2 * k + 1))), sJ 0, sJ 9]) (st := []) (v := some (sI 1)) (h1 := h) rfl ⟨rfl, rfl⟩ rfl rfl rfl rfl rfl rfl ev2 ?_
                refine s_ifc (q := .eq) (a := 1) rfl ⟨_, rfl⟩ rfl (by unfold sR aMi aMa; omega) (fun hc4 => ?_) (fun hc4 => ?_)
                · have hc4 : (1 : Int) = 0 := hc4
                  omega
                · have hc4 : ¬ ((1 : Int) = 0) := hc4
                  refine sP 3 (g1 := (65, [some (.ref 53), some (sI ((r : Int))), some (sI 1), some (sI (((2 * k : Nat) : Int)))], [], h)) rfl ?_
                  refine s_inc (a := ((2 * k : Nat) : Int)) (n := 2) (k := 3) rfl rfl rfl ?_
                  refine sP 1 (g1 := (27, [some (.ref 53), some (sI ((r : Int))), some (sI 1), some (sI ((((2 * k : Nat) : Int)) + 2))], [], h)) rfl ?_
                  rw [show (((2 * k : Nat) : Int) + 2) = ((2 * (k + 1) : Nat) : Int) by omega]
                  exact r0
        · rw [if_neg c2] at ev2
          rw [Bool.eq_false_iff.mpr (fun w => c2 (ok.mp w).2), Bool.false_and]
          have r0 := r1 false
          rw [Bool.false_and] at r0
          show nRn sc (d + 2) (mMT mMe196) (mMC mMe196) (27, [some (.ref 53), some (sI ((r : Int))), some (sI 1), some (sI (((2 * k : Nat) : Int)))], [], h) _
          refine sP 2 (g1 := (29, [some (.ref 53), some (sI ((r : Int))), some (sI 1), some (sI (((2 * k : Nat) : Int)))], [.ref 53, sI (((2 * k : Nat) : Int))], h)) rfl ?_
          refine s_get (a := 53) (j := 0) hh rfl ⟨_, rfl⟩ rfl rfl rfl (v := .ref 54) (hR_ok hh (by decide +kernel)) ?_
          refine sP 1 (g1 := (31, [some (.ref 53), some (sI ((r : Int))), some (sI 1), some (sI (((2 * k : Nat) : Int)))], [sI ((r : Int)), .ref 54, sI (((2 * k : Nat) : Int))], h)) rfl ?_
          refine s_iald (a := 54) (n := 6) (j := (r : Int)) hh rfl rfl rfl (by omega) (by omega) (by decide) (v := sI z) (by rw [Int.toNat_natCast]; have q := hI_ok hh (rm_z hr); rw [hz] at q; exact q) ?_
          refine s_icmp (q := .ge) (a := ((2 * k : Nat) : Int)) (b := z) rfl ⟨_, rfl⟩ rfl (by unfold sR aMi aMa; omega) (by unfold sR aMi aMa; omega) (fun hc1 => ?_) (fun hc1 => ?_)
          · have hc1 : (z : Int) ≤ (((2 * k : Nat) : Int)) := hc1
            omega
          · have hc1 : ¬ ((z : Int) ≤ (((2 * k : Nat) : Int))) := hc1
            refine sP 1 (g1 := (34, [some (.ref 53), some (sI ((r : Int))), some (sI 1), some (sI (((2 * k : Nat) : Int)))], [sI 1], h)) rfl ?_
            refine s_ifc (q := .eq) (a := 1) rfl ⟨_, rfl⟩ rfl (by unfold sR aMi aMa; omega) (fun hc2 => ?_) (fun hc2 => ?_)
            · have hc2 : (1 : Int) = 0 := hc2
              omega
            · have hc2 : ¬ ((1 : Int) = 0) := hc2
              refine sP 2 (g1 := (37, [some (.ref 53), some (sI ((r : Int))), some (sI 1), some (sI (((2 * k : Nat) : Int)))], [.ref 53, .ref 53], h)) rfl ?_
              refine s_get (a := 53) (j := 1) hh rfl ⟨_, rfl⟩ rfl rfl rfl (v := .ref 55) (hR_ok hh (by decide +kernel)) ?_
              refine sP 2 (g1 := (40, [some (.ref 53), some (sI ((r : Int))), some (sI 1), some (sI (((2 * k : Nat) : Int)))], [sI ((r : Int)), sI 40, .ref 55, .ref 53], h)) rfl ?_
              refine s_mul (a := 40) (b := (r : Int)) rfl rfl ?_
              refine sP 1 (g1 := (42, [some (.ref 53), some (sI ((r : Int))), some (sI 1), some (sI (((2 * k : Nat) : Int)))], [sI (((2 * k : Nat) : Int)), sI (40 * ((r : Int))), .ref 55, .ref 53], h)) rfl ?_
              refine s_add (a := 40 * ((r : Int))) (b := ((2 * k : Nat) : Int)) rfl rfl ?_
              refine s_iald (a := 55) (n := 240) (j := (40 * ((r : Int))) + (((2 * k : Nat) : Int))) hh rfl rfl rfl (by omega) (by omega) (by decide) (v := sI (hI h 55 (40 * r + (2 * k)))) (by rw [show ((40 * ((r : Int))) + (((2 * k : Nat) : Int)) : Int).toNat = 40 * r + (2 * k) by omega]; exact hI_ok hh (rm_c hr (by omega))) ?_
              refine s_call (k := 181) (args := [.ref 53, sI (hI h 55 (40 * r + (2 * k)))]) (st := []) (v := some (sI 1)) (h1 := h) rfl ⟨rfl, rfl⟩ rfl rfl rfl rfl (sRcv hh (a := 53) rfl rfl) rfl ev ?_
              refine s_ifc (q := .eq) (a := 1) rfl ⟨_, rfl⟩ rfl (by unfold sR aMi aMa; omega) (fun hc3 => ?_) (fun hc3 => ?_)
              · have hc3 : (1 : Int) = 0 := hc3
                omega
              · have hc3 : ¬ ((1 : Int) = 0) := hc3
                refine sP 1 (g1 := (47, [some (.ref 53), some (sI ((r : Int))), some (sI 1), some (sI (((2 * k : Nat) : Int)))], [.ref 53], h)) rfl ?_
                refine s_get (a := 53) (j := 1) hh rfl ⟨_, rfl⟩ rfl rfl rfl (v := .ref 55) (hR_ok hh (by decide +kernel)) ?_
                refine sP 2 (g1 := (50, [some (.ref 53), some (sI ((r : Int))), some (sI 1), some (sI (((2 * k : Nat) : Int)))], [sI ((r : Int)), sI 40, .ref 55], h)) rfl ?_
                refine s_mul (a := 40) (b := (r : Int)) rfl rfl ?_
                refine sP 1 (g1 := (52, [some (.ref 53), some (sI ((r : Int))), some (sI 1), some (sI (((2 * k : Nat) : Int)))], [sI (((2 * k : Nat) : Int)), sI (40 * ((r : Int))), .ref 55], h)) rfl ?_
                refine s_add (a := 40 * ((r : Int))) (b := ((2 * k : Nat) : Int)) rfl rfl ?_
                refine sP 1 (g1 := (54, [some (.ref 53), some (sI ((r : Int))), some (sI 1), some (sI (((2 * k : Nat) : Int)))], [sI 1, sI ((40 * ((r : Int))) + (((2 * k : Nat) : Int))), .ref 55], h)) rfl ?_
                refine s_add (a := (40 * ((r : Int))) + (((2 * k : Nat) : Int))) (b := 1) rfl rfl ?_
                refine s_iald (a := 55) (n := 240) (j := ((40 * ((r : Int))) + (((2 * k : Nat) : Int))) + 1) hh rfl rfl rfl (by omega) (by omega) (by decide) (v := sI (hI h 55 (40 * r + (2 * k + 1)))) (by rw [show (((40 * ((r : Int))) + (((2 * k : Nat) : Int))) + 1 : Int).toNat = 40 * r + (2 * k + 1) by omega]; exact hI_ok hh (rm_c hr (by omega))) ?_
                refine s_i2l (a := hI h 55 (40 * r + (2 * k + 1))) rfl rfl (by unfold sR aMi aMa; omega) ?_
                refine sP 2 (g1 := (59, [some (.ref 53), some (sI ((r : Int))), some (sI 1), some (sI (((2 * k : Nat) : Int)))], [sJ 9, sJ 0, sJ (hI h 55 (40 * r + (2 * k + 1)))], h)) rfl ?_
                refine s_call (k := 127) (args := [sJ (hI h 55 (40 * r + (2 * k + 1))), sJ 0, sJ 9]) (st := []) (v := some (sI 0)) (h1 := h) rfl ⟨rfl, rfl⟩ rfl rfl rfl rfl rfl rfl ev2 ?_
                refine s_ifc (q := .eq) (a := 0) rfl ⟨_, rfl⟩ rfl (by unfold sR aMi aMa; omega) (fun hc4 => ?_) (fun hc4 => ?_)
                · have hc4 : (0 : Int) = 0 := hc4
                  refine sP 2 (g1 := (65, [some (.ref 53), some (sI ((r : Int))), some (sI 0), some (sI (((2 * k : Nat) : Int)))], [], h)) rfl ?_
                  refine s_inc (a := ((2 * k : Nat) : Int)) (n := 2) (k := 3) rfl rfl rfl ?_
                  refine sP 1 (g1 := (27, [some (.ref 53), some (sI ((r : Int))), some (sI 0), some (sI ((((2 * k : Nat) : Int)) + 2))], [], h)) rfl ?_
                  rw [show (((2 * k : Nat) : Int) + 2) = ((2 * (k + 1) : Nat) : Int) by omega]
                  exact r0
                · have hc4 : ¬ ((0 : Int) = 0) := hc4
                  omega
      · rw [if_neg c1] at ev
        rw [Bool.eq_false_iff.mpr (fun w => c1 (ok.mp w).1), Bool.false_and]
        have r0 := r1 false
        rw [Bool.false_and] at r0
        show nRn sc (d + 2) (mMT mMe196) (mMC mMe196) (27, [some (.ref 53), some (sI ((r : Int))), some (sI 1), some (sI (((2 * k : Nat) : Int)))], [], h) _
        refine sP 2 (g1 := (29, [some (.ref 53), some (sI ((r : Int))), some (sI 1), some (sI (((2 * k : Nat) : Int)))], [.ref 53, sI (((2 * k : Nat) : Int))], h)) rfl ?_
        refine s_get (a := 53) (j := 0) hh rfl ⟨_, rfl⟩ rfl rfl rfl (v := .ref 54) (hR_ok hh (by decide +kernel)) ?_
        refine sP 1 (g1 := (31, [some (.ref 53), some (sI ((r : Int))), some (sI 1), some (sI (((2 * k : Nat) : Int)))], [sI ((r : Int)), .ref 54, sI (((2 * k : Nat) : Int))], h)) rfl ?_
        refine s_iald (a := 54) (n := 6) (j := (r : Int)) hh rfl rfl rfl (by omega) (by omega) (by decide) (v := sI z) (by rw [Int.toNat_natCast]; have q := hI_ok hh (rm_z hr); rw [hz] at q; exact q) ?_
        refine s_icmp (q := .ge) (a := ((2 * k : Nat) : Int)) (b := z) rfl ⟨_, rfl⟩ rfl (by unfold sR aMi aMa; omega) (by unfold sR aMi aMa; omega) (fun hc1 => ?_) (fun hc1 => ?_)
        · have hc1 : (z : Int) ≤ (((2 * k : Nat) : Int)) := hc1
          omega
        · have hc1 : ¬ ((z : Int) ≤ (((2 * k : Nat) : Int))) := hc1
          refine sP 1 (g1 := (34, [some (.ref 53), some (sI ((r : Int))), some (sI 1), some (sI (((2 * k : Nat) : Int)))], [sI 1], h)) rfl ?_
          refine s_ifc (q := .eq) (a := 1) rfl ⟨_, rfl⟩ rfl (by unfold sR aMi aMa; omega) (fun hc2 => ?_) (fun hc2 => ?_)
          · have hc2 : (1 : Int) = 0 := hc2
            omega
          · have hc2 : ¬ ((1 : Int) = 0) := hc2
            refine sP 2 (g1 := (37, [some (.ref 53), some (sI ((r : Int))), some (sI 1), some (sI (((2 * k : Nat) : Int)))], [.ref 53, .ref 53], h)) rfl ?_
            refine s_get (a := 53) (j := 1) hh rfl ⟨_, rfl⟩ rfl rfl rfl (v := .ref 55) (hR_ok hh (by decide +kernel)) ?_
            refine sP 2 (g1 := (40, [some (.ref 53), some (sI ((r : Int))), some (sI 1), some (sI (((2 * k : Nat) : Int)))], [sI ((r : Int)), sI 40, .ref 55, .ref 53], h)) rfl ?_
            refine s_mul (a := 40) (b := (r : Int)) rfl rfl ?_
            refine sP 1 (g1 := (42, [some (.ref 53), some (sI ((r : Int))), some (sI 1), some (sI (((2 * k : Nat) : Int)))], [sI (((2 * k : Nat) : Int)), sI (40 * ((r : Int))), .ref 55, .ref 53], h)) rfl ?_
            refine s_add (a := 40 * ((r : Int))) (b := ((2 * k : Nat) : Int)) rfl rfl ?_
            refine s_iald (a := 55) (n := 240) (j := (40 * ((r : Int))) + (((2 * k : Nat) : Int))) hh rfl rfl rfl (by omega) (by omega) (by decide) (v := sI (hI h 55 (40 * r + (2 * k)))) (by rw [show ((40 * ((r : Int))) + (((2 * k : Nat) : Int)) : Int).toNat = 40 * r + (2 * k) by omega]; exact hI_ok hh (rm_c hr (by omega))) ?_
            refine s_call (k := 181) (args := [.ref 53, sI (hI h 55 (40 * r + (2 * k)))]) (st := []) (v := some (sI 0)) (h1 := h) rfl ⟨rfl, rfl⟩ rfl rfl rfl rfl (sRcv hh (a := 53) rfl rfl) rfl ev ?_
            refine s_ifc (q := .eq) (a := 0) rfl ⟨_, rfl⟩ rfl (by unfold sR aMi aMa; omega) (fun hc3 => ?_) (fun hc3 => ?_)
            · have hc3 : (0 : Int) = 0 := hc3
              refine sP 2 (g1 := (65, [some (.ref 53), some (sI ((r : Int))), some (sI 0), some (sI (((2 * k : Nat) : Int)))], [], h)) rfl ?_
              refine s_inc (a := ((2 * k : Nat) : Int)) (n := 2) (k := 3) rfl rfl rfl ?_
              refine sP 1 (g1 := (27, [some (.ref 53), some (sI ((r : Int))), some (sI 0), some (sI ((((2 * k : Nat) : Int)) + 2))], [], h)) rfl ?_
              rw [show (((2 * k : Nat) : Int) + 2) = ((2 * (k + 1) : Nat) : Int) by omega]
              exact r0
            · have hc3 : ¬ ((0 : Int) = 0) := hc3
              omega
theorem fWrong {r n q : Nat} (hh : aHp h) (hr : r < 6) (hn : hI h 58 0 = n) (hq : 2 ^ n = q) : nEv sc (d + 3) 196 [.ref 53, sI (r : Int)] h (some (sI (pWr (hI h 54 r) (fun j => hI h 55 (40 * r + j)) (q : Int))), h) := by
  have gz := hI_rg hh (rm_z hr)
  obtain ⟨z, hz⟩ : ∃ z, hI h 54 r = z := ⟨_, rfl⟩
  rw [hz] at gz ⊢
  refine nEv_of (t := mMe196) rfl ?_
  show nRn sc (d + 2) (mMT mMe196) (mMC mMe196) (0, [some (.ref 53), some (sI (r : Int)), none, none], [], h) _
  unfold pWr
  by_cases c0 : z = -1
  · rw [if_pos c0]
    refine sP 1 (g1 := (1, [some (.ref 53), some (sI ((r : Int))), none, none], [.ref 53], h)) rfl ?_
    refine s_get (a := 53) (j := 0) hh rfl ⟨_, rfl⟩ rfl rfl rfl (v := .ref 54) (hR_ok hh (by decide +kernel)) ?_
    refine sP 1 (g1 := (3, [some (.ref 53), some (sI ((r : Int))), none, none], [sI ((r : Int)), .ref 54], h)) rfl ?_
    refine s_iald (a := 54) (n := 6) (j := (r : Int)) hh rfl rfl rfl (by omega) (by omega) (by decide) (v := sI z) (by rw [Int.toNat_natCast]; have q := hI_ok hh (rm_z hr); rw [hz] at q; exact q) ?_
    refine s_ifc (q := .ge) (a := z) rfl ⟨_, rfl⟩ rfl (by unfold sR aMi aMa; omega) (fun hc1 => ?_) (fun hc1 => ?_)
    · have hc1 : (0 : Int) ≤ z := hc1
      omega
    · have hc1 : ¬ ((0 : Int) ≤ z) := hc1
      refine sP 1 (g1 := (6, [some (.ref 53), some (sI ((r : Int))), none, none], [sI 1], h)) rfl ?_
      exact s_reti rfl rfl (Or.inl rfl) rfl rfl
  · rw [if_neg c0]
    by_cases c1 : z % 2 ≠ 0 ∨ 12 < z
    · rw [if_pos c1]
      refine sP 1 (g1 := (1, [some (.ref 53), some (sI ((r : Int))), none, none], [.ref 53], h)) rfl ?_
      refine s_get (a := 53) (j := 0) hh rfl ⟨_, rfl⟩ rfl rfl rfl (v := .ref 54) (hR_ok hh (by decide +kernel)) ?_
      refine sP 1 (g1 := (3, [some (.ref 53), some (sI ((r : Int))), none, none], [sI ((r : Int)), .ref 54], h)) rfl ?_
      refine s_iald (a := 54) (n := 6) (j := (r : Int)) hh rfl rfl rfl (by omega) (by omega) (by decide) (v := sI z) (by rw [Int.toNat_natCast]; have q := hI_ok hh (rm_z hr); rw [hz] at q; exact q) ?_
      refine s_ifc (q := .ge) (a := z) rfl ⟨_, rfl⟩ rfl (by unfold sR aMi aMa; omega) (fun hc1 => ?_) (fun hc1 => ?_)
      · have hc1 : (0 : Int) ≤ z := hc1
        refine sP 1 (g1 := (8, [some (.ref 53), some (sI ((r : Int))), none, none], [.ref 53], h)) rfl ?_
        refine s_get (a := 53) (j := 0) hh rfl ⟨_, rfl⟩ rfl rfl rfl (v := .ref 54) (hR_ok hh (by decide +kernel)) ?_
        refine sP 1 (g1 := (10, [some (.ref 53), some (sI ((r : Int))), none, none], [sI ((r : Int)), .ref 54], h)) rfl ?_
        refine s_iald (a := 54) (n := 6) (j := (r : Int)) hh rfl rfl rfl (by omega) (by omega) (by decide) (v := sI z) (by rw [Int.toNat_natCast]; have q := hI_ok hh (rm_z hr); rw [hz] at q; exact q) ?_
        refine sP 1 (g1 := (12, [some (.ref 53), some (sI ((r : Int))), none, none], [sI 2, sI z], h)) rfl ?_
        refine s_remZ (a := z) rfl rfl (by omega) (by omega) ?_
        refine sP 1 (g1 := (14, [some (.ref 53), some (sI ((r : Int))), none, none], [sI 1, sI (z % 2)], h)) rfl ?_
        refine s_icmp (q := .eq) (a := z % 2) (b := 1) rfl ⟨_, rfl⟩ rfl (by unfold sR aMi aMa; omega) (by unfold sR aMi aMa; omega) (fun hc2 => ?_) (fun hc2 => ?_)
        · have hc2 : ((z % 2) : Int) = 1 := hc2
          refine sP 1 (g1 := (22, [some (.ref 53), some (sI ((r : Int))), none, none], [sI 5], h)) rfl ?_
          exact s_reti rfl rfl (Or.inl rfl) rfl rfl
        · have hc2 : ¬ (((z % 2) : Int) = 1) := hc2
          refine sP 1 (g1 := (16, [some (.ref 53), some (sI ((r : Int))), none, none], [.ref 53], h)) rfl ?_
          refine s_get (a := 53) (j := 0) hh rfl ⟨_, rfl⟩ rfl rfl rfl (v := .ref 54) (hR_ok hh (by decide +kernel)) ?_
          refine sP 1 (g1 := (18, [some (.ref 53), some (sI ((r : Int))), none, none], [sI ((r : Int)), .ref 54], h)) rfl ?_
          refine s_iald (a := 54) (n := 6) (j := (r : Int)) hh rfl rfl rfl (by omega) (by omega) (by decide) (v := sI z) (by rw [Int.toNat_natCast]; have q := hI_ok hh (rm_z hr); rw [hz] at q; exact q) ?_
          refine sP 1 (g1 := (20, [some (.ref 53), some (sI ((r : Int))), none, none], [sI 12, sI z], h)) rfl ?_
          refine s_icmp (q := .le) (a := z) (b := 12) rfl ⟨_, rfl⟩ rfl (by unfold sR aMi aMa; omega) (by unfold sR aMi aMa; omega) (fun hc3 => ?_) (fun hc3 => ?_)
          · have hc3 : (z : Int) ≤ 12 := hc3
            omega
          · have hc3 : ¬ ((z : Int) ≤ 12) := hc3
            refine sP 1 (g1 := (22, [some (.ref 53), some (sI ((r : Int))), none, none], [sI 5], h)) rfl ?_
            exact s_reti rfl rfl (Or.inl rfl) rfl rfl
      · have hc1 : ¬ ((0 : Int) ≤ z) := hc1
        omega
    · rw [if_neg c1]
      have r1 := fWrongL (sc := sc) (d := d) (K := (z / 2).toNat) hh hr hn hq hz (by omega) (by omega) (z / 2).toNat 0 true (by omega)
      rw [Bool.true_and] at r1
      refine sP 1 (g1 := (1, [some (.ref 53), some (sI ((r : Int))), none, none], [.ref 53], h)) rfl ?_
      refine s_get (a := 53) (j := 0) hh rfl ⟨_, rfl⟩ rfl rfl rfl (v := .ref 54) (hR_ok hh (by decide +kernel)) ?_
      refine sP 1 (g1 := (3, [some (.ref 53), some (sI ((r : Int))), none, none], [sI ((r : Int)), .ref 54], h)) rfl ?_
      refine s_iald (a := 54) (n := 6) (j := (r : Int)) hh rfl rfl rfl (by omega) (by omega) (by decide) (v := sI z) (by rw [Int.toNat_natCast]; have q := hI_ok hh (rm_z hr); rw [hz] at q; exact q) ?_
      refine s_ifc (q := .ge) (a := z) rfl ⟨_, rfl⟩ rfl (by unfold sR aMi aMa; omega) (fun hc1 => ?_) (fun hc1 => ?_)
      · have hc1 : (0 : Int) ≤ z := hc1
        refine sP 1 (g1 := (8, [some (.ref 53), some (sI ((r : Int))), none, none], [.ref 53], h)) rfl ?_
        refine s_get (a := 53) (j := 0) hh rfl ⟨_, rfl⟩ rfl rfl rfl (v := .ref 54) (hR_ok hh (by decide +kernel)) ?_
        refine sP 1 (g1 := (10, [some (.ref 53), some (sI ((r : Int))), none, none], [sI ((r : Int)), .ref 54], h)) rfl ?_
        refine s_iald (a := 54) (n := 6) (j := (r : Int)) hh rfl rfl rfl (by omega) (by omega) (by decide) (v := sI z) (by rw [Int.toNat_natCast]; have q := hI_ok hh (rm_z hr); rw [hz] at q; exact q) ?_
        refine sP 1 (g1 := (12, [some (.ref 53), some (sI ((r : Int))), none, none], [sI 2, sI z], h)) rfl ?_
        refine s_remZ (a := z) rfl rfl (by omega) (by omega) ?_
        refine sP 1 (g1 := (14, [some (.ref 53), some (sI ((r : Int))), none, none], [sI 1, sI (z % 2)], h)) rfl ?_
        refine s_icmp (q := .eq) (a := z % 2) (b := 1) rfl ⟨_, rfl⟩ rfl (by unfold sR aMi aMa; omega) (by unfold sR aMi aMa; omega) (fun hc2 => ?_) (fun hc2 => ?_)
        · have hc2 : ((z % 2) : Int) = 1 := hc2
          omega
        · have hc2 : ¬ (((z % 2) : Int) = 1) := hc2
          refine sP 1 (g1 := (16, [some (.ref 53), some (sI ((r : Int))), none, none], [.ref 53], h)) rfl ?_
          refine s_get (a := 53) (j := 0) hh rfl ⟨_, rfl⟩ rfl rfl rfl (v := .ref 54) (hR_ok hh (by decide +kernel)) ?_
          refine sP 1 (g1 := (18, [some (.ref 53), some (sI ((r : Int))), none, none], [sI ((r : Int)), .ref 54], h)) rfl ?_
          refine s_iald (a := 54) (n := 6) (j := (r : Int)) hh rfl rfl rfl (by omega) (by omega) (by decide) (v := sI z) (by rw [Int.toNat_natCast]; have q := hI_ok hh (rm_z hr); rw [hz] at q; exact q) ?_
          refine sP 1 (g1 := (20, [some (.ref 53), some (sI ((r : Int))), none, none], [sI 12, sI z], h)) rfl ?_
          refine s_icmp (q := .le) (a := z) (b := 12) rfl ⟨_, rfl⟩ rfl (by unfold sR aMi aMa; omega) (by unfold sR aMi aMa; omega) (fun hc3 => ?_) (fun hc3 => ?_)
          · have hc3 : (z : Int) ≤ 12 := hc3
            refine sP 4 (g1 := (27, [some (.ref 53), some (sI ((r : Int))), some (sI 1), some (sI 0)], [], h)) rfl ?_
            exact r1
          · have hc3 : ¬ ((z : Int) ≤ 12) := hc3
            omega
      · have hc1 : ¬ ((0 : Int) ≤ z) := hc1
        omega
end NOTE
