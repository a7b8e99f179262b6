/-! rows: the relation, and row, lay, tear, copy in every branch -/
section ROWS
variable {sc : List Int32} {d : Nat} {h : mH}
theorem ra_iz {r : Nat} (hr : r < 6) : zIn (21 + 2 * r) 1 (-1) 40 = true := (show ∀ r, r < 6 → zIn (21 + 2 * r) 1 (-1) 40 = true by decide +kernel) r hr
theorem ra_ic {r j : Nat} (hr : r < 6) (hj : j < 40) : zIn (22 + 2 * r) j (-2147483648) 2147483647 = true := (show ∀ r, r < 6 → ∀ j, j < 40 → zIn (22 + 2 * r) j (-2147483648) 2147483647 = true by decide +kernel) r hr j hj
theorem rm_iz {r : Nat} (hr : r < 6) : zIn 54 r (-1) 40 = true := (show ∀ r, r < 6 → zIn 54 r (-1) 40 = true by decide +kernel) r hr
theorem rm_ic {j : Nat} (hj : j < 240) : zIn 55 j (-2147483648) 2147483647 = true := (show ∀ j, j < 240 → zIn 55 j (-2147483648) 2147483647 = true by decide +kernel) j hj
theorem rm_cc {j : Nat} (hj : j < 240) : zCell 55 j (-2147483648) 2147483647 = true := (show ∀ j, j < 240 → zCell 55 j (-2147483648) 2147483647 = true by decide +kernel) j hj
theorem as_x : zIn 0 9 (-2147483648) 2147483647 = true := by decide +kernel
theorem as_m : zIn 53 8 (-2147483648) 2147483647 = true := by decide +kernel
theorem ra_tl {r t : Nat} (hr : r < 6) (ht : t < 6) : aTlB (22 + 2 * r) (22 + 2 * t) = true := (show ∀ r, r < 6 → ∀ t, t < 6 → aTlB (22 + 2 * r) (22 + 2 * t) = true by decide +kernel) r hr t ht
/-- what found leaves -/
noncomputable def oFX (f : Nat) (h g : mH) : Prop := aHp g ∧ ∀ p m, aSlot g p m = if p = 20 ∧ m = f then some (sI (hI h 20 f + 1)) else if p = 0 ∧ m = 8 then some (sI (f : Int)) else aSlot h p m
noncomputable def oFM (f : Nat) (h g : mH) : Prop := aHp g ∧ ∀ p m, aSlot g p m = if p = 62 ∧ m = f then some (sI (hI h 62 f + 1)) else if p = 53 ∧ m = 11 then some (sI (f : Int)) else aSlot h p m
/-- Arrays.fill of ints -/
theorem fFillGL {p n : Nat} {v : Int} (ht : sTg p = some (50, n)) (hb : n ≤ 100000) (hz : ∀ g j, aHp g → j < n → aHp (hset g p j (sI v))) : ∀ (c k : Nat) (h : mH), k + c = n → aHp h → ∃ h1, nRn sc d (mMT mMe11) (mMC mMe11) (5, [some (.ref p), some (sI v), some (sI (k : Int)), some (sI (n : Int))], [], h) (none, h1) ∧ aHp h1 ∧ ∀ b m, aSlot h1 b m = if b = p ∧ k ≤ m ∧ m < n then some (sI v) else aSlot h b m := by
  intro c
  induction c with
  | zero =>
    intro k h hk hh
    refine ⟨h, ?_, hh, fun b m => by rw [if_neg (by omega)]⟩
    refine sP 2 (g1 := (7, [some (.ref p), some (sI v), some (sI ((k : Int))), some (sI ((n : Int)))], [sI ((n : Int)), sI ((k : Int))], h)) rfl ?_
    refine s_icmp (q := .ge) (a := (k : Int)) (b := (n : Int)) rfl ⟨_, rfl⟩ rfl (by unfold sR aMi aMa; omega) (by unfold sR aMi aMa; omega) (fun hc1 => ?_) (fun hc1 => ?_)
    · have hc1 : (((n : Int)) : Int) ≤ ((k : Int)) := hc1
      exact s_ret rfl rfl
    · have hc1 : ¬ ((((n : Int)) : Int) ≤ ((k : Int))) := hc1
      omega
  | succ c ih =>
    intro k h hk hh
    have hh1 : aHp (hset h p (k : Int).toNat (sI v)) := by
      rw [Int.toNat_natCast]
      exact hz h k hh (by omega)
    obtain ⟨h2, r1, r2, r3⟩ := ih (k + 1) _ (by omega) hh1
    refine ⟨h2, ?_, r2, fun b m => ?_⟩
    rotate_left
    · rw [r3 b m, hset_slot hh ht (show (k : Int).toNat < n by omega)]
      by_cases e1 : b = p ∧ k ≤ m ∧ m < n
      · rw [if_pos e1]
        by_cases e2 : m = k
        · rw [if_neg (by omega), if_pos ⟨e1.1, by omega⟩]
        · rw [if_pos (by omega)]
      · rw [if_neg e1, if_neg (by omega), if_neg (by omega)]
    refine sP 2 (g1 := (7, [some (.ref p), some (sI v), some (sI ((k : Int))), some (sI ((n : Int)))], [sI ((n : Int)), sI ((k : Int))], h)) rfl ?_
    refine s_icmp (q := .ge) (a := (k : Int)) (b := (n : Int)) rfl ⟨_, rfl⟩ rfl (by unfold sR aMi aMa; omega) (by unfold sR aMi aMa; omega) (fun hc1 => ?_) (fun hc1 => ?_)
    · have hc1 : (((n : Int)) : Int) ≤ ((k : Int)) := hc1
      omega
    · have hc1 : ¬ ((((n : Int)) : Int) ≤ ((k : Int))) := hc1
      refine sP 3 (g1 := (11, [some (.ref p), some (sI v), some (sI ((k : Int))), some (sI ((n : Int)))], [sI v, sI ((k : Int)), .ref p], h)) rfl ?_
      refine s_iast (a := p) (n := n) (j := (k : Int)) hh rfl rfl ht (by omega) (by omega) hb ?_
      refine s_inc (a := (k : Int)) (n := 1) (k := 2) rfl rfl rfl ?_
      refine sP 1 (g1 := (5, [some (.ref p), some (sI v), some (sI (((k : Int)) + 1)), some (sI ((n : Int)))], [], (hset h p ((k : Int)).toNat (sI v)))) rfl ?_
      rw [show ((k : Int) + 1) = ((k + 1 : Nat) : Int) by omega]
      exact r1
theorem fFillG {p n : Nat} {v : Int} (ht : sTg p = some (50, n)) (hb : n ≤ 100000) (hz : ∀ g j, aHp g → j < n → aHp (hset g p j (sI v))) (hh : aHp h) : ∃ h1, nEv sc (d + 1) 11 [.ref p, sI v] h (none, h1) ∧ aHp h1 ∧ ∀ b m, aSlot h1 b m = if b = p ∧ m < n then some (sI v) else aSlot h b m := by
  obtain ⟨h1, r1, r2, r3⟩ := fFillGL (sc := sc) (d := d) ht hb hz n 0 h (by omega) hh
  refine ⟨h1, nEv_of (t := mMe11) rfl ?_, r2, fun b m => ?_⟩
  rotate_left
  · rw [r3 b m]
    by_cases e : b = p ∧ m < n
    · rw [if_pos e, if_pos (by omega)]
    · rw [if_neg e, if_neg (by omega)]
  show nRn sc d (mMT mMe11) (mMC mMe11) (0, [some (.ref p), some (sI v), none, none], [], h) _
  refine sP 3 (g1 := (3, [some (.ref p), some (sI v), some (sI 0), none], [.ref p], h)) rfl ?_
  refine s_len (a := p) (n := n) hh rfl rfl ht (by decide) ?_
  refine sP 1 (g1 := (5, [some (.ref p), some (sI v), some (sI 0), some (sI ((n : Nat)))], [], h)) rfl ?_
  exact r1
theorem fRowXb0 {r n : Int} (hh : aHp h) (rr : sR r) (rn : sR n) (hc : ¬ (0 ≤ r ∧ r < 6)) : nEv sc (d + 3) 7 [.ref 0, sI r, sI n] h (some (sI (-1)), h) := by
  unfold sR aMi aMa at rr rn
  refine nEv_of (t := mMe7) rfl ?_
  show nRn sc (d + 2) (mMT mMe7) (mMC mMe7) (0, [some (.ref 0), some (sI r), some (sI n), none], [], h) _
  refine sP 2 (g1 := (2, [some (.ref 0), some (sI r), some (sI n), none], [sI r, .ref 0], h)) rfl ?_
  refine s_call (k := 8) (args := [.ref 0, sI r]) (st := []) (v := some (.null)) (h1 := h) rfl ⟨rfl, rfl⟩ rfl rfl rfl rfl (sRcv hh (a := 0) rfl rfl) rfl (fRowNo (by unfold sR aMi aMa; omega) (by omega)) ?_
  refine sP 2 (g1 := (5, [some (.ref 0), some (sI r), some (sI n), some (.null)], [.null], h)) rfl ?_
  refine s_nil rfl (Or.inl ⟨⟨_, rfl⟩, rfl⟩) ?_
  refine sP 1 (g1 := (10, [some (.ref 0), some (sI r), some (sI n), some (.null)], [sI ((-1))], h)) rfl ?_
  exact s_reti rfl rfl (Or.inl rfl) rfl rfl
theorem fRowXb1 {r : Nat} {n : Int} (hh : aHp h) (hr : r < 6) (rn : sR n) (hc : 40 < n) : nEv sc (d + 3) 7 [.ref 0, sI (r : Int), sI n] h (some (sI (-1)), h) := by
  unfold sR aMi aMa at rn
  refine nEv_of (t := mMe7) rfl ?_
  show nRn sc (d + 2) (mMT mMe7) (mMC mMe7) (0, [some (.ref 0), some (sI ((r : Int))), some (sI n), none], [], h) _
  refine sP 2 (g1 := (2, [some (.ref 0), some (sI ((r : Int))), some (sI n), none], [sI ((r : Int)), .ref 0], h)) rfl ?_
  refine s_call (k := 8) (args := [.ref 0, sI ((r : Int))]) (st := []) (v := some (.ref (21 + 2 * r))) (h1 := h) rfl ⟨rfl, rfl⟩ rfl rfl rfl rfl (sRcv hh (a := 0) rfl rfl) rfl (fRowAt hh hr) ?_
  refine sP 2 (g1 := (5, [some (.ref 0), some (sI ((r : Int))), some (sI n), some (.ref (21 + 2 * r))], [.ref (21 + 2 * r)], h)) rfl ?_
  refine s_null rfl (Or.inl ⟨⟨_, rfl⟩, rfl⟩) ?_
  refine sP 2 (g1 := (8, [some (.ref 0), some (sI ((r : Int))), some (sI n), some (.ref (21 + 2 * r))], [sI 40, sI n], h)) rfl ?_
  refine s_icmp (q := .le) (a := n) (b := 40) rfl ⟨_, rfl⟩ rfl (by unfold sR aMi aMa; omega) (by unfold sR aMi aMa; omega) (fun hc1 => ?_) (fun hc1 => ?_)
  · have hc1 : (n : Int) ≤ 40 := hc1
    omega
  · have hc1 : ¬ ((n : Int) ≤ 40) := hc1
    refine sP 1 (g1 := (10, [some (.ref 0), some (sI ((r : Int))), some (sI n), some (.ref (21 + 2 * r))], [sI ((-1))], h)) rfl ?_
    exact s_reti rfl rfl (Or.inl rfl) rfl rfl
theorem fRowXw {r : Nat} {n : Int} (hh : aHp h) (hr : r < 6) (rn : sR n) (hc : n < 0) : ∃ g, nEv sc (d + 3) 7 [.ref 0, sI (r : Int), sI n] h (some (sI (-3)), g) ∧ oFX 5 h g := by
  unfold sR aMi aMa at rn
  obtain ⟨g1, r1, r2, r3⟩ := fFoundX (sc := sc) (d := d + 1) (f := 5) hh (by omega)
  refine ⟨g1, nEv_of (t := mMe7) rfl ?_, r2, r3⟩
  show nRn sc (d + 2) (mMT mMe7) (mMC mMe7) (0, [some (.ref 0), some (sI ((r : Int))), some (sI n), none], [], h) _
  refine sP 2 (g1 := (2, [some (.ref 0), some (sI ((r : Int))), some (sI n), none], [sI ((r : Int)), .ref 0], h)) rfl ?_
  refine s_call (k := 8) (args := [.ref 0, sI ((r : Int))]) (st := []) (v := some (.ref (21 + 2 * r))) (h1 := h) rfl ⟨rfl, rfl⟩ rfl rfl rfl rfl (sRcv hh (a := 0) rfl rfl) rfl (fRowAt hh hr) ?_
  refine sP 2 (g1 := (5, [some (.ref 0), some (sI ((r : Int))), some (sI n), some (.ref (21 + 2 * r))], [.ref (21 + 2 * r)], h)) rfl ?_
  refine s_null rfl (Or.inl ⟨⟨_, rfl⟩, rfl⟩) ?_
  refine sP 2 (g1 := (8, [some (.ref 0), some (sI ((r : Int))), some (sI n), some (.ref (21 + 2 * r))], [sI 40, sI n], h)) rfl ?_
  refine s_icmp (q := .le) (a := n) (b := 40) rfl ⟨_, rfl⟩ rfl (by unfold sR aMi aMa; omega) (by unfold sR aMi aMa; omega) (fun hc1 => ?_) (fun hc1 => ?_)
  · have hc1 : (n : Int) ≤ 40 := hc1
    refine sP 1 (g1 := (12, [some (.ref 0), some (sI ((r : Int))), some (sI n), some (.ref (21 + 2 * r))], [sI n], h)) rfl ?_
    refine s_ifc (q := .ge) (a := n) rfl ⟨_, rfl⟩ rfl (by unfold sR aMi aMa; omega) (fun hc2 => ?_) (fun hc2 => ?_)
    · have hc2 : (0 : Int) ≤ n := hc2
      omega
    · have hc2 : ¬ ((0 : Int) ≤ n) := hc2
      refine sP 2 (g1 := (15, [some (.ref 0), some (sI ((r : Int))), some (sI n), some (.ref (21 + 2 * r))], [sI 5, .ref 0], h)) rfl ?_
      refine s_call (k := 9) (args := [.ref 0, sI 5]) (st := []) (v := some (sI ((-3)))) (h1 := g1) rfl ⟨rfl, rfl⟩ rfl rfl rfl rfl (sRcv hh (a := 0) rfl rfl) rfl r1 ?_
      exact s_reti rfl rfl (Or.inl rfl) rfl rfl
  · have hc1 : ¬ ((n : Int) ≤ 40) := hc1
    omega
theorem fRowMb0 {r n : Int} (hh : aHp h) (rr : sR r) (rn : sR n) (hc : ¬ (0 ≤ r ∧ r < 6)) : nEv sc (d + 3) 125 [.ref 53, sI r, sI n] h (some (sI (-1)), h) := by
  unfold sR aMi aMa at rr rn
  refine nEv_of (t := mMe125) rfl ?_
  show nRn sc (d + 2) (mMT mMe125) (mMC mMe125) (0, [some (.ref 53), some (sI r), some (sI n), none], [], h) _
  refine sP 1 (g1 := (1, [some (.ref 53), some (sI r), some (sI n), none], [sI r], h)) rfl ?_
  have ev1 := fIsRow (sc := sc) (d := d) (h := h) (r := r) (by unfold sR aMi aMa; omega)
  rw [if_neg (by omega)] at ev1
  refine s_call (k := 126) (args := [sI r]) (st := []) (v := some (sI 0)) (h1 := h) rfl ⟨rfl, rfl⟩ rfl rfl rfl rfl rfl rfl ev1 ?_
  refine s_ifc (q := .eq) (a := 0) rfl ⟨_, rfl⟩ rfl (by unfold sR aMi aMa; omega) (fun hc2 => ?_) (fun hc2 => ?_)
  · have hc2 : (0 : Int) = 0 := hc2
    refine sP 1 (g1 := (7, [some (.ref 53), some (sI r), some (sI n), none], [sI ((-1))], h)) rfl ?_
    exact s_reti rfl rfl (Or.inl rfl) rfl rfl
  · have hc2 : ¬ ((0 : Int) = 0) := hc2
    omega
theorem fRowMb1 {r : Nat} {n : Int} (hh : aHp h) (hr : r < 6) (rn : sR n) (hc : 40 < n) : nEv sc (d + 3) 125 [.ref 53, sI (r : Int), sI n] h (some (sI (-1)), h) := by
  unfold sR aMi aMa at rn
  refine nEv_of (t := mMe125) rfl ?_
  show nRn sc (d + 2) (mMT mMe125) (mMC mMe125) (0, [some (.ref 53), some (sI ((r : Int))), some (sI n), none], [], h) _
  refine sP 1 (g1 := (1, [some (.ref 53), some (sI ((r : Int))), some (sI n), none], [sI ((r : Int))], h)) rfl ?_
  have ev1 := fIsRow (sc := sc) (d := d) (h := h) (r := (r : Int)) (by unfold sR aMi aMa; omega)
  rw [if_pos (by omega)] at ev1
  refine s_call (k := 126) (args := [sI ((r : Int))]) (st := []) (v := some (sI 1)) (h1 := h) rfl ⟨rfl, rfl⟩ rfl rfl rfl rfl rfl rfl ev1 ?_
  refine s_ifc (q := .eq) (a := 1) rfl ⟨_, rfl⟩ rfl (by unfold sR aMi aMa; omega) (fun hc2 => ?_) (fun hc2 => ?_)
  · have hc2 : (1 : Int) = 0 := hc2
    omega
  · have hc2 : ¬ ((1 : Int) = 0) := hc2
    refine sP 2 (g1 := (5, [some (.ref 53), some (sI ((r : Int))), some (sI n), none], [sI 40, sI n], h)) rfl ?_
    refine s_icmp (q := .le) (a := n) (b := 40) rfl ⟨_, rfl⟩ rfl (by unfold sR aMi aMa; omega) (by unfold sR aMi aMa; omega) (fun hc3 => ?_) (fun hc3 => ?_)
    · have hc3 : (n : Int) ≤ 40 := hc3
      omega
    · have hc3 : ¬ ((n : Int) ≤ 40) := hc3
      refine sP 1 (g1 := (7, [some (.ref 53), some (sI ((r : Int))), some (sI n), none], [sI ((-1))], h)) rfl ?_
      exact s_reti rfl rfl (Or.inl rfl) rfl rfl
theorem fRowMw {r : Nat} {n : Int} (hh : aHp h) (hr : r < 6) (rn : sR n) (hc : n < 0) : ∃ g, nEv sc (d + 3) 125 [.ref 53, sI (r : Int), sI n] h (some (sI (-3)), g) ∧ oFM 5 h g := by
  unfold sR aMi aMa at rn
  obtain ⟨g1, r1, r2, r3⟩ := fFoundM (sc := sc) (d := d + 1) (f := 5) hh (by omega)
  refine ⟨g1, nEv_of (t := mMe125) rfl ?_, r2, r3⟩
  show nRn sc (d + 2) (mMT mMe125) (mMC mMe125) (0, [some (.ref 53), some (sI ((r : Int))), some (sI n), none], [], h) _
  refine sP 1 (g1 := (1, [some (.ref 53), some (sI ((r : Int))), some (sI n), none], [sI ((r : Int))], h)) rfl ?_
  have ev1 := fIsRow (sc := sc) (d := d) (h := h) (r := (r : Int)) (by unfold sR aMi aMa; omega)
  rw [if_pos (by omega)] at ev1
  refine s_call (k := 126) (args := [sI ((r : Int))]) (st := []) (v := some (sI 1)) (h1 := h) rfl ⟨rfl, rfl⟩ rfl rfl rfl rfl rfl rfl ev1 ?_
  refine s_ifc (q := .eq) (a := 1) rfl ⟨_, rfl⟩ rfl (by unfold sR aMi aMa; omega) (fun hc2 => ?_) (fun hc2 => ?_)
  · have hc2 : (1 : Int) = 0 := hc2
    omega
  · have hc2 : ¬ ((1 : Int) = 0) := hc2
    refine sP 2 (g1 := (5, [some (.ref 53), some (sI ((r : Int))), some (sI n), none], [sI 40, sI n], h)) rfl ?_
    refine s_icmp (q := .le) (a := n) (b := 40) rfl ⟨_, rfl⟩ rfl (by unfold sR aMi aMa; omega) (by unfold sR aMi aMa; omega) (fun hc3 => ?_) (fun hc3 => ?_)
    · have hc3 : (n : Int) ≤ 40 := hc3
      refine sP 1 (g1 := (9, [some (.ref 53), some (sI ((r : Int))), some (sI n), none], [sI n], h)) rfl ?_
      refine s_ifc (q := .ge) (a := n) rfl ⟨_, rfl⟩ rfl (by unfold sR aMi aMa; omega) (fun hc4 => ?_) (fun hc4 => ?_)
      · have hc4 : (0 : Int) ≤ n := hc4
        omega
      · have hc4 : ¬ ((0 : Int) ≤ n) := hc4
        refine sP 2 (g1 := (12, [some (.ref 53), some (sI ((r : Int))), some (sI n), none], [sI 5, .ref 53], h)) rfl ?_
        refine s_call (k := 128) (args := [.ref 53, sI 5]) (st := []) (v := some (sI ((-3)))) (h1 := g1) rfl ⟨rfl, rfl⟩ rfl rfl rfl rfl (sRcv hh (a := 53) rfl rfl) rfl r1 ?_
        exact s_reti rfl rfl (Or.inl rfl) rfl rfl
    · have hc3 : ¬ ((n : Int) ≤ 40) := hc3
      omega
theorem fBeginR {r : Nat} {n : Int} (hr : r < 6) (hh : aHp h) (n0 : 0 ≤ n) (n1 : n ≤ 40) : ∃ h1, nEv sc (d + 2) 10 [.ref (21 + 2 * r), sI n] h (none, h1) ∧ aHp h1 ∧ ∀ b m, aSlot h1 b m = if b = 22 + 2 * r ∧ m < 40 then some (sI 0) else if b = 21 + 2 * r ∧ m = 1 then some (sI n) else aSlot h b m := by
  have hh1 : aHp (hset h (21 + 2 * r) 1 (sI n)) := hset_ii hh (ra_iz hr) (by omega) (by omega) (by unfold sR aMi aMa; omega)
  obtain ⟨h1, r1, r2, r3⟩ := fFillG (sc := sc) (d := d) (v := 0) (ra_2 hr) (by decide) (fun g j hg hj => hset_any hg (ra_ic hr hj)) hh1
  refine ⟨h1, nEv_of (t := mMe10) rfl ?_, r2, fun b m => ?_⟩
  rotate_left
  · rw [r3 b m, hset_slot hh (ra_t hr) (by omega)]
  show nRn sc (d + 1) (mMT mMe10) (mMC mMe10) (0, [some (.ref (21 + 2 * r)), some (sI n)], [], h) _
  refine sP 2 (g1 := (2, [some (.ref (21 + 2 * r)), some (sI n)], [sI n, .ref (21 + 2 * r)], h)) rfl ?_
  refine s_put (a := 21 + 2 * r) (j := 1) hh rfl ⟨_, rfl⟩ (ra_t hr) rfl rfl (by omega) rfl ?_
  refine sP 1 (g1 := (4, [some (.ref (21 + 2 * r)), some (sI n)], [.ref (21 + 2 * r)], (hset h (21 + 2 * r) 1 (sI n)))) rfl ?_
  refine s_get (a := 21 + 2 * r) (j := 0) hh1 rfl ⟨_, rfl⟩ (ra_t hr) rfl rfl (v := .ref (22 + 2 * r)) (hR_ok hh1 (ra_r hr)) ?_
  refine sP 1 (g1 := (6, [some (.ref (21 + 2 * r)), some (sI n)], [sI 0, .ref (22 + 2 * r)], (hset h (21 + 2 * r) 1 (sI n)))) rfl ?_
  refine s_call (k := 11) (args := [.ref (22 + 2 * r), sI 0]) (st := []) (v := none) (h1 := h1) rfl ⟨rfl, rfl⟩ rfl rfl rfl rfl rfl rfl r1 ?_
  exact s_ret rfl rfl
theorem fRowX {r : Nat} {n : Int} (hr : r < 6) (hh : aHp h) (n0 : 0 ≤ n) (n1 : n ≤ 40) : ∃ h1, nEv sc (d + 3) 7 [.ref 0, sI (r : Int), sI n] h (some (sI n), h1) ∧ aHp h1 ∧ ∀ b m, aSlot h1 b m = if b = 22 + 2 * r ∧ m < 40 then some (sI 0) else if b = 21 + 2 * r ∧ m = 1 then some (sI n) else aSlot h b m := by
  obtain ⟨h1, r1, r2, r3⟩ := fBeginR (sc := sc) (d := d) hr hh n0 n1
  refine ⟨h1, nEv_of (t := mMe7) rfl ?_, r2, r3⟩
  show nRn sc (d + 2) (mMT mMe7) (mMC mMe7) (0, [some (.ref 0), some (sI ((r : Int))), some (sI n), none], [], h) _
  refine sP 2 (g1 := (2, [some (.ref 0), some (sI ((r : Int))), some (sI n), none], [sI ((r : Int)), .ref 0], h)) rfl ?_
  refine s_call (k := 8) (args := [.ref 0, sI ((r : Int))]) (st := []) (v := some (.ref (21 + 2 * r))) (h1 := h) rfl ⟨rfl, rfl⟩ rfl rfl rfl rfl (sRcv hh (a := 0) rfl rfl) rfl (fRowAt hh hr) ?_
  refine sP 2 (g1 := (5, [some (.ref 0), some (sI ((r : Int))), some (sI n), some (.ref (21 + 2 * r))], [.ref (21 + 2 * r)], h)) rfl ?_
  refine s_null rfl (Or.inl ⟨⟨_, rfl⟩, rfl⟩) ?_
  refine sP 2 (g1 := (8, [some (.ref 0), some (sI ((r : Int))), some (sI n), some (.ref (21 + 2 * r))], [sI 40, sI n], h)) rfl ?_
  refine s_icmp (q := .le) (a := n) (b := 40) rfl ⟨_, rfl⟩ rfl (by unfold sR aMi aMa; omega) (by unfold sR aMi aMa; omega) (fun hc1 => ?_) (fun hc1 => ?_)
  · have hc1 : (n : Int) ≤ 40 := hc1
    refine sP 1 (g1 := (12, [some (.ref 0), some (sI ((r : Int))), some (sI n), some (.ref (21 + 2 * r))], [sI n], h)) rfl ?_
    refine s_ifc (q := .ge) (a := n) rfl ⟨_, rfl⟩ rfl (by unfold sR aMi aMa; omega) (fun hc2 => ?_) (fun hc2 => ?_)
    · have hc2 : (0 : Int) ≤ n := hc2
      refine sP 2 (g1 := (19, [some (.ref 0), some (sI ((r : Int))), some (sI n), some (.ref (21 + 2 * r))], [sI n, .ref (21 + 2 * r)], h)) rfl ?_
      refine s_call (k := 10) (args := [.ref (21 + 2 * r), sI n]) (st := []) (v := none) (h1 := h1) rfl ⟨rfl, rfl⟩ rfl rfl rfl rfl (sRcv hh (ra_t hr) rfl) rfl r1 ?_
      refine sP 1 (g1 := (21, [some (.ref 0), some (sI ((r : Int))), some (sI n), some (.ref (21 + 2 * r))], [sI n], h1)) rfl ?_
      exact s_reti rfl rfl (Or.inl rfl) rfl rfl
    · have hc2 : ¬ ((0 : Int) ≤ n) := hc2
      omega
  · have hc1 : ¬ ((n : Int) ≤ 40) := hc1
    omega
theorem fRowML {r : Nat} {n : Int} (hr : r < 6) (n0 : 0 ≤ n) (n1 : n ≤ 40) : ∀ (j k : Nat) (h : mH), k + j = 40 → aHp h → ∃ h1, nRn sc d (mMT mMe125) (mMC mMe125) (21, [some (.ref 53), some (sI (r : Int)), some (sI n), some (sI (k : Int))], [], h) (some (sI n), h1) ∧ aHp h1 ∧ ∀ b m, aSlot h1 b m = if b = 55 ∧ 40 * r + k ≤ m ∧ m < 40 * r + 40 then some (sI 0) else aSlot h b m := by
  intro j
  induction j with
  | zero =>
    intro k h hk hh
    refine ⟨h, ?_, hh, fun b m => by rw [if_neg (by omega)]⟩
    refine sP 2 (g1 := (23, [some (.ref 53), some (sI ((r : Int))), some (sI n), some (sI ((k : Int)))], [sI 40, sI ((k : Int))], h)) rfl ?_
    refine s_icmp (q := .ge) (a := (k : Int)) (b := 40) rfl ⟨_, rfl⟩ rfl (by unfold sR aMi aMa; omega) (by unfold sR aMi aMa; omega) (fun hc1 => ?_) (fun hc1 => ?_)
    · have hc1 : (40 : Int) ≤ ((k : Int)) := hc1
      refine sP 1 (g1 := (36, [some (.ref 53), some (sI ((r : Int))), some (sI n), some (sI ((k : Int)))], [sI n], h)) rfl ?_
      exact s_reti rfl rfl (Or.inl rfl) rfl rfl
    · have hc1 : ¬ ((40 : Int) ≤ ((k : Int))) := hc1
      omega
  | succ j ih =>
    intro k h hk hh
    have hh1 : aHp (hset h 55 (40 * (r : Int) + (k : Int)).toNat (sI 0)) := hset_any hh (rm_ic (by omega))
    obtain ⟨h2, r1, r2, r3⟩ := ih (k + 1) _ (by omega) hh1
    refine ⟨h2, ?_, r2, fun b m => ?_⟩
    rotate_left
    · rw [r3 b m, hset_slot (k := 50) (n := 240) hh rfl (by omega)]
      by_cases e1 : b = 55 ∧ 40 * r + k ≤ m ∧ m < 40 * r + 40
      · rw [if_pos e1]
        by_cases e2 : m = 40 * r + k
        · rw [if_neg (by omega), if_pos ⟨e1.1, by omega⟩]
        · rw [if_pos (by omega)]
      · rw [if_neg e1, if_neg (by omega), if_neg (by omega)]
    refine sP 2 (g1 := (23, [some (.ref 53), some (sI ((r : Int))), some (sI n), some (sI ((k : Int)))], [sI 40, sI ((k : Int))], h)) rfl ?_
    refine s_icmp (q := .ge) (a := (k : Int)) (b := 40) rfl ⟨_, rfl⟩ rfl (by unfold sR aMi aMa; omega) (by unfold sR aMi aMa; omega) (fun hc1 => ?_) (fun hc1 => ?_)
    · have hc1 : (40 : Int) ≤ ((k : Int)) := hc1
      omega
    · have hc1 : ¬ ((40 : Int) ≤ ((k : Int))) := hc1
      refine sP 1 (g1 := (25, [some (.ref 53), some (sI ((r : Int))), some (sI n), some (sI ((k : Int)))], [.ref 53], h)) rfl ?_
      refine s_get (a := 53) (j := 1) hh rfl ⟨_, rfl⟩ rfl rfl rfl (v := .ref 55) (hR_ok hh (by decide +kernel)) ?_
      refine sP 2 (g1 := (28, [some (.ref 53), some (sI ((r : Int))), some (sI n), some (sI ((k : Int)))], [sI ((r : Int)), sI 40, .ref 55], h)) rfl ?_
      refine s_mul (a := 40) (b := (r : Int)) rfl rfl ?_
      refine sP 1 (g1 := (30, [some (.ref 53), some (sI ((r : Int))), some (sI n), some (sI ((k : Int)))], [sI ((k : Int)), sI (40 * ((r : Int))), .ref 55], h)) rfl ?_
      refine s_add (a := 40 * ((r : Int))) (b := (k : Int)) rfl rfl ?_
      refine sP 1 (g1 := (32, [some (.ref 53), some (sI ((r : Int))), some (sI n), some (sI ((k : Int)))], [sI 0, sI ((40 * ((r : Int))) + ((k : Int))), .ref 55], h)) rfl ?_
      refine s_iast (a := 55) (n := 240) (j := (40 * ((r : Int))) + ((k : Int))) hh rfl rfl rfl (by omega) (by omega) (by decide) ?_
      refine s_inc (a := (k : Int)) (n := 1) (k := 3) rfl rfl rfl ?_
      refine sP 1 (g1 := (21, [some (.ref 53), some (sI ((r : Int))), some (sI n), some (sI (((k : Int)) + 1))], [], (hset h 55 ((40 * ((r : Int))) + ((k : Int))).toNat (sI 0)))) rfl ?_
      rw [show ((k : Int) + 1) = ((k + 1 : Nat) : Int) by omega]
      exact r1
theorem fRowM {r : Nat} {n : Int} (hr : r < 6) (hh : aHp h) (n0 : 0 ≤ n) (n1 : n ≤ 40) : ∃ h1, nEv sc (d + 3) 125 [.ref 53, sI (r : Int), sI n] h (some (sI n), h1) ∧ aHp h1 ∧ ∀ b m, aSlot h1 b m = if b = 55 ∧ 40 * r ≤ m ∧ m < 40 * r + 40 then some (sI 0) else if b = 54 ∧ m = r then some (sI n) else aSlot h b m := by
  have hh1 : aHp (hset h 54 (r : Int).toNat (sI n)) := by
    rw [Int.toNat_natCast]
    exact hset_ii hh (rm_iz hr) (by omega) (by omega) (by unfold sR aMi aMa; omega)
  obtain ⟨h1, r1, r2, r3⟩ := fRowML (sc := sc) (d := d + 2) hr n0 n1 40 0 _ (by omega) hh1
  refine ⟨h1, nEv_of (t := mMe125) rfl ?_, r2, fun b m => ?_⟩
  rotate_left
  · rw [r3 b m, hset_slot (k := 50) (n := 6) hh rfl (by omega), Int.toNat_natCast, Nat.add_zero]
  show nRn sc (d + 2) (mMT mMe125) (mMC mMe125) (0, [some (.ref 53), some (sI ((r : Int))), some (sI n), none], [], h) _
  refine sP 1 (g1 := (1, [some (.ref 53), some (sI ((r : Int))), some (sI n), none], [sI ((r : Int))], h)) rfl ?_
  have ev1 := fIsRow (sc := sc) (d := d) (h := h) (r := (r : Int)) (by unfold sR aMi aMa; omega)
  rw [if_pos (by omega)] at ev1
  refine s_call (k := 126) (args := [sI ((r : Int))]) (st := []) (v := some (sI 1)) (h1 := h) rfl ⟨rfl, rfl⟩ rfl rfl rfl rfl rfl rfl ev1 ?_
  refine s_ifc (q := .eq) (a := 1) rfl ⟨_, rfl⟩ rfl (by unfold sR aMi aMa; omega) (fun hc2 => ?_) (fun hc2 => ?_)
  · have hc2 : (1 : Int) = 0 := hc2
    omega
  · have hc2 : ¬ ((1 : Int) = 0) := hc2
    refine sP 2 (g1 := (5, [some (.ref 53), some (sI ((r : Int))), some (sI n), none], [sI 40, sI n], h)) rfl ?_
    refine s_icmp (q := .le) (a := n) (b := 40) rfl ⟨_, rfl⟩ rfl (by unfold sR aMi aMa; omega) (by unfold sR aMi aMa; omega) (fun hc3 => ?_) (fun hc3 => ?_)
    · have hc3 : (n : Int) ≤ 40 := hc3
      refine sP 1 (g1 := (9, [some (.ref 53), some (sI ((r : Int))), some (sI n), none], [sI n], h)) rfl ?_
      refine s_ifc (q := .ge) (a := n) rfl ⟨_, rfl⟩ rfl (by unfold sR aMi aMa; omega) (fun hc4 => ?_) (fun hc4 => ?_)
      · have hc4 : (0 : Int) ≤ n := hc4
        refine sP 1 (g1 := (15, [some (.ref 53), some (sI ((r : Int))), some (sI n), none], [.ref 53], h)) rfl ?_
        refine s_get (a := 53) (j := 0) hh rfl ⟨_, rfl⟩ rfl rfl rfl (v := .ref 54) (hR_ok hh (by decide +kernel)) ?_
        refine sP 2 (g1 := (18, [some (.ref 53), some (sI ((r : Int))), some (sI n), none], [sI n, sI ((r : Int)), .ref 54], h)) rfl ?_
        refine s_iast (a := 54) (n := 6) (j := (r : Int)) hh rfl rfl rfl (by omega) (by omega) (by decide) ?_
        refine sP 2 (g1 := (21, [some (.ref 53), some (sI ((r : Int))), some (sI n), some (sI 0)], [], (hset h 54 ((r : Int)).toNat (sI n)))) rfl ?_
        exact r1
      · have hc4 : ¬ ((0 : Int) ≤ n) := hc4
        omega
    · have hc3 : ¬ ((n : Int) ≤ 40) := hc3
      omega
theorem fTellM {z : Int} (hh : aHp h) : ∃ g, nEv sc (d + 1) 130 [.ref 53, sI z] h (some (sI 1), g) ∧ aHp g ∧ ∀ p m, aSlot g p m = if p = 53 ∧ m = 8 then some (sI z) else aSlot h p m := by
  obtain ⟨g1, eg1⟩ : ∃ gz, gz = hset h 53 8 (sI z) := ⟨_, rfl⟩
  have sg1 : ∀ xa xm, aSlot g1 xa xm = if xa = 53 ∧ xm = 8 then some (sI z) else aSlot h xa xm := fun xa xm => by rw [eg1]; exact hset_slot hh (show sTg 53 = some (7, 21) from rfl) (by omega) xa xm
  have hg1 : aHp g1 := by rw [eg1]; exact hset_any hh as_m
  refine ⟨g1, nEv_of (t := mMe130) rfl ?_, hg1, sg1⟩
  show nRn sc (d) (mMT mMe130) (mMC mMe130) (0, [some (.ref 53), some (sI z)], [], h) _
  refine sP 2 (g1 := (2, [some (.ref 53), some (sI z)], [sI z, .ref 53], h)) rfl ?_
  refine s_put (a := 53) (j := 8) (k := 7) (n := 21) hh rfl ⟨_, rfl⟩ (show sTg 53 = some (7, 21) from rfl) rfl rfl (by decide) rfl ?_
  rw [← eg1]
  refine sP 1 (g1 := (4, [some (.ref 53), some (sI z)], [sI 1], g1)) rfl ?_
  exact s_reti rfl rfl (Or.inl rfl) rfl rfl
theorem fLayXb0 {r i : Int} {v : Int32} (hh : aHp h) (rr : sR r) (hc : ¬ (0 ≤ r ∧ r < 6)) : nEv sc (d + 3) 12 [.ref 0, sI r, sI i, .int v] h (some (sI (-1)), h) := by
  unfold sR aMi aMa at rr
  refine nEv_of (t := mMe12) rfl ?_
  show nRn sc (d + 2) (mMT mMe12) (mMC mMe12) (0, [some (.ref 0), some (sI r), some (sI i), some (.int v), none, none], [], h) _
  refine sP 2 (g1 := (2, [some (.ref 0), some (sI r), some (sI i), some (.int v), none, none], [sI r, .ref 0], h)) rfl ?_
  refine s_call (k := 8) (args := [.ref 0, sI r]) (st := []) (v := some (.null)) (h1 := h) rfl ⟨rfl, rfl⟩ rfl rfl rfl rfl (sRcv hh (a := 0) rfl rfl) rfl (fRowNo (by unfold sR aMi aMa; omega) (by omega)) ?_
  refine sP 2 (g1 := (5, [some (.ref 0), some (sI r), some (sI i), some (.int v), some (.null), none], [.null], h)) rfl ?_
  refine s_nil rfl (Or.inr ⟨⟨_, rfl⟩, rfl⟩) ?_
  refine sP 1 (g1 := (7, [some (.ref 0), some (sI r), some (sI i), some (.int v), some (.null), none], [sI ((-1))], h)) rfl ?_
  exact s_reti rfl rfl (Or.inl rfl) rfl rfl
theorem fLayXw {r f : Nat} {i : Int} {v : Int32} (hh : aHp h) (hr : r < 6) (ri : sR i) (hf : f < 6) (f0 : f ≠ 0) (hw : (if hI h (21 + 2 * r) 1 = -1 then (1 : Int) else if i < 0 ∨ hI h (21 + 2 * r) 1 ≤ i then 2 else 0) = (f : Int)) : ∃ g, nEv sc (d + 3) 12 [.ref 0, sI (r : Int), sI i, .int v] h (some (sI (-3)), g) ∧ oFX f h g := by
  unfold sR aMi aMa at ri
  obtain ⟨g1, r1, r2, r3⟩ := fFoundX (sc := sc) (d := d + 1) (f := f) hh (by omega)
  refine ⟨g1, nEv_of (t := mMe12) rfl ?_, r2, r3⟩
  show nRn sc (d + 2) (mMT mMe12) (mMC mMe12) (0, [some (.ref 0), some (sI ((r : Int))), some (sI i), some (.int v), none, none], [], h) _
  refine sP 2 (g1 := (2, [some (.ref 0), some (sI ((r : Int))), some (sI i), some (.int v), none, none], [sI ((r : Int)), .ref 0], h)) rfl ?_
  refine s_call (k := 8) (args := [.ref 0, sI ((r : Int))]) (st := []) (v := some (.ref (21 + 2 * r))) (h1 := h) rfl ⟨rfl, rfl⟩ rfl rfl rfl rfl (sRcv hh (a := 0) rfl rfl) rfl (fRowAt hh hr) ?_
  refine sP 2 (g1 := (5, [some (.ref 0), some (sI ((r : Int))), some (sI i), some (.int v), some (.ref (21 + 2 * r)), none], [.ref (21 + 2 * r)], h)) rfl ?_
  refine s_null rfl (Or.inr ⟨⟨_, rfl⟩, rfl⟩) ?_
  refine sP 1 (g1 := (9, [some (.ref 0), some (sI ((r : Int))), some (sI i), some (.int v), some (.ref (21 + 2 * r)), none], [.ref (21 + 2 * r)], h)) rfl ?_
  have rg1 := hI_rg hh (ra_z hr)
  refine s_get (a := 21 + 2 * r) (j := 1) hh rfl ⟨_, rfl⟩ (ra_t hr) rfl rfl (v := sI (hI h (21 + 2 * r) 1)) (hI_ok hh (ra_z hr)) ?_
  refine sP 1 (g1 := (11, [some (.ref 0), some (sI ((r : Int))), some (sI i), some (.int v), some (.ref (21 + 2 * r)), none], [sI i, sI (hI h (21 + 2 * r) 1)], h)) rfl ?_
  have ev2 := fWhy (sc := sc) (d := d + 1) (h := h) (a := hI h (21 + 2 * r) 1) (b := i) (by omega) (by omega) (by omega) (by omega)
  rw [hw] at ev2
  refine s_call (k := 13) (args := [sI (hI h (21 + 2 * r) 1), sI i]) (st := []) (v := some (sI ((f : Int)))) (h1 := h) rfl ⟨rfl, rfl⟩ rfl rfl rfl rfl rfl rfl ev2 ?_
  refine sP 2 (g1 := (14, [some (.ref 0), some (sI ((r : Int))), some (sI i), some (.int v), some (.ref (21 + 2 * r)), some (sI ((f : Int)))], [sI ((f : Int))], h)) rfl ?_
  refine s_ifc (q := .eq) (a := (f : Int)) rfl ⟨_, rfl⟩ rfl (by unfold sR aMi aMa; omega) (fun hc3 => ?_) (fun hc3 => ?_)
  · have hc3 : (((f : Int)) : Int) = 0 := hc3
    omega
  · have hc3 : ¬ ((((f : Int)) : Int) = 0) := hc3
    refine sP 2 (g1 := (17, [some (.ref 0), some (sI ((r : Int))), some (sI i), some (.int v), some (.ref (21 + 2 * r)), some (sI ((f : Int)))], [sI ((f : Int)), .ref 0], h)) rfl ?_
    refine s_call (k := 9) (args := [.ref 0, sI ((f : Int))]) (st := []) (v := some (sI ((-3)))) (h1 := g1) rfl ⟨rfl, rfl⟩ rfl rfl rfl rfl (sRcv hh (a := 0) rfl rfl) rfl r1 ?_
    exact s_reti rfl rfl (Or.inl rfl) rfl rfl
theorem fLayMb0 {r i : Int} {v : Int32} (hh : aHp h) (rr : sR r) (hc : ¬ (0 ≤ r ∧ r < 6)) : nEv sc (d + 3) 129 [.ref 53, sI r, sI i, .int v] h (some (sI (-1)), h) := by
  unfold sR aMi aMa at rr
  refine nEv_of (t := mMe129) rfl ?_
  show nRn sc (d + 2) (mMT mMe129) (mMC mMe129) (0, [some (.ref 53), some (sI r), some (sI i), some (.int v), none], [], h) _
  refine sP 1 (g1 := (1, [some (.ref 53), some (sI r), some (sI i), some (.int v), none], [sI r], h)) rfl ?_
  have ev1 := fIsRow (sc := sc) (d := d) (h := h) (r := r) (by unfold sR aMi aMa; omega)
  rw [if_neg (by omega)] at ev1
  refine s_call (k := 126) (args := [sI r]) (st := []) (v := some (sI 0)) (h1 := h) rfl ⟨rfl, rfl⟩ rfl rfl rfl rfl rfl rfl ev1 ?_
  refine s_ifc (q := .ne) (a := 0) rfl ⟨_, rfl⟩ rfl (by unfold sR aMi aMa; omega) (fun hc2 => ?_) (fun hc2 => ?_)
  · have hc2 : (0 : Int) ≠ 0 := hc2
    omega
  · have hc2 : ¬ ((0 : Int) ≠ 0) := hc2
    refine sP 1 (g1 := (4, [some (.ref 53), some (sI r), some (sI i), some (.int v), none], [sI ((-1))], h)) rfl ?_
    exact s_reti rfl rfl (Or.inl rfl) rfl rfl
theorem fLayMw1 {r : Nat} {i : Int} {v : Int32} (hh : aHp h) (hr : r < 6) (hw : hI h 54 r < 0) : ∃ g, nEv sc (d + 3) 129 [.ref 53, sI (r : Int), sI i, .int v] h (some (sI (-3)), g) ∧ oFM 1 h g := by
  obtain ⟨g1, r1, r2, r3⟩ := fFoundM (sc := sc) (d := d + 1) (f := 1) hh (by omega)
  refine ⟨g1, nEv_of (t := mMe129) rfl ?_, r2, r3⟩
  show nRn sc (d + 2) (mMT mMe129) (mMC mMe129) (0, [some (.ref 53), some (sI ((r : Int))), some (sI i), some (.int v), none], [], h) _
  refine sP 1 (g1 := (1, [some (.ref 53), some (sI ((r : Int))), some (sI i), some (.int v), none], [sI ((r : Int))], h)) rfl ?_
  have ev1 := fIsRow (sc := sc) (d := d) (h := h) (r := (r : Int)) (by unfold sR aMi aMa; omega)
  rw [if_pos (by omega)] at ev1
  refine s_call (k := 126) (args := [sI ((r : Int))]) (st := []) (v := some (sI 1)) (h1 := h) rfl ⟨rfl, rfl⟩ rfl rfl rfl rfl rfl rfl ev1 ?_
  refine s_ifc (q := .ne) (a := 1) rfl ⟨_, rfl⟩ rfl (by unfold sR aMi aMa; omega) (fun hc2 => ?_) (fun hc2 => ?_)
  · have hc2 : (1 : Int) ≠ 0 := hc2
    refine sP 1 (g1 := (6, [some (.ref 53), some (sI ((r : Int))), some (sI i), some (.int v), none], [.ref 53], h)) rfl ?_
    refine s_get (a := 53) (j := 0) hh rfl ⟨_, rfl⟩ rfl rfl rfl (v := .ref 54) (hR_ok hh (by decide +kernel)) ?_
    refine sP 1 (g1 := (8, [some (.ref 53), some (sI ((r : Int))), some (sI i), some (.int v), none], [sI ((r : Int)), .ref 54], h)) rfl ?_
    have rg3 := hI_rg hh (rm_z hr)
    refine s_iald (a := 54) (n := 6) (j := (r : Int)) hh rfl rfl rfl (by omega) (by omega) (by decide) (v := sI (hI h 54 r)) (by rw [Int.toNat_natCast]; exact hI_ok hh (rm_z hr)) ?_
    refine s_ifc (q := .ge) (a := hI h 54 r) rfl ⟨_, rfl⟩ rfl (by unfold sR aMi aMa; omega) (fun hc4 => ?_) (fun hc4 => ?_)
    · have hc4 : (0 : Int) ≤ (hI h 54 r) := hc4
      omega
    · have hc4 : ¬ ((0 : Int) ≤ (hI h 54 r)) := hc4
      refine sP 2 (g1 := (12, [some (.ref 53), some (sI ((r : Int))), some (sI i), some (.int v), none], [sI 1, .ref 53], h)) rfl ?_
      refine s_call (k := 128) (args := [.ref 53, sI 1]) (st := []) (v := some (sI ((-3)))) (h1 := g1) rfl ⟨rfl, rfl⟩ rfl rfl rfl rfl (sRcv hh (a := 53) rfl rfl) rfl r1 ?_
      exact s_reti rfl rfl (Or.inl rfl) rfl rfl
  · have hc2 : ¬ ((1 : Int) ≠ 0) := hc2
    omega
theorem fLayMw2 {r : Nat} {i : Int} {v : Int32} (hh : aHp h) (hr : r < 6) (ri : sR i) (h0 : 0 ≤ hI h 54 r) (hw : ¬ (0 ≤ i ∧ i < hI h 54 r)) : ∃ g, nEv sc (d + 3) 129 [.ref 53, sI (r : Int), sI i, .int v] h (some (sI (-3)), g) ∧ oFM 2 h g := by
  unfold sR aMi aMa at ri
  obtain ⟨g1, r1, r2, r3⟩ := fFoundM (sc := sc) (d := d + 1) (f := 2) hh (by omega)
  refine ⟨g1, nEv_of (t := mMe129) rfl ?_, r2, r3⟩
  show nRn sc (d + 2) (mMT mMe129) (mMC mMe129) (0, [some (.ref 53), some (sI ((r : Int))), some (sI i), some (.int v), none], [], h) _
  refine sP 1 (g1 := (1, [some (.ref 53), some (sI ((r : Int))), some (sI i), some (.int v), none], [sI ((r : Int))], h)) rfl ?_
  have ev1 := fIsRow (sc := sc) (d := d) (h := h) (r := (r : Int)) (by unfold sR aMi aMa; omega)
  rw [if_pos (by omega)] at ev1
  refine s_call (k := 126) (args := [sI ((r : Int))]) (st := []) (v := some (sI 1)) (h1 := h) rfl ⟨rfl, rfl⟩ rfl rfl rfl rfl rfl rfl ev1 ?_
  refine s_ifc (q := .ne) (a := 1) rfl ⟨_, rfl⟩ rfl (by unfold sR aMi aMa; omega) (fun hc2 => ?_) (fun hc2 => ?_)
  · have hc2 : (1 : Int) ≠ 0 := hc2
    refine sP 1 (g1 := (6, [some (.ref 53), some (sI ((r : Int))), some (sI i), some (.int v), none], [.ref 53], h)) rfl ?_
    refine s_get (a := 53) (j := 0) hh rfl ⟨_, rfl⟩ rfl rfl rfl (v := .ref 54) (hR_ok hh (by decide +kernel)) ?_
    refine sP 1 (g1 := (8, [some (.ref 53), some (sI ((r : Int))), some (sI i), some (.int v), none], [sI ((r : Int)), .ref 54], h)) rfl ?_
    have rg3 := hI_rg hh (rm_z hr)
    refine s_iald (a := 54) (n := 6) (j := (r : Int)) hh rfl rfl rfl (by omega) (by omega) (by decide) (v := sI (hI h 54 r)) (by rw [Int.toNat_natCast]; exact hI_ok hh (rm_z hr)) ?_
    refine s_ifc (q := .ge) (a := hI h 54 r) rfl ⟨_, rfl⟩ rfl (by unfold sR aMi aMa; omega) (fun hc4 => ?_) (fun hc4 => ?_)
    · have hc4 : (0 : Int) ≤ (hI h 54 r) := hc4
      refine sP 1 (g1 := (15, [some (.ref 53), some (sI ((r : Int))), some (sI i), some (.int v), none], [sI i], h)) rfl ?_
      refine s_i2l (a := i) rfl rfl (by unfold sR aMi aMa; omega) ?_
      refine sP 2 (g1 := (18, [some (.ref 53), some (sI ((r : Int))), some (sI i), some (.int v), none], [.ref 53, sJ 0, sJ i], h)) rfl ?_
      refine s_get (a := 53) (j := 0) hh rfl ⟨_, rfl⟩ rfl rfl rfl (v := .ref 54) (hR_ok hh (by decide +kernel)) ?_
      refine sP 1 (g1 := (20, [some (.ref 53), some (sI ((r : Int))), some (sI i), some (.int v), none], [sI ((r : Int)), .ref 54, sJ 0, sJ i], h)) rfl ?_
      have rg5 := hI_rg hh (rm_z hr)
      refine s_iald (a := 54) (n := 6) (j := (r : Int)) hh rfl rfl rfl (by omega) (by omega) (by decide) (v := sI (hI h 54 r)) (by rw [Int.toNat_natCast]; exact hI_ok hh (rm_z hr)) ?_
      refine sP 1 (g1 := (22, [some (.ref 53), some (sI ((r : Int))), some (sI i), some (.int v), none], [sI 1, sI (hI h 54 r), sJ 0, sJ i], h)) rfl ?_
      refine s_sub (a := hI h 54 r) (b := 1) rfl rfl ?_
      refine s_i2l (a := (hI h 54 r) - 1) rfl rfl (by unfold sR aMi aMa; omega) ?_
      have ev6 := fIn (sc := sc) (d := d + 1) (h := h) (a := i) (b := 0) (e := (hI h 54 r) - 1) (by omega) (by omega) (by omega) (by omega) (by omega) (by omega)
      rw [if_neg (by omega)] at ev6
      refine s_call (k := 127) (args := [sJ i, sJ 0, sJ ((hI h 54 r) - 1)]) (st := []) (v := some (sI 0)) (h1 := h) rfl ⟨rfl, rfl⟩ rfl rfl rfl rfl rfl rfl ev6 ?_
      refine s_ifc (q := .ne) (a := 0) rfl ⟨_, rfl⟩ rfl (by unfold sR aMi aMa; omega) (fun hc7 => ?_) (fun hc7 => ?_)
      · have hc7 : (0 : Int) ≠ 0 := hc7
        omega
      · have hc7 : ¬ ((0 : Int) ≠ 0) := hc7
        refine sP 2 (g1 := (28, [some (.ref 53), some (sI ((r : Int))), some (sI i), some (.int v), none], [sI 2, .ref 53], h)) rfl ?_
        refine s_call (k := 128) (args := [.ref 53, sI 2]) (st := []) (v := some (sI ((-3)))) (h1 := g1) rfl ⟨rfl, rfl⟩ rfl rfl rfl rfl (sRcv hh (a := 53) rfl rfl) rfl r1 ?_
        exact s_reti rfl rfl (Or.inl rfl) rfl rfl
    · have hc4 : ¬ ((0 : Int) ≤ (hI h 54 r)) := hc4
      omega
  · have hc2 : ¬ ((1 : Int) ≠ 0) := hc2
    omega
theorem fLayX {r i : Nat} {v : Int32} (hh : aHp h) (hr : r < 6) (hi : (i : Int) < hI h (21 + 2 * r) 1) : ∃ g, nEv sc (d + 3) 12 [.ref 0, sI (r : Int), sI (i : Int), .int v] h (some (sI 1), g) ∧ aHp g ∧ ∀ p m, aSlot g p m = if p = 22 + 2 * r ∧ m = i then some (.int v) else if p = 0 ∧ m = 9 then some (sI (hI h (22 + 2 * r) i)) else aSlot h p m := by
  have sz := hI_rg hh (ra_z hr)
  obtain ⟨g1, eg1⟩ : ∃ gz, gz = hset h 0 9 (sI (hI h (22 + 2 * r) i)) := ⟨_, rfl⟩
  have sg1 : ∀ xa xm, aSlot g1 xa xm = if xa = 0 ∧ xm = 9 then some (sI (hI h (22 + 2 * r) i)) else aSlot h xa xm := fun xa xm => by rw [eg1]; exact hset_slot hh (show sTg 0 = some (0, 12) from rfl) (by omega) xa xm
  have hg1 : aHp g1 := by rw [eg1]; exact hset_any hh as_x
  obtain ⟨g2, eg2⟩ : ∃ gz, gz = hset g1 (22 + 2 * r) i (.int v) := ⟨_, rfl⟩
  have sg2 : ∀ xa xm, aSlot g2 xa xm = if xa = 22 + 2 * r ∧ xm = i then some (.int v) else aSlot g1 xa xm := fun xa xm => by rw [eg2]; exact hset_slot hg1 (ra_2 hr) (by omega) xa xm
  have hg2 : aHp g2 := by rw [eg2]; exact hset_any hg1 (ra_ic hr (by omega))
  refine ⟨g2, nEv_of (t := mMe12) rfl ?_, hg2, fun p m => by rw [sg2, sg1]⟩
  show nRn sc (d + 2) (mMT mMe12) (mMC mMe12) (0, [some (.ref 0), some (sI ((r : Int))), some (sI ((i : Int))), some (.int v), none, none], [], h) _
  refine sP 2 (g1 := (2, [some (.ref 0), some (sI ((r : Int))), some (sI ((i : Int))), some (.int v), none, none], [sI ((r : Int)), .ref 0], h)) rfl ?_
  refine s_call (k := 8) (args := [.ref 0, sI ((r : Int))]) (st := []) (v := some (.ref (21 + 2 * r))) (h1 := h) rfl ⟨rfl, rfl⟩ rfl rfl rfl rfl (sRcv hh (a := 0) rfl rfl) rfl (fRowAt hh hr) ?_
  refine sP 2 (g1 := (5, [some (.ref 0), some (sI ((r : Int))), some (sI ((i : Int))), some (.int v), some (.ref (21 + 2 * r)), none], [.ref (21 + 2 * r)], h)) rfl ?_
  refine s_null rfl (Or.inr ⟨⟨_, rfl⟩, rfl⟩) ?_
  refine sP 1 (g1 := (9, [some (.ref 0), some (sI ((r : Int))), some (sI ((i : Int))), some (.int v), some (.ref (21 + 2 * r)), none], [.ref (21 + 2 * r)], h)) rfl ?_
  have rg1 := hI_rg hh (ra_z hr)
  refine s_get (a := 21 + 2 * r) (j := 1) hh rfl ⟨_, rfl⟩ (ra_t hr) rfl rfl (v := sI (hI h (21 + 2 * r) 1)) (hI_ok hh (ra_z hr)) ?_
  refine sP 1 (g1 := (11, [some (.ref 0), some (sI ((r : Int))), some (sI ((i : Int))), some (.int v), some (.ref (21 + 2 * r)), none], [sI ((i : Int)), sI (hI h (21 + 2 * r) 1)], h)) rfl ?_
  have ev2 := fWhy (sc := sc) (d := d + 1) (h := h) (a := hI h (21 + 2 * r) 1) (b := (i : Int)) (by omega) (by omega) (by omega) (by omega)
  rw [if_neg (by omega), if_neg (by omega)] at ev2
  refine s_call (k := 13) (args := [sI (hI h (21 + 2 * r) 1), sI ((i : Int))]) (st := []) (v := some (sI 0)) (h1 := h) rfl ⟨rfl, rfl⟩ rfl rfl rfl rfl rfl rfl ev2 ?_
  refine sP 2 (g1 := (14, [some (.ref 0), some (sI ((r : Int))), some (sI ((i : Int))), some (.int v), some (.ref (21 + 2 * r)), some (sI 0)], [sI 0], h)) rfl ?_
  refine s_ifc (q := .eq) (a := 0) rfl ⟨_, rfl⟩ rfl (by unfold sR aMi aMa; omega) (fun hc3 => ?_) (fun hc3 => ?_)
  · have hc3 : (0 : Int) = 0 := hc3
    refine sP 2 (g1 := (21, [some (.ref 0), some (sI ((r : Int))), some (sI ((i : Int))), some (.int v), some (.ref (21 + 2 * r)), some (sI 0)], [.ref (21 + 2 * r), .ref 0], h)) rfl ?_
    refine s_get (a := 21 + 2 * r) (j := 0) hh rfl ⟨_, rfl⟩ (ra_t hr) rfl rfl (v := .ref (22 + 2 * r)) (hR_ok hh (ra_r hr)) ?_
    refine sP 1 (g1 := (23, [some (.ref 0), some (sI ((r : Int))), some (sI ((i : Int))), some (.int v), some (.ref (21 + 2 * r)), some (sI 0)], [sI ((i : Int)), .ref (22 + 2 * r), .ref 0], h)) rfl ?_
    refine s_iald (a := 22 + 2 * r) (n := 40) (j := (i : Int)) hh rfl rfl (ra_2 hr) (by omega) (by omega) (by decide) (v := sI (hI h (22 + 2 * r) i)) (by rw [Int.toNat_natCast]; exact hI_ok hh (ra_c hr (by omega))) ?_
    refine s_put (a := 0) (j := 9) (k := 0) (n := 12) hh rfl ⟨_, rfl⟩ (show sTg 0 = some (0, 12) from rfl) rfl rfl (by decide) rfl ?_
    rw [← eg1]
    refine sP 1 (g1 := (26, [some (.ref 0), some (sI ((r : Int))), some (sI ((i : Int))), some (.int v), some (.ref (21 + 2 * r)), some (sI 0)], [.ref (21 + 2 * r)], g1)) rfl ?_
    refine s_get (a := 21 + 2 * r) (j := 0) hg1 rfl ⟨_, rfl⟩ (ra_t hr) rfl rfl (v := .ref (22 + 2 * r)) (hR_ok hg1 (ra_r hr)) ?_
    refine sP 2 (g1 := (29, [some (.ref 0), some (sI ((r : Int))), some (sI ((i : Int))), some (.int v), some (.ref (21 + 2 * r)), some (sI 0)], [.int v, sI ((i : Int)), .ref (22 + 2 * r)], g1)) rfl ?_
    refine s_iast (a := 22 + 2 * r) (n := 40) (j := (i : Int)) hg1 rfl rfl (ra_2 hr) (by omega) (by omega) (by decide) ?_
    rw [show ((i : Int) : Int).toNat = i by omega]
    rw [← eg2]
    refine sP 1 (g1 := (31, [some (.ref 0), some (sI ((r : Int))), some (sI ((i : Int))), some (.int v), some (.ref (21 + 2 * r)), some (sI 0)], [sI 1], g2)) rfl ?_
    exact s_reti rfl rfl (Or.inl rfl) rfl rfl
  · have hc3 : ¬ ((0 : Int) = 0) := hc3
    omega
theorem fLayM {r i : Nat} {v : Int32} (hh : aHp h) (hr : r < 6) (hi : (i : Int) < hI h 54 r) : ∃ g, nEv sc (d + 3) 129 [.ref 53, sI (r : Int), sI (i : Int), .int v] h (some (sI 1), g) ∧ aHp g ∧ ∀ p m, aSlot g p m = if p = 53 ∧ m = 8 then some (sI (hI h 55 (40 * r + i))) else if p = 55 ∧ m = 40 * r + i then some (.int v) else aSlot h p m := by
  have sz := hI_rg hh (rm_z hr)
  obtain ⟨g1, eg1⟩ : ∃ gz, gz = hset h 55 ((40 * r + i)) (.int v) := ⟨_, rfl⟩
  have sg1 : ∀ xa xm, aSlot g1 xa xm = if xa = 55 ∧ xm = (40 * r + i) then some (.int v) else aSlot h xa xm := fun xa xm => by rw [eg1]; exact hset_slot hh (show sTg 55 = some (50, 240) from rfl) (by omega) xa xm
  have hg1 : aHp g1 := by rw [eg1]; exact hset_any hh (rm_ic (by omega))
  obtain ⟨g9, t1, t2, t3⟩ := fTellM (sc := sc) (d := d + 1) (z := hI h 55 (40 * r + i)) hg1
  refine ⟨g9, nEv_of (t := mMe129) rfl ?_, t2, fun p m => by rw [t3, sg1]⟩
  show nRn sc (d + 2) (mMT mMe129) (mMC mMe129) (0, [some (.ref 53), some (sI ((r : Int))), some (sI ((i : Int))), some (.int v), none], [], h) _
  refine sP 1 (g1 := (1, [some (.ref 53), some (sI ((r : Int))), some (sI ((i : Int))), some (.int v), none], [sI ((r : Int))], h)) rfl ?_
  have ev1 := fIsRow (sc := sc) (d := d) (h := h) (r := (r : Int)) (by unfold sR aMi aMa; omega)
  rw [if_pos (by omega)] at ev1
  refine s_call (k := 126) (args := [sI ((r : Int))]) (st := []) (v := some (sI 1)) (h1 := h) rfl ⟨rfl, rfl⟩ rfl rfl rfl rfl rfl rfl ev1 ?_
  refine s_ifc (q := .ne) (a := 1) rfl ⟨_, rfl⟩ rfl (by unfold sR aMi aMa; omega) (fun hc2 => ?_) (fun hc2 => ?_)
  · have hc2 : (1 : Int) ≠ 0 := hc2
    refine sP 1 (g1 := (6, [some (.ref 53), some (sI ((r : Int))), some (sI ((i : Int))), some (.int v), none], [.ref 53], h)) rfl ?_
    refine s_get (a := 53) (j := 0) hh rfl ⟨_, rfl⟩ rfl rfl rfl (v := .ref 54) (hR_ok hh (by decide +kernel)) ?_
    refine sP 1 (g1 := (8, [some (.ref 53), some (sI ((r : Int))), some (sI ((i : Int))), some (.int v), none], [sI ((r : Int)), .ref 54], h)) rfl ?_
    have rg3 := hI_rg hh (rm_z hr)
    refine s_iald (a := 54) (n := 6) (j := (r : Int)) hh rfl rfl rfl (by omega) (by omega) (by decide) (v := sI (hI h 54 r)) (by rw [Int.toNat_natCast]; exact hI_ok hh (rm_z hr)) ?_
    refine s_ifc (q := .ge) (a := hI h 54 r) rfl ⟨_, rfl⟩ rfl (by unfold sR aMi aMa; omega) (fun hc4 => ?_) (fun hc4 => ?_)
    · have hc4 : (0 : Int) ≤ (hI h 54 r) := hc4
      refine sP 1 (g1 := (15, [some (.ref 53), some (sI ((r : Int))), some (sI ((i : Int))), some (.int v), none], [sI ((i : Int))], h)) rfl ?_
      refine s_i2l (a := (i : Int)) rfl rfl (by unfold sR aMi aMa; omega) ?_
      refine sP 2 (g1 := (18, [some (.ref 53), some (sI ((r : Int))), some (sI ((i : Int))), some (.int v), none], [.ref 53, sJ 0, sJ ((i : Int))], h)) rfl ?_
      refine s_get (a := 53) (j := 0) hh rfl ⟨_, rfl⟩ rfl rfl rfl (v := .ref 54) (hR_ok hh (by decide +kernel)) ?_
      refine sP 1 (g1 := (20, [some (.ref 53), some (sI ((r : Int))), some (sI ((i : Int))), some (.int v), none], [sI ((r : Int)), .ref 54, sJ 0, sJ ((i : Int))], h)) rfl ?_
      have rg5 := hI_rg hh (rm_z hr)
      refine s_iald (a := 54) (n := 6) (j := (r : Int)) hh rfl rfl rfl (by omega) (by omega) (by decide) (v := sI (hI h 54 r)) (by rw [Int.toNat_natCast]; exact hI_ok hh (rm_z hr)) ?_
      refine sP 1 (g1 := (22, [some (.ref 53), some (sI ((r : Int))), some (sI ((i : Int))), some (.int v), none], [sI 1, sI (hI h 54 r), sJ 0, sJ ((i : Int))], h)) rfl ?_
      refine s_sub (a := hI h 54 r) (b := 1) rfl rfl ?_
      refine s_i2l (a := (hI h 54 r) - 1) rfl rfl (by unfold sR aMi aMa; omega) ?_
      have ev6 := fIn (sc := sc) (d := d + 1) (h := h) (a := (i : Int)) (b := 0) (e := (hI h 54 r) - 1) (by omega) (by omega) (by omega) (by omega) (by omega) (by omega)
      rw [if_pos (by omega)] at ev6
      refine s_call (k := 127) (args := [sJ ((i : Int)), sJ 0, sJ ((hI h 54 r) - 1)]) (st := []) (v := some (sI 1)) (h1 := h) rfl ⟨rfl, rfl⟩ rfl rfl rfl rfl rfl rfl ev6 ?_
      refine s_ifc (q := .ne) (a := 1) rfl ⟨_, rfl⟩ rfl (by unfold sR aMi aMa; omega) (fun hc7 => ?_) (fun hc7 => ?_)
      · have hc7 : (1 : Int) ≠ 0 := hc7
        refine sP 1 (g1 := (31, [some (.ref 53), some (sI ((r : Int))), some (sI ((i : Int))), some (.int v), none], [.ref 53], h)) rfl ?_
        refine s_get (a := 53) (j := 1) hh rfl ⟨_, rfl⟩ rfl rfl rfl (v := .ref 55) (hR_ok hh (by decide +kernel)) ?_
        refine sP 2 (g1 := (34, [some (.ref 53), some (sI ((r : Int))), some (sI ((i : Int))), some (.int v), none], [sI ((r : Int)), sI 40, .ref 55], h)) rfl ?_
        refine s_mul (a := 40) (b := (r : Int)) rfl rfl ?_
        refine sP 1 (g1 := (36, [some (.ref 53), some (sI ((r : Int))), some (sI ((i : Int))), some (.int v), none], [sI ((i : Int)), sI (40 * ((r : Int))), .ref 55], h)) rfl ?_
        refine s_add (a := 40 * ((r : Int))) (b := (i : Int)) rfl rfl ?_
        refine s_iald (a := 55) (n := 240) (j := (40 * ((r : Int))) + ((i : Int))) hh rfl rfl rfl (by omega) (by omega) (by decide) (v := sI (hI h 55 (40 * r + i))) (by rw [show ((40 * ((r : Int))) + ((i : Int)) : Int).toNat = 40 * r + i by omega]; exact hI_ok hh (rm_cc (by omega))) ?_
        refine sP 2 (g1 := (40, [some (.ref 53), some (sI ((r : Int))), some (sI ((i : Int))), some (.int v), some (sI (hI h 55 (40 * r + i)))], [.ref 53], h)) rfl ?_
        refine s_get (a := 53) (j := 1) hh rfl ⟨_, rfl⟩ rfl rfl rfl (v := .ref 55) (hR_ok hh (by decide +kernel)) ?_
        refine sP 2 (g1 := (43, [some (.ref 53), some (sI ((r : Int))), some (sI ((i : Int))), some (.int v), some (sI (hI h 55 (40 * r + i)))], [sI ((r : Int)), sI 40, .ref 55], h)) rfl ?_
        refine s_mul (a := 40) (b := (r : Int)) rfl rfl ?_
        refine sP 1 (g1 := (45, [some (.ref 53), some (sI ((r : Int))), some (sI ((i : Int))), some (.int v), some (sI (hI h 55 (40 * r + i)))], [sI ((i : Int)), sI (40 * ((r : Int))), .ref 55], h)) rfl ?_
        refine s_add (a := 40 * ((r : Int))) (b := (i : Int)) rfl rfl ?_
        refine sP 1 (g1 := (47, [some (.ref 53), some (sI ((r : Int))), some (sI ((i : Int))), some (.int v), some (sI (hI h 55 (40 * r + i)))], [.int v, sI ((40 * ((r : Int))) + ((i : Int))), .ref 55], h)) rfl ?_
        refine s_iast (a := 55) (n := 240) (j := (40 * ((r : Int))) + ((i : Int))) hh rfl rfl (show sTg 55 = some (50, 240) from rfl) (by omega) (by omega) (by decide) ?_
        rw [show ((40 * ((r : Int))) + ((i : Int)) : Int).toNat = (40 * r + i) by omega]
        rw [← eg1]
        refine sP 2 (g1 := (50, [some (.ref 53), some (sI ((r : Int))), some (sI ((i : Int))), some (.int v), some (sI (hI h 55 (40 * r + i)))], [sI (hI h 55 (40 * r + i)), .ref 53], g1)) rfl ?_
        refine s_call (k := 130) (args := [.ref 53, sI (hI h 55 (40 * r + i))]) (st := []) (v := some (sI 1)) (h1 := g9) rfl ⟨rfl, rfl⟩ rfl rfl rfl rfl (sRcv hg1 (a := 53) rfl rfl) rfl t1 ?_
        exact s_reti rfl rfl (Or.inl rfl) rfl rfl
      · have hc7 : ¬ ((1 : Int) ≠ 0) := hc7
        omega
    · have hc4 : ¬ ((0 : Int) ≤ (hI h 54 r)) := hc4
      omega
  · have hc2 : ¬ ((1 : Int) ≠ 0) := hc2
    omega
theorem fTearXb0 {r : Int} (hh : aHp h) (rr : sR r) (hc : ¬ (0 ≤ r ∧ r < 6)) : nEv sc (d + 3) 15 [.ref 0, sI r] h (some (sI (-1)), h) := by
  unfold sR aMi aMa at rr
  refine nEv_of (t := mMe15) rfl ?_
  show nRn sc (d + 2) (mMT mMe15) (mMC mMe15) (0, [some (.ref 0), some (sI r), none], [], h) _
  refine sP 2 (g1 := (2, [some (.ref 0), some (sI r), none], [sI r, .ref 0], h)) rfl ?_
  refine s_call (k := 8) (args := [.ref 0, sI r]) (st := []) (v := some (.null)) (h1 := h) rfl ⟨rfl, rfl⟩ rfl rfl rfl rfl (sRcv hh (a := 0) rfl rfl) rfl (fRowNo (by unfold sR aMi aMa; omega) (by omega)) ?_
  refine sP 2 (g1 := (5, [some (.ref 0), some (sI r), some (.null)], [.null], h)) rfl ?_
  refine s_nil rfl (Or.inr ⟨⟨_, rfl⟩, rfl⟩) ?_
  refine sP 1 (g1 := (7, [some (.ref 0), some (sI r), some (.null)], [sI ((-1))], h)) rfl ?_
  exact s_reti rfl rfl (Or.inl rfl) rfl rfl
theorem fTearXw {r : Nat} (hh : aHp h) (hr : r < 6) (hw : hI h (21 + 2 * r) 1 = -1) : ∃ g, nEv sc (d + 3) 15 [.ref 0, sI (r : Int)] h (some (sI (-3)), g) ∧ oFX 1 h g := by
  obtain ⟨g1, r1, r2, r3⟩ := fFoundX (sc := sc) (d := d + 1) (f := 1) hh (by omega)
  refine ⟨g1, nEv_of (t := mMe15) rfl ?_, r2, r3⟩
  show nRn sc (d + 2) (mMT mMe15) (mMC mMe15) (0, [some (.ref 0), some (sI ((r : Int))), none], [], h) _
  refine sP 2 (g1 := (2, [some (.ref 0), some (sI ((r : Int))), none], [sI ((r : Int)), .ref 0], h)) rfl ?_
  refine s_call (k := 8) (args := [.ref 0, sI ((r : Int))]) (st := []) (v := some (.ref (21 + 2 * r))) (h1 := h) rfl ⟨rfl, rfl⟩ rfl rfl rfl rfl (sRcv hh (a := 0) rfl rfl) rfl (fRowAt hh hr) ?_
  refine sP 2 (g1 := (5, [some (.ref 0), some (sI ((r : Int))), some (.ref (21 + 2 * r))], [.ref (21 + 2 * r)], h)) rfl ?_
  refine s_null rfl (Or.inr ⟨⟨_, rfl⟩, rfl⟩) ?_
  refine sP 1 (g1 := (9, [some (.ref 0), some (sI ((r : Int))), some (.ref (21 + 2 * r))], [.ref (21 + 2 * r)], h)) rfl ?_
  have rg1 := hI_rg hh (ra_z hr)
  refine s_get (a := 21 + 2 * r) (j := 1) hh rfl ⟨_, rfl⟩ (ra_t hr) rfl rfl (v := sI (hI h (21 + 2 * r) 1)) (hI_ok hh (ra_z hr)) ?_
  refine sP 1 (g1 := (11, [some (.ref 0), some (sI ((r : Int))), some (.ref (21 + 2 * r))], [sI ((-1)), sI (hI h (21 + 2 * r) 1)], h)) rfl ?_
  refine s_icmp (q := .ne) (a := hI h (21 + 2 * r) 1) (b := (-1)) rfl ⟨_, rfl⟩ rfl (by unfold sR aMi aMa; omega) (by unfold sR aMi aMa; omega) (fun hc2 => ?_) (fun hc2 => ?_)
  · have hc2 : ((hI h (21 + 2 * r) 1) : Int) ≠ ((-1)) := hc2
    omega
  · have hc2 : ¬ (((hI h (21 + 2 * r) 1) : Int) ≠ ((-1))) := hc2
    refine sP 2 (g1 := (14, [some (.ref 0), some (sI ((r : Int))), some (.ref (21 + 2 * r))], [sI 1, .ref 0], h)) rfl ?_
    refine s_call (k := 9) (args := [.ref 0, sI 1]) (st := []) (v := some (sI ((-3)))) (h1 := g1) rfl ⟨rfl, rfl⟩ rfl rfl rfl rfl (sRcv hh (a := 0) rfl rfl) rfl r1 ?_
    exact s_reti rfl rfl (Or.inl rfl) rfl rfl
theorem fTearMb0 {r : Int} (hh : aHp h) (rr : sR r) (hc : ¬ (0 ≤ r ∧ r < 6)) : nEv sc (d + 3) 132 [.ref 53, sI r] h (some (sI (-1)), h) := by
  unfold sR aMi aMa at rr
  refine nEv_of (t := mMe132) rfl ?_
  show nRn sc (d + 2) (mMT mMe132) (mMC mMe132) (0, [some (.ref 53), some (sI r)], [], h) _
  refine sP 1 (g1 := (1, [some (.ref 53), some (sI r)], [sI r], h)) rfl ?_
  have ev1 := fIsRow (sc := sc) (d := d) (h := h) (r := r) (by unfold sR aMi aMa; omega)
  rw [if_neg (by omega)] at ev1
  refine s_call (k := 126) (args := [sI r]) (st := []) (v := some (sI 0)) (h1 := h) rfl ⟨rfl, rfl⟩ rfl rfl rfl rfl rfl rfl ev1 ?_
  refine s_ifc (q := .ne) (a := 0) rfl ⟨_, rfl⟩ rfl (by unfold sR aMi aMa; omega) (fun hc2 => ?_) (fun hc2 => ?_)
  · have hc2 : (0 : Int) ≠ 0 := hc2
    omega
  · have hc2 : ¬ ((0 : Int) ≠ 0) := hc2
    refine sP 1 (g1 := (4, [some (.ref 53), some (sI r)], [sI ((-1))], h)) rfl ?_
    exact s_reti rfl rfl (Or.inl rfl) rfl rfl
theorem fTearMw {r : Nat} (hh : aHp h) (hr : r < 6) (hw : hI h 54 r < 0) : ∃ g, nEv sc (d + 3) 132 [.ref 53, sI (r : Int)] h (some (sI (-3)), g) ∧ oFM 1 h g := by
  obtain ⟨g1, r1, r2, r3⟩ := fFoundM (sc := sc) (d := d + 1) (f := 1) hh (by omega)
  refine ⟨g1, nEv_of (t := mMe132) rfl ?_, r2, r3⟩
  show nRn sc (d + 2) (mMT mMe132) (mMC mMe132) (0, [some (.ref 53), some (sI ((r : Int)))], [], h) _
  refine sP 1 (g1 := (1, [some (.ref 53), some (sI ((r : Int)))], [sI ((r : Int))], h)) rfl ?_
  have ev1 := fIsRow (sc := sc) (d := d) (h := h) (r := (r : Int)) (by unfold sR aMi aMa; omega)
  rw [if_pos (by omega)] at ev1
  refine s_call (k := 126) (args := [sI ((r : Int))]) (st := []) (v := some (sI 1)) (h1 := h) rfl ⟨rfl, rfl⟩ rfl rfl rfl rfl rfl rfl ev1 ?_
  refine s_ifc (q := .ne) (a := 1) rfl ⟨_, rfl⟩ rfl (by unfold sR aMi aMa; omega) (fun hc2 => ?_) (fun hc2 => ?_)
  · have hc2 : (1 : Int) ≠ 0 := hc2
    refine sP 1 (g1 := (6, [some (.ref 53), some (sI ((r : Int)))], [.ref 53], h)) rfl ?_
    refine s_get (a := 53) (j := 0) hh rfl ⟨_, rfl⟩ rfl rfl rfl (v := .ref 54) (hR_ok hh (by decide +kernel)) ?_
    refine sP 1 (g1 := (8, [some (.ref 53), some (sI ((r : Int)))], [sI ((r : Int)), .ref 54], h)) rfl ?_
    have rg3 := hI_rg hh (rm_z hr)
    refine s_iald (a := 54) (n := 6) (j := (r : Int)) hh rfl rfl rfl (by omega) (by omega) (by decide) (v := sI (hI h 54 r)) (by rw [Int.toNat_natCast]; exact hI_ok hh (rm_z hr)) ?_
    refine s_ifc (q := .ge) (a := hI h 54 r) rfl ⟨_, rfl⟩ rfl (by unfold sR aMi aMa; omega) (fun hc4 => ?_) (fun hc4 => ?_)
    · have hc4 : (0 : Int) ≤ (hI h 54 r) := hc4
      omega
    · have hc4 : ¬ ((0 : Int) ≤ (hI h 54 r)) := hc4
      refine sP 2 (g1 := (12, [some (.ref 53), some (sI ((r : Int)))], [sI 1, .ref 53], h)) rfl ?_
      refine s_call (k := 128) (args := [.ref 53, sI 1]) (st := []) (v := some (sI ((-3)))) (h1 := g1) rfl ⟨rfl, rfl⟩ rfl rfl rfl rfl (sRcv hh (a := 53) rfl rfl) rfl r1 ?_
      exact s_reti rfl rfl (Or.inl rfl) rfl rfl
  · have hc2 : ¬ ((1 : Int) ≠ 0) := hc2
    omega
theorem fTearX {r : Nat} (hh : aHp h) (hr : r < 6) (hw : hI h (21 + 2 * r) 1 ≠ -1) : ∃ g, nEv sc (d + 3) 15 [.ref 0, sI (r : Int)] h (some (sI 1), g) ∧ aHp g ∧ ∀ p m, aSlot g p m = if p = 21 + 2 * r ∧ m = 1 then some (sI (-1)) else aSlot h p m := by
  obtain ⟨g1, eg1⟩ : ∃ gz, gz = hset h (21 + 2 * r) 1 (sI (-1)) := ⟨_, rfl⟩
  have sg1 : ∀ xa xm, aSlot g1 xa xm = if xa = 21 + 2 * r ∧ xm = 1 then some (sI (-1)) else aSlot h xa xm := fun xa xm => by rw [eg1]; exact hset_slot hh (ra_t hr) (by omega) xa xm
  have hg1 : aHp g1 := by rw [eg1]; exact hset_ii hh (ra_iz hr) (by omega) (by omega) (by unfold sR aMi aMa; omega)
  refine ⟨g1, nEv_of (t := mMe15) rfl ?_, hg1, sg1⟩
  show nRn sc (d + 2) (mMT mMe15) (mMC mMe15) (0, [some (.ref 0), some (sI ((r : Int))), none], [], h) _
  refine sP 2 (g1 := (2, [some (.ref 0), some (sI ((r : Int))), none], [sI ((r : Int)), .ref 0], h)) rfl ?_
  refine s_call (k := 8) (args := [.ref 0, sI ((r : Int))]) (st := []) (v := some (.ref (21 + 2 * r))) (h1 := h) rfl ⟨rfl, rfl⟩ rfl rfl rfl rfl (sRcv hh (a := 0) rfl rfl) rfl (fRowAt hh hr) ?_
  refine sP 2 (g1 := (5, [some (.ref 0), some (sI ((r : Int))), some (.ref (21 + 2 * r))], [.ref (21 + 2 * r)], h)) rfl ?_
  refine s_null rfl (Or.inr ⟨⟨_, rfl⟩, rfl⟩) ?_
  refine sP 1 (g1 := (9, [some (.ref 0), some (sI ((r : Int))), some (.ref (21 + 2 * r))], [.ref (21 + 2 * r)], h)) rfl ?_
  have rg1 := hI_rg hh (ra_z hr)
  refine s_get (a := 21 + 2 * r) (j := 1) hh rfl ⟨_, rfl⟩ (ra_t hr) rfl rfl (v := sI (hI h (21 + 2 * r) 1)) (hI_ok hh (ra_z hr)) ?_
  refine sP 1 (g1 := (11, [some (.ref 0), some (sI ((r : Int))), some (.ref (21 + 2 * r))], [sI ((-1)), sI (hI h (21 + 2 * r) 1)], h)) rfl ?_
  refine s_icmp (q := .ne) (a := hI h (21 + 2 * r) 1) (b := (-1)) rfl ⟨_, rfl⟩ rfl (by unfold sR aMi aMa; omega) (by unfold sR aMi aMa; omega) (fun hc2 => ?_) (fun hc2 => ?_)
  · have hc2 : ((hI h (21 + 2 * r) 1) : Int) ≠ ((-1)) := hc2
    refine sP 2 (g1 := (18, [some (.ref 0), some (sI ((r : Int))), some (.ref (21 + 2 * r))], [sI ((-1)), .ref (21 + 2 * r)], h)) rfl ?_
    refine s_put (a := 21 + 2 * r) (j := 1) (k := 5) (n := 2) hh rfl ⟨_, rfl⟩ (ra_t hr) rfl rfl (by decide) rfl ?_
    rw [← eg1]
    refine sP 1 (g1 := (20, [some (.ref 0), some (sI ((r : Int))), some (.ref (21 + 2 * r))], [sI 1], g1)) rfl ?_
    exact s_reti rfl rfl (Or.inl rfl) rfl rfl
  · have hc2 : ¬ (((hI h (21 + 2 * r) 1) : Int) ≠ ((-1))) := hc2
    omega
theorem fTearM {r : Nat} (hh : aHp h) (hr : r < 6) (hw : 0 ≤ hI h 54 r) : ∃ g, nEv sc (d + 3) 132 [.ref 53, sI (r : Int)] h (some (sI 1), g) ∧ aHp g ∧ ∀ p m, aSlot g p m = if p = 54 ∧ m = r then some (sI (-1)) else aSlot h p m := by
  obtain ⟨g1, eg1⟩ : ∃ gz, gz = hset h 54 r (sI (-1)) := ⟨_, rfl⟩
  have sg1 : ∀ xa xm, aSlot g1 xa xm = if xa = 54 ∧ xm = r then some (sI (-1)) else aSlot h xa xm := fun xa xm => by rw [eg1]; exact hset_slot hh (show sTg 54 = some (50, 6) from rfl) (by omega) xa xm
  have hg1 : aHp g1 := by rw [eg1]; exact hset_ii hh (rm_iz hr) (by omega) (by omega) (by unfold sR aMi aMa; omega)
  refine ⟨g1, nEv_of (t := mMe132) rfl ?_, hg1, sg1⟩
  show nRn sc (d + 2) (mMT mMe132) (mMC mMe132) (0, [some (.ref 53), some (sI ((r : Int)))], [], h) _
  refine sP 1 (g1 := (1, [some (.ref 53), some (sI ((r : Int)))], [sI ((r : Int))], h)) rfl ?_
  have ev1 := fIsRow (sc := sc) (d := d) (h := h) (r := (r : Int)) (by unfold sR aMi aMa; omega)
  rw [if_pos (by omega)] at ev1
  refine s_call (k := 126) (args := [sI ((r : Int))]) (st := []) (v := some (sI 1)) (h1 := h) rfl ⟨rfl, rfl⟩ rfl rfl rfl rfl rfl rfl ev1 ?_
  refine s_ifc (q := .ne) (a := 1) rfl ⟨_, rfl⟩ rfl (by unfold sR aMi aMa; omega) (fun hc2 => ?_) (fun hc2 => ?_)
  · have hc2 : (1 : Int) ≠ 0 := hc2
    refine sP 1 (g1 := (6, [some (.ref 53), some (sI ((r : Int)))], [.ref 53], h)) rfl ?_
    refine s_get (a := 53) (j := 0) hh rfl ⟨_, rfl⟩ rfl rfl rfl (v := .ref 54) (hR_ok hh (by decide +kernel)) ?_
    refine sP 1 (g1 := (8, [some (.ref 53), some (sI ((r : Int)))], [sI ((r : Int)), .ref 54], h)) rfl ?_
    have rg3 := hI_rg hh (rm_z hr)
    refine s_iald (a := 54) (n := 6) (j := (r : Int)) hh rfl rfl rfl (by omega) (by omega) (by decide) (v := sI (hI h 54 r)) (by rw [Int.toNat_natCast]; exact hI_ok hh (rm_z hr)) ?_
    refine s_ifc (q := .ge) (a := hI h 54 r) rfl ⟨_, rfl⟩ rfl (by unfold sR aMi aMa; omega) (fun hc4 => ?_) (fun hc4 => ?_)
    · have hc4 : (0 : Int) ≤ (hI h 54 r) := hc4
      refine sP 1 (g1 := (15, [some (.ref 53), some (sI ((r : Int)))], [.ref 53], h)) rfl ?_
      refine s_get (a := 53) (j := 0) hh rfl ⟨_, rfl⟩ rfl rfl rfl (v := .ref 54) (hR_ok hh (by decide +kernel)) ?_
      refine sP 2 (g1 := (18, [some (.ref 53), some (sI ((r : Int)))], [sI ((-1)), sI ((r : Int)), .ref 54], h)) rfl ?_
      refine s_iast (a := 54) (n := 6) (j := (r : Int)) hh rfl rfl (show sTg 54 = some (50, 6) from rfl) (by omega) (by omega) (by decide) ?_
      rw [show ((r : Int) : Int).toNat = r by omega]
      rw [← eg1]
      refine sP 1 (g1 := (20, [some (.ref 53), some (sI ((r : Int)))], [sI 1], g1)) rfl ?_
      exact s_reti rfl rfl (Or.inl rfl) rfl rfl
    · have hc4 : ¬ ((0 : Int) ≤ (hI h 54 r)) := hc4
      omega
  · have hc2 : ¬ ((1 : Int) ≠ 0) := hc2
    omega
end ROWS
