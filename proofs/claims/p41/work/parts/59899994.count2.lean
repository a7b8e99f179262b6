/-! how many of each -/
def cN (f : Nat → Bool) : Nat → Nat
  | 0 => 0
  | k + 1 => cN f k + (if f k = true then 1 else 0)
theorem cN_s1 {f : Nat → Bool} {k : Nat} (h : f k = true) : cN f (k + 1) = cN f k + 1 := by
  show cN f k + (if f k = true then 1 else 0) = _
  rw [if_pos h]
theorem cN_s0 {f : Nat → Bool} {k : Nat} (h : f k = false) : cN f (k + 1) = cN f k := by
  show cN f k + (if f k = true then 1 else 0) = _
  rw [if_neg (by rw [h]; decide), Nat.add_zero]
theorem cN_le {f : Nat → Bool} : ∀ k, cN f k ≤ k
  | 0 => Nat.le_refl _
  | k + 1 => by
    show cN f k + (if f k = true then 1 else 0) ≤ k + 1
    have := cN_le (f := f) k
    split <;> omega
theorem cN_cg {f g : Nat → Bool} {n : Nat} (h : ∀ k, k < n → f k = g k) : ∀ k, k ≤ n → cN f k = cN g k
  | 0, _ => rfl
  | k + 1, hk => by
    show cN f k + (if f k = true then 1 else 0) = cN g k + (if g k = true then 1 else 0)
    rw [cN_cg h k (by omega), h k (by omega)]
section CNT
variable {sc : List Int32} {d : Nat} {h : mH}
theorem ke_t {k : Nat} (hk : k < 3) : sTg (41 + 4 * k) = some (1, 7) := (show ∀ k, k < 3 → sTg (41 + 4 * k) = some (1, 7) by decide +kernel) k hk
theorem fRowsNL (hh : aHp h) : ∀ (c k : Nat), k + c = 6 → nRn sc d (mMT mMe115) (mMC mMe115) (4, [some (.ref 0), some (sI ((cN (fun r => decide (hI h (21 + 2 * r) 1 ≠ -1)) k : Nat) : Int)), some (sI (k : Int))], [], h) (some (sI ((cN (fun r => decide (hI h (21 + 2 * r) 1 ≠ -1)) 6 : Nat) : Int)), h) := by
  intro c
  induction c with
  | zero =>
    intro k hk
    have e : k = 6 := by omega
    subst e
    refine sP 2 (g1 := (6, [some (.ref 0), some (sI (((cN (fun r => decide (hI h (21 + 2 * r) 1 ≠ -1)) 6 : Nat) : Int))), some (sI (((6 : Nat) : Int)))], [sI 6, sI (((6 : Nat) : Int))], h)) rfl ?_
    refine s_icmp (q := .ge) (a := ((6 : Nat) : Int)) (b := 6) rfl ⟨_, rfl⟩ rfl (by unfold sR aMi aMa; omega) (by unfold sR aMi aMa; omega) (fun hc1 => ?_) (fun hc1 => ?_)
    · have hc1 : (6 : Int) ≤ (((6 : Nat) : Int)) := hc1
      refine sP 1 (g1 := (18, [some (.ref 0), some (sI (((cN (fun r => decide (hI h (21 + 2 * r) 1 ≠ -1)) 6 : Nat) : Int))), some (sI (((6 : Nat) : Int)))], [sI (((cN (fun r => decide (hI h (21 + 2 * r) 1 ≠ -1)) 6 : Nat) : Int))], h)) rfl ?_
      exact s_reti rfl rfl (Or.inl rfl) rfl rfl
    · have hc1 : ¬ ((6 : Int) ≤ (((6 : Nat) : Int))) := hc1
      omega
  | succ c ih =>
    intro k hk
    have hk2 : k < 6 := by omega
    have le := cN_le (f := (fun r => decide (hI h (21 + 2 * r) 1 ≠ -1))) k
    have r1 := ih (k + 1) (by omega)
    refine sP 2 (g1 := (6, [some (.ref 0), some (sI (((cN (fun r => decide (hI h (21 + 2 * r) 1 ≠ -1)) k : Nat) : Int))), some (sI ((k : Int)))], [sI 6, sI ((k : Int))], h)) rfl ?_
    refine s_icmp (q := .ge) (a := (k : Int)) (b := 6) rfl ⟨_, rfl⟩ rfl (by unfold sR aMi aMa; omega) (by unfold sR aMi aMa; omega) (fun hc1 => ?_) (fun hc1 => ?_)
    · have hc1 : (6 : Int) ≤ ((k : Int)) := hc1
      omega
    · have hc1 : ¬ ((6 : Int) ≤ ((k : Int))) := hc1
      refine sP 1 (g1 := (8, [some (.ref 0), some (sI (((cN (fun r => decide (hI h (21 + 2 * r) 1 ≠ -1)) k : Nat) : Int))), some (sI ((k : Int)))], [.ref 0], h)) rfl ?_
      refine s_get (a := 0) (j := 0) hh rfl ⟨_, rfl⟩ rfl rfl rfl (v := .ref 1) (hR_ok hh (by decide +kernel)) ?_
      refine sP 1 (g1 := (10, [some (.ref 0), some (sI (((cN (fun r => decide (hI h (21 + 2 * r) 1 ≠ -1)) k : Nat) : Int))), some (sI ((k : Int)))], [sI ((k : Int)), .ref 1], h)) rfl ?_
      refine s_aald (a := 1) (n := 6) (j := (k : Int)) hh rfl rfl rfl (by decide) (by omega) (by omega) (by decide) (v := .ref (21 + 2 * k)) (by rw [Int.toNat_natCast]; exact hR_ok hh (ra_q hk2)) ?_
      have rg2 := hI_rg hh (ra_z hk2)
      refine s_get (a := 21 + 2 * k) (j := 1) hh rfl ⟨_, rfl⟩ (ra_t hk2) rfl rfl (v := sI (hI h (21 + 2 * k) 1)) (hI_ok hh (ra_z hk2)) ?_
      refine sP 1 (g1 := (13, [some (.ref 0), some (sI (((cN (fun r => decide (hI h (21 + 2 * r) 1 ≠ -1)) k : Nat) : Int))), some (sI ((k : Int)))], [sI ((-1)), sI (hI h (21 + 2 * k) 1)], h)) rfl ?_
      refine s_icmp (q := .eq) (a := hI h (21 + 2 * k) 1) (b := (-1)) rfl ⟨_, rfl⟩ rfl (by unfold sR aMi aMa; omega) (by unfold sR aMi aMa; omega) (fun hc3 => ?_) (fun hc3 => ?_)
      · have hc3 : ((hI h (21 + 2 * k) 1) : Int) = ((-1)) := hc3
        refine s_inc (a := (k : Int)) (n := 1) (k := 2) rfl rfl rfl ?_
        refine sP 1 (g1 := (4, [some (.ref 0), some (sI (((cN (fun r => decide (hI h (21 + 2 * r) 1 ≠ -1)) k : Nat) : Int))), some (sI (((k : Int)) + 1))], [], h)) rfl ?_
        rw [cN_s0 (f := (fun r => decide (hI h (21 + 2 * r) 1 ≠ -1))) (k := k) (decide_eq_false (by omega))] at r1
        rw [show ((k : Int) + 1) = ((k + 1 : Nat) : Int) by omega]
        exact r1
      · have hc3 : ¬ (((hI h (21 + 2 * k) 1) : Int) = ((-1))) := hc3
        refine s_inc (a := ((cN (fun r => decide (hI h (21 + 2 * r) 1 ≠ -1)) k : Nat) : Int)) (n := 1) (k := 1) rfl rfl rfl ?_
        refine s_inc (a := (k : Int)) (n := 1) (k := 2) rfl rfl rfl ?_
        refine sP 1 (g1 := (4, [some (.ref 0), some (sI ((((cN (fun r => decide (hI h (21 + 2 * r) 1 ≠ -1)) k : Nat) : Int)) + 1)), some (sI (((k : Int)) + 1))], [], h)) rfl ?_
        rw [cN_s1 (f := (fun r => decide (hI h (21 + 2 * r) 1 ≠ -1))) (k := k) (decide_eq_true (by omega))] at r1
        rw [show ((((cN (fun r => decide (hI h (21 + 2 * r) 1 ≠ -1)) k : Nat) : Int)) + 1 : Int) = ((cN (fun r => decide (hI h (21 + 2 * r) 1 ≠ -1)) k + 1 : Nat) : Int) by omega]
        rw [show ((k : Int) + 1) = ((k + 1 : Nat) : Int) by omega]
        exact r1
theorem fRowsN (hh : aHp h) : nEv sc (d + 1) 115 [.ref 0] h (some (sI ((cN (fun r => decide (hI h (21 + 2 * r) 1 ≠ -1)) 6 : Nat) : Int)), h) := by
  have r1 := fRowsNL (sc := sc) (d := d) hh 6 0 (by omega)
  refine nEv_of (t := mMe115) rfl ?_
  show nRn sc (d) (mMT mMe115) (mMC mMe115) (0, [some (.ref 0), none, none], [], h) _
  refine sP 4 (g1 := (4, [some (.ref 0), some (sI 0), some (sI 0)], [], h)) rfl ?_
  exact r1
theorem fTextsNL (hh : aHp h) : ∀ (c k : Nat), k + c = 4 → nRn sc d (mMT mMe116) (mMC mMe116) (4, [some (.ref 0), some (sI ((cN (fun r => decide (hI h (33 + 2 * r) 1 ≠ -1)) k : Nat) : Int)), some (sI (k : Int))], [], h) (some (sI ((cN (fun r => decide (hI h (33 + 2 * r) 1 ≠ -1)) 4 : Nat) : Int)), h) := by
  intro c
  induction c with
  | zero =>
    intro k hk
    have e : k = 4 := by omega
    subst e
    refine sP 2 (g1 := (6, [some (.ref 0), some (sI (((cN (fun r => decide (hI h (33 + 2 * r) 1 ≠ -1)) 4 : Nat) : Int))), some (sI (((4 : Nat) : Int)))], [sI 4, sI (((4 : Nat) : Int))], h)) rfl ?_
    refine s_icmp (q := .ge) (a := ((4 : Nat) : Int)) (b := 4) rfl ⟨_, rfl⟩ rfl (by unfold sR aMi aMa; omega) (by unfold sR aMi aMa; omega) (fun hc1 => ?_) (fun hc1 => ?_)
    · have hc1 : (4 : Int) ≤ (((4 : Nat) : Int)) := hc1
      refine sP 1 (g1 := (18, [some (.ref 0), some (sI (((cN (fun r => decide (hI h (33 + 2 * r) 1 ≠ -1)) 4 : Nat) : Int))), some (sI (((4 : Nat) : Int)))], [sI (((cN (fun r => decide (hI h (33 + 2 * r) 1 ≠ -1)) 4 : Nat) : Int))], h)) rfl ?_
      exact s_reti rfl rfl (Or.inl rfl) rfl rfl
    · have hc1 : ¬ ((4 : Int) ≤ (((4 : Nat) : Int))) := hc1
      omega
  | succ c ih =>
    intro k hk
    have hk2 : k < 4 := by omega
    have le := cN_le (f := (fun r => decide (hI h (33 + 2 * r) 1 ≠ -1))) k
    have r1 := ih (k + 1) (by omega)
    refine sP 2 (g1 := (6, [some (.ref 0), some (sI (((cN (fun r => decide (hI h (33 + 2 * r) 1 ≠ -1)) k : Nat) : Int))), some (sI ((k : Int)))], [sI 4, sI ((k : Int))], h)) rfl ?_
    refine s_icmp (q := .ge) (a := (k : Int)) (b := 4) rfl ⟨_, rfl⟩ rfl (by unfold sR aMi aMa; omega) (by unfold sR aMi aMa; omega) (fun hc1 => ?_) (fun hc1 => ?_)
    · have hc1 : (4 : Int) ≤ ((k : Int)) := hc1
      omega
    · have hc1 : ¬ ((4 : Int) ≤ ((k : Int))) := hc1
      refine sP 1 (g1 := (8, [some (.ref 0), some (sI (((cN (fun r => decide (hI h (33 + 2 * r) 1 ≠ -1)) k : Nat) : Int))), some (sI ((k : Int)))], [.ref 0], h)) rfl ?_
      refine s_get (a := 0) (j := 1) hh rfl ⟨_, rfl⟩ rfl rfl rfl (v := .ref 2) (hR_ok hh (by decide +kernel)) ?_
      refine sP 1 (g1 := (10, [some (.ref 0), some (sI (((cN (fun r => decide (hI h (33 + 2 * r) 1 ≠ -1)) k : Nat) : Int))), some (sI ((k : Int)))], [sI ((k : Int)), .ref 2], h)) rfl ?_
      refine s_aald (a := 2) (n := 4) (j := (k : Int)) hh rfl rfl rfl (by decide) (by omega) (by omega) (by decide) (v := .ref (33 + 2 * k)) (by rw [Int.toNat_natCast]; exact hR_ok hh (tx_t hk2)) ?_
      have rg2 := hI_rg hh (tx_z hk2)
      refine s_get (a := 33 + 2 * k) (j := 1) hh rfl ⟨_, rfl⟩ (tx_a hk2) rfl rfl (v := sI (hI h (33 + 2 * k) 1)) (hI_ok hh (tx_z hk2)) ?_
      refine sP 1 (g1 := (13, [some (.ref 0), some (sI (((cN (fun r => decide (hI h (33 + 2 * r) 1 ≠ -1)) k : Nat) : Int))), some (sI ((k : Int)))], [sI ((-1)), sI (hI h (33 + 2 * k) 1)], h)) rfl ?_
      refine s_icmp (q := .eq) (a := hI h (33 + 2 * k) 1) (b := (-1)) rfl ⟨_, rfl⟩ rfl (by unfold sR aMi aMa; omega) (by unfold sR aMi aMa; omega) (fun hc3 => ?_) (fun hc3 => ?_)
      · have hc3 : ((hI h (33 + 2 * k) 1) : Int) = ((-1)) := hc3
        refine s_inc (a := (k : Int)) (n := 1) (k := 2) rfl rfl rfl ?_
        refine sP 1 (g1 := (4, [some (.ref 0), some (sI (((cN (fun r => decide (hI h (33 + 2 * r) 1 ≠ -1)) k : Nat) : Int))), some (sI (((k : Int)) + 1))], [], h)) rfl ?_
        rw [cN_s0 (f := (fun r => decide (hI h (33 + 2 * r) 1 ≠ -1))) (k := k) (decide_eq_false (by omega))] at r1
        rw [show ((k : Int) + 1) = ((k + 1 : Nat) : Int) by omega]
        exact r1
      · have hc3 : ¬ (((hI h (33 + 2 * k) 1) : Int) = ((-1))) := hc3
        refine s_inc (a := ((cN (fun r => decide (hI h (33 + 2 * r) 1 ≠ -1)) k : Nat) : Int)) (n := 1) (k := 1) rfl rfl rfl ?_
        refine s_inc (a := (k : Int)) (n := 1) (k := 2) rfl rfl rfl ?_
        refine sP 1 (g1 := (4, [some (.ref 0), some (sI ((((cN (fun r => decide (hI h (33 + 2 * r) 1 ≠ -1)) k : Nat) : Int)) + 1)), some (sI (((k : Int)) + 1))], [], h)) rfl ?_
        rw [cN_s1 (f := (fun r => decide (hI h (33 + 2 * r) 1 ≠ -1))) (k := k) (decide_eq_true (by omega))] at r1
        rw [show ((((cN (fun r => decide (hI h (33 + 2 * r) 1 ≠ -1)) k : Nat) : Int)) + 1 : Int) = ((cN (fun r => decide (hI h (33 + 2 * r) 1 ≠ -1)) k + 1 : Nat) : Int) by omega]
        rw [show ((k : Int) + 1) = ((k + 1 : Nat) : Int) by omega]
        exact r1
theorem fTextsN (hh : aHp h) : nEv sc (d + 1) 116 [.ref 0] h (some (sI ((cN (fun r => decide (hI h (33 + 2 * r) 1 ≠ -1)) 4 : Nat) : Int)), h) := by
  have r1 := fTextsNL (sc := sc) (d := d) hh 4 0 (by omega)
  refine nEv_of (t := mMe116) rfl ?_
  show nRn sc (d) (mMT mMe116) (mMC mMe116) (0, [some (.ref 0), none, none], [], h) _
  refine sP 4 (g1 := (4, [some (.ref 0), some (sI 0), some (sI 0)], [], h)) rfl ?_
  exact r1
theorem fKeptNL (hh : aHp h) : ∀ (c k : Nat), k + c = 3 → nRn sc d (mMT mMe117) (mMC mMe117) (4, [some (.ref 0), some (sI ((cN (fun r => decide (hI h (41 + 4 * r) 3 ≠ 0)) k : Nat) : Int)), some (sI (k : Int))], [], h) (some (sI ((cN (fun r => decide (hI h (41 + 4 * r) 3 ≠ 0)) 3 : Nat) : Int)), h) := by
  intro c
  induction c with
  | zero =>
    intro k hk
    have e : k = 3 := by omega
    subst e
    refine sP 2 (g1 := (6, [some (.ref 0), some (sI (((cN (fun r => decide (hI h (41 + 4 * r) 3 ≠ 0)) 3 : Nat) : Int))), some (sI (((3 : Nat) : Int)))], [sI 3, sI (((3 : Nat) : Int))], h)) rfl ?_
    refine s_icmp (q := .ge) (a := ((3 : Nat) : Int)) (b := 3) rfl ⟨_, rfl⟩ rfl (by unfold sR aMi aMa; omega) (by unfold sR aMi aMa; omega) (fun hc1 => ?_) (fun hc1 => ?_)
    · have hc1 : (3 : Int) ≤ (((3 : Nat) : Int)) := hc1
      refine sP 1 (g1 := (17, [some (.ref 0), some (sI (((cN (fun r => decide (hI h (41 + 4 * r) 3 ≠ 0)) 3 : Nat) : Int))), some (sI (((3 : Nat) : Int)))], [sI (((cN (fun r => decide (hI h (41 + 4 * r) 3 ≠ 0)) 3 : Nat) : Int))], h)) rfl ?_
      exact s_reti rfl rfl (Or.inl rfl) rfl rfl
    · have hc1 : ¬ ((3 : Int) ≤ (((3 : Nat) : Int))) := hc1
      omega
  | succ c ih =>
    intro k hk
    have hk2 : k < 3 := by omega
    have le := cN_le (f := (fun r => decide (hI h (41 + 4 * r) 3 ≠ 0))) k
    have r1 := ih (k + 1) (by omega)
    refine sP 2 (g1 := (6, [some (.ref 0), some (sI (((cN (fun r => decide (hI h (41 + 4 * r) 3 ≠ 0)) k : Nat) : Int))), some (sI ((k : Int)))], [sI 3, sI ((k : Int))], h)) rfl ?_
    refine s_icmp (q := .ge) (a := (k : Int)) (b := 3) rfl ⟨_, rfl⟩ rfl (by unfold sR aMi aMa; omega) (by unfold sR aMi aMa; omega) (fun hc1 => ?_) (fun hc1 => ?_)
    · have hc1 : (3 : Int) ≤ ((k : Int)) := hc1
      omega
    · have hc1 : ¬ ((3 : Int) ≤ ((k : Int))) := hc1
      refine sP 1 (g1 := (8, [some (.ref 0), some (sI (((cN (fun r => decide (hI h (41 + 4 * r) 3 ≠ 0)) k : Nat) : Int))), some (sI ((k : Int)))], [.ref 0], h)) rfl ?_
      refine s_get (a := 0) (j := 3) hh rfl ⟨_, rfl⟩ rfl rfl rfl (v := .ref 7) (hR_ok hh (by decide +kernel)) ?_
      refine sP 1 (g1 := (10, [some (.ref 0), some (sI (((cN (fun r => decide (hI h (41 + 4 * r) 3 ≠ 0)) k : Nat) : Int))), some (sI ((k : Int)))], [sI ((k : Int)), .ref 7], h)) rfl ?_
      refine s_aald (a := 7) (n := 3) (j := (k : Int)) hh rfl rfl rfl (by decide) (by omega) (by omega) (by decide) (v := .ref (41 + 4 * k)) (by rw [Int.toNat_natCast]; exact hR_ok hh (ka_r hk2)) ?_
      have rg2 := hI_rg hh (ke_3 hk2)
      refine s_get (a := 41 + 4 * k) (j := 3) hh rfl ⟨_, rfl⟩ (ke_t hk2) rfl rfl (v := sI (hI h (41 + 4 * k) 3)) (hI_ok hh (ke_3 hk2)) ?_
      refine s_ifc (q := .eq) (a := hI h (41 + 4 * k) 3) rfl ⟨_, rfl⟩ rfl (by unfold sR aMi aMa; omega) (fun hc3 => ?_) (fun hc3 => ?_)
      · have hc3 : ((hI h (41 + 4 * k) 3) : Int) = 0 := hc3
        refine s_inc (a := (k : Int)) (n := 1) (k := 2) rfl rfl rfl ?_
        refine sP 1 (g1 := (4, [some (.ref 0), some (sI (((cN (fun r => decide (hI h (41 + 4 * r) 3 ≠ 0)) k : Nat) : Int))), some (sI (((k : Int)) + 1))], [], h)) rfl ?_
        rw [cN_s0 (f := (fun r => decide (hI h (41 + 4 * r) 3 ≠ 0))) (k := k) (decide_eq_false (by omega))] at r1
        rw [show ((k : Int) + 1) = ((k + 1 : Nat) : Int) by omega]
        exact r1
      · have hc3 : ¬ (((hI h (41 + 4 * k) 3) : Int) = 0) := hc3
        refine s_inc (a := ((cN (fun r => decide (hI h (41 + 4 * r) 3 ≠ 0)) k : Nat) : Int)) (n := 1) (k := 1) rfl rfl rfl ?_
        refine s_inc (a := (k : Int)) (n := 1) (k := 2) rfl rfl rfl ?_
        refine sP 1 (g1 := (4, [some (.ref 0), some (sI ((((cN (fun r => decide (hI h (41 + 4 * r) 3 ≠ 0)) k : Nat) : Int)) + 1)), some (sI (((k : Int)) + 1))], [], h)) rfl ?_
        rw [cN_s1 (f := (fun r => decide (hI h (41 + 4 * r) 3 ≠ 0))) (k := k) (decide_eq_true (by omega))] at r1
        rw [show ((((cN (fun r => decide (hI h (41 + 4 * r) 3 ≠ 0)) k : Nat) : Int)) + 1 : Int) = ((cN (fun r => decide (hI h (41 + 4 * r) 3 ≠ 0)) k + 1 : Nat) : Int) by omega]
        rw [show ((k : Int) + 1) = ((k + 1 : Nat) : Int) by omega]
        exact r1
theorem fKeptN (hh : aHp h) : nEv sc (d + 1) 117 [.ref 0] h (some (sI ((cN (fun r => decide (hI h (41 + 4 * r) 3 ≠ 0)) 3 : Nat) : Int)), h) := by
  have r1 := fKeptNL (sc := sc) (d := d) hh 3 0 (by omega)
  refine nEv_of (t := mMe117) rfl ?_
  show nRn sc (d) (mMT mMe117) (mMC mMe117) (0, [some (.ref 0), none, none], [], h) _
  refine sP 4 (g1 := (4, [some (.ref 0), some (sI 0), some (sI 0)], [], h)) rfl ?_
  exact r1
/-- what is counted, in the class and in the reference -/
def cX (h : mH) (n : Nat) : Nat → Int
  | 0 => hI h 3 3
  | 1 => hI h 3 4
  | 2 => hI h 3 5
  | 3 => (lbc (hJ h 3 6)).toInt
  | 4 => ((uA (hI h 5) n n : Nat) : Int)
  | 5 => ((hK (hI h 4) 1 n : Nat) : Int)
  | 6 => ((hK (hI h 4) 2 n : Nat) : Int)
  | 7 => ((cN (fun r => decide (hI h (21 + 2 * r) 1 ≠ -1)) 6 : Nat) : Int)
  | 8 => ((cN (fun r => decide (hI h (33 + 2 * r) 1 ≠ -1)) 4 : Nat) : Int)
  | _ => ((cN (fun r => decide (hI h (41 + 4 * r) 3 ≠ 0)) 3 : Nat) : Int)
def cM (h : mH) (n : Nat) : Nat → Int
  | 0 => hI h 58 0
  | 1 => hI h 58 43
  | 2 => hI h 58 80
  | 3 => yA (fun j => hI h 58 (44 + j)) 6 / 2
  | 4 => ((uA (fun j => hI h 58 (7 + j)) n n : Nat) : Int)
  | 5 => ((hK (fun a => hI h 58 (1 + a)) 1 n : Nat) : Int)
  | 6 => ((hK (fun a => hI h 58 (1 + a)) 2 n : Nat) : Int)
  | 7 => ((cN (fun r => decide (¬ hI h 54 r < 0)) 6 : Nat) : Int)
  | 8 => ((cN (fun r => decide (¬ hI h 56 r < 0)) 4 : Nat) : Int)
  | _ => ((cN (fun r => decide (hI h 61 r ≠ 0)) 3 : Nat) : Int)
theorem fHm0 {n : Nat} (hh : aHp h) (hn : hI h 3 3 = n) : nEv sc (d + 4) 114 [.ref 0, sI 0] h (some (sI (cX h n 0)), h) := by
  refine nEv_of (t := mMe114) rfl ?_
  show nRn sc (d + 3) (mMT mMe114) (mMC mMe114) (0, [some (.ref 0), some (sI 0)], [], h) _
  refine sP 1 (g1 := (1, [some (.ref 0), some (sI 0)], [sI 0], h)) rfl ?_
  refine s_tsw (k := 0) rfl ⟨_, _, _, _, rfl⟩ (by unfold sR aMi aMa; omega) rfl ?_
  refine sP 1 (g1 := (3, [some (.ref 0), some (sI 0)], [.ref 0], h)) rfl ?_
  refine s_get (a := 0) (j := 2) hh rfl ⟨_, rfl⟩ rfl rfl rfl (v := .ref 3) (hR_ok hh (by decide +kernel)) ?_
  have rg1 := hI_rg (a := 3) (j := 3) (lo := 0) (hi := 6) hh (by decide +kernel)
  refine s_get (a := 3) (j := 3) hh rfl ⟨_, rfl⟩ rfl rfl rfl (v := sI (hI h 3 3)) (hI_ok (lo := 0) (hi := 6) hh (by decide +kernel)) ?_
  exact s_reti rfl rfl (Or.inl rfl) rfl rfl
theorem fHm1 {n : Nat} (hh : aHp h) (hn : hI h 3 3 = n) : nEv sc (d + 4) 114 [.ref 0, sI 1] h (some (sI (cX h n 1)), h) := by
  refine nEv_of (t := mMe114) rfl ?_
  show nRn sc (d + 3) (mMT mMe114) (mMC mMe114) (0, [some (.ref 0), some (sI 1)], [], h) _
  refine sP 1 (g1 := (1, [some (.ref 0), some (sI 1)], [sI 1], h)) rfl ?_
  refine s_tsw (k := 1) rfl ⟨_, _, _, _, rfl⟩ (by unfold sR aMi aMa; omega) rfl ?_
  refine sP 1 (g1 := (7, [some (.ref 0), some (sI 1)], [.ref 0], h)) rfl ?_
  refine s_get (a := 0) (j := 2) hh rfl ⟨_, rfl⟩ rfl rfl rfl (v := .ref 3) (hR_ok hh (by decide +kernel)) ?_
  have rg1 := hI_rg (a := 3) (j := 4) (lo := 0) (hi := 63) hh (by decide +kernel)
  refine s_get (a := 3) (j := 4) hh rfl ⟨_, rfl⟩ rfl rfl rfl (v := sI (hI h 3 4)) (hI_ok (lo := 0) (hi := 63) hh (by decide +kernel)) ?_
  exact s_reti rfl rfl (Or.inl rfl) rfl rfl
theorem fHm2 {n : Nat} (hh : aHp h) (hn : hI h 3 3 = n) : nEv sc (d + 4) 114 [.ref 0, sI 2] h (some (sI (cX h n 2)), h) := by
  refine nEv_of (t := mMe114) rfl ?_
  show nRn sc (d + 3) (mMT mMe114) (mMC mMe114) (0, [some (.ref 0), some (sI 2)], [], h) _
  refine sP 1 (g1 := (1, [some (.ref 0), some (sI 2)], [sI 2], h)) rfl ?_
  refine s_tsw (k := 2) rfl ⟨_, _, _, _, rfl⟩ (by unfold sR aMi aMa; omega) rfl ?_
  refine sP 1 (g1 := (11, [some (.ref 0), some (sI 2)], [.ref 0], h)) rfl ?_
  refine s_get (a := 0) (j := 2) hh rfl ⟨_, rfl⟩ rfl rfl rfl (v := .ref 3) (hR_ok hh (by decide +kernel)) ?_
  have rg1 := hI_rg (a := 3) (j := 5) (lo := 0) (hi := 40) hh (by decide +kernel)
  refine s_get (a := 3) (j := 5) hh rfl ⟨_, rfl⟩ rfl rfl rfl (v := sI (hI h 3 5)) (hI_ok (lo := 0) (hi := 40) hh (by decide +kernel)) ?_
  exact s_reti rfl rfl (Or.inl rfl) rfl rfl
theorem fHm3 {n : Nat} (hh : aHp h) (hn : hI h 3 3 = n) : nEv sc (d + 4) 114 [.ref 0, sI 3] h (some (.int (lbc (hJ h 3 6))), h) := by
  refine nEv_of (t := mMe114) rfl ?_
  show nRn sc (d + 3) (mMT mMe114) (mMC mMe114) (0, [some (.ref 0), some (sI 3)], [], h) _
  refine sP 1 (g1 := (1, [some (.ref 0), some (sI 3)], [sI 3], h)) rfl ?_
  refine s_tsw (k := 3) rfl ⟨_, _, _, _, rfl⟩ (by unfold sR aMi aMa; omega) rfl ?_
  refine sP 1 (g1 := (15, [some (.ref 0), some (sI 3)], [.ref 0], h)) rfl ?_
  refine s_get (a := 0) (j := 2) hh rfl ⟨_, rfl⟩ rfl rfl rfl (v := .ref 3) (hR_ok hh (by decide +kernel)) ?_
  refine s_get (a := 3) (j := 6) hh rfl ⟨_, rfl⟩ rfl rfl rfl (v := .long (hJ h 3 6)) (hJ_ok hh xw_t) ?_
  refine s_call (k := 69) (args := [.long (hJ h 3 6)]) (st := []) (v := some (.int (lbc (hJ h 3 6)))) (h1 := h) rfl ⟨rfl, rfl⟩ rfl rfl rfl rfl rfl rfl lbc_ok ?_
  exact s_retz rfl rfl rfl rfl
theorem fHm4 {n : Nat} (hh : aHp h) (hn : hI h 3 3 = n) : nEv sc (d + 4) 114 [.ref 0, sI 4] h (some (sI (cX h n 4)), h) := by
  refine nEv_of (t := mMe114) rfl ?_
  show nRn sc (d + 3) (mMT mMe114) (mMC mMe114) (0, [some (.ref 0), some (sI 4)], [], h) _
  refine sP 1 (g1 := (1, [some (.ref 0), some (sI 4)], [sI 4], h)) rfl ?_
  refine s_tsw (k := 4) rfl ⟨_, _, _, _, rfl⟩ (by unfold sR aMi aMa; omega) rfl ?_
  refine sP 1 (g1 := (20, [some (.ref 0), some (sI 4)], [.ref 0], h)) rfl ?_
  refine s_get (a := 0) (j := 2) hh rfl ⟨_, rfl⟩ rfl rfl rfl (v := .ref 3) (hR_ok hh (by decide +kernel)) ?_
  refine s_call (k := 62) (args := [.ref 3]) (st := []) (v := some (sI (((uA (hI h 5) n n : Nat) : Int)))) (h1 := h) rfl ⟨rfl, rfl⟩ rfl rfl rfl rfl (sRcv hh (a := 3) rfl rfl) rfl (fUnmade hh hn) ?_
  exact s_reti rfl rfl (Or.inl rfl) rfl rfl
theorem fHm5 {n : Nat} (hh : aHp h) (hn : hI h 3 3 = n) : nEv sc (d + 4) 114 [.ref 0, sI 5] h (some (sI (cX h n 5)), h) := by
  refine nEv_of (t := mMe114) rfl ?_
  show nRn sc (d + 3) (mMT mMe114) (mMC mMe114) (0, [some (.ref 0), some (sI 5)], [], h) _
  refine sP 1 (g1 := (1, [some (.ref 0), some (sI 5)], [sI 5], h)) rfl ?_
  refine s_tsw (k := 5) rfl ⟨_, _, _, _, rfl⟩ (by unfold sR aMi aMa; omega) rfl ?_
  refine sP 1 (g1 := (24, [some (.ref 0), some (sI 5)], [.ref 0], h)) rfl ?_
  refine s_get (a := 0) (j := 2) hh rfl ⟨_, rfl⟩ rfl rfl rfl (v := .ref 3) (hR_ok hh (by decide +kernel)) ?_
  refine sP 1 (g1 := (26, [some (.ref 0), some (sI 5)], [sI 1, .ref 3], h)) rfl ?_
  refine s_call (k := 53) (args := [.ref 3, sI 1]) (st := []) (v := some (sI (((hK (hI h 4) 1 n : Nat) : Int)))) (h1 := h) rfl ⟨rfl, rfl⟩ rfl rfl rfl rfl (sRcv hh (a := 3) rfl rfl) rfl (fHowMany (k := 1) hh hn (by decide) (by decide)) ?_
  exact s_reti rfl rfl (Or.inl rfl) rfl rfl
theorem fHm6 {n : Nat} (hh : aHp h) (hn : hI h 3 3 = n) : nEv sc (d + 4) 114 [.ref 0, sI 6] h (some (sI (cX h n 6)), h) := by
  refine nEv_of (t := mMe114) rfl ?_
  show nRn sc (d + 3) (mMT mMe114) (mMC mMe114) (0, [some (.ref 0), some (sI 6)], [], h) _
  refine sP 1 (g1 := (1, [some (.ref 0), some (sI 6)], [sI 6], h)) rfl ?_
  refine s_tsw (k := 6) rfl ⟨_, _, _, _, rfl⟩ (by unfold sR aMi aMa; omega) rfl ?_
  refine sP 1 (g1 := (29, [some (.ref 0), some (sI 6)], [.ref 0], h)) rfl ?_
  refine s_get (a := 0) (j := 2) hh rfl ⟨_, rfl⟩ rfl rfl rfl (v := .ref 3) (hR_ok hh (by decide +kernel)) ?_
  refine sP 1 (g1 := (31, [some (.ref 0), some (sI 6)], [sI 2, .ref 3], h)) rfl ?_
  refine s_call (k := 53) (args := [.ref 3, sI 2]) (st := []) (v := some (sI (((hK (hI h 4) 2 n : Nat) : Int)))) (h1 := h) rfl ⟨rfl, rfl⟩ rfl rfl rfl rfl (sRcv hh (a := 3) rfl rfl) rfl (fHowMany (k := 2) hh hn (by decide) (by decide)) ?_
  exact s_reti rfl rfl (Or.inl rfl) rfl rfl
theorem fHm7 {n : Nat} (hh : aHp h) (hn : hI h 3 3 = n) : nEv sc (d + 4) 114 [.ref 0, sI 7] h (some (sI (cX h n 7)), h) := by
  refine nEv_of (t := mMe114) rfl ?_
  show nRn sc (d + 3) (mMT mMe114) (mMC mMe114) (0, [some (.ref 0), some (sI 7)], [], h) _
  refine sP 1 (g1 := (1, [some (.ref 0), some (sI 7)], [sI 7], h)) rfl ?_
  refine s_tsw (k := 7) rfl ⟨_, _, _, _, rfl⟩ (by unfold sR aMi aMa; omega) rfl ?_
  refine sP 1 (g1 := (34, [some (.ref 0), some (sI 7)], [.ref 0], h)) rfl ?_
  refine s_call (k := 115) (args := [.ref 0]) (st := []) (v := some (sI (((cN (fun r => decide (hI h (21 + 2 * r) 1 ≠ -1)) 6 : Nat) : Int)))) (h1 := h) rfl ⟨rfl, rfl⟩ rfl rfl rfl rfl (sRcv hh (a := 0) rfl rfl) rfl (fRowsN hh) ?_
  exact s_reti rfl rfl (Or.inl rfl) rfl rfl
theorem fHm8 {n : Nat} (hh : aHp h) (hn : hI h 3 3 = n) : nEv sc (d + 4) 114 [.ref 0, sI 8] h (some (sI (cX h n 8)), h) := by
  refine nEv_of (t := mMe114) rfl ?_
  show nRn sc (d + 3) (mMT mMe114) (mMC mMe114) (0, [some (.ref 0), some (sI 8)], [], h) _
  refine sP 1 (g1 := (1, [some (.ref 0), some (sI 8)], [sI 8], h)) rfl ?_
  refine s_tsw (k := 8) rfl ⟨_, _, _, _, rfl⟩ (by unfold sR aMi aMa; omega) rfl ?_
  refine sP 1 (g1 := (37, [some (.ref 0), some (sI 8)], [.ref 0], h)) rfl ?_
  refine s_call (k := 116) (args := [.ref 0]) (st := []) (v := some (sI (((cN (fun r => decide (hI h (33 + 2 * r) 1 ≠ -1)) 4 : Nat) : Int)))) (h1 := h) rfl ⟨rfl, rfl⟩ rfl rfl rfl rfl (sRcv hh (a := 0) rfl rfl) rfl (fTextsN hh) ?_
  exact s_reti rfl rfl (Or.inl rfl) rfl rfl
theorem fHm9 {n : Nat} (hh : aHp h) (hn : hI h 3 3 = n) : nEv sc (d + 4) 114 [.ref 0, sI 9] h (some (sI (cX h n 9)), h) := by
  refine nEv_of (t := mMe114) rfl ?_
  show nRn sc (d + 3) (mMT mMe114) (mMC mMe114) (0, [some (.ref 0), some (sI 9)], [], h) _
  refine sP 1 (g1 := (1, [some (.ref 0), some (sI 9)], [sI 9], h)) rfl ?_
  refine s_tsw (k := 9) rfl ⟨_, _, _, _, rfl⟩ (by unfold sR aMi aMa; omega) rfl ?_
  refine sP 1 (g1 := (40, [some (.ref 0), some (sI 9)], [.ref 0], h)) rfl ?_
  refine s_call (k := 117) (args := [.ref 0]) (st := []) (v := some (sI (((cN (fun r => decide (hI h (41 + 4 * r) 3 ≠ 0)) 3 : Nat) : Int)))) (h1 := h) rfl ⟨rfl, rfl⟩ rfl rfl rfl rfl (sRcv hh (a := 0) rfl rfl) rfl (fKeptN hh) ?_
  exact s_reti rfl rfl (Or.inl rfl) rfl rfl
theorem fHm {n k : Nat} (hh : aHp h) (hn : hI h 3 3 = n) (hk : k < 10) : nEv sc (d + 4) 114 [.ref 0, sI (k : Int)] h (some (sI (cX h n k)), h) := by
  match k, hk with
  | 0, _ => exact fHm0 hh hn
  | 1, _ => exact fHm1 hh hn
  | 2, _ => exact fHm2 hh hn
  | 3, _ =>
    show nEv sc (d + 4) 114 [.ref 0, sI 3] h (some (.int (Int32.ofInt (lbc (hJ h 3 6)).toInt)), h)
    rw [Int32.ofInt_toInt]
    exact fHm3 hh hn
  | 4, _ => exact fHm4 hh hn
  | 5, _ => exact fHm5 hh hn
  | 6, _ => exact fHm6 hh hn
  | 7, _ => exact fHm7 hh hn
  | 8, _ => exact fHm8 hh hn
  | 9, _ => exact fHm9 hh hn
theorem fCountX {n k : Nat} (hh : aHp h) (hn : hI h 3 3 = n) (hk : k < 10) : nEv sc (d + 5) 113 [.ref 0, sI (k : Int)] h (some (sI (cX h n k)), h) := by
  have ev := fHm (sc := sc) (d := d) hh hn hk
  refine nEv_of (t := mMe113) rfl ?_
  show nRn sc (d + 4) (mMT mMe113) (mMC mMe113) (0, [some (.ref 0), some (sI ((k : Int)))], [], h) _
  refine sP 1 (g1 := (1, [some (.ref 0), some (sI ((k : Int)))], [sI ((k : Int))], h)) rfl ?_
  refine s_ifc (q := .lt) (a := (k : Int)) rfl ⟨_, rfl⟩ rfl (by unfold sR aMi aMa; omega) (fun hc1 => ?_) (fun hc1 => ?_)
  · have hc1 : (((k : Int)) : Int) < 0 := hc1
    omega
  · have hc1 : ¬ ((((k : Int)) : Int) < 0) := hc1
    refine sP 2 (g1 := (4, [some (.ref 0), some (sI ((k : Int)))], [sI 9, sI ((k : Int))], h)) rfl ?_
    refine s_icmp (q := .le) (a := (k : Int)) (b := 9) rfl ⟨_, rfl⟩ rfl (by unfold sR aMi aMa; omega) (by unfold sR aMi aMa; omega) (fun hc2 => ?_) (fun hc2 => ?_)
    · have hc2 : (((k : Int)) : Int) ≤ 9 := hc2
      refine sP 2 (g1 := (9, [some (.ref 0), some (sI ((k : Int)))], [sI ((k : Int)), .ref 0], h)) rfl ?_
      refine s_call (k := 114) (args := [.ref 0, sI ((k : Int))]) (st := []) (v := some (sI (cX h n k))) (h1 := h) rfl ⟨rfl, rfl⟩ rfl rfl rfl rfl (sRcv hh (a := 0) rfl rfl) rfl ev ?_
      exact s_reti rfl rfl (Or.inl rfl) rfl rfl
    · have hc2 : ¬ ((((k : Int)) : Int) ≤ 9) := hc2
      omega
theorem fCountXb {k : Int} (rk : sR k) (hk : ¬ (0 ≤ k ∧ k < 10)) : nEv sc (d + 5) 113 [.ref 0, sI k] h (some (sI (-1)), h) := by
  unfold sR aMi aMa at rk
  refine nEv_of (t := mMe113) rfl ?_
  show nRn sc (d + 4) (mMT mMe113) (mMC mMe113) (0, [some (.ref 0), some (sI k)], [], h) _
  refine sP 1 (g1 := (1, [some (.ref 0), some (sI k)], [sI k], h)) rfl ?_
  refine s_ifc (q := .lt) (a := k) rfl ⟨_, rfl⟩ rfl (by unfold sR aMi aMa; omega) (fun hc1 => ?_) (fun hc1 => ?_)
  · have hc1 : (k : Int) < 0 := hc1
    refine sP 1 (g1 := (6, [some (.ref 0), some (sI k)], [sI ((-1))], h)) rfl ?_
    exact s_reti rfl rfl (Or.inl rfl) rfl rfl
  · have hc1 : ¬ ((k : Int) < 0) := hc1
    refine sP 2 (g1 := (4, [some (.ref 0), some (sI k)], [sI 9, sI k], h)) rfl ?_
    refine s_icmp (q := .le) (a := k) (b := 9) rfl ⟨_, rfl⟩ rfl (by unfold sR aMi aMa; omega) (by unfold sR aMi aMa; omega) (fun hc2 => ?_) (fun hc2 => ?_)
    · have hc2 : (k : Int) ≤ 9 := hc2
      omega
    · have hc2 : ¬ ((k : Int) ≤ 9) := hc2
      refine sP 1 (g1 := (6, [some (.ref 0), some (sI k)], [sI ((-1))], h)) rfl ?_
      exact s_reti rfl rfl (Or.inl rfl) rfl rfl
theorem fCnt7L (hh : aHp h) {r : mR} (hr : nRn sc d (mMT mMe217) (mMC mMe217) (23, [some (.ref 53), some (sI 7), some (sI (((cN (fun r => decide (¬ hI h 54 r < 0)) 6 : Nat) : Int))), some (sI (((6 : Nat) : Int)))], [], h) r) : ∀ (c k : Nat), k + c = 6 → nRn sc d (mMT mMe217) (mMC mMe217) (4, [some (.ref 53), some (sI 7), some (sI (((cN (fun r => decide (¬ hI h 54 r < 0)) k : Nat) : Int))), some (sI ((k : Int)))], [], h) r := by
  intro c
  induction c with
  | zero =>
    intro k hk
    have e : k = 6 := by omega
    subst e
    refine sP 2 (g1 := (6, [some (.ref 53), some (sI 7), some (sI (((cN (fun r => decide (¬ hI h 54 r < 0)) 6 : Nat) : Int))), some (sI (((6 : Nat) : Int)))], [sI 6, sI (((6 : Nat) : Int))], h)) rfl ?_
    refine s_icmp (q := .ge) (a := ((6 : Nat) : Int)) (b := 6) rfl ⟨_, rfl⟩ rfl (by unfold sR aMi aMa; omega) (by unfold sR aMi aMa; omega) (fun hc1 => ?_) (fun hc1 => ?_)
    · have hc1 : (6 : Int) ≤ (((6 : Nat) : Int)) := hc1
      exact hr
    · have hc1 : ¬ ((6 : Int) ≤ (((6 : Nat) : Int))) := hc1
      omega
  | succ c ih =>
    intro k hk
    have hk2 : k < 6 := by omega
    have le := cN_le (f := (fun r => decide (¬ hI h 54 r < 0))) k
    have r1 := ih (k + 1) (by omega)
    refine sP 2 (g1 := (6, [some (.ref 53), some (sI 7), some (sI (((cN (fun r => decide (¬ hI h 54 r < 0)) k : Nat) : Int))), some (sI ((k : Int)))], [sI 6, sI ((k : Int))], h)) rfl ?_
    refine s_icmp (q := .ge) (a := (k : Int)) (b := 6) rfl ⟨_, rfl⟩ rfl (by unfold sR aMi aMa; omega) (by unfold sR aMi aMa; omega) (fun hc1 => ?_) (fun hc1 => ?_)
    · have hc1 : (6 : Int) ≤ ((k : Int)) := hc1
      omega
    · have hc1 : ¬ ((6 : Int) ≤ ((k : Int))) := hc1
      refine sP 2 (g1 := (9, [some (.ref 53), some (sI 7), some (sI (((cN (fun r => decide (¬ hI h 54 r < 0)) k : Nat) : Int))), some (sI ((k : Int)))], [sI 7, sI 7], h)) rfl ?_
      refine s_icmp (q := .ne) (a := 7) (b := 7) rfl ⟨_, rfl⟩ rfl (by unfold sR aMi aMa; omega) (by unfold sR aMi aMa; omega) (fun hc2 => ?_) (fun hc2 => ?_)
      · have hc2 : (7 : Int) ≠ 7 := hc2
        omega
      · have hc2 : ¬ ((7 : Int) ≠ 7) := hc2
        refine sP 2 (g1 := (12, [some (.ref 53), some (sI 7), some (sI (((cN (fun r => decide (¬ hI h 54 r < 0)) k : Nat) : Int))), some (sI ((k : Int)))], [.ref 53, sI (((cN (fun r => decide (¬ hI h 54 r < 0)) k : Nat) : Int))], h)) rfl ?_
        refine s_get (a := 53) (j := 0) hh rfl ⟨_, rfl⟩ rfl rfl rfl (v := .ref 54) (hR_ok hh (by decide +kernel)) ?_
        refine sP 1 (g1 := (14, [some (.ref 53), some (sI 7), some (sI (((cN (fun r => decide (¬ hI h 54 r < 0)) k : Nat) : Int))), some (sI ((k : Int)))], [sI ((k : Int)), .ref 54, sI (((cN (fun r => decide (¬ hI h 54 r < 0)) k : Nat) : Int))], h)) rfl ?_
        have rg3 := hI_rg hh (rm_z hk2)
        refine s_iald (a := 54) (n := 6) (j := (k : Int)) hh rfl rfl rfl (by omega) (by omega) (by decide) (v := sI (hI h 54 k)) (by rw [Int.toNat_natCast]; exact hI_ok hh (rm_z hk2)) ?_
        refine s_ifc (q := .ge) (a := hI h 54 k) rfl ⟨_, rfl⟩ rfl (by unfold sR aMi aMa; omega) (fun hc4 => ?_) (fun hc4 => ?_)
        · have hc4 : (0 : Int) ≤ (hI h 54 k) := hc4
          refine sP 1 (g1 := (19, [some (.ref 53), some (sI 7), some (sI (((cN (fun r => decide (¬ hI h 54 r < 0)) k : Nat) : Int))), some (sI ((k : Int)))], [sI 1, sI (((cN (fun r => decide (¬ hI h 54 r < 0)) k : Nat) : Int))], h)) rfl ?_
          refine s_add (a := ((cN (fun r => decide (¬ hI h 54 r < 0)) k : Nat) : Int)) (b := 1) rfl rfl ?_
          refine sP 1 (g1 := (21, [some (.ref 53), some (sI 7), some (sI ((((cN (fun r => decide (¬ hI h 54 r < 0)) k : Nat) : Int)) + 1)), some (sI ((k : Int)))], [], h)) rfl ?_
          refine s_inc (a := (k : Int)) (n := 1) (k := 3) rfl rfl rfl ?_
          refine sP 1 (g1 := (4, [some (.ref 53), some (sI 7), some (sI ((((cN (fun r => decide (¬ hI h 54 r < 0)) k : Nat) : Int)) + 1)), some (sI (((k : Int)) + 1))], [], h)) rfl ?_
          rw [cN_s1 (f := (fun r => decide (¬ hI h 54 r < 0))) (k := k) (decide_eq_true (by omega))] at r1
          rw [show ((((cN (fun r => decide (¬ hI h 54 r < 0)) k : Nat) : Int)) + 1 : Int) = ((cN (fun r => decide (¬ hI h 54 r < 0)) k + 1 : Nat) : Int) by omega]
          rw [show ((k : Int) + 1) = ((k + 1 : Nat) : Int) by omega]
          exact r1
        · have hc4 : ¬ ((0 : Int) ≤ (hI h 54 k)) := hc4
          refine sP 2 (g1 := (19, [some (.ref 53), some (sI 7), some (sI (((cN (fun r => decide (¬ hI h 54 r < 0)) k : Nat) : Int))), some (sI ((k : Int)))], [sI 0, sI (((cN (fun r => decide (¬ hI h 54 r < 0)) k : Nat) : Int))], h)) rfl ?_
          refine s_add (a := ((cN (fun r => decide (¬ hI h 54 r < 0)) k : Nat) : Int)) (b := 0) rfl rfl ?_
          refine sP 1 (g1 := (21, [some (.ref 53), some (sI 7), some (sI ((((cN (fun r => decide (¬ hI h 54 r < 0)) k : Nat) : Int)) + 0)), some (sI ((k : Int)))], [], h)) rfl ?_
          refine s_inc (a := (k : Int)) (n := 1) (k := 3) rfl rfl rfl ?_
          refine sP 1 (g1 := (4, [some (.ref 53), some (sI 7), some (sI ((((cN (fun r => decide (¬ hI h 54 r < 0)) k : Nat) : Int)) + 0)), some (sI (((k : Int)) + 1))], [], h)) rfl ?_
          rw [cN_s0 (f := (fun r => decide (¬ hI h 54 r < 0))) (k := k) (decide_eq_false (by omega))] at r1
          rw [show ((((cN (fun r => decide (¬ hI h 54 r < 0)) k : Nat) : Int)) + 0 : Int) = ((cN (fun r => decide (¬ hI h 54 r < 0)) k : Nat) : Int) by omega]
          rw [show ((k : Int) + 1) = ((k + 1 : Nat) : Int) by omega]
          exact r1
theorem fCnt8L (hh : aHp h) {r : mR} (hr : nRn sc d (mMT mMe217) (mMC mMe217) (44, [some (.ref 53), some (sI 8), some (sI (((cN (fun r => decide (¬ hI h 56 r < 0)) 4 : Nat) : Int))), some (sI (((4 : Nat) : Int)))], [], h) r) : ∀ (c k : Nat), k + c = 4 → nRn sc d (mMT mMe217) (mMC mMe217) (25, [some (.ref 53), some (sI 8), some (sI (((cN (fun r => decide (¬ hI h 56 r < 0)) k : Nat) : Int))), some (sI ((k : Int)))], [], h) r := by
  intro c
  induction c with
  | zero =>
    intro k hk
    have e : k = 4 := by omega
    subst e
    refine sP 2 (g1 := (27, [some (.ref 53), some (sI 8), some (sI (((cN (fun r => decide (¬ hI h 56 r < 0)) 4 : Nat) : Int))), some (sI (((4 : Nat) : Int)))], [sI 4, sI (((4 : Nat) : Int))], h)) rfl ?_
    refine s_icmp (q := .ge) (a := ((4 : Nat) : Int)) (b := 4) rfl ⟨_, rfl⟩ rfl (by unfold sR aMi aMa; omega) (by unfold sR aMi aMa; omega) (fun hc1 => ?_) (fun hc1 => ?_)
    · have hc1 : (4 : Int) ≤ (((4 : Nat) : Int)) := hc1
      exact hr
    · have hc1 : ¬ ((4 : Int) ≤ (((4 : Nat) : Int))) := hc1
      omega
  | succ c ih =>
    intro k hk
    have hk2 : k < 4 := by omega
    have le := cN_le (f := (fun r => decide (¬ hI h 56 r < 0))) k
    have r1 := ih (k + 1) (by omega)
    refine sP 2 (g1 := (27, [some (.ref 53), some (sI 8), some (sI (((cN (fun r => decide (¬ hI h 56 r < 0)) k : Nat) : Int))), some (sI ((k : Int)))], [sI 4, sI ((k : Int))], h)) rfl ?_
    refine s_icmp (q := .ge) (a := (k : Int)) (b := 4) rfl ⟨_, rfl⟩ rfl (by unfold sR aMi aMa; omega) (by unfold sR aMi aMa; omega) (fun hc1 => ?_) (fun hc1 => ?_)
    · have hc1 : (4 : Int) ≤ ((k : Int)) := hc1
      omega
    · have hc1 : ¬ ((4 : Int) ≤ ((k : Int))) := hc1
      refine sP 2 (g1 := (30, [some (.ref 53), some (sI 8), some (sI (((cN (fun r => decide (¬ hI h 56 r < 0)) k : Nat) : Int))), some (sI ((k : Int)))], [sI 8, sI 8], h)) rfl ?_
      refine s_icmp (q := .ne) (a := 8) (b := 8) rfl ⟨_, rfl⟩ rfl (by unfold sR aMi aMa; omega) (by unfold sR aMi aMa; omega) (fun hc2 => ?_) (fun hc2 => ?_)
      · have hc2 : (8 : Int) ≠ 8 := hc2
        omega
      · have hc2 : ¬ ((8 : Int) ≠ 8) := hc2
        refine sP 2 (g1 := (33, [some (.ref 53), some (sI 8), some (sI (((cN (fun r => decide (¬ hI h 56 r < 0)) k : Nat) : Int))), some (sI ((k : Int)))], [.ref 53, sI (((cN (fun r => decide (¬ hI h 56 r < 0)) k : Nat) : Int))], h)) rfl ?_
        refine s_get (a := 53) (j := 2) hh rfl ⟨_, rfl⟩ rfl rfl rfl (v := .ref 56) (hR_ok hh (by decide +kernel)) ?_
        refine sP 1 (g1 := (35, [some (.ref 53), some (sI 8), some (sI (((cN (fun r => decide (¬ hI h 56 r < 0)) k : Nat) : Int))), some (sI ((k : Int)))], [sI ((k : Int)), .ref 56, sI (((cN (fun r => decide (¬ hI h 56 r < 0)) k : Nat) : Int))], h)) rfl ?_
        have rg3 := hI_rg hh (tx_n hk2)
        refine s_iald (a := 56) (n := 4) (j := (k : Int)) hh rfl rfl rfl (by omega) (by omega) (by decide) (v := sI (hI h 56 k)) (by rw [Int.toNat_natCast]; exact hI_ok hh (tx_n hk2)) ?_
        refine s_ifc (q := .ge) (a := hI h 56 k) rfl ⟨_, rfl⟩ rfl (by unfold sR aMi aMa; omega) (fun hc4 => ?_) (fun hc4 => ?_)
        · have hc4 : (0 : Int) ≤ (hI h 56 k) := hc4
          refine sP 1 (g1 := (40, [some (.ref 53), some (sI 8), some (sI (((cN (fun r => decide (¬ hI h 56 r < 0)) k : Nat) : Int))), some (sI ((k : Int)))], [sI 1, sI (((cN (fun r => decide (¬ hI h 56 r < 0)) k : Nat) : Int))], h)) rfl ?_
          refine s_add (a := ((cN (fun r => decide (¬ hI h 56 r < 0)) k : Nat) : Int)) (b := 1) rfl rfl ?_
          refine sP 1 (g1 := (42, [some (.ref 53), some (sI 8), some (sI ((((cN (fun r => decide (¬ hI h 56 r < 0)) k : Nat) : Int)) + 1)), some (sI ((k : Int)))], [], h)) rfl ?_
          refine s_inc (a := (k : Int)) (n := 1) (k := 3) rfl rfl rfl ?_
          refine sP 1 (g1 := (25, [some (.ref 53), some (sI 8), some (sI ((((cN (fun r => decide (¬ hI h 56 r < 0)) k : Nat) : Int)) + 1)), some (sI (((k : Int)) + 1))], [], h)) rfl ?_
          rw [cN_s1 (f := (fun r => decide (¬ hI h 56 r < 0))) (k := k) (decide_eq_true (by omega))] at r1
          rw [show ((((cN (fun r => decide (¬ hI h 56 r < 0)) k : Nat) : Int)) + 1 : Int) = ((cN (fun r => decide (¬ hI h 56 r < 0)) k + 1 : Nat) : Int) by omega]
          rw [show ((k : Int) + 1) = ((k + 1 : Nat) : Int) by omega]
          exact r1
        · have hc4 : ¬ ((0 : Int) ≤ (hI h 56 k)) := hc4
          refine sP 2 (g1 := (40, [some (.ref 53), some (sI 8), some (sI (((cN (fun r => decide (¬ hI h 56 r < 0)) k : Nat) : Int))), some (sI ((k : Int)))], [sI 0, sI (((cN (fun r => decide (¬ hI h 56 r < 0)) k : Nat) : Int))], h)) rfl ?_
          refine s_add (a := ((cN (fun r => decide (¬ hI h 56 r < 0)) k : Nat) : Int)) (b := 0) rfl rfl ?_
          refine sP 1 (g1 := (42, [some (.ref 53), some (sI 8), some (sI ((((cN (fun r => decide (¬ hI h 56 r < 0)) k : Nat) : Int)) + 0)), some (sI ((k : Int)))], [], h)) rfl ?_
          refine s_inc (a := (k : Int)) (n := 1) (k := 3) rfl rfl rfl ?_
          refine sP 1 (g1 := (25, [some (.ref 53), some (sI 8), some (sI ((((cN (fun r => decide (¬ hI h 56 r < 0)) k : Nat) : Int)) + 0)), some (sI (((k : Int)) + 1))], [], h)) rfl ?_
          rw [cN_s0 (f := (fun r => decide (¬ hI h 56 r < 0))) (k := k) (decide_eq_false (by omega))] at r1
          rw [show ((((cN (fun r => decide (¬ hI h 56 r < 0)) k : Nat) : Int)) + 0 : Int) = ((cN (fun r => decide (¬ hI h 56 r < 0)) k : Nat) : Int) by omega]
          rw [show ((k : Int) + 1) = ((k + 1 : Nat) : Int) by omega]
          exact r1
theorem fCnt9L (hh : aHp h) {r : mR} (hr : nRn sc d (mMT mMe217) (mMC mMe217) (65, [some (.ref 53), some (sI 9), some (sI (((cN (fun r => decide (hI h 61 r ≠ 0)) 3 : Nat) : Int))), some (sI (((3 : Nat) : Int)))], [], h) r) : ∀ (c k : Nat), k + c = 3 → nRn sc d (mMT mMe217) (mMC mMe217) (46, [some (.ref 53), some (sI 9), some (sI (((cN (fun r => decide (hI h 61 r ≠ 0)) k : Nat) : Int))), some (sI ((k : Int)))], [], h) r := by
  intro c
  induction c with
  | zero =>
    intro k hk
    have e : k = 3 := by omega
    subst e
    refine sP 2 (g1 := (48, [some (.ref 53), some (sI 9), some (sI (((cN (fun r => decide (hI h 61 r ≠ 0)) 3 : Nat) : Int))), some (sI (((3 : Nat) : Int)))], [sI 3, sI (((3 : Nat) : Int))], h)) rfl ?_
    refine s_icmp (q := .ge) (a := ((3 : Nat) : Int)) (b := 3) rfl ⟨_, rfl⟩ rfl (by unfold sR aMi aMa; omega) (by unfold sR aMi aMa; omega) (fun hc1 => ?_) (fun hc1 => ?_)
    · have hc1 : (3 : Int) ≤ (((3 : Nat) : Int)) := hc1
      exact hr
    · have hc1 : ¬ ((3 : Int) ≤ (((3 : Nat) : Int))) := hc1
      omega
  | succ c ih =>
    intro k hk
    have hk2 : k < 3 := by omega
    have le := cN_le (f := (fun r => decide (hI h 61 r ≠ 0))) k
    have r1 := ih (k + 1) (by omega)
    refine sP 2 (g1 := (48, [some (.ref 53), some (sI 9), some (sI (((cN (fun r => decide (hI h 61 r ≠ 0)) k : Nat) : Int))), some (sI ((k : Int)))], [sI 3, sI ((k : Int))], h)) rfl ?_
    refine s_icmp (q := .ge) (a := (k : Int)) (b := 3) rfl ⟨_, rfl⟩ rfl (by unfold sR aMi aMa; omega) (by unfold sR aMi aMa; omega) (fun hc1 => ?_) (fun hc1 => ?_)
    · have hc1 : (3 : Int) ≤ ((k : Int)) := hc1
      omega
    · have hc1 : ¬ ((3 : Int) ≤ ((k : Int))) := hc1
      refine sP 2 (g1 := (51, [some (.ref 53), some (sI 9), some (sI (((cN (fun r => decide (hI h 61 r ≠ 0)) k : Nat) : Int))), some (sI ((k : Int)))], [sI 9, sI 9], h)) rfl ?_
      refine s_icmp (q := .ne) (a := 9) (b := 9) rfl ⟨_, rfl⟩ rfl (by unfold sR aMi aMa; omega) (by unfold sR aMi aMa; omega) (fun hc2 => ?_) (fun hc2 => ?_)
      · have hc2 : (9 : Int) ≠ 9 := hc2
        omega
      · have hc2 : ¬ ((9 : Int) ≠ 9) := hc2
        refine sP 2 (g1 := (54, [some (.ref 53), some (sI 9), some (sI (((cN (fun r => decide (hI h 61 r ≠ 0)) k : Nat) : Int))), some (sI ((k : Int)))], [.ref 53, sI (((cN (fun r => decide (hI h 61 r ≠ 0)) k : Nat) : Int))], h)) rfl ?_
        refine s_get (a := 53) (j := 7) hh rfl ⟨_, rfl⟩ rfl rfl rfl (v := .ref 61) (hR_ok hh (by decide +kernel)) ?_
        refine sP 1 (g1 := (56, [some (.ref 53), some (sI 9), some (sI (((cN (fun r => decide (hI h 61 r ≠ 0)) k : Nat) : Int))), some (sI ((k : Int)))], [sI ((k : Int)), .ref 61, sI (((cN (fun r => decide (hI h 61 r ≠ 0)) k : Nat) : Int))], h)) rfl ?_
        have rg3 := hI_rg hh (ka_b hk2)
        refine s_bald (a := 61) (n := 3) (j := (k : Int)) hh rfl rfl rfl (by decide) (by omega) (by omega) (by decide) (v := sI (hI h 61 k)) (by rw [Int.toNat_natCast]; exact hI_ok hh (ka_b hk2)) ?_
        refine s_ifc (q := .eq) (a := hI h 61 k) rfl ⟨_, rfl⟩ rfl (by unfold sR aMi aMa; omega) (fun hc4 => ?_) (fun hc4 => ?_)
        · have hc4 : ((hI h 61 k) : Int) = 0 := hc4
          refine sP 1 (g1 := (61, [some (.ref 53), some (sI 9), some (sI (((cN (fun r => decide (hI h 61 r ≠ 0)) k : Nat) : Int))), some (sI ((k : Int)))], [sI 0, sI (((cN (fun r => decide (hI h 61 r ≠ 0)) k : Nat) : Int))], h)) rfl ?_
          refine s_add (a := ((cN (fun r => decide (hI h 61 r ≠ 0)) k : Nat) : Int)) (b := 0) rfl rfl ?_
          refine sP 1 (g1 := (63, [some (.ref 53), some (sI 9), some (sI ((((cN (fun r => decide (hI h 61 r ≠ 0)) k : Nat) : Int)) + 0)), some (sI ((k : Int)))], [], h)) rfl ?_
          refine s_inc (a := (k : Int)) (n := 1) (k := 3) rfl rfl rfl ?_
          refine sP 1 (g1 := (46, [some (.ref 53), some (sI 9), some (sI ((((cN (fun r => decide (hI h 61 r ≠ 0)) k : Nat) : Int)) + 0)), some (sI (((k : Int)) + 1))], [], h)) rfl ?_
          rw [cN_s0 (f := (fun r => decide (hI h 61 r ≠ 0))) (k := k) (decide_eq_false (by omega))] at r1
          rw [show ((((cN (fun r => decide (hI h 61 r ≠ 0)) k : Nat) : Int)) + 0 : Int) = ((cN (fun r => decide (hI h 61 r ≠ 0)) k : Nat) : Int) by omega]
          rw [show ((k : Int) + 1) = ((k + 1 : Nat) : Int) by omega]
          exact r1
        · have hc4 : ¬ (((hI h 61 k) : Int) = 0) := hc4
          refine sP 2 (g1 := (61, [some (.ref 53), some (sI 9), some (sI (((cN (fun r => decide (hI h 61 r ≠ 0)) k : Nat) : Int))), some (sI ((k : Int)))], [sI 1, sI (((cN (fun r => decide (hI h 61 r ≠ 0)) k : Nat) : Int))], h)) rfl ?_
          refine s_add (a := ((cN (fun r => decide (hI h 61 r ≠ 0)) k : Nat) : Int)) (b := 1) rfl rfl ?_
          refine sP 1 (g1 := (63, [some (.ref 53), some (sI 9), some (sI ((((cN (fun r => decide (hI h 61 r ≠ 0)) k : Nat) : Int)) + 1)), some (sI ((k : Int)))], [], h)) rfl ?_
          refine s_inc (a := (k : Int)) (n := 1) (k := 3) rfl rfl rfl ?_
          refine sP 1 (g1 := (46, [some (.ref 53), some (sI 9), some (sI ((((cN (fun r => decide (hI h 61 r ≠ 0)) k : Nat) : Int)) + 1)), some (sI (((k : Int)) + 1))], [], h)) rfl ?_
          rw [cN_s1 (f := (fun r => decide (hI h 61 r ≠ 0))) (k := k) (decide_eq_true (by omega))] at r1
          rw [show ((((cN (fun r => decide (hI h 61 r ≠ 0)) k : Nat) : Int)) + 1 : Int) = ((cN (fun r => decide (hI h 61 r ≠ 0)) k + 1 : Nat) : Int) by omega]
          rw [show ((k : Int) + 1) = ((k + 1 : Nat) : Int) by omega]
          exact r1
theorem fCm0 {n : Nat} (hh : aHp h) (hn : hI h 58 0 = n) : nEv sc (d + 4) 217 [.ref 53, sI 0] h (some (sI (cM h n 0)), h) := by
  refine nEv_of (t := mMe217) rfl ?_
  show nRn sc (d + 3) (mMT mMe217) (mMC mMe217) (0, [some (.ref 53), some (sI 0), none, none], [], h) _
  refine sP 6 (g1 := (6, [some (.ref 53), some (sI 0), some (sI 0), some (sI 0)], [sI 6, sI 0], h)) rfl ?_
  refine s_icmp (q := .ge) (a := 0) (b := 6) rfl ⟨_, rfl⟩ rfl (by unfold sR aMi aMa; omega) (by unfold sR aMi aMa; omega) (fun hc1 => ?_) (fun hc1 => ?_)
  · have hc1 : (6 : Int) ≤ 0 := hc1
    omega
  · have hc1 : ¬ ((6 : Int) ≤ 0) := hc1
    refine sP 2 (g1 := (9, [some (.ref 53), some (sI 0), some (sI 0), some (sI 0)], [sI 7, sI 0], h)) rfl ?_
    refine s_icmp (q := .ne) (a := 0) (b := 7) rfl ⟨_, rfl⟩ rfl (by unfold sR aMi aMa; omega) (by unfold sR aMi aMa; omega) (fun hc2 => ?_) (fun hc2 => ?_)
    · have hc2 : (0 : Int) ≠ 7 := hc2
      refine sP 4 (g1 := (27, [some (.ref 53), some (sI 0), some (sI 0), some (sI 0)], [sI 4, sI 0], h)) rfl ?_
      refine s_icmp (q := .ge) (a := 0) (b := 4) rfl ⟨_, rfl⟩ rfl (by unfold sR aMi aMa; omega) (by unfold sR aMi aMa; omega) (fun hc3 => ?_) (fun hc3 => ?_)
      · have hc3 : (4 : Int) ≤ 0 := hc3
        omega
      · have hc3 : ¬ ((4 : Int) ≤ 0) := hc3
        refine sP 2 (g1 := (30, [some (.ref 53), some (sI 0), some (sI 0), some (sI 0)], [sI 8, sI 0], h)) rfl ?_
        refine s_icmp (q := .ne) (a := 0) (b := 8) rfl ⟨_, rfl⟩ rfl (by unfold sR aMi aMa; omega) (by unfold sR aMi aMa; omega) (fun hc4 => ?_) (fun hc4 => ?_)
        · have hc4 : (0 : Int) ≠ 8 := hc4
          refine sP 4 (g1 := (48, [some (.ref 53), some (sI 0), some (sI 0), some (sI 0)], [sI 3, sI 0], h)) rfl ?_
          refine s_icmp (q := .ge) (a := 0) (b := 3) rfl ⟨_, rfl⟩ rfl (by unfold sR aMi aMa; omega) (by unfold sR aMi aMa; omega) (fun hc5 => ?_) (fun hc5 => ?_)
          · have hc5 : (3 : Int) ≤ 0 := hc5
            omega
          · have hc5 : ¬ ((3 : Int) ≤ 0) := hc5
            refine sP 2 (g1 := (51, [some (.ref 53), some (sI 0), some (sI 0), some (sI 0)], [sI 9, sI 0], h)) rfl ?_
            refine s_icmp (q := .ne) (a := 0) (b := 9) rfl ⟨_, rfl⟩ rfl (by unfold sR aMi aMa; omega) (by unfold sR aMi aMa; omega) (fun hc6 => ?_) (fun hc6 => ?_)
            · have hc6 : (0 : Int) ≠ 9 := hc6
              refine sP 1 (g1 := (66, [some (.ref 53), some (sI 0), some (sI 0), some (sI 0)], [sI 0], h)) rfl ?_
              refine s_tsw (k := 0) rfl ⟨_, _, _, _, rfl⟩ (by unfold sR aMi aMa; omega) rfl ?_
              refine sP 1 (g1 := (68, [some (.ref 53), some (sI 0), some (sI 0), some (sI 0)], [.ref 53], h)) rfl ?_
              refine s_get (a := 53) (j := 4) hh rfl ⟨_, rfl⟩ rfl rfl rfl (v := .ref 58) (hR_ok hh (by decide +kernel)) ?_
              refine sP 1 (g1 := (70, [some (.ref 53), some (sI 0), some (sI 0), some (sI 0)], [sI 0, .ref 58], h)) rfl ?_
              have rg7 := hI_rg hh nw_p
              refine s_iald (a := 58) (n := 201) (j := 0) hh rfl rfl rfl (by omega) (by omega) (by decide) (v := sI (hI h 58 0)) (hI_ok hh nw_p) ?_
              exact s_reti rfl rfl (Or.inl rfl) rfl rfl
            · have hc6 : ¬ ((0 : Int) ≠ 9) := hc6
              omega
        · have hc4 : ¬ ((0 : Int) ≠ 8) := hc4
          omega
    · have hc2 : ¬ ((0 : Int) ≠ 7) := hc2
      omega
theorem fCm1 {n : Nat} (hh : aHp h) (hn : hI h 58 0 = n) : nEv sc (d + 4) 217 [.ref 53, sI 1] h (some (sI (cM h n 1)), h) := by
  refine nEv_of (t := mMe217) rfl ?_
  show nRn sc (d + 3) (mMT mMe217) (mMC mMe217) (0, [some (.ref 53), some (sI 1), none, none], [], h) _
  refine sP 6 (g1 := (6, [some (.ref 53), some (sI 1), some (sI 0), some (sI 0)], [sI 6, sI 0], h)) rfl ?_
  refine s_icmp (q := .ge) (a := 0) (b := 6) rfl ⟨_, rfl⟩ rfl (by unfold sR aMi aMa; omega) (by unfold sR aMi aMa; omega) (fun hc1 => ?_) (fun hc1 => ?_)
  · have hc1 : (6 : Int) ≤ 0 := hc1
    omega
  · have hc1 : ¬ ((6 : Int) ≤ 0) := hc1
    refine sP 2 (g1 := (9, [some (.ref 53), some (sI 1), some (sI 0), some (sI 0)], [sI 7, sI 1], h)) rfl ?_
    refine s_icmp (q := .ne) (a := 1) (b := 7) rfl ⟨_, rfl⟩ rfl (by unfold sR aMi aMa; omega) (by unfold sR aMi aMa; omega) (fun hc2 => ?_) (fun hc2 => ?_)
    · have hc2 : (1 : Int) ≠ 7 := hc2
      refine sP 4 (g1 := (27, [some (.ref 53), some (sI 1), some (sI 0), some (sI 0)], [sI 4, sI 0], h)) rfl ?_
      refine s_icmp (q := .ge) (a := 0) (b := 4) rfl ⟨_, rfl⟩ rfl (by unfold sR aMi aMa; omega) (by unfold sR aMi aMa; omega) (fun hc3 => ?_) (fun hc3 => ?_)
      · have hc3 : (4 : Int) ≤ 0 := hc3
        omega
      · have hc3 : ¬ ((4 : Int) ≤ 0) := hc3
        refine sP 2 (g1 := (30, [some (.ref 53), some (sI 1), some (sI 0), some (sI 0)], [sI 8, sI 1], h)) rfl ?_
        refine s_icmp (q := .ne) (a := 1) (b := 8) rfl ⟨_, rfl⟩ rfl (by unfold sR aMi aMa; omega) (by unfold sR aMi aMa; omega) (fun hc4 => ?_) (fun hc4 => ?_)
        · have hc4 : (1 : Int) ≠ 8 := hc4
          refine sP 4 (g1 := (48, [some (.ref 53), some (sI 1), some (sI 0), some (sI 0)], [sI 3, sI 0], h)) rfl ?_
          refine s_icmp (q := .ge) (a := 0) (b := 3) rfl ⟨_, rfl⟩ rfl (by unfold sR aMi aMa; omega) (by unfold sR aMi aMa; omega) (fun hc5 => ?_) (fun hc5 => ?_)
          · have hc5 : (3 : Int) ≤ 0 := hc5
            omega
          · have hc5 : ¬ ((3 : Int) ≤ 0) := hc5
            refine sP 2 (g1 := (51, [some (.ref 53), some (sI 1), some (sI 0), some (sI 0)], [sI 9, sI 1], h)) rfl ?_
            refine s_icmp (q := .ne) (a := 1) (b := 9) rfl ⟨_, rfl⟩ rfl (by unfold sR aMi aMa; omega) (by unfold sR aMi aMa; omega) (fun hc6 => ?_) (fun hc6 => ?_)
            · have hc6 : (1 : Int) ≠ 9 := hc6
              refine sP 1 (g1 := (66, [some (.ref 53), some (sI 1), some (sI 0), some (sI 0)], [sI 1], h)) rfl ?_
              refine s_tsw (k := 1) rfl ⟨_, _, _, _, rfl⟩ (by unfold sR aMi aMa; omega) rfl ?_
              refine sP 1 (g1 := (73, [some (.ref 53), some (sI 1), some (sI 0), some (sI 0)], [.ref 53], h)) rfl ?_
              refine s_get (a := 53) (j := 4) hh rfl ⟨_, rfl⟩ rfl rfl rfl (v := .ref 58) (hR_ok hh (by decide +kernel)) ?_
              refine sP 1 (g1 := (75, [some (.ref 53), some (sI 1), some (sI 0), some (sI 0)], [sI 43, .ref 58], h)) rfl ?_
              have rg7 := hI_rg hh nw_u
              refine s_iald (a := 58) (n := 201) (j := 43) hh rfl rfl rfl (by omega) (by omega) (by decide) (v := sI (hI h 58 43)) (hI_ok hh nw_u) ?_
              exact s_reti rfl rfl (Or.inl rfl) rfl rfl
            · have hc6 : ¬ ((1 : Int) ≠ 9) := hc6
              omega
        · have hc4 : ¬ ((1 : Int) ≠ 8) := hc4
          omega
    · have hc2 : ¬ ((1 : Int) ≠ 7) := hc2
      omega
theorem fCm2 {n : Nat} (hh : aHp h) (hn : hI h 58 0 = n) : nEv sc (d + 4) 217 [.ref 53, sI 2] h (some (sI (cM h n 2)), h) := by
  refine nEv_of (t := mMe217) rfl ?_
  show nRn sc (d + 3) (mMT mMe217) (mMC mMe217) (0, [some (.ref 53), some (sI 2), none, none], [], h) _
  refine sP 6 (g1 := (6, [some (.ref 53), some (sI 2), some (sI 0), some (sI 0)], [sI 6, sI 0], h)) rfl ?_
  refine s_icmp (q := .ge) (a := 0) (b := 6) rfl ⟨_, rfl⟩ rfl (by unfold sR aMi aMa; omega) (by unfold sR aMi aMa; omega) (fun hc1 => ?_) (fun hc1 => ?_)
  · have hc1 : (6 : Int) ≤ 0 := hc1
    omega
  · have hc1 : ¬ ((6 : Int) ≤ 0) := hc1
    refine sP 2 (g1 := (9, [some (.ref 53), some (sI 2), some (sI 0), some (sI 0)], [sI 7, sI 2], h)) rfl ?_
    refine s_icmp (q := .ne) (a := 2) (b := 7) rfl ⟨_, rfl⟩ rfl (by unfold sR aMi aMa; omega) (by unfold sR aMi aMa; omega) (fun hc2 => ?_) (fun hc2 => ?_)
    · have hc2 : (2 : Int) ≠ 7 := hc2
      refine sP 4 (g1 := (27, [some (.ref 53), some (sI 2), some (sI 0), some (sI 0)], [sI 4, sI 0], h)) rfl ?_
      refine s_icmp (q := .ge) (a := 0) (b := 4) rfl ⟨_, rfl⟩ rfl (by unfold sR aMi aMa; omega) (by unfold sR aMi aMa; omega) (fun hc3 => ?_) (fun hc3 => ?_)
      · have hc3 : (4 : Int) ≤ 0 := hc3
        omega
      · have hc3 : ¬ ((4 : Int) ≤ 0) := hc3
        refine sP 2 (g1 := (30, [some (.ref 53), some (sI 2), some (sI 0), some (sI 0)], [sI 8, sI 2], h)) rfl ?_
        refine s_icmp (q := .ne) (a := 2) (b := 8) rfl ⟨_, rfl⟩ rfl (by unfold sR aMi aMa; omega) (by unfold sR aMi aMa; omega) (fun hc4 => ?_) (fun hc4 => ?_)
        · have hc4 : (2 : Int) ≠ 8 := hc4
          refine sP 4 (g1 := (48, [some (.ref 53), some (sI 2), some (sI 0), some (sI 0)], [sI 3, sI 0], h)) rfl ?_
          refine s_icmp (q := .ge) (a := 0) (b := 3) rfl ⟨_, rfl⟩ rfl (by unfold sR aMi aMa; omega) (by unfold sR aMi aMa; omega) (fun hc5 => ?_) (fun hc5 => ?_)
          · have hc5 : (3 : Int) ≤ 0 := hc5
            omega
          · have hc5 : ¬ ((3 : Int) ≤ 0) := hc5
            refine sP 2 (g1 := (51, [some (.ref 53), some (sI 2), some (sI 0), some (sI 0)], [sI 9, sI 2], h)) rfl ?_
            refine s_icmp (q := .ne) (a := 2) (b := 9) rfl ⟨_, rfl⟩ rfl (by unfold sR aMi aMa; omega) (by unfold sR aMi aMa; omega) (fun hc6 => ?_) (fun hc6 => ?_)
            · have hc6 : (2 : Int) ≠ 9 := hc6
              refine sP 1 (g1 := (66, [some (.ref 53), some (sI 2), some (sI 0), some (sI 0)], [sI 2], h)) rfl ?_
              refine s_tsw (k := 2) rfl ⟨_, _, _, _, rfl⟩ (by unfold sR aMi aMa; omega) rfl ?_
              refine sP 1 (g1 := (78, [some (.ref 53), some (sI 2), some (sI 0), some (sI 0)], [.ref 53], h)) rfl ?_
              refine s_call (k := 163) (args := [.ref 53]) (st := []) (v := some (sI (hI h 58 80))) (h1 := h) rfl ⟨rfl, rfl⟩ rfl rfl rfl rfl (sRcv hh (a := 53) rfl rfl) rfl (fDone hh) ?_
              exact s_reti rfl rfl (Or.inl rfl) rfl rfl
            · have hc6 : ¬ ((2 : Int) ≠ 9) := hc6
              omega
        · have hc4 : ¬ ((2 : Int) ≠ 8) := hc4
          omega
    · have hc2 : ¬ ((2 : Int) ≠ 7) := hc2
      omega
theorem fCm3 {n : Nat} (hh : aHp h) (hn : hI h 58 0 = n) : nEv sc (d + 4) 217 [.ref 53, sI 3] h (some (sI (cM h n 3)), h) := by
  refine nEv_of (t := mMe217) rfl ?_
  show nRn sc (d + 3) (mMT mMe217) (mMC mMe217) (0, [some (.ref 53), some (sI 3), none, none], [], h) _
  refine sP 6 (g1 := (6, [some (.ref 53), some (sI 3), some (sI 0), some (sI 0)], [sI 6, sI 0], h)) rfl ?_
  refine s_icmp (q := .ge) (a := 0) (b := 6) rfl ⟨_, rfl⟩ rfl (by unfold sR aMi aMa; omega) (by unfold sR aMi aMa; omega) (fun hc1 => ?_) (fun hc1 => ?_)
  · have hc1 : (6 : Int) ≤ 0 := hc1
    omega
  · have hc1 : ¬ ((6 : Int) ≤ 0) := hc1
    refine sP 2 (g1 := (9, [some (.ref 53), some (sI 3), some (sI 0), some (sI 0)], [sI 7, sI 3], h)) rfl ?_
    refine s_icmp (q := .ne) (a := 3) (b := 7) rfl ⟨_, rfl⟩ rfl (by unfold sR aMi aMa; omega) (by unfold sR aMi aMa; omega) (fun hc2 => ?_) (fun hc2 => ?_)
    · have hc2 : (3 : Int) ≠ 7 := hc2
      refine sP 4 (g1 := (27, [some (.ref 53), some (sI 3), some (sI 0), some (sI 0)], [sI 4, sI 0], h)) rfl ?_
      refine s_icmp (q := .ge) (a := 0) (b := 4) rfl ⟨_, rfl⟩ rfl (by unfold sR aMi aMa; omega) (by unfold sR aMi aMa; omega) (fun hc3 => ?_) (fun hc3 => ?_)
      · have hc3 : (4 : Int) ≤ 0 := hc3
        omega
      · have hc3 : ¬ ((4 : Int) ≤ 0) := hc3
        refine sP 2 (g1 := (30, [some (.ref 53), some (sI 3), some (sI 0), some (sI 0)], [sI 8, sI 3], h)) rfl ?_
        refine s_icmp (q := .ne) (a := 3) (b := 8) rfl ⟨_, rfl⟩ rfl (by unfold sR aMi aMa; omega) (by unfold sR aMi aMa; omega) (fun hc4 => ?_) (fun hc4 => ?_)
        · have hc4 : (3 : Int) ≠ 8 := hc4
          refine sP 4 (g1 := (48, [some (.ref 53), some (sI 3), some (sI 0), some (sI 0)], [sI 3, sI 0], h)) rfl ?_
          refine s_icmp (q := .ge) (a := 0) (b := 3) rfl ⟨_, rfl⟩ rfl (by unfold sR aMi aMa; omega) (by unfold sR aMi aMa; omega) (fun hc5 => ?_) (fun hc5 => ?_)
          · have hc5 : (3 : Int) ≤ 0 := hc5
            omega
          · have hc5 : ¬ ((3 : Int) ≤ 0) := hc5
            refine sP 2 (g1 := (51, [some (.ref 53), some (sI 3), some (sI 0), some (sI 0)], [sI 9, sI 3], h)) rfl ?_
            refine s_icmp (q := .ne) (a := 3) (b := 9) rfl ⟨_, rfl⟩ rfl (by unfold sR aMi aMa; omega) (by unfold sR aMi aMa; omega) (fun hc6 => ?_) (fun hc6 => ?_)
            · have hc6 : (3 : Int) ≠ 9 := hc6
              refine sP 1 (g1 := (66, [some (.ref 53), some (sI 3), some (sI 0), some (sI 0)], [sI 3], h)) rfl ?_
              refine s_tsw (k := 3) rfl ⟨_, _, _, _, rfl⟩ (by unfold sR aMi aMa; omega) rfl ?_
              refine sP 1 (g1 := (81, [some (.ref 53), some (sI 3), some (sI 0), some (sI 0)], [.ref 53], h)) rfl ?_
              refine s_call (k := 175) (args := [.ref 53]) (st := []) (v := some (sI (yA (fun j => hI h 58 (44 + j)) 6 / 2))) (h1 := h) rfl ⟨rfl, rfl⟩ rfl rfl rfl rfl (sRcv hh (a := 53) rfl rfl) rfl (fTrs hh) ?_
              exact s_reti rfl rfl (Or.inl rfl) rfl rfl
            · have hc6 : ¬ ((3 : Int) ≠ 9) := hc6
              omega
        · have hc4 : ¬ ((3 : Int) ≠ 8) := hc4
          omega
    · have hc2 : ¬ ((3 : Int) ≠ 7) := hc2
      omega
theorem fCm4 {n : Nat} (hh : aHp h) (hn : hI h 58 0 = n) : nEv sc (d + 4) 217 [.ref 53, sI 4] h (some (sI (cM h n 4)), h) := by
  refine nEv_of (t := mMe217) rfl ?_
  show nRn sc (d + 3) (mMT mMe217) (mMC mMe217) (0, [some (.ref 53), some (sI 4), none, none], [], h) _
  refine sP 6 (g1 := (6, [some (.ref 53), some (sI 4), some (sI 0), some (sI 0)], [sI 6, sI 0], h)) rfl ?_
  refine s_icmp (q := .ge) (a := 0) (b := 6) rfl ⟨_, rfl⟩ rfl (by unfold sR aMi aMa; omega) (by unfold sR aMi aMa; omega) (fun hc1 => ?_) (fun hc1 => ?_)
  · have hc1 : (6 : Int) ≤ 0 := hc1
    omega
  · have hc1 : ¬ ((6 : Int) ≤ 0) := hc1
    refine sP 2 (g1 := (9, [some (.ref 53), some (sI 4), some (sI 0), some (sI 0)], [sI 7, sI 4], h)) rfl ?_
    refine s_icmp (q := .ne) (a := 4) (b := 7) rfl ⟨_, rfl⟩ rfl (by unfold sR aMi aMa; omega) (by unfold sR aMi aMa; omega) (fun hc2 => ?_) (fun hc2 => ?_)
    · have hc2 : (4 : Int) ≠ 7 := hc2
      refine sP 4 (g1 := (27, [some (.ref 53), some (sI 4), some (sI 0), some (sI 0)], [sI 4, sI 0], h)) rfl ?_
      refine s_icmp (q := .ge) (a := 0) (b := 4) rfl ⟨_, rfl⟩ rfl (by unfold sR aMi aMa; omega) (by unfold sR aMi aMa; omega) (fun hc3 => ?_) (fun hc3 => ?_)
      · have hc3 : (4 : Int) ≤ 0 := hc3
        omega
      · have hc3 : ¬ ((4 : Int) ≤ 0) := hc3
        refine sP 2 (g1 := (30, [some (.ref 53), some (sI 4), some (sI 0), some (sI 0)], [sI 8, sI 4], h)) rfl ?_
        refine s_icmp (q := .ne) (a := 4) (b := 8) rfl ⟨_, rfl⟩ rfl (by unfold sR aMi aMa; omega) (by unfold sR aMi aMa; omega) (fun hc4 => ?_) (fun hc4 => ?_)
        · have hc4 : (4 : Int) ≠ 8 := hc4
          refine sP 4 (g1 := (48, [some (.ref 53), some (sI 4), some (sI 0), some (sI 0)], [sI 3, sI 0], h)) rfl ?_
          refine s_icmp (q := .ge) (a := 0) (b := 3) rfl ⟨_, rfl⟩ rfl (by unfold sR aMi aMa; omega) (by unfold sR aMi aMa; omega) (fun hc5 => ?_) (fun hc5 => ?_)
          · have hc5 : (3 : Int) ≤ 0 := hc5
            omega
          · have hc5 : ¬ ((3 : Int) ≤ 0) := hc5
            refine sP 2 (g1 := (51, [some (.ref 53), some (sI 4), some (sI 0), some (sI 0)], [sI 9, sI 4], h)) rfl ?_
            refine s_icmp (q := .ne) (a := 4) (b := 9) rfl ⟨_, rfl⟩ rfl (by unfold sR aMi aMa; omega) (by unfold sR aMi aMa; omega) (fun hc6 => ?_) (fun hc6 => ?_)
            · have hc6 : (4 : Int) ≠ 9 := hc6
              refine sP 1 (g1 := (66, [some (.ref 53), some (sI 4), some (sI 0), some (sI 0)], [sI 4], h)) rfl ?_
              refine s_tsw (k := 4) rfl ⟨_, _, _, _, rfl⟩ (by unfold sR aMi aMa; omega) rfl ?_
              refine sP 1 (g1 := (84, [some (.ref 53), some (sI 4), some (sI 0), some (sI 0)], [.ref 53], h)) rfl ?_
              refine s_call (k := 168) (args := [.ref 53]) (st := []) (v := some (sI (((uA (fun j => hI h 58 (7 + j)) n n : Nat) : Int)))) (h1 := h) rfl ⟨rfl, rfl⟩ rfl rfl rfl rfl (sRcv hh (a := 53) rfl rfl) rfl (fUnmet hh hn) ?_
              exact s_reti rfl rfl (Or.inl rfl) rfl rfl
            · have hc6 : ¬ ((4 : Int) ≠ 9) := hc6
              omega
        · have hc4 : ¬ ((4 : Int) ≠ 8) := hc4
          omega
    · have hc2 : ¬ ((4 : Int) ≠ 7) := hc2
      omega
theorem fCm5 {n : Nat} (hh : aHp h) (hn : hI h 58 0 = n) : nEv sc (d + 4) 217 [.ref 53, sI 5] h (some (sI (cM h n 5)), h) := by
  refine nEv_of (t := mMe217) rfl ?_
  show nRn sc (d + 3) (mMT mMe217) (mMC mMe217) (0, [some (.ref 53), some (sI 5), none, none], [], h) _
  refine sP 6 (g1 := (6, [some (.ref 53), some (sI 5), some (sI 0), some (sI 0)], [sI 6, sI 0], h)) rfl ?_
  refine s_icmp (q := .ge) (a := 0) (b := 6) rfl ⟨_, rfl⟩ rfl (by unfold sR aMi aMa; omega) (by unfold sR aMi aMa; omega) (fun hc1 => ?_) (fun hc1 => ?_)
  · have hc1 : (6 : Int) ≤ 0 := hc1
    omega
  · have hc1 : ¬ ((6 : Int) ≤ 0) := hc1
    refine sP 2 (g1 := (9, [some (.ref 53), some (sI 5), some (sI 0), some (sI 0)], [sI 7, sI 5], h)) rfl ?_
    refine s_icmp (q := .ne) (a := 5) (b := 7) rfl ⟨_, rfl⟩ rfl (by unfold sR aMi aMa; omega) (by unfold sR aMi aMa; omega) (fun hc2 => ?_) (fun hc2 => ?_)
    · have hc2 : (5 : Int) ≠ 7 := hc2
      refine sP 4 (g1 := (27, [some (.ref 53), some (sI 5), some (sI 0), some (sI 0)], [sI 4, sI 0], h)) rfl ?_
      refine s_icmp (q := .ge) (a := 0) (b := 4) rfl ⟨_, rfl⟩ rfl (by unfold sR aMi aMa; omega) (by unfold sR aMi aMa; omega) (fun hc3 => ?_) (fun hc3 => ?_)
      · have hc3 : (4 : Int) ≤ 0 := hc3
        omega
      · have hc3 : ¬ ((4 : Int) ≤ 0) := hc3
        refine sP 2 (g1 := (30, [some (.ref 53), some (sI 5), some (sI 0), some (sI 0)], [sI 8, sI 5], h)) rfl ?_
        refine s_icmp (q := .ne) (a := 5) (b := 8) rfl ⟨_, rfl⟩ rfl (by unfold sR aMi aMa; omega) (by unfold sR aMi aMa; omega) (fun hc4 => ?_) (fun hc4 => ?_)
        · have hc4 : (5 : Int) ≠ 8 := hc4
          refine sP 4 (g1 := (48, [some (.ref 53), some (sI 5), some (sI 0), some (sI 0)], [sI 3, sI 0], h)) rfl ?_
          refine s_icmp (q := .ge) (a := 0) (b := 3) rfl ⟨_, rfl⟩ rfl (by unfold sR aMi aMa; omega) (by unfold sR aMi aMa; omega) (fun hc5 => ?_) (fun hc5 => ?_)
          · have hc5 : (3 : Int) ≤ 0 := hc5
            omega
          · have hc5 : ¬ ((3 : Int) ≤ 0) := hc5
            refine sP 2 (g1 := (51, [some (.ref 53), some (sI 5), some (sI 0), some (sI 0)], [sI 9, sI 5], h)) rfl ?_
            refine s_icmp (q := .ne) (a := 5) (b := 9) rfl ⟨_, rfl⟩ rfl (by unfold sR aMi aMa; omega) (by unfold sR aMi aMa; omega) (fun hc6 => ?_) (fun hc6 => ?_)
            · have hc6 : (5 : Int) ≠ 9 := hc6
              refine sP 1 (g1 := (66, [some (.ref 53), some (sI 5), some (sI 0), some (sI 0)], [sI 5], h)) rfl ?_
              refine s_tsw (k := 5) rfl ⟨_, _, _, _, rfl⟩ (by unfold sR aMi aMa; omega) rfl ?_
              refine sP 2 (g1 := (88, [some (.ref 53), some (sI 5), some (sI 0), some (sI 0)], [sI 1, .ref 53], h)) rfl ?_
              refine s_call (k := 160) (args := [.ref 53, sI 1]) (st := []) (v := some (sI (((hK (fun a => hI h 58 (1 + a)) 1 n : Nat) : Int)))) (h1 := h) rfl ⟨rfl, rfl⟩ rfl rfl rfl rfl (sRcv hh (a := 53) rfl rfl) rfl (fKindsOf (k := 1) hh hn (by decide) (by decide)) ?_
              exact s_reti rfl rfl (Or.inl rfl) rfl rfl
            · have hc6 : ¬ ((5 : Int) ≠ 9) := hc6
              omega
        · have hc4 : ¬ ((5 : Int) ≠ 8) := hc4
          omega
    · have hc2 : ¬ ((5 : Int) ≠ 7) := hc2
      omega
theorem fCm6 {n : Nat} (hh : aHp h) (hn : hI h 58 0 = n) : nEv sc (d + 4) 217 [.ref 53, sI 6] h (some (sI (cM h n 6)), h) := by
  refine nEv_of (t := mMe217) rfl ?_
  show nRn sc (d + 3) (mMT mMe217) (mMC mMe217) (0, [some (.ref 53), some (sI 6), none, none], [], h) _
  refine sP 6 (g1 := (6, [some (.ref 53), some (sI 6), some (sI 0), some (sI 0)], [sI 6, sI 0], h)) rfl ?_
  refine s_icmp (q := .ge) (a := 0) (b := 6) rfl ⟨_, rfl⟩ rfl (by unfold sR aMi aMa; omega) (by unfold sR aMi aMa; omega) (fun hc1 => ?_) (fun hc1 => ?_)
  · have hc1 : (6 : Int) ≤ 0 := hc1
    omega
  · have hc1 : ¬ ((6 : Int) ≤ 0) := hc1
    refine sP 2 (g1 := (9, [some (.ref 53), some (sI 6), some (sI 0), some (sI 0)], [sI 7, sI 6], h)) rfl ?_
    refine s_icmp (q := .ne) (a := 6) (b := 7) rfl ⟨_, rfl⟩ rfl (by unfold sR aMi aMa; omega) (by unfold sR aMi aMa; omega) (fun hc2 => ?_) (fun hc2 => ?_)
    · have hc2 : (6 : Int) ≠ 7 := hc2
      refine sP 4 (g1 := (27, [some (.ref 53), some (sI 6), some (sI 0), some (sI 0)], [sI 4, sI 0], h)) rfl ?_
      refine s_icmp (q := .ge) (a := 0) (b := 4) rfl ⟨_, rfl⟩ rfl (by unfold sR aMi aMa; omega) (by unfold sR aMi aMa; omega) (fun hc3 => ?_) (fun hc3 => ?_)
      · have hc3 : (4 : Int) ≤ 0 := hc3
        omega
      · have hc3 : ¬ ((4 : Int) ≤ 0) := hc3
        refine sP 2 (g1 := (30, [some (.ref 53), some (sI 6), some (sI 0), some (sI 0)], [sI 8, sI 6], h)) rfl ?_
        refine s_icmp (q := .ne) (a := 6) (b := 8) rfl ⟨_, rfl⟩ rfl (by unfold sR aMi aMa; omega) (by unfold sR aMi aMa; omega) (fun hc4 => ?_) (fun hc4 => ?_)
        · have hc4 : (6 : Int) ≠ 8 := hc4
          refine sP 4 (g1 := (48, [some (.ref 53), some (sI 6), some (sI 0), some (sI 0)], [sI 3, sI 0], h)) rfl ?_
          refine s_icmp (q := .ge) (a := 0) (b := 3) rfl ⟨_, rfl⟩ rfl (by unfold sR aMi aMa; omega) (by unfold sR aMi aMa; omega) (fun hc5 => ?_) (fun hc5 => ?_)
          · have hc5 : (3 : Int) ≤ 0 := hc5
            omega
          · have hc5 : ¬ ((3 : Int) ≤ 0) := hc5
            refine sP 2 (g1 := (51, [some (.ref 53), some (sI 6), some (sI 0), some (sI 0)], [sI 9, sI 6], h)) rfl ?_
            refine s_icmp (q := .ne) (a := 6) (b := 9) rfl ⟨_, rfl⟩ rfl (by unfold sR aMi aMa; omega) (by unfold sR aMi aMa; omega) (fun hc6 => ?_) (fun hc6 => ?_)
            · have hc6 : (6 : Int) ≠ 9 := hc6
              refine sP 1 (g1 := (66, [some (.ref 53), some (sI 6), some (sI 0), some (sI 0)], [sI 6], h)) rfl ?_
              refine s_tsw (k := 6) rfl ⟨_, _, _, _, rfl⟩ (by unfold sR aMi aMa; omega) rfl ?_
              refine sP 2 (g1 := (92, [some (.ref 53), some (sI 6), some (sI 0), some (sI 0)], [sI 2, .ref 53], h)) rfl ?_
              refine s_call (k := 160) (args := [.ref 53, sI 2]) (st := []) (v := some (sI (((hK (fun a => hI h 58 (1 + a)) 2 n : Nat) : Int)))) (h1 := h) rfl ⟨rfl, rfl⟩ rfl rfl rfl rfl (sRcv hh (a := 53) rfl rfl) rfl (fKindsOf (k := 2) hh hn (by decide) (by decide)) ?_
              exact s_reti rfl rfl (Or.inl rfl) rfl rfl
            · have hc6 : ¬ ((6 : Int) ≠ 9) := hc6
              omega
        · have hc4 : ¬ ((6 : Int) ≠ 8) := hc4
          omega
    · have hc2 : ¬ ((6 : Int) ≠ 7) := hc2
      omega
theorem fCm7 {n : Nat} (hh : aHp h) (hn : hI h 58 0 = n) : nEv sc (d + 4) 217 [.ref 53, sI 7] h (some (sI (cM h n 7)), h) := by
  refine nEv_of (t := mMe217) rfl ?_
  show nRn sc (d + 3) (mMT mMe217) (mMC mMe217) (0, [some (.ref 53), some (sI 7), none, none], [], h) _
  refine sP 4 (g1 := (4, [some (.ref 53), some (sI 7), some (sI 0), some (sI 0)], [], h)) rfl ?_
  refine fCnt7L (sc := sc) (d := d + 3) hh ?_ 6 0 (by omega)
  refine sP 4 (g1 := (27, [some (.ref 53), some (sI 7), some (sI (((cN (fun r => decide (¬ hI h 54 r < 0)) 6 : Nat) : Int))), some (sI 0)], [sI 4, sI 0], h)) rfl ?_
  refine s_icmp (q := .ge) (a := 0) (b := 4) rfl ⟨_, rfl⟩ rfl (by unfold sR aMi aMa; omega) (by unfold sR aMi aMa; omega) (fun hc31 => ?_) (fun hc31 => ?_)
  · have hc31 : (4 : Int) ≤ 0 := hc31
    omega
  · have hc31 : ¬ ((4 : Int) ≤ 0) := hc31
    refine sP 2 (g1 := (30, [some (.ref 53), some (sI 7), some (sI (((cN (fun r => decide (¬ hI h 54 r < 0)) 6 : Nat) : Int))), some (sI 0)], [sI 8, sI 7], h)) rfl ?_
    refine s_icmp (q := .ne) (a := 7) (b := 8) rfl ⟨_, rfl⟩ rfl (by unfold sR aMi aMa; omega) (by unfold sR aMi aMa; omega) (fun hc32 => ?_) (fun hc32 => ?_)
    · have hc32 : (7 : Int) ≠ 8 := hc32
      refine sP 4 (g1 := (48, [some (.ref 53), some (sI 7), some (sI (((cN (fun r => decide (¬ hI h 54 r < 0)) 6 : Nat) : Int))), some (sI 0)], [sI 3, sI 0], h)) rfl ?_
      refine s_icmp (q := .ge) (a := 0) (b := 3) rfl ⟨_, rfl⟩ rfl (by unfold sR aMi aMa; omega) (by unfold sR aMi aMa; omega) (fun hc33 => ?_) (fun hc33 => ?_)
      · have hc33 : (3 : Int) ≤ 0 := hc33
        omega
      · have hc33 : ¬ ((3 : Int) ≤ 0) := hc33
        refine sP 2 (g1 := (51, [some (.ref 53), some (sI 7), some (sI (((cN (fun r => decide (¬ hI h 54 r < 0)) 6 : Nat) : Int))), some (sI 0)], [sI 9, sI 7], h)) rfl ?_
        refine s_icmp (q := .ne) (a := 7) (b := 9) rfl ⟨_, rfl⟩ rfl (by unfold sR aMi aMa; omega) (by unfold sR aMi aMa; omega) (fun hc34 => ?_) (fun hc34 => ?_)
        · have hc34 : (7 : Int) ≠ 9 := hc34
          refine sP 1 (g1 := (66, [some (.ref 53), some (sI 7), some (sI (((cN (fun r => decide (¬ hI h 54 r < 0)) 6 : Nat) : Int))), some (sI 0)], [sI 7], h)) rfl ?_
          refine s_tsw (k := 7) rfl ⟨_, _, _, _, rfl⟩ (by unfold sR aMi aMa; omega) rfl ?_
          refine sP 1 (g1 := (95, [some (.ref 53), some (sI 7), some (sI (((cN (fun r => decide (¬ hI h 54 r < 0)) 6 : Nat) : Int))), some (sI 0)], [sI (((cN (fun r => decide (¬ hI h 54 r < 0)) 6 : Nat) : Int))], h)) rfl ?_
          exact s_reti rfl rfl (Or.inl rfl) rfl rfl
        · have hc34 : ¬ ((7 : Int) ≠ 9) := hc34
          omega
    · have hc32 : ¬ ((7 : Int) ≠ 8) := hc32
      omega
theorem fCm8 {n : Nat} (hh : aHp h) (hn : hI h 58 0 = n) : nEv sc (d + 4) 217 [.ref 53, sI 8] h (some (sI (cM h n 8)), h) := by
  refine nEv_of (t := mMe217) rfl ?_
  show nRn sc (d + 3) (mMT mMe217) (mMC mMe217) (0, [some (.ref 53), some (sI 8), none, none], [], h) _
  refine sP 6 (g1 := (6, [some (.ref 53), some (sI 8), some (sI 0), some (sI 0)], [sI 6, sI 0], h)) rfl ?_
  refine s_icmp (q := .ge) (a := 0) (b := 6) rfl ⟨_, rfl⟩ rfl (by unfold sR aMi aMa; omega) (by unfold sR aMi aMa; omega) (fun hc1 => ?_) (fun hc1 => ?_)
  · have hc1 : (6 : Int) ≤ 0 := hc1
    omega
  · have hc1 : ¬ ((6 : Int) ≤ 0) := hc1
    refine sP 2 (g1 := (9, [some (.ref 53), some (sI 8), some (sI 0), some (sI 0)], [sI 7, sI 8], h)) rfl ?_
    refine s_icmp (q := .ne) (a := 8) (b := 7) rfl ⟨_, rfl⟩ rfl (by unfold sR aMi aMa; omega) (by unfold sR aMi aMa; omega) (fun hc2 => ?_) (fun hc2 => ?_)
    · have hc2 : (8 : Int) ≠ 7 := hc2
      refine sP 2 (g1 := (25, [some (.ref 53), some (sI 8), some (sI 0), some (sI 0)], [], h)) rfl ?_
      refine fCnt8L (sc := sc) (d := d + 3) hh ?_ 4 0 (by omega)
      refine sP 4 (g1 := (48, [some (.ref 53), some (sI 8), some (sI (((cN (fun r => decide (¬ hI h 56 r < 0)) 4 : Nat) : Int))), some (sI 0)], [sI 3, sI 0], h)) rfl ?_
      refine s_icmp (q := .ge) (a := 0) (b := 3) rfl ⟨_, rfl⟩ rfl (by unfold sR aMi aMa; omega) (by unfold sR aMi aMa; omega) (fun hc31 => ?_) (fun hc31 => ?_)
      · have hc31 : (3 : Int) ≤ 0 := hc31
        omega
      · have hc31 : ¬ ((3 : Int) ≤ 0) := hc31
        refine sP 2 (g1 := (51, [some (.ref 53), some (sI 8), some (sI (((cN (fun r => decide (¬ hI h 56 r < 0)) 4 : Nat) : Int))), some (sI 0)], [sI 9, sI 8], h)) rfl ?_
        refine s_icmp (q := .ne) (a := 8) (b := 9) rfl ⟨_, rfl⟩ rfl (by unfold sR aMi aMa; omega) (by unfold sR aMi aMa; omega) (fun hc32 => ?_) (fun hc32 => ?_)
        · have hc32 : (8 : Int) ≠ 9 := hc32
          refine sP 1 (g1 := (66, [some (.ref 53), some (sI 8), some (sI (((cN (fun r => decide (¬ hI h 56 r < 0)) 4 : Nat) : Int))), some (sI 0)], [sI 8], h)) rfl ?_
          refine s_tsw (k := 8) rfl ⟨_, _, _, _, rfl⟩ (by unfold sR aMi aMa; omega) rfl ?_
          refine sP 1 (g1 := (95, [some (.ref 53), some (sI 8), some (sI (((cN (fun r => decide (¬ hI h 56 r < 0)) 4 : Nat) : Int))), some (sI 0)], [sI (((cN (fun r => decide (¬ hI h 56 r < 0)) 4 : Nat) : Int))], h)) rfl ?_
          exact s_reti rfl rfl (Or.inl rfl) rfl rfl
        · have hc32 : ¬ ((8 : Int) ≠ 9) := hc32
          omega
    · have hc2 : ¬ ((8 : Int) ≠ 7) := hc2
      omega
theorem fCm9 {n : Nat} (hh : aHp h) (hn : hI h 58 0 = n) : nEv sc (d + 4) 217 [.ref 53, sI 9] h (some (sI (cM h n 9)), h) := by
  refine nEv_of (t := mMe217) rfl ?_
  show nRn sc (d + 3) (mMT mMe217) (mMC mMe217) (0, [some (.ref 53), some (sI 9), none, none], [], h) _
  refine sP 6 (g1 := (6, [some (.ref 53), some (sI 9), some (sI 0), some (sI 0)], [sI 6, sI 0], h)) rfl ?_
  refine s_icmp (q := .ge) (a := 0) (b := 6) rfl ⟨_, rfl⟩ rfl (by unfold sR aMi aMa; omega) (by unfold sR aMi aMa; omega) (fun hc1 => ?_) (fun hc1 => ?_)
  · have hc1 : (6 : Int) ≤ 0 := hc1
    omega
  · have hc1 : ¬ ((6 : Int) ≤ 0) := hc1
    refine sP 2 (g1 := (9, [some (.ref 53), some (sI 9), some (sI 0), some (sI 0)], [sI 7, sI 9], h)) rfl ?_
    refine s_icmp (q := .ne) (a := 9) (b := 7) rfl ⟨_, rfl⟩ rfl (by unfold sR aMi aMa; omega) (by unfold sR aMi aMa; omega) (fun hc2 => ?_) (fun hc2 => ?_)
    · have hc2 : (9 : Int) ≠ 7 := hc2
      refine sP 4 (g1 := (27, [some (.ref 53), some (sI 9), some (sI 0), some (sI 0)], [sI 4, sI 0], h)) rfl ?_
      refine s_icmp (q := .ge) (a := 0) (b := 4) rfl ⟨_, rfl⟩ rfl (by unfold sR aMi aMa; omega) (by unfold sR aMi aMa; omega) (fun hc3 => ?_) (fun hc3 => ?_)
      · have hc3 : (4 : Int) ≤ 0 := hc3
        omega
      · have hc3 : ¬ ((4 : Int) ≤ 0) := hc3
        refine sP 2 (g1 := (30, [some (.ref 53), some (sI 9), some (sI 0), some (sI 0)], [sI 8, sI 9], h)) rfl ?_
        refine s_icmp (q := .ne) (a := 9) (b := 8) rfl ⟨_, rfl⟩ rfl (by unfold sR aMi aMa; omega) (by unfold sR aMi aMa; omega) (fun hc4 => ?_) (fun hc4 => ?_)
        · have hc4 : (9 : Int) ≠ 8 := hc4
          refine sP 2 (g1 := (46, [some (.ref 53), some (sI 9), some (sI 0), some (sI 0)], [], h)) rfl ?_
          refine fCnt9L (sc := sc) (d := d + 3) hh ?_ 3 0 (by omega)
          refine sP 1 (g1 := (66, [some (.ref 53), some (sI 9), some (sI (((cN (fun r => decide (hI h 61 r ≠ 0)) 3 : Nat) : Int))), some (sI (((3 : Nat) : Int)))], [sI 9], h)) rfl ?_
          refine s_tsw (k := 9) rfl ⟨_, _, _, _, rfl⟩ (by unfold sR aMi aMa; omega) rfl ?_
          refine sP 1 (g1 := (95, [some (.ref 53), some (sI 9), some (sI (((cN (fun r => decide (hI h 61 r ≠ 0)) 3 : Nat) : Int))), some (sI (((3 : Nat) : Int)))], [sI (((cN (fun r => decide (hI h 61 r ≠ 0)) 3 : Nat) : Int))], h)) rfl ?_
          exact s_reti rfl rfl (Or.inl rfl) rfl rfl
        · have hc4 : ¬ ((9 : Int) ≠ 8) := hc4
          omega
    · have hc2 : ¬ ((9 : Int) ≠ 7) := hc2
      omega
theorem fCm {n k : Nat} (hh : aHp h) (hn : hI h 58 0 = n) (hk : k < 10) : nEv sc (d + 4) 217 [.ref 53, sI (k : Int)] h (some (sI (cM h n k)), h) := by
  match k, hk with
  | 0, _ => exact fCm0 hh hn
  | 1, _ => exact fCm1 hh hn
  | 2, _ => exact fCm2 hh hn
  | 3, _ => exact fCm3 hh hn
  | 4, _ => exact fCm4 hh hn
  | 5, _ => exact fCm5 hh hn
  | 6, _ => exact fCm6 hh hn
  | 7, _ => exact fCm7 hh hn
  | 8, _ => exact fCm8 hh hn
  | 9, _ => exact fCm9 hh hn
theorem fCountM {n k : Nat} (hh : aHp h) (hn : hI h 58 0 = n) (hk : k < 10) : nEv sc (d + 5) 216 [.ref 53, sI (k : Int)] h (some (sI (cM h n k)), h) := by
  have ev := fCm (sc := sc) (d := d) hh hn hk
  refine nEv_of (t := mMe216) rfl ?_
  show nRn sc (d + 4) (mMT mMe216) (mMC mMe216) (0, [some (.ref 53), some (sI ((k : Int)))], [], h) _
  refine sP 1 (g1 := (1, [some (.ref 53), some (sI ((k : Int)))], [sI ((k : Int))], h)) rfl ?_
  refine s_i2l (a := (k : Int)) rfl rfl (by unfold sR aMi aMa; omega) ?_
  refine sP 2 (g1 := (4, [some (.ref 53), some (sI ((k : Int)))], [sJ 9, sJ 0, sJ ((k : Int))], h)) rfl ?_
  have ev1 := fIn (sc := sc) (d := d + 3) (h := h) (a := (k : Int)) (b := 0) (e := 9) (by omega) (by omega) (by omega) (by omega) (by omega) (by omega)
  rw [if_pos (by omega)] at ev1
  refine s_call (k := 127) (args := [sJ ((k : Int)), sJ 0, sJ 9]) (st := []) (v := some (sI 1)) (h1 := h) rfl ⟨rfl, rfl⟩ rfl rfl rfl rfl rfl rfl ev1 ?_
  refine s_ifc (q := .eq) (a := 1) rfl ⟨_, rfl⟩ rfl (by unfold sR aMi aMa; omega) (fun hc2 => ?_) (fun hc2 => ?_)
  · have hc2 : (1 : Int) = 0 := hc2
    omega
  · have hc2 : ¬ ((1 : Int) = 0) := hc2
    refine sP 2 (g1 := (8, [some (.ref 53), some (sI ((k : Int)))], [sI ((k : Int)), .ref 53], h)) rfl ?_
    refine s_call (k := 217) (args := [.ref 53, sI ((k : Int))]) (st := []) (v := some (sI (cM h n k))) (h1 := h) rfl ⟨rfl, rfl⟩ rfl rfl rfl rfl (sRcv hh (a := 53) rfl rfl) rfl ev ?_
    refine sP 1 (g1 := (11, [some (.ref 53), some (sI ((k : Int)))], [sI (cM h n k)], h)) rfl ?_
    exact s_reti rfl rfl (Or.inl rfl) rfl rfl
theorem fCountMb {k : Int} (rk : sR k) (hk : ¬ (0 ≤ k ∧ k < 10)) : nEv sc (d + 5) 216 [.ref 53, sI k] h (some (sI (-1)), h) := by
  unfold sR aMi aMa at rk
  refine nEv_of (t := mMe216) rfl ?_
  show nRn sc (d + 4) (mMT mMe216) (mMC mMe216) (0, [some (.ref 53), some (sI k)], [], h) _
  refine sP 1 (g1 := (1, [some (.ref 53), some (sI k)], [sI k], h)) rfl ?_
  refine s_i2l (a := k) rfl rfl (by unfold sR aMi aMa; omega) ?_
  refine sP 2 (g1 := (4, [some (.ref 53), some (sI k)], [sJ 9, sJ 0, sJ k], h)) rfl ?_
  have ev1 := fIn (sc := sc) (d := d + 3) (h := h) (a := k) (b := 0) (e := 9) (by omega) (by omega) (by omega) (by omega) (by omega) (by omega)
  rw [if_neg (by omega)] at ev1
  refine s_call (k := 127) (args := [sJ k, sJ 0, sJ 9]) (st := []) (v := some (sI 0)) (h1 := h) rfl ⟨rfl, rfl⟩ rfl rfl rfl rfl rfl rfl ev1 ?_
  refine s_ifc (q := .eq) (a := 0) rfl ⟨_, rfl⟩ rfl (by unfold sR aMi aMa; omega) (fun hc2 => ?_) (fun hc2 => ?_)
  · have hc2 : (0 : Int) = 0 := hc2
    refine sP 1 (g1 := (11, [some (.ref 53), some (sI k)], [sI ((-1))], h)) rfl ?_
    exact s_reti rfl rfl (Or.inl rfl) rfl rfl
  · have hc2 : ¬ ((0 : Int) = 0) := hc2
    omega
end CNT
theorem cXM {h : mH} {n k : Nat} (hp : vP h) (hn : hI h 3 3 = (n : Int)) (hk : k < 10) : sI (cM h n k) = sI (cX h n k) := by
  obtain ⟨⟨hT, hN, hK9⟩, hR⟩ := hp
  obtain ⟨a1, a2, a3, a4, a5, a6⟩ := hN
  match k, hk with
  | 0, _ => show sI (hI h 58 0) = sI (hI h 3 3); rw [a1]
  | 1, _ => show sI (hI h 58 43) = sI (hI h 3 4); rw [a2]
  | 2, _ => show sI (hI h 58 80) = sI (hI h 3 5); rw [a3]
  | 3, _ =>
    show Value.int (Int32.ofInt (yA (fun j => hI h 58 (44 + j)) 6 / 2)) = Value.int (Int32.ofInt (lbc (hJ h 3 6)).toInt)
    rw [Int32.ofInt_toInt, tr_cnt a5]
  | 4, _ =>
    show sI ((uA (fun j => hI h 58 (7 + j)) n n : Nat) : Int) = sI ((uA (hI h 5) n n : Nat) : Int)
    rw [uA_cg (G := hI h 5) (fun a b ha hb => ((a4 a (by omega)).2 b (by omega)).symm) n (Nat.le_refl _)]
  | 5, _ =>
    show sI ((hK (fun a => hI h 58 (1 + a)) 1 n : Nat) : Int) = sI ((hK (hI h 4) 1 n : Nat) : Int)
    rw [hK_cg (K := hI h 4) (fun a ha => (a4 a (by omega)).1.symm) n (Nat.le_refl _)]
  | 6, _ =>
    show sI ((hK (fun a => hI h 58 (1 + a)) 2 n : Nat) : Int) = sI ((hK (hI h 4) 2 n : Nat) : Int)
    rw [hK_cg (K := hI h 4) (fun a ha => (a4 a (by omega)).1.symm) n (Nat.le_refl _)]
  | 7, _ =>
    show sI ((cN (fun r => decide (¬ hI h 54 r < 0)) 6 : Nat) : Int) = sI ((cN (fun r => decide (hI h (21 + 2 * r) 1 ≠ -1)) 6 : Nat) : Int)
    rw [cN_cg (n := 6) (g := fun r => decide (hI h (21 + 2 * r) 1 ≠ -1)) (fun r hr => by
      have e := rS hR hr
      have g := hI_rg hT.1 (ra_z hr)
      rw [e]
      exact decide_eq_decide.mpr (by omega)) 6 (by omega)]
  | 8, _ =>
    show sI ((cN (fun r => decide (¬ hI h 56 r < 0)) 4 : Nat) : Int) = sI ((cN (fun r => decide (hI h (33 + 2 * r) 1 ≠ -1)) 4 : Nat) : Int)
    rw [cN_cg (n := 4) (g := fun r => decide (hI h (33 + 2 * r) 1 ≠ -1)) (fun r hr => by
      have e : hI h 56 r = hI h (33 + 2 * r) 1 := hI_cg2 (hT.2 r hr).1.symm
      have g := hI_rg hT.1 (tx_z hr)
      rw [e]
      exact decide_eq_decide.mpr (by omega)) 4 (by omega)]
  | 9, _ =>
    show sI ((cN (fun r => decide (hI h 61 r ≠ 0)) 3 : Nat) : Int) = sI ((cN (fun r => decide (hI h (41 + 4 * r) 3 ≠ 0)) 3 : Nat) : Int)
    rw [cN_cg (n := 3) (g := fun r => decide (hI h (41 + 4 * r) 3 ≠ 0)) (fun r hr => by
      rcases hK9 r hr with w | w
      · rw [w.1, w.2]
      · rw [w.1]
        exact decide_eq_decide.mpr ⟨fun _ => w.2.1, fun _ => by decide⟩) 3 (by omega)]
theorem vCount {sc : List Int32} {h : mH} (x : Int32) (hp : vP h) : ∃ z1 h1 z2 h2, nEv sc 100 113 (.ref 0 :: [x].map Value.int) h (some (.int z1), h1) ∧ aHp h1 ∧ nEv sc 100 216 (.ref 53 :: [x].map Value.int) h1 (some (.int z2), h2) ∧ vE h h2 ∧ z2 = z1 := by
  have hh := vP_a h hp
  have rx : sR x.toInt := aI_rg x
  have e3 : hI h 3 3 = hI h 58 0 := hp.1.2.1.1
  obtain ⟨n, en⟩ := iN (hI_rg hh xw_p).1
  by_cases c1 : 0 ≤ x.toInt ∧ x.toInt < 10
  · obtain ⟨k, ek⟩ := iN c1.1
    have b1 := fCountM (sc := sc) (d := 95) (n := n) (k := k) hh (by omega) (by omega)
    rw [cXM hp en (by omega)] at b1
    exact pk1 (cX h n k) (by rw [ek]; exact fCountX (d := 95) hh en (by omega)) hh (by rw [ek]; exact b1) (v_same hp)
  · exact pk1 (-1) (fCountXb (d := 95) rx c1) hh (fCountMb (d := 95) rx c1) (v_same hp)
