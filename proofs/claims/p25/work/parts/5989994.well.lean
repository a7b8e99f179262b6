/-! well -/
theorem tri_a {m : Nat} (hm : m ≤ 6) : (m : Int) * ((m : Int) - 1) = ((m * (m - 1) : Nat) : Int) := (show ∀ m, m < 7 → ((m : Nat) : Int) * (((m : Nat) : Int) - 1) = ((m * (m - 1) : Nat) : Int) by decide) m (by omega)
theorem tri_b {m : Nat} (hm : m ≤ 6) : m * (m - 1) ≤ 30 := (show ∀ m, m < 7 → m * (m - 1) ≤ 30 by decide) m (by omega)
noncomputable def wB (f : Nat → Bool) : Nat → Nat
  | 0 => 0
  | s + 1 => if pcn (wB f s) < pcn s ∧ f s = true then s else wB f s
theorem wB_le (f : Nat → Bool) : ∀ s, wB f s ≤ s
  | 0 => Nat.le_refl _
  | s + 1 => by
    have := wB_le f s
    unfold wB
    split <;> omega
theorem wB_lt (f : Nat → Bool) {s : Nat} (h0 : 0 < s) : wB f s < s := by
  cases s with
  | zero => omega
  | succ s =>
    have := wB_le f s
    unfold wB
    split <;> omega
theorem wB_cg {f g : Nat → Bool} {n : Nat} (hf : ∀ s, s < n → f s = g s) : ∀ s, s ≤ n → wB f s = wB g s
  | 0, _ => rfl
  | s + 1, h => by
    unfold wB
    rw [wB_cg hf s (by omega), hf s (by omega)]
noncomputable def wfX (h : mH) (n s : Nat) : Bool := decide (oC (agX h n s) n n 0 = pcn s * (pcn s - 1) / 2)
noncomputable def wfM (h : mH) (n s : Nat) : Bool := decide (oC (agM h n s) n n 0 = pcn s * (pcn s - 1) / 2)
section WELL
variable {sc : List Int32} {d : Nat} {h : mH}
theorem fWeL {n q : Nat} (hh : aHp h) (hn : hI h 3 3 = n) (hq : 2 ^ n = q) : ∀ (k s : Nat) (X : Option Value), s + k = q → ∀ r, (∀ Y : Option Value, nRn sc (d + 6) (mMT mMe81) (mMC mMe81) (43, [some (.ref 0), some (sI ((pcn (wB (wfX h n) q) : Nat) : Int)), some (sI ((wB (wfX h n) q : Nat) : Int)), some (sI (q : Int)), Y], [], h) r) → nRn sc (d + 6) (mMT mMe81) (mMC mMe81) (12, [some (.ref 0), some (sI ((pcn (wB (wfX h n) s) : Nat) : Int)), some (sI ((wB (wfX h n) s : Nat) : Int)), some (sI (s : Int)), X], [], h) r := by
  have gp := hI_rg hh xw_p
  have p2 := p2_le (show n ≤ 6 by omega)
  rw [hq] at p2
  intro k
  induction k with
  | zero =>
    intro s X hs r r1
    have hsq : s = q := by omega
    subst hsq
    have r0 := r1 X
    have c6 := pcn_le (wB (wfX h n) s)
    refine sP 3 (g1 := (15, [some (.ref 0), some (sI (((pcn (wB (wfX h n) s) : Nat) : Int))), some (sI (((wB (wfX h n) s : Nat) : Int))), some (sI ((s : Int))), X], [.ref 0, sI 1, sI ((s : Int))], h)) rfl ?_
    refine s_get (a := 0) (j := 2) hh rfl ⟨_, rfl⟩ rfl rfl rfl (v := .ref 3) (hR_ok hh (by decide +kernel)) ?_
    refine s_get (a := 3) (j := 3) hh rfl ⟨_, rfl⟩ rfl rfl rfl (v := sI ((n : Int))) (by have q := hI_ok hh xw_p; rw [hn] at q; exact q) ?_
    refine s_shl7 (a := n) rfl rfl (by omega) ?_
    rw [hq]
    refine s_icmp (q := .ge) (a := (s : Int)) (b := (s : Int)) rfl ⟨_, rfl⟩ rfl (by unfold sR aMi aMa; omega) (by unfold sR aMi aMa; omega) (fun hc1 => ?_) (fun hc1 => ?_)
    · have hc1 : (((s : Int)) : Int) ≤ ((s : Int)) := hc1
      exact r0
    · have hc1 : ¬ ((((s : Int)) : Int) ≤ ((s : Int))) := hc1
      omega
  | succ k ih =>
    intro s X hs r r1
    have s64 : s < 64 := by omega
    have c6 := pcn_le (wB (wfX h n) s)
    have m6 := pcn_le s
    have ev := fAgreeing (sc := sc) (d := d) hh hn s64
    have eb := fBitX (sc := sc) (d := d + 5) (h := h) s64
    have oc := oC_le (agX h n s) (show n ≤ 6 by omega) n 0
    have t1 := tri_a m6
    have t2 := tri_b m6
    have r0 := ih (s + 1) (some (sI ((pcn s : Nat) : Int))) (by omega) r r1
    have e1 : wB (wfX h n) (s + 1) = if pcn (wB (wfX h n) s) < pcn s ∧ wfX h n s = true then s else wB (wfX h n) s := rfl
    have w1 : wfX h n s = true ↔ oC (agX h n s) n n 0 = pcn s * (pcn s - 1) / 2 := by unfold wfX; exact decide_eq_true_iff
    generalize wB (wfX h n) s = w at *
    generalize hpw : pcn w = pw at *
    by_cases hc : pw < pcn s ∧ wfX h n s = true
    · rw [if_pos hc] at e1
      rw [e1] at r0
      have w2 := w1.mp hc.2
      generalize pcn s * (pcn s - 1) = tt at *
      refine sP 3 (g1 := (15, [some (.ref 0), some (sI ((pw : Int))), some (sI ((w : Int))), some (sI ((s : Int))), X], [.ref 0, sI 1, sI ((s : Int))], h)) rfl ?_
      refine s_get (a := 0) (j := 2) hh rfl ⟨_, rfl⟩ rfl rfl rfl (v := .ref 3) (hR_ok hh (by decide +kernel)) ?_
      refine s_get (a := 3) (j := 3) hh rfl ⟨_, rfl⟩ rfl rfl rfl (v := sI ((n : Int))) (by have q := hI_ok hh xw_p; rw [hn] at q; exact q) ?_
      refine s_shl7 (a := n) rfl rfl (by omega) ?_
      rw [hq]
      refine s_icmp (q := .ge) (a := (s : Int)) (b := (q : Int)) rfl ⟨_, rfl⟩ rfl (by unfold sR aMi aMa; omega) (by unfold sR aMi aMa; omega) (fun hc1 => ?_) (fun hc1 => ?_)
      · have hc1 : (((q : Int)) : Int) ≤ ((s : Int)) := hc1
        omega
      · have hc1 : ¬ ((((q : Int)) : Int) ≤ ((s : Int))) := hc1
        refine sP 1 (g1 := (20, [some (.ref 0), some (sI ((pw : Int))), some (sI ((w : Int))), some (sI ((s : Int))), X], [sI ((s : Int))], h)) rfl ?_
        refine s_call (k := 58) (args := [sI ((s : Int))]) (st := []) (v := some (sI (((pcn s : Nat) : Int)))) (h1 := h) rfl ⟨rfl, rfl⟩ rfl rfl rfl rfl rfl rfl eb ?_
        refine sP 3 (g1 := (24, [some (.ref 0), some (sI ((pw : Int))), some (sI ((w : Int))), some (sI ((s : Int))), some (sI (((pcn s : Nat) : Int)))], [sI ((pw : Int)), sI (((pcn s : Nat) : Int))], h)) rfl ?_
        refine s_icmp (q := .le) (a := ((pcn s : Nat) : Int)) (b := (pw : Int)) rfl ⟨_, rfl⟩ rfl (by unfold sR aMi aMa; omega) (by unfold sR aMi aMa; omega) (fun hc2 => ?_) (fun hc2 => ?_)
        · have hc2 : ((((pcn s : Nat) : Int)) : Int) ≤ ((pw : Int)) := hc2
          omega
        · have hc2 : ¬ (((((pcn s : Nat) : Int)) : Int) ≤ ((pw : Int))) := hc2
          refine sP 1 (g1 := (26, [some (.ref 0), some (sI ((pw : Int))), some (sI ((w : Int))), some (sI ((s : Int))), some (sI (((pcn s : Nat) : Int)))], [.ref 0], h)) rfl ?_
          refine s_get (a := 0) (j := 2) hh rfl ⟨_, rfl⟩ rfl rfl rfl (v := .ref 3) (hR_ok hh (by decide +kernel)) ?_
          refine sP 1 (g1 := (28, [some (.ref 0), some (sI ((pw : Int))), some (sI ((w : Int))), some (sI ((s : Int))), some (sI (((pcn s : Nat) : Int)))], [sI ((s : Int)), .ref 3], h)) rfl ?_
          refine s_call (k := 80) (args := [.ref 3, sI ((s : Int))]) (st := []) (v := some (sI (((oC (agX h n s) n n 0 : Nat) : Int)))) (h1 := h) rfl ⟨rfl, rfl⟩ rfl rfl rfl rfl (sRcv hh (a := 3) rfl rfl) rfl ev ?_
          refine sP 3 (g1 := (32, [some (.ref 0), some (sI ((pw : Int))), some (sI ((w : Int))), some (sI ((s : Int))), some (sI (((pcn s : Nat) : Int)))], [sI 1, sI (((pcn s : Nat) : Int)), sI (((pcn s : Nat) : Int)), sI (((oC (agX h n s) n n 0 : Nat) : Int))], h)) rfl ?_
          refine s_sub (a := ((pcn s : Nat) : Int)) (b := 1) rfl rfl ?_
          refine s_mul (a := ((pcn s : Nat) : Int)) (b := (((pcn s : Nat) : Int)) - 1) rfl rfl ?_
          refine sP 1 (g1 := (35, [some (.ref 0), some (sI ((pw : Int))), some (sI ((w : Int))), some (sI ((s : Int))), some (sI (((pcn s : Nat) : Int)))], [sI 2, sI ((((pcn s : Nat) : Int)) * ((((pcn s : Nat) : Int)) - 1)), sI (((oC (agX h n s) n n 0 : Nat) : Int))], h)) rfl ?_
          rw [t1]
          refine s_divN (a := tt) (b := 2) rfl rfl (by omega) (by omega) (by omega) ?_
          refine s_icmp (q := .ne) (a := ((oC (agX h n s) n n 0 : Nat) : Int)) (b := ((tt / 2 : Nat) : Int)) rfl ⟨_, rfl⟩ rfl (by unfold sR aMi aMa; omega) (by unfold sR aMi aMa; omega) (fun hc3 => ?_) (fun hc3 => ?_)
          · have hc3 : ((((oC (agX h n s) n n 0 : Nat) : Int)) : Int) ≠ (((tt / 2 : Nat) : Int)) := hc3
            omega
          · have hc3 : ¬ (((((oC (agX h n s) n n 0 : Nat) : Int)) : Int) ≠ (((tt / 2 : Nat) : Int))) := hc3
            refine sP 4 (g1 := (41, [some (.ref 0), some (sI (((pcn s : Nat) : Int))), some (sI ((s : Int))), some (sI ((s : Int))), some (sI (((pcn s : Nat) : Int)))], [], h)) rfl ?_
            refine s_inc (a := (s : Int)) (n := 1) (k := 3) rfl rfl rfl ?_
            refine sP 1 (g1 := (12, [some (.ref 0), some (sI (((pcn s : Nat) : Int))), some (sI ((s : Int))), some (sI (((s : Int)) + 1)), some (sI (((pcn s : Nat) : Int)))], [], h)) rfl ?_
            rw [show ((s : Int) + 1) = ((s + 1 : Nat) : Int) by omega]
            exact r0
    · rw [if_neg hc] at e1
      rw [e1, hpw] at r0
      have w3 : pw < pcn s → oC (agX h n s) n n 0 ≠ pcn s * (pcn s - 1) / 2 := fun q1 q2 => hc ⟨q1, w1.mpr q2⟩
      generalize pcn s * (pcn s - 1) = tt at *
      by_cases h1 : pw < pcn s
      · have w4 := w3 h1
        refine sP 3 (g1 := (15, [some (.ref 0), some (sI ((pw : Int))), some (sI ((w : Int))), some (sI ((s : Int))), X], [.ref 0, sI 1, sI ((s : Int))], h)) rfl ?_
        refine s_get (a := 0) (j := 2) hh rfl ⟨_, rfl⟩ rfl rfl rfl (v := .ref 3) (hR_ok hh (by decide +kernel)) ?_
        refine s_get (a := 3) (j := 3) hh rfl ⟨_, rfl⟩ rfl rfl rfl (v := sI ((n : Int))) (by have q := hI_ok hh xw_p; rw [hn] at q; exact q) ?_
        refine s_shl7 (a := n) rfl rfl (by omega) ?_
        rw [hq]
        refine s_icmp (q := .ge) (a := (s : Int)) (b := (q : Int)) rfl ⟨_, rfl⟩ rfl (by unfold sR aMi aMa; omega) (by unfold sR aMi aMa; omega) (fun hc1 => ?_) (fun hc1 => ?_)
        · have hc1 : (((q : Int)) : Int) ≤ ((s : Int)) := hc1
          omega
        · have hc1 : ¬ ((((q : Int)) : Int) ≤ ((s : Int))) := hc1
          refine sP 1 (g1 := (20, [some (.ref 0), some (sI ((pw : Int))), some (sI ((w : Int))), some (sI ((s : Int))), X], [sI ((s : Int))], h)) rfl ?_
          refine s_call (k := 58) (args := [sI ((s : Int))]) (st := []) (v := some (sI (((pcn s : Nat) : Int)))) (h1 := h) rfl ⟨rfl, rfl⟩ rfl rfl rfl rfl rfl rfl eb ?_
          refine sP 3 (g1 := (24, [some (.ref 0), some (sI ((pw : Int))), some (sI ((w : Int))), some (sI ((s : Int))), some (sI (((pcn s : Nat) : Int)))], [sI ((pw : Int)), sI (((pcn s : Nat) : Int))], h)) rfl ?_
          refine s_icmp (q := .le) (a := ((pcn s : Nat) : Int)) (b := (pw : Int)) rfl ⟨_, rfl⟩ rfl (by unfold sR aMi aMa; omega) (by unfold sR aMi aMa; omega) (fun hc2 => ?_) (fun hc2 => ?_)
          · have hc2 : ((((pcn s : Nat) : Int)) : Int) ≤ ((pw : Int)) := hc2
            omega
          · have hc2 : ¬ (((((pcn s : Nat) : Int)) : Int) ≤ ((pw : Int))) := hc2
            refine sP 1 (g1 := (26, [some (.ref 0), some (sI ((pw : Int))), some (sI ((w : Int))), some (sI ((s : Int))), some (sI (((pcn s : Nat) : Int)))], [.ref 0], h)) rfl ?_
            refine s_get (a := 0) (j := 2) hh rfl ⟨_, rfl⟩ rfl rfl rfl (v := .ref 3) (hR_ok hh (by decide +kernel)) ?_
            refine sP 1 (g1 := (28, [some (.ref 0), some (sI ((pw : Int))), some (sI ((w : Int))), some (sI ((s : Int))), some (sI (((pcn s : Nat) : Int)))], [sI ((s : Int)), .ref 3], h)) rfl ?_
            refine s_call (k := 80) (args := [.ref 3, sI ((s : Int))]) (st := []) (v := some (sI (((oC (agX h n s) n n 0 : Nat) : Int)))) (h1 := h) rfl ⟨rfl, rfl⟩ rfl rfl rfl rfl (sRcv hh (a := 3) rfl rfl) rfl ev ?_
            refine sP 3 (g1 := (32, [some (.ref 0), some (sI ((pw : Int))), some (sI ((w : Int))), some (sI ((s : Int))), some (sI (((pcn s : Nat) : Int)))], [sI 1, sI (((pcn s : Nat) : Int)), sI (((pcn s : Nat) : Int)), sI (((oC (agX h n s) n n 0 : Nat) : Int))], h)) rfl ?_
            refine s_sub (a := ((pcn s : Nat) : Int)) (b := 1) rfl rfl ?_
            refine s_mul (a := ((pcn s : Nat) : Int)) (b := (((pcn s : Nat) : Int)) - 1) rfl rfl ?_
            refine sP 1 (g1 := (35, [some (.ref 0), some (sI ((pw : Int))), some (sI ((w : Int))), some (sI ((s : Int))), some (sI (((pcn s : Nat) : Int)))], [sI 2, sI ((((pcn s : Nat) : Int)) * ((((pcn s : Nat) : Int)) - 1)), sI (((oC (agX h n s) n n 0 : Nat) : Int))], h)) rfl ?_
            rw [t1]
            refine s_divN (a := tt) (b := 2) rfl rfl (by omega) (by omega) (by omega) ?_
            refine s_icmp (q := .ne) (a := ((oC (agX h n s) n n 0 : Nat) : Int)) (b := ((tt / 2 : Nat) : Int)) rfl ⟨_, rfl⟩ rfl (by unfold sR aMi aMa; omega) (by unfold sR aMi aMa; omega) (fun hc3 => ?_) (fun hc3 => ?_)
            · have hc3 : ((((oC (agX h n s) n n 0 : Nat) : Int)) : Int) ≠ (((tt / 2 : Nat) : Int)) := hc3
              refine s_inc (a := (s : Int)) (n := 1) (k := 3) rfl rfl rfl ?_
              refine sP 1 (g1 := (12, [some (.ref 0), some (sI ((pw : Int))), some (sI ((w : Int))), some (sI (((s : Int)) + 1)), some (sI (((pcn s : Nat) : Int)))], [], h)) rfl ?_
              rw [show ((s : Int) + 1) = ((s + 1 : Nat) : Int) by omega]
              exact r0
            · have hc3 : ¬ (((((oC (agX h n s) n n 0 : Nat) : Int)) : Int) ≠ (((tt / 2 : Nat) : Int))) := hc3
              omega
      · skip
        refine sP 3 (g1 := (15, [some (.ref 0), some (sI ((pw : Int))), some (sI ((w : Int))), some (sI ((s : Int))), X], [.ref 0, sI 1, sI ((s : Int))], h)) rfl ?_
        refine s_get (a := 0) (j := 2) hh rfl ⟨_, rfl⟩ rfl rfl rfl (v := .ref 3) (hR_ok hh (by decide +kernel)) ?_
        refine s_get (a := 3) (j := 3) hh rfl ⟨_, rfl⟩ rfl rfl rfl (v := sI ((n : Int))) (by have q := hI_ok hh xw_p; rw [hn] at q; exact q) ?_
        refine s_shl7 (a := n) rfl rfl (by omega) ?_
        rw [hq]
        refine s_icmp (q := .ge) (a := (s : Int)) (b := (q : Int)) rfl ⟨_, rfl⟩ rfl (by unfold sR aMi aMa; omega) (by unfold sR aMi aMa; omega) (fun hc1 => ?_) (fun hc1 => ?_)
        · have hc1 : (((q : Int)) : Int) ≤ ((s : Int)) := hc1
          omega
        · have hc1 : ¬ ((((q : Int)) : Int) ≤ ((s : Int))) := hc1
          refine sP 1 (g1 := (20, [some (.ref 0), some (sI ((pw : Int))), some (sI ((w : Int))), some (sI ((s : Int))), X], [sI ((s : Int))], h)) rfl ?_
          refine s_call (k := 58) (args := [sI ((s : Int))]) (st := []) (v := some (sI (((pcn s : Nat) : Int)))) (h1 := h) rfl ⟨rfl, rfl⟩ rfl rfl rfl rfl rfl rfl eb ?_
          refine sP 3 (g1 := (24, [some (.ref 0), some (sI ((pw : Int))), some (sI ((w : Int))), some (sI ((s : Int))), some (sI (((pcn s : Nat) : Int)))], [sI ((pw : Int)), sI (((pcn s : Nat) : Int))], h)) rfl ?_
          refine s_icmp (q := .le) (a := ((pcn s : Nat) : Int)) (b := (pw : Int)) rfl ⟨_, rfl⟩ rfl (by unfold sR aMi aMa; omega) (by unfold sR aMi aMa; omega) (fun hc2 => ?_) (fun hc2 => ?_)
          · have hc2 : ((((pcn s : Nat) : Int)) : Int) ≤ ((pw : Int)) := hc2
            refine s_inc (a := (s : Int)) (n := 1) (k := 3) rfl rfl rfl ?_
            refine sP 1 (g1 := (12, [some (.ref 0), some (sI ((pw : Int))), some (sI ((w : Int))), some (sI (((s : Int)) + 1)), some (sI (((pcn s : Nat) : Int)))], [], h)) rfl ?_
            rw [show ((s : Int) + 1) = ((s + 1 : Nat) : Int) by omega]
            exact r0
          · have hc2 : ¬ (((((pcn s : Nat) : Int)) : Int) ≤ ((pw : Int))) := hc2
            omega
theorem fWellXs (hh : aHp h) (hz : hI h 3 3 = 0) : nEv sc (d + 7) 81 [.ref 0] h (some (sI (-4)), h) := by
  refine nEv_of (t := mMe81) rfl ?_
  show nRn sc (d + 6) (mMT mMe81) (mMC mMe81) (0, [some (.ref 0), none, none, none, none], [], h) _
  refine sP 1 (g1 := (1, [some (.ref 0), none, none, none, none], [.ref 0], h)) rfl ?_
  refine s_get (a := 0) (j := 2) hh rfl ⟨_, rfl⟩ rfl rfl rfl (v := .ref 3) (hR_ok hh (by decide +kernel)) ?_
  refine s_get (a := 3) (j := 3) hh rfl ⟨_, rfl⟩ rfl rfl rfl (v := sI (hI h 3 3)) (hI_ok hh xw_p) ?_
  refine s_ifc (q := .ne) (a := hI h 3 3) rfl ⟨_, rfl⟩ rfl (by unfold sR aMi aMa; omega) (fun hc1 => ?_) (fun hc1 => ?_)
  · have hc1 : ((hI h 3 3) : Int) ≠ 0 := hc1
    omega
  · have hc1 : ¬ (((hI h 3 3) : Int) ≠ 0) := hc1
    refine sP 1 (g1 := (5, [some (.ref 0), none, none, none, none], [sI ((-4))], h)) rfl ?_
    exact s_reti rfl rfl (Or.inl rfl) rfl rfl
theorem fWellX {n q : Nat} (hh : aHp h) (hn : hI h 3 3 = n) (n0 : n ≠ 0) (hq : 2 ^ n = q) : ∃ g, nEv sc (d + 7) 81 [.ref 0] h (some (sI ((pcn (wB (wfX h n) q) : Nat) : Int)), g) ∧ aHp g ∧ ∀ p m, aSlot g p m = if p = 0 ∧ m = 9 then some (sI ((wB (wfX h n) q : Nat) : Int)) else aSlot h p m := by
  have gp := hI_rg hh xw_p
  have p2 := p2_le (show n ≤ 6 by omega)
  have c6 := pcn_le (wB (wfX h n) q)
  have wl := wB_le (wfX h n) q
  obtain ⟨g1, eg1⟩ : ∃ gz, gz = hset h 0 9 (sI ((wB (wfX h n) q : Nat) : Int)) := ⟨_, rfl⟩
  have sg1 : ∀ xa xm, aSlot g1 xa xm = if xa = 0 ∧ xm = 9 then some (sI ((wB (wfX h n) q : Nat) : Int)) else aSlot h xa xm := fun xa xm => by rw [eg1]; exact hset_slot hh (show sTg 0 = some (0, 12) from rfl) (by omega) xa xm
  have hg1 : aHp g1 := by rw [eg1]; exact hset_any hh la_i
  have r2 : ∀ Y : Option Value, nRn sc (d + 6) (mMT mMe81) (mMC mMe81) (43, [some (.ref 0), some (sI ((pcn (wB (wfX h n) q) : Nat) : Int)), some (sI ((wB (wfX h n) q : Nat) : Int)), some (sI (q : Int)), Y], [], h) (some (sI ((pcn (wB (wfX h n) q) : Nat) : Int)), g1) := by
    intro Y
    refine sP 2 (g1 := (45, [some (.ref 0), some (sI (((pcn (wB (wfX h n) q) : Nat) : Int))), some (sI (((wB (wfX h n) q : Nat) : Int))), some (sI ((q : Int))), Y], [sI (((wB (wfX h n) q : Nat) : Int)), .ref 0], h)) rfl ?_
    refine s_put (a := 0) (j := 9) (k := 0) (n := 12) hh rfl ⟨_, rfl⟩ (show sTg 0 = some (0, 12) from rfl) rfl rfl (by decide) rfl ?_
    rw [← eg1]
    refine sP 1 (g1 := (47, [some (.ref 0), some (sI (((pcn (wB (wfX h n) q) : Nat) : Int))), some (sI (((wB (wfX h n) q : Nat) : Int))), some (sI ((q : Int))), Y], [sI (((pcn (wB (wfX h n) q) : Nat) : Int))], g1)) rfl ?_
    exact s_reti rfl rfl (Or.inl rfl) rfl rfl
  have r1 := fWeL (sc := sc) (d := d) hh hn hq q 0 none (by omega) _ r2
  have z0 : wB (wfX h n) 0 = 0 := rfl
  have z1 : pcn 0 = 0 := by decide
  rw [z0, z1] at r1
  refine ⟨g1, nEv_of (t := mMe81) rfl ?_, hg1, sg1⟩
  show nRn sc (d + 6) (mMT mMe81) (mMC mMe81) (0, [some (.ref 0), none, none, none, none], [], h) _
  refine sP 1 (g1 := (1, [some (.ref 0), none, none, none, none], [.ref 0], h)) rfl ?_
  refine s_get (a := 0) (j := 2) hh rfl ⟨_, rfl⟩ rfl rfl rfl (v := .ref 3) (hR_ok hh (by decide +kernel)) ?_
  refine s_get (a := 3) (j := 3) hh rfl ⟨_, rfl⟩ rfl rfl rfl (v := sI ((n : Int))) (by have q := hI_ok hh xw_p; rw [hn] at q; exact q) ?_
  refine s_ifc (q := .ne) (a := (n : Int)) rfl ⟨_, rfl⟩ rfl (by unfold sR aMi aMa; omega) (fun hc1 => ?_) (fun hc1 => ?_)
  · have hc1 : (((n : Int)) : Int) ≠ 0 := hc1
    refine sP 6 (g1 := (12, [some (.ref 0), some (sI 0), some (sI 0), some (sI 0), none], [], h)) rfl ?_
    exact r1
  · have hc1 : ¬ ((((n : Int)) : Int) ≠ 0) := hc1
    omega
theorem fp_agM {g : mH} (ho : fpOff h g) (n s : Nat) : agM g n s = agM h n s := by
  funext a b
  unfold agM
  rw [fp_sM ho, fp_sM ho]
theorem fpOff_tr {g g1 : mH} (h1 : fpOff h g) (h2 : fpOff g g1) : fpOff h g1 := fun p m w => (h2 p m w).trans (h1 p m w)
theorem fWmL {n q : Nat} (hh : aHp h) (hn : hI h 58 0 = n) (hq : 2 ^ n = q) : ∀ (k s : Nat) (g : mH) (X : Option Value), s + k = q → aHp g → fpOff h g → ∃ g1, aHp g1 ∧ fpOff h g1 ∧ ∀ r, (∀ Y : Option Value, nRn sc (d + 6) (mMT mMe187) (mMC mMe187) (43, [some (.ref 53), some (sI ((wB (wfM h n) q : Nat) : Int)), some (sI (q : Int)), Y], [], g1) r) → nRn sc (d + 6) (mMT mMe187) (mMC mMe187) (11, [some (.ref 53), some (sI ((wB (wfM h n) s : Nat) : Int)), some (sI (s : Int)), X], [], g) r := by
  have gp := hI_rg hh nw_p
  have p2 := p2_le (show n ≤ 6 by omega)
  rw [hq] at p2
  intro k
  induction k with
  | zero =>
    intro s g X hs hg ho
    have hng : hI g 58 0 = n := (hI_cg (ho 58 0 (by omega))).trans hn
    have hsq : s = q := by omega
    subst hsq
    refine ⟨g, hg, ho, fun r r1 => ?_⟩
    have r0 := r1 X
    refine sP 3 (g1 := (14, [some (.ref 53), some (sI (((wB (wfM h n) s : Nat) : Int))), some (sI ((s : Int))), X], [.ref 53, sI 1, sI ((s : Int))], g)) rfl ?_
    refine s_get (a := 53) (j := 4) hg rfl ⟨_, rfl⟩ rfl rfl rfl (v := .ref 58) (hR_ok hg (by decide +kernel)) ?_
    refine sP 1 (g1 := (16, [some (.ref 53), some (sI (((wB (wfM h n) s : Nat) : Int))), some (sI ((s : Int))), X], [sI 0, .ref 58, sI 1, sI ((s : Int))], g)) rfl ?_
    refine s_iald (a := 58) (n := 201) (j := 0) hg rfl rfl rfl (by omega) (by omega) (by decide) (v := sI ((n : Int))) (by have q := hI_ok hg nw_p; rw [hng] at q; exact q) ?_
    refine s_shl7 (a := n) rfl rfl (by omega) ?_
    rw [hq]
    refine s_icmp (q := .ge) (a := (s : Int)) (b := (s : Int)) rfl ⟨_, rfl⟩ rfl (by unfold sR aMi aMa; omega) (by unfold sR aMi aMa; omega) (fun hc1 => ?_) (fun hc1 => ?_)
    · have hc1 : (((s : Int)) : Int) ≤ ((s : Int)) := hc1
      exact r0
    · have hc1 : ¬ ((((s : Int)) : Int) ≤ ((s : Int))) := hc1
      omega
  | succ k ih =>
    intro s g X hs hg ho
    have hng : hI g 58 0 = n := (hI_cg (ho 58 0 (by omega))).trans hn
    have s64 : s < 64 := by omega
    have wl := wB_le (wfM h n) s
    have c6 := pcn_le (wB (wfM h n) s)
    have m6 := pcn_le s
    have eb := fBitsM (sc := sc) (d := d + 5) (h := g) s64
    have ew := fBitsM (sc := sc) (d := d + 5) (h := g) (s := wB (wfM h n) s) (by omega)
    have oc := oC_le (agM h n s) (show n ≤ 6 by omega) n 0
    have t1 := tri_a m6
    have t2 := tri_b m6
    have e1 : wB (wfM h n) (s + 1) = if pcn (wB (wfM h n) s) < pcn s ∧ wfM h n s = true then s else wB (wfM h n) s := rfl
    have w1 : wfM h n s = true ↔ oC (agM h n s) n n 0 = pcn s * (pcn s - 1) / 2 := by unfold wfM; exact decide_eq_true_iff
    by_cases h1 : pcn (wB (wfM h n) s) < pcn s
    · obtain ⟨g1, ev, i1, i2, -⟩ := fPairs (sc := sc) (d := d + 1) (h := g) (n := n) (s := s) hg hng s64
      rw [fp_agM ho] at ev
      have ho1 := fpOff_tr ho i2
      obtain ⟨g2, j1, j2, j3⟩ := ih (s + 1) g1 (some (sI ((pcn s : Nat) : Int))) (by omega) i1 ho1
      refine ⟨g2, j1, j2, fun r r1 => ?_⟩
      have r0 := j3 r r1
      by_cases h2 : oC (agM h n s) n n 0 = pcn s * (pcn s - 1) / 2
      · rw [if_pos ⟨h1, w1.mpr h2⟩] at e1
        rw [e1] at r0
        generalize wB (wfM h n) s = w at *
        generalize pcn w = pw at *
        generalize pcn s * (pcn s - 1) = tt at *
        refine sP 3 (g1 := (14, [some (.ref 53), some (sI ((w : Int))), some (sI ((s : Int))), X], [.ref 53, sI 1, sI ((s : Int))], g)) rfl ?_
        refine s_get (a := 53) (j := 4) hg rfl ⟨_, rfl⟩ rfl rfl rfl (v := .ref 58) (hR_ok hg (by decide +kernel)) ?_
        refine sP 1 (g1 := (16, [some (.ref 53), some (sI ((w : Int))), some (sI ((s : Int))), X], [sI 0, .ref 58, sI 1, sI ((s : Int))], g)) rfl ?_
        refine s_iald (a := 58) (n := 201) (j := 0) hg rfl rfl rfl (by omega) (by omega) (by decide) (v := sI ((n : Int))) (by have q := hI_ok hg nw_p; rw [hng] at q; exact q) ?_
        refine s_shl7 (a := n) rfl rfl (by omega) ?_
        rw [hq]
        refine s_icmp (q := .ge) (a := (s : Int)) (b := (q : Int)) rfl ⟨_, rfl⟩ rfl (by unfold sR aMi aMa; omega) (by unfold sR aMi aMa; omega) (fun hc1 => ?_) (fun hc1 => ?_)
        · have hc1 : (((q : Int)) : Int) ≤ ((s : Int)) := hc1
          omega
        · have hc1 : ¬ ((((q : Int)) : Int) ≤ ((s : Int))) := hc1
          refine sP 1 (g1 := (20, [some (.ref 53), some (sI ((w : Int))), some (sI ((s : Int))), X], [sI ((s : Int))], g)) rfl ?_
          refine s_call (k := 166) (args := [sI ((s : Int))]) (st := []) (v := some (sI (((pcn s : Nat) : Int)))) (h1 := g) rfl ⟨rfl, rfl⟩ rfl rfl rfl rfl rfl rfl eb ?_
          refine sP 3 (g1 := (24, [some (.ref 53), some (sI ((w : Int))), some (sI ((s : Int))), some (sI (((pcn s : Nat) : Int)))], [sI ((w : Int)), sI (((pcn s : Nat) : Int))], g)) rfl ?_
          refine s_call (k := 166) (args := [sI ((w : Int))]) (st := [sI (((pcn s : Nat) : Int))]) (v := some (sI ((pw : Int)))) (h1 := g) rfl ⟨rfl, rfl⟩ rfl rfl rfl rfl rfl rfl ew ?_
          refine s_icmp (q := .le) (a := ((pcn s : Nat) : Int)) (b := (pw : Int)) rfl ⟨_, rfl⟩ rfl (by unfold sR aMi aMa; omega) (by unfold sR aMi aMa; omega) (fun hc2 => ?_) (fun hc2 => ?_)
          · have hc2 : ((((pcn s : Nat) : Int)) : Int) ≤ ((pw : Int)) := hc2
            omega
          · have hc2 : ¬ (((((pcn s : Nat) : Int)) : Int) ≤ ((pw : Int))) := hc2
            refine sP 2 (g1 := (28, [some (.ref 53), some (sI ((w : Int))), some (sI ((s : Int))), some (sI (((pcn s : Nat) : Int)))], [sI ((s : Int)), .ref 53], g)) rfl ?_
            refine s_call (k := 185) (args := [.ref 53, sI ((s : Int))]) (st := []) (v := some (sI (((oC (agM h n s) n n 0 : Nat) : Int)))) (h1 := g1) rfl ⟨rfl, rfl⟩ rfl rfl rfl rfl (sRcv hg (a := 53) rfl rfl) rfl ev ?_
            refine sP 3 (g1 := (32, [some (.ref 53), some (sI ((w : Int))), some (sI ((s : Int))), some (sI (((pcn s : Nat) : Int)))], [sI 1, sI (((pcn s : Nat) : Int)), sI (((pcn s : Nat) : Int)), sI (((oC (agM h n s) n n 0 : Nat) : Int))], g1)) rfl ?_
            refine s_sub (a := ((pcn s : Nat) : Int)) (b := 1) rfl rfl ?_
            refine s_mul (a := ((pcn s : Nat) : Int)) (b := (((pcn s : Nat) : Int)) - 1) rfl rfl ?_
            refine sP 1 (g1 := (35, [some (.ref 53), some (sI ((w : Int))), some (sI ((s : Int))), some (sI (((pcn s : Nat) : Int)))], [sI 2, sI ((((pcn s : Nat) : Int)) * ((((pcn s : Nat) : Int)) - 1)), sI (((oC (agM h n s) n n 0 : Nat) : Int))], g1)) rfl ?_
            rw [t1]
            refine s_divN (a := tt) (b := 2) rfl rfl (by omega) (by omega) (by omega) ?_
            refine s_icmp (q := .ne) (a := ((oC (agM h n s) n n 0 : Nat) : Int)) (b := ((tt / 2 : Nat) : Int)) rfl ⟨_, rfl⟩ rfl (by unfold sR aMi aMa; omega) (by unfold sR aMi aMa; omega) (fun hc3 => ?_) (fun hc3 => ?_)
            · have hc3 : ((((oC (agM h n s) n n 0 : Nat) : Int)) : Int) ≠ (((tt / 2 : Nat) : Int)) := hc3
              omega
            · have hc3 : ¬ (((((oC (agM h n s) n n 0 : Nat) : Int)) : Int) ≠ (((tt / 2 : Nat) : Int))) := hc3
              refine sP 3 (g1 := (41, [some (.ref 53), some (sI ((s : Int))), some (sI ((s : Int))), some (sI (((pcn s : Nat) : Int)))], [], g1)) rfl ?_
              refine s_inc (a := (s : Int)) (n := 1) (k := 2) rfl rfl rfl ?_
              refine sP 1 (g1 := (11, [some (.ref 53), some (sI ((s : Int))), some (sI (((s : Int)) + 1)), some (sI (((pcn s : Nat) : Int)))], [], g1)) rfl ?_
              rw [show ((s : Int) + 1) = ((s + 1 : Nat) : Int) by omega]
              exact r0
      · rw [if_neg (fun w => h2 (w1.mp w.2))] at e1
        rw [e1] at r0
        generalize wB (wfM h n) s = w at *
        generalize pcn w = pw at *
        generalize pcn s * (pcn s - 1) = tt at *
        refine sP 3 (g1 := (14, [some (.ref 53), some (sI ((w : Int))), some (sI ((s : Int))), X], [.ref 53, sI 1, sI ((s : Int))], g)) rfl ?_
        refine s_get (a := 53) (j := 4) hg rfl ⟨_, rfl⟩ rfl rfl rfl (v := .ref 58) (hR_ok hg (by decide +kernel)) ?_
        refine sP 1 (g1 := (16, [some (.ref 53), some (sI ((w : Int))), some (sI ((s : Int))), X], [sI 0, .ref 58, sI 1, sI ((s : Int))], g)) rfl ?_
        refine s_iald (a := 58) (n := 201) (j := 0) hg rfl rfl rfl (by omega) (by omega) (by decide) (v := sI ((n : Int))) (by have q := hI_ok hg nw_p; rw [hng] at q; exact q) ?_
        refine s_shl7 (a := n) rfl rfl (by omega) ?_
        rw [hq]
        refine s_icmp (q := .ge) (a := (s : Int)) (b := (q : Int)) rfl ⟨_, rfl⟩ rfl (by unfold sR aMi aMa; omega) (by unfold sR aMi aMa; omega) (fun hc1 => ?_) (fun hc1 => ?_)
        · have hc1 : (((q : Int)) : Int) ≤ ((s : Int)) := hc1
          omega
        · have hc1 : ¬ ((((q : Int)) : Int) ≤ ((s : Int))) := hc1
          refine sP 1 (g1 := (20, [some (.ref 53), some (sI ((w : Int))), some (sI ((s : Int))), X], [sI ((s : Int))], g)) rfl ?_
          refine s_call (k := 166) (args := [sI ((s : Int))]) (st := []) (v := some (sI (((pcn s : Nat) : Int)))) (h1 := g) rfl ⟨rfl, rfl⟩ rfl rfl rfl rfl rfl rfl eb ?_
          refine sP 3 (g1 := (24, [some (.ref 53), some (sI ((w : Int))), some (sI ((s : Int))), some (sI (((pcn s : Nat) : Int)))], [sI ((w : Int)), sI (((pcn s : Nat) : Int))], g)) rfl ?_
          refine s_call (k := 166) (args := [sI ((w : Int))]) (st := [sI (((pcn s : Nat) : Int))]) (v := some (sI ((pw : Int)))) (h1 := g) rfl ⟨rfl, rfl⟩ rfl rfl rfl rfl rfl rfl ew ?_
          refine s_icmp (q := .le) (a := ((pcn s : Nat) : Int)) (b := (pw : Int)) rfl ⟨_, rfl⟩ rfl (by unfold sR aMi aMa; omega) (by unfold sR aMi aMa; omega) (fun hc2 => ?_) (fun hc2 => ?_)
          · have hc2 : ((((pcn s : Nat) : Int)) : Int) ≤ ((pw : Int)) := hc2
            omega
          · have hc2 : ¬ (((((pcn s : Nat) : Int)) : Int) ≤ ((pw : Int))) := hc2
            refine sP 2 (g1 := (28, [some (.ref 53), some (sI ((w : Int))), some (sI ((s : Int))), some (sI (((pcn s : Nat) : Int)))], [sI ((s : Int)), .ref 53], g)) rfl ?_
            refine s_call (k := 185) (args := [.ref 53, sI ((s : Int))]) (st := []) (v := some (sI (((oC (agM h n s) n n 0 : Nat) : Int)))) (h1 := g1) rfl ⟨rfl, rfl⟩ rfl rfl rfl rfl (sRcv hg (a := 53) rfl rfl) rfl ev ?_
            refine sP 3 (g1 := (32, [some (.ref 53), some (sI ((w : Int))), some (sI ((s : Int))), some (sI (((pcn s : Nat) : Int)))], [sI 1, sI (((pcn s : Nat) : Int)), sI (((pcn s : Nat) : Int)), sI (((oC (agM h n s) n n 0 : Nat) : Int))], g1)) rfl ?_
            refine s_sub (a := ((pcn s : Nat) : Int)) (b := 1) rfl rfl ?_
            refine s_mul (a := ((pcn s : Nat) : Int)) (b := (((pcn s : Nat) : Int)) - 1) rfl rfl ?_
            refine sP 1 (g1 := (35, [some (.ref 53), some (sI ((w : Int))), some (sI ((s : Int))), some (sI (((pcn s : Nat) : Int)))], [sI 2, sI ((((pcn s : Nat) : Int)) * ((((pcn s : Nat) : Int)) - 1)), sI (((oC (agM h n s) n n 0 : Nat) : Int))], g1)) rfl ?_
            rw [t1]
            refine s_divN (a := tt) (b := 2) rfl rfl (by omega) (by omega) (by omega) ?_
            refine s_icmp (q := .ne) (a := ((oC (agM h n s) n n 0 : Nat) : Int)) (b := ((tt / 2 : Nat) : Int)) rfl ⟨_, rfl⟩ rfl (by unfold sR aMi aMa; omega) (by unfold sR aMi aMa; omega) (fun hc3 => ?_) (fun hc3 => ?_)
            · have hc3 : ((((oC (agM h n s) n n 0 : Nat) : Int)) : Int) ≠ (((tt / 2 : Nat) : Int)) := hc3
              refine sP 2 (g1 := (41, [some (.ref 53), some (sI ((w : Int))), some (sI ((s : Int))), some (sI (((pcn s : Nat) : Int)))], [], g1)) rfl ?_
              refine s_inc (a := (s : Int)) (n := 1) (k := 2) rfl rfl rfl ?_
              refine sP 1 (g1 := (11, [some (.ref 53), some (sI ((w : Int))), some (sI (((s : Int)) + 1)), some (sI (((pcn s : Nat) : Int)))], [], g1)) rfl ?_
              rw [show ((s : Int) + 1) = ((s + 1 : Nat) : Int) by omega]
              exact r0
            · have hc3 : ¬ (((((oC (agM h n s) n n 0 : Nat) : Int)) : Int) ≠ (((tt / 2 : Nat) : Int))) := hc3
              omega
    · rw [if_neg (fun w => h1 w.1)] at e1
      obtain ⟨g2, j1, j2, j3⟩ := ih (s + 1) g (some (sI ((pcn s : Nat) : Int))) (by omega) hg ho
      refine ⟨g2, j1, j2, fun r r1 => ?_⟩
      have r0 := j3 r r1
      rw [e1] at r0
      generalize wB (wfM h n) s = w at *
      generalize pcn w = pw at *
      refine sP 3 (g1 := (14, [some (.ref 53), some (sI ((w : Int))), some (sI ((s : Int))), X], [.ref 53, sI 1, sI ((s : Int))], g)) rfl ?_
      refine s_get (a := 53) (j := 4) hg rfl ⟨_, rfl⟩ rfl rfl rfl (v := .ref 58) (hR_ok hg (by decide +kernel)) ?_
      refine sP 1 (g1 := (16, [some (.ref 53), some (sI ((w : Int))), some (sI ((s : Int))), X], [sI 0, .ref 58, sI 1, sI ((s : Int))], g)) rfl ?_
      refine s_iald (a := 58) (n := 201) (j := 0) hg rfl rfl rfl (by omega) (by omega) (by decide) (v := sI ((n : Int))) (by have q := hI_ok hg nw_p; rw [hng] at q; exact q) ?_
      refine s_shl7 (a := n) rfl rfl (by omega) ?_
      rw [hq]
      refine s_icmp (q := .ge) (a := (s : Int)) (b := (q : Int)) rfl ⟨_, rfl⟩ rfl (by unfold sR aMi aMa; omega) (by unfold sR aMi aMa; omega) (fun hc1 => ?_) (fun hc1 => ?_)
      · have hc1 : (((q : Int)) : Int) ≤ ((s : Int)) := hc1
        omega
      · have hc1 : ¬ ((((q : Int)) : Int) ≤ ((s : Int))) := hc1
        refine sP 1 (g1 := (20, [some (.ref 53), some (sI ((w : Int))), some (sI ((s : Int))), X], [sI ((s : Int))], g)) rfl ?_
        refine s_call (k := 166) (args := [sI ((s : Int))]) (st := []) (v := some (sI (((pcn s : Nat) : Int)))) (h1 := g) rfl ⟨rfl, rfl⟩ rfl rfl rfl rfl rfl rfl eb ?_
        refine sP 3 (g1 := (24, [some (.ref 53), some (sI ((w : Int))), some (sI ((s : Int))), some (sI (((pcn s : Nat) : Int)))], [sI ((w : Int)), sI (((pcn s : Nat) : Int))], g)) rfl ?_
        refine s_call (k := 166) (args := [sI ((w : Int))]) (st := [sI (((pcn s : Nat) : Int))]) (v := some (sI ((pw : Int)))) (h1 := g) rfl ⟨rfl, rfl⟩ rfl rfl rfl rfl rfl rfl ew ?_
        refine s_icmp (q := .le) (a := ((pcn s : Nat) : Int)) (b := (pw : Int)) rfl ⟨_, rfl⟩ rfl (by unfold sR aMi aMa; omega) (by unfold sR aMi aMa; omega) (fun hc2 => ?_) (fun hc2 => ?_)
        · have hc2 : ((((pcn s : Nat) : Int)) : Int) ≤ ((pw : Int)) := hc2
          refine sP 2 (g1 := (41, [some (.ref 53), some (sI ((w : Int))), some (sI ((s : Int))), some (sI (((pcn s : Nat) : Int)))], [], g)) rfl ?_
          refine s_inc (a := (s : Int)) (n := 1) (k := 2) rfl rfl rfl ?_
          refine sP 1 (g1 := (11, [some (.ref 53), some (sI ((w : Int))), some (sI (((s : Int)) + 1)), some (sI (((pcn s : Nat) : Int)))], [], g)) rfl ?_
          rw [show ((s : Int) + 1) = ((s + 1 : Nat) : Int) by omega]
          exact r0
        · have hc2 : ¬ (((((pcn s : Nat) : Int)) : Int) ≤ ((pw : Int))) := hc2
          omega
theorem fWellMs (hh : aHp h) (hz : hI h 58 0 = 0) : nEv sc (d + 7) 187 [.ref 53] h (some (sI (-4)), h) := by
  refine nEv_of (t := mMe187) rfl ?_
  show nRn sc (d + 6) (mMT mMe187) (mMC mMe187) (0, [some (.ref 53), none, none, none], [], h) _
  refine sP 1 (g1 := (1, [some (.ref 53), none, none, none], [.ref 53], h)) rfl ?_
  refine s_get (a := 53) (j := 4) hh rfl ⟨_, rfl⟩ rfl rfl rfl (v := .ref 58) (hR_ok hh (by decide +kernel)) ?_
  refine sP 1 (g1 := (3, [some (.ref 53), none, none, none], [sI 0, .ref 58], h)) rfl ?_
  refine s_iald (a := 58) (n := 201) (j := 0) hh rfl rfl rfl (by omega) (by omega) (by decide) (v := sI (hI h 58 0)) (hI_ok hh nw_p) ?_
  refine s_ifc (q := .ne) (a := hI h 58 0) rfl ⟨_, rfl⟩ rfl (by unfold sR aMi aMa; omega) (fun hc1 => ?_) (fun hc1 => ?_)
  · have hc1 : ((hI h 58 0) : Int) ≠ 0 := hc1
    omega
  · have hc1 : ¬ (((hI h 58 0) : Int) ≠ 0) := hc1
    refine sP 1 (g1 := (6, [some (.ref 53), none, none, none], [sI ((-4))], h)) rfl ?_
    exact s_reti rfl rfl (Or.inl rfl) rfl rfl
theorem fWellM {n q : Nat} (hh : aHp h) (hn : hI h 58 0 = n) (n0 : n ≠ 0) (hq : 2 ^ n = q) : ∃ g, nEv sc (d + 7) 187 [.ref 53] h (some (sI ((pcn (wB (wfM h n) q) : Nat) : Int)), g) ∧ aHp g ∧ (∀ p m, ¬ (p = 53 ∧ (m = 8 ∨ m = 14)) → aSlot g p m = aSlot h p m) ∧ aSlot g 53 8 = some (sI ((wB (wfM h n) q : Nat) : Int)) := by
  have gp := hI_rg hh nw_p
  have p2 := p2_le (show n ≤ 6 by omega)
  have c6 := pcn_le (wB (wfM h n) q)
  have wl := wB_lt (wfM h n) (s := q) (by omega)
  obtain ⟨g1, i1, i2, i3⟩ := fWmL (sc := sc) (d := d) hh hn hq q 0 h none (by omega) hh (fun _ _ _ => rfl)
  obtain ⟨g2, e2, j1, j2⟩ := fAnswer (sc := sc) (d := d + 5) (v := ((pcn (wB (wfM h n) q) : Nat) : Int)) (t := ((wB (wfM h n) q : Nat) : Int)) i1 (by unfold sR aMi aMa; omega)
  have eb := fBitsM (sc := sc) (d := d + 5) (h := g1) (s := wB (wfM h n) q) (by omega)
  have r2 : ∀ Y : Option Value, nRn sc (d + 6) (mMT mMe187) (mMC mMe187) (43, [some (.ref 53), some (sI ((wB (wfM h n) q : Nat) : Int)), some (sI (q : Int)), Y], [], g1) (some (sI ((pcn (wB (wfM h n) q) : Nat) : Int)), g2) := by
    intro Y
    refine sP 2 (g1 := (45, [some (.ref 53), some (sI (((wB (wfM h n) q : Nat) : Int))), some (sI ((q : Int))), Y], [sI (((wB (wfM h n) q : Nat) : Int)), .ref 53], g1)) rfl ?_
    refine s_call (k := 166) (args := [sI (((wB (wfM h n) q : Nat) : Int))]) (st := [.ref 53]) (v := some (sI (((pcn (wB (wfM h n) q) : Nat) : Int)))) (h1 := g1) rfl ⟨rfl, rfl⟩ rfl rfl rfl rfl rfl rfl eb ?_
    refine sP 1 (g1 := (47, [some (.ref 53), some (sI (((wB (wfM h n) q : Nat) : Int))), some (sI ((q : Int))), Y], [sI (((wB (wfM h n) q : Nat) : Int)), sI (((pcn (wB (wfM h n) q) : Nat) : Int)), .ref 53], g1)) rfl ?_
    refine s_call (k := 186) (args := [.ref 53, sI (((pcn (wB (wfM h n) q) : Nat) : Int)), sI (((wB (wfM h n) q : Nat) : Int))]) (st := []) (v := some (sI (((pcn (wB (wfM h n) q) : Nat) : Int)))) (h1 := g2) rfl ⟨rfl, rfl⟩ rfl rfl rfl rfl (sRcv i1 (a := 53) rfl rfl) rfl e2 ?_
    exact s_reti rfl rfl (Or.inl rfl) rfl rfl
  have r1 := i3 _ r2
  refine ⟨g2, nEv_of (t := mMe187) rfl ?_, j1, fun p m w => by rw [j2, if_neg (by omega), i2 p m (by omega)], by rw [j2, if_pos (by omega)]⟩
  show nRn sc (d + 6) (mMT mMe187) (mMC mMe187) (0, [some (.ref 53), none, none, none], [], h) _
  refine sP 1 (g1 := (1, [some (.ref 53), none, none, none], [.ref 53], h)) rfl ?_
  refine s_get (a := 53) (j := 4) hh rfl ⟨_, rfl⟩ rfl rfl rfl (v := .ref 58) (hR_ok hh (by decide +kernel)) ?_
  refine sP 1 (g1 := (3, [some (.ref 53), none, none, none], [sI 0, .ref 58], h)) rfl ?_
  refine s_iald (a := 58) (n := 201) (j := 0) hh rfl rfl rfl (by omega) (by omega) (by decide) (v := sI ((n : Int))) (by have q := hI_ok hh nw_p; rw [hn] at q; exact q) ?_
  refine s_ifc (q := .ne) (a := (n : Int)) rfl ⟨_, rfl⟩ rfl (by unfold sR aMi aMa; omega) (fun hc1 => ?_) (fun hc1 => ?_)
  · have hc1 : (((n : Int)) : Int) ≠ 0 := hc1
    refine sP 4 (g1 := (11, [some (.ref 53), some (sI 0), some (sI 0), none], [], h)) rfl ?_
    exact r1
  · have hc1 : ¬ ((((n : Int)) : Int) ≠ 0) := hc1
    omega
end WELL
theorem pair0 {sc : List Int32} {h h1 h2 : mH} {kx km : Nat} {v1 v2 : Int} (a1 : nEv sc 100 kx [.ref 0] h (some (sI v1), h1)) (a2 : aHp h1) (a3 : nEv sc 100 km [.ref 53] h1 (some (sI v2), h2)) (a4 : wP h2) (a5 : v2 = v1) : ∃ z1 h1 z2 h2, nEv sc 100 kx (.ref 0 :: ([] : List Int32).map Value.int) h (some (.int z1), h1) ∧ aHp h1 ∧ nEv sc 100 km (.ref 53 :: ([] : List Int32).map Value.int) h1 (some (.int z2), h2) ∧ wP h2 ∧ z2 = z1 := ⟨Int32.ofInt v1, h1, Int32.ofInt v2, h2, a1, a2, a3, a4, by rw [a5]⟩
theorem wWell {sc : List Int32} {h : mH} (hp : wP h) : ∃ z1 h1 z2 h2, nEv sc 100 81 (.ref 0 :: ([] : List Int32).map Value.int) h (some (.int z1), h1) ∧ aHp h1 ∧ nEv sc 100 187 (.ref 53 :: ([] : List Int32).map Value.int) h1 (some (.int z2), h2) ∧ wP h2 ∧ z2 = z1 := by
  have hh := wP_a h hp
  have e3 : hI h 3 3 = hI h 58 0 := hp.2.1.1
  have gp := hI_rg hh xw_p
  obtain ⟨n, en⟩ := iN gp.1
  by_cases c0 : n = 0
  · exact pair0 (fWellXs (d := 93) hh (by omega)) hh (fWellMs (d := 93) hh (by omega)) hp rfl
  · have p2 := p2_le (show n ≤ 6 by omega)
    obtain ⟨g1, a1, a2, a3⟩ := fWellX (sc := sc) (d := 93) hh en c0 rfl
    have k0 : ∀ p m, ¬ (p = 0 ∧ m = 9) → aSlot g1 p m = aSlot h p m := fun p m w => by rw [a3, if_neg w]
    have e0 : hI g1 58 0 = hI h 58 0 := hI_cg (k0 58 0 (by omega))
    obtain ⟨g2, b1, b2, b3, b4⟩ := fWellM (sc := sc) (d := 93) (n := n) a2 (by omega) c0 rfl
    have hr : nR h g1 := nR_sl hp.2.1 (fun _ _ _ _ => rfl) (fun m => k0 58 m (by omega))
    have t1 : ∀ p m, ¬ (p = 0 ∧ m = 9) → ¬ (p = 53 ∧ (m = 8 ∨ m = 14)) → aSlot g2 p m = aSlot h p m := fun p m w1 w2 => by rw [b3 p m w2, k0 p m w1]
    refine pair0 a1 a2 b1 (wP_sl hp (tP_sl hp.1 b2 (fun e m w => t1 e m (by omega) (by omega))) (fun p m w => t1 p m (by omega) (by omega))) ?_
    rw [wB_cg (n := 2 ^ n) (fun s hs => show wfM g1 n s = wfX h n s by
      unfold wfM wfX
      rw [oC_cg (n := n) (fun a b ha hb => nR_aX (s := s) hr en ha hb) n 0 (by omega)]) _ (Nat.le_refl _)]
