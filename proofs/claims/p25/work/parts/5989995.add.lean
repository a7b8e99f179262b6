/-! add -/
/-- the first one by whom most is won -/
noncomputable def adB (V : Nat → Int) : Nat → Int × Int
  | 0 => (-9, -1)
  | a + 1 => if (adB V a).2 < V a then ((a : Int), V a) else adB V a
theorem adB_rg {V : Nat → Int} {n : Nat} (hV : ∀ a, a < n → -1 ≤ V a ∧ V a ≤ 1000) : ∀ a, a ≤ n → (-9 ≤ (adB V a).1 ∧ (adB V a).1 ≤ 1000 + a) ∧ (-1 ≤ (adB V a).2 ∧ (adB V a).2 ≤ 1000)
  | 0, _ => by
    show (-9 ≤ (-9 : Int) ∧ (-9 : Int) ≤ 1000 + 0) ∧ (-1 ≤ (-1 : Int) ∧ (-1 : Int) ≤ 1000)
    omega
  | a + 1, h => by
    have h1 := adB_rg hV a (by omega)
    have h2 := hV a (by omega)
    unfold adB
    split
    · show (-9 ≤ (a : Int) ∧ (a : Int) ≤ 1000 + ((a + 1 : Nat) : Int)) ∧ (-1 ≤ V a ∧ V a ≤ 1000)
      omega
    · omega
theorem adB_cg {V W : Nat → Int} {n : Nat} (hV : ∀ a, a < n → V a = W a) : ∀ a, a ≤ n → adB V a = adB W a
  | 0, _ => rfl
  | a + 1, h => by
    unfold adB
    rw [adB_cg hV a (by omega), hV a (by omega)]
noncomputable def vX (h : mH) (n s a : Nat) : Int := if bt s a = true then -1 else ((oC (agX h n (s ||| 2 ^ a)) n n 0 : Nat) : Int)
noncomputable def vM (h : mH) (n s a : Nat) : Int := if bt s a = true then -1 else ((oC (agM h n (s ||| 2 ^ a)) n n 0 : Nat) : Int)
theorem vX_rg (h : mH) {n : Nat} (hn : n ≤ 6) (s a : Nat) : -1 ≤ vX h n s a ∧ vX h n s a ≤ 1000 := by
  have := oC_le (agX h n (s ||| 2 ^ a)) hn n 0
  unfold vX
  split <;> omega
theorem vM_rg (h : mH) {n : Nat} (hn : n ≤ 6) (s a : Nat) : -1 ≤ vM h n s a ∧ vM h n s a ≤ 1000 := by
  have := oC_le (agM h n (s ||| 2 ^ a)) hn n 0
  unfold vM
  split <;> omega
section ADD
variable {sc : List Int32} {d : Nat} {h : mH}
theorem fAdL {n s : Nat} (hh : aHp h) (hn : hI h 3 3 = n) (hs : s < 64) : ∀ (k a : Nat) (X : Option Value), a + k = n → ∀ r, (∀ Y : Option Value, nRn sc (d + 6) (mMT mMe82) (mMC mMe82) (42, [some (.ref 0), some (sI (s : Int)), some (sI (adB (vX h n s) n).1), some (sI (adB (vX h n s) n).2), some (sI (n : Int)), Y], [], h) r) → nRn sc (d + 6) (mMT mMe82) (mMC mMe82) (13, [some (.ref 0), some (sI (s : Int)), some (sI (adB (vX h n s) a).1), some (sI (adB (vX h n s) a).2), some (sI (a : Int)), X], [], h) r := by
  have gp := hI_rg hh xw_p
  intro k
  induction k with
  | zero =>
    intro a X ha r r1
    have hbn : a = n := by omega
    subst hbn
    have r0 := r1 X
    refine sP 2 (g1 := (15, [some (.ref 0), some (sI ((s : Int))), some (sI ((adB (vX h a s) a).1)), some (sI ((adB (vX h a s) a).2)), some (sI ((a : Int))), X], [.ref 0, sI ((a : Int))], h)) rfl ?_
    refine s_get (a := 0) (j := 2) hh rfl ⟨_, rfl⟩ rfl rfl rfl (v := .ref 3) (hR_ok hh (by decide +kernel)) ?_
    refine s_get (a := 3) (j := 3) hh rfl ⟨_, rfl⟩ rfl rfl rfl (v := sI (hI h 3 3)) (hI_ok hh xw_p) ?_
    refine s_icmp (q := .ge) (a := (a : Int)) (b := hI h 3 3) rfl ⟨_, rfl⟩ rfl (by unfold sR aMi aMa; omega) (by unfold sR aMi aMa; omega) (fun hc1 => ?_) (fun hc1 => ?_)
    · have hc1 : ((hI h 3 3) : Int) ≤ ((a : Int)) := hc1
      exact r0
    · have hc1 : ¬ (((hI h 3 3) : Int) ≤ ((a : Int))) := hc1
      omega
  | succ k ih =>
    intro a X ha r r1
    have ha6 : a < 6 := by omega
    have vi := fIsIn (sc := sc) (d := d + 5) (h := h) (s := s) (a := a) hs ha6
    have so := or6_lt hs (p26_lt ha6)
    have ev := fAgreeing (sc := sc) (d := d) hh hn so
    have oc := oC_le (agX h n (s ||| 2 ^ a)) (show n ≤ 6 by omega) n 0
    have br := adB_rg (V := vX h n s) (n := n) (fun a _ => vX_rg h (by omega) s a) a (by omega)
    have e1 : adB (vX h n s) (a + 1) = if (adB (vX h n s) a).2 < vX h n s a then ((a : Int), vX h n s a) else adB (vX h n s) a := rfl
    have r0 := fun X => ih (a + 1) X (by omega) r r1
    by_cases u1 : bt s a = true
    · rw [if_pos u1] at vi
      have ez : vX h n s a = -1 := by unfold vX; rw [if_pos u1]
      rw [ez, if_neg (by omega)] at e1
      rw [e1] at r0
      refine sP 2 (g1 := (15, [some (.ref 0), some (sI ((s : Int))), some (sI ((adB (vX h n s) a).1)), some (sI ((adB (vX h n s) a).2)), some (sI ((a : Int))), X], [.ref 0, sI ((a : Int))], h)) rfl ?_
      refine s_get (a := 0) (j := 2) hh rfl ⟨_, rfl⟩ rfl rfl rfl (v := .ref 3) (hR_ok hh (by decide +kernel)) ?_
      refine s_get (a := 3) (j := 3) hh rfl ⟨_, rfl⟩ rfl rfl rfl (v := sI (hI h 3 3)) (hI_ok hh xw_p) ?_
      refine s_icmp (q := .ge) (a := (a : Int)) (b := hI h 3 3) rfl ⟨_, rfl⟩ rfl (by unfold sR aMi aMa; omega) (by unfold sR aMi aMa; omega) (fun hc1 => ?_) (fun hc1 => ?_)
      · have hc1 : ((hI h 3 3) : Int) ≤ ((a : Int)) := hc1
        omega
      · have hc1 : ¬ (((hI h 3 3) : Int) ≤ ((a : Int))) := hc1
        refine sP 2 (g1 := (20, [some (.ref 0), some (sI ((s : Int))), some (sI ((adB (vX h n s) a).1)), some (sI ((adB (vX h n s) a).2)), some (sI ((a : Int))), X], [sI ((a : Int)), sI ((s : Int))], h)) rfl ?_
        refine s_call (k := 39) (args := [sI ((s : Int)), sI ((a : Int))]) (st := []) (v := some (sI 1)) (h1 := h) rfl ⟨rfl, rfl⟩ rfl rfl rfl rfl rfl rfl vi ?_
        refine s_ifc (q := .eq) (a := 1) rfl ⟨_, rfl⟩ rfl (by unfold sR aMi aMa; omega) (fun hc2 => ?_) (fun hc2 => ?_)
        · have hc2 : (1 : Int) = 0 := hc2
          omega
        · have hc2 : ¬ ((1 : Int) = 0) := hc2
          refine sP 5 (g1 := (35, [some (.ref 0), some (sI ((s : Int))), some (sI ((adB (vX h n s) a).1)), some (sI ((adB (vX h n s) a).2)), some (sI ((a : Int))), some (sI ((-1)))], [sI ((adB (vX h n s) a).2), sI ((-1))], h)) rfl ?_
          refine s_icmp (q := .le) (a := (-1)) (b := (adB (vX h n s) a).2) rfl ⟨_, rfl⟩ rfl (by unfold sR aMi aMa; omega) (by unfold sR aMi aMa; omega) (fun hc3 => ?_) (fun hc3 => ?_)
          · have hc3 : (((-1)) : Int) ≤ ((adB (vX h n s) a).2) := hc3
            refine s_inc (a := (a : Int)) (n := 1) (k := 4) rfl rfl rfl ?_
            refine sP 1 (g1 := (13, [some (.ref 0), some (sI ((s : Int))), some (sI ((adB (vX h n s) a).1)), some (sI ((adB (vX h n s) a).2)), some (sI (((a : Int)) + 1)), some (sI ((-1)))], [], h)) rfl ?_
            rw [show ((a : Int) + 1) = ((a + 1 : Nat) : Int) by omega]
            exact r0 _
          · have hc3 : ¬ ((((-1)) : Int) ≤ ((adB (vX h n s) a).2)) := hc3
            omega
    · rw [if_neg u1] at vi
      have ez : vX h n s a = ((oC (agX h n (s ||| 2 ^ a)) n n 0 : Nat) : Int) := by unfold vX; rw [if_neg u1]
      rw [ez] at e1
      by_cases u2 : (adB (vX h n s) a).2 < ((oC (agX h n (s ||| 2 ^ a)) n n 0 : Nat) : Int)
      · rw [if_pos u2] at e1
        rw [e1] at r0
        refine sP 2 (g1 := (15, [some (.ref 0), some (sI ((s : Int))), some (sI ((adB (vX h n s) a).1)), some (sI ((adB (vX h n s) a).2)), some (sI ((a : Int))), X], [.ref 0, sI ((a : Int))], h)) rfl ?_
        refine s_get (a := 0) (j := 2) hh rfl ⟨_, rfl⟩ rfl rfl rfl (v := .ref 3) (hR_ok hh (by decide +kernel)) ?_
        refine s_get (a := 3) (j := 3) hh rfl ⟨_, rfl⟩ rfl rfl rfl (v := sI (hI h 3 3)) (hI_ok hh xw_p) ?_
        refine s_icmp (q := .ge) (a := (a : Int)) (b := hI h 3 3) rfl ⟨_, rfl⟩ rfl (by unfold sR aMi aMa; omega) (by unfold sR aMi aMa; omega) (fun hc1 => ?_) (fun hc1 => ?_)
        · have hc1 : ((hI h 3 3) : Int) ≤ ((a : Int)) := hc1
          omega
        · have hc1 : ¬ (((hI h 3 3) : Int) ≤ ((a : Int))) := hc1
          refine sP 2 (g1 := (20, [some (.ref 0), some (sI ((s : Int))), some (sI ((adB (vX h n s) a).1)), some (sI ((adB (vX h n s) a).2)), some (sI ((a : Int))), X], [sI ((a : Int)), sI ((s : Int))], h)) rfl ?_
          refine s_call (k := 39) (args := [sI ((s : Int)), sI ((a : Int))]) (st := []) (v := some (sI 0)) (h1 := h) rfl ⟨rfl, rfl⟩ rfl rfl rfl rfl rfl rfl vi ?_
          refine s_ifc (q := .eq) (a := 0) rfl ⟨_, rfl⟩ rfl (by unfold sR aMi aMa; omega) (fun hc2 => ?_) (fun hc2 => ?_)
          · have hc2 : (0 : Int) = 0 := hc2
            refine sP 1 (g1 := (25, [some (.ref 0), some (sI ((s : Int))), some (sI ((adB (vX h n s) a).1)), some (sI ((adB (vX h n s) a).2)), some (sI ((a : Int))), X], [.ref 0], h)) rfl ?_
            refine s_get (a := 0) (j := 2) hh rfl ⟨_, rfl⟩ rfl rfl rfl (v := .ref 3) (hR_ok hh (by decide +kernel)) ?_
            refine sP 3 (g1 := (29, [some (.ref 0), some (sI ((s : Int))), some (sI ((adB (vX h n s) a).1)), some (sI ((adB (vX h n s) a).2)), some (sI ((a : Int))), X], [sI ((a : Int)), sI 1, sI ((s : Int)), .ref 3], h)) rfl ?_
            refine s_shl7 (a := a) rfl rfl (by omega) ?_
            refine s_b1 rfl rfl (b_or6 s hs (2 ^ a) (p26_lt ha6)) ?_
            refine s_call (k := 80) (args := [.ref 3, sI (((s ||| 2 ^ a : Nat) : Int))]) (st := []) (v := some (sI (((oC (agX h n (s ||| 2 ^ a)) n n 0 : Nat) : Int)))) (h1 := h) rfl ⟨rfl, rfl⟩ rfl rfl rfl rfl (sRcv hh (a := 3) rfl rfl) rfl ev ?_
            refine sP 3 (g1 := (35, [some (.ref 0), some (sI ((s : Int))), some (sI ((adB (vX h n s) a).1)), some (sI ((adB (vX h n s) a).2)), some (sI ((a : Int))), some (sI (((oC (agX h n (s ||| 2 ^ a)) n n 0 : Nat) : Int)))], [sI ((adB (vX h n s) a).2), sI (((oC (agX h n (s ||| 2 ^ a)) n n 0 : Nat) : Int))], h)) rfl ?_
            refine s_icmp (q := .le) (a := ((oC (agX h n (s ||| 2 ^ a)) n n 0 : Nat) : Int)) (b := (adB (vX h n s) a).2) rfl ⟨_, rfl⟩ rfl (by unfold sR aMi aMa; omega) (by unfold sR aMi aMa; omega) (fun hc3 => ?_) (fun hc3 => ?_)
            · have hc3 : ((((oC (agX h n (s ||| 2 ^ a)) n n 0 : Nat) : Int)) : Int) ≤ ((adB (vX h n s) a).2) := hc3
              omega
            · have hc3 : ¬ (((((oC (agX h n (s ||| 2 ^ a)) n n 0 : Nat) : Int)) : Int) ≤ ((adB (vX h n s) a).2)) := hc3
              refine sP 4 (g1 := (40, [some (.ref 0), some (sI ((s : Int))), some (sI ((a : Int))), some (sI (((oC (agX h n (s ||| 2 ^ a)) n n 0 : Nat) : Int))), some (sI ((a : Int))), some (sI (((oC (agX h n (s ||| 2 ^ a)) n n 0 : Nat) : Int)))], [], h)) rfl ?_
              refine s_inc (a := (a : Int)) (n := 1) (k := 4) rfl rfl rfl ?_
              refine sP 1 (g1 := (13, [some (.ref 0), some (sI ((s : Int))), some (sI ((a : Int))), some (sI (((oC (agX h n (s ||| 2 ^ a)) n n 0 : Nat) : Int))), some (sI (((a : Int)) + 1)), some (sI (((oC (agX h n (s ||| 2 ^ a)) n n 0 : Nat) : Int)))], [], h)) rfl ?_
              rw [show ((a : Int) + 1) = ((a + 1 : Nat) : Int) by omega]
              exact r0 _
          · have hc2 : ¬ ((0 : Int) = 0) := hc2
            omega
      · rw [if_neg u2] at e1
        rw [e1] at r0
        refine sP 2 (g1 := (15, [some (.ref 0), some (sI ((s : Int))), some (sI ((adB (vX h n s) a).1)), some (sI ((adB (vX h n s) a).2)), some (sI ((a : Int))), X], [.ref 0, sI ((a : Int))], h)) rfl ?_
        refine s_get (a := 0) (j := 2) hh rfl ⟨_, rfl⟩ rfl rfl rfl (v := .ref 3) (hR_ok hh (by decide +kernel)) ?_
        refine s_get (a := 3) (j := 3) hh rfl ⟨_, rfl⟩ rfl rfl rfl (v := sI (hI h 3 3)) (hI_ok hh xw_p) ?_
        refine s_icmp (q := .ge) (a := (a : Int)) (b := hI h 3 3) rfl ⟨_, rfl⟩ rfl (by unfold sR aMi aMa; omega) (by unfold sR aMi aMa; omega) (fun hc1 => ?_) (fun hc1 => ?_)
        · have hc1 : ((hI h 3 3) : Int) ≤ ((a : Int)) := hc1
          omega
        · have hc1 : ¬ (((hI h 3 3) : Int) ≤ ((a : Int))) := hc1
          refine sP 2 (g1 := (20, [some (.ref 0), some (sI ((s : Int))), some (sI ((adB (vX h n s) a).1)), some (sI ((adB (vX h n s) a).2)), some (sI ((a : Int))), X], [sI ((a : Int)), sI ((s : Int))], h)) rfl ?_
          refine s_call (k := 39) (args := [sI ((s : Int)), sI ((a : Int))]) (st := []) (v := some (sI 0)) (h1 := h) rfl ⟨rfl, rfl⟩ rfl rfl rfl rfl rfl rfl vi ?_
          refine s_ifc (q := .eq) (a := 0) rfl ⟨_, rfl⟩ rfl (by unfold sR aMi aMa; omega) (fun hc2 => ?_) (fun hc2 => ?_)
          · have hc2 : (0 : Int) = 0 := hc2
            refine sP 1 (g1 := (25, [some (.ref 0), some (sI ((s : Int))), some (sI ((adB (vX h n s) a).1)), some (sI ((adB (vX h n s) a).2)), some (sI ((a : Int))), X], [.ref 0], h)) rfl ?_
            refine s_get (a := 0) (j := 2) hh rfl ⟨_, rfl⟩ rfl rfl rfl (v := .ref 3) (hR_ok hh (by decide +kernel)) ?_
            refine sP 3 (g1 := (29, [some (.ref 0), some (sI ((s : Int))), some (sI ((adB (vX h n s) a).1)), some (sI ((adB (vX h n s) a).2)), some (sI ((a : Int))), X], [sI ((a : Int)), sI 1, sI ((s : Int)), .ref 3], h)) rfl ?_
            refine s_shl7 (a := a) rfl rfl (by omega) ?_
            refine s_b1 rfl rfl (b_or6 s hs (2 ^ a) (p26_lt ha6)) ?_
            refine s_call (k := 80) (args := [.ref 3, sI (((s ||| 2 ^ a : Nat) : Int))]) (st := []) (v := some (sI (((oC (agX h n (s ||| 2 ^ a)) n n 0 : Nat) : Int)))) (h1 := h) rfl ⟨rfl, rfl⟩ rfl rfl rfl rfl (sRcv hh (a := 3) rfl rfl) rfl ev ?_
            refine sP 3 (g1 := (35, [some (.ref 0), some (sI ((s : Int))), some (sI ((adB (vX h n s) a).1)), some (sI ((adB (vX h n s) a).2)), some (sI ((a : Int))), some (sI (((oC (agX h n (s ||| 2 ^ a)) n n 0 : Nat) : Int)))], [sI ((adB (vX h n s) a).2), sI (((oC (agX h n (s ||| 2 ^ a)) n n 0 : Nat) : Int))], h)) rfl ?_
            refine s_icmp (q := .le) (a := ((oC (agX h n (s ||| 2 ^ a)) n n 0 : Nat) : Int)) (b := (adB (vX h n s) a).2) rfl ⟨_, rfl⟩ rfl (by unfold sR aMi aMa; omega) (by unfold sR aMi aMa; omega) (fun hc3 => ?_) (fun hc3 => ?_)
            · have hc3 : ((((oC (agX h n (s ||| 2 ^ a)) n n 0 : Nat) : Int)) : Int) ≤ ((adB (vX h n s) a).2) := hc3
              refine s_inc (a := (a : Int)) (n := 1) (k := 4) rfl rfl rfl ?_
              refine sP 1 (g1 := (13, [some (.ref 0), some (sI ((s : Int))), some (sI ((adB (vX h n s) a).1)), some (sI ((adB (vX h n s) a).2)), some (sI (((a : Int)) + 1)), some (sI (((oC (agX h n (s ||| 2 ^ a)) n n 0 : Nat) : Int)))], [], h)) rfl ?_
              rw [show ((a : Int) + 1) = ((a + 1 : Nat) : Int) by omega]
              exact r0 _
            · have hc3 : ¬ (((((oC (agX h n (s ||| 2 ^ a)) n n 0 : Nat) : Int)) : Int) ≤ ((adB (vX h n s) a).2)) := hc3
              omega
          · have hc2 : ¬ ((0 : Int) = 0) := hc2
            omega
theorem fAddXb {s : Int} {n : Nat} (hh : aHp h) (hn : hI h 3 3 = (n : Int)) (rs : sR s) (hc : ¬ (0 ≤ s ∧ s < ((2 ^ n : Nat) : Int))) : nEv sc (d + 7) 82 [.ref 0, sI s] h (some (sI (-1)), h) := by
  have gp := hI_rg hh xw_p
  have p2 := p2_le (show n ≤ 6 by omega)
  unfold sR aMi aMa at rs
  refine nEv_of (t := mMe82) rfl ?_
  show nRn sc (d + 6) (mMT mMe82) (mMC mMe82) (0, [some (.ref 0), some (sI s), none, none, none, none], [], h) _
  refine sP 1 (g1 := (1, [some (.ref 0), some (sI s), none, none, none, none], [.ref 0], h)) rfl ?_
  refine s_get (a := 0) (j := 2) hh rfl ⟨_, rfl⟩ rfl rfl rfl (v := .ref 3) (hR_ok hh (by decide +kernel)) ?_
  refine sP 1 (g1 := (3, [some (.ref 0), some (sI s), none, none, none, none], [sI s, .ref 3], h)) rfl ?_
  have ev1 := fHasSet (sc := sc) (d := d + 5) (n := n) (s := s) hh hn (by unfold sR aMi aMa; omega)
  rw [if_neg (by omega)] at ev1
  refine s_call (k := 76) (args := [.ref 3, sI s]) (st := []) (v := some (sI 0)) (h1 := h) rfl ⟨rfl, rfl⟩ rfl rfl rfl rfl (sRcv hh (a := 3) rfl rfl) rfl ev1 ?_
  refine s_ifc (q := .ne) (a := 0) rfl ⟨_, rfl⟩ rfl (by unfold sR aMi aMa; omega) (fun hc2 => ?_) (fun hc2 => ?_)
  · have hc2 : (0 : Int) ≠ 0 := hc2
    omega
  · have hc2 : ¬ ((0 : Int) ≠ 0) := hc2
    refine sP 1 (g1 := (6, [some (.ref 0), some (sI s), none, none, none, none], [sI ((-1))], h)) rfl ?_
    exact s_reti rfl rfl (Or.inl rfl) rfl rfl
theorem fAddX {n s : Nat} (hh : aHp h) (hn : hI h 3 3 = n) (hs : s < 2 ^ n) : ∃ g, nEv sc (d + 7) 82 [.ref 0, sI (s : Int)] h (some (sI (adB (vX h n s) n).1), g) ∧ aHp g ∧ ∀ p m, aSlot g p m = if p = 0 ∧ m = 9 ∧ (adB (vX h n s) n).1 ≠ -9 then some (sI (adB (vX h n s) n).2) else aSlot h p m := by
  have gp := hI_rg hh xw_p
  have p2 := p2_le (show n ≤ 6 by omega)
  have br := adB_rg (V := vX h n s) (n := n) (fun a _ => vX_rg h (by omega) s a) n (Nat.le_refl n)
  have r3 := fAdL (sc := sc) (d := d) hh hn (show s < 64 by omega) n 0 none (by omega)
  by_cases c0 : (adB (vX h n s) n).1 = -9
  · have r2 : ∀ Y : Option Value, nRn sc (d + 6) (mMT mMe82) (mMC mMe82) (42, [some (.ref 0), some (sI (s : Int)), some (sI (adB (vX h n s) n).1), some (sI (adB (vX h n s) n).2), some (sI (n : Int)), Y], [], h) (some (sI (adB (vX h n s) n).1), h) := by
      intro Y
      refine sP 2 (g1 := (44, [some (.ref 0), some (sI ((s : Int))), some (sI ((adB (vX h n s) n).1)), some (sI ((adB (vX h n s) n).2)), some (sI ((n : Int))), Y], [sI ((-9)), sI ((adB (vX h n s) n).1)], h)) rfl ?_
      refine s_icmp (q := .eq) (a := (adB (vX h n s) n).1) (b := (-9)) rfl ⟨_, rfl⟩ rfl (by unfold sR aMi aMa; omega) (by unfold sR aMi aMa; omega) (fun hc1 => ?_) (fun hc1 => ?_)
      · have hc1 : (((adB (vX h n s) n).1) : Int) = ((-9)) := hc1
        refine sP 1 (g1 := (49, [some (.ref 0), some (sI ((s : Int))), some (sI ((adB (vX h n s) n).1)), some (sI ((adB (vX h n s) n).2)), some (sI ((n : Int))), Y], [sI ((adB (vX h n s) n).1)], h)) rfl ?_
        exact s_reti rfl rfl (Or.inl rfl) rfl rfl
      · have hc1 : ¬ ((((adB (vX h n s) n).1) : Int) = ((-9))) := hc1
        omega
    have r1 := r3 _ r2
    refine ⟨h, nEv_of (t := mMe82) rfl ?_, hh, fun p m => by rw [if_neg (fun q => q.2.2 c0)]⟩
    show nRn sc (d + 6) (mMT mMe82) (mMC mMe82) (0, [some (.ref 0), some (sI ((s : Int))), none, none, none, none], [], h) _
    refine sP 1 (g1 := (1, [some (.ref 0), some (sI ((s : Int))), none, none, none, none], [.ref 0], h)) rfl ?_
    refine s_get (a := 0) (j := 2) hh rfl ⟨_, rfl⟩ rfl rfl rfl (v := .ref 3) (hR_ok hh (by decide +kernel)) ?_
    refine sP 1 (g1 := (3, [some (.ref 0), some (sI ((s : Int))), none, none, none, none], [sI ((s : Int)), .ref 3], h)) rfl ?_
    have ev1 := fHasSet (sc := sc) (d := d + 5) (n := n) (s := (s : Int)) hh hn (by unfold sR aMi aMa; omega)
    rw [if_pos (by omega)] at ev1
    refine s_call (k := 76) (args := [.ref 3, sI ((s : Int))]) (st := []) (v := some (sI 1)) (h1 := h) rfl ⟨rfl, rfl⟩ rfl rfl rfl rfl (sRcv hh (a := 3) rfl rfl) rfl ev1 ?_
    refine s_ifc (q := .ne) (a := 1) rfl ⟨_, rfl⟩ rfl (by unfold sR aMi aMa; omega) (fun hc2 => ?_) (fun hc2 => ?_)
    · have hc2 : (1 : Int) ≠ 0 := hc2
      refine sP 6 (g1 := (13, [some (.ref 0), some (sI ((s : Int))), some (sI ((-9))), some (sI ((-1))), some (sI 0), none], [], h)) rfl ?_
      exact r1
    · have hc2 : ¬ ((1 : Int) ≠ 0) := hc2
      omega
  · skip
    obtain ⟨g1, eg1⟩ : ∃ gz, gz = hset h 0 9 (sI (adB (vX h n s) n).2) := ⟨_, rfl⟩
    have sg1 : ∀ xa xm, aSlot g1 xa xm = if xa = 0 ∧ xm = 9 then some (sI (adB (vX h n s) n).2) else aSlot h xa xm := fun xa xm => by rw [eg1]; exact hset_slot hh (show sTg 0 = some (0, 12) from rfl) (by omega) xa xm
    have hg1 : aHp g1 := by rw [eg1]; exact hset_any hh la_i
    have r2 : ∀ Y : Option Value, nRn sc (d + 6) (mMT mMe82) (mMC mMe82) (42, [some (.ref 0), some (sI (s : Int)), some (sI (adB (vX h n s) n).1), some (sI (adB (vX h n s) n).2), some (sI (n : Int)), Y], [], h) (some (sI (adB (vX h n s) n).1), g1) := by
      intro Y
      refine sP 2 (g1 := (44, [some (.ref 0), some (sI ((s : Int))), some (sI ((adB (vX h n s) n).1)), some (sI ((adB (vX h n s) n).2)), some (sI ((n : Int))), Y], [sI ((-9)), sI ((adB (vX h n s) n).1)], h)) rfl ?_
      refine s_icmp (q := .eq) (a := (adB (vX h n s) n).1) (b := (-9)) rfl ⟨_, rfl⟩ rfl (by unfold sR aMi aMa; omega) (by unfold sR aMi aMa; omega) (fun hc1 => ?_) (fun hc1 => ?_)
      · have hc1 : (((adB (vX h n s) n).1) : Int) = ((-9)) := hc1
        omega
      · have hc1 : ¬ ((((adB (vX h n s) n).1) : Int) = ((-9))) := hc1
        refine sP 2 (g1 := (47, [some (.ref 0), some (sI ((s : Int))), some (sI ((adB (vX h n s) n).1)), some (sI ((adB (vX h n s) n).2)), some (sI ((n : Int))), Y], [sI ((adB (vX h n s) n).2), .ref 0], h)) rfl ?_
        refine s_put (a := 0) (j := 9) (k := 0) (n := 12) hh rfl ⟨_, rfl⟩ (show sTg 0 = some (0, 12) from rfl) rfl rfl (by decide) rfl ?_
        rw [← eg1]
        refine sP 1 (g1 := (49, [some (.ref 0), some (sI ((s : Int))), some (sI ((adB (vX h n s) n).1)), some (sI ((adB (vX h n s) n).2)), some (sI ((n : Int))), Y], [sI ((adB (vX h n s) n).1)], g1)) rfl ?_
        exact s_reti rfl rfl (Or.inl rfl) rfl rfl
    have r1 := r3 _ r2
    refine ⟨g1, nEv_of (t := mMe82) rfl ?_, hg1, fun p m => ?_⟩
    rotate_left
    · rw [sg1]
      by_cases w : p = 0 ∧ m = 9
      · rw [if_pos w, if_pos ⟨w.1, w.2, c0⟩]
      · rw [if_neg w, if_neg (fun q => w ⟨q.1, q.2.1⟩)]
    show nRn sc (d + 6) (mMT mMe82) (mMC mMe82) (0, [some (.ref 0), some (sI ((s : Int))), none, none, none, none], [], h) _
    refine sP 1 (g1 := (1, [some (.ref 0), some (sI ((s : Int))), none, none, none, none], [.ref 0], h)) rfl ?_
    refine s_get (a := 0) (j := 2) hh rfl ⟨_, rfl⟩ rfl rfl rfl (v := .ref 3) (hR_ok hh (by decide +kernel)) ?_
    refine sP 1 (g1 := (3, [some (.ref 0), some (sI ((s : Int))), none, none, none, none], [sI ((s : Int)), .ref 3], h)) rfl ?_
    have ev1 := fHasSet (sc := sc) (d := d + 5) (n := n) (s := (s : Int)) hh hn (by unfold sR aMi aMa; omega)
    rw [if_pos (by omega)] at ev1
    refine s_call (k := 76) (args := [.ref 3, sI ((s : Int))]) (st := []) (v := some (sI 1)) (h1 := h) rfl ⟨rfl, rfl⟩ rfl rfl rfl rfl (sRcv hh (a := 3) rfl rfl) rfl ev1 ?_
    refine s_ifc (q := .ne) (a := 1) rfl ⟨_, rfl⟩ rfl (by unfold sR aMi aMa; omega) (fun hc2 => ?_) (fun hc2 => ?_)
    · have hc2 : (1 : Int) ≠ 0 := hc2
      refine sP 6 (g1 := (13, [some (.ref 0), some (sI ((s : Int))), some (sI ((-9))), some (sI ((-1))), some (sI 0), none], [], h)) rfl ?_
      exact r1
    · have hc2 : ¬ ((1 : Int) ≠ 0) := hc2
      omega
theorem fAmL {n s : Nat} (hh : aHp h) (hn : hI h 58 0 = n) (hs : s < 64) : ∀ (k a : Nat) (g : mH) (X : Option Value), a + k = n → aHp g → fpOff h g → ∃ g1, aHp g1 ∧ fpOff h g1 ∧ ∀ r, (∀ Y : Option Value, nRn sc (d + 6) (mMT mMe188) (mMC mMe188) (46, [some (.ref 53), some (sI (s : Int)), some (sI (adB (vM h n s) n).1), some (sI (adB (vM h n s) n).2), some (sI (n : Int)), Y], [], g1) r) → nRn sc (d + 6) (mMT mMe188) (mMC mMe188) (12, [some (.ref 53), some (sI (s : Int)), some (sI (adB (vM h n s) a).1), some (sI (adB (vM h n s) a).2), some (sI (a : Int)), X], [], g) r := by
  have gp := hI_rg hh nw_p
  intro k
  induction k with
  | zero =>
    intro a g X ha hg ho
    have hng : hI g 58 0 = n := (hI_cg (ho 58 0 (by omega))).trans hn
    have hbn : a = n := by omega
    subst hbn
    refine ⟨g, hg, ho, fun r r1 => ?_⟩
    have r0 := r1 X
    refine sP 2 (g1 := (14, [some (.ref 53), some (sI ((s : Int))), some (sI ((adB (vM h a s) a).1)), some (sI ((adB (vM h a s) a).2)), some (sI ((a : Int))), X], [.ref 53, sI ((a : Int))], g)) rfl ?_
    refine s_get (a := 53) (j := 4) hg rfl ⟨_, rfl⟩ rfl rfl rfl (v := .ref 58) (hR_ok hg (by decide +kernel)) ?_
    refine sP 1 (g1 := (16, [some (.ref 53), some (sI ((s : Int))), some (sI ((adB (vM h a s) a).1)), some (sI ((adB (vM h a s) a).2)), some (sI ((a : Int))), X], [sI 0, .ref 58, sI ((a : Int))], g)) rfl ?_
    refine s_iald (a := 58) (n := 201) (j := 0) hg rfl rfl rfl (by omega) (by omega) (by decide) (v := sI (hI g 58 0)) (hI_ok hg nw_p) ?_
    refine s_icmp (q := .ge) (a := (a : Int)) (b := hI g 58 0) rfl ⟨_, rfl⟩ rfl (by unfold sR aMi aMa; omega) (by unfold sR aMi aMa; omega) (fun hc1 => ?_) (fun hc1 => ?_)
    · have hc1 : ((hI g 58 0) : Int) ≤ ((a : Int)) := hc1
      exact r0
    · have hc1 : ¬ (((hI g 58 0) : Int) ≤ ((a : Int))) := hc1
      omega
  | succ k ih =>
    intro a g X ha hg ho
    have hng : hI g 58 0 = n := (hI_cg (ho 58 0 (by omega))).trans hn
    have ha6 : a < 6 := by omega
    have vi := fHas (sc := sc) (d := d + 5) (h := g) (s := s) (a := a) hs ha6
    have so := or6_lt hs (p26_lt ha6)
    have oc := oC_le (agM h n (s ||| 2 ^ a)) (show n ≤ 6 by omega) n 0
    have br := adB_rg (V := vM h n s) (n := n) (fun a _ => vM_rg h (by omega) s a) a (by omega)
    have e1 : adB (vM h n s) (a + 1) = if (adB (vM h n s) a).2 < vM h n s a then ((a : Int), vM h n s a) else adB (vM h n s) a := rfl
    by_cases u1 : bt s a = true
    · rw [if_pos u1] at vi
      have ez : vM h n s a = -1 := by unfold vM; rw [if_pos u1]
      rw [ez, if_neg (by omega)] at e1
      obtain ⟨g2, j1, j2, j3⟩ := ih (a + 1) g X (by omega) hg ho
      refine ⟨g2, j1, j2, fun r r1 => ?_⟩
      have r0 := j3 r r1
      rw [e1] at r0
      refine sP 2 (g1 := (14, [some (.ref 53), some (sI ((s : Int))), some (sI ((adB (vM h n s) a).1)), some (sI ((adB (vM h n s) a).2)), some (sI ((a : Int))), X], [.ref 53, sI ((a : Int))], g)) rfl ?_
      refine s_get (a := 53) (j := 4) hg rfl ⟨_, rfl⟩ rfl rfl rfl (v := .ref 58) (hR_ok hg (by decide +kernel)) ?_
      refine sP 1 (g1 := (16, [some (.ref 53), some (sI ((s : Int))), some (sI ((adB (vM h n s) a).1)), some (sI ((adB (vM h n s) a).2)), some (sI ((a : Int))), X], [sI 0, .ref 58, sI ((a : Int))], g)) rfl ?_
      refine s_iald (a := 58) (n := 201) (j := 0) hg rfl rfl rfl (by omega) (by omega) (by decide) (v := sI (hI g 58 0)) (hI_ok hg nw_p) ?_
      refine s_icmp (q := .ge) (a := (a : Int)) (b := hI g 58 0) rfl ⟨_, rfl⟩ rfl (by unfold sR aMi aMa; omega) (by unfold sR aMi aMa; omega) (fun hc1 => ?_) (fun hc1 => ?_)
      · have hc1 : ((hI g 58 0) : Int) ≤ ((a : Int)) := hc1
        omega
      · have hc1 : ¬ (((hI g 58 0) : Int) ≤ ((a : Int))) := hc1
        refine sP 2 (g1 := (20, [some (.ref 53), some (sI ((s : Int))), some (sI ((adB (vM h n s) a).1)), some (sI ((adB (vM h n s) a).2)), some (sI ((a : Int))), X], [sI ((a : Int)), sI ((s : Int))], g)) rfl ?_
        refine s_call (k := 149) (args := [sI ((s : Int)), sI ((a : Int))]) (st := []) (v := some (sI 1)) (h1 := g) rfl ⟨rfl, rfl⟩ rfl rfl rfl rfl rfl rfl vi ?_
        refine s_ifc (q := .ne) (a := 1) rfl ⟨_, rfl⟩ rfl (by unfold sR aMi aMa; omega) (fun hc2 => ?_) (fun hc2 => ?_)
        · have hc2 : (1 : Int) ≠ 0 := hc2
          refine s_inc (a := (a : Int)) (n := 1) (k := 4) rfl rfl rfl ?_
          refine sP 1 (g1 := (12, [some (.ref 53), some (sI ((s : Int))), some (sI ((adB (vM h n s) a).1)), some (sI ((adB (vM h n s) a).2)), some (sI (((a : Int)) + 1)), X], [], g)) rfl ?_
          rw [show ((a : Int) + 1) = ((a + 1 : Nat) : Int) by omega]
          exact r0
        · have hc2 : ¬ ((1 : Int) ≠ 0) := hc2
          omega
    · rw [if_neg u1] at vi
      have ez : vM h n s a = ((oC (agM h n (s ||| 2 ^ a)) n n 0 : Nat) : Int) := by unfold vM; rw [if_neg u1]
      rw [ez] at e1
      obtain ⟨g1, ev, i1, i2, -⟩ := fPairs (sc := sc) (d := d + 1) (h := g) (n := n) (s := s ||| 2 ^ a) hg hng so
      rw [fp_agM ho] at ev
      obtain ⟨g2, j1, j2, j3⟩ := ih (a + 1) g1 (some (sI ((oC (agM h n (s ||| 2 ^ a)) n n 0 : Nat) : Int))) (by omega) i1 (fpOff_tr ho i2)
      refine ⟨g2, j1, j2, fun r r1 => ?_⟩
      have r0 := j3 r r1
      by_cases u2 : (adB (vM h n s) a).2 < ((oC (agM h n (s ||| 2 ^ a)) n n 0 : Nat) : Int)
      · rw [if_pos u2] at e1
        rw [e1] at r0
        refine sP 2 (g1 := (14, [some (.ref 53), some (sI ((s : Int))), some (sI ((adB (vM h n s) a).1)), some (sI ((adB (vM h n s) a).2)), some (sI ((a : Int))), X], [.ref 53, sI ((a : Int))], g)) rfl ?_
        refine s_get (a := 53) (j := 4) hg rfl ⟨_, rfl⟩ rfl rfl rfl (v := .ref 58) (hR_ok hg (by decide +kernel)) ?_
        refine sP 1 (g1 := (16, [some (.ref 53), some (sI ((s : Int))), some (sI ((adB (vM h n s) a).1)), some (sI ((adB (vM h n s) a).2)), some (sI ((a : Int))), X], [sI 0, .ref 58, sI ((a : Int))], g)) rfl ?_
        refine s_iald (a := 58) (n := 201) (j := 0) hg rfl rfl rfl (by omega) (by omega) (by decide) (v := sI (hI g 58 0)) (hI_ok hg nw_p) ?_
        refine s_icmp (q := .ge) (a := (a : Int)) (b := hI g 58 0) rfl ⟨_, rfl⟩ rfl (by unfold sR aMi aMa; omega) (by unfold sR aMi aMa; omega) (fun hc1 => ?_) (fun hc1 => ?_)
        · have hc1 : ((hI g 58 0) : Int) ≤ ((a : Int)) := hc1
          omega
        · have hc1 : ¬ (((hI g 58 0) : Int) ≤ ((a : Int))) := hc1
          refine sP 2 (g1 := (20, [some (.ref 53), some (sI ((s : Int))), some (sI ((adB (vM h n s) a).1)), some (sI ((adB (vM h n s) a).2)), some (sI ((a : Int))), X], [sI ((a : Int)), sI ((s : Int))], g)) rfl ?_
          refine s_call (k := 149) (args := [sI ((s : Int)), sI ((a : Int))]) (st := []) (v := some (sI 0)) (h1 := g) rfl ⟨rfl, rfl⟩ rfl rfl rfl rfl rfl rfl vi ?_
          refine s_ifc (q := .ne) (a := 0) rfl ⟨_, rfl⟩ rfl (by unfold sR aMi aMa; omega) (fun hc2 => ?_) (fun hc2 => ?_)
          · have hc2 : (0 : Int) ≠ 0 := hc2
            omega
          · have hc2 : ¬ ((0 : Int) ≠ 0) := hc2
            refine sP 4 (g1 := (26, [some (.ref 53), some (sI ((s : Int))), some (sI ((adB (vM h n s) a).1)), some (sI ((adB (vM h n s) a).2)), some (sI ((a : Int))), X], [sI ((a : Int)), sI 1, sI ((s : Int)), .ref 53], g)) rfl ?_
            refine s_shl7 (a := a) rfl rfl (by omega) ?_
            refine s_b1 rfl rfl (b_or6 s hs (2 ^ a) (p26_lt ha6)) ?_
            refine s_call (k := 185) (args := [.ref 53, sI (((s ||| 2 ^ a : Nat) : Int))]) (st := []) (v := some (sI (((oC (agM h n (s ||| 2 ^ a)) n n 0 : Nat) : Int)))) (h1 := g1) rfl ⟨rfl, rfl⟩ rfl rfl rfl rfl (sRcv hg (a := 53) rfl rfl) rfl ev ?_
            refine sP 3 (g1 := (32, [some (.ref 53), some (sI ((s : Int))), some (sI ((adB (vM h n s) a).1)), some (sI ((adB (vM h n s) a).2)), some (sI ((a : Int))), some (sI (((oC (agM h n (s ||| 2 ^ a)) n n 0 : Nat) : Int)))], [sI ((adB (vM h n s) a).2), sI (((oC (agM h n (s ||| 2 ^ a)) n n 0 : Nat) : Int))], g1)) rfl ?_
            refine s_icmp (q := .le) (a := ((oC (agM h n (s ||| 2 ^ a)) n n 0 : Nat) : Int)) (b := (adB (vM h n s) a).2) rfl ⟨_, rfl⟩ rfl (by unfold sR aMi aMa; omega) (by unfold sR aMi aMa; omega) (fun hc3 => ?_) (fun hc3 => ?_)
            · have hc3 : ((((oC (agM h n (s ||| 2 ^ a)) n n 0 : Nat) : Int)) : Int) ≤ ((adB (vM h n s) a).2) := hc3
              omega
            · have hc3 : ¬ (((((oC (agM h n (s ||| 2 ^ a)) n n 0 : Nat) : Int)) : Int) ≤ ((adB (vM h n s) a).2)) := hc3
              refine sP 5 (g1 := (39, [some (.ref 53), some (sI ((s : Int))), some (sI ((a : Int))), some (sI ((adB (vM h n s) a).2)), some (sI ((a : Int))), some (sI (((oC (agM h n (s ||| 2 ^ a)) n n 0 : Nat) : Int)))], [sI ((adB (vM h n s) a).2), sI (((oC (agM h n (s ||| 2 ^ a)) n n 0 : Nat) : Int))], g1)) rfl ?_
              refine s_icmp (q := .le) (a := ((oC (agM h n (s ||| 2 ^ a)) n n 0 : Nat) : Int)) (b := (adB (vM h n s) a).2) rfl ⟨_, rfl⟩ rfl (by unfold sR aMi aMa; omega) (by unfold sR aMi aMa; omega) (fun hc4 => ?_) (fun hc4 => ?_)
              · have hc4 : ((((oC (agM h n (s ||| 2 ^ a)) n n 0 : Nat) : Int)) : Int) ≤ ((adB (vM h n s) a).2) := hc4
                omega
              · have hc4 : ¬ (((((oC (agM h n (s ||| 2 ^ a)) n n 0 : Nat) : Int)) : Int) ≤ ((adB (vM h n s) a).2)) := hc4
                refine sP 3 (g1 := (44, [some (.ref 53), some (sI ((s : Int))), some (sI ((a : Int))), some (sI (((oC (agM h n (s ||| 2 ^ a)) n n 0 : Nat) : Int))), some (sI ((a : Int))), some (sI (((oC (agM h n (s ||| 2 ^ a)) n n 0 : Nat) : Int)))], [], g1)) rfl ?_
                refine s_inc (a := (a : Int)) (n := 1) (k := 4) rfl rfl rfl ?_
                refine sP 1 (g1 := (12, [some (.ref 53), some (sI ((s : Int))), some (sI ((a : Int))), some (sI (((oC (agM h n (s ||| 2 ^ a)) n n 0 : Nat) : Int))), some (sI (((a : Int)) + 1)), some (sI (((oC (agM h n (s ||| 2 ^ a)) n n 0 : Nat) : Int)))], [], g1)) rfl ?_
                rw [show ((a : Int) + 1) = ((a + 1 : Nat) : Int) by omega]
                exact r0
      · rw [if_neg u2] at e1
        rw [e1] at r0
        refine sP 2 (g1 := (14, [some (.ref 53), some (sI ((s : Int))), some (sI ((adB (vM h n s) a).1)), some (sI ((adB (vM h n s) a).2)), some (sI ((a : Int))), X], [.ref 53, sI ((a : Int))], g)) rfl ?_
        refine s_get (a := 53) (j := 4) hg rfl ⟨_, rfl⟩ rfl rfl rfl (v := .ref 58) (hR_ok hg (by decide +kernel)) ?_
        refine sP 1 (g1 := (16, [some (.ref 53), some (sI ((s : Int))), some (sI ((adB (vM h n s) a).1)), some (sI ((adB (vM h n s) a).2)), some (sI ((a : Int))), X], [sI 0, .ref 58, sI ((a : Int))], g)) rfl ?_
        refine s_iald (a := 58) (n := 201) (j := 0) hg rfl rfl rfl (by omega) (by omega) (by decide) (v := sI (hI g 58 0)) (hI_ok hg nw_p) ?_
        refine s_icmp (q := .ge) (a := (a : Int)) (b := hI g 58 0) rfl ⟨_, rfl⟩ rfl (by unfold sR aMi aMa; omega) (by unfold sR aMi aMa; omega) (fun hc1 => ?_) (fun hc1 => ?_)
        · have hc1 : ((hI g 58 0) : Int) ≤ ((a : Int)) := hc1
          omega
        · have hc1 : ¬ (((hI g 58 0) : Int) ≤ ((a : Int))) := hc1
          refine sP 2 (g1 := (20, [some (.ref 53), some (sI ((s : Int))), some (sI ((adB (vM h n s) a).1)), some (sI ((adB (vM h n s) a).2)), some (sI ((a : Int))), X], [sI ((a : Int)), sI ((s : Int))], g)) rfl ?_
          refine s_call (k := 149) (args := [sI ((s : Int)), sI ((a : Int))]) (st := []) (v := some (sI 0)) (h1 := g) rfl ⟨rfl, rfl⟩ rfl rfl rfl rfl rfl rfl vi ?_
          refine s_ifc (q := .ne) (a := 0) rfl ⟨_, rfl⟩ rfl (by unfold sR aMi aMa; omega) (fun hc2 => ?_) (fun hc2 => ?_)
          · have hc2 : (0 : Int) ≠ 0 := hc2
            omega
          · have hc2 : ¬ ((0 : Int) ≠ 0) := hc2
            refine sP 4 (g1 := (26, [some (.ref 53), some (sI ((s : Int))), some (sI ((adB (vM h n s) a).1)), some (sI ((adB (vM h n s) a).2)), some (sI ((a : Int))), X], [sI ((a : Int)), sI 1, sI ((s : Int)), .ref 53], g)) rfl ?_
            refine s_shl7 (a := a) rfl rfl (by omega) ?_
            refine s_b1 rfl rfl (b_or6 s hs (2 ^ a) (p26_lt ha6)) ?_
            refine s_call (k := 185) (args := [.ref 53, sI (((s ||| 2 ^ a : Nat) : Int))]) (st := []) (v := some (sI (((oC (agM h n (s ||| 2 ^ a)) n n 0 : Nat) : Int)))) (h1 := g1) rfl ⟨rfl, rfl⟩ rfl rfl rfl rfl (sRcv hg (a := 53) rfl rfl) rfl ev ?_
            refine sP 3 (g1 := (32, [some (.ref 53), some (sI ((s : Int))), some (sI ((adB (vM h n s) a).1)), some (sI ((adB (vM h n s) a).2)), some (sI ((a : Int))), some (sI (((oC (agM h n (s ||| 2 ^ a)) n n 0 : Nat) : Int)))], [sI ((adB (vM h n s) a).2), sI (((oC (agM h n (s ||| 2 ^ a)) n n 0 : Nat) : Int))], g1)) rfl ?_
            refine s_icmp (q := .le) (a := ((oC (agM h n (s ||| 2 ^ a)) n n 0 : Nat) : Int)) (b := (adB (vM h n s) a).2) rfl ⟨_, rfl⟩ rfl (by unfold sR aMi aMa; omega) (by unfold sR aMi aMa; omega) (fun hc3 => ?_) (fun hc3 => ?_)
            · have hc3 : ((((oC (agM h n (s ||| 2 ^ a)) n n 0 : Nat) : Int)) : Int) ≤ ((adB (vM h n s) a).2) := hc3
              refine sP 4 (g1 := (39, [some (.ref 53), some (sI ((s : Int))), some (sI ((adB (vM h n s) a).1)), some (sI ((adB (vM h n s) a).2)), some (sI ((a : Int))), some (sI (((oC (agM h n (s ||| 2 ^ a)) n n 0 : Nat) : Int)))], [sI ((adB (vM h n s) a).2), sI (((oC (agM h n (s ||| 2 ^ a)) n n 0 : Nat) : Int))], g1)) rfl ?_
              refine s_icmp (q := .le) (a := ((oC (agM h n (s ||| 2 ^ a)) n n 0 : Nat) : Int)) (b := (adB (vM h n s) a).2) rfl ⟨_, rfl⟩ rfl (by unfold sR aMi aMa; omega) (by unfold sR aMi aMa; omega) (fun hc4 => ?_) (fun hc4 => ?_)
              · have hc4 : ((((oC (agM h n (s ||| 2 ^ a)) n n 0 : Nat) : Int)) : Int) ≤ ((adB (vM h n s) a).2) := hc4
                refine sP 2 (g1 := (44, [some (.ref 53), some (sI ((s : Int))), some (sI ((adB (vM h n s) a).1)), some (sI ((adB (vM h n s) a).2)), some (sI ((a : Int))), some (sI (((oC (agM h n (s ||| 2 ^ a)) n n 0 : Nat) : Int)))], [], g1)) rfl ?_
                refine s_inc (a := (a : Int)) (n := 1) (k := 4) rfl rfl rfl ?_
                refine sP 1 (g1 := (12, [some (.ref 53), some (sI ((s : Int))), some (sI ((adB (vM h n s) a).1)), some (sI ((adB (vM h n s) a).2)), some (sI (((a : Int)) + 1)), some (sI (((oC (agM h n (s ||| 2 ^ a)) n n 0 : Nat) : Int)))], [], g1)) rfl ?_
                rw [show ((a : Int) + 1) = ((a + 1 : Nat) : Int) by omega]
                exact r0
              · have hc4 : ¬ (((((oC (agM h n (s ||| 2 ^ a)) n n 0 : Nat) : Int)) : Int) ≤ ((adB (vM h n s) a).2)) := hc4
                omega
            · have hc3 : ¬ (((((oC (agM h n (s ||| 2 ^ a)) n n 0 : Nat) : Int)) : Int) ≤ ((adB (vM h n s) a).2)) := hc3
              omega
theorem fAddMb {s : Int} {n : Nat} (hh : aHp h) (hn : hI h 58 0 = (n : Int)) (rs : sR s) (hc : ¬ (0 ≤ s ∧ s < ((2 ^ n : Nat) : Int))) : nEv sc (d + 7) 188 [.ref 53, sI s] h (some (sI (-1)), h) := by
  have gp := hI_rg hh nw_p
  have p2 := p2_le (show n ≤ 6 by omega)
  unfold sR aMi aMa at rs
  refine nEv_of (t := mMe188) rfl ?_
  show nRn sc (d + 6) (mMT mMe188) (mMC mMe188) (0, [some (.ref 53), some (sI s), none, none, none, none], [], h) _
  refine sP 2 (g1 := (2, [some (.ref 53), some (sI s), none, none, none, none], [sI s, .ref 53], h)) rfl ?_
  have ev1 := fIsSet (sc := sc) (d := d + 4) (n := n) (s := s) hh hn (by unfold sR aMi aMa; omega)
  rw [if_neg (by omega)] at ev1
  refine s_call (k := 181) (args := [.ref 53, sI s]) (st := []) (v := some (sI 0)) (h1 := h) rfl ⟨rfl, rfl⟩ rfl rfl rfl rfl (sRcv hh (a := 53) rfl rfl) rfl ev1 ?_
  refine s_ifc (q := .ne) (a := 0) rfl ⟨_, rfl⟩ rfl (by unfold sR aMi aMa; omega) (fun hc2 => ?_) (fun hc2 => ?_)
  · have hc2 : (0 : Int) ≠ 0 := hc2
    omega
  · have hc2 : ¬ ((0 : Int) ≠ 0) := hc2
    refine sP 1 (g1 := (5, [some (.ref 53), some (sI s), none, none, none, none], [sI ((-1))], h)) rfl ?_
    exact s_reti rfl rfl (Or.inl rfl) rfl rfl
theorem fAddM {n s : Nat} (hh : aHp h) (hn : hI h 58 0 = n) (hs : s < 2 ^ n) : ∃ g, nEv sc (d + 7) 188 [.ref 53, sI (s : Int)] h (some (sI (adB (vM h n s) n).1), g) ∧ aHp g ∧ (∀ p m, ¬ (p = 53 ∧ (m = 8 ∨ m = 14)) → aSlot g p m = aSlot h p m) ∧ ((adB (vM h n s) n).1 ≠ -9 → aSlot g 53 8 = some (sI (adB (vM h n s) n).2)) ∧ ((adB (vM h n s) n).1 = -9 → aSlot g 53 8 = aSlot h 53 8) := by
  have gp := hI_rg hh nw_p
  have p2 := p2_le (show n ≤ 6 by omega)
  have br := adB_rg (V := vM h n s) (n := n) (fun a _ => vM_rg h (by omega) s a) n (Nat.le_refl n)
  obtain ⟨g1, i1, i2, r3⟩ := fAmL (sc := sc) (d := d) hh hn (show s < 64 by omega) n 0 h none (by omega) hh (fun _ _ _ => rfl)
  by_cases c0 : (adB (vM h n s) n).1 = -9
  · have r2 : ∀ Y : Option Value, nRn sc (d + 6) (mMT mMe188) (mMC mMe188) (46, [some (.ref 53), some (sI (s : Int)), some (sI (adB (vM h n s) n).1), some (sI (adB (vM h n s) n).2), some (sI (n : Int)), Y], [], g1) (some (sI (adB (vM h n s) n).1), g1) := by
      intro Y
      refine sP 2 (g1 := (48, [some (.ref 53), some (sI ((s : Int))), some (sI ((adB (vM h n s) n).1)), some (sI ((adB (vM h n s) n).2)), some (sI ((n : Int))), Y], [sI ((-9)), sI ((adB (vM h n s) n).1)], g1)) rfl ?_
      refine s_icmp (q := .ne) (a := (adB (vM h n s) n).1) (b := (-9)) rfl ⟨_, rfl⟩ rfl (by unfold sR aMi aMa; omega) (by unfold sR aMi aMa; omega) (fun hc1 => ?_) (fun hc1 => ?_)
      · have hc1 : (((adB (vM h n s) n).1) : Int) ≠ ((-9)) := hc1
        omega
      · have hc1 : ¬ ((((adB (vM h n s) n).1) : Int) ≠ ((-9))) := hc1
        refine sP 2 (g1 := (55, [some (.ref 53), some (sI ((s : Int))), some (sI ((adB (vM h n s) n).1)), some (sI ((adB (vM h n s) n).2)), some (sI ((n : Int))), Y], [sI ((-9))], g1)) rfl ?_
        exact s_reti rfl rfl (Or.inl rfl) (by omega) rfl
    have r1 := r3 _ r2
    refine ⟨g1, nEv_of (t := mMe188) rfl ?_, i1, fun p m w => i2 p m (by omega), fun w => absurd c0 w, fun _ => i2 53 8 (by omega)⟩
    show nRn sc (d + 6) (mMT mMe188) (mMC mMe188) (0, [some (.ref 53), some (sI ((s : Int))), none, none, none, none], [], h) _
    refine sP 2 (g1 := (2, [some (.ref 53), some (sI ((s : Int))), none, none, none, none], [sI ((s : Int)), .ref 53], h)) rfl ?_
    have ev1 := fIsSet (sc := sc) (d := d + 4) (n := n) (s := (s : Int)) hh hn (by unfold sR aMi aMa; omega)
    rw [if_pos (by omega)] at ev1
    refine s_call (k := 181) (args := [.ref 53, sI ((s : Int))]) (st := []) (v := some (sI 1)) (h1 := h) rfl ⟨rfl, rfl⟩ rfl rfl rfl rfl (sRcv hh (a := 53) rfl rfl) rfl ev1 ?_
    refine s_ifc (q := .ne) (a := 1) rfl ⟨_, rfl⟩ rfl (by unfold sR aMi aMa; omega) (fun hc2 => ?_) (fun hc2 => ?_)
    · have hc2 : (1 : Int) ≠ 0 := hc2
      refine sP 6 (g1 := (12, [some (.ref 53), some (sI ((s : Int))), some (sI ((-9))), some (sI ((-1))), some (sI 0), none], [], h)) rfl ?_
      exact r1
    · have hc2 : ¬ ((1 : Int) ≠ 0) := hc2
      omega
  · obtain ⟨g2, e2, j1, j2⟩ := fAnswer (sc := sc) (d := d + 5) (v := (adB (vM h n s) n).1) (t := (adB (vM h n s) n).2) i1 (by unfold sR aMi aMa; omega)
    have r2 : ∀ Y : Option Value, nRn sc (d + 6) (mMT mMe188) (mMC mMe188) (46, [some (.ref 53), some (sI (s : Int)), some (sI (adB (vM h n s) n).1), some (sI (adB (vM h n s) n).2), some (sI (n : Int)), Y], [], g1) (some (sI (adB (vM h n s) n).1), g2) := by
      intro Y
      refine sP 2 (g1 := (48, [some (.ref 53), some (sI ((s : Int))), some (sI ((adB (vM h n s) n).1)), some (sI ((adB (vM h n s) n).2)), some (sI ((n : Int))), Y], [sI ((-9)), sI ((adB (vM h n s) n).1)], g1)) rfl ?_
      refine s_icmp (q := .ne) (a := (adB (vM h n s) n).1) (b := (-9)) rfl ⟨_, rfl⟩ rfl (by unfold sR aMi aMa; omega) (by unfold sR aMi aMa; omega) (fun hc1 => ?_) (fun hc1 => ?_)
      · have hc1 : (((adB (vM h n s) n).1) : Int) ≠ ((-9)) := hc1
        refine sP 3 (g1 := (54, [some (.ref 53), some (sI ((s : Int))), some (sI ((adB (vM h n s) n).1)), some (sI ((adB (vM h n s) n).2)), some (sI ((n : Int))), Y], [sI ((adB (vM h n s) n).2), sI ((adB (vM h n s) n).1), .ref 53], g1)) rfl ?_
        refine s_call (k := 186) (args := [.ref 53, sI ((adB (vM h n s) n).1), sI ((adB (vM h n s) n).2)]) (st := []) (v := some (sI ((adB (vM h n s) n).1))) (h1 := g2) rfl ⟨rfl, rfl⟩ rfl rfl rfl rfl (sRcv i1 (a := 53) rfl rfl) rfl e2 ?_
        exact s_reti rfl rfl (Or.inl rfl) rfl rfl
      · have hc1 : ¬ ((((adB (vM h n s) n).1) : Int) ≠ ((-9))) := hc1
        omega
    have r1 := r3 _ r2
    refine ⟨g2, nEv_of (t := mMe188) rfl ?_, j1, fun p m w => by rw [j2, if_neg (by omega), i2 p m (by omega)], fun _ => by rw [j2, if_pos (by omega)], fun w => absurd w c0⟩
    show nRn sc (d + 6) (mMT mMe188) (mMC mMe188) (0, [some (.ref 53), some (sI ((s : Int))), none, none, none, none], [], h) _
    refine sP 2 (g1 := (2, [some (.ref 53), some (sI ((s : Int))), none, none, none, none], [sI ((s : Int)), .ref 53], h)) rfl ?_
    have ev1 := fIsSet (sc := sc) (d := d + 4) (n := n) (s := (s : Int)) hh hn (by unfold sR aMi aMa; omega)
    rw [if_pos (by omega)] at ev1
    refine s_call (k := 181) (args := [.ref 53, sI ((s : Int))]) (st := []) (v := some (sI 1)) (h1 := h) rfl ⟨rfl, rfl⟩ rfl rfl rfl rfl (sRcv hh (a := 53) rfl rfl) rfl ev1 ?_
    refine s_ifc (q := .ne) (a := 1) rfl ⟨_, rfl⟩ rfl (by unfold sR aMi aMa; omega) (fun hc2 => ?_) (fun hc2 => ?_)
    · have hc2 : (1 : Int) ≠ 0 := hc2
      refine sP 6 (g1 := (12, [some (.ref 53), some (sI ((s : Int))), some (sI ((-9))), some (sI ((-1))), some (sI 0), none], [], h)) rfl ?_
      exact r1
    · have hc2 : ¬ ((1 : Int) ≠ 0) := hc2
      omega
end ADD
theorem wAdd {sc : List Int32} {h : mH} (x : Int32) (hp : wP h) : ∃ z1 h1 z2 h2, nEv sc 100 82 (.ref 0 :: [x].map Value.int) h (some (.int z1), h1) ∧ aHp h1 ∧ nEv sc 100 188 (.ref 53 :: [x].map Value.int) h1 (some (.int z2), h2) ∧ wP h2 ∧ z2 = z1 := by
  have hh := wP_a h hp
  have rx : sR x.toInt := aI_rg x
  have e3 : hI h 3 3 = hI h 58 0 := hp.2.1.1
  have gp := hI_rg hh xw_p
  obtain ⟨n, en⟩ := iN gp.1
  by_cases c2 : 0 ≤ x.toInt ∧ x.toInt < ((2 ^ n : Nat) : Int)
  · obtain ⟨s, es⟩ := iN c2.1
    obtain ⟨g1, a1, a2, a3⟩ := fAddX (sc := sc) (d := 93) (s := s) hh en (by omega)
    have k0 : ∀ p m, ¬ (p = 0 ∧ m = 9) → aSlot g1 p m = aSlot h p m := fun p m w => by rw [a3, if_neg (fun q => w ⟨q.1, q.2.1⟩)]
    have e0 : hI g1 58 0 = hI h 58 0 := hI_cg (k0 58 0 (by omega))
    obtain ⟨g2, b1, b2, b3, b4, b5⟩ := fAddM (sc := sc) (d := 93) (n := n) (s := s) a2 (by omega) (by omega)
    have hr : nR h g1 := nR_sl hp.2.1 (fun _ _ _ _ => rfl) (fun m => k0 58 m (by omega))
    have t1 : ∀ p m, ¬ (p = 0 ∧ m = 9) → ¬ (p = 53 ∧ (m = 8 ∨ m = 14)) → aSlot g2 p m = aSlot h p m := fun p m w1 w2 => by rw [b3 p m w2, k0 p m w1]
    refine pair1 (h1 := g1) (h2 := g2) (by rw [es]; exact a1) a2 (by rw [es]; exact b1) (wP_sl hp (tP_sl hp.1 b2 (fun e m w => t1 e m (by omega) (by omega))) (fun p m w => t1 p m (by omega) (by omega))) ?_
    rw [adB_cg (n := n) (fun a ha => show vM g1 n s a = vX h n s a by
      unfold vM vX
      rw [oC_cg (n := n) (fun a b ha hb => nR_aX hr en ha hb) n 0 (by omega)]) n (Nat.le_refl n)]
  · exact pair1 (fAddXb (d := 93) hh en rx c2) hh (fAddMb (d := 93) (n := n) hh (by omega) rx c2) hp rfl
