/-! what notes say: fits, kinds -/
noncomputable def pNt (G : Nat → Int) (n kd a : Nat) (R : Nat → Int) : Nat → Nat → Bool
  | 0, _ => true
  | c + 1, k => decide (pSeem G n kd a (R (2 * k)).toNat = R (2 * k + 1)) && pNt G n kd a R c (k + 1)
section FITS
variable {sc : List Int32} {d : Nat} {h : mH}
theorem fNotedL {r n K kd a : Nat} {z : Int} (hh : aHp h) (hr : r < 6) (hn : hI h 3 3 = n) (hk6 : kd < 6) (ha : a < 6) (hz : hI h (21 + 2 * r) 1 = z) (hK : z = 2 * (K : Int)) (hK6 : K ≤ 6) (hs : ∀ j, j < K → 0 ≤ (hI h (22 + 2 * r)) (2 * j) ∧ (hI h (22 + 2 * r)) (2 * j) < 64) : ∀ (c k : Nat), k + c = K → nRn sc (d + 3) (mMT mMe93) (mMC mMe93) (2, [some (.ref 0), some (sI (a : Int)), some (sI (kd : Int)), some (.ref (21 + 2 * r)), some (sI ((2 * k : Nat) : Int))], [], h) (some (sI (if pNt (hI h 5) n kd a (hI h (22 + 2 * r)) c k = true then 1 else 0)), h) := by
  have gp := hI_rg hh xw_p
  intro c
  induction c with
  | zero =>
    intro k hk
    have hkK : k = K := by omega
    subst hkK
    refine sP 2 (g1 := (4, [some (.ref 0), some (sI ((a : Int))), some (sI ((kd : Int))), some (.ref (21 + 2 * r)), some (sI (((2 * k : Nat) : Int)))], [sI 1, sI (((2 * k : Nat) : Int))], h)) rfl ?_
    refine s_add (a := ((2 * k : Nat) : Int)) (b := 1) rfl rfl ?_
    refine sP 1 (g1 := (6, [some (.ref 0), some (sI ((a : Int))), some (sI ((kd : Int))), some (.ref (21 + 2 * r)), some (sI (((2 * k : Nat) : Int)))], [.ref (21 + 2 * r), sI ((((2 * k : Nat) : Int)) + 1)], h)) rfl ?_
    refine s_get (a := 21 + 2 * r) (j := 1) hh rfl ⟨_, rfl⟩ (ra_t hr) rfl rfl (v := sI z) (by have q := hI_ok hh (ra_z hr); rw [hz] at q; exact q) ?_
    refine s_icmp (q := .ge) (a := (((2 * k : Nat) : Int)) + 1) (b := z) rfl ⟨_, rfl⟩ rfl (by unfold sR aMi aMa; omega) (by unfold sR aMi aMa; omega) (fun hc1 => ?_) (fun hc1 => ?_)
    · have hc1 : (z : Int) ≤ ((((2 * k : Nat) : Int)) + 1) := hc1
      refine sP 1 (g1 := (29, [some (.ref 0), some (sI ((a : Int))), some (sI ((kd : Int))), some (.ref (21 + 2 * r)), some (sI (((2 * k : Nat) : Int)))], [sI 1], h)) rfl ?_
      exact s_reti rfl rfl (Or.inr ⟨rfl, by omega⟩) rfl rfl
    · have hc1 : ¬ ((z : Int) ≤ ((((2 * k : Nat) : Int)) + 1)) := hc1
      omega
  | succ c ih =>
    intro k hk
    have g2 := hI_rg hh (ra_c (r := r) (j := 2 * k + 1) hr (by omega))
    have hs1 := hs k (by omega)
    obtain ⟨s, es⟩ := iN hs1.1
    have e1 : pNt (hI h 5) n kd a (hI h (22 + 2 * r)) (c + 1) k = (decide (pSeem (hI h 5) n kd a ((hI h (22 + 2 * r)) (2 * k)).toNat = (hI h (22 + 2 * r)) (2 * k + 1)) && pNt (hI h 5) n kd a (hI h (22 + 2 * r)) c (k + 1)) := rfl
    rw [e1, show ((hI h (22 + 2 * r)) (2 * k)).toNat = s by omega]
    have r1 := ih (k + 1) (by omega)
    have ps := pSeem_rg (n := n) (kd := kd) (s := s) (eG (e := 3) hh (by decide)) ha (by omega)
    have ps : 0 ≤ pSeem (hI h 5) n kd a s ∧ pSeem (hI h 5) n kd a s ≤ 54 := ps
    have ev : nEv sc (d + 3) 38 [.ref 3, sI (kd : Int), sI (a : Int), sI (s : Int)] h (some (sI (pSeem (hI h 5) n kd a s)), h) := fSeemAs (e := 3) hh (by decide) hn hk6 ha (by omega)
    by_cases c1 : pSeem (hI h 5) n kd a s = hI h (22 + 2 * r) (2 * k + 1)
    · rw [decide_eq_true c1, Bool.true_and]
      refine sP 2 (g1 := (4, [some (.ref 0), some (sI ((a : Int))), some (sI ((kd : Int))), some (.ref (21 + 2 * r)), some (sI (((2 * k : Nat) : Int)))], [sI 1, sI (((2 * k : Nat) : Int))], h)) rfl ?_
      refine s_add (a := ((2 * k : Nat) : Int)) (b := 1) rfl rfl ?_
      refine sP 1 (g1 := (6, [some (.ref 0), some (sI ((a : Int))), some (sI ((kd : Int))), some (.ref (21 + 2 * r)), some (sI (((2 * k : Nat) : Int)))], [.ref (21 + 2 * r), sI ((((2 * k : Nat) : Int)) + 1)], h)) rfl ?_
      refine s_get (a := 21 + 2 * r) (j := 1) hh rfl ⟨_, rfl⟩ (ra_t hr) rfl rfl (v := sI z) (by have q := hI_ok hh (ra_z hr); rw [hz] at q; exact q) ?_
      refine s_icmp (q := .ge) (a := (((2 * k : Nat) : Int)) + 1) (b := z) rfl ⟨_, rfl⟩ rfl (by unfold sR aMi aMa; omega) (by unfold sR aMi aMa; omega) (fun hc1 => ?_) (fun hc1 => ?_)
      · have hc1 : (z : Int) ≤ ((((2 * k : Nat) : Int)) + 1) := hc1
        omega
      · have hc1 : ¬ ((z : Int) ≤ ((((2 * k : Nat) : Int)) + 1)) := hc1
        refine sP 1 (g1 := (9, [some (.ref 0), some (sI ((a : Int))), some (sI ((kd : Int))), some (.ref (21 + 2 * r)), some (sI (((2 * k : Nat) : Int)))], [.ref 0], h)) rfl ?_
        refine s_get (a := 0) (j := 2) hh rfl ⟨_, rfl⟩ rfl rfl rfl (v := .ref 3) (hR_ok hh (by decide +kernel)) ?_
        refine sP 3 (g1 := (13, [some (.ref 0), some (sI ((a : Int))), some (sI ((kd : Int))), some (.ref (21 + 2 * r)), some (sI (((2 * k : Nat) : Int)))], [.ref (21 + 2 * r), sI ((a : Int)), sI ((kd : Int)), .ref 3], h)) rfl ?_
        refine s_get (a := 21 + 2 * r) (j := 0) hh rfl ⟨_, rfl⟩ (ra_t hr) rfl rfl (v := .ref (22 + 2 * r)) (hR_ok hh (ra_r hr)) ?_
        refine sP 1 (g1 := (15, [some (.ref 0), some (sI ((a : Int))), some (sI ((kd : Int))), some (.ref (21 + 2 * r)), some (sI (((2 * k : Nat) : Int)))], [sI (((2 * k : Nat) : Int)), .ref (22 + 2 * r), sI ((a : Int)), sI ((kd : Int)), .ref 3], h)) rfl ?_
        refine s_iald (a := 22 + 2 * r) (n := 40) (j := ((2 * k : Nat) : Int)) hh rfl rfl (ra_2 hr) (by omega) (by omega) (by decide) (v := sI ((s : Int))) (by rw [show (((2 * k : Nat) : Int) : Int).toNat = 2 * k by omega]; have q := hI_ok hh (ra_c (j := 2 * k) hr (by omega)); rw [es] at q; exact q) ?_
        refine s_call (k := 38) (args := [.ref 3, sI ((kd : Int)), sI ((a : Int)), sI ((s : Int))]) (st := []) (v := some (sI (pSeem (hI h 5) n kd a s))) (h1 := h) rfl ⟨rfl, rfl⟩ rfl rfl rfl rfl (sRcv hh (a := 3) rfl rfl) rfl ev ?_
        refine sP 1 (g1 := (18, [some (.ref 0), some (sI ((a : Int))), some (sI ((kd : Int))), some (.ref (21 + 2 * r)), some (sI (((2 * k : Nat) : Int)))], [.ref (21 + 2 * r), sI (pSeem (hI h 5) n kd a s)], h)) rfl ?_
        refine s_get (a := 21 + 2 * r) (j := 0) hh rfl ⟨_, rfl⟩ (ra_t hr) rfl rfl (v := .ref (22 + 2 * r)) (hR_ok hh (ra_r hr)) ?_
        refine sP 2 (g1 := (21, [some (.ref 0), some (sI ((a : Int))), some (sI ((kd : Int))), some (.ref (21 + 2 * r)), some (sI (((2 * k : Nat) : Int)))], [sI 1, sI (((2 * k : Nat) : Int)), .ref (22 + 2 * r), sI (pSeem (hI h 5) n kd a s)], h)) rfl ?_
        refine s_add (a := ((2 * k : Nat) : Int)) (b := 1) rfl rfl ?_
        refine s_iald (a := 22 + 2 * r) (n := 40) (j := (((2 * k : Nat) : Int)) + 1) hh rfl rfl (ra_2 hr) (by omega) (by omega) (by decide) (v := sI (hI h (22 + 2 * r) (2 * k + 1))) (by rw [show ((((2 * k : Nat) : Int)) + 1 : Int).toNat = 2 * k + 1 by omega]; exact hI_ok hh (ra_c hr (by omega))) ?_
        refine s_icmp (q := .eq) (a := pSeem (hI h 5) n kd a s) (b := hI h (22 + 2 * r) (2 * k + 1)) rfl ⟨_, rfl⟩ rfl (by unfold sR aMi aMa; omega) (by unfold sR aMi aMa; omega) (fun hc2 => ?_) (fun hc2 => ?_)
        · have hc2 : ((pSeem (hI h 5) n kd a s) : Int) = (hI h (22 + 2 * r) (2 * k + 1)) := hc2
          refine s_inc (a := ((2 * k : Nat) : Int)) (n := 2) (k := 4) rfl rfl rfl ?_
          refine sP 1 (g1 := (2, [some (.ref 0), some (sI ((a : Int))), some (sI ((kd : Int))), some (.ref (21 + 2 * r)), some (sI ((((2 * k : Nat) : Int)) + 2))], [], h)) rfl ?_
          rw [show (((2 * k : Nat) : Int) + 2) = ((2 * (k + 1) : Nat) : Int) by omega]
          exact r1
        · have hc2 : ¬ (((pSeem (hI h 5) n kd a s) : Int) = (hI h (22 + 2 * r) (2 * k + 1))) := hc2
          omega
    · rw [decide_eq_false c1, Bool.false_and]
      refine sP 2 (g1 := (4, [some (.ref 0), some (sI ((a : Int))), some (sI ((kd : Int))), some (.ref (21 + 2 * r)), some (sI (((2 * k : Nat) : Int)))], [sI 1, sI (((2 * k : Nat) : Int))], h)) rfl ?_
      refine s_add (a := ((2 * k : Nat) : Int)) (b := 1) rfl rfl ?_
      refine sP 1 (g1 := (6, [some (.ref 0), some (sI ((a : Int))), some (sI ((kd : Int))), some (.ref (21 + 2 * r)), some (sI (((2 * k : Nat) : Int)))], [.ref (21 + 2 * r), sI ((((2 * k : Nat) : Int)) + 1)], h)) rfl ?_
      refine s_get (a := 21 + 2 * r) (j := 1) hh rfl ⟨_, rfl⟩ (ra_t hr) rfl rfl (v := sI z) (by have q := hI_ok hh (ra_z hr); rw [hz] at q; exact q) ?_
      refine s_icmp (q := .ge) (a := (((2 * k : Nat) : Int)) + 1) (b := z) rfl ⟨_, rfl⟩ rfl (by unfold sR aMi aMa; omega) (by unfold sR aMi aMa; omega) (fun hc1 => ?_) (fun hc1 => ?_)
      · have hc1 : (z : Int) ≤ ((((2 * k : Nat) : Int)) + 1) := hc1
        omega
      · have hc1 : ¬ ((z : Int) ≤ ((((2 * k : Nat) : Int)) + 1)) := hc1
        refine sP 1 (g1 := (9, [some (.ref 0), some (sI ((a : Int))), some (sI ((kd : Int))), some (.ref (21 + 2 * r)), some (sI (((2 * k : Nat) : Int)))], [.ref 0], h)) rfl ?_
        refine s_get (a := 0) (j := 2) hh rfl ⟨_, rfl⟩ rfl rfl rfl (v := .ref 3) (hR_ok hh (by decide +kernel)) ?_
        refine sP 3 (g1 := (13, [some (.ref 0), some (sI ((a : Int))), some (sI ((kd : Int))), some (.ref (21 + 2 * r)), some (sI (((2 * k : Nat) : Int)))], [.ref (21 + 2 * r), sI ((a : Int)), sI ((kd : Int)), .ref 3], h)) rfl ?_
        refine s_get (a := 21 + 2 * r) (j := 0) hh rfl ⟨_, rfl⟩ (ra_t hr) rfl rfl (v := .ref (22 + 2 * r)) (hR_ok hh (ra_r hr)) ?_
        refine sP 1 (g1 := (15, [some (.ref 0), some (sI ((a : Int))), some (sI ((kd : Int))), some (.ref (21 + 2 * r)), some (sI (((2 * k : Nat) : Int)))], [sI (((2 * k : Nat) : Int)), .ref (22 + 2 * r), sI ((a : Int)), sI ((kd : Int)), .ref 3], h)) rfl ?_
        refine s_iald (a := 22 + 2 * r) (n := 40) (j := ((2 * k : Nat) : Int)) hh rfl rfl (ra_2 hr) (by omega) (by omega) (by decide) (v := sI ((s : Int))) (by rw [show (((2 * k : Nat) : Int) : Int).toNat = 2 * k by omega]; have q := hI_ok hh (ra_c (j := 2 * k) hr (by omega)); rw [es] at q; exact q) ?_
        refine s_call (k := 38) (args := [.ref 3, sI ((kd : Int)), sI ((a : Int)), sI ((s : Int))]) (st := []) (v := some (sI (pSeem (hI h 5) n kd a s))) (h1 := h) rfl ⟨rfl, rfl⟩ rfl rfl rfl rfl (sRcv hh (a := 3) rfl rfl) rfl ev ?_
        refine sP 1 (g1 := (18, [some (.ref 0), some (sI ((a : Int))), some (sI ((kd : Int))), some (.ref (21 + 2 * r)), some (sI (((2 * k : Nat) : Int)))], [.ref (21 + 2 * r), sI (pSeem (hI h 5) n kd a s)], h)) rfl ?_
        refine s_get (a := 21 + 2 * r) (j := 0) hh rfl ⟨_, rfl⟩ (ra_t hr) rfl rfl (v := .ref (22 + 2 * r)) (hR_ok hh (ra_r hr)) ?_
        refine sP 2 (g1 := (21, [some (.ref 0), some (sI ((a : Int))), some (sI ((kd : Int))), some (.ref (21 + 2 * r)), some (sI (((2 * k : Nat) : Int)))], [sI 1, sI (((2 * k : Nat) : Int)), .ref (22 + 2 * r), sI (pSeem (hI h 5) n kd a s)], h)) rfl ?_
        refine s_add (a := ((2 * k : Nat) : Int)) (b := 1) rfl rfl ?_
        refine s_iald (a := 22 + 2 * r) (n := 40) (j := (((2 * k : Nat) : Int)) + 1) hh rfl rfl (ra_2 hr) (by omega) (by omega) (by decide) (v := sI (hI h (22 + 2 * r) (2 * k + 1))) (by rw [show ((((2 * k : Nat) : Int)) + 1 : Int).toNat = 2 * k + 1 by omega]; exact hI_ok hh (ra_c hr (by omega))) ?_
        refine s_icmp (q := .eq) (a := pSeem (hI h 5) n kd a s) (b := hI h (22 + 2 * r) (2 * k + 1)) rfl ⟨_, rfl⟩ rfl (by unfold sR aMi aMa; omega) (by unfold sR aMi aMa; omega) (fun hc2 => ?_) (fun hc2 => ?_)
        · have hc2 : ((pSeem (hI h 5) n kd a s) : Int) = (hI h (22 + 2 * r) (2 * k + 1)) := hc2
          omega
        · have hc2 : ¬ (((pSeem (hI h 5) n kd a s) : Int) = (hI h (22 + 2 * r) (2 * k + 1))) := hc2
          refine sP 1 (g1 := (25, [some (.ref 0), some (sI ((a : Int))), some (sI ((kd : Int))), some (.ref (21 + 2 * r)), some (sI (((2 * k : Nat) : Int)))], [sI 0], h)) rfl ?_
          exact s_reti rfl rfl (Or.inr ⟨rfl, by omega⟩) rfl rfl
theorem fNoted {r n K kd a : Nat} {z : Int} (hh : aHp h) (hr : r < 6) (hn : hI h 3 3 = n) (hk6 : kd < 6) (ha : a < 6) (hz : hI h (21 + 2 * r) 1 = z) (hK : z = 2 * (K : Int)) (hK6 : K ≤ 6) (hs : ∀ j, j < K → 0 ≤ (hI h (22 + 2 * r)) (2 * j) ∧ (hI h (22 + 2 * r)) (2 * j) < 64) : nEv sc (d + 4) 93 [.ref 0, sI (a : Int), sI (kd : Int), .ref (21 + 2 * r)] h (some (sI (if pNt (hI h 5) n kd a (hI h (22 + 2 * r)) K 0 = true then 1 else 0)), h) := by
  have r1 := fNotedL (sc := sc) (d := d) hh hr hn hk6 ha hz hK hK6 hs K 0 (by omega)
  refine nEv_of (t := mMe93) rfl ?_
  show nRn sc (d + 3) (mMT mMe93) (mMC mMe93) (0, [some (.ref 0), some (sI (a : Int)), some (sI (kd : Int)), some (.ref (21 + 2 * r)), none], [], h) _
  refine sP 2 (g1 := (2, [some (.ref 0), some (sI (a : Int)), some (sI (kd : Int)), some (.ref (21 + 2 * r)), some (sI ((2 * 0 : Nat) : Int))], [], h)) rfl ?_
  exact r1
theorem fIsSoL {r n K kd a : Nat} {z : Int} (hh : aHp h) (hr : r < 6) (hn : hI h 58 0 = n) (hk6 : kd < 6) (ha : a < 6) (hz : hI h 54 r = z) (hK : z = 2 * (K : Int)) (hK6 : K ≤ 6) (hs : ∀ j, j < K → 0 ≤ (fun j => hI h 55 (40 * r + j)) (2 * j) ∧ (fun j => hI h 55 (40 * r + j)) (2 * j) < 64) : ∀ (c k : Nat) (w : Bool), k + c = K → nRn sc (d + 2) (mMT mMe197) (mMC mMe197) (4, [some (.ref 53), some (sI (a : Int)), some (sI (kd : Int)), some (sI (r : Int)), some (sI (if w = true then 1 else 0)), some (sI ((2 * k : Nat) : Int))], [], h) (some (sI (if (w && pNt (fun j => hI h 58 (7 + j)) n kd a (fun j => hI h 55 (40 * r + j)) c k) = true then 1 else 0)), h) := by
  have gp := hI_rg hh nw_p
  intro c
  induction c with
  | zero =>
    intro k w hk
    have hkK : k = K := by omega
    subst hkK
    rw [show pNt (fun j => hI h 58 (7 + j)) n kd a (fun j => hI h 55 (40 * r + j)) 0 k = true from rfl, Bool.and_true]
    cases w with
    | false =>
      show nRn sc (d + 2) (mMT mMe197) (mMC mMe197) (4, [some (.ref 53), some (sI ((a : Int))), some (sI ((kd : Int))), some (sI ((r : Int))), some (sI 0), some (sI (((2 * k : Nat) : Int)))], [], h) _
      refine sP 2 (g1 := (6, [some (.ref 53), some (sI ((a : Int))), some (sI ((kd : Int))), some (sI ((r : Int))), some (sI 0), some (sI (((2 * k : Nat) : Int)))], [.ref 53, sI (((2 * k : Nat) : Int))], h)) rfl ?_
      refine s_get (a := 53) (j := 0) hh rfl ⟨_, rfl⟩ rfl rfl rfl (v := .ref 54) (hR_ok hh (by decide +kernel)) ?_
      refine sP 1 (g1 := (8, [some (.ref 53), some (sI ((a : Int))), some (sI ((kd : Int))), some (sI ((r : Int))), some (sI 0), some (sI (((2 * k : Nat) : Int)))], [sI ((r : Int)), .ref 54, sI (((2 * k : Nat) : Int))], h)) rfl ?_
      refine s_iald (a := 54) (n := 6) (j := (r : Int)) hh rfl rfl rfl (by omega) (by omega) (by decide) (v := sI z) (by rw [Int.toNat_natCast]; have q := hI_ok hh (rm_z hr); rw [hz] at q; exact q) ?_
      refine s_icmp (q := .ge) (a := ((2 * k : Nat) : Int)) (b := z) rfl ⟨_, rfl⟩ rfl (by unfold sR aMi aMa; omega) (by unfold sR aMi aMa; omega) (fun hc1 => ?_) (fun hc1 => ?_)
      · have hc1 : (z : Int) ≤ (((2 * k : Nat) : Int)) := hc1
        refine sP 1 (g1 := (42, [some (.ref 53), some (sI ((a : Int))), some (sI ((kd : Int))), some (sI ((r : Int))), some (sI 0), some (sI (((2 * k : Nat) : Int)))], [sI 0], h)) rfl ?_
        exact s_reti rfl rfl (Or.inr ⟨rfl, by omega⟩) rfl rfl
      · have hc1 : ¬ ((z : Int) ≤ (((2 * k : Nat) : Int))) := hc1
        omega
    | true =>
      show nRn sc (d + 2) (mMT mMe197) (mMC mMe197) (4, [some (.ref 53), some (sI ((a : Int))), some (sI ((kd : Int))), some (sI ((r : Int))), some (sI 1), some (sI (((2 * k : Nat) : Int)))], [], h) _
      refine sP 2 (g1 := (6, [some (.ref 53), some (sI ((a : Int))), some (sI ((kd : Int))), some (sI ((r : Int))), some (sI 1), some (sI (((2 * k : Nat) : Int)))], [.ref 53, sI (((2 * k : Nat) : Int))], h)) rfl ?_
      refine s_get (a := 53) (j := 0) hh rfl ⟨_, rfl⟩ rfl rfl rfl (v := .ref 54) (hR_ok hh (by decide +kernel)) ?_
      refine sP 1 (g1 := (8, [some (.ref 53), some (sI ((a : Int))), some (sI ((kd : Int))), some (sI ((r : Int))), some (sI 1), some (sI (((2 * k : Nat) : Int)))], [sI ((r : Int)), .ref 54, sI (((2 * k : Nat) : Int))], h)) rfl ?_
      refine s_iald (a := 54) (n := 6) (j := (r : Int)) hh rfl rfl rfl (by omega) (by omega) (by decide) (v := sI z) (by rw [Int.toNat_natCast]; have q := hI_ok hh (rm_z hr); rw [hz] at q; exact q) ?_
      refine s_icmp (q := .ge) (a := ((2 * k : Nat) : Int)) (b := z) rfl ⟨_, rfl⟩ rfl (by unfold sR aMi aMa; omega) (by unfold sR aMi aMa; omega) (fun hc1 => ?_) (fun hc1 => ?_)
      · have hc1 : (z : Int) ≤ (((2 * k : Nat) : Int)) := hc1
        refine sP 1 (g1 := (42, [some (.ref 53), some (sI ((a : Int))), some (sI ((kd : Int))), some (sI ((r : Int))), some (sI 1), some (sI (((2 * k : Nat) : Int)))], [sI 1], h)) rfl ?_
        exact s_reti rfl rfl (Or.inr ⟨rfl, by omega⟩) rfl rfl
      · have hc1 : ¬ ((z : Int) ≤ (((2 * k : Nat) : Int))) := hc1
        omega
  | succ c ih =>
    intro k w hk
    have g2 := hI_rg hh (rm_c (r := r) (j := 2 * k + 1) hr (by omega))
    have hs1 : 0 ≤ hI h 55 (40 * r + 2 * k) ∧ hI h 55 (40 * r + 2 * k) < 64 := hs k (by omega)
    obtain ⟨s, es⟩ := iN hs1.1
    have e1 : pNt (fun j => hI h 58 (7 + j)) n kd a (fun j => hI h 55 (40 * r + j)) (c + 1) k = (decide (pSeem (fun j => hI h 58 (7 + j)) n kd a (hI h 55 (40 * r + 2 * k)).toNat = hI h 55 (40 * r + (2 * k + 1))) && pNt (fun j => hI h 58 (7 + j)) n kd a (fun j => hI h 55 (40 * r + j)) c (k + 1)) := rfl
    rw [e1, show (hI h 55 (40 * r + 2 * k)).toNat = s by omega]
    have r1 := fun w => ih (k + 1) w (by omega)
    have ps := pSeem_rg (n := n) (kd := kd) (s := s) (mGk hh) ha (by omega)
    have ev := fSeemAsM (sc := sc) (d := d) (n := n) (kd := kd) (a := a) (s := s) hh hn hk6 ha (by omega)
    cases w with
    | false =>
      rw [Bool.false_and]
      have r0 := r1 false
      rw [Bool.false_and] at r0
      show nRn sc (d + 2) (mMT mMe197) (mMC mMe197) (4, [some (.ref 53), some (sI ((a : Int))), some (sI ((kd : Int))), some (sI ((r : Int))), some (sI 0), some (sI (((2 * k : Nat) : Int)))], [], h) _
      refine sP 2 (g1 := (6, [some (.ref 53), some (sI ((a : Int))), some (sI ((kd : Int))), some (sI ((r : Int))), some (sI 0), some (sI (((2 * k : Nat) : Int)))], [.ref 53, sI (((2 * k : Nat) : Int))], h)) rfl ?_
      refine s_get (a := 53) (j := 0) hh rfl ⟨_, rfl⟩ rfl rfl rfl (v := .ref 54) (hR_ok hh (by decide +kernel)) ?_
      refine sP 1 (g1 := (8, [some (.ref 53), some (sI ((a : Int))), some (sI ((kd : Int))), some (sI ((r : Int))), some (sI 0), some (sI (((2 * k : Nat) : Int)))], [sI ((r : Int)), .ref 54, sI (((2 * k : Nat) : Int))], h)) rfl ?_
      refine s_iald (a := 54) (n := 6) (j := (r : Int)) hh rfl rfl rfl (by omega) (by omega) (by decide) (v := sI z) (by rw [Int.toNat_natCast]; have q := hI_ok hh (rm_z hr); rw [hz] at q; exact q) ?_
      refine s_icmp (q := .ge) (a := ((2 * k : Nat) : Int)) (b := z) rfl ⟨_, rfl⟩ rfl (by unfold sR aMi aMa; omega) (by unfold sR aMi aMa; omega) (fun hc1 => ?_) (fun hc1 => ?_)
      · have hc1 : (z : Int) ≤ (((2 * k : Nat) : Int)) := hc1
        omega
      · have hc1 : ¬ ((z : Int) ≤ (((2 * k : Nat) : Int))) := hc1
        refine sP 1 (g1 := (11, [some (.ref 53), some (sI ((a : Int))), some (sI ((kd : Int))), some (sI ((r : Int))), some (sI 0), some (sI (((2 * k : Nat) : Int)))], [sI 0], h)) rfl ?_
        refine s_ifc (q := .eq) (a := 0) rfl ⟨_, rfl⟩ rfl (by unfold sR aMi aMa; omega) (fun hc2 => ?_) (fun hc2 => ?_)
        · have hc2 : (0 : Int) = 0 := hc2
          refine sP 2 (g1 := (39, [some (.ref 53), some (sI ((a : Int))), some (sI ((kd : Int))), some (sI ((r : Int))), some (sI 0), some (sI (((2 * k : Nat) : Int)))], [], h)) rfl ?_
          refine s_inc (a := ((2 * k : Nat) : Int)) (n := 2) (k := 5) rfl rfl rfl ?_
          refine sP 1 (g1 := (4, [some (.ref 53), some (sI ((a : Int))), some (sI ((kd : Int))), some (sI ((r : Int))), some (sI 0), some (sI ((((2 * k : Nat) : Int)) + 2))], [], h)) rfl ?_
          rw [show (((2 * k : Nat) : Int) + 2) = ((2 * (k + 1) : Nat) : Int) by omega]
          exact r0
        · have hc2 : ¬ ((0 : Int) = 0) := hc2
          omega
    | true =>
      rw [Bool.true_and]
      by_cases c1 : pSeem (fun j => hI h 58 (7 + j)) n kd a s = hI h 55 (40 * r + (2 * k + 1))
      · rw [decide_eq_true c1]
        have r0 := r1 true
        show nRn sc (d + 2) (mMT mMe197) (mMC mMe197) (4, [some (.ref 53), some (sI ((a : Int))), some (sI ((kd : Int))), some (sI ((r : Int))), some (sI 1), some (sI (((2 * k : Nat) : Int)))], [], h) _
        refine sP 2 (g1 := (6, [some (.ref 53), some (sI ((a : Int))), some (sI ((kd : Int))), some (sI ((r : Int))), some (sI 1), some (sI (((2 * k : Nat) : Int)))], [.ref 53, sI (((2 * k : Nat) : Int))], h)) rfl ?_
        refine s_get (a := 53) (j := 0) hh rfl ⟨_, rfl⟩ rfl rfl rfl (v := .ref 54) (hR_ok hh (by decide +kernel)) ?_
        refine sP 1 (g1 := (8, [some (.ref 53), some (sI ((a : Int))), some (sI ((kd : Int))), some (sI ((r : Int))), some (sI 1), some (sI (((2 * k : Nat) : Int)))], [sI ((r : Int)), .ref 54, sI (((2 * k : Nat) : Int))], h)) rfl ?_
        refine s_iald (a := 54) (n := 6) (j := (r : Int)) hh rfl rfl rfl (by omega) (by omega) (by decide) (v := sI z) (by rw [Int.toNat_natCast]; have q := hI_ok hh (rm_z hr); rw [hz] at q; exact q) ?_
        refine s_icmp (q := .ge) (a := ((2 * k : Nat) : Int)) (b := z) rfl ⟨_, rfl⟩ rfl (by unfold sR aMi aMa; omega) (by unfold sR aMi aMa; omega) (fun hc1 => ?_) (fun hc1 => ?_)
        · have hc1 : (z : Int) ≤ (((2 * k : Nat) : Int)) := hc1
          omega
        · have hc1 : ¬ ((z : Int) ≤ (((2 * k : Nat) : Int))) := hc1
          refine sP 1 (g1 := (11, [some (.ref 53), some (sI ((a : Int))), some (sI ((kd : Int))), some (sI ((r : Int))), some (sI 1), some (sI (((2 * k : Nat) : Int)))], [sI 1], h)) rfl ?_
          refine s_ifc (q := .eq) (a := 1) rfl ⟨_, rfl⟩ rfl (by unfold sR aMi aMa; omega) (fun hc2 => ?_) (fun hc2 => ?_)
          · have hc2 : (1 : Int) = 0 := hc2
            omega
          · have hc2 : ¬ ((1 : Int) = 0) := hc2
            refine sP 4 (g1 := (16, [some (.ref 53), some (sI ((a : Int))), some (sI ((kd : Int))), some (sI ((r : Int))), some (sI 1), some (sI (((2 * k : Nat) : Int)))], [.ref 53, sI ((kd : Int)), sI ((a : Int)), .ref 53], h)) rfl ?_
            refine s_get (a := 53) (j := 1) hh rfl ⟨_, rfl⟩ rfl rfl rfl (v := .ref 55) (hR_ok hh (by decide +kernel)) ?_
            refine sP 2 (g1 := (19, [some (.ref 53), some (sI ((a : Int))), some (sI ((kd : Int))), some (sI ((r : Int))), some (sI 1), some (sI (((2 * k : Nat) : Int)))], [sI ((r : Int)), sI 40, .ref 55, sI ((kd : Int)), sI ((a : Int)), .ref 53], h)) rfl ?_
            refine s_mul (a := 40) (b := (r : Int)) rfl rfl ?_
            refine sP 1 (g1 := (21, [some (.ref 53), some (sI ((a : Int))), some (sI ((kd : Int))), some (sI ((r : Int))), some (sI 1), some (sI (((2 * k : Nat) : Int)))], [sI (((2 * k : Nat) : Int)), sI (40 * ((r : Int))), .ref 55, sI ((kd : Int)), sI ((a : Int)), .ref 53], h)) rfl ?_
            refine s_add (a := 40 * ((r : Int))) (b := ((2 * k : Nat) : Int)) rfl rfl ?_
            refine s_iald (a := 55) (n := 240) (j := (40 * ((r : Int))) + (((2 * k : Nat) : Int))) hh rfl rfl rfl (by omega) (by omega) (by decide) (v := sI ((s : Int))) (by rw [show ((40 * ((r : Int))) + (((2 * k : Nat) : Int)) : Int).toNat = 40 * r + 2 * k by omega]; have q := hI_ok hh (rm_c (j := 2 * k) hr (by omega)); rw [es] at q; exact q) ?_
            refine s_call (k := 151) (args := [.ref 53, sI ((a : Int)), sI ((kd : Int)), sI ((s : Int))]) (st := []) (v := some (sI (pSeem (fun j => hI h 58 (7 + j)) n kd a s))) (h1 := h) rfl ⟨rfl, rfl⟩ rfl rfl rfl rfl (sRcv hh (a := 53) rfl rfl) rfl ev ?_
            refine sP 1 (g1 := (25, [some (.ref 53), some (sI ((a : Int))), some (sI ((kd : Int))), some (sI ((r : Int))), some (sI 1), some (sI (((2 * k : Nat) : Int)))], [.ref 53, sI (pSeem (fun j => hI h 58 (7 + j)) n kd a s)], h)) rfl ?_
            refine s_get (a := 53) (j := 1) hh rfl ⟨_, rfl⟩ rfl rfl rfl (v := .ref 55) (hR_ok hh (by decide +kernel)) ?_
            refine sP 2 (g1 := (28, [some (.ref 53), some (sI ((a : Int))), some (sI ((kd : Int))), some (sI ((r : Int))), some (sI 1), some (sI (((2 * k : Nat) : Int)))], [sI ((r : Int)), sI 40, .ref 55, sI (pSeem (fun j => hI h 58 (7 + j)) n kd a s)], h)) rfl ?_
            refine s_mul (a := 40) (b := (r : Int)) rfl rfl ?_
            refine sP 1 (g1 := (30, [some (.ref 53), some (sI ((a : Int))), some (sI ((kd : Int))), some (sI ((r : Int))), some (sI 1), some (sI (((2 * k : Nat) : Int)))], [sI (((2 * k : Nat) : Int)), sI (40 * ((r : Int))), .ref 55, sI (pSeem (fun j => hI h 58 (7 + j)) n kd a s)], h)) rfl ?_
            refine s_add (a := 40 * ((r : Int))) (b := ((2 * k : Nat) : Int)) rfl rfl ?_
            refine sP 1 (g1 := (32, [some (.ref 53), some (sI ((a : Int))), some (sI ((kd : Int))), some (sI ((r : Int))), some (sI 1), some (sI (((2 * k : Nat) : Int)))], [sI 1, sI ((40 * ((r : Int))) + (((2 * k : Nat) : Int))), .ref 55, sI (pSeem (fun j => hI h 58 (7 + j)) n kd a s)], h)) rfl ?_
            refine s_add (a := (40 * ((r : Int))) + (((2 * k : Nat) : Int))) (b := 1) rfl rfl ?_
            refine s_iald (a := 55) (n := 240) (j := ((40 * ((r : Int))) + (((2 * k : Nat) : Int))) + 1) hh rfl rfl rfl (by omega) (by omega) (by decide) (v := sI (hI h 55 (40 * r + (2 * k + 1)))) (by rw [show (((40 * ((r : Int))) + (((2 * k : Nat) : Int))) + 1 : Int).toNat = 40 * r + (2 * k + 1) by omega]; exact hI_ok hh (rm_c hr (by omega))) ?_
            refine s_icmp (q := .ne) (a := pSeem (fun j => hI h 58 (7 + j)) n kd a s) (b := hI h 55 (40 * r + (2 * k + 1))) rfl ⟨_, rfl⟩ rfl (by unfold sR aMi aMa; omega) (by unfold sR aMi aMa; omega) (fun hc3 => ?_) (fun hc3 => ?_)
            · have hc3 : ((pSeem (fun j => hI h 58 (7 + j)) n kd a s) : Int) ≠ (hI h 55 (40 * r + (2 * k + 1))) := hc3
              omega
            · have hc3 : ¬ (((pSeem (fun j => hI h 58 (7 + j)) n kd a s) : Int) ≠ (hI h 55 (40 * r + (2 * k + 1)))) := hc3
              refine sP 3 (g1 := (39, [some (.ref 53), some (sI ((a : Int))), some (sI ((kd : Int))), some (sI ((r : Int))), some (sI 1), some (sI (((2 * k : Nat) : Int)))], [], h)) rfl ?_
              refine s_inc (a := ((2 * k : Nat) : Int)) (n := 2) (k := 5) rfl rfl rfl ?_
              refine sP 1 (g1 := (4, [some (.ref 53), some (sI ((a : Int))), some (sI ((kd : Int))), some (sI ((r : Int))), some (sI 1), some (sI ((((2 * k : Nat) : Int)) + 2))], [], h)) rfl ?_
              rw [show (((2 * k : Nat) : Int) + 2) = ((2 * (k + 1) : Nat) : Int) by omega]
              exact r0
      · rw [decide_eq_false c1, Bool.false_and]
        have r0 := r1 false
        rw [Bool.false_and] at r0
        show nRn sc (d + 2) (mMT mMe197) (mMC mMe197) (4, [some (.ref 53), some (sI ((a : Int))), some (sI ((kd : Int))), some (sI ((r : Int))), some (sI 1), some (sI (((2 * k : Nat) : Int)))], [], h) _
        refine sP 2 (g1 := (6, [some (.ref 53), some (sI ((a : Int))), some (sI ((kd : Int))), some (sI ((r : Int))), some (sI 1), some (sI (((2 * k : Nat) : Int)))], [.ref 53, sI (((2 * k : Nat) : Int))], h)) rfl ?_
        refine s_get (a := 53) (j := 0) hh rfl ⟨_, rfl⟩ rfl rfl rfl (v := .ref 54) (hR_ok hh (by decide +kernel)) ?_
        refine sP 1 (g1 := (8, [some (.ref 53), some (sI ((a : Int))), some (sI ((kd : Int))), some (sI ((r : Int))), some (sI 1), some (sI (((2 * k : Nat) : Int)))], [sI ((r : Int)), .ref 54, sI (((2 * k : Nat) : Int))], h)) rfl ?_
        refine s_iald (a := 54) (n := 6) (j := (r : Int)) hh rfl rfl rfl (by omega) (by omega) (by decide) (v := sI z) (by rw [Int.toNat_natCast]; have q := hI_ok hh (rm_z hr); rw [hz] at q; exact q) ?_
        refine s_icmp (q := .ge) (a := ((2 * k : Nat) : Int)) (b := z) rfl ⟨_, rfl⟩ rfl (by unfold sR aMi aMa; omega) (by unfold sR aMi aMa; omega) (fun hc1 => ?_) (fun hc1 => ?_)
        · have hc1 : (z : Int) ≤ (((2 * k : Nat) : Int)) := hc1
          omega
        · have hc1 : ¬ ((z : Int) ≤ (((2 * k : Nat) : Int))) := hc1
          refine sP 1 (g1 := (11, [some (.ref 53), some (sI ((a : Int))), some (sI ((kd : Int))), some (sI ((r : Int))), some (sI 1), some (sI (((2 * k : Nat) : Int)))], [sI 1], h)) rfl ?_
          refine s_ifc (q := .eq) (a := 1) rfl ⟨_, rfl⟩ rfl (by unfold sR aMi aMa; omega) (fun hc2 => ?_) (fun hc2 => ?_)
          · have hc2 : (1 : Int) = 0 := hc2
            omega
          · have hc2 : ¬ ((1 : Int) = 0) := hc2
            refine sP 4 (g1 := (16, [some (.ref 53), some (sI ((a : Int))), some (sI ((kd : Int))), some (sI ((r : Int))), some (sI 1), some (sI (((2 * k : Nat) : Int)))], [.ref 53, sI ((kd : Int)), sI ((a : Int)), .ref 53], h)) rfl ?_
            refine s_get (a := 53) (j := 1) hh rfl ⟨_, rfl⟩ rfl rfl rfl (v := .ref 55) (hR_ok hh (by decide +kernel)) ?_
            refine sP 2 (g1 := (19, [some (.ref 53), some (sI ((a : Int))), some (sI ((kd : Int))), some (sI ((r : Int))), some (sI 1), some (sI (((2 * k : Nat) : Int)))], [sI ((r : Int)), sI 40, .ref 55, sI ((kd : Int)), sI ((a : Int)), .ref 53], h)) rfl ?_
            refine s_mul (a := 40) (b := (r : Int)) rfl rfl ?_
            refine sP 1 (g1 := (21, [some (.ref 53), some (sI ((a : Int))), some (sI ((kd : Int))), some (sI ((r : Int))), some (sI 1), some (sI (((2 * k : Nat) : Int)))], [sI (((2 * k : Nat) : Int)), sI (40 * ((r : Int))), .ref 55, sI ((kd : Int)), sI ((a : Int)), .ref 53], h)) rfl ?_
            refine s_add (a := 40 * ((r : Int))) (b := ((2 * k : Nat) : Int)) rfl rfl ?_
            refine s_iald (a := 55) (n := 240) (j := (40 * ((r : Int))) + (((2 * k : Nat) : Int))) hh rfl rfl rfl (by omega) (by omega) (by decide) (v := sI ((s : Int))) (by rw [show ((40 * ((r : Int))) + (((2 * k : Nat) : Int)) : Int).toNat = 40 * r + 2 * k by omega]; have q := hI_ok hh (rm_c (j := 2 * k) hr (by omega)); rw [es] at q; exact q) ?_
            refine s_call (k := 151) (args := [.ref 53, sI ((a : Int)), sI ((kd : Int)), sI ((s : Int))]) (st := []) (v := some (sI (pSeem (fun j => hI h 58 (7 + j)) n kd a s))) (h1 := h) rfl ⟨rfl, rfl⟩ rfl rfl rfl rfl (sRcv hh (a := 53) rfl rfl) rfl ev ?_
            refine sP 1 (g1 := (25, [some (.ref 53), some (sI ((a : Int))), some (sI ((kd : Int))), some (sI ((r : Int))), some (sI 1), some (sI (((2 * k : Nat) : Int)))], [.ref 53, sI (pSeem (fun j => hI h 58 (7 + j)) n kd a s)], h)) rfl ?_
            refine s_get (a := 53) (j := 1) hh rfl ⟨_, rfl⟩ rfl rfl rfl (v := .ref 55) (hR_ok hh (by decide +kernel)) ?_
            refine sP 2 (g1 := (28, [some (.ref 53), some (sI ((a : Int))), some (sI ((kd : Int))), some (sI ((r : Int))), some (sI 1), some (sI (((2 * k : Nat) : Int)))], [sI ((r : Int)), sI 40, .ref 55, sI (pSeem (fun j => hI h 58 (7 + j)) n kd a s)], h)) rfl ?_
            refine s_mul (a := 40) (b := (r : Int)) rfl rfl ?_
            refine sP 1 (g1 := (30, [some (.ref 53), some (sI ((a : Int))), some (sI ((kd : Int))), some (sI ((r : Int))), some (sI 1), some (sI (((2 * k : Nat) : Int)))], [sI (((2 * k : Nat) : Int)), sI (40 * ((r : Int))), .ref 55, sI (pSeem (fun j => hI h 58 (7 + j)) n kd a s)], h)) rfl ?_
            refine s_add (a := 40 * ((r : Int))) (b := ((2 * k : Nat) : Int)) rfl rfl ?_
            refine sP 1 (g1 := (32, [some (.ref 53), some (sI ((a : Int))), some (sI ((kd : Int))), some (sI ((r : Int))), some (sI 1), some (sI (((2 * k : Nat) : Int)))], [sI 1, sI ((40 * ((r : Int))) + (((2 * k : Nat) : Int))), .ref 55, sI (pSeem (fun j => hI h 58 (7 + j)) n kd a s)], h)) rfl ?_
            refine s_add (a := (40 * ((r : Int))) + (((2 * k : Nat) : Int))) (b := 1) rfl rfl ?_
            refine s_iald (a := 55) (n := 240) (j := ((40 * ((r : Int))) + (((2 * k : Nat) : Int))) + 1) hh rfl rfl rfl (by omega) (by omega) (by decide) (v := sI (hI h 55 (40 * r + (2 * k + 1)))) (by rw [show (((40 * ((r : Int))) + (((2 * k : Nat) : Int))) + 1 : Int).toNat = 40 * r + (2 * k + 1) by omega]; exact hI_ok hh (rm_c hr (by omega))) ?_
            refine s_icmp (q := .ne) (a := pSeem (fun j => hI h 58 (7 + j)) n kd a s) (b := hI h 55 (40 * r + (2 * k + 1))) rfl ⟨_, rfl⟩ rfl (by unfold sR aMi aMa; omega) (by unfold sR aMi aMa; omega) (fun hc3 => ?_) (fun hc3 => ?_)
            · have hc3 : ((pSeem (fun j => hI h 58 (7 + j)) n kd a s) : Int) ≠ (hI h 55 (40 * r + (2 * k + 1))) := hc3
              refine sP 2 (g1 := (39, [some (.ref 53), some (sI ((a : Int))), some (sI ((kd : Int))), some (sI ((r : Int))), some (sI 0), some (sI (((2 * k : Nat) : Int)))], [], h)) rfl ?_
              refine s_inc (a := ((2 * k : Nat) : Int)) (n := 2) (k := 5) rfl rfl rfl ?_
              refine sP 1 (g1 := (4, [some (.ref 53), some (sI ((a : Int))), some (sI ((kd : Int))), some (sI ((r : Int))), some (sI 0), some (sI ((((2 * k : Nat) : Int)) + 2))], [], h)) rfl ?_
              rw [show (((2 * k : Nat) : Int) + 2) = ((2 * (k + 1) : Nat) : Int) by omega]
              exact r0
            · have hc3 : ¬ (((pSeem (fun j => hI h 58 (7 + j)) n kd a s) : Int) ≠ (hI h 55 (40 * r + (2 * k + 1)))) := hc3
              omega
theorem fIsSo {r n K kd a : Nat} {z : Int} (hh : aHp h) (hr : r < 6) (hn : hI h 58 0 = n) (hk6 : kd < 6) (ha : a < 6) (hz : hI h 54 r = z) (hK : z = 2 * (K : Int)) (hK6 : K ≤ 6) (hs : ∀ j, j < K → 0 ≤ (fun j => hI h 55 (40 * r + j)) (2 * j) ∧ (fun j => hI h 55 (40 * r + j)) (2 * j) < 64) : nEv sc (d + 3) 197 [.ref 53, sI (a : Int), sI (kd : Int), sI (r : Int)] h (some (sI (if pNt (fun j => hI h 58 (7 + j)) n kd a (fun j => hI h 55 (40 * r + j)) K 0 = true then 1 else 0)), h) := by
  have r1 := fIsSoL (sc := sc) (d := d) hh hr hn hk6 ha hz hK hK6 hs K 0 true (by omega)
  rw [Bool.true_and] at r1
  refine nEv_of (t := mMe197) rfl ?_
  show nRn sc (d + 2) (mMT mMe197) (mMC mMe197) (0, [some (.ref 53), some (sI (a : Int)), some (sI (kd : Int)), some (sI (r : Int)), none, none], [], h) _
  refine sP 4 (g1 := (4, [some (.ref 53), some (sI (a : Int)), some (sI (kd : Int)), some (sI (r : Int)), some (sI 1), some (sI ((2 * 0 : Nat) : Int))], [], h)) rfl ?_
  exact r1
theorem b_or2 : ∀ v, v < 10 → ∀ w, w < 1024 → w < 2 ^ v → (Int32.ofInt (w : Nat) ||| Int32.ofInt ((2 ^ v : Nat) : Int)) = Int32.ofInt ((w + 2 ^ v : Nat) : Int) := by decide +kernel
theorem b_or0 (w : Nat) (hw : w < 1024) : (Int32.ofInt (w : Nat) ||| Int32.ofInt 0) = Int32.ofInt (w : Nat) := (show ∀ w, w < 1024 → (Int32.ofInt (w : Nat) ||| Int32.ofInt 0) = Int32.ofInt (w : Nat) by decide +kernel) w hw
/-- looks with one of them otherwise -/
noncomputable def gUp (G : Nat → Int) (j : Nat) (v : Nat) : Nat → Int := fun i => if i = j then (v : Int) else G i
/-- which looks fit -/
noncomputable def pFw (f : Nat → Bool) : Nat → Nat
  | 0 => 0
  | v + 1 => pFw f v + (if f v = true then 2 ^ v else 0)
theorem pFw_lt (f : Nat → Bool) : ∀ v, pFw f v < 2 ^ v
  | 0 => by show (0 : Nat) < 1; decide
  | v + 1 => by
    have := pFw_lt f v
    unfold pFw
    rw [Nat.pow_succ]
    split <;> omega
theorem pFw_cg {f g : Nat → Bool} {n : Nat} (hf : ∀ v, v < n → f v = g v) : ∀ v, v ≤ n → pFw f v = pFw g v
  | 0, _ => rfl
  | v + 1, hv => by
    unfold pFw
    rw [pFw_cg hf v (by omega), hf v (by omega)]
theorem p2_10 {v : Nat} (hv : v ≤ 10) : 2 ^ v ≤ 1024 := (show ∀ v, v < 11 → 2 ^ v ≤ 1024 by decide) v (by omega)
theorem fFitsXL {r n K kd a b : Nat} {z w0 : Int} (hh : aHp h) (hr : r < 6) (hn : hI h 3 3 = n) (hk6 : kd < 6) (ha : a < 6) (hz : hI h (21 + 2 * r) 1 = z) (hK : z = 2 * (K : Int)) (hK6 : K ≤ 6) (hs : ∀ j, j < K → 0 ≤ (hI h (22 + 2 * r)) (2 * j) ∧ (hI h (22 + 2 * r)) (2 * j) < 64) (hb : b < 6) (hkd : hI h 4 a = (kd : Int)) (hw : hI h 5 (6 * a + b) = w0) : ∀ (c v : Nat) (g : mH), v + c = 10 → aHp g → (∀ p m, ¬ (p = 5 ∧ m = 6 * a + b) → aSlot g p m = aSlot h p m) → nRn sc (d + 4) (mMT mMe91) (mMC mMe91) (40, [some (.ref 0), some (sI (a : Int)), some (sI (b : Int)), some (sI (r : Int)), some (.ref (21 + 2 * r)), some (sI 0), some (sI (6 * (a : Int) + (b : Int))), some (sI w0), some (sI ((pFw (fun v => pNt (gUp (hI h 5) (6 * a + b) v) n kd a (hI h (22 + 2 * r)) K 0) v : Nat) : Int)), some (sI (v : Int))], [], g) (some (sI ((pFw (fun v => pNt (gUp (hI h 5) (6 * a + b) v) n kd a (hI h (22 + 2 * r)) K 0) 10 : Nat) : Int)), h) := by
  have gl := hI_rg hh (xw_l (show 6 * a + b < 36 by omega))
  have gk := hI_rg hh (xw_k ha)
  intro c
  induction c with
  | zero =>
    intro v g hv hg hs2
    have hv10 : v = 10 := by omega
    subst hv10
    have p10 := pFw_lt (fun v => pNt (gUp (hI h 5) (6 * a + b) v) n kd a (hI h (22 + 2 * r)) K 0) 10
    obtain ⟨g1, eg1⟩ : ∃ gz, gz = hset g 5 (6 * a + b) (sI w0) := ⟨_, rfl⟩
    have sg1 : ∀ xa xm, aSlot g1 xa xm = if xa = 5 ∧ xm = 6 * a + b then some (sI w0) else aSlot g xa xm := fun xa xm => by rw [eg1]; exact hset_slot hg (show sTg 5 = some (50, 36) from rfl) (by omega) xa xm
    have hg1 : aHp g1 := by rw [eg1]; exact hset_ii hg (xw_il (by omega)) (by omega) (by omega) (by unfold sR aMi aMa; omega)
    have eg : g1 = h := aHp_ext hh hg1 (fun p m => by
      rw [sg1]
      by_cases c : p = 5 ∧ m = 6 * a + b
      · rw [if_pos c, c.1, c.2, hI_ok hh (xw_l (show 6 * a + b < 36 by omega)), hw]
      · rw [if_neg c, hs2 p m c])
    have eg2 : ∀ q, nRn sc (d + 4) (mMT mMe91) (mMC mMe91) q (some (sI ((pFw (fun v => pNt (gUp (hI h 5) (6 * a + b) v) n kd a (hI h (22 + 2 * r)) K 0) 10 : Nat) : Int)), g1) → nRn sc (d + 4) (mMT mMe91) (mMC mMe91) q (some (sI ((pFw (fun v => pNt (gUp (hI h 5) (6 * a + b) v) n kd a (hI h (22 + 2 * r)) K 0) 10 : Nat) : Int)), h) := fun q w => by rw [eg] at w; exact w
    refine eg2 _ ?_
    refine sP 2 (g1 := (42, [some (.ref 0), some (sI ((a : Int))), some (sI ((b : Int))), some (sI ((r : Int))), some (.ref (21 + 2 * r)), some (sI 0), some (sI (6 * (a : Int) + (b : Int))), some (sI w0), some (sI (((pFw (fun v => pNt (gUp (hI h 5) (6 * a + b) v) n kd a (hI h (22 + 2 * r)) K 0) 10 : Nat) : Int))), some (sI (((10 : Nat) : Int)))], [sI 9, sI (((10 : Nat) : Int))], g)) rfl ?_
    refine s_icmp (q := .gt) (a := ((10 : Nat) : Int)) (b := 9) rfl ⟨_, rfl⟩ rfl (by unfold sR aMi aMa; omega) (by unfold sR aMi aMa; omega) (fun hc1 => ?_) (fun hc1 => ?_)
    · have hc1 : (9 : Int) < (((10 : Nat) : Int)) := hc1
      refine sP 1 (g1 := (68, [some (.ref 0), some (sI ((a : Int))), some (sI ((b : Int))), some (sI ((r : Int))), some (.ref (21 + 2 * r)), some (sI 0), some (sI (6 * (a : Int) + (b : Int))), some (sI w0), some (sI (((pFw (fun v => pNt (gUp (hI h 5) (6 * a + b) v) n kd a (hI h (22 + 2 * r)) K 0) 10 : Nat) : Int))), some (sI (((10 : Nat) : Int)))], [.ref 0], g)) rfl ?_
      refine s_get (a := 0) (j := 2) hg rfl ⟨_, rfl⟩ rfl rfl rfl (v := .ref 3) (hR_ok hg (by decide +kernel)) ?_
      refine s_get (a := 3) (j := 1) hg rfl ⟨_, rfl⟩ rfl rfl rfl (v := .ref 5) (hR_ok hg (by decide +kernel)) ?_
      refine sP 2 (g1 := (72, [some (.ref 0), some (sI ((a : Int))), some (sI ((b : Int))), some (sI ((r : Int))), some (.ref (21 + 2 * r)), some (sI 0), some (sI (6 * (a : Int) + (b : Int))), some (sI w0), some (sI (((pFw (fun v => pNt (gUp (hI h 5) (6 * a + b) v) n kd a (hI h (22 + 2 * r)) K 0) 10 : Nat) : Int))), some (sI (((10 : Nat) : Int)))], [sI w0, sI (6 * (a : Int) + (b : Int)), .ref 5], g)) rfl ?_
      refine s_iast (a := 5) (n := 36) (j := 6 * (a : Int) + (b : Int)) hg rfl rfl (show sTg 5 = some (50, 36) from rfl) (by omega) (by omega) (by decide) ?_
      rw [show (6 * (a : Int) + (b : Int) : Int).toNat = 6 * a + b by omega]
      rw [← eg1]
      refine sP 1 (g1 := (74, [some (.ref 0), some (sI ((a : Int))), some (sI ((b : Int))), some (sI ((r : Int))), some (.ref (21 + 2 * r)), some (sI 0), some (sI (6 * (a : Int) + (b : Int))), some (sI w0), some (sI (((pFw (fun v => pNt (gUp (hI h 5) (6 * a + b) v) n kd a (hI h (22 + 2 * r)) K 0) 10 : Nat) : Int))), some (sI (((10 : Nat) : Int)))], [sI (((pFw (fun v => pNt (gUp (hI h 5) (6 * a + b) v) n kd a (hI h (22 + 2 * r)) K 0) 10 : Nat) : Int))], g1)) rfl ?_
      exact s_reti rfl rfl (Or.inl rfl) rfl rfl
    · have hc1 : ¬ ((9 : Int) < (((10 : Nat) : Int))) := hc1
      omega
  | succ c ih =>
    intro v g hv hg hs2
    have pv := pFw_lt (fun v => pNt (gUp (hI h 5) (6 * a + b) v) n kd a (hI h (22 + 2 * r)) K 0) v
    have p10 := p2_10 (show v ≤ 10 by omega)
    obtain ⟨g1, eg1⟩ : ∃ gz, gz = hset g 5 (6 * a + b) (sI (v : Int)) := ⟨_, rfl⟩
    have sg1 : ∀ xa xm, aSlot g1 xa xm = if xa = 5 ∧ xm = 6 * a + b then some (sI (v : Int)) else aSlot g xa xm := fun xa xm => by rw [eg1]; exact hset_slot hg (show sTg 5 = some (50, 36) from rfl) (by omega) xa xm
    have hg1 : aHp g1 := by rw [eg1]; exact hset_ii hg (xw_il (by omega)) (by omega) (by omega) (by unfold sR aMi aMa; omega)
    have hs3 : ∀ p m, ¬ (p = 5 ∧ m = 6 * a + b) → aSlot g1 p m = aSlot h p m := fun p m w => by rw [sg1, if_neg w, hs2 p m w]
    have eG5 : hI g1 5 = gUp (hI h 5) (6 * a + b) v := funext (fun i => by
      unfold gUp
      by_cases w : i = 6 * a + b
      · rw [if_pos w, w]
        exact hI_si (by rw [sg1, if_pos (by omega)]) (by unfold sR aMi aMa; omega)
      · rw [if_neg w]
        exact hI_cg (hs3 5 i (by omega)))
    have eR2 : hI g1 (22 + 2 * r) = hI h (22 + 2 * r) := funext (fun i => hI_cg (hs3 _ i (by omega)))
    have ek : hI g1 4 a = (kd : Int) := (hI_cg (hs3 4 a (by omega))).trans hkd
    have ev := fNoted (sc := sc) (d := d) (r := r) (n := n) (K := K) (kd := kd) (a := a) (z := z) hg1 hr ((hI_cg (hs3 3 3 (by omega))).trans hn) hk6 ha ((hI_cg (hs3 _ 1 (by omega))).trans hz) hK hK6 (by rw [eR2]; exact hs)
    rw [eG5, eR2] at ev
    have r1 := ih (v + 1) g1 (by omega) hg1 hs3
    have e1 : pFw (fun v => pNt (gUp (hI h 5) (6 * a + b) v) n kd a (hI h (22 + 2 * r)) K 0) (v + 1) = pFw (fun v => pNt (gUp (hI h 5) (6 * a + b) v) n kd a (hI h (22 + 2 * r)) K 0) v + (if pNt (gUp (hI h 5) (6 * a + b) v) n kd a (hI h (22 + 2 * r)) K 0 = true then 2 ^ v else 0) := rfl
    rw [e1] at r1
    cases hb2 : pNt (gUp (hI h 5) (6 * a + b) v) n kd a (hI h (22 + 2 * r)) K 0 with
    | true =>
      rw [hb2, if_pos rfl] at ev r1
      refine sP 2 (g1 := (42, [some (.ref 0), some (sI ((a : Int))), some (sI ((b : Int))), some (sI ((r : Int))), some (.ref (21 + 2 * r)), some (sI 0), some (sI (6 * (a : Int) + (b : Int))), some (sI w0), some (sI (((pFw (fun v => pNt (gUp (hI h 5) (6 * a + b) v) n kd a (hI h (22 + 2 * r)) K 0) v : Nat) : Int))), some (sI ((v : Int)))], [sI 9, sI ((v : Int))], g)) rfl ?_
      refine s_icmp (q := .gt) (a := (v : Int)) (b := 9) rfl ⟨_, rfl⟩ rfl (by unfold sR aMi aMa; omega) (by unfold sR aMi aMa; omega) (fun hc1 => ?_) (fun hc1 => ?_)
      · have hc1 : (9 : Int) < ((v : Int)) := hc1
        omega
      · have hc1 : ¬ ((9 : Int) < ((v : Int))) := hc1
        refine sP 1 (g1 := (44, [some (.ref 0), some (sI ((a : Int))), some (sI ((b : Int))), some (sI ((r : Int))), some (.ref (21 + 2 * r)), some (sI 0), some (sI (6 * (a : Int) + (b : Int))), some (sI w0), some (sI (((pFw (fun v => pNt (gUp (hI h 5) (6 * a + b) v) n kd a (hI h (22 + 2 * r)) K 0) v : Nat) : Int))), some (sI ((v : Int)))], [.ref 0], g)) rfl ?_
        refine s_get (a := 0) (j := 2) hg rfl ⟨_, rfl⟩ rfl rfl rfl (v := .ref 3) (hR_ok hg (by decide +kernel)) ?_
        refine s_get (a := 3) (j := 1) hg rfl ⟨_, rfl⟩ rfl rfl rfl (v := .ref 5) (hR_ok hg (by decide +kernel)) ?_
        refine sP 2 (g1 := (48, [some (.ref 0), some (sI ((a : Int))), some (sI ((b : Int))), some (sI ((r : Int))), some (.ref (21 + 2 * r)), some (sI 0), some (sI (6 * (a : Int) + (b : Int))), some (sI w0), some (sI (((pFw (fun v => pNt (gUp (hI h 5) (6 * a + b) v) n kd a (hI h (22 + 2 * r)) K 0) v : Nat) : Int))), some (sI ((v : Int)))], [sI ((v : Int)), sI (6 * (a : Int) + (b : Int)), .ref 5], g)) rfl ?_
        refine s_iast (a := 5) (n := 36) (j := 6 * (a : Int) + (b : Int)) hg rfl rfl (show sTg 5 = some (50, 36) from rfl) (by omega) (by omega) (by decide) ?_
        rw [show (6 * (a : Int) + (b : Int) : Int).toNat = 6 * a + b by omega]
        rw [← eg1]
        refine sP 3 (g1 := (52, [some (.ref 0), some (sI ((a : Int))), some (sI ((b : Int))), some (sI ((r : Int))), some (.ref (21 + 2 * r)), some (sI 0), some (sI (6 * (a : Int) + (b : Int))), some (sI w0), some (sI (((pFw (fun v => pNt (gUp (hI h 5) (6 * a + b) v) n kd a (hI h (22 + 2 * r)) K 0) v : Nat) : Int))), some (sI ((v : Int)))], [.ref 0, sI ((a : Int)), .ref 0], g1)) rfl ?_
        refine s_get (a := 0) (j := 2) hg1 rfl ⟨_, rfl⟩ rfl rfl rfl (v := .ref 3) (hR_ok hg1 (by decide +kernel)) ?_
        refine s_get (a := 3) (j := 0) hg1 rfl ⟨_, rfl⟩ rfl rfl rfl (v := .ref 4) (hR_ok hg1 (by decide +kernel)) ?_
        refine sP 1 (g1 := (55, [some (.ref 0), some (sI ((a : Int))), some (sI ((b : Int))), some (sI ((r : Int))), some (.ref (21 + 2 * r)), some (sI 0), some (sI (6 * (a : Int) + (b : Int))), some (sI w0), some (sI (((pFw (fun v => pNt (gUp (hI h 5) (6 * a + b) v) n kd a (hI h (22 + 2 * r)) K 0) v : Nat) : Int))), some (sI ((v : Int)))], [sI ((a : Int)), .ref 4, sI ((a : Int)), .ref 0], g1)) rfl ?_
        refine s_iald (a := 4) (n := 6) (j := (a : Int)) hg1 rfl rfl rfl (by omega) (by omega) (by decide) (v := sI ((kd : Int))) (by rw [Int.toNat_natCast]; have q := hI_ok hg1 (xw_k ha); rw [ek] at q; exact q) ?_
        refine sP 1 (g1 := (57, [some (.ref 0), some (sI ((a : Int))), some (sI ((b : Int))), some (sI ((r : Int))), some (.ref (21 + 2 * r)), some (sI 0), some (sI (6 * (a : Int) + (b : Int))), some (sI w0), some (sI (((pFw (fun v => pNt (gUp (hI h 5) (6 * a + b) v) n kd a (hI h (22 + 2 * r)) K 0) v : Nat) : Int))), some (sI ((v : Int)))], [.ref (21 + 2 * r), sI ((kd : Int)), sI ((a : Int)), .ref 0], g1)) rfl ?_
        refine s_call (k := 93) (args := [.ref 0, sI ((a : Int)), sI ((kd : Int)), .ref (21 + 2 * r)]) (st := []) (v := some (sI 1)) (h1 := g1) rfl ⟨rfl, rfl⟩ rfl rfl rfl rfl (sRcv hg1 (a := 0) rfl rfl) rfl ev ?_
        refine s_ifc (q := .eq) (a := 1) rfl ⟨_, rfl⟩ rfl (by unfold sR aMi aMa; omega) (fun hc2 => ?_) (fun hc2 => ?_)
        · have hc2 : (1 : Int) = 0 := hc2
          omega
        · have hc2 : ¬ ((1 : Int) = 0) := hc2
          refine sP 3 (g1 := (62, [some (.ref 0), some (sI ((a : Int))), some (sI ((b : Int))), some (sI ((r : Int))), some (.ref (21 + 2 * r)), some (sI 0), some (sI (6 * (a : Int) + (b : Int))), some (sI w0), some (sI (((pFw (fun v => pNt (gUp (hI h 5) (6 * a + b) v) n kd a (hI h (22 + 2 * r)) K 0) v : Nat) : Int))), some (sI ((v : Int)))], [sI ((v : Int)), sI 1, sI (((pFw (fun v => pNt (gUp (hI h 5) (6 * a + b) v) n kd a (hI h (22 + 2 * r)) K 0) v : Nat) : Int))], g1)) rfl ?_
          refine s_shl7 (a := v) rfl rfl (by omega) ?_
          refine s_b1 rfl rfl (b_or2 v (by omega) (pFw (fun v => pNt (gUp (hI h 5) (6 * a + b) v) n kd a (hI h (22 + 2 * r)) K 0) v) (by omega) pv) ?_
          refine sP 1 (g1 := (65, [some (.ref 0), some (sI ((a : Int))), some (sI ((b : Int))), some (sI ((r : Int))), some (.ref (21 + 2 * r)), some (sI 0), some (sI (6 * (a : Int) + (b : Int))), some (sI w0), some (sI (((pFw (fun v => pNt (gUp (hI h 5) (6 * a + b) v) n kd a (hI h (22 + 2 * r)) K 0) v + 2 ^ v : Nat) : Int))), some (sI ((v : Int)))], [], g1)) rfl ?_
          refine s_inc (a := (v : Int)) (n := 1) (k := 9) rfl rfl rfl ?_
          refine sP 1 (g1 := (40, [some (.ref 0), some (sI ((a : Int))), some (sI ((b : Int))), some (sI ((r : Int))), some (.ref (21 + 2 * r)), some (sI 0), some (sI (6 * (a : Int) + (b : Int))), some (sI w0), some (sI (((pFw (fun v => pNt (gUp (hI h 5) (6 * a + b) v) n kd a (hI h (22 + 2 * r)) K 0) v + 2 ^ v : Nat) : Int))), some (sI (((v : Int)) + 1))], [], g1)) rfl ?_
          rw [show ((v : Int) + 1) = ((v + 1 : Nat) : Int) by omega]
          exact r1
    | false =>
      rw [hb2, if_neg (by decide)] at ev r1
      rw [Nat.add_zero] at r1
      refine sP 2 (g1 := (42, [some (.ref 0), some (sI ((a : Int))), some (sI ((b : Int))), some (sI ((r : Int))), some (.ref (21 + 2 * r)), some (sI 0), some (sI (6 * (a : Int) + (b : Int))), some (sI w0), some (sI (((pFw (fun v => pNt (gUp (hI h 5) (6 * a + b) v) n kd a (hI h (22 + 2 * r)) K 0) v : Nat) : Int))), some (sI ((v : Int)))], [sI 9, sI ((v : Int))], g)) rfl ?_
      refine s_icmp (q := .gt) (a := (v : Int)) (b := 9) rfl ⟨_, rfl⟩ rfl (by unfold sR aMi aMa; omega) (by unfold sR aMi aMa; omega) (fun hc1 => ?_) (fun hc1 => ?_)
      · have hc1 : (9 : Int) < ((v : Int)) := hc1
        omega
      · have hc1 : ¬ ((9 : Int) < ((v : Int))) := hc1
        refine sP 1 (g1 := (44, [some (.ref 0), some (sI ((a : Int))), some (sI ((b : Int))), some (sI ((r : Int))), some (.ref (21 + 2 * r)), some (sI 0), some (sI (6 * (a : Int) + (b : Int))), some (sI w0), some (sI (((pFw (fun v => pNt (gUp (hI h 5) (6 * a + b) v) n kd a (hI h (22 + 2 * r)) K 0) v : Nat) : Int))), some (sI ((v : Int)))], [.ref 0], g)) rfl ?_
        refine s_get (a := 0) (j := 2) hg rfl ⟨_, rfl⟩ rfl rfl rfl (v := .ref 3) (hR_ok hg (by decide +kernel)) ?_
        refine s_get (a := 3) (j := 1) hg rfl ⟨_, rfl⟩ rfl rfl rfl (v := .ref 5) (hR_ok hg (by decide +kernel)) ?_
        refine sP 2 (g1 := (48, [some (.ref 0), some (sI ((a : Int))), some (sI ((b : Int))), some (sI ((r : Int))), some (.ref (21 + 2 * r)), some (sI 0), some (sI (6 * (a : Int) + (b : Int))), some (sI w0), some (sI (((pFw (fun v => pNt (gUp (hI h 5) (6 * a + b) v) n kd a (hI h (22 + 2 * r)) K 0) v : Nat) : Int))), some (sI ((v : Int)))], [sI ((v : Int)), sI (6 * (a : Int) + (b : Int)), .ref 5], g)) rfl ?_
        refine s_iast (a := 5) (n := 36) (j := 6 * (a : Int) + (b : Int)) hg rfl rfl (show sTg 5 = some (50, 36) from rfl) (by omega) (by omega) (by decide) ?_
        rw [show (6 * (a : Int) + (b : Int) : Int).toNat = 6 * a + b by omega]
        rw [← eg1]
        refine sP 3 (g1 := (52, [some (.ref 0), some (sI ((a : Int))), some (sI ((b : Int))), some (sI ((r : Int))), some (.ref (21 + 2 * r)), some (sI 0), some (sI (6 * (a : Int) + (b : Int))), some (sI w0), some (sI (((pFw (fun v => pNt (gUp (hI h 5) (6 * a + b) v) n kd a (hI h (22 + 2 * r)) K 0) v : Nat) : Int))), some (sI ((v : Int)))], [.ref 0, sI ((a : Int)), .ref 0], g1)) rfl ?_
        refine s_get (a := 0) (j := 2) hg1 rfl ⟨_, rfl⟩ rfl rfl rfl (v := .ref 3) (hR_ok hg1 (by decide +kernel)) ?_
        refine s_get (a := 3) (j := 0) hg1 rfl ⟨_, rfl⟩ rfl rfl rfl (v := .ref 4) (hR_ok hg1 (by decide +kernel)) ?_
        refine sP 1 (g1 := (55, [some (.ref 0), some (sI ((a : Int))), some (sI ((b : Int))), some (sI ((r : Int))), some (.ref (21 + 2 * r)), some (sI 0), some (sI (6 * (a : Int) + (b : Int))), some (sI w0), some (sI (((pFw (fun v => pNt (gUp (hI h 5) (6 * a + b) v) n kd a (hI h (22 + 2 * r)) K 0) v : Nat) : Int))), some (sI ((v : Int)))], [sI ((a : Int)), .ref 4, sI ((a : Int)), .ref 0], g1)) rfl ?_
        refine s_iald (a := 4) (n := 6) (j := (a : Int)) hg1 rfl rfl rfl (by omega) (by omega) (by decide) (v := sI ((kd : Int))) (by rw [Int.toNat_natCast]; have q := hI_ok hg1 (xw_k ha); rw [ek] at q; exact q) ?_
        refine sP 1 (g1 := (57, [some (.ref 0), some (sI ((a : Int))), some (sI ((b : Int))), some (sI ((r : Int))), some (.ref (21 + 2 * r)), some (sI 0), some (sI (6 * (a : Int) + (b : Int))), some (sI w0), some (sI (((pFw (fun v => pNt (gUp (hI h 5) (6 * a + b) v) n kd a (hI h (22 + 2 * r)) K 0) v : Nat) : Int))), some (sI ((v : Int)))], [.ref (21 + 2 * r), sI ((kd : Int)), sI ((a : Int)), .ref 0], g1)) rfl ?_
        refine s_call (k := 93) (args := [.ref 0, sI ((a : Int)), sI ((kd : Int)), .ref (21 + 2 * r)]) (st := []) (v := some (sI 0)) (h1 := g1) rfl ⟨rfl, rfl⟩ rfl rfl rfl rfl (sRcv hg1 (a := 0) rfl rfl) rfl ev ?_
        refine s_ifc (q := .eq) (a := 0) rfl ⟨_, rfl⟩ rfl (by unfold sR aMi aMa; omega) (fun hc2 => ?_) (fun hc2 => ?_)
        · have hc2 : (0 : Int) = 0 := hc2
          refine s_inc (a := (v : Int)) (n := 1) (k := 9) rfl rfl rfl ?_
          refine sP 1 (g1 := (40, [some (.ref 0), some (sI ((a : Int))), some (sI ((b : Int))), some (sI ((r : Int))), some (.ref (21 + 2 * r)), some (sI 0), some (sI (6 * (a : Int) + (b : Int))), some (sI w0), some (sI (((pFw (fun v => pNt (gUp (hI h 5) (6 * a + b) v) n kd a (hI h (22 + 2 * r)) K 0) v : Nat) : Int))), some (sI (((v : Int)) + 1))], [], g1)) rfl ?_
          rw [show ((v : Int) + 1) = ((v + 1 : Nat) : Int) by omega]
          exact r1
        · have hc2 : ¬ ((0 : Int) = 0) := hc2
          omega
end FITS
