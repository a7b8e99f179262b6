/-! steps: the pairs of a row, both methods, the pair of calls -/
def twoB (f : Nat → Int) (n : Int) (j : Nat) : Bool := decide ((0 ≤ f (2 * j) ∧ f (2 * j) < n) ∧ (0 ≤ f (2 * j + 1) ∧ f (2 * j + 1) < n) ∧ f (2 * j) ≠ f (2 * j + 1))
def prB (f : Nat → Int) (n : Int) : Nat → Bool
  | 0 => true
  | K + 1 => prB f n K && twoB f n K
theorem prB_all {f : Nat → Int} {n : Int} : ∀ {K : Nat}, prB f n K = true → ∀ j, j < K → twoB f n j = true
  | 0, _, j, hj => by omega
  | K + 1, h, j, hj => by
    have h : (prB f n K && twoB f n K) = true := h
    rw [Bool.and_eq_true] at h
    by_cases e : j = K
    · rw [e]
      exact h.2
    · exact prB_all h.1 j (by omega)
theorem prB_no {f : Nat → Int} {n : Int} {j : Nat} (hj : twoB f n j = false) : ∀ {K : Nat}, j < K → prB f n K = false
  | 0, h => by omega
  | K + 1, h => by
    show (prB f n K && twoB f n K) = false
    by_cases e : j = K
    · rw [← e, hj, Bool.and_false]
    · rw [prB_no hj (show j < K by omega), Bool.false_and]
theorem prB_yes {f : Nat → Int} {n : Int} : ∀ {K : Nat}, (∀ j, j < K → twoB f n j = true) → prB f n K = true
  | 0, _ => rfl
  | K + 1, h => by
    show (prB f n K && twoB f n K) = true
    rw [prB_yes (fun j hj => h j (by omega)), h K (by omega)]
    rfl
theorem prB_cg {f f1 : Nat → Int} {n : Int} : ∀ {K : Nat}, (∀ i, i < 2 * K → f i = f1 i) → prB f n K = prB f1 n K
  | 0, _ => rfl
  | K + 1, h => by
    show (prB f n K && twoB f n K) = (prB f1 n K && twoB f1 n K)
    rw [prB_cg (fun i hi => h i (by omega))]
    unfold twoB
    rw [h (2 * K) (by omega), h (2 * K + 1) (by omega)]
def arB (f : Nat → Int) (n : Int) : Nat → Bool
  | 0 => true
  | i + 1 => arB f n i && (decide (0 ≤ f i ∧ f i < n) && (decide (i % 2 = 0) || decide (f i ≠ f (i - 1))))
theorem arB_pr (f : Nat → Int) (n : Int) : ∀ K, arB f n (2 * K) = prB f n K
  | 0 => rfl
  | K + 1 => by
    have ih := arB_pr f n K
    show ((arB f n (2 * K) && (decide (0 ≤ f (2 * K) ∧ f (2 * K) < n) && (decide (2 * K % 2 = 0) || decide (f (2 * K) ≠ f (2 * K - 1))))) && (decide (0 ≤ f (2 * K + 1) ∧ f (2 * K + 1) < n) && (decide ((2 * K + 1) % 2 = 0) || decide (f (2 * K + 1) ≠ f (2 * K))))) = (prB f n K && twoB f n K)
    rw [ih]
    unfold twoB
    rw [Bool.eq_iff_iff]
    simp only [Bool.and_eq_true, Bool.or_eq_true, decide_eq_true_eq]
    constructor
    · rintro ⟨⟨h1, h2, h3⟩, h4, h5⟩
      refine ⟨h1, h2, h4, fun e => ?_⟩
      rcases h5 with h5 | h5
      · omega
      · exact h5 e.symm
    · rintro ⟨h1, h2, h4, h5⟩
      exact ⟨⟨h1, h2, Or.inl (by omega)⟩, h4, Or.inr (fun e => h5 e.symm)⟩
section STEPS
variable {sc : List Int32} {d : Nat} {h : mH}
theorem fWhyPL {r K : Nat} {z : Int} (hh : aHp h) (hr : r < 6) (hz : hI h (21 + 2 * r) 1 = z) (hK : z = 2 * (K : Int)) (hK4 : K ≤ 4) : ∀ (c j : Nat), j + c = K → (∀ i, i < j → twoB (hI h (22 + 2 * r)) (hI h 3 3) i = true) → nRn sc (d + 2) (mMT mMe85) (mMC mMe85) (23, [some (.ref 0), some (.ref (21 + 2 * r)), some (sI (2 * (j : Int)))], [], h) (some (sI (if prB (hI h (22 + 2 * r)) (hI h 3 3) K = true then 0 else 3)), h) := by
  intro c
  induction c with
  | zero =>
    intro j hj hy
    rw [if_pos (prB_yes (fun i hi => hy i (by omega)))]
    refine sP 2 (g1 := (25, [some (.ref 0), some (.ref (21 + 2 * r)), some (sI (2 * (j : Int)))], [sI 1, sI (2 * (j : Int))], h)) rfl ?_
    refine s_add (a := 2 * (j : Int)) (b := 1) rfl rfl ?_
    refine sP 1 (g1 := (27, [some (.ref 0), some (.ref (21 + 2 * r)), some (sI (2 * (j : Int)))], [.ref (21 + 2 * r), sI ((2 * (j : Int)) + 1)], h)) rfl ?_
    refine s_get (a := 21 + 2 * r) (j := 1) hh rfl ⟨_, rfl⟩ (ra_t hr) rfl rfl (v := sI z) (by have q := hI_ok hh (ra_z hr); rw [hz] at q; exact q) ?_
    refine s_icmp (q := .ge) (a := (2 * (j : Int)) + 1) (b := z) rfl ⟨_, rfl⟩ rfl (by unfold sR aMi aMa; omega) (by unfold sR aMi aMa; omega) (fun hc1 => ?_) (fun hc1 => ?_)
    · have hc1 : (z : Int) ≤ ((2 * (j : Int)) + 1) := hc1
      refine sP 1 (g1 := (48, [some (.ref 0), some (.ref (21 + 2 * r)), some (sI (2 * (j : Int)))], [sI 0], h)) rfl ?_
      exact s_reti rfl rfl (Or.inl rfl) rfl rfl
    · have hc1 : ¬ ((z : Int) ≤ ((2 * (j : Int)) + 1)) := hc1
      omega
  | succ c ih =>
    intro j hj hy
    have ev := fHasTwoX (sc := sc) (d := d) (a := hI h (22 + 2 * r) (2 * j)) (b := hI h (22 + 2 * r) (2 * j + 1)) hh (hI_sR _ _ _) (hI_sR _ _ _)
    cases e : twoB (hI h (22 + 2 * r)) (hI h 3 3) j with
    | true =>
      rw [if_pos (of_decide_eq_true e)] at ev
      have i1 := ih (j + 1) (by omega) (fun i hi => by
        by_cases q : i = j
        · rw [q]
          exact e
        · exact hy i (by omega))
      refine sP 2 (g1 := (25, [some (.ref 0), some (.ref (21 + 2 * r)), some (sI (2 * (j : Int)))], [sI 1, sI (2 * (j : Int))], h)) rfl ?_
      refine s_add (a := 2 * (j : Int)) (b := 1) rfl rfl ?_
      refine sP 1 (g1 := (27, [some (.ref 0), some (.ref (21 + 2 * r)), some (sI (2 * (j : Int)))], [.ref (21 + 2 * r), sI ((2 * (j : Int)) + 1)], h)) rfl ?_
      refine s_get (a := 21 + 2 * r) (j := 1) hh rfl ⟨_, rfl⟩ (ra_t hr) rfl rfl (v := sI z) (by have q := hI_ok hh (ra_z hr); rw [hz] at q; exact q) ?_
      refine s_icmp (q := .ge) (a := (2 * (j : Int)) + 1) (b := z) rfl ⟨_, rfl⟩ rfl (by unfold sR aMi aMa; omega) (by unfold sR aMi aMa; omega) (fun hc1 => ?_) (fun hc1 => ?_)
      · have hc1 : (z : Int) ≤ ((2 * (j : Int)) + 1) := hc1
        omega
      · have hc1 : ¬ ((z : Int) ≤ ((2 * (j : Int)) + 1)) := hc1
        refine sP 1 (g1 := (30, [some (.ref 0), some (.ref (21 + 2 * r)), some (sI (2 * (j : Int)))], [.ref 0], h)) rfl ?_
        refine s_get (a := 0) (j := 2) hh rfl ⟨_, rfl⟩ rfl rfl rfl (v := .ref 3) (hR_ok hh (by decide +kernel)) ?_
        refine sP 1 (g1 := (32, [some (.ref 0), some (.ref (21 + 2 * r)), some (sI (2 * (j : Int)))], [.ref (21 + 2 * r), .ref 3], h)) rfl ?_
        refine s_get (a := 21 + 2 * r) (j := 0) hh rfl ⟨_, rfl⟩ (ra_t hr) rfl rfl (v := .ref (22 + 2 * r)) (hR_ok hh (ra_r hr)) ?_
        refine sP 1 (g1 := (34, [some (.ref 0), some (.ref (21 + 2 * r)), some (sI (2 * (j : Int)))], [sI (2 * (j : Int)), .ref (22 + 2 * r), .ref 3], h)) rfl ?_
        refine s_iald (a := 22 + 2 * r) (n := 40) (j := 2 * (j : Int)) hh rfl rfl (ra_2 hr) (by omega) (by omega) (by decide) (v := sI (hI h (22 + 2 * r) (2 * j))) (by rw [show (2 * (j : Int) : Int).toNat = 2 * j by omega]; exact hI_ok hh (ra_c hr (show 2 * j < 40 by omega))) ?_
        refine sP 1 (g1 := (36, [some (.ref 0), some (.ref (21 + 2 * r)), some (sI (2 * (j : Int)))], [.ref (21 + 2 * r), sI (hI h (22 + 2 * r) (2 * j)), .ref 3], h)) rfl ?_
        refine s_get (a := 21 + 2 * r) (j := 0) hh rfl ⟨_, rfl⟩ (ra_t hr) rfl rfl (v := .ref (22 + 2 * r)) (hR_ok hh (ra_r hr)) ?_
        refine sP 2 (g1 := (39, [some (.ref 0), some (.ref (21 + 2 * r)), some (sI (2 * (j : Int)))], [sI 1, sI (2 * (j : Int)), .ref (22 + 2 * r), sI (hI h (22 + 2 * r) (2 * j)), .ref 3], h)) rfl ?_
        refine s_add (a := 2 * (j : Int)) (b := 1) rfl rfl ?_
        refine s_iald (a := 22 + 2 * r) (n := 40) (j := (2 * (j : Int)) + 1) hh rfl rfl (ra_2 hr) (by omega) (by omega) (by decide) (v := sI (hI h (22 + 2 * r) (2 * j + 1))) (by rw [show ((2 * (j : Int)) + 1 : Int).toNat = 2 * j + 1 by omega]; exact hI_ok hh (ra_c hr (show 2 * j + 1 < 40 by omega))) ?_
        refine s_call (k := 60) (args := [.ref 3, sI (hI h (22 + 2 * r) (2 * j)), sI (hI h (22 + 2 * r) (2 * j + 1))]) (st := []) (v := some (sI 1)) (h1 := h) rfl ⟨rfl, rfl⟩ rfl rfl rfl rfl (sRcv hh (a := 3) rfl rfl) rfl ev ?_
        refine s_ifc (q := .ne) (a := 1) rfl ⟨_, rfl⟩ rfl (by unfold sR aMi aMa; omega) (fun hc2 => ?_) (fun hc2 => ?_)
        · have hc2 : (1 : Int) ≠ 0 := hc2
          refine s_inc (a := 2 * (j : Int)) (n := 2) (k := 2) rfl rfl rfl ?_
          refine sP 1 (g1 := (23, [some (.ref 0), some (.ref (21 + 2 * r)), some (sI ((2 * (j : Int)) + 2))], [], h)) rfl ?_
          rw [show (2 * (j : Int)) + 2 = 2 * ((j + 1 : Nat) : Int) by omega]
          exact i1
        · have hc2 : ¬ ((1 : Int) ≠ 0) := hc2
          omega
    | false =>
      rw [if_neg (of_decide_eq_false e)] at ev
      rw [if_neg (by rw [prB_no e (by omega)]; decide)]
      refine sP 2 (g1 := (25, [some (.ref 0), some (.ref (21 + 2 * r)), some (sI (2 * (j : Int)))], [sI 1, sI (2 * (j : Int))], h)) rfl ?_
      refine s_add (a := 2 * (j : Int)) (b := 1) rfl rfl ?_
      refine sP 1 (g1 := (27, [some (.ref 0), some (.ref (21 + 2 * r)), some (sI (2 * (j : Int)))], [.ref (21 + 2 * r), sI ((2 * (j : Int)) + 1)], h)) rfl ?_
      refine s_get (a := 21 + 2 * r) (j := 1) hh rfl ⟨_, rfl⟩ (ra_t hr) rfl rfl (v := sI z) (by have q := hI_ok hh (ra_z hr); rw [hz] at q; exact q) ?_
      refine s_icmp (q := .ge) (a := (2 * (j : Int)) + 1) (b := z) rfl ⟨_, rfl⟩ rfl (by unfold sR aMi aMa; omega) (by unfold sR aMi aMa; omega) (fun hc1 => ?_) (fun hc1 => ?_)
      · have hc1 : (z : Int) ≤ ((2 * (j : Int)) + 1) := hc1
        omega
      · have hc1 : ¬ ((z : Int) ≤ ((2 * (j : Int)) + 1)) := hc1
        refine sP 1 (g1 := (30, [some (.ref 0), some (.ref (21 + 2 * r)), some (sI (2 * (j : Int)))], [.ref 0], h)) rfl ?_
        refine s_get (a := 0) (j := 2) hh rfl ⟨_, rfl⟩ rfl rfl rfl (v := .ref 3) (hR_ok hh (by decide +kernel)) ?_
        refine sP 1 (g1 := (32, [some (.ref 0), some (.ref (21 + 2 * r)), some (sI (2 * (j : Int)))], [.ref (21 + 2 * r), .ref 3], h)) rfl ?_
        refine s_get (a := 21 + 2 * r) (j := 0) hh rfl ⟨_, rfl⟩ (ra_t hr) rfl rfl (v := .ref (22 + 2 * r)) (hR_ok hh (ra_r hr)) ?_
        refine sP 1 (g1 := (34, [some (.ref 0), some (.ref (21 + 2 * r)), some (sI (2 * (j : Int)))], [sI (2 * (j : Int)), .ref (22 + 2 * r), .ref 3], h)) rfl ?_
        refine s_iald (a := 22 + 2 * r) (n := 40) (j := 2 * (j : Int)) hh rfl rfl (ra_2 hr) (by omega) (by omega) (by decide) (v := sI (hI h (22 + 2 * r) (2 * j))) (by rw [show (2 * (j : Int) : Int).toNat = 2 * j by omega]; exact hI_ok hh (ra_c hr (show 2 * j < 40 by omega))) ?_
        refine sP 1 (g1 := (36, [some (.ref 0), some (.ref (21 + 2 * r)), some (sI (2 * (j : Int)))], [.ref (21 + 2 * r), sI (hI h (22 + 2 * r) (2 * j)), .ref 3], h)) rfl ?_
        refine s_get (a := 21 + 2 * r) (j := 0) hh rfl ⟨_, rfl⟩ (ra_t hr) rfl rfl (v := .ref (22 + 2 * r)) (hR_ok hh (ra_r hr)) ?_
        refine sP 2 (g1 := (39, [some (.ref 0), some (.ref (21 + 2 * r)), some (sI (2 * (j : Int)))], [sI 1, sI (2 * (j : Int)), .ref (22 + 2 * r), sI (hI h (22 + 2 * r) (2 * j)), .ref 3], h)) rfl ?_
        refine s_add (a := 2 * (j : Int)) (b := 1) rfl rfl ?_
        refine s_iald (a := 22 + 2 * r) (n := 40) (j := (2 * (j : Int)) + 1) hh rfl rfl (ra_2 hr) (by omega) (by omega) (by decide) (v := sI (hI h (22 + 2 * r) (2 * j + 1))) (by rw [show ((2 * (j : Int)) + 1 : Int).toNat = 2 * j + 1 by omega]; exact hI_ok hh (ra_c hr (show 2 * j + 1 < 40 by omega))) ?_
        refine s_call (k := 60) (args := [.ref 3, sI (hI h (22 + 2 * r) (2 * j)), sI (hI h (22 + 2 * r) (2 * j + 1))]) (st := []) (v := some (sI 0)) (h1 := h) rfl ⟨rfl, rfl⟩ rfl rfl rfl rfl (sRcv hh (a := 3) rfl rfl) rfl ev ?_
        refine s_ifc (q := .ne) (a := 0) rfl ⟨_, rfl⟩ rfl (by unfold sR aMi aMa; omega) (fun hc2 => ?_) (fun hc2 => ?_)
        · have hc2 : (0 : Int) ≠ 0 := hc2
          omega
        · have hc2 : ¬ ((0 : Int) ≠ 0) := hc2
          refine sP 1 (g1 := (44, [some (.ref 0), some (.ref (21 + 2 * r)), some (sI (2 * (j : Int)))], [sI 3], h)) rfl ?_
          exact s_reti rfl rfl (Or.inl rfl) rfl rfl
theorem fWhyP1 {r : Nat} {z : Int} (hh : aHp h) (hr : r < 6) (hz : hI h (21 + 2 * r) 1 = z) (hc : z = -1) : nEv sc (d + 3) 85 [.ref 0, .ref (21 + 2 * r)] h (some (sI 1), h) := by
  have gz := hI_rg hh (ra_z hr)
  rw [hz] at gz
  refine nEv_of (t := mMe85) rfl ?_
  show nRn sc (d + 2) (mMT mMe85) (mMC mMe85) (0, [some (.ref 0), some (.ref (21 + 2 * r)), none], [], h) _
  refine sP 1 (g1 := (1, [some (.ref 0), some (.ref (21 + 2 * r)), none], [.ref (21 + 2 * r)], h)) rfl ?_
  refine s_get (a := 21 + 2 * r) (j := 1) hh rfl ⟨_, rfl⟩ (ra_t hr) rfl rfl (v := sI z) (by have q := hI_ok hh (ra_z hr); rw [hz] at q; exact q) ?_
  refine sP 1 (g1 := (3, [some (.ref 0), some (.ref (21 + 2 * r)), none], [sI ((-1)), sI z], h)) rfl ?_
  refine s_icmp (q := .ne) (a := z) (b := (-1)) rfl ⟨_, rfl⟩ rfl (by unfold sR aMi aMa; omega) (by unfold sR aMi aMa; omega) (fun hc1 => ?_) (fun hc1 => ?_)
  · have hc1 : (z : Int) ≠ ((-1)) := hc1
    omega
  · have hc1 : ¬ ((z : Int) ≠ ((-1))) := hc1
    refine sP 1 (g1 := (5, [some (.ref 0), some (.ref (21 + 2 * r)), none], [sI 1], h)) rfl ?_
    exact s_reti rfl rfl (Or.inl rfl) rfl rfl
theorem fWhyP5 {r : Nat} {z : Int} (hh : aHp h) (hr : r < 6) (hz : hI h (21 + 2 * r) 1 = z) (hc : z ≠ -1 ∧ (z % 2 ≠ 0 ∨ z < 2 ∨ 8 < z)) : nEv sc (d + 3) 85 [.ref 0, .ref (21 + 2 * r)] h (some (sI 5), h) := by
  have gz := hI_rg hh (ra_z hr)
  rw [hz] at gz
  refine nEv_of (t := mMe85) rfl ?_
  show nRn sc (d + 2) (mMT mMe85) (mMC mMe85) (0, [some (.ref 0), some (.ref (21 + 2 * r)), none], [], h) _
  refine sP 1 (g1 := (1, [some (.ref 0), some (.ref (21 + 2 * r)), none], [.ref (21 + 2 * r)], h)) rfl ?_
  refine s_get (a := 21 + 2 * r) (j := 1) hh rfl ⟨_, rfl⟩ (ra_t hr) rfl rfl (v := sI z) (by have q := hI_ok hh (ra_z hr); rw [hz] at q; exact q) ?_
  refine sP 1 (g1 := (3, [some (.ref 0), some (.ref (21 + 2 * r)), none], [sI ((-1)), sI z], h)) rfl ?_
  refine s_icmp (q := .ne) (a := z) (b := (-1)) rfl ⟨_, rfl⟩ rfl (by unfold sR aMi aMa; omega) (by unfold sR aMi aMa; omega) (fun hc1 => ?_) (fun hc1 => ?_)
  · have hc1 : (z : Int) ≠ ((-1)) := hc1
    refine sP 1 (g1 := (7, [some (.ref 0), some (.ref (21 + 2 * r)), none], [.ref (21 + 2 * r)], h)) rfl ?_
    refine s_get (a := 21 + 2 * r) (j := 1) hh rfl ⟨_, rfl⟩ (ra_t hr) rfl rfl (v := sI z) (by have q := hI_ok hh (ra_z hr); rw [hz] at q; exact q) ?_
    refine sP 1 (g1 := (9, [some (.ref 0), some (.ref (21 + 2 * r)), none], [sI 2, sI z], h)) rfl ?_
    refine s_remZ (a := z) rfl rfl (by omega) (by omega) ?_
    refine s_ifc (q := .ne) (a := z % 2) rfl ⟨_, rfl⟩ rfl (by unfold sR aMi aMa; omega) (fun hc2 => ?_) (fun hc2 => ?_)
    · have hc2 : ((z % 2) : Int) ≠ 0 := hc2
      refine sP 1 (g1 := (20, [some (.ref 0), some (.ref (21 + 2 * r)), none], [sI 5], h)) rfl ?_
      exact s_reti rfl rfl (Or.inl rfl) rfl rfl
    · have hc2 : ¬ (((z % 2) : Int) ≠ 0) := hc2
      refine sP 1 (g1 := (12, [some (.ref 0), some (.ref (21 + 2 * r)), none], [.ref (21 + 2 * r)], h)) rfl ?_
      refine s_get (a := 21 + 2 * r) (j := 1) hh rfl ⟨_, rfl⟩ (ra_t hr) rfl rfl (v := sI z) (by have q := hI_ok hh (ra_z hr); rw [hz] at q; exact q) ?_
      refine sP 1 (g1 := (14, [some (.ref 0), some (.ref (21 + 2 * r)), none], [sI 2, sI z], h)) rfl ?_
      refine s_icmp (q := .lt) (a := z) (b := 2) rfl ⟨_, rfl⟩ rfl (by unfold sR aMi aMa; omega) (by unfold sR aMi aMa; omega) (fun hc3 => ?_) (fun hc3 => ?_)
      · have hc3 : (z : Int) < 2 := hc3
        refine sP 1 (g1 := (20, [some (.ref 0), some (.ref (21 + 2 * r)), none], [sI 5], h)) rfl ?_
        exact s_reti rfl rfl (Or.inl rfl) rfl rfl
      · have hc3 : ¬ ((z : Int) < 2) := hc3
        refine sP 1 (g1 := (16, [some (.ref 0), some (.ref (21 + 2 * r)), none], [.ref (21 + 2 * r)], h)) rfl ?_
        refine s_get (a := 21 + 2 * r) (j := 1) hh rfl ⟨_, rfl⟩ (ra_t hr) rfl rfl (v := sI z) (by have q := hI_ok hh (ra_z hr); rw [hz] at q; exact q) ?_
        refine sP 1 (g1 := (18, [some (.ref 0), some (.ref (21 + 2 * r)), none], [sI 8, sI z], h)) rfl ?_
        refine s_icmp (q := .le) (a := z) (b := 8) rfl ⟨_, rfl⟩ rfl (by unfold sR aMi aMa; omega) (by unfold sR aMi aMa; omega) (fun hc4 => ?_) (fun hc4 => ?_)
        · have hc4 : (z : Int) ≤ 8 := hc4
          omega
        · have hc4 : ¬ ((z : Int) ≤ 8) := hc4
          refine sP 1 (g1 := (20, [some (.ref 0), some (.ref (21 + 2 * r)), none], [sI 5], h)) rfl ?_
          exact s_reti rfl rfl (Or.inl rfl) rfl rfl
  · have hc1 : ¬ ((z : Int) ≠ ((-1))) := hc1
    omega
theorem fWhyP0 {r K : Nat} {z : Int} (hh : aHp h) (hr : r < 6) (hz : hI h (21 + 2 * r) 1 = z) (hK : z = 2 * (K : Int)) (hK1 : 1 ≤ K) (hK4 : K ≤ 4) : nEv sc (d + 3) 85 [.ref 0, .ref (21 + 2 * r)] h (some (sI (if prB (hI h (22 + 2 * r)) (hI h 3 3) K = true then 0 else 3)), h) := by
  have i1 := fWhyPL (sc := sc) (d := d) hh hr hz hK hK4 K 0 (by omega) (fun i hi => by omega)
  rw [show 2 * ((0 : Nat) : Int) = 0 from rfl] at i1
  refine nEv_of (t := mMe85) rfl ?_
  show nRn sc (d + 2) (mMT mMe85) (mMC mMe85) (0, [some (.ref 0), some (.ref (21 + 2 * r)), none], [], h) _
  refine sP 1 (g1 := (1, [some (.ref 0), some (.ref (21 + 2 * r)), none], [.ref (21 + 2 * r)], h)) rfl ?_
  refine s_get (a := 21 + 2 * r) (j := 1) hh rfl ⟨_, rfl⟩ (ra_t hr) rfl rfl (v := sI z) (by have q := hI_ok hh (ra_z hr); rw [hz] at q; exact q) ?_
  refine sP 1 (g1 := (3, [some (.ref 0), some (.ref (21 + 2 * r)), none], [sI ((-1)), sI z], h)) rfl ?_
  refine s_icmp (q := .ne) (a := z) (b := (-1)) rfl ⟨_, rfl⟩ rfl (by unfold sR aMi aMa; omega) (by unfold sR aMi aMa; omega) (fun hc1 => ?_) (fun hc1 => ?_)
  · have hc1 : (z : Int) ≠ ((-1)) := hc1
    refine sP 1 (g1 := (7, [some (.ref 0), some (.ref (21 + 2 * r)), none], [.ref (21 + 2 * r)], h)) rfl ?_
    refine s_get (a := 21 + 2 * r) (j := 1) hh rfl ⟨_, rfl⟩ (ra_t hr) rfl rfl (v := sI z) (by have q := hI_ok hh (ra_z hr); rw [hz] at q; exact q) ?_
    refine sP 1 (g1 := (9, [some (.ref 0), some (.ref (21 + 2 * r)), none], [sI 2, sI z], h)) rfl ?_
    refine s_remZ (a := z) rfl rfl (by omega) (by omega) ?_
    refine s_ifc (q := .ne) (a := z % 2) rfl ⟨_, rfl⟩ rfl (by unfold sR aMi aMa; omega) (fun hc2 => ?_) (fun hc2 => ?_)
    · have hc2 : ((z % 2) : Int) ≠ 0 := hc2
      omega
    · have hc2 : ¬ (((z % 2) : Int) ≠ 0) := hc2
      refine sP 1 (g1 := (12, [some (.ref 0), some (.ref (21 + 2 * r)), none], [.ref (21 + 2 * r)], h)) rfl ?_
      refine s_get (a := 21 + 2 * r) (j := 1) hh rfl ⟨_, rfl⟩ (ra_t hr) rfl rfl (v := sI z) (by have q := hI_ok hh (ra_z hr); rw [hz] at q; exact q) ?_
      refine sP 1 (g1 := (14, [some (.ref 0), some (.ref (21 + 2 * r)), none], [sI 2, sI z], h)) rfl ?_
      refine s_icmp (q := .lt) (a := z) (b := 2) rfl ⟨_, rfl⟩ rfl (by unfold sR aMi aMa; omega) (by unfold sR aMi aMa; omega) (fun hc3 => ?_) (fun hc3 => ?_)
      · have hc3 : (z : Int) < 2 := hc3
        omega
      · have hc3 : ¬ ((z : Int) < 2) := hc3
        refine sP 1 (g1 := (16, [some (.ref 0), some (.ref (21 + 2 * r)), none], [.ref (21 + 2 * r)], h)) rfl ?_
        refine s_get (a := 21 + 2 * r) (j := 1) hh rfl ⟨_, rfl⟩ (ra_t hr) rfl rfl (v := sI z) (by have q := hI_ok hh (ra_z hr); rw [hz] at q; exact q) ?_
        refine sP 1 (g1 := (18, [some (.ref 0), some (.ref (21 + 2 * r)), none], [sI 8, sI z], h)) rfl ?_
        refine s_icmp (q := .le) (a := z) (b := 8) rfl ⟨_, rfl⟩ rfl (by unfold sR aMi aMa; omega) (by unfold sR aMi aMa; omega) (fun hc4 => ?_) (fun hc4 => ?_)
        · have hc4 : (z : Int) ≤ 8 := hc4
          refine sP 2 (g1 := (23, [some (.ref 0), some (.ref (21 + 2 * r)), some (sI 0)], [], h)) rfl ?_
          exact i1
        · have hc4 : ¬ ((z : Int) ≤ 8) := hc4
          omega
  · have hc1 : ¬ ((z : Int) ≠ ((-1))) := hc1
    omega
theorem fArePL {r Z : Nat} (hh : aHp h) (hr : r < 6) (hz : hI h 54 r = (Z : Int)) (hZ : Z ≤ 40) : ∀ (c i : Nat), i + c = Z → nRn sc (d + 2) (mMT mMe191) (mMC mMe191) (4, [some (.ref 53), some (sI ((r : Int))), some (sI ((if arB (fun i => hI h 55 (40 * r + i)) (hI h 58 0) i = true then 1 else 0))), some (sI ((i : Int)))], [], h) (some (sI (if arB (fun i => hI h 55 (40 * r + i)) (hI h 58 0) Z = true then 1 else 0)), h) := by
  intro c
  induction c with
  | zero =>
    intro i hi
    have e : i = Z := by omega
    subst e
    refine sP 2 (g1 := (6, [some (.ref 53), some (sI ((r : Int))), some (sI ((if arB (fun i => hI h 55 (40 * r + i)) (hI h 58 0) i = true then 1 else 0))), some (sI ((i : Int)))], [.ref 53, sI ((i : Int))], h)) rfl ?_
    refine s_get (a := 53) (j := 0) hh rfl ⟨_, rfl⟩ rfl rfl rfl (v := .ref 54) (hR_ok hh (by decide +kernel)) ?_
    refine sP 1 (g1 := (8, [some (.ref 53), some (sI ((r : Int))), some (sI ((if arB (fun i => hI h 55 (40 * r + i)) (hI h 58 0) i = true then 1 else 0))), some (sI ((i : Int)))], [sI ((r : Int)), .ref 54, sI ((i : Int))], h)) rfl ?_
    refine s_iald (a := 54) (n := 6) (j := (r : Int)) hh rfl rfl rfl (by omega) (by omega) (by decide) (v := sI ((i : Int))) (by rw [Int.toNat_natCast]; have q := hI_ok hh (w54 hr); rw [hz] at q; exact q) ?_
    refine s_icmp (q := .ge) (a := (i : Int)) (b := (i : Int)) rfl ⟨_, rfl⟩ rfl (by unfold sR aMi aMa; omega) (by unfold sR aMi aMa; omega) (fun hc1 => ?_) (fun hc1 => ?_)
    · have hc1 : (((i : Int)) : Int) ≤ ((i : Int)) := hc1
      refine sP 1 (g1 := (59, [some (.ref 53), some (sI ((r : Int))), some (sI ((if arB (fun i => hI h 55 (40 * r + i)) (hI h 58 0) i = true then 1 else 0))), some (sI ((i : Int)))], [sI ((if arB (fun i => hI h 55 (40 * r + i)) (hI h 58 0) i = true then 1 else 0))], h)) rfl ?_
      exact s_reti rfl rfl (Or.inr ⟨rfl, by split <;> omega⟩) rfl rfl
    · have hc1 : ¬ ((((i : Int)) : Int) ≤ ((i : Int))) := hc1
      omega
  | succ c ih =>
    intro i hi
    have i1 := ih (i + 1) (by omega)
    have e1 : arB (fun i => hI h 55 (40 * r + i)) (hI h 58 0) (i + 1) = (arB (fun i => hI h 55 (40 * r + i)) (hI h 58 0) i && (decide (0 ≤ hI h 55 (40 * r + i) ∧ hI h 55 (40 * r + i) < hI h 58 0) && (decide (i % 2 = 0) || decide (hI h 55 (40 * r + i) ≠ hI h 55 (40 * r + (i - 1)))))) := rfl
    have gp := hI_rg hh nw_p
    have ra := hI_sR h 55 (40 * r + i)
    unfold sR aMi aMa at ra
    by_cases ca : arB (fun i => hI h 55 (40 * r + i)) (hI h 58 0) i = true
    · rw [if_pos ca]
      rw [ca, Bool.true_and] at e1
      by_cases cr : 0 ≤ hI h 55 (40 * r + i) ∧ hI h 55 (40 * r + i) < hI h 58 0
      · rw [decide_eq_true cr, Bool.true_and] at e1
        by_cases cp : i % 2 = 0
        · rw [decide_eq_true cp, Bool.true_or] at e1
          rw [e1, if_pos rfl] at i1
          refine sP 2 (g1 := (6, [some (.ref 53), some (sI ((r : Int))), some (sI 1), some (sI ((i : Int)))], [.ref 53, sI ((i : Int))], h)) rfl ?_
          refine s_get (a := 53) (j := 0) hh rfl ⟨_, rfl⟩ rfl rfl rfl (v := .ref 54) (hR_ok hh (by decide +kernel)) ?_
          refine sP 1 (g1 := (8, [some (.ref 53), some (sI ((r : Int))), some (sI 1), some (sI ((i : Int)))], [sI ((r : Int)), .ref 54, sI ((i : Int))], h)) rfl ?_
          refine s_iald (a := 54) (n := 6) (j := (r : Int)) hh rfl rfl rfl (by omega) (by omega) (by decide) (v := sI ((Z : Int))) (by rw [Int.toNat_natCast]; have q := hI_ok hh (w54 hr); rw [hz] at q; exact q) ?_
          refine s_icmp (q := .ge) (a := (i : Int)) (b := (Z : Int)) rfl ⟨_, rfl⟩ rfl (by unfold sR aMi aMa; omega) (by unfold sR aMi aMa; omega) (fun hc1 => ?_) (fun hc1 => ?_)
          · have hc1 : (((Z : Int)) : Int) ≤ ((i : Int)) := hc1
            omega
          · have hc1 : ¬ ((((Z : Int)) : Int) ≤ ((i : Int))) := hc1
            refine sP 1 (g1 := (11, [some (.ref 53), some (sI ((r : Int))), some (sI 1), some (sI ((i : Int)))], [sI 1], h)) rfl ?_
            refine s_ifc (q := .eq) (a := 1) rfl ⟨_, rfl⟩ rfl (by unfold sR aMi aMa; omega) (fun hc2 => ?_) (fun hc2 => ?_)
            · have hc2 : (1 : Int) = 0 := hc2
              omega
            · have hc2 : ¬ ((1 : Int) = 0) := hc2
              refine sP 2 (g1 := (14, [some (.ref 53), some (sI ((r : Int))), some (sI 1), some (sI ((i : Int)))], [.ref 53, .ref 53], h)) rfl ?_
              refine s_get (a := 53) (j := 1) hh rfl ⟨_, rfl⟩ rfl rfl rfl (v := .ref 55) (hR_ok hh (by decide +kernel)) ?_
              refine sP 2 (g1 := (17, [some (.ref 53), some (sI ((r : Int))), some (sI 1), some (sI ((i : Int)))], [sI ((r : Int)), sI 40, .ref 55, .ref 53], h)) rfl ?_
              refine s_mul (a := 40) (b := (r : Int)) rfl rfl ?_
              refine sP 1 (g1 := (19, [some (.ref 53), some (sI ((r : Int))), some (sI 1), some (sI ((i : Int)))], [sI ((i : Int)), sI (40 * ((r : Int))), .ref 55, .ref 53], h)) rfl ?_
              refine s_add (a := 40 * ((r : Int))) (b := (i : Int)) rfl rfl ?_
              refine s_iald (a := 55) (n := 240) (j := (40 * ((r : Int))) + ((i : Int))) hh rfl rfl rfl (by omega) (by omega) (by decide) (v := sI (hI h 55 (40 * r + i))) (by rw [show ((40 * ((r : Int))) + ((i : Int)) : Int).toNat = 40 * r + i by omega]; exact hI_ok hh (w55 (show 40 * r + i < 240 by omega))) ?_
              have ev3 := fIsPerson (sc := sc) (d := d + 0) (a := hI h 55 (40 * r + i)) hh (by unfold sR aMi aMa; omega)
              rw [if_pos (by omega)] at ev3
              refine s_call (k := 147) (args := [.ref 53, sI (hI h 55 (40 * r + i))]) (st := []) (v := some (sI 1)) (h1 := h) rfl ⟨rfl, rfl⟩ rfl rfl rfl rfl (sRcv hh (a := 53) rfl rfl) rfl ev3 ?_
              refine s_ifc (q := .eq) (a := 1) rfl ⟨_, rfl⟩ rfl (by unfold sR aMi aMa; omega) (fun hc4 => ?_) (fun hc4 => ?_)
              · have hc4 : (1 : Int) = 0 := hc4
                omega
              · have hc4 : ¬ ((1 : Int) = 0) := hc4
                refine sP 4 (g1 := (28, [some (.ref 53), some (sI ((r : Int))), some (sI 1), some (sI ((i : Int)))], [sI 1], h)) rfl ?_
                refine s_ifc (q := .eq) (a := 1) rfl ⟨_, rfl⟩ rfl (by unfold sR aMi aMa; omega) (fun hc5 => ?_) (fun hc5 => ?_)
                · have hc5 : (1 : Int) = 0 := hc5
                  omega
                · have hc5 : ¬ ((1 : Int) = 0) := hc5
                  refine sP 2 (g1 := (31, [some (.ref 53), some (sI ((r : Int))), some (sI 1), some (sI ((i : Int)))], [sI 2, sI ((i : Int))], h)) rfl ?_
                  refine s_remN (a := i) (b := 2) rfl rfl (by omega) (by omega) (by omega) ?_
                  refine s_ifc (q := .eq) (a := ((i % 2 : Nat) : Int)) rfl ⟨_, rfl⟩ rfl (by unfold sR aMi aMa; omega) (fun hc6 => ?_) (fun hc6 => ?_)
                  · have hc6 : ((((i % 2 : Nat) : Int)) : Int) = 0 := hc6
                    refine sP 3 (g1 := (56, [some (.ref 53), some (sI ((r : Int))), some (sI 1), some (sI ((i : Int)))], [], h)) rfl ?_
                    refine s_inc (a := (i : Int)) (n := 1) (k := 3) rfl rfl rfl ?_
                    refine sP 1 (g1 := (4, [some (.ref 53), some (sI ((r : Int))), some (sI 1), some (sI (((i : Int)) + 1))], [], h)) rfl ?_
                    rw [show ((i : Int) + 1) = ((i + 1 : Nat) : Int) by omega]
                    exact i1
                  · have hc6 : ¬ (((((i % 2 : Nat) : Int)) : Int) = 0) := hc6
                    omega
        · rw [decide_eq_false cp, Bool.false_or] at e1
          have rb := hI_sR h 55 (40 * r + (i - 1))
          unfold sR aMi aMa at rb
          by_cases cn : hI h 55 (40 * r + i) = hI h 55 (40 * r + (i - 1))
          · rw [decide_eq_false (fun w => w cn)] at e1
            rw [e1, if_neg (by decide)] at i1
            refine sP 2 (g1 := (6, [some (.ref 53), some (sI ((r : Int))), some (sI 1), some (sI ((i : Int)))], [.ref 53, sI ((i : Int))], h)) rfl ?_
            refine s_get (a := 53) (j := 0) hh rfl ⟨_, rfl⟩ rfl rfl rfl (v := .ref 54) (hR_ok hh (by decide +kernel)) ?_
            refine sP 1 (g1 := (8, [some (.ref 53), some (sI ((r : Int))), some (sI 1), some (sI ((i : Int)))], [sI ((r : Int)), .ref 54, sI ((i : Int))], h)) rfl ?_
            refine s_iald (a := 54) (n := 6) (j := (r : Int)) hh rfl rfl rfl (by omega) (by omega) (by decide) (v := sI ((Z : Int))) (by rw [Int.toNat_natCast]; have q := hI_ok hh (w54 hr); rw [hz] at q; exact q) ?_
            refine s_icmp (q := .ge) (a := (i : Int)) (b := (Z : Int)) rfl ⟨_, rfl⟩ rfl (by unfold sR aMi aMa; omega) (by unfold sR aMi aMa; omega) (fun hc1 => ?_) (fun hc1 => ?_)
            · have hc1 : (((Z : Int)) : Int) ≤ ((i : Int)) := hc1
              omega
            · have hc1 : ¬ ((((Z : Int)) : Int) ≤ ((i : Int))) := hc1
              refine sP 1 (g1 := (11, [some (.ref 53), some (sI ((r : Int))), some (sI 1), some (sI ((i : Int)))], [sI 1], h)) rfl ?_
              refine s_ifc (q := .eq) (a := 1) rfl ⟨_, rfl⟩ rfl (by unfold sR aMi aMa; omega) (fun hc2 => ?_) (fun hc2 => ?_)
              · have hc2 : (1 : Int) = 0 := hc2
                omega
              · have hc2 : ¬ ((1 : Int) = 0) := hc2
                refine sP 2 (g1 := (14, [some (.ref 53), some (sI ((r : Int))), some (sI 1), some (sI ((i : Int)))], [.ref 53, .ref 53], h)) rfl ?_
                refine s_get (a := 53) (j := 1) hh rfl ⟨_, rfl⟩ rfl rfl rfl (v := .ref 55) (hR_ok hh (by decide +kernel)) ?_
                refine sP 2 (g1 := (17, [some (.ref 53), some (sI ((r : Int))), some (sI 1), some (sI ((i : Int)))], [sI ((r : Int)), sI 40, .ref 55, .ref 53], h)) rfl ?_
                refine s_mul (a := 40) (b := (r : Int)) rfl rfl ?_
                refine sP 1 (g1 := (19, [some (.ref 53), some (sI ((r : Int))), some (sI 1), some (sI ((i : Int)))], [sI ((i : Int)), sI (40 * ((r : Int))), .ref 55, .ref 53], h)) rfl ?_
                refine s_add (a := 40 * ((r : Int))) (b := (i : Int)) rfl rfl ?_
                refine s_iald (a := 55) (n := 240) (j := (40 * ((r : Int))) + ((i : Int))) hh rfl rfl rfl (by omega) (by omega) (by decide) (v := sI (hI h 55 (40 * r + i))) (by rw [show ((40 * ((r : Int))) + ((i : Int)) : Int).toNat = 40 * r + i by omega]; exact hI_ok hh (w55 (show 40 * r + i < 240 by omega))) ?_
                have ev3 := fIsPerson (sc := sc) (d := d + 0) (a := hI h 55 (40 * r + i)) hh (by unfold sR aMi aMa; omega)
                rw [if_pos (by omega)] at ev3
                refine s_call (k := 147) (args := [.ref 53, sI (hI h 55 (40 * r + i))]) (st := []) (v := some (sI 1)) (h1 := h) rfl ⟨rfl, rfl⟩ rfl rfl rfl rfl (sRcv hh (a := 53) rfl rfl) rfl ev3 ?_
                refine s_ifc (q := .eq) (a := 1) rfl ⟨_, rfl⟩ rfl (by unfold sR aMi aMa; omega) (fun hc4 => ?_) (fun hc4 => ?_)
                · have hc4 : (1 : Int) = 0 := hc4
                  omega
                · have hc4 : ¬ ((1 : Int) = 0) := hc4
                  refine sP 4 (g1 := (28, [some (.ref 53), some (sI ((r : Int))), some (sI 1), some (sI ((i : Int)))], [sI 1], h)) rfl ?_
                  refine s_ifc (q := .eq) (a := 1) rfl ⟨_, rfl⟩ rfl (by unfold sR aMi aMa; omega) (fun hc5 => ?_) (fun hc5 => ?_)
                  · have hc5 : (1 : Int) = 0 := hc5
                    omega
                  · have hc5 : ¬ ((1 : Int) = 0) := hc5
                    refine sP 2 (g1 := (31, [some (.ref 53), some (sI ((r : Int))), some (sI 1), some (sI ((i : Int)))], [sI 2, sI ((i : Int))], h)) rfl ?_
                    refine s_remN (a := i) (b := 2) rfl rfl (by omega) (by omega) (by omega) ?_
                    refine s_ifc (q := .eq) (a := ((i % 2 : Nat) : Int)) rfl ⟨_, rfl⟩ rfl (by unfold sR aMi aMa; omega) (fun hc6 => ?_) (fun hc6 => ?_)
                    · have hc6 : ((((i % 2 : Nat) : Int)) : Int) = 0 := hc6
                      omega
                    · have hc6 : ¬ (((((i % 2 : Nat) : Int)) : Int) = 0) := hc6
                      refine sP 1 (g1 := (34, [some (.ref 53), some (sI ((r : Int))), some (sI 1), some (sI ((i : Int)))], [.ref 53], h)) rfl ?_
                      refine s_get (a := 53) (j := 1) hh rfl ⟨_, rfl⟩ rfl rfl rfl (v := .ref 55) (hR_ok hh (by decide +kernel)) ?_
                      refine sP 2 (g1 := (37, [some (.ref 53), some (sI ((r : Int))), some (sI 1), some (sI ((i : Int)))], [sI ((r : Int)), sI 40, .ref 55], h)) rfl ?_
                      refine s_mul (a := 40) (b := (r : Int)) rfl rfl ?_
                      refine sP 1 (g1 := (39, [some (.ref 53), some (sI ((r : Int))), some (sI 1), some (sI ((i : Int)))], [sI ((i : Int)), sI (40 * ((r : Int))), .ref 55], h)) rfl ?_
                      refine s_add (a := 40 * ((r : Int))) (b := (i : Int)) rfl rfl ?_
                      refine s_iald (a := 55) (n := 240) (j := (40 * ((r : Int))) + ((i : Int))) hh rfl rfl rfl (by omega) (by omega) (by decide) (v := sI (hI h 55 (40 * r + i))) (by rw [show ((40 * ((r : Int))) + ((i : Int)) : Int).toNat = 40 * r + i by omega]; exact hI_ok hh (w55 (show 40 * r + i < 240 by omega))) ?_
                      refine sP 1 (g1 := (42, [some (.ref 53), some (sI ((r : Int))), some (sI 1), some (sI ((i : Int)))], [.ref 53, sI (hI h 55 (40 * r + i))], h)) rfl ?_
                      refine s_get (a := 53) (j := 1) hh rfl ⟨_, rfl⟩ rfl rfl rfl (v := .ref 55) (hR_ok hh (by decide +kernel)) ?_
                      refine sP 2 (g1 := (45, [some (.ref 53), some (sI ((r : Int))), some (sI 1), some (sI ((i : Int)))], [sI ((r : Int)), sI 40, .ref 55, sI (hI h 55 (40 * r + i))], h)) rfl ?_
                      refine s_mul (a := 40) (b := (r : Int)) rfl rfl ?_
                      refine sP 1 (g1 := (47, [some (.ref 53), some (sI ((r : Int))), some (sI 1), some (sI ((i : Int)))], [sI ((i : Int)), sI (40 * ((r : Int))), .ref 55, sI (hI h 55 (40 * r + i))], h)) rfl ?_
                      refine s_add (a := 40 * ((r : Int))) (b := (i : Int)) rfl rfl ?_
                      refine sP 1 (g1 := (49, [some (.ref 53), some (sI ((r : Int))), some (sI 1), some (sI ((i : Int)))], [sI 1, sI ((40 * ((r : Int))) + ((i : Int))), .ref 55, sI (hI h 55 (40 * r + i))], h)) rfl ?_
                      refine s_sub (a := (40 * ((r : Int))) + ((i : Int))) (b := 1) rfl rfl ?_
                      refine s_iald (a := 55) (n := 240) (j := ((40 * ((r : Int))) + ((i : Int))) - 1) hh rfl rfl rfl (by omega) (by omega) (by decide) (v := sI (hI h 55 (40 * r + (i - 1)))) (by rw [show (((40 * ((r : Int))) + ((i : Int))) - 1 : Int).toNat = 40 * r + (i - 1) by omega]; exact hI_ok hh (w55 (show 40 * r + (i - 1) < 240 by omega))) ?_
                      refine s_icmp (q := .eq) (a := hI h 55 (40 * r + i)) (b := hI h 55 (40 * r + (i - 1))) rfl ⟨_, rfl⟩ rfl (by unfold sR aMi aMa; omega) (by unfold sR aMi aMa; omega) (fun hc7 => ?_) (fun hc7 => ?_)
                      · have hc7 : ((hI h 55 (40 * r + i)) : Int) = (hI h 55 (40 * r + (i - 1))) := hc7
                        refine sP 2 (g1 := (56, [some (.ref 53), some (sI ((r : Int))), some (sI 0), some (sI ((i : Int)))], [], h)) rfl ?_
                        refine s_inc (a := (i : Int)) (n := 1) (k := 3) rfl rfl rfl ?_
                        refine sP 1 (g1 := (4, [some (.ref 53), some (sI ((r : Int))), some (sI 0), some (sI (((i : Int)) + 1))], [], h)) rfl ?_
                        rw [show ((i : Int) + 1) = ((i + 1 : Nat) : Int) by omega]
                        exact i1
                      · have hc7 : ¬ (((hI h 55 (40 * r + i)) : Int) = (hI h 55 (40 * r + (i - 1)))) := hc7
                        omega
          · rw [decide_eq_true cn] at e1
            rw [e1, if_pos rfl] at i1
            refine sP 2 (g1 := (6, [some (.ref 53), some (sI ((r : Int))), some (sI 1), some (sI ((i : Int)))], [.ref 53, sI ((i : Int))], h)) rfl ?_
            refine s_get (a := 53) (j := 0) hh rfl ⟨_, rfl⟩ rfl rfl rfl (v := .ref 54) (hR_ok hh (by decide +kernel)) ?_
            refine sP 1 (g1 := (8, [some (.ref 53), some (sI ((r : Int))), some (sI 1), some (sI ((i : Int)))], [sI ((r : Int)), .ref 54, sI ((i : Int))], h)) rfl ?_
            refine s_iald (a := 54) (n := 6) (j := (r : Int)) hh rfl rfl rfl (by omega) (by omega) (by decide) (v := sI ((Z : Int))) (by rw [Int.toNat_natCast]; have q := hI_ok hh (w54 hr); rw [hz] at q; exact q) ?_
            refine s_icmp (q := .ge) (a := (i : Int)) (b := (Z : Int)) rfl ⟨_, rfl⟩ rfl (by unfold sR aMi aMa; omega) (by unfold sR aMi aMa; omega) (fun hc1 => ?_) (fun hc1 => ?_)
            · have hc1 : (((Z : Int)) : Int) ≤ ((i : Int)) := hc1
              omega
            · have hc1 : ¬ ((((Z : Int)) : Int) ≤ ((i : Int))) := hc1
              refine sP 1 (g1 := (11, [some (.ref 53), some (sI ((r : Int))), some (sI 1), some (sI ((i : Int)))], [sI 1], h)) rfl ?_
              refine s_ifc (q := .eq) (a := 1) rfl ⟨_, rfl⟩ rfl (by unfold sR aMi aMa; omega) (fun hc2 => ?_) (fun hc2 => ?_)
              · have hc2 : (1 : Int) = 0 := hc2
                omega
              · have hc2 : ¬ ((1 : Int) = 0) := hc2
                refine sP 2 (g1 := (14, [some (.ref 53), some (sI ((r : Int))), some (sI 1), some (sI ((i : Int)))], [.ref 53, .ref 53], h)) rfl ?_
                refine s_get (a := 53) (j := 1) hh rfl ⟨_, rfl⟩ rfl rfl rfl (v := .ref 55) (hR_ok hh (by decide +kernel)) ?_
                refine sP 2 (g1 := (17, [some (.ref 53), some (sI ((r : Int))), some (sI 1), some (sI ((i : Int)))], [sI ((r : Int)), sI 40, .ref 55, .ref 53], h)) rfl ?_
                refine s_mul (a := 40) (b := (r : Int)) rfl rfl ?_
                refine sP 1 (g1 := (19, [some (.ref 53), some (sI ((r : Int))), some (sI 1), some (sI ((i : Int)))], [sI ((i : Int)), sI (40 * ((r : Int))), .ref 55, .ref 53], h)) rfl ?_
                refine s_add (a := 40 * ((r : Int))) (b := (i : Int)) rfl rfl ?_
                refine s_iald (a := 55) (n := 240) (j := (40 * ((r : Int))) + ((i : Int))) hh rfl rfl rfl (by omega) (by omega) (by decide) (v := sI (hI h 55 (40 * r + i))) (by rw [show ((40 * ((r : Int))) + ((i : Int)) : Int).toNat = 40 * r + i by omega]; exact hI_ok hh (w55 (show 40 * r + i < 240 by omega))) ?_
                have ev3 := fIsPerson (sc := sc) (d := d + 0) (a := hI h 55 (40 * r + i)) hh (by unfold sR aMi aMa; omega)
                rw [if_pos (by omega)] at ev3
                refine s_call (k := 147) (args := [.ref 53, sI (hI h 55 (40 * r + i))]) (st := []) (v := some (sI 1)) (h1 := h) rfl ⟨rfl, rfl⟩ rfl rfl rfl rfl (sRcv hh (a := 53) rfl rfl) rfl ev3 ?_
                refine s_ifc (q := .eq) (a := 1) rfl ⟨_, rfl⟩ rfl (by unfold sR aMi aMa; omega) (fun hc4 => ?_) (fun hc4 => ?_)
                · have hc4 : (1 : Int) = 0 := hc4
                  omega
                · have hc4 : ¬ ((1 : Int) = 0) := hc4
                  refine sP 4 (g1 := (28, [some (.ref 53), some (sI ((r : Int))), some (sI 1), some (sI ((i : Int)))], [sI 1], h)) rfl ?_
                  refine s_ifc (q := .eq) (a := 1) rfl ⟨_, rfl⟩ rfl (by unfold sR aMi aMa; omega) (fun hc5 => ?_) (fun hc5 => ?_)
                  · have hc5 : (1 : Int) = 0 := hc5
                    omega
                  · have hc5 : ¬ ((1 : Int) = 0) := hc5
                    refine sP 2 (g1 := (31, [some (.ref 53), some (sI ((r : Int))), some (sI 1), some (sI ((i : Int)))], [sI 2, sI ((i : Int))], h)) rfl ?_
                    refine s_remN (a := i) (b := 2) rfl rfl (by omega) (by omega) (by omega) ?_
                    refine s_ifc (q := .eq) (a := ((i % 2 : Nat) : Int)) rfl ⟨_, rfl⟩ rfl (by unfold sR aMi aMa; omega) (fun hc6 => ?_) (fun hc6 => ?_)
                    · have hc6 : ((((i % 2 : Nat) : Int)) : Int) = 0 := hc6
                      omega
                    · have hc6 : ¬ (((((i % 2 : Nat) : Int)) : Int) = 0) := hc6
                      refine sP 1 (g1 := (34, [some (.ref 53), some (sI ((r : Int))), some (sI 1), some (sI ((i : Int)))], [.ref 53], h)) rfl ?_
                      refine s_get (a := 53) (j := 1) hh rfl ⟨_, rfl⟩ rfl rfl rfl (v := .ref 55) (hR_ok hh (by decide +kernel)) ?_
                      refine sP 2 (g1 := (37, [some (.ref 53), some (sI ((r : Int))), some (sI 1), some (sI ((i : Int)))], [sI ((r : Int)), sI 40, .ref 55], h)) rfl ?_
                      refine s_mul (a := 40) (b := (r : Int)) rfl rfl ?_
                      refine sP 1 (g1 := (39, [some (.ref 53), some (sI ((r : Int))), some (sI 1), some (sI ((i : Int)))], [sI ((i : Int)), sI (40 * ((r : Int))), .ref 55], h)) rfl ?_
                      refine s_add (a := 40 * ((r : Int))) (b := (i : Int)) rfl rfl ?_
                      refine s_iald (a := 55) (n := 240) (j := (40 * ((r : Int))) + ((i : Int))) hh rfl rfl rfl (by omega) (by omega) (by decide) (v := sI (hI h 55 (40 * r + i))) (by rw [show ((40 * ((r : Int))) + ((i : Int)) : Int).toNat = 40 * r + i by omega]; exact hI_ok hh (w55 (show 40 * r + i < 240 by omega))) ?_
                      refine sP 1 (g1 := (42, [some (.ref 53), some (sI ((r : Int))), some (sI 1), some (sI ((i : Int)))], [.ref 53, sI (hI h 55 (40 * r + i))], h)) rfl ?_
                      refine s_get (a := 53) (j := 1) hh rfl ⟨_, rfl⟩ rfl rfl rfl (v := .ref 55) (hR_ok hh (by decide +kernel)) ?_
                      refine sP 2 (g1 := (45, [some (.ref 53), some (sI ((r : Int))), some (sI 1), some (sI ((i : Int)))], [sI ((r : Int)), sI 40, .ref 55, sI (hI h 55 (40 * r + i))], h)) rfl ?_
                      refine s_mul (a := 40) (b := (r : Int)) rfl rfl ?_
                      refine sP 1 (g1 := (47, [some (.ref 53), some (sI ((r : Int))), some (sI 1), some (sI ((i : Int)))], [sI ((i : Int)), sI (40 * ((r : Int))), .ref 55, sI (hI h 55 (40 * r + i))], h)) rfl ?_
                      refine s_add (a := 40 * ((r : Int))) (b := (i : Int)) rfl rfl ?_
                      refine sP 1 (g1 := (49, [some (.ref 53), some (sI ((r : Int))), some (sI 1), some (sI ((i : Int)))], [sI 1, sI ((40 * ((r : Int))) + ((i : Int))), .ref 55, sI (hI h 55 (40 * r + i))], h)) rfl ?_
                      refine s_sub (a := (40 * ((r : Int))) + ((i : Int))) (b := 1) rfl rfl ?_
                      refine s_iald (a := 55) (n := 240) (j := ((40 * ((r : Int))) + ((i : Int))) - 1) hh rfl rfl rfl (by omega) (by omega) (by decide) (v := sI (hI h 55 (40 * r + (i - 1)))) (by rw [show (((40 * ((r : Int))) + ((i : Int))) - 1 : Int).toNat = 40 * r + (i - 1) by omega]; exact hI_ok hh (w55 (show 40 * r + (i - 1) < 240 by omega))) ?_
                      refine s_icmp (q := .eq) (a := hI h 55 (40 * r + i)) (b := hI h 55 (40 * r + (i - 1))) rfl ⟨_, rfl⟩ rfl (by unfold sR aMi aMa; omega) (by unfold sR aMi aMa; omega) (fun hc7 => ?_) (fun hc7 => ?_)
                      · have hc7 : ((hI h 55 (40 * r + i)) : Int) = (hI h 55 (40 * r + (i - 1))) := hc7
                        omega
                      · have hc7 : ¬ (((hI h 55 (40 * r + i)) : Int) = (hI h 55 (40 * r + (i - 1)))) := hc7
                        refine sP 3 (g1 := (56, [some (.ref 53), some (sI ((r : Int))), some (sI 1), some (sI ((i : Int)))], [], h)) rfl ?_
                        refine s_inc (a := (i : Int)) (n := 1) (k := 3) rfl rfl rfl ?_
                        refine sP 1 (g1 := (4, [some (.ref 53), some (sI ((r : Int))), some (sI 1), some (sI (((i : Int)) + 1))], [], h)) rfl ?_
                        rw [show ((i : Int) + 1) = ((i + 1 : Nat) : Int) by omega]
                        exact i1
      · rw [decide_eq_false cr, Bool.false_and] at e1
        rw [e1, if_neg (by decide)] at i1
        refine sP 2 (g1 := (6, [some (.ref 53), some (sI ((r : Int))), some (sI 1), some (sI ((i : Int)))], [.ref 53, sI ((i : Int))], h)) rfl ?_
        refine s_get (a := 53) (j := 0) hh rfl ⟨_, rfl⟩ rfl rfl rfl (v := .ref 54) (hR_ok hh (by decide +kernel)) ?_
        refine sP 1 (g1 := (8, [some (.ref 53), some (sI ((r : Int))), some (sI 1), some (sI ((i : Int)))], [sI ((r : Int)), .ref 54, sI ((i : Int))], h)) rfl ?_
        refine s_iald (a := 54) (n := 6) (j := (r : Int)) hh rfl rfl rfl (by omega) (by omega) (by decide) (v := sI ((Z : Int))) (by rw [Int.toNat_natCast]; have q := hI_ok hh (w54 hr); rw [hz] at q; exact q) ?_
        refine s_icmp (q := .ge) (a := (i : Int)) (b := (Z : Int)) rfl ⟨_, rfl⟩ rfl (by unfold sR aMi aMa; omega) (by unfold sR aMi aMa; omega) (fun hc1 => ?_) (fun hc1 => ?_)
        · have hc1 : (((Z : Int)) : Int) ≤ ((i : Int)) := hc1
          omega
        · have hc1 : ¬ ((((Z : Int)) : Int) ≤ ((i : Int))) := hc1
          refine sP 1 (g1 := (11, [some (.ref 53), some (sI ((r : Int))), some (sI 1), some (sI ((i : Int)))], [sI 1], h)) rfl ?_
          refine s_ifc (q := .eq) (a := 1) rfl ⟨_, rfl⟩ rfl (by unfold sR aMi aMa; omega) (fun hc2 => ?_) (fun hc2 => ?_)
          · have hc2 : (1 : Int) = 0 := hc2
            omega
          · have hc2 : ¬ ((1 : Int) = 0) := hc2
            refine sP 2 (g1 := (14, [some (.ref 53), some (sI ((r : Int))), some (sI 1), some (sI ((i : Int)))], [.ref 53, .ref 53], h)) rfl ?_
            refine s_get (a := 53) (j := 1) hh rfl ⟨_, rfl⟩ rfl rfl rfl (v := .ref 55) (hR_ok hh (by decide +kernel)) ?_
            refine sP 2 (g1 := (17, [some (.ref 53), some (sI ((r : Int))), some (sI 1), some (sI ((i : Int)))], [sI ((r : Int)), sI 40, .ref 55, .ref 53], h)) rfl ?_
            refine s_mul (a := 40) (b := (r : Int)) rfl rfl ?_
            refine sP 1 (g1 := (19, [some (.ref 53), some (sI ((r : Int))), some (sI 1), some (sI ((i : Int)))], [sI ((i : Int)), sI (40 * ((r : Int))), .ref 55, .ref 53], h)) rfl ?_
            refine s_add (a := 40 * ((r : Int))) (b := (i : Int)) rfl rfl ?_
            refine s_iald (a := 55) (n := 240) (j := (40 * ((r : Int))) + ((i : Int))) hh rfl rfl rfl (by omega) (by omega) (by decide) (v := sI (hI h 55 (40 * r + i))) (by rw [show ((40 * ((r : Int))) + ((i : Int)) : Int).toNat = 40 * r + i by omega]; exact hI_ok hh (w55 (show 40 * r + i < 240 by omega))) ?_
            have ev3 := fIsPerson (sc := sc) (d := d + 0) (a := hI h 55 (40 * r + i)) hh (by unfold sR aMi aMa; omega)
            rw [if_neg (by omega)] at ev3
            refine s_call (k := 147) (args := [.ref 53, sI (hI h 55 (40 * r + i))]) (st := []) (v := some (sI 0)) (h1 := h) rfl ⟨rfl, rfl⟩ rfl rfl rfl rfl (sRcv hh (a := 53) rfl rfl) rfl ev3 ?_
            refine s_ifc (q := .eq) (a := 0) rfl ⟨_, rfl⟩ rfl (by unfold sR aMi aMa; omega) (fun hc4 => ?_) (fun hc4 => ?_)
            · have hc4 : (0 : Int) = 0 := hc4
              refine sP 3 (g1 := (28, [some (.ref 53), some (sI ((r : Int))), some (sI 0), some (sI ((i : Int)))], [sI 0], h)) rfl ?_
              refine s_ifc (q := .eq) (a := 0) rfl ⟨_, rfl⟩ rfl (by unfold sR aMi aMa; omega) (fun hc5 => ?_) (fun hc5 => ?_)
              · have hc5 : (0 : Int) = 0 := hc5
                refine sP 2 (g1 := (56, [some (.ref 53), some (sI ((r : Int))), some (sI 0), some (sI ((i : Int)))], [], h)) rfl ?_
                refine s_inc (a := (i : Int)) (n := 1) (k := 3) rfl rfl rfl ?_
                refine sP 1 (g1 := (4, [some (.ref 53), some (sI ((r : Int))), some (sI 0), some (sI (((i : Int)) + 1))], [], h)) rfl ?_
                rw [show ((i : Int) + 1) = ((i + 1 : Nat) : Int) by omega]
                exact i1
              · have hc5 : ¬ ((0 : Int) = 0) := hc5
                omega
            · have hc4 : ¬ ((0 : Int) = 0) := hc4
              omega
    · rw [if_neg ca]
      rw [Bool.eq_false_iff.mpr ca, Bool.false_and] at e1
      rw [e1, if_neg (by decide)] at i1
      refine sP 2 (g1 := (6, [some (.ref 53), some (sI ((r : Int))), some (sI 0), some (sI ((i : Int)))], [.ref 53, sI ((i : Int))], h)) rfl ?_
      refine s_get (a := 53) (j := 0) hh rfl ⟨_, rfl⟩ rfl rfl rfl (v := .ref 54) (hR_ok hh (by decide +kernel)) ?_
      refine sP 1 (g1 := (8, [some (.ref 53), some (sI ((r : Int))), some (sI 0), some (sI ((i : Int)))], [sI ((r : Int)), .ref 54, sI ((i : Int))], h)) rfl ?_
      refine s_iald (a := 54) (n := 6) (j := (r : Int)) hh rfl rfl rfl (by omega) (by omega) (by decide) (v := sI ((Z : Int))) (by rw [Int.toNat_natCast]; have q := hI_ok hh (w54 hr); rw [hz] at q; exact q) ?_
      refine s_icmp (q := .ge) (a := (i : Int)) (b := (Z : Int)) rfl ⟨_, rfl⟩ rfl (by unfold sR aMi aMa; omega) (by unfold sR aMi aMa; omega) (fun hc1 => ?_) (fun hc1 => ?_)
      · have hc1 : (((Z : Int)) : Int) ≤ ((i : Int)) := hc1
        omega
      · have hc1 : ¬ ((((Z : Int)) : Int) ≤ ((i : Int))) := hc1
        refine sP 1 (g1 := (11, [some (.ref 53), some (sI ((r : Int))), some (sI 0), some (sI ((i : Int)))], [sI 0], h)) rfl ?_
        refine s_ifc (q := .eq) (a := 0) rfl ⟨_, rfl⟩ rfl (by unfold sR aMi aMa; omega) (fun hc2 => ?_) (fun hc2 => ?_)
        · have hc2 : (0 : Int) = 0 := hc2
          refine sP 3 (g1 := (28, [some (.ref 53), some (sI ((r : Int))), some (sI 0), some (sI ((i : Int)))], [sI 0], h)) rfl ?_
          refine s_ifc (q := .eq) (a := 0) rfl ⟨_, rfl⟩ rfl (by unfold sR aMi aMa; omega) (fun hc3 => ?_) (fun hc3 => ?_)
          · have hc3 : (0 : Int) = 0 := hc3
            refine sP 2 (g1 := (56, [some (.ref 53), some (sI ((r : Int))), some (sI 0), some (sI ((i : Int)))], [], h)) rfl ?_
            refine s_inc (a := (i : Int)) (n := 1) (k := 3) rfl rfl rfl ?_
            refine sP 1 (g1 := (4, [some (.ref 53), some (sI ((r : Int))), some (sI 0), some (sI (((i : Int)) + 1))], [], h)) rfl ?_
            rw [show ((i : Int) + 1) = ((i + 1 : Nat) : Int) by omega]
            exact i1
          · have hc3 : ¬ ((0 : Int) = 0) := hc3
            omega
        · have hc2 : ¬ ((0 : Int) = 0) := hc2
          omega
theorem fAreP {r Z : Nat} (hh : aHp h) (hr : r < 6) (hz : hI h 54 r = (Z : Int)) (hZ : Z ≤ 40) : nEv sc (d + 3) 191 [.ref 53, sI (r : Int)] h (some (sI (if arB (fun i => hI h 55 (40 * r + i)) (hI h 58 0) Z = true then 1 else 0)), h) := by
  have i1 := fArePL (sc := sc) (d := d) hh hr hz hZ Z 0 (by omega)
  rw [if_pos (show arB (fun i => hI h 55 (40 * r + i)) (hI h 58 0) 0 = true from rfl)] at i1
  refine nEv_of (t := mMe191) rfl ?_
  show nRn sc (d + 2) (mMT mMe191) (mMC mMe191) (0, [some (.ref 53), some (sI ((r : Int))), none, none], [], h) _
  refine sP 4 (g1 := (4, [some (.ref 53), some (sI ((r : Int))), some (sI 1), some (sI 0)], [], h)) rfl ?_
  exact i1
theorem fStepsXb0 {r : Int} (hh : aHp h) (rr : sR r) (hc : ¬ (0 ≤ r ∧ r < 6)) : nEv sc (d + 8) 84 [.ref 0, sI r] h (some (sI (-1)), h) := by
  unfold sR aMi aMa at rr
  refine nEv_of (t := mMe84) rfl ?_
  show nRn sc (d + 7) (mMT mMe84) (mMC mMe84) (0, [some (.ref 0), some (sI r), none, none, none], [], h) _
  refine sP 2 (g1 := (2, [some (.ref 0), some (sI r), none, none, none], [sI r, .ref 0], h)) rfl ?_
  refine s_call (k := 8) (args := [.ref 0, sI r]) (st := []) (v := some (.null)) (h1 := h) rfl ⟨rfl, rfl⟩ rfl rfl rfl rfl (sRcv hh (a := 0) rfl rfl) rfl (fRowNo (by unfold sR aMi aMa; omega) (by omega)) ?_
  refine sP 2 (g1 := (5, [some (.ref 0), some (sI r), some (.null), none, none], [.null], h)) rfl ?_
  refine s_nil rfl (Or.inr ⟨⟨_, rfl⟩, rfl⟩) ?_
  refine sP 1 (g1 := (7, [some (.ref 0), some (sI r), some (.null), none, none], [sI ((-1))], h)) rfl ?_
  exact s_reti rfl rfl (Or.inl rfl) rfl rfl
theorem fStepsXs {r : Nat} (hh : aHp h) (hr : r < 6) (hc : hI h 3 3 = 0) : nEv sc (d + 8) 84 [.ref 0, sI (r : Int)] h (some (sI (-4)), h) := by
  refine nEv_of (t := mMe84) rfl ?_
  show nRn sc (d + 7) (mMT mMe84) (mMC mMe84) (0, [some (.ref 0), some (sI ((r : Int))), none, none, none], [], h) _
  refine sP 2 (g1 := (2, [some (.ref 0), some (sI ((r : Int))), none, none, none], [sI ((r : Int)), .ref 0], h)) rfl ?_
  refine s_call (k := 8) (args := [.ref 0, sI ((r : Int))]) (st := []) (v := some (.ref (21 + 2 * r))) (h1 := h) rfl ⟨rfl, rfl⟩ rfl rfl rfl rfl (sRcv hh (a := 0) rfl rfl) rfl (fRowAt hh hr) ?_
  refine sP 2 (g1 := (5, [some (.ref 0), some (sI ((r : Int))), some (.ref (21 + 2 * r)), none, none], [.ref (21 + 2 * r)], h)) rfl ?_
  refine s_null rfl (Or.inr ⟨⟨_, rfl⟩, rfl⟩) ?_
  refine sP 1 (g1 := (9, [some (.ref 0), some (sI ((r : Int))), some (.ref (21 + 2 * r)), none, none], [.ref 0], h)) rfl ?_
  refine s_get (a := 0) (j := 2) hh rfl ⟨_, rfl⟩ rfl rfl rfl (v := .ref 3) (hR_ok hh (by decide +kernel)) ?_
  have rg1 := hI_rg (a := 3) (j := 3) (lo := 0) (hi := 6) hh (by decide +kernel)
  refine s_get (a := 3) (j := 3) hh rfl ⟨_, rfl⟩ rfl rfl rfl (v := sI (hI h 3 3)) (hI_ok (lo := 0) (hi := 6) hh (by decide +kernel)) ?_
  refine s_ifc (q := .ne) (a := hI h 3 3) rfl ⟨_, rfl⟩ rfl (by unfold sR aMi aMa; omega) (fun hc2 => ?_) (fun hc2 => ?_)
  · have hc2 : ((hI h 3 3) : Int) ≠ 0 := hc2
    omega
  · have hc2 : ¬ (((hI h 3 3) : Int) ≠ 0) := hc2
    refine sP 1 (g1 := (13, [some (.ref 0), some (sI ((r : Int))), some (.ref (21 + 2 * r)), none, none], [sI ((-4))], h)) rfl ?_
    exact s_reti rfl rfl (Or.inl rfl) rfl rfl
theorem fStepsXw {r f : Nat} (hh : aHp h) (hr : r < 6) (hn : hI h 3 3 ≠ 0) (f1 : 1 ≤ f) (f6 : f < 6) (ew : nEv sc (d + 7) 85 [.ref 0, .ref (21 + 2 * r)] h (some (sI (f : Int)), h)) : ∃ g, nEv sc (d + 8) 84 [.ref 0, sI (r : Int)] h (some (sI (-3)), g) ∧ oFX f h g := by
  obtain ⟨g1, r1, r2, r3⟩ := fFoundX (sc := sc) (d := d + 6) (f := f) hh f6
  refine ⟨g1, nEv_of (t := mMe84) rfl ?_, r2, r3⟩
  show nRn sc (d + 7) (mMT mMe84) (mMC mMe84) (0, [some (.ref 0), some (sI ((r : Int))), none, none, none], [], h) _
  refine sP 2 (g1 := (2, [some (.ref 0), some (sI ((r : Int))), none, none, none], [sI ((r : Int)), .ref 0], h)) rfl ?_
  refine s_call (k := 8) (args := [.ref 0, sI ((r : Int))]) (st := []) (v := some (.ref (21 + 2 * r))) (h1 := h) rfl ⟨rfl, rfl⟩ rfl rfl rfl rfl (sRcv hh (a := 0) rfl rfl) rfl (fRowAt hh hr) ?_
  refine sP 2 (g1 := (5, [some (.ref 0), some (sI ((r : Int))), some (.ref (21 + 2 * r)), none, none], [.ref (21 + 2 * r)], h)) rfl ?_
  refine s_null rfl (Or.inr ⟨⟨_, rfl⟩, rfl⟩) ?_
  refine sP 1 (g1 := (9, [some (.ref 0), some (sI ((r : Int))), some (.ref (21 + 2 * r)), none, none], [.ref 0], h)) rfl ?_
  refine s_get (a := 0) (j := 2) hh rfl ⟨_, rfl⟩ rfl rfl rfl (v := .ref 3) (hR_ok hh (by decide +kernel)) ?_
  have rg1 := hI_rg (a := 3) (j := 3) (lo := 0) (hi := 6) hh (by decide +kernel)
  refine s_get (a := 3) (j := 3) hh rfl ⟨_, rfl⟩ rfl rfl rfl (v := sI (hI h 3 3)) (hI_ok (lo := 0) (hi := 6) hh (by decide +kernel)) ?_
  refine s_ifc (q := .ne) (a := hI h 3 3) rfl ⟨_, rfl⟩ rfl (by unfold sR aMi aMa; omega) (fun hc2 => ?_) (fun hc2 => ?_)
  · have hc2 : ((hI h 3 3) : Int) ≠ 0 := hc2
    refine sP 2 (g1 := (16, [some (.ref 0), some (sI ((r : Int))), some (.ref (21 + 2 * r)), none, none], [.ref (21 + 2 * r), .ref 0], h)) rfl ?_
    refine s_call (k := 85) (args := [.ref 0, .ref (21 + 2 * r)]) (st := []) (v := some (sI ((f : Int)))) (h1 := h) rfl ⟨rfl, rfl⟩ rfl rfl rfl rfl (sRcv hh (a := 0) rfl rfl) rfl ew ?_
    refine sP 2 (g1 := (19, [some (.ref 0), some (sI ((r : Int))), some (.ref (21 + 2 * r)), some (sI ((f : Int))), none], [sI ((f : Int))], h)) rfl ?_
    refine s_ifc (q := .eq) (a := (f : Int)) rfl ⟨_, rfl⟩ rfl (by unfold sR aMi aMa; omega) (fun hc3 => ?_) (fun hc3 => ?_)
    · have hc3 : (((f : Int)) : Int) = 0 := hc3
      omega
    · have hc3 : ¬ ((((f : Int)) : Int) = 0) := hc3
      refine sP 2 (g1 := (22, [some (.ref 0), some (sI ((r : Int))), some (.ref (21 + 2 * r)), some (sI ((f : Int))), none], [sI ((f : Int)), .ref 0], h)) rfl ?_
      refine s_call (k := 9) (args := [.ref 0, sI ((f : Int))]) (st := []) (v := some (sI ((-3)))) (h1 := g1) rfl ⟨rfl, rfl⟩ rfl rfl rfl rfl (sRcv hh (a := 0) rfl rfl) rfl r1 ?_
      exact s_reti rfl rfl (Or.inl rfl) rfl rfl
  · have hc2 : ¬ (((hI h 3 3) : Int) ≠ 0) := hc2
    omega
theorem fStepsX {r : Nat} {z : Int} {g1 : mH} (hh : aHp h) (hr : r < 6) (hn : hI h 3 3 ≠ 0) (ew : nEv sc (d + 7) 85 [.ref 0, .ref (21 + 2 * r)] h (some (sI 0), h)) (ef : nEv sc (d + 7) 86 [.ref 13, .ref 3, .ref (21 + 2 * r)] h (some (sI z), g1)) (hg1 : aHp g1) (rz : -9 ≤ z ∧ z ≤ 100000) : ∃ g2, nEv sc (d + 8) 84 [.ref 0, sI (r : Int)] h (some (sI z), g2) ∧ aHp g2 ∧ ∀ p m, aSlot g2 p m = if z ≠ -9 ∧ p = 0 ∧ m = 9 then some (sI (hI g1 13 3)) else aSlot g1 p m := by
  by_cases c : z = -9
  · refine ⟨g1, nEv_of (t := mMe84) rfl ?_, hg1, fun p m => by rw [if_neg (fun q => q.1 c)]⟩
    show nRn sc (d + 7) (mMT mMe84) (mMC mMe84) (0, [some (.ref 0), some (sI ((r : Int))), none, none, none], [], h) _
    refine sP 2 (g1 := (2, [some (.ref 0), some (sI ((r : Int))), none, none, none], [sI ((r : Int)), .ref 0], h)) rfl ?_
    refine s_call (k := 8) (args := [.ref 0, sI ((r : Int))]) (st := []) (v := some (.ref (21 + 2 * r))) (h1 := h) rfl ⟨rfl, rfl⟩ rfl rfl rfl rfl (sRcv hh (a := 0) rfl rfl) rfl (fRowAt hh hr) ?_
    refine sP 2 (g1 := (5, [some (.ref 0), some (sI ((r : Int))), some (.ref (21 + 2 * r)), none, none], [.ref (21 + 2 * r)], h)) rfl ?_
    refine s_null rfl (Or.inr ⟨⟨_, rfl⟩, rfl⟩) ?_
    refine sP 1 (g1 := (9, [some (.ref 0), some (sI ((r : Int))), some (.ref (21 + 2 * r)), none, none], [.ref 0], h)) rfl ?_
    refine s_get (a := 0) (j := 2) hh rfl ⟨_, rfl⟩ rfl rfl rfl (v := .ref 3) (hR_ok hh (by decide +kernel)) ?_
    have rg1 := hI_rg (a := 3) (j := 3) (lo := 0) (hi := 6) hh (by decide +kernel)
    refine s_get (a := 3) (j := 3) hh rfl ⟨_, rfl⟩ rfl rfl rfl (v := sI (hI h 3 3)) (hI_ok (lo := 0) (hi := 6) hh (by decide +kernel)) ?_
    refine s_ifc (q := .ne) (a := hI h 3 3) rfl ⟨_, rfl⟩ rfl (by unfold sR aMi aMa; omega) (fun hc2 => ?_) (fun hc2 => ?_)
    · have hc2 : ((hI h 3 3) : Int) ≠ 0 := hc2
      refine sP 2 (g1 := (16, [some (.ref 0), some (sI ((r : Int))), some (.ref (21 + 2 * r)), none, none], [.ref (21 + 2 * r), .ref 0], h)) rfl ?_
      refine s_call (k := 85) (args := [.ref 0, .ref (21 + 2 * r)]) (st := []) (v := some (sI 0)) (h1 := h) rfl ⟨rfl, rfl⟩ rfl rfl rfl rfl (sRcv hh (a := 0) rfl rfl) rfl ew ?_
      refine sP 2 (g1 := (19, [some (.ref 0), some (sI ((r : Int))), some (.ref (21 + 2 * r)), some (sI 0), none], [sI 0], h)) rfl ?_
      refine s_ifc (q := .eq) (a := 0) rfl ⟨_, rfl⟩ rfl (by unfold sR aMi aMa; omega) (fun hc3 => ?_) (fun hc3 => ?_)
      · have hc3 : (0 : Int) = 0 := hc3
        refine sP 1 (g1 := (25, [some (.ref 0), some (sI ((r : Int))), some (.ref (21 + 2 * r)), some (sI 0), none], [.ref 0], h)) rfl ?_
        refine s_get (a := 0) (j := 5) hh rfl ⟨_, rfl⟩ rfl rfl rfl (v := .ref 13) (hR_ok hh (by decide +kernel)) ?_
        refine sP 1 (g1 := (27, [some (.ref 0), some (sI ((r : Int))), some (.ref (21 + 2 * r)), some (sI 0), none], [.ref 0, .ref 13], h)) rfl ?_
        refine s_get (a := 0) (j := 2) hh rfl ⟨_, rfl⟩ rfl rfl rfl (v := .ref 3) (hR_ok hh (by decide +kernel)) ?_
        refine sP 1 (g1 := (29, [some (.ref 0), some (sI ((r : Int))), some (.ref (21 + 2 * r)), some (sI 0), none], [.ref (21 + 2 * r), .ref 3, .ref 13], h)) rfl ?_
        refine s_call (k := 86) (args := [.ref 13, .ref 3, .ref (21 + 2 * r)]) (st := []) (v := some (sI z)) (h1 := g1) rfl ⟨rfl, rfl⟩ rfl rfl rfl rfl (sRcv hh (a := 13) rfl rfl) rfl ef ?_
        refine sP 3 (g1 := (33, [some (.ref 0), some (sI ((r : Int))), some (.ref (21 + 2 * r)), some (sI 0), some (sI z)], [sI ((-9)), sI z], g1)) rfl ?_
        refine s_icmp (q := .eq) (a := z) (b := (-9)) rfl ⟨_, rfl⟩ rfl (by unfold sR aMi aMa; omega) (by unfold sR aMi aMa; omega) (fun hc4 => ?_) (fun hc4 => ?_)
        · have hc4 : (z : Int) = ((-9)) := hc4
          refine sP 1 (g1 := (40, [some (.ref 0), some (sI ((r : Int))), some (.ref (21 + 2 * r)), some (sI 0), some (sI z)], [sI z], g1)) rfl ?_
          exact s_reti rfl rfl (Or.inl rfl) rfl rfl
        · have hc4 : ¬ ((z : Int) = ((-9))) := hc4
          omega
      · have hc3 : ¬ ((0 : Int) = 0) := hc3
        omega
    · have hc2 : ¬ (((hI h 3 3) : Int) ≠ 0) := hc2
      omega
  · obtain ⟨g2, eg2⟩ : ∃ gz, gz = hset g1 0 9 (sI (hI g1 13 3)) := ⟨_, rfl⟩
    have sg2 : ∀ xa xm, aSlot g2 xa xm = if xa = 0 ∧ xm = 9 then some (sI (hI g1 13 3)) else aSlot g1 xa xm := fun xa xm => by rw [eg2]; exact hset_slot hg1 (show sTg 0 = some (0, 12) from rfl) (by omega) xa xm
    have hg2 : aHp g2 := by rw [eg2]; exact hset_any hg1 (show zIn 0 9 (-2147483648) 2147483647 = true by decide +kernel)
    refine ⟨g2, nEv_of (t := mMe84) rfl ?_, hg2, fun p m => ?_⟩
    rotate_left
    · rw [sg2]
      by_cases w : p = 0 ∧ m = 9
      · rw [if_pos w, if_pos ⟨c, w⟩]
      · rw [if_neg w, if_neg (fun q => w q.2)]
    show nRn sc (d + 7) (mMT mMe84) (mMC mMe84) (0, [some (.ref 0), some (sI ((r : Int))), none, none, none], [], h) _
    refine sP 2 (g1 := (2, [some (.ref 0), some (sI ((r : Int))), none, none, none], [sI ((r : Int)), .ref 0], h)) rfl ?_
    refine s_call (k := 8) (args := [.ref 0, sI ((r : Int))]) (st := []) (v := some (.ref (21 + 2 * r))) (h1 := h) rfl ⟨rfl, rfl⟩ rfl rfl rfl rfl (sRcv hh (a := 0) rfl rfl) rfl (fRowAt hh hr) ?_
    refine sP 2 (g1 := (5, [some (.ref 0), some (sI ((r : Int))), some (.ref (21 + 2 * r)), none, none], [.ref (21 + 2 * r)], h)) rfl ?_
    refine s_null rfl (Or.inr ⟨⟨_, rfl⟩, rfl⟩) ?_
    refine sP 1 (g1 := (9, [some (.ref 0), some (sI ((r : Int))), some (.ref (21 + 2 * r)), none, none], [.ref 0], h)) rfl ?_
    refine s_get (a := 0) (j := 2) hh rfl ⟨_, rfl⟩ rfl rfl rfl (v := .ref 3) (hR_ok hh (by decide +kernel)) ?_
    have rg1 := hI_rg (a := 3) (j := 3) (lo := 0) (hi := 6) hh (by decide +kernel)
    refine s_get (a := 3) (j := 3) hh rfl ⟨_, rfl⟩ rfl rfl rfl (v := sI (hI h 3 3)) (hI_ok (lo := 0) (hi := 6) hh (by decide +kernel)) ?_
    refine s_ifc (q := .ne) (a := hI h 3 3) rfl ⟨_, rfl⟩ rfl (by unfold sR aMi aMa; omega) (fun hc2 => ?_) (fun hc2 => ?_)
    · have hc2 : ((hI h 3 3) : Int) ≠ 0 := hc2
      refine sP 2 (g1 := (16, [some (.ref 0), some (sI ((r : Int))), some (.ref (21 + 2 * r)), none, none], [.ref (21 + 2 * r), .ref 0], h)) rfl ?_
      refine s_call (k := 85) (args := [.ref 0, .ref (21 + 2 * r)]) (st := []) (v := some (sI 0)) (h1 := h) rfl ⟨rfl, rfl⟩ rfl rfl rfl rfl (sRcv hh (a := 0) rfl rfl) rfl ew ?_
      refine sP 2 (g1 := (19, [some (.ref 0), some (sI ((r : Int))), some (.ref (21 + 2 * r)), some (sI 0), none], [sI 0], h)) rfl ?_
      refine s_ifc (q := .eq) (a := 0) rfl ⟨_, rfl⟩ rfl (by unfold sR aMi aMa; omega) (fun hc3 => ?_) (fun hc3 => ?_)
      · have hc3 : (0 : Int) = 0 := hc3
        refine sP 1 (g1 := (25, [some (.ref 0), some (sI ((r : Int))), some (.ref (21 + 2 * r)), some (sI 0), none], [.ref 0], h)) rfl ?_
        refine s_get (a := 0) (j := 5) hh rfl ⟨_, rfl⟩ rfl rfl rfl (v := .ref 13) (hR_ok hh (by decide +kernel)) ?_
        refine sP 1 (g1 := (27, [some (.ref 0), some (sI ((r : Int))), some (.ref (21 + 2 * r)), some (sI 0), none], [.ref 0, .ref 13], h)) rfl ?_
        refine s_get (a := 0) (j := 2) hh rfl ⟨_, rfl⟩ rfl rfl rfl (v := .ref 3) (hR_ok hh (by decide +kernel)) ?_
        refine sP 1 (g1 := (29, [some (.ref 0), some (sI ((r : Int))), some (.ref (21 + 2 * r)), some (sI 0), none], [.ref (21 + 2 * r), .ref 3, .ref 13], h)) rfl ?_
        refine s_call (k := 86) (args := [.ref 13, .ref 3, .ref (21 + 2 * r)]) (st := []) (v := some (sI z)) (h1 := g1) rfl ⟨rfl, rfl⟩ rfl rfl rfl rfl (sRcv hh (a := 13) rfl rfl) rfl ef ?_
        refine sP 3 (g1 := (33, [some (.ref 0), some (sI ((r : Int))), some (.ref (21 + 2 * r)), some (sI 0), some (sI z)], [sI ((-9)), sI z], g1)) rfl ?_
        refine s_icmp (q := .eq) (a := z) (b := (-9)) rfl ⟨_, rfl⟩ rfl (by unfold sR aMi aMa; omega) (by unfold sR aMi aMa; omega) (fun hc4 => ?_) (fun hc4 => ?_)
        · have hc4 : (z : Int) = ((-9)) := hc4
          omega
        · have hc4 : ¬ ((z : Int) = ((-9))) := hc4
          refine sP 2 (g1 := (36, [some (.ref 0), some (sI ((r : Int))), some (.ref (21 + 2 * r)), some (sI 0), some (sI z)], [.ref 0, .ref 0], g1)) rfl ?_
          refine s_get (a := 0) (j := 5) hg1 rfl ⟨_, rfl⟩ rfl rfl rfl (v := .ref 13) (hR_ok hg1 (by decide +kernel)) ?_
          have rg5 := hI_rg (a := 13) (j := 3) (lo := (-2147483648)) (hi := 2147483647) hg1 (by decide +kernel)
          refine s_get (a := 13) (j := 3) hg1 rfl ⟨_, rfl⟩ rfl rfl rfl (v := sI (hI g1 13 3)) (hI_ok (lo := (-2147483648)) (hi := 2147483647) hg1 (by decide +kernel)) ?_
          refine s_put (a := 0) (j := 9) (k := 0) (n := 12) hg1 rfl ⟨_, rfl⟩ (show sTg 0 = some (0, 12) from rfl) rfl rfl (by decide) rfl ?_
          rw [← eg2]
          refine sP 1 (g1 := (40, [some (.ref 0), some (sI ((r : Int))), some (.ref (21 + 2 * r)), some (sI 0), some (sI z)], [sI z], g2)) rfl ?_
          exact s_reti rfl rfl (Or.inl rfl) rfl rfl
      · have hc3 : ¬ ((0 : Int) = 0) := hc3
        omega
    · have hc2 : ¬ (((hI h 3 3) : Int) ≠ 0) := hc2
      omega
theorem fStepsMb0 {r : Int} (hh : aHp h) (rr : sR r) (hc : ¬ (0 ≤ r ∧ r < 6)) : nEv sc (d + 6) 190 [.ref 53, sI r] h (some (sI (-1)), h) := by
  unfold sR aMi aMa at rr
  refine nEv_of (t := mMe190) rfl ?_
  show nRn sc (d + 5) (mMT mMe190) (mMC mMe190) (0, [some (.ref 53), some (sI r), none, none, none, none, none, none, none], [], h) _
  refine sP 1 (g1 := (1, [some (.ref 53), some (sI r), none, none, none, none, none, none, none], [sI r], h)) rfl ?_
  have ev1 := fIsRow (sc := sc) (d := d + 3) (h := h) (r := r) (by unfold sR aMi aMa; omega)
  rw [if_neg (by omega)] at ev1
  refine s_call (k := 126) (args := [sI r]) (st := []) (v := some (sI 0)) (h1 := h) rfl ⟨rfl, rfl⟩ rfl rfl rfl rfl rfl rfl ev1 ?_
  refine s_ifc (q := .ne) (a := 0) rfl ⟨_, rfl⟩ rfl (by unfold sR aMi aMa; omega) (fun hc2 => ?_) (fun hc2 => ?_)
  · have hc2 : (0 : Int) ≠ 0 := hc2
    omega
  · have hc2 : ¬ ((0 : Int) ≠ 0) := hc2
    refine sP 1 (g1 := (4, [some (.ref 53), some (sI r), none, none, none, none, none, none, none], [sI ((-1))], h)) rfl ?_
    exact s_reti rfl rfl (Or.inl rfl) rfl rfl
theorem fStepsMs {r : Nat} (hh : aHp h) (hr : r < 6) (hc : hI h 58 0 = 0) : nEv sc (d + 6) 190 [.ref 53, sI (r : Int)] h (some (sI (-4)), h) := by
  have gp := hI_rg hh nw_p
  refine nEv_of (t := mMe190) rfl ?_
  show nRn sc (d + 5) (mMT mMe190) (mMC mMe190) (0, [some (.ref 53), some (sI ((r : Int))), none, none, none, none, none, none, none], [], h) _
  refine sP 1 (g1 := (1, [some (.ref 53), some (sI ((r : Int))), none, none, none, none, none, none, none], [sI ((r : Int))], h)) rfl ?_
  have ev1 := fIsRow (sc := sc) (d := d + 3) (h := h) (r := (r : Int)) (by unfold sR aMi aMa; omega)
  rw [if_pos (by omega)] at ev1
  refine s_call (k := 126) (args := [sI ((r : Int))]) (st := []) (v := some (sI 1)) (h1 := h) rfl ⟨rfl, rfl⟩ rfl rfl rfl rfl rfl rfl ev1 ?_
  refine s_ifc (q := .ne) (a := 1) rfl ⟨_, rfl⟩ rfl (by unfold sR aMi aMa; omega) (fun hc2 => ?_) (fun hc2 => ?_)
  · have hc2 : (1 : Int) ≠ 0 := hc2
    refine sP 1 (g1 := (6, [some (.ref 53), some (sI ((r : Int))), none, none, none, none, none, none, none], [.ref 53], h)) rfl ?_
    refine s_get (a := 53) (j := 4) hh rfl ⟨_, rfl⟩ rfl rfl rfl (v := .ref 58) (hR_ok hh (by decide +kernel)) ?_
    refine sP 1 (g1 := (8, [some (.ref 53), some (sI ((r : Int))), none, none, none, none, none, none, none], [sI 0, .ref 58], h)) rfl ?_
    refine s_iald (a := 58) (n := 201) (j := 0) hh rfl rfl rfl (by omega) (by omega) (by decide) (v := sI (hI h 58 0)) (hI_ok hh nw_p) ?_
    refine s_ifc (q := .ne) (a := hI h 58 0) rfl ⟨_, rfl⟩ rfl (by unfold sR aMi aMa; omega) (fun hc3 => ?_) (fun hc3 => ?_)
    · have hc3 : ((hI h 58 0) : Int) ≠ 0 := hc3
      omega
    · have hc3 : ¬ (((hI h 58 0) : Int) ≠ 0) := hc3
      refine sP 1 (g1 := (11, [some (.ref 53), some (sI ((r : Int))), none, none, none, none, none, none, none], [sI ((-4))], h)) rfl ?_
      exact s_reti rfl rfl (Or.inl rfl) rfl rfl
  · have hc2 : ¬ ((1 : Int) ≠ 0) := hc2
    omega
theorem fStepsMw1 {r : Nat} {z : Int} (hh : aHp h) (hr : r < 6) (hn : hI h 58 0 ≠ 0) (hz : hI h 54 r = z) (hc : z < 0) : ∃ g, nEv sc (d + 6) 190 [.ref 53, sI (r : Int)] h (some (sI (-3)), g) ∧ oFM 1 h g := by
  have gp := hI_rg hh nw_p
  have gz := hI_rg hh (w54 hr)
  rw [hz] at gz
  obtain ⟨g1, r1, r2, r3⟩ := fFoundM (sc := sc) (d := d + 4) (f := 1) hh (by omega)
  refine ⟨g1, nEv_of (t := mMe190) rfl ?_, r2, r3⟩
  show nRn sc (d + 5) (mMT mMe190) (mMC mMe190) (0, [some (.ref 53), some (sI ((r : Int))), none, none, none, none, none, none, none], [], h) _
  refine sP 1 (g1 := (1, [some (.ref 53), some (sI ((r : Int))), none, none, none, none, none, none, none], [sI ((r : Int))], h)) rfl ?_
  have ev1 := fIsRow (sc := sc) (d := d + 3) (h := h) (r := (r : Int)) (by unfold sR aMi aMa; omega)
  rw [if_pos (by omega)] at ev1
  refine s_call (k := 126) (args := [sI ((r : Int))]) (st := []) (v := some (sI 1)) (h1 := h) rfl ⟨rfl, rfl⟩ rfl rfl rfl rfl rfl rfl ev1 ?_
  refine s_ifc (q := .ne) (a := 1) rfl ⟨_, rfl⟩ rfl (by unfold sR aMi aMa; omega) (fun hc2 => ?_) (fun hc2 => ?_)
  · have hc2 : (1 : Int) ≠ 0 := hc2
    refine sP 1 (g1 := (6, [some (.ref 53), some (sI ((r : Int))), none, none, none, none, none, none, none], [.ref 53], h)) rfl ?_
    refine s_get (a := 53) (j := 4) hh rfl ⟨_, rfl⟩ rfl rfl rfl (v := .ref 58) (hR_ok hh (by decide +kernel)) ?_
    refine sP 1 (g1 := (8, [some (.ref 53), some (sI ((r : Int))), none, none, none, none, none, none, none], [sI 0, .ref 58], h)) rfl ?_
    refine s_iald (a := 58) (n := 201) (j := 0) hh rfl rfl rfl (by omega) (by omega) (by decide) (v := sI (hI h 58 0)) (hI_ok hh nw_p) ?_
    refine s_ifc (q := .ne) (a := hI h 58 0) rfl ⟨_, rfl⟩ rfl (by unfold sR aMi aMa; omega) (fun hc3 => ?_) (fun hc3 => ?_)
    · have hc3 : ((hI h 58 0) : Int) ≠ 0 := hc3
      refine sP 1 (g1 := (13, [some (.ref 53), some (sI ((r : Int))), none, none, none, none, none, none, none], [.ref 53], h)) rfl ?_
      refine s_get (a := 53) (j := 0) hh rfl ⟨_, rfl⟩ rfl rfl rfl (v := .ref 54) (hR_ok hh (by decide +kernel)) ?_
      refine sP 1 (g1 := (15, [some (.ref 53), some (sI ((r : Int))), none, none, none, none, none, none, none], [sI ((r : Int)), .ref 54], h)) rfl ?_
      refine s_iald (a := 54) (n := 6) (j := (r : Int)) hh rfl rfl rfl (by omega) (by omega) (by decide) (v := sI z) (by rw [Int.toNat_natCast]; have q := hI_ok hh (w54 hr); rw [hz] at q; exact q) ?_
      refine s_ifc (q := .ge) (a := z) rfl ⟨_, rfl⟩ rfl (by unfold sR aMi aMa; omega) (fun hc4 => ?_) (fun hc4 => ?_)
      · have hc4 : (0 : Int) ≤ z := hc4
        omega
      · have hc4 : ¬ ((0 : Int) ≤ z) := hc4
        refine sP 2 (g1 := (19, [some (.ref 53), some (sI ((r : Int))), none, none, none, none, none, none, none], [sI 1, .ref 53], h)) rfl ?_
        refine s_call (k := 128) (args := [.ref 53, sI 1]) (st := []) (v := some (sI ((-3)))) (h1 := g1) rfl ⟨rfl, rfl⟩ rfl rfl rfl rfl (sRcv hh (a := 53) rfl rfl) rfl r1 ?_
        exact s_reti rfl rfl (Or.inl rfl) rfl rfl
    · have hc3 : ¬ (((hI h 58 0) : Int) ≠ 0) := hc3
      omega
  · have hc2 : ¬ ((1 : Int) ≠ 0) := hc2
    omega
theorem fStepsMw5 {r : Nat} {z : Int} (hh : aHp h) (hr : r < 6) (hn : hI h 58 0 ≠ 0) (hz : hI h 54 r = z) (hc : 0 ≤ z ∧ (z % 2 = 1 ∨ z < 2 ∨ 8 < z)) : ∃ g, nEv sc (d + 6) 190 [.ref 53, sI (r : Int)] h (some (sI (-3)), g) ∧ oFM 5 h g := by
  have gp := hI_rg hh nw_p
  have gz := hI_rg hh (w54 hr)
  rw [hz] at gz
  obtain ⟨g1, r1, r2, r3⟩ := fFoundM (sc := sc) (d := d + 4) (f := 5) hh (by omega)
  refine ⟨g1, nEv_of (t := mMe190) rfl ?_, r2, r3⟩
  by_cases od : z % 2 = 1
  · show nRn sc (d + 5) (mMT mMe190) (mMC mMe190) (0, [some (.ref 53), some (sI ((r : Int))), none, none, none, none, none, none, none], [], h) _
    refine sP 1 (g1 := (1, [some (.ref 53), some (sI ((r : Int))), none, none, none, none, none, none, none], [sI ((r : Int))], h)) rfl ?_
    have ev1 := fIsRow (sc := sc) (d := d + 3) (h := h) (r := (r : Int)) (by unfold sR aMi aMa; omega)
    rw [if_pos (by omega)] at ev1
    refine s_call (k := 126) (args := [sI ((r : Int))]) (st := []) (v := some (sI 1)) (h1 := h) rfl ⟨rfl, rfl⟩ rfl rfl rfl rfl rfl rfl ev1 ?_
    refine s_ifc (q := .ne) (a := 1) rfl ⟨_, rfl⟩ rfl (by unfold sR aMi aMa; omega) (fun hc2 => ?_) (fun hc2 => ?_)
    · have hc2 : (1 : Int) ≠ 0 := hc2
      refine sP 1 (g1 := (6, [some (.ref 53), some (sI ((r : Int))), none, none, none, none, none, none, none], [.ref 53], h)) rfl ?_
      refine s_get (a := 53) (j := 4) hh rfl ⟨_, rfl⟩ rfl rfl rfl (v := .ref 58) (hR_ok hh (by decide +kernel)) ?_
      refine sP 1 (g1 := (8, [some (.ref 53), some (sI ((r : Int))), none, none, none, none, none, none, none], [sI 0, .ref 58], h)) rfl ?_
      refine s_iald (a := 58) (n := 201) (j := 0) hh rfl rfl rfl (by omega) (by omega) (by decide) (v := sI (hI h 58 0)) (hI_ok hh nw_p) ?_
      refine s_ifc (q := .ne) (a := hI h 58 0) rfl ⟨_, rfl⟩ rfl (by unfold sR aMi aMa; omega) (fun hc3 => ?_) (fun hc3 => ?_)
      · have hc3 : ((hI h 58 0) : Int) ≠ 0 := hc3
        refine sP 1 (g1 := (13, [some (.ref 53), some (sI ((r : Int))), none, none, none, none, none, none, none], [.ref 53], h)) rfl ?_
        refine s_get (a := 53) (j := 0) hh rfl ⟨_, rfl⟩ rfl rfl rfl (v := .ref 54) (hR_ok hh (by decide +kernel)) ?_
        refine sP 1 (g1 := (15, [some (.ref 53), some (sI ((r : Int))), none, none, none, none, none, none, none], [sI ((r : Int)), .ref 54], h)) rfl ?_
        refine s_iald (a := 54) (n := 6) (j := (r : Int)) hh rfl rfl rfl (by omega) (by omega) (by decide) (v := sI z) (by rw [Int.toNat_natCast]; have q := hI_ok hh (w54 hr); rw [hz] at q; exact q) ?_
        refine s_ifc (q := .ge) (a := z) rfl ⟨_, rfl⟩ rfl (by unfold sR aMi aMa; omega) (fun hc4 => ?_) (fun hc4 => ?_)
        · have hc4 : (0 : Int) ≤ z := hc4
          refine sP 1 (g1 := (22, [some (.ref 53), some (sI ((r : Int))), none, none, none, none, none, none, none], [.ref 53], h)) rfl ?_
          refine s_get (a := 53) (j := 0) hh rfl ⟨_, rfl⟩ rfl rfl rfl (v := .ref 54) (hR_ok hh (by decide +kernel)) ?_
          refine sP 1 (g1 := (24, [some (.ref 53), some (sI ((r : Int))), none, none, none, none, none, none, none], [sI ((r : Int)), .ref 54], h)) rfl ?_
          refine s_iald (a := 54) (n := 6) (j := (r : Int)) hh rfl rfl rfl (by omega) (by omega) (by decide) (v := sI z) (by rw [Int.toNat_natCast]; have q := hI_ok hh (w54 hr); rw [hz] at q; exact q) ?_
          refine sP 1 (g1 := (26, [some (.ref 53), some (sI ((r : Int))), none, none, none, none, none, none, none], [sI 2, sI z], h)) rfl ?_
          refine s_remZ (a := z) rfl rfl (by omega) (by omega) ?_
          refine sP 1 (g1 := (28, [some (.ref 53), some (sI ((r : Int))), none, none, none, none, none, none, none], [sI 1, sI (z % 2)], h)) rfl ?_
          refine s_icmp (q := .eq) (a := z % 2) (b := 1) rfl ⟨_, rfl⟩ rfl (by unfold sR aMi aMa; omega) (by unfold sR aMi aMa; omega) (fun hc5 => ?_) (fun hc5 => ?_)
          · have hc5 : ((z % 2) : Int) = 1 := hc5
            refine sP 2 (g1 := (40, [some (.ref 53), some (sI ((r : Int))), none, none, none, none, none, none, none], [sI 5, .ref 53], h)) rfl ?_
            refine s_call (k := 128) (args := [.ref 53, sI 5]) (st := []) (v := some (sI ((-3)))) (h1 := g1) rfl ⟨rfl, rfl⟩ rfl rfl rfl rfl (sRcv hh (a := 53) rfl rfl) rfl r1 ?_
            exact s_reti rfl rfl (Or.inl rfl) rfl rfl
          · have hc5 : ¬ (((z % 2) : Int) = 1) := hc5
            omega
        · have hc4 : ¬ ((0 : Int) ≤ z) := hc4
          omega
      · have hc3 : ¬ (((hI h 58 0) : Int) ≠ 0) := hc3
        omega
    · have hc2 : ¬ ((1 : Int) ≠ 0) := hc2
      omega
  · show nRn sc (d + 5) (mMT mMe190) (mMC mMe190) (0, [some (.ref 53), some (sI ((r : Int))), none, none, none, none, none, none, none], [], h) _
    refine sP 1 (g1 := (1, [some (.ref 53), some (sI ((r : Int))), none, none, none, none, none, none, none], [sI ((r : Int))], h)) rfl ?_
    have ev1 := fIsRow (sc := sc) (d := d + 3) (h := h) (r := (r : Int)) (by unfold sR aMi aMa; omega)
    rw [if_pos (by omega)] at ev1
    refine s_call (k := 126) (args := [sI ((r : Int))]) (st := []) (v := some (sI 1)) (h1 := h) rfl ⟨rfl, rfl⟩ rfl rfl rfl rfl rfl rfl ev1 ?_
    refine s_ifc (q := .ne) (a := 1) rfl ⟨_, rfl⟩ rfl (by unfold sR aMi aMa; omega) (fun hc2 => ?_) (fun hc2 => ?_)
    · have hc2 : (1 : Int) ≠ 0 := hc2
      refine sP 1 (g1 := (6, [some (.ref 53), some (sI ((r : Int))), none, none, none, none, none, none, none], [.ref 53], h)) rfl ?_
      refine s_get (a := 53) (j := 4) hh rfl ⟨_, rfl⟩ rfl rfl rfl (v := .ref 58) (hR_ok hh (by decide +kernel)) ?_
      refine sP 1 (g1 := (8, [some (.ref 53), some (sI ((r : Int))), none, none, none, none, none, none, none], [sI 0, .ref 58], h)) rfl ?_
      refine s_iald (a := 58) (n := 201) (j := 0) hh rfl rfl rfl (by omega) (by omega) (by decide) (v := sI (hI h 58 0)) (hI_ok hh nw_p) ?_
      refine s_ifc (q := .ne) (a := hI h 58 0) rfl ⟨_, rfl⟩ rfl (by unfold sR aMi aMa; omega) (fun hc3 => ?_) (fun hc3 => ?_)
      · have hc3 : ((hI h 58 0) : Int) ≠ 0 := hc3
        refine sP 1 (g1 := (13, [some (.ref 53), some (sI ((r : Int))), none, none, none, none, none, none, none], [.ref 53], h)) rfl ?_
        refine s_get (a := 53) (j := 0) hh rfl ⟨_, rfl⟩ rfl rfl rfl (v := .ref 54) (hR_ok hh (by decide +kernel)) ?_
        refine sP 1 (g1 := (15, [some (.ref 53), some (sI ((r : Int))), none, none, none, none, none, none, none], [sI ((r : Int)), .ref 54], h)) rfl ?_
        refine s_iald (a := 54) (n := 6) (j := (r : Int)) hh rfl rfl rfl (by omega) (by omega) (by decide) (v := sI z) (by rw [Int.toNat_natCast]; have q := hI_ok hh (w54 hr); rw [hz] at q; exact q) ?_
        refine s_ifc (q := .ge) (a := z) rfl ⟨_, rfl⟩ rfl (by unfold sR aMi aMa; omega) (fun hc4 => ?_) (fun hc4 => ?_)
        · have hc4 : (0 : Int) ≤ z := hc4
          refine sP 1 (g1 := (22, [some (.ref 53), some (sI ((r : Int))), none, none, none, none, none, none, none], [.ref 53], h)) rfl ?_
          refine s_get (a := 53) (j := 0) hh rfl ⟨_, rfl⟩ rfl rfl rfl (v := .ref 54) (hR_ok hh (by decide +kernel)) ?_
          refine sP 1 (g1 := (24, [some (.ref 53), some (sI ((r : Int))), none, none, none, none, none, none, none], [sI ((r : Int)), .ref 54], h)) rfl ?_
          refine s_iald (a := 54) (n := 6) (j := (r : Int)) hh rfl rfl rfl (by omega) (by omega) (by decide) (v := sI z) (by rw [Int.toNat_natCast]; have q := hI_ok hh (w54 hr); rw [hz] at q; exact q) ?_
          refine sP 1 (g1 := (26, [some (.ref 53), some (sI ((r : Int))), none, none, none, none, none, none, none], [sI 2, sI z], h)) rfl ?_
          refine s_remZ (a := z) rfl rfl (by omega) (by omega) ?_
          refine sP 1 (g1 := (28, [some (.ref 53), some (sI ((r : Int))), none, none, none, none, none, none, none], [sI 1, sI (z % 2)], h)) rfl ?_
          refine s_icmp (q := .eq) (a := z % 2) (b := 1) rfl ⟨_, rfl⟩ rfl (by unfold sR aMi aMa; omega) (by unfold sR aMi aMa; omega) (fun hc5 => ?_) (fun hc5 => ?_)
          · have hc5 : ((z % 2) : Int) = 1 := hc5
            omega
          · have hc5 : ¬ (((z % 2) : Int) = 1) := hc5
            refine sP 1 (g1 := (30, [some (.ref 53), some (sI ((r : Int))), none, none, none, none, none, none, none], [.ref 53], h)) rfl ?_
            refine s_get (a := 53) (j := 0) hh rfl ⟨_, rfl⟩ rfl rfl rfl (v := .ref 54) (hR_ok hh (by decide +kernel)) ?_
            refine sP 1 (g1 := (32, [some (.ref 53), some (sI ((r : Int))), none, none, none, none, none, none, none], [sI ((r : Int)), .ref 54], h)) rfl ?_
            refine s_iald (a := 54) (n := 6) (j := (r : Int)) hh rfl rfl rfl (by omega) (by omega) (by decide) (v := sI z) (by rw [Int.toNat_natCast]; have q := hI_ok hh (w54 hr); rw [hz] at q; exact q) ?_
            refine s_i2l (a := z) rfl rfl (by unfold sR aMi aMa; omega) ?_
            refine sP 2 (g1 := (36, [some (.ref 53), some (sI ((r : Int))), none, none, none, none, none, none, none], [sJ 8, sJ 2, sJ z], h)) rfl ?_
            have ev6 := fIn (sc := sc) (d := d + 4) (h := h) (a := z) (b := 2) (e := 8) (by omega) (by omega) (by omega) (by omega) (by omega) (by omega)
            rw [if_neg (by omega)] at ev6
            refine s_call (k := 127) (args := [sJ z, sJ 2, sJ 8]) (st := []) (v := some (sI 0)) (h1 := h) rfl ⟨rfl, rfl⟩ rfl rfl rfl rfl rfl rfl ev6 ?_
            refine s_ifc (q := .ne) (a := 0) rfl ⟨_, rfl⟩ rfl (by unfold sR aMi aMa; omega) (fun hc7 => ?_) (fun hc7 => ?_)
            · have hc7 : (0 : Int) ≠ 0 := hc7
              omega
            · have hc7 : ¬ ((0 : Int) ≠ 0) := hc7
              refine sP 2 (g1 := (40, [some (.ref 53), some (sI ((r : Int))), none, none, none, none, none, none, none], [sI 5, .ref 53], h)) rfl ?_
              refine s_call (k := 128) (args := [.ref 53, sI 5]) (st := []) (v := some (sI ((-3)))) (h1 := g1) rfl ⟨rfl, rfl⟩ rfl rfl rfl rfl (sRcv hh (a := 53) rfl rfl) rfl r1 ?_
              exact s_reti rfl rfl (Or.inl rfl) rfl rfl
        · have hc4 : ¬ ((0 : Int) ≤ z) := hc4
          omega
      · have hc3 : ¬ (((hI h 58 0) : Int) ≠ 0) := hc3
        omega
    · have hc2 : ¬ ((1 : Int) ≠ 0) := hc2
      omega
theorem fStepsMw3 {r : Nat} {z : Int} (hh : aHp h) (hr : r < 6) (hn : hI h 58 0 ≠ 0) (hz : hI h 54 r = z) (hc : 0 ≤ z ∧ z % 2 ≠ 1 ∧ 2 ≤ z ∧ z ≤ 8) (ea : nEv sc (d + 5) 191 [.ref 53, sI (r : Int)] h (some (sI 0), h)) : ∃ g, nEv sc (d + 6) 190 [.ref 53, sI (r : Int)] h (some (sI (-3)), g) ∧ oFM 3 h g := by
  have gp := hI_rg hh nw_p
  have gz := hI_rg hh (w54 hr)
  rw [hz] at gz
  obtain ⟨g1, r1, r2, r3⟩ := fFoundM (sc := sc) (d := d + 4) (f := 3) hh (by omega)
  refine ⟨g1, nEv_of (t := mMe190) rfl ?_, r2, r3⟩
  show nRn sc (d + 5) (mMT mMe190) (mMC mMe190) (0, [some (.ref 53), some (sI ((r : Int))), none, none, none, none, none, none, none], [], h) _
  refine sP 1 (g1 := (1, [some (.ref 53), some (sI ((r : Int))), none, none, none, none, none, none, none], [sI ((r : Int))], h)) rfl ?_
  have ev1 := fIsRow (sc := sc) (d := d + 3) (h := h) (r := (r : Int)) (by unfold sR aMi aMa; omega)
  rw [if_pos (by omega)] at ev1
  refine s_call (k := 126) (args := [sI ((r : Int))]) (st := []) (v := some (sI 1)) (h1 := h) rfl ⟨rfl, rfl⟩ rfl rfl rfl rfl rfl rfl ev1 ?_
  refine s_ifc (q := .ne) (a := 1) rfl ⟨_, rfl⟩ rfl (by unfold sR aMi aMa; omega) (fun hc2 => ?_) (fun hc2 => ?_)
  · have hc2 : (1 : Int) ≠ 0 := hc2
    refine sP 1 (g1 := (6, [some (.ref 53), some (sI ((r : Int))), none, none, none, none, none, none, none], [.ref 53], h)) rfl ?_
    refine s_get (a := 53) (j := 4) hh rfl ⟨_, rfl⟩ rfl rfl rfl (v := .ref 58) (hR_ok hh (by decide +kernel)) ?_
    refine sP 1 (g1 := (8, [some (.ref 53), some (sI ((r : Int))), none, none, none, none, none, none, none], [sI 0, .ref 58], h)) rfl ?_
    refine s_iald (a := 58) (n := 201) (j := 0) hh rfl rfl rfl (by omega) (by omega) (by decide) (v := sI (hI h 58 0)) (hI_ok hh nw_p) ?_
    refine s_ifc (q := .ne) (a := hI h 58 0) rfl ⟨_, rfl⟩ rfl (by unfold sR aMi aMa; omega) (fun hc3 => ?_) (fun hc3 => ?_)
    · have hc3 : ((hI h 58 0) : Int) ≠ 0 := hc3
      refine sP 1 (g1 := (13, [some (.ref 53), some (sI ((r : Int))), none, none, none, none, none, none, none], [.ref 53], h)) rfl ?_
      refine s_get (a := 53) (j := 0) hh rfl ⟨_, rfl⟩ rfl rfl rfl (v := .ref 54) (hR_ok hh (by decide +kernel)) ?_
      refine sP 1 (g1 := (15, [some (.ref 53), some (sI ((r : Int))), none, none, none, none, none, none, none], [sI ((r : Int)), .ref 54], h)) rfl ?_
      refine s_iald (a := 54) (n := 6) (j := (r : Int)) hh rfl rfl rfl (by omega) (by omega) (by decide) (v := sI z) (by rw [Int.toNat_natCast]; have q := hI_ok hh (w54 hr); rw [hz] at q; exact q) ?_
      refine s_ifc (q := .ge) (a := z) rfl ⟨_, rfl⟩ rfl (by unfold sR aMi aMa; omega) (fun hc4 => ?_) (fun hc4 => ?_)
      · have hc4 : (0 : Int) ≤ z := hc4
        refine sP 1 (g1 := (22, [some (.ref 53), some (sI ((r : Int))), none, none, none, none, none, none, none], [.ref 53], h)) rfl ?_
        refine s_get (a := 53) (j := 0) hh rfl ⟨_, rfl⟩ rfl rfl rfl (v := .ref 54) (hR_ok hh (by decide +kernel)) ?_
        refine sP 1 (g1 := (24, [some (.ref 53), some (sI ((r : Int))), none, none, none, none, none, none, none], [sI ((r : Int)), .ref 54], h)) rfl ?_
        refine s_iald (a := 54) (n := 6) (j := (r : Int)) hh rfl rfl rfl (by omega) (by omega) (by decide) (v := sI z) (by rw [Int.toNat_natCast]; have q := hI_ok hh (w54 hr); rw [hz] at q; exact q) ?_
        refine sP 1 (g1 := (26, [some (.ref 53), some (sI ((r : Int))), none, none, none, none, none, none, none], [sI 2, sI z], h)) rfl ?_
        refine s_remZ (a := z) rfl rfl (by omega) (by omega) ?_
        refine sP 1 (g1 := (28, [some (.ref 53), some (sI ((r : Int))), none, none, none, none, none, none, none], [sI 1, sI (z % 2)], h)) rfl ?_
        refine s_icmp (q := .eq) (a := z % 2) (b := 1) rfl ⟨_, rfl⟩ rfl (by unfold sR aMi aMa; omega) (by unfold sR aMi aMa; omega) (fun hc5 => ?_) (fun hc5 => ?_)
        · have hc5 : ((z % 2) : Int) = 1 := hc5
          omega
        · have hc5 : ¬ (((z % 2) : Int) = 1) := hc5
          refine sP 1 (g1 := (30, [some (.ref 53), some (sI ((r : Int))), none, none, none, none, none, none, none], [.ref 53], h)) rfl ?_
          refine s_get (a := 53) (j := 0) hh rfl ⟨_, rfl⟩ rfl rfl rfl (v := .ref 54) (hR_ok hh (by decide +kernel)) ?_
          refine sP 1 (g1 := (32, [some (.ref 53), some (sI ((r : Int))), none, none, none, none, none, none, none], [sI ((r : Int)), .ref 54], h)) rfl ?_
          refine s_iald (a := 54) (n := 6) (j := (r : Int)) hh rfl rfl rfl (by omega) (by omega) (by decide) (v := sI z) (by rw [Int.toNat_natCast]; have q := hI_ok hh (w54 hr); rw [hz] at q; exact q) ?_
          refine s_i2l (a := z) rfl rfl (by unfold sR aMi aMa; omega) ?_
          refine sP 2 (g1 := (36, [some (.ref 53), some (sI ((r : Int))), none, none, none, none, none, none, none], [sJ 8, sJ 2, sJ z], h)) rfl ?_
          have ev6 := fIn (sc := sc) (d := d + 4) (h := h) (a := z) (b := 2) (e := 8) (by omega) (by omega) (by omega) (by omega) (by omega) (by omega)
          rw [if_pos (by omega)] at ev6
          refine s_call (k := 127) (args := [sJ z, sJ 2, sJ 8]) (st := []) (v := some (sI 1)) (h1 := h) rfl ⟨rfl, rfl⟩ rfl rfl rfl rfl rfl rfl ev6 ?_
          refine s_ifc (q := .ne) (a := 1) rfl ⟨_, rfl⟩ rfl (by unfold sR aMi aMa; omega) (fun hc7 => ?_) (fun hc7 => ?_)
          · have hc7 : (1 : Int) ≠ 0 := hc7
            refine sP 2 (g1 := (44, [some (.ref 53), some (sI ((r : Int))), none, none, none, none, none, none, none], [sI ((r : Int)), .ref 53], h)) rfl ?_
            refine s_call (k := 191) (args := [.ref 53, sI ((r : Int))]) (st := []) (v := some (sI 0)) (h1 := h) rfl ⟨rfl, rfl⟩ rfl rfl rfl rfl (sRcv hh (a := 53) rfl rfl) rfl ea ?_
            refine s_ifc (q := .ne) (a := 0) rfl ⟨_, rfl⟩ rfl (by unfold sR aMi aMa; omega) (fun hc8 => ?_) (fun hc8 => ?_)
            · have hc8 : (0 : Int) ≠ 0 := hc8
              omega
            · have hc8 : ¬ ((0 : Int) ≠ 0) := hc8
              refine sP 2 (g1 := (48, [some (.ref 53), some (sI ((r : Int))), none, none, none, none, none, none, none], [sI 3, .ref 53], h)) rfl ?_
              refine s_call (k := 128) (args := [.ref 53, sI 3]) (st := []) (v := some (sI ((-3)))) (h1 := g1) rfl ⟨rfl, rfl⟩ rfl rfl rfl rfl (sRcv hh (a := 53) rfl rfl) rfl r1 ?_
              exact s_reti rfl rfl (Or.inl rfl) rfl rfl
          · have hc7 : ¬ ((1 : Int) ≠ 0) := hc7
            omega
      · have hc4 : ¬ ((0 : Int) ≤ z) := hc4
        omega
    · have hc3 : ¬ (((hI h 58 0) : Int) ≠ 0) := hc3
      omega
  · have hc2 : ¬ ((1 : Int) ≠ 0) := hc2
    omega
theorem loW_rg (p : Nat → Bool) (n : Nat) : ∀ c, -9 ≤ loW p n c ∧ loW p n c ≤ n
  | 0 => ⟨by show (-9 : Int) ≤ -9; omega, by show (-9 : Int) ≤ n; omega⟩
  | c + 1 => by
    have ih := loW_rg p n c
    show -9 ≤ (if p (n - (c + 1)) = true then ((n - (c + 1) : Nat) : Int) else loW p n c) ∧ (if p (n - (c + 1)) = true then ((n - (c + 1) : Nat) : Int) else loW p n c) ≤ n
    split <;> omega
theorem fStL {n r K U : Nat} {G F : Nat → Nat} (hh : aHp h) (hr : r < 6) (hn6 : n ≤ 6) (hK : K ≤ 4) (hU : U < 2 ^ n) (hG : ∀ t, G t < 2 ^ K) (n_h : hI h 58 0 = (n : Int)) (g_h : ∀ t, t < 2 ^ n → hI h 64 t = (G t : Int)) (l_h : ∀ s, s < 1024 → hI h 63 s = (F s : Int)) (hF : ∀ s, F s ≤ 1000000) (pos : 0 < F (16 * U + G U)) : ∀ (c : Nat) (X8 : Option Value), c ≤ n → ∃ Y7 Y8, ∀ q, nRn sc (d + 5) (mMT mMe190) (mMC mMe190) (134, [some (.ref 53), some (sI ((r : Int))), some (sI ((K : Int))), some (sI ((U : Int))), some (sI ((G U : Int))), some (sI ((F (16 * U + G U) : Int))), some (sI (loW (fun a => decide (F (nxG G (16 * U + G U) a) = F (16 * U + G U) - 1)) n n)), Y7, Y8], [], h) q → nRn sc (d + 5) (mMT mMe190) (mMC mMe190) (101, [some (.ref 53), some (sI ((r : Int))), some (sI ((K : Int))), some (sI ((U : Int))), some (sI ((G U : Int))), some (sI ((F (16 * U + G U) : Int))), some (sI (loW (fun a => decide (F (nxG G (16 * U + G U) a) = F (16 * U + G U) - 1)) n (n - c))), some (sI ((c : Int) - 1)), X8], [], h) q := by
  have p2 := p2_le hn6
  have p4 := p2_4 hK
  have gU := hG U
  have fs := hF (16 * U + G U)
  intro c
  induction c with
  | zero =>
    intro X8 hc
    refine ⟨some (sI (((0 : Nat) : Int) - 1)), X8, fun q hq => ?_⟩
    rw [Nat.sub_zero]
    refine sP 1 (g1 := (102, [some (.ref 53), some (sI ((r : Int))), some (sI ((K : Int))), some (sI ((U : Int))), some (sI ((G U : Int))), some (sI ((F (16 * U + G U) : Int))), some (sI (loW (fun a => decide (F (nxG G (16 * U + G U) a) = F (16 * U + G U) - 1)) n n)), some (sI (((0 : Nat) : Int) - 1)), X8], [sI (((0 : Nat) : Int) - 1)], h)) rfl ?_
    refine s_ifc (q := .lt) (a := ((0 : Nat) : Int) - 1) rfl ⟨_, rfl⟩ rfl (by unfold sR aMi aMa; omega) (fun hc1 => ?_) (fun hc1 => ?_)
    · have hc1 : ((((0 : Nat) : Int) - 1) : Int) < 0 := hc1
      exact hq
    · have hc1 : ¬ (((((0 : Nat) : Int) - 1) : Int) < 0) := hc1
      omega
  | succ c ih =>
    intro X8 hc
    have b1 : bxo U c < 2 ^ n := bxo_w n (by omega) U hU c (by omega)
    have b2 := hG (bxo U c)
    have b3 : G U ||| G (bxo U c) < 2 ^ K := Nat.or_lt_two_pow gU b2
    have e_nx : nxG G (16 * U + G U) c = 16 * bxo U c + (G U ||| G (bxo U c)) := by
      unfold nxG
      rw [show (16 * U + G U) / 16 = U by omega, show (16 * U + G U) % 16 = G U by omega]
    have nb : nxG G (16 * U + G U) c < 1024 := by omega
    have m3 := hF (nxG G (16 * U + G U) c)
    have lr := loW_rg (fun a => decide (F (nxG G (16 * U + G U) a) = F (16 * U + G U) - 1)) n (n - (c + 1))
    have e1 : loW (fun a => decide (F (nxG G (16 * U + G U) a) = F (16 * U + G U) - 1)) n (n - c) = if (fun a => decide (F (nxG G (16 * U + G U) a) = F (16 * U + G U) - 1)) c = true then (c : Int) else loW (fun a => decide (F (nxG G (16 * U + G U) a) = F (16 * U + G U) - 1)) n (n - (c + 1)) := by
      rw [show n - c = (n - (c + 1)) + 1 by omega]
      show (if (fun a => decide (F (nxG G (16 * U + G U) a) = F (16 * U + G U) - 1)) (n - ((n - (c + 1)) + 1)) = true then ((n - ((n - (c + 1)) + 1) : Nat) : Int) else _) = _
      rw [show n - ((n - (c + 1)) + 1) = c by omega]
    obtain ⟨Y7, Y8, i1⟩ := ih (some (sI ((bxo U c : Nat) : Int))) (by omega)
    refine ⟨Y7, Y8, fun q hq => ?_⟩
    have i1 := i1 q hq
    rw [show (((c + 1 : Nat) : Int) - 1) = (c : Int) by omega]
    by_cases ce : F (nxG G (16 * U + G U) c) = F (16 * U + G U) - 1
    · rw [e1, if_pos (show (fun a => decide (F (nxG G (16 * U + G U) a) = F (16 * U + G U) - 1)) c = true from decide_eq_true ce)] at i1
      refine sP 1 (g1 := (102, [some (.ref 53), some (sI ((r : Int))), some (sI ((K : Int))), some (sI ((U : Int))), some (sI ((G U : Int))), some (sI ((F (16 * U + G U) : Int))), some (sI (loW (fun a => decide (F (nxG G (16 * U + G U) a) = F (16 * U + G U) - 1)) n (n - (c + 1)))), some (sI ((c : Int))), X8], [sI ((c : Int))], h)) rfl ?_
      refine s_ifc (q := .lt) (a := (c : Int)) rfl ⟨_, rfl⟩ rfl (by unfold sR aMi aMa; omega) (fun hc1 => ?_) (fun hc1 => ?_)
      · have hc1 : (((c : Int)) : Int) < 0 := hc1
        omega
      · have hc1 : ¬ ((((c : Int)) : Int) < 0) := hc1
        refine sP 1 (g1 := (104, [some (.ref 53), some (sI ((r : Int))), some (sI ((K : Int))), some (sI ((U : Int))), some (sI ((G U : Int))), some (sI ((F (16 * U + G U) : Int))), some (sI (loW (fun a => decide (F (nxG G (16 * U + G U) a) = F (16 * U + G U) - 1)) n (n - (c + 1)))), some (sI ((c : Int))), X8], [sI ((F (16 * U + G U) : Int))], h)) rfl ?_
        refine s_ifc (q := .le) (a := (F (16 * U + G U) : Int)) rfl ⟨_, rfl⟩ rfl (by unfold sR aMi aMa; omega) (fun hc2 => ?_) (fun hc2 => ?_)
        · have hc2 : (((F (16 * U + G U) : Int)) : Int) ≤ 0 := hc2
          omega
        · have hc2 : ¬ ((((F (16 * U + G U) : Int)) : Int) ≤ 0) := hc2
          refine sP 3 (g1 := (108, [some (.ref 53), some (sI ((r : Int))), some (sI ((K : Int))), some (sI ((U : Int))), some (sI ((G U : Int))), some (sI ((F (16 * U + G U) : Int))), some (sI (loW (fun a => decide (F (nxG G (16 * U + G U) a) = F (16 * U + G U) - 1)) n (n - (c + 1)))), some (sI ((c : Int))), X8], [sI ((c : Int)), sI 1, sI ((U : Int))], h)) rfl ?_
          refine s_shl (a := c) rfl rfl (by omega) ?_
          refine s_xo (s := U) (a := c) rfl rfl (by omega) (by omega) ?_
          refine sP 2 (g1 := (112, [some (.ref 53), some (sI ((r : Int))), some (sI ((K : Int))), some (sI ((U : Int))), some (sI ((G U : Int))), some (sI ((F (16 * U + G U) : Int))), some (sI (loW (fun a => decide (F (nxG G (16 * U + G U) a) = F (16 * U + G U) - 1)) n (n - (c + 1)))), some (sI ((c : Int))), some (sI (((bxo U c : Nat) : Int)))], [.ref 53], h)) rfl ?_
          refine s_get (a := 53) (j := 15) hh rfl ⟨_, rfl⟩ rfl rfl rfl (v := .ref 63) (hR_ok hh (by decide +kernel)) ?_
          refine sP 2 (g1 := (115, [some (.ref 53), some (sI ((r : Int))), some (sI ((K : Int))), some (sI ((U : Int))), some (sI ((G U : Int))), some (sI ((F (16 * U + G U) : Int))), some (sI (loW (fun a => decide (F (nxG G (16 * U + G U) a) = F (16 * U + G U) - 1)) n (n - (c + 1)))), some (sI ((c : Int))), some (sI (((bxo U c : Nat) : Int)))], [sI (((bxo U c : Nat) : Int)), sI 16, .ref 63], h)) rfl ?_
          refine s_mul (a := 16) (b := ((bxo U c : Nat) : Int)) rfl rfl ?_
          refine sP 2 (g1 := (118, [some (.ref 53), some (sI ((r : Int))), some (sI ((K : Int))), some (sI ((U : Int))), some (sI ((G U : Int))), some (sI ((F (16 * U + G U) : Int))), some (sI (loW (fun a => decide (F (nxG G (16 * U + G U) a) = F (16 * U + G U) - 1)) n (n - (c + 1)))), some (sI ((c : Int))), some (sI (((bxo U c : Nat) : Int)))], [.ref 53, sI ((G U : Int)), sI (16 * (((bxo U c : Nat) : Int))), .ref 63], h)) rfl ?_
          refine s_get (a := 53) (j := 16) hh rfl ⟨_, rfl⟩ rfl rfl rfl (v := .ref 64) (hR_ok hh (by decide +kernel)) ?_
          refine sP 1 (g1 := (120, [some (.ref 53), some (sI ((r : Int))), some (sI ((K : Int))), some (sI ((U : Int))), some (sI ((G U : Int))), some (sI ((F (16 * U + G U) : Int))), some (sI (loW (fun a => decide (F (nxG G (16 * U + G U) a) = F (16 * U + G U) - 1)) n (n - (c + 1)))), some (sI ((c : Int))), some (sI (((bxo U c : Nat) : Int)))], [sI (((bxo U c : Nat) : Int)), .ref 64, sI ((G U : Int)), sI (16 * (((bxo U c : Nat) : Int))), .ref 63], h)) rfl ?_
          refine s_iald (a := 64) (n := 64) (j := ((bxo U c : Nat) : Int)) hh rfl rfl rfl (by omega) (by omega) (by decide) (v := sI ((G (bxo U c) : Int))) (by rw [Int.toNat_natCast]; have q := hI_ok hh (w64 (show bxo U c < 64 by omega)); rw [g_h _ (by omega)] at q; exact q) ?_
          refine s_b1 (w := Int32.ofInt ((G U ||| G (bxo U c) : Nat) : Int)) rfl rfl (b_or16 (G U) (by omega) (G (bxo U c)) (by omega)) ?_
          refine s_add (a := 16 * (((bxo U c : Nat) : Int))) (b := ((G U ||| G (bxo U c) : Nat) : Int)) rfl rfl ?_
          rw [show ((16 * (((bxo U c : Nat) : Int))) + (((G U ||| G (bxo U c) : Nat) : Int)) : Int) = ((nxG G (16 * U + G U) c : Nat) : Int) by rw [e_nx]; omega]
          refine s_iald (a := 63) (n := 1024) (j := ((nxG G (16 * U + G U) c : Nat) : Int)) hh rfl rfl rfl (by omega) (by omega) (by decide) (v := sI ((F (nxG G (16 * U + G U) c) : Int))) (by rw [Int.toNat_natCast]; have q := hI_ok hh (w63 (show nxG G (16 * U + G U) c < 1024 by omega)); rw [l_h _ (by omega)] at q; exact q) ?_
          refine sP 2 (g1 := (126, [some (.ref 53), some (sI ((r : Int))), some (sI ((K : Int))), some (sI ((U : Int))), some (sI ((G U : Int))), some (sI ((F (16 * U + G U) : Int))), some (sI (loW (fun a => decide (F (nxG G (16 * U + G U) a) = F (16 * U + G U) - 1)) n (n - (c + 1)))), some (sI ((c : Int))), some (sI (((bxo U c : Nat) : Int)))], [sI 1, sI ((F (16 * U + G U) : Int)), sI ((F (nxG G (16 * U + G U) c) : Int))], h)) rfl ?_
          refine s_sub (a := (F (16 * U + G U) : Int)) (b := 1) rfl rfl ?_
          refine s_icmp (q := .ne) (a := (F (nxG G (16 * U + G U) c) : Int)) (b := ((F (16 * U + G U) : Int)) - 1) rfl ⟨_, rfl⟩ rfl (by unfold sR aMi aMa; omega) (by unfold sR aMi aMa; omega) (fun hc3 => ?_) (fun hc3 => ?_)
          · have hc3 : (((F (nxG G (16 * U + G U) c) : Int)) : Int) ≠ (((F (16 * U + G U) : Int)) - 1) := hc3
            omega
          · have hc3 : ¬ ((((F (nxG G (16 * U + G U) c) : Int)) : Int) ≠ (((F (16 * U + G U) : Int)) - 1)) := hc3
            refine sP 3 (g1 := (132, [some (.ref 53), some (sI ((r : Int))), some (sI ((K : Int))), some (sI ((U : Int))), some (sI ((G U : Int))), some (sI ((F (16 * U + G U) : Int))), some (sI ((c : Int))), some (sI ((c : Int))), some (sI (((bxo U c : Nat) : Int)))], [], h)) rfl ?_
            refine s_inc (a := (c : Int)) (n := (-1)) (k := 7) rfl rfl rfl ?_
            refine sP 1 (g1 := (101, [some (.ref 53), some (sI ((r : Int))), some (sI ((K : Int))), some (sI ((U : Int))), some (sI ((G U : Int))), some (sI ((F (16 * U + G U) : Int))), some (sI ((c : Int))), some (sI (((c : Int)) + (-1))), some (sI (((bxo U c : Nat) : Int)))], [], h)) rfl ?_
            rw [show ((c : Int) + (-1)) = (c : Int) - 1 by omega]
            exact i1
    · rw [e1, if_neg (show ¬ (fun a => decide (F (nxG G (16 * U + G U) a) = F (16 * U + G U) - 1)) c = true from fun w => ce (of_decide_eq_true w))] at i1
      refine sP 1 (g1 := (102, [some (.ref 53), some (sI ((r : Int))), some (sI ((K : Int))), some (sI ((U : Int))), some (sI ((G U : Int))), some (sI ((F (16 * U + G U) : Int))), some (sI (loW (fun a => decide (F (nxG G (16 * U + G U) a) = F (16 * U + G U) - 1)) n (n - (c + 1)))), some (sI ((c : Int))), X8], [sI ((c : Int))], h)) rfl ?_
      refine s_ifc (q := .lt) (a := (c : Int)) rfl ⟨_, rfl⟩ rfl (by unfold sR aMi aMa; omega) (fun hc1 => ?_) (fun hc1 => ?_)
      · have hc1 : (((c : Int)) : Int) < 0 := hc1
        omega
      · have hc1 : ¬ ((((c : Int)) : Int) < 0) := hc1
        refine sP 1 (g1 := (104, [some (.ref 53), some (sI ((r : Int))), some (sI ((K : Int))), some (sI ((U : Int))), some (sI ((G U : Int))), some (sI ((F (16 * U + G U) : Int))), some (sI (loW (fun a => decide (F (nxG G (16 * U + G U) a) = F (16 * U + G U) - 1)) n (n - (c + 1)))), some (sI ((c : Int))), X8], [sI ((F (16 * U + G U) : Int))], h)) rfl ?_
        refine s_ifc (q := .le) (a := (F (16 * U + G U) : Int)) rfl ⟨_, rfl⟩ rfl (by unfold sR aMi aMa; omega) (fun hc2 => ?_) (fun hc2 => ?_)
        · have hc2 : (((F (16 * U + G U) : Int)) : Int) ≤ 0 := hc2
          omega
        · have hc2 : ¬ ((((F (16 * U + G U) : Int)) : Int) ≤ 0) := hc2
          refine sP 3 (g1 := (108, [some (.ref 53), some (sI ((r : Int))), some (sI ((K : Int))), some (sI ((U : Int))), some (sI ((G U : Int))), some (sI ((F (16 * U + G U) : Int))), some (sI (loW (fun a => decide (F (nxG G (16 * U + G U) a) = F (16 * U + G U) - 1)) n (n - (c + 1)))), some (sI ((c : Int))), X8], [sI ((c : Int)), sI 1, sI ((U : Int))], h)) rfl ?_
          refine s_shl (a := c) rfl rfl (by omega) ?_
          refine s_xo (s := U) (a := c) rfl rfl (by omega) (by omega) ?_
          refine sP 2 (g1 := (112, [some (.ref 53), some (sI ((r : Int))), some (sI ((K : Int))), some (sI ((U : Int))), some (sI ((G U : Int))), some (sI ((F (16 * U + G U) : Int))), some (sI (loW (fun a => decide (F (nxG G (16 * U + G U) a) = F (16 * U + G U) - 1)) n (n - (c + 1)))), some (sI ((c : Int))), some (sI (((bxo U c : Nat) : Int)))], [.ref 53], h)) rfl ?_
          refine s_get (a := 53) (j := 15) hh rfl ⟨_, rfl⟩ rfl rfl rfl (v := .ref 63) (hR_ok hh (by decide +kernel)) ?_
          refine sP 2 (g1 := (115, [some (.ref 53), some (sI ((r : Int))), some (sI ((K : Int))), some (sI ((U : Int))), some (sI ((G U : Int))), some (sI ((F (16 * U + G U) : Int))), some (sI (loW (fun a => decide (F (nxG G (16 * U + G U) a) = F (16 * U + G U) - 1)) n (n - (c + 1)))), some (sI ((c : Int))), some (sI (((bxo U c : Nat) : Int)))], [sI (((bxo U c : Nat) : Int)), sI 16, .ref 63], h)) rfl ?_
          refine s_mul (a := 16) (b := ((bxo U c : Nat) : Int)) rfl rfl ?_
          refine sP 2 (g1 := (118, [some (.ref 53), some (sI ((r : Int))), some (sI ((K : Int))), some (sI ((U : Int))), some (sI ((G U : Int))), some (sI ((F (16 * U + G U) : Int))), some (sI (loW (fun a => decide (F (nxG G (16 * U + G U) a) = F (16 * U + G U) - 1)) n (n - (c + 1)))), some (sI ((c : Int))), some (sI (((bxo U c : Nat) : Int)))], [.ref 53, sI ((G U : Int)), sI (16 * (((bxo U c : Nat) : Int))), .ref 63], h)) rfl ?_
          refine s_get (a := 53) (j := 16) hh rfl ⟨_, rfl⟩ rfl rfl rfl (v := .ref 64) (hR_ok hh (by decide +kernel)) ?_
          refine sP 1 (g1 := (120, [some (.ref 53), some (sI ((r : Int))), some (sI ((K : Int))), some (sI ((U : Int))), some (sI ((G U : Int))), some (sI ((F (16 * U + G U) : Int))), some (sI (loW (fun a => decide (F (nxG G (16 * U + G U) a) = F (16 * U + G U) - 1)) n (n - (c + 1)))), some (sI ((c : Int))), some (sI (((bxo U c : Nat) : Int)))], [sI (((bxo U c : Nat) : Int)), .ref 64, sI ((G U : Int)), sI (16 * (((bxo U c : Nat) : Int))), .ref 63], h)) rfl ?_
          refine s_iald (a := 64) (n := 64) (j := ((bxo U c : Nat) : Int)) hh rfl rfl rfl (by omega) (by omega) (by decide) (v := sI ((G (bxo U c) : Int))) (by rw [Int.toNat_natCast]; have q := hI_ok hh (w64 (show bxo U c < 64 by omega)); rw [g_h _ (by omega)] at q; exact q) ?_
          refine s_b1 (w := Int32.ofInt ((G U ||| G (bxo U c) : Nat) : Int)) rfl rfl (b_or16 (G U) (by omega) (G (bxo U c)) (by omega)) ?_
          refine s_add (a := 16 * (((bxo U c : Nat) : Int))) (b := ((G U ||| G (bxo U c) : Nat) : Int)) rfl rfl ?_
          rw [show ((16 * (((bxo U c : Nat) : Int))) + (((G U ||| G (bxo U c) : Nat) : Int)) : Int) = ((nxG G (16 * U + G U) c : Nat) : Int) by rw [e_nx]; omega]
          refine s_iald (a := 63) (n := 1024) (j := ((nxG G (16 * U + G U) c : Nat) : Int)) hh rfl rfl rfl (by omega) (by omega) (by decide) (v := sI ((F (nxG G (16 * U + G U) c) : Int))) (by rw [Int.toNat_natCast]; have q := hI_ok hh (w63 (show nxG G (16 * U + G U) c < 1024 by omega)); rw [l_h _ (by omega)] at q; exact q) ?_
          refine sP 2 (g1 := (126, [some (.ref 53), some (sI ((r : Int))), some (sI ((K : Int))), some (sI ((U : Int))), some (sI ((G U : Int))), some (sI ((F (16 * U + G U) : Int))), some (sI (loW (fun a => decide (F (nxG G (16 * U + G U) a) = F (16 * U + G U) - 1)) n (n - (c + 1)))), some (sI ((c : Int))), some (sI (((bxo U c : Nat) : Int)))], [sI 1, sI ((F (16 * U + G U) : Int)), sI ((F (nxG G (16 * U + G U) c) : Int))], h)) rfl ?_
          refine s_sub (a := (F (16 * U + G U) : Int)) (b := 1) rfl rfl ?_
          refine s_icmp (q := .ne) (a := (F (nxG G (16 * U + G U) c) : Int)) (b := ((F (16 * U + G U) : Int)) - 1) rfl ⟨_, rfl⟩ rfl (by unfold sR aMi aMa; omega) (by unfold sR aMi aMa; omega) (fun hc3 => ?_) (fun hc3 => ?_)
          · have hc3 : (((F (nxG G (16 * U + G U) c) : Int)) : Int) ≠ (((F (16 * U + G U) : Int)) - 1) := hc3
            refine sP 2 (g1 := (132, [some (.ref 53), some (sI ((r : Int))), some (sI ((K : Int))), some (sI ((U : Int))), some (sI ((G U : Int))), some (sI ((F (16 * U + G U) : Int))), some (sI (loW (fun a => decide (F (nxG G (16 * U + G U) a) = F (16 * U + G U) - 1)) n (n - (c + 1)))), some (sI ((c : Int))), some (sI (((bxo U c : Nat) : Int)))], [], h)) rfl ?_
            refine s_inc (a := (c : Int)) (n := (-1)) (k := 7) rfl rfl rfl ?_
            refine sP 1 (g1 := (101, [some (.ref 53), some (sI ((r : Int))), some (sI ((K : Int))), some (sI ((U : Int))), some (sI ((G U : Int))), some (sI ((F (16 * U + G U) : Int))), some (sI (loW (fun a => decide (F (nxG G (16 * U + G U) a) = F (16 * U + G U) - 1)) n (n - (c + 1)))), some (sI (((c : Int)) + (-1))), some (sI (((bxo U c : Nat) : Int)))], [], h)) rfl ?_
            rw [show ((c : Int) + (-1)) = (c : Int) - 1 by omega]
            exact i1
          · have hc3 : ¬ ((((F (nxG G (16 * U + G U) c) : Int)) : Int) ≠ (((F (16 * U + G U) : Int)) - 1)) := hc3
            omega
theorem fStM {n r K U : Nat} {G F : Nat → Nat} (hh : aHp h) (hr : r < 6) (hn6 : n ≤ 6) (hK : K ≤ 4) (hU : U < 2 ^ n) (hG : ∀ t, G t < 2 ^ K) (n_h : hI h 58 0 = (n : Int)) (g_h : ∀ t, t < 2 ^ n → hI h 64 t = (G t : Int)) (l_h : ∀ s, s < 1024 → hI h 63 s = (F s : Int)) (hF : ∀ s, F s ≤ 1000000) (u_h : hI h 58 43 = (U : Int)) (X : List (Option Value)) : ∃ z g, nRn sc (d + 5) (mMT mMe190) (mMC mMe190) (68, [some (.ref 53), some (sI ((r : Int))), some (sI ((K : Int))), none, none, none, none, none, none], [], h) (some (sI z), g) ∧ aHp g ∧ (1000000 ≤ F (16 * U + G U) → z = -9 ∧ g = h) ∧ (F (16 * U + G U) < 1000000 → z = (F (16 * U + G U) : Int) ∧ ∀ p m, aSlot g p m = if p = 53 ∧ m = 8 then some (sI (if F (16 * U + G U) = 0 then -9 else loW (fun a => decide (F (nxG G (16 * U + G U) a) = F (16 * U + G U) - 1)) n n)) else aSlot h p m) := by
  have p2 := p2_le hn6
  have p4 := p2_4 hK
  have gU := hG U
  have fs := hF (16 * U + G U)
  by_cases big : 1000000 ≤ F (16 * U + G U)
  · refine ⟨-9, h, ?_, hh, fun _ => ⟨rfl, rfl⟩, fun w => by omega⟩
    refine sP 1 (g1 := (69, [some (.ref 53), some (sI ((r : Int))), some (sI ((K : Int))), none, none, none, none, none, none], [.ref 53], h)) rfl ?_
    refine s_get (a := 53) (j := 4) hh rfl ⟨_, rfl⟩ rfl rfl rfl (v := .ref 58) (hR_ok hh (by decide +kernel)) ?_
    refine sP 1 (g1 := (71, [some (.ref 53), some (sI ((r : Int))), some (sI ((K : Int))), none, none, none, none, none, none], [sI 43, .ref 58], h)) rfl ?_
    refine s_iald (a := 58) (n := 201) (j := 43) hh rfl rfl rfl (by omega) (by omega) (by decide) (v := sI ((U : Int))) (by have q := hI_ok hh nw_u; rw [u_h] at q; exact q) ?_
    refine sP 2 (g1 := (74, [some (.ref 53), some (sI ((r : Int))), some (sI ((K : Int))), some (sI ((U : Int))), none, none, none, none, none], [.ref 53], h)) rfl ?_
    refine s_get (a := 53) (j := 16) hh rfl ⟨_, rfl⟩ rfl rfl rfl (v := .ref 64) (hR_ok hh (by decide +kernel)) ?_
    refine sP 1 (g1 := (76, [some (.ref 53), some (sI ((r : Int))), some (sI ((K : Int))), some (sI ((U : Int))), none, none, none, none, none], [sI ((U : Int)), .ref 64], h)) rfl ?_
    refine s_iald (a := 64) (n := 64) (j := (U : Int)) hh rfl rfl rfl (by omega) (by omega) (by decide) (v := sI ((G U : Int))) (by rw [Int.toNat_natCast]; have q := hI_ok hh (w64 (show U < 64 by omega)); rw [g_h _ (by omega)] at q; exact q) ?_
    refine sP 2 (g1 := (79, [some (.ref 53), some (sI ((r : Int))), some (sI ((K : Int))), some (sI ((U : Int))), some (sI ((G U : Int))), none, none, none, none], [.ref 53], h)) rfl ?_
    refine s_get (a := 53) (j := 15) hh rfl ⟨_, rfl⟩ rfl rfl rfl (v := .ref 63) (hR_ok hh (by decide +kernel)) ?_
    refine sP 2 (g1 := (82, [some (.ref 53), some (sI ((r : Int))), some (sI ((K : Int))), some (sI ((U : Int))), some (sI ((G U : Int))), none, none, none, none], [sI ((U : Int)), sI 16, .ref 63], h)) rfl ?_
    refine s_mul (a := 16) (b := (U : Int)) rfl rfl ?_
    refine sP 1 (g1 := (84, [some (.ref 53), some (sI ((r : Int))), some (sI ((K : Int))), some (sI ((U : Int))), some (sI ((G U : Int))), none, none, none, none], [sI ((G U : Int)), sI (16 * ((U : Int))), .ref 63], h)) rfl ?_
    refine s_add (a := 16 * ((U : Int))) (b := (G U : Int)) rfl rfl ?_
    refine s_iald (a := 63) (n := 1024) (j := (16 * ((U : Int))) + ((G U : Int))) hh rfl rfl rfl (by omega) (by omega) (by decide) (v := sI ((F (16 * U + G U) : Int))) (by rw [show ((16 * (U : Int)) + (G U : Int) : Int).toNat = 16 * U + G U by omega]; have q := hI_ok hh (w63 (show 16 * U + G U < 1024 by omega)); rw [l_h _ (by omega)] at q; exact q) ?_
    refine sP 3 (g1 := (89, [some (.ref 53), some (sI ((r : Int))), some (sI ((K : Int))), some (sI ((U : Int))), some (sI ((G U : Int))), some (sI ((F (16 * U + G U) : Int))), none, none, none], [sI 1000000, sI ((F (16 * U + G U) : Int))], h)) rfl ?_
    refine s_icmp (q := .lt) (a := (F (16 * U + G U) : Int)) (b := 1000000) rfl ⟨_, rfl⟩ rfl (by unfold sR aMi aMa; omega) (by unfold sR aMi aMa; omega) (fun hc1 => ?_) (fun hc1 => ?_)
    · have hc1 : (((F (16 * U + G U) : Int)) : Int) < 1000000 := hc1
      omega
    · have hc1 : ¬ ((((F (16 * U + G U) : Int)) : Int) < 1000000) := hc1
      refine sP 1 (g1 := (91, [some (.ref 53), some (sI ((r : Int))), some (sI ((K : Int))), some (sI ((U : Int))), some (sI ((G U : Int))), some (sI ((F (16 * U + G U) : Int))), none, none, none], [sI ((-9))], h)) rfl ?_
      exact s_reti rfl rfl (Or.inl rfl) rfl rfl
  · by_cases z0 : F (16 * U + G U) = 0
    · obtain ⟨g, ea, hg, sg⟩ := fAnswer (sc := sc) (d := d + 4) (v := (F (16 * U + G U) : Int)) (t := -9) hh (by unfold sR aMi aMa; omega)
      refine ⟨(F (16 * U + G U) : Int), g, ?_, hg, fun w => by omega, fun _ => ⟨rfl, fun p m => by rw [sg, if_pos z0]⟩⟩
      refine sP 1 (g1 := (69, [some (.ref 53), some (sI ((r : Int))), some (sI ((K : Int))), none, none, none, none, none, none], [.ref 53], h)) rfl ?_
      refine s_get (a := 53) (j := 4) hh rfl ⟨_, rfl⟩ rfl rfl rfl (v := .ref 58) (hR_ok hh (by decide +kernel)) ?_
      refine sP 1 (g1 := (71, [some (.ref 53), some (sI ((r : Int))), some (sI ((K : Int))), none, none, none, none, none, none], [sI 43, .ref 58], h)) rfl ?_
      refine s_iald (a := 58) (n := 201) (j := 43) hh rfl rfl rfl (by omega) (by omega) (by decide) (v := sI ((U : Int))) (by have q := hI_ok hh nw_u; rw [u_h] at q; exact q) ?_
      refine sP 2 (g1 := (74, [some (.ref 53), some (sI ((r : Int))), some (sI ((K : Int))), some (sI ((U : Int))), none, none, none, none, none], [.ref 53], h)) rfl ?_
      refine s_get (a := 53) (j := 16) hh rfl ⟨_, rfl⟩ rfl rfl rfl (v := .ref 64) (hR_ok hh (by decide +kernel)) ?_
      refine sP 1 (g1 := (76, [some (.ref 53), some (sI ((r : Int))), some (sI ((K : Int))), some (sI ((U : Int))), none, none, none, none, none], [sI ((U : Int)), .ref 64], h)) rfl ?_
      refine s_iald (a := 64) (n := 64) (j := (U : Int)) hh rfl rfl rfl (by omega) (by omega) (by decide) (v := sI ((G U : Int))) (by rw [Int.toNat_natCast]; have q := hI_ok hh (w64 (show U < 64 by omega)); rw [g_h _ (by omega)] at q; exact q) ?_
      refine sP 2 (g1 := (79, [some (.ref 53), some (sI ((r : Int))), some (sI ((K : Int))), some (sI ((U : Int))), some (sI ((G U : Int))), none, none, none, none], [.ref 53], h)) rfl ?_
      refine s_get (a := 53) (j := 15) hh rfl ⟨_, rfl⟩ rfl rfl rfl (v := .ref 63) (hR_ok hh (by decide +kernel)) ?_
      refine sP 2 (g1 := (82, [some (.ref 53), some (sI ((r : Int))), some (sI ((K : Int))), some (sI ((U : Int))), some (sI ((G U : Int))), none, none, none, none], [sI ((U : Int)), sI 16, .ref 63], h)) rfl ?_
      refine s_mul (a := 16) (b := (U : Int)) rfl rfl ?_
      refine sP 1 (g1 := (84, [some (.ref 53), some (sI ((r : Int))), some (sI ((K : Int))), some (sI ((U : Int))), some (sI ((G U : Int))), none, none, none, none], [sI ((G U : Int)), sI (16 * ((U : Int))), .ref 63], h)) rfl ?_
      refine s_add (a := 16 * ((U : Int))) (b := (G U : Int)) rfl rfl ?_
      refine s_iald (a := 63) (n := 1024) (j := (16 * ((U : Int))) + ((G U : Int))) hh rfl rfl rfl (by omega) (by omega) (by decide) (v := sI ((F (16 * U + G U) : Int))) (by rw [show ((16 * (U : Int)) + (G U : Int) : Int).toNat = 16 * U + G U by omega]; have q := hI_ok hh (w63 (show 16 * U + G U < 1024 by omega)); rw [l_h _ (by omega)] at q; exact q) ?_
      refine sP 3 (g1 := (89, [some (.ref 53), some (sI ((r : Int))), some (sI ((K : Int))), some (sI ((U : Int))), some (sI ((G U : Int))), some (sI ((F (16 * U + G U) : Int))), none, none, none], [sI 1000000, sI ((F (16 * U + G U) : Int))], h)) rfl ?_
      refine s_icmp (q := .lt) (a := (F (16 * U + G U) : Int)) (b := 1000000) rfl ⟨_, rfl⟩ rfl (by unfold sR aMi aMa; omega) (by unfold sR aMi aMa; omega) (fun hc1 => ?_) (fun hc1 => ?_)
      · have hc1 : (((F (16 * U + G U) : Int)) : Int) < 1000000 := hc1
        refine sP 3 (g1 := (95, [some (.ref 53), some (sI ((r : Int))), some (sI ((K : Int))), some (sI ((U : Int))), some (sI ((G U : Int))), some (sI ((F (16 * U + G U) : Int))), some (sI ((-9))), none, none], [.ref 53], h)) rfl ?_
        refine s_get (a := 53) (j := 4) hh rfl ⟨_, rfl⟩ rfl rfl rfl (v := .ref 58) (hR_ok hh (by decide +kernel)) ?_
        refine sP 1 (g1 := (97, [some (.ref 53), some (sI ((r : Int))), some (sI ((K : Int))), some (sI ((U : Int))), some (sI ((G U : Int))), some (sI ((F (16 * U + G U) : Int))), some (sI ((-9))), none, none], [sI 0, .ref 58], h)) rfl ?_
        refine s_iald (a := 58) (n := 201) (j := 0) hh rfl rfl rfl (by omega) (by omega) (by decide) (v := sI ((n : Int))) (by have q := hI_ok hh nw_p; rw [n_h] at q; exact q) ?_
        refine sP 1 (g1 := (99, [some (.ref 53), some (sI ((r : Int))), some (sI ((K : Int))), some (sI ((U : Int))), some (sI ((G U : Int))), some (sI ((F (16 * U + G U) : Int))), some (sI ((-9))), none, none], [sI 1, sI ((n : Int))], h)) rfl ?_
        refine s_sub (a := (n : Int)) (b := 1) rfl rfl ?_
        refine sP 2 (g1 := (102, [some (.ref 53), some (sI ((r : Int))), some (sI ((K : Int))), some (sI ((U : Int))), some (sI ((G U : Int))), some (sI ((F (16 * U + G U) : Int))), some (sI ((-9))), some (sI (((n : Int)) - 1)), none], [sI (((n : Int)) - 1)], h)) rfl ?_
        refine s_ifc (q := .lt) (a := ((n : Int)) - 1) rfl ⟨_, rfl⟩ rfl (by unfold sR aMi aMa; omega) (fun hc2 => ?_) (fun hc2 => ?_)
        · have hc2 : ((((n : Int)) - 1) : Int) < 0 := hc2
          refine sP 3 (g1 := (137, [some (.ref 53), some (sI ((r : Int))), some (sI ((K : Int))), some (sI ((U : Int))), some (sI ((G U : Int))), some (sI ((F (16 * U + G U) : Int))), some (sI ((-9))), some (sI (((n : Int)) - 1)), none], [sI ((-9)), sI ((F (16 * U + G U) : Int)), .ref 53], h)) rfl ?_
          refine s_call (k := 186) (args := [.ref 53, sI ((F (16 * U + G U) : Int)), sI ((-9))]) (st := []) (v := some (sI ((F (16 * U + G U) : Int)))) (h1 := g) rfl ⟨rfl, rfl⟩ rfl rfl rfl rfl (sRcv hh (a := 53) rfl rfl) rfl ea ?_
          exact s_reti rfl rfl (Or.inl rfl) rfl rfl
        · have hc2 : ¬ (((((n : Int)) - 1) : Int) < 0) := hc2
          refine sP 1 (g1 := (104, [some (.ref 53), some (sI ((r : Int))), some (sI ((K : Int))), some (sI ((U : Int))), some (sI ((G U : Int))), some (sI ((F (16 * U + G U) : Int))), some (sI ((-9))), some (sI (((n : Int)) - 1)), none], [sI ((F (16 * U + G U) : Int))], h)) rfl ?_
          refine s_ifc (q := .le) (a := (F (16 * U + G U) : Int)) rfl ⟨_, rfl⟩ rfl (by unfold sR aMi aMa; omega) (fun hc3 => ?_) (fun hc3 => ?_)
          · have hc3 : (((F (16 * U + G U) : Int)) : Int) ≤ 0 := hc3
            refine sP 3 (g1 := (137, [some (.ref 53), some (sI ((r : Int))), some (sI ((K : Int))), some (sI ((U : Int))), some (sI ((G U : Int))), some (sI ((F (16 * U + G U) : Int))), some (sI ((-9))), some (sI (((n : Int)) - 1)), none], [sI ((-9)), sI ((F (16 * U + G U) : Int)), .ref 53], h)) rfl ?_
            refine s_call (k := 186) (args := [.ref 53, sI ((F (16 * U + G U) : Int)), sI ((-9))]) (st := []) (v := some (sI ((F (16 * U + G U) : Int)))) (h1 := g) rfl ⟨rfl, rfl⟩ rfl rfl rfl rfl (sRcv hh (a := 53) rfl rfl) rfl ea ?_
            exact s_reti rfl rfl (Or.inl rfl) rfl rfl
          · have hc3 : ¬ ((((F (16 * U + G U) : Int)) : Int) ≤ 0) := hc3
            omega
      · have hc1 : ¬ ((((F (16 * U + G U) : Int)) : Int) < 1000000) := hc1
        omega
    · obtain ⟨g, ea, hg, sg⟩ := fAnswer (sc := sc) (d := d + 4) (v := (F (16 * U + G U) : Int)) (t := loW (fun a => decide (F (nxG G (16 * U + G U) a) = F (16 * U + G U) - 1)) n n) hh (by unfold sR aMi aMa; omega)
      refine ⟨(F (16 * U + G U) : Int), g, ?_, hg, fun w => by omega, fun _ => ⟨rfl, fun p m => by rw [sg, if_neg z0]⟩⟩
      obtain ⟨Y7, Y8, i1⟩ := fStL (sc := sc) (d := d) (r := r) hh hr hn6 hK hU hG n_h g_h l_h hF (by omega) n none (Nat.le_refl n)
      rw [Nat.sub_self] at i1
      refine sP 1 (g1 := (69, [some (.ref 53), some (sI ((r : Int))), some (sI ((K : Int))), none, none, none, none, none, none], [.ref 53], h)) rfl ?_
      refine s_get (a := 53) (j := 4) hh rfl ⟨_, rfl⟩ rfl rfl rfl (v := .ref 58) (hR_ok hh (by decide +kernel)) ?_
      refine sP 1 (g1 := (71, [some (.ref 53), some (sI ((r : Int))), some (sI ((K : Int))), none, none, none, none, none, none], [sI 43, .ref 58], h)) rfl ?_
      refine s_iald (a := 58) (n := 201) (j := 43) hh rfl rfl rfl (by omega) (by omega) (by decide) (v := sI ((U : Int))) (by have q := hI_ok hh nw_u; rw [u_h] at q; exact q) ?_
      refine sP 2 (g1 := (74, [some (.ref 53), some (sI ((r : Int))), some (sI ((K : Int))), some (sI ((U : Int))), none, none, none, none, none], [.ref 53], h)) rfl ?_
      refine s_get (a := 53) (j := 16) hh rfl ⟨_, rfl⟩ rfl rfl rfl (v := .ref 64) (hR_ok hh (by decide +kernel)) ?_
      refine sP 1 (g1 := (76, [some (.ref 53), some (sI ((r : Int))), some (sI ((K : Int))), some (sI ((U : Int))), none, none, none, none, none], [sI ((U : Int)), .ref 64], h)) rfl ?_
      refine s_iald (a := 64) (n := 64) (j := (U : Int)) hh rfl rfl rfl (by omega) (by omega) (by decide) (v := sI ((G U : Int))) (by rw [Int.toNat_natCast]; have q := hI_ok hh (w64 (show U < 64 by omega)); rw [g_h _ (by omega)] at q; exact q) ?_
      refine sP 2 (g1 := (79, [some (.ref 53), some (sI ((r : Int))), some (sI ((K : Int))), some (sI ((U : Int))), some (sI ((G U : Int))), none, none, none, none], [.ref 53], h)) rfl ?_
      refine s_get (a := 53) (j := 15) hh rfl ⟨_, rfl⟩ rfl rfl rfl (v := .ref 63) (hR_ok hh (by decide +kernel)) ?_
      refine sP 2 (g1 := (82, [some (.ref 53), some (sI ((r : Int))), some (sI ((K : Int))), some (sI ((U : Int))), some (sI ((G U : Int))), none, none, none, none], [sI ((U : Int)), sI 16, .ref 63], h)) rfl ?_
      refine s_mul (a := 16) (b := (U : Int)) rfl rfl ?_
      refine sP 1 (g1 := (84, [some (.ref 53), some (sI ((r : Int))), some (sI ((K : Int))), some (sI ((U : Int))), some (sI ((G U : Int))), none, none, none, none], [sI ((G U : Int)), sI (16 * ((U : Int))), .ref 63], h)) rfl ?_
      refine s_add (a := 16 * ((U : Int))) (b := (G U : Int)) rfl rfl ?_
      refine s_iald (a := 63) (n := 1024) (j := (16 * ((U : Int))) + ((G U : Int))) hh rfl rfl rfl (by omega) (by omega) (by decide) (v := sI ((F (16 * U + G U) : Int))) (by rw [show ((16 * (U : Int)) + (G U : Int) : Int).toNat = 16 * U + G U by omega]; have q := hI_ok hh (w63 (show 16 * U + G U < 1024 by omega)); rw [l_h _ (by omega)] at q; exact q) ?_
      refine sP 3 (g1 := (89, [some (.ref 53), some (sI ((r : Int))), some (sI ((K : Int))), some (sI ((U : Int))), some (sI ((G U : Int))), some (sI ((F (16 * U + G U) : Int))), none, none, none], [sI 1000000, sI ((F (16 * U + G U) : Int))], h)) rfl ?_
      refine s_icmp (q := .lt) (a := (F (16 * U + G U) : Int)) (b := 1000000) rfl ⟨_, rfl⟩ rfl (by unfold sR aMi aMa; omega) (by unfold sR aMi aMa; omega) (fun hc1 => ?_) (fun hc1 => ?_)
      · have hc1 : (((F (16 * U + G U) : Int)) : Int) < 1000000 := hc1
        refine sP 3 (g1 := (95, [some (.ref 53), some (sI ((r : Int))), some (sI ((K : Int))), some (sI ((U : Int))), some (sI ((G U : Int))), some (sI ((F (16 * U + G U) : Int))), some (sI ((-9))), none, none], [.ref 53], h)) rfl ?_
        refine s_get (a := 53) (j := 4) hh rfl ⟨_, rfl⟩ rfl rfl rfl (v := .ref 58) (hR_ok hh (by decide +kernel)) ?_
        refine sP 1 (g1 := (97, [some (.ref 53), some (sI ((r : Int))), some (sI ((K : Int))), some (sI ((U : Int))), some (sI ((G U : Int))), some (sI ((F (16 * U + G U) : Int))), some (sI ((-9))), none, none], [sI 0, .ref 58], h)) rfl ?_
        refine s_iald (a := 58) (n := 201) (j := 0) hh rfl rfl rfl (by omega) (by omega) (by decide) (v := sI ((n : Int))) (by have q := hI_ok hh nw_p; rw [n_h] at q; exact q) ?_
        refine sP 1 (g1 := (99, [some (.ref 53), some (sI ((r : Int))), some (sI ((K : Int))), some (sI ((U : Int))), some (sI ((G U : Int))), some (sI ((F (16 * U + G U) : Int))), some (sI ((-9))), none, none], [sI 1, sI ((n : Int))], h)) rfl ?_
        refine s_sub (a := (n : Int)) (b := 1) rfl rfl ?_
        refine sP 1 (g1 := (101, [some (.ref 53), some (sI ((r : Int))), some (sI ((K : Int))), some (sI ((U : Int))), some (sI ((G U : Int))), some (sI ((F (16 * U + G U) : Int))), some (sI ((-9))), some (sI (((n : Int)) - 1)), none], [], h)) rfl ?_
        refine i1 _ ?_
        refine sP 3 (g1 := (137, [some (.ref 53), some (sI ((r : Int))), some (sI ((K : Int))), some (sI ((U : Int))), some (sI ((G U : Int))), some (sI ((F (16 * U + G U) : Int))), some (sI (loW (fun a => decide (F (nxG G (16 * U + G U) a) = F (16 * U + G U) - 1)) n n)), Y7, Y8], [sI (loW (fun a => decide (F (nxG G (16 * U + G U) a) = F (16 * U + G U) - 1)) n n), sI ((F (16 * U + G U) : Int)), .ref 53], h)) rfl ?_
        refine s_call (k := 186) (args := [.ref 53, sI ((F (16 * U + G U) : Int)), sI (loW (fun a => decide (F (nxG G (16 * U + G U) a) = F (16 * U + G U) - 1)) n n)]) (st := []) (v := some (sI ((F (16 * U + G U) : Int)))) (h1 := g) rfl ⟨rfl, rfl⟩ rfl rfl rfl rfl (sRcv hh (a := 53) rfl rfl) rfl ea ?_
        exact s_reti rfl rfl (Or.inl rfl) rfl rfl
      · have hc1 : ¬ ((((F (16 * U + G U) : Int)) : Int) < 1000000) := hc1
        omega
theorem fStepsM {r K : Nat} {z y : Int} {g1 g2 g3 : mH} (hh : aHp h) (hr : r < 6) (hn : hI h 58 0 ≠ 0) (hz : hI h 54 r = z) (hK : z = 2 * (K : Int)) (hK1 : 1 ≤ K) (hK4 : K ≤ 4) (ea : nEv sc (d + 5) 191 [.ref 53, sI (r : Int)] h (some (sI 1), h)) (e1 : nEv sc (d + 5) 192 [.ref 53, sI (r : Int), sI (K : Int)] h (none, g1)) (hg1 : aHp g1) (e2 : nEv sc (d + 5) 193 [.ref 53, sI ((2 ^ K - 1 : Nat) : Int)] g1 (none, g2)) (hg2 : aHp g2) (e3 : nRn sc (d + 5) (mMT mMe190) (mMC mMe190) (68, [some (.ref 53), some (sI ((r : Int))), some (sI ((K : Int))), none, none, none, none, none, none], [], g2) (some (sI y), g3)) : nEv sc (d + 6) 190 [.ref 53, sI (r : Int)] h (some (sI y), g3) := by
  have p4 := p2_4 hK4
  have gp := hI_rg hh nw_p
  refine nEv_of (t := mMe190) rfl ?_
  show nRn sc (d + 5) (mMT mMe190) (mMC mMe190) (0, [some (.ref 53), some (sI ((r : Int))), none, none, none, none, none, none, none], [], h) _
  refine sP 1 (g1 := (1, [some (.ref 53), some (sI ((r : Int))), none, none, none, none, none, none, none], [sI ((r : Int))], h)) rfl ?_
  have ev1 := fIsRow (sc := sc) (d := d + 3) (h := h) (r := (r : Int)) (by unfold sR aMi aMa; omega)
  rw [if_pos (by omega)] at ev1
  refine s_call (k := 126) (args := [sI ((r : Int))]) (st := []) (v := some (sI 1)) (h1 := h) rfl ⟨rfl, rfl⟩ rfl rfl rfl rfl rfl rfl ev1 ?_
  refine s_ifc (q := .ne) (a := 1) rfl ⟨_, rfl⟩ rfl (by unfold sR aMi aMa; omega) (fun hc2 => ?_) (fun hc2 => ?_)
  · have hc2 : (1 : Int) ≠ 0 := hc2
    refine sP 1 (g1 := (6, [some (.ref 53), some (sI ((r : Int))), none, none, none, none, none, none, none], [.ref 53], h)) rfl ?_
    refine s_get (a := 53) (j := 4) hh rfl ⟨_, rfl⟩ rfl rfl rfl (v := .ref 58) (hR_ok hh (by decide +kernel)) ?_
    refine sP 1 (g1 := (8, [some (.ref 53), some (sI ((r : Int))), none, none, none, none, none, none, none], [sI 0, .ref 58], h)) rfl ?_
    refine s_iald (a := 58) (n := 201) (j := 0) hh rfl rfl rfl (by omega) (by omega) (by decide) (v := sI (hI h 58 0)) (hI_ok hh nw_p) ?_
    refine s_ifc (q := .ne) (a := hI h 58 0) rfl ⟨_, rfl⟩ rfl (by unfold sR aMi aMa; omega) (fun hc3 => ?_) (fun hc3 => ?_)
    · have hc3 : ((hI h 58 0) : Int) ≠ 0 := hc3
      refine sP 1 (g1 := (13, [some (.ref 53), some (sI ((r : Int))), none, none, none, none, none, none, none], [.ref 53], h)) rfl ?_
      refine s_get (a := 53) (j := 0) hh rfl ⟨_, rfl⟩ rfl rfl rfl (v := .ref 54) (hR_ok hh (by decide +kernel)) ?_
      refine sP 1 (g1 := (15, [some (.ref 53), some (sI ((r : Int))), none, none, none, none, none, none, none], [sI ((r : Int)), .ref 54], h)) rfl ?_
      refine s_iald (a := 54) (n := 6) (j := (r : Int)) hh rfl rfl rfl (by omega) (by omega) (by decide) (v := sI z) (by rw [Int.toNat_natCast]; have q := hI_ok hh (w54 hr); rw [hz] at q; exact q) ?_
      refine s_ifc (q := .ge) (a := z) rfl ⟨_, rfl⟩ rfl (by unfold sR aMi aMa; omega) (fun hc4 => ?_) (fun hc4 => ?_)
      · have hc4 : (0 : Int) ≤ z := hc4
        refine sP 1 (g1 := (22, [some (.ref 53), some (sI ((r : Int))), none, none, none, none, none, none, none], [.ref 53], h)) rfl ?_
        refine s_get (a := 53) (j := 0) hh rfl ⟨_, rfl⟩ rfl rfl rfl (v := .ref 54) (hR_ok hh (by decide +kernel)) ?_
        refine sP 1 (g1 := (24, [some (.ref 53), some (sI ((r : Int))), none, none, none, none, none, none, none], [sI ((r : Int)), .ref 54], h)) rfl ?_
        refine s_iald (a := 54) (n := 6) (j := (r : Int)) hh rfl rfl rfl (by omega) (by omega) (by decide) (v := sI z) (by rw [Int.toNat_natCast]; have q := hI_ok hh (w54 hr); rw [hz] at q; exact q) ?_
        refine sP 1 (g1 := (26, [some (.ref 53), some (sI ((r : Int))), none, none, none, none, none, none, none], [sI 2, sI z], h)) rfl ?_
        refine s_remZ (a := z) rfl rfl (by omega) (by omega) ?_
        refine sP 1 (g1 := (28, [some (.ref 53), some (sI ((r : Int))), none, none, none, none, none, none, none], [sI 1, sI (z % 2)], h)) rfl ?_
        refine s_icmp (q := .eq) (a := z % 2) (b := 1) rfl ⟨_, rfl⟩ rfl (by unfold sR aMi aMa; omega) (by unfold sR aMi aMa; omega) (fun hc5 => ?_) (fun hc5 => ?_)
        · have hc5 : ((z % 2) : Int) = 1 := hc5
          omega
        · have hc5 : ¬ (((z % 2) : Int) = 1) := hc5
          refine sP 1 (g1 := (30, [some (.ref 53), some (sI ((r : Int))), none, none, none, none, none, none, none], [.ref 53], h)) rfl ?_
          refine s_get (a := 53) (j := 0) hh rfl ⟨_, rfl⟩ rfl rfl rfl (v := .ref 54) (hR_ok hh (by decide +kernel)) ?_
          refine sP 1 (g1 := (32, [some (.ref 53), some (sI ((r : Int))), none, none, none, none, none, none, none], [sI ((r : Int)), .ref 54], h)) rfl ?_
          refine s_iald (a := 54) (n := 6) (j := (r : Int)) hh rfl rfl rfl (by omega) (by omega) (by decide) (v := sI z) (by rw [Int.toNat_natCast]; have q := hI_ok hh (w54 hr); rw [hz] at q; exact q) ?_
          refine s_i2l (a := z) rfl rfl (by unfold sR aMi aMa; omega) ?_
          refine sP 2 (g1 := (36, [some (.ref 53), some (sI ((r : Int))), none, none, none, none, none, none, none], [sJ 8, sJ 2, sJ z], h)) rfl ?_
          have ev6 := fIn (sc := sc) (d := d + 4) (h := h) (a := z) (b := 2) (e := 8) (by omega) (by omega) (by omega) (by omega) (by omega) (by omega)
          rw [if_pos (by omega)] at ev6
          refine s_call (k := 127) (args := [sJ z, sJ 2, sJ 8]) (st := []) (v := some (sI 1)) (h1 := h) rfl ⟨rfl, rfl⟩ rfl rfl rfl rfl rfl rfl ev6 ?_
          refine s_ifc (q := .ne) (a := 1) rfl ⟨_, rfl⟩ rfl (by unfold sR aMi aMa; omega) (fun hc7 => ?_) (fun hc7 => ?_)
          · have hc7 : (1 : Int) ≠ 0 := hc7
            refine sP 2 (g1 := (44, [some (.ref 53), some (sI ((r : Int))), none, none, none, none, none, none, none], [sI ((r : Int)), .ref 53], h)) rfl ?_
            refine s_call (k := 191) (args := [.ref 53, sI ((r : Int))]) (st := []) (v := some (sI 1)) (h1 := h) rfl ⟨rfl, rfl⟩ rfl rfl rfl rfl (sRcv hh (a := 53) rfl rfl) rfl ea ?_
            refine s_ifc (q := .ne) (a := 1) rfl ⟨_, rfl⟩ rfl (by unfold sR aMi aMa; omega) (fun hc8 => ?_) (fun hc8 => ?_)
            · have hc8 : (1 : Int) ≠ 0 := hc8
              refine sP 1 (g1 := (51, [some (.ref 53), some (sI ((r : Int))), none, none, none, none, none, none, none], [.ref 53], h)) rfl ?_
              refine s_get (a := 53) (j := 0) hh rfl ⟨_, rfl⟩ rfl rfl rfl (v := .ref 54) (hR_ok hh (by decide +kernel)) ?_
              refine sP 1 (g1 := (53, [some (.ref 53), some (sI ((r : Int))), none, none, none, none, none, none, none], [sI ((r : Int)), .ref 54], h)) rfl ?_
              refine s_iald (a := 54) (n := 6) (j := (r : Int)) hh rfl rfl rfl (by omega) (by omega) (by decide) (v := sI z) (by rw [Int.toNat_natCast]; have q := hI_ok hh (w54 hr); rw [hz] at q; exact q) ?_
              refine sP 1 (g1 := (55, [some (.ref 53), some (sI ((r : Int))), none, none, none, none, none, none, none], [sI 2, sI z], h)) rfl ?_
              refine s_div (a := z) (b := 2) rfl rfl (by omega) (by omega) (by omega) (by omega) ?_
              rw [show z / 2 = (K : Int) by omega]
              refine sP 4 (g1 := (60, [some (.ref 53), some (sI ((r : Int))), some (sI ((K : Int))), none, none, none, none, none, none], [sI ((K : Int)), sI ((r : Int)), .ref 53], h)) rfl ?_
              refine s_call (k := 192) (args := [.ref 53, sI ((r : Int)), sI ((K : Int))]) (st := []) (v := none) (h1 := g1) rfl ⟨rfl, rfl⟩ rfl rfl rfl rfl (sRcv hh (a := 53) rfl rfl) rfl e1 ?_
              refine sP 3 (g1 := (64, [some (.ref 53), some (sI ((r : Int))), some (sI ((K : Int))), none, none, none, none, none, none], [sI ((K : Int)), sI 1, .ref 53], g1)) rfl ?_
              refine s_shl (a := K) rfl rfl (by omega) ?_
              refine sP 1 (g1 := (66, [some (.ref 53), some (sI ((r : Int))), some (sI ((K : Int))), none, none, none, none, none, none], [sI 1, sI (((2 ^ K : Nat) : Int)), .ref 53], g1)) rfl ?_
              refine s_sub (a := ((2 ^ K : Nat) : Int)) (b := 1) rfl rfl ?_
              rw [show ((((2 ^ K : Nat) : Int)) - 1 : Int) = ((2 ^ K - 1 : Nat) : Int) by omega]
              refine s_call (k := 193) (args := [.ref 53, sI (((2 ^ K - 1 : Nat) : Int))]) (st := []) (v := none) (h1 := g2) rfl ⟨rfl, rfl⟩ rfl rfl rfl rfl (sRcv hg1 (a := 53) rfl rfl) rfl e2 ?_
              exact e3
            · have hc8 : ¬ ((1 : Int) ≠ 0) := hc8
              omega
          · have hc7 : ¬ ((1 : Int) ≠ 0) := hc7
            omega
      · have hc4 : ¬ ((0 : Int) ≤ z) := hc4
        omega
    · have hc3 : ¬ (((hI h 58 0) : Int) ≠ 0) := hc3
      omega
  · have hc2 : ¬ ((1 : Int) ≠ 0) := hc2
    omega
end STEPS
theorem vP_st {h h1 : mH} (hp : vP h) (hh1 : aHp h1) (hs : ∀ p m, p ≠ 0 → ¬ (13 ≤ p ∧ p ≤ 16) → p ≠ 20 → p ≠ 53 → ¬ (62 ≤ p ∧ p ≤ 64) → aSlot h1 p m = aSlot h p m) : vP h1 :=
  ⟨wP_sl hp.1 (tP_sl hp.1.1 hh1 (fun e m w => hs e m (by omega) (by omega) (by omega) (by omega) (by omega))) (fun a j w => hs a j (by omega) (by omega) (by omega) (by omega) (by omega)), rP_sl hp.2 (fun a j w => hs a j (by omega) (by omega) (by omega) (by omega) (by omega))⟩
theorem vSteps {sc : List Int32} {h : mH} (x : Int32) (hp : vP h) (hU : hI h 3 4 < ((2 ^ (hI h 3 3).toNat : Nat) : Int)) : ∃ z1 h1 z2 h2, nEv sc 100 84 (.ref 0 :: [x].map Value.int) h (some (.int z1), h1) ∧ aHp h1 ∧ nEv sc 100 190 (.ref 53 :: [x].map Value.int) h1 (some (.int z2), h2) ∧ vE h h2 ∧ z2 = z1 := by
  have hh := vP_a h hp
  have rx : sR x.toInt := aI_rg x
  have nr := hp.1.2.1
  have e3 : hI h 3 3 = hI h 58 0 := nr.1
  have e4 : hI h 3 4 = hI h 58 43 := nr.2.1
  have gp := hI_rg hh xw_p
  obtain ⟨n, en⟩ := iN gp.1
  obtain ⟨U, eU⟩ := iN (hI_rg hh xw_u).1
  rw [en, eU, Int.toNat_natCast] at hU
  by_cases c1 : 0 ≤ x.toInt ∧ x.toInt < 6
  · obtain ⟨r, er⟩ := iN c1.1
    have hr : r < 6 := by omega
    by_cases c2 : hI h 3 3 = 0
    · exact pk1 (-4) (by rw [er]; exact fStepsXs (d := 92) hh hr c2) hh (by rw [er]; exact fStepsMs (d := 94) hh hr (by omega)) (v_same hp)
    have sz := hI_rg hh (ra_z hr)
    have e0 := rS hp.2 hr
    obtain ⟨z, ez⟩ : ∃ z, hI h (21 + 2 * r) 1 = z := ⟨_, rfl⟩
    rw [ez] at e0 sz
    have fnd : ∀ (f : Nat) (h1 h2 : mH), f < 6 → nEv sc 100 84 [.ref 0, sI (r : Int)] h (some (sI (-3)), h1) → oFX f h h1 → nEv sc 100 190 [.ref 53, sI (r : Int)] h1 (some (sI (-3)), h2) → oFM f h1 h2 → ∃ z1 h1 z2 h2, nEv sc 100 84 (.ref 0 :: [x].map Value.int) h (some (.int z1), h1) ∧ aHp h1 ∧ nEv sc 100 190 (.ref 53 :: [x].map Value.int) h1 (some (.int z2), h2) ∧ vE h h2 ∧ z2 = z1 := fun f h1 h2 hf a1 a2 b1 b2 => pk1 (-3) (by rw [er]; exact a1) a2.1 (by rw [er]; exact b1) (v_found hf hp a2 b2)
    have k1 : ∀ {f : Nat} {h1 : mH}, oFX f h h1 → hI h1 54 r = z ∧ hI h1 58 0 = hI h 58 0 ∧ ∀ i, hI h1 55 i = hI h 55 i := fun a2 => ⟨by rw [hI_cg (a2.sl (by omega) (by omega))]; exact e0, hI_cg (a2.sl (by omega) (by omega)), fun i => hI_cg (a2.sl (by omega) (by omega))⟩
    by_cases c3 : z = -1
    · obtain ⟨h1, a1, a2⟩ := fStepsXw (sc := sc) (d := 92) (f := 1) hh hr c2 (by decide) (by decide) (fWhyP1 (d := 96) hh hr ez c3)
      obtain ⟨k2, k3, -⟩ := k1 a2
      obtain ⟨h2, b1, b2⟩ := fStepsMw1 (sc := sc) (d := 94) (z := z) a2.1 hr (by omega) k2 (by omega)
      exact fnd 1 h1 h2 (by decide) a1 a2 b1 b2
    by_cases c4 : z % 2 ≠ 0 ∨ z < 2 ∨ 8 < z
    · obtain ⟨h1, a1, a2⟩ := fStepsXw (sc := sc) (d := 92) (f := 5) hh hr c2 (by decide) (by decide) (fWhyP5 (d := 96) hh hr ez ⟨c3, c4⟩)
      obtain ⟨k2, k3, -⟩ := k1 a2
      obtain ⟨h2, b1, b2⟩ := fStepsMw5 (sc := sc) (d := 94) (z := z) a2.1 hr (by omega) k2 (by omega)
      exact fnd 5 h1 h2 (by decide) a1 a2 b1 b2
    obtain ⟨K, eK⟩ : ∃ K : Nat, z = 2 * (K : Int) := ⟨(z / 2).toNat, by omega⟩
    have hK1 : 1 ≤ K := by omega
    have hK4 : K ≤ 4 := by omega
    have ew := fWhyP0 (sc := sc) (d := 96) hh hr ez eK hK1 hK4
    have prM : ∀ g, hI g 54 r = z → hI g 58 0 = hI h 58 0 → (∀ i, hI g 55 i = hI h 55 i) → arB (fun i => hI g 55 (40 * r + i)) (hI g 58 0) (2 * K) = prB (hI h (22 + 2 * r)) (hI h 3 3) K := fun g q1 q2 q3 => by
      rw [arB_pr, q2, ← e3]
      refine prB_cg (fun i hi => ?_)
      show hI g 55 (40 * r + i) = hI h (22 + 2 * r) i
      rw [q3]
      exact rCe hp.2 hr (by omega)
    by_cases c5 : prB (hI h (22 + 2 * r)) (hI h 3 3) K = true
    · rw [if_pos c5] at ew
      have tw := prB_all c5
      have pp : ∀ i, i < 2 * K → 0 ≤ hI h (22 + 2 * r) i ∧ hI h (22 + 2 * r) i < hI h 3 3 := fun i hi => by
        have q := of_decide_eq_true (tw (i / 2) (by omega))
        rcases (show i = 2 * (i / 2) ∨ i = 2 * (i / 2) + 1 by omega) with w | w
        · rw [w]
          exact q.1
        · rw [w]
          exact q.2.1
      have hpr : ∀ i, i < 2 * K → hI h (22 + 2 * r) i = ((hI h (22 + 2 * r) i).toNat : Int) := fun i hi => by
        have := pp i hi
        omega
      have hlt : ∀ i, i < 2 * K → (hI h (22 + 2 * r) i).toNat < n := fun i hi => by
        have := pp i hi
        omega
      obtain ⟨pr, epr⟩ : ∃ pr : Nat → Nat, ∀ i, pr i = (hI h (22 + 2 * r) i).toNat := ⟨_, fun _ => rfl⟩
      have hB : wkB h n r K pr := ⟨hh, en, by omega, fun i hi => by rw [epr]; exact hpr i hi⟩
      have hp2 : ∀ i, i < 2 * K → pr i < n := fun i hi => by rw [epr]; exact hlt i hi
      obtain ⟨F0, eF0⟩ : ∃ F0 : Nat → Nat → Bool, ∀ s j, F0 s j = agX h n s (pr (2 * j)) (pr (2 * j + 1)) := ⟨_, fun _ _ => rfl⟩
      obtain ⟨G, eG⟩ : ∃ G : Nat → Nat, ∀ t, G t = pFw (F0 t) K := ⟨_, fun _ => rfl⟩
      have gl : ∀ t, G t < 2 ^ K := fun t => by rw [eG]; exact pFw_lt _ _
      have p2 := p2_le (show n ≤ 6 by omega)
      have p4 := p2_4 hK4
      have gU := gl U
      obtain ⟨y, g1, x1, x2, x3, x4⟩ := fFewX (sc := sc) (d := 92) (K := K) (U := U) (pr := pr) (G := G) (F := F0) hr hK4 (by omega) hp2 hB eU (by omega) (fun s hs j hj => (eF0 s j).symm) eG
      have ry : -9 ≤ y ∧ y ≤ 100000 := by
        rcases x4 with ⟨w, -, w2, w3, -⟩ | ⟨-, w3⟩ <;> omega
      obtain ⟨h1, a1, a2, a3⟩ := fStepsX (sc := sc) (d := 92) hh hr c2 ew x1 x2 ry
      have f1 : ∀ p m, p ≠ 0 → ¬ (13 ≤ p ∧ p ≤ 16) → aSlot h1 p m = aSlot h p m := fun p m w1 w2 => by rw [a3, if_neg (by omega), x3 p m (by omega) (by omega) (by omega) (by omega)]
      have n1 : hI h1 58 0 = (n : Int) := by rw [hI_cg (f1 58 0 (by omega) (by omega))]; omega
      have z1 : hI h1 54 r = z := by rw [hI_cg (f1 54 r (by omega) (by omega))]; exact e0
      have i55 : ∀ i, hI h1 55 i = hI h 55 i := fun i => hI_cg (f1 55 i (by omega) (by omega))
      have mB : wmB h1 n r K pr := ⟨a2, n1, by omega, fun i hi => by rw [i55, rCe hp.2 hr (by omega), epr]; exact hpr i hi⟩
      have ar := fAreP (sc := sc) (d := 96) (Z := 2 * K) a2 hr (by omega) (by omega)
      rw [prM h1 z1 (by omega) i55, if_pos c5] at ar
      have agE : ∀ s j, j < K → agM h1 n s (pr (2 * j)) (pr (2 * j + 1)) = F0 s j := fun s j hj => by
        rw [eF0, agM_sl (h := h) (fun m => f1 58 m (by omega) (by omega))]
        exact nR_aX nr en (hp2 _ (by omega)) (hp2 _ (by omega))
      obtain ⟨h2, b1, b2, b3, b4⟩ := fLayA (sc := sc) (d := 94) hr hK4 (show n ≤ 6 by omega) hp2 mB (fun s _ j hj => agE s j hj)
      have g2 : ∀ t, t < 2 ^ n → hI h2 64 t = (G t : Int) := fun t ht => by rw [b3 t ht, eG]
      obtain ⟨h3, d1, F, d2, d3, d4, d5⟩ := fLayF (sc := sc) (d := 97) (h := h2) (n := n) (K := K) (A := 2 ^ K - 1) (q := 2 ^ n) (G := G) b2 (by omega) hK4 rfl rfl gl (by rw [hI_cg (b4 58 0 (by omega))]; exact n1) g2
      have f3 : ∀ p m, p ≠ 63 → p ≠ 64 → aSlot h3 p m = aSlot h1 p m := fun p m w1 w2 => by rw [d2.2.1 p m w1, b4 p m w2]
      obtain ⟨y2, h4, m1, m2, m3, m4⟩ := fStM (sc := sc) (d := 94) (h := h3) (n := n) (r := r) (K := K) (U := U) (G := G) (F := F) d2.1 hr (by omega) hK4 (by omega) gl (by rw [hI_cg (f3 58 0 (by omega) (by omega))]; exact n1) (fun t ht => by rw [hI_cg (d2.2.1 64 t (by omega))]; exact g2 t ht) d2.2.2 d5 (by rw [hI_cg (f3 58 43 (by omega) (by omega)), hI_cg (f1 58 43 (by omega) (by omega))]; omega) []
      have bb := fStepsM (sc := sc) (d := 94) (z := z) a2 hr (fun q => c2 (en.trans (n1.symm.trans q))) z1 eK hK1 hK4 ar b1 b2 d1 d2.1 m1
      have v0 : vlK n K (16 * U + G U) := ⟨by omega, by omega⟩
      have hV := vlK_ok (show n ≤ 6 by omega) hK4 gl
      rcases x4 with ⟨w, w1, w2, w3, w4⟩ | ⟨w1, w3⟩
      · obtain ⟨q1, q2, q3⟩ := ways_eq hV (show n ≤ 6 by omega) d3 d4 (fun s => Decidable.em (s % 16 = 2 ^ K - 1)) v0 w1 (by omega)
        obtain ⟨m5, m6⟩ := m4 (by omega)
        have ey : y2 = y := by omega
        subst ey
        have qv : hI g1 13 3 = (if F (16 * U + G U) = 0 then -9 else loW (fun a => decide (F (nxG G (16 * U + G U) a) = F (16 * U + G U) - 1)) n n) := by
          rw [w4]
          by_cases z0 : F (16 * U + G U) = 0
          · rw [if_pos z0, if_pos (q2 z0)]
          · obtain ⟨q4, q5⟩ := q3 (by omega)
            rw [if_neg z0, if_neg q4, q5]
        have fA : ∀ p m, p ≠ 0 → ¬ (13 ≤ p ∧ p ≤ 16) → p ≠ 53 → ¬ (62 ≤ p ∧ p ≤ 64) → aSlot h4 p m = aSlot h p m := fun p m k1 k2 k3 k4 => by rw [m6, if_neg (by omega), f3 p m (by omega) (by omega), f1 p m k1 k2]
        refine pk1 y2 (by rw [er]; exact a1) a2 (by rw [er]; exact bb) ⟨vP_st hp m2 (fun p m k1 k2 _ k4 k5 => fA p m k1 k2 k4 k5), fun hd => ⟨?_, fun j hj => ?_⟩, fun _ => ?_⟩
        · rw [m6 0 8, if_neg (by omega), f3 0 8 (by omega) (by omega), a3, if_neg (by omega), x3 0 8 (by omega) (by omega) (by omega) (by omega), m6, if_neg (by omega), f3 53 11 (by omega) (by omega), f1 53 11 (by omega) (by omega)]
          exact hd.1
        · rw [m6 20 j, if_neg (by omega), f3 20 j (by omega) (by omega), f1 20 j (by omega) (by omega), m6, if_neg (by omega), f3 62 j (by omega) (by omega), f1 62 j (by omega) (by omega)]
          exact hd.2 j hj
        · show aSlot h4 0 9 = aSlot h4 53 8
          rw [m6 0 9, if_neg (by omega), f3 0 9 (by omega) (by omega), a3, if_pos ⟨by omega, rfl, rfl⟩, m6, if_pos ⟨rfl, rfl⟩, qv]
      · have fa := ways_no d3 v0 w1
        obtain ⟨m5, m6⟩ := m3 fa
        have ey : y2 = y := by omega
        subst ey
        subst m6
        have a4 : ∀ p m, aSlot h1 p m = aSlot g1 p m := fun p m => by rw [a3, if_neg (fun q => q.1 w3)]
        have fB : ∀ p m, ¬ (13 ≤ p ∧ p ≤ 16) → ¬ (63 ≤ p ∧ p ≤ 64) → aSlot h4 p m = aSlot h p m := fun p m k1 k2 => by rw [f3 p m (by omega) (by omega), a4, x3 p m (by omega) (by omega) (by omega) (by omega)]
        refine pk1 y2 (by rw [er]; exact a1) a2 (by rw [er]; exact bb) ⟨vP_st hp d2.1 (fun p m _ k2 _ _ k5 => fB p m k2 (by omega)), fun hd => ⟨?_, fun j hj => ?_⟩, fun hq => ?_⟩
        · rw [fB 0 8 (by omega) (by omega), fB 53 11 (by omega) (by omega)]
          exact hd.1
        · rw [fB 20 j (by omega) (by omega), fB 62 j (by omega) (by omega)]
          exact hd.2 j hj
        · show aSlot h4 0 9 = aSlot h4 53 8
          rw [fB 0 9 (by omega) (by omega), fB 53 8 (by omega) (by omega)]
          exact hq
    · rw [if_neg c5] at ew
      obtain ⟨h1, a1, a2⟩ := fStepsXw (sc := sc) (d := 92) (f := 3) hh hr c2 (by decide) (by decide) ew
      obtain ⟨k2, k3, k4⟩ := k1 a2
      have ar := fAreP (sc := sc) (d := 96) (Z := 2 * K) a2.1 hr (by omega) (by omega)
      rw [prM h1 k2 k3 k4, if_neg c5] at ar
      obtain ⟨h2, b1, b2⟩ := fStepsMw3 (sc := sc) (d := 94) (z := z) a2.1 hr (by omega) k2 (by omega) ar
      exact fnd 3 h1 h2 (by decide) a1 a2 b1 b2
  · exact pk1 (-1) (fStepsXb0 (d := 92) hh rx c1) hh (fStepsMb0 (d := 94) hh rx c1) (v_same hp)
