/-! hears -/
def hF (P : Nat → Bool) : Nat → Nat → Option Nat
  | 0, _ => none
  | k + 1, i => if P i = true then some i else hF P k (i + 1)
def hV : Option Nat → Int
  | none => -9
  | some i => (i : Int)
theorem hF_none {P : Nat → Bool} : ∀ {k i : Nat}, hF P k i = none → ∀ j, i ≤ j → j < i + k → ¬ P j = true
  | 0, _, _, j, h1, h2 => by omega
  | k + 1, i, h, j, h1, h2 => by
    unfold hF at h
    split at h
    · cases h
    · rename_i hn
      by_cases e : j = i
      · rw [e]
        exact hn
      · exact hF_none h j (by omega) (by omega)
theorem hF_of {P : Nat → Bool} : ∀ {k i : Nat}, (∀ j, i ≤ j → j < i + k → ¬ P j = true) → hF P k i = none
  | 0, _, _ => rfl
  | k + 1, i, h => by
    unfold hF
    rw [if_neg (h i (by omega) (by omega))]
    exact hF_of (fun j h1 h2 => h j (by omega) (by omega))
theorem hF_more {P : Nat → Bool} : ∀ {k i e v : Nat}, hF P k i = some v → hF P (k + e) i = some v
  | 0, _, _, _, h => by cases h
  | k + 1, i, e, v, h => by
    rw [show k + 1 + e = (k + e) + 1 by omega]
    unfold hF at h ⊢
    split at h
    · rename_i hp
      rw [if_pos hp]
      exact h
    · rename_i hp
      rw [if_neg hp]
      exact hF_more h
theorem hF_eq {P : Nat → Bool} {n : Nat} (hn : n ≤ 6) (hc : ∀ j, j < 6 → P j = true → ∃ i, i < n ∧ P i = true) : hF P 6 0 = hF P n 0 := by
  cases e : hF P n 0 with
  | some v =>
    have := hF_more (e := 6 - n) e
    rw [show n + (6 - n) = 6 by omega] at this
    exact this
  | none =>
    refine hF_of (fun j h1 h2 hp => ?_)
    obtain ⟨i, hi, hq⟩ := hc j (by omega) hp
    exact hF_none e i (by omega) (by omega) hq
def pc6 (x : Nat) : Nat := x % 2 + x / 2 % 2 + x / 4 % 2 + x / 8 % 2 + x / 16 % 2 + x / 32 % 2
theorem pc6_or : ∀ x, x < 64 → ∀ y, y < 64 → x ||| y = x ∨ pc6 x < pc6 (x ||| y) := by decide +kernel
theorem pc6_le : ∀ n, n < 7 → ∀ x, x < 2 ^ n → pc6 x ≤ n := by decide +kernel
theorem pc6_one : ∀ a, a < 6 → pc6 (2 ^ a) = 1 := by decide +kernel
theorem svI_l2 (G : Nat → Int) (s : Nat) {n a : Nat} (ha : a < n) : ∀ k b x, x < 2 ^ n → svI G s a k b x < 2 ^ n
  | 0, _, _, h => h
  | k + 1, b, x, h => by
    unfold svI
    refine svI_l2 G s ha k (b + 1) _ ?_
    split
    · exact Nat.or_lt_two_pow h (Nat.pow_lt_pow_right (by decide) ha)
    · exact h
theorem svO_l2 (G : Nat → Int) {n : Nat} (s : Nat) : ∀ k a x, a + k ≤ n → x < 2 ^ n → svO G n s k a x < 2 ^ n
  | 0, _, _, _, h => h
  | k + 1, a, x, ha, h => by
    unfold svO
    exact svO_l2 G s k (a + 1) _ (by omega) (svI_l2 G s (by omega) n 0 x h)
theorem kn_l2 (G : Nat → Int) {n a : Nat} (ha : a < n) : ∀ i, kn G n a i < 2 ^ n
  | 0 => Nat.pow_lt_pow_right (by decide) ha
  | i + 1 => Nat.or_lt_two_pow (kn_l2 G ha i) (svO_l2 G _ n 0 0 (by omega) (Nat.two_pow_pos n))
theorem kn_st {G : Nat → Int} {n a j : Nat} (h : kn G n a (j + 1) = kn G n a j) : ∀ m, kn G n a (j + m) = kn G n a j
  | 0 => rfl
  | m + 1 => by
    have e1 : kn G n a (j + (m + 1)) = kn G n a (j + m) ||| svO G n (kn G n a (j + m)) n 0 0 := rfl
    have e2 : kn G n a (j + 1) = kn G n a j ||| svO G n (kn G n a j) n 0 0 := rfl
    rw [e1, kn_st h m, ← e2, h]
theorem kn_cl {G : Nat → Int} {n a : Nat} (hn : n ≤ 6) (ha : a < n) : ∃ j, j < n ∧ kn G n a (j + 1) = kn G n a j := by
  have key : ∀ i, i < n → (∃ j, j < i ∧ kn G n a (j + 1) = kn G n a j) ∨ i + 1 ≤ pc6 (kn G n a i) := by
    intro i
    induction i with
    | zero =>
      intro _
      refine Or.inr ?_
      have e1 : kn G n a 0 = 2 ^ a := rfl
      rw [e1, pc6_one a (by omega)]
      omega
    | succ i ih =>
      intro hi
      rcases ih (by omega) with ⟨j, hj, e⟩ | hk
      · exact Or.inl ⟨j, by omega, e⟩
      · have e2 : kn G n a (i + 1) = kn G n a i ||| svO G n (kn G n a i) n 0 0 := rfl
        rcases pc6_or _ (kn_lt G hn ha i) _ (svO_lt G (kn G n a i) hn n 0 0 (by omega) (by decide)) with e | e
        · exact Or.inl ⟨i, by omega, by rw [e2, e]⟩
        · rw [← e2] at e
          exact Or.inr (by omega)
  rcases key (n - 1) (by omega) with ⟨j, hj, e⟩ | hk
  · exact ⟨j, by omega, e⟩
  · refine ⟨n - 1, by omega, ?_⟩
    have e2 : kn G n a (n - 1 + 1) = kn G n a (n - 1) ||| svO G n (kn G n a (n - 1)) n 0 0 := rfl
    rcases pc6_or _ (kn_lt G hn ha (n - 1)) _ (svO_lt G (kn G n a (n - 1)) hn n 0 0 (by omega) (by decide)) with e | e
    · rw [e2, e]
    · rw [← e2] at e
      have := pc6_le n (by omega) _ (kn_l2 G ha (n - 1 + 1))
      omega
theorem kn_in {G : Nat → Int} {n a b m : Nat} (hn : n ≤ 6) (ha : a < n) (hm : bt (kn G n a m) b = true) : ∃ i, i < n ∧ bt (kn G n a i) b = true := by
  obtain ⟨j, hj, e⟩ := kn_cl (G := G) hn ha
  by_cases h1 : m < n
  · exact ⟨m, h1, hm⟩
  · have e1 := kn_st e (m - j)
    rw [show j + (m - j) = m by omega] at e1
    rw [e1] at hm
    exact ⟨j, hj, hm⟩
section HEARS
variable {sc : List Int32} {d : Nat} {h : mH}
theorem fHearsXL {n a b : Nat} (hh : aHp h) (hn : hI h 3 3 = n) (ha : a < n) (hb : b < n) : ∀ (k i : Nat), i + k = n → nRn sc (d + 3) (mMT mMe100) (mMC mMe100) (14, [some (.ref 0), some (sI (a : Int)), some (sI (b : Int)), some (sI (i : Int))], [], h) (some (sI (hV (hF (fun i => bt (kn (hI h 5) n a i) b) k i))), h) := by
  have gp := hI_rg hh xw_p
  intro k
  induction k with
  | zero =>
    intro i hi
    refine sP 2 (g1 := (16, [some (.ref 0), some (sI ((a : Int))), some (sI ((b : Int))), some (sI ((i : Int)))], [.ref 0, sI ((i : Int))], h)) rfl ?_
    refine s_get (a := 0) (j := 2) hh rfl ⟨_, rfl⟩ rfl rfl rfl (v := .ref 3) (hR_ok hh (by decide +kernel)) ?_
    refine s_get (a := 3) (j := 3) hh rfl ⟨_, rfl⟩ rfl rfl rfl (v := sI (hI h 3 3)) (hI_ok hh xw_p) ?_
    refine s_icmp (q := .ge) (a := (i : Int)) (b := hI h 3 3) rfl ⟨_, rfl⟩ rfl (by unfold sR aMi aMa; omega) (by unfold sR aMi aMa; omega) (fun hc1 => ?_) (fun hc1 => ?_)
    · have hc1 : ((hI h 3 3) : Int) ≤ ((i : Int)) := hc1
      refine sP 1 (g1 := (32, [some (.ref 0), some (sI ((a : Int))), some (sI ((b : Int))), some (sI ((i : Int)))], [sI ((-9))], h)) rfl ?_
      exact s_reti rfl rfl (Or.inl rfl) rfl rfl
    · have hc1 : ¬ (((hI h 3 3) : Int) ≤ ((i : Int))) := hc1
      omega
  | succ k ih =>
    intro i hi
    have r1 := ih (i + 1) (by omega)
    have kl := kn_lt (hI h 5) (show n ≤ 6 by omega) ha i
    have ev := fKnown (sc := sc) (d := d) hh hn ha (show i ≤ 9 by omega)
    have vi := fIsIn (sc := sc) (d := d + 2) (h := h) (s := kn (hI h 5) n a i) (a := b) kl (by omega)
    have e1 : hF (fun i => bt (kn (hI h 5) n a i) b) (k + 1) i = if bt (kn (hI h 5) n a i) b = true then some i else hF (fun i => bt (kn (hI h 5) n a i) b) k (i + 1) := rfl
    rw [e1]
    by_cases hc : bt (kn (hI h 5) n a i) b = true
    · rw [if_pos hc] at vi ⊢
      refine sP 2 (g1 := (16, [some (.ref 0), some (sI ((a : Int))), some (sI ((b : Int))), some (sI ((i : Int)))], [.ref 0, sI ((i : Int))], h)) rfl ?_
      refine s_get (a := 0) (j := 2) hh rfl ⟨_, rfl⟩ rfl rfl rfl (v := .ref 3) (hR_ok hh (by decide +kernel)) ?_
      refine s_get (a := 3) (j := 3) hh rfl ⟨_, rfl⟩ rfl rfl rfl (v := sI (hI h 3 3)) (hI_ok hh xw_p) ?_
      refine s_icmp (q := .ge) (a := (i : Int)) (b := hI h 3 3) rfl ⟨_, rfl⟩ rfl (by unfold sR aMi aMa; omega) (by unfold sR aMi aMa; omega) (fun hc1 => ?_) (fun hc1 => ?_)
      · have hc1 : ((hI h 3 3) : Int) ≤ ((i : Int)) := hc1
        omega
      · have hc1 : ¬ (((hI h 3 3) : Int) ≤ ((i : Int))) := hc1
        refine sP 1 (g1 := (20, [some (.ref 0), some (sI ((a : Int))), some (sI ((b : Int))), some (sI ((i : Int)))], [.ref 0], h)) rfl ?_
        refine s_get (a := 0) (j := 2) hh rfl ⟨_, rfl⟩ rfl rfl rfl (v := .ref 3) (hR_ok hh (by decide +kernel)) ?_
        refine sP 2 (g1 := (23, [some (.ref 0), some (sI ((a : Int))), some (sI ((b : Int))), some (sI ((i : Int)))], [sI ((i : Int)), sI ((a : Int)), .ref 3], h)) rfl ?_
        refine s_call (k := 98) (args := [.ref 3, sI ((a : Int)), sI ((i : Int))]) (st := []) (v := some (sI (((kn (hI h 5) n a i : Nat) : Int)))) (h1 := h) rfl ⟨rfl, rfl⟩ rfl rfl rfl rfl (sRcv hh (a := 3) rfl rfl) rfl ev ?_
        refine sP 1 (g1 := (25, [some (.ref 0), some (sI ((a : Int))), some (sI ((b : Int))), some (sI ((i : Int)))], [sI ((b : Int)), sI (((kn (hI h 5) n a i : Nat) : Int))], h)) rfl ?_
        refine s_call (k := 39) (args := [sI (((kn (hI h 5) n a i : Nat) : Int)), sI ((b : Int))]) (st := []) (v := some (sI 1)) (h1 := h) rfl ⟨rfl, rfl⟩ rfl rfl rfl rfl rfl rfl vi ?_
        refine s_ifc (q := .eq) (a := 1) rfl ⟨_, rfl⟩ rfl (by unfold sR aMi aMa; omega) (fun hc2 => ?_) (fun hc2 => ?_)
        · have hc2 : (1 : Int) = 0 := hc2
          omega
        · have hc2 : ¬ ((1 : Int) = 0) := hc2
          refine sP 1 (g1 := (28, [some (.ref 0), some (sI ((a : Int))), some (sI ((b : Int))), some (sI ((i : Int)))], [sI ((i : Int))], h)) rfl ?_
          exact s_reti rfl rfl (Or.inl rfl) rfl rfl
    · rw [if_neg hc] at vi ⊢
      refine sP 2 (g1 := (16, [some (.ref 0), some (sI ((a : Int))), some (sI ((b : Int))), some (sI ((i : Int)))], [.ref 0, sI ((i : Int))], h)) rfl ?_
      refine s_get (a := 0) (j := 2) hh rfl ⟨_, rfl⟩ rfl rfl rfl (v := .ref 3) (hR_ok hh (by decide +kernel)) ?_
      refine s_get (a := 3) (j := 3) hh rfl ⟨_, rfl⟩ rfl rfl rfl (v := sI (hI h 3 3)) (hI_ok hh xw_p) ?_
      refine s_icmp (q := .ge) (a := (i : Int)) (b := hI h 3 3) rfl ⟨_, rfl⟩ rfl (by unfold sR aMi aMa; omega) (by unfold sR aMi aMa; omega) (fun hc1 => ?_) (fun hc1 => ?_)
      · have hc1 : ((hI h 3 3) : Int) ≤ ((i : Int)) := hc1
        omega
      · have hc1 : ¬ (((hI h 3 3) : Int) ≤ ((i : Int))) := hc1
        refine sP 1 (g1 := (20, [some (.ref 0), some (sI ((a : Int))), some (sI ((b : Int))), some (sI ((i : Int)))], [.ref 0], h)) rfl ?_
        refine s_get (a := 0) (j := 2) hh rfl ⟨_, rfl⟩ rfl rfl rfl (v := .ref 3) (hR_ok hh (by decide +kernel)) ?_
        refine sP 2 (g1 := (23, [some (.ref 0), some (sI ((a : Int))), some (sI ((b : Int))), some (sI ((i : Int)))], [sI ((i : Int)), sI ((a : Int)), .ref 3], h)) rfl ?_
        refine s_call (k := 98) (args := [.ref 3, sI ((a : Int)), sI ((i : Int))]) (st := []) (v := some (sI (((kn (hI h 5) n a i : Nat) : Int)))) (h1 := h) rfl ⟨rfl, rfl⟩ rfl rfl rfl rfl (sRcv hh (a := 3) rfl rfl) rfl ev ?_
        refine sP 1 (g1 := (25, [some (.ref 0), some (sI ((a : Int))), some (sI ((b : Int))), some (sI ((i : Int)))], [sI ((b : Int)), sI (((kn (hI h 5) n a i : Nat) : Int))], h)) rfl ?_
        refine s_call (k := 39) (args := [sI (((kn (hI h 5) n a i : Nat) : Int)), sI ((b : Int))]) (st := []) (v := some (sI 0)) (h1 := h) rfl ⟨rfl, rfl⟩ rfl rfl rfl rfl rfl rfl vi ?_
        refine s_ifc (q := .eq) (a := 0) rfl ⟨_, rfl⟩ rfl (by unfold sR aMi aMa; omega) (fun hc2 => ?_) (fun hc2 => ?_)
        · have hc2 : (0 : Int) = 0 := hc2
          refine s_inc (a := (i : Int)) (n := 1) (k := 3) rfl rfl rfl ?_
          refine sP 1 (g1 := (14, [some (.ref 0), some (sI ((a : Int))), some (sI ((b : Int))), some (sI (((i : Int)) + 1))], [], h)) rfl ?_
          rw [show ((i : Int) + 1) = ((i + 1 : Nat) : Int) by omega]
          exact r1
        · have hc2 : ¬ ((0 : Int) = 0) := hc2
          omega
theorem fHearsX {n a b : Nat} (hh : aHp h) (hn : hI h 3 3 = n) (ha : a < n) (hb : b < n) : nEv sc (d + 4) 100 [.ref 0, sI (a : Int), sI (b : Int)] h (some (sI (hV (hF (fun i => bt (kn (hI h 5) n a i) b) n 0))), h) := by
  have gp := hI_rg hh xw_p
  have r1 := fHearsXL (sc := sc) (d := d) hh hn ha hb n 0 (by omega)
  refine nEv_of (t := mMe100) rfl ?_
  show nRn sc (d + 3) (mMT mMe100) (mMC mMe100) (0, [some (.ref 0), some (sI ((a : Int))), some (sI ((b : Int))), none], [], h) _
  refine sP 1 (g1 := (1, [some (.ref 0), some (sI ((a : Int))), some (sI ((b : Int))), none], [.ref 0], h)) rfl ?_
  refine s_get (a := 0) (j := 2) hh rfl ⟨_, rfl⟩ rfl rfl rfl (v := .ref 3) (hR_ok hh (by decide +kernel)) ?_
  refine sP 1 (g1 := (3, [some (.ref 0), some (sI ((a : Int))), some (sI ((b : Int))), none], [sI ((a : Int)), .ref 3], h)) rfl ?_
  have ev1 := fHasX (sc := sc) (d := d + 2) (a := (a : Int)) hh (by unfold sR aMi aMa; omega)
  rw [if_pos (by omega)] at ev1
  refine s_call (k := 35) (args := [.ref 3, sI ((a : Int))]) (st := []) (v := some (sI 1)) (h1 := h) rfl ⟨rfl, rfl⟩ rfl rfl rfl rfl (sRcv hh (a := 3) rfl rfl) rfl ev1 ?_
  refine s_ifc (q := .eq) (a := 1) rfl ⟨_, rfl⟩ rfl (by unfold sR aMi aMa; omega) (fun hc2 => ?_) (fun hc2 => ?_)
  · have hc2 : (1 : Int) = 0 := hc2
    omega
  · have hc2 : ¬ ((1 : Int) = 0) := hc2
    refine sP 1 (g1 := (6, [some (.ref 0), some (sI ((a : Int))), some (sI ((b : Int))), none], [.ref 0], h)) rfl ?_
    refine s_get (a := 0) (j := 2) hh rfl ⟨_, rfl⟩ rfl rfl rfl (v := .ref 3) (hR_ok hh (by decide +kernel)) ?_
    refine sP 1 (g1 := (8, [some (.ref 0), some (sI ((a : Int))), some (sI ((b : Int))), none], [sI ((b : Int)), .ref 3], h)) rfl ?_
    have ev3 := fHasX (sc := sc) (d := d + 2) (a := (b : Int)) hh (by unfold sR aMi aMa; omega)
    rw [if_pos (by omega)] at ev3
    refine s_call (k := 35) (args := [.ref 3, sI ((b : Int))]) (st := []) (v := some (sI 1)) (h1 := h) rfl ⟨rfl, rfl⟩ rfl rfl rfl rfl (sRcv hh (a := 3) rfl rfl) rfl ev3 ?_
    refine s_ifc (q := .ne) (a := 1) rfl ⟨_, rfl⟩ rfl (by unfold sR aMi aMa; omega) (fun hc4 => ?_) (fun hc4 => ?_)
    · have hc4 : (1 : Int) ≠ 0 := hc4
      refine sP 2 (g1 := (14, [some (.ref 0), some (sI ((a : Int))), some (sI ((b : Int))), some (sI 0)], [], h)) rfl ?_
      exact r1
    · have hc4 : ¬ ((1 : Int) ≠ 0) := hc4
      omega
theorem fHearsML {n a b : Nat} (hh : aHp h) (hn : hI h 58 0 = n) (ha : a < n) (hb : b < n) : ∀ (k i : Nat), i + k = 6 → nRn sc (d + 3) (mMT mMe202) (mMC mMe202) (12, [some (.ref 53), some (sI (a : Int)), some (sI (b : Int)), some (sI (i : Int))], [], h) (some (sI (hV (hF (fun i => bt (kn (fun j => hI h 58 (7 + j)) n a i) b) k i))), h) := by
  have gp := hI_rg hh nw_p
  intro k
  induction k with
  | zero =>
    intro i hi
    refine sP 2 (g1 := (14, [some (.ref 53), some (sI ((a : Int))), some (sI ((b : Int))), some (sI ((i : Int)))], [sI 6, sI ((i : Int))], h)) rfl ?_
    refine s_icmp (q := .ge) (a := (i : Int)) (b := 6) rfl ⟨_, rfl⟩ rfl (by unfold sR aMi aMa; omega) (by unfold sR aMi aMa; omega) (fun hc1 => ?_) (fun hc1 => ?_)
    · have hc1 : (6 : Int) ≤ ((i : Int)) := hc1
      refine sP 1 (g1 := (27, [some (.ref 53), some (sI ((a : Int))), some (sI ((b : Int))), some (sI ((i : Int)))], [sI ((-9))], h)) rfl ?_
      exact s_reti rfl rfl (Or.inl rfl) rfl rfl
    · have hc1 : ¬ ((6 : Int) ≤ ((i : Int))) := hc1
      omega
  | succ k ih =>
    intro i hi
    have r1 := ih (i + 1) (by omega)
    have kl := kn_lt (fun j => hI h 58 (7 + j)) (show n ≤ 6 by omega) ha i
    have ev := fKnownBy (sc := sc) (d := d + 1) hh hn ha (show i ≤ 9 by omega)
    have vi := fHas (sc := sc) (d := d + 2) (h := h) (s := kn (fun j => hI h 58 (7 + j)) n a i) (a := b) kl (by omega)
    have e1 : hF (fun i => bt (kn (fun j => hI h 58 (7 + j)) n a i) b) (k + 1) i = if bt (kn (fun j => hI h 58 (7 + j)) n a i) b = true then some i else hF (fun i => bt (kn (fun j => hI h 58 (7 + j)) n a i) b) k (i + 1) := rfl
    rw [e1]
    by_cases hc : bt (kn (fun j => hI h 58 (7 + j)) n a i) b = true
    · rw [if_pos hc] at vi ⊢
      refine sP 2 (g1 := (14, [some (.ref 53), some (sI ((a : Int))), some (sI ((b : Int))), some (sI ((i : Int)))], [sI 6, sI ((i : Int))], h)) rfl ?_
      refine s_icmp (q := .ge) (a := (i : Int)) (b := 6) rfl ⟨_, rfl⟩ rfl (by unfold sR aMi aMa; omega) (by unfold sR aMi aMa; omega) (fun hc1 => ?_) (fun hc1 => ?_)
      · have hc1 : (6 : Int) ≤ ((i : Int)) := hc1
        omega
      · have hc1 : ¬ ((6 : Int) ≤ ((i : Int))) := hc1
        refine sP 3 (g1 := (18, [some (.ref 53), some (sI ((a : Int))), some (sI ((b : Int))), some (sI ((i : Int)))], [sI ((i : Int)), sI ((a : Int)), .ref 53], h)) rfl ?_
        refine s_call (k := 201) (args := [.ref 53, sI ((a : Int)), sI ((i : Int))]) (st := []) (v := some (sI (((kn (fun j => hI h 58 (7 + j)) n a i : Nat) : Int)))) (h1 := h) rfl ⟨rfl, rfl⟩ rfl rfl rfl rfl (sRcv hh (a := 53) rfl rfl) rfl ev ?_
        refine sP 1 (g1 := (20, [some (.ref 53), some (sI ((a : Int))), some (sI ((b : Int))), some (sI ((i : Int)))], [sI ((b : Int)), sI (((kn (fun j => hI h 58 (7 + j)) n a i : Nat) : Int))], h)) rfl ?_
        refine s_call (k := 149) (args := [sI (((kn (fun j => hI h 58 (7 + j)) n a i : Nat) : Int)), sI ((b : Int))]) (st := []) (v := some (sI 1)) (h1 := h) rfl ⟨rfl, rfl⟩ rfl rfl rfl rfl rfl rfl vi ?_
        refine s_ifc (q := .eq) (a := 1) rfl ⟨_, rfl⟩ rfl (by unfold sR aMi aMa; omega) (fun hc2 => ?_) (fun hc2 => ?_)
        · have hc2 : (1 : Int) = 0 := hc2
          omega
        · have hc2 : ¬ ((1 : Int) = 0) := hc2
          refine sP 1 (g1 := (23, [some (.ref 53), some (sI ((a : Int))), some (sI ((b : Int))), some (sI ((i : Int)))], [sI ((i : Int))], h)) rfl ?_
          exact s_reti rfl rfl (Or.inl rfl) rfl rfl
    · rw [if_neg hc] at vi ⊢
      refine sP 2 (g1 := (14, [some (.ref 53), some (sI ((a : Int))), some (sI ((b : Int))), some (sI ((i : Int)))], [sI 6, sI ((i : Int))], h)) rfl ?_
      refine s_icmp (q := .ge) (a := (i : Int)) (b := 6) rfl ⟨_, rfl⟩ rfl (by unfold sR aMi aMa; omega) (by unfold sR aMi aMa; omega) (fun hc1 => ?_) (fun hc1 => ?_)
      · have hc1 : (6 : Int) ≤ ((i : Int)) := hc1
        omega
      · have hc1 : ¬ ((6 : Int) ≤ ((i : Int))) := hc1
        refine sP 3 (g1 := (18, [some (.ref 53), some (sI ((a : Int))), some (sI ((b : Int))), some (sI ((i : Int)))], [sI ((i : Int)), sI ((a : Int)), .ref 53], h)) rfl ?_
        refine s_call (k := 201) (args := [.ref 53, sI ((a : Int)), sI ((i : Int))]) (st := []) (v := some (sI (((kn (fun j => hI h 58 (7 + j)) n a i : Nat) : Int)))) (h1 := h) rfl ⟨rfl, rfl⟩ rfl rfl rfl rfl (sRcv hh (a := 53) rfl rfl) rfl ev ?_
        refine sP 1 (g1 := (20, [some (.ref 53), some (sI ((a : Int))), some (sI ((b : Int))), some (sI ((i : Int)))], [sI ((b : Int)), sI (((kn (fun j => hI h 58 (7 + j)) n a i : Nat) : Int))], h)) rfl ?_
        refine s_call (k := 149) (args := [sI (((kn (fun j => hI h 58 (7 + j)) n a i : Nat) : Int)), sI ((b : Int))]) (st := []) (v := some (sI 0)) (h1 := h) rfl ⟨rfl, rfl⟩ rfl rfl rfl rfl rfl rfl vi ?_
        refine s_ifc (q := .eq) (a := 0) rfl ⟨_, rfl⟩ rfl (by unfold sR aMi aMa; omega) (fun hc2 => ?_) (fun hc2 => ?_)
        · have hc2 : (0 : Int) = 0 := hc2
          refine s_inc (a := (i : Int)) (n := 1) (k := 3) rfl rfl rfl ?_
          refine sP 1 (g1 := (12, [some (.ref 53), some (sI ((a : Int))), some (sI ((b : Int))), some (sI (((i : Int)) + 1))], [], h)) rfl ?_
          rw [show ((i : Int) + 1) = ((i + 1 : Nat) : Int) by omega]
          exact r1
        · have hc2 : ¬ ((0 : Int) = 0) := hc2
          omega
theorem fHearsM {n a b : Nat} (hh : aHp h) (hn : hI h 58 0 = n) (ha : a < n) (hb : b < n) : nEv sc (d + 4) 202 [.ref 53, sI (a : Int), sI (b : Int)] h (some (sI (hV (hF (fun i => bt (kn (fun j => hI h 58 (7 + j)) n a i) b) 6 0))), h) := by
  have gp := hI_rg hh nw_p
  have r1 := fHearsML (sc := sc) (d := d) hh hn ha hb 6 0 (by omega)
  refine nEv_of (t := mMe202) rfl ?_
  show nRn sc (d + 3) (mMT mMe202) (mMC mMe202) (0, [some (.ref 53), some (sI ((a : Int))), some (sI ((b : Int))), none], [], h) _
  refine sP 2 (g1 := (2, [some (.ref 53), some (sI ((a : Int))), some (sI ((b : Int))), none], [sI ((a : Int)), .ref 53], h)) rfl ?_
  have ev1 := fIsPerson (sc := sc) (d := d + 1) (a := (a : Int)) hh (by unfold sR aMi aMa; omega)
  rw [if_pos (by omega)] at ev1
  refine s_call (k := 147) (args := [.ref 53, sI ((a : Int))]) (st := []) (v := some (sI 1)) (h1 := h) rfl ⟨rfl, rfl⟩ rfl rfl rfl rfl (sRcv hh (a := 53) rfl rfl) rfl ev1 ?_
  refine s_ifc (q := .eq) (a := 1) rfl ⟨_, rfl⟩ rfl (by unfold sR aMi aMa; omega) (fun hc2 => ?_) (fun hc2 => ?_)
  · have hc2 : (1 : Int) = 0 := hc2
    omega
  · have hc2 : ¬ ((1 : Int) = 0) := hc2
    refine sP 2 (g1 := (6, [some (.ref 53), some (sI ((a : Int))), some (sI ((b : Int))), none], [sI ((b : Int)), .ref 53], h)) rfl ?_
    have ev3 := fIsPerson (sc := sc) (d := d + 1) (a := (b : Int)) hh (by unfold sR aMi aMa; omega)
    rw [if_pos (by omega)] at ev3
    refine s_call (k := 147) (args := [.ref 53, sI ((b : Int))]) (st := []) (v := some (sI 1)) (h1 := h) rfl ⟨rfl, rfl⟩ rfl rfl rfl rfl (sRcv hh (a := 53) rfl rfl) rfl ev3 ?_
    refine s_ifc (q := .ne) (a := 1) rfl ⟨_, rfl⟩ rfl (by unfold sR aMi aMa; omega) (fun hc4 => ?_) (fun hc4 => ?_)
    · have hc4 : (1 : Int) ≠ 0 := hc4
      refine sP 2 (g1 := (12, [some (.ref 53), some (sI ((a : Int))), some (sI ((b : Int))), some (sI 0)], [], h)) rfl ?_
      exact r1
    · have hc4 : ¬ ((1 : Int) ≠ 0) := hc4
      omega
theorem fHearsXb0 {a b : Int} (hh : aHp h) (ra : sR a) (rb : sR b) (hc : ¬ (0 ≤ a ∧ a < hI h 3 3)) : nEv sc (d + 3) 100 [.ref 0, sI a, sI b] h (some (sI (-1)), h) := by
  have gp := hI_rg hh xw_p
  unfold sR aMi aMa at ra rb
  refine nEv_of (t := mMe100) rfl ?_
  show nRn sc (d + 2) (mMT mMe100) (mMC mMe100) (0, [some (.ref 0), some (sI a), some (sI b), none], [], h) _
  refine sP 1 (g1 := (1, [some (.ref 0), some (sI a), some (sI b), none], [.ref 0], h)) rfl ?_
  refine s_get (a := 0) (j := 2) hh rfl ⟨_, rfl⟩ rfl rfl rfl (v := .ref 3) (hR_ok hh (by decide +kernel)) ?_
  refine sP 1 (g1 := (3, [some (.ref 0), some (sI a), some (sI b), none], [sI a, .ref 3], h)) rfl ?_
  have ev1 := fHasX (sc := sc) (d := d + 1) (a := a) hh (by unfold sR aMi aMa; omega)
  rw [if_neg (by omega)] at ev1
  refine s_call (k := 35) (args := [.ref 3, sI a]) (st := []) (v := some (sI 0)) (h1 := h) rfl ⟨rfl, rfl⟩ rfl rfl rfl rfl (sRcv hh (a := 3) rfl rfl) rfl ev1 ?_
  refine s_ifc (q := .eq) (a := 0) rfl ⟨_, rfl⟩ rfl (by unfold sR aMi aMa; omega) (fun hc2 => ?_) (fun hc2 => ?_)
  · have hc2 : (0 : Int) = 0 := hc2
    refine sP 1 (g1 := (11, [some (.ref 0), some (sI a), some (sI b), none], [sI ((-1))], h)) rfl ?_
    exact s_reti rfl rfl (Or.inl rfl) rfl rfl
  · have hc2 : ¬ ((0 : Int) = 0) := hc2
    omega
theorem fHearsXb1 {a b : Int} (hh : aHp h) (ra : sR a) (rb : sR b) (hc : (0 ≤ a ∧ a < hI h 3 3) ∧ ¬ (0 ≤ b ∧ b < hI h 3 3)) : nEv sc (d + 3) 100 [.ref 0, sI a, sI b] h (some (sI (-1)), h) := by
  have gp := hI_rg hh xw_p
  unfold sR aMi aMa at ra rb
  refine nEv_of (t := mMe100) rfl ?_
  show nRn sc (d + 2) (mMT mMe100) (mMC mMe100) (0, [some (.ref 0), some (sI a), some (sI b), none], [], h) _
  refine sP 1 (g1 := (1, [some (.ref 0), some (sI a), some (sI b), none], [.ref 0], h)) rfl ?_
  refine s_get (a := 0) (j := 2) hh rfl ⟨_, rfl⟩ rfl rfl rfl (v := .ref 3) (hR_ok hh (by decide +kernel)) ?_
  refine sP 1 (g1 := (3, [some (.ref 0), some (sI a), some (sI b), none], [sI a, .ref 3], h)) rfl ?_
  have ev1 := fHasX (sc := sc) (d := d + 1) (a := a) hh (by unfold sR aMi aMa; omega)
  rw [if_pos (by omega)] at ev1
  refine s_call (k := 35) (args := [.ref 3, sI a]) (st := []) (v := some (sI 1)) (h1 := h) rfl ⟨rfl, rfl⟩ rfl rfl rfl rfl (sRcv hh (a := 3) rfl rfl) rfl ev1 ?_
  refine s_ifc (q := .eq) (a := 1) rfl ⟨_, rfl⟩ rfl (by unfold sR aMi aMa; omega) (fun hc2 => ?_) (fun hc2 => ?_)
  · have hc2 : (1 : Int) = 0 := hc2
    omega
  · have hc2 : ¬ ((1 : Int) = 0) := hc2
    refine sP 1 (g1 := (6, [some (.ref 0), some (sI a), some (sI b), none], [.ref 0], h)) rfl ?_
    refine s_get (a := 0) (j := 2) hh rfl ⟨_, rfl⟩ rfl rfl rfl (v := .ref 3) (hR_ok hh (by decide +kernel)) ?_
    refine sP 1 (g1 := (8, [some (.ref 0), some (sI a), some (sI b), none], [sI b, .ref 3], h)) rfl ?_
    have ev3 := fHasX (sc := sc) (d := d + 1) (a := b) hh (by unfold sR aMi aMa; omega)
    rw [if_neg (by omega)] at ev3
    refine s_call (k := 35) (args := [.ref 3, sI b]) (st := []) (v := some (sI 0)) (h1 := h) rfl ⟨rfl, rfl⟩ rfl rfl rfl rfl (sRcv hh (a := 3) rfl rfl) rfl ev3 ?_
    refine s_ifc (q := .ne) (a := 0) rfl ⟨_, rfl⟩ rfl (by unfold sR aMi aMa; omega) (fun hc4 => ?_) (fun hc4 => ?_)
    · have hc4 : (0 : Int) ≠ 0 := hc4
      omega
    · have hc4 : ¬ ((0 : Int) ≠ 0) := hc4
      refine sP 1 (g1 := (11, [some (.ref 0), some (sI a), some (sI b), none], [sI ((-1))], h)) rfl ?_
      exact s_reti rfl rfl (Or.inl rfl) rfl rfl
theorem fHearsMb0 {a b : Int} (hh : aHp h) (ra : sR a) (rb : sR b) (hc : ¬ (0 ≤ a ∧ a < hI h 58 0)) : nEv sc (d + 3) 202 [.ref 53, sI a, sI b] h (some (sI (-1)), h) := by
  have gp := hI_rg hh nw_p
  unfold sR aMi aMa at ra rb
  refine nEv_of (t := mMe202) rfl ?_
  show nRn sc (d + 2) (mMT mMe202) (mMC mMe202) (0, [some (.ref 53), some (sI a), some (sI b), none], [], h) _
  refine sP 2 (g1 := (2, [some (.ref 53), some (sI a), some (sI b), none], [sI a, .ref 53], h)) rfl ?_
  have ev1 := fIsPerson (sc := sc) (d := d + 0) (a := a) hh (by unfold sR aMi aMa; omega)
  rw [if_neg (by omega)] at ev1
  refine s_call (k := 147) (args := [.ref 53, sI a]) (st := []) (v := some (sI 0)) (h1 := h) rfl ⟨rfl, rfl⟩ rfl rfl rfl rfl (sRcv hh (a := 53) rfl rfl) rfl ev1 ?_
  refine s_ifc (q := .eq) (a := 0) rfl ⟨_, rfl⟩ rfl (by unfold sR aMi aMa; omega) (fun hc2 => ?_) (fun hc2 => ?_)
  · have hc2 : (0 : Int) = 0 := hc2
    refine sP 1 (g1 := (9, [some (.ref 53), some (sI a), some (sI b), none], [sI ((-1))], h)) rfl ?_
    exact s_reti rfl rfl (Or.inl rfl) rfl rfl
  · have hc2 : ¬ ((0 : Int) = 0) := hc2
    omega
theorem fHearsMb1 {a b : Int} (hh : aHp h) (ra : sR a) (rb : sR b) (hc : (0 ≤ a ∧ a < hI h 58 0) ∧ ¬ (0 ≤ b ∧ b < hI h 58 0)) : nEv sc (d + 3) 202 [.ref 53, sI a, sI b] h (some (sI (-1)), h) := by
  have gp := hI_rg hh nw_p
  unfold sR aMi aMa at ra rb
  refine nEv_of (t := mMe202) rfl ?_
  show nRn sc (d + 2) (mMT mMe202) (mMC mMe202) (0, [some (.ref 53), some (sI a), some (sI b), none], [], h) _
  refine sP 2 (g1 := (2, [some (.ref 53), some (sI a), some (sI b), none], [sI a, .ref 53], h)) rfl ?_
  have ev1 := fIsPerson (sc := sc) (d := d + 0) (a := a) hh (by unfold sR aMi aMa; omega)
  rw [if_pos (by omega)] at ev1
  refine s_call (k := 147) (args := [.ref 53, sI a]) (st := []) (v := some (sI 1)) (h1 := h) rfl ⟨rfl, rfl⟩ rfl rfl rfl rfl (sRcv hh (a := 53) rfl rfl) rfl ev1 ?_
  refine s_ifc (q := .eq) (a := 1) rfl ⟨_, rfl⟩ rfl (by unfold sR aMi aMa; omega) (fun hc2 => ?_) (fun hc2 => ?_)
  · have hc2 : (1 : Int) = 0 := hc2
    omega
  · have hc2 : ¬ ((1 : Int) = 0) := hc2
    refine sP 2 (g1 := (6, [some (.ref 53), some (sI a), some (sI b), none], [sI b, .ref 53], h)) rfl ?_
    have ev3 := fIsPerson (sc := sc) (d := d + 0) (a := b) hh (by unfold sR aMi aMa; omega)
    rw [if_neg (by omega)] at ev3
    refine s_call (k := 147) (args := [.ref 53, sI b]) (st := []) (v := some (sI 0)) (h1 := h) rfl ⟨rfl, rfl⟩ rfl rfl rfl rfl (sRcv hh (a := 53) rfl rfl) rfl ev3 ?_
    refine s_ifc (q := .ne) (a := 0) rfl ⟨_, rfl⟩ rfl (by unfold sR aMi aMa; omega) (fun hc4 => ?_) (fun hc4 => ?_)
    · have hc4 : (0 : Int) ≠ 0 := hc4
      omega
    · have hc4 : ¬ ((0 : Int) ≠ 0) := hc4
      refine sP 1 (g1 := (9, [some (.ref 53), some (sI a), some (sI b), none], [sI ((-1))], h)) rfl ?_
      exact s_reti rfl rfl (Or.inl rfl) rfl rfl
end HEARS
theorem wHears {sc : List Int32} {h : mH} (x y : Int32) (hp : wP h) : ∃ z1 h1 z2 h2, nEv sc 100 100 (.ref 0 :: [x, y].map Value.int) h (some (.int z1), h1) ∧ aHp h1 ∧ nEv sc 100 202 (.ref 53 :: [x, y].map Value.int) h1 (some (.int z2), h2) ∧ wP h2 ∧ z2 = z1 := by
  have hh := wP_a h hp
  have rx : sR x.toInt := aI_rg x
  have ry : sR y.toInt := aI_rg y
  have e3 : hI h 3 3 = hI h 58 0 := hp.2.1.1
  have gp := hI_rg hh xw_p
  obtain ⟨n, en⟩ := iN gp.1
  by_cases c1 : 0 ≤ x.toInt ∧ x.toInt < hI h 3 3
  · by_cases c2 : 0 ≤ y.toInt ∧ y.toInt < hI h 3 3
    · obtain ⟨a, ea⟩ := iN c1.1
      obtain ⟨b, eb⟩ := iN c2.1
      refine pair2e (by rw [ea, eb]; exact fHearsX (d := 96) hh en (by omega) (by omega)) hh (by rw [ea, eb]; exact fHearsM (d := 96) (n := n) hh (by omega) (by omega) (by omega)) hp ?_
      have e5 : (fun i => bt (kn (fun j => hI h 58 (7 + j)) n a i) b) = (fun i => bt (kn (hI h 5) n a i) b) := funext (fun i => by rw [nR_kn hp.2.1 en])
      rw [e5, hF_eq (n := n) (by omega) (fun j _ hj => kn_in (by omega) (by omega) hj)]
    · exact pair2e (fHearsXb1 (d := 97) hh rx ry ⟨c1, c2⟩) hh (fHearsMb1 (d := 97) hh rx ry ⟨by omega, by omega⟩) hp rfl
  · exact pair2e (fHearsXb0 (d := 97) hh rx ry c1) hh (fHearsMb0 (d := 97) hh rx ry (by omega)) hp rfl
