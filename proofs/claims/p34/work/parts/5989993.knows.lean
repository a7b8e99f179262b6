/-! knows -/
theorem b_or6 : ∀ s, s < 64 → ∀ t, t < 64 → (Int32.ofInt (s : Nat) ||| Int32.ofInt (t : Nat)) = Int32.ofInt ((s ||| t : Nat) : Int) := by decide +kernel
theorem or6_lt {s t : Nat} (hs : s < 64) (ht : t < 64) : s ||| t < 64 := Nat.or_lt_two_pow (n := 6) hs ht
theorem p26_lt {a : Nat} (ha : a < 6) : 2 ^ a < 64 := (show ∀ a, a < 6 → 2 ^ a < 64 by decide) a ha
noncomputable def svI (G : Nat → Int) (s a : Nat) : Nat → Nat → Nat → Nat
  | 0, _, x => x
  | k + 1, b, x => svI G s a k (b + 1) (if bt s b = true ∧ 0 < G (6 * a + b) then x ||| 2 ^ a else x)
noncomputable def svO (G : Nat → Int) (n s : Nat) : Nat → Nat → Nat → Nat
  | 0, _, x => x
  | k + 1, a, x => svO G n s k (a + 1) (svI G s a n 0 x)
noncomputable def kn (G : Nat → Int) (n a : Nat) : Nat → Nat
  | 0 => 2 ^ a
  | i + 1 => kn G n a i ||| svO G n (kn G n a i) n 0 0
theorem svI_lt (G : Nat → Int) (s : Nat) {a : Nat} (ha : a < 6) : ∀ k b x, x < 64 → svI G s a k b x < 64
  | 0, _, _, h => h
  | k + 1, b, x, h => by
    unfold svI
    refine svI_lt G s ha k (b + 1) _ ?_
    split
    · exact or6_lt h (p26_lt ha)
    · exact h
theorem svO_lt (G : Nat → Int) {n : Nat} (s : Nat) (hn : n ≤ 6) : ∀ k a x, a + k ≤ n → x < 64 → svO G n s k a x < 64
  | 0, _, _, _, h => h
  | k + 1, a, x, ha, h => by
    unfold svO
    exact svO_lt G s hn k (a + 1) _ (by omega) (svI_lt G s (by omega) n 0 x h)
theorem kn_lt (G : Nat → Int) {n a : Nat} (hn : n ≤ 6) (ha : a < n) : ∀ i, kn G n a i < 64
  | 0 => p26_lt (by omega)
  | i + 1 => or6_lt (kn_lt G hn ha i) (svO_lt G _ hn n 0 0 (by omega) (by decide))
theorem svI_cg {G G1 : Nat → Int} {s a n : Nat} (hg : ∀ b, b < n → G1 (6 * a + b) = G (6 * a + b)) : ∀ k b x, b + k ≤ n → svI G1 s a k b x = svI G s a k b x
  | 0, _, _, _ => rfl
  | k + 1, b, x, h => by
    unfold svI
    rw [hg b (by omega), svI_cg hg k (b + 1) _ (by omega)]
theorem svO_cg {G G1 : Nat → Int} {n s : Nat} (hg : ∀ a b, a < n → b < n → G1 (6 * a + b) = G (6 * a + b)) : ∀ k a x, a + k ≤ n → svO G1 n s k a x = svO G n s k a x
  | 0, _, _, _ => rfl
  | k + 1, a, x, h => by
    unfold svO
    rw [svI_cg (fun b hb => hg a b (by omega) hb) n 0 x (by omega), svO_cg hg k (a + 1) _ (by omega)]
theorem kn_cg {G G1 : Nat → Int} {n a : Nat} (hg : ∀ a b, a < n → b < n → G1 (6 * a + b) = G (6 * a + b)) : ∀ i, kn G1 n a i = kn G n a i
  | 0 => rfl
  | i + 1 => by
    unfold kn
    rw [kn_cg hg i, svO_cg hg n 0 0 (by omega)]
section KNOWS
variable {sc : List Int32} {d : Nat} {h : mH}
theorem fSbI {n s a : Nat} (hh : aHp h) (hn : hI h 3 3 = n) (ha : a < n) (hs : s < 64) : ∀ (k b x : Nat), b + k = n → x < 64 → ∀ r, nRn sc (d + 1) (mMT mMe99) (mMC mMe99) (31, [some (.ref 3), some (sI (s : Int)), some (sI ((svI (hI h 5) s a k b x : Nat) : Int)), some (sI (a : Int)), some (sI (n : Int))], [], h) r → nRn sc (d + 1) (mMT mMe99) (mMC mMe99) (10, [some (.ref 3), some (sI (s : Int)), some (sI (x : Int)), some (sI (a : Int)), some (sI (b : Int))], [], h) r := by
  have gp := hI_rg hh xw_p
  intro k
  induction k with
  | zero =>
    intro b x hb hx r r1
    have hbn : b = n := by omega
    subst hbn
    have r1 : nRn sc (d + 1) (mMT mMe99) (mMC mMe99) (31, [some (.ref 3), some (sI (s : Int)), some (sI (x : Int)), some (sI (a : Int)), some (sI (b : Int))], [], h) r := r1
    refine sP 2 (g1 := (12, [some (.ref 3), some (sI ((s : Int))), some (sI ((x : Int))), some (sI ((a : Int))), some (sI ((b : Int)))], [.ref 3, sI ((b : Int))], h)) rfl ?_
    refine s_get (a := 3) (j := 3) hh rfl ⟨_, rfl⟩ rfl rfl rfl (v := sI (hI h 3 3)) (hI_ok hh xw_p) ?_
    refine s_icmp (q := .ge) (a := (b : Int)) (b := hI h 3 3) rfl ⟨_, rfl⟩ rfl (by unfold sR aMi aMa; omega) (by unfold sR aMi aMa; omega) (fun hc1 => ?_) (fun hc1 => ?_)
    · have hc1 : ((hI h 3 3) : Int) ≤ ((b : Int)) := hc1
      exact r1
    · have hc1 : ¬ (((hI h 3 3) : Int) ≤ ((b : Int))) := hc1
      omega
  | succ k ih =>
    intro b x hb hx r r1
    have hb6 : b < 6 := by omega
    have ha6 : a < 6 := by omega
    have vi := fIsIn (sc := sc) (d := d) (h := h) (s := s) (a := b) hs hb6
    have gl := hI_rg hh (xw_l (show 6 * a + b < 36 by omega))
    have e1 : svI (hI h 5) s a (k + 1) b x = svI (hI h 5) s a k (b + 1) (if bt s b = true ∧ 0 < hI h 5 (6 * a + b) then x ||| 2 ^ a else x) := rfl
    rw [e1] at r1
    by_cases hc : bt s b = true ∧ 0 < hI h 5 (6 * a + b)
    · rw [if_pos hc.1] at vi
      rw [if_pos hc] at r1
      have r0 := ih (b + 1) (x ||| 2 ^ a) (by omega) (or6_lt hx (p26_lt ha6)) r r1
      refine sP 2 (g1 := (12, [some (.ref 3), some (sI ((s : Int))), some (sI ((x : Int))), some (sI ((a : Int))), some (sI ((b : Int)))], [.ref 3, sI ((b : Int))], h)) rfl ?_
      refine s_get (a := 3) (j := 3) hh rfl ⟨_, rfl⟩ rfl rfl rfl (v := sI (hI h 3 3)) (hI_ok hh xw_p) ?_
      refine s_icmp (q := .ge) (a := (b : Int)) (b := hI h 3 3) rfl ⟨_, rfl⟩ rfl (by unfold sR aMi aMa; omega) (by unfold sR aMi aMa; omega) (fun hc1 => ?_) (fun hc1 => ?_)
      · have hc1 : ((hI h 3 3) : Int) ≤ ((b : Int)) := hc1
        omega
      · have hc1 : ¬ (((hI h 3 3) : Int) ≤ ((b : Int))) := hc1
        refine sP 2 (g1 := (16, [some (.ref 3), some (sI ((s : Int))), some (sI ((x : Int))), some (sI ((a : Int))), some (sI ((b : Int)))], [sI ((b : Int)), sI ((s : Int))], h)) rfl ?_
        refine s_call (k := 39) (args := [sI ((s : Int)), sI ((b : Int))]) (st := []) (v := some (sI 1)) (h1 := h) rfl ⟨rfl, rfl⟩ rfl rfl rfl rfl rfl rfl vi ?_
        refine s_ifc (q := .eq) (a := 1) rfl ⟨_, rfl⟩ rfl (by unfold sR aMi aMa; omega) (fun hc2 => ?_) (fun hc2 => ?_)
        · have hc2 : (1 : Int) = 0 := hc2
          omega
        · have hc2 : ¬ ((1 : Int) = 0) := hc2
          refine sP 3 (g1 := (21, [some (.ref 3), some (sI ((s : Int))), some (sI ((x : Int))), some (sI ((a : Int))), some (sI ((b : Int)))], [sI ((b : Int)), sI ((a : Int)), .ref 3], h)) rfl ?_
          refine s_call (k := 40) (args := [.ref 3, sI ((a : Int)), sI ((b : Int))]) (st := []) (v := some (sI (hI h 5 (6 * a + b)))) (h1 := h) rfl ⟨rfl, rfl⟩ rfl rfl rfl rfl (sRcv hh (a := 3) rfl rfl) rfl (fLookX (e := 3) hh (by decide) ha6 hb6) ?_
          refine s_ifc (q := .le) (a := hI h 5 (6 * a + b)) rfl ⟨_, rfl⟩ rfl (by unfold sR aMi aMa; omega) (fun hc3 => ?_) (fun hc3 => ?_)
          · have hc3 : ((hI h 5 (6 * a + b)) : Int) ≤ 0 := hc3
            omega
          · have hc3 : ¬ (((hI h 5 (6 * a + b)) : Int) ≤ 0) := hc3
            refine sP 3 (g1 := (26, [some (.ref 3), some (sI ((s : Int))), some (sI ((x : Int))), some (sI ((a : Int))), some (sI ((b : Int)))], [sI ((a : Int)), sI 1, sI ((x : Int))], h)) rfl ?_
            refine s_shl7 (a := a) rfl rfl (by omega) ?_
            refine s_b1 rfl rfl (b_or6 x hx (2 ^ a) (p26_lt ha6)) ?_
            refine sP 1 (g1 := (29, [some (.ref 3), some (sI ((s : Int))), some (sI (((x ||| 2 ^ a : Nat) : Int))), some (sI ((a : Int))), some (sI ((b : Int)))], [], h)) rfl ?_
            refine s_inc (a := (b : Int)) (n := 1) (k := 4) rfl rfl rfl ?_
            refine sP 1 (g1 := (10, [some (.ref 3), some (sI ((s : Int))), some (sI (((x ||| 2 ^ a : Nat) : Int))), some (sI ((a : Int))), some (sI (((b : Int)) + 1))], [], h)) rfl ?_
            rw [show ((b : Int) + 1) = ((b + 1 : Nat) : Int) by omega]
            exact r0
    · rw [if_neg hc] at r1
      have r0 := ih (b + 1) x (by omega) hx r r1
      by_cases u1 : bt s b = true
      · rw [if_pos u1] at vi
        have u2 : ¬ 0 < hI h 5 (6 * a + b) := fun q => hc ⟨u1, q⟩
        refine sP 2 (g1 := (12, [some (.ref 3), some (sI ((s : Int))), some (sI ((x : Int))), some (sI ((a : Int))), some (sI ((b : Int)))], [.ref 3, sI ((b : Int))], h)) rfl ?_
        refine s_get (a := 3) (j := 3) hh rfl ⟨_, rfl⟩ rfl rfl rfl (v := sI (hI h 3 3)) (hI_ok hh xw_p) ?_
        refine s_icmp (q := .ge) (a := (b : Int)) (b := hI h 3 3) rfl ⟨_, rfl⟩ rfl (by unfold sR aMi aMa; omega) (by unfold sR aMi aMa; omega) (fun hc1 => ?_) (fun hc1 => ?_)
        · have hc1 : ((hI h 3 3) : Int) ≤ ((b : Int)) := hc1
          omega
        · have hc1 : ¬ (((hI h 3 3) : Int) ≤ ((b : Int))) := hc1
          refine sP 2 (g1 := (16, [some (.ref 3), some (sI ((s : Int))), some (sI ((x : Int))), some (sI ((a : Int))), some (sI ((b : Int)))], [sI ((b : Int)), sI ((s : Int))], h)) rfl ?_
          refine s_call (k := 39) (args := [sI ((s : Int)), sI ((b : Int))]) (st := []) (v := some (sI 1)) (h1 := h) rfl ⟨rfl, rfl⟩ rfl rfl rfl rfl rfl rfl vi ?_
          refine s_ifc (q := .eq) (a := 1) rfl ⟨_, rfl⟩ rfl (by unfold sR aMi aMa; omega) (fun hc2 => ?_) (fun hc2 => ?_)
          · have hc2 : (1 : Int) = 0 := hc2
            omega
          · have hc2 : ¬ ((1 : Int) = 0) := hc2
            refine sP 3 (g1 := (21, [some (.ref 3), some (sI ((s : Int))), some (sI ((x : Int))), some (sI ((a : Int))), some (sI ((b : Int)))], [sI ((b : Int)), sI ((a : Int)), .ref 3], h)) rfl ?_
            refine s_call (k := 40) (args := [.ref 3, sI ((a : Int)), sI ((b : Int))]) (st := []) (v := some (sI (hI h 5 (6 * a + b)))) (h1 := h) rfl ⟨rfl, rfl⟩ rfl rfl rfl rfl (sRcv hh (a := 3) rfl rfl) rfl (fLookX (e := 3) hh (by decide) ha6 hb6) ?_
            refine s_ifc (q := .le) (a := hI h 5 (6 * a + b)) rfl ⟨_, rfl⟩ rfl (by unfold sR aMi aMa; omega) (fun hc3 => ?_) (fun hc3 => ?_)
            · have hc3 : ((hI h 5 (6 * a + b)) : Int) ≤ 0 := hc3
              refine s_inc (a := (b : Int)) (n := 1) (k := 4) rfl rfl rfl ?_
              refine sP 1 (g1 := (10, [some (.ref 3), some (sI ((s : Int))), some (sI ((x : Int))), some (sI ((a : Int))), some (sI (((b : Int)) + 1))], [], h)) rfl ?_
              rw [show ((b : Int) + 1) = ((b + 1 : Nat) : Int) by omega]
              exact r0
            · have hc3 : ¬ (((hI h 5 (6 * a + b)) : Int) ≤ 0) := hc3
              omega
      · rw [if_neg u1] at vi
        refine sP 2 (g1 := (12, [some (.ref 3), some (sI ((s : Int))), some (sI ((x : Int))), some (sI ((a : Int))), some (sI ((b : Int)))], [.ref 3, sI ((b : Int))], h)) rfl ?_
        refine s_get (a := 3) (j := 3) hh rfl ⟨_, rfl⟩ rfl rfl rfl (v := sI (hI h 3 3)) (hI_ok hh xw_p) ?_
        refine s_icmp (q := .ge) (a := (b : Int)) (b := hI h 3 3) rfl ⟨_, rfl⟩ rfl (by unfold sR aMi aMa; omega) (by unfold sR aMi aMa; omega) (fun hc1 => ?_) (fun hc1 => ?_)
        · have hc1 : ((hI h 3 3) : Int) ≤ ((b : Int)) := hc1
          omega
        · have hc1 : ¬ (((hI h 3 3) : Int) ≤ ((b : Int))) := hc1
          refine sP 2 (g1 := (16, [some (.ref 3), some (sI ((s : Int))), some (sI ((x : Int))), some (sI ((a : Int))), some (sI ((b : Int)))], [sI ((b : Int)), sI ((s : Int))], h)) rfl ?_
          refine s_call (k := 39) (args := [sI ((s : Int)), sI ((b : Int))]) (st := []) (v := some (sI 0)) (h1 := h) rfl ⟨rfl, rfl⟩ rfl rfl rfl rfl rfl rfl vi ?_
          refine s_ifc (q := .eq) (a := 0) rfl ⟨_, rfl⟩ rfl (by unfold sR aMi aMa; omega) (fun hc2 => ?_) (fun hc2 => ?_)
          · have hc2 : (0 : Int) = 0 := hc2
            refine s_inc (a := (b : Int)) (n := 1) (k := 4) rfl rfl rfl ?_
            refine sP 1 (g1 := (10, [some (.ref 3), some (sI ((s : Int))), some (sI ((x : Int))), some (sI ((a : Int))), some (sI (((b : Int)) + 1))], [], h)) rfl ?_
            rw [show ((b : Int) + 1) = ((b + 1 : Nat) : Int) by omega]
            exact r0
          · have hc2 : ¬ ((0 : Int) = 0) := hc2
            omega
theorem fSbO {n s : Nat} (hh : aHp h) (hn : hI h 3 3 = n) (hs : s < 64) : ∀ (k a x : Nat) (X : Option Value), a + k = n → x < 64 → nRn sc (d + 1) (mMT mMe99) (mMC mMe99) (4, [some (.ref 3), some (sI (s : Int)), some (sI (x : Int)), some (sI (a : Int)), X], [], h) (some (sI ((svO (hI h 5) n s k a x : Nat) : Int)), h) := by
  have gp := hI_rg hh xw_p
  intro k
  induction k with
  | zero =>
    intro a x X hb hx
    have hbn : a = n := by omega
    subst hbn
    refine sP 2 (g1 := (6, [some (.ref 3), some (sI ((s : Int))), some (sI ((x : Int))), some (sI ((a : Int))), X], [.ref 3, sI ((a : Int))], h)) rfl ?_
    refine s_get (a := 3) (j := 3) hh rfl ⟨_, rfl⟩ rfl rfl rfl (v := sI (hI h 3 3)) (hI_ok hh xw_p) ?_
    refine s_icmp (q := .ge) (a := (a : Int)) (b := hI h 3 3) rfl ⟨_, rfl⟩ rfl (by unfold sR aMi aMa; omega) (by unfold sR aMi aMa; omega) (fun hc1 => ?_) (fun hc1 => ?_)
    · have hc1 : ((hI h 3 3) : Int) ≤ ((a : Int)) := hc1
      refine sP 1 (g1 := (34, [some (.ref 3), some (sI ((s : Int))), some (sI ((x : Int))), some (sI ((a : Int))), X], [sI ((x : Int))], h)) rfl ?_
      exact s_reti rfl rfl (Or.inl rfl) rfl rfl
    · have hc1 : ¬ (((hI h 3 3) : Int) ≤ ((a : Int))) := hc1
      omega
  | succ k ih =>
    intro a x X hb hx
    have e1 : svO (hI h 5) n s (k + 1) a x = svO (hI h 5) n s k (a + 1) (svI (hI h 5) s a n 0 x) := rfl
    have r1 := ih (a + 1) (svI (hI h 5) s a n 0 x) (some (sI (n : Int))) (by omega) (svI_lt _ _ (by omega) _ _ _ hx)
    rw [e1]
    have r2 := fSbI (sc := sc) (d := d) hh hn (show a < n by omega) hs n 0 x (by omega) hx
    refine sP 2 (g1 := (6, [some (.ref 3), some (sI ((s : Int))), some (sI ((x : Int))), some (sI ((a : Int))), X], [.ref 3, sI ((a : Int))], h)) rfl ?_
    refine s_get (a := 3) (j := 3) hh rfl ⟨_, rfl⟩ rfl rfl rfl (v := sI (hI h 3 3)) (hI_ok hh xw_p) ?_
    refine s_icmp (q := .ge) (a := (a : Int)) (b := hI h 3 3) rfl ⟨_, rfl⟩ rfl (by unfold sR aMi aMa; omega) (by unfold sR aMi aMa; omega) (fun hc1 => ?_) (fun hc1 => ?_)
    · have hc1 : ((hI h 3 3) : Int) ≤ ((a : Int)) := hc1
      omega
    · have hc1 : ¬ (((hI h 3 3) : Int) ≤ ((a : Int))) := hc1
      refine sP 2 (g1 := (10, [some (.ref 3), some (sI ((s : Int))), some (sI ((x : Int))), some (sI ((a : Int))), some (sI 0)], [], h)) rfl ?_
      refine r2 _ ?_
      refine s_inc (a := (a : Int)) (n := 1) (k := 3) rfl rfl rfl ?_
      refine sP 1 (g1 := (4, [some (.ref 3), some (sI ((s : Int))), some (sI (((svI (hI h 5) s a n 0 x : Nat) : Int))), some (sI (((a : Int)) + 1)), some (sI ((n : Int)))], [], h)) rfl ?_
      rw [show ((a : Int) + 1) = ((a + 1 : Nat) : Int) by omega]
      exact r1
theorem fSeenBy {n s : Nat} (hh : aHp h) (hn : hI h 3 3 = n) (hs : s < 64) : nEv sc (d + 2) 99 [.ref 3, sI (s : Int)] h (some (sI ((svO (hI h 5) n s n 0 0 : Nat) : Int)), h) := by
  have r1 := fSbO (sc := sc) (d := d) hh hn hs n 0 0 none (by omega) (by decide)
  refine nEv_of (t := mMe99) rfl ?_
  show nRn sc (d + 1) (mMT mMe99) (mMC mMe99) (0, [some (.ref 3), some (sI (s : Int)), none, none, none], [], h) _
  refine sP 4 (g1 := (4, [some (.ref 3), some (sI (s : Int)), some (sI ((0 : Nat) : Int)), some (sI ((0 : Nat) : Int)), none], [], h)) rfl ?_
  exact r1
theorem fKnL {n a t : Nat} (hh : aHp h) (hn : hI h 3 3 = n) (ha : a < n) (ht : t ≤ 9) : ∀ (k i : Nat), i + k = t → nRn sc (d + 2) (mMT mMe98) (mMC mMe98) (6, [some (.ref 3), some (sI (a : Int)), some (sI (t : Int)), some (sI ((kn (hI h 5) n a i : Nat) : Int)), some (sI (i : Int))], [], h) (some (sI ((kn (hI h 5) n a t : Nat) : Int)), h) := by
  have gp := hI_rg hh xw_p
  intro k
  induction k with
  | zero =>
    intro i hi
    have hit : i = t := by omega
    subst hit
    refine sP 2 (g1 := (8, [some (.ref 3), some (sI ((a : Int))), some (sI ((i : Int))), some (sI (((kn (hI h 5) n a i : Nat) : Int))), some (sI ((i : Int)))], [sI ((i : Int)), sI ((i : Int))], h)) rfl ?_
    refine s_icmp (q := .ge) (a := (i : Int)) (b := (i : Int)) rfl ⟨_, rfl⟩ rfl (by unfold sR aMi aMa; omega) (by unfold sR aMi aMa; omega) (fun hc1 => ?_) (fun hc1 => ?_)
    · have hc1 : (((i : Int)) : Int) ≤ ((i : Int)) := hc1
      refine sP 1 (g1 := (18, [some (.ref 3), some (sI ((a : Int))), some (sI ((i : Int))), some (sI (((kn (hI h 5) n a i : Nat) : Int))), some (sI ((i : Int)))], [sI (((kn (hI h 5) n a i : Nat) : Int))], h)) rfl ?_
      exact s_reti rfl rfl (Or.inl rfl) rfl rfl
    · have hc1 : ¬ ((((i : Int)) : Int) ≤ ((i : Int))) := hc1
      omega
  | succ k ih =>
    intro i hi
    have k1 := kn_lt (hI h 5) (show n ≤ 6 by omega) ha i
    have k2 := svO_lt (hI h 5) (n := n) (kn (hI h 5) n a i) (by omega) n 0 0 (by omega) (by decide)
    have ev := fSeenBy (sc := sc) (d := d) hh hn k1
    have r1 := ih (i + 1) (by omega)
    have e1 : kn (hI h 5) n a (i + 1) = kn (hI h 5) n a i ||| svO (hI h 5) n (kn (hI h 5) n a i) n 0 0 := rfl
    rw [e1] at r1
    refine sP 2 (g1 := (8, [some (.ref 3), some (sI ((a : Int))), some (sI ((t : Int))), some (sI (((kn (hI h 5) n a i : Nat) : Int))), some (sI ((i : Int)))], [sI ((t : Int)), sI ((i : Int))], h)) rfl ?_
    refine s_icmp (q := .ge) (a := (i : Int)) (b := (t : Int)) rfl ⟨_, rfl⟩ rfl (by unfold sR aMi aMa; omega) (by unfold sR aMi aMa; omega) (fun hc1 => ?_) (fun hc1 => ?_)
    · have hc1 : (((t : Int)) : Int) ≤ ((i : Int)) := hc1
      omega
    · have hc1 : ¬ ((((t : Int)) : Int) ≤ ((i : Int))) := hc1
      refine sP 3 (g1 := (12, [some (.ref 3), some (sI ((a : Int))), some (sI ((t : Int))), some (sI (((kn (hI h 5) n a i : Nat) : Int))), some (sI ((i : Int)))], [sI (((kn (hI h 5) n a i : Nat) : Int)), .ref 3, sI (((kn (hI h 5) n a i : Nat) : Int))], h)) rfl ?_
      refine s_call (k := 99) (args := [.ref 3, sI (((kn (hI h 5) n a i : Nat) : Int))]) (st := [sI (((kn (hI h 5) n a i : Nat) : Int))]) (v := some (sI (((svO (hI h 5) n (kn (hI h 5) n a i) n 0 0 : Nat) : Int)))) (h1 := h) rfl ⟨rfl, rfl⟩ rfl rfl rfl rfl (sRcv hh (a := 3) rfl rfl) rfl ev ?_
      refine s_b1 rfl rfl (b_or6 _ k1 _ k2) ?_
      refine sP 1 (g1 := (15, [some (.ref 3), some (sI ((a : Int))), some (sI ((t : Int))), some (sI (((kn (hI h 5) n a i ||| svO (hI h 5) n (kn (hI h 5) n a i) n 0 0 : Nat) : Int))), some (sI ((i : Int)))], [], h)) rfl ?_
      refine s_inc (a := (i : Int)) (n := 1) (k := 4) rfl rfl rfl ?_
      refine sP 1 (g1 := (6, [some (.ref 3), some (sI ((a : Int))), some (sI ((t : Int))), some (sI (((kn (hI h 5) n a i ||| svO (hI h 5) n (kn (hI h 5) n a i) n 0 0 : Nat) : Int))), some (sI (((i : Int)) + 1))], [], h)) rfl ?_
      rw [show ((i : Int) + 1) = ((i + 1 : Nat) : Int) by omega]
      exact r1
theorem fKnown {n a t : Nat} (hh : aHp h) (hn : hI h 3 3 = n) (ha : a < n) (ht : t ≤ 9) : nEv sc (d + 3) 98 [.ref 3, sI (a : Int), sI (t : Int)] h (some (sI ((kn (hI h 5) n a t : Nat) : Int)), h) := by
  have gp := hI_rg hh xw_p
  have r1 := fKnL (sc := sc) (d := d) hh hn ha ht t 0 (by omega)
  refine nEv_of (t := mMe98) rfl ?_
  show nRn sc (d + 2) (mMT mMe98) (mMC mMe98) (0, [some (.ref 3), some (sI ((a : Int))), some (sI ((t : Int))), none, none], [], h) _
  refine sP 2 (g1 := (2, [some (.ref 3), some (sI ((a : Int))), some (sI ((t : Int))), none, none], [sI ((a : Int)), sI 1], h)) rfl ?_
  refine s_shl7 (a := a) rfl rfl (by omega) ?_
  refine sP 3 (g1 := (6, [some (.ref 3), some (sI ((a : Int))), some (sI ((t : Int))), some (sI (((2 ^ a : Nat) : Int))), some (sI 0)], [], h)) rfl ?_
  exact r1
theorem fKbI {n t s i a : Nat} {A0 : Int} (hh : aHp h) (hn : hI h 58 0 = n) (ha : a < n) (hs : s < 64) : ∀ (k b x : Nat), b + k = n → x < 64 → ∀ r, nRn sc (d + 1) (mMT mMe201) (mMC mMe201) (46, [some (.ref 53), some (sI A0), some (sI (t : Int)), some (sI (s : Int)), some (sI (i : Int)), some (sI ((svI (fun j => hI h 58 (7 + j)) s a k b x : Nat) : Int)), some (sI (a : Int)), some (sI (n : Int))], [], h) r → nRn sc (d + 1) (mMT mMe201) (mMC mMe201) (21, [some (.ref 53), some (sI A0), some (sI (t : Int)), some (sI (s : Int)), some (sI (i : Int)), some (sI (x : Int)), some (sI (a : Int)), some (sI (b : Int))], [], h) r := by
  have gp := hI_rg hh nw_p
  intro k
  induction k with
  | zero =>
    intro b x hb hx r r1
    have hbn : b = n := by omega
    subst hbn
    have r1 : nRn sc (d + 1) (mMT mMe201) (mMC mMe201) (46, [some (.ref 53), some (sI A0), some (sI (t : Int)), some (sI (s : Int)), some (sI (i : Int)), some (sI (x : Int)), some (sI (a : Int)), some (sI (b : Int))], [], h) r := r1
    refine sP 2 (g1 := (23, [some (.ref 53), some (sI A0), some (sI ((t : Int))), some (sI ((s : Int))), some (sI ((i : Int))), some (sI ((x : Int))), some (sI ((a : Int))), some (sI ((b : Int)))], [.ref 53, sI ((b : Int))], h)) rfl ?_
    refine s_get (a := 53) (j := 4) hh rfl ⟨_, rfl⟩ rfl rfl rfl (v := .ref 58) (hR_ok hh (by decide +kernel)) ?_
    refine sP 1 (g1 := (25, [some (.ref 53), some (sI A0), some (sI ((t : Int))), some (sI ((s : Int))), some (sI ((i : Int))), some (sI ((x : Int))), some (sI ((a : Int))), some (sI ((b : Int)))], [sI 0, .ref 58, sI ((b : Int))], h)) rfl ?_
    refine s_iald (a := 58) (n := 201) (j := 0) hh rfl rfl rfl (by omega) (by omega) (by decide) (v := sI (hI h 58 0)) (hI_ok hh nw_p) ?_
    refine s_icmp (q := .ge) (a := (b : Int)) (b := hI h 58 0) rfl ⟨_, rfl⟩ rfl (by unfold sR aMi aMa; omega) (by unfold sR aMi aMa; omega) (fun hc1 => ?_) (fun hc1 => ?_)
    · have hc1 : ((hI h 58 0) : Int) ≤ ((b : Int)) := hc1
      exact r1
    · have hc1 : ¬ (((hI h 58 0) : Int) ≤ ((b : Int))) := hc1
      omega
  | succ k ih =>
    intro b x hb hx r r1
    have hb6 : b < 6 := by omega
    have ha6 : a < 6 := by omega
    have vi := fHas (sc := sc) (d := d) (h := h) (s := s) (a := b) hs hb6
    have gl := hI_rg hh (nw_lk (show 6 * a + b < 36 by omega))
    have e1 : svI (fun j => hI h 58 (7 + j)) s a (k + 1) b x = svI (fun j => hI h 58 (7 + j)) s a k (b + 1) (if bt s b = true ∧ 0 < hI h 58 (7 + (6 * a + b)) then x ||| 2 ^ a else x) := rfl
    rw [e1] at r1
    by_cases hc : bt s b = true ∧ 0 < hI h 58 (7 + (6 * a + b))
    · rw [if_pos hc.1] at vi
      rw [if_pos hc] at r1
      have r0 := ih (b + 1) (x ||| 2 ^ a) (by omega) (or6_lt hx (p26_lt ha6)) r r1
      refine sP 2 (g1 := (23, [some (.ref 53), some (sI A0), some (sI ((t : Int))), some (sI ((s : Int))), some (sI ((i : Int))), some (sI ((x : Int))), some (sI ((a : Int))), some (sI ((b : Int)))], [.ref 53, sI ((b : Int))], h)) rfl ?_
      refine s_get (a := 53) (j := 4) hh rfl ⟨_, rfl⟩ rfl rfl rfl (v := .ref 58) (hR_ok hh (by decide +kernel)) ?_
      refine sP 1 (g1 := (25, [some (.ref 53), some (sI A0), some (sI ((t : Int))), some (sI ((s : Int))), some (sI ((i : Int))), some (sI ((x : Int))), some (sI ((a : Int))), some (sI ((b : Int)))], [sI 0, .ref 58, sI ((b : Int))], h)) rfl ?_
      refine s_iald (a := 58) (n := 201) (j := 0) hh rfl rfl rfl (by omega) (by omega) (by decide) (v := sI (hI h 58 0)) (hI_ok hh nw_p) ?_
      refine s_icmp (q := .ge) (a := (b : Int)) (b := hI h 58 0) rfl ⟨_, rfl⟩ rfl (by unfold sR aMi aMa; omega) (by unfold sR aMi aMa; omega) (fun hc1 => ?_) (fun hc1 => ?_)
      · have hc1 : ((hI h 58 0) : Int) ≤ ((b : Int)) := hc1
        omega
      · have hc1 : ¬ (((hI h 58 0) : Int) ≤ ((b : Int))) := hc1
        refine sP 3 (g1 := (30, [some (.ref 53), some (sI A0), some (sI ((t : Int))), some (sI ((s : Int))), some (sI ((i : Int))), some (sI ((x : Int))), some (sI ((a : Int))), some (sI ((b : Int)))], [sI ((b : Int)), sI ((s : Int)), sI ((x : Int))], h)) rfl ?_
        refine s_call (k := 149) (args := [sI ((s : Int)), sI ((b : Int))]) (st := [sI ((x : Int))]) (v := some (sI 1)) (h1 := h) rfl ⟨rfl, rfl⟩ rfl rfl rfl rfl rfl rfl vi ?_
        refine s_ifc (q := .eq) (a := 1) rfl ⟨_, rfl⟩ rfl (by unfold sR aMi aMa; omega) (fun hc2 => ?_) (fun hc2 => ?_)
        · have hc2 : (1 : Int) = 0 := hc2
          omega
        · have hc2 : ¬ ((1 : Int) = 0) := hc2
          refine sP 3 (g1 := (35, [some (.ref 53), some (sI A0), some (sI ((t : Int))), some (sI ((s : Int))), some (sI ((i : Int))), some (sI ((x : Int))), some (sI ((a : Int))), some (sI ((b : Int)))], [sI ((b : Int)), sI ((a : Int)), .ref 53, sI ((x : Int))], h)) rfl ?_
          refine s_call (k := 152) (args := [.ref 53, sI ((a : Int)), sI ((b : Int))]) (st := [sI ((x : Int))]) (v := some (sI (hI h 58 (7 + (6 * a + b))))) (h1 := h) rfl ⟨rfl, rfl⟩ rfl rfl rfl rfl (sRcv hh (a := 53) rfl rfl) rfl (fLookM hh ha6 hb6) ?_
          refine s_ifc (q := .le) (a := hI h 58 (7 + (6 * a + b))) rfl ⟨_, rfl⟩ rfl (by unfold sR aMi aMa; omega) (fun hc3 => ?_) (fun hc3 => ?_)
          · have hc3 : ((hI h 58 (7 + (6 * a + b))) : Int) ≤ 0 := hc3
            omega
          · have hc3 : ¬ (((hI h 58 (7 + (6 * a + b))) : Int) ≤ 0) := hc3
            refine sP 2 (g1 := (39, [some (.ref 53), some (sI A0), some (sI ((t : Int))), some (sI ((s : Int))), some (sI ((i : Int))), some (sI ((x : Int))), some (sI ((a : Int))), some (sI ((b : Int)))], [sI ((a : Int)), sI 1, sI ((x : Int))], h)) rfl ?_
            refine s_shl7 (a := a) rfl rfl (by omega) ?_
            refine sP 1 (g1 := (42, [some (.ref 53), some (sI A0), some (sI ((t : Int))), some (sI ((s : Int))), some (sI ((i : Int))), some (sI ((x : Int))), some (sI ((a : Int))), some (sI ((b : Int)))], [sI (((2 ^ a : Nat) : Int)), sI ((x : Int))], h)) rfl ?_
            refine s_b1 rfl rfl (b_or6 x hx (2 ^ a) (p26_lt ha6)) ?_
            refine sP 1 (g1 := (44, [some (.ref 53), some (sI A0), some (sI ((t : Int))), some (sI ((s : Int))), some (sI ((i : Int))), some (sI (((x ||| 2 ^ a : Nat) : Int))), some (sI ((a : Int))), some (sI ((b : Int)))], [], h)) rfl ?_
            refine s_inc (a := (b : Int)) (n := 1) (k := 7) rfl rfl rfl ?_
            refine sP 1 (g1 := (21, [some (.ref 53), some (sI A0), some (sI ((t : Int))), some (sI ((s : Int))), some (sI ((i : Int))), some (sI (((x ||| 2 ^ a : Nat) : Int))), some (sI ((a : Int))), some (sI (((b : Int)) + 1))], [], h)) rfl ?_
            rw [show ((b : Int) + 1) = ((b + 1 : Nat) : Int) by omega]
            exact r0
    · rw [if_neg hc] at r1
      have r0 := ih (b + 1) x (by omega) hx r r1
      by_cases u1 : bt s b = true
      · rw [if_pos u1] at vi
        have u2 : ¬ 0 < hI h 58 (7 + (6 * a + b)) := fun q => hc ⟨u1, q⟩
        refine sP 2 (g1 := (23, [some (.ref 53), some (sI A0), some (sI ((t : Int))), some (sI ((s : Int))), some (sI ((i : Int))), some (sI ((x : Int))), some (sI ((a : Int))), some (sI ((b : Int)))], [.ref 53, sI ((b : Int))], h)) rfl ?_
        refine s_get (a := 53) (j := 4) hh rfl ⟨_, rfl⟩ rfl rfl rfl (v := .ref 58) (hR_ok hh (by decide +kernel)) ?_
        refine sP 1 (g1 := (25, [some (.ref 53), some (sI A0), some (sI ((t : Int))), some (sI ((s : Int))), some (sI ((i : Int))), some (sI ((x : Int))), some (sI ((a : Int))), some (sI ((b : Int)))], [sI 0, .ref 58, sI ((b : Int))], h)) rfl ?_
        refine s_iald (a := 58) (n := 201) (j := 0) hh rfl rfl rfl (by omega) (by omega) (by decide) (v := sI (hI h 58 0)) (hI_ok hh nw_p) ?_
        refine s_icmp (q := .ge) (a := (b : Int)) (b := hI h 58 0) rfl ⟨_, rfl⟩ rfl (by unfold sR aMi aMa; omega) (by unfold sR aMi aMa; omega) (fun hc1 => ?_) (fun hc1 => ?_)
        · have hc1 : ((hI h 58 0) : Int) ≤ ((b : Int)) := hc1
          omega
        · have hc1 : ¬ (((hI h 58 0) : Int) ≤ ((b : Int))) := hc1
          refine sP 3 (g1 := (30, [some (.ref 53), some (sI A0), some (sI ((t : Int))), some (sI ((s : Int))), some (sI ((i : Int))), some (sI ((x : Int))), some (sI ((a : Int))), some (sI ((b : Int)))], [sI ((b : Int)), sI ((s : Int)), sI ((x : Int))], h)) rfl ?_
          refine s_call (k := 149) (args := [sI ((s : Int)), sI ((b : Int))]) (st := [sI ((x : Int))]) (v := some (sI 1)) (h1 := h) rfl ⟨rfl, rfl⟩ rfl rfl rfl rfl rfl rfl vi ?_
          refine s_ifc (q := .eq) (a := 1) rfl ⟨_, rfl⟩ rfl (by unfold sR aMi aMa; omega) (fun hc2 => ?_) (fun hc2 => ?_)
          · have hc2 : (1 : Int) = 0 := hc2
            omega
          · have hc2 : ¬ ((1 : Int) = 0) := hc2
            refine sP 3 (g1 := (35, [some (.ref 53), some (sI A0), some (sI ((t : Int))), some (sI ((s : Int))), some (sI ((i : Int))), some (sI ((x : Int))), some (sI ((a : Int))), some (sI ((b : Int)))], [sI ((b : Int)), sI ((a : Int)), .ref 53, sI ((x : Int))], h)) rfl ?_
            refine s_call (k := 152) (args := [.ref 53, sI ((a : Int)), sI ((b : Int))]) (st := [sI ((x : Int))]) (v := some (sI (hI h 58 (7 + (6 * a + b))))) (h1 := h) rfl ⟨rfl, rfl⟩ rfl rfl rfl rfl (sRcv hh (a := 53) rfl rfl) rfl (fLookM hh ha6 hb6) ?_
            refine s_ifc (q := .le) (a := hI h 58 (7 + (6 * a + b))) rfl ⟨_, rfl⟩ rfl (by unfold sR aMi aMa; omega) (fun hc3 => ?_) (fun hc3 => ?_)
            · have hc3 : ((hI h 58 (7 + (6 * a + b))) : Int) ≤ 0 := hc3
              refine sP 1 (g1 := (42, [some (.ref 53), some (sI A0), some (sI ((t : Int))), some (sI ((s : Int))), some (sI ((i : Int))), some (sI ((x : Int))), some (sI ((a : Int))), some (sI ((b : Int)))], [sI 0, sI ((x : Int))], h)) rfl ?_
              refine s_b1 rfl rfl (b_or0 x (by omega)) ?_
              refine sP 1 (g1 := (44, [some (.ref 53), some (sI A0), some (sI ((t : Int))), some (sI ((s : Int))), some (sI ((i : Int))), some (sI ((x : Int))), some (sI ((a : Int))), some (sI ((b : Int)))], [], h)) rfl ?_
              refine s_inc (a := (b : Int)) (n := 1) (k := 7) rfl rfl rfl ?_
              refine sP 1 (g1 := (21, [some (.ref 53), some (sI A0), some (sI ((t : Int))), some (sI ((s : Int))), some (sI ((i : Int))), some (sI ((x : Int))), some (sI ((a : Int))), some (sI (((b : Int)) + 1))], [], h)) rfl ?_
              rw [show ((b : Int) + 1) = ((b + 1 : Nat) : Int) by omega]
              exact r0
            · have hc3 : ¬ (((hI h 58 (7 + (6 * a + b))) : Int) ≤ 0) := hc3
              omega
      · rw [if_neg u1] at vi
        refine sP 2 (g1 := (23, [some (.ref 53), some (sI A0), some (sI ((t : Int))), some (sI ((s : Int))), some (sI ((i : Int))), some (sI ((x : Int))), some (sI ((a : Int))), some (sI ((b : Int)))], [.ref 53, sI ((b : Int))], h)) rfl ?_
        refine s_get (a := 53) (j := 4) hh rfl ⟨_, rfl⟩ rfl rfl rfl (v := .ref 58) (hR_ok hh (by decide +kernel)) ?_
        refine sP 1 (g1 := (25, [some (.ref 53), some (sI A0), some (sI ((t : Int))), some (sI ((s : Int))), some (sI ((i : Int))), some (sI ((x : Int))), some (sI ((a : Int))), some (sI ((b : Int)))], [sI 0, .ref 58, sI ((b : Int))], h)) rfl ?_
        refine s_iald (a := 58) (n := 201) (j := 0) hh rfl rfl rfl (by omega) (by omega) (by decide) (v := sI (hI h 58 0)) (hI_ok hh nw_p) ?_
        refine s_icmp (q := .ge) (a := (b : Int)) (b := hI h 58 0) rfl ⟨_, rfl⟩ rfl (by unfold sR aMi aMa; omega) (by unfold sR aMi aMa; omega) (fun hc1 => ?_) (fun hc1 => ?_)
        · have hc1 : ((hI h 58 0) : Int) ≤ ((b : Int)) := hc1
          omega
        · have hc1 : ¬ (((hI h 58 0) : Int) ≤ ((b : Int))) := hc1
          refine sP 3 (g1 := (30, [some (.ref 53), some (sI A0), some (sI ((t : Int))), some (sI ((s : Int))), some (sI ((i : Int))), some (sI ((x : Int))), some (sI ((a : Int))), some (sI ((b : Int)))], [sI ((b : Int)), sI ((s : Int)), sI ((x : Int))], h)) rfl ?_
          refine s_call (k := 149) (args := [sI ((s : Int)), sI ((b : Int))]) (st := [sI ((x : Int))]) (v := some (sI 0)) (h1 := h) rfl ⟨rfl, rfl⟩ rfl rfl rfl rfl rfl rfl vi ?_
          refine s_ifc (q := .eq) (a := 0) rfl ⟨_, rfl⟩ rfl (by unfold sR aMi aMa; omega) (fun hc2 => ?_) (fun hc2 => ?_)
          · have hc2 : (0 : Int) = 0 := hc2
            refine sP 1 (g1 := (42, [some (.ref 53), some (sI A0), some (sI ((t : Int))), some (sI ((s : Int))), some (sI ((i : Int))), some (sI ((x : Int))), some (sI ((a : Int))), some (sI ((b : Int)))], [sI 0, sI ((x : Int))], h)) rfl ?_
            refine s_b1 rfl rfl (b_or0 x (by omega)) ?_
            refine sP 1 (g1 := (44, [some (.ref 53), some (sI A0), some (sI ((t : Int))), some (sI ((s : Int))), some (sI ((i : Int))), some (sI ((x : Int))), some (sI ((a : Int))), some (sI ((b : Int)))], [], h)) rfl ?_
            refine s_inc (a := (b : Int)) (n := 1) (k := 7) rfl rfl rfl ?_
            refine sP 1 (g1 := (21, [some (.ref 53), some (sI A0), some (sI ((t : Int))), some (sI ((s : Int))), some (sI ((i : Int))), some (sI ((x : Int))), some (sI ((a : Int))), some (sI (((b : Int)) + 1))], [], h)) rfl ?_
            rw [show ((b : Int) + 1) = ((b + 1 : Nat) : Int) by omega]
            exact r0
          · have hc2 : ¬ ((0 : Int) = 0) := hc2
            omega
theorem fKbM {n t s i : Nat} {A0 : Int} (hh : aHp h) (hn : hI h 58 0 = n) (hs : s < 64) : ∀ (k a x : Nat) (X : Option Value), a + k = n → x < 64 → ∀ r, (∀ Y : Option Value, nRn sc (d + 1) (mMT mMe201) (mMC mMe201) (48, [some (.ref 53), some (sI A0), some (sI (t : Int)), some (sI (s : Int)), some (sI (i : Int)), some (sI ((svO (fun j => hI h 58 (7 + j)) n s k a x : Nat) : Int)), some (sI (n : Int)), Y], [], h) r) → nRn sc (d + 1) (mMT mMe201) (mMC mMe201) (13, [some (.ref 53), some (sI A0), some (sI (t : Int)), some (sI (s : Int)), some (sI (i : Int)), some (sI (x : Int)), some (sI (a : Int)), X], [], h) r := by
  have gp := hI_rg hh nw_p
  intro k
  induction k with
  | zero =>
    intro a x X hb hx r r1
    have hbn : a = n := by omega
    subst hbn
    have r1 : nRn sc (d + 1) (mMT mMe201) (mMC mMe201) (48, [some (.ref 53), some (sI A0), some (sI (t : Int)), some (sI (s : Int)), some (sI (i : Int)), some (sI (x : Int)), some (sI (a : Int)), X], [], h) r := r1 X
    refine sP 2 (g1 := (15, [some (.ref 53), some (sI A0), some (sI ((t : Int))), some (sI ((s : Int))), some (sI ((i : Int))), some (sI ((x : Int))), some (sI ((a : Int))), X], [.ref 53, sI ((a : Int))], h)) rfl ?_
    refine s_get (a := 53) (j := 4) hh rfl ⟨_, rfl⟩ rfl rfl rfl (v := .ref 58) (hR_ok hh (by decide +kernel)) ?_
    refine sP 1 (g1 := (17, [some (.ref 53), some (sI A0), some (sI ((t : Int))), some (sI ((s : Int))), some (sI ((i : Int))), some (sI ((x : Int))), some (sI ((a : Int))), X], [sI 0, .ref 58, sI ((a : Int))], h)) rfl ?_
    refine s_iald (a := 58) (n := 201) (j := 0) hh rfl rfl rfl (by omega) (by omega) (by decide) (v := sI (hI h 58 0)) (hI_ok hh nw_p) ?_
    refine s_icmp (q := .ge) (a := (a : Int)) (b := hI h 58 0) rfl ⟨_, rfl⟩ rfl (by unfold sR aMi aMa; omega) (by unfold sR aMi aMa; omega) (fun hc1 => ?_) (fun hc1 => ?_)
    · have hc1 : ((hI h 58 0) : Int) ≤ ((a : Int)) := hc1
      exact r1
    · have hc1 : ¬ (((hI h 58 0) : Int) ≤ ((a : Int))) := hc1
      omega
  | succ k ih =>
    intro a x X hb hx r r1
    have e1 : svO (fun j => hI h 58 (7 + j)) n s (k + 1) a x = svO (fun j => hI h 58 (7 + j)) n s k (a + 1) (svI (fun j => hI h 58 (7 + j)) s a n 0 x) := rfl
    rw [e1] at r1
    have r0 := ih (a + 1) (svI (fun j => hI h 58 (7 + j)) s a n 0 x) (some (sI (n : Int))) (by omega) (svI_lt _ _ (by omega) _ _ _ hx) r r1
    have r2 := fKbI (sc := sc) (d := d) (t := t) (i := i) (A0 := A0) hh hn (show a < n by omega) hs n 0 x (by omega) hx
    refine sP 2 (g1 := (15, [some (.ref 53), some (sI A0), some (sI ((t : Int))), some (sI ((s : Int))), some (sI ((i : Int))), some (sI ((x : Int))), some (sI ((a : Int))), X], [.ref 53, sI ((a : Int))], h)) rfl ?_
    refine s_get (a := 53) (j := 4) hh rfl ⟨_, rfl⟩ rfl rfl rfl (v := .ref 58) (hR_ok hh (by decide +kernel)) ?_
    refine sP 1 (g1 := (17, [some (.ref 53), some (sI A0), some (sI ((t : Int))), some (sI ((s : Int))), some (sI ((i : Int))), some (sI ((x : Int))), some (sI ((a : Int))), X], [sI 0, .ref 58, sI ((a : Int))], h)) rfl ?_
    refine s_iald (a := 58) (n := 201) (j := 0) hh rfl rfl rfl (by omega) (by omega) (by decide) (v := sI (hI h 58 0)) (hI_ok hh nw_p) ?_
    refine s_icmp (q := .ge) (a := (a : Int)) (b := hI h 58 0) rfl ⟨_, rfl⟩ rfl (by unfold sR aMi aMa; omega) (by unfold sR aMi aMa; omega) (fun hc1 => ?_) (fun hc1 => ?_)
    · have hc1 : ((hI h 58 0) : Int) ≤ ((a : Int)) := hc1
      omega
    · have hc1 : ¬ (((hI h 58 0) : Int) ≤ ((a : Int))) := hc1
      refine sP 2 (g1 := (21, [some (.ref 53), some (sI A0), some (sI ((t : Int))), some (sI ((s : Int))), some (sI ((i : Int))), some (sI ((x : Int))), some (sI ((a : Int))), some (sI 0)], [], h)) rfl ?_
      refine r2 _ ?_
      refine s_inc (a := (a : Int)) (n := 1) (k := 6) rfl rfl rfl ?_
      refine sP 1 (g1 := (13, [some (.ref 53), some (sI A0), some (sI ((t : Int))), some (sI ((s : Int))), some (sI ((i : Int))), some (sI (((svI (fun j => hI h 58 (7 + j)) s a n 0 x : Nat) : Int))), some (sI (((a : Int)) + 1)), some (sI ((n : Int)))], [], h)) rfl ?_
      rw [show ((a : Int) + 1) = ((a + 1 : Nat) : Int) by omega]
      exact r0
theorem fKbL {n a t : Nat} (hh : aHp h) (hn : hI h 58 0 = n) (ha : a < n) (ht : t ≤ 9) : ∀ (k i : Nat) (X5 X6 X7 : Option Value), i + k = t → nRn sc (d + 1) (mMT mMe201) (mMC mMe201) (6, [some (.ref 53), some (sI (a : Int)), some (sI (t : Int)), some (sI ((kn (fun j => hI h 58 (7 + j)) n a i : Nat) : Int)), some (sI (i : Int)), X5, X6, X7], [], h) (some (sI ((kn (fun j => hI h 58 (7 + j)) n a t : Nat) : Int)), h) := by
  have gp := hI_rg hh nw_p
  intro k
  induction k with
  | zero =>
    intro i X5 X6 X7 hi
    have hit : i = t := by omega
    subst hit
    refine sP 2 (g1 := (8, [some (.ref 53), some (sI ((a : Int))), some (sI ((i : Int))), some (sI (((kn (fun j => hI h 58 (7 + j)) n a i : Nat) : Int))), some (sI ((i : Int))), X5, X6, X7], [sI ((i : Int)), sI ((i : Int))], h)) rfl ?_
    refine s_icmp (q := .ge) (a := (i : Int)) (b := (i : Int)) rfl ⟨_, rfl⟩ rfl (by unfold sR aMi aMa; omega) (by unfold sR aMi aMa; omega) (fun hc1 => ?_) (fun hc1 => ?_)
    · have hc1 : (((i : Int)) : Int) ≤ ((i : Int)) := hc1
      refine sP 1 (g1 := (55, [some (.ref 53), some (sI ((a : Int))), some (sI ((i : Int))), some (sI (((kn (fun j => hI h 58 (7 + j)) n a i : Nat) : Int))), some (sI ((i : Int))), X5, X6, X7], [sI (((kn (fun j => hI h 58 (7 + j)) n a i : Nat) : Int))], h)) rfl ?_
      exact s_reti rfl rfl (Or.inl rfl) rfl rfl
    · have hc1 : ¬ ((((i : Int)) : Int) ≤ ((i : Int))) := hc1
      omega
  | succ k ih =>
    intro i X5 X6 X7 hi
    have k1 := kn_lt (fun j => hI h 58 (7 + j)) (show n ≤ 6 by omega) ha i
    have k2 := svO_lt (fun j => hI h 58 (7 + j)) (n := n) (kn (fun j => hI h 58 (7 + j)) n a i) (by omega) n 0 0 (by omega) (by decide)
    have r1 := fun X5 X6 X7 => ih (i + 1) X5 X6 X7 (by omega)
    have e1 : kn (fun j => hI h 58 (7 + j)) n a (i + 1) = kn (fun j => hI h 58 (7 + j)) n a i ||| svO (fun j => hI h 58 (7 + j)) n (kn (fun j => hI h 58 (7 + j)) n a i) n 0 0 := rfl
    rw [e1] at r1
    have r2 := fKbM (sc := sc) (d := d) (t := t) (i := i) (A0 := (a : Int)) hh hn k1 n 0 0 X7 (by omega) (by decide)
    refine sP 2 (g1 := (8, [some (.ref 53), some (sI ((a : Int))), some (sI ((t : Int))), some (sI (((kn (fun j => hI h 58 (7 + j)) n a i : Nat) : Int))), some (sI ((i : Int))), X5, X6, X7], [sI ((t : Int)), sI ((i : Int))], h)) rfl ?_
    refine s_icmp (q := .ge) (a := (i : Int)) (b := (t : Int)) rfl ⟨_, rfl⟩ rfl (by unfold sR aMi aMa; omega) (by unfold sR aMi aMa; omega) (fun hc1 => ?_) (fun hc1 => ?_)
    · have hc1 : (((t : Int)) : Int) ≤ ((i : Int)) := hc1
      omega
    · have hc1 : ¬ ((((t : Int)) : Int) ≤ ((i : Int))) := hc1
      refine sP 4 (g1 := (13, [some (.ref 53), some (sI ((a : Int))), some (sI ((t : Int))), some (sI (((kn (fun j => hI h 58 (7 + j)) n a i : Nat) : Int))), some (sI ((i : Int))), some (sI 0), some (sI 0), X7], [], h)) rfl ?_
      refine r2 _ (fun Y => ?_)
      refine sP 2 (g1 := (50, [some (.ref 53), some (sI ((a : Int))), some (sI ((t : Int))), some (sI (((kn (fun j => hI h 58 (7 + j)) n a i : Nat) : Int))), some (sI ((i : Int))), some (sI (((svO (fun j => hI h 58 (7 + j)) n (kn (fun j => hI h 58 (7 + j)) n a i) n 0 0 : Nat) : Int))), some (sI ((n : Int))), Y], [sI (((svO (fun j => hI h 58 (7 + j)) n (kn (fun j => hI h 58 (7 + j)) n a i) n 0 0 : Nat) : Int)), sI (((kn (fun j => hI h 58 (7 + j)) n a i : Nat) : Int))], h)) rfl ?_
      refine s_b1 rfl rfl (b_or6 _ k1 _ k2) ?_
      refine sP 1 (g1 := (52, [some (.ref 53), some (sI ((a : Int))), some (sI ((t : Int))), some (sI (((kn (fun j => hI h 58 (7 + j)) n a i ||| svO (fun j => hI h 58 (7 + j)) n (kn (fun j => hI h 58 (7 + j)) n a i) n 0 0 : Nat) : Int))), some (sI ((i : Int))), some (sI (((svO (fun j => hI h 58 (7 + j)) n (kn (fun j => hI h 58 (7 + j)) n a i) n 0 0 : Nat) : Int))), some (sI ((n : Int))), Y], [], h)) rfl ?_
      refine s_inc (a := (i : Int)) (n := 1) (k := 4) rfl rfl rfl ?_
      refine sP 1 (g1 := (6, [some (.ref 53), some (sI ((a : Int))), some (sI ((t : Int))), some (sI (((kn (fun j => hI h 58 (7 + j)) n a i ||| svO (fun j => hI h 58 (7 + j)) n (kn (fun j => hI h 58 (7 + j)) n a i) n 0 0 : Nat) : Int))), some (sI (((i : Int)) + 1)), some (sI (((svO (fun j => hI h 58 (7 + j)) n (kn (fun j => hI h 58 (7 + j)) n a i) n 0 0 : Nat) : Int))), some (sI ((n : Int))), Y], [], h)) rfl ?_
      rw [show ((i : Int) + 1) = ((i + 1 : Nat) : Int) by omega]
      exact r1 _ _ _
theorem fKnownBy {n a t : Nat} (hh : aHp h) (hn : hI h 58 0 = n) (ha : a < n) (ht : t ≤ 9) : nEv sc (d + 2) 201 [.ref 53, sI (a : Int), sI (t : Int)] h (some (sI ((kn (fun j => hI h 58 (7 + j)) n a t : Nat) : Int)), h) := by
  have gp := hI_rg hh nw_p
  have r1 := fKbL (sc := sc) (d := d) hh hn ha ht t 0 none none none (by omega)
  refine nEv_of (t := mMe201) rfl ?_
  show nRn sc (d + 1) (mMT mMe201) (mMC mMe201) (0, [some (.ref 53), some (sI ((a : Int))), some (sI ((t : Int))), none, none, none, none, none], [], h) _
  refine sP 2 (g1 := (2, [some (.ref 53), some (sI ((a : Int))), some (sI ((t : Int))), none, none, none, none, none], [sI ((a : Int)), sI 1], h)) rfl ?_
  refine s_shl7 (a := a) rfl rfl (by omega) ?_
  refine sP 3 (g1 := (6, [some (.ref 53), some (sI ((a : Int))), some (sI ((t : Int))), some (sI (((2 ^ a : Nat) : Int))), some (sI 0), none, none, none], [], h)) rfl ?_
  exact r1
theorem fKnowsXb0 {a t : Int} (hh : aHp h) (ra : sR a) (rt : sR t) (hc : ¬ (0 ≤ a ∧ a < hI h 3 3)) : nEv sc (d + 4) 97 [.ref 0, sI a, sI t] h (some (sI (-1)), h) := by
  have gp := hI_rg hh xw_p
  unfold sR aMi aMa at ra rt
  refine nEv_of (t := mMe97) rfl ?_
  show nRn sc (d + 3) (mMT mMe97) (mMC mMe97) (0, [some (.ref 0), some (sI a), some (sI t)], [], h) _
  refine sP 1 (g1 := (1, [some (.ref 0), some (sI a), some (sI t)], [.ref 0], h)) rfl ?_
  refine s_get (a := 0) (j := 2) hh rfl ⟨_, rfl⟩ rfl rfl rfl (v := .ref 3) (hR_ok hh (by decide +kernel)) ?_
  refine sP 1 (g1 := (3, [some (.ref 0), some (sI a), some (sI t)], [sI a, .ref 3], h)) rfl ?_
  have ev1 := fHasX (sc := sc) (d := d + 2) (a := a) hh (by unfold sR aMi aMa; omega)
  rw [if_neg (by omega)] at ev1
  refine s_call (k := 35) (args := [.ref 3, sI a]) (st := []) (v := some (sI 0)) (h1 := h) rfl ⟨rfl, rfl⟩ rfl rfl rfl rfl (sRcv hh (a := 3) rfl rfl) rfl ev1 ?_
  refine s_ifc (q := .eq) (a := 0) rfl ⟨_, rfl⟩ rfl (by unfold sR aMi aMa; omega) (fun hc2 => ?_) (fun hc2 => ?_)
  · have hc2 : (0 : Int) = 0 := hc2
    refine sP 1 (g1 := (11, [some (.ref 0), some (sI a), some (sI t)], [sI ((-1))], h)) rfl ?_
    exact s_reti rfl rfl (Or.inl rfl) rfl rfl
  · have hc2 : ¬ ((0 : Int) = 0) := hc2
    omega
theorem fKnowsXb1 {a t : Int} (hh : aHp h) (ra : sR a) (rt : sR t) (hc : (0 ≤ a ∧ a < hI h 3 3) ∧ ¬ (0 ≤ t ∧ t ≤ 9)) : nEv sc (d + 4) 97 [.ref 0, sI a, sI t] h (some (sI (-1)), h) := by
  have gp := hI_rg hh xw_p
  unfold sR aMi aMa at ra rt
  refine nEv_of (t := mMe97) rfl ?_
  show nRn sc (d + 3) (mMT mMe97) (mMC mMe97) (0, [some (.ref 0), some (sI a), some (sI t)], [], h) _
  refine sP 1 (g1 := (1, [some (.ref 0), some (sI a), some (sI t)], [.ref 0], h)) rfl ?_
  refine s_get (a := 0) (j := 2) hh rfl ⟨_, rfl⟩ rfl rfl rfl (v := .ref 3) (hR_ok hh (by decide +kernel)) ?_
  refine sP 1 (g1 := (3, [some (.ref 0), some (sI a), some (sI t)], [sI a, .ref 3], h)) rfl ?_
  have ev1 := fHasX (sc := sc) (d := d + 2) (a := a) hh (by unfold sR aMi aMa; omega)
  rw [if_pos (by omega)] at ev1
  refine s_call (k := 35) (args := [.ref 3, sI a]) (st := []) (v := some (sI 1)) (h1 := h) rfl ⟨rfl, rfl⟩ rfl rfl rfl rfl (sRcv hh (a := 3) rfl rfl) rfl ev1 ?_
  refine s_ifc (q := .eq) (a := 1) rfl ⟨_, rfl⟩ rfl (by unfold sR aMi aMa; omega) (fun hc2 => ?_) (fun hc2 => ?_)
  · have hc2 : (1 : Int) = 0 := hc2
    omega
  · have hc2 : ¬ ((1 : Int) = 0) := hc2
    refine sP 1 (g1 := (6, [some (.ref 0), some (sI a), some (sI t)], [sI t], h)) rfl ?_
    refine s_ifc (q := .lt) (a := t) rfl ⟨_, rfl⟩ rfl (by unfold sR aMi aMa; omega) (fun hc3 => ?_) (fun hc3 => ?_)
    · have hc3 : (t : Int) < 0 := hc3
      refine sP 1 (g1 := (11, [some (.ref 0), some (sI a), some (sI t)], [sI ((-1))], h)) rfl ?_
      exact s_reti rfl rfl (Or.inl rfl) rfl rfl
    · have hc3 : ¬ ((t : Int) < 0) := hc3
      refine sP 2 (g1 := (9, [some (.ref 0), some (sI a), some (sI t)], [sI 9, sI t], h)) rfl ?_
      refine s_icmp (q := .le) (a := t) (b := 9) rfl ⟨_, rfl⟩ rfl (by unfold sR aMi aMa; omega) (by unfold sR aMi aMa; omega) (fun hc4 => ?_) (fun hc4 => ?_)
      · have hc4 : (t : Int) ≤ 9 := hc4
        omega
      · have hc4 : ¬ ((t : Int) ≤ 9) := hc4
        refine sP 1 (g1 := (11, [some (.ref 0), some (sI a), some (sI t)], [sI ((-1))], h)) rfl ?_
        exact s_reti rfl rfl (Or.inl rfl) rfl rfl
theorem fKnowsMb0 {a t : Int} (hh : aHp h) (ra : sR a) (rt : sR t) (hc : ¬ (0 ≤ a ∧ a < hI h 58 0)) : nEv sc (d + 4) 200 [.ref 53, sI a, sI t] h (some (sI (-1)), h) := by
  have gp := hI_rg hh nw_p
  unfold sR aMi aMa at ra rt
  refine nEv_of (t := mMe200) rfl ?_
  show nRn sc (d + 3) (mMT mMe200) (mMC mMe200) (0, [some (.ref 53), some (sI a), some (sI t)], [], h) _
  refine sP 2 (g1 := (2, [some (.ref 53), some (sI a), some (sI t)], [sI a, .ref 53], h)) rfl ?_
  have ev1 := fIsPerson (sc := sc) (d := d + 1) (a := a) hh (by unfold sR aMi aMa; omega)
  rw [if_neg (by omega)] at ev1
  refine s_call (k := 147) (args := [.ref 53, sI a]) (st := []) (v := some (sI 0)) (h1 := h) rfl ⟨rfl, rfl⟩ rfl rfl rfl rfl (sRcv hh (a := 53) rfl rfl) rfl ev1 ?_
  refine s_ifc (q := .eq) (a := 0) rfl ⟨_, rfl⟩ rfl (by unfold sR aMi aMa; omega) (fun hc2 => ?_) (fun hc2 => ?_)
  · have hc2 : (0 : Int) = 0 := hc2
    refine sP 1 (g1 := (16, [some (.ref 53), some (sI a), some (sI t)], [sI ((-1))], h)) rfl ?_
    exact s_reti rfl rfl (Or.inl rfl) rfl rfl
  · have hc2 : ¬ ((0 : Int) = 0) := hc2
    omega
theorem fKnowsMb1 {a t : Int} (hh : aHp h) (ra : sR a) (rt : sR t) (hc : (0 ≤ a ∧ a < hI h 58 0) ∧ ¬ (0 ≤ t ∧ t ≤ 9)) : nEv sc (d + 4) 200 [.ref 53, sI a, sI t] h (some (sI (-1)), h) := by
  have gp := hI_rg hh nw_p
  unfold sR aMi aMa at ra rt
  refine nEv_of (t := mMe200) rfl ?_
  show nRn sc (d + 3) (mMT mMe200) (mMC mMe200) (0, [some (.ref 53), some (sI a), some (sI t)], [], h) _
  refine sP 2 (g1 := (2, [some (.ref 53), some (sI a), some (sI t)], [sI a, .ref 53], h)) rfl ?_
  have ev1 := fIsPerson (sc := sc) (d := d + 1) (a := a) hh (by unfold sR aMi aMa; omega)
  rw [if_pos (by omega)] at ev1
  refine s_call (k := 147) (args := [.ref 53, sI a]) (st := []) (v := some (sI 1)) (h1 := h) rfl ⟨rfl, rfl⟩ rfl rfl rfl rfl (sRcv hh (a := 53) rfl rfl) rfl ev1 ?_
  refine s_ifc (q := .eq) (a := 1) rfl ⟨_, rfl⟩ rfl (by unfold sR aMi aMa; omega) (fun hc2 => ?_) (fun hc2 => ?_)
  · have hc2 : (1 : Int) = 0 := hc2
    omega
  · have hc2 : ¬ ((1 : Int) = 0) := hc2
    refine sP 1 (g1 := (5, [some (.ref 53), some (sI a), some (sI t)], [sI t], h)) rfl ?_
    refine s_i2l (a := t) rfl rfl (by unfold sR aMi aMa; omega) ?_
    refine sP 2 (g1 := (8, [some (.ref 53), some (sI a), some (sI t)], [sJ 9, sJ 0, sJ t], h)) rfl ?_
    have ev3 := fIn (sc := sc) (d := d + 2) (h := h) (a := t) (b := 0) (e := 9) (by omega) (by omega) (by omega) (by omega) (by omega) (by omega)
    rw [if_neg (by omega)] at ev3
    refine s_call (k := 127) (args := [sJ t, sJ 0, sJ 9]) (st := []) (v := some (sI 0)) (h1 := h) rfl ⟨rfl, rfl⟩ rfl rfl rfl rfl rfl rfl ev3 ?_
    refine s_ifc (q := .eq) (a := 0) rfl ⟨_, rfl⟩ rfl (by unfold sR aMi aMa; omega) (fun hc4 => ?_) (fun hc4 => ?_)
    · have hc4 : (0 : Int) = 0 := hc4
      refine sP 1 (g1 := (16, [some (.ref 53), some (sI a), some (sI t)], [sI ((-1))], h)) rfl ?_
      exact s_reti rfl rfl (Or.inl rfl) rfl rfl
    · have hc4 : ¬ ((0 : Int) = 0) := hc4
      omega
theorem fKnowsX {n a t : Nat} (hh : aHp h) (hn : hI h 3 3 = n) (ha : a < n) (ht : t ≤ 9) : nEv sc (d + 4) 97 [.ref 0, sI (a : Int), sI (t : Int)] h (some (sI ((kn (hI h 5) n a t : Nat) : Int)), h) := by
  have gp := hI_rg hh xw_p
  have ev := fKnown (sc := sc) (d := d) hh hn ha ht
  refine nEv_of (t := mMe97) rfl ?_
  show nRn sc (d + 3) (mMT mMe97) (mMC mMe97) (0, [some (.ref 0), some (sI ((a : Int))), some (sI ((t : Int)))], [], h) _
  refine sP 1 (g1 := (1, [some (.ref 0), some (sI ((a : Int))), some (sI ((t : Int)))], [.ref 0], h)) rfl ?_
  refine s_get (a := 0) (j := 2) hh rfl ⟨_, rfl⟩ rfl rfl rfl (v := .ref 3) (hR_ok hh (by decide +kernel)) ?_
  refine sP 1 (g1 := (3, [some (.ref 0), some (sI ((a : Int))), some (sI ((t : Int)))], [sI ((a : Int)), .ref 3], h)) rfl ?_
  have ev1 := fHasX (sc := sc) (d := d + 2) (a := (a : Int)) hh (by unfold sR aMi aMa; omega)
  rw [if_pos (by omega)] at ev1
  refine s_call (k := 35) (args := [.ref 3, sI ((a : Int))]) (st := []) (v := some (sI 1)) (h1 := h) rfl ⟨rfl, rfl⟩ rfl rfl rfl rfl (sRcv hh (a := 3) rfl rfl) rfl ev1 ?_
  refine s_ifc (q := .eq) (a := 1) rfl ⟨_, rfl⟩ rfl (by unfold sR aMi aMa; omega) (fun hc2 => ?_) (fun hc2 => ?_)
  · have hc2 : (1 : Int) = 0 := hc2
    omega
  · have hc2 : ¬ ((1 : Int) = 0) := hc2
    refine sP 1 (g1 := (6, [some (.ref 0), some (sI ((a : Int))), some (sI ((t : Int)))], [sI ((t : Int))], h)) rfl ?_
    refine s_ifc (q := .lt) (a := (t : Int)) rfl ⟨_, rfl⟩ rfl (by unfold sR aMi aMa; omega) (fun hc3 => ?_) (fun hc3 => ?_)
    · have hc3 : (((t : Int)) : Int) < 0 := hc3
      omega
    · have hc3 : ¬ ((((t : Int)) : Int) < 0) := hc3
      refine sP 2 (g1 := (9, [some (.ref 0), some (sI ((a : Int))), some (sI ((t : Int)))], [sI 9, sI ((t : Int))], h)) rfl ?_
      refine s_icmp (q := .le) (a := (t : Int)) (b := 9) rfl ⟨_, rfl⟩ rfl (by unfold sR aMi aMa; omega) (by unfold sR aMi aMa; omega) (fun hc4 => ?_) (fun hc4 => ?_)
      · have hc4 : (((t : Int)) : Int) ≤ 9 := hc4
        refine sP 1 (g1 := (13, [some (.ref 0), some (sI ((a : Int))), some (sI ((t : Int)))], [.ref 0], h)) rfl ?_
        refine s_get (a := 0) (j := 2) hh rfl ⟨_, rfl⟩ rfl rfl rfl (v := .ref 3) (hR_ok hh (by decide +kernel)) ?_
        refine sP 2 (g1 := (16, [some (.ref 0), some (sI ((a : Int))), some (sI ((t : Int)))], [sI ((t : Int)), sI ((a : Int)), .ref 3], h)) rfl ?_
        refine s_call (k := 98) (args := [.ref 3, sI ((a : Int)), sI ((t : Int))]) (st := []) (v := some (sI (((kn (hI h 5) n a t : Nat) : Int)))) (h1 := h) rfl ⟨rfl, rfl⟩ rfl rfl rfl rfl (sRcv hh (a := 3) rfl rfl) rfl ev ?_
        exact s_reti rfl rfl (Or.inl rfl) rfl rfl
      · have hc4 : ¬ ((((t : Int)) : Int) ≤ 9) := hc4
        omega
theorem fKnowsM {n a t : Nat} (hh : aHp h) (hn : hI h 58 0 = n) (ha : a < n) (ht : t ≤ 9) : nEv sc (d + 4) 200 [.ref 53, sI (a : Int), sI (t : Int)] h (some (sI ((kn (fun j => hI h 58 (7 + j)) n a t : Nat) : Int)), h) := by
  have gp := hI_rg hh nw_p
  have ev := fKnownBy (sc := sc) (d := d + 1) hh hn ha ht
  refine nEv_of (t := mMe200) rfl ?_
  show nRn sc (d + 3) (mMT mMe200) (mMC mMe200) (0, [some (.ref 53), some (sI ((a : Int))), some (sI ((t : Int)))], [], h) _
  refine sP 2 (g1 := (2, [some (.ref 53), some (sI ((a : Int))), some (sI ((t : Int)))], [sI ((a : Int)), .ref 53], h)) rfl ?_
  have ev1 := fIsPerson (sc := sc) (d := d + 1) (a := (a : Int)) hh (by unfold sR aMi aMa; omega)
  rw [if_pos (by omega)] at ev1
  refine s_call (k := 147) (args := [.ref 53, sI ((a : Int))]) (st := []) (v := some (sI 1)) (h1 := h) rfl ⟨rfl, rfl⟩ rfl rfl rfl rfl (sRcv hh (a := 53) rfl rfl) rfl ev1 ?_
  refine s_ifc (q := .eq) (a := 1) rfl ⟨_, rfl⟩ rfl (by unfold sR aMi aMa; omega) (fun hc2 => ?_) (fun hc2 => ?_)
  · have hc2 : (1 : Int) = 0 := hc2
    omega
  · have hc2 : ¬ ((1 : Int) = 0) := hc2
    refine sP 1 (g1 := (5, [some (.ref 53), some (sI ((a : Int))), some (sI ((t : Int)))], [sI ((t : Int))], h)) rfl ?_
    refine s_i2l (a := (t : Int)) rfl rfl (by unfold sR aMi aMa; omega) ?_
    refine sP 2 (g1 := (8, [some (.ref 53), some (sI ((a : Int))), some (sI ((t : Int)))], [sJ 9, sJ 0, sJ ((t : Int))], h)) rfl ?_
    have ev3 := fIn (sc := sc) (d := d + 2) (h := h) (a := (t : Int)) (b := 0) (e := 9) (by omega) (by omega) (by omega) (by omega) (by omega) (by omega)
    rw [if_pos (by omega)] at ev3
    refine s_call (k := 127) (args := [sJ ((t : Int)), sJ 0, sJ 9]) (st := []) (v := some (sI 1)) (h1 := h) rfl ⟨rfl, rfl⟩ rfl rfl rfl rfl rfl rfl ev3 ?_
    refine s_ifc (q := .eq) (a := 1) rfl ⟨_, rfl⟩ rfl (by unfold sR aMi aMa; omega) (fun hc4 => ?_) (fun hc4 => ?_)
    · have hc4 : (1 : Int) = 0 := hc4
      omega
    · have hc4 : ¬ ((1 : Int) = 0) := hc4
      refine sP 3 (g1 := (13, [some (.ref 53), some (sI ((a : Int))), some (sI ((t : Int)))], [sI ((t : Int)), sI ((a : Int)), .ref 53], h)) rfl ?_
      refine s_call (k := 201) (args := [.ref 53, sI ((a : Int)), sI ((t : Int))]) (st := []) (v := some (sI (((kn (fun j => hI h 58 (7 + j)) n a t : Nat) : Int)))) (h1 := h) rfl ⟨rfl, rfl⟩ rfl rfl rfl rfl (sRcv hh (a := 53) rfl rfl) rfl ev ?_
      refine sP 1 (g1 := (16, [some (.ref 53), some (sI ((a : Int))), some (sI ((t : Int)))], [sI (((kn (fun j => hI h 58 (7 + j)) n a t : Nat) : Int))], h)) rfl ?_
      exact s_reti rfl rfl (Or.inl rfl) rfl rfl
end KNOWS
theorem nR_kn {h g : mH} {n a i : Nat} (hr : nR h g) (hn : hI h 3 3 = (n : Int)) : kn (fun j => hI g 58 (7 + j)) n a i = kn (hI h 5) n a i := kn_cg (fun a b ha hb => ((hr.2.2.2.1 a (by omega)).2 b (by omega)).symm) i
theorem wKnows {sc : List Int32} {h : mH} (x y : Int32) (hp : wP h) : ∃ z1 h1 z2 h2, nEv sc 100 97 (.ref 0 :: [x, y].map Value.int) h (some (.int z1), h1) ∧ aHp h1 ∧ nEv sc 100 200 (.ref 53 :: [x, y].map Value.int) h1 (some (.int z2), h2) ∧ wP h2 ∧ z2 = z1 := by
  have hh := wP_a h hp
  have rx : sR x.toInt := aI_rg x
  have ry : sR y.toInt := aI_rg y
  have e3 : hI h 3 3 = hI h 58 0 := hp.2.1.1
  have gp := hI_rg hh xw_p
  obtain ⟨n, en⟩ := iN gp.1
  by_cases c1 : 0 ≤ x.toInt ∧ x.toInt < hI h 3 3
  · by_cases c2 : 0 ≤ y.toInt ∧ y.toInt ≤ 9
    · obtain ⟨a, ea⟩ := iN c1.1
      obtain ⟨t, et⟩ := iN c2.1
      refine pair2e (by rw [ea, et]; exact fKnowsX (d := 96) hh en (by omega) (by omega)) hh (by rw [ea, et]; exact fKnowsM (d := 96) (n := n) hh (by omega) (by omega) (by omega)) hp ?_
      rw [nR_kn hp.2.1 en]
    · exact pair2e (fKnowsXb1 (d := 96) hh rx ry ⟨c1, c2⟩) hh (fKnowsMb1 (d := 96) hh rx ry ⟨by omega, c2⟩) hp rfl
  · exact pair2e (fKnowsXb0 (d := 96) hh rx ry c1) hh (fKnowsMb0 (d := 96) hh rx ry (by omega)) hp rfl
