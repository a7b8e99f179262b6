/-! what is told of one of people -/
section ABOUT
variable {sc : List Int32} {d : Nat} {h : mH}
theorem s_lez {rt : Option FieldType} {cs : List mE} {i : Nat} {L : mL} {st : List Value} {r : mR} {en en1 : mE} {x : Int64} {j : Nat} (he : cs[i]? = some en) (ho : en.2.1 = .lcmp) (he1 : cs[i + 1]? = some en1) (ho1 : ∃ z, en1.2.1 = .ifCond .eq z) (hj : mTgt en1 0 = j) (hT : x = 0 → nRn sc d rt cs (j, L, st, h) r) (hF : x ≠ 0 → nRn sc d rt cs (i + 2, L, st, h) r) : nRn sc d rt cs (i, L, .long (Int64.ofInt 0) :: .long x :: st, h) r := by
  refine sStep (g1 := (i + 1, L, .int (lg_cmp x (Int64.ofInt 0)) :: st, h)) he (by unfold nCl; rw [ho]; intro q; cases q) (fun call => mStep_B2 (by unfold mB2; rw [ho])) ?_
  obtain ⟨z, ho1⟩ := ho1
  have e0 : (Int64.ofInt 0) = (0 : Int64) := rfl
  have hq : mC2 .eq (lg_cmp x (Int64.ofInt 0)) 0 = true ↔ x = 0 := by
    rw [e0]
    unfold lg_cmp
    show decide (_ = (0 : Int32)) = true ↔ _
    rw [decide_eq_true_eq]
    split
    · rename_i q
      exact ⟨fun w => absurd w (by decide), fun w => by rw [w] at q; exact absurd q (by decide)⟩
    · split
      · rename_i q
        exact ⟨fun _ => q, fun _ => rfl⟩
      · rename_i q
        exact ⟨fun w => absurd w (by decide), fun w => absurd w q⟩
  by_cases hc : x = 0
  · refine sStep he1 (by unfold nCl; rw [ho1]; intro q; cases q) (fun call => mStep_B3 (g := (j, L, st, h)) ?_) (hT hc)
    unfold mB3
    rw [ho1]
    dsimp only
    unfold mIf
    rw [if_pos (hq.mpr hc), hj]
  · refine sStep he1 (by unfold nCl; rw [ho1]; intro q; cases q) (fun call => mStep_B3 (g := (i + 2, L, st, h)) ?_) (hF hc)
    unfold mB3
    rw [ho1]
    dsimp only
    unfold mIf
    rw [if_neg (fun e => hc (hq.mp e))]
/-- treaties of one, by bits -/
def trX (t : Int64) (a b : Nat) : Bool := decide (b ≠ a) && tb t (pI a b)
theorem fTrXL {n a : Nat} (hh : aHp h) (hn : hI h 3 3 = n) (ha : a < 6) : ∀ (c k : Nat), k + c = n → nRn sc (d + 2) (mMT mMe45) (mMC mMe45) (4, [some (.ref 3), some (sI (a : Int)), some (sI ((cN (trX (hJ h 3 6) a) k : Nat) : Int)), some (sI (k : Int))], [], h) (some (sI ((cN (trX (hJ h 3 6) a) n : Nat) : Int)), h) := by
  have gp := hI_rg hh xw_p
  intro c
  induction c with
  | zero =>
    intro k hk
    have e : k = n := by omega
    subst e
    refine sP 2 (g1 := (6, [some (.ref 3), some (sI ((a : Int))), some (sI (((cN (trX (hJ h 3 6) a) k : Nat) : Int))), some (sI ((k : Int)))], [.ref 3, sI ((k : Int))], h)) rfl ?_
    refine s_get (a := 3) (j := 3) hh rfl ⟨_, rfl⟩ rfl rfl rfl (v := sI ((k : Int))) (by have q := hI_ok hh xw_p; rw [hn] at q; exact q) ?_
    refine s_icmp (q := .ge) (a := (k : Int)) (b := (k : Int)) rfl ⟨_, rfl⟩ rfl (by unfold sR aMi aMa; omega) (by unfold sR aMi aMa; omega) (fun hc1 => ?_) (fun hc1 => ?_)
    · have hc1 : (((k : Int)) : Int) ≤ ((k : Int)) := hc1
      refine sP 1 (g1 := (24, [some (.ref 3), some (sI ((a : Int))), some (sI (((cN (trX (hJ h 3 6) a) k : Nat) : Int))), some (sI ((k : Int)))], [sI (((cN (trX (hJ h 3 6) a) k : Nat) : Int))], h)) rfl ?_
      exact s_reti rfl rfl (Or.inl rfl) rfl rfl
    · have hc1 : ¬ ((((k : Int)) : Int) ≤ ((k : Int))) := hc1
      omega
  | succ c ih =>
    intro k hk
    have le := cN_le (f := (trX (hJ h 3 6) a)) k
    have r1 := ih (k + 1) (by omega)
    by_cases ck : k = a
    · have e0 : (trX (hJ h 3 6) a) k = false := by
        unfold trX
        rw [decide_eq_false (fun q => q ck), Bool.false_and]
      rw [cN_s0 e0] at r1
      refine sP 2 (g1 := (6, [some (.ref 3), some (sI ((a : Int))), some (sI (((cN (trX (hJ h 3 6) a) k : Nat) : Int))), some (sI ((k : Int)))], [.ref 3, sI ((k : Int))], h)) rfl ?_
      refine s_get (a := 3) (j := 3) hh rfl ⟨_, rfl⟩ rfl rfl rfl (v := sI ((n : Int))) (by have q := hI_ok hh xw_p; rw [hn] at q; exact q) ?_
      refine s_icmp (q := .ge) (a := (k : Int)) (b := (n : Int)) rfl ⟨_, rfl⟩ rfl (by unfold sR aMi aMa; omega) (by unfold sR aMi aMa; omega) (fun hc1 => ?_) (fun hc1 => ?_)
      · have hc1 : (((n : Int)) : Int) ≤ ((k : Int)) := hc1
        omega
      · have hc1 : ¬ ((((n : Int)) : Int) ≤ ((k : Int))) := hc1
        refine sP 2 (g1 := (10, [some (.ref 3), some (sI ((a : Int))), some (sI (((cN (trX (hJ h 3 6) a) k : Nat) : Int))), some (sI ((k : Int)))], [sI ((a : Int)), sI ((k : Int))], h)) rfl ?_
        refine s_icmp (q := .eq) (a := (k : Int)) (b := (a : Int)) rfl ⟨_, rfl⟩ rfl (by unfold sR aMi aMa; omega) (by unfold sR aMi aMa; omega) (fun hc2 => ?_) (fun hc2 => ?_)
        · have hc2 : (((k : Int)) : Int) = ((a : Int)) := hc2
          refine s_inc (a := (k : Int)) (n := 1) (k := 3) rfl rfl rfl ?_
          refine sP 1 (g1 := (4, [some (.ref 3), some (sI ((a : Int))), some (sI (((cN (trX (hJ h 3 6) a) k : Nat) : Int))), some (sI (((k : Int)) + 1))], [], h)) rfl ?_
          rw [show ((k : Int) + 1) = ((k + 1 : Nat) : Int) by omega]
          exact r1
        · have hc2 : ¬ ((((k : Int)) : Int) = ((a : Int))) := hc2
          omega
    · cases hb : tb (hJ h 3 6) (pI a k) with
      | true =>
        have e0 : (trX (hJ h 3 6) a) k = true := by
          unfold trX
          rw [decide_eq_true ck, Bool.true_and, hb]
        rw [cN_s1 e0] at r1
        have hz : hJ h 3 6 &&& pBt a k ≠ 0 := fun q => by rw [(tb_pB ha (by omega)).mp q] at hb; cases hb
        refine sP 2 (g1 := (6, [some (.ref 3), some (sI ((a : Int))), some (sI (((cN (trX (hJ h 3 6) a) k : Nat) : Int))), some (sI ((k : Int)))], [.ref 3, sI ((k : Int))], h)) rfl ?_
        refine s_get (a := 3) (j := 3) hh rfl ⟨_, rfl⟩ rfl rfl rfl (v := sI ((n : Int))) (by have q := hI_ok hh xw_p; rw [hn] at q; exact q) ?_
        refine s_icmp (q := .ge) (a := (k : Int)) (b := (n : Int)) rfl ⟨_, rfl⟩ rfl (by unfold sR aMi aMa; omega) (by unfold sR aMi aMa; omega) (fun hc1 => ?_) (fun hc1 => ?_)
        · have hc1 : (((n : Int)) : Int) ≤ ((k : Int)) := hc1
          omega
        · have hc1 : ¬ ((((n : Int)) : Int) ≤ ((k : Int))) := hc1
          refine sP 2 (g1 := (10, [some (.ref 3), some (sI ((a : Int))), some (sI (((cN (trX (hJ h 3 6) a) k : Nat) : Int))), some (sI ((k : Int)))], [sI ((a : Int)), sI ((k : Int))], h)) rfl ?_
          refine s_icmp (q := .eq) (a := (k : Int)) (b := (a : Int)) rfl ⟨_, rfl⟩ rfl (by unfold sR aMi aMa; omega) (by unfold sR aMi aMa; omega) (fun hc2 => ?_) (fun hc2 => ?_)
          · have hc2 : (((k : Int)) : Int) = ((a : Int)) := hc2
            omega
          · have hc2 : ¬ ((((k : Int)) : Int) = ((a : Int))) := hc2
            refine sP 1 (g1 := (12, [some (.ref 3), some (sI ((a : Int))), some (sI (((cN (trX (hJ h 3 6) a) k : Nat) : Int))), some (sI ((k : Int)))], [.ref 3], h)) rfl ?_
            refine s_get (a := 3) (j := 6) hh rfl ⟨_, rfl⟩ rfl rfl rfl (v := .long (hJ h 3 6)) (hJ_ok hh xw_t) ?_
            refine sP 2 (g1 := (15, [some (.ref 3), some (sI ((a : Int))), some (sI (((cN (trX (hJ h 3 6) a) k : Nat) : Int))), some (sI ((k : Int)))], [sI ((k : Int)), sI ((a : Int)), .long (hJ h 3 6)], h)) rfl ?_
            refine s_call (k := 46) (args := [sI ((a : Int)), sI ((k : Int))]) (st := [.long (hJ h 3 6)]) (v := some (.long (pBt a k))) (h1 := h) rfl ⟨rfl, rfl⟩ rfl rfl rfl rfl rfl rfl (fPairBit ha (by omega)) ?_
            refine s_b2 rfl rfl rfl ?_
            refine sP 1 (g1 := (18, [some (.ref 3), some (sI ((a : Int))), some (sI (((cN (trX (hJ h 3 6) a) k : Nat) : Int))), some (sI ((k : Int)))], [sJ 0, .long (hJ h 3 6 &&& pBt a k)], h)) rfl ?_
            refine s_lez (x := hJ h 3 6 &&& pBt a k) rfl rfl rfl ⟨_, rfl⟩ rfl (fun hq => ?_) (fun hq => ?_)
            · exact absurd hq hz
            · skip
              refine s_inc (a := ((cN (trX (hJ h 3 6) a) k : Nat) : Int)) (n := 1) (k := 2) rfl rfl rfl ?_
              refine s_inc (a := (k : Int)) (n := 1) (k := 3) rfl rfl rfl ?_
              refine sP 1 (g1 := (4, [some (.ref 3), some (sI ((a : Int))), some (sI ((((cN (trX (hJ h 3 6) a) k : Nat) : Int)) + 1)), some (sI (((k : Int)) + 1))], [], h)) rfl ?_
              rw [show ((((cN (trX (hJ h 3 6) a) k : Nat) : Int)) + 1 : Int) = ((cN (trX (hJ h 3 6) a) k + 1 : Nat) : Int) by omega]
              rw [show ((k : Int) + 1) = ((k + 1 : Nat) : Int) by omega]
              exact r1
      | false =>
        have e0 : (trX (hJ h 3 6) a) k = false := by
          unfold trX
          rw [decide_eq_true ck, Bool.true_and, hb]
        rw [cN_s0 e0] at r1
        have hz : hJ h 3 6 &&& pBt a k = 0 := (tb_pB ha (by omega)).mpr hb
        refine sP 2 (g1 := (6, [some (.ref 3), some (sI ((a : Int))), some (sI (((cN (trX (hJ h 3 6) a) k : Nat) : Int))), some (sI ((k : Int)))], [.ref 3, sI ((k : Int))], h)) rfl ?_
        refine s_get (a := 3) (j := 3) hh rfl ⟨_, rfl⟩ rfl rfl rfl (v := sI ((n : Int))) (by have q := hI_ok hh xw_p; rw [hn] at q; exact q) ?_
        refine s_icmp (q := .ge) (a := (k : Int)) (b := (n : Int)) rfl ⟨_, rfl⟩ rfl (by unfold sR aMi aMa; omega) (by unfold sR aMi aMa; omega) (fun hc1 => ?_) (fun hc1 => ?_)
        · have hc1 : (((n : Int)) : Int) ≤ ((k : Int)) := hc1
          omega
        · have hc1 : ¬ ((((n : Int)) : Int) ≤ ((k : Int))) := hc1
          refine sP 2 (g1 := (10, [some (.ref 3), some (sI ((a : Int))), some (sI (((cN (trX (hJ h 3 6) a) k : Nat) : Int))), some (sI ((k : Int)))], [sI ((a : Int)), sI ((k : Int))], h)) rfl ?_
          refine s_icmp (q := .eq) (a := (k : Int)) (b := (a : Int)) rfl ⟨_, rfl⟩ rfl (by unfold sR aMi aMa; omega) (by unfold sR aMi aMa; omega) (fun hc2 => ?_) (fun hc2 => ?_)
          · have hc2 : (((k : Int)) : Int) = ((a : Int)) := hc2
            omega
          · have hc2 : ¬ ((((k : Int)) : Int) = ((a : Int))) := hc2
            refine sP 1 (g1 := (12, [some (.ref 3), some (sI ((a : Int))), some (sI (((cN (trX (hJ h 3 6) a) k : Nat) : Int))), some (sI ((k : Int)))], [.ref 3], h)) rfl ?_
            refine s_get (a := 3) (j := 6) hh rfl ⟨_, rfl⟩ rfl rfl rfl (v := .long (hJ h 3 6)) (hJ_ok hh xw_t) ?_
            refine sP 2 (g1 := (15, [some (.ref 3), some (sI ((a : Int))), some (sI (((cN (trX (hJ h 3 6) a) k : Nat) : Int))), some (sI ((k : Int)))], [sI ((k : Int)), sI ((a : Int)), .long (hJ h 3 6)], h)) rfl ?_
            refine s_call (k := 46) (args := [sI ((a : Int)), sI ((k : Int))]) (st := [.long (hJ h 3 6)]) (v := some (.long (pBt a k))) (h1 := h) rfl ⟨rfl, rfl⟩ rfl rfl rfl rfl rfl rfl (fPairBit ha (by omega)) ?_
            refine s_b2 rfl rfl rfl ?_
            refine sP 1 (g1 := (18, [some (.ref 3), some (sI ((a : Int))), some (sI (((cN (trX (hJ h 3 6) a) k : Nat) : Int))), some (sI ((k : Int)))], [sJ 0, .long (hJ h 3 6 &&& pBt a k)], h)) rfl ?_
            refine s_lez (x := hJ h 3 6 &&& pBt a k) rfl rfl rfl ⟨_, rfl⟩ rfl (fun hq => ?_) (fun hq => ?_)
            · skip
              refine s_inc (a := (k : Int)) (n := 1) (k := 3) rfl rfl rfl ?_
              refine sP 1 (g1 := (4, [some (.ref 3), some (sI ((a : Int))), some (sI (((cN (trX (hJ h 3 6) a) k : Nat) : Int))), some (sI (((k : Int)) + 1))], [], h)) rfl ?_
              rw [show ((k : Int) + 1) = ((k + 1 : Nat) : Int) by omega]
              exact r1
            · exact absurd hz hq
theorem fTrX {n a : Nat} (hh : aHp h) (hn : hI h 3 3 = n) (ha : a < 6) : nEv sc (d + 3) 45 [.ref 3, sI (a : Int)] h (some (sI ((cN (trX (hJ h 3 6) a) n : Nat) : Int)), h) := by
  have r1 := fTrXL (sc := sc) (d := d) hh hn ha n 0 (by omega)
  refine nEv_of (t := mMe45) rfl ?_
  show nRn sc (d + 2) (mMT mMe45) (mMC mMe45) (0, [some (.ref 3), some (sI ((a : Int))), none, none], [], h) _
  refine sP 4 (g1 := (4, [some (.ref 3), some (sI ((a : Int))), some (sI 0), some (sI 0)], [], h)) rfl ?_
  exact r1
/-- what is told of one, in the class and in the reference -/
def aX9 (h : mH) (n a : Nat) : Nat → Int
  | 0 => hI h 4 a
  | 1 => if bt (hI h 3 4).toNat a = true then 1 else 0
  | 2 => sX h n a (hI h 3 4).toNat
  | 3 => ((cN (trX (hJ h 3 6) a) n : Nat) : Int)
  | _ => ((uB (hI h 5) a n : Nat) : Int)
def aM9 (h : mH) (n a : Nat) : Nat → Int
  | 0 => hI h 58 (1 + a)
  | 1 => if bt (hI h 58 43).toNat a = true then 1 else 0
  | 2 => sM h n a (hI h 58 43).toNat
  | 3 => yB (fun j => hI h 58 (44 + j)) a 6
  | _ => ((uB (fun j => hI h 58 (7 + j)) a n : Nat) : Int)
theorem fAb0 {n a : Nat} (hh : aHp h) (hn : hI h 3 3 = n) (ha : a < 6) : nEv sc (d + 5) 36 [.ref 3, sI (a : Int), sI 0] h (some (sI (aX9 h n a 0)), h) := by
  refine nEv_of (t := mMe36) rfl ?_
  show nRn sc (d + 4) (mMT mMe36) (mMC mMe36) (0, [some (.ref 3), some (sI ((a : Int))), some (sI 0)], [], h) _
  refine sP 1 (g1 := (1, [some (.ref 3), some (sI ((a : Int))), some (sI 0)], [sI 0], h)) rfl ?_
  refine s_tsw (k := 0) rfl ⟨_, _, _, _, rfl⟩ (by unfold sR aMi aMa; omega) rfl ?_
  refine sP 1 (g1 := (3, [some (.ref 3), some (sI ((a : Int))), some (sI 0)], [.ref 3], h)) rfl ?_
  refine s_get (a := 3) (j := 0) hh rfl ⟨_, rfl⟩ rfl rfl rfl (v := .ref 4) (hR_ok hh (by decide +kernel)) ?_
  refine sP 1 (g1 := (5, [some (.ref 3), some (sI ((a : Int))), some (sI 0)], [sI ((a : Int)), .ref 4], h)) rfl ?_
  refine s_iald (a := 4) (n := 6) (j := (a : Int)) hh rfl rfl rfl (by omega) (by omega) (by decide) (v := sI (hI h 4 a)) (by rw [Int.toNat_natCast]; exact hI_ok hh (xw_k ha)) ?_
  exact s_reti rfl rfl (Or.inl rfl) rfl rfl
theorem fAb1 {n a : Nat} (hh : aHp h) (hn : hI h 3 3 = n) (ha : a < 6) : nEv sc (d + 5) 36 [.ref 3, sI (a : Int), sI 1] h (some (sI (aX9 h n a 1)), h) := by
  have gs := hI_rg hh xw_u
  obtain ⟨s, hs⟩ := iN gs.1
  have hs6 : s < 64 := by omega
  show nEv sc (d + 5) 36 [.ref 3, sI (a : Int), sI 1] h (some (sI (if bt (hI h 3 4).toNat a = true then 1 else 0)), h)
  rw [hs, Int.toNat_natCast]
  have hq : s / 2 ^ a < 64 := Nat.lt_of_le_of_lt (Nat.div_le_self s (2 ^ a)) hs6
  have hm : s / 2 ^ a % 2 < 2 := Nat.mod_lt _ (by decide)
  refine nEv_of (t := mMe36) rfl ?_
  show nRn sc (d + 4) (mMT mMe36) (mMC mMe36) (0, [some (.ref 3), some (sI ((a : Int))), some (sI 1)], [], h) _
  refine sP 1 (g1 := (1, [some (.ref 3), some (sI ((a : Int))), some (sI 1)], [sI 1], h)) rfl ?_
  refine s_tsw (k := 1) rfl ⟨_, _, _, _, rfl⟩ (by unfold sR aMi aMa; omega) rfl ?_
  refine sP 1 (g1 := (8, [some (.ref 3), some (sI ((a : Int))), some (sI 1)], [.ref 3], h)) rfl ?_
  refine s_get (a := 3) (j := 4) hh rfl ⟨_, rfl⟩ rfl rfl rfl (v := sI ((s : Int))) (by have q := hI_ok hh xw_u; rw [hs] at q; exact q) ?_
  refine sP 1 (g1 := (10, [some (.ref 3), some (sI ((a : Int))), some (sI 1)], [sI ((a : Int)), sI ((s : Int))], h)) rfl ?_
  refine s_shr (s := s) (a := a) rfl rfl hs6 ha ?_
  refine sP 1 (g1 := (12, [some (.ref 3), some (sI ((a : Int))), some (sI 1)], [sI 1, sI (((s / 2 ^ a : Nat) : Int))], h)) rfl ?_
  refine s_and1 (s := s / 2 ^ a) rfl rfl hq ?_
  exact s_reti rfl rfl (Or.inl rfl) (by
    unfold bt
    by_cases w : s / 2 ^ a % 2 = 1
    · rw [if_pos (decide_eq_true w)]
      omega
    · rw [if_neg (by rw [decide_eq_false w]; decide)]
      omega) rfl
theorem fAb2 {n a : Nat} (hh : aHp h) (hn : hI h 3 3 = n) (ha : a < 6) : nEv sc (d + 5) 36 [.ref 3, sI (a : Int), sI 2] h (some (sI (aX9 h n a 2)), h) := by
  have gs := hI_rg hh xw_u
  obtain ⟨s, hs⟩ := iN gs.1
  have hs6 : s < 64 := by omega
  show nEv sc (d + 5) 36 [.ref 3, sI (a : Int), sI 2] h (some (sI (sX h n a (hI h 3 4).toNat)), h)
  rw [hs, Int.toNat_natCast]
  have hq : s / 2 ^ a < 64 := Nat.lt_of_le_of_lt (Nat.div_le_self s (2 ^ a)) hs6
  have hm : s / 2 ^ a % 2 < 2 := Nat.mod_lt _ (by decide)
  refine nEv_of (t := mMe36) rfl ?_
  show nRn sc (d + 4) (mMT mMe36) (mMC mMe36) (0, [some (.ref 3), some (sI ((a : Int))), some (sI 2)], [], h) _
  refine sP 1 (g1 := (1, [some (.ref 3), some (sI ((a : Int))), some (sI 2)], [sI 2], h)) rfl ?_
  refine s_tsw (k := 2) rfl ⟨_, _, _, _, rfl⟩ (by unfold sR aMi aMa; omega) rfl ?_
  refine sP 3 (g1 := (17, [some (.ref 3), some (sI ((a : Int))), some (sI 2)], [.ref 3, sI ((a : Int)), .ref 3], h)) rfl ?_
  refine s_get (a := 3) (j := 4) hh rfl ⟨_, rfl⟩ rfl rfl rfl (v := sI ((s : Int))) (by have q := hI_ok hh xw_u; rw [hs] at q; exact q) ?_
  refine s_call (k := 37) (args := [.ref 3, sI ((a : Int)), sI ((s : Int))]) (st := []) (v := some (sI (sX h n a s))) (h1 := h) rfl ⟨rfl, rfl⟩ rfl rfl rfl rfl (sRcv hh (a := 3) rfl rfl) rfl (fSeemK hh hn ha hs6) ?_
  exact s_reti rfl rfl (Or.inl rfl) rfl rfl
theorem fAb3 {n a : Nat} (hh : aHp h) (hn : hI h 3 3 = n) (ha : a < 6) : nEv sc (d + 5) 36 [.ref 3, sI (a : Int), sI 3] h (some (sI (aX9 h n a 3)), h) := by
  refine nEv_of (t := mMe36) rfl ?_
  show nRn sc (d + 4) (mMT mMe36) (mMC mMe36) (0, [some (.ref 3), some (sI ((a : Int))), some (sI 3)], [], h) _
  refine sP 1 (g1 := (1, [some (.ref 3), some (sI ((a : Int))), some (sI 3)], [sI 3], h)) rfl ?_
  refine s_tsw (k := 3) rfl ⟨_, _, _, _, rfl⟩ (by unfold sR aMi aMa; omega) rfl ?_
  refine sP 2 (g1 := (22, [some (.ref 3), some (sI ((a : Int))), some (sI 3)], [sI ((a : Int)), .ref 3], h)) rfl ?_
  refine s_call (k := 45) (args := [.ref 3, sI ((a : Int))]) (st := []) (v := some (sI (((cN (trX (hJ h 3 6) a) n : Nat) : Int)))) (h1 := h) rfl ⟨rfl, rfl⟩ rfl rfl rfl rfl (sRcv hh (a := 3) rfl rfl) rfl (fTrX hh hn ha) ?_
  exact s_reti rfl rfl (Or.inl rfl) rfl rfl
theorem fAb4 {n a : Nat} (hh : aHp h) (hn : hI h 3 3 = n) (ha : a < 6) : nEv sc (d + 5) 36 [.ref 3, sI (a : Int), sI 4] h (some (sI (aX9 h n a 4)), h) := by
  refine nEv_of (t := mMe36) rfl ?_
  show nRn sc (d + 4) (mMT mMe36) (mMC mMe36) (0, [some (.ref 3), some (sI ((a : Int))), some (sI 4)], [], h) _
  refine sP 1 (g1 := (1, [some (.ref 3), some (sI ((a : Int))), some (sI 4)], [sI 4], h)) rfl ?_
  refine s_tsw (k := 4) rfl ⟨_, _, _, _, rfl⟩ (by unfold sR aMi aMa; omega) rfl ?_
  refine sP 2 (g1 := (26, [some (.ref 3), some (sI ((a : Int))), some (sI 4)], [sI ((a : Int)), .ref 3], h)) rfl ?_
  refine s_call (k := 47) (args := [.ref 3, sI ((a : Int))]) (st := []) (v := some (sI (((uB (hI h 5) a n : Nat) : Int)))) (h1 := h) rfl ⟨rfl, rfl⟩ rfl rfl rfl rfl (sRcv hh (a := 3) rfl rfl) rfl (fUnmadeBy hh hn ha) ?_
  exact s_reti rfl rfl (Or.inl rfl) rfl rfl
theorem fAb {n a k : Nat} (hh : aHp h) (hn : hI h 3 3 = n) (ha : a < 6) (hk : k < 5) : nEv sc (d + 5) 36 [.ref 3, sI (a : Int), sI (k : Int)] h (some (sI (aX9 h n a k)), h) := by
  match k, hk with
  | 0, _ => exact fAb0 hh hn ha
  | 1, _ => exact fAb1 hh hn ha
  | 2, _ => exact fAb2 hh hn ha
  | 3, _ => exact fAb3 hh hn ha
  | 4, _ => exact fAb4 hh hn ha
theorem fTd0 {n a : Nat} (hh : aHp h) (hn : hI h 58 0 = n) (ha : a < 6) : nEv sc (d + 5) 148 [.ref 53, sI (a : Int), sI 0] h (some (sI (aM9 h n a 0)), h) := by
  refine nEv_of (t := mMe148) rfl ?_
  show nRn sc (d + 4) (mMT mMe148) (mMC mMe148) (0, [some (.ref 53), some (sI ((a : Int))), some (sI 0)], [], h) _
  refine sP 1 (g1 := (1, [some (.ref 53), some (sI ((a : Int))), some (sI 0)], [sI 0], h)) rfl ?_
  refine s_tsw (k := 0) rfl ⟨_, _, _, _, rfl⟩ (by unfold sR aMi aMa; omega) rfl ?_
  refine sP 1 (g1 := (3, [some (.ref 53), some (sI ((a : Int))), some (sI 0)], [.ref 53], h)) rfl ?_
  refine s_get (a := 53) (j := 4) hh rfl ⟨_, rfl⟩ rfl rfl rfl (v := .ref 58) (hR_ok hh (by decide +kernel)) ?_
  refine sP 2 (g1 := (6, [some (.ref 53), some (sI ((a : Int))), some (sI 0)], [sI ((a : Int)), sI 1, .ref 58], h)) rfl ?_
  refine s_add (a := 1) (b := (a : Int)) rfl rfl ?_
  refine s_iald (a := 58) (n := 201) (j := 1 + ((a : Int))) hh rfl rfl rfl (by omega) (by omega) (by decide) (v := sI (hI h 58 (1 + a))) (by rw [show (1 + ((a : Int)) : Int).toNat = 1 + a by omega]; exact hI_ok hh (nw_kd ha)) ?_
  exact s_reti rfl rfl (Or.inl rfl) rfl rfl
theorem fTd1 {n a : Nat} (hh : aHp h) (hn : hI h 58 0 = n) (ha : a < 6) : nEv sc (d + 5) 148 [.ref 53, sI (a : Int), sI 1] h (some (sI (aM9 h n a 1)), h) := by
  have gs := hI_rg hh nw_u
  obtain ⟨s, hs⟩ := iN gs.1
  have hs6 : s < 64 := by omega
  show nEv sc (d + 5) 148 [.ref 53, sI (a : Int), sI 1] h (some (sI (if bt (hI h 58 43).toNat a = true then 1 else 0)), h)
  rw [hs, Int.toNat_natCast]
  have ev := fHas (sc := sc) (d := d + 3) (h := h) hs6 ha
  have e1 : (if bt s a = true then (1 : Int) else 0) = 0 ∨ (if bt s a = true then (1 : Int) else 0) = 1 := by
    split
    · exact Or.inr rfl
    · exact Or.inl rfl
  generalize (if bt s a = true then (1 : Int) else 0) = z at *
  refine nEv_of (t := mMe148) rfl ?_
  show nRn sc (d + 4) (mMT mMe148) (mMC mMe148) (0, [some (.ref 53), some (sI ((a : Int))), some (sI 1)], [], h) _
  refine sP 1 (g1 := (1, [some (.ref 53), some (sI ((a : Int))), some (sI 1)], [sI 1], h)) rfl ?_
  refine s_tsw (k := 1) rfl ⟨_, _, _, _, rfl⟩ (by unfold sR aMi aMa; omega) rfl ?_
  refine sP 1 (g1 := (10, [some (.ref 53), some (sI ((a : Int))), some (sI 1)], [.ref 53], h)) rfl ?_
  refine s_get (a := 53) (j := 4) hh rfl ⟨_, rfl⟩ rfl rfl rfl (v := .ref 58) (hR_ok hh (by decide +kernel)) ?_
  refine sP 1 (g1 := (12, [some (.ref 53), some (sI ((a : Int))), some (sI 1)], [sI 43, .ref 58], h)) rfl ?_
  refine s_iald (a := 58) (n := 201) (j := 43) hh rfl rfl rfl (by omega) (by omega) (by decide) (v := sI ((s : Int))) (by have q := hI_ok hh nw_u; rw [hs] at q; exact q) ?_
  refine sP 1 (g1 := (14, [some (.ref 53), some (sI ((a : Int))), some (sI 1)], [sI ((a : Int)), sI ((s : Int))], h)) rfl ?_
  refine s_call (k := 149) (args := [sI ((s : Int)), sI ((a : Int))]) (st := []) (v := some (sI z)) (h1 := h) rfl ⟨rfl, rfl⟩ rfl rfl rfl rfl rfl rfl ev ?_
  refine s_ifc (q := .eq) (a := z) rfl ⟨_, rfl⟩ rfl (by unfold sR aMi aMa; omega) (fun hc1 => ?_) (fun hc1 => ?_)
  · have hc1 : (z : Int) = 0 := hc1
    refine sP 1 (g1 := (19, [some (.ref 53), some (sI ((a : Int))), some (sI 1)], [sI 0], h)) rfl ?_
    exact s_reti rfl rfl (Or.inl rfl) (by omega) rfl
  · have hc1 : ¬ ((z : Int) = 0) := hc1
    refine sP 2 (g1 := (19, [some (.ref 53), some (sI ((a : Int))), some (sI 1)], [sI 1], h)) rfl ?_
    exact s_reti rfl rfl (Or.inl rfl) (by omega) rfl
theorem fTd2 {n a : Nat} (hh : aHp h) (hn : hI h 58 0 = n) (ha : a < 6) : nEv sc (d + 5) 148 [.ref 53, sI (a : Int), sI 2] h (some (sI (aM9 h n a 2)), h) := by
  have gs := hI_rg hh nw_u
  obtain ⟨s, hs⟩ := iN gs.1
  have hs6 : s < 64 := by omega
  show nEv sc (d + 5) 148 [.ref 53, sI (a : Int), sI 2] h (some (sI (sM h n a (hI h 58 43).toNat)), h)
  rw [hs, Int.toNat_natCast]
  refine nEv_of (t := mMe148) rfl ?_
  show nRn sc (d + 4) (mMT mMe148) (mMC mMe148) (0, [some (.ref 53), some (sI ((a : Int))), some (sI 2)], [], h) _
  refine sP 1 (g1 := (1, [some (.ref 53), some (sI ((a : Int))), some (sI 2)], [sI 2], h)) rfl ?_
  refine s_tsw (k := 2) rfl ⟨_, _, _, _, rfl⟩ (by unfold sR aMi aMa; omega) rfl ?_
  refine sP 3 (g1 := (23, [some (.ref 53), some (sI ((a : Int))), some (sI 2)], [.ref 53, sI ((a : Int)), .ref 53], h)) rfl ?_
  refine s_get (a := 53) (j := 4) hh rfl ⟨_, rfl⟩ rfl rfl rfl (v := .ref 58) (hR_ok hh (by decide +kernel)) ?_
  refine sP 1 (g1 := (25, [some (.ref 53), some (sI ((a : Int))), some (sI 2)], [sI 43, .ref 58, sI ((a : Int)), .ref 53], h)) rfl ?_
  refine s_iald (a := 58) (n := 201) (j := 43) hh rfl rfl rfl (by omega) (by omega) (by decide) (v := sI ((s : Int))) (by have q := hI_ok hh nw_u; rw [hs] at q; exact q) ?_
  refine s_call (k := 150) (args := [.ref 53, sI ((a : Int)), sI ((s : Int))]) (st := []) (v := some (sI (sM h n a s))) (h1 := h) rfl ⟨rfl, rfl⟩ rfl rfl rfl rfl (sRcv hh (a := 53) rfl rfl) rfl (fSeemKM hh hn ha hs6) ?_
  exact s_reti rfl rfl (Or.inl rfl) rfl rfl
theorem fTd3 {n a : Nat} (hh : aHp h) (hn : hI h 58 0 = n) (ha : a < 6) : nEv sc (d + 5) 148 [.ref 53, sI (a : Int), sI 3] h (some (sI (aM9 h n a 3)), h) := by
  refine nEv_of (t := mMe148) rfl ?_
  show nRn sc (d + 4) (mMT mMe148) (mMC mMe148) (0, [some (.ref 53), some (sI ((a : Int))), some (sI 3)], [], h) _
  refine sP 1 (g1 := (1, [some (.ref 53), some (sI ((a : Int))), some (sI 3)], [sI 3], h)) rfl ?_
  refine s_tsw (k := 3) rfl ⟨_, _, _, _, rfl⟩ (by unfold sR aMi aMa; omega) rfl ?_
  refine sP 2 (g1 := (30, [some (.ref 53), some (sI ((a : Int))), some (sI 3)], [sI ((a : Int)), .ref 53], h)) rfl ?_
  refine s_call (k := 154) (args := [.ref 53, sI ((a : Int))]) (st := []) (v := some (sI (yB (fun j => hI h 58 (44 + j)) a 6))) (h1 := h) rfl ⟨rfl, rfl⟩ rfl rfl rfl rfl (sRcv hh (a := 53) rfl rfl) rfl (fTrOf hh ha) ?_
  exact s_reti rfl rfl (Or.inl rfl) rfl rfl
theorem fTd4 {n a : Nat} (hh : aHp h) (hn : hI h 58 0 = n) (ha : a < 6) : nEv sc (d + 5) 148 [.ref 53, sI (a : Int), sI 4] h (some (sI (aM9 h n a 4)), h) := by
  refine nEv_of (t := mMe148) rfl ?_
  show nRn sc (d + 4) (mMT mMe148) (mMC mMe148) (0, [some (.ref 53), some (sI ((a : Int))), some (sI 4)], [], h) _
  refine sP 1 (g1 := (1, [some (.ref 53), some (sI ((a : Int))), some (sI 4)], [sI 4], h)) rfl ?_
  refine s_tsw (k := 4) rfl ⟨_, _, _, _, rfl⟩ (by unfold sR aMi aMa; omega) rfl ?_
  refine sP 2 (g1 := (34, [some (.ref 53), some (sI ((a : Int))), some (sI 4)], [sI ((a : Int)), .ref 53], h)) rfl ?_
  refine s_call (k := 155) (args := [.ref 53, sI ((a : Int))]) (st := []) (v := some (sI (((uB (fun j => hI h 58 (7 + j)) a n : Nat) : Int)))) (h1 := h) rfl ⟨rfl, rfl⟩ rfl rfl rfl rfl (sRcv hh (a := 53) rfl rfl) rfl (fUnmetBy hh hn ha) ?_
  exact s_reti rfl rfl (Or.inl rfl) rfl rfl
theorem fTd {n a k : Nat} (hh : aHp h) (hn : hI h 58 0 = n) (ha : a < 6) (hk : k < 5) : nEv sc (d + 5) 148 [.ref 53, sI (a : Int), sI (k : Int)] h (some (sI (aM9 h n a k)), h) := by
  match k, hk with
  | 0, _ => exact fTd0 hh hn ha
  | 1, _ => exact fTd1 hh hn ha
  | 2, _ => exact fTd2 hh hn ha
  | 3, _ => exact fTd3 hh hn ha
  | 4, _ => exact fTd4 hh hn ha
end ABOUT
theorem yB_cN {f : Nat → Int} {t : Int64} {m : Int} {a : Nat} (ht : tR m t f) (ha : a < 6) : ∀ k, k ≤ 6 → yB f a k = ((cN (trX t a) k : Nat) : Int)
  | 0, _ => rfl
  | k + 1, hk => by
    show yB f a k + f (6 * a + k) = ((cN (trX t a) k + (if trX t a k = true then 1 else 0) : Nat) : Int)
    rw [yB_cN ht ha k (by omega), ht.1 a ha k (by omega)]
    by_cases c : a ≠ k ∧ tb t (pI a k) = true
    · have e : trX t a k = true := by
        unfold trX
        rw [decide_eq_true (show k ≠ a from fun q => c.1 q.symm), c.2]
        rfl
      rw [if_pos c, if_pos e]
      omega
    · have e : ¬ (trX t a k = true) := fun q => c (by
        unfold trX at q
        rw [Bool.and_eq_true, decide_eq_true_eq] at q
        exact ⟨fun w => q.1 w.symm, q.2⟩)
      rw [if_neg c, if_neg e]
      omega
theorem cN_up {f : Nat → Bool} {n : Nat} (h : ∀ k, n ≤ k → k < 6 → f k = false) : ∀ c, n + c ≤ 6 → cN f (n + c) = cN f n
  | 0, _ => rfl
  | c + 1, hc => by
    show cN f (n + c) + (if f (n + c) = true then 1 else 0) = _
    rw [if_neg (by rw [h (n + c) (by omega) (by omega)]; decide), cN_up h c (by omega), Nat.add_zero]
theorem trX_no {f : Nat → Int} {t : Int64} {n a : Nat} (ht : tR (n : Int) t f) (ha : a < 6) : ∀ k, n ≤ k → k < 6 → trX t a k = false := by
  intro k hk k6
  unfold trX
  cases hb : tb t (pI a k) with
  | false => rw [Bool.and_false]
  | true =>
    by_cases c : k = a
    · rw [decide_eq_false (fun q => q c), Bool.false_and]
    · exfalso
      obtain ⟨x, y, h1, h2, h3, h4⟩ := ht.2 _ hb
      have e : pI a k = pI x y := by
        rw [h3]
        unfold pI
        omega
      rcases pI_inj a ha k k6 x (by omega) y h2 e.symm with ⟨e1, e2⟩ | ⟨e1, e2⟩ <;> omega
theorem aXM {h : mH} {n a k : Nat} (hp : vP h) (hn : hI h 3 3 = (n : Int)) (ha : a < n) (hk : k < 5) : aM9 h n a k = aX9 h n a k := by
  have hh := vP_a h hp
  have g6 := hI_rg hh xw_p
  obtain ⟨a1, a2, a3, a4, a5, a6⟩ := hp.1.2.1
  have es : ∀ s, sM h n a s = sX h n a s := fun s => by
    unfold sM sX
    rw [← (a4 a (by omega)).1]
    exact nR_seem hp.1.2.1 hn ha
  match k, hk with
  | 0, _ => exact (a4 a (by omega)).1.symm
  | 1, _ =>
    show (if bt (hI h 58 43).toNat a = true then (1 : Int) else 0) = if bt (hI h 3 4).toNat a = true then 1 else 0
    rw [a2]
  | 2, _ =>
    show sM h n a (hI h 58 43).toNat = sX h n a (hI h 3 4).toNat
    rw [es, a2]
  | 3, _ =>
    show yB (fun j => hI h 58 (44 + j)) a 6 = ((cN (trX (hJ h 3 6) a) n : Nat) : Int)
    rw [hn] at a5
    have u := cN_up (trX_no a5 (show a < 6 by omega)) (6 - n) (by omega)
    rw [show n + (6 - n) = 6 by omega] at u
    rw [yB_cN a5 (by omega) 6 (Nat.le_refl _), u]
  | 4, _ =>
    show ((uB (fun j => hI h 58 (7 + j)) a n : Nat) : Int) = ((uB (hI h 5) a n : Nat) : Int)
    rw [uB_cg (G := hI h 5) (fun b hb => ((a4 a (by omega)).2 b (by omega)).symm) n (Nat.le_refl _)]
