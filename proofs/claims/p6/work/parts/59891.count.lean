/-! counting -/
section CNT
variable {sc : List Int32} {d : Nat} {h : mH}
theorem s_retz {rt : Option FieldType} {cs : List mE} {i : Nat} {L : mL} {en : mE} {x y : Int32} (he : cs[i]? = some en) (ho : en.2.1 = .ireturn) (hrt : rt = some .int) (hv : x = y) : nRn sc d rt cs (i, L, [.int x], h) (some (.int y), h) := by
  subst hv
  subst hrt
  refine s_ret he ?_
  unfold mRt
  rw [ho]
  dsimp only
  rw [if_pos (show narrow .int (.int x) = .int x from rfl)]
theorem s_u1 {rt : Option FieldType} {cs : List mE} {i : Nat} {L : mL} {st : List Value} {r : mR} {en : mE} {x : Int64} {z : Int32} (he : cs[i]? = some en) (hz : mB2 en i L (.long x :: st) h = some (i + 1, L, .int z :: st, h)) (hr : nRn sc d rt cs (i + 1, L, .int z :: st, h) r) : nRn sc d rt cs (i, L, .long x :: st, h) r :=
  sStep he (by have := nCl_B2 hz; omega) (fun call => mStep_B2 hz) hr
noncomputable def ibc1 (x : Int32) : Int32 := (x) - ((((x).toUInt32 >>> ((Int32.ofInt 1).toUInt32 &&& Int32.toUInt32 31)).toInt32) &&& (Int32.ofInt 1431655765))
noncomputable def ibc2 (x : Int32) : Int32 := ((x) &&& (Int32.ofInt 858993459)) + ((((x).toUInt32 >>> ((Int32.ofInt 2).toUInt32 &&& Int32.toUInt32 31)).toInt32) &&& (Int32.ofInt 858993459))
noncomputable def ibc3 (x : Int32) : Int32 := ((x) + (((x).toUInt32 >>> ((Int32.ofInt 4).toUInt32 &&& Int32.toUInt32 31)).toInt32)) &&& (Int32.ofInt 252645135)
noncomputable def ibc4 (x : Int32) : Int32 := (x) + (((x).toUInt32 >>> ((Int32.ofInt 8).toUInt32 &&& Int32.toUInt32 31)).toInt32)
noncomputable def ibc5 (x : Int32) : Int32 := (x) + (((x).toUInt32 >>> ((Int32.ofInt 16).toUInt32 &&& Int32.toUInt32 31)).toInt32)
noncomputable def ibc (x : Int32) : Int32 := (ibc5 (ibc4 (ibc3 (ibc2 (ibc1 x))))) &&& (Int32.ofInt 63)
theorem ibc_ok {x : Int32} : nEv sc (d + 1) 58 [.int x] h (some (.int (ibc x)), h) := by
  refine nEv_of (t := mMe58) rfl ?_
  show nRn sc d (mMT mMe58) (mMC mMe58) (0, [some (.int x)], [], h) _
  refine sP 3 (g1 := (3, [some (.int (x))], [.int (Int32.ofInt 1), .int (x), .int (x)], h)) rfl ?_
  refine s_b1 rfl rfl rfl ?_
  refine sP 1 (g1 := (5, [some (.int (x))], [.int (Int32.ofInt 1431655765), .int (((x).toUInt32 >>> ((Int32.ofInt 1).toUInt32 &&& Int32.toUInt32 31)).toInt32), .int (x)], h)) rfl ?_
  refine s_b1 rfl rfl rfl ?_
  refine s_b1 (w := ibc1 x) rfl rfl rfl ?_
  refine sP 3 (g1 := (10, [some (.int (ibc1 x))], [.int (Int32.ofInt 858993459), .int (ibc1 x)], h)) rfl ?_
  refine s_b1 rfl rfl rfl ?_
  refine sP 2 (g1 := (13, [some (.int (ibc1 x))], [.int (Int32.ofInt 2), .int (ibc1 x), .int ((ibc1 x) &&& (Int32.ofInt 858993459))], h)) rfl ?_
  refine s_b1 rfl rfl rfl ?_
  refine sP 1 (g1 := (15, [some (.int (ibc1 x))], [.int (Int32.ofInt 858993459), .int (((ibc1 x).toUInt32 >>> ((Int32.ofInt 2).toUInt32 &&& Int32.toUInt32 31)).toInt32), .int ((ibc1 x) &&& (Int32.ofInt 858993459))], h)) rfl ?_
  refine s_b1 rfl rfl rfl ?_
  refine s_b1 (w := ibc2 (ibc1 x)) rfl rfl rfl ?_
  refine sP 4 (g1 := (21, [some (.int (ibc2 (ibc1 x)))], [.int (Int32.ofInt 4), .int (ibc2 (ibc1 x)), .int (ibc2 (ibc1 x))], h)) rfl ?_
  refine s_b1 rfl rfl rfl ?_
  refine s_b1 rfl rfl rfl ?_
  refine sP 1 (g1 := (24, [some (.int (ibc2 (ibc1 x)))], [.int (Int32.ofInt 252645135), .int ((ibc2 (ibc1 x)) + (((ibc2 (ibc1 x)).toUInt32 >>> ((Int32.ofInt 4).toUInt32 &&& Int32.toUInt32 31)).toInt32))], h)) rfl ?_
  refine s_b1 (w := ibc3 (ibc2 (ibc1 x))) rfl rfl rfl ?_
  refine sP 4 (g1 := (29, [some (.int (ibc3 (ibc2 (ibc1 x))))], [.int (Int32.ofInt 8), .int (ibc3 (ibc2 (ibc1 x))), .int (ibc3 (ibc2 (ibc1 x)))], h)) rfl ?_
  refine s_b1 rfl rfl rfl ?_
  refine s_b1 (w := ibc4 (ibc3 (ibc2 (ibc1 x)))) rfl rfl rfl ?_
  refine sP 4 (g1 := (35, [some (.int (ibc4 (ibc3 (ibc2 (ibc1 x)))))], [.int (Int32.ofInt 16), .int (ibc4 (ibc3 (ibc2 (ibc1 x)))), .int (ibc4 (ibc3 (ibc2 (ibc1 x))))], h)) rfl ?_
  refine s_b1 rfl rfl rfl ?_
  refine s_b1 (w := ibc5 (ibc4 (ibc3 (ibc2 (ibc1 x))))) rfl rfl rfl ?_
  refine sP 3 (g1 := (40, [some (.int (ibc5 (ibc4 (ibc3 (ibc2 (ibc1 x))))))], [.int (Int32.ofInt 63), .int (ibc5 (ibc4 (ibc3 (ibc2 (ibc1 x)))))], h)) rfl ?_
  refine s_b1 rfl rfl rfl ?_
  exact s_retz rfl rfl rfl rfl
noncomputable def lbc1 (x : Int64) : Int64 := (x) - ((((x).toUInt64 >>> ((Int32.ofInt 1).toInt64.toUInt64 &&& Int64.toUInt64 63)).toInt64) &&& (Int64.ofInt 6148914691236517205))
noncomputable def lbc2 (x : Int64) : Int64 := ((x) &&& (Int64.ofInt 3689348814741910323)) + ((((x).toUInt64 >>> ((Int32.ofInt 2).toInt64.toUInt64 &&& Int64.toUInt64 63)).toInt64) &&& (Int64.ofInt 3689348814741910323))
noncomputable def lbc3 (x : Int64) : Int64 := ((x) + (((x).toUInt64 >>> ((Int32.ofInt 4).toInt64.toUInt64 &&& Int64.toUInt64 63)).toInt64)) &&& (Int64.ofInt 1085102592571150095)
noncomputable def lbc4 (x : Int64) : Int64 := (x) + (((x).toUInt64 >>> ((Int32.ofInt 8).toInt64.toUInt64 &&& Int64.toUInt64 63)).toInt64)
noncomputable def lbc5 (x : Int64) : Int64 := (x) + (((x).toUInt64 >>> ((Int32.ofInt 16).toInt64.toUInt64 &&& Int64.toUInt64 63)).toInt64)
noncomputable def lbc6 (x : Int64) : Int64 := (x) + (((x).toUInt64 >>> ((Int32.ofInt 32).toInt64.toUInt64 &&& Int64.toUInt64 63)).toInt64)
noncomputable def lbc (x : Int64) : Int32 := ((lbc6 (lbc5 (lbc4 (lbc3 (lbc2 (lbc1 x)))))).toInt32) &&& (Int32.ofInt 127)
theorem lbc_ok {x : Int64} : nEv sc (d + 1) 69 [.long x] h (some (.int (lbc x)), h) := by
  refine nEv_of (t := mMe69) rfl ?_
  show nRn sc d (mMT mMe69) (mMC mMe69) (0, [some (.long x), none], [], h) _
  refine sP 3 (g1 := (3, [some (.long (x)), none], [.int (Int32.ofInt 1), .long (x), .long (x)], h)) rfl ?_
  refine s_lsh rfl rfl ?_
  refine sP 1 (g1 := (5, [some (.long (x)), none], [.long (Int64.ofInt 6148914691236517205), .long (((x).toUInt64 >>> ((Int32.ofInt 1).toInt64.toUInt64 &&& Int64.toUInt64 63)).toInt64), .long (x)], h)) rfl ?_
  refine s_b2 rfl rfl rfl ?_
  refine s_b2 (w := lbc1 x) rfl rfl rfl ?_
  refine sP 3 (g1 := (10, [some (.long (lbc1 x)), none], [.long (Int64.ofInt 3689348814741910323), .long (lbc1 x)], h)) rfl ?_
  refine s_b2 rfl rfl rfl ?_
  refine sP 2 (g1 := (13, [some (.long (lbc1 x)), none], [.int (Int32.ofInt 2), .long (lbc1 x), .long ((lbc1 x) &&& (Int64.ofInt 3689348814741910323))], h)) rfl ?_
  refine s_lsh rfl rfl ?_
  refine sP 1 (g1 := (15, [some (.long (lbc1 x)), none], [.long (Int64.ofInt 3689348814741910323), .long (((lbc1 x).toUInt64 >>> ((Int32.ofInt 2).toInt64.toUInt64 &&& Int64.toUInt64 63)).toInt64), .long ((lbc1 x) &&& (Int64.ofInt 3689348814741910323))], h)) rfl ?_
  refine s_b2 rfl rfl rfl ?_
  refine s_b2 (w := lbc2 (lbc1 x)) rfl rfl rfl ?_
  refine sP 4 (g1 := (21, [some (.long (lbc2 (lbc1 x))), none], [.int (Int32.ofInt 4), .long (lbc2 (lbc1 x)), .long (lbc2 (lbc1 x))], h)) rfl ?_
  refine s_lsh rfl rfl ?_
  refine s_b2 rfl rfl rfl ?_
  refine sP 1 (g1 := (24, [some (.long (lbc2 (lbc1 x))), none], [.long (Int64.ofInt 1085102592571150095), .long ((lbc2 (lbc1 x)) + (((lbc2 (lbc1 x)).toUInt64 >>> ((Int32.ofInt 4).toInt64.toUInt64 &&& Int64.toUInt64 63)).toInt64))], h)) rfl ?_
  refine s_b2 (w := lbc3 (lbc2 (lbc1 x))) rfl rfl rfl ?_
  refine sP 4 (g1 := (29, [some (.long (lbc3 (lbc2 (lbc1 x)))), none], [.int (Int32.ofInt 8), .long (lbc3 (lbc2 (lbc1 x))), .long (lbc3 (lbc2 (lbc1 x)))], h)) rfl ?_
  refine s_lsh rfl rfl ?_
  refine s_b2 (w := lbc4 (lbc3 (lbc2 (lbc1 x)))) rfl rfl rfl ?_
  refine sP 4 (g1 := (35, [some (.long (lbc4 (lbc3 (lbc2 (lbc1 x))))), none], [.int (Int32.ofInt 16), .long (lbc4 (lbc3 (lbc2 (lbc1 x)))), .long (lbc4 (lbc3 (lbc2 (lbc1 x))))], h)) rfl ?_
  refine s_lsh rfl rfl ?_
  refine s_b2 (w := lbc5 (lbc4 (lbc3 (lbc2 (lbc1 x))))) rfl rfl rfl ?_
  refine sP 4 (g1 := (41, [some (.long (lbc5 (lbc4 (lbc3 (lbc2 (lbc1 x)))))), none], [.int (Int32.ofInt 32), .long (lbc5 (lbc4 (lbc3 (lbc2 (lbc1 x))))), .long (lbc5 (lbc4 (lbc3 (lbc2 (lbc1 x)))))], h)) rfl ?_
  refine s_lsh rfl rfl ?_
  refine s_b2 (w := lbc6 (lbc5 (lbc4 (lbc3 (lbc2 (lbc1 x)))))) rfl rfl rfl ?_
  refine sP 2 (g1 := (45, [some (.long (lbc6 (lbc5 (lbc4 (lbc3 (lbc2 (lbc1 x))))))), none], [.long (lbc6 (lbc5 (lbc4 (lbc3 (lbc2 (lbc1 x))))))], h)) rfl ?_
  refine s_u1 rfl rfl ?_
  refine sP 1 (g1 := (47, [some (.long (lbc6 (lbc5 (lbc4 (lbc3 (lbc2 (lbc1 x))))))), none], [.int (Int32.ofInt 127), .int ((lbc6 (lbc5 (lbc4 (lbc3 (lbc2 (lbc1 x)))))).toInt32)], h)) rfl ?_
  refine s_b1 rfl rfl rfl ?_
  exact s_retz rfl rfl rfl rfl
noncomputable def pcn (s : Nat) : Nat := s % 2 + s / 2 % 2 + s / 4 % 2 + s / 8 % 2 + s / 16 % 2 + s / 32 % 2
theorem ibc_pcn : ∀ s, s < 64 → ibc (Int32.ofInt (s : Nat)) = Int32.ofInt ((pcn s : Nat) : Int) := by decide +kernel
theorem fBitX {s : Nat} (hs : s < 64) : nEv sc (d + 1) 58 [sI (s : Int)] h (some (sI ((pcn s : Nat) : Int)), h) := by
  have e := ibc_ok (sc := sc) (d := d) (h := h) (x := Int32.ofInt (s : Int))
  rw [ibc_pcn s hs] at e
  exact e
noncomputable def blo (s : Nat) : Nat := s &&& (s - 1)
theorem b_lo : ∀ s, s < 64 → s ≠ 0 → (Int32.ofInt (s : Nat) &&& Int32.ofInt ((s : Nat) - 1)) = Int32.ofInt ((blo s : Nat) : Int) := by decide +kernel
theorem blo_ok : ∀ s, s < 64 → s ≠ 0 → blo s < s ∧ pcn s = pcn (blo s) + 1 := by decide +kernel
theorem pcn_le (s : Nat) : pcn s ≤ 6 := by unfold pcn; omega
theorem fBitsL {X : Int} : ∀ (k s n : Nat), s ≤ k → s < 64 → n + k ≤ 200 → nRn sc d (mMT mMe166) (mMC mMe166) (4, [some (sI X), some (sI (n : Int)), some (sI (s : Int))], [], h) (some (sI ((n + pcn s : Nat) : Int)), h) := by
  intro k
  induction k with
  | zero =>
    intro s n hk hs hn
    have h0 : s = 0 := by omega
    subst h0
    have e0 : pcn 0 = 0 := by decide
    refine sP 1 (g1 := (5, [some (sI X), some (sI ((n : Int))), some (sI (((0 : Nat) : Int)))], [sI (((0 : Nat) : Int))], h)) rfl ?_
    refine s_ifc (q := .eq) (a := ((0 : Nat) : Int)) rfl ⟨_, rfl⟩ rfl (by unfold sR aMi aMa; omega) (fun hc1 => ?_) (fun hc1 => ?_)
    · have hc1 : ((((0 : Nat) : Int)) : Int) = 0 := hc1
      refine sP 1 (g1 := (15, [some (sI X), some (sI ((n : Int))), some (sI (((0 : Nat) : Int)))], [sI ((n : Int))], h)) rfl ?_
      exact s_reti rfl rfl (Or.inl rfl) (by omega) rfl
    · have hc1 : ¬ (((((0 : Nat) : Int)) : Int) = 0) := hc1
      omega
  | succ k ih =>
    intro s n hk hs hn
    by_cases h0 : s = 0
    · subst h0
      have e0 : pcn 0 = 0 := by decide
      refine sP 1 (g1 := (5, [some (sI X), some (sI ((n : Int))), some (sI (((0 : Nat) : Int)))], [sI (((0 : Nat) : Int))], h)) rfl ?_
      refine s_ifc (q := .eq) (a := ((0 : Nat) : Int)) rfl ⟨_, rfl⟩ rfl (by unfold sR aMi aMa; omega) (fun hc1 => ?_) (fun hc1 => ?_)
      · have hc1 : ((((0 : Nat) : Int)) : Int) = 0 := hc1
        refine sP 1 (g1 := (15, [some (sI X), some (sI ((n : Int))), some (sI (((0 : Nat) : Int)))], [sI ((n : Int))], h)) rfl ?_
        exact s_reti rfl rfl (Or.inl rfl) (by omega) rfl
      · have hc1 : ¬ (((((0 : Nat) : Int)) : Int) = 0) := hc1
        omega
    · obtain ⟨b1, b2⟩ := blo_ok s hs h0
      have r1 := ih (blo s) (n + 1) (by omega) (by omega) (by omega)
      rw [show n + 1 + pcn (blo s) = n + pcn s by omega] at r1
      refine sP 1 (g1 := (5, [some (sI X), some (sI ((n : Int))), some (sI ((s : Int)))], [sI ((s : Int))], h)) rfl ?_
      refine s_ifc (q := .eq) (a := (s : Int)) rfl ⟨_, rfl⟩ rfl (by unfold sR aMi aMa; omega) (fun hc1 => ?_) (fun hc1 => ?_)
      · have hc1 : (((s : Int)) : Int) = 0 := hc1
        omega
      · have hc1 : ¬ ((((s : Int)) : Int) = 0) := hc1
        refine s_inc (a := (n : Int)) (n := 1) (k := 1) rfl rfl rfl ?_
        refine sP 3 (g1 := (10, [some (sI X), some (sI (((n : Int)) + 1)), some (sI ((s : Int)))], [sI 1, sI ((s : Int)), sI ((s : Int))], h)) rfl ?_
        refine s_sub (a := (s : Int)) (b := 1) rfl rfl ?_
        refine s_b1 rfl rfl (b_lo s hs h0) ?_
        refine sP 2 (g1 := (4, [some (sI X), some (sI (((n : Int)) + 1)), some (sI (((blo s : Nat) : Int)))], [], h)) rfl ?_
        rw [show ((n : Int) + 1) = ((n + 1 : Nat) : Int) by omega]
        exact r1
theorem fBitsM {s : Nat} (hs : s < 64) : nEv sc (d + 1) 166 [sI (s : Int)] h (some (sI ((pcn s : Nat) : Int)), h) := by
  have r1 := fBitsL (sc := sc) (d := d) (h := h) (X := (s : Int)) 64 s 0 (by omega) hs (by omega)
  rw [Nat.zero_add] at r1
  refine nEv_of (t := mMe166) rfl ?_
  show nRn sc d (mMT mMe166) (mMC mMe166) (0, [some (sI (s : Int)), none, none], [], h) _
  refine sP 4 (g1 := (4, [some (sI (s : Int)), some (sI ((0 : Nat) : Int)), some (sI (s : Int))], [], h)) rfl ?_
  exact r1
/-! looks that are 0 -/
noncomputable def uB (G : Nat → Int) (a : Nat) : Nat → Nat
  | 0 => 0
  | b + 1 => uB G a b + (if b ≠ a ∧ G (6 * a + b) = 0 then 1 else 0)
noncomputable def uA (G : Nat → Int) (n : Nat) : Nat → Nat
  | 0 => 0
  | a + 1 => uA G n a + uB G a n
theorem uB_le (G : Nat → Int) (a : Nat) : ∀ b, uB G a b ≤ b
  | 0 => Nat.le_refl _
  | b + 1 => by
    have := uB_le G a b
    unfold uB
    split <;> omega
theorem uA_le (G : Nat → Int) {n : Nat} (hn : n ≤ 6) : ∀ a, uA G n a ≤ 6 * a
  | 0 => Nat.le_refl _
  | a + 1 => by
    have := uA_le G hn a
    have := uB_le G a n
    unfold uA
    omega
theorem uB_cg {G G1 : Nat → Int} {a n : Nat} (hg : ∀ b, b < n → G1 (6 * a + b) = G (6 * a + b)) : ∀ b, b ≤ n → uB G1 a b = uB G a b
  | 0, _ => rfl
  | b + 1, hb => by
    unfold uB
    rw [uB_cg hg b (by omega), hg b (by omega)]
theorem uA_cg {G G1 : Nat → Int} {n : Nat} (hg : ∀ a b, a < n → b < n → G1 (6 * a + b) = G (6 * a + b)) : ∀ a, a ≤ n → uA G1 n a = uA G n a
  | 0, _ => rfl
  | a + 1, ha => by
    unfold uA
    rw [uA_cg hg a (by omega), uB_cg (fun b hb => hg a b (by omega) hb) n (Nat.le_refl n)]
theorem fUnmadeByL {n a : Nat} (hh : aHp h) (hn : hI h 3 3 = n) (ha : a < 6) : ∀ (k b : Nat), b + k = n → nRn sc (d + 1) (mMT mMe47) (mMC mMe47) (4, [some (.ref 3), some (sI (a : Int)), some (sI ((uB (hI h 5) a b : Nat) : Int)), some (sI (b : Int))], [], h) (some (sI ((uB (hI h 5) a n : Nat) : Int)), h) := by
  have nn := hI_rg hh xw_p
  intro k
  induction k with
  | zero =>
    intro b hb
    have hbn : b = n := by omega
    subst hbn
    have ub := uB_le (hI h 5) a b
    refine sP 2 (g1 := (6, [some (.ref 3), some (sI ((a : Int))), some (sI (((uB (hI h 5) a b : Nat) : Int))), some (sI ((b : Int)))], [.ref 3, sI ((b : Int))], h)) rfl ?_
    refine s_get (a := 3) (j := 3) hh rfl ⟨_, rfl⟩ rfl rfl rfl (v := sI (hI h 3 3)) (hI_ok hh xw_p) ?_
    refine s_icmp (q := .ge) (a := (b : Int)) (b := hI h 3 3) rfl ⟨_, rfl⟩ rfl (by unfold sR aMi aMa; omega) (by unfold sR aMi aMa; omega) (fun hc1 => ?_) (fun hc1 => ?_)
    · have hc1 : ((hI h 3 3) : Int) ≤ ((b : Int)) := hc1
      refine sP 1 (g1 := (20, [some (.ref 3), some (sI ((a : Int))), some (sI (((uB (hI h 5) a b : Nat) : Int))), some (sI ((b : Int)))], [sI (((uB (hI h 5) a b : Nat) : Int))], h)) rfl ?_
      exact s_reti rfl rfl (Or.inl rfl) rfl rfl
    · have hc1 : ¬ (((hI h 3 3) : Int) ≤ ((b : Int))) := hc1
      omega
  | succ k ih =>
    intro b hb
    have hb6 : b < 6 := by omega
    have ub := uB_le (hI h 5) a b
    have r1 := ih (b + 1) (by omega)
    have e1 : uB (hI h 5) a (b + 1) = uB (hI h 5) a b + (if b ≠ a ∧ hI h 5 (6 * a + b) = 0 then 1 else 0) := rfl
    rw [e1] at r1
    have gl := hI_rg hh (xw_l (show 6 * a + b < 36 by omega))
    by_cases hc : b ≠ a ∧ hI h 5 (6 * a + b) = 0
    · rw [if_pos hc] at r1
      refine sP 2 (g1 := (6, [some (.ref 3), some (sI ((a : Int))), some (sI (((uB (hI h 5) a b : Nat) : Int))), some (sI ((b : Int)))], [.ref 3, sI ((b : Int))], h)) rfl ?_
      refine s_get (a := 3) (j := 3) hh rfl ⟨_, rfl⟩ rfl rfl rfl (v := sI (hI h 3 3)) (hI_ok hh xw_p) ?_
      refine s_icmp (q := .ge) (a := (b : Int)) (b := hI h 3 3) rfl ⟨_, rfl⟩ rfl (by unfold sR aMi aMa; omega) (by unfold sR aMi aMa; omega) (fun hc1 => ?_) (fun hc1 => ?_)
      · have hc1 : ((hI h 3 3) : Int) ≤ ((b : Int)) := hc1
        omega
      · have hc1 : ¬ (((hI h 3 3) : Int) ≤ ((b : Int))) := hc1
        refine sP 2 (g1 := (10, [some (.ref 3), some (sI ((a : Int))), some (sI (((uB (hI h 5) a b : Nat) : Int))), some (sI ((b : Int)))], [sI ((a : Int)), sI ((b : Int))], h)) rfl ?_
        refine s_icmp (q := .eq) (a := (b : Int)) (b := (a : Int)) rfl ⟨_, rfl⟩ rfl (by unfold sR aMi aMa; omega) (by unfold sR aMi aMa; omega) (fun hc2 => ?_) (fun hc2 => ?_)
        · have hc2 : (((b : Int)) : Int) = ((a : Int)) := hc2
          omega
        · have hc2 : ¬ ((((b : Int)) : Int) = ((a : Int))) := hc2
          refine sP 3 (g1 := (14, [some (.ref 3), some (sI ((a : Int))), some (sI (((uB (hI h 5) a b : Nat) : Int))), some (sI ((b : Int)))], [sI ((b : Int)), sI ((a : Int)), .ref 3], h)) rfl ?_
          refine s_call (k := 40) (args := [.ref 3, sI ((a : Int)), sI ((b : Int))]) (st := []) (v := some (sI (hI h 5 (6 * a + b)))) (h1 := h) rfl ⟨rfl, rfl⟩ rfl rfl rfl rfl (sRcv hh (a := 3) rfl rfl) rfl (fLookX (e := 3) hh (by decide) ha hb6) ?_
          refine s_ifc (q := .ne) (a := hI h 5 (6 * a + b)) rfl ⟨_, rfl⟩ rfl (by unfold sR aMi aMa; omega) (fun hc3 => ?_) (fun hc3 => ?_)
          · have hc3 : ((hI h 5 (6 * a + b)) : Int) ≠ 0 := hc3
            omega
          · have hc3 : ¬ (((hI h 5 (6 * a + b)) : Int) ≠ 0) := hc3
            refine s_inc (a := ((uB (hI h 5) a b : Nat) : Int)) (n := 1) (k := 2) rfl rfl rfl ?_
            refine s_inc (a := (b : Int)) (n := 1) (k := 3) rfl rfl rfl ?_
            refine sP 1 (g1 := (4, [some (.ref 3), some (sI ((a : Int))), some (sI ((((uB (hI h 5) a b : Nat) : Int)) + 1)), some (sI (((b : Int)) + 1))], [], h)) rfl ?_
            rw [show ((b : Int) + 1) = ((b + 1 : Nat) : Int) by omega, show (((uB (hI h 5) a b : Nat) : Int) + 1) = ((uB (hI h 5) a b + 1 : Nat) : Int) by omega]
            exact r1
    · rw [if_neg hc] at r1
      refine sP 2 (g1 := (6, [some (.ref 3), some (sI ((a : Int))), some (sI (((uB (hI h 5) a b : Nat) : Int))), some (sI ((b : Int)))], [.ref 3, sI ((b : Int))], h)) rfl ?_
      refine s_get (a := 3) (j := 3) hh rfl ⟨_, rfl⟩ rfl rfl rfl (v := sI (hI h 3 3)) (hI_ok hh xw_p) ?_
      refine s_icmp (q := .ge) (a := (b : Int)) (b := hI h 3 3) rfl ⟨_, rfl⟩ rfl (by unfold sR aMi aMa; omega) (by unfold sR aMi aMa; omega) (fun hc1 => ?_) (fun hc1 => ?_)
      · have hc1 : ((hI h 3 3) : Int) ≤ ((b : Int)) := hc1
        omega
      · have hc1 : ¬ (((hI h 3 3) : Int) ≤ ((b : Int))) := hc1
        refine sP 2 (g1 := (10, [some (.ref 3), some (sI ((a : Int))), some (sI (((uB (hI h 5) a b : Nat) : Int))), some (sI ((b : Int)))], [sI ((a : Int)), sI ((b : Int))], h)) rfl ?_
        refine s_icmp (q := .eq) (a := (b : Int)) (b := (a : Int)) rfl ⟨_, rfl⟩ rfl (by unfold sR aMi aMa; omega) (by unfold sR aMi aMa; omega) (fun hc2 => ?_) (fun hc2 => ?_)
        · have hc2 : (((b : Int)) : Int) = ((a : Int)) := hc2
          refine s_inc (a := (b : Int)) (n := 1) (k := 3) rfl rfl rfl ?_
          refine sP 1 (g1 := (4, [some (.ref 3), some (sI ((a : Int))), some (sI (((uB (hI h 5) a b : Nat) : Int))), some (sI (((b : Int)) + 1))], [], h)) rfl ?_
          rw [show ((b : Int) + 1) = ((b + 1 : Nat) : Int) by omega]
          exact r1
        · have hc2 : ¬ ((((b : Int)) : Int) = ((a : Int))) := hc2
          refine sP 3 (g1 := (14, [some (.ref 3), some (sI ((a : Int))), some (sI (((uB (hI h 5) a b : Nat) : Int))), some (sI ((b : Int)))], [sI ((b : Int)), sI ((a : Int)), .ref 3], h)) rfl ?_
          refine s_call (k := 40) (args := [.ref 3, sI ((a : Int)), sI ((b : Int))]) (st := []) (v := some (sI (hI h 5 (6 * a + b)))) (h1 := h) rfl ⟨rfl, rfl⟩ rfl rfl rfl rfl (sRcv hh (a := 3) rfl rfl) rfl (fLookX (e := 3) hh (by decide) ha hb6) ?_
          refine s_ifc (q := .ne) (a := hI h 5 (6 * a + b)) rfl ⟨_, rfl⟩ rfl (by unfold sR aMi aMa; omega) (fun hc3 => ?_) (fun hc3 => ?_)
          · have hc3 : ((hI h 5 (6 * a + b)) : Int) ≠ 0 := hc3
            refine s_inc (a := (b : Int)) (n := 1) (k := 3) rfl rfl rfl ?_
            refine sP 1 (g1 := (4, [some (.ref 3), some (sI ((a : Int))), some (sI (((uB (hI h 5) a b : Nat) : Int))), some (sI (((b : Int)) + 1))], [], h)) rfl ?_
            rw [show ((b : Int) + 1) = ((b + 1 : Nat) : Int) by omega]
            exact r1
          · have hc3 : ¬ (((hI h 5 (6 * a + b)) : Int) ≠ 0) := hc3
            omega
theorem fUnmadeBy {n a : Nat} (hh : aHp h) (hn : hI h 3 3 = n) (ha : a < 6) : nEv sc (d + 2) 47 [.ref 3, sI (a : Int)] h (some (sI ((uB (hI h 5) a n : Nat) : Int)), h) := by
  have r1 := fUnmadeByL (sc := sc) (d := d) hh hn ha n 0 (by omega)
  refine nEv_of (t := mMe47) rfl ?_
  show nRn sc (d + 1) (mMT mMe47) (mMC mMe47) (0, [some (.ref 3), some (sI (a : Int)), none, none], [], h) _
  refine sP 4 (g1 := (4, [some (.ref 3), some (sI (a : Int)), some (sI ((0 : Nat) : Int)), some (sI ((0 : Nat) : Int))], [], h)) rfl ?_
  exact r1
theorem fUnmetByL {n a : Nat} (hh : aHp h) (hn : hI h 58 0 = n) (ha : a < 6) : ∀ (k b : Nat), b + k = n → nRn sc (d + 1) (mMT mMe155) (mMC mMe155) (4, [some (.ref 53), some (sI (a : Int)), some (sI ((uB ((fun j => hI h 58 (7 + j))) a b : Nat) : Int)), some (sI (b : Int))], [], h) (some (sI ((uB ((fun j => hI h 58 (7 + j))) a n : Nat) : Int)), h) := by
  have nn := hI_rg hh nw_p
  intro k
  induction k with
  | zero =>
    intro b hb
    have hbn : b = n := by omega
    subst hbn
    have ub := uB_le ((fun j => hI h 58 (7 + j))) a b
    refine sP 2 (g1 := (6, [some (.ref 53), some (sI ((a : Int))), some (sI (((uB ((fun j => hI h 58 (7 + j))) a b : Nat) : Int))), some (sI ((b : Int)))], [.ref 53, sI ((b : Int))], h)) rfl ?_
    refine s_get (a := 53) (j := 4) hh rfl ⟨_, rfl⟩ rfl rfl rfl (v := .ref 58) (hR_ok hh (by decide +kernel)) ?_
    refine sP 1 (g1 := (8, [some (.ref 53), some (sI ((a : Int))), some (sI (((uB ((fun j => hI h 58 (7 + j))) a b : Nat) : Int))), some (sI ((b : Int)))], [sI 0, .ref 58, sI ((b : Int))], h)) rfl ?_
    refine s_iald (a := 58) (n := 201) (j := 0) hh rfl rfl rfl (by omega) (by omega) (by decide) (v := sI (hI h 58 0)) (hI_ok hh nw_p) ?_
    refine s_icmp (q := .ge) (a := (b : Int)) (b := hI h 58 0) rfl ⟨_, rfl⟩ rfl (by unfold sR aMi aMa; omega) (by unfold sR aMi aMa; omega) (fun hc1 => ?_) (fun hc1 => ?_)
    · have hc1 : ((hI h 58 0) : Int) ≤ ((b : Int)) := hc1
      refine sP 1 (g1 := (27, [some (.ref 53), some (sI ((a : Int))), some (sI (((uB ((fun j => hI h 58 (7 + j))) a b : Nat) : Int))), some (sI ((b : Int)))], [sI (((uB ((fun j => hI h 58 (7 + j))) a b : Nat) : Int))], h)) rfl ?_
      exact s_reti rfl rfl (Or.inl rfl) rfl rfl
    · have hc1 : ¬ (((hI h 58 0) : Int) ≤ ((b : Int))) := hc1
      omega
  | succ k ih =>
    intro b hb
    have hb6 : b < 6 := by omega
    have ub := uB_le ((fun j => hI h 58 (7 + j))) a b
    have r1 := ih (b + 1) (by omega)
    have e1 : uB ((fun j => hI h 58 (7 + j))) a (b + 1) = uB ((fun j => hI h 58 (7 + j))) a b + (if b ≠ a ∧ hI h 58 (7 + (6 * a + b)) = 0 then 1 else 0) := rfl
    rw [e1] at r1
    have gl := hI_rg hh (nw_lk (show 6 * a + b < 36 by omega))
    by_cases hc : b ≠ a ∧ hI h 58 (7 + (6 * a + b)) = 0
    · rw [if_pos hc] at r1
      refine sP 2 (g1 := (6, [some (.ref 53), some (sI ((a : Int))), some (sI (((uB ((fun j => hI h 58 (7 + j))) a b : Nat) : Int))), some (sI ((b : Int)))], [.ref 53, sI ((b : Int))], h)) rfl ?_
      refine s_get (a := 53) (j := 4) hh rfl ⟨_, rfl⟩ rfl rfl rfl (v := .ref 58) (hR_ok hh (by decide +kernel)) ?_
      refine sP 1 (g1 := (8, [some (.ref 53), some (sI ((a : Int))), some (sI (((uB ((fun j => hI h 58 (7 + j))) a b : Nat) : Int))), some (sI ((b : Int)))], [sI 0, .ref 58, sI ((b : Int))], h)) rfl ?_
      refine s_iald (a := 58) (n := 201) (j := 0) hh rfl rfl rfl (by omega) (by omega) (by decide) (v := sI (hI h 58 0)) (hI_ok hh nw_p) ?_
      refine s_icmp (q := .ge) (a := (b : Int)) (b := hI h 58 0) rfl ⟨_, rfl⟩ rfl (by unfold sR aMi aMa; omega) (by unfold sR aMi aMa; omega) (fun hc1 => ?_) (fun hc1 => ?_)
      · have hc1 : ((hI h 58 0) : Int) ≤ ((b : Int)) := hc1
        omega
      · have hc1 : ¬ (((hI h 58 0) : Int) ≤ ((b : Int))) := hc1
        refine sP 3 (g1 := (13, [some (.ref 53), some (sI ((a : Int))), some (sI (((uB ((fun j => hI h 58 (7 + j))) a b : Nat) : Int))), some (sI ((b : Int)))], [sI ((a : Int)), sI ((b : Int)), sI (((uB ((fun j => hI h 58 (7 + j))) a b : Nat) : Int))], h)) rfl ?_
        refine s_icmp (q := .eq) (a := (b : Int)) (b := (a : Int)) rfl ⟨_, rfl⟩ rfl (by unfold sR aMi aMa; omega) (by unfold sR aMi aMa; omega) (fun hc2 => ?_) (fun hc2 => ?_)
        · have hc2 : (((b : Int)) : Int) = ((a : Int)) := hc2
          omega
        · have hc2 : ¬ ((((b : Int)) : Int) = ((a : Int))) := hc2
          refine sP 3 (g1 := (17, [some (.ref 53), some (sI ((a : Int))), some (sI (((uB ((fun j => hI h 58 (7 + j))) a b : Nat) : Int))), some (sI ((b : Int)))], [sI ((b : Int)), sI ((a : Int)), .ref 53, sI (((uB ((fun j => hI h 58 (7 + j))) a b : Nat) : Int))], h)) rfl ?_
          refine s_call (k := 152) (args := [.ref 53, sI ((a : Int)), sI ((b : Int))]) (st := [sI (((uB ((fun j => hI h 58 (7 + j))) a b : Nat) : Int))]) (v := some (sI (hI h 58 (7 + (6 * a + b))))) (h1 := h) rfl ⟨rfl, rfl⟩ rfl rfl rfl rfl (sRcv hh (a := 53) rfl rfl) rfl (fLookM hh ha hb6) ?_
          refine s_ifc (q := .ne) (a := hI h 58 (7 + (6 * a + b))) rfl ⟨_, rfl⟩ rfl (by unfold sR aMi aMa; omega) (fun hc3 => ?_) (fun hc3 => ?_)
          · have hc3 : ((hI h 58 (7 + (6 * a + b))) : Int) ≠ 0 := hc3
            omega
          · have hc3 : ¬ (((hI h 58 (7 + (6 * a + b))) : Int) ≠ 0) := hc3
            refine sP 2 (g1 := (22, [some (.ref 53), some (sI ((a : Int))), some (sI (((uB ((fun j => hI h 58 (7 + j))) a b : Nat) : Int))), some (sI ((b : Int)))], [sI 1, sI (((uB ((fun j => hI h 58 (7 + j))) a b : Nat) : Int))], h)) rfl ?_
            refine s_add (a := ((uB ((fun j => hI h 58 (7 + j))) a b : Nat) : Int)) (b := 1) rfl rfl ?_
            refine sP 1 (g1 := (24, [some (.ref 53), some (sI ((a : Int))), some (sI ((((uB ((fun j => hI h 58 (7 + j))) a b : Nat) : Int)) + 1)), some (sI ((b : Int)))], [], h)) rfl ?_
            refine s_inc (a := (b : Int)) (n := 1) (k := 3) rfl rfl rfl ?_
            refine sP 1 (g1 := (4, [some (.ref 53), some (sI ((a : Int))), some (sI ((((uB ((fun j => hI h 58 (7 + j))) a b : Nat) : Int)) + 1)), some (sI (((b : Int)) + 1))], [], h)) rfl ?_
            rw [show ((b : Int) + 1) = ((b + 1 : Nat) : Int) by omega, show (((uB ((fun j => hI h 58 (7 + j))) a b : Nat) : Int) + 1) = ((uB ((fun j => hI h 58 (7 + j))) a b + 1 : Nat) : Int) by omega]
            exact r1
    · rw [if_neg hc] at r1
      refine sP 2 (g1 := (6, [some (.ref 53), some (sI ((a : Int))), some (sI (((uB ((fun j => hI h 58 (7 + j))) a b : Nat) : Int))), some (sI ((b : Int)))], [.ref 53, sI ((b : Int))], h)) rfl ?_
      refine s_get (a := 53) (j := 4) hh rfl ⟨_, rfl⟩ rfl rfl rfl (v := .ref 58) (hR_ok hh (by decide +kernel)) ?_
      refine sP 1 (g1 := (8, [some (.ref 53), some (sI ((a : Int))), some (sI (((uB ((fun j => hI h 58 (7 + j))) a b : Nat) : Int))), some (sI ((b : Int)))], [sI 0, .ref 58, sI ((b : Int))], h)) rfl ?_
      refine s_iald (a := 58) (n := 201) (j := 0) hh rfl rfl rfl (by omega) (by omega) (by decide) (v := sI (hI h 58 0)) (hI_ok hh nw_p) ?_
      refine s_icmp (q := .ge) (a := (b : Int)) (b := hI h 58 0) rfl ⟨_, rfl⟩ rfl (by unfold sR aMi aMa; omega) (by unfold sR aMi aMa; omega) (fun hc1 => ?_) (fun hc1 => ?_)
      · have hc1 : ((hI h 58 0) : Int) ≤ ((b : Int)) := hc1
        omega
      · have hc1 : ¬ (((hI h 58 0) : Int) ≤ ((b : Int))) := hc1
        refine sP 3 (g1 := (13, [some (.ref 53), some (sI ((a : Int))), some (sI (((uB ((fun j => hI h 58 (7 + j))) a b : Nat) : Int))), some (sI ((b : Int)))], [sI ((a : Int)), sI ((b : Int)), sI (((uB ((fun j => hI h 58 (7 + j))) a b : Nat) : Int))], h)) rfl ?_
        refine s_icmp (q := .eq) (a := (b : Int)) (b := (a : Int)) rfl ⟨_, rfl⟩ rfl (by unfold sR aMi aMa; omega) (by unfold sR aMi aMa; omega) (fun hc2 => ?_) (fun hc2 => ?_)
        · have hc2 : (((b : Int)) : Int) = ((a : Int)) := hc2
          refine sP 1 (g1 := (22, [some (.ref 53), some (sI ((a : Int))), some (sI (((uB ((fun j => hI h 58 (7 + j))) a b : Nat) : Int))), some (sI ((b : Int)))], [sI 0, sI (((uB ((fun j => hI h 58 (7 + j))) a b : Nat) : Int))], h)) rfl ?_
          refine s_add (a := ((uB ((fun j => hI h 58 (7 + j))) a b : Nat) : Int)) (b := 0) rfl rfl ?_
          refine sP 1 (g1 := (24, [some (.ref 53), some (sI ((a : Int))), some (sI ((((uB ((fun j => hI h 58 (7 + j))) a b : Nat) : Int)) + 0)), some (sI ((b : Int)))], [], h)) rfl ?_
          refine s_inc (a := (b : Int)) (n := 1) (k := 3) rfl rfl rfl ?_
          refine sP 1 (g1 := (4, [some (.ref 53), some (sI ((a : Int))), some (sI ((((uB ((fun j => hI h 58 (7 + j))) a b : Nat) : Int)) + 0)), some (sI (((b : Int)) + 1))], [], h)) rfl ?_
          rw [show ((b : Int) + 1) = ((b + 1 : Nat) : Int) by omega, show (((uB ((fun j => hI h 58 (7 + j))) a b : Nat) : Int) + 0) = ((uB ((fun j => hI h 58 (7 + j))) a b + 0 : Nat) : Int) by omega]
          exact r1
        · have hc2 : ¬ ((((b : Int)) : Int) = ((a : Int))) := hc2
          refine sP 3 (g1 := (17, [some (.ref 53), some (sI ((a : Int))), some (sI (((uB ((fun j => hI h 58 (7 + j))) a b : Nat) : Int))), some (sI ((b : Int)))], [sI ((b : Int)), sI ((a : Int)), .ref 53, sI (((uB ((fun j => hI h 58 (7 + j))) a b : Nat) : Int))], h)) rfl ?_
          refine s_call (k := 152) (args := [.ref 53, sI ((a : Int)), sI ((b : Int))]) (st := [sI (((uB ((fun j => hI h 58 (7 + j))) a b : Nat) : Int))]) (v := some (sI (hI h 58 (7 + (6 * a + b))))) (h1 := h) rfl ⟨rfl, rfl⟩ rfl rfl rfl rfl (sRcv hh (a := 53) rfl rfl) rfl (fLookM hh ha hb6) ?_
          refine s_ifc (q := .ne) (a := hI h 58 (7 + (6 * a + b))) rfl ⟨_, rfl⟩ rfl (by unfold sR aMi aMa; omega) (fun hc3 => ?_) (fun hc3 => ?_)
          · have hc3 : ((hI h 58 (7 + (6 * a + b))) : Int) ≠ 0 := hc3
            refine sP 1 (g1 := (22, [some (.ref 53), some (sI ((a : Int))), some (sI (((uB ((fun j => hI h 58 (7 + j))) a b : Nat) : Int))), some (sI ((b : Int)))], [sI 0, sI (((uB ((fun j => hI h 58 (7 + j))) a b : Nat) : Int))], h)) rfl ?_
            refine s_add (a := ((uB ((fun j => hI h 58 (7 + j))) a b : Nat) : Int)) (b := 0) rfl rfl ?_
            refine sP 1 (g1 := (24, [some (.ref 53), some (sI ((a : Int))), some (sI ((((uB ((fun j => hI h 58 (7 + j))) a b : Nat) : Int)) + 0)), some (sI ((b : Int)))], [], h)) rfl ?_
            refine s_inc (a := (b : Int)) (n := 1) (k := 3) rfl rfl rfl ?_
            refine sP 1 (g1 := (4, [some (.ref 53), some (sI ((a : Int))), some (sI ((((uB ((fun j => hI h 58 (7 + j))) a b : Nat) : Int)) + 0)), some (sI (((b : Int)) + 1))], [], h)) rfl ?_
            rw [show ((b : Int) + 1) = ((b + 1 : Nat) : Int) by omega, show (((uB ((fun j => hI h 58 (7 + j))) a b : Nat) : Int) + 0) = ((uB ((fun j => hI h 58 (7 + j))) a b + 0 : Nat) : Int) by omega]
            exact r1
          · have hc3 : ¬ (((hI h 58 (7 + (6 * a + b))) : Int) ≠ 0) := hc3
            omega
theorem fUnmetBy {n a : Nat} (hh : aHp h) (hn : hI h 58 0 = n) (ha : a < 6) : nEv sc (d + 2) 155 [.ref 53, sI (a : Int)] h (some (sI ((uB ((fun j => hI h 58 (7 + j))) a n : Nat) : Int)), h) := by
  have r1 := fUnmetByL (sc := sc) (d := d) hh hn ha n 0 (by omega)
  refine nEv_of (t := mMe155) rfl ?_
  show nRn sc (d + 1) (mMT mMe155) (mMC mMe155) (0, [some (.ref 53), some (sI (a : Int)), none, none], [], h) _
  refine sP 4 (g1 := (4, [some (.ref 53), some (sI (a : Int)), some (sI ((0 : Nat) : Int)), some (sI ((0 : Nat) : Int))], [], h)) rfl ?_
  exact r1
theorem fUnmadeL {n : Nat} (hh : aHp h) (hn : hI h 3 3 = n) : ∀ (k a : Nat), a + k = n → nRn sc (d + 2) (mMT mMe62) (mMC mMe62) (4, [some (.ref 3), some (sI ((uA (hI h 5) n a : Nat) : Int)), some (sI (a : Int))], [], h) (some (sI ((uA (hI h 5) n n : Nat) : Int)), h) := by
  have nn := hI_rg hh xw_p
  intro k
  induction k with
  | zero =>
    intro a hb
    have hbn : a = n := by omega
    subst hbn
    have ub := uA_le (hI h 5) (show a ≤ 6 by omega) a
    refine sP 2 (g1 := (6, [some (.ref 3), some (sI (((uA (hI h 5) a a : Nat) : Int))), some (sI ((a : Int)))], [.ref 3, sI ((a : Int))], h)) rfl ?_
    refine s_get (a := 3) (j := 3) hh rfl ⟨_, rfl⟩ rfl rfl rfl (v := sI (hI h 3 3)) (hI_ok hh xw_p) ?_
    refine s_icmp (q := .ge) (a := (a : Int)) (b := hI h 3 3) rfl ⟨_, rfl⟩ rfl (by unfold sR aMi aMa; omega) (by unfold sR aMi aMa; omega) (fun hc1 => ?_) (fun hc1 => ?_)
    · have hc1 : ((hI h 3 3) : Int) ≤ ((a : Int)) := hc1
      refine sP 1 (g1 := (17, [some (.ref 3), some (sI (((uA (hI h 5) a a : Nat) : Int))), some (sI ((a : Int)))], [sI (((uA (hI h 5) a a : Nat) : Int))], h)) rfl ?_
      exact s_reti rfl rfl (Or.inl rfl) rfl rfl
    · have hc1 : ¬ (((hI h 3 3) : Int) ≤ ((a : Int))) := hc1
      omega
  | succ k ih =>
    intro a hb
    have ha6 : a < 6 := by omega
    have ub := uA_le (hI h 5) (show n ≤ 6 by omega) a
    have ub2 := uB_le (hI h 5) a n
    have r1 := ih (a + 1) (by omega)
    have e1 : uA (hI h 5) n (a + 1) = uA (hI h 5) n a + uB (hI h 5) a n := rfl
    rw [e1] at r1
    refine sP 2 (g1 := (6, [some (.ref 3), some (sI (((uA (hI h 5) n a : Nat) : Int))), some (sI ((a : Int)))], [.ref 3, sI ((a : Int))], h)) rfl ?_
    refine s_get (a := 3) (j := 3) hh rfl ⟨_, rfl⟩ rfl rfl rfl (v := sI (hI h 3 3)) (hI_ok hh xw_p) ?_
    refine s_icmp (q := .ge) (a := (a : Int)) (b := hI h 3 3) rfl ⟨_, rfl⟩ rfl (by unfold sR aMi aMa; omega) (by unfold sR aMi aMa; omega) (fun hc1 => ?_) (fun hc1 => ?_)
    · have hc1 : ((hI h 3 3) : Int) ≤ ((a : Int)) := hc1
      omega
    · have hc1 : ¬ (((hI h 3 3) : Int) ≤ ((a : Int))) := hc1
      refine sP 3 (g1 := (11, [some (.ref 3), some (sI (((uA (hI h 5) n a : Nat) : Int))), some (sI ((a : Int)))], [sI ((a : Int)), .ref 3, sI (((uA (hI h 5) n a : Nat) : Int))], h)) rfl ?_
      refine s_call (k := 47) (args := [.ref 3, sI ((a : Int))]) (st := [sI (((uA (hI h 5) n a : Nat) : Int))]) (v := some (sI (((uB (hI h 5) a n : Nat) : Int)))) (h1 := h) rfl ⟨rfl, rfl⟩ rfl rfl rfl rfl (sRcv hh (a := 3) rfl rfl) rfl (fUnmadeBy hh hn ha6) ?_
      refine s_add (a := ((uA (hI h 5) n a : Nat) : Int)) (b := ((uB (hI h 5) a n : Nat) : Int)) rfl rfl ?_
      refine sP 1 (g1 := (14, [some (.ref 3), some (sI ((((uA (hI h 5) n a : Nat) : Int)) + (((uB (hI h 5) a n : Nat) : Int)))), some (sI ((a : Int)))], [], h)) rfl ?_
      refine s_inc (a := (a : Int)) (n := 1) (k := 2) rfl rfl rfl ?_
      refine sP 1 (g1 := (4, [some (.ref 3), some (sI ((((uA (hI h 5) n a : Nat) : Int)) + (((uB (hI h 5) a n : Nat) : Int)))), some (sI (((a : Int)) + 1))], [], h)) rfl ?_
      rw [show ((a : Int) + 1) = ((a + 1 : Nat) : Int) by omega, show (((uA (hI h 5) n a : Nat) : Int) + ((uB (hI h 5) a n : Nat) : Int)) = ((uA (hI h 5) n a + uB (hI h 5) a n : Nat) : Int) by omega]
      exact r1
theorem fUnmade {n : Nat} (hh : aHp h) (hn : hI h 3 3 = n) : nEv sc (d + 3) 62 [.ref 3] h (some (sI ((uA (hI h 5) n n : Nat) : Int)), h) := by
  have r1 := fUnmadeL (sc := sc) (d := d) hh hn n 0 (by omega)
  refine nEv_of (t := mMe62) rfl ?_
  show nRn sc (d + 2) (mMT mMe62) (mMC mMe62) (0, [some (.ref 3), none, none], [], h) _
  refine sP 4 (g1 := (4, [some (.ref 3), some (sI ((0 : Nat) : Int)), some (sI ((0 : Nat) : Int))], [], h)) rfl ?_
  exact r1
theorem fUnmetL {n : Nat} (hh : aHp h) (hn : hI h 58 0 = n) : ∀ (k a : Nat), a + k = n → nRn sc (d + 2) (mMT mMe168) (mMC mMe168) (4, [some (.ref 53), some (sI ((uA ((fun j => hI h 58 (7 + j))) n a : Nat) : Int)), some (sI (a : Int))], [], h) (some (sI ((uA ((fun j => hI h 58 (7 + j))) n n : Nat) : Int)), h) := by
  have nn := hI_rg hh nw_p
  intro k
  induction k with
  | zero =>
    intro a hb
    have hbn : a = n := by omega
    subst hbn
    have ub := uA_le ((fun j => hI h 58 (7 + j))) (show a ≤ 6 by omega) a
    refine sP 2 (g1 := (6, [some (.ref 53), some (sI (((uA ((fun j => hI h 58 (7 + j))) a a : Nat) : Int))), some (sI ((a : Int)))], [.ref 53, sI ((a : Int))], h)) rfl ?_
    refine s_get (a := 53) (j := 4) hh rfl ⟨_, rfl⟩ rfl rfl rfl (v := .ref 58) (hR_ok hh (by decide +kernel)) ?_
    refine sP 1 (g1 := (8, [some (.ref 53), some (sI (((uA ((fun j => hI h 58 (7 + j))) a a : Nat) : Int))), some (sI ((a : Int)))], [sI 0, .ref 58, sI ((a : Int))], h)) rfl ?_
    refine s_iald (a := 58) (n := 201) (j := 0) hh rfl rfl rfl (by omega) (by omega) (by decide) (v := sI (hI h 58 0)) (hI_ok hh nw_p) ?_
    refine s_icmp (q := .ge) (a := (a : Int)) (b := hI h 58 0) rfl ⟨_, rfl⟩ rfl (by unfold sR aMi aMa; omega) (by unfold sR aMi aMa; omega) (fun hc1 => ?_) (fun hc1 => ?_)
    · have hc1 : ((hI h 58 0) : Int) ≤ ((a : Int)) := hc1
      refine sP 1 (g1 := (19, [some (.ref 53), some (sI (((uA ((fun j => hI h 58 (7 + j))) a a : Nat) : Int))), some (sI ((a : Int)))], [sI (((uA ((fun j => hI h 58 (7 + j))) a a : Nat) : Int))], h)) rfl ?_
      exact s_reti rfl rfl (Or.inl rfl) rfl rfl
    · have hc1 : ¬ (((hI h 58 0) : Int) ≤ ((a : Int))) := hc1
      omega
  | succ k ih =>
    intro a hb
    have ha6 : a < 6 := by omega
    have ub := uA_le ((fun j => hI h 58 (7 + j))) (show n ≤ 6 by omega) a
    have ub2 := uB_le ((fun j => hI h 58 (7 + j))) a n
    have r1 := ih (a + 1) (by omega)
    have e1 : uA ((fun j => hI h 58 (7 + j))) n (a + 1) = uA ((fun j => hI h 58 (7 + j))) n a + uB ((fun j => hI h 58 (7 + j))) a n := rfl
    rw [e1] at r1
    refine sP 2 (g1 := (6, [some (.ref 53), some (sI (((uA ((fun j => hI h 58 (7 + j))) n a : Nat) : Int))), some (sI ((a : Int)))], [.ref 53, sI ((a : Int))], h)) rfl ?_
    refine s_get (a := 53) (j := 4) hh rfl ⟨_, rfl⟩ rfl rfl rfl (v := .ref 58) (hR_ok hh (by decide +kernel)) ?_
    refine sP 1 (g1 := (8, [some (.ref 53), some (sI (((uA ((fun j => hI h 58 (7 + j))) n a : Nat) : Int))), some (sI ((a : Int)))], [sI 0, .ref 58, sI ((a : Int))], h)) rfl ?_
    refine s_iald (a := 58) (n := 201) (j := 0) hh rfl rfl rfl (by omega) (by omega) (by decide) (v := sI (hI h 58 0)) (hI_ok hh nw_p) ?_
    refine s_icmp (q := .ge) (a := (a : Int)) (b := hI h 58 0) rfl ⟨_, rfl⟩ rfl (by unfold sR aMi aMa; omega) (by unfold sR aMi aMa; omega) (fun hc1 => ?_) (fun hc1 => ?_)
    · have hc1 : ((hI h 58 0) : Int) ≤ ((a : Int)) := hc1
      omega
    · have hc1 : ¬ (((hI h 58 0) : Int) ≤ ((a : Int))) := hc1
      refine sP 3 (g1 := (13, [some (.ref 53), some (sI (((uA ((fun j => hI h 58 (7 + j))) n a : Nat) : Int))), some (sI ((a : Int)))], [sI ((a : Int)), .ref 53, sI (((uA ((fun j => hI h 58 (7 + j))) n a : Nat) : Int))], h)) rfl ?_
      refine s_call (k := 155) (args := [.ref 53, sI ((a : Int))]) (st := [sI (((uA ((fun j => hI h 58 (7 + j))) n a : Nat) : Int))]) (v := some (sI (((uB ((fun j => hI h 58 (7 + j))) a n : Nat) : Int)))) (h1 := h) rfl ⟨rfl, rfl⟩ rfl rfl rfl rfl (sRcv hh (a := 53) rfl rfl) rfl (fUnmetBy hh hn ha6) ?_
      refine s_add (a := ((uA ((fun j => hI h 58 (7 + j))) n a : Nat) : Int)) (b := ((uB ((fun j => hI h 58 (7 + j))) a n : Nat) : Int)) rfl rfl ?_
      refine sP 1 (g1 := (16, [some (.ref 53), some (sI ((((uA ((fun j => hI h 58 (7 + j))) n a : Nat) : Int)) + (((uB ((fun j => hI h 58 (7 + j))) a n : Nat) : Int)))), some (sI ((a : Int)))], [], h)) rfl ?_
      refine s_inc (a := (a : Int)) (n := 1) (k := 2) rfl rfl rfl ?_
      refine sP 1 (g1 := (4, [some (.ref 53), some (sI ((((uA ((fun j => hI h 58 (7 + j))) n a : Nat) : Int)) + (((uB ((fun j => hI h 58 (7 + j))) a n : Nat) : Int)))), some (sI (((a : Int)) + 1))], [], h)) rfl ?_
      rw [show ((a : Int) + 1) = ((a + 1 : Nat) : Int) by omega, show (((uA ((fun j => hI h 58 (7 + j))) n a : Nat) : Int) + ((uB ((fun j => hI h 58 (7 + j))) a n : Nat) : Int)) = ((uA ((fun j => hI h 58 (7 + j))) n a + uB ((fun j => hI h 58 (7 + j))) a n : Nat) : Int) by omega]
      exact r1
theorem fUnmet {n : Nat} (hh : aHp h) (hn : hI h 58 0 = n) : nEv sc (d + 3) 168 [.ref 53] h (some (sI ((uA ((fun j => hI h 58 (7 + j))) n n : Nat) : Int)), h) := by
  have r1 := fUnmetL (sc := sc) (d := d) hh hn n 0 (by omega)
  refine nEv_of (t := mMe168) rfl ?_
  show nRn sc (d + 2) (mMT mMe168) (mMC mMe168) (0, [some (.ref 53), none, none], [], h) _
  refine sP 4 (g1 := (4, [some (.ref 53), some (sI ((0 : Nat) : Int)), some (sI ((0 : Nat) : Int))], [], h)) rfl ?_
  exact r1
/-! treaties, counted by the reference -/
noncomputable def yB (f : Nat → Int) (a : Nat) : Nat → Int
  | 0 => 0
  | b + 1 => yB f a b + f (6 * a + b)
noncomputable def yA (f : Nat → Int) : Nat → Int
  | 0 => 0
  | a + 1 => yA f a + yB f a 6
theorem yB_rg {f : Nat → Int} (hf : ∀ j, j < 36 → 0 ≤ f j ∧ f j ≤ 1) {a : Nat} (ha : a < 6) : ∀ b, b ≤ 6 → 0 ≤ yB f a b ∧ yB f a b ≤ b
  | 0, _ => ⟨Int.le_refl _, Int.le_refl _⟩
  | b + 1, hb => by
    have h1 := yB_rg hf ha b (by omega)
    have h2 := hf (6 * a + b) (by omega)
    unfold yB
    omega
theorem yA_rg {f : Nat → Int} (hf : ∀ j, j < 36 → 0 ≤ f j ∧ f j ≤ 1) : ∀ a, a ≤ 6 → 0 ≤ yA f a ∧ yA f a ≤ 6 * a
  | 0, _ => ⟨Int.le_refl _, Int.le_refl _⟩
  | a + 1, hb => by
    have h1 := yA_rg hf a (by omega)
    have h2 := yB_rg hf (show a < 6 by omega) 6 (by omega)
    unfold yA
    omega
theorem mT (hh : aHp h) : ∀ j, j < 36 → 0 ≤ (fun j => hI h 58 (44 + j)) j ∧ (fun j => hI h 58 (44 + j)) j ≤ 1 := fun j hj => hI_rg hh (nw_t hj)
theorem fTrOfL {a : Nat} (hh : aHp h) (ha : a < 6) : ∀ (k b : Nat), b + k = 6 → nRn sc d (mMT mMe154) (mMC mMe154) (4, [some (.ref 53), some (sI (a : Int)), some (sI (yB (fun j => hI h 58 (44 + j)) a b)), some (sI (b : Int))], [], h) (some (sI (yB (fun j => hI h 58 (44 + j)) a 6)), h) := by
  intro k
  induction k with
  | zero =>
    intro b hb
    have hb6 : b = 6 := by omega
    subst hb6
    have y1 := yB_rg (mT hh) ha 6 (by omega)
    refine sP 2 (g1 := (6, [some (.ref 53), some (sI ((a : Int))), some (sI (yB (fun j => hI h 58 (44 + j)) a 6)), some (sI (((6 : Nat) : Int)))], [sI 6, sI (((6 : Nat) : Int))], h)) rfl ?_
    refine s_icmp (q := .ge) (a := ((6 : Nat) : Int)) (b := 6) rfl ⟨_, rfl⟩ rfl (by unfold sR aMi aMa; omega) (by unfold sR aMi aMa; omega) (fun hc1 => ?_) (fun hc1 => ?_)
    · have hc1 : (6 : Int) ≤ (((6 : Nat) : Int)) := hc1
      refine sP 1 (g1 := (23, [some (.ref 53), some (sI ((a : Int))), some (sI (yB (fun j => hI h 58 (44 + j)) a 6)), some (sI (((6 : Nat) : Int)))], [sI (yB (fun j => hI h 58 (44 + j)) a 6)], h)) rfl ?_
      exact s_reti rfl rfl (Or.inl rfl) rfl rfl
    · have hc1 : ¬ ((6 : Int) ≤ (((6 : Nat) : Int))) := hc1
      omega
  | succ k ih =>
    intro b hb
    have y1 := yB_rg (mT hh) ha b (by omega)
    have y2 := hI_rg hh (nw_t (show 6 * a + b < 36 by omega))
    have r1 := ih (b + 1) (by omega)
    have e1 : yB (fun j => hI h 58 (44 + j)) a (b + 1) = yB (fun j => hI h 58 (44 + j)) a b + hI h 58 (44 + (6 * a + b)) := rfl
    rw [e1] at r1
    refine sP 2 (g1 := (6, [some (.ref 53), some (sI ((a : Int))), some (sI (yB (fun j => hI h 58 (44 + j)) a b)), some (sI ((b : Int)))], [sI 6, sI ((b : Int))], h)) rfl ?_
    refine s_icmp (q := .ge) (a := (b : Int)) (b := 6) rfl ⟨_, rfl⟩ rfl (by unfold sR aMi aMa; omega) (by unfold sR aMi aMa; omega) (fun hc1 => ?_) (fun hc1 => ?_)
    · have hc1 : (6 : Int) ≤ ((b : Int)) := hc1
      omega
    · have hc1 : ¬ ((6 : Int) ≤ ((b : Int))) := hc1
      refine sP 2 (g1 := (9, [some (.ref 53), some (sI ((a : Int))), some (sI (yB (fun j => hI h 58 (44 + j)) a b)), some (sI ((b : Int)))], [.ref 53, sI (yB (fun j => hI h 58 (44 + j)) a b)], h)) rfl ?_
      refine s_get (a := 53) (j := 4) hh rfl ⟨_, rfl⟩ rfl rfl rfl (v := .ref 58) (hR_ok hh (by decide +kernel)) ?_
      refine sP 3 (g1 := (13, [some (.ref 53), some (sI ((a : Int))), some (sI (yB (fun j => hI h 58 (44 + j)) a b)), some (sI ((b : Int)))], [sI ((a : Int)), sI 6, sI 44, .ref 58, sI (yB (fun j => hI h 58 (44 + j)) a b)], h)) rfl ?_
      refine s_mul (a := 6) (b := (a : Int)) rfl rfl ?_
      refine s_add (a := 44) (b := 6 * ((a : Int))) rfl rfl ?_
      refine sP 1 (g1 := (16, [some (.ref 53), some (sI ((a : Int))), some (sI (yB (fun j => hI h 58 (44 + j)) a b)), some (sI ((b : Int)))], [sI ((b : Int)), sI (44 + (6 * ((a : Int)))), .ref 58, sI (yB (fun j => hI h 58 (44 + j)) a b)], h)) rfl ?_
      refine s_add (a := 44 + (6 * ((a : Int)))) (b := (b : Int)) rfl rfl ?_
      refine s_iald (a := 58) (n := 201) (j := (44 + (6 * ((a : Int)))) + ((b : Int))) hh rfl rfl rfl (by omega) (by omega) (by decide) (v := sI (hI h 58 (44 + (6 * a + b)))) (by rw [show ((44 + (6 * ((a : Int)))) + ((b : Int)) : Int).toNat = 44 + (6 * a + b) by omega]; exact hI_ok hh (nw_t (by omega))) ?_
      refine s_add (a := yB (fun j => hI h 58 (44 + j)) a b) (b := hI h 58 (44 + (6 * a + b))) rfl rfl ?_
      refine sP 1 (g1 := (20, [some (.ref 53), some (sI ((a : Int))), some (sI ((yB (fun j => hI h 58 (44 + j)) a b) + (hI h 58 (44 + (6 * a + b))))), some (sI ((b : Int)))], [], h)) rfl ?_
      refine s_inc (a := (b : Int)) (n := 1) (k := 3) rfl rfl rfl ?_
      refine sP 1 (g1 := (4, [some (.ref 53), some (sI ((a : Int))), some (sI ((yB (fun j => hI h 58 (44 + j)) a b) + (hI h 58 (44 + (6 * a + b))))), some (sI (((b : Int)) + 1))], [], h)) rfl ?_
      rw [show ((b : Int) + 1) = ((b + 1 : Nat) : Int) by omega]
      exact r1
theorem fTrOf {a : Nat} (hh : aHp h) (ha : a < 6) : nEv sc (d + 1) 154 [.ref 53, sI (a : Int)] h (some (sI (yB (fun j => hI h 58 (44 + j)) a 6)), h) := by
  have r1 := fTrOfL (sc := sc) (d := d) hh ha 6 0 (by omega)
  refine nEv_of (t := mMe154) rfl ?_
  show nRn sc d (mMT mMe154) (mMC mMe154) (0, [some (.ref 53), some (sI (a : Int)), none, none], [], h) _
  refine sP 4 (g1 := (4, [some (.ref 53), some (sI (a : Int)), some (sI 0), some (sI ((0 : Nat) : Int))], [], h)) rfl ?_
  exact r1
theorem fTrsL (hh : aHp h) : ∀ (k a : Nat), a + k = 6 → nRn sc (d + 1) (mMT mMe175) (mMC mMe175) (4, [some (.ref 53), some (sI (yA (fun j => hI h 58 (44 + j)) a)), some (sI (a : Int))], [], h) (some (sI (yA (fun j => hI h 58 (44 + j)) 6 / 2)), h) := by
  intro k
  induction k with
  | zero =>
    intro a hb
    have hb6 : a = 6 := by omega
    subst hb6
    have y1 := yA_rg (mT hh) 6 (by omega)
    refine sP 2 (g1 := (6, [some (.ref 53), some (sI (yA (fun j => hI h 58 (44 + j)) 6)), some (sI (((6 : Nat) : Int)))], [sI 6, sI (((6 : Nat) : Int))], h)) rfl ?_
    refine s_icmp (q := .ge) (a := ((6 : Nat) : Int)) (b := 6) rfl ⟨_, rfl⟩ rfl (by unfold sR aMi aMa; omega) (by unfold sR aMi aMa; omega) (fun hc1 => ?_) (fun hc1 => ?_)
    · have hc1 : (6 : Int) ≤ (((6 : Nat) : Int)) := hc1
      refine sP 2 (g1 := (17, [some (.ref 53), some (sI (yA (fun j => hI h 58 (44 + j)) 6)), some (sI (((6 : Nat) : Int)))], [sI 2, sI (yA (fun j => hI h 58 (44 + j)) 6)], h)) rfl ?_
      refine s_div (a := yA (fun j => hI h 58 (44 + j)) 6) (b := 2) rfl rfl (by omega) (by omega) (by omega) (by omega) ?_
      exact s_reti rfl rfl (Or.inl rfl) rfl rfl
    · have hc1 : ¬ ((6 : Int) ≤ (((6 : Nat) : Int))) := hc1
      omega
  | succ k ih =>
    intro a hb
    have ha6 : a < 6 := by omega
    have y1 := yA_rg (mT hh) a (by omega)
    have y2 := yB_rg (mT hh) ha6 6 (by omega)
    have r1 := ih (a + 1) (by omega)
    have e1 : yA (fun j => hI h 58 (44 + j)) (a + 1) = yA (fun j => hI h 58 (44 + j)) a + yB (fun j => hI h 58 (44 + j)) a 6 := rfl
    rw [e1] at r1
    refine sP 2 (g1 := (6, [some (.ref 53), some (sI (yA (fun j => hI h 58 (44 + j)) a)), some (sI ((a : Int)))], [sI 6, sI ((a : Int))], h)) rfl ?_
    refine s_icmp (q := .ge) (a := (a : Int)) (b := 6) rfl ⟨_, rfl⟩ rfl (by unfold sR aMi aMa; omega) (by unfold sR aMi aMa; omega) (fun hc1 => ?_) (fun hc1 => ?_)
    · have hc1 : (6 : Int) ≤ ((a : Int)) := hc1
      omega
    · have hc1 : ¬ ((6 : Int) ≤ ((a : Int))) := hc1
      refine sP 3 (g1 := (10, [some (.ref 53), some (sI (yA (fun j => hI h 58 (44 + j)) a)), some (sI ((a : Int)))], [sI ((a : Int)), .ref 53, sI (yA (fun j => hI h 58 (44 + j)) a)], h)) rfl ?_
      refine s_call (k := 154) (args := [.ref 53, sI ((a : Int))]) (st := [sI (yA (fun j => hI h 58 (44 + j)) a)]) (v := some (sI (yB (fun j => hI h 58 (44 + j)) a 6))) (h1 := h) rfl ⟨rfl, rfl⟩ rfl rfl rfl rfl (sRcv hh (a := 53) rfl rfl) rfl (fTrOf hh ha6) ?_
      refine s_add (a := yA (fun j => hI h 58 (44 + j)) a) (b := yB (fun j => hI h 58 (44 + j)) a 6) rfl rfl ?_
      refine sP 1 (g1 := (13, [some (.ref 53), some (sI ((yA (fun j => hI h 58 (44 + j)) a) + (yB (fun j => hI h 58 (44 + j)) a 6))), some (sI ((a : Int)))], [], h)) rfl ?_
      refine s_inc (a := (a : Int)) (n := 1) (k := 2) rfl rfl rfl ?_
      refine sP 1 (g1 := (4, [some (.ref 53), some (sI ((yA (fun j => hI h 58 (44 + j)) a) + (yB (fun j => hI h 58 (44 + j)) a 6))), some (sI (((a : Int)) + 1))], [], h)) rfl ?_
      rw [show ((a : Int) + 1) = ((a + 1 : Nat) : Int) by omega]
      exact r1
theorem fTrs (hh : aHp h) : nEv sc (d + 2) 175 [.ref 53] h (some (sI (yA (fun j => hI h 58 (44 + j)) 6 / 2)), h) := by
  have r1 := fTrsL (sc := sc) (d := d) hh 6 0 (by omega)
  refine nEv_of (t := mMe175) rfl ?_
  show nRn sc (d + 1) (mMT mMe175) (mMC mMe175) (0, [some (.ref 53), none, none], [], h) _
  refine sP 4 (g1 := (4, [some (.ref 53), some (sI 0), some (sI ((0 : Nat) : Int))], [], h)) rfl ?_
  exact r1
end CNT
