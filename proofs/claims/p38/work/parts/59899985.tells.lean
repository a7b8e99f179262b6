/-! tells -/
theorem sF_r9 {G : Nat → Int} {a s : Nat} (hG : ∀ j, j < 36 → 0 ≤ G j ∧ G j ≤ 9) (ha : a < 6) {kd : Nat} (hk : kd = 1 ∨ kd = 2 ∨ kd = 3 ∨ kd = 4 ∨ kd = 5) : ∀ b, b ≤ 6 → 0 ≤ (sF G kd a s b).1 ∧ (sF G kd a s b).1 ≤ 9
  | 0, _ => ⟨Int.le_refl _, show (0 : Int) ≤ 9 by decide⟩
  | b + 1, hb => by
    obtain ⟨h1, h2⟩ := sF_r9 (s := s) hG ha hk b (by omega)
    have hg := hG (6 * a + b) (by omega)
    unfold sF
    split
    · show 0 ≤ pFo kd _ _ _ ∧ pFo kd _ _ _ ≤ 9
      rcases hk with rfl | rfl | rfl | rfl | rfl <;> (simp only [pFo] <;> (repeat' split) <;> omega)
    · exact ⟨h1, h2⟩
theorem sF_r0 {G : Nat → Int} {a s : Nat} (hG : ∀ j, j < 36 → 0 ≤ G j ∧ G j ≤ 9) (ha : a < 6) : ∀ b, b ≤ 6 → (sF G 0 a s b).1 ≤ 9 * ((sF G 0 a s b).2 : Int)
  | 0, _ => Int.le_refl _
  | b + 1, hb => by
    have h1 := sF_r0 (s := s) hG ha b (by omega)
    have hg := hG (6 * a + b) (by omega)
    unfold sF
    split
    · show (sF G 0 a s b).1 + G (6 * a + b) ≤ 9 * (((sF G 0 a s b).2 + 1 : Nat) : Int)
      omega
    · exact h1
theorem pSeem_9 {G : Nat → Int} {n kd a s : Nat} (hG : ∀ j, j < 36 → 0 ≤ G j ∧ G j ≤ 9) (ha : a < 6) (hn : n ≤ 6) (hk : kd < 6) : 0 ≤ pSeem G n kd a s ∧ pSeem G n kd a s ≤ 9 := by
  refine ⟨(pSeem_rg (s := s) (kd := kd) hG ha hn).1, ?_⟩
  unfold pSeem pTe
  split
  · omega
  · rename_i hc
    by_cases h0 : kd = 0
    · subst h0
      have h1 := sF_r0 (s := s) hG ha n hn
      show (sF G 0 a s n).1 / ((sF G 0 a s n).2 : Int) ≤ 9
      exact Int.ediv_le_of_le_mul (by omega) h1
    · have hk5 : kd = 1 ∨ kd = 2 ∨ kd = 3 ∨ kd = 4 ∨ kd = 5 := by omega
      obtain ⟨h1, h2⟩ := sF_r9 (s := s) hG ha hk5 n hn
      rcases hk5 with rfl | rfl | rfl | rfl | rfl
      · exact h2
      · exact h2
      · exact h2
      · show (if (sF G 4 a s n).1 = 0 then 0 else min ((sF G 4 a s n).1 + 1) 9) ≤ 9
        split <;> omega
      · exact h2
def tkB (G : Nat → Int) (n a s : Nat) : Nat → Nat
  | 0 => 0
  | k + 1 => tkB G n a s k ||| 2 ^ (pSeem G n k a s).toNat
theorem tkB_lt {G : Nat → Int} {n a s : Nat} (hG : ∀ j, j < 36 → 0 ≤ G j ∧ G j ≤ 9) (ha : a < 6) (hn : n ≤ 6) : ∀ k, k ≤ 6 → tkB G n a s k < 1024
  | 0, _ => show 0 < 1024 by decide
  | k + 1, hk => by
    have h1 := pSeem_9 (s := s) hG ha hn (show k < 6 by omega)
    unfold tkB
    exact Nat.or_lt_two_pow (n := 10) (tkB_lt hG ha hn k (by omega)) (Nat.pow_lt_pow_right (by decide) (by omega))
theorem b_or10 {s t : Nat} (hs : s < 1024) (ht : t < 1024) : (Int32.ofInt (s : Nat) ||| Int32.ofInt (t : Nat)) = Int32.ofInt ((s ||| t : Nat) : Int) := by
  have h1 : ∀ x : Nat, Int32.ofInt (x : Int) = Int32.ofNat x := fun x => rfl
  rw [h1, h1, h1]
  apply Int32.toBitVec_inj.mp
  rw [Int32.toBitVec_or]
  apply BitVec.eq_of_toNat_eq
  rw [BitVec.toNat_or]
  have h2 : ∀ x : Nat, x < 1024 → (Int32.ofNat x).toBitVec.toNat = x := fun x hx => by
    show (BitVec.ofNat 32 x).toNat = x
    rw [BitVec.toNat_ofNat]
    omega
  rw [h2 s hs, h2 t ht, h2 _ (Nat.or_lt_two_pow (n := 10) hs ht)]
def pct (s : Nat) : Nat := s % 2 + s / 2 % 2 + s / 4 % 2 + s / 8 % 2 + s / 16 % 2 + s / 32 % 2 + s / 64 % 2 + s / 128 % 2 + s / 256 % 2 + s / 512 % 2
theorem ibc_pct : ∀ s, s < 1024 → ibc (Int32.ofInt (s : Nat)) = Int32.ofInt ((pct s : Nat) : Int) := by decide +kernel
theorem b_lot : ∀ s, s < 1024 → s ≠ 0 → (Int32.ofInt (s : Nat) &&& Int32.ofInt ((s : Nat) - 1)) = Int32.ofInt ((blo s : Nat) : Int) := by decide +kernel
theorem blo_t : ∀ s, s < 1024 → s ≠ 0 → blo s < s ∧ pct s = pct (blo s) + 1 := by decide +kernel
theorem pct_le (s : Nat) : pct s ≤ 10 := by unfold pct; omega
def tkT (G : Nat → Int) (n a : Nat) : Nat → Nat × Nat
  | 0 => (0, 0)
  | s + 1 => if (tkT G n a s).1 < pct (tkB G n a s 6) then (pct (tkB G n a s 6), s) else tkT G n a s
theorem tkT_le (G : Nat → Int) (n a : Nat) : ∀ s, (tkT G n a s).1 ≤ 10 ∧ (tkT G n a s).2 ≤ s
  | 0 => ⟨show 0 ≤ 10 by decide, Nat.le_refl _⟩
  | s + 1 => by
    have := tkT_le G n a s
    unfold tkT
    split
    · exact ⟨pct_le _, Nat.le_succ _⟩
    · exact ⟨this.1, by omega⟩
theorem tkB_cg {G G1 : Nat → Int} {n a s : Nat} (hg : ∀ kd, pSeem G1 n kd a s = pSeem G n kd a s) : ∀ k, tkB G1 n a s k = tkB G n a s k
  | 0 => rfl
  | k + 1 => by
    unfold tkB
    rw [tkB_cg hg k, hg k]
theorem tkT_cg {G G1 : Nat → Int} {n a : Nat} (hg : ∀ s kd, pSeem G1 n kd a s = pSeem G n kd a s) : ∀ s, tkT G1 n a s = tkT G n a s
  | 0 => rfl
  | s + 1 => by
    unfold tkT
    rw [tkT_cg hg s, tkB_cg (hg s) 6]
section TELLS
variable {sc : List Int32} {d : Nat} {h : mH}
theorem fBitT {s : Nat} (hs : s < 1024) : nEv sc (d + 1) 58 [sI (s : Int)] h (some (sI ((pct s : Nat) : Int)), h) := by
  have e := ibc_ok (sc := sc) (d := d) (h := h) (x := Int32.ofInt (s : Int))
  rw [ibc_pct s hs] at e
  exact e
theorem fBitsTL {X : Int} : ∀ (k s n : Nat), s ≤ k → s < 1024 → n + k ≤ 3000 → nRn sc d (mMT mMe166) (mMC mMe166) (4, [some (sI X), some (sI (n : Int)), some (sI (s : Int))], [], h) (some (sI ((n + pct s : Nat) : Int)), h) := by
  intro k
  induction k with
  | zero =>
    intro s n hk hs hn
    have h0 : s = 0 := by omega
    subst h0
    have e0 : pct 0 = 0 := by decide
    refine sP 1 (g1 := (5, [some (sI X), some (sI ((n : Int))), some (sI (((0 : Nat) : Int)))], [sI (((0 : Nat) : Int))], h)) rfl ?_
    refine s_ifc (q := .eq) (a := ((0 : Nat) : Int)) rfl ⟨_, rfl⟩ rfl (by unfold sR aMi aMa; omega) (fun hc1 => ?_) (fun hc1 => ?_)
    · have hc1 : ((((0 : Nat) : Int)) : Int) = 0 := hc1
      refine sP 1 (g1 := (15, [some (sI X), some (sI ((n : Int))), some (sI (((0 : Nat) : Int)))], [sI ((n : Int))], h)) rfl ?_
      exact s_reti rfl rfl (Or.inl rfl) (by omega) rfl
    · have hc1 : ¬ (((((0 : Nat) : Int)) : Int) = 0) := hc1
      omega
  | succ k ih =>
    intro s n hk hs hn
    by_cases h0 : s = 0
    · subst h0
      have e0 : pct 0 = 0 := by decide
      refine sP 1 (g1 := (5, [some (sI X), some (sI ((n : Int))), some (sI (((0 : Nat) : Int)))], [sI (((0 : Nat) : Int))], h)) rfl ?_
      refine s_ifc (q := .eq) (a := ((0 : Nat) : Int)) rfl ⟨_, rfl⟩ rfl (by unfold sR aMi aMa; omega) (fun hc1 => ?_) (fun hc1 => ?_)
      · have hc1 : ((((0 : Nat) : Int)) : Int) = 0 := hc1
        refine sP 1 (g1 := (15, [some (sI X), some (sI ((n : Int))), some (sI (((0 : Nat) : Int)))], [sI ((n : Int))], h)) rfl ?_
        exact s_reti rfl rfl (Or.inl rfl) (by omega) rfl
      · have hc1 : ¬ (((((0 : Nat) : Int)) : Int) = 0) := hc1
        omega
    · obtain ⟨b1, b2⟩ := blo_t s hs h0
      have r1 := ih (blo s) (n + 1) (by omega) (by omega) (by omega)
      rw [show n + 1 + pct (blo s) = n + pct s by omega] at r1
      refine sP 1 (g1 := (5, [some (sI X), some (sI ((n : Int))), some (sI ((s : Int)))], [sI ((s : Int))], h)) rfl ?_
      refine s_ifc (q := .eq) (a := (s : Int)) rfl ⟨_, rfl⟩ rfl (by unfold sR aMi aMa; omega) (fun hc1 => ?_) (fun hc1 => ?_)
      · have hc1 : (((s : Int)) : Int) = 0 := hc1
        omega
      · have hc1 : ¬ ((((s : Int)) : Int) = 0) := hc1
        refine s_inc (a := (n : Int)) (n := 1) (k := 1) rfl rfl rfl ?_
        refine sP 3 (g1 := (10, [some (sI X), some (sI (((n : Int)) + 1)), some (sI ((s : Int)))], [sI 1, sI ((s : Int)), sI ((s : Int))], h)) rfl ?_
        refine s_sub (a := (s : Int)) (b := 1) rfl rfl ?_
        refine s_b1 rfl rfl (b_lot s hs h0) ?_
        refine sP 2 (g1 := (4, [some (sI X), some (sI (((n : Int)) + 1)), some (sI (((blo s : Nat) : Int)))], [], h)) rfl ?_
        rw [show ((n : Int) + 1) = ((n + 1 : Nat) : Int) by omega]
        exact r1
theorem fBitsT {s : Nat} (hs : s < 1024) : nEv sc (d + 1) 166 [sI (s : Int)] h (some (sI ((pct s : Nat) : Int)), h) := by
  have r1 := fBitsTL (sc := sc) (d := d) (h := h) (X := (s : Int)) 1024 s 0 (by omega) hs (by omega)
  rw [Nat.zero_add] at r1
  refine nEv_of (t := mMe166) rfl ?_
  show nRn sc d (mMT mMe166) (mMC mMe166) (0, [some (sI (s : Int)), none, none], [], h) _
  refine sP 4 (g1 := (4, [some (sI (s : Int)), some (sI ((0 : Nat) : Int)), some (sI (s : Int))], [], h)) rfl ?_
  exact r1
theorem tkR1 (hh : aHp h) : ∀ j, j < 36 → 0 ≤ hI h 5 j ∧ hI h 5 j ≤ 9 := fun j hj => hI_rg hh (xw_l hj)
theorem tkR2 (hh : aHp h) : ∀ j, j < 36 → 0 ≤ hI h 58 (7 + j) ∧ hI h 58 (7 + j) ≤ 9 := fun j hj => hI_rg hh (nw_lk hj)
theorem fSbkL {n a s : Nat} (hh : aHp h) (hn : hI h 3 3 = n) (ha : a < 6) (hs : s < 64) : ∀ (k kd : Nat), kd + k = 6 → nRn sc (d + 3) (mMT mMe96) (mMC mMe96) (4, [some (.ref 0), some (sI (a : Int)), some (sI (s : Int)), some (sI ((tkB (hI h 5) n a s kd : Nat) : Int)), some (sI (kd : Int))], [], h) (some (sI ((pct (tkB (hI h 5) n a s 6) : Nat) : Int)), h) := by
  have gp := hI_rg hh xw_p
  intro k
  induction k with
  | zero =>
    intro kd hk
    have h6 : kd = 6 := by omega
    subst h6
    have t6 := tkB_lt (n := n) (a := a) (s := s) (tkR1 hh) ha (by omega) 6 (Nat.le_refl 6)
    have ev := fBitT (sc := sc) (d := d + 2) (h := h) t6
    refine sP 2 (g1 := (6, [some (.ref 0), some (sI ((a : Int))), some (sI ((s : Int))), some (sI (((tkB (hI h 5) n a s 6 : Nat) : Int))), some (sI (((6 : Nat) : Int)))], [sI 6, sI (((6 : Nat) : Int))], h)) rfl ?_
    refine s_icmp (q := .ge) (a := ((6 : Nat) : Int)) (b := 6) rfl ⟨_, rfl⟩ rfl (by unfold sR aMi aMa; omega) (by unfold sR aMi aMa; omega) (fun hc1 => ?_) (fun hc1 => ?_)
    · have hc1 : (6 : Int) ≤ (((6 : Nat) : Int)) := hc1
      refine sP 1 (g1 := (21, [some (.ref 0), some (sI ((a : Int))), some (sI ((s : Int))), some (sI (((tkB (hI h 5) n a s 6 : Nat) : Int))), some (sI (((6 : Nat) : Int)))], [sI (((tkB (hI h 5) n a s 6 : Nat) : Int))], h)) rfl ?_
      refine s_call (k := 58) (args := [sI (((tkB (hI h 5) n a s 6 : Nat) : Int))]) (st := []) (v := some (sI (((pct (tkB (hI h 5) n a s 6) : Nat) : Int)))) (h1 := h) rfl ⟨rfl, rfl⟩ rfl rfl rfl rfl rfl rfl ev ?_
      exact s_reti rfl rfl (Or.inl rfl) rfl rfl
    · have hc1 : ¬ ((6 : Int) ≤ (((6 : Nat) : Int))) := hc1
      omega
  | succ k ih =>
    intro kd hk
    have r1 := ih (kd + 1) (by omega)
    have p9 := pSeem_9 (s := s) (tkR1 hh) ha (show n ≤ 6 by omega) (show kd < 6 by omega)
    have t1 := tkB_lt (n := n) (a := a) (s := s) (tkR1 hh) ha (by omega) kd (by omega)
    have e1 : tkB (hI h 5) n a s (kd + 1) = tkB (hI h 5) n a s kd ||| 2 ^ (pSeem (hI h 5) n kd a s).toNat := rfl
    rw [e1] at r1
    have ev := fSeemAs (sc := sc) (d := d) (e := 3) (n := n) (kd := kd) (a := a) (s := s) hh (by decide) hn (by omega) ha hs
    have ev : nEv sc (d + 3) 38 [.ref 3, sI (kd : Int), sI (a : Int), sI (s : Int)] h (some (sI (pSeem (hI h 5) n kd a s)), h) := ev
    obtain ⟨m, em⟩ := iN p9.1
    rw [em] at ev
    rw [show (pSeem (hI h 5) n kd a s).toNat = m by omega] at r1
    have t2 : 2 ^ m < 1024 := Nat.pow_lt_pow_right (n := 10) (by decide) (by omega)
    refine sP 2 (g1 := (6, [some (.ref 0), some (sI ((a : Int))), some (sI ((s : Int))), some (sI (((tkB (hI h 5) n a s kd : Nat) : Int))), some (sI ((kd : Int)))], [sI 6, sI ((kd : Int))], h)) rfl ?_
    refine s_icmp (q := .ge) (a := (kd : Int)) (b := 6) rfl ⟨_, rfl⟩ rfl (by unfold sR aMi aMa; omega) (by unfold sR aMi aMa; omega) (fun hc1 => ?_) (fun hc1 => ?_)
    · have hc1 : (6 : Int) ≤ ((kd : Int)) := hc1
      omega
    · have hc1 : ¬ ((6 : Int) ≤ ((kd : Int))) := hc1
      refine sP 3 (g1 := (10, [some (.ref 0), some (sI ((a : Int))), some (sI ((s : Int))), some (sI (((tkB (hI h 5) n a s kd : Nat) : Int))), some (sI ((kd : Int)))], [.ref 0, sI 1, sI (((tkB (hI h 5) n a s kd : Nat) : Int))], h)) rfl ?_
      refine s_get (a := 0) (j := 2) hh rfl ⟨_, rfl⟩ rfl rfl rfl (v := .ref 3) (hR_ok hh (by decide +kernel)) ?_
      refine sP 3 (g1 := (14, [some (.ref 0), some (sI ((a : Int))), some (sI ((s : Int))), some (sI (((tkB (hI h 5) n a s kd : Nat) : Int))), some (sI ((kd : Int)))], [sI ((s : Int)), sI ((a : Int)), sI ((kd : Int)), .ref 3, sI 1, sI (((tkB (hI h 5) n a s kd : Nat) : Int))], h)) rfl ?_
      refine s_call (k := 38) (args := [.ref 3, sI ((kd : Int)), sI ((a : Int)), sI ((s : Int))]) (st := [sI 1, sI (((tkB (hI h 5) n a s kd : Nat) : Int))]) (v := some (sI ((m : Int)))) (h1 := h) rfl ⟨rfl, rfl⟩ rfl rfl rfl rfl (sRcv hh (a := 3) rfl rfl) rfl ev ?_
      refine s_shl7 (a := m) rfl rfl (by omega) ?_
      refine s_b1 rfl rfl (b_or10 t1 t2) ?_
      refine sP 1 (g1 := (18, [some (.ref 0), some (sI ((a : Int))), some (sI ((s : Int))), some (sI (((tkB (hI h 5) n a s kd ||| 2 ^ m : Nat) : Int))), some (sI ((kd : Int)))], [], h)) rfl ?_
      refine s_inc (a := (kd : Int)) (n := 1) (k := 4) rfl rfl rfl ?_
      refine sP 1 (g1 := (4, [some (.ref 0), some (sI ((a : Int))), some (sI ((s : Int))), some (sI (((tkB (hI h 5) n a s kd ||| 2 ^ m : Nat) : Int))), some (sI (((kd : Int)) + 1))], [], h)) rfl ?_
      rw [show ((kd : Int) + 1) = ((kd + 1 : Nat) : Int) by omega]
      exact r1
theorem fSbk {n a s : Nat} (hh : aHp h) (hn : hI h 3 3 = n) (ha : a < 6) (hs : s < 64) : nEv sc (d + 4) 96 [.ref 0, sI (a : Int), sI (s : Int)] h (some (sI ((pct (tkB (hI h 5) n a s 6) : Nat) : Int)), h) := by
  have r1 := fSbkL (sc := sc) (d := d) hh hn ha hs 6 0 (by omega)
  refine nEv_of (t := mMe96) rfl ?_
  show nRn sc (d + 3) (mMT mMe96) (mMC mMe96) (0, [some (.ref 0), some (sI (a : Int)), some (sI (s : Int)), none, none], [], h) _
  refine sP 4 (g1 := (4, [some (.ref 0), some (sI (a : Int)), some (sI (s : Int)), some (sI ((0 : Nat) : Int)), some (sI ((0 : Nat) : Int))], [], h)) rfl ?_
  exact r1
theorem fTellsXb {a : Int} (hh : aHp h) (ra : sR a) (hc : ¬ (0 ≤ a ∧ a < hI h 3 3)) : nEv sc (d + 3) 95 [.ref 0, sI a] h (some (sI (-1)), h) := by
  have gp := hI_rg hh xw_p
  unfold sR aMi aMa at ra
  refine nEv_of (t := mMe95) rfl ?_
  show nRn sc (d + 2) (mMT mMe95) (mMC mMe95) (0, [some (.ref 0), some (sI a), none, none, none, none], [], h) _
  refine sP 1 (g1 := (1, [some (.ref 0), some (sI a), none, none, none, none], [.ref 0], h)) rfl ?_
  refine s_get (a := 0) (j := 2) hh rfl ⟨_, rfl⟩ rfl rfl rfl (v := .ref 3) (hR_ok hh (by decide +kernel)) ?_
  refine sP 1 (g1 := (3, [some (.ref 0), some (sI a), none, none, none, none], [sI a, .ref 3], h)) rfl ?_
  have ev1 := fHasX (sc := sc) (d := d + 1) (a := a) hh (by unfold sR aMi aMa; omega)
  rw [if_neg (by omega)] at ev1
  refine s_call (k := 35) (args := [.ref 3, sI a]) (st := []) (v := some (sI 0)) (h1 := h) rfl ⟨rfl, rfl⟩ rfl rfl rfl rfl (sRcv hh (a := 3) rfl rfl) rfl ev1 ?_
  refine s_ifc (q := .ne) (a := 0) rfl ⟨_, rfl⟩ rfl (by unfold sR aMi aMa; omega) (fun hc2 => ?_) (fun hc2 => ?_)
  · have hc2 : (0 : Int) ≠ 0 := hc2
    omega
  · have hc2 : ¬ ((0 : Int) ≠ 0) := hc2
    refine sP 1 (g1 := (6, [some (.ref 0), some (sI a), none, none, none, none], [sI ((-1))], h)) rfl ?_
    exact s_reti rfl rfl (Or.inl rfl) rfl rfl
theorem fTellsMb {a : Int} (hh : aHp h) (ra : sR a) (hc : ¬ (0 ≤ a ∧ a < hI h 58 0)) : nEv sc (d + 3) 199 [.ref 53, sI a] h (some (sI (-1)), h) := by
  have gp := hI_rg hh nw_p
  unfold sR aMi aMa at ra
  refine nEv_of (t := mMe199) rfl ?_
  show nRn sc (d + 2) (mMT mMe199) (mMC mMe199) (0, [some (.ref 53), some (sI a), none, none, none, none, none], [], h) _
  refine sP 2 (g1 := (2, [some (.ref 53), some (sI a), none, none, none, none, none], [sI a, .ref 53], h)) rfl ?_
  have ev1 := fIsPerson (sc := sc) (d := d + 0) (a := a) hh (by unfold sR aMi aMa; omega)
  rw [if_neg (by omega)] at ev1
  refine s_call (k := 147) (args := [.ref 53, sI a]) (st := []) (v := some (sI 0)) (h1 := h) rfl ⟨rfl, rfl⟩ rfl rfl rfl rfl (sRcv hh (a := 53) rfl rfl) rfl ev1 ?_
  refine s_ifc (q := .ne) (a := 0) rfl ⟨_, rfl⟩ rfl (by unfold sR aMi aMa; omega) (fun hc2 => ?_) (fun hc2 => ?_)
  · have hc2 : (0 : Int) ≠ 0 := hc2
    omega
  · have hc2 : ¬ ((0 : Int) ≠ 0) := hc2
    refine sP 1 (g1 := (5, [some (.ref 53), some (sI a), none, none, none, none, none], [sI ((-1))], h)) rfl ?_
    exact s_reti rfl rfl (Or.inl rfl) rfl rfl
theorem fTellsXL {n a : Nat} (hh : aHp h) (hn : hI h 3 3 = n) (ha : a < n) : ∀ (k s : Nat) (X : Option Value), s + k = 2 ^ n → ∀ r, (∀ Y : Option Value, nRn sc (d + 4) (mMT mMe95) (mMC mMe95) (34, [some (.ref 0), some (sI (a : Int)), some (sI (((tkT (hI h 5) n a (2 ^ n)).1 : Nat) : Int)), some (sI (((tkT (hI h 5) n a (2 ^ n)).2 : Nat) : Int)), some (sI ((2 ^ n : Nat) : Int)), Y], [], h) r) → nRn sc (d + 4) (mMT mMe95) (mMC mMe95) (13, [some (.ref 0), some (sI (a : Int)), some (sI (((tkT (hI h 5) n a s).1 : Nat) : Int)), some (sI (((tkT (hI h 5) n a s).2 : Nat) : Int)), some (sI (s : Int)), X], [], h) r := by
  have gp := hI_rg hh xw_p
  have p2 := p2_le (show n ≤ 6 by omega)
  intro k
  induction k with
  | zero =>
    intro s X hs r r1
    have hz : s = 2 ^ n := by omega
    have r1 := r1 X
    rw [← hz] at r1 p2
    refine sP 3 (g1 := (16, [some (.ref 0), some (sI ((a : Int))), some (sI ((((tkT (hI h 5) n a s).1 : Nat) : Int))), some (sI ((((tkT (hI h 5) n a s).2 : Nat) : Int))), some (sI ((s : Int))), X], [.ref 0, sI 1, sI ((s : Int))], h)) rfl ?_
    refine s_get (a := 0) (j := 2) hh rfl ⟨_, rfl⟩ rfl rfl rfl (v := .ref 3) (hR_ok hh (by decide +kernel)) ?_
    refine s_get (a := 3) (j := 3) hh rfl ⟨_, rfl⟩ rfl rfl rfl (v := sI ((n : Int))) (by have q := hI_ok hh xw_p; rw [hn] at q; exact q) ?_
    refine s_shl7 (a := n) rfl rfl (by omega) ?_
    refine s_icmp (q := .ge) (a := (s : Int)) (b := ((2 ^ n : Nat) : Int)) rfl ⟨_, rfl⟩ rfl (by unfold sR aMi aMa; omega) (by unfold sR aMi aMa; omega) (fun hc1 => ?_) (fun hc1 => ?_)
    · have hc1 : ((((2 ^ n : Nat) : Int)) : Int) ≤ ((s : Int)) := hc1
      exact r1
    · have hc1 : ¬ (((((2 ^ n : Nat) : Int)) : Int) ≤ ((s : Int))) := hc1
      omega
  | succ k ih =>
    intro s X hs r r1
    have le := tkT_le (hI h 5) n a s
    have pl := pct_le (tkB (hI h 5) n a s 6)
    have r2 := ih (s + 1) (some (sI ((pct (tkB (hI h 5) n a s 6) : Nat) : Int))) (by omega) r r1
    have e1 : tkT (hI h 5) n a (s + 1) = if (tkT (hI h 5) n a s).1 < pct (tkB (hI h 5) n a s 6) then (pct (tkB (hI h 5) n a s 6), s) else tkT (hI h 5) n a s := rfl
    rw [e1] at r2
    have ev := fSbk (sc := sc) (d := d) hh hn (show a < 6 by omega) (show s < 64 by omega)
    generalize hq : pct (tkB (hI h 5) n a s 6) = q at *
    by_cases hc : (tkT (hI h 5) n a s).1 < q
    · rw [if_pos hc] at r2
      have r2 : nRn sc (d + 4) (mMT mMe95) (mMC mMe95) (13, [some (.ref 0), some (sI (a : Int)), some (sI (q : Int)), some (sI (s : Int)), some (sI ((s + 1 : Nat) : Int)), some (sI (q : Int))], [], h) r := r2
      refine sP 3 (g1 := (16, [some (.ref 0), some (sI ((a : Int))), some (sI ((((tkT (hI h 5) n a s).1 : Nat) : Int))), some (sI ((((tkT (hI h 5) n a s).2 : Nat) : Int))), some (sI ((s : Int))), X], [.ref 0, sI 1, sI ((s : Int))], h)) rfl ?_
      refine s_get (a := 0) (j := 2) hh rfl ⟨_, rfl⟩ rfl rfl rfl (v := .ref 3) (hR_ok hh (by decide +kernel)) ?_
      refine s_get (a := 3) (j := 3) hh rfl ⟨_, rfl⟩ rfl rfl rfl (v := sI ((n : Int))) (by have q := hI_ok hh xw_p; rw [hn] at q; exact q) ?_
      refine s_shl7 (a := n) rfl rfl (by omega) ?_
      refine s_icmp (q := .ge) (a := (s : Int)) (b := ((2 ^ n : Nat) : Int)) rfl ⟨_, rfl⟩ rfl (by unfold sR aMi aMa; omega) (by unfold sR aMi aMa; omega) (fun hc1 => ?_) (fun hc1 => ?_)
      · have hc1 : ((((2 ^ n : Nat) : Int)) : Int) ≤ ((s : Int)) := hc1
        omega
      · have hc1 : ¬ (((((2 ^ n : Nat) : Int)) : Int) ≤ ((s : Int))) := hc1
        refine sP 3 (g1 := (23, [some (.ref 0), some (sI ((a : Int))), some (sI ((((tkT (hI h 5) n a s).1 : Nat) : Int))), some (sI ((((tkT (hI h 5) n a s).2 : Nat) : Int))), some (sI ((s : Int))), X], [sI ((s : Int)), sI ((a : Int)), .ref 0], h)) rfl ?_
        refine s_call (k := 96) (args := [.ref 0, sI ((a : Int)), sI ((s : Int))]) (st := []) (v := some (sI ((q : Int)))) (h1 := h) rfl ⟨rfl, rfl⟩ rfl rfl rfl rfl (sRcv hh (a := 0) rfl rfl) rfl ev ?_
        refine sP 3 (g1 := (27, [some (.ref 0), some (sI ((a : Int))), some (sI ((((tkT (hI h 5) n a s).1 : Nat) : Int))), some (sI ((((tkT (hI h 5) n a s).2 : Nat) : Int))), some (sI ((s : Int))), some (sI ((q : Int)))], [sI ((((tkT (hI h 5) n a s).1 : Nat) : Int)), sI ((q : Int))], h)) rfl ?_
        refine s_icmp (q := .le) (a := (q : Int)) (b := (((tkT (hI h 5) n a s).1 : Nat) : Int)) rfl ⟨_, rfl⟩ rfl (by unfold sR aMi aMa; omega) (by unfold sR aMi aMa; omega) (fun hc2 => ?_) (fun hc2 => ?_)
        · have hc2 : (((q : Int)) : Int) ≤ ((((tkT (hI h 5) n a s).1 : Nat) : Int)) := hc2
          omega
        · have hc2 : ¬ ((((q : Int)) : Int) ≤ ((((tkT (hI h 5) n a s).1 : Nat) : Int))) := hc2
          refine sP 4 (g1 := (32, [some (.ref 0), some (sI ((a : Int))), some (sI ((q : Int))), some (sI ((s : Int))), some (sI ((s : Int))), some (sI ((q : Int)))], [], h)) rfl ?_
          refine s_inc (a := (s : Int)) (n := 1) (k := 4) rfl rfl rfl ?_
          refine sP 1 (g1 := (13, [some (.ref 0), some (sI ((a : Int))), some (sI ((q : Int))), some (sI ((s : Int))), some (sI (((s : Int)) + 1)), some (sI ((q : Int)))], [], h)) rfl ?_
          rw [show ((s : Int) + 1) = ((s + 1 : Nat) : Int) by omega]
          exact r2
    · rw [if_neg hc] at r2
      refine sP 3 (g1 := (16, [some (.ref 0), some (sI ((a : Int))), some (sI ((((tkT (hI h 5) n a s).1 : Nat) : Int))), some (sI ((((tkT (hI h 5) n a s).2 : Nat) : Int))), some (sI ((s : Int))), X], [.ref 0, sI 1, sI ((s : Int))], h)) rfl ?_
      refine s_get (a := 0) (j := 2) hh rfl ⟨_, rfl⟩ rfl rfl rfl (v := .ref 3) (hR_ok hh (by decide +kernel)) ?_
      refine s_get (a := 3) (j := 3) hh rfl ⟨_, rfl⟩ rfl rfl rfl (v := sI ((n : Int))) (by have q := hI_ok hh xw_p; rw [hn] at q; exact q) ?_
      refine s_shl7 (a := n) rfl rfl (by omega) ?_
      refine s_icmp (q := .ge) (a := (s : Int)) (b := ((2 ^ n : Nat) : Int)) rfl ⟨_, rfl⟩ rfl (by unfold sR aMi aMa; omega) (by unfold sR aMi aMa; omega) (fun hc1 => ?_) (fun hc1 => ?_)
      · have hc1 : ((((2 ^ n : Nat) : Int)) : Int) ≤ ((s : Int)) := hc1
        omega
      · have hc1 : ¬ (((((2 ^ n : Nat) : Int)) : Int) ≤ ((s : Int))) := hc1
        refine sP 3 (g1 := (23, [some (.ref 0), some (sI ((a : Int))), some (sI ((((tkT (hI h 5) n a s).1 : Nat) : Int))), some (sI ((((tkT (hI h 5) n a s).2 : Nat) : Int))), some (sI ((s : Int))), X], [sI ((s : Int)), sI ((a : Int)), .ref 0], h)) rfl ?_
        refine s_call (k := 96) (args := [.ref 0, sI ((a : Int)), sI ((s : Int))]) (st := []) (v := some (sI ((q : Int)))) (h1 := h) rfl ⟨rfl, rfl⟩ rfl rfl rfl rfl (sRcv hh (a := 0) rfl rfl) rfl ev ?_
        refine sP 3 (g1 := (27, [some (.ref 0), some (sI ((a : Int))), some (sI ((((tkT (hI h 5) n a s).1 : Nat) : Int))), some (sI ((((tkT (hI h 5) n a s).2 : Nat) : Int))), some (sI ((s : Int))), some (sI ((q : Int)))], [sI ((((tkT (hI h 5) n a s).1 : Nat) : Int)), sI ((q : Int))], h)) rfl ?_
        refine s_icmp (q := .le) (a := (q : Int)) (b := (((tkT (hI h 5) n a s).1 : Nat) : Int)) rfl ⟨_, rfl⟩ rfl (by unfold sR aMi aMa; omega) (by unfold sR aMi aMa; omega) (fun hc2 => ?_) (fun hc2 => ?_)
        · have hc2 : (((q : Int)) : Int) ≤ ((((tkT (hI h 5) n a s).1 : Nat) : Int)) := hc2
          refine s_inc (a := (s : Int)) (n := 1) (k := 4) rfl rfl rfl ?_
          refine sP 1 (g1 := (13, [some (.ref 0), some (sI ((a : Int))), some (sI ((((tkT (hI h 5) n a s).1 : Nat) : Int))), some (sI ((((tkT (hI h 5) n a s).2 : Nat) : Int))), some (sI (((s : Int)) + 1)), some (sI ((q : Int)))], [], h)) rfl ?_
          rw [show ((s : Int) + 1) = ((s + 1 : Nat) : Int) by omega]
          exact r2
        · have hc2 : ¬ ((((q : Int)) : Int) ≤ ((((tkT (hI h 5) n a s).1 : Nat) : Int))) := hc2
          omega
theorem fTellsX {n a : Nat} (hh : aHp h) (hn : hI h 3 3 = n) (ha : a < n) : ∃ g, nEv sc (d + 5) 95 [.ref 0, sI (a : Int)] h (some (sI (((tkT (hI h 5) n a (2 ^ n)).2 : Nat) : Int)), g) ∧ aHp g ∧ ∀ p m, aSlot g p m = if p = 0 ∧ m = 9 then some (sI (((tkT (hI h 5) n a (2 ^ n)).1 : Nat) : Int)) else aSlot h p m := by
  have gp := hI_rg hh xw_p
  obtain ⟨g1, eg1⟩ : ∃ gz, gz = hset h 0 9 (sI (((tkT (hI h 5) n a (2 ^ n)).1 : Nat) : Int)) := ⟨_, rfl⟩
  have sg1 : ∀ xa xm, aSlot g1 xa xm = if xa = 0 ∧ xm = 9 then some (sI (((tkT (hI h 5) n a (2 ^ n)).1 : Nat) : Int)) else aSlot h xa xm := fun xa xm => by rw [eg1]; exact hset_slot hh (show sTg 0 = some (0, 12) from rfl) (by omega) xa xm
  have hg1 : aHp g1 := by rw [eg1]; exact hset_any hh la_i
  refine ⟨g1, nEv_of (t := mMe95) rfl ?_, hg1, sg1⟩
  show nRn sc (d + 4) (mMT mMe95) (mMC mMe95) (0, [some (.ref 0), some (sI ((a : Int))), none, none, none, none], [], h) _
  refine sP 1 (g1 := (1, [some (.ref 0), some (sI ((a : Int))), none, none, none, none], [.ref 0], h)) rfl ?_
  refine s_get (a := 0) (j := 2) hh rfl ⟨_, rfl⟩ rfl rfl rfl (v := .ref 3) (hR_ok hh (by decide +kernel)) ?_
  refine sP 1 (g1 := (3, [some (.ref 0), some (sI ((a : Int))), none, none, none, none], [sI ((a : Int)), .ref 3], h)) rfl ?_
  have ev1 := fHasX (sc := sc) (d := d + 3) (a := (a : Int)) hh (by unfold sR aMi aMa; omega)
  rw [if_pos (by omega)] at ev1
  refine s_call (k := 35) (args := [.ref 3, sI ((a : Int))]) (st := []) (v := some (sI 1)) (h1 := h) rfl ⟨rfl, rfl⟩ rfl rfl rfl rfl (sRcv hh (a := 3) rfl rfl) rfl ev1 ?_
  refine s_ifc (q := .ne) (a := 1) rfl ⟨_, rfl⟩ rfl (by unfold sR aMi aMa; omega) (fun hc2 => ?_) (fun hc2 => ?_)
  · have hc2 : (1 : Int) ≠ 0 := hc2
    refine sP 6 (g1 := (13, [some (.ref 0), some (sI ((a : Int))), some (sI 0), some (sI 0), some (sI 0), none], [], h)) rfl ?_
    refine fTellsXL (sc := sc) (d := d) hh hn ha (2 ^ n) 0 none (by omega) _ (fun Y => ?_)
    refine sP 2 (g1 := (36, [some (.ref 0), some (sI ((a : Int))), some (sI ((((tkT (hI h 5) n a (2 ^ n)).1 : Nat) : Int))), some (sI ((((tkT (hI h 5) n a (2 ^ n)).2 : Nat) : Int))), some (sI (((2 ^ n : Nat) : Int))), Y], [sI ((((tkT (hI h 5) n a (2 ^ n)).1 : Nat) : Int)), .ref 0], h)) rfl ?_
    refine s_put (a := 0) (j := 9) (k := 0) (n := 12) hh rfl ⟨_, rfl⟩ (show sTg 0 = some (0, 12) from rfl) rfl rfl (by decide) rfl ?_
    rw [← eg1]
    refine sP 1 (g1 := (38, [some (.ref 0), some (sI ((a : Int))), some (sI ((((tkT (hI h 5) n a (2 ^ n)).1 : Nat) : Int))), some (sI ((((tkT (hI h 5) n a (2 ^ n)).2 : Nat) : Int))), some (sI (((2 ^ n : Nat) : Int))), Y], [sI ((((tkT (hI h 5) n a (2 ^ n)).2 : Nat) : Int))], g1)) rfl ?_
    exact s_reti rfl rfl (Or.inl rfl) rfl rfl
  · have hc2 : ¬ ((1 : Int) ≠ 0) := hc2
    omega
theorem fTkL {n a s : Nat} {m0 w0 : Int} (hh : aHp h) (hn : hI h 58 0 = n) (ha : a < 6) (hs : s < 64) : ∀ (k kd : Nat), kd + k = 6 → ∀ r, nRn sc (d + 2) (mMT mMe199) (mMC mMe199) (39, [some (.ref 53), some (sI (a : Int)), some (sI w0), some (sI m0), some (sI (s : Int)), some (sI ((tkB (fun j => hI h 58 (7 + j)) n a s 6 : Nat) : Int)), some (sI ((6 : Nat) : Int))], [], h) r → nRn sc (d + 2) (mMT mMe199) (mMC mMe199) (24, [some (.ref 53), some (sI (a : Int)), some (sI w0), some (sI m0), some (sI (s : Int)), some (sI ((tkB (fun j => hI h 58 (7 + j)) n a s kd : Nat) : Int)), some (sI (kd : Int))], [], h) r := by
  have gp := hI_rg hh nw_p
  intro k
  induction k with
  | zero =>
    intro kd hk r r1
    have h6 : kd = 6 := by omega
    subst h6
    refine sP 2 (g1 := (26, [some (.ref 53), some (sI ((a : Int))), some (sI w0), some (sI m0), some (sI ((s : Int))), some (sI (((tkB (fun j => hI h 58 (7 + j)) n a s 6 : Nat) : Int))), some (sI (((6 : Nat) : Int)))], [sI 6, sI (((6 : Nat) : Int))], h)) rfl ?_
    refine s_icmp (q := .ge) (a := ((6 : Nat) : Int)) (b := 6) rfl ⟨_, rfl⟩ rfl (by unfold sR aMi aMa; omega) (by unfold sR aMi aMa; omega) (fun hc1 => ?_) (fun hc1 => ?_)
    · have hc1 : (6 : Int) ≤ (((6 : Nat) : Int)) := hc1
      exact r1
    · have hc1 : ¬ ((6 : Int) ≤ (((6 : Nat) : Int))) := hc1
      omega
  | succ k ih =>
    intro kd hk r r1
    have r2 := ih (kd + 1) (by omega) r r1
    have p9 := pSeem_9 (s := s) (tkR2 hh) ha (show n ≤ 6 by omega) (show kd < 6 by omega)
    have t1 := tkB_lt (n := n) (a := a) (s := s) (tkR2 hh) ha (by omega) kd (by omega)
    have e1 : tkB (fun j => hI h 58 (7 + j)) n a s (kd + 1) = tkB (fun j => hI h 58 (7 + j)) n a s kd ||| 2 ^ (pSeem (fun j => hI h 58 (7 + j)) n kd a s).toNat := rfl
    rw [e1] at r2
    have ev := fSeemAsM (sc := sc) (d := d) (n := n) (kd := kd) (a := a) (s := s) hh hn (by omega) ha hs
    obtain ⟨m, em⟩ := iN p9.1
    rw [em] at ev
    rw [show (pSeem (fun j => hI h 58 (7 + j)) n kd a s).toNat = m by omega] at r2
    have t2 : 2 ^ m < 1024 := Nat.pow_lt_pow_right (n := 10) (by decide) (by omega)
    refine sP 2 (g1 := (26, [some (.ref 53), some (sI ((a : Int))), some (sI w0), some (sI m0), some (sI ((s : Int))), some (sI (((tkB (fun j => hI h 58 (7 + j)) n a s kd : Nat) : Int))), some (sI ((kd : Int)))], [sI 6, sI ((kd : Int))], h)) rfl ?_
    refine s_icmp (q := .ge) (a := (kd : Int)) (b := 6) rfl ⟨_, rfl⟩ rfl (by unfold sR aMi aMa; omega) (by unfold sR aMi aMa; omega) (fun hc1 => ?_) (fun hc1 => ?_)
    · have hc1 : (6 : Int) ≤ ((kd : Int)) := hc1
      omega
    · have hc1 : ¬ ((6 : Int) ≤ ((kd : Int))) := hc1
      refine sP 6 (g1 := (33, [some (.ref 53), some (sI ((a : Int))), some (sI w0), some (sI m0), some (sI ((s : Int))), some (sI (((tkB (fun j => hI h 58 (7 + j)) n a s kd : Nat) : Int))), some (sI ((kd : Int)))], [sI ((s : Int)), sI ((kd : Int)), sI ((a : Int)), .ref 53, sI 1, sI (((tkB (fun j => hI h 58 (7 + j)) n a s kd : Nat) : Int))], h)) rfl ?_
      refine s_call (k := 151) (args := [.ref 53, sI ((a : Int)), sI ((kd : Int)), sI ((s : Int))]) (st := [sI 1, sI (((tkB (fun j => hI h 58 (7 + j)) n a s kd : Nat) : Int))]) (v := some (sI ((m : Int)))) (h1 := h) rfl ⟨rfl, rfl⟩ rfl rfl rfl rfl (sRcv hh (a := 53) rfl rfl) rfl ev ?_
      refine s_shl7 (a := m) rfl rfl (by omega) ?_
      refine s_b1 rfl rfl (b_or10 t1 t2) ?_
      refine sP 1 (g1 := (37, [some (.ref 53), some (sI ((a : Int))), some (sI w0), some (sI m0), some (sI ((s : Int))), some (sI (((tkB (fun j => hI h 58 (7 + j)) n a s kd ||| 2 ^ m : Nat) : Int))), some (sI ((kd : Int)))], [], h)) rfl ?_
      refine s_inc (a := (kd : Int)) (n := 1) (k := 6) rfl rfl rfl ?_
      refine sP 1 (g1 := (24, [some (.ref 53), some (sI ((a : Int))), some (sI w0), some (sI m0), some (sI ((s : Int))), some (sI (((tkB (fun j => hI h 58 (7 + j)) n a s kd ||| 2 ^ m : Nat) : Int))), some (sI (((kd : Int)) + 1))], [], h)) rfl ?_
      rw [show ((kd : Int) + 1) = ((kd + 1 : Nat) : Int) by omega]
      exact r2
theorem fTellsML {n a : Nat} (hh : aHp h) (hn : hI h 58 0 = n) (ha : a < n) : ∀ (k s : Nat) (X Y : Option Value), s + k = 2 ^ n → ∀ r, (∀ X Y : Option Value, nRn sc (d + 2) (mMT mMe199) (mMC mMe199) (58, [some (.ref 53), some (sI (a : Int)), some (sI (((tkT (fun j => hI h 58 (7 + j)) n a (2 ^ n)).2 : Nat) : Int)), some (sI (((tkT (fun j => hI h 58 (7 + j)) n a (2 ^ n)).1 : Nat) : Int)), some (sI ((2 ^ n : Nat) : Int)), X, Y], [], h) r) → nRn sc (d + 2) (mMT mMe199) (mMC mMe199) (12, [some (.ref 53), some (sI (a : Int)), some (sI (((tkT (fun j => hI h 58 (7 + j)) n a s).2 : Nat) : Int)), some (sI (((tkT (fun j => hI h 58 (7 + j)) n a s).1 : Nat) : Int)), some (sI (s : Int)), X, Y], [], h) r := by
  have gp := hI_rg hh nw_p
  have p2 := p2_le (show n ≤ 6 by omega)
  intro k
  induction k with
  | zero =>
    intro s X Y hs r r1
    have hz : s = 2 ^ n := by omega
    have r1 := r1 X Y
    rw [← hz] at r1 p2
    refine sP 3 (g1 := (15, [some (.ref 53), some (sI ((a : Int))), some (sI ((((tkT (fun j => hI h 58 (7 + j)) n a s).2 : Nat) : Int))), some (sI ((((tkT (fun j => hI h 58 (7 + j)) n a s).1 : Nat) : Int))), some (sI ((s : Int))), X, Y], [.ref 53, sI 1, sI ((s : Int))], h)) rfl ?_
    refine s_get (a := 53) (j := 4) hh rfl ⟨_, rfl⟩ rfl rfl rfl (v := .ref 58) (hR_ok hh (by decide +kernel)) ?_
    refine sP 1 (g1 := (17, [some (.ref 53), some (sI ((a : Int))), some (sI ((((tkT (fun j => hI h 58 (7 + j)) n a s).2 : Nat) : Int))), some (sI ((((tkT (fun j => hI h 58 (7 + j)) n a s).1 : Nat) : Int))), some (sI ((s : Int))), X, Y], [sI 0, .ref 58, sI 1, sI ((s : Int))], h)) rfl ?_
    refine s_iald (a := 58) (n := 201) (j := 0) hh rfl rfl rfl (by omega) (by omega) (by decide) (v := sI ((n : Int))) (by have q := hI_ok hh nw_p; rw [hn] at q; exact q) ?_
    refine s_shl7 (a := n) rfl rfl (by omega) ?_
    refine s_icmp (q := .ge) (a := (s : Int)) (b := ((2 ^ n : Nat) : Int)) rfl ⟨_, rfl⟩ rfl (by unfold sR aMi aMa; omega) (by unfold sR aMi aMa; omega) (fun hc1 => ?_) (fun hc1 => ?_)
    · have hc1 : ((((2 ^ n : Nat) : Int)) : Int) ≤ ((s : Int)) := hc1
      exact r1
    · have hc1 : ¬ (((((2 ^ n : Nat) : Int)) : Int) ≤ ((s : Int))) := hc1
      omega
  | succ k ih =>
    intro s X Y hs r r1
    have le := tkT_le (fun j => hI h 58 (7 + j)) n a s
    have pl := pct_le (tkB (fun j => hI h 58 (7 + j)) n a s 6)
    have t6 := tkB_lt (n := n) (a := a) (s := s) (tkR2 hh) (show a < 6 by omega) (by omega) 6 (Nat.le_refl 6)
    have r2 := ih (s + 1) (some (sI ((tkB (fun j => hI h 58 (7 + j)) n a s 6 : Nat) : Int))) (some (sI ((6 : Nat) : Int))) (by omega) r r1
    have e1 : tkT (fun j => hI h 58 (7 + j)) n a (s + 1) = if (tkT (fun j => hI h 58 (7 + j)) n a s).1 < pct (tkB (fun j => hI h 58 (7 + j)) n a s 6) then (pct (tkB (fun j => hI h 58 (7 + j)) n a s 6), s) else tkT (fun j => hI h 58 (7 + j)) n a s := rfl
    rw [e1] at r2
    have r3 := fTkL (sc := sc) (d := d) (m0 := (((tkT (fun j => hI h 58 (7 + j)) n a s).1 : Nat) : Int)) (w0 := (((tkT (fun j => hI h 58 (7 + j)) n a s).2 : Nat) : Int)) hh hn (show a < 6 by omega) (show s < 64 by omega) 6 0 (by omega)
    have ev := fBitsT (sc := sc) (d := d + 1) (h := h) t6
    by_cases hc : (tkT (fun j => hI h 58 (7 + j)) n a s).1 < pct (tkB (fun j => hI h 58 (7 + j)) n a s 6)
    · rw [if_pos hc] at r2
      refine sP 3 (g1 := (15, [some (.ref 53), some (sI ((a : Int))), some (sI ((((tkT (fun j => hI h 58 (7 + j)) n a s).2 : Nat) : Int))), some (sI ((((tkT (fun j => hI h 58 (7 + j)) n a s).1 : Nat) : Int))), some (sI ((s : Int))), X, Y], [.ref 53, sI 1, sI ((s : Int))], h)) rfl ?_
      refine s_get (a := 53) (j := 4) hh rfl ⟨_, rfl⟩ rfl rfl rfl (v := .ref 58) (hR_ok hh (by decide +kernel)) ?_
      refine sP 1 (g1 := (17, [some (.ref 53), some (sI ((a : Int))), some (sI ((((tkT (fun j => hI h 58 (7 + j)) n a s).2 : Nat) : Int))), some (sI ((((tkT (fun j => hI h 58 (7 + j)) n a s).1 : Nat) : Int))), some (sI ((s : Int))), X, Y], [sI 0, .ref 58, sI 1, sI ((s : Int))], h)) rfl ?_
      refine s_iald (a := 58) (n := 201) (j := 0) hh rfl rfl rfl (by omega) (by omega) (by decide) (v := sI ((n : Int))) (by have q := hI_ok hh nw_p; rw [hn] at q; exact q) ?_
      refine s_shl7 (a := n) rfl rfl (by omega) ?_
      refine s_icmp (q := .ge) (a := (s : Int)) (b := ((2 ^ n : Nat) : Int)) rfl ⟨_, rfl⟩ rfl (by unfold sR aMi aMa; omega) (by unfold sR aMi aMa; omega) (fun hc1 => ?_) (fun hc1 => ?_)
      · have hc1 : ((((2 ^ n : Nat) : Int)) : Int) ≤ ((s : Int)) := hc1
        omega
      · have hc1 : ¬ (((((2 ^ n : Nat) : Int)) : Int) ≤ ((s : Int))) := hc1
        refine sP 4 (g1 := (24, [some (.ref 53), some (sI ((a : Int))), some (sI ((((tkT (fun j => hI h 58 (7 + j)) n a s).2 : Nat) : Int))), some (sI ((((tkT (fun j => hI h 58 (7 + j)) n a s).1 : Nat) : Int))), some (sI ((s : Int))), some (sI 0), some (sI 0)], [], h)) rfl ?_
        refine r3 _ ?_
        refine sP 1 (g1 := (40, [some (.ref 53), some (sI ((a : Int))), some (sI ((((tkT (fun j => hI h 58 (7 + j)) n a s).2 : Nat) : Int))), some (sI ((((tkT (fun j => hI h 58 (7 + j)) n a s).1 : Nat) : Int))), some (sI ((s : Int))), some (sI (((tkB (fun j => hI h 58 (7 + j)) n a s 6 : Nat) : Int))), some (sI (((6 : Nat) : Int)))], [sI (((tkB (fun j => hI h 58 (7 + j)) n a s 6 : Nat) : Int))], h)) rfl ?_
        refine s_call (k := 166) (args := [sI (((tkB (fun j => hI h 58 (7 + j)) n a s 6 : Nat) : Int))]) (st := []) (v := some (sI (((pct (tkB (fun j => hI h 58 (7 + j)) n a s 6) : Nat) : Int)))) (h1 := h) rfl ⟨rfl, rfl⟩ rfl rfl rfl rfl rfl rfl ev ?_
        refine sP 1 (g1 := (42, [some (.ref 53), some (sI ((a : Int))), some (sI ((((tkT (fun j => hI h 58 (7 + j)) n a s).2 : Nat) : Int))), some (sI ((((tkT (fun j => hI h 58 (7 + j)) n a s).1 : Nat) : Int))), some (sI ((s : Int))), some (sI (((tkB (fun j => hI h 58 (7 + j)) n a s 6 : Nat) : Int))), some (sI (((6 : Nat) : Int)))], [sI ((((tkT (fun j => hI h 58 (7 + j)) n a s).1 : Nat) : Int)), sI (((pct (tkB (fun j => hI h 58 (7 + j)) n a s 6) : Nat) : Int))], h)) rfl ?_
        refine s_icmp (q := .le) (a := ((pct (tkB (fun j => hI h 58 (7 + j)) n a s 6) : Nat) : Int)) (b := (((tkT (fun j => hI h 58 (7 + j)) n a s).1 : Nat) : Int)) rfl ⟨_, rfl⟩ rfl (by unfold sR aMi aMa; omega) (by unfold sR aMi aMa; omega) (fun hc1 => ?_) (fun hc1 => ?_)
        · have hc1 : ((((pct (tkB (fun j => hI h 58 (7 + j)) n a s 6) : Nat) : Int)) : Int) ≤ ((((tkT (fun j => hI h 58 (7 + j)) n a s).1 : Nat) : Int)) := hc1
          omega
        · have hc1 : ¬ (((((pct (tkB (fun j => hI h 58 (7 + j)) n a s 6) : Nat) : Int)) : Int) ≤ ((((tkT (fun j => hI h 58 (7 + j)) n a s).1 : Nat) : Int))) := hc1
          refine sP 4 (g1 := (48, [some (.ref 53), some (sI ((a : Int))), some (sI ((s : Int))), some (sI ((((tkT (fun j => hI h 58 (7 + j)) n a s).1 : Nat) : Int))), some (sI ((s : Int))), some (sI (((tkB (fun j => hI h 58 (7 + j)) n a s 6 : Nat) : Int))), some (sI (((6 : Nat) : Int)))], [sI (((tkB (fun j => hI h 58 (7 + j)) n a s 6 : Nat) : Int))], h)) rfl ?_
          refine s_call (k := 166) (args := [sI (((tkB (fun j => hI h 58 (7 + j)) n a s 6 : Nat) : Int))]) (st := []) (v := some (sI (((pct (tkB (fun j => hI h 58 (7 + j)) n a s 6) : Nat) : Int)))) (h1 := h) rfl ⟨rfl, rfl⟩ rfl rfl rfl rfl rfl rfl ev ?_
          refine sP 1 (g1 := (50, [some (.ref 53), some (sI ((a : Int))), some (sI ((s : Int))), some (sI ((((tkT (fun j => hI h 58 (7 + j)) n a s).1 : Nat) : Int))), some (sI ((s : Int))), some (sI (((tkB (fun j => hI h 58 (7 + j)) n a s 6 : Nat) : Int))), some (sI (((6 : Nat) : Int)))], [sI ((((tkT (fun j => hI h 58 (7 + j)) n a s).1 : Nat) : Int)), sI (((pct (tkB (fun j => hI h 58 (7 + j)) n a s 6) : Nat) : Int))], h)) rfl ?_
          refine s_icmp (q := .le) (a := ((pct (tkB (fun j => hI h 58 (7 + j)) n a s 6) : Nat) : Int)) (b := (((tkT (fun j => hI h 58 (7 + j)) n a s).1 : Nat) : Int)) rfl ⟨_, rfl⟩ rfl (by unfold sR aMi aMa; omega) (by unfold sR aMi aMa; omega) (fun hc2 => ?_) (fun hc2 => ?_)
          · have hc2 : ((((pct (tkB (fun j => hI h 58 (7 + j)) n a s 6) : Nat) : Int)) : Int) ≤ ((((tkT (fun j => hI h 58 (7 + j)) n a s).1 : Nat) : Int)) := hc2
            omega
          · have hc2 : ¬ (((((pct (tkB (fun j => hI h 58 (7 + j)) n a s 6) : Nat) : Int)) : Int) ≤ ((((tkT (fun j => hI h 58 (7 + j)) n a s).1 : Nat) : Int))) := hc2
            refine sP 1 (g1 := (52, [some (.ref 53), some (sI ((a : Int))), some (sI ((s : Int))), some (sI ((((tkT (fun j => hI h 58 (7 + j)) n a s).1 : Nat) : Int))), some (sI ((s : Int))), some (sI (((tkB (fun j => hI h 58 (7 + j)) n a s 6 : Nat) : Int))), some (sI (((6 : Nat) : Int)))], [sI (((tkB (fun j => hI h 58 (7 + j)) n a s 6 : Nat) : Int))], h)) rfl ?_
            refine s_call (k := 166) (args := [sI (((tkB (fun j => hI h 58 (7 + j)) n a s 6 : Nat) : Int))]) (st := []) (v := some (sI (((pct (tkB (fun j => hI h 58 (7 + j)) n a s 6) : Nat) : Int)))) (h1 := h) rfl ⟨rfl, rfl⟩ rfl rfl rfl rfl rfl rfl ev ?_
            refine sP 2 (g1 := (56, [some (.ref 53), some (sI ((a : Int))), some (sI ((s : Int))), some (sI (((pct (tkB (fun j => hI h 58 (7 + j)) n a s 6) : Nat) : Int))), some (sI ((s : Int))), some (sI (((tkB (fun j => hI h 58 (7 + j)) n a s 6 : Nat) : Int))), some (sI (((6 : Nat) : Int)))], [], h)) rfl ?_
            refine s_inc (a := (s : Int)) (n := 1) (k := 4) rfl rfl rfl ?_
            refine sP 1 (g1 := (12, [some (.ref 53), some (sI ((a : Int))), some (sI ((s : Int))), some (sI (((pct (tkB (fun j => hI h 58 (7 + j)) n a s 6) : Nat) : Int))), some (sI (((s : Int)) + 1)), some (sI (((tkB (fun j => hI h 58 (7 + j)) n a s 6 : Nat) : Int))), some (sI (((6 : Nat) : Int)))], [], h)) rfl ?_
            rw [show ((s : Int) + 1) = ((s + 1 : Nat) : Int) by omega]
            exact r2
    · rw [if_neg hc] at r2
      refine sP 3 (g1 := (15, [some (.ref 53), some (sI ((a : Int))), some (sI ((((tkT (fun j => hI h 58 (7 + j)) n a s).2 : Nat) : Int))), some (sI ((((tkT (fun j => hI h 58 (7 + j)) n a s).1 : Nat) : Int))), some (sI ((s : Int))), X, Y], [.ref 53, sI 1, sI ((s : Int))], h)) rfl ?_
      refine s_get (a := 53) (j := 4) hh rfl ⟨_, rfl⟩ rfl rfl rfl (v := .ref 58) (hR_ok hh (by decide +kernel)) ?_
      refine sP 1 (g1 := (17, [some (.ref 53), some (sI ((a : Int))), some (sI ((((tkT (fun j => hI h 58 (7 + j)) n a s).2 : Nat) : Int))), some (sI ((((tkT (fun j => hI h 58 (7 + j)) n a s).1 : Nat) : Int))), some (sI ((s : Int))), X, Y], [sI 0, .ref 58, sI 1, sI ((s : Int))], h)) rfl ?_
      refine s_iald (a := 58) (n := 201) (j := 0) hh rfl rfl rfl (by omega) (by omega) (by decide) (v := sI ((n : Int))) (by have q := hI_ok hh nw_p; rw [hn] at q; exact q) ?_
      refine s_shl7 (a := n) rfl rfl (by omega) ?_
      refine s_icmp (q := .ge) (a := (s : Int)) (b := ((2 ^ n : Nat) : Int)) rfl ⟨_, rfl⟩ rfl (by unfold sR aMi aMa; omega) (by unfold sR aMi aMa; omega) (fun hc1 => ?_) (fun hc1 => ?_)
      · have hc1 : ((((2 ^ n : Nat) : Int)) : Int) ≤ ((s : Int)) := hc1
        omega
      · have hc1 : ¬ (((((2 ^ n : Nat) : Int)) : Int) ≤ ((s : Int))) := hc1
        refine sP 4 (g1 := (24, [some (.ref 53), some (sI ((a : Int))), some (sI ((((tkT (fun j => hI h 58 (7 + j)) n a s).2 : Nat) : Int))), some (sI ((((tkT (fun j => hI h 58 (7 + j)) n a s).1 : Nat) : Int))), some (sI ((s : Int))), some (sI 0), some (sI 0)], [], h)) rfl ?_
        refine r3 _ ?_
        refine sP 1 (g1 := (40, [some (.ref 53), some (sI ((a : Int))), some (sI ((((tkT (fun j => hI h 58 (7 + j)) n a s).2 : Nat) : Int))), some (sI ((((tkT (fun j => hI h 58 (7 + j)) n a s).1 : Nat) : Int))), some (sI ((s : Int))), some (sI (((tkB (fun j => hI h 58 (7 + j)) n a s 6 : Nat) : Int))), some (sI (((6 : Nat) : Int)))], [sI (((tkB (fun j => hI h 58 (7 + j)) n a s 6 : Nat) : Int))], h)) rfl ?_
        refine s_call (k := 166) (args := [sI (((tkB (fun j => hI h 58 (7 + j)) n a s 6 : Nat) : Int))]) (st := []) (v := some (sI (((pct (tkB (fun j => hI h 58 (7 + j)) n a s 6) : Nat) : Int)))) (h1 := h) rfl ⟨rfl, rfl⟩ rfl rfl rfl rfl rfl rfl ev ?_
        refine sP 1 (g1 := (42, [some (.ref 53), some (sI ((a : Int))), some (sI ((((tkT (fun j => hI h 58 (7 + j)) n a s).2 : Nat) : Int))), some (sI ((((tkT (fun j => hI h 58 (7 + j)) n a s).1 : Nat) : Int))), some (sI ((s : Int))), some (sI (((tkB (fun j => hI h 58 (7 + j)) n a s 6 : Nat) : Int))), some (sI (((6 : Nat) : Int)))], [sI ((((tkT (fun j => hI h 58 (7 + j)) n a s).1 : Nat) : Int)), sI (((pct (tkB (fun j => hI h 58 (7 + j)) n a s 6) : Nat) : Int))], h)) rfl ?_
        refine s_icmp (q := .le) (a := ((pct (tkB (fun j => hI h 58 (7 + j)) n a s 6) : Nat) : Int)) (b := (((tkT (fun j => hI h 58 (7 + j)) n a s).1 : Nat) : Int)) rfl ⟨_, rfl⟩ rfl (by unfold sR aMi aMa; omega) (by unfold sR aMi aMa; omega) (fun hc1 => ?_) (fun hc1 => ?_)
        · have hc1 : ((((pct (tkB (fun j => hI h 58 (7 + j)) n a s 6) : Nat) : Int)) : Int) ≤ ((((tkT (fun j => hI h 58 (7 + j)) n a s).1 : Nat) : Int)) := hc1
          refine sP 3 (g1 := (48, [some (.ref 53), some (sI ((a : Int))), some (sI ((((tkT (fun j => hI h 58 (7 + j)) n a s).2 : Nat) : Int))), some (sI ((((tkT (fun j => hI h 58 (7 + j)) n a s).1 : Nat) : Int))), some (sI ((s : Int))), some (sI (((tkB (fun j => hI h 58 (7 + j)) n a s 6 : Nat) : Int))), some (sI (((6 : Nat) : Int)))], [sI (((tkB (fun j => hI h 58 (7 + j)) n a s 6 : Nat) : Int))], h)) rfl ?_
          refine s_call (k := 166) (args := [sI (((tkB (fun j => hI h 58 (7 + j)) n a s 6 : Nat) : Int))]) (st := []) (v := some (sI (((pct (tkB (fun j => hI h 58 (7 + j)) n a s 6) : Nat) : Int)))) (h1 := h) rfl ⟨rfl, rfl⟩ rfl rfl rfl rfl rfl rfl ev ?_
          refine sP 1 (g1 := (50, [some (.ref 53), some (sI ((a : Int))), some (sI ((((tkT (fun j => hI h 58 (7 + j)) n a s).2 : Nat) : Int))), some (sI ((((tkT (fun j => hI h 58 (7 + j)) n a s).1 : Nat) : Int))), some (sI ((s : Int))), some (sI (((tkB (fun j => hI h 58 (7 + j)) n a s 6 : Nat) : Int))), some (sI (((6 : Nat) : Int)))], [sI ((((tkT (fun j => hI h 58 (7 + j)) n a s).1 : Nat) : Int)), sI (((pct (tkB (fun j => hI h 58 (7 + j)) n a s 6) : Nat) : Int))], h)) rfl ?_
          refine s_icmp (q := .le) (a := ((pct (tkB (fun j => hI h 58 (7 + j)) n a s 6) : Nat) : Int)) (b := (((tkT (fun j => hI h 58 (7 + j)) n a s).1 : Nat) : Int)) rfl ⟨_, rfl⟩ rfl (by unfold sR aMi aMa; omega) (by unfold sR aMi aMa; omega) (fun hc2 => ?_) (fun hc2 => ?_)
          · have hc2 : ((((pct (tkB (fun j => hI h 58 (7 + j)) n a s 6) : Nat) : Int)) : Int) ≤ ((((tkT (fun j => hI h 58 (7 + j)) n a s).1 : Nat) : Int)) := hc2
            refine sP 2 (g1 := (56, [some (.ref 53), some (sI ((a : Int))), some (sI ((((tkT (fun j => hI h 58 (7 + j)) n a s).2 : Nat) : Int))), some (sI ((((tkT (fun j => hI h 58 (7 + j)) n a s).1 : Nat) : Int))), some (sI ((s : Int))), some (sI (((tkB (fun j => hI h 58 (7 + j)) n a s 6 : Nat) : Int))), some (sI (((6 : Nat) : Int)))], [], h)) rfl ?_
            refine s_inc (a := (s : Int)) (n := 1) (k := 4) rfl rfl rfl ?_
            refine sP 1 (g1 := (12, [some (.ref 53), some (sI ((a : Int))), some (sI ((((tkT (fun j => hI h 58 (7 + j)) n a s).2 : Nat) : Int))), some (sI ((((tkT (fun j => hI h 58 (7 + j)) n a s).1 : Nat) : Int))), some (sI (((s : Int)) + 1)), some (sI (((tkB (fun j => hI h 58 (7 + j)) n a s 6 : Nat) : Int))), some (sI (((6 : Nat) : Int)))], [], h)) rfl ?_
            rw [show ((s : Int) + 1) = ((s + 1 : Nat) : Int) by omega]
            exact r2
          · have hc2 : ¬ (((((pct (tkB (fun j => hI h 58 (7 + j)) n a s 6) : Nat) : Int)) : Int) ≤ ((((tkT (fun j => hI h 58 (7 + j)) n a s).1 : Nat) : Int))) := hc2
            omega
        · have hc1 : ¬ (((((pct (tkB (fun j => hI h 58 (7 + j)) n a s 6) : Nat) : Int)) : Int) ≤ ((((tkT (fun j => hI h 58 (7 + j)) n a s).1 : Nat) : Int))) := hc1
          omega
theorem fTellsM {n a : Nat} (hh : aHp h) (hn : hI h 58 0 = n) (ha : a < n) : ∃ g, nEv sc (d + 3) 199 [.ref 53, sI (a : Int)] h (some (sI (((tkT (fun j => hI h 58 (7 + j)) n a (2 ^ n)).2 : Nat) : Int)), g) ∧ aHp g ∧ ∀ p m, aSlot g p m = if p = 53 ∧ m = 8 then some (sI (((tkT (fun j => hI h 58 (7 + j)) n a (2 ^ n)).1 : Nat) : Int)) else aSlot h p m := by
  have gp := hI_rg hh nw_p
  have p2 := p2_le (show n ≤ 6 by omega)
  have le := tkT_le (fun j => hI h 58 (7 + j)) n a (2 ^ n)
  obtain ⟨g2, e2, j1, j2⟩ := fAnswer (sc := sc) (d := d + 1) (v := (((tkT (fun j => hI h 58 (7 + j)) n a (2 ^ n)).2 : Nat) : Int)) (t := (((tkT (fun j => hI h 58 (7 + j)) n a (2 ^ n)).1 : Nat) : Int)) hh (by unfold sR aMi aMa; omega)
  refine ⟨g2, nEv_of (t := mMe199) rfl ?_, j1, j2⟩
  show nRn sc (d + 2) (mMT mMe199) (mMC mMe199) (0, [some (.ref 53), some (sI ((a : Int))), none, none, none, none, none], [], h) _
  refine sP 2 (g1 := (2, [some (.ref 53), some (sI ((a : Int))), none, none, none, none, none], [sI ((a : Int)), .ref 53], h)) rfl ?_
  have ev1 := fIsPerson (sc := sc) (d := d + 0) (a := (a : Int)) hh (by unfold sR aMi aMa; omega)
  rw [if_pos (by omega)] at ev1
  refine s_call (k := 147) (args := [.ref 53, sI ((a : Int))]) (st := []) (v := some (sI 1)) (h1 := h) rfl ⟨rfl, rfl⟩ rfl rfl rfl rfl (sRcv hh (a := 53) rfl rfl) rfl ev1 ?_
  refine s_ifc (q := .ne) (a := 1) rfl ⟨_, rfl⟩ rfl (by unfold sR aMi aMa; omega) (fun hc2 => ?_) (fun hc2 => ?_)
  · have hc2 : (1 : Int) ≠ 0 := hc2
    refine sP 6 (g1 := (12, [some (.ref 53), some (sI ((a : Int))), some (sI 0), some (sI 0), some (sI 0), none, none], [], h)) rfl ?_
    refine fTellsML (sc := sc) (d := d) hh hn ha (2 ^ n) 0 none none (by omega) _ (fun X Y => ?_)
    refine sP 3 (g1 := (61, [some (.ref 53), some (sI ((a : Int))), some (sI ((((tkT (fun j => hI h 58 (7 + j)) n a (2 ^ n)).2 : Nat) : Int))), some (sI ((((tkT (fun j => hI h 58 (7 + j)) n a (2 ^ n)).1 : Nat) : Int))), some (sI (((2 ^ n : Nat) : Int))), X, Y], [sI ((((tkT (fun j => hI h 58 (7 + j)) n a (2 ^ n)).1 : Nat) : Int)), sI ((((tkT (fun j => hI h 58 (7 + j)) n a (2 ^ n)).2 : Nat) : Int)), .ref 53], h)) rfl ?_
    refine s_call (k := 186) (args := [.ref 53, sI ((((tkT (fun j => hI h 58 (7 + j)) n a (2 ^ n)).2 : Nat) : Int)), sI ((((tkT (fun j => hI h 58 (7 + j)) n a (2 ^ n)).1 : Nat) : Int))]) (st := []) (v := some (sI ((((tkT (fun j => hI h 58 (7 + j)) n a (2 ^ n)).2 : Nat) : Int)))) (h1 := g2) rfl ⟨rfl, rfl⟩ rfl rfl rfl rfl (sRcv hh (a := 53) rfl rfl) rfl e2 ?_
    exact s_reti rfl rfl (Or.inl rfl) rfl rfl
  · have hc2 : ¬ ((1 : Int) ≠ 0) := hc2
    omega
end TELLS
theorem wTells {sc : List Int32} {h : mH} (x : Int32) (hp : wP h) : ∃ z1 h1 z2 h2, nEv sc 100 95 (.ref 0 :: [x].map Value.int) h (some (.int z1), h1) ∧ aHp h1 ∧ nEv sc 100 199 (.ref 53 :: [x].map Value.int) h1 (some (.int z2), h2) ∧ wP h2 ∧ z2 = z1 := by
  have hh := wP_a h hp
  have rx : sR x.toInt := aI_rg x
  have e3 : hI h 3 3 = hI h 58 0 := hp.2.1.1
  have gp := hI_rg hh xw_p
  obtain ⟨n, en⟩ := iN gp.1
  by_cases c1 : 0 ≤ x.toInt ∧ x.toInt < hI h 3 3
  · obtain ⟨a, ea⟩ := iN c1.1
    obtain ⟨g1, a1, a2, a3⟩ := fTellsX (sc := sc) (d := 95) (n := n) (a := a) hh en (by omega)
    have k0 : ∀ p m, ¬ (p = 0 ∧ m = 9) → aSlot g1 p m = aSlot h p m := fun p m w => by rw [a3, if_neg w]
    have e0 : hI g1 58 0 = hI h 58 0 := hI_cg (k0 58 0 (by omega))
    obtain ⟨g2, b1, b2, b3⟩ := fTellsM (sc := sc) (d := 97) (n := n) (a := a) a2 (by omega) (by omega)
    have hr : nR h g1 := nR_sl hp.2.1 (fun _ _ _ _ => rfl) (fun m => k0 58 m (by omega))
    have t1 : ∀ p m, ¬ (p = 0 ∧ m = 9) → ¬ (p = 53 ∧ m = 8) → aSlot g2 p m = aSlot h p m := fun p m w1 w2 => by rw [b3, if_neg w2, k0 p m w1]
    refine pair1 (h1 := g1) (h2 := g2) (by rw [ea]; exact a1) a2 (by rw [ea]; exact b1) (wP_sl hp (tP_sl hp.1 b2 (fun e m w => t1 e m (by omega) (by omega))) (fun p m w => t1 p m (by omega) (by omega))) ?_
    rw [tkT_cg (fun s kd => nR_seem hr en (show a < n by omega)) (2 ^ n)]
  · exact pair1 (fTellsXb (d := 97) hh rx c1) hh (fTellsMb (d := 97) hh rx (by omega)) hp rfl
