/-! the law's loop -/
noncomputable def lGoAll (T : List aCt) (ex : List (Nat × List lV)) : Bool := (List.range 43).all (fun op => lGo T ex 100 (mTgt (mLaw.getD 21 (0, .nop, 0, [])) (1 + op)) [])
section LOOP
variable {sc : List Int32} {D dm : Nat} {T : List aCt} {ex : List (Nat × List lV)} {P : mH → Prop}
theorem lHead {i : Nat} {h : mH} {r : mR} (hl : sc.length ≤ 384) (hi : i ≤ 390) (hr : nRn sc D (some .boolean) mLaw (if i + 6 ≤ sc.length then (16, lM i, [], h) else (975, lM i, [], h)) r) : nRn sc D (some .boolean) mLaw (10, lM i, [], h) r := by
  obtain ⟨en, e1, e2⟩ : ∃ en, mLaw[10]? = some en ∧ en.2.1 = .iload_n 3 := ⟨_, rfl, rfl⟩
  refine lStep (g := (10, lM i, [], h)) (g1 := (11, lM i, [.int (Int32.ofNat i)], h)) e1 (by unfold nCl; rw [e2]; intro q; cases q) ⟨0, fun n _ => mStep_A1 (by unfold mA1; rw [e2]; rfl)⟩ ?_
  obtain ⟨en, e1, e2⟩ : ∃ en, mLaw[11]? = some en ∧ en.2.1 = .aload_n 0 := ⟨_, rfl, rfl⟩
  refine lStep (g := (11, lM i, [.int (Int32.ofNat i)], h)) (g1 := (12, lM i, [.retAddr 0, .int (Int32.ofNat i)], h)) e1 (by unfold nCl; rw [e2]; intro q; cases q) ⟨0, fun n _ => mStep_A1 (by unfold mA1; rw [e2]; rfl)⟩ ?_
  obtain ⟨en, e1, e2⟩ : ∃ en, mLaw[12]? = some en ∧ en.2.1 = .arraylength := ⟨_, rfl, rfl⟩
  refine lStep (g := (12, lM i, [.retAddr 0, .int (Int32.ofNat i)], h)) (g1 := (13, lM i, [.int (Int32.ofNat sc.length), .int (Int32.ofNat i)], h)) e1 (by unfold nCl; rw [e2]; intro q; cases q) ⟨0, fun n _ => mStep_F2 (by unfold mF2; rw [e2]; rfl)⟩ ?_
  obtain ⟨en, e1, e2⟩ : ∃ en, mLaw[13]? = some en ∧ en.2.1 = .bipush 6 := ⟨_, rfl, rfl⟩
  refine lStep (g := (13, lM i, [.int (Int32.ofNat sc.length), .int (Int32.ofNat i)], h)) (g1 := (14, lM i, [.int 6, .int (Int32.ofNat sc.length), .int (Int32.ofNat i)], h)) e1 (by unfold nCl; rw [e2]; intro q; cases q) ⟨0, fun n _ => mStep_A1 (by unfold mA1; rw [e2]; rfl)⟩ ?_
  obtain ⟨en, e1, e2⟩ : ∃ en, mLaw[14]? = some en ∧ en.2.1 = .isub := ⟨_, rfl, rfl⟩
  refine lStep (g := (14, lM i, [.int 6, .int (Int32.ofNat sc.length), .int (Int32.ofNat i)], h)) (g1 := (15, lM i, [.int (Int32.ofNat sc.length - 6), .int (Int32.ofNat i)], h)) e1 (by unfold nCl; rw [e2]; intro q; cases q) ⟨0, fun n _ => mStep_B1 (by unfold mB1; rw [e2])⟩ ?_
  obtain ⟨en, e1, ⟨z, e2⟩, e3⟩ : ∃ en, mLaw[15]? = some en ∧ (∃ z, en.2.1 = .if_icmp .gt z) ∧ mTgt en 0 = 975 := ⟨_, rfl, ⟨_, rfl⟩, rfl⟩
  have h6 : (6 : Int32).toInt = 6 := rfl
  have hln := lI_nat (n := sc.length) (by omega)
  have hin := lI_nat (n := i) (by omega)
  have hsub : (Int32.ofNat sc.length - 6).toInt = (sc.length : Int) - 6 := by
    rw [aI_sub (by rw [hln, h6]; unfold aMi; omega) (by rw [hln, h6]; unfold aMa; omega), hln, h6]
  have hcmp : mC2 .gt (Int32.ofNat i) (Int32.ofNat sc.length - 6) = decide (¬ i + 6 ≤ sc.length) := by
    show decide (Int32.ofNat i > Int32.ofNat sc.length - 6) = _
    rw [decide_eq_decide]
    show Int32.ofNat sc.length - 6 < Int32.ofNat i ↔ _
    rw [Int32.lt_iff_toInt_lt, hsub, hin]
    omega
  refine lStep (g := (15, lM i, [.int (Int32.ofNat sc.length - 6), .int (Int32.ofNat i)], h)) (g1 := (if i + 6 ≤ sc.length then (16, lM i, [], h) else (975, lM i, [], h))) e1 (by unfold nCl; rw [e2]; intro q; cases q) ⟨0, fun n _ => mStep_B3 (by
    unfold mB3
    rw [e2]
    dsimp only
    rw [hcmp]
    unfold mIf
    rw [e3]
    by_cases hc : i + 6 ≤ sc.length
    · rw [if_pos hc, if_neg (by simp [hc])]
    · rw [if_neg hc, if_pos (by simp [hc])])⟩ hr
set_option maxRecDepth 100000 in
theorem lEnd {i : Nat} {h : mH} : nRn sc D (some .boolean) mLaw (975, lM i, [], h) (some (.int 1), h) := by
  obtain ⟨en, e1, e2⟩ : ∃ en, mLaw[975]? = some en ∧ en.2.1 = .iconst 1 := ⟨_, rfl, rfl⟩
  refine lStep (g := (975, lM i, [], h)) (g1 := (976, lM i, [.int 1], h)) e1 (by unfold nCl; rw [e2]; intro q; cases q) ⟨0, fun n _ => mStep_A1 (by unfold mA1; rw [e2]; rfl)⟩ ?_
  obtain ⟨en, e1, e2⟩ : ∃ en, mLaw[976]? = some en ∧ en.2.1 = .ireturn := ⟨_, rfl, rfl⟩
  refine nRn_ret (g := (976, lM i, [.int 1], h)) e1 ?_
  unfold mRt
  rw [e2]
  rfl
set_option maxRecDepth 100000 in
theorem lBack {i : Nat} {h : mH} {r : mR} (hi : i ≤ 384) (hr : nRn sc D (some .boolean) mLaw (10, lM (i + 6), [], h) r) : nRn sc D (some .boolean) mLaw (973, lM i, [], h) r := by
  obtain ⟨en, e1, e2⟩ : ∃ en, mLaw[973]? = some en ∧ en.2.1 = .iinc 3 6 := ⟨_, rfl, rfl⟩
  have hS : mS1 (lM i) 3 (.int (Int32.ofNat i + Int32.ofInt 6)) = lM (i + 6) := by
    have : Int32.ofNat i + Int32.ofInt 6 = Int32.ofNat (i + 6) := lI_add (a := i) (b := 6) (by omega)
    rw [this]
    rfl
  refine lStep (g := (973, lM i, [], h)) (g1 := (974, lM (i + 6), [], h)) e1 (by unfold nCl; rw [e2]; intro q; cases q) ⟨0, fun n _ => mStep_A2 (by unfold mA2; rw [e2]; rw [← hS]; rfl)⟩ ?_
  obtain ⟨en, e1, ⟨z, e2⟩, e3⟩ : ∃ en, mLaw[974]? = some en ∧ (∃ z, en.2.1 = .goto z) ∧ mTgt en 0 = 10 := ⟨_, rfl, ⟨_, rfl⟩, rfl⟩
  exact lStep (g := (974, lM (i + 6), [], h)) (g1 := (10, lM (i + 6), [], h)) e1 (by unfold nCl; rw [e2]; intro q; cases q) ⟨0, fun n _ => mStep_B3 (by unfold mB3; rw [e2]; dsimp only; rw [e3])⟩ hr
theorem lSwitch {i : Nat} {h : mH} (hl : sc.length ≤ 384) (hi : i + 6 ≤ sc.length) : ∃ j, (j = 973 ∨ ∃ op : Nat, op < 43 ∧ j = mTgt (mLaw.getD 21 (0, .nop, 0, [])) (1 + op)) ∧ ∀ r, nRn sc D (some .boolean) mLaw (j, lM i, [], h) r → nRn sc D (some .boolean) mLaw (16, lM i, [], h) r := by
  suffices hsuf : ∃ j, (j = 973 ∨ ∃ op : Nat, op < 43 ∧ j = mTgt (mLaw.getD 21 (0, .nop, 0, [])) (1 + op)) ∧ ∀ r, nRn sc D (some .boolean) mLaw (j, lM i, [], h) r → nRn sc D (some .boolean) mLaw (21, lM i, [.int (sc.getD i 0 &&& 63)], h) r by
    obtain ⟨j, j1, j2⟩ := hsuf
    refine ⟨j, j1, fun r hr => ?_⟩
    have hr := j2 r hr
    clear j1 j2
    obtain ⟨en, e1, e2⟩ : ∃ en, mLaw[16]? = some en ∧ en.2.1 = .aload_n 0 := ⟨_, rfl, rfl⟩
    refine lStep (g := (16, lM i, [], h)) (g1 := (17, lM i, [.retAddr 0], h)) e1 (by unfold nCl; rw [e2]; intro q; cases q) ⟨0, fun n _ => mStep_A1 (by unfold mA1; rw [e2]; rfl)⟩ ?_
    obtain ⟨en, e1, e2⟩ : ∃ en, mLaw[17]? = some en ∧ en.2.1 = .iload_n 3 := ⟨_, rfl, rfl⟩
    refine lStep (g := (17, lM i, [.retAddr 0], h)) (g1 := (18, lM i, [.int (Int32.ofNat i), .retAddr 0], h)) e1 (by unfold nCl; rw [e2]; intro q; cases q) ⟨0, fun n _ => mStep_A1 (by unfold mA1; rw [e2]; rfl)⟩ ?_
    obtain ⟨en, e1, e2⟩ : ∃ en, mLaw[18]? = some en ∧ en.2.1 = .iaload := ⟨_, rfl, rfl⟩
    obtain ⟨x1, x2⟩ := aJx (z := Int32.ofNat i) (j := i) (n := sc.length) (lI_nat (by omega)) (by omega)
    refine lStep (g := (18, lM i, [.int (Int32.ofNat i), .retAddr 0], h)) (g1 := (19, lM i, [.int (sc.getD i 0)], h)) e1 (by unfold nCl; rw [e2]; intro q; cases q) ⟨0, fun n _ => mStep_F2 (by
      unfold mF2
      rw [e2]
      dsimp only
      rw [show mXs sc 0 = sc from rfl, if_pos ⟨by decide, x1⟩, x2])⟩ ?_
    obtain ⟨en, e1, e2⟩ : ∃ en, mLaw[19]? = some en ∧ en.2.1 = .bipush 63 := ⟨_, rfl, rfl⟩
    refine lStep (g := (19, lM i, [.int (sc.getD i 0)], h)) (g1 := (20, lM i, [.int 63, .int (sc.getD i 0)], h)) e1 (by unfold nCl; rw [e2]; intro q; cases q) ⟨0, fun n _ => mStep_A1 (by unfold mA1; rw [e2]; rfl)⟩ ?_
    obtain ⟨en, e1, e2⟩ : ∃ en, mLaw[20]? = some en ∧ en.2.1 = .iand := ⟨_, rfl, rfl⟩
    refine lStep (g := (20, lM i, [.int 63, .int (sc.getD i 0)], h)) (g1 := (21, lM i, [.int (sc.getD i 0 &&& 63)], h)) e1 (by unfold nCl; rw [e2]; intro q; cases q) ⟨0, fun n _ => mStep_B1 (by unfold mB1; rw [e2])⟩ hr
  obtain ⟨en, e1, ⟨z, o, e2⟩, e3, e4⟩ : ∃ en, mLaw[21]? = some en ∧ (∃ z o, en.2.1 = .tableswitch z 0 42 o) ∧ mTgt en 0 = 973 ∧ mLaw.getD 21 (0, .nop, 0, []) = en := ⟨_, rfl, ⟨_, _, rfl⟩, rfl, rfl⟩
  rw [e4]
  obtain ⟨b1, b2⟩ := aAnd_r (x := sc.getD i 0) (y := 63) (by decide)
  generalize sc.getD i 0 &&& 63 = v at b1 b2
  by_cases hv : v.toInt < 0 ∨ 42 < v.toInt
  · exact ⟨973, Or.inl rfl, fun r hr => lStep (g := (21, lM i, [.int v], h)) (g1 := (973, lM i, [], h)) e1 (by unfold nCl; rw [e2]; intro q; cases q) ⟨0, fun n _ => mStep_B3 (by
      unfold mB3
      rw [e2]
      dsimp only
      rw [if_pos hv, e3])⟩ hr⟩
  · exact ⟨_, Or.inr ⟨(v.toInt - 0).toNat, by omega, rfl⟩, fun r hr => lStep (g := (21, lM i, [.int v], h)) (g1 := (mTgt en (1 + (v.toInt - 0).toNat), lM i, [], h)) e1 (by unfold nCl; rw [e2]; intro q; cases q) ⟨0, fun n _ => mStep_B3 (by
      unfold mB3
      rw [e2]
      dsimp only
      rw [if_neg hv])⟩ hr⟩
theorem lLoop (hP : ∀ h, P h → aHp h) (hT : ∀ c ∈ T, nMe sc dm c) (hD : dm ≤ D) (hK : ∀ c ∈ T, ∀ h h1, P h → aHp h1 → nFr c.2.2.2 h h1 → P h1)
    (hX : ∀ i, i + 6 ≤ sc.length → ∃ z0, ∀ p ∈ ex, ∀ av h, P h → lSk sc i z0 p.2 av → ∃ h1, nEv sc D p.1 av h (some (.int z0), h1) ∧ P h1) (hl : sc.length ≤ 384) (hg : lGoAll T ex = true) : ∀ (k i : Nat), sc.length ≤ i + k → i ≤ 390 → ∀ h, P h → ∃ h1, P h1 ∧ nRn sc D (some .boolean) mLaw (10, lM i, [], h) (some (.int 1), h1) := by
  intro k
  induction k using Nat.strongRecOn with
  | ind k ih =>
    intro i hk hi h hh
    by_cases hc : i + 6 ≤ sc.length
    · obtain ⟨z0, hz⟩ := hX i hc
      have hn : ∀ op : Nat, op < 43 → lNext sc D i P (mTgt (mLaw.getD 21 (0, .nop, 0, [])) (1 + op)) [] h := fun op ho => lGo_ok (z0 := z0) hP hT hD hK hz hc hl 100 _ [] (List.all_eq_true.mp hg op (List.mem_range.mpr ho)) [] h hh trivial
      have hnx : ∀ h1, P h1 → ∃ h2, P h2 ∧ nRn sc D (some .boolean) mLaw (973, lM i, [], h1) (some (.int 1), h2) := by
        intro h1 hp1
        obtain ⟨h2, p1, p2⟩ := ih (k - 6) (by omega) (i + 6) (by omega) (by omega) h1 hp1
        exact ⟨h2, p1, lBack (by omega) p2⟩
      obtain ⟨j, hj, hsw⟩ := lSwitch (D := D) (h := h) hl hc
      rcases hj with rfl | ⟨op, ho, rfl⟩
      · obtain ⟨h2, p1, p2⟩ := hnx h hh
        exact ⟨h2, p1, lHead hl hi (by rw [if_pos hc]; exact hsw _ p2)⟩
      · obtain ⟨h1, q1, q2⟩ := hn op ho
        obtain ⟨h2, p1, p2⟩ := hnx h1 q1
        exact ⟨h2, p1, lHead hl hi (by rw [if_pos hc]; exact hsw _ (q2 _ p2))⟩
    · exact ⟨h, hh, lHead hl hi (by rw [if_neg hc]; exact lEnd)⟩
end LOOP
