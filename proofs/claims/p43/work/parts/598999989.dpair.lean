/-! what is found is kept alike -/
def kP (h : mH) : Prop := vP h ∧ dP h
theorem kP_a (h : mH) (hp : kP h) : aHp h := vP_a h hp.1
def eMiss (ms : aMd) : Bool := ms.all (fun m => decide (¬ (m.1 = 0 ∧ m.2.1 ≤ 8 ∧ 8 ≤ m.2.2) ∧ m.1 ≠ 20 ∧ ¬ (m.1 = 53 ∧ m.2.1 ≤ 11 ∧ 11 ≤ m.2.2) ∧ m.1 ≠ 62))
theorem dP_fr {h h1 : mH} {ms : aMd} (hd : dP h) (hf : nFr ms h h1) (hm : eMiss ms = true) : dP h1 := by
  refine dP_K hd (fun p m w => hf p m ?_)
  rintro ⟨q, q1, q2, q3, q4⟩
  have h2 := of_decide_eq_true (List.all_eq_true.mp hm q q1)
  omega
theorem kP_fr {h h1 : mH} {ms : aMd} (hp : kP h) (hh1 : aHp h1) (hf : nFr ms h h1) (hm : ((wMiss ms && rMiss ms) && eMiss ms) = true) : kP h1 := by
  rw [Bool.and_eq_true] at hm
  exact ⟨vP_fr hp.1 hh1 hf hm.1, dP_fr hp.2 hf hm.2⟩
theorem kP_U {h : mH} (hp : kP h) : hI h 3 4 < ((2 ^ (hI h 3 3).toNat : Nat) : Int) := hp.1.1.2.1.2.2.2.2.2.1
theorem kRow {sc : List Int32} {h : mH} (x y : Int32) (hp : kP h) : ∃ z1 h1 z2 h2, nEv sc 100 7 (.ref 0 :: [x, y].map Value.int) h (some (.int z1), h1) ∧ aHp h1 ∧ nEv sc 100 125 (.ref 53 :: [x, y].map Value.int) h1 (some (.int z2), h2) ∧ kP h2 := by
  obtain ⟨z1, h1, z2, h2, a1, a2, a3, a4, -⟩ := vRow (sc := sc) x y hp.1
  exact ⟨z1, h1, z2, h2, a1, a2, a3, a4.1, a4.2.1 hp.2⟩
theorem kLay {sc : List Int32} {h : mH} (x y z : Int32) (hp : kP h) : ∃ z1 h1 z2 h2, nEv sc 100 12 (.ref 0 :: [x, y, z].map Value.int) h (some (.int z1), h1) ∧ aHp h1 ∧ nEv sc 100 129 (.ref 53 :: [x, y, z].map Value.int) h1 (some (.int z2), h2) ∧ kP h2 := by
  obtain ⟨z1, h1, z2, h2, a1, a2, a3, a4, -⟩ := vLay (sc := sc) x y z hp.1
  exact ⟨z1, h1, z2, h2, a1, a2, a3, a4.1, a4.2.1 hp.2⟩
theorem kTear {sc : List Int32} {h : mH} (x : Int32) (hp : kP h) : ∃ z1 h1 z2 h2, nEv sc 100 15 (.ref 0 :: [x].map Value.int) h (some (.int z1), h1) ∧ aHp h1 ∧ nEv sc 100 132 (.ref 53 :: [x].map Value.int) h1 (some (.int z2), h2) ∧ kP h2 := by
  obtain ⟨z1, h1, z2, h2, a1, a2, a3, a4, -⟩ := vTear (sc := sc) x hp.1
  exact ⟨z1, h1, z2, h2, a1, a2, a3, a4.1, a4.2.1 hp.2⟩
theorem kCopy {sc : List Int32} {h : mH} (x y z u v : Int32) (hp : kP h) : ∃ z1 h1 z2 h2, nEv sc 100 16 (.ref 0 :: [x, y, z, u, v].map Value.int) h (some (.int z1), h1) ∧ aHp h1 ∧ nEv sc 100 133 (.ref 53 :: [x, y, z, u, v].map Value.int) h1 (some (.int z2), h2) ∧ kP h2 := by
  obtain ⟨z1, h1, z2, h2, a1, a2, a3, a4, -⟩ := vCopy (sc := sc) x y z u v hp.1
  exact ⟨z1, h1, z2, h2, a1, a2, a3, a4.1, a4.2.1 hp.2⟩
theorem kAt {sc : List Int32} {h : mH} (x y : Int32) (hp : kP h) : ∃ z1 h1 z2 h2, nEv sc 100 14 (.ref 0 :: [x, y].map Value.int) h (some (.int z1), h1) ∧ aHp h1 ∧ nEv sc 100 131 (.ref 53 :: [x, y].map Value.int) h1 (some (.int z2), h2) ∧ kP h2 := by
  obtain ⟨z1, h1, z2, h2, a1, a2, a3, a4, -⟩ := vAt (sc := sc) x y hp.1
  exact ⟨z1, h1, z2, h2, a1, a2, a3, a4.1, a4.2.1 hp.2⟩
theorem kMean {sc : List Int32} {h : mH} (x : Int32) (hp : kP h) : ∃ z1 h1 z2 h2, nEv sc 100 18 (.ref 0 :: [x].map Value.int) h (some (.int z1), h1) ∧ aHp h1 ∧ nEv sc 100 134 (.ref 53 :: [x].map Value.int) h1 (some (.int z2), h2) ∧ kP h2 := by
  obtain ⟨z1, h1, z2, h2, a1, a2, a3, a4, -⟩ := vMean (sc := sc) x hp.1
  exact ⟨z1, h1, z2, h2, a1, a2, a3, a4.1, a4.2.1 hp.2⟩
theorem kFits {sc : List Int32} {h : mH} (x y z : Int32) (hp : kP h) : ∃ z1 h1 z2 h2, nEv sc 100 91 (.ref 0 :: [x, y, z].map Value.int) h (some (.int z1), h1) ∧ aHp h1 ∧ nEv sc 100 195 (.ref 53 :: [x, y, z].map Value.int) h1 (some (.int z2), h2) ∧ kP h2 := by
  obtain ⟨z1, h1, z2, h2, a1, a2, a3, a4, -⟩ := vFitsE (sc := sc) x y z hp.1
  exact ⟨z1, h1, z2, h2, a1, a2, a3, a4.1, a4.2.1 hp.2⟩
theorem kKinds {sc : List Int32} {h : mH} (x y : Int32) (hp : kP h) : ∃ z1 h1 z2 h2, nEv sc 100 94 (.ref 0 :: [x, y].map Value.int) h (some (.int z1), h1) ∧ aHp h1 ∧ nEv sc 100 198 (.ref 53 :: [x, y].map Value.int) h1 (some (.int z2), h2) ∧ kP h2 := by
  obtain ⟨z1, h1, z2, h2, a1, a2, a3, a4, -⟩ := vKinds (sc := sc) x y hp.1
  exact ⟨z1, h1, z2, h2, a1, a2, a3, a4.1, a4.2.1 hp.2⟩
theorem kSteps {sc : List Int32} {h : mH} (x : Int32) (hp : kP h) : ∃ z1 h1 z2 h2, nEv sc 100 84 (.ref 0 :: [x].map Value.int) h (some (.int z1), h1) ∧ aHp h1 ∧ nEv sc 100 190 (.ref 53 :: [x].map Value.int) h1 (some (.int z2), h2) ∧ kP h2 := by
  obtain ⟨z1, h1, z2, h2, a1, a2, a3, a4, -⟩ := vSteps (sc := sc) x hp.1 (kP_U hp)
  exact ⟨z1, h1, z2, h2, a1, a2, a3, a4.1, a4.2.1 hp.2⟩
theorem kText {sc : List Int32} {h : mH} (x y : Int32) (hp : kP h) : ∃ z1 h1 z2 h2, nEv sc 100 20 (.ref 0 :: [x, y].map Value.int) h (some (.int z1), h1) ∧ aHp h1 ∧ nEv sc 100 135 (.ref 53 :: [x, y].map Value.int) h1 (some (.int z2), h2) ∧ kP h2 := dText x y hp.1 hp.2
theorem kPut {sc : List Int32} {h : mH} (x y z : Int32) (hp : kP h) : ∃ z1 h1 z2 h2, nEv sc 100 24 (.ref 0 :: [x, y, z].map Value.int) h (some (.int z1), h1) ∧ aHp h1 ∧ nEv sc 100 137 (.ref 53 :: [x, y, z].map Value.int) h1 (some (.int z2), h2) ∧ kP h2 := dPut x y z hp.1 hp.2
theorem kEmb {sc : List Int32} {h : mH} (x : Int32) (hp : kP h) : ∃ z1 h1 z2 h2, nEv sc 100 32 (.ref 0 :: [x].map Value.int) h (some (.int z1), h1) ∧ aHp h1 ∧ nEv sc 100 144 (.ref 53 :: [x].map Value.int) h1 (some (.int z2), h2) ∧ kP h2 := dEmb x hp.1 hp.2
theorem kOn {sc : List Int32} {h : mH} (x : Int32) (hp : kP h) : ∃ z1 h1 z2 h2, nEv sc 100 74 (.ref 0 :: [x].map Value.int) h (some (.int z1), h1) ∧ aHp h1 ∧ nEv sc 100 179 (.ref 53 :: [x].map Value.int) h1 (some (.int z2), h2) ∧ kP h2 := dOn x hp.1 hp.2
theorem kFault {sc : List Int32} {h : mH} (x : Int32) (hp : kP h) : ∃ z1 h1 z2 h2, nEv sc 100 25 (.ref 0 :: [x].map Value.int) h (some (.int z1), h1) ∧ aHp h1 ∧ nEv sc 100 138 (.ref 53 :: [x].map Value.int) h1 (some (.int z2), h2) ∧ kP h2 := dFault x hp.1 hp.2
theorem kMark {sc : List Int32} {h : mH} (x y : Int32) (hp : kP h) : ∃ z1 h1 z2 h2, nEv sc 100 49 (.ref 0 :: [x, y].map Value.int) h (some (.int z1), h1) ∧ aHp h1 ∧ nEv sc 100 157 (.ref 53 :: [x, y].map Value.int) h1 (some (.int z2), h2) ∧ kP h2 := dMark x y hp.1 hp.2
theorem kStep {sc : List Int32} {h : mH} (x : Int32) (hp : kP h) : ∃ z1 h1 z2 h2, nEv sc 100 55 (.ref 0 :: [x].map Value.int) h (some (.int z1), h1) ∧ aHp h1 ∧ nEv sc 100 162 (.ref 53 :: [x].map Value.int) h1 (some (.int z2), h2) ∧ kP h2 := by
  obtain ⟨z1, h1, z2, h2, a1, a2, a3, a4, f1, f2⟩ := pFr (sc := sc) (Q := fun z1 z2 h2 => vP h2 ∧ z2 = z1) (tx := mMe55) (tm := mMe162) (vStep x hp.1) ((kM75 sc).mono (by decide)) rfl rfl rfl rfl rfl ((kM77 sc).mono (by decide)) rfl rfl rfl rfl rfl rfl (kP_a h hp)
  have c1 : eMiss kC75.2.2.2 = true := by decide +kernel
  have c2 : eMiss kC77.2.2.2 = true := by decide +kernel
  exact ⟨z1, h1, z2, h2, a1, a2, a3, a4.1, dP_fr (dP_fr hp.2 f1 c1) f2 c2⟩
theorem kMeet {sc : List Int32} {h : mH} (x y z : Int32) (hp : kP h) : ∃ z1 h1 z2 h2, nEv sc 100 59 (.ref 0 :: [x, y, z].map Value.int) h (some (.int z1), h1) ∧ aHp h1 ∧ nEv sc 100 167 (.ref 53 :: [x, y, z].map Value.int) h1 (some (.int z2), h2) ∧ kP h2 := by
  obtain ⟨z1, h1, z2, h2, a1, a2, a3, a4, f1, f2⟩ := pFr (sc := sc) (Q := fun z1 z2 h2 => vP h2 ∧ z2 = z1) (tx := mMe59) (tm := mMe167) (vMeet x y z hp.1) ((kM79 sc).mono (by decide)) rfl rfl rfl rfl rfl ((kM81 sc).mono (by decide)) rfl rfl rfl rfl rfl rfl (kP_a h hp)
  have c1 : eMiss kC79.2.2.2 = true := by decide +kernel
  have c2 : eMiss kC81.2.2.2 = true := by decide +kernel
  exact ⟨z1, h1, z2, h2, a1, a2, a3, a4.1, dP_fr (dP_fr hp.2 f1 c1) f2 c2⟩
theorem kTreat {sc : List Int32} {h : mH} (x y : Int32) (hp : kP h) : ∃ z1 h1 z2 h2, nEv sc 100 63 (.ref 0 :: [x, y].map Value.int) h (some (.int z1), h1) ∧ aHp h1 ∧ nEv sc 100 169 (.ref 53 :: [x, y].map Value.int) h1 (some (.int z2), h2) ∧ kP h2 := by
  obtain ⟨z1, h1, z2, h2, a1, a2, a3, a4, f1, f2⟩ := pFr (sc := sc) (Q := fun z1 z2 h2 => vP h2) (tx := mMe63) (tm := mMe169) (vTreat x y hp.1) ((kM84 sc).mono (by decide)) rfl rfl rfl rfl rfl ((kM87 sc).mono (by decide)) rfl rfl rfl rfl rfl rfl (kP_a h hp)
  have c1 : eMiss kC84.2.2.2 = true := by decide +kernel
  have c2 : eMiss kC87.2.2.2 = true := by decide +kernel
  exact ⟨z1, h1, z2, h2, a1, a2, a3, a4, dP_fr (dP_fr hp.2 f1 c1) f2 c2⟩
theorem kUndo {sc : List Int32} {h : mH} (x : Int32) (hp : kP h) : ∃ z1 h1 z2 h2, nEv sc 100 70 (.ref 0 :: [x].map Value.int) h (some (.int z1), h1) ∧ aHp h1 ∧ nEv sc 100 176 (.ref 53 :: [x].map Value.int) h1 (some (.int z2), h2) ∧ kP h2 := by
  obtain ⟨z1, h1, z2, h2, a1, a2, a3, a4, f1, f2⟩ := pFr (sc := sc) (Q := fun z1 z2 h2 => vP h2) (tx := mMe70) (tm := mMe176) (vUndo x hp.1) ((kM89 sc).mono (by decide)) rfl rfl rfl rfl rfl ((kM90 sc).mono (by decide)) rfl rfl rfl rfl rfl rfl (kP_a h hp)
  have c1 : eMiss kC89.2.2.2 = true := by decide +kernel
  have c2 : eMiss kC90.2.2.2 = true := by decide +kernel
  exact ⟨z1, h1, z2, h2, a1, a2, a3, a4, dP_fr (dP_fr hp.2 f1 c1) f2 c2⟩
theorem kKeep {sc : List Int32} {h : mH} (x : Int32) (hp : kP h) : ∃ z1 h1 z2 h2, nEv sc 100 72 (.ref 0 :: [x].map Value.int) h (some (.int z1), h1) ∧ aHp h1 ∧ nEv sc 100 178 (.ref 53 :: [x].map Value.int) h1 (some (.int z2), h2) ∧ kP h2 := by
  obtain ⟨z1, h1, z2, h2, a1, a2, a3, a4, f1, f2⟩ := pFr (sc := sc) (Q := fun z1 z2 h2 => vP h2 ∧ z2 = z1) (tx := mMe72) (tm := mMe178) (vKeep x hp.1) ((kM91 sc).mono (by decide)) rfl rfl rfl rfl rfl ((kM95 sc).mono (by decide)) rfl rfl rfl rfl rfl rfl (kP_a h hp)
  have c1 : eMiss kC91.2.2.2 = true := by decide +kernel
  have c2 : eMiss kC95.2.2.2 = true := by decide +kernel
  exact ⟨z1, h1, z2, h2, a1, a2, a3, a4.1, dP_fr (dP_fr hp.2 f1 c1) f2 c2⟩
theorem kLotsP {sc : List Int32} {h : mH} (x y : Int32) (hp : kP h) : ∃ z1 h1 z2 h2, nEv sc 100 108 (.ref 0 :: [x, y].map Value.int) h (some (.int z1), h1) ∧ aHp h1 ∧ nEv sc 100 212 (.ref 53 :: [x, y].map Value.int) h1 (some (.int z2), h2) ∧ kP h2 := by
  obtain ⟨z1, h1, z2, h2, a1, a2, a3, a4, f1, f2⟩ := pFr (sc := sc) (Q := fun z1 z2 h2 => vP h2) (tx := mMe108) (tm := mMe212) (vLotsP x y hp.1) ((kM286 sc).mono (by decide)) rfl rfl rfl rfl rfl ((kM287 sc).mono (by decide)) rfl rfl rfl rfl rfl rfl (kP_a h hp)
  have c1 : eMiss kC286.2.2.2 = true := by decide +kernel
  have c2 : eMiss kC287.2.2.2 = true := by decide +kernel
  exact ⟨z1, h1, z2, h2, a1, a2, a3, a4, dP_fr (dP_fr hp.2 f1 c1) f2 c2⟩
theorem kMtg {sc : List Int32} {h : mH} (x y z : Int32) (hp : kP h) : ∃ z1 h1 z2 h2, nEv sc 100 88 (.ref 0 :: [x, y, z].map Value.int) h (some (.int z1), h1) ∧ aHp h1 ∧ nEv sc 100 194 (.ref 53 :: [x, y, z].map Value.int) h1 (some (.int z2), h2) ∧ kP h2 := by
  obtain ⟨z1, h1, z2, h2, a1, a2, a3, a4, f1, f2⟩ := pFr (sc := sc) (Q := fun z1 z2 h2 => vP h2) (tx := mMe88) (tm := mMe194) (vMtg x y z hp.1) ((kM176 sc).mono (by decide)) rfl rfl rfl rfl rfl ((kM177 sc).mono (by decide)) rfl rfl rfl rfl rfl rfl (kP_a h hp)
  have c1 : eMiss kC176.2.2.2 = true := by decide +kernel
  have c2 : eMiss kC177.2.2.2 = true := by decide +kernel
  exact ⟨z1, h1, z2, h2, a1, a2, a3, a4, dP_fr (dP_fr hp.2 f1 c1) f2 c2⟩
theorem kFinding {sc : List Int32} {h : mH} (hp : kP h) : ∃ z1 h1 z2 h2, nEv sc 100 118 (.ref 0 :: [].map Value.int) h (some (.int z1), h1) ∧ aHp h1 ∧ nEv sc 100 218 (.ref 53 :: [].map Value.int) h1 (some (.int z2), h2) ∧ kP h2 ∧ z2 = z1 := by
  have hh := kP_a h hp
  have e : hI h 53 11 = hI h 0 8 := hI_cg2 hp.2.1.symm
  refine ⟨Int32.ofInt (hI h 0 8), h, Int32.ofInt (hI h 0 8), h, nEv_of (t := mMe118) rfl ?_, hh, nEv_of (t := mMe218) rfl ?_, hp, rfl⟩
  · show nRn sc 99 (mMT mMe118) (mMC mMe118) (0, [some (.ref 0)], [], h) _
    refine sP 1 (g1 := (1, [some (.ref 0)], [.ref 0], h)) rfl ?_
    have rg1 := hI_rg (a := 0) (j := 8) (lo := (-2147483648)) (hi := 2147483647) hh (by decide +kernel)
    refine s_get (a := 0) (j := 8) hh rfl ⟨_, rfl⟩ rfl rfl rfl (v := sI (hI h 0 8)) (hI_ok (lo := (-2147483648)) (hi := 2147483647) hh (by decide +kernel)) ?_
    exact s_reti rfl rfl (Or.inl rfl) rfl rfl
  · show nRn sc 99 (mMT mMe218) (mMC mMe218) (0, [some (.ref 53)], [], h) _
    refine sP 1 (g1 := (1, [some (.ref 53)], [.ref 53], h)) rfl ?_
    have rg1 := hI_rg (a := 53) (j := 11) (lo := (-2147483648)) (hi := 2147483647) hh (by decide +kernel)
    refine s_get (a := 53) (j := 11) hh rfl ⟨_, rfl⟩ rfl rfl rfl (v := sI (hI h 53 11)) (hI_ok (lo := (-2147483648)) (hi := 2147483647) hh (by decide +kernel)) ?_
    exact s_reti rfl rfl (Or.inl rfl) e rfl
section KFS
variable {sc : List Int32} {d : Nat} {h : mH}
theorem c20 {j : Nat} (hj : j < 6) : zCell 20 j (-2147483648) 2147483647 = true := (show ∀ j, j < 6 → zCell 20 j (-2147483648) 2147483647 = true by decide +kernel) j hj
theorem c62 {j : Nat} (hj : j < 6) : zCell 62 j (-2147483648) 2147483647 = true := (show ∀ j, j < 6 → zCell 62 j (-2147483648) 2147483647 = true by decide +kernel) j hj
theorem fFgsXb {f : Int} (hh : aHp h) (rf : sR f) (hc : ¬ (1 ≤ f ∧ f ≤ 5)) : nEv sc (d + 2) 119 [.ref 0, sI f] h (some (sI (-1)), h) := by
  unfold sR aMi aMa at rf
  refine nEv_of (t := mMe119) rfl ?_
  show nRn sc (d + 1) (mMT mMe119) (mMC mMe119) (0, [some (.ref 0), some (sI f)], [], h) _
  refine sP 2 (g1 := (2, [some (.ref 0), some (sI f)], [sI 1, sI f], h)) rfl ?_
  refine s_icmp (q := .lt) (a := f) (b := 1) rfl ⟨_, rfl⟩ rfl (by unfold sR aMi aMa; omega) (by unfold sR aMi aMa; omega) (fun hc1 => ?_) (fun hc1 => ?_)
  · have hc1 : (f : Int) < 1 := hc1
    refine sP 1 (g1 := (7, [some (.ref 0), some (sI f)], [sI ((-1))], h)) rfl ?_
    exact s_reti rfl rfl (Or.inl rfl) rfl rfl
  · have hc1 : ¬ ((f : Int) < 1) := hc1
    refine sP 2 (g1 := (5, [some (.ref 0), some (sI f)], [sI 5, sI f], h)) rfl ?_
    refine s_icmp (q := .le) (a := f) (b := 5) rfl ⟨_, rfl⟩ rfl (by unfold sR aMi aMa; omega) (by unfold sR aMi aMa; omega) (fun hc2 => ?_) (fun hc2 => ?_)
    · have hc2 : (f : Int) ≤ 5 := hc2
      omega
    · have hc2 : ¬ ((f : Int) ≤ 5) := hc2
      refine sP 1 (g1 := (7, [some (.ref 0), some (sI f)], [sI ((-1))], h)) rfl ?_
      exact s_reti rfl rfl (Or.inl rfl) rfl rfl
theorem fFgsX {f : Nat} (hh : aHp h) (f1 : 1 ≤ f) (f5 : f ≤ 5) : nEv sc (d + 2) 119 [.ref 0, sI (f : Int)] h (some (sI (hI h 20 f)), h) := by
  refine nEv_of (t := mMe119) rfl ?_
  show nRn sc (d + 1) (mMT mMe119) (mMC mMe119) (0, [some (.ref 0), some (sI ((f : Int)))], [], h) _
  refine sP 2 (g1 := (2, [some (.ref 0), some (sI ((f : Int)))], [sI 1, sI ((f : Int))], h)) rfl ?_
  refine s_icmp (q := .lt) (a := (f : Int)) (b := 1) rfl ⟨_, rfl⟩ rfl (by unfold sR aMi aMa; omega) (by unfold sR aMi aMa; omega) (fun hc1 => ?_) (fun hc1 => ?_)
  · have hc1 : (((f : Int)) : Int) < 1 := hc1
    omega
  · have hc1 : ¬ ((((f : Int)) : Int) < 1) := hc1
    refine sP 2 (g1 := (5, [some (.ref 0), some (sI ((f : Int)))], [sI 5, sI ((f : Int))], h)) rfl ?_
    refine s_icmp (q := .le) (a := (f : Int)) (b := 5) rfl ⟨_, rfl⟩ rfl (by unfold sR aMi aMa; omega) (by unfold sR aMi aMa; omega) (fun hc2 => ?_) (fun hc2 => ?_)
    · have hc2 : (((f : Int)) : Int) ≤ 5 := hc2
      refine sP 1 (g1 := (9, [some (.ref 0), some (sI ((f : Int)))], [.ref 0], h)) rfl ?_
      refine s_get (a := 0) (j := 7) hh rfl ⟨_, rfl⟩ rfl rfl rfl (v := .ref 20) (hR_ok hh (by decide +kernel)) ?_
      refine sP 1 (g1 := (11, [some (.ref 0), some (sI ((f : Int)))], [sI ((f : Int)), .ref 20], h)) rfl ?_
      refine s_iald (a := 20) (n := 6) (j := (f : Int)) hh rfl rfl rfl (by omega) (by omega) (by decide) (v := sI (hI h 20 f)) (by rw [Int.toNat_natCast]; exact hI_ok hh (c20 (by omega))) ?_
      exact s_reti rfl rfl (Or.inl rfl) rfl rfl
    · have hc2 : ¬ ((((f : Int)) : Int) ≤ 5) := hc2
      omega
theorem fFgsMb {f : Int} (hh : aHp h) (rf : sR f) (hc : ¬ (1 ≤ f ∧ f ≤ 5)) : nEv sc (d + 2) 219 [.ref 53, sI f] h (some (sI (-1)), h) := by
  unfold sR aMi aMa at rf
  refine nEv_of (t := mMe219) rfl ?_
  show nRn sc (d + 1) (mMT mMe219) (mMC mMe219) (0, [some (.ref 53), some (sI f)], [], h) _
  refine sP 1 (g1 := (1, [some (.ref 53), some (sI f)], [sI f], h)) rfl ?_
  refine s_i2l (a := f) rfl rfl (by unfold sR aMi aMa; omega) ?_
  refine sP 2 (g1 := (4, [some (.ref 53), some (sI f)], [sJ 5, sJ 1, sJ f], h)) rfl ?_
  have ev1 := fIn (sc := sc) (d := d) (h := h) (a := f) (b := 1) (e := 5) (by omega) (by omega) (by omega) (by omega) (by omega) (by omega)
  rw [if_neg (by omega)] at ev1
  refine s_call (k := 127) (args := [sJ f, sJ 1, sJ 5]) (st := []) (v := some (sI 0)) (h1 := h) rfl ⟨rfl, rfl⟩ rfl rfl rfl rfl rfl rfl ev1 ?_
  refine s_ifc (q := .eq) (a := 0) rfl ⟨_, rfl⟩ rfl (by unfold sR aMi aMa; omega) (fun hc2 => ?_) (fun hc2 => ?_)
  · have hc2 : (0 : Int) = 0 := hc2
    refine sP 1 (g1 := (12, [some (.ref 53), some (sI f)], [sI ((-1))], h)) rfl ?_
    exact s_reti rfl rfl (Or.inl rfl) rfl rfl
  · have hc2 : ¬ ((0 : Int) = 0) := hc2
    omega
theorem fFgsM {f : Nat} (hh : aHp h) (f1 : 1 ≤ f) (f5 : f ≤ 5) : nEv sc (d + 2) 219 [.ref 53, sI (f : Int)] h (some (sI (hI h 62 f)), h) := by
  refine nEv_of (t := mMe219) rfl ?_
  show nRn sc (d + 1) (mMT mMe219) (mMC mMe219) (0, [some (.ref 53), some (sI ((f : Int)))], [], h) _
  refine sP 1 (g1 := (1, [some (.ref 53), some (sI ((f : Int)))], [sI ((f : Int))], h)) rfl ?_
  refine s_i2l (a := (f : Int)) rfl rfl (by unfold sR aMi aMa; omega) ?_
  refine sP 2 (g1 := (4, [some (.ref 53), some (sI ((f : Int)))], [sJ 5, sJ 1, sJ ((f : Int))], h)) rfl ?_
  have ev1 := fIn (sc := sc) (d := d) (h := h) (a := (f : Int)) (b := 1) (e := 5) (by omega) (by omega) (by omega) (by omega) (by omega) (by omega)
  rw [if_pos (by omega)] at ev1
  refine s_call (k := 127) (args := [sJ ((f : Int)), sJ 1, sJ 5]) (st := []) (v := some (sI 1)) (h1 := h) rfl ⟨rfl, rfl⟩ rfl rfl rfl rfl rfl rfl ev1 ?_
  refine s_ifc (q := .eq) (a := 1) rfl ⟨_, rfl⟩ rfl (by unfold sR aMi aMa; omega) (fun hc2 => ?_) (fun hc2 => ?_)
  · have hc2 : (1 : Int) = 0 := hc2
    omega
  · have hc2 : ¬ ((1 : Int) = 0) := hc2
    refine sP 1 (g1 := (7, [some (.ref 53), some (sI ((f : Int)))], [.ref 53], h)) rfl ?_
    refine s_get (a := 53) (j := 12) hh rfl ⟨_, rfl⟩ rfl rfl rfl (v := .ref 62) (hR_ok hh (by decide +kernel)) ?_
    refine sP 1 (g1 := (9, [some (.ref 53), some (sI ((f : Int)))], [sI ((f : Int)), .ref 62], h)) rfl ?_
    refine s_iald (a := 62) (n := 6) (j := (f : Int)) hh rfl rfl rfl (by omega) (by omega) (by decide) (v := sI (hI h 62 f)) (by rw [Int.toNat_natCast]; exact hI_ok hh (c62 (by omega))) ?_
    refine sP 1 (g1 := (12, [some (.ref 53), some (sI ((f : Int)))], [sI (hI h 62 f)], h)) rfl ?_
    exact s_reti rfl rfl (Or.inl rfl) rfl rfl
end KFS
theorem kFindings {sc : List Int32} {h : mH} (x : Int32) (hp : kP h) : ∃ z1 h1 z2 h2, nEv sc 100 119 (.ref 0 :: [x].map Value.int) h (some (.int z1), h1) ∧ aHp h1 ∧ nEv sc 100 219 (.ref 53 :: [x].map Value.int) h1 (some (.int z2), h2) ∧ kP h2 ∧ z2 = z1 := by
  have hh := kP_a h hp
  have rx : sR x.toInt := aI_rg x
  by_cases c : 1 ≤ x.toInt ∧ x.toInt ≤ 5
  · obtain ⟨f, ef⟩ := iN (show 0 ≤ x.toInt by omega)
    have e : hI h 62 f = hI h 20 f := hI_cg2 (hp.2.2 f (by omega)).symm
    have b1 := fFgsM (sc := sc) (d := 98) (f := f) hh (by omega) (by omega)
    rw [e] at b1
    exact pk1 _ (by rw [ef]; exact fFgsX (d := 98) hh (by omega) (by omega)) hh (by rw [ef]; exact b1) hp
  · exact pk1 (-1) (fFgsXb (d := 98) hh rx c) hh (fFgsMb (d := 98) hh rx c) hp
def kT : List aCt := [kC56, kC61, kC62, kC63, kC101, kC102, kC103, kC105, kC108, kC110, kC111, kC112, kC113, kC114, kC115, kC116, kC176, kC196, kC197, kC200, kC202, kC203, kC204, kC210, kC211, kC215, kC282, kC283, kC284, kC288, kC289, kC290, kC291, kC292, kC293, kC298, kC300, kC301, kC302, kC303, kC304, kC316, kC317]
set_option maxRecDepth 100000 in
theorem kT_ok (sc : List Int32) : ∀ c ∈ kT, nMe sc 81 c := by
  unfold kT
  exact List.forall_mem_cons.mpr ⟨(kM56 sc).mono (by decide), List.forall_mem_cons.mpr ⟨(kM61 sc).mono (by decide), List.forall_mem_cons.mpr ⟨(kM62 sc).mono (by decide), List.forall_mem_cons.mpr ⟨(kM63 sc).mono (by decide), List.forall_mem_cons.mpr ⟨(kM101 sc).mono (by decide), List.forall_mem_cons.mpr ⟨(kM102 sc).mono (by decide), List.forall_mem_cons.mpr ⟨(kM103 sc).mono (by decide), List.forall_mem_cons.mpr ⟨(kM105 sc).mono (by decide), List.forall_mem_cons.mpr ⟨(kM108 sc).mono (by decide), List.forall_mem_cons.mpr ⟨(kM110 sc).mono (by decide), List.forall_mem_cons.mpr ⟨(kM111 sc).mono (by decide), List.forall_mem_cons.mpr ⟨(kM112 sc).mono (by decide), List.forall_mem_cons.mpr ⟨(kM113 sc).mono (by decide), List.forall_mem_cons.mpr ⟨(kM114 sc).mono (by decide), List.forall_mem_cons.mpr ⟨(kM115 sc).mono (by decide), List.forall_mem_cons.mpr ⟨(kM116 sc).mono (by decide), List.forall_mem_cons.mpr ⟨(kM176 sc).mono (by decide), List.forall_mem_cons.mpr ⟨(kM196 sc).mono (by decide), List.forall_mem_cons.mpr ⟨(kM197 sc).mono (by decide), List.forall_mem_cons.mpr ⟨(kM200 sc).mono (by decide), List.forall_mem_cons.mpr ⟨(kM202 sc).mono (by decide), List.forall_mem_cons.mpr ⟨(kM203 sc).mono (by decide), List.forall_mem_cons.mpr ⟨(kM204 sc).mono (by decide), List.forall_mem_cons.mpr ⟨(kM210 sc).mono (by decide), List.forall_mem_cons.mpr ⟨(kM211 sc).mono (by decide), List.forall_mem_cons.mpr ⟨(kM215 sc).mono (by decide), List.forall_mem_cons.mpr ⟨(kM282 sc).mono (by decide), List.forall_mem_cons.mpr ⟨(kM283 sc).mono (by decide), List.forall_mem_cons.mpr ⟨(kM284 sc).mono (by decide), List.forall_mem_cons.mpr ⟨(kM288 sc).mono (by decide), List.forall_mem_cons.mpr ⟨(kM289 sc).mono (by decide), List.forall_mem_cons.mpr ⟨(kM290 sc).mono (by decide), List.forall_mem_cons.mpr ⟨(kM291 sc).mono (by decide), List.forall_mem_cons.mpr ⟨(kM292 sc).mono (by decide), List.forall_mem_cons.mpr ⟨(kM293 sc).mono (by decide), List.forall_mem_cons.mpr ⟨(kM298 sc).mono (by decide), List.forall_mem_cons.mpr ⟨(kM300 sc).mono (by decide), List.forall_mem_cons.mpr ⟨(kM301 sc).mono (by decide), List.forall_mem_cons.mpr ⟨(kM302 sc).mono (by decide), List.forall_mem_cons.mpr ⟨(kM303 sc).mono (by decide), List.forall_mem_cons.mpr ⟨(kM304 sc).mono (by decide), List.forall_mem_cons.mpr ⟨(kM316 sc).mono (by decide), List.forall_mem_cons.mpr ⟨(kM317 sc).mono (by decide), List.forall_mem_nil _⟩⟩⟩⟩⟩⟩⟩⟩⟩⟩⟩⟩⟩⟩⟩⟩⟩⟩⟩⟩⟩⟩⟩⟩⟩⟩⟩⟩⟩⟩⟩⟩⟩⟩⟩⟩⟩⟩⟩⟩⟩⟩⟩
set_option maxRecDepth 100000 in
theorem kT_z : kT.all (fun c => (wMiss c.2.2.2 && rMiss c.2.2.2) && eMiss c.2.2.2) = true := by decide +kernel
