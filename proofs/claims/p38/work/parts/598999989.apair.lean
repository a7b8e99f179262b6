/-! what is asked is kept alike -/
def mP (h : mH) : Prop := vP h ∧ qP h
theorem mP_a (h : mH) (hp : mP h) : aHp h := vP_a h hp.1
def qMiss (ms : aMd) : Bool := ms.all (fun m => decide (¬ (m.1 = 0 ∧ m.2.1 ≤ 9 ∧ 9 ≤ m.2.2) ∧ ¬ (m.1 = 53 ∧ m.2.1 ≤ 8 ∧ 8 ≤ m.2.2)))
theorem qP_fr {h h1 : mH} {ms : aMd} (hq : qP h) (hf : nFr ms h h1) (hm : qMiss ms = true) : qP h1 := by
  have key : ∀ a j, (a = 0 ∧ j = 9) ∨ (a = 53 ∧ j = 8) → aSlot h1 a j = aSlot h a j := by
    intro a j w
    refine hf a j ?_
    rintro ⟨m, m1, m2, m3, m4⟩
    have h2 := of_decide_eq_true (List.all_eq_true.mp hm m m1)
    omega
  show aSlot h1 0 9 = aSlot h1 53 8
  rw [key 0 9 (by omega), key 53 8 (by omega)]
  exact hq
theorem mP_fr {h h1 : mH} {ms : aMd} (hp : mP h) (hh1 : aHp h1) (hf : nFr ms h h1) (hm : ((wMiss ms && rMiss ms) && qMiss ms) = true) : mP h1 := by
  rw [Bool.and_eq_true] at hm
  exact ⟨vP_fr hp.1 hh1 hf hm.1, qP_fr hp.2 hf hm.2⟩
theorem mP_U {h : mH} (hp : mP h) : hI h 3 4 < ((2 ^ (hI h 3 3).toNat : Nat) : Int) := hp.1.1.2.1.2.2.2.2.2.1
/-- only what is asked changes, in both -/
theorem mP_ask {h h2 : mH} (hp : mP h) (hh : aHp h2) (hs : ∀ p m, ¬ (p = 0 ∧ m = 9) → ¬ (p = 53 ∧ (m = 8 ∨ m = 14)) → aSlot h2 p m = aSlot h p m) (hq : aSlot h2 0 9 = aSlot h2 53 8) : mP h2 := ⟨vP_sl hp.1 hh (fun p m a b c e => hs p m (by omega) (by omega)), hq⟩
theorem aM9_sl {h g : mH} (hs : ∀ m, aSlot g 58 m = aSlot h 58 m) : aM9 g = aM9 h := by
  have e : hI g 58 = hI h 58 := funext (fun m => hI_cg (hs m))
  funext n a k
  unfold aM9 sM
  rw [e]
theorem nqRow {sc : List Int32} {h : mH} (x y : Int32) (hp : mP h) : ∃ z1 h1 z2 h2, nEv sc 100 7 (.ref 0 :: [x, y].map Value.int) h (some (.int z1), h1) ∧ aHp h1 ∧ nEv sc 100 125 (.ref 53 :: [x, y].map Value.int) h1 (some (.int z2), h2) ∧ mP h2 := by
  obtain ⟨z1, h1, z2, h2, a1, a2, a3, a4, -⟩ := vRow (sc := sc) x y hp.1
  exact ⟨z1, h1, z2, h2, a1, a2, a3, a4.1, a4.2.2 hp.2⟩
theorem nqLay {sc : List Int32} {h : mH} (x y z : Int32) (hp : mP h) : ∃ z1 h1 z2 h2, nEv sc 100 12 (.ref 0 :: [x, y, z].map Value.int) h (some (.int z1), h1) ∧ aHp h1 ∧ nEv sc 100 129 (.ref 53 :: [x, y, z].map Value.int) h1 (some (.int z2), h2) ∧ mP h2 := by
  obtain ⟨z1, h1, z2, h2, a1, a2, a3, a4, -⟩ := vLay (sc := sc) x y z hp.1
  exact ⟨z1, h1, z2, h2, a1, a2, a3, a4.1, a4.2.2 hp.2⟩
theorem nqTear {sc : List Int32} {h : mH} (x : Int32) (hp : mP h) : ∃ z1 h1 z2 h2, nEv sc 100 15 (.ref 0 :: [x].map Value.int) h (some (.int z1), h1) ∧ aHp h1 ∧ nEv sc 100 132 (.ref 53 :: [x].map Value.int) h1 (some (.int z2), h2) ∧ mP h2 := by
  obtain ⟨z1, h1, z2, h2, a1, a2, a3, a4, -⟩ := vTear (sc := sc) x hp.1
  exact ⟨z1, h1, z2, h2, a1, a2, a3, a4.1, a4.2.2 hp.2⟩
theorem nqCopy {sc : List Int32} {h : mH} (x y z u v : Int32) (hp : mP h) : ∃ z1 h1 z2 h2, nEv sc 100 16 (.ref 0 :: [x, y, z, u, v].map Value.int) h (some (.int z1), h1) ∧ aHp h1 ∧ nEv sc 100 133 (.ref 53 :: [x, y, z, u, v].map Value.int) h1 (some (.int z2), h2) ∧ mP h2 := by
  obtain ⟨z1, h1, z2, h2, a1, a2, a3, a4, -⟩ := vCopy (sc := sc) x y z u v hp.1
  exact ⟨z1, h1, z2, h2, a1, a2, a3, a4.1, a4.2.2 hp.2⟩
theorem nqAt {sc : List Int32} {h : mH} (x y : Int32) (hp : mP h) : ∃ z1 h1 z2 h2, nEv sc 100 14 (.ref 0 :: [x, y].map Value.int) h (some (.int z1), h1) ∧ aHp h1 ∧ nEv sc 100 131 (.ref 53 :: [x, y].map Value.int) h1 (some (.int z2), h2) ∧ mP h2 := by
  obtain ⟨z1, h1, z2, h2, a1, a2, a3, a4, -⟩ := vAt (sc := sc) x y hp.1
  exact ⟨z1, h1, z2, h2, a1, a2, a3, a4.1, a4.2.2 hp.2⟩
theorem nqMean {sc : List Int32} {h : mH} (x : Int32) (hp : mP h) : ∃ z1 h1 z2 h2, nEv sc 100 18 (.ref 0 :: [x].map Value.int) h (some (.int z1), h1) ∧ aHp h1 ∧ nEv sc 100 134 (.ref 53 :: [x].map Value.int) h1 (some (.int z2), h2) ∧ mP h2 := by
  obtain ⟨z1, h1, z2, h2, a1, a2, a3, a4, -⟩ := vMean (sc := sc) x hp.1
  exact ⟨z1, h1, z2, h2, a1, a2, a3, a4.1, a4.2.2 hp.2⟩
theorem nqSteps {sc : List Int32} {h : mH} (x : Int32) (hp : mP h) : ∃ z1 h1 z2 h2, nEv sc 100 84 (.ref 0 :: [x].map Value.int) h (some (.int z1), h1) ∧ aHp h1 ∧ nEv sc 100 190 (.ref 53 :: [x].map Value.int) h1 (some (.int z2), h2) ∧ mP h2 := by
  obtain ⟨z1, h1, z2, h2, a1, a2, a3, a4, -⟩ := vSteps (sc := sc) x hp.1 (mP_U hp)
  exact ⟨z1, h1, z2, h2, a1, a2, a3, a4.1, a4.2.2 hp.2⟩
theorem nqText {sc : List Int32} {h : mH} (x y : Int32) (hp : mP h) : ∃ z1 h1 z2 h2, nEv sc 100 20 (.ref 0 :: [x, y].map Value.int) h (some (.int z1), h1) ∧ aHp h1 ∧ nEv sc 100 135 (.ref 53 :: [x, y].map Value.int) h1 (some (.int z2), h2) ∧ mP h2 := by
  obtain ⟨z1, h1, z2, h2, a1, a2, a3, a4, f1, f2⟩ := pFr (sc := sc) (Q := fun z1 z2 h2 => vP h2 ∧ z2 = z1) (tx := mMe20) (tm := mMe135) (vText x y hp.1) ((kM28 sc).mono (by decide)) rfl rfl rfl rfl rfl ((kM29 sc).mono (by decide)) rfl rfl rfl rfl rfl rfl (mP_a h hp)
  have c1 : qMiss kC28.2.2.2 = true := by decide +kernel
  have c2 : qMiss kC29.2.2.2 = true := by decide +kernel
  exact ⟨z1, h1, z2, h2, a1, a2, a3, a4.1, qP_fr (qP_fr hp.2 f1 c1) f2 c2⟩
theorem nqPut {sc : List Int32} {h : mH} (x y z : Int32) (hp : mP h) : ∃ z1 h1 z2 h2, nEv sc 100 24 (.ref 0 :: [x, y, z].map Value.int) h (some (.int z1), h1) ∧ aHp h1 ∧ nEv sc 100 137 (.ref 53 :: [x, y, z].map Value.int) h1 (some (.int z2), h2) ∧ mP h2 := by
  obtain ⟨z1, h1, z2, h2, a1, a2, a3, a4, f1, f2⟩ := pFr (sc := sc) (Q := fun z1 z2 h2 => vP h2 ∧ z2 = z1) (tx := mMe24) (tm := mMe137) (vPut x y z hp.1) ((kM30 sc).mono (by decide)) rfl rfl rfl rfl rfl ((kM31 sc).mono (by decide)) rfl rfl rfl rfl rfl rfl (mP_a h hp)
  have c1 : qMiss kC30.2.2.2 = true := by decide +kernel
  have c2 : qMiss kC31.2.2.2 = true := by decide +kernel
  exact ⟨z1, h1, z2, h2, a1, a2, a3, a4.1, qP_fr (qP_fr hp.2 f1 c1) f2 c2⟩
theorem nqEmb {sc : List Int32} {h : mH} (x : Int32) (hp : mP h) : ∃ z1 h1 z2 h2, nEv sc 100 32 (.ref 0 :: [x].map Value.int) h (some (.int z1), h1) ∧ aHp h1 ∧ nEv sc 100 144 (.ref 53 :: [x].map Value.int) h1 (some (.int z2), h2) ∧ mP h2 := by
  obtain ⟨z1, h1, z2, h2, a1, a2, a3, a4, f1, f2⟩ := pFr (sc := sc) (Q := fun z1 z2 h2 => vP h2) (tx := mMe32) (tm := mMe144) (vEmb x hp.1) ((kM50 sc).mono (by decide)) rfl rfl rfl rfl rfl ((kM52 sc).mono (by decide)) rfl rfl rfl rfl rfl rfl (mP_a h hp)
  have c1 : qMiss kC50.2.2.2 = true := by decide +kernel
  have c2 : qMiss kC52.2.2.2 = true := by decide +kernel
  exact ⟨z1, h1, z2, h2, a1, a2, a3, a4, qP_fr (qP_fr hp.2 f1 c1) f2 c2⟩
theorem nqStep {sc : List Int32} {h : mH} (x : Int32) (hp : mP h) : ∃ z1 h1 z2 h2, nEv sc 100 55 (.ref 0 :: [x].map Value.int) h (some (.int z1), h1) ∧ aHp h1 ∧ nEv sc 100 162 (.ref 53 :: [x].map Value.int) h1 (some (.int z2), h2) ∧ mP h2 := by
  obtain ⟨z1, h1, z2, h2, a1, a2, a3, a4, f1, f2⟩ := pFr (sc := sc) (Q := fun z1 z2 h2 => vP h2 ∧ z2 = z1) (tx := mMe55) (tm := mMe162) (vStep x hp.1) ((kM75 sc).mono (by decide)) rfl rfl rfl rfl rfl ((kM77 sc).mono (by decide)) rfl rfl rfl rfl rfl rfl (mP_a h hp)
  have c1 : qMiss kC75.2.2.2 = true := by decide +kernel
  have c2 : qMiss kC77.2.2.2 = true := by decide +kernel
  exact ⟨z1, h1, z2, h2, a1, a2, a3, a4.1, qP_fr (qP_fr hp.2 f1 c1) f2 c2⟩
theorem nqMeet {sc : List Int32} {h : mH} (x y z : Int32) (hp : mP h) : ∃ z1 h1 z2 h2, nEv sc 100 59 (.ref 0 :: [x, y, z].map Value.int) h (some (.int z1), h1) ∧ aHp h1 ∧ nEv sc 100 167 (.ref 53 :: [x, y, z].map Value.int) h1 (some (.int z2), h2) ∧ mP h2 := by
  obtain ⟨z1, h1, z2, h2, a1, a2, a3, a4, f1, f2⟩ := pFr (sc := sc) (Q := fun z1 z2 h2 => vP h2 ∧ z2 = z1) (tx := mMe59) (tm := mMe167) (vMeet x y z hp.1) ((kM79 sc).mono (by decide)) rfl rfl rfl rfl rfl ((kM81 sc).mono (by decide)) rfl rfl rfl rfl rfl rfl (mP_a h hp)
  have c1 : qMiss kC79.2.2.2 = true := by decide +kernel
  have c2 : qMiss kC81.2.2.2 = true := by decide +kernel
  exact ⟨z1, h1, z2, h2, a1, a2, a3, a4.1, qP_fr (qP_fr hp.2 f1 c1) f2 c2⟩
theorem nqTreat {sc : List Int32} {h : mH} (x y : Int32) (hp : mP h) : ∃ z1 h1 z2 h2, nEv sc 100 63 (.ref 0 :: [x, y].map Value.int) h (some (.int z1), h1) ∧ aHp h1 ∧ nEv sc 100 169 (.ref 53 :: [x, y].map Value.int) h1 (some (.int z2), h2) ∧ mP h2 := by
  obtain ⟨z1, h1, z2, h2, a1, a2, a3, a4, f1, f2⟩ := pFr (sc := sc) (Q := fun z1 z2 h2 => vP h2) (tx := mMe63) (tm := mMe169) (vTreat x y hp.1) ((kM84 sc).mono (by decide)) rfl rfl rfl rfl rfl ((kM87 sc).mono (by decide)) rfl rfl rfl rfl rfl rfl (mP_a h hp)
  have c1 : qMiss kC84.2.2.2 = true := by decide +kernel
  have c2 : qMiss kC87.2.2.2 = true := by decide +kernel
  exact ⟨z1, h1, z2, h2, a1, a2, a3, a4, qP_fr (qP_fr hp.2 f1 c1) f2 c2⟩
theorem nqUndo {sc : List Int32} {h : mH} (x : Int32) (hp : mP h) : ∃ z1 h1 z2 h2, nEv sc 100 70 (.ref 0 :: [x].map Value.int) h (some (.int z1), h1) ∧ aHp h1 ∧ nEv sc 100 176 (.ref 53 :: [x].map Value.int) h1 (some (.int z2), h2) ∧ mP h2 := by
  obtain ⟨z1, h1, z2, h2, a1, a2, a3, a4, f1, f2⟩ := pFr (sc := sc) (Q := fun z1 z2 h2 => vP h2) (tx := mMe70) (tm := mMe176) (vUndo x hp.1) ((kM89 sc).mono (by decide)) rfl rfl rfl rfl rfl ((kM90 sc).mono (by decide)) rfl rfl rfl rfl rfl rfl (mP_a h hp)
  have c1 : qMiss kC89.2.2.2 = true := by decide +kernel
  have c2 : qMiss kC90.2.2.2 = true := by decide +kernel
  exact ⟨z1, h1, z2, h2, a1, a2, a3, a4, qP_fr (qP_fr hp.2 f1 c1) f2 c2⟩
theorem nqKeep {sc : List Int32} {h : mH} (x : Int32) (hp : mP h) : ∃ z1 h1 z2 h2, nEv sc 100 72 (.ref 0 :: [x].map Value.int) h (some (.int z1), h1) ∧ aHp h1 ∧ nEv sc 100 178 (.ref 53 :: [x].map Value.int) h1 (some (.int z2), h2) ∧ mP h2 := by
  obtain ⟨z1, h1, z2, h2, a1, a2, a3, a4, f1, f2⟩ := pFr (sc := sc) (Q := fun z1 z2 h2 => vP h2 ∧ z2 = z1) (tx := mMe72) (tm := mMe178) (vKeep x hp.1) ((kM91 sc).mono (by decide)) rfl rfl rfl rfl rfl ((kM95 sc).mono (by decide)) rfl rfl rfl rfl rfl rfl (mP_a h hp)
  have c1 : qMiss kC91.2.2.2 = true := by decide +kernel
  have c2 : qMiss kC95.2.2.2 = true := by decide +kernel
  exact ⟨z1, h1, z2, h2, a1, a2, a3, a4.1, qP_fr (qP_fr hp.2 f1 c1) f2 c2⟩
theorem nqOn {sc : List Int32} {h : mH} (x : Int32) (hp : mP h) : ∃ z1 h1 z2 h2, nEv sc 100 74 (.ref 0 :: [x].map Value.int) h (some (.int z1), h1) ∧ aHp h1 ∧ nEv sc 100 179 (.ref 53 :: [x].map Value.int) h1 (some (.int z2), h2) ∧ mP h2 := by
  obtain ⟨z1, h1, z2, h2, a1, a2, a3, a4, f1, f2⟩ := pFr (sc := sc) (Q := fun z1 z2 h2 => vP h2 ∧ z2 = z1) (tx := mMe74) (tm := mMe179) (vOn x hp.1) ((kM96 sc).mono (by decide)) rfl rfl rfl rfl rfl ((kM100 sc).mono (by decide)) rfl rfl rfl rfl rfl rfl (mP_a h hp)
  have c1 : qMiss kC96.2.2.2 = true := by decide +kernel
  have c2 : qMiss kC100.2.2.2 = true := by decide +kernel
  exact ⟨z1, h1, z2, h2, a1, a2, a3, a4.1, qP_fr (qP_fr hp.2 f1 c1) f2 c2⟩
theorem nqLotsP {sc : List Int32} {h : mH} (x y : Int32) (hp : mP h) : ∃ z1 h1 z2 h2, nEv sc 100 108 (.ref 0 :: [x, y].map Value.int) h (some (.int z1), h1) ∧ aHp h1 ∧ nEv sc 100 212 (.ref 53 :: [x, y].map Value.int) h1 (some (.int z2), h2) ∧ mP h2 := by
  obtain ⟨z1, h1, z2, h2, a1, a2, a3, a4, f1, f2⟩ := pFr (sc := sc) (Q := fun z1 z2 h2 => vP h2) (tx := mMe108) (tm := mMe212) (vLotsP x y hp.1) ((kM286 sc).mono (by decide)) rfl rfl rfl rfl rfl ((kM287 sc).mono (by decide)) rfl rfl rfl rfl rfl rfl (mP_a h hp)
  have c1 : qMiss kC286.2.2.2 = true := by decide +kernel
  have c2 : qMiss kC287.2.2.2 = true := by decide +kernel
  exact ⟨z1, h1, z2, h2, a1, a2, a3, a4, qP_fr (qP_fr hp.2 f1 c1) f2 c2⟩
theorem nqMtg {sc : List Int32} {h : mH} (x y z : Int32) (hp : mP h) : ∃ z1 h1 z2 h2, nEv sc 100 88 (.ref 0 :: [x, y, z].map Value.int) h (some (.int z1), h1) ∧ aHp h1 ∧ nEv sc 100 194 (.ref 53 :: [x, y, z].map Value.int) h1 (some (.int z2), h2) ∧ mP h2 := by
  obtain ⟨z1, h1, z2, h2, a1, a2, a3, a4, f1, f2⟩ := pFr (sc := sc) (Q := fun z1 z2 h2 => vP h2) (tx := mMe88) (tm := mMe194) (vMtg x y z hp.1) ((kM176 sc).mono (by decide)) rfl rfl rfl rfl rfl ((kM177 sc).mono (by decide)) rfl rfl rfl rfl rfl rfl (mP_a h hp)
  have c1 : qMiss kC176.2.2.2 = true := by decide +kernel
  have c2 : qMiss kC177.2.2.2 = true := by decide +kernel
  exact ⟨z1, h1, z2, h2, a1, a2, a3, a4, qP_fr (qP_fr hp.2 f1 c1) f2 c2⟩
theorem nqFits {sc : List Int32} {h : mH} (x y z : Int32) (hp : mP h) : ∃ z1 h1 z2 h2, nEv sc 100 91 (.ref 0 :: [x, y, z].map Value.int) h (some (.int z1), h1) ∧ aHp h1 ∧ nEv sc 100 195 (.ref 53 :: [x, y, z].map Value.int) h1 (some (.int z2), h2) ∧ mP h2 := by
  obtain ⟨z1, h1, z2, h2, a1, a2, a3, a4, f1, f2⟩ := pFr (sc := sc) (Q := fun z1 z2 h2 => vP h2) (tx := mMe91) (tm := mMe195) (vFits x y z hp.1) ((kM190 sc).mono (by decide)) rfl rfl rfl rfl rfl ((kM192 sc).mono (by decide)) rfl rfl rfl rfl rfl rfl (mP_a h hp)
  have c1 : qMiss kC190.2.2.2 = true := by decide +kernel
  have c2 : qMiss kC192.2.2.2 = true := by decide +kernel
  exact ⟨z1, h1, z2, h2, a1, a2, a3, a4, qP_fr (qP_fr hp.2 f1 c1) f2 c2⟩
section MPER
variable {sc : List Int32} {d : Nat} {h : mH}
theorem fPerXb0 {a k : Int} (hh : aHp h) (ra : sR a) (rk : sR k) (hc : ¬ (0 ≤ a ∧ a < hI h 3 3)) : nEv sc (d + 6) 34 [.ref 0, sI a, sI k] h (some (sI (-1)), h) := by
  have gp := hI_rg hh xw_p
  unfold sR aMi aMa at ra rk
  refine nEv_of (t := mMe34) rfl ?_
  show nRn sc (d + 5) (mMT mMe34) (mMC mMe34) (0, [some (.ref 0), some (sI a), some (sI k)], [], h) _
  refine sP 1 (g1 := (1, [some (.ref 0), some (sI a), some (sI k)], [.ref 0], h)) rfl ?_
  refine s_get (a := 0) (j := 2) hh rfl ⟨_, rfl⟩ rfl rfl rfl (v := .ref 3) (hR_ok hh (by decide +kernel)) ?_
  refine sP 1 (g1 := (3, [some (.ref 0), some (sI a), some (sI k)], [sI a, .ref 3], h)) rfl ?_
  have ev1 := fHasX (sc := sc) (d := d + 4) (a := a) hh (by unfold sR aMi aMa; omega)
  rw [if_neg (by omega)] at ev1
  refine s_call (k := 35) (args := [.ref 3, sI a]) (st := []) (v := some (sI 0)) (h1 := h) rfl ⟨rfl, rfl⟩ rfl rfl rfl rfl (sRcv hh (a := 3) rfl rfl) rfl ev1 ?_
  refine s_ifc (q := .eq) (a := 0) rfl ⟨_, rfl⟩ rfl (by unfold sR aMi aMa; omega) (fun hc2 => ?_) (fun hc2 => ?_)
  · have hc2 : (0 : Int) = 0 := hc2
    refine sP 1 (g1 := (11, [some (.ref 0), some (sI a), some (sI k)], [sI ((-1))], h)) rfl ?_
    exact s_reti rfl rfl (Or.inl rfl) rfl rfl
  · have hc2 : ¬ ((0 : Int) = 0) := hc2
    omega
theorem fPerXb1 {a k : Int} (hh : aHp h) (ra : sR a) (rk : sR k) (hc : (0 ≤ a ∧ a < hI h 3 3) ∧ ¬ (0 ≤ k ∧ k ≤ 4)) : nEv sc (d + 6) 34 [.ref 0, sI a, sI k] h (some (sI (-1)), h) := by
  have gp := hI_rg hh xw_p
  unfold sR aMi aMa at ra rk
  refine nEv_of (t := mMe34) rfl ?_
  show nRn sc (d + 5) (mMT mMe34) (mMC mMe34) (0, [some (.ref 0), some (sI a), some (sI k)], [], h) _
  refine sP 1 (g1 := (1, [some (.ref 0), some (sI a), some (sI k)], [.ref 0], h)) rfl ?_
  refine s_get (a := 0) (j := 2) hh rfl ⟨_, rfl⟩ rfl rfl rfl (v := .ref 3) (hR_ok hh (by decide +kernel)) ?_
  refine sP 1 (g1 := (3, [some (.ref 0), some (sI a), some (sI k)], [sI a, .ref 3], h)) rfl ?_
  have ev1 := fHasX (sc := sc) (d := d + 4) (a := a) hh (by unfold sR aMi aMa; omega)
  rw [if_pos (by omega)] at ev1
  refine s_call (k := 35) (args := [.ref 3, sI a]) (st := []) (v := some (sI 1)) (h1 := h) rfl ⟨rfl, rfl⟩ rfl rfl rfl rfl (sRcv hh (a := 3) rfl rfl) rfl ev1 ?_
  refine s_ifc (q := .eq) (a := 1) rfl ⟨_, rfl⟩ rfl (by unfold sR aMi aMa; omega) (fun hc2 => ?_) (fun hc2 => ?_)
  · have hc2 : (1 : Int) = 0 := hc2
    omega
  · have hc2 : ¬ ((1 : Int) = 0) := hc2
    refine sP 1 (g1 := (6, [some (.ref 0), some (sI a), some (sI k)], [sI k], h)) rfl ?_
    refine s_ifc (q := .lt) (a := k) rfl ⟨_, rfl⟩ rfl (by unfold sR aMi aMa; omega) (fun hc3 => ?_) (fun hc3 => ?_)
    · have hc3 : (k : Int) < 0 := hc3
      refine sP 1 (g1 := (11, [some (.ref 0), some (sI a), some (sI k)], [sI ((-1))], h)) rfl ?_
      exact s_reti rfl rfl (Or.inl rfl) rfl rfl
    · have hc3 : ¬ ((k : Int) < 0) := hc3
      refine sP 2 (g1 := (9, [some (.ref 0), some (sI a), some (sI k)], [sI 4, sI k], h)) rfl ?_
      refine s_icmp (q := .le) (a := k) (b := 4) rfl ⟨_, rfl⟩ rfl (by unfold sR aMi aMa; omega) (by unfold sR aMi aMa; omega) (fun hc4 => ?_) (fun hc4 => ?_)
      · have hc4 : (k : Int) ≤ 4 := hc4
        omega
      · have hc4 : ¬ ((k : Int) ≤ 4) := hc4
        refine sP 1 (g1 := (11, [some (.ref 0), some (sI a), some (sI k)], [sI ((-1))], h)) rfl ?_
        exact s_reti rfl rfl (Or.inl rfl) rfl rfl
theorem fPerMb0 {a k : Int} (hh : aHp h) (ra : sR a) (rk : sR k) (hc : ¬ (0 ≤ a ∧ a < hI h 58 0)) : nEv sc (d + 6) 146 [.ref 53, sI a, sI k] h (some (sI (-1)), h) := by
  have gp := hI_rg hh nw_p
  unfold sR aMi aMa at ra rk
  refine nEv_of (t := mMe146) rfl ?_
  show nRn sc (d + 5) (mMT mMe146) (mMC mMe146) (0, [some (.ref 53), some (sI a), some (sI k)], [], h) _
  refine sP 2 (g1 := (2, [some (.ref 53), some (sI a), some (sI k)], [sI a, .ref 53], h)) rfl ?_
  have ev1 := fIsPerson (sc := sc) (d := d + 3) (a := a) hh (by unfold sR aMi aMa; omega)
  rw [if_neg (by omega)] at ev1
  refine s_call (k := 147) (args := [.ref 53, sI a]) (st := []) (v := some (sI 0)) (h1 := h) rfl ⟨rfl, rfl⟩ rfl rfl rfl rfl (sRcv hh (a := 53) rfl rfl) rfl ev1 ?_
  refine s_ifc (q := .eq) (a := 0) rfl ⟨_, rfl⟩ rfl (by unfold sR aMi aMa; omega) (fun hc2 => ?_) (fun hc2 => ?_)
  · have hc2 : (0 : Int) = 0 := hc2
    refine sP 1 (g1 := (18, [some (.ref 53), some (sI a), some (sI k)], [sI ((-1))], h)) rfl ?_
    exact s_reti rfl rfl (Or.inl rfl) rfl rfl
  · have hc2 : ¬ ((0 : Int) = 0) := hc2
    omega
theorem fPerMb1 {a k : Int} (hh : aHp h) (ra : sR a) (rk : sR k) (hc : (0 ≤ a ∧ a < hI h 58 0) ∧ ¬ (0 ≤ k ∧ k ≤ 4)) : nEv sc (d + 6) 146 [.ref 53, sI a, sI k] h (some (sI (-1)), h) := by
  have gp := hI_rg hh nw_p
  unfold sR aMi aMa at ra rk
  refine nEv_of (t := mMe146) rfl ?_
  show nRn sc (d + 5) (mMT mMe146) (mMC mMe146) (0, [some (.ref 53), some (sI a), some (sI k)], [], h) _
  refine sP 2 (g1 := (2, [some (.ref 53), some (sI a), some (sI k)], [sI a, .ref 53], h)) rfl ?_
  have ev1 := fIsPerson (sc := sc) (d := d + 3) (a := a) hh (by unfold sR aMi aMa; omega)
  rw [if_pos (by omega)] at ev1
  refine s_call (k := 147) (args := [.ref 53, sI a]) (st := []) (v := some (sI 1)) (h1 := h) rfl ⟨rfl, rfl⟩ rfl rfl rfl rfl (sRcv hh (a := 53) rfl rfl) rfl ev1 ?_
  refine s_ifc (q := .eq) (a := 1) rfl ⟨_, rfl⟩ rfl (by unfold sR aMi aMa; omega) (fun hc2 => ?_) (fun hc2 => ?_)
  · have hc2 : (1 : Int) = 0 := hc2
    omega
  · have hc2 : ¬ ((1 : Int) = 0) := hc2
    refine sP 1 (g1 := (5, [some (.ref 53), some (sI a), some (sI k)], [sI k], h)) rfl ?_
    refine s_i2l (a := k) rfl rfl (by unfold sR aMi aMa; omega) ?_
    refine sP 2 (g1 := (8, [some (.ref 53), some (sI a), some (sI k)], [sJ 4, sJ 0, sJ k], h)) rfl ?_
    have ev3 := fIn (sc := sc) (d := d + 4) (h := h) (a := k) (b := 0) (e := 4) (by omega) (by omega) (by omega) (by omega) (by omega) (by omega)
    rw [if_neg (by omega)] at ev3
    refine s_call (k := 127) (args := [sJ k, sJ 0, sJ 4]) (st := []) (v := some (sI 0)) (h1 := h) rfl ⟨rfl, rfl⟩ rfl rfl rfl rfl rfl rfl ev3 ?_
    refine s_ifc (q := .eq) (a := 0) rfl ⟨_, rfl⟩ rfl (by unfold sR aMi aMa; omega) (fun hc4 => ?_) (fun hc4 => ?_)
    · have hc4 : (0 : Int) = 0 := hc4
      refine sP 1 (g1 := (18, [some (.ref 53), some (sI a), some (sI k)], [sI ((-1))], h)) rfl ?_
      exact s_reti rfl rfl (Or.inl rfl) rfl rfl
    · have hc4 : ¬ ((0 : Int) = 0) := hc4
      omega
theorem fPerX {n a k : Nat} (hh : aHp h) (hn : hI h 3 3 = n) (ha : a < n) (hk : k < 5) : ∃ g, nEv sc (d + 6) 34 [.ref 0, sI (a : Int), sI (k : Int)] h (some (sI 1), g) ∧ aHp g ∧ ∀ p m, aSlot g p m = if p = 0 ∧ m = 9 then some (sI (aX9 h n a k)) else aSlot h p m := by
  have gp := hI_rg hh xw_p
  have ev := fAb (sc := sc) (d := d) hh hn (show a < 6 by omega) hk
  obtain ⟨g1, eg1⟩ : ∃ gz, gz = hset h 0 9 (sI (aX9 h n a k)) := ⟨_, rfl⟩
  have sg1 : ∀ xa xm, aSlot g1 xa xm = if xa = 0 ∧ xm = 9 then some (sI (aX9 h n a k)) else aSlot h xa xm := fun xa xm => by rw [eg1]; exact hset_slot hh (show sTg 0 = some (0, 12) from rfl) (by omega) xa xm
  have hg1 : aHp g1 := by rw [eg1]; exact hset_any hh (show zIn 0 9 (-2147483648) 2147483647 = true by decide +kernel)
  refine ⟨g1, nEv_of (t := mMe34) rfl ?_, hg1, sg1⟩
  show nRn sc (d + 5) (mMT mMe34) (mMC mMe34) (0, [some (.ref 0), some (sI ((a : Int))), some (sI ((k : Int)))], [], h) _
  refine sP 1 (g1 := (1, [some (.ref 0), some (sI ((a : Int))), some (sI ((k : Int)))], [.ref 0], h)) rfl ?_
  refine s_get (a := 0) (j := 2) hh rfl ⟨_, rfl⟩ rfl rfl rfl (v := .ref 3) (hR_ok hh (by decide +kernel)) ?_
  refine sP 1 (g1 := (3, [some (.ref 0), some (sI ((a : Int))), some (sI ((k : Int)))], [sI ((a : Int)), .ref 3], h)) rfl ?_
  have ev1 := fHasX (sc := sc) (d := d + 4) (a := (a : Int)) hh (by unfold sR aMi aMa; omega)
  rw [if_pos (by omega)] at ev1
  refine s_call (k := 35) (args := [.ref 3, sI ((a : Int))]) (st := []) (v := some (sI 1)) (h1 := h) rfl ⟨rfl, rfl⟩ rfl rfl rfl rfl (sRcv hh (a := 3) rfl rfl) rfl ev1 ?_
  refine s_ifc (q := .eq) (a := 1) rfl ⟨_, rfl⟩ rfl (by unfold sR aMi aMa; omega) (fun hc2 => ?_) (fun hc2 => ?_)
  · have hc2 : (1 : Int) = 0 := hc2
    omega
  · have hc2 : ¬ ((1 : Int) = 0) := hc2
    refine sP 1 (g1 := (6, [some (.ref 0), some (sI ((a : Int))), some (sI ((k : Int)))], [sI ((k : Int))], h)) rfl ?_
    refine s_ifc (q := .lt) (a := (k : Int)) rfl ⟨_, rfl⟩ rfl (by unfold sR aMi aMa; omega) (fun hc3 => ?_) (fun hc3 => ?_)
    · have hc3 : (((k : Int)) : Int) < 0 := hc3
      omega
    · have hc3 : ¬ ((((k : Int)) : Int) < 0) := hc3
      refine sP 2 (g1 := (9, [some (.ref 0), some (sI ((a : Int))), some (sI ((k : Int)))], [sI 4, sI ((k : Int))], h)) rfl ?_
      refine s_icmp (q := .le) (a := (k : Int)) (b := 4) rfl ⟨_, rfl⟩ rfl (by unfold sR aMi aMa; omega) (by unfold sR aMi aMa; omega) (fun hc4 => ?_) (fun hc4 => ?_)
      · have hc4 : (((k : Int)) : Int) ≤ 4 := hc4
        refine sP 2 (g1 := (14, [some (.ref 0), some (sI ((a : Int))), some (sI ((k : Int)))], [.ref 0, .ref 0], h)) rfl ?_
        refine s_get (a := 0) (j := 2) hh rfl ⟨_, rfl⟩ rfl rfl rfl (v := .ref 3) (hR_ok hh (by decide +kernel)) ?_
        refine sP 2 (g1 := (17, [some (.ref 0), some (sI ((a : Int))), some (sI ((k : Int)))], [sI ((k : Int)), sI ((a : Int)), .ref 3, .ref 0], h)) rfl ?_
        refine s_call (k := 36) (args := [.ref 3, sI ((a : Int)), sI ((k : Int))]) (st := [.ref 0]) (v := some (sI (aX9 h n a k))) (h1 := h) rfl ⟨rfl, rfl⟩ rfl rfl rfl rfl (sRcv hh (a := 3) rfl rfl) rfl ev ?_
        refine s_put (a := 0) (j := 9) (k := 0) (n := 12) hh rfl ⟨_, rfl⟩ (show sTg 0 = some (0, 12) from rfl) rfl rfl (by decide) rfl ?_
        rw [← eg1]
        refine sP 1 (g1 := (20, [some (.ref 0), some (sI ((a : Int))), some (sI ((k : Int)))], [sI 1], g1)) rfl ?_
        exact s_reti rfl rfl (Or.inl rfl) rfl rfl
      · have hc4 : ¬ ((((k : Int)) : Int) ≤ 4) := hc4
        omega
theorem fPerM {n a k : Nat} (hh : aHp h) (hn : hI h 58 0 = n) (ha : a < n) (hk : k < 5) : ∃ g, nEv sc (d + 6) 146 [.ref 53, sI (a : Int), sI (k : Int)] h (some (sI 1), g) ∧ aHp g ∧ ∀ p m, aSlot g p m = if p = 53 ∧ m = 8 then some (sI (aM9 h n a k)) else aSlot h p m := by
  have gp := hI_rg hh nw_p
  have ev := fTd (sc := sc) (d := d) hh hn (show a < 6 by omega) hk
  obtain ⟨g, et, hg, sg⟩ := fTellM (sc := sc) (d := d + 4) (z := aM9 h n a k) hh
  refine ⟨g, nEv_of (t := mMe146) rfl ?_, hg, sg⟩
  show nRn sc (d + 5) (mMT mMe146) (mMC mMe146) (0, [some (.ref 53), some (sI ((a : Int))), some (sI ((k : Int)))], [], h) _
  refine sP 2 (g1 := (2, [some (.ref 53), some (sI ((a : Int))), some (sI ((k : Int)))], [sI ((a : Int)), .ref 53], h)) rfl ?_
  have ev1 := fIsPerson (sc := sc) (d := d + 3) (a := (a : Int)) hh (by unfold sR aMi aMa; omega)
  rw [if_pos (by omega)] at ev1
  refine s_call (k := 147) (args := [.ref 53, sI ((a : Int))]) (st := []) (v := some (sI 1)) (h1 := h) rfl ⟨rfl, rfl⟩ rfl rfl rfl rfl (sRcv hh (a := 53) rfl rfl) rfl ev1 ?_
  refine s_ifc (q := .eq) (a := 1) rfl ⟨_, rfl⟩ rfl (by unfold sR aMi aMa; omega) (fun hc2 => ?_) (fun hc2 => ?_)
  · have hc2 : (1 : Int) = 0 := hc2
    omega
  · have hc2 : ¬ ((1 : Int) = 0) := hc2
    refine sP 1 (g1 := (5, [some (.ref 53), some (sI ((a : Int))), some (sI ((k : Int)))], [sI ((k : Int))], h)) rfl ?_
    refine s_i2l (a := (k : Int)) rfl rfl (by unfold sR aMi aMa; omega) ?_
    refine sP 2 (g1 := (8, [some (.ref 53), some (sI ((a : Int))), some (sI ((k : Int)))], [sJ 4, sJ 0, sJ ((k : Int))], h)) rfl ?_
    have ev3 := fIn (sc := sc) (d := d + 4) (h := h) (a := (k : Int)) (b := 0) (e := 4) (by omega) (by omega) (by omega) (by omega) (by omega) (by omega)
    rw [if_pos (by omega)] at ev3
    refine s_call (k := 127) (args := [sJ ((k : Int)), sJ 0, sJ 4]) (st := []) (v := some (sI 1)) (h1 := h) rfl ⟨rfl, rfl⟩ rfl rfl rfl rfl rfl rfl ev3 ?_
    refine s_ifc (q := .eq) (a := 1) rfl ⟨_, rfl⟩ rfl (by unfold sR aMi aMa; omega) (fun hc4 => ?_) (fun hc4 => ?_)
    · have hc4 : (1 : Int) = 0 := hc4
      omega
    · have hc4 : ¬ ((1 : Int) = 0) := hc4
      refine sP 4 (g1 := (14, [some (.ref 53), some (sI ((a : Int))), some (sI ((k : Int)))], [sI ((k : Int)), sI ((a : Int)), .ref 53, .ref 53], h)) rfl ?_
      refine s_call (k := 148) (args := [.ref 53, sI ((a : Int)), sI ((k : Int))]) (st := [.ref 53]) (v := some (sI (aM9 h n a k))) (h1 := h) rfl ⟨rfl, rfl⟩ rfl rfl rfl rfl (sRcv hh (a := 53) rfl rfl) rfl ev ?_
      refine s_call (k := 130) (args := [.ref 53, sI (aM9 h n a k)]) (st := []) (v := some (sI 1)) (h1 := g) rfl ⟨rfl, rfl⟩ rfl rfl rfl rfl (sRcv hh (a := 53) rfl rfl) rfl et ?_
      refine sP 1 (g1 := (18, [some (.ref 53), some (sI ((a : Int))), some (sI ((k : Int)))], [sI 1], g)) rfl ?_
      exact s_reti rfl rfl (Or.inl rfl) rfl rfl
end MPER
theorem nqPerson {sc : List Int32} {h : mH} (x y : Int32) (hp : mP h) : ∃ z1 h1 z2 h2, nEv sc 100 34 (.ref 0 :: [x, y].map Value.int) h (some (.int z1), h1) ∧ aHp h1 ∧ nEv sc 100 146 (.ref 53 :: [x, y].map Value.int) h1 (some (.int z2), h2) ∧ mP h2 := by
  have hh := mP_a h hp
  have nr := hp.1.1.2.1
  have e3 : hI h 3 3 = hI h 58 0 := nr.1
  have gp := hI_rg hh xw_p
  obtain ⟨n, en⟩ := iN gp.1
  have rx : sR x.toInt := aI_rg x
  have ry : sR y.toInt := aI_rg y
  by_cases c1 : 0 ≤ x.toInt ∧ x.toInt < hI h 3 3
  · by_cases c2 : 0 ≤ y.toInt ∧ y.toInt ≤ 4
    · obtain ⟨a, ea⟩ := iN c1.1
      obtain ⟨k, ek⟩ := iN c2.1
      obtain ⟨g1, a1, a2, a3⟩ := fPerX (sc := sc) (d := 94) (n := n) (a := a) (k := k) hh en (by omega) (by omega)
      have k0 : ∀ p m, ¬ (p = 0 ∧ m = 9) → aSlot g1 p m = aSlot h p m := fun p m w => by rw [a3, if_neg w]
      obtain ⟨g2, b1, b2, b3⟩ := fPerM (sc := sc) (d := 94) (n := n) (a := a) (k := k) a2 (by rw [hI_cg (k0 58 0 (by omega))]; omega) (by omega) (by omega)
      rw [aM9_sl (h := h) (fun m => k0 58 m (by omega)), aXM hp.1 en (by omega) (by omega)] at b3
      obtain ⟨z1, h1, z2, h2, q1, q2, q3, q4, -⟩ := pk2 (Q := mP) (x := x) (y := y) 1 (by rw [ea, ek]; exact a1) a2 (by rw [ea, ek]; exact b1) (mP_ask hp b2 (fun p m w1 w2 => by rw [b3, if_neg (by omega), k0 p m w1]) (by rw [b3 0 9, if_neg (by omega), a3, if_pos ⟨rfl, rfl⟩, b3, if_pos ⟨rfl, rfl⟩]))
      exact ⟨z1, h1, z2, h2, q1, q2, q3, q4⟩
    · obtain ⟨z1, h1, z2, h2, q1, q2, q3, q4, -⟩ := pk2 (Q := mP) (x := x) (y := y) (-1) (fPerXb1 (d := 94) hh rx ry ⟨c1, c2⟩) hh (fPerMb1 (d := 94) hh rx ry ⟨by omega, c2⟩) hp
      exact ⟨z1, h1, z2, h2, q1, q2, q3, q4⟩
  · obtain ⟨z1, h1, z2, h2, q1, q2, q3, q4, -⟩ := pk2 (Q := mP) (x := x) (y := y) (-1) (fPerXb0 (d := 94) hh rx ry c1) hh (fPerMb0 (d := 94) hh rx ry (by omega)) hp
    exact ⟨z1, h1, z2, h2, q1, q2, q3, q4⟩
theorem nqAgree {sc : List Int32} {h : mH} (x : Int32) (hp : mP h) : ∃ z1 h1 z2 h2, nEv sc 100 78 (.ref 0 :: [x].map Value.int) h (some (.int z1), h1) ∧ aHp h1 ∧ nEv sc 100 184 (.ref 53 :: [x].map Value.int) h1 (some (.int z2), h2) ∧ mP h2 := by
  have hh := mP_a h hp
  have nr := hp.1.1.2.1
  have e3 : hI h 3 3 = hI h 58 0 := nr.1
  have gp := hI_rg hh xw_p
  obtain ⟨n, en⟩ := iN gp.1
  have rx : sR x.toInt := aI_rg x
  by_cases c2 : 0 ≤ x.toInt ∧ x.toInt < ((2 ^ n : Nat) : Int)
  · obtain ⟨s, es⟩ := iN c2.1
    obtain ⟨g1, a1, a2, a3⟩ := fAgreeX (sc := sc) (d := 93) (s := s) hh en (by omega)
    have k0 : ∀ p m, ¬ (p = 0 ∧ m = 9) → aSlot g1 p m = aSlot h p m := fun p m w => by rw [a3, if_neg (by omega)]
    have hr : nR h g1 := nR_sl nr (fun _ _ _ _ => rfl) (fun m => k0 58 m (by omega))
    obtain ⟨g2, b1, b2, b3, b4⟩ := fAgreeM (sc := sc) (d := 93) (n := n) (s := s) a2 (by rw [hI_cg (k0 58 0 (by omega))]; omega) (by omega)
    rw [oF_cg (n := n) (fun a b ha hb => nR_aX (s := s) hr en ha hb) n 0 (by omega)] at b4
    rw [oC_cg (n := n) (fun a b ha hb => nR_aX (s := s) hr en ha hb) n 0 (by omega)] at b1
    obtain ⟨z1, h1, z2, h2, q1, q2, q3, q4, -⟩ := pk1 (Q := mP) _ (by rw [es]; exact a1) a2 (by rw [es]; exact b1) (mP_ask hp b2 (fun p m w1 w2 => by rw [b3 p m w2, k0 p m w1]) (by rw [b3 0 9 (by omega), a3, if_pos ⟨rfl, rfl⟩, b4]))
    exact ⟨z1, h1, z2, h2, q1, q2, q3, q4⟩
  · obtain ⟨z1, h1, z2, h2, q1, q2, q3, q4, -⟩ := pk1 (Q := mP) (-1) (fAgreeXb (d := 93) hh en rx c2) hh (fAgreeMb (d := 93) (n := n) hh (by omega) rx c2) hp
    exact ⟨z1, h1, z2, h2, q1, q2, q3, q4⟩
theorem nqWell {sc : List Int32} {h : mH} (hp : mP h) : ∃ z1 h1 z2 h2, nEv sc 100 81 (.ref 0 :: ([] : List Int32).map Value.int) h (some (.int z1), h1) ∧ aHp h1 ∧ nEv sc 100 187 (.ref 53 :: ([] : List Int32).map Value.int) h1 (some (.int z2), h2) ∧ mP h2 := by
  have hh := mP_a h hp
  have nr := hp.1.1.2.1
  have e3 : hI h 3 3 = hI h 58 0 := nr.1
  have gp := hI_rg hh xw_p
  obtain ⟨n, en⟩ := iN gp.1
  by_cases c : hI h 3 3 = 0
  · exact ⟨_, h, _, h, fWellXs (d := 93) hh c, hh, fWellMs (d := 93) hh (by omega), hp⟩
  · obtain ⟨g1, a1, a2, a3⟩ := fWellX (sc := sc) (d := 93) (n := n) (q := 2 ^ n) hh en (by omega) rfl
    have k0 : ∀ p m, ¬ (p = 0 ∧ m = 9) → aSlot g1 p m = aSlot h p m := fun p m w => by rw [a3, if_neg (by omega)]
    have hr : nR h g1 := nR_sl nr (fun _ _ _ _ => rfl) (fun m => k0 58 m (by omega))
    obtain ⟨g2, b1, b2, b3, b4⟩ := fWellM (sc := sc) (d := 93) (n := n) (q := 2 ^ n) a2 (by rw [hI_cg (k0 58 0 (by omega))]; omega) (by omega) rfl
    have ew : wB (wfM g1 n) (2 ^ n) = wB (wfX h n) (2 ^ n) := wB_cg (n := 2 ^ n) (fun s _ => by
      unfold wfM wfX
      rw [oC_cg (n := n) (fun a b ha hb => nR_aX (s := s) hr en ha hb) n 0 (by omega)]) (2 ^ n) (Nat.le_refl _)
    rw [ew] at b1 b4
    exact ⟨_, g1, _, g2, a1, a2, b1, mP_ask hp b2 (fun p m w1 w2 => by rw [b3 p m w2, k0 p m w1]) (by rw [b3 0 9 (by omega), a3, if_pos ⟨rfl, rfl⟩, b4])⟩
theorem nqAdd {sc : List Int32} {h : mH} (x : Int32) (hp : mP h) : ∃ z1 h1 z2 h2, nEv sc 100 82 (.ref 0 :: [x].map Value.int) h (some (.int z1), h1) ∧ aHp h1 ∧ nEv sc 100 188 (.ref 53 :: [x].map Value.int) h1 (some (.int z2), h2) ∧ mP h2 := by
  have hh := mP_a h hp
  have nr := hp.1.1.2.1
  have e3 : hI h 3 3 = hI h 58 0 := nr.1
  have gp := hI_rg hh xw_p
  obtain ⟨n, en⟩ := iN gp.1
  have rx : sR x.toInt := aI_rg x
  by_cases c2 : 0 ≤ x.toInt ∧ x.toInt < ((2 ^ n : Nat) : Int)
  · obtain ⟨s, es⟩ := iN c2.1
    obtain ⟨g1, a1, a2, a3⟩ := fAddX (sc := sc) (d := 93) (s := s) hh en (by omega)
    have k0 : ∀ p m, ¬ (p = 0 ∧ m = 9) → aSlot g1 p m = aSlot h p m := fun p m w => by rw [a3, if_neg (fun q => w ⟨q.1, q.2.1⟩)]
    have hr : nR h g1 := nR_sl nr (fun _ _ _ _ => rfl) (fun m => k0 58 m (by omega))
    obtain ⟨g2, b1, b2, b3, b4, b5⟩ := fAddM (sc := sc) (d := 93) (n := n) (s := s) a2 (by rw [hI_cg (k0 58 0 (by omega))]; omega) (by omega)
    have ew : adB (vM g1 n s) n = adB (vX h n s) n := adB_cg (n := n) (fun a ha => show vM g1 n s a = vX h n s a by (unfold vM vX; rw [oC_cg (n := n) (fun a b ha hb => nR_aX hr en ha hb) n 0 (by omega)])) n (Nat.le_refl n)
    rw [ew] at b1 b4 b5
    have qq : aSlot g2 0 9 = aSlot g2 53 8 := by
      rw [b3 0 9 (by omega), a3]
      by_cases w : (adB (vX h n s) n).1 = -9
      · rw [if_neg (fun q => q.2.2 w), b5 w, k0 53 8 (by omega)]
        exact hp.2
      · rw [if_pos ⟨rfl, rfl, w⟩, b4 w]
    obtain ⟨z1, h1, z2, h2, q1, q2, q3, q4, -⟩ := pk1 (Q := mP) _ (by rw [es]; exact a1) a2 (by rw [es]; exact b1) (mP_ask hp b2 (fun p m w1 w2 => by rw [b3 p m (by omega), k0 p m w1]) qq)
    exact ⟨z1, h1, z2, h2, q1, q2, q3, q4⟩
  · obtain ⟨z1, h1, z2, h2, q1, q2, q3, q4, -⟩ := pk1 (Q := mP) (-1) (fAddXb (d := 93) hh en rx c2) hh (fAddMb (d := 93) (n := n) hh (by omega) rx c2) hp
    exact ⟨z1, h1, z2, h2, q1, q2, q3, q4⟩
theorem nqWorst {sc : List Int32} {h : mH} (x : Int32) (hp : mP h) : ∃ z1 h1 z2 h2, nEv sc 100 83 (.ref 0 :: [x].map Value.int) h (some (.int z1), h1) ∧ aHp h1 ∧ nEv sc 100 189 (.ref 53 :: [x].map Value.int) h1 (some (.int z2), h2) ∧ mP h2 := by
  have hh := mP_a h hp
  have nr := hp.1.1.2.1
  have e3 : hI h 3 3 = hI h 58 0 := nr.1
  have gp := hI_rg hh xw_p
  obtain ⟨n, en⟩ := iN gp.1
  have rx : sR x.toInt := aI_rg x
  by_cases c2 : 0 ≤ x.toInt ∧ x.toInt < ((2 ^ n : Nat) : Int)
  · obtain ⟨s, es⟩ := iN c2.1
    obtain ⟨g1, a1, a2, a3⟩ := fWorstX (sc := sc) (d := 95) (s := s) hh en (by omega)
    have k0 : ∀ p m, ¬ (p = 0 ∧ m = 9) → aSlot g1 p m = aSlot h p m := fun p m w => by rw [a3, if_neg (fun q => w ⟨q.1, q.2.1⟩)]
    have hr : nR h g1 := nR_sl nr (fun _ _ _ _ => rfl) (fun m => k0 58 m (by omega))
    obtain ⟨g2, b1, b2, b3, b4, b5⟩ := fWorstM (sc := sc) (d := 95) (n := n) (s := s) a2 (by rw [hI_cg (k0 58 0 (by omega))]; omega) (by omega)
    have ew : oW (dM g1 n s) n n 0 (-9, -1) = oW (dX h n s) n n 0 (-9, -1) := oW_cg (n := n) (fun a b ha hb => show dM g1 n s a b = dX h n s a b by (unfold dM dX; rw [nR_sX hr en ha, nR_sX hr en hb])) n 0 _ (by omega)
    rw [ew] at b1 b4 b5
    have qq : aSlot g2 0 9 = aSlot g2 53 8 := by
      rw [b3 0 9 (by omega), a3]
      by_cases w : (oW (dX h n s) n n 0 (-9, -1)).1 = -9
      · rw [if_neg (fun q => q.2.2 w), b5 w, k0 53 8 (by omega)]
        exact hp.2
      · rw [if_pos ⟨rfl, rfl, w⟩, b4 w]
    obtain ⟨z1, h1, z2, h2, q1, q2, q3, q4, -⟩ := pk1 (Q := mP) _ (by rw [es]; exact a1) a2 (by rw [es]; exact b1) (mP_ask hp b2 (fun p m w1 w2 => by rw [b3 p m (by omega), k0 p m w1]) qq)
    exact ⟨z1, h1, z2, h2, q1, q2, q3, q4⟩
  · obtain ⟨z1, h1, z2, h2, q1, q2, q3, q4, -⟩ := pk1 (Q := mP) (-1) (fWorstXb (d := 95) hh en rx c2) hh (fWorstMb (d := 95) (n := n) hh (by omega) rx c2) hp
    exact ⟨z1, h1, z2, h2, q1, q2, q3, q4⟩
theorem nqTells {sc : List Int32} {h : mH} (x : Int32) (hp : mP h) : ∃ z1 h1 z2 h2, nEv sc 100 95 (.ref 0 :: [x].map Value.int) h (some (.int z1), h1) ∧ aHp h1 ∧ nEv sc 100 199 (.ref 53 :: [x].map Value.int) h1 (some (.int z2), h2) ∧ mP h2 := by
  have hh := mP_a h hp
  have nr := hp.1.1.2.1
  have e3 : hI h 3 3 = hI h 58 0 := nr.1
  have gp := hI_rg hh xw_p
  obtain ⟨n, en⟩ := iN gp.1
  have rx : sR x.toInt := aI_rg x
  by_cases c2 : 0 ≤ x.toInt ∧ x.toInt < hI h 3 3
  · obtain ⟨a, ea⟩ := iN c2.1
    obtain ⟨g1, a1, a2, a3⟩ := fTellsX (sc := sc) (d := 95) (n := n) (a := a) hh en (by omega)
    have k0 : ∀ p m, ¬ (p = 0 ∧ m = 9) → aSlot g1 p m = aSlot h p m := fun p m w => by rw [a3, if_neg (by omega)]
    have hr : nR h g1 := nR_sl nr (fun _ _ _ _ => rfl) (fun m => k0 58 m (by omega))
    obtain ⟨g2, b1, b2, b3⟩ := fTellsM (sc := sc) (d := 97) (n := n) (a := a) a2 (by rw [hI_cg (k0 58 0 (by omega))]; omega) (by omega)
    rw [tkT_cg (fun s kd => nR_seem hr en (show a < n by omega)) (2 ^ n)] at b1 b3
    obtain ⟨z1, h1, z2, h2, q1, q2, q3, q4, -⟩ := pk1 (Q := mP) _ (by rw [ea]; exact a1) a2 (by rw [ea]; exact b1) (mP_ask hp b2 (fun p m w1 w2 => by rw [b3, if_neg (by omega), k0 p m w1]) (by rw [b3 0 9, if_neg (by omega), a3, if_pos ⟨rfl, rfl⟩, b3, if_pos ⟨rfl, rfl⟩]))
    exact ⟨z1, h1, z2, h2, q1, q2, q3, q4⟩
  · obtain ⟨z1, h1, z2, h2, q1, q2, q3, q4, -⟩ := pk1 (Q := mP) (-1) (fTellsXb (d := 97) hh rx c2) hh (fTellsMb (d := 97) hh rx (by omega)) hp
    exact ⟨z1, h1, z2, h2, q1, q2, q3, q4⟩
theorem nqAsked {sc : List Int32} {h : mH} (hp : mP h) : ∃ z1 h1 z2 h2, nEv sc 100 110 (.ref 0 :: ([] : List Int32).map Value.int) h (some (.int z1), h1) ∧ aHp h1 ∧ nEv sc 100 213 (.ref 53 :: ([] : List Int32).map Value.int) h1 (some (.int z2), h2) ∧ mP h2 ∧ z2 = z1 := by
  have hh := mP_a h hp
  have e : hI h 53 8 = hI h 0 9 := hI_cg2 hp.2.symm
  refine ⟨Int32.ofInt (hI h 0 9), h, Int32.ofInt (hI h 0 9), h, nEv_of (t := mMe110) rfl ?_, hh, nEv_of (t := mMe213) rfl ?_, hp, rfl⟩
  · show nRn sc 99 (mMT mMe110) (mMC mMe110) (0, [some (.ref 0)], [], h) _
    refine sP 1 (g1 := (1, [some (.ref 0)], [.ref 0], h)) rfl ?_
    have rg1 := hI_rg (a := 0) (j := 9) (lo := (-2147483648)) (hi := 2147483647) hh (by decide +kernel)
    refine s_get (a := 0) (j := 9) hh rfl ⟨_, rfl⟩ rfl rfl rfl (v := sI (hI h 0 9)) (hI_ok (lo := (-2147483648)) (hi := 2147483647) hh (by decide +kernel)) ?_
    exact s_reti rfl rfl (Or.inl rfl) rfl rfl
  · show nRn sc 99 (mMT mMe213) (mMC mMe213) (0, [some (.ref 53)], [], h) _
    refine sP 1 (g1 := (1, [some (.ref 53)], [.ref 53], h)) rfl ?_
    have rg1 := hI_rg (a := 53) (j := 8) (lo := (-2147483648)) (hi := 2147483647) hh (by decide +kernel)
    refine s_get (a := 53) (j := 8) hh rfl ⟨_, rfl⟩ rfl rfl rfl (v := sI (hI h 53 8)) (hI_ok (lo := (-2147483648)) (hi := 2147483647) hh (by decide +kernel)) ?_
    exact s_reti rfl rfl (Or.inl rfl) e rfl
def nT : List aCt := [kC45, kC49, kC62, kC63, kC68, kC72, kC101, kC102, kC103, kC105, kC176, kC193, kC194, kC200, kC202, kC203, kC204, kC210, kC211, kC215, kC282, kC283, kC284, kC288, kC289, kC290, kC291, kC292, kC293, kC298, kC300, kC301, kC302, kC303, kC304, kC316, kC317]
set_option maxRecDepth 100000 in
theorem nT_ok (sc : List Int32) : ∀ c ∈ nT, nMe sc 81 c := by
  unfold nT
  exact List.forall_mem_cons.mpr ⟨(kM45 sc).mono (by decide), List.forall_mem_cons.mpr ⟨(kM49 sc).mono (by decide), List.forall_mem_cons.mpr ⟨(kM62 sc).mono (by decide), List.forall_mem_cons.mpr ⟨(kM63 sc).mono (by decide), List.forall_mem_cons.mpr ⟨(kM68 sc).mono (by decide), List.forall_mem_cons.mpr ⟨(kM72 sc).mono (by decide), List.forall_mem_cons.mpr ⟨(kM101 sc).mono (by decide), List.forall_mem_cons.mpr ⟨(kM102 sc).mono (by decide), List.forall_mem_cons.mpr ⟨(kM103 sc).mono (by decide), List.forall_mem_cons.mpr ⟨(kM105 sc).mono (by decide), List.forall_mem_cons.mpr ⟨(kM176 sc).mono (by decide), List.forall_mem_cons.mpr ⟨(kM193 sc).mono (by decide), List.forall_mem_cons.mpr ⟨(kM194 sc).mono (by decide), List.forall_mem_cons.mpr ⟨(kM200 sc).mono (by decide), List.forall_mem_cons.mpr ⟨(kM202 sc).mono (by decide), List.forall_mem_cons.mpr ⟨(kM203 sc).mono (by decide), List.forall_mem_cons.mpr ⟨(kM204 sc).mono (by decide), List.forall_mem_cons.mpr ⟨(kM210 sc).mono (by decide), List.forall_mem_cons.mpr ⟨(kM211 sc).mono (by decide), List.forall_mem_cons.mpr ⟨(kM215 sc).mono (by decide), List.forall_mem_cons.mpr ⟨(kM282 sc).mono (by decide), List.forall_mem_cons.mpr ⟨(kM283 sc).mono (by decide), List.forall_mem_cons.mpr ⟨(kM284 sc).mono (by decide), List.forall_mem_cons.mpr ⟨(kM288 sc).mono (by decide), List.forall_mem_cons.mpr ⟨(kM289 sc).mono (by decide), List.forall_mem_cons.mpr ⟨(kM290 sc).mono (by decide), List.forall_mem_cons.mpr ⟨(kM291 sc).mono (by decide), List.forall_mem_cons.mpr ⟨(kM292 sc).mono (by decide), List.forall_mem_cons.mpr ⟨(kM293 sc).mono (by decide), List.forall_mem_cons.mpr ⟨(kM298 sc).mono (by decide), List.forall_mem_cons.mpr ⟨(kM300 sc).mono (by decide), List.forall_mem_cons.mpr ⟨(kM301 sc).mono (by decide), List.forall_mem_cons.mpr ⟨(kM302 sc).mono (by decide), List.forall_mem_cons.mpr ⟨(kM303 sc).mono (by decide), List.forall_mem_cons.mpr ⟨(kM304 sc).mono (by decide), List.forall_mem_cons.mpr ⟨(kM316 sc).mono (by decide), List.forall_mem_cons.mpr ⟨(kM317 sc).mono (by decide), List.forall_mem_nil _⟩⟩⟩⟩⟩⟩⟩⟩⟩⟩⟩⟩⟩⟩⟩⟩⟩⟩⟩⟩⟩⟩⟩⟩⟩⟩⟩⟩⟩⟩⟩⟩⟩⟩⟩⟩⟩
set_option maxRecDepth 100000 in
theorem nT_z : nT.all (fun c => (wMiss c.2.2.2 && rMiss c.2.2.2) && qMiss c.2.2.2) = true := by decide +kernel
