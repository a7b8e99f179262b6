/-! rows and embassies together -/
noncomputable def rP (h : mH) : Prop := ∀ c, c < 6 → aSlot h (21 + 2 * c) 1 = aSlot h 54 c ∧ ∀ j, j < 40 → aSlot h (22 + 2 * c) j = aSlot h 55 (40 * c + j)
noncomputable def dP (h : mH) : Prop := aSlot h 0 8 = aSlot h 53 11 ∧ ∀ j, j < 6 → aSlot h 20 j = aSlot h 62 j
noncomputable def qP (h : mH) : Prop := aSlot h 0 9 = aSlot h 53 8
noncomputable def vP (h : mH) : Prop := wP h ∧ rP h
noncomputable def vE (h h2 : mH) : Prop := vP h2 ∧ (dP h → dP h2) ∧ (qP h → qP h2)
theorem rP_sl {h h1 : mH} (hp : rP h) (hs : ∀ a j, ((21 ≤ a ∧ a ≤ 32) ∨ a = 54 ∨ a = 55) → aSlot h1 a j = aSlot h a j) : rP h1 := fun c hc => ⟨by rw [hs _ _ (by omega), hs _ _ (by omega)]; exact (hp c hc).1, fun j hj => by rw [hs _ _ (by omega), hs _ _ (by omega)]; exact (hp c hc).2 j hj⟩
noncomputable def rMiss (ms : aMd) : Bool := ms.all (fun m => decide ((m.1 < 21 ∨ 32 < m.1) ∧ m.1 ≠ 54 ∧ m.1 ≠ 55))
theorem rMiss_no {ms : aMd} (hm : rMiss ms = true) {a j : Nat} (ha : (21 ≤ a ∧ a ≤ 32) ∨ a = 54 ∨ a = 55) : ¬ aCov ms a j := by
  rintro ⟨m, m1, m2, -⟩
  have h2 := of_decide_eq_true (List.all_eq_true.mp hm m m1)
  omega
theorem rP_fr {h h1 : mH} {ms : aMd} (hp : rP h) (hf : nFr ms h h1) (hm : rMiss ms = true) : rP h1 := rP_sl hp (fun a j w => hf a j (rMiss_no hm w))
theorem vP_a (h : mH) (hp : vP h) : aHp h := hp.1.1.1
theorem vP_fr {h h1 : mH} {ms : aMd} (hp : vP h) (hh1 : aHp h1) (hf : nFr ms h h1) (hm : (wMiss ms && rMiss ms) = true) : vP h1 := by
  rw [Bool.and_eq_true] at hm
  exact ⟨wP_fr hp.1 hh1 hf hm.1, rP_fr hp.2 hf hm.2⟩
theorem vP_sl {h h1 : mH} (hp : vP h) (hh1 : aHp h1) (hs : ∀ p m, p ≠ 0 → p ≠ 20 → p ≠ 53 → p ≠ 62 → aSlot h1 p m = aSlot h p m) : vP h1 :=
  ⟨wP_sl hp.1 (tP_sl hp.1.1 hh1 (fun e m w => hs e m (by omega) (by omega) (by omega) (by omega))) (fun a j w => hs a j (by omega) (by omega) (by omega) (by omega)), rP_sl hp.2 (fun a j w => hs a j (by omega) (by omega) (by omega) (by omega))⟩
theorem v_same {h : mH} (hp : vP h) : vE h h := ⟨hp, fun q => q, fun q => q⟩
theorem oFX.sl {f : Nat} {h g : mH} (hx : oFX f h g) {p m : Nat} (h0 : p ≠ 0) (h1 : p ≠ 20) : aSlot g p m = aSlot h p m := by
  rw [hx.2, if_neg (by omega), if_neg (by omega)]
theorem v_found {f : Nat} {h h1 h2 : mH} (hf : f < 6) (hp : vP h) (hx : oFX f h h1) (hm : oFM f h1 h2) : vE h h2 := by
  refine ⟨vP_sl hp hm.1 (fun p m a b c e => by rw [hm.2, if_neg (by omega), if_neg (by omega), hx.sl a b]), fun hd => ⟨?_, fun j hj => ?_⟩, fun hq => ?_⟩
  · rw [hm.2 0 8, if_neg (by omega), if_neg (by omega), hx.2, if_neg (by omega), if_pos ⟨rfl, rfl⟩, hm.2, if_neg (by omega), if_pos ⟨rfl, rfl⟩]
  · by_cases e : j = f
    · subst e
      have e1 : hI h1 62 j = hI h 20 j := hI_cg2 (by rw [hx.sl (by omega) (by omega)]; exact (hd.2 j hj).symm)
      rw [hm.2 20, if_neg (by omega), if_neg (by omega), hx.2, if_pos ⟨rfl, rfl⟩, hm.2, if_pos ⟨rfl, rfl⟩, e1]
    · rw [hm.2 20, if_neg (by omega), if_neg (by omega), hx.2, if_neg (by omega), if_neg (by omega), hm.2, if_neg (by omega), if_neg (by omega), hx.sl (by omega) (by omega)]
      exact hd.2 j hj
  · show aSlot h2 0 9 = aSlot h2 53 8
    rw [hm.2 0 9, if_neg (by omega), if_neg (by omega), hx.2, if_neg (by omega), if_neg (by omega), hm.2, if_neg (by omega), if_neg (by omega), hx.sl (by omega) (by omega)]
    exact hq
theorem rS {h : mH} (hp : rP h) {r : Nat} (hr : r < 6) : hI h 54 r = hI h (21 + 2 * r) 1 := hI_cg2 (hp r hr).1.symm
theorem rCe {h : mH} (hp : rP h) {r j : Nat} (hr : r < 6) (hj : j < 40) : hI h 55 (40 * r + j) = hI h (22 + 2 * r) j := hI_cg2 ((hp r hr).2 j hj).symm
theorem pk1 {sc : List Int32} {Q : mH → Prop} {h h1 h2 : mH} {kx km : Nat} {x : Int32} (va : Int) (a1 : nEv sc 100 kx [.ref 0, sI x.toInt] h (some (sI va), h1)) (a2 : aHp h1) (a3 : nEv sc 100 km [.ref 53, sI x.toInt] h1 (some (sI va), h2)) (a4 : Q h2) : ∃ z1 h1 z2 h2, nEv sc 100 kx (.ref 0 :: [x].map Value.int) h (some (.int z1), h1) ∧ aHp h1 ∧ nEv sc 100 km (.ref 53 :: [x].map Value.int) h1 (some (.int z2), h2) ∧ Q h2 ∧ z2 = z1 := by
  refine ⟨Int32.ofInt va, h1, Int32.ofInt va, h2, ?_, a2, ?_, a4, rfl⟩
  · show nEv sc 100 kx [.ref 0, .int x] h _
    rw [sI_of x]
    exact a1
  · show nEv sc 100 km [.ref 53, .int x] h1 _
    rw [sI_of x]
    exact a3
theorem pk2 {sc : List Int32} {Q : mH → Prop} {h h1 h2 : mH} {kx km : Nat} {x y : Int32} (va : Int) (a1 : nEv sc 100 kx [.ref 0, sI x.toInt, sI y.toInt] h (some (sI va), h1)) (a2 : aHp h1) (a3 : nEv sc 100 km [.ref 53, sI x.toInt, sI y.toInt] h1 (some (sI va), h2)) (a4 : Q h2) : ∃ z1 h1 z2 h2, nEv sc 100 kx (.ref 0 :: [x, y].map Value.int) h (some (.int z1), h1) ∧ aHp h1 ∧ nEv sc 100 km (.ref 53 :: [x, y].map Value.int) h1 (some (.int z2), h2) ∧ Q h2 ∧ z2 = z1 := by
  refine ⟨Int32.ofInt va, h1, Int32.ofInt va, h2, ?_, a2, ?_, a4, rfl⟩
  · show nEv sc 100 kx [.ref 0, .int x, .int y] h _
    rw [sI_of x, sI_of y]
    exact a1
  · show nEv sc 100 km [.ref 53, .int x, .int y] h1 _
    rw [sI_of x, sI_of y]
    exact a3
theorem pk3 {sc : List Int32} {Q : mH → Prop} {h h1 h2 : mH} {kx km : Nat} {x y z : Int32} (va : Int) (a1 : nEv sc 100 kx [.ref 0, sI x.toInt, sI y.toInt, sI z.toInt] h (some (sI va), h1)) (a2 : aHp h1) (a3 : nEv sc 100 km [.ref 53, sI x.toInt, sI y.toInt, sI z.toInt] h1 (some (sI va), h2)) (a4 : Q h2) : ∃ z1 h1 z2 h2, nEv sc 100 kx (.ref 0 :: [x, y, z].map Value.int) h (some (.int z1), h1) ∧ aHp h1 ∧ nEv sc 100 km (.ref 53 :: [x, y, z].map Value.int) h1 (some (.int z2), h2) ∧ Q h2 ∧ z2 = z1 := by
  refine ⟨Int32.ofInt va, h1, Int32.ofInt va, h2, ?_, a2, ?_, a4, rfl⟩
  · show nEv sc 100 kx [.ref 0, .int x, .int y, .int z] h _
    rw [sI_of x, sI_of y, sI_of z]
    exact a1
  · show nEv sc 100 km [.ref 53, .int x, .int y, .int z] h1 _
    rw [sI_of x, sI_of y, sI_of z]
    exact a3
theorem pk5 {sc : List Int32} {Q : mH → Prop} {h h1 h2 : mH} {kx km : Nat} {x y z u v : Int32} (va : Int) (a1 : nEv sc 100 kx [.ref 0, sI x.toInt, sI y.toInt, sI z.toInt, sI u.toInt, sI v.toInt] h (some (sI va), h1)) (a2 : aHp h1) (a3 : nEv sc 100 km [.ref 53, sI x.toInt, sI y.toInt, sI z.toInt, sI u.toInt, sI v.toInt] h1 (some (sI va), h2)) (a4 : Q h2) : ∃ z1 h1 z2 h2, nEv sc 100 kx (.ref 0 :: [x, y, z, u, v].map Value.int) h (some (.int z1), h1) ∧ aHp h1 ∧ nEv sc 100 km (.ref 53 :: [x, y, z, u, v].map Value.int) h1 (some (.int z2), h2) ∧ Q h2 ∧ z2 = z1 := by
  refine ⟨Int32.ofInt va, h1, Int32.ofInt va, h2, ?_, a2, ?_, a4, rfl⟩
  · show nEv sc 100 kx [.ref 0, .int x, .int y, .int z, .int u, .int v] h _
    rw [sI_of x, sI_of y, sI_of z, sI_of u, sI_of v]
    exact a1
  · show nEv sc 100 km [.ref 53, .int x, .int y, .int z, .int u, .int v] h1 _
    rw [sI_of x, sI_of y, sI_of z, sI_of u, sI_of v]
    exact a3
/-- only rows and what is asked change -/
theorem v_rows {h h2 : mH} (hp : vP h) (hh2 : aHp h2) (hr : rP h2) (hs : ∀ p m, ¬ (21 ≤ p ∧ p ≤ 32) → p ≠ 54 → p ≠ 55 → ¬ (p = 0 ∧ m = 9) → ¬ (p = 53 ∧ m = 8) → aSlot h2 p m = aSlot h p m) (hq : qP h → qP h2) : vE h h2 :=
  ⟨⟨wP_sl hp.1 (tP_sl hp.1.1 hh2 (fun e m w => hs e m (by omega) (by omega) (by omega) (by omega) (by omega))) (fun a j w => hs a j (by omega) (by omega) (by omega) (by omega) (by omega)), hr⟩, fun hd => ⟨by rw [hs 0 8 (by omega) (by omega) (by omega) (by omega) (by omega), hs 53 11 (by omega) (by omega) (by omega) (by omega) (by omega)]; exact hd.1, fun j hj => by rw [hs 20 j (by omega) (by omega) (by omega) (by omega) (by omega), hs 62 j (by omega) (by omega) (by omega) (by omega) (by omega)]; exact hd.2 j hj⟩, hq⟩
theorem vRow {sc : List Int32} {h : mH} (x y : Int32) (hp : vP h) : ∃ z1 h1 z2 h2, nEv sc 100 7 (.ref 0 :: [x, y].map Value.int) h (some (.int z1), h1) ∧ aHp h1 ∧ nEv sc 100 125 (.ref 53 :: [x, y].map Value.int) h1 (some (.int z2), h2) ∧ vE h h2 ∧ z2 = z1 := by
  have hh := vP_a h hp
  have rx : sR x.toInt := aI_rg x
  have ry : sR y.toInt := aI_rg y
  by_cases c1 : 0 ≤ x.toInt ∧ x.toInt < 6
  · obtain ⟨r, er⟩ := iN c1.1
    have hr : r < 6 := by omega
    by_cases c2 : 40 < y.toInt
    · exact pk2 (-1) (by rw [er]; exact fRowXb1 (d := 97) hh hr ry c2) hh (by rw [er]; exact fRowMb1 (d := 97) hh hr ry c2) (v_same hp)
    by_cases c3 : y.toInt < 0
    · obtain ⟨h1, a1, a2⟩ := fRowXw (sc := sc) (d := 97) hh hr ry c3
      obtain ⟨h2, b1, b2⟩ := fRowMw (sc := sc) (d := 97) a2.1 hr ry c3
      exact pk2 (-3) (by rw [er]; exact a1) a2.1 (by rw [er]; exact b1) (v_found (by decide) hp a2 b2)
    · obtain ⟨h1, a1, a2, a3⟩ := fRowX (sc := sc) (d := 97) (n := y.toInt) hr hh (by omega) (by omega)
      obtain ⟨h2, b1, b2, b3⟩ := fRowM (sc := sc) (d := 97) (n := y.toInt) hr a2 (by omega) (by omega)
      have hs : ∀ p m, ¬ (21 ≤ p ∧ p ≤ 32) → p ≠ 54 → p ≠ 55 → aSlot h2 p m = aSlot h p m := fun p m w1 w2 w3 => by rw [b3, if_neg (by omega), if_neg (by omega), a3, if_neg (by omega), if_neg (by omega)]
      refine pk2 y.toInt (by rw [er]; exact a1) a2 (by rw [er]; exact b1) (v_rows hp b2 (fun e he => ⟨?_, fun i hi => ?_⟩) (fun p m w1 w2 w3 _ _ => hs p m w1 w2 w3) (fun q => ?_))
      · rw [b3, b3, if_neg (by omega), if_neg (by omega), if_neg (by omega)]
        by_cases hec : e = r
        · rw [if_pos ⟨rfl, hec⟩, a3, if_neg (by omega), if_pos (by omega)]
        · rw [if_neg (by omega), a3, a3, if_neg (by omega), if_neg (by omega), if_neg (by omega), if_neg (by omega)]
          exact (hp.2 e he).1
      · rw [b3, b3, if_neg (by omega), if_neg (by omega)]
        by_cases hec : e = r
        · rw [if_pos (by omega), a3, if_pos (by omega)]
        · rw [if_neg (by omega), if_neg (by omega), a3, a3, if_neg (by omega), if_neg (by omega), if_neg (by omega), if_neg (by omega)]
          exact (hp.2 e he).2 i hi
      · show aSlot h2 0 9 = aSlot h2 53 8
        rw [hs 0 9 (by omega) (by omega) (by omega), hs 53 8 (by omega) (by omega) (by omega)]
        exact q
  · exact pk2 (-1) (fRowXb0 (d := 97) hh rx ry c1) hh (fRowMb0 (d := 97) hh rx ry c1) (v_same hp)
theorem vLay {sc : List Int32} {h : mH} (x y z : Int32) (hp : vP h) : ∃ z1 h1 z2 h2, nEv sc 100 12 (.ref 0 :: [x, y, z].map Value.int) h (some (.int z1), h1) ∧ aHp h1 ∧ nEv sc 100 129 (.ref 53 :: [x, y, z].map Value.int) h1 (some (.int z2), h2) ∧ vE h h2 ∧ z2 = z1 := by
  have hh := vP_a h hp
  have rx : sR x.toInt := aI_rg x
  have ry : sR y.toInt := aI_rg y
  have rz : sR z.toInt := aI_rg z
  by_cases c1 : 0 ≤ x.toInt ∧ x.toInt < 6
  · obtain ⟨r, er⟩ := iN c1.1
    have hr : r < 6 := by omega
    have sz := hI_rg hh (ra_z hr)
    have e0 := rS hp.2 hr
    by_cases c2 : hI h (21 + 2 * r) 1 = -1
    · obtain ⟨h1, a1, a2⟩ := fLayXw (sc := sc) (d := 97) (f := 1) (i := y.toInt) (v := z) hh hr ry (by decide) (by decide) (by rw [if_pos c2]; rfl)
      obtain ⟨h2, b1, b2⟩ := fLayMw1 (sc := sc) (d := 97) (i := y.toInt) (v := z) a2.1 hr (by rw [hI_cg (a2.sl (by omega) (by omega))]; omega)
      exact pk3 (-3) (by rw [er, ← sI_of z]; exact a1) a2.1 (by rw [er, ← sI_of z]; exact b1) (v_found (by decide) hp a2 b2)
    by_cases c3 : y.toInt < 0 ∨ hI h (21 + 2 * r) 1 ≤ y.toInt
    · obtain ⟨h1, a1, a2⟩ := fLayXw (sc := sc) (d := 97) (f := 2) (i := y.toInt) (v := z) hh hr ry (by decide) (by decide) (by rw [if_neg c2, if_pos c3]; rfl)
      have e1 : hI h1 54 r = hI h 54 r := hI_cg (a2.sl (by omega) (by omega))
      obtain ⟨h2, b1, b2⟩ := fLayMw2 (sc := sc) (d := 97) (i := y.toInt) (v := z) a2.1 hr ry (by omega) (by omega)
      exact pk3 (-3) (by rw [er, ← sI_of z]; exact a1) a2.1 (by rw [er, ← sI_of z]; exact b1) (v_found (by decide) hp a2 b2)
    · obtain ⟨i, ei⟩ := iN (show 0 ≤ y.toInt by omega)
      obtain ⟨h1, a1, a2, a3⟩ := fLayX (sc := sc) (d := 97) (i := i) (v := z) hh hr (by omega)
      have e1 : hI h1 54 r = hI h 54 r := hI_cg (by rw [a3, if_neg (by omega), if_neg (by omega)])
      have e2 : hI h1 55 (40 * r + i) = hI h (22 + 2 * r) i := hI_cg2 (by rw [a3, if_neg (by omega), if_neg (by omega)]; exact ((hp.2 r hr).2 i (by omega)).symm)
      obtain ⟨h2, b1, b2, b3⟩ := fLayM (sc := sc) (d := 97) (i := i) (v := z) a2 hr (by omega)
      refine pk3 1 (by rw [er, ei, ← sI_of z]; exact a1) a2 (by rw [er, ei, ← sI_of z]; exact b1) (v_rows hp b2 (fun e he => ⟨?_, fun j hj => ?_⟩) (fun p m w1 w2 w3 w4 w5 => ?_) (fun q => ?_))
      · rw [b3, b3, if_neg (by omega), if_neg (by omega), if_neg (by omega), if_neg (by omega), a3, a3, if_neg (by omega), if_neg (by omega), if_neg (by omega), if_neg (by omega)]
        exact (hp.2 e he).1
      · rw [b3, b3, if_neg (by omega), if_neg (by omega), if_neg (by omega)]
        by_cases hec : e = r ∧ j = i
        · rw [if_pos (by omega), a3, if_pos (by omega)]
        · rw [if_neg (by omega), a3, a3, if_neg (by omega), if_neg (by omega), if_neg (by omega), if_neg (by omega)]
          exact (hp.2 e he).2 j hj
      · rw [b3, if_neg (by omega), if_neg (by omega), a3, if_neg (by omega), if_neg (by omega)]
      · show aSlot h2 0 9 = aSlot h2 53 8
        rw [b3 0 9, if_neg (by omega), if_neg (by omega), a3, if_neg (by omega), if_pos ⟨rfl, rfl⟩, b3, if_pos ⟨rfl, rfl⟩, e2]
  · exact pk3 (-1) (by rw [← sI_of z]; exact fLayXb0 (d := 97) hh rx c1) hh (by rw [← sI_of z]; exact fLayMb0 (d := 97) hh rx c1) (v_same hp)
theorem vTear {sc : List Int32} {h : mH} (x : Int32) (hp : vP h) : ∃ z1 h1 z2 h2, nEv sc 100 15 (.ref 0 :: [x].map Value.int) h (some (.int z1), h1) ∧ aHp h1 ∧ nEv sc 100 132 (.ref 53 :: [x].map Value.int) h1 (some (.int z2), h2) ∧ vE h h2 ∧ z2 = z1 := by
  have hh := vP_a h hp
  have rx : sR x.toInt := aI_rg x
  by_cases c1 : 0 ≤ x.toInt ∧ x.toInt < 6
  · obtain ⟨r, er⟩ := iN c1.1
    have hr : r < 6 := by omega
    have sz := hI_rg hh (ra_z hr)
    have e0 := rS hp.2 hr
    by_cases c2 : hI h (21 + 2 * r) 1 = -1
    · obtain ⟨h1, a1, a2⟩ := fTearXw (sc := sc) (d := 97) hh hr c2
      obtain ⟨h2, b1, b2⟩ := fTearMw (sc := sc) (d := 97) a2.1 hr (by rw [hI_cg (a2.sl (by omega) (by omega))]; omega)
      exact pk1 (-3) (by rw [er]; exact a1) a2.1 (by rw [er]; exact b1) (v_found (by decide) hp a2 b2)
    · obtain ⟨h1, a1, a2, a3⟩ := fTearX (sc := sc) (d := 97) hh hr c2
      have e1 : hI h1 54 r = hI h 54 r := hI_cg (by rw [a3, if_neg (by omega)])
      obtain ⟨h2, b1, b2, b3⟩ := fTearM (sc := sc) (d := 97) a2 hr (by omega)
      refine pk1 1 (by rw [er]; exact a1) a2 (by rw [er]; exact b1) (v_rows hp b2 (fun e he => ⟨?_, fun j hj => ?_⟩) (fun p m w1 w2 w3 w4 w5 => ?_) (fun q => ?_))
      · rw [b3, b3, if_neg (by omega)]
        by_cases hec : e = r
        · rw [if_pos ⟨rfl, hec⟩, a3, if_pos (by omega)]
        · rw [if_neg (by omega), a3, a3, if_neg (by omega), if_neg (by omega)]
          exact (hp.2 e he).1
      · rw [b3, b3, if_neg (by omega), if_neg (by omega), a3, a3, if_neg (by omega), if_neg (by omega)]
        exact (hp.2 e he).2 j hj
      · rw [b3, if_neg (by omega), a3, if_neg (by omega)]
      · show aSlot h2 0 9 = aSlot h2 53 8
        rw [b3 0 9, if_neg (by omega), a3, if_neg (by omega), b3, if_neg (by omega), a3, if_neg (by omega)]
        exact q
  · exact pk1 (-1) (fTearXb0 (d := 97) hh rx c1) hh (fTearMb0 (d := 97) hh rx c1) (v_same hp)
theorem vCopy {sc : List Int32} {h : mH} (x y z u v : Int32) (hp : vP h) : ∃ z1 h1 z2 h2, nEv sc 100 16 (.ref 0 :: [x, y, z, u, v].map Value.int) h (some (.int z1), h1) ∧ aHp h1 ∧ nEv sc 100 133 (.ref 53 :: [x, y, z, u, v].map Value.int) h1 (some (.int z2), h2) ∧ vE h h2 ∧ z2 = z1 := by
  have hh := vP_a h hp
  have rx : sR x.toInt := aI_rg x
  have ry : sR y.toInt := aI_rg y
  have rz : sR z.toInt := aI_rg z
  have ru : sR u.toInt := aI_rg u
  have rv : sR v.toInt := aI_rg v
  by_cases c1 : 0 ≤ x.toInt ∧ x.toInt < 6
  · obtain ⟨r, er⟩ := iN c1.1
    have hr : r < 6 := by omega
    by_cases c2 : 0 ≤ z.toInt ∧ z.toInt < 6
    · obtain ⟨t, et⟩ := iN c2.1
      have ht : t < 6 := by omega
      have s1 := hI_rg hh (ra_z hr)
      have s2 := hI_rg hh (ra_z ht)
      have e1 := rS hp.2 hr
      have e2 := rS hp.2 ht
      have fnd : ∀ (f : Nat) (h1 h2 : mH), f < 6 → nEv sc 100 16 [.ref 0, sI (r : Int), sI y.toInt, sI (t : Int), sI u.toInt, sI v.toInt] h (some (sI (-3)), h1) → oFX f h h1 → nEv sc 100 133 [.ref 53, sI (r : Int), sI y.toInt, sI (t : Int), sI u.toInt, sI v.toInt] h1 (some (sI (-3)), h2) → oFM f h1 h2 → ∃ z1 h1 z2 h2, nEv sc 100 16 (.ref 0 :: [x, y, z, u, v].map Value.int) h (some (.int z1), h1) ∧ aHp h1 ∧ nEv sc 100 133 (.ref 53 :: [x, y, z, u, v].map Value.int) h1 (some (.int z2), h2) ∧ vE h h2 ∧ z2 = z1 := fun f h1 h2 hf a1 a2 b1 b2 => pk5 (-3) (by rw [er, et]; exact a1) a2.1 (by rw [er, et]; exact b1) (v_found hf hp a2 b2)
      by_cases c3 : v.toInt < 0
      · obtain ⟨h1, a1, a2⟩ := fCopyXw5 (sc := sc) (d := 97) hh hr ht ry ru rv c3
        obtain ⟨h2, b1, b2⟩ := fCopyMw5 (sc := sc) (d := 97) a2.1 hr ht ry ru rv c3
        exact fnd 5 h1 h2 (by decide) a1 a2 b1 b2
      have k1 : ∀ {f : Nat} {h1 : mH}, oFX f h h1 → hI h1 54 r = hI h 54 r ∧ hI h1 54 t = hI h 54 t := fun a2 => ⟨hI_cg (a2.sl (by omega) (by omega)), hI_cg (a2.sl (by omega) (by omega))⟩
      by_cases c4 : hI h (21 + 2 * r) 1 = -1 ∨ hI h (21 + 2 * t) 1 = -1
      · obtain ⟨h1, a1, a2⟩ := fCopyXw1 (sc := sc) (d := 97) hh hr ht ry ru rv (by omega) c4
        obtain ⟨k2, k3⟩ := k1 a2
        obtain ⟨h2, b1, b2⟩ := fCopyMw1 (sc := sc) (d := 97) a2.1 hr ht ry ru rv (by omega) (by omega)
        exact fnd 1 h1 h2 (by decide) a1 a2 b1 b2
      by_cases c5 : 0 ≤ y.toInt ∧ y.toInt + v.toInt ≤ hI h (21 + 2 * r) 1
      · by_cases c6 : 0 ≤ u.toInt ∧ u.toInt + v.toInt ≤ hI h (21 + 2 * t) 1
        · obtain ⟨i, ei⟩ := iN c5.1
          obtain ⟨j, ej⟩ := iN c6.1
          obtain ⟨n, en⟩ := iN (show 0 ≤ v.toInt by omega)
          obtain ⟨h1, a1, a2, a3⟩ := fCopyX (sc := sc) (d := 97) (i := i) (j := j) (n := n) hh hr ht (by omega) (by omega)
          have k2 : hI h1 54 r = hI h 54 r := hI_cg (by rw [a3, if_neg (by omega)])
          have k3 : hI h1 54 t = hI h 54 t := hI_cg (by rw [a3, if_neg (by omega)])
          obtain ⟨h2, b1, b2, b3⟩ := fCopyM (sc := sc) (d := 97) (i := i) (j := j) (n := n) a2 hr ht (by omega) (by omega)
          refine pk5 1 (by rw [er, et, ei, ej, en]; exact a1) a2 (by rw [er, et, ei, ej, en]; exact b1) (v_rows hp b2 (fun e he => ⟨?_, fun m hm => ?_⟩) (fun p m w1 w2 w3 w4 w5 => ?_) (fun q => ?_))
          · rw [b3, b3, if_neg (by omega), if_neg (by omega), a3, a3, if_neg (by omega), if_neg (by omega)]
            exact (hp.2 e he).1
          · rw [b3 (22 + 2 * e), if_neg (by omega), a3, b3]
            by_cases hec : e = t ∧ j ≤ m ∧ m < j + n
            · rw [if_pos (by omega), if_pos (by omega), a3, if_neg (by omega), (hp.2 r hr).2 _ (by omega)]
              congr 1
              omega
            · rw [if_neg (by omega), if_neg (by omega), a3, if_neg (by omega)]
              exact (hp.2 e he).2 m hm
          · rw [b3, if_neg (by omega), a3, if_neg (by omega)]
          · show aSlot h2 0 9 = aSlot h2 53 8
            rw [b3 0 9, if_neg (by omega), a3, if_neg (by omega), b3, if_neg (by omega), a3, if_neg (by omega)]
            exact q
        · obtain ⟨h1, a1, a2⟩ := fCopyXw2b (sc := sc) (d := 97) hh hr ht ry ru rv (by omega) (by omega) (by omega) ⟨c5, c6⟩
          obtain ⟨k2, k3⟩ := k1 a2
          obtain ⟨h2, b1, b2⟩ := fCopyMw2 (sc := sc) (d := 97) a2.1 hr ht ry ru rv (by omega) (by omega) (by omega) (by omega)
          exact fnd 2 h1 h2 (by decide) a1 a2 b1 b2
      · obtain ⟨h1, a1, a2⟩ := fCopyXw2a (sc := sc) (d := 97) hh hr ht ry ru rv (by omega) (by omega) (by omega) c5
        obtain ⟨k2, k3⟩ := k1 a2
        obtain ⟨h2, b1, b2⟩ := fCopyMw2 (sc := sc) (d := 97) a2.1 hr ht ry ru rv (by omega) (by omega) (by omega) (by omega)
        exact fnd 2 h1 h2 (by decide) a1 a2 b1 b2
    · exact pk5 (-1) (by rw [er]; exact fCopyXb2 (d := 97) hh hr rz c2) hh (by rw [er]; exact fCopyMb1 (d := 97) hh hr rz c2) (v_same hp)
  · by_cases c2 : 0 ≤ z.toInt ∧ z.toInt < 6
    · obtain ⟨t, et⟩ := iN c2.1
      exact pk5 (-1) (by rw [et]; exact fCopyXb1 (d := 97) hh rx (by omega) c1) hh (fCopyMb0 (d := 97) hh rx c1) (v_same hp)
    · exact pk5 (-1) (fCopyXb0 (d := 97) hh rx rz c1 c2) hh (fCopyMb0 (d := 97) hh rx c1) (v_same hp)
/-! the other pairs: what they leave alone, by their promises -/
theorem pFr {sc : List Int32} {Q : Int32 → Int32 → mH → Prop} {cx cm : aCt} {kx km mx mm n : Nat} {tx tm : mM} {h : mH} {xs : List Int32} (hw : ∃ z1 h1 z2 h2, nEv sc 100 kx (.ref 0 :: xs.map Value.int) h (some (.int z1), h1) ∧ aHp h1 ∧ nEv sc 100 km (.ref 53 :: xs.map Value.int) h1 (some (.int z2), h2) ∧ Q z1 z2 h2)
    (hx : nMe sc 81 cx) (x1 : cx.1 = kx) (x2 : cx.2.1.1 = (List.replicate n vI, [], [], (vBig, []))) (x3 : cx.2.1.2.1 = [(kx, 0, aEntL mx ((2, (0, []), 0) :: vLs 0 n), [])]) (x4 : mTab[kx]? = some tx) (x5 : mMX tx = mx)
    (hm : nMe sc 81 cm) (m1 : cm.1 = km) (m2 : cm.2.1.1 = (List.replicate n vI, [], [], (vBig, []))) (m3 : cm.2.1.2.1 = [(km, 0, aEntL mm ((2, (0, []), 53) :: vLs 0 n), [])]) (m4 : mTab[km]? = some tm) (m5 : mMX tm = mm) (hn : xs.length = n) (hh : aHp h) :
    ∃ z1 h1 z2 h2, nEv sc 100 kx (.ref 0 :: xs.map Value.int) h (some (.int z1), h1) ∧ aHp h1 ∧ nEv sc 100 km (.ref 53 :: xs.map Value.int) h1 (some (.int z2), h2) ∧ Q z1 z2 h2 ∧ nFr cx.2.2.2 h h1 ∧ nFr cm.2.2.2 h1 h2 := by
  obtain ⟨z1, h1, z2, h2, a1, a2, a3, a4⟩ := hw
  obtain ⟨r0, q1, q2, q3⟩ := gFr (D := 100) hx x1 x2 x3 x4 x5 hn hh (by decide)
  obtain ⟨r1, p1, p2, p3⟩ := gFr (D := 100) hm m1 m2 m3 m4 m5 hn a2 (by decide)
  have e1 := nEv_det a1 q1
  have e2 := nEv_det a3 p1
  subst e1 e2
  exact ⟨z1, h1, z2, h2, a1, a2, a3, a4, q3, p3⟩
theorem vText {sc : List Int32} {h : mH} (x y : Int32) (hp : vP h) : ∃ z1 h1 z2 h2, nEv sc 100 20 (.ref 0 :: [x, y].map Value.int) h (some (.int z1), h1) ∧ aHp h1 ∧ nEv sc 100 135 (.ref 53 :: [x, y].map Value.int) h1 (some (.int z2), h2) ∧ vP h2 ∧ z2 = z1 := by
  obtain ⟨z1, h1, z2, h2, a1, a2, a3, a4, f1, f2⟩ := pFr (sc := sc) (Q := fun z1 z2 h2 => wP h2 ∧ z2 = z1) (tx := mMe20) (tm := mMe135) (wText x y hp.1) ((kM28 sc).mono (by decide)) rfl rfl rfl rfl rfl ((kM29 sc).mono (by decide)) rfl rfl rfl rfl rfl rfl (vP_a h hp)
  have c1 : rMiss kC28.2.2.2 = true := by decide +kernel
  have c2 : rMiss kC29.2.2.2 = true := by decide +kernel
  exact ⟨z1, h1, z2, h2, a1, a2, a3, ⟨a4.1, rP_fr (rP_fr hp.2 f1 c1) f2 c2⟩, a4.2⟩
theorem vPut {sc : List Int32} {h : mH} (x y z : Int32) (hp : vP h) : ∃ z1 h1 z2 h2, nEv sc 100 24 (.ref 0 :: [x, y, z].map Value.int) h (some (.int z1), h1) ∧ aHp h1 ∧ nEv sc 100 137 (.ref 53 :: [x, y, z].map Value.int) h1 (some (.int z2), h2) ∧ vP h2 ∧ z2 = z1 := by
  obtain ⟨z1, h1, z2, h2, a1, a2, a3, a4, f1, f2⟩ := pFr (sc := sc) (Q := fun z1 z2 h2 => wP h2 ∧ z2 = z1) (tx := mMe24) (tm := mMe137) (wPut x y z hp.1) ((kM30 sc).mono (by decide)) rfl rfl rfl rfl rfl ((kM31 sc).mono (by decide)) rfl rfl rfl rfl rfl rfl (vP_a h hp)
  have c1 : rMiss kC30.2.2.2 = true := by decide +kernel
  have c2 : rMiss kC31.2.2.2 = true := by decide +kernel
  exact ⟨z1, h1, z2, h2, a1, a2, a3, ⟨a4.1, rP_fr (rP_fr hp.2 f1 c1) f2 c2⟩, a4.2⟩
theorem vEmb {sc : List Int32} {h : mH} (x : Int32) (hp : vP h) : ∃ z1 h1 z2 h2, nEv sc 100 32 (.ref 0 :: [x].map Value.int) h (some (.int z1), h1) ∧ aHp h1 ∧ nEv sc 100 144 (.ref 53 :: [x].map Value.int) h1 (some (.int z2), h2) ∧ vP h2 := by
  obtain ⟨z1, h1, z2, h2, a1, a2, a3, a4, f1, f2⟩ := pFr (sc := sc) (Q := fun z1 z2 h2 => wP h2) (tx := mMe32) (tm := mMe144) (wEmb x hp.1) ((kM50 sc).mono (by decide)) rfl rfl rfl rfl rfl ((kM52 sc).mono (by decide)) rfl rfl rfl rfl rfl rfl (vP_a h hp)
  have c1 : rMiss kC50.2.2.2 = true := by decide +kernel
  have c2 : rMiss kC52.2.2.2 = true := by decide +kernel
  exact ⟨z1, h1, z2, h2, a1, a2, a3, ⟨a4, rP_fr (rP_fr hp.2 f1 c1) f2 c2⟩⟩
theorem vStep {sc : List Int32} {h : mH} (x : Int32) (hp : vP h) : ∃ z1 h1 z2 h2, nEv sc 100 55 (.ref 0 :: [x].map Value.int) h (some (.int z1), h1) ∧ aHp h1 ∧ nEv sc 100 162 (.ref 53 :: [x].map Value.int) h1 (some (.int z2), h2) ∧ vP h2 ∧ z2 = z1 := by
  obtain ⟨z1, h1, z2, h2, a1, a2, a3, a4, f1, f2⟩ := pFr (sc := sc) (Q := fun z1 z2 h2 => wP h2 ∧ z2 = z1) (tx := mMe55) (tm := mMe162) (wStep x hp.1) ((kM75 sc).mono (by decide)) rfl rfl rfl rfl rfl ((kM77 sc).mono (by decide)) rfl rfl rfl rfl rfl rfl (vP_a h hp)
  have c1 : rMiss kC75.2.2.2 = true := by decide +kernel
  have c2 : rMiss kC77.2.2.2 = true := by decide +kernel
  exact ⟨z1, h1, z2, h2, a1, a2, a3, ⟨a4.1, rP_fr (rP_fr hp.2 f1 c1) f2 c2⟩, a4.2⟩
theorem vMeet {sc : List Int32} {h : mH} (x y z : Int32) (hp : vP h) : ∃ z1 h1 z2 h2, nEv sc 100 59 (.ref 0 :: [x, y, z].map Value.int) h (some (.int z1), h1) ∧ aHp h1 ∧ nEv sc 100 167 (.ref 53 :: [x, y, z].map Value.int) h1 (some (.int z2), h2) ∧ vP h2 ∧ z2 = z1 := by
  obtain ⟨z1, h1, z2, h2, a1, a2, a3, a4, f1, f2⟩ := pFr (sc := sc) (Q := fun z1 z2 h2 => wP h2 ∧ z2 = z1) (tx := mMe59) (tm := mMe167) (wMeet x y z hp.1) ((kM79 sc).mono (by decide)) rfl rfl rfl rfl rfl ((kM81 sc).mono (by decide)) rfl rfl rfl rfl rfl rfl (vP_a h hp)
  have c1 : rMiss kC79.2.2.2 = true := by decide +kernel
  have c2 : rMiss kC81.2.2.2 = true := by decide +kernel
  exact ⟨z1, h1, z2, h2, a1, a2, a3, ⟨a4.1, rP_fr (rP_fr hp.2 f1 c1) f2 c2⟩, a4.2⟩
theorem vTreat {sc : List Int32} {h : mH} (x y : Int32) (hp : vP h) : ∃ z1 h1 z2 h2, nEv sc 100 63 (.ref 0 :: [x, y].map Value.int) h (some (.int z1), h1) ∧ aHp h1 ∧ nEv sc 100 169 (.ref 53 :: [x, y].map Value.int) h1 (some (.int z2), h2) ∧ vP h2 := by
  obtain ⟨z1, h1, z2, h2, a1, a2, a3, a4, f1, f2⟩ := pFr (sc := sc) (Q := fun z1 z2 h2 => wP h2) (tx := mMe63) (tm := mMe169) (wTreat x y hp.1) ((kM84 sc).mono (by decide)) rfl rfl rfl rfl rfl ((kM87 sc).mono (by decide)) rfl rfl rfl rfl rfl rfl (vP_a h hp)
  have c1 : rMiss kC84.2.2.2 = true := by decide +kernel
  have c2 : rMiss kC87.2.2.2 = true := by decide +kernel
  exact ⟨z1, h1, z2, h2, a1, a2, a3, ⟨a4, rP_fr (rP_fr hp.2 f1 c1) f2 c2⟩⟩
theorem vUndo {sc : List Int32} {h : mH} (x : Int32) (hp : vP h) : ∃ z1 h1 z2 h2, nEv sc 100 70 (.ref 0 :: [x].map Value.int) h (some (.int z1), h1) ∧ aHp h1 ∧ nEv sc 100 176 (.ref 53 :: [x].map Value.int) h1 (some (.int z2), h2) ∧ vP h2 := by
  obtain ⟨z1, h1, z2, h2, a1, a2, a3, a4, f1, f2⟩ := pFr (sc := sc) (Q := fun z1 z2 h2 => wP h2) (tx := mMe70) (tm := mMe176) (wUndo x hp.1) ((kM89 sc).mono (by decide)) rfl rfl rfl rfl rfl ((kM90 sc).mono (by decide)) rfl rfl rfl rfl rfl rfl (vP_a h hp)
  have c1 : rMiss kC89.2.2.2 = true := by decide +kernel
  have c2 : rMiss kC90.2.2.2 = true := by decide +kernel
  exact ⟨z1, h1, z2, h2, a1, a2, a3, ⟨a4, rP_fr (rP_fr hp.2 f1 c1) f2 c2⟩⟩
theorem vKeep {sc : List Int32} {h : mH} (x : Int32) (hp : vP h) : ∃ z1 h1 z2 h2, nEv sc 100 72 (.ref 0 :: [x].map Value.int) h (some (.int z1), h1) ∧ aHp h1 ∧ nEv sc 100 178 (.ref 53 :: [x].map Value.int) h1 (some (.int z2), h2) ∧ vP h2 ∧ z2 = z1 := by
  obtain ⟨z1, h1, z2, h2, a1, a2, a3, a4, f1, f2⟩ := pFr (sc := sc) (Q := fun z1 z2 h2 => wP h2 ∧ z2 = z1) (tx := mMe72) (tm := mMe178) (wKeep x hp.1) ((kM91 sc).mono (by decide)) rfl rfl rfl rfl rfl ((kM95 sc).mono (by decide)) rfl rfl rfl rfl rfl rfl (vP_a h hp)
  have c1 : rMiss kC91.2.2.2 = true := by decide +kernel
  have c2 : rMiss kC95.2.2.2 = true := by decide +kernel
  exact ⟨z1, h1, z2, h2, a1, a2, a3, ⟨a4.1, rP_fr (rP_fr hp.2 f1 c1) f2 c2⟩, a4.2⟩
theorem vOn {sc : List Int32} {h : mH} (x : Int32) (hp : vP h) : ∃ z1 h1 z2 h2, nEv sc 100 74 (.ref 0 :: [x].map Value.int) h (some (.int z1), h1) ∧ aHp h1 ∧ nEv sc 100 179 (.ref 53 :: [x].map Value.int) h1 (some (.int z2), h2) ∧ vP h2 ∧ z2 = z1 := by
  obtain ⟨z1, h1, z2, h2, a1, a2, a3, a4, f1, f2⟩ := pFr (sc := sc) (Q := fun z1 z2 h2 => wP h2 ∧ z2 = z1) (tx := mMe74) (tm := mMe179) (wOn x hp.1) ((kM96 sc).mono (by decide)) rfl rfl rfl rfl rfl ((kM100 sc).mono (by decide)) rfl rfl rfl rfl rfl rfl (vP_a h hp)
  have c1 : rMiss kC96.2.2.2 = true := by decide +kernel
  have c2 : rMiss kC100.2.2.2 = true := by decide +kernel
  exact ⟨z1, h1, z2, h2, a1, a2, a3, ⟨a4.1, rP_fr (rP_fr hp.2 f1 c1) f2 c2⟩, a4.2⟩
theorem vLotsP {sc : List Int32} {h : mH} (x y : Int32) (hp : vP h) : ∃ z1 h1 z2 h2, nEv sc 100 108 (.ref 0 :: [x, y].map Value.int) h (some (.int z1), h1) ∧ aHp h1 ∧ nEv sc 100 212 (.ref 53 :: [x, y].map Value.int) h1 (some (.int z2), h2) ∧ vP h2 := by
  obtain ⟨z1, h1, z2, h2, a1, a2, a3, a4, f1, f2⟩ := pFr (sc := sc) (Q := fun z1 z2 h2 => wP h2) (tx := mMe108) (tm := mMe212) (wLotsP x y hp.1) ((kM286 sc).mono (by decide)) rfl rfl rfl rfl rfl ((kM287 sc).mono (by decide)) rfl rfl rfl rfl rfl rfl (vP_a h hp)
  have c1 : rMiss kC286.2.2.2 = true := by decide +kernel
  have c2 : rMiss kC287.2.2.2 = true := by decide +kernel
  exact ⟨z1, h1, z2, h2, a1, a2, a3, ⟨a4, rP_fr (rP_fr hp.2 f1 c1) f2 c2⟩⟩
theorem vMtg {sc : List Int32} {h : mH} (x y z : Int32) (hp : vP h) : ∃ z1 h1 z2 h2, nEv sc 100 88 (.ref 0 :: [x, y, z].map Value.int) h (some (.int z1), h1) ∧ aHp h1 ∧ nEv sc 100 194 (.ref 53 :: [x, y, z].map Value.int) h1 (some (.int z2), h2) ∧ vP h2 := by
  obtain ⟨z1, h1, z2, h2, a1, a2, a3, a4, f1, f2⟩ := pFr (sc := sc) (Q := fun z1 z2 h2 => wP h2) (tx := mMe88) (tm := mMe194) (wMtg x y z hp.1) ((kM176 sc).mono (by decide)) rfl rfl rfl rfl rfl ((kM177 sc).mono (by decide)) rfl rfl rfl rfl rfl rfl (vP_a h hp)
  have c1 : rMiss kC176.2.2.2 = true := by decide +kernel
  have c2 : rMiss kC177.2.2.2 = true := by decide +kernel
  exact ⟨z1, h1, z2, h2, a1, a2, a3, ⟨a4, rP_fr (rP_fr hp.2 f1 c1) f2 c2⟩⟩
theorem vFits {sc : List Int32} {h : mH} (x y z : Int32) (hp : vP h) : ∃ z1 h1 z2 h2, nEv sc 100 91 (.ref 0 :: [x, y, z].map Value.int) h (some (.int z1), h1) ∧ aHp h1 ∧ nEv sc 100 195 (.ref 53 :: [x, y, z].map Value.int) h1 (some (.int z2), h2) ∧ vP h2 := by
  obtain ⟨z1, h1, z2, h2, a1, a2, a3, a4, f1, f2⟩ := pFr (sc := sc) (Q := fun z1 z2 h2 => wP h2) (tx := mMe91) (tm := mMe195) (wFits x y z hp.1) ((kM190 sc).mono (by decide)) rfl rfl rfl rfl rfl ((kM192 sc).mono (by decide)) rfl rfl rfl rfl rfl rfl (vP_a h hp)
  have c1 : rMiss kC190.2.2.2 = true := by decide +kernel
  have c2 : rMiss kC192.2.2.2 = true := by decide +kernel
  exact ⟨z1, h1, z2, h2, a1, a2, a3, ⟨a4, rP_fr (rP_fr hp.2 f1 c1) f2 c2⟩⟩
/-! promises that leave rows and embassies alone -/
noncomputable def vT : List aCt := [kC10, kC11, kC22, kC23, kC45, kC49, kC56, kC61, kC62, kC63, kC68, kC72, kC101, kC102, kC103, kC105, kC108, kC110, kC111, kC112, kC113, kC114, kC115, kC116, kC166, kC172, kC176, kC193, kC194, kC196, kC197, kC200, kC202, kC203, kC204, kC210, kC211, kC215, kC282, kC283, kC284, kC288, kC289, kC290, kC291, kC292, kC293, kC298, kC300, kC301, kC302, kC303, kC304, kC316, kC317]
set_option maxRecDepth 100000 in
theorem vT_ok (sc : List Int32) : ∀ c ∈ vT, nMe sc 81 c := by
  unfold vT
  exact List.forall_mem_cons.mpr ⟨(kM10 sc).mono (by decide), List.forall_mem_cons.mpr ⟨(kM11 sc).mono (by decide), List.forall_mem_cons.mpr ⟨(kM22 sc).mono (by decide), List.forall_mem_cons.mpr ⟨(kM23 sc).mono (by decide), List.forall_mem_cons.mpr ⟨(kM45 sc).mono (by decide), List.forall_mem_cons.mpr ⟨(kM49 sc).mono (by decide), List.forall_mem_cons.mpr ⟨(kM56 sc).mono (by decide), List.forall_mem_cons.mpr ⟨(kM61 sc).mono (by decide), List.forall_mem_cons.mpr ⟨(kM62 sc).mono (by decide), List.forall_mem_cons.mpr ⟨(kM63 sc).mono (by decide), List.forall_mem_cons.mpr ⟨(kM68 sc).mono (by decide), List.forall_mem_cons.mpr ⟨(kM72 sc).mono (by decide), List.forall_mem_cons.mpr ⟨(kM101 sc).mono (by decide), List.forall_mem_cons.mpr ⟨(kM102 sc).mono (by decide), List.forall_mem_cons.mpr ⟨(kM103 sc).mono (by decide), List.forall_mem_cons.mpr ⟨(kM105 sc).mono (by decide), List.forall_mem_cons.mpr ⟨(kM108 sc).mono (by decide), List.forall_mem_cons.mpr ⟨(kM110 sc).mono (by decide), List.forall_mem_cons.mpr ⟨(kM111 sc).mono (by decide), List.forall_mem_cons.mpr ⟨(kM112 sc).mono (by decide), List.forall_mem_cons.mpr ⟨(kM113 sc).mono (by decide), List.forall_mem_cons.mpr ⟨(kM114 sc).mono (by decide), List.forall_mem_cons.mpr ⟨(kM115 sc).mono (by decide), List.forall_mem_cons.mpr ⟨(kM116 sc).mono (by decide), List.forall_mem_cons.mpr ⟨(kM166 sc).mono (by decide), List.forall_mem_cons.mpr ⟨(kM172 sc).mono (by decide), List.forall_mem_cons.mpr ⟨(kM176 sc).mono (by decide), List.forall_mem_cons.mpr ⟨(kM193 sc).mono (by decide), List.forall_mem_cons.mpr ⟨(kM194 sc).mono (by decide), List.forall_mem_cons.mpr ⟨(kM196 sc).mono (by decide), List.forall_mem_cons.mpr ⟨(kM197 sc).mono (by decide), List.forall_mem_cons.mpr ⟨(kM200 sc).mono (by decide), List.forall_mem_cons.mpr ⟨(kM202 sc).mono (by decide), List.forall_mem_cons.mpr ⟨(kM203 sc).mono (by decide), List.forall_mem_cons.mpr ⟨(kM204 sc).mono (by decide), List.forall_mem_cons.mpr ⟨(kM210 sc).mono (by decide), List.forall_mem_cons.mpr ⟨(kM211 sc).mono (by decide), List.forall_mem_cons.mpr ⟨(kM215 sc).mono (by decide), List.forall_mem_cons.mpr ⟨(kM282 sc).mono (by decide), List.forall_mem_cons.mpr ⟨(kM283 sc).mono (by decide), List.forall_mem_cons.mpr ⟨(kM284 sc).mono (by decide), List.forall_mem_cons.mpr ⟨(kM288 sc).mono (by decide), List.forall_mem_cons.mpr ⟨(kM289 sc).mono (by decide), List.forall_mem_cons.mpr ⟨(kM290 sc).mono (by decide), List.forall_mem_cons.mpr ⟨(kM291 sc).mono (by decide), List.forall_mem_cons.mpr ⟨(kM292 sc).mono (by decide), List.forall_mem_cons.mpr ⟨(kM293 sc).mono (by decide), List.forall_mem_cons.mpr ⟨(kM298 sc).mono (by decide), List.forall_mem_cons.mpr ⟨(kM300 sc).mono (by decide), List.forall_mem_cons.mpr ⟨(kM301 sc).mono (by decide), List.forall_mem_cons.mpr ⟨(kM302 sc).mono (by decide), List.forall_mem_cons.mpr ⟨(kM303 sc).mono (by decide), List.forall_mem_cons.mpr ⟨(kM304 sc).mono (by decide), List.forall_mem_cons.mpr ⟨(kM316 sc).mono (by decide), List.forall_mem_cons.mpr ⟨(kM317 sc).mono (by decide), List.forall_mem_nil _⟩⟩⟩⟩⟩⟩⟩⟩⟩⟩⟩⟩⟩⟩⟩⟩⟩⟩⟩⟩⟩⟩⟩⟩⟩⟩⟩⟩⟩⟩⟩⟩⟩⟩⟩⟩⟩⟩⟩⟩⟩⟩⟩⟩⟩⟩⟩⟩⟩⟩⟩⟩⟩⟩⟩
set_option maxRecDepth 100000 in
theorem vT_z : vT.all (fun c => wMiss c.2.2.2 && rMiss c.2.2.2) = true := by decide +kernel
/-! the start -/
noncomputable def lB5 : Bool := match qPre 10 (0, mEntL 4 [.retAddr 0], [], []) with
  | some g => (List.range 6).all (fun c => tEqB g.2.2.2 (21 + 2 * c) 1 54 c && (List.range 40).all (fun i => tEqB g.2.2.2 (22 + 2 * c) i 55 (40 * c + i))) && (tEqB g.2.2.2 0 8 53 11 && ((List.range 6).all (fun j => tEqB g.2.2.2 20 j 62 j) && tEqB g.2.2.2 0 9 53 8))
  | none => false
set_option maxRecDepth 100000 in
theorem lB5_ok : lB5 = true := by decide +kernel
theorem lBegin5 {sc : List Int32} {D : Nat} (hD : 10 ≤ D) : ∃ h, (vP h ∧ dP h ∧ qP h) ∧ ∀ r, nRn sc D (some .boolean) mLaw (10, lM 0, [], h) r → nRn sc D (some .boolean) mLaw (0, mEntL 4 [.retAddr 0], [], []) r := by
  have h0 := lB3_ok
  have k0 := lB4_ok
  have j0 := lB5_ok
  unfold lB3 at h0
  unfold lB4 at k0
  unfold lB5 at j0
  split at h0
  · rename_i g hg
    rw [hg] at k0 j0
    obtain ⟨i, L, st, h⟩ := g
    simp only [Bool.and_eq_true, decide_eq_true_eq, List.isEmpty_iff] at h0
    obtain ⟨e1, e2, e3, e4, e5, e7, e8⟩ := h0
    subst e1 e2 e3
    simp only [Bool.and_eq_true] at k0
    obtain ⟨k1, k2, k3, k4, k5⟩ := k0
    simp only [Bool.and_eq_true] at j0
    obtain ⟨j1, j2, j3, j4⟩ := j0
    have mz : ∀ m, m < 201 → hI h 58 m = 0 := fun m hm => uZ_i (List.all_eq_true.mp k5 m (List.mem_range.mpr hm))
    have x3 := uZ_i k1
    have x4 := uZ_i k2
    have x5 := uZ_i k3
    have x6 := zL0_ok k4
    refine ⟨h, ⟨⟨?_, fun c hc => ?_⟩, ⟨tEqB_ok j2, fun j hj => tEqB_ok (List.all_eq_true.mp j3 j (List.mem_range.mpr hj))⟩, tEqB_ok j4⟩, fun r hr => qPre_ok hD 10 _ _ hg hr⟩
    rotate_left
    · have e6 := List.all_eq_true.mp j1 c (List.mem_range.mpr hc)
      rw [Bool.and_eq_true] at e6
      exact ⟨tEqB_ok e6.1, fun j hj => tEqB_ok (List.all_eq_true.mp e6.2 j (List.mem_range.mpr hj))⟩
    refine ⟨⟨aHpB_ok e4, fun c hc => ?_⟩, ⟨?_, ?_, ?_, fun a ha => ?_, ?_, fun i hi => ?_⟩, fun k hk => Or.inl ?_⟩
    · have e6 := List.all_eq_true.mp e5 c (List.mem_range.mpr hc)
      rw [Bool.and_eq_true] at e6
      exact ⟨tEqB_ok e6.1, fun j hj => tEqB_ok (List.all_eq_true.mp e6.2 j (List.mem_range.mpr hj))⟩
    · rw [x3, mz 0 (by omega)]
    · rw [x4, mz 43 (by omega)]
    · rw [x5, mz 80 (by omega)]
    · rw [x3] at ha
      omega
    · rw [x6]
      exact tR_zero (fun j hj => mz _ (by omega))
    · rw [x5] at hi
      omega
    · have e6 := List.all_eq_true.mp e8 k (List.mem_range.mpr hk)
      rw [Bool.and_eq_true] at e6
      exact ⟨uZ_i e6.1, uZ_i e6.2⟩
  · cases h0
