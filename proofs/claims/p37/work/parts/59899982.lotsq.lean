/-! lots: how many treaties there are -/
theorem wLotsE {sc : List Int32} {h : mH} (x y : Int32) (hp : wP h) : ∃ z1 h1 z2 h2, nEv sc 100 108 (.ref 0 :: [x, y].map Value.int) h (some (.int z1), h1) ∧ aHp h1 ∧ nEv sc 100 212 (.ref 53 :: [x, y].map Value.int) h1 (some (.int z2), h2) ∧ wP h2 ∧ z2 = z1 := by
  have hh := wP_a h hp
  have rx : sR x.toInt := aI_rg x
  have ry : sR y.toInt := aI_rg y
  have e3 : hI h 3 3 = hI h 58 0 := hp.2.1.1
  have e5 : hI h 3 5 = hI h 58 80 := hp.2.1.2.2.1
  have gd := hI_rg hh xw_d
  have gp := hI_rg hh xw_p
  by_cases c1 : 1 ≤ x.toInt ∧ x.toInt ≤ 20 ∧ 1 ≤ y.toInt ∧ y.toInt ≤ 2147483646
  · by_cases c2 : hI h 3 3 = 0
    · exact pair2e (fLotsXs (d := 92) hh rx ry c1 c2) hh (fLotsMs (d := 92) hh rx ry c1 (by omega)) hp rfl
    · by_cases c3 : 40 < hI h 3 5 + x.toInt
      · exact pair2e (fLotsXf (d := 92) hh rx ry c1 c2 c3) hh (fLotsMf (d := 92) hh rx ry c1 (by omega) (by omega)) hp rfl
      · obtain ⟨n, en⟩ := iN (show 0 ≤ x.toInt by omega)
        obtain ⟨s, es⟩ := iN (show 0 ≤ y.toInt by omega)
        obtain ⟨h1, i1, i2, i3, i4⟩ := wLots (sc := sc) (d := 92) (n := n) (S := (s : Int)) (SS := (s : Int)) n 0 s h (by omega) (by omega) (by omega) hh (by omega) (by omega)
        have k0 : ∀ p m, ¬ (3 ≤ p ∧ p ≤ 6) → aSlot h1 p m = aSlot h p m := i3
        have q0 : ∀ m, hI h1 58 m = hI h 58 m := fun m => hI_cg (k0 58 m (by omega))
        obtain ⟨g1, j1, j2, j3, j4⟩ := i4 h1 none none i2 (wP_two hp k0)
        have tc := tr_cnt j4.2.2.2.2.1
        obtain ⟨p1, p2, p3, p4⟩ := pair2 (x := x) (y := y) (h1 := h1) (h2 := g1) (by rw [en, es]; exact fLotsX (d := 92) hh (by omega) c2 (by omega) i1) i2 (by rw [en, es]; exact fLotsM (d := 92) i2 (by omega) (by rw [q0]; omega) (by rw [q0]; omega) j1) (wP_now hp j2 k0 (fun p m w => j3 p m w) j4)
        exact ⟨_, h1, _, g1, p1, p2, p3, p4, tc.symm⟩
  · by_cases d1 : 1 ≤ x.toInt ∧ x.toInt ≤ 20
    · exact pair2e (fLotsXb (d := 92) hh rx ry c1) hh (fLotsMb1 (d := 92) hh rx ry ⟨d1, by omega⟩) hp rfl
    · exact pair2e (fLotsXb (d := 92) hh rx ry c1) hh (fLotsMb0 (d := 92) hh rx ry d1) hp rfl
