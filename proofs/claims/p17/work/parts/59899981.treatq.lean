/-! treat: how many treaties there are -/
theorem wTreatE {sc : List Int32} {h : mH} (x y : Int32) (hp : wP h) : ∃ z1 h1 z2 h2, nEv sc 100 63 (.ref 0 :: [x, y].map Value.int) h (some (.int z1), h1) ∧ aHp h1 ∧ nEv sc 100 169 (.ref 53 :: [x, y].map Value.int) h1 (some (.int z2), h2) ∧ wP h2 ∧ z2 = z1 := by
  have hh := wP_a h hp
  have rx : sR x.toInt := aI_rg x
  have ry : sR y.toInt := aI_rg y
  have e3 : hI h 3 3 = hI h 58 0 := hp.2.1.1
  have e5 : hI h 3 5 = hI h 58 80 := hp.2.1.2.2.1
  have gd := hI_rg hh xw_d
  have gp := hI_rg hh xw_p
  by_cases c1 : (0 ≤ x.toInt ∧ x.toInt < hI h 3 3) ∧ (0 ≤ y.toInt ∧ y.toInt < hI h 3 3) ∧ x.toInt ≠ y.toInt
  · obtain ⟨a, ea⟩ := iN c1.1.1
    obtain ⟨b, eb⟩ := iN c1.2.1.1
    obtain ⟨D, eD⟩ := iN gd.1
    rw [ea, eb] at c1
    obtain ⟨v, hv, m1, m2⟩ := wMay (sc := sc) hh hh hp.2.1 (a := a) (b := b) (by omega) (by omega)
    rcases hv with rfl | ⟨rfl, hab⟩
    · exact pair2e (by rw [ea, eb]; exact fTreatXs (d := 93) hh (by omega) (by omega) (by omega) (m1 93)) hh (by rw [ea, eb]; exact fTreatMs (d := 93) hh (by omega) (by omega) (by omega) (m2 93)) hp rfl
    · by_cases c4 : hI h 3 5 = 40
      · exact pair2e (by rw [ea, eb]; exact fTreatXf (d := 93) hh (by omega) (by omega) (by omega) (m1 93) c4) hh (by rw [ea, eb]; exact fTreatMf (d := 93) hh (by omega) (by omega) (by omega) (m2 93) (by omega)) hp rfl
      · obtain ⟨g1, r1, r2, r3⟩ := fTreatX (sc := sc) (d := 93) (a := a) (b := b) hh (by omega) (by omega) (by omega) (m1 93) eD (by omega)
        have k0 : ∀ p m, ¬ (3 ≤ p ∧ p ≤ 6) → aSlot g1 p m = aSlot h p m := fun p m w => by rw [r3, if_neg (by omega), if_neg (by omega), if_neg (by omega)]
        have q0 : ∀ m, hI g1 58 m = hI h 58 m := fun m => hI_cg (k0 58 m (by omega))
        have hr := wP_two hp k0
        obtain ⟨v, hv, n1, n2⟩ := wMay (sc := sc) hh r2 hr (a := a) (b := b) (by omega) (by omega)
        have ev : v = 1 := by
          have e := nEv_det (m1 93) (n1 93)
          rcases hv with rfl | ⟨rfl, -⟩
          · exact absurd (Value.int.inj (Option.some.inj (congrArg Prod.fst e : (some (sI 1) : Option Value) = some (sI 0)))) (by decide)
          · rfl
        subst ev
        obtain ⟨g2, y1, y2, y3⟩ := fTreatM (sc := sc) (d := 93) (a := a) (b := b) (D := D) r2 (by rw [q0]; omega) (by rw [q0]; omega) (by omega) (n2 93) (by rw [q0]; omega) (by omega)
        have hr2 := nR_bind hr (by omega) (by omega) hab (by omega) eD (by omega) r3 y3
        have tc := tr_cnt hr2.2.2.2.2.1
        have e7 : hJ g1 3 6 = hJ h 3 6 ||| pBt a b := hJ_of (by rw [r3, if_neg (by omega), if_neg (by omega), if_pos (by omega)])
        rw [e7] at tc
        obtain ⟨p1, p2, p3, p4⟩ := pair2 (x := x) (y := y) (h1 := g1) (h2 := g2) (by rw [ea, eb]; exact r1) r2 (by rw [ea, eb]; exact y1) (wP_now hp y2 k0 (fun p m w => by rw [y3, if_neg (by omega), if_neg (by omega), if_neg (by omega), if_neg (by omega), if_neg (by omega), if_neg (by omega)]) hr2)
        exact ⟨_, g1, _, g2, p1, p2, p3, p4, tc.symm⟩
  · by_cases d1 : 0 ≤ x.toInt ∧ x.toInt < hI h 58 0
    · by_cases d2 : 0 ≤ y.toInt ∧ y.toInt < hI h 58 0
      · exact pair2e (fTreatXb (d := 93) hh rx ry c1) hh (fTreatMb2 (d := 93) hh rx ry ⟨d1, d2, by omega⟩) hp rfl
      · exact pair2e (fTreatXb (d := 93) hh rx ry c1) hh (fTreatMb1 (d := 93) hh rx ry ⟨d1, d2⟩) hp rfl
    · exact pair2e (fTreatXb (d := 93) hh rx ry c1) hh (fTreatMb0 (d := 93) hh rx ry d1) hp rfl
