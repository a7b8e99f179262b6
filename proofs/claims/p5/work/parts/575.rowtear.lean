/-! row -/
def wRB : List vV := [([(aMi, -1), vI], [], -1), ([(6, aMa), vI], [], -1), ([(0, 5), (41, aMa)], [], -1), ([(0, 5), (aMi, -1)], [], -3)]
def wRs : List (Nat × Nat) := (List.range 6).flatMap (fun c => (List.range 41).map (fun n => (c, n)))
def wXs : aMd := [(0, 8, 8), (20, 5, 5)]
def wMs : aMd := [(53, 11, 11), (62, 5, 5)]
def wXc (c : Nat) : aMd := [((21 + 2 * c : Nat), 1, 1), ((22 + 2 * c : Nat), 0, 39)]
def wMc (c : Nat) : aMd := [(54, (c : Int), (c : Int)), (55, 40 * (c : Int), 40 * (c : Int) + 39)]
def wAn (c n : Nat) : List aAn := [(([((c : Int), (c : Int)), ((n : Int), (n : Int)), (0, 40)], [], [(54, (0, [(1, 0)]), (0, (0, [(1, 1)]), 0))], (40, [((-1), 2)])), [(125, 21, [(2, (0, []), 53), (0, (0, [(1, 0)]), 0), (0, (0, [(1, 1)]), 0), (0, (0, [(1, 2)]), 0)], [])], [(0, 0, 1, (0, [])), (0, 0, 2, (0, [])), (0, 0, 3, (0, []))])]
set_option maxRecDepth 100000 in
theorem wXB : wRB.all (fun v => bCk [] [] [] [] [] (vC 7 0 4 2 v.1 v.2.1 [] v.2.2 wXs) 100000) = true := by decide +kernel
set_option maxRecDepth 100000 in
theorem wMB : wRB.all (fun v => bCk [] [] [] [] [] (vC 125 53 4 2 v.1 v.2.1 [] v.2.2 wMs) 100000) = true := by decide +kernel
set_option maxRecDepth 100000 in
theorem wXR : wRs.all (fun p => bCk [(21 + 2 * p.1, 1, (p.2 : Int))] [kC0, kC1, kC2, kC3, kC4, kC5] [] [] [] (vC 7 0 4 2 [((p.1 : Int), (p.1 : Int)), ((p.2 : Int), (p.2 : Int))] [] [] (p.2 : Int) (wXc p.1)) 100000) = true := by decide +kernel
set_option maxRecDepth 100000 in
theorem wMR : wRs.all (fun p => bCk [(54, p.1, (p.2 : Int))] [] (wAn p.1 p.2) [(125, 21)] [] (vC 125 53 4 2 [((p.1 : Int), (p.1 : Int)), ((p.2 : Int), (p.2 : Int))] [] [] (p.2 : Int) (wMc p.1)) 100000) = true := by decide +kernel
theorem wM1 : ∀ c, c < 6 → zM1 c (wXc c) = true := by decide +kernel
theorem wM2 : ∀ c, c < 6 → zM2 c (wMc c) = true := by decide +kernel
/-! tear -/
def wTB : List vV := [([(aMi, -1)], [], -1), ([(6, aMa)], [], -1)]
def wTN (c : Nat) : vV := ([((c : Int), (c : Int)), (-1, -1)], [], -3)
def wTXs : aMd := [(0, 8, 8), (20, 1, 1)]
def wTMs : aMd := [(53, 11, 11), (62, 1, 1)]
def wTX (c : Nat) : aMd := [((21 + 2 * c : Nat), 1, 1)]
def wTM (c : Nat) : aMd := [(54, (c : Int), (c : Int))]
def wTS (c : Nat) : aB := [((c : Int), (c : Int)), (0, 40)]
set_option maxRecDepth 100000 in
theorem wTXB : wTB.all (fun v => bCk [] [] [] [] [] (vC 15 0 3 1 v.1 v.2.1 [] v.2.2 wTXs) 100000) = true := by decide +kernel
set_option maxRecDepth 100000 in
theorem wTMB : wTB.all (fun v => bCk [] [] [] [] [] (vC 132 53 2 1 v.1 v.2.1 [] v.2.2 wTMs) 100000) = true := by decide +kernel
set_option maxRecDepth 100000 in
theorem wTXN : (List.range 6).all (fun c => bCk [] [] [] [] [] (vC 15 0 3 1 (wTN c).1 (wTN c).2.1 [(21 + 2 * c, aK 1, (0, aVr 1, 0))] (wTN c).2.2 wTXs) 100000) = true := by decide +kernel
set_option maxRecDepth 100000 in
theorem wTMN : (List.range 6).all (fun c => bCk [] [] [] [] [] (vC 132 53 2 1 (wTN c).1 (wTN c).2.1 [(54, aK c, (0, aVr 1, 0))] (wTN c).2.2 wTMs) 100000) = true := by decide +kernel
set_option maxRecDepth 100000 in
theorem wTXS : (List.range 6).all (fun c => bCk [(21 + 2 * c, 1, -1)] [] [] [] [] (vC 15 0 3 1 (wTS c) [] [(21 + 2 * c, aK 1, (0, aVr 1, 0))] 1 (wTX c)) 100000) = true := by decide +kernel
set_option maxRecDepth 100000 in
theorem wTMS : (List.range 6).all (fun c => bCk [(54, c, -1)] [] [] [] [] (vC 132 53 2 1 (wTS c) [] [(54, aK c, (0, aVr 1, 0))] 1 (wTM c)) 100000) = true := by decide +kernel
theorem wT1 : ∀ c, c < 6 → zM1 c (wTX c) = true := by decide +kernel
theorem wT2 : ∀ c, c < 6 → zM2 c (wTM c) = true := by decide +kernel
section RT
variable {sc : List Int32} {D : Nat} {h : mH}
theorem zRow (r n : Int32) (hp : zP h) (hD : 18 ≤ D) : ∃ z1 h1 z2 h2, nEv sc D 7 (.ref 0 :: [r, n].map Value.int) h (some (.int z1), h1) ∧ aHp h1 ∧ nEv sc D 125 (.ref 53 :: [r, n].map Value.int) h1 (some (.int z2), h2) ∧ zP h2 ∧ z2 = z1 := by
  have hr := aI_rg r
  have hn := aI_rg n
  have bad : ∀ v ∈ wRB, vOk [r, n] v → v.1.length = 2 → ∃ z1 h1 z2 h2, nEv sc D 7 (.ref 0 :: [r, n].map Value.int) h (some (.int z1), h1) ∧ aHp h1 ∧ nEv sc D 125 (.ref 53 :: [r, n].map Value.int) h1 (some (.int z2), h2) ∧ zP h2 ∧ z2 = z1 := fun v hv hk hl =>
    zBad (xs := [r, n]) (tx := mMe7) (tm := mMe125) (bCk_ok (dm := 0) (List.forall_mem_nil _) (List.all_eq_true.mp wXB v hv)) (bCk_ok (dm := 0) (List.forall_mem_nil _) (List.all_eq_true.mp wMB v hv)) rfl rfl rfl rfl (by decide) (by decide) hk (by rw [hl]; exact Nat.le_refl _) hp (by omega)
  by_cases h1 : r.toInt < 0
  · exact bad ([(aMi, -1), vI], [], -1) (by simp [wRB]) ⟨⟨⟨hr.1, by show r.toInt ≤ -1; omega⟩, hn, trivial⟩, List.forall_mem_nil _⟩ rfl
  · by_cases h2 : 5 < r.toInt
    · exact bad ([(6, aMa), vI], [], -1) (by simp [wRB]) ⟨⟨⟨by show 6 ≤ r.toInt; omega, hr.2⟩, hn, trivial⟩, List.forall_mem_nil _⟩ rfl
    · by_cases h3 : 40 < n.toInt
      · exact bad ([(0, 5), (41, aMa)], [], -1) (by simp [wRB]) ⟨⟨⟨by show 0 ≤ r.toInt; omega, by show r.toInt ≤ 5; omega⟩, ⟨by show 41 ≤ n.toInt; omega, hn.2⟩, trivial⟩, List.forall_mem_nil _⟩ rfl
      · by_cases h4 : n.toInt < 0
        · exact bad ([(0, 5), (aMi, -1)], [], -3) (by simp [wRB]) ⟨⟨⟨by show 0 ≤ r.toInt; omega, by show r.toInt ≤ 5; omega⟩, ⟨hn.1, by show n.toInt ≤ -1; omega⟩, trivial⟩, List.forall_mem_nil _⟩ rfl
        · obtain ⟨c, hc⟩ : ∃ c : Nat, (c : Int) = r.toInt := ⟨r.toInt.toNat, by omega⟩
          obtain ⟨k, hk⟩ : ∃ k : Nat, (k : Int) = n.toInt := ⟨n.toInt.toNat, by omega⟩
          have hm : (c, k) ∈ wRs := List.mem_flatMap.mpr ⟨c, List.mem_range.mpr (by omega), List.mem_map.mpr ⟨k, List.mem_range.mpr (by omega), rfl⟩⟩
          have hB : vBd [((c : Int), (c : Int)), ((k : Int), (k : Int))] ([r, n] ++ []) := ⟨⟨by show (c : Int) ≤ r.toInt; omega, by show r.toInt ≤ (c : Int); omega⟩, ⟨by show (k : Int) ≤ n.toInt; omega, by show n.toInt ≤ (k : Int); omega⟩, trivial⟩
          have cx := bCk_ok (sc := sc) (dm := 9) (List.forall_mem_cons.mpr ⟨(kM0 sc).mono (by decide), List.forall_mem_cons.mpr ⟨(kM1 sc).mono (by decide), List.forall_mem_cons.mpr ⟨(kM2 sc).mono (by decide), List.forall_mem_cons.mpr ⟨(kM3 sc).mono (by decide), List.forall_mem_cons.mpr ⟨(kM4 sc).mono (by decide), List.forall_mem_cons.mpr ⟨(kM5 sc).mono (by decide), List.forall_mem_nil _⟩⟩⟩⟩⟩⟩) (List.all_eq_true.mp wXR _ hm)
          have cm := bCk_ok (sc := sc) (dm := 0) (List.forall_mem_nil _) (List.all_eq_true.mp wMR _ hm)
          obtain ⟨h1, a1, a2, a3, a4⟩ := vC_ok (xs := [r, n]) (gs := []) (t := mMe7) (D := D) cx rfl rfl (by show 2 ≤ 2; omega) hB (List.forall_mem_nil _) (List.forall_mem_nil _) hp.1 (by omega)
          obtain ⟨h2, b1, b2, b3, b4⟩ := vC_ok (xs := [r, n]) (gs := []) (t := mMe125) (D := D) cm rfl rfl (by show 2 ≤ 2; omega) hB (List.forall_mem_nil _) (List.forall_mem_nil _) a2 (by omega)
          exact ⟨_, h1, _, h2, a1, a2, b1, zP_set hp (by omega) b2 a3 b3 a4 b4 (wM1 c (by omega)) (wM2 c (by omega)), rfl⟩
theorem zTear (r : Int32) (hp : zP h) (hD : 18 ≤ D) : ∃ z1 h1 z2 h2, nEv sc D 15 (.ref 0 :: [r].map Value.int) h (some (.int z1), h1) ∧ aHp h1 ∧ nEv sc D 132 (.ref 53 :: [r].map Value.int) h1 (some (.int z2), h2) ∧ zP h2 ∧ z2 = z1 := by
  have hr := aI_rg r
  have bad : ∀ v ∈ wTB, vOk [r] v → v.1.length = 1 → ∃ z1 h1 z2 h2, nEv sc D 15 (.ref 0 :: [r].map Value.int) h (some (.int z1), h1) ∧ aHp h1 ∧ nEv sc D 132 (.ref 53 :: [r].map Value.int) h1 (some (.int z2), h2) ∧ zP h2 ∧ z2 = z1 := fun v hv hk hl =>
    zBad (xs := [r]) (tx := mMe15) (tm := mMe132) (bCk_ok (dm := 0) (List.forall_mem_nil _) (List.all_eq_true.mp wTXB v hv)) (bCk_ok (dm := 0) (List.forall_mem_nil _) (List.all_eq_true.mp wTMB v hv)) rfl rfl rfl rfl (by decide) (by decide) hk (by rw [hl]; exact Nat.le_refl _) hp (by omega)
  by_cases h1 : r.toInt < 0
  · exact bad ([(aMi, -1)], [], -1) (by simp [wTB]) ⟨⟨⟨hr.1, by show r.toInt ≤ -1; omega⟩, trivial⟩, List.forall_mem_nil _⟩ rfl
  · by_cases h2 : 5 < r.toInt
    · exact bad ([(6, aMa)], [], -1) (by simp [wTB]) ⟨⟨⟨by show 6 ≤ r.toInt; omega, hr.2⟩, trivial⟩, List.forall_mem_nil _⟩ rfl
    · obtain ⟨c, hc⟩ : ∃ c : Nat, (c : Int) = r.toInt := ⟨r.toInt.toNat, by omega⟩
      have hc6 : c < 6 := by omega
      obtain ⟨s, s1, s2, s3, s4⟩ := zS hp hc6
      have rc : (c : Int) ≤ r.toInt ∧ r.toInt ≤ (c : Int) := by omega
      by_cases h3 : s.toInt = -1
      · exact zOne (xs := [r]) (v := wTN c) (s := s) (tx := mMe15) (tm := mMe132) (bCk_ok (dm := 0) (List.forall_mem_nil _) (List.all_eq_true.mp wTXN c (List.mem_range.mpr hc6))) (bCk_ok (dm := 0) (List.forall_mem_nil _) (List.all_eq_true.mp wTMN c (List.mem_range.mpr hc6))) rfl rfl rfl rfl (by decide) (by decide) hc6 s1 ⟨⟨rc, ⟨by show -1 ≤ s.toInt; omega, by show s.toInt ≤ -1; omega⟩, trivial⟩, List.forall_mem_nil _⟩ (by show 1 < 2; omega) hp (by omega)
      · have hB : vBd (wTS c) ([r] ++ [s]) := ⟨rc, ⟨by show 0 ≤ s.toInt; omega, s4⟩, trivial⟩
        have cx := bCk_ok (sc := sc) (dm := 0) (List.forall_mem_nil _) (List.all_eq_true.mp wTXS c (List.mem_range.mpr hc6))
        have cm := bCk_ok (sc := sc) (dm := 0) (List.forall_mem_nil _) (List.all_eq_true.mp wTMS c (List.mem_range.mpr hc6))
        obtain ⟨h1, a1, a2, a3, a4⟩ := vC_ok (xs := [r]) (gs := [s]) (t := mMe15) (D := D) cx rfl rfl (by show 1 ≤ 2; omega) hB (List.forall_mem_nil _) (zGh s1 (by show 1 < 2; omega)) hp.1 (by omega)
        have s5 : aSlot h1 54 c = some (.int s) := by
          rw [← s2]
          refine a3 _ _ ?_
          rintro ⟨m, m1, m2, m3, m4⟩
          rcases List.mem_singleton.mp m1 with rfl
          have m2 : 21 + 2 * c = 54 := m2
          omega
        obtain ⟨h2, b1, b2, b3, b4⟩ := vC_ok (xs := [r]) (gs := [s]) (t := mMe132) (D := D) cm rfl rfl (by show 1 ≤ 2; omega) hB (List.forall_mem_nil _) (zGh s5 (by show 1 < 2; omega)) a2 (by omega)
        exact ⟨_, h1, _, h2, a1, a2, b1, zP_set hp hc6 b2 a3 b3 a4 b4 (wT1 c hc6) (wT2 c hc6), rfl⟩
end RT
