/-! the goal: p38 -/
def gEx : List yX := [((7, (1, 0) :: zL 1 2), (125, (2, 0) :: zL 1 2), false), ((12, (1, 0) :: zL 1 3), (129, (2, 0) :: zL 1 3), false), ((15, (1, 0) :: zL 1 1), (132, (2, 0) :: zL 1 1), false), ((16, (1, 0) :: zL 1 5), (133, (2, 0) :: zL 1 5), false), ((14, (1, 0) :: zL 1 2), (131, (2, 0) :: zL 1 2), false), ((18, (1, 0) :: zL 1 1), (134, (2, 0) :: zL 1 1), false), ((84, (1, 0) :: zL 1 1), (190, (2, 0) :: zL 1 1), false), ((34, (1, 0) :: zL 1 2), (146, (2, 0) :: zL 1 2), false), ((78, (1, 0) :: zL 1 1), (184, (2, 0) :: zL 1 1), false), ((81, (1, 0) :: zL 1 0), (187, (2, 0) :: zL 1 0), false), ((82, (1, 0) :: zL 1 1), (188, (2, 0) :: zL 1 1), false), ((83, (1, 0) :: zL 1 1), (189, (2, 0) :: zL 1 1), false), ((95, (1, 0) :: zL 1 1), (199, (2, 0) :: zL 1 1), false), ((20, (1, 0) :: zL 1 2), (135, (2, 0) :: zL 1 2), false), ((24, (1, 0) :: zL 1 3), (137, (2, 0) :: zL 1 3), false), ((32, (1, 0) :: zL 1 1), (144, (2, 0) :: zL 1 1), false), ((55, (1, 0) :: zL 1 1), (162, (2, 0) :: zL 1 1), false), ((59, (1, 0) :: zL 1 3), (167, (2, 0) :: zL 1 3), false), ((63, (1, 0) :: zL 1 2), (169, (2, 0) :: zL 1 2), false), ((70, (1, 0) :: zL 1 1), (176, (2, 0) :: zL 1 1), false), ((72, (1, 0) :: zL 1 1), (178, (2, 0) :: zL 1 1), false), ((74, (1, 0) :: zL 1 1), (179, (2, 0) :: zL 1 1), false), ((108, (1, 0) :: zL 1 2), (212, (2, 0) :: zL 1 2), false), ((88, (1, 0) :: zL 1 3), (194, (2, 0) :: zL 1 3), false), ((91, (1, 0) :: zL 1 3), (195, (2, 0) :: zL 1 3), false), ((110, (1, 0) :: zL 1 0), (213, (2, 0) :: zL 1 0), true)]
set_option maxRecDepth 100000 in
theorem gGo : yGoAll nT gEx = true := by decide +kernel
theorem mGoal_ok : mGoal := by
  intro sc hl
  obtain ⟨h0, p0, hst⟩ := lBegin5 (sc := sc) (D := 100) (by decide)
  have hX : ∀ i, i + 6 ≤ sc.length → ∀ e ∈ gEx, ∀ z av aw h, mP h → lSk sc i z e.1.2 av → lSk sc i z e.2.1.2 aw → ∃ z1 h1 z2 h2, nEv sc 100 e.1.1 av h (some (.int z1), h1) ∧ aHp h1 ∧ nEv sc 100 e.2.1.1 aw h1 (some (.int z2), h2) ∧ mP h2 ∧ (e.2.2 = true → z2 = z1) := by
    intro i hi e he z av aw h hp hs hs2
    rcases List.mem_cons.mp he with rfl | he
    · obtain rfl := zX_ok (n := 2) hs
      obtain rfl := zM_ok (n := 2) hs2
      obtain ⟨z1, h1, z2, h2, x1, x2, x3, x4⟩ := nqRow (sc := sc) (sc.getD (i + 1) 0) (sc.getD (i + 2) 0) hp
      exact ⟨z1, h1, z2, h2, x1, x2, x3, x4, fun q => by cases q⟩
    rcases List.mem_cons.mp he with rfl | he
    · obtain rfl := zX_ok (n := 3) hs
      obtain rfl := zM_ok (n := 3) hs2
      obtain ⟨z1, h1, z2, h2, x1, x2, x3, x4⟩ := nqLay (sc := sc) (sc.getD (i + 1) 0) (sc.getD (i + 2) 0) (sc.getD (i + 3) 0) hp
      exact ⟨z1, h1, z2, h2, x1, x2, x3, x4, fun q => by cases q⟩
    rcases List.mem_cons.mp he with rfl | he
    · obtain rfl := zX_ok (n := 1) hs
      obtain rfl := zM_ok (n := 1) hs2
      obtain ⟨z1, h1, z2, h2, x1, x2, x3, x4⟩ := nqTear (sc := sc) (sc.getD (i + 1) 0) hp
      exact ⟨z1, h1, z2, h2, x1, x2, x3, x4, fun q => by cases q⟩
    rcases List.mem_cons.mp he with rfl | he
    · obtain rfl := zX_ok (n := 5) hs
      obtain rfl := zM_ok (n := 5) hs2
      obtain ⟨z1, h1, z2, h2, x1, x2, x3, x4⟩ := nqCopy (sc := sc) (sc.getD (i + 1) 0) (sc.getD (i + 2) 0) (sc.getD (i + 3) 0) (sc.getD (i + 4) 0) (sc.getD (i + 5) 0) hp
      exact ⟨z1, h1, z2, h2, x1, x2, x3, x4, fun q => by cases q⟩
    rcases List.mem_cons.mp he with rfl | he
    · obtain rfl := zX_ok (n := 2) hs
      obtain rfl := zM_ok (n := 2) hs2
      obtain ⟨z1, h1, z2, h2, x1, x2, x3, x4⟩ := nqAt (sc := sc) (sc.getD (i + 1) 0) (sc.getD (i + 2) 0) hp
      exact ⟨z1, h1, z2, h2, x1, x2, x3, x4, fun q => by cases q⟩
    rcases List.mem_cons.mp he with rfl | he
    · obtain rfl := zX_ok (n := 1) hs
      obtain rfl := zM_ok (n := 1) hs2
      obtain ⟨z1, h1, z2, h2, x1, x2, x3, x4⟩ := nqMean (sc := sc) (sc.getD (i + 1) 0) hp
      exact ⟨z1, h1, z2, h2, x1, x2, x3, x4, fun q => by cases q⟩
    rcases List.mem_cons.mp he with rfl | he
    · obtain rfl := zX_ok (n := 1) hs
      obtain rfl := zM_ok (n := 1) hs2
      obtain ⟨z1, h1, z2, h2, x1, x2, x3, x4⟩ := nqSteps (sc := sc) (sc.getD (i + 1) 0) hp
      exact ⟨z1, h1, z2, h2, x1, x2, x3, x4, fun q => by cases q⟩
    rcases List.mem_cons.mp he with rfl | he
    · obtain rfl := zX_ok (n := 2) hs
      obtain rfl := zM_ok (n := 2) hs2
      obtain ⟨z1, h1, z2, h2, x1, x2, x3, x4⟩ := nqPerson (sc := sc) (sc.getD (i + 1) 0) (sc.getD (i + 2) 0) hp
      exact ⟨z1, h1, z2, h2, x1, x2, x3, x4, fun q => by cases q⟩
    rcases List.mem_cons.mp he with rfl | he
    · obtain rfl := zX_ok (n := 1) hs
      obtain rfl := zM_ok (n := 1) hs2
      obtain ⟨z1, h1, z2, h2, x1, x2, x3, x4⟩ := nqAgree (sc := sc) (sc.getD (i + 1) 0) hp
      exact ⟨z1, h1, z2, h2, x1, x2, x3, x4, fun q => by cases q⟩
    rcases List.mem_cons.mp he with rfl | he
    · obtain rfl := zX_ok (n := 0) hs
      obtain rfl := zM_ok (n := 0) hs2
      obtain ⟨z1, h1, z2, h2, x1, x2, x3, x4⟩ := nqWell (sc := sc)  hp
      exact ⟨z1, h1, z2, h2, x1, x2, x3, x4, fun q => by cases q⟩
    rcases List.mem_cons.mp he with rfl | he
    · obtain rfl := zX_ok (n := 1) hs
      obtain rfl := zM_ok (n := 1) hs2
      obtain ⟨z1, h1, z2, h2, x1, x2, x3, x4⟩ := nqAdd (sc := sc) (sc.getD (i + 1) 0) hp
      exact ⟨z1, h1, z2, h2, x1, x2, x3, x4, fun q => by cases q⟩
    rcases List.mem_cons.mp he with rfl | he
    · obtain rfl := zX_ok (n := 1) hs
      obtain rfl := zM_ok (n := 1) hs2
      obtain ⟨z1, h1, z2, h2, x1, x2, x3, x4⟩ := nqWorst (sc := sc) (sc.getD (i + 1) 0) hp
      exact ⟨z1, h1, z2, h2, x1, x2, x3, x4, fun q => by cases q⟩
    rcases List.mem_cons.mp he with rfl | he
    · obtain rfl := zX_ok (n := 1) hs
      obtain rfl := zM_ok (n := 1) hs2
      obtain ⟨z1, h1, z2, h2, x1, x2, x3, x4⟩ := nqTells (sc := sc) (sc.getD (i + 1) 0) hp
      exact ⟨z1, h1, z2, h2, x1, x2, x3, x4, fun q => by cases q⟩
    rcases List.mem_cons.mp he with rfl | he
    · obtain rfl := zX_ok (n := 2) hs
      obtain rfl := zM_ok (n := 2) hs2
      obtain ⟨z1, h1, z2, h2, x1, x2, x3, x4⟩ := nqText (sc := sc) (sc.getD (i + 1) 0) (sc.getD (i + 2) 0) hp
      exact ⟨z1, h1, z2, h2, x1, x2, x3, x4, fun q => by cases q⟩
    rcases List.mem_cons.mp he with rfl | he
    · obtain rfl := zX_ok (n := 3) hs
      obtain rfl := zM_ok (n := 3) hs2
      obtain ⟨z1, h1, z2, h2, x1, x2, x3, x4⟩ := nqPut (sc := sc) (sc.getD (i + 1) 0) (sc.getD (i + 2) 0) (sc.getD (i + 3) 0) hp
      exact ⟨z1, h1, z2, h2, x1, x2, x3, x4, fun q => by cases q⟩
    rcases List.mem_cons.mp he with rfl | he
    · obtain rfl := zX_ok (n := 1) hs
      obtain rfl := zM_ok (n := 1) hs2
      obtain ⟨z1, h1, z2, h2, x1, x2, x3, x4⟩ := nqEmb (sc := sc) (sc.getD (i + 1) 0) hp
      exact ⟨z1, h1, z2, h2, x1, x2, x3, x4, fun q => by cases q⟩
    rcases List.mem_cons.mp he with rfl | he
    · obtain rfl := zX_ok (n := 1) hs
      obtain rfl := zM_ok (n := 1) hs2
      obtain ⟨z1, h1, z2, h2, x1, x2, x3, x4⟩ := nqStep (sc := sc) (sc.getD (i + 1) 0) hp
      exact ⟨z1, h1, z2, h2, x1, x2, x3, x4, fun q => by cases q⟩
    rcases List.mem_cons.mp he with rfl | he
    · obtain rfl := zX_ok (n := 3) hs
      obtain rfl := zM_ok (n := 3) hs2
      obtain ⟨z1, h1, z2, h2, x1, x2, x3, x4⟩ := nqMeet (sc := sc) (sc.getD (i + 1) 0) (sc.getD (i + 2) 0) (sc.getD (i + 3) 0) hp
      exact ⟨z1, h1, z2, h2, x1, x2, x3, x4, fun q => by cases q⟩
    rcases List.mem_cons.mp he with rfl | he
    · obtain rfl := zX_ok (n := 2) hs
      obtain rfl := zM_ok (n := 2) hs2
      obtain ⟨z1, h1, z2, h2, x1, x2, x3, x4⟩ := nqTreat (sc := sc) (sc.getD (i + 1) 0) (sc.getD (i + 2) 0) hp
      exact ⟨z1, h1, z2, h2, x1, x2, x3, x4, fun q => by cases q⟩
    rcases List.mem_cons.mp he with rfl | he
    · obtain rfl := zX_ok (n := 1) hs
      obtain rfl := zM_ok (n := 1) hs2
      obtain ⟨z1, h1, z2, h2, x1, x2, x3, x4⟩ := nqUndo (sc := sc) (sc.getD (i + 1) 0) hp
      exact ⟨z1, h1, z2, h2, x1, x2, x3, x4, fun q => by cases q⟩
    rcases List.mem_cons.mp he with rfl | he
    · obtain rfl := zX_ok (n := 1) hs
      obtain rfl := zM_ok (n := 1) hs2
      obtain ⟨z1, h1, z2, h2, x1, x2, x3, x4⟩ := nqKeep (sc := sc) (sc.getD (i + 1) 0) hp
      exact ⟨z1, h1, z2, h2, x1, x2, x3, x4, fun q => by cases q⟩
    rcases List.mem_cons.mp he with rfl | he
    · obtain rfl := zX_ok (n := 1) hs
      obtain rfl := zM_ok (n := 1) hs2
      obtain ⟨z1, h1, z2, h2, x1, x2, x3, x4⟩ := nqOn (sc := sc) (sc.getD (i + 1) 0) hp
      exact ⟨z1, h1, z2, h2, x1, x2, x3, x4, fun q => by cases q⟩
    rcases List.mem_cons.mp he with rfl | he
    · obtain rfl := zX_ok (n := 2) hs
      obtain rfl := zM_ok (n := 2) hs2
      obtain ⟨z1, h1, z2, h2, x1, x2, x3, x4⟩ := nqLotsP (sc := sc) (sc.getD (i + 1) 0) (sc.getD (i + 2) 0) hp
      exact ⟨z1, h1, z2, h2, x1, x2, x3, x4, fun q => by cases q⟩
    rcases List.mem_cons.mp he with rfl | he
    · obtain rfl := zX_ok (n := 3) hs
      obtain rfl := zM_ok (n := 3) hs2
      obtain ⟨z1, h1, z2, h2, x1, x2, x3, x4⟩ := nqMtg (sc := sc) (sc.getD (i + 1) 0) (sc.getD (i + 2) 0) (sc.getD (i + 3) 0) hp
      exact ⟨z1, h1, z2, h2, x1, x2, x3, x4, fun q => by cases q⟩
    rcases List.mem_cons.mp he with rfl | he
    · obtain rfl := zX_ok (n := 3) hs
      obtain rfl := zM_ok (n := 3) hs2
      obtain ⟨z1, h1, z2, h2, x1, x2, x3, x4⟩ := nqFits (sc := sc) (sc.getD (i + 1) 0) (sc.getD (i + 2) 0) (sc.getD (i + 3) 0) hp
      exact ⟨z1, h1, z2, h2, x1, x2, x3, x4, fun q => by cases q⟩
    rcases List.mem_cons.mp he with rfl | he
    · obtain rfl := zX_ok (n := 0) hs
      obtain rfl := zM_ok (n := 0) hs2
      obtain ⟨z1, h1, z2, h2, x1, x2, x3, x4, x5⟩ := nqAsked (sc := sc)  hp
      exact ⟨z1, h1, z2, h2, x1, x2, x3, x4, fun _ => x5⟩
    cases he
  have hW : ∀ i z, ∀ e ∈ gEx, ∃ aw, lSk sc i z e.2.1.2 aw ∧ ∀ z1 av, lSk sc i z1 e.2.1.2 av → av = aw := by
    intro i z e he
    rcases List.mem_cons.mp he with rfl | he
    · exact zW (n := 2) i z
    rcases List.mem_cons.mp he with rfl | he
    · exact zW (n := 3) i z
    rcases List.mem_cons.mp he with rfl | he
    · exact zW (n := 1) i z
    rcases List.mem_cons.mp he with rfl | he
    · exact zW (n := 5) i z
    rcases List.mem_cons.mp he with rfl | he
    · exact zW (n := 2) i z
    rcases List.mem_cons.mp he with rfl | he
    · exact zW (n := 1) i z
    rcases List.mem_cons.mp he with rfl | he
    · exact zW (n := 1) i z
    rcases List.mem_cons.mp he with rfl | he
    · exact zW (n := 2) i z
    rcases List.mem_cons.mp he with rfl | he
    · exact zW (n := 1) i z
    rcases List.mem_cons.mp he with rfl | he
    · exact zW (n := 0) i z
    rcases List.mem_cons.mp he with rfl | he
    · exact zW (n := 1) i z
    rcases List.mem_cons.mp he with rfl | he
    · exact zW (n := 1) i z
    rcases List.mem_cons.mp he with rfl | he
    · exact zW (n := 1) i z
    rcases List.mem_cons.mp he with rfl | he
    · exact zW (n := 2) i z
    rcases List.mem_cons.mp he with rfl | he
    · exact zW (n := 3) i z
    rcases List.mem_cons.mp he with rfl | he
    · exact zW (n := 1) i z
    rcases List.mem_cons.mp he with rfl | he
    · exact zW (n := 1) i z
    rcases List.mem_cons.mp he with rfl | he
    · exact zW (n := 3) i z
    rcases List.mem_cons.mp he with rfl | he
    · exact zW (n := 2) i z
    rcases List.mem_cons.mp he with rfl | he
    · exact zW (n := 1) i z
    rcases List.mem_cons.mp he with rfl | he
    · exact zW (n := 1) i z
    rcases List.mem_cons.mp he with rfl | he
    · exact zW (n := 1) i z
    rcases List.mem_cons.mp he with rfl | he
    · exact zW (n := 2) i z
    rcases List.mem_cons.mp he with rfl | he
    · exact zW (n := 3) i z
    rcases List.mem_cons.mp he with rfl | he
    · exact zW (n := 3) i z
    rcases List.mem_cons.mp he with rfl | he
    · exact zW (n := 0) i z
    cases he
  obtain ⟨h1, p1, hr⟩ := yLoop2 (P := mP) (T := nT) (ex := gEx) (dm := 81) (D := 100) mP_a (nT_ok sc) (by decide) (fun c hc h h1 hp hh hf => mP_fr hp hh hf (List.all_eq_true.mp nT_z c hc)) hX hW hl gGo 384 0 (by omega) (by omega) h0 ⟨p0.1, p0.2.2⟩
  obtain ⟨n0, hn⟩ := hst _ hr
  obtain ⟨s1, s2⟩ := aHp_sl (mP_a h1 p1)
  exact ⟨100, n0, h1, by decide, hn n0 (Nat.le_refl _) n0 (Nat.le_refl _), s1, s2⟩
