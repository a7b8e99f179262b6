/-! the goal: p6 -/
noncomputable def gEx : List yX := [((20, (1, 0) :: zL 1 2), (135, (2, 0) :: zL 1 2), false), ((24, (1, 0) :: zL 1 3), (137, (2, 0) :: zL 1 3), false), ((32, (1, 0) :: zL 1 1), (144, (2, 0) :: zL 1 1), false), ((55, (1, 0) :: zL 1 1), (162, (2, 0) :: zL 1 1), false), ((59, (1, 0) :: zL 1 3), (167, (2, 0) :: zL 1 3), false), ((63, (1, 0) :: zL 1 2), (169, (2, 0) :: zL 1 2), false), ((70, (1, 0) :: zL 1 1), (176, (2, 0) :: zL 1 1), false), ((72, (1, 0) :: zL 1 1), (178, (2, 0) :: zL 1 1), false), ((74, (1, 0) :: zL 1 1), (179, (2, 0) :: zL 1 1), false), ((108, (1, 0) :: zL 1 2), (212, (2, 0) :: zL 1 2), false), ((88, (1, 0) :: zL 1 3), (194, (2, 0) :: zL 1 3), false), ((91, (1, 0) :: zL 1 3), (195, (2, 0) :: zL 1 3), false), ((7, (1, 0) :: zL 1 2), (125, (2, 0) :: zL 1 2), false), ((12, (1, 0) :: zL 1 3), (129, (2, 0) :: zL 1 3), false), ((15, (1, 0) :: zL 1 1), (132, (2, 0) :: zL 1 1), false), ((16, (1, 0) :: zL 1 5), (133, (2, 0) :: zL 1 5), true)]
set_option maxRecDepth 100000 in
theorem gGo : yGoAll vT gEx = true := by decide +kernel
theorem mGoal_ok : mGoal := by
  intro sc hl
  obtain ⟨h0, p0, hst⟩ := lBegin5 (sc := sc) (D := 100) (by decide)
  have hX : ∀ i, i + 6 ≤ sc.length → ∀ e ∈ gEx, ∀ z av aw h, vP h → lSk sc i z e.1.2 av → lSk sc i z e.2.1.2 aw → ∃ z1 h1 z2 h2, nEv sc 100 e.1.1 av h (some (.int z1), h1) ∧ aHp h1 ∧ nEv sc 100 e.2.1.1 aw h1 (some (.int z2), h2) ∧ vP h2 ∧ (e.2.2 = true → z2 = z1) := by
    intro i hi e he z av aw h hp hs hs2
    rcases List.mem_cons.mp he with rfl | he
    · obtain rfl := zX_ok (n := 2) hs
      obtain rfl := zM_ok (n := 2) hs2
      obtain ⟨z1, h1, z2, h2, x1, x2, x3, x4, x5⟩ := vText (sc := sc) (sc.getD (i + 1) 0) (sc.getD (i + 2) 0) hp
      exact ⟨z1, h1, z2, h2, x1, x2, x3, x4, fun _ => x5⟩
    rcases List.mem_cons.mp he with rfl | he
    · obtain rfl := zX_ok (n := 3) hs
      obtain rfl := zM_ok (n := 3) hs2
      obtain ⟨z1, h1, z2, h2, x1, x2, x3, x4, x5⟩ := vPut (sc := sc) (sc.getD (i + 1) 0) (sc.getD (i + 2) 0) (sc.getD (i + 3) 0) hp
      exact ⟨z1, h1, z2, h2, x1, x2, x3, x4, fun _ => x5⟩
    rcases List.mem_cons.mp he with rfl | he
    · obtain rfl := zX_ok (n := 1) hs
      obtain rfl := zM_ok (n := 1) hs2
      obtain ⟨z1, h1, z2, h2, x1, x2, x3, x4⟩ := vEmb (sc := sc) (sc.getD (i + 1) 0) hp
      exact ⟨z1, h1, z2, h2, x1, x2, x3, x4, fun q => by cases q⟩
    rcases List.mem_cons.mp he with rfl | he
    · obtain rfl := zX_ok (n := 1) hs
      obtain rfl := zM_ok (n := 1) hs2
      obtain ⟨z1, h1, z2, h2, x1, x2, x3, x4, x5⟩ := vStep (sc := sc) (sc.getD (i + 1) 0) hp
      exact ⟨z1, h1, z2, h2, x1, x2, x3, x4, fun _ => x5⟩
    rcases List.mem_cons.mp he with rfl | he
    · obtain rfl := zX_ok (n := 3) hs
      obtain rfl := zM_ok (n := 3) hs2
      obtain ⟨z1, h1, z2, h2, x1, x2, x3, x4, x5⟩ := vMeet (sc := sc) (sc.getD (i + 1) 0) (sc.getD (i + 2) 0) (sc.getD (i + 3) 0) hp
      exact ⟨z1, h1, z2, h2, x1, x2, x3, x4, fun _ => x5⟩
    rcases List.mem_cons.mp he with rfl | he
    · obtain rfl := zX_ok (n := 2) hs
      obtain rfl := zM_ok (n := 2) hs2
      obtain ⟨z1, h1, z2, h2, x1, x2, x3, x4⟩ := vTreat (sc := sc) (sc.getD (i + 1) 0) (sc.getD (i + 2) 0) hp
      exact ⟨z1, h1, z2, h2, x1, x2, x3, x4, fun q => by cases q⟩
    rcases List.mem_cons.mp he with rfl | he
    · obtain rfl := zX_ok (n := 1) hs
      obtain rfl := zM_ok (n := 1) hs2
      obtain ⟨z1, h1, z2, h2, x1, x2, x3, x4⟩ := vUndo (sc := sc) (sc.getD (i + 1) 0) hp
      exact ⟨z1, h1, z2, h2, x1, x2, x3, x4, fun q => by cases q⟩
    rcases List.mem_cons.mp he with rfl | he
    · obtain rfl := zX_ok (n := 1) hs
      obtain rfl := zM_ok (n := 1) hs2
      obtain ⟨z1, h1, z2, h2, x1, x2, x3, x4, x5⟩ := vKeep (sc := sc) (sc.getD (i + 1) 0) hp
      exact ⟨z1, h1, z2, h2, x1, x2, x3, x4, fun _ => x5⟩
    rcases List.mem_cons.mp he with rfl | he
    · obtain rfl := zX_ok (n := 1) hs
      obtain rfl := zM_ok (n := 1) hs2
      obtain ⟨z1, h1, z2, h2, x1, x2, x3, x4, x5⟩ := vOn (sc := sc) (sc.getD (i + 1) 0) hp
      exact ⟨z1, h1, z2, h2, x1, x2, x3, x4, fun _ => x5⟩
    rcases List.mem_cons.mp he with rfl | he
    · obtain rfl := zX_ok (n := 2) hs
      obtain rfl := zM_ok (n := 2) hs2
      obtain ⟨z1, h1, z2, h2, x1, x2, x3, x4⟩ := vLotsP (sc := sc) (sc.getD (i + 1) 0) (sc.getD (i + 2) 0) hp
      exact ⟨z1, h1, z2, h2, x1, x2, x3, x4, fun q => by cases q⟩
    rcases List.mem_cons.mp he with rfl | he
    · obtain rfl := zX_ok (n := 3) hs
      obtain rfl := zM_ok (n := 3) hs2
      obtain ⟨z1, h1, z2, h2, x1, x2, x3, x4⟩ := vMtg (sc := sc) (sc.getD (i + 1) 0) (sc.getD (i + 2) 0) (sc.getD (i + 3) 0) hp
      exact ⟨z1, h1, z2, h2, x1, x2, x3, x4, fun q => by cases q⟩
    rcases List.mem_cons.mp he with rfl | he
    · obtain rfl := zX_ok (n := 3) hs
      obtain rfl := zM_ok (n := 3) hs2
      obtain ⟨z1, h1, z2, h2, x1, x2, x3, x4⟩ := vFits (sc := sc) (sc.getD (i + 1) 0) (sc.getD (i + 2) 0) (sc.getD (i + 3) 0) hp
      exact ⟨z1, h1, z2, h2, x1, x2, x3, x4, fun q => by cases q⟩
    rcases List.mem_cons.mp he with rfl | he
    · obtain rfl := zX_ok (n := 2) hs
      obtain rfl := zM_ok (n := 2) hs2
      obtain ⟨z1, h1, z2, h2, x1, x2, x3, x4, x5⟩ := vRow (sc := sc) (sc.getD (i + 1) 0) (sc.getD (i + 2) 0) hp
      exact ⟨z1, h1, z2, h2, x1, x2, x3, x4.1, fun _ => x5⟩
    rcases List.mem_cons.mp he with rfl | he
    · obtain rfl := zX_ok (n := 3) hs
      obtain rfl := zM_ok (n := 3) hs2
      obtain ⟨z1, h1, z2, h2, x1, x2, x3, x4, x5⟩ := vLay (sc := sc) (sc.getD (i + 1) 0) (sc.getD (i + 2) 0) (sc.getD (i + 3) 0) hp
      exact ⟨z1, h1, z2, h2, x1, x2, x3, x4.1, fun _ => x5⟩
    rcases List.mem_cons.mp he with rfl | he
    · obtain rfl := zX_ok (n := 1) hs
      obtain rfl := zM_ok (n := 1) hs2
      obtain ⟨z1, h1, z2, h2, x1, x2, x3, x4, x5⟩ := vTear (sc := sc) (sc.getD (i + 1) 0) hp
      exact ⟨z1, h1, z2, h2, x1, x2, x3, x4.1, fun _ => x5⟩
    rcases List.mem_cons.mp he with rfl | he
    · obtain rfl := zX_ok (n := 5) hs
      obtain rfl := zM_ok (n := 5) hs2
      obtain ⟨z1, h1, z2, h2, x1, x2, x3, x4, x5⟩ := vCopy (sc := sc) (sc.getD (i + 1) 0) (sc.getD (i + 2) 0) (sc.getD (i + 3) 0) (sc.getD (i + 4) 0) (sc.getD (i + 5) 0) hp
      exact ⟨z1, h1, z2, h2, x1, x2, x3, x4.1, fun _ => x5⟩
    cases he
  have hW : ∀ i z, ∀ e ∈ gEx, ∃ aw, lSk sc i z e.2.1.2 aw ∧ ∀ z1 av, lSk sc i z1 e.2.1.2 av → av = aw := by
    intro i z e he
    rcases List.mem_cons.mp he with rfl | he
    · exact zW (n := 2) i z
    rcases List.mem_cons.mp he with rfl | he
    · exact zW (n := 3) i z
    rcases List.mem_cons.mp he with rfl | he
    · exact zW (n := 1) i z
    rcases List.mem_cons.mp he with rfl | he
    · exact zW (n := 1) i z
    rcases List.mem_cons.mp he with rfl | he
    · exact zW (n := 3) i z
    rcases List.mem_cons.mp he with rfl | he
    · exact zW (n := 2) i z
    rcases List.mem_cons.mp he with rfl | he
    · exact zW (n := 1) i z
    rcases List.mem_cons.mp he with rfl | he
    · exact zW (n := 1) i z
    rcases List.mem_cons.mp he with rfl | he
    · exact zW (n := 1) i z
    rcases List.mem_cons.mp he with rfl | he
    · exact zW (n := 2) i z
    rcases List.mem_cons.mp he with rfl | he
    · exact zW (n := 3) i z
    rcases List.mem_cons.mp he with rfl | he
    · exact zW (n := 3) i z
    rcases List.mem_cons.mp he with rfl | he
    · exact zW (n := 2) i z
    rcases List.mem_cons.mp he with rfl | he
    · exact zW (n := 3) i z
    rcases List.mem_cons.mp he with rfl | he
    · exact zW (n := 1) i z
    rcases List.mem_cons.mp he with rfl | he
    · exact zW (n := 5) i z
    cases he
  obtain ⟨h1, p1, hr⟩ := yLoop2 (P := vP) (T := vT) (ex := gEx) (dm := 81) (D := 100) vP_a (vT_ok sc) (by decide) (fun c hc h h1 hp hh hf => vP_fr hp hh hf (List.all_eq_true.mp vT_z c hc)) hX hW hl gGo 384 0 (by omega) (by omega) h0 p0.1
  obtain ⟨n0, hn⟩ := hst _ hr
  obtain ⟨s1, s2⟩ := aHp_sl (vP_a h1 p1)
  exact ⟨100, n0, h1, by decide, hn n0 (Nat.le_refl _) n0 (Nat.le_refl _), s1, s2⟩
