/-! the goal: tear -/
def gEx : List yX := [((7, (1, 0) :: zL 1 2), (125, (2, 0) :: zL 1 2), false), ((15, (1, 0) :: zL 1 1), (132, (2, 0) :: zL 1 1), true)]
set_option maxRecDepth 100000 in
theorem gGo : yGoAll gT gEx = true := by decide +kernel
theorem mGoal_ok : mGoal := by
  intro sc hl
  obtain ⟨h0, p0, hst⟩ := lBegin1 (sc := sc) (D := 100) (by decide)
  have hX : ∀ i, i + 6 ≤ sc.length → ∀ e ∈ gEx, ∀ z av aw h, zP h → lSk sc i z e.1.2 av → lSk sc i z e.2.1.2 aw → ∃ z1 h1 z2 h2, nEv sc 100 e.1.1 av h (some (.int z1), h1) ∧ aHp h1 ∧ nEv sc 100 e.2.1.1 aw h1 (some (.int z2), h2) ∧ zP h2 ∧ (e.2.2 = true → z2 = z1) := by
    intro i hi e he z av aw h hp hs hs2
    rcases List.mem_cons.mp he with rfl | he
    · obtain rfl := zX_ok (n := 2) hs
      obtain rfl := zM_ok (n := 2) hs2
      obtain ⟨z1, h1, z2, h2, x1, x2, x3, x4, x5⟩ := zRow (sc := sc) (D := 100) (sc.getD (i + 1) 0) (sc.getD (i + 2) 0) hp (by decide)
      exact ⟨z1, h1, z2, h2, x1, x2, x3, x4, fun _ => x5⟩
    · rcases List.mem_cons.mp he with rfl | he
      · obtain rfl := zX_ok (n := 1) hs
        obtain rfl := zM_ok (n := 1) hs2
        obtain ⟨z1, h1, z2, h2, x1, x2, x3, x4, x5⟩ := zTear (sc := sc) (D := 100) (sc.getD (i + 1) 0) hp (by decide)
        exact ⟨z1, h1, z2, h2, x1, x2, x3, x4, fun _ => x5⟩
      · cases he
  have hW : ∀ i z, ∀ e ∈ gEx, ∃ aw, lSk sc i z e.2.1.2 aw ∧ ∀ z1 av, lSk sc i z1 e.2.1.2 av → av = aw := by
    intro i z e he
    rcases List.mem_cons.mp he with rfl | he
    · exact zW (n := 2) i z
    · rcases List.mem_cons.mp he with rfl | he
      · exact zW (n := 1) i z
      · cases he
  obtain ⟨h1, p1, hr⟩ := yLoop2 (P := zP) (T := gT) (ex := gEx) (dm := 81) (D := 100) (fun _ h => h.1) (gT_ok sc) (by decide) (fun c hc h h1 hp hh hf => zP_fr hp hh hf (List.all_eq_true.mp gT_z c hc)) hX hW hl gGo 384 0 (by omega) (by omega) h0 p0
  obtain ⟨n0, hn⟩ := hst _ hr
  obtain ⟨s1, s2⟩ := aHp_sl p1.1
  exact ⟨100, n0, h1, by decide, hn n0 (Nat.le_refl _) n0 (Nat.le_refl _), s1, s2⟩
