/-! a cell that holds an int -/
noncomputable def zCell (a j : Nat) (lo hi : Int) : Bool := match aT[a]? with
  | some t => decide (j < t.2.1) && t.2.2.any (fun g => decide (g.1 ≤ j) && (decide (j ≤ g.2.1) && (g.2.2.1 == 0 && (decide (lo ≤ g.2.2.2.1) && decide (g.2.2.2.2 ≤ hi)))))
  | none => false
theorem zCell_ok {h : mH} {a j : Nat} {lo hi : Int} (hh : aHp h) (hz : zCell a j lo hi = true) : ∃ s : Int32, aSlot h a j = some (.int s) ∧ lo ≤ s.toInt ∧ s.toInt ≤ hi := by
  unfold zCell at hz
  split at hz
  · rename_i t ht
    rw [Bool.and_eq_true, decide_eq_true_eq] at hz
    obtain ⟨hj, hz⟩ := hz
    obtain ⟨g, g1, g2⟩ := List.any_eq_true.mp hz
    simp only [Bool.and_eq_true, decide_eq_true_eq, beq_iff_eq] at g2
    obtain ⟨a1, a2, a3, a4, a5⟩ := g2
    obtain ⟨q, q1, q2, q3, q4⟩ := aHp_at hh ht
    have hjq : j < q.2.length := by omega
    have h1 := q4 g g1 j _ a1 a2 (List.getElem?_eq_getElem hjq)
    unfold aIsT at h1
    rw [a3] at h1
    obtain ⟨s, s1, s2, s3⟩ := h1
    refine ⟨s, ?_, by omega, by omega⟩
    unfold aSlot
    rw [q1]
    dsimp only
    rw [List.getElem?_eq_getElem hjq, s1]
  · cases hz
