/-! people at the beginning; promises that leave them alone -/
noncomputable def uT : List aCt := [kC6, kC7, kC8, kC9, kC10, kC11, kC12, kC13, kC14, kC15, kC22, kC23, kC45, kC49, kC56, kC61, kC62, kC63, kC68, kC72, kC75, kC77, kC79, kC81, kC84, kC87, kC89, kC90, kC101, kC102, kC103, kC105, kC108, kC110, kC111, kC112, kC113, kC114, kC115, kC116, kC166, kC172, kC176, kC177, kC190, kC192, kC193, kC194, kC196, kC197, kC200, kC202, kC203, kC204, kC210, kC211, kC215, kC282, kC283, kC284, kC286, kC287, kC288, kC289, kC290, kC291, kC292, kC293, kC298, kC300, kC301, kC302, kC303, kC304, kC316, kC317]
set_option maxRecDepth 100000 in
theorem uT_ok (sc : List Int32) : ∀ c ∈ uT, nMe sc 81 c := by
  unfold uT
  exact List.forall_mem_cons.mpr ⟨(kM6 sc).mono (by decide), List.forall_mem_cons.mpr ⟨(kM7 sc).mono (by decide), List.forall_mem_cons.mpr ⟨(kM8 sc).mono (by decide), List.forall_mem_cons.mpr ⟨(kM9 sc).mono (by decide), List.forall_mem_cons.mpr ⟨(kM10 sc).mono (by decide), List.forall_mem_cons.mpr ⟨(kM11 sc).mono (by decide), List.forall_mem_cons.mpr ⟨(kM12 sc).mono (by decide), List.forall_mem_cons.mpr ⟨(kM13 sc).mono (by decide), List.forall_mem_cons.mpr ⟨(kM14 sc).mono (by decide), List.forall_mem_cons.mpr ⟨(kM15 sc).mono (by decide), List.forall_mem_cons.mpr ⟨(kM22 sc).mono (by decide), List.forall_mem_cons.mpr ⟨(kM23 sc).mono (by decide), List.forall_mem_cons.mpr ⟨(kM45 sc).mono (by decide), List.forall_mem_cons.mpr ⟨(kM49 sc).mono (by decide), List.forall_mem_cons.mpr ⟨(kM56 sc).mono (by decide), List.forall_mem_cons.mpr ⟨(kM61 sc).mono (by decide), List.forall_mem_cons.mpr ⟨(kM62 sc).mono (by decide), List.forall_mem_cons.mpr ⟨(kM63 sc).mono (by decide), List.forall_mem_cons.mpr ⟨(kM68 sc).mono (by decide), List.forall_mem_cons.mpr ⟨(kM72 sc).mono (by decide), List.forall_mem_cons.mpr ⟨(kM75 sc).mono (by decide), List.forall_mem_cons.mpr ⟨(kM77 sc).mono (by decide), List.forall_mem_cons.mpr ⟨(kM79 sc).mono (by decide), List.forall_mem_cons.mpr ⟨(kM81 sc).mono (by decide), List.forall_mem_cons.mpr ⟨(kM84 sc).mono (by decide), List.forall_mem_cons.mpr ⟨(kM87 sc).mono (by decide), List.forall_mem_cons.mpr ⟨(kM89 sc).mono (by decide), List.forall_mem_cons.mpr ⟨(kM90 sc).mono (by decide), List.forall_mem_cons.mpr ⟨(kM101 sc).mono (by decide), List.forall_mem_cons.mpr ⟨(kM102 sc).mono (by decide), List.forall_mem_cons.mpr ⟨(kM103 sc).mono (by decide), List.forall_mem_cons.mpr ⟨(kM105 sc).mono (by decide), List.forall_mem_cons.mpr ⟨(kM108 sc).mono (by decide), List.forall_mem_cons.mpr ⟨(kM110 sc).mono (by decide), List.forall_mem_cons.mpr ⟨(kM111 sc).mono (by decide), List.forall_mem_cons.mpr ⟨(kM112 sc).mono (by decide), List.forall_mem_cons.mpr ⟨(kM113 sc).mono (by decide), List.forall_mem_cons.mpr ⟨(kM114 sc).mono (by decide), List.forall_mem_cons.mpr ⟨(kM115 sc).mono (by decide), List.forall_mem_cons.mpr ⟨(kM116 sc).mono (by decide), List.forall_mem_cons.mpr ⟨(kM166 sc).mono (by decide), List.forall_mem_cons.mpr ⟨(kM172 sc).mono (by decide), List.forall_mem_cons.mpr ⟨(kM176 sc).mono (by decide), List.forall_mem_cons.mpr ⟨(kM177 sc).mono (by decide), List.forall_mem_cons.mpr ⟨(kM190 sc).mono (by decide), List.forall_mem_cons.mpr ⟨(kM192 sc).mono (by decide), List.forall_mem_cons.mpr ⟨(kM193 sc).mono (by decide), List.forall_mem_cons.mpr ⟨(kM194 sc).mono (by decide), List.forall_mem_cons.mpr ⟨(kM196 sc).mono (by decide), List.forall_mem_cons.mpr ⟨(kM197 sc).mono (by decide), List.forall_mem_cons.mpr ⟨(kM200 sc).mono (by decide), List.forall_mem_cons.mpr ⟨(kM202 sc).mono (by decide), List.forall_mem_cons.mpr ⟨(kM203 sc).mono (by decide), List.forall_mem_cons.mpr ⟨(kM204 sc).mono (by decide), List.forall_mem_cons.mpr ⟨(kM210 sc).mono (by decide), List.forall_mem_cons.mpr ⟨(kM211 sc).mono (by decide), List.forall_mem_cons.mpr ⟨(kM215 sc).mono (by decide), List.forall_mem_cons.mpr ⟨(kM282 sc).mono (by decide), List.forall_mem_cons.mpr ⟨(kM283 sc).mono (by decide), List.forall_mem_cons.mpr ⟨(kM284 sc).mono (by decide), List.forall_mem_cons.mpr ⟨(kM286 sc).mono (by decide), List.forall_mem_cons.mpr ⟨(kM287 sc).mono (by decide), List.forall_mem_cons.mpr ⟨(kM288 sc).mono (by decide), List.forall_mem_cons.mpr ⟨(kM289 sc).mono (by decide), List.forall_mem_cons.mpr ⟨(kM290 sc).mono (by decide), List.forall_mem_cons.mpr ⟨(kM291 sc).mono (by decide), List.forall_mem_cons.mpr ⟨(kM292 sc).mono (by decide), List.forall_mem_cons.mpr ⟨(kM293 sc).mono (by decide), List.forall_mem_cons.mpr ⟨(kM298 sc).mono (by decide), List.forall_mem_cons.mpr ⟨(kM300 sc).mono (by decide), List.forall_mem_cons.mpr ⟨(kM301 sc).mono (by decide), List.forall_mem_cons.mpr ⟨(kM302 sc).mono (by decide), List.forall_mem_cons.mpr ⟨(kM303 sc).mono (by decide), List.forall_mem_cons.mpr ⟨(kM304 sc).mono (by decide), List.forall_mem_cons.mpr ⟨(kM316 sc).mono (by decide), List.forall_mem_cons.mpr ⟨(kM317 sc).mono (by decide), List.forall_mem_nil _⟩⟩⟩⟩⟩⟩⟩⟩⟩⟩⟩⟩⟩⟩⟩⟩⟩⟩⟩⟩⟩⟩⟩⟩⟩⟩⟩⟩⟩⟩⟩⟩⟩⟩⟩⟩⟩⟩⟩⟩⟩⟩⟩⟩⟩⟩⟩⟩⟩⟩⟩⟩⟩⟩⟩⟩⟩⟩⟩⟩⟩⟩⟩⟩⟩⟩⟩⟩⟩⟩⟩⟩⟩⟩⟩⟩
set_option maxRecDepth 100000 in
theorem uT_z : uT.all (fun c => uMiss c.2.2.2) = true := by decide +kernel
noncomputable def uZ (h : mH) (a j : Nat) : Bool := match aSlot h a j with
  | some (.int x) => decide (x = Int32.ofInt 0)
  | _ => false
theorem uZ_ok {h : mH} {a j : Nat} (hz : uZ h a j = true) : aSlot h a j = some (sI 0) := by
  unfold uZ at hz
  split at hz
  · rename_i x e1
    rw [e1, of_decide_eq_true hz]
  · cases hz
noncomputable def lB3 : Bool := match qPre 10 (0, mEntL 4 [.retAddr 0], [], []) with
  | some g => decide (g.1 = 10) && (decide (g.2.1 = lM 0) && (g.2.2.1.isEmpty && (aHpB g.2.2.2 && ((List.range 4).all (fun c => tEqB g.2.2.2 (33 + 2 * c) 1 56 c && (List.range 60).all (fun i => tEqB g.2.2.2 (34 + 2 * c) i 57 (60 * c + i))) && (tEqB g.2.2.2 3 3 58 0 && (List.range 3).all (fun k => uZ g.2.2.2 61 k && uZ g.2.2.2 (41 + 4 * k) 3))))))
  | none => false
set_option maxRecDepth 100000 in
theorem lB3_ok : lB3 = true := by decide +kernel
theorem lBegin3 {sc : List Int32} {D : Nat} (hD : 10 ≤ D) : ∃ h, uP h ∧ ∀ r, nRn sc D (some .boolean) mLaw (10, lM 0, [], h) r → nRn sc D (some .boolean) mLaw (0, mEntL 4 [.retAddr 0], [], []) r := by
  have h0 := lB3_ok
  unfold lB3 at h0
  split at h0
  · rename_i g hg
    obtain ⟨i, L, st, h⟩ := g
    simp only [Bool.and_eq_true, decide_eq_true_eq, List.isEmpty_iff] at h0
    obtain ⟨e1, e2, e3, e4, e5, e7, e8⟩ := h0
    subst e1 e2 e3
    refine ⟨h, ⟨⟨aHpB_ok e4, fun c hc => ?_⟩, tEqB_ok e7, fun k hk => Or.inl ?_⟩, fun r hr => qPre_ok hD 10 _ _ hg hr⟩
    · have e6 := List.all_eq_true.mp e5 c (List.mem_range.mpr hc)
      rw [Bool.and_eq_true] at e6
      exact ⟨tEqB_ok e6.1, fun j hj => tEqB_ok (List.all_eq_true.mp e6.2 j (List.mem_range.mpr hj))⟩
    · have e6 := List.all_eq_true.mp e8 k (List.mem_range.mpr hk)
      rw [Bool.and_eq_true] at e6
      exact ⟨uZ_ok e6.1, uZ_ok e6.2⟩
  · cases h0
