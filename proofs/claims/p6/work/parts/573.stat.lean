/-! the tables of letters and parents -/
section STAT
variable {sc : List Int32} {d : Nat} {rt : Option FieldType} {cs : List mE} {i : Nat} {L : mL} {st : List Value} {h : mH} {r : mR} {en : mE}
theorem s_stat {n : Nat} (he : cs[i]? = some en) (ho : ∃ z, en.2.1 = .getstatic z) (hn : mTgt en 1 = n) (h12 : n = 1 ∨ n = 2) (hr : nRn sc d rt cs (i + 1, L, .retAddr n :: st, h) r) : nRn sc d rt cs (i, L, st, h) r := by
  obtain ⟨z, ho⟩ := ho
  refine sStep he (by unfold nCl; rw [ho]; intro q; cases q) (fun call => mStep_F2 ?_) hr
  unfold mF2
  rw [ho]
  dsimp only
  rw [hn, if_pos h12]
theorem s_iaX {n : Nat} {j z : Int} (he : cs[i]? = some en) (ho : en.2.1 = .iaload) (h0 : 0 ≤ j ∧ j < 6) (h12 : n = 1 ∨ n = 2) (hz : (if n = 1 then mLet else mPar).getD j.toNat 0 = Int32.ofInt z) (hr : nRn sc d rt cs (i + 1, L, sI z :: st, h) r) : nRn sc d rt cs (i, L, sI j :: .retAddr n :: st, h) r := by
  have hx : mXs sc n = if n = 1 then mLet else mPar := by
    unfold mXs
    rw [if_neg (by omega)]
  have hl : (if n = 1 then mLet else mPar).length = 6 := by
    rcases h12 with rfl | rfl <;> rfl
  obtain ⟨x1, x2⟩ := sIx (n := 6) h0.1 (by omega) (by decide)
  refine sStep he (by unfold nCl; rw [ho]; intro q; cases q) (fun call => mStep_F2 ?_) hr
  unfold mF2
  rw [ho]
  dsimp only
  rw [hx, hl, if_pos ⟨by omega, x1⟩, x2, hz]
end STAT
theorem hI_cg {h h1 : mH} {a j : Nat} (e : aSlot h1 a j = aSlot h a j) : hI h1 a j = hI h a j := by
  unfold hI
  rw [e]
