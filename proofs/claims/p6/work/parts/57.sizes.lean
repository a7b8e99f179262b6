/-! the rows' sizes: class and reference agree on them -/
noncomputable def zP (h : mH) : Prop := aHp h ∧ ∀ c, c < 6 → aSlot h (21 + 2 * c) 1 = aSlot h 54 c
noncomputable def zMiss (ms : aMd) : Bool := ms.all (fun m => decide (m.1 ≠ 54) && decide (m.1 < 21 ∨ 31 < m.1 ∨ m.1 % 2 = 0 ∨ 1 < m.2.1 ∨ m.2.2 < 1))
theorem zP_fr {h h1 : mH} {ms : aMd} (hp : zP h) (hh1 : aHp h1) (hf : nFr ms h h1) (hm : zMiss ms = true) : zP h1 := by
  refine ⟨hh1, fun c hc => ?_⟩
  rw [hf (21 + 2 * c) 1, hf 54 c]
  · exact hp.2 c hc
  · rintro ⟨m, m1, m2, m3, m4⟩
    have h2 := List.all_eq_true.mp hm m m1
    simp only [Bool.and_eq_true, decide_eq_true_eq] at h2
    exact h2.1 m2
  · rintro ⟨m, m1, m2, m3, m4⟩
    have h2 := List.all_eq_true.mp hm m m1
    simp only [Bool.and_eq_true, decide_eq_true_eq] at h2
    have := h2.2
    omega
noncomputable def zM1 (c : Nat) (ms : aMd) : Bool := ms.all (fun m => decide (m.1 ≠ 54) && decide (m.1 < 21 ∨ 31 < m.1 ∨ m.1 % 2 = 0 ∨ m.1 = 21 + 2 * c ∨ 1 < m.2.1 ∨ m.2.2 < 1))
noncomputable def zM2 (c : Nat) (ms : aMd) : Bool := ms.all (fun m => decide (m.1 < 21 ∨ 31 < m.1) && decide (m.1 ≠ 54 ∨ (m.2.1 = c ∧ m.2.2 = c)))
theorem zP_set {h h1 h2 : mH} {c : Nat} {n : Int} {ms ms1 : aMd} (hp : zP h) (hc : c < 6) (hh2 : aHp h2) (hf1 : nFr ms h h1) (hf2 : nFr ms1 h1 h2) (hp1 : nPo [(21 + 2 * c, 1, n)] h1) (hp2 : nPo [(54, c, n)] h2) (hm1 : zM1 c ms = true) (hm2 : zM2 c ms1 = true) : zP h2 := by
  refine ⟨hh2, fun d hd => ?_⟩
  have e1 : aSlot h2 (21 + 2 * d) 1 = aSlot h1 (21 + 2 * d) 1 := by
    refine hf2 _ _ ?_
    rintro ⟨m, m1, m2, m3, m4⟩
    have h2 := List.all_eq_true.mp hm2 m m1
    simp only [Bool.and_eq_true, decide_eq_true_eq] at h2
    omega
  by_cases hcd : d = c
  · subst hcd
    obtain ⟨z, z1, z2⟩ := hp1 _ List.mem_cons_self
    obtain ⟨y, y1, y2⟩ := hp2 _ List.mem_cons_self
    dsimp only at z1 z2 y1 y2
    rw [e1, z1, y1]
    have : z = y := Int32.toInt_inj.mp (z2.trans y2.symm)
    rw [this]
  · have e2 : aSlot h2 54 d = aSlot h1 54 d := by
      refine hf2 _ _ ?_
      rintro ⟨m, m1, m2, m3, m4⟩
      have h2 := List.all_eq_true.mp hm2 m m1
      simp only [Bool.and_eq_true, decide_eq_true_eq] at h2
      omega
    have e3 : aSlot h1 54 d = aSlot h 54 d := by
      refine hf1 _ _ ?_
      rintro ⟨m, m1, m2, m3, m4⟩
      have h2 := List.all_eq_true.mp hm1 m m1
      simp only [Bool.and_eq_true, decide_eq_true_eq] at h2
      exact h2.1 m2
    have e4 : aSlot h1 (21 + 2 * d) 1 = aSlot h (21 + 2 * d) 1 := by
      refine hf1 _ _ ?_
      rintro ⟨m, m1, m2, m3, m4⟩
      have h2 := List.all_eq_true.mp hm1 m m1
      simp only [Bool.and_eq_true, decide_eq_true_eq] at h2
      omega
    rw [e1, e2, e3, e4]
    exact hp.2 d hd
theorem zS {h : mH} (hp : zP h) {c : Nat} (hc : c < 6) : ∃ s : Int32, aSlot h (21 + 2 * c) 1 = some (.int s) ∧ aSlot h 54 c = some (.int s) ∧ -1 ≤ s.toInt ∧ s.toInt ≤ 40 := by
  obtain ⟨s, s1, s2, s3⟩ := zCell_ok hp.1 ((show ∀ c, c < 6 → zCell 54 c (-1) 40 = true by decide +kernel) c hc)
  exact ⟨s, (hp.2 c hc).trans s1, s1, s2, s3⟩
/-- a variant: ranges, facts, answer -/
abbrev vV : Type := aB × List aX × Int
noncomputable def vOk (l : List Int32) (v : vV) : Prop := vBd v.1 l ∧ ∀ c ∈ v.2.1, aWf v.1.length c ∧ 0 ≤ aEv (vR l) c
noncomputable def vI : Int × Int := (aMi, aMa)
theorem vR_end (xs : List Int32) (s : Int32) : vR (xs ++ [s]) xs.length = s.toInt := by
  unfold vR
  simp [List.getD_eq_getElem?_getD]
theorem zGh {h : mH} {a j : Nat} {xs : List Int32} {s : Int32} {n : Nat} (hs : aSlot h a j = some (.int s)) (hn : xs.length < n) : aGs n (vR (xs ++ [s])) [(a, aK j, (0, aVr xs.length, 0))] h := by
  intro g hg
  rcases List.mem_singleton.mp hg with rfl
  refine ⟨aK_wf _ _, j, .int s, aK_ev _ _, hs, aVr_wf hn, s, rfl, ?_⟩
  show s.toInt = aEv _ (aVr xs.length)
  rw [aVr_ev, vR_end]
section ONE
variable {sc : List Int32} {D dm : Nat} {h : mH} {kx mx km mm : Nat} {tx tm : mM} {msx msm : aMd} {xs : List Int32}
theorem zBad {v : vV} (hx : bMe sc dm [] (vC kx 0 mx xs.length v.1 v.2.1 [] v.2.2 msx)) (hm : bMe sc dm [] (vC km 53 mm xs.length v.1 v.2.1 [] v.2.2 msm)) (ht : mTab[kx]? = some tx) (htx : mMX tx = mx) (hu : mTab[km]? = some tm) (htm : mMX tm = mm)
    (hzx : zMiss msx = true) (hzm : zMiss msm = true) (hv : vOk xs v) (hn : xs.length ≤ v.1.length) (hp : zP h) (hD : dm ≤ D) : ∃ z1 h1 z2 h2, nEv sc D kx (.ref 0 :: xs.map Value.int) h (some (.int z1), h1) ∧ aHp h1 ∧ nEv sc D km (.ref 53 :: xs.map Value.int) h1 (some (.int z2), h2) ∧ zP h2 ∧ z2 = z1 := by
  obtain ⟨h1, a1, a2, a3, -⟩ := vC_ok (gs := []) hx ht htx hn (by rw [List.append_nil]; exact hv.1) (by rw [List.append_nil]; exact hv.2) (fun g hg => absurd hg (by simp)) hp.1 hD
  have hp1 := zP_fr hp a2 a3 hzx
  obtain ⟨h2, b1, b2, b3, -⟩ := vC_ok (gs := []) hm hu htm hn (by rw [List.append_nil]; exact hv.1) (by rw [List.append_nil]; exact hv.2) (fun g hg => absurd hg (by simp)) hp1.1 hD
  exact ⟨_, h1, _, h2, a1, a2, b1, zP_fr hp1 b2 b3 hzm, rfl⟩
theorem zOne {v : vV} {c : Nat} {s : Int32} (hx : bMe sc dm [] (vC kx 0 mx xs.length v.1 v.2.1 [(21 + 2 * c, aK 1, (0, aVr xs.length, 0))] v.2.2 msx)) (hm : bMe sc dm [] (vC km 53 mm xs.length v.1 v.2.1 [(54, aK c, (0, aVr xs.length, 0))] v.2.2 msm)) (ht : mTab[kx]? = some tx) (htx : mMX tx = mx) (hu : mTab[km]? = some tm) (htm : mMX tm = mm)
    (hzx : zMiss msx = true) (hzm : zMiss msm = true) (hc : c < 6) (hs1 : aSlot h (21 + 2 * c) 1 = some (.int s)) (hv : vOk (xs ++ [s]) v) (hn : xs.length < v.1.length) (hp : zP h) (hD : dm ≤ D) : ∃ z1 h1 z2 h2, nEv sc D kx (.ref 0 :: xs.map Value.int) h (some (.int z1), h1) ∧ aHp h1 ∧ nEv sc D km (.ref 53 :: xs.map Value.int) h1 (some (.int z2), h2) ∧ zP h2 ∧ z2 = z1 := by
  obtain ⟨h1, a1, a2, a3, -⟩ := vC_ok (gs := [s]) hx ht htx (by omega) hv.1 hv.2 (zGh hs1 hn) hp.1 hD
  have hp1 := zP_fr hp a2 a3 hzx
  have hs2 : aSlot h1 54 c = some (.int s) := by
    rw [← hp1.2 c hc, ← hs1]
    refine a3 _ _ ?_
    rintro ⟨m, m1, m2, m3, m4⟩
    have h2 := List.all_eq_true.mp hzx m m1
    simp only [Bool.and_eq_true, decide_eq_true_eq] at h2
    have := h2.2
    omega
  obtain ⟨h2, b1, b2, b3, -⟩ := vC_ok (gs := [s]) hm hu htm (by omega) hv.1 hv.2 (zGh hs2 hn) hp1.1 hD
  exact ⟨_, h1, _, h2, a1, a2, b1, zP_fr hp1 b2 b3 hzm, rfl⟩
end ONE
