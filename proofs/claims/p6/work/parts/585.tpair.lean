/-! texts: class and reference agree on their sizes and signs -/
noncomputable def tP (h : mH) : Prop := aHp h ∧ ∀ c, c < 4 → aSlot h (33 + 2 * c) 1 = aSlot h 56 c ∧ ∀ i, i < 60 → aSlot h (34 + 2 * c) i = aSlot h 57 (60 * c + i)
noncomputable def tMiss (ms : aMd) : Bool := ms.all (fun m => decide (m.1 ≠ 56 ∧ m.1 ≠ 57 ∧ (m.1 < 33 ∨ 40 < m.1)))
theorem tMiss_no {ms : aMd} (hm : tMiss ms = true) {a j : Nat} (ha : a = 56 ∨ a = 57 ∨ (33 ≤ a ∧ a ≤ 40)) : ¬ aCov ms a j := by
  rintro ⟨m, m1, m2, -⟩
  have h2 := of_decide_eq_true (List.all_eq_true.mp hm m m1)
  omega
theorem tP_fr {h h1 : mH} {ms : aMd} (hp : tP h) (hh1 : aHp h1) (hf : nFr ms h h1) (hm : tMiss ms = true) : tP h1 := by
  refine ⟨hh1, fun c hc => ⟨?_, fun i hi => ?_⟩⟩
  · rw [hf _ _ (tMiss_no hm (by omega)), hf _ _ (tMiss_no hm (by omega))]
    exact (hp.2 c hc).1
  · rw [hf _ _ (tMiss_no hm (by omega)), hf _ _ (tMiss_no hm (by omega))]
    exact (hp.2 c hc).2 i hi
theorem tS {h : mH} (hp : tP h) {c : Nat} (hc : c < 4) : ∃ s : Int32, aSlot h (33 + 2 * c) 1 = some (.int s) ∧ aSlot h 56 c = some (.int s) ∧ -1 ≤ s.toInt ∧ s.toInt ≤ 60 := by
  obtain ⟨s, s1, s2, s3⟩ := zCell_ok hp.1 (tx_n hc)
  exact ⟨s, ((hp.2 c hc).1).trans s1, s1, s2, s3⟩
section TONE
variable {sc : List Int32} {D dm : Nat} {h : mH} {kx mx km mm : Nat} {tx tm : mM} {msx msm : aMd} {xs : List Int32}
theorem tBad {v : vV} (hx : bMe sc dm [] (vC kx 0 mx xs.length v.1 v.2.1 [] v.2.2 msx)) (hm : bMe sc dm [] (vC km 53 mm xs.length v.1 v.2.1 [] v.2.2 msm)) (ht : mTab[kx]? = some tx) (htx : mMX tx = mx) (hu : mTab[km]? = some tm) (htm : mMX tm = mm)
    (hzx : tMiss msx = true) (hzm : tMiss msm = true) (hv : vOk xs v) (hn : xs.length ≤ v.1.length) (hp : tP h) (hD : dm ≤ D) : ∃ z1 h1 z2 h2, nEv sc D kx (.ref 0 :: xs.map Value.int) h (some (.int z1), h1) ∧ aHp h1 ∧ nEv sc D km (.ref 53 :: xs.map Value.int) h1 (some (.int z2), h2) ∧ tP h2 ∧ z2 = z1 := by
  obtain ⟨h1, a1, a2, a3, -⟩ := vC_ok (gs := []) hx ht htx hn (by rw [List.append_nil]; exact hv.1) (by rw [List.append_nil]; exact hv.2) (fun g hg => absurd hg (by simp)) hp.1 hD
  have hp1 := tP_fr hp a2 a3 hzx
  obtain ⟨h2, b1, b2, b3, -⟩ := vC_ok (gs := []) hm hu htm hn (by rw [List.append_nil]; exact hv.1) (by rw [List.append_nil]; exact hv.2) (fun g hg => absurd hg (by simp)) hp1.1 hD
  exact ⟨_, h1, _, h2, a1, a2, b1, tP_fr hp1 b2 b3 hzm, rfl⟩
theorem tOne {v : vV} {c : Nat} {s : Int32} (hx : bMe sc dm [] (vC kx 0 mx xs.length v.1 v.2.1 [(33 + 2 * c, aK 1, (0, aVr xs.length, 0))] v.2.2 msx)) (hm : bMe sc dm [] (vC km 53 mm xs.length v.1 v.2.1 [(56, aK c, (0, aVr xs.length, 0))] v.2.2 msm)) (ht : mTab[kx]? = some tx) (htx : mMX tx = mx) (hu : mTab[km]? = some tm) (htm : mMX tm = mm)
    (hzx : tMiss msx = true) (hzm : tMiss msm = true) (hc : c < 4) (hs1 : aSlot h (33 + 2 * c) 1 = some (.int s)) (hv : vOk (xs ++ [s]) v) (hn : xs.length < v.1.length) (hp : tP h) (hD : dm ≤ D) : ∃ z1 h1 z2 h2, nEv sc D kx (.ref 0 :: xs.map Value.int) h (some (.int z1), h1) ∧ aHp h1 ∧ nEv sc D km (.ref 53 :: xs.map Value.int) h1 (some (.int z2), h2) ∧ tP h2 ∧ z2 = z1 := by
  obtain ⟨h1, a1, a2, a3, -⟩ := vC_ok (gs := [s]) hx ht htx (by omega) hv.1 hv.2 (zGh hs1 hn) hp.1 hD
  have hp1 := tP_fr hp a2 a3 hzx
  have hs2 : aSlot h1 56 c = some (.int s) := by
    rw [← (hp1.2 c hc).1, ← hs1]
    exact a3 _ _ (tMiss_no hzx (by omega))
  obtain ⟨h2, b1, b2, b3, -⟩ := vC_ok (gs := [s]) hm hu htm (by omega) hv.1 hv.2 (zGh hs2 hn) hp1.1 hD
  exact ⟨_, h1, _, h2, a1, a2, b1, tP_fr hp1 b2 b3 hzm, rfl⟩
end TONE
/-! text -/
noncomputable def tTB : List vV := [([(aMi, -1), vI], [], -1), ([(4, aMa), vI], [], -1), ([(0, 3), (61, aMa)], [], -1), ([(0, 3), (aMi, -1)], [], -3)]
noncomputable def tXs : aMd := [(0, 8, 8), (20, 5, 5)]
noncomputable def tMs : aMd := [(53, 11, 11), (62, 5, 5)]
set_option maxRecDepth 100000 in
theorem tTX : tTB.all (fun v => qzbCk [] [] [] [] [] (vC 20 0 4 2 v.1 v.2.1 [] v.2.2 tXs) 100000) = true := by decide +kernel
set_option maxRecDepth 100000 in
theorem tTM : tTB.all (fun v => qzbCk [] [] [] [] [] (vC 135 53 4 2 v.1 v.2.1 [] v.2.2 tMs) 100000) = true := by decide +kernel
theorem tText {sc : List Int32} {h : mH} (t n : Int32) (hp : tP h) : ∃ z1 h1 z2 h2, nEv sc 100 20 (.ref 0 :: [t, n].map Value.int) h (some (.int z1), h1) ∧ aHp h1 ∧ nEv sc 100 135 (.ref 53 :: [t, n].map Value.int) h1 (some (.int z2), h2) ∧ tP h2 ∧ z2 = z1 := by
  have ht := aI_rg t
  have hn := aI_rg n
  have bad : ∀ v ∈ tTB, vOk [t, n] v → v.1.length = 2 → ∃ z1 h1 z2 h2, nEv sc 100 20 (.ref 0 :: [t, n].map Value.int) h (some (.int z1), h1) ∧ aHp h1 ∧ nEv sc 100 135 (.ref 53 :: [t, n].map Value.int) h1 (some (.int z2), h2) ∧ tP h2 ∧ z2 = z1 := fun v hv hk hl =>
    tBad (xs := [t, n]) (tx := mMe20) (tm := mMe135) (qzbCk_ok (dm := 0) (List.forall_mem_nil _) (List.all_eq_true.mp tTX v hv)) (qzbCk_ok (dm := 0) (List.forall_mem_nil _) (List.all_eq_true.mp tTM v hv)) rfl rfl rfl rfl (by decide) (by decide) hk (by rw [hl]; exact Nat.le_refl _) hp (by omega)
  by_cases h1 : t.toInt < 0
  · exact bad ([(aMi, -1), vI], [], -1) (by simp [tTB]) ⟨⟨⟨ht.1, by show t.toInt ≤ -1; omega⟩, hn, trivial⟩, List.forall_mem_nil _⟩ rfl
  by_cases h2 : 3 < t.toInt
  · exact bad ([(4, aMa), vI], [], -1) (by simp [tTB]) ⟨⟨⟨by show 4 ≤ t.toInt; omega, ht.2⟩, hn, trivial⟩, List.forall_mem_nil _⟩ rfl
  have t0 : (0 : Int) ≤ t.toInt ∧ t.toInt ≤ 3 := by omega
  by_cases h3 : 60 < n.toInt
  · exact bad ([(0, 3), (61, aMa)], [], -1) (by simp [tTB]) ⟨⟨t0, ⟨by show 61 ≤ n.toInt; omega, hn.2⟩, trivial⟩, List.forall_mem_nil _⟩ rfl
  by_cases h4 : n.toInt < 0
  · exact bad ([(0, 3), (aMi, -1)], [], -3) (by simp [tTB]) ⟨⟨t0, ⟨hn.1, by show n.toInt ≤ -1; omega⟩, trivial⟩, List.forall_mem_nil _⟩ rfl
  obtain ⟨c, hc⟩ : ∃ c : Nat, (c : Int) = t.toInt := ⟨t.toInt.toNat, by omega⟩
  have hc4 : c < 4 := by omega
  have et : Value.int t = sI (c : Int) := by unfold sI; rw [hc, Int32.ofInt_toInt]
  have en : Value.int n = sI n.toInt := by unfold sI; rw [Int32.ofInt_toInt]
  obtain ⟨h1, x1, x2, x3⟩ := fTextX (sc := sc) (d := 97) (n := n.toInt) hc4 hp.1 (by omega) (by omega)
  obtain ⟨h2, y1, y2, y3⟩ := fTextM (sc := sc) (d := 97) (n := n.toInt) hc4 x2 (by omega) (by omega)
  have a1 : nEv sc 100 20 (.ref 0 :: [t, n].map Value.int) h (some (.int (Int32.ofInt n.toInt)), h1) := by
    have e1 : (.ref 0 :: [t, n].map Value.int) = [.ref 0, sI (c : Int), sI n.toInt] := by
      show [Value.ref 0, Value.int t, Value.int n] = _
      rw [et, en]
    rw [e1]
    exact x1
  have a2 : nEv sc 100 135 (.ref 53 :: [t, n].map Value.int) h1 (some (.int (Int32.ofInt n.toInt)), h2) := by
    have e1 : (.ref 53 :: [t, n].map Value.int) = [.ref 53, sI (c : Int), sI n.toInt] := by
      show [Value.ref 53, Value.int t, Value.int n] = _
      rw [et, en]
    rw [e1]
    exact y1
  refine ⟨_, h1, _, h2, a1, x2, a2, ⟨y2, fun e he => ⟨?_, fun i hi => ?_⟩⟩, rfl⟩
  · rw [y3, y3, if_neg (by omega), if_neg (by omega), if_neg (by omega)]
    by_cases hec : e = c
    · rw [if_pos ⟨rfl, hec⟩, x3, if_neg (by omega), if_pos (by omega)]
    · rw [if_neg (by omega), x3, x3, if_neg (by omega), if_neg (by omega), if_neg (by omega), if_neg (by omega)]
      exact (hp.2 e he).1
  · rw [y3, y3, if_neg (by omega), if_neg (by omega)]
    by_cases hec : e = c
    · rw [if_pos (by omega), x3, if_pos (by omega)]
    · rw [if_neg (by omega), if_neg (by omega), x3, x3, if_neg (by omega), if_neg (by omega), if_neg (by omega), if_neg (by omega)]
      exact (hp.2 e he).2 i hi
/-! put -/
noncomputable def tPB : List vV := [([(aMi, -1), vI, vI], [], -1), ([(4, aMa), vI, vI], [], -1)]
noncomputable def tPc (c : Nat) : Int × Int := ((c : Int), (c : Int))
noncomputable def tP1 (c : Nat) : vV := ([tPc c, vI, vI, (-1, -1)], [], -3)
noncomputable def tP2 (c : Nat) : vV := ([tPc c, (aMi, -1), vI, (0, 60)], [], -3)
noncomputable def tP3 (c : Nat) : vV := ([tPc c, (0, aMa), vI, (0, 60)], [(0, [(1, 1), (-1, 3)])], -3)
noncomputable def tPV (c : Nat) : List vV := [tP1 c, tP2 c, tP3 c]
noncomputable def tPx : aMd := [(0, 8, 8), (20, 1, 2)]
noncomputable def tPm : aMd := [(53, 11, 11), (62, 1, 2)]
set_option maxRecDepth 100000 in
theorem tPXB : tPB.all (fun v => qzbCk [] [] [] [] [] (vC 24 0 7 3 v.1 v.2.1 [] v.2.2 tPx) 100000) = true := by decide +kernel
set_option maxRecDepth 100000 in
theorem tPMB : tPB.all (fun v => qzbCk [] [] [] [] [] (vC 137 53 5 3 v.1 v.2.1 [] v.2.2 tPm) 100000) = true := by decide +kernel
set_option maxRecDepth 100000 in
theorem tPX : (List.range 4).all (fun c => (tPV c).all (fun v => qzbCk [] [] [] [] [] (vC 24 0 7 3 v.1 v.2.1 [(33 + 2 * c, aK 1, (0, aVr 3, 0))] v.2.2 tPx) 100000)) = true := by decide +kernel
set_option maxRecDepth 100000 in
theorem tPM : (List.range 4).all (fun c => (tPV c).all (fun v => qzbCk [] [] [] [] [] (vC 137 53 5 3 v.1 v.2.1 [(56, aK c, (0, aVr 3, 0))] v.2.2 tPm) 100000)) = true := by decide +kernel
theorem tPut {sc : List Int32} {h : mH} (t n v : Int32) (hp : tP h) : ∃ z1 h1 z2 h2, nEv sc 100 24 (.ref 0 :: [t, n, v].map Value.int) h (some (.int z1), h1) ∧ aHp h1 ∧ nEv sc 100 137 (.ref 53 :: [t, n, v].map Value.int) h1 (some (.int z2), h2) ∧ tP h2 ∧ z2 = z1 := by
  have ht := aI_rg t
  have hn := aI_rg n
  have hv := aI_rg v
  have bad : ∀ u ∈ tPB, vOk [t, n, v] u → u.1.length = 3 → ∃ z1 h1 z2 h2, nEv sc 100 24 (.ref 0 :: [t, n, v].map Value.int) h (some (.int z1), h1) ∧ aHp h1 ∧ nEv sc 100 137 (.ref 53 :: [t, n, v].map Value.int) h1 (some (.int z2), h2) ∧ tP h2 ∧ z2 = z1 := fun u hu hk hl =>
    tBad (xs := [t, n, v]) (tx := mMe24) (tm := mMe137) (qzbCk_ok (dm := 0) (List.forall_mem_nil _) (List.all_eq_true.mp tPXB u hu)) (qzbCk_ok (dm := 0) (List.forall_mem_nil _) (List.all_eq_true.mp tPMB u hu)) rfl rfl rfl rfl (by decide) (by decide) hk (by rw [hl]; exact Nat.le_refl _) hp (by omega)
  by_cases h1 : t.toInt < 0
  · exact bad ([(aMi, -1), vI, vI], [], -1) (by simp [tPB]) ⟨⟨⟨ht.1, by show t.toInt ≤ -1; omega⟩, hn, hv, trivial⟩, List.forall_mem_nil _⟩ rfl
  by_cases h2 : 3 < t.toInt
  · exact bad ([(4, aMa), vI, vI], [], -1) (by simp [tPB]) ⟨⟨⟨by show 4 ≤ t.toInt; omega, ht.2⟩, hn, hv, trivial⟩, List.forall_mem_nil _⟩ rfl
  obtain ⟨c, hc⟩ : ∃ c : Nat, (c : Int) = t.toInt := ⟨t.toInt.toNat, by omega⟩
  have hc4 : c < 4 := by omega
  obtain ⟨s, s1, s2, s3, s4⟩ := tS hp hc4
  have rc : (tPc c).1 ≤ t.toInt ∧ t.toInt ≤ (tPc c).2 := by
    show (c : Int) ≤ t.toInt ∧ t.toInt ≤ (c : Int)
    omega
  have one : ∀ u ∈ tPV c, vOk ([t, n, v] ++ [s]) u → u.1.length = 4 → ∃ z1 h1 z2 h2, nEv sc 100 24 (.ref 0 :: [t, n, v].map Value.int) h (some (.int z1), h1) ∧ aHp h1 ∧ nEv sc 100 137 (.ref 53 :: [t, n, v].map Value.int) h1 (some (.int z2), h2) ∧ tP h2 ∧ z2 = z1 := fun u hu hk hl =>
    tOne (xs := [t, n, v]) (v := u) (s := s) (tx := mMe24) (tm := mMe137) (qzbCk_ok (dm := 0) (List.forall_mem_nil _) (List.all_eq_true.mp (List.all_eq_true.mp tPX c (List.mem_range.mpr hc4)) u hu)) (qzbCk_ok (dm := 0) (List.forall_mem_nil _) (List.all_eq_true.mp (List.all_eq_true.mp tPM c (List.mem_range.mpr hc4)) u hu)) rfl rfl rfl rfl (by decide) (by decide) hc4 s1 hk (by rw [hl]; show 3 < 4; omega) hp (by omega)
  by_cases h3 : s.toInt = -1
  · exact one (tP1 c) (by simp [tPV]) ⟨⟨rc, hn, hv, ⟨by show -1 ≤ s.toInt; omega, by show s.toInt ≤ -1; omega⟩, trivial⟩, List.forall_mem_nil _⟩ rfl
  by_cases h4 : n.toInt < 0
  · exact one (tP2 c) (by simp [tPV]) ⟨⟨rc, ⟨hn.1, by show n.toInt ≤ -1; omega⟩, hv, ⟨by show 0 ≤ s.toInt; omega, s4⟩, trivial⟩, List.forall_mem_nil _⟩ rfl
  by_cases h5 : s.toInt ≤ n.toInt
  · refine one (tP3 c) (by simp [tPV]) ⟨⟨rc, ⟨by show 0 ≤ n.toInt; omega, hn.2⟩, hv, ⟨by show 0 ≤ s.toInt; omega, s4⟩, trivial⟩, List.forall_mem_singleton.mpr ⟨show aWf 4 (0, [(1, 1), (-1, 3)]) by unfold aWf aWl; decide, ?_⟩⟩ rfl
    show 0 ≤ 0 + (1 * n.toInt + (-1 * s.toInt + 0))
    omega
  have et : Value.int t = sI (c : Int) := by unfold sI; rw [hc, Int32.ofInt_toInt]
  have en : Value.int n = sI n.toInt := by unfold sI; rw [Int32.ofInt_toInt]
  have hb : (v.toInt8.toInt32).toInt8.toInt32 = v.toInt8.toInt32 := by rw [Int8.toInt8_toInt32]
  have hw : -128 ≤ v.toInt8.toInt32.toInt ∧ v.toInt8.toInt32.toInt ≤ 127 := by
    rw [Int8.toInt_toInt32]
    have q1 := Int8.le_toInt v.toInt8
    have q2 := Int8.toInt_lt v.toInt8
    omega
  have z1 : hI h (33 + 2 * c) 1 = s.toInt := hI_of s1
  have x1 := fPutX (sc := sc) (d := 98) (i := n.toInt) (v := v) hp.1 hc4 (by omega) (by omega)
  rw [hb] at x1
  have x2 : aHp (hset h (34 + 2 * c) n.toInt.toNat (.int v.toInt8.toInt32)) := hset_in hp.1 (tx_in hc4 (by omega)) hw.1 hw.2
  have x3 := fun b m => hset_slot (v := .int v.toInt8.toInt32) hp.1 (tx_b hc4) (show n.toInt.toNat < 60 by omega) b m
  generalize hset h (34 + 2 * c) n.toInt.toNat (.int v.toInt8.toInt32) = g1 at x1 x2 x3
  have z2 : hI g1 56 c = s.toInt := hI_of (by rw [x3, if_neg (by omega)]; exact s2)
  have y1 := fPutM (sc := sc) (d := 97) (i := n.toInt) (v := v) x2 hc4 (by omega) (by omega)
  have y2 : aHp (hset g1 57 (60 * (c : Int) + n.toInt).toNat (.int v.toInt8.toInt32)) := hset_in x2 (tx_im (by omega)) hw.1 hw.2
  have y3 := fun b m => hset_slot (v := .int v.toInt8.toInt32) (k := 50) (n := 240) (a := 57) x2 rfl (show (60 * (c : Int) + n.toInt).toNat < 240 by omega) b m
  generalize hset g1 57 (60 * (c : Int) + n.toInt).toNat (.int v.toInt8.toInt32) = g2 at y1 y2 y3
  have hcell : hI g1 57 (60 * (c : Int) + n.toInt).toNat = hI h (34 + 2 * c) n.toInt.toNat := by
    unfold hI
    rw [x3, if_neg (by omega), show (60 * (c : Int) + n.toInt).toNat = 60 * c + n.toInt.toNat by omega, (hp.2 c hc4).2 n.toInt.toNat (by omega)]
  rw [hcell] at y1
  have a1 : nEv sc 100 24 (.ref 0 :: [t, n, v].map Value.int) h (some (sI (hI h (34 + 2 * c) n.toInt.toNat + 1000)), g1) := by
    have e1 : (.ref 0 :: [t, n, v].map Value.int) = [.ref 0, sI (c : Int), sI n.toInt, .int v] := by
      show [Value.ref 0, Value.int t, Value.int n, Value.int v] = _
      rw [et, en]
    rw [e1]
    exact x1
  have a2 : nEv sc 100 137 (.ref 53 :: [t, n, v].map Value.int) g1 (some (sI (hI h (34 + 2 * c) n.toInt.toNat + 1000)), g2) := by
    have e1 : (.ref 53 :: [t, n, v].map Value.int) = [.ref 53, sI (c : Int), sI n.toInt, .int v] := by
      show [Value.ref 53, Value.int t, Value.int n, Value.int v] = _
      rw [et, en]
    rw [e1]
    exact y1
  refine ⟨_, g1, _, g2, a1, x2, a2, ⟨y2, fun e he => ⟨?_, fun i hi => ?_⟩⟩, rfl⟩
  · rw [y3, y3, if_neg (by omega), if_neg (by omega), x3, x3, if_neg (by omega), if_neg (by omega)]
    exact (hp.2 e he).1
  · rw [y3, y3, if_neg (by omega)]
    by_cases hec : e = c ∧ i = n.toInt.toNat
    · rw [if_pos (by omega), x3, if_pos (by omega)]
    · rw [if_neg (by omega), x3, x3, if_neg (by omega), if_neg (by omega)]
      exact (hp.2 e he).2 i hi
