/-! embassy: class and reference answer alike -/
set_option maxRecDepth 100000 in
theorem tEXB : tFB.all (fun v => qzbCk [] [] [] [] [] (vC 32 0 4 1 v.1 v.2.1 [] v.2.2 tFx) 100000) = true := by decide +kernel
set_option maxRecDepth 100000 in
theorem tEMB : tFB.all (fun v => qzbCk [] [] [] [] [] (vC 144 53 3 1 v.1 v.2.1 [] v.2.2 tFm) 100000) = true := by decide +kernel
set_option maxRecDepth 100000 in
theorem tEXN : (List.range 4).all (fun c => qzbCk [] [] [] [] [] (vC 32 0 4 1 (tFN c).1 (tFN c).2.1 [(33 + 2 * c, aK 1, (0, aVr 1, 0))] (tFN c).2.2 tFx) 100000) = true := by decide +kernel
set_option maxRecDepth 100000 in
theorem tEMN : (List.range 4).all (fun c => qzbCk [] [] [] [] [] (vC 144 53 3 1 (tFN c).1 (tFN c).2.1 [(56, aK c, (0, aVr 1, 0))] (tFN c).2.2 tFm) 100000) = true := by decide +kernel
theorem tEmb {sc : List Int32} {h : mH} (t : Int32) (hp : tP h) : ∃ z1 h1 z2 h2, nEv sc 100 32 (.ref 0 :: [t].map Value.int) h (some (.int z1), h1) ∧ aHp h1 ∧ nEv sc 100 144 (.ref 53 :: [t].map Value.int) h1 (some (.int z2), h2) ∧ tP h2 ∧ z2 = z1 := by
  have ht := aI_rg t
  have bad : ∀ u ∈ tFB, vOk [t] u → u.1.length = 1 → ∃ z1 h1 z2 h2, nEv sc 100 32 (.ref 0 :: [t].map Value.int) h (some (.int z1), h1) ∧ aHp h1 ∧ nEv sc 100 144 (.ref 53 :: [t].map Value.int) h1 (some (.int z2), h2) ∧ tP h2 ∧ z2 = z1 := fun u hu hk hl =>
    tBad (xs := [t]) (tx := mMe32) (tm := mMe144) (qzbCk_ok (dm := 0) (List.forall_mem_nil _) (List.all_eq_true.mp tEXB u hu)) (qzbCk_ok (dm := 0) (List.forall_mem_nil _) (List.all_eq_true.mp tEMB u hu)) rfl rfl rfl rfl (by decide) (by decide) hk (by rw [hl]; exact Nat.le_refl _) hp (by omega)
  by_cases h1 : t.toInt < 0
  · exact bad ([(aMi, -1)], [], -1) (by simp [tFB]) ⟨⟨⟨ht.1, by show t.toInt ≤ -1; omega⟩, trivial⟩, List.forall_mem_nil _⟩ rfl
  by_cases h2 : 3 < t.toInt
  · exact bad ([(4, aMa)], [], -1) (by simp [tFB]) ⟨⟨⟨by show 4 ≤ t.toInt; omega, ht.2⟩, trivial⟩, List.forall_mem_nil _⟩ rfl
  obtain ⟨c, hc⟩ : ∃ c : Nat, (c : Int) = t.toInt := ⟨t.toInt.toNat, by omega⟩
  have hc4 : c < 4 := by omega
  obtain ⟨s, s1, s2, s3, s4⟩ := tS hp hc4
  have rc : (c : Int) ≤ t.toInt ∧ t.toInt ≤ (c : Int) := by omega
  by_cases h3 : s.toInt = -1
  · exact tOne (xs := [t]) (v := tFN c) (s := s) (tx := mMe32) (tm := mMe144) (qzbCk_ok (dm := 0) (List.forall_mem_nil _) (List.all_eq_true.mp tEXN c (List.mem_range.mpr hc4))) (qzbCk_ok (dm := 0) (List.forall_mem_nil _) (List.all_eq_true.mp tEMN c (List.mem_range.mpr hc4))) rfl rfl rfl rfl (by decide) (by decide) hc4 s1 ⟨⟨rc, ⟨by show -1 ≤ s.toInt; omega, by show s.toInt ≤ -1; omega⟩, trivial⟩, List.forall_mem_nil _⟩ (by show 1 < 2; omega) hp (by omega)
  have et : Value.int t = sI (c : Int) := by unfold sI; rw [hc, Int32.ofInt_toInt]
  have z1 : hI h (33 + 2 * c) 1 = s.toInt := hI_of s1
  have z2 : hI h 56 c = s.toInt := hI_of s2
  by_cases hz : pRd (hI h (33 + 2 * c) 1) (hI h (34 + 2 * c)) = -9
  · obtain ⟨g, h1, n, x1, x2, x3, x4, x5, x6, x7, -, -, -, -, -, x8⟩ := fEmbX (sc := sc) (d := 96) hc4 hp.1 (by omega) hz
    have k0 : ∀ e m, (e = 56 ∨ e = 57 ∨ (33 ≤ e ∧ e ≤ 40)) → aSlot h1 e m = aSlot h e m := fun e m w => by rw [x8, if_neg (by omega), if_neg (by omega), if_neg (by omega), if_neg (by omega), if_neg (by omega), x4 e m (by omega) (by omega) (by omega) (by omega)]
    have y0 : hI h1 56 c = s.toInt := by rw [← z2]; unfold hI; rw [k0 _ _ (by omega)]
    have hg : ∀ j : Nat, (j : Int) < s.toInt → (fun j => hI h1 57 (60 * c + j)) j = hI h (34 + 2 * c) j := fun j hj => by
      show hI h1 57 (60 * c + j) = hI h (34 + 2 * c) j
      unfold hI
      rw [k0 _ _ (by omega), (hp.2 c hc4).2 j (by omega)]
    have eq : pRd (hI h1 56 c) (fun j => hI h1 57 (60 * c + j)) = -9 := by
      rw [y0, ← hz, z1]
      exact pRd_cg hg
    obtain ⟨g2, h2, n2, y1, y2, y3, y4, y5, y6, y7, -, -, -, y8⟩ := fEmbM (sc := sc) (d := 96) hc4 x3 (by omega) eq
    have hn : n2 = n := by
      have q := pSk_ge (s.toInt) (hI h (34 + 2 * c)) 61 0
      rw [y0, pSk_cg hg 61 0 (by omega), pDt_cg hg (by omega)] at y7
      rw [z1] at x7
      omega
    subst hn
    have a1 : nEv sc 100 32 (.ref 0 :: [t].map Value.int) h (some (sI (n2 : Int)), h1) := by
      show nEv sc 100 32 [.ref 0, .int t] h _
      rw [et]
      exact x1
    have a2 : nEv sc 100 144 (.ref 53 :: [t].map Value.int) h1 (some (sI (n2 : Int)), h2) := by
      show nEv sc 100 144 [.ref 53, .int t] h1 _
      rw [et]
      exact y1
    exact ⟨_, h1, _, h2, a1, x3, a2, tP_sl hp y3 (fun e m w => by rw [y8, if_neg (by omega), if_neg (by omega), y4 e m (by omega) (by omega), k0 e m w]), rfl⟩
  · obtain ⟨h1, x1, x2, x3⟩ := fEmbXn (sc := sc) (d := 96) hc4 hp.1 (by omega) hz
    have k0 : ∀ e m, (e = 56 ∨ e = 57 ∨ (33 ≤ e ∧ e ≤ 40)) → aSlot h1 e m = aSlot h e m := fun e m w => by rw [x3 e m (by omega) (by omega) (by omega) (by omega)]
    have y0 : hI h1 56 c = s.toInt := by rw [← z2]; unfold hI; rw [k0 _ _ (by omega)]
    have hg : ∀ j : Nat, (j : Int) < s.toInt → (fun j => hI h1 57 (60 * c + j)) j = hI h (34 + 2 * c) j := fun j hj => by
      show hI h1 57 (60 * c + j) = hI h (34 + 2 * c) j
      unfold hI
      rw [k0 _ _ (by omega), (hp.2 c hc4).2 j (by omega)]
    have eq : pRd (hI h1 56 c) (fun j => hI h1 57 (60 * c + j)) ≠ -9 := by
      rw [z1] at hz
      rw [y0, pRd_cg hg]
      exact hz
    obtain ⟨h2, y1, y2, y3⟩ := fEmbMn (sc := sc) (d := 96) hc4 x2 (by omega) eq
    have a1 : nEv sc 100 32 (.ref 0 :: [t].map Value.int) h (some (sI (-4)), h1) := by
      show nEv sc 100 32 [.ref 0, .int t] h _
      rw [et]
      exact x1
    have a2 : nEv sc 100 144 (.ref 53 :: [t].map Value.int) h1 (some (sI (-4)), h2) := by
      show nEv sc 100 144 [.ref 53, .int t] h1 _
      rw [et]
      exact y1
    exact ⟨_, h1, _, h2, a1, x2, a2, tP_sl hp y2 (fun e m w => by rw [y3 e m (by omega) (by omega), k0 e m w]), rfl⟩
