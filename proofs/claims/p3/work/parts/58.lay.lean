/-! lay -/
def uLB : List vV := [([(aMi, -1), vI, vI], [], -1), ([(6, aMa), vI, vI], [], -1)]
def uLc (c : Nat) : Int × Int := ((c : Int), (c : Int))
def uL1 (c : Nat) : vV := ([uLc c, vI, vI, (-1, -1)], [], -3)
def uL2 (c : Nat) : vV := ([uLc c, (aMi, -1), vI, (0, 40)], [], -3)
def uL3 (c : Nat) : vV := ([uLc c, (0, aMa), vI, (0, 40)], [(0, [(1, 1), (-1, 3)])], -3)
def uL4 (c : Nat) : vV := ([uLc c, (0, 39), vI, (1, 40)], [(-1, [(-1, 1), (1, 3)])], 1)
def uLV (c : Nat) : List vV := [uL1 c, uL2 c, uL3 c, uL4 c]
set_option maxRecDepth 100000 in
theorem uLXB : uLB.all (fun v => bCk [] [] [] [] [] (vC 12 0 6 3 v.1 v.2.1 [] v.2.2 kC8.2.2.2) 100000) = true := by decide +kernel
set_option maxRecDepth 100000 in
theorem uLMB : uLB.all (fun v => bCk [] [] [] [] [] (vC 129 53 5 3 v.1 v.2.1 [] v.2.2 kC9.2.2.2) 100000) = true := by decide +kernel
set_option maxRecDepth 100000 in
theorem uLX : (List.range 6).all (fun c => (uLV c).all (fun v => bCk [] [] [] [] [] (vC 12 0 6 3 v.1 v.2.1 [(21 + 2 * c, aK 1, (0, aVr 3, 0))] v.2.2 kC8.2.2.2) 100000)) = true := by decide +kernel
set_option maxRecDepth 100000 in
theorem uLM : (List.range 6).all (fun c => (uLV c).all (fun v => bCk [] [] [] [] [] (vC 129 53 5 3 v.1 v.2.1 [(54, aK c, (0, aVr 3, 0))] v.2.2 kC9.2.2.2) 100000)) = true := by decide +kernel
theorem zLay {sc : List Int32} {D : Nat} {h : mH} (r n v : Int32) (hp : zP h) (hD : 18 ≤ D) : ∃ z1 h1 z2 h2, nEv sc D 12 (.ref 0 :: [r, n, v].map Value.int) h (some (.int z1), h1) ∧ aHp h1 ∧ nEv sc D 129 (.ref 53 :: [r, n, v].map Value.int) h1 (some (.int z2), h2) ∧ zP h2 ∧ z2 = z1 := by
  have hr := aI_rg r
  have hn := aI_rg n
  have hv := aI_rg v
  have bad : ∀ u ∈ uLB, vOk [r, n, v] u → u.1.length = 3 → ∃ z1 h1 z2 h2, nEv sc D 12 (.ref 0 :: [r, n, v].map Value.int) h (some (.int z1), h1) ∧ aHp h1 ∧ nEv sc D 129 (.ref 53 :: [r, n, v].map Value.int) h1 (some (.int z2), h2) ∧ zP h2 ∧ z2 = z1 := fun u hu hk hl =>
    zBad (xs := [r, n, v]) (tx := mMe12) (tm := mMe129) (bCk_ok (dm := 0) (List.forall_mem_nil _) (List.all_eq_true.mp uLXB u hu)) (bCk_ok (dm := 0) (List.forall_mem_nil _) (List.all_eq_true.mp uLMB u hu)) rfl rfl rfl rfl (by decide +kernel) (by decide +kernel) hk (by rw [hl]; exact Nat.le_refl _) hp (by omega)
  by_cases h1 : r.toInt < 0
  · exact bad ([(aMi, -1), vI, vI], [], -1) (by simp [uLB]) ⟨⟨⟨hr.1, by show r.toInt ≤ -1; omega⟩, hn, hv, trivial⟩, List.forall_mem_nil _⟩ rfl
  · by_cases h2 : 5 < r.toInt
    · exact bad ([(6, aMa), vI, vI], [], -1) (by simp [uLB]) ⟨⟨⟨by show 6 ≤ r.toInt; omega, hr.2⟩, hn, hv, trivial⟩, List.forall_mem_nil _⟩ rfl
    · obtain ⟨c, hc⟩ : ∃ c : Nat, (c : Int) = r.toInt := ⟨r.toInt.toNat, by omega⟩
      have hc6 : c < 6 := by omega
      obtain ⟨s, s1, s2, s3, s4⟩ := zS hp hc6
      have rc : (uLc c).1 ≤ r.toInt ∧ r.toInt ≤ (uLc c).2 := by
        show (c : Int) ≤ r.toInt ∧ r.toInt ≤ (c : Int)
        omega
      have one : ∀ u ∈ uLV c, vOk ([r, n, v] ++ [s]) u → u.1.length = 4 → ∃ z1 h1 z2 h2, nEv sc D 12 (.ref 0 :: [r, n, v].map Value.int) h (some (.int z1), h1) ∧ aHp h1 ∧ nEv sc D 129 (.ref 53 :: [r, n, v].map Value.int) h1 (some (.int z2), h2) ∧ zP h2 ∧ z2 = z1 := fun u hu hk hl =>
        zOne (xs := [r, n, v]) (v := u) (s := s) (tx := mMe12) (tm := mMe129) (bCk_ok (dm := 0) (List.forall_mem_nil _) (List.all_eq_true.mp (List.all_eq_true.mp uLX c (List.mem_range.mpr hc6)) u hu)) (bCk_ok (dm := 0) (List.forall_mem_nil _) (List.all_eq_true.mp (List.all_eq_true.mp uLM c (List.mem_range.mpr hc6)) u hu)) rfl rfl rfl rfl (by decide +kernel) (by decide +kernel) hc6 s1 hk (by rw [hl]; show 3 < 4; omega) hp (by omega)
      by_cases h3 : s.toInt = -1
      · exact one (uL1 c) (by simp [uLV]) ⟨⟨rc, hn, hv, ⟨by show -1 ≤ s.toInt; omega, by show s.toInt ≤ -1; omega⟩, trivial⟩, List.forall_mem_nil _⟩ rfl
      · by_cases h4 : n.toInt < 0
        · exact one (uL2 c) (by simp [uLV]) ⟨⟨rc, ⟨hn.1, by show n.toInt ≤ -1; omega⟩, hv, ⟨by show 0 ≤ s.toInt; omega, s4⟩, trivial⟩, List.forall_mem_nil _⟩ rfl
        · by_cases h5 : s.toInt ≤ n.toInt
          · refine one (uL3 c) (by simp [uLV]) ⟨⟨rc, ⟨by show 0 ≤ n.toInt; omega, hn.2⟩, hv, ⟨by show 0 ≤ s.toInt; omega, s4⟩, trivial⟩, List.forall_mem_singleton.mpr ⟨show aWf 4 (0, [(1, 1), (-1, 3)]) by unfold aWf aWl; decide, ?_⟩⟩ rfl
            show 0 ≤ 0 + (1 * n.toInt + (-1 * s.toInt + 0))
            omega
          · refine one (uL4 c) (by simp [uLV]) ⟨⟨rc, ⟨by show 0 ≤ n.toInt; omega, by show n.toInt ≤ 39; omega⟩, hv, ⟨by show 1 ≤ s.toInt; omega, s4⟩, trivial⟩, List.forall_mem_singleton.mpr ⟨show aWf 4 (-1, [(-1, 1), (1, 3)]) by unfold aWf aWl; decide, ?_⟩⟩ rfl
            show 0 ≤ -1 + (-1 * n.toInt + (1 * s.toInt + 0))
            omega
