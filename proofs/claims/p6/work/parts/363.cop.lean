/-! the reference copies a row: the promises by hand -/
section COPM
variable {sc : List Int32} {d : Nat} {h : mH}
/-- what a cell of the reference's rows may hold -/
noncomputable def mHi (m : Nat) : Int := if m = 0 then 6 else if m ≤ 6 then 5 else if m ≤ 42 then 9 else if m = 43 then 63 else if m ≤ 79 then 1 else if m = 80 then 40 else 5
noncomputable def cpB (A i B j : Nat) : Bool := (List.range 201).all (fun m => zCell A (i + m) 0 (mHi m) && zIn B (j + m) 0 (mHi m))
/-- the reference copies a row -/
theorem fCopiesL {A B i j nA nB : Nat} (hAB : A ≠ B) (tA : sTg A = some (50, nA)) (tB : sTg B = some (50, nB)) (bA : i + 201 ≤ nA) (bB : j + 201 ≤ nB) (cA : nA ≤ 100000) (cB : nB ≤ 100000) (hty : cpB A i B j = true) : ∀ (k m : Nat) (h : mH), m + k = 201 → aHp h → ∃ h1, nRn sc d (mMT mMe145) (mMC mMe145) (2, [some (.ref A), some (sI (i : Int)), some (.ref B), some (sI (j : Int)), some (sI (m : Int))], [], h) (none, h1) ∧ aHp h1 ∧ ∀ b q, aSlot h1 b q = if b = B ∧ j + m ≤ q ∧ q < j + 201 then aSlot h A (i + (q - j)) else aSlot h b q := by
  intro k
  induction k with
  | zero =>
    intro m h hk hh
    refine ⟨h, ?_, hh, fun b q => by rw [if_neg (by omega)]⟩
    refine sP 2 (g1 := (4, [some (.ref A), some (sI ((i : Int))), some (.ref B), some (sI ((j : Int))), some (sI ((m : Int)))], [sI 201, sI ((m : Int))], h)) rfl ?_
    refine s_icmp (q := .ge) (a := (m : Int)) (b := 201) rfl ⟨_, rfl⟩ rfl (by unfold sR aMi aMa; omega) (by unfold sR aMi aMa; omega) (fun hc1 => ?_) (fun hc1 => ?_)
    · have hc1 : (201 : Int) ≤ ((m : Int)) := hc1
      exact s_ret rfl rfl
    · have hc1 : ¬ ((201 : Int) ≤ ((m : Int))) := hc1
      omega
  | succ k ih =>
    intro m h hk hh
    have hm := List.all_eq_true.mp hty m (List.mem_range.mpr (by omega))
    rw [Bool.and_eq_true] at hm
    have v1 := hI_ok hh hm.1
    have v2 := hI_rg hh hm.1
    have v3 := hI_sR h A (i + m)
    have ix : ((j : Int) + (m : Int)).toNat = j + m := by omega
    have iy : ((i : Int) + (m : Int)).toNat = i + m := by omega
    have hg : aHp (hset h B ((j : Int) + (m : Int)).toNat (sI (hI h A (i + m)))) := by
      rw [ix]
      exact hset_in hh hm.2 (by rw [sR_i v3]; exact v2.1) (by rw [sR_i v3]; exact v2.2)
    have s1 := fun b q => hset_slot (v := sI (hI h A (i + m))) hh tB (show ((j : Int) + (m : Int)).toNat < nB by omega) b q
    obtain ⟨h1, r1, r2, r3⟩ := ih (m + 1) _ (by omega) hg
    refine ⟨h1, ?_, r2, fun b q => ?_⟩
    rotate_left
    · rw [r3 b q]
      by_cases e1 : b = B ∧ j + (m + 1) ≤ q ∧ q < j + 201
      · rw [if_pos e1, s1, if_neg (fun z => hAB z.1), if_pos (by omega)]
      · rw [if_neg e1, s1, ix]
        by_cases e2 : b = B ∧ q = j + m
        · rw [if_pos e2, if_pos (by omega), ← v1, e2.2]
          congr 1
          omega
        · rw [if_neg e2, if_neg (by omega)]
    refine sP 2 (g1 := (4, [some (.ref A), some (sI ((i : Int))), some (.ref B), some (sI ((j : Int))), some (sI ((m : Int)))], [sI 201, sI ((m : Int))], h)) rfl ?_
    refine s_icmp (q := .ge) (a := (m : Int)) (b := 201) rfl ⟨_, rfl⟩ rfl (by unfold sR aMi aMa; omega) (by unfold sR aMi aMa; omega) (fun hc1 => ?_) (fun hc1 => ?_)
    · have hc1 : (201 : Int) ≤ ((m : Int)) := hc1
      omega
    · have hc1 : ¬ ((201 : Int) ≤ ((m : Int))) := hc1
      refine sP 3 (g1 := (8, [some (.ref A), some (sI ((i : Int))), some (.ref B), some (sI ((j : Int))), some (sI ((m : Int)))], [sI ((m : Int)), sI ((j : Int)), .ref B], h)) rfl ?_
      refine s_add (a := (j : Int)) (b := (m : Int)) rfl rfl ?_
      refine sP 3 (g1 := (12, [some (.ref A), some (sI ((i : Int))), some (.ref B), some (sI ((j : Int))), some (sI ((m : Int)))], [sI ((m : Int)), sI ((i : Int)), .ref A, sI (((j : Int)) + ((m : Int))), .ref B], h)) rfl ?_
      refine s_add (a := (i : Int)) (b := (m : Int)) rfl rfl ?_
      refine s_iald (a := A) (n := nA) (j := ((i : Int)) + ((m : Int))) hh rfl rfl tA (by omega) (by omega) cA (v := sI (hI h A (i + m))) (by rw [iy]; exact v1) ?_
      refine s_iast (a := B) (n := nB) (j := ((j : Int)) + ((m : Int))) hh rfl rfl tB (by omega) (by omega) cB ?_
      refine s_inc (a := (m : Int)) (n := 1) (k := 4) rfl rfl rfl ?_
      refine sP 1 (g1 := (2, [some (.ref A), some (sI ((i : Int))), some (.ref B), some (sI ((j : Int))), some (sI (((m : Int)) + 1))], [], (hset h B (((j : Int)) + ((m : Int))).toNat (sI (hI h A (i + m)))))) rfl ?_
      rw [show ((m : Int) + 1) = ((m + 1 : Nat) : Int) by omega]
      exact r1
theorem cop_M {A B : Nat} {z1 z3 : Int32} : ∀ M : mL, 5 = M.length → M[0]? = some (some (.ref A)) → M[1]? = some (some (.int z1)) → M[2]? = some (some (.ref B)) → M[3]? = some (some (.int z3)) → ∃ X, M = [some (.ref A), some (.int z1), some (.ref B), some (.int z3), X] := by
  intro M hl a0 a1 a2 a3
  match M, hl with
  | [p, q, s, u, x], _ =>
    cases a0
    cases a1
    cases a2
    cases a3
    exact ⟨x, rfl⟩
theorem cop_me {A B i j nA nB : Nat} {I J J2 : Int} (hI : I = (i : Int)) (hJ : J = (j : Int)) (hJ2 : J2 = J + 200) (hAB : A ≠ B) (tA : sTg A = some (50, nA)) (tB : sTg B = some (50, nB)) (bA : i + 201 ≤ nA) (bB : j + 201 ≤ nB) (cA : nA ≤ 100000) (cB : nB ≤ 100000) (hty : cpB A i B j = true) (sc : List Int32) : nMe sc 9 (145, (([(I, I), (J, J)], [], [], (10000000000000000000000000000000000000000, [])), [(145, 0, [(2, (0, []), A), (0, (0, [(1, 0)]), 0), (2, (0, []), B), (0, (0, [(1, 1)]), 0), (6, (0, []), 0)], [])], [(0, 0, 1, (0, [])), (0, 0, 3, (0, []))]), none, [(B, J, J2)]) := by
  intro h av r m1 t ht hh hS hM d hd
  obtain ⟨d, rfl⟩ : ∃ e, d = e + 1 := ⟨d - 1, by omega⟩
  obtain rfl : t = mMe145 := Option.some.inj (ht.symm.trans rfl)
  have hB : aBd [(I, I), (J, J)] r := hS.1
  have b0 : I ≤ r 0 ∧ r 0 ≤ I := hB 0 (I, I) rfl
  have b1 : J ≤ r 1 ∧ r 1 ≤ J := hB 1 (J, J) rfl
  obtain ⟨⟨-, -, ⟨fl, fs⟩, -⟩, -⟩ := hM
  obtain ⟨w0, e0, x0⟩ := fs 0 _ rfl (show (2 : Nat) < 6 by decide)
  obtain ⟨w1, e1, x1⟩ := fs 1 _ rfl (by decide)
  obtain ⟨w2, e2, x2⟩ := fs 2 _ rfl (show (2 : Nat) < 6 by decide)
  obtain ⟨w3, e3, x3⟩ := fs 3 _ rfl (by decide)
  have y0 : w0 = .ref A := x0.2
  obtain ⟨z1, y1, u1⟩ := (show ∃ z : Int32, w1 = .int z ∧ z.toInt = (0 : Int) + (1 * r 0 + 0) from x1.2)
  have y2 : w2 = .ref B := x2.2
  obtain ⟨z3, y3, u3⟩ := (show ∃ z : Int32, w3 = .int z ∧ z.toInt = (0 : Int) + (1 * r 1 + 0) from x3.2)
  rw [y0] at e0
  rw [y1] at e1
  rw [y2] at e2
  rw [y3] at e3
  obtain ⟨X, hX⟩ := cop_M (mEntL (mMX mMe145) av) fl e0 e1 e2 e3
  have q1 : Value.int z1 = sI (i : Int) := by
    have : z1.toInt = (i : Int) := by omega
    unfold sI
    rw [← this, Int32.ofInt_toInt]
  have q3 : Value.int z3 = sI (j : Int) := by
    have : z3.toInt = (j : Int) := by omega
    unfold sI
    rw [← this, Int32.ofInt_toInt]
  rw [q1, q3] at hX
  obtain ⟨h1, r1, r2, r3⟩ := fCopiesL (sc := sc) (d := d) hAB tA tB bA bB cA cB hty 201 0 h (by omega) hh
  refine ⟨(none, h1), nEv_of (t := mMe145) rfl ?_, r2, ?_, rfl⟩
  · rw [hX]
    refine sP 2 (g1 := (2, [some (.ref A), some (sI (i : Int)), some (.ref B), some (sI (j : Int)), some (sI 0)], [], h)) rfl ?_
    exact r1
  · intro a q hn
    show aSlot h1 a q = aSlot h a q
    rw [r3, if_neg (fun z => hn ⟨_, List.mem_cons_self, z.1.symm, show J ≤ (q : Int) by omega, show (q : Int) ≤ J2 by omega⟩)]
end COPM
/-- (('FirstLandingModel', 'copies', '([II[II)V'), (('r', 59), 0, ('r', 58), 0)) -/
noncomputable def kC51 : aCt := (145, (([(0, 0), (0, 0)], [], [], (10000000000000000000000000000000000000000, [])), [(145, 0, [(2, (0, []), 59), (0, (0, [(1, 0)]), 0), (2, (0, []), 58), (0, (0, [(1, 1)]), 0), (6, (0, []), 0)], [])], [(0, 0, 1, (0, [])), (0, 0, 3, (0, []))]), none, [(58, 0, 200)])
theorem kM51 (sc : List Int32) : nMe sc 9 kC51 := cop_me (A := 59) (i := 0) (B := 58) (j := 0) (nA := 201) (nB := 201) rfl rfl rfl (by decide) rfl rfl (by decide) (by decide) (by decide) (by decide) (by decide +kernel) sc
/-- (('FirstLandingModel', 'copies', '([II[II)V'), (('r', 58), 0, ('r', 60), 0)) -/
noncomputable def kC92 : aCt := (145, (([(0, 0), (0, 0)], [], [], (10000000000000000000000000000000000000000, [])), [(145, 0, [(2, (0, []), 58), (0, (0, [(1, 0)]), 0), (2, (0, []), 60), (0, (0, [(1, 1)]), 0), (6, (0, []), 0)], [])], [(0, 0, 1, (0, [])), (0, 0, 3, (0, []))]), none, [(60, 0, 200)])
theorem kM92 (sc : List Int32) : nMe sc 9 kC92 := cop_me (A := 58) (i := 0) (B := 60) (j := 0) (nA := 201) (nB := 603) rfl rfl rfl (by decide) rfl rfl (by decide) (by decide) (by decide) (by decide) (by decide +kernel) sc
/-- (('FirstLandingModel', 'copies', '([II[II)V'), (('r', 58), 0, ('r', 60), 402)) -/
noncomputable def kC93 : aCt := (145, (([(0, 0), (402, 402)], [], [], (10000000000000000000000000000000000000000, [])), [(145, 0, [(2, (0, []), 58), (0, (0, [(1, 0)]), 0), (2, (0, []), 60), (0, (0, [(1, 1)]), 0), (6, (0, []), 0)], [])], [(0, 0, 1, (0, [])), (0, 0, 3, (0, []))]), none, [(60, 402, 602)])
theorem kM93 (sc : List Int32) : nMe sc 9 kC93 := cop_me (A := 58) (i := 0) (B := 60) (j := 402) (nA := 201) (nB := 603) rfl rfl rfl (by decide) rfl rfl (by decide) (by decide) (by decide) (by decide) (by decide +kernel) sc
/-- (('FirstLandingModel', 'copies', '([II[II)V'), (('r', 58), 0, ('r', 60), 201)) -/
noncomputable def kC94 : aCt := (145, (([(0, 0), (201, 201)], [], [], (10000000000000000000000000000000000000000, [])), [(145, 0, [(2, (0, []), 58), (0, (0, [(1, 0)]), 0), (2, (0, []), 60), (0, (0, [(1, 1)]), 0), (6, (0, []), 0)], [])], [(0, 0, 1, (0, [])), (0, 0, 3, (0, []))]), none, [(60, 201, 401)])
theorem kM94 (sc : List Int32) : nMe sc 9 kC94 := cop_me (A := 58) (i := 0) (B := 60) (j := 201) (nA := 201) (nB := 603) rfl rfl rfl (by decide) rfl rfl (by decide) (by decide) (by decide) (by decide) (by decide +kernel) sc
/-- (('FirstLandingModel', 'copies', '([II[II)V'), (('r', 60), 0, ('r', 58), 0)) -/
noncomputable def kC97 : aCt := (145, (([(0, 0), (0, 0)], [], [], (10000000000000000000000000000000000000000, [])), [(145, 0, [(2, (0, []), 60), (0, (0, [(1, 0)]), 0), (2, (0, []), 58), (0, (0, [(1, 1)]), 0), (6, (0, []), 0)], [])], [(0, 0, 1, (0, [])), (0, 0, 3, (0, []))]), none, [(58, 0, 200)])
theorem kM97 (sc : List Int32) : nMe sc 9 kC97 := cop_me (A := 60) (i := 0) (B := 58) (j := 0) (nA := 603) (nB := 201) rfl rfl rfl (by decide) rfl rfl (by decide) (by decide) (by decide) (by decide) (by decide +kernel) sc
/-- (('FirstLandingModel', 'copies', '([II[II)V'), (('r', 60), 402, ('r', 58), 0)) -/
noncomputable def kC98 : aCt := (145, (([(402, 402), (0, 0)], [], [], (10000000000000000000000000000000000000000, [])), [(145, 0, [(2, (0, []), 60), (0, (0, [(1, 0)]), 0), (2, (0, []), 58), (0, (0, [(1, 1)]), 0), (6, (0, []), 0)], [])], [(0, 0, 1, (0, [])), (0, 0, 3, (0, []))]), none, [(58, 0, 200)])
theorem kM98 (sc : List Int32) : nMe sc 9 kC98 := cop_me (A := 60) (i := 402) (B := 58) (j := 0) (nA := 603) (nB := 201) rfl rfl rfl (by decide) rfl rfl (by decide) (by decide) (by decide) (by decide) (by decide +kernel) sc
/-- (('FirstLandingModel', 'copies', '([II[II)V'), (('r', 60), 201, ('r', 58), 0)) -/
noncomputable def kC99 : aCt := (145, (([(201, 201), (0, 0)], [], [], (10000000000000000000000000000000000000000, [])), [(145, 0, [(2, (0, []), 60), (0, (0, [(1, 0)]), 0), (2, (0, []), 58), (0, (0, [(1, 1)]), 0), (6, (0, []), 0)], [])], [(0, 0, 1, (0, [])), (0, 0, 3, (0, []))]), none, [(58, 0, 200)])
theorem kM99 (sc : List Int32) : nMe sc 9 kC99 := cop_me (A := 60) (i := 201) (B := 58) (j := 0) (nA := 603) (nB := 201) rfl rfl rfl (by decide) rfl rfl (by decide) (by decide) (by decide) (by decide) (by decide +kernel) sc
