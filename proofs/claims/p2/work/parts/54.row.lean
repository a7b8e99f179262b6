/-! row's answers -/
def rBig : Int := 10000000000000000000000000000000000000000
def rC (k a : Nat) (r n : Int × Int) (z : Int) (ms : aMd) : aCt := (k, (([r, n], [], [], (rBig, [])), [(k, 0, [(2, (0, []), a), (0, (0, [(1, 0)]), 0), (0, (0, [(1, 1)]), 0), (6, (0, []), 0)], [])], [(0, 0, 1, (0, [])), (0, 0, 2, (0, []))]), some (0, z, z), ms)
def rMx : aMd := [(0, 8, 8), (20, 5, 5), (21, 1, 1), (22, 0, 39), (23, 1, 1), (24, 0, 39), (25, 1, 1), (26, 0, 39), (27, 1, 1), (28, 0, 39), (29, 1, 1), (30, 0, 39), (31, 1, 1), (32, 0, 39)]
def rMm : aMd := [(53, 11, 11), (62, 5, 5), (54, 0, 5), (55, 0, 239)]
def rAn (n : Int × Int) : List aAn := if n.1 = n.2 then [(([(0, 5), n, (0, 40)], [], [(54, (0, [(1, 0)]), (0, (0, [(1, 1)]), 0))], (40, [((-1), 2)])), [(125, 21, [(2, (0, []), 53), (0, (0, [(1, 0)]), 0), (0, (0, [(1, 1)]), 0), (0, (0, [(1, 2)]), 0)], [])], [(0, 0, 1, (0, [])), (0, 0, 2, (0, [])), (0, 0, 3, (0, []))])] else []
def rVs : List ((Int × Int) × (Int × Int) × Int) := [((aMi, -1), (aMi, aMa), -1), ((6, aMa), (aMi, aMa), -1), ((0, 5), (41, aMa), -1), ((0, 5), (aMi, -1), -3)] ++ (List.range 41).map (fun c : Nat => ((0, 5), ((c : Int), (c : Int)), (c : Int)))
set_option maxRecDepth 100000 in
theorem rX_all : rVs.all (fun v => aCk [kC0, kC1, kC2, kC3, kC4, kC5] [] [] [] (rC 7 0 v.1 v.2.1 v.2.2 rMx) 2000000) = true := by decide +kernel
set_option maxRecDepth 100000 in
theorem rM_all : rVs.all (fun v => aCk [] (rAn v.2.1) [(125, 21)] [] (rC 125 53 v.1 v.2.1 v.2.2 rMm) 2000000) = true := by decide +kernel
section ROW
variable {sc : List Int32}
theorem rX_me (sc : List Int32) {v : (Int × Int) × (Int × Int) × Int} (hv : v ∈ rVs) : nMe sc 18 (rC 7 0 v.1 v.2.1 v.2.2 rMx) := aCk_ok (dm := 9) (List.forall_mem_cons.mpr ⟨(kM0 sc).mono (by decide), List.forall_mem_cons.mpr ⟨(kM1 sc).mono (by decide), List.forall_mem_cons.mpr ⟨(kM2 sc).mono (by decide), List.forall_mem_cons.mpr ⟨(kM3 sc).mono (by decide), List.forall_mem_cons.mpr ⟨(kM4 sc).mono (by decide), List.forall_mem_cons.mpr ⟨(kM5 sc).mono (by decide), List.forall_mem_nil _⟩⟩⟩⟩⟩⟩) (List.all_eq_true.mp rX_all v hv)
theorem rM_me (sc : List Int32) {v : (Int × Int) × (Int × Int) × Int} (hv : v ∈ rVs) : nMe sc 18 (rC 125 53 v.1 v.2.1 v.2.2 rMm) := aCk_ok (dm := 9) (List.forall_mem_nil _) (List.all_eq_true.mp rM_all v hv)
theorem rC_ok {k a : Nat} {r n : Int × Int} {z : Int} {ms : aMd} {t : mM} {D : Nat} {x y : Int32} {h : mH} (hm : nMe sc 18 (rC k a r n z ms)) (ht : mTab[k]? = some t) (hx : mMX t = 4) (hr1 : r.1 ≤ x.toInt) (hr2 : x.toInt ≤ r.2) (hn1 : n.1 ≤ y.toInt) (hn2 : y.toInt ≤ n.2) (hh : aHp h) (hD : 18 ≤ D) : ∃ h1, nEv sc D k [.ref a, .int x, .int y] h (some (.int (Int32.ofInt z)), h1) ∧ aHp h1 ∧ nFr ms h h1 := by
  have hO : aOk (fun j => if j = 0 then x.toInt else y.toInt) (rC k a r n z ms).2.1.1 (aEv (fun j => if j = 0 then x.toInt else y.toInt) (rBig, []) + aKap * aPh h) h := by
    refine ⟨?_, ⟨fun c hc => absurd hc (by simp [rC]), ⟨fun g hg => absurd hg (by simp [rC]), fun t ht => absurd ht (by simp [rC]), Int.le_refl _⟩⟩⟩
    intro j q hj
    match j, hj with
    | 0, hj => cases hj; exact ⟨hr1, hr2⟩
    | 1, hj => cases hj; exact ⟨hn1, hn2⟩
    | j + 2, hj => simp [rC] at hj
  have hF : nMf (rC k a r n z ms).2.1.1.1.length (fun j => if j = 0 then x.toInt else y.toInt) (rC k a r n z ms).2.1.2.1 [((rC k a r n z ms).1, 0, mEntL (mMX t) [.ref a, .int x, .int y], [])] := by
    refine ⟨⟨rfl, rfl, ?_, trivial⟩, trivial⟩
    rw [hx]
    refine ⟨rfl, fun j v hj hv => ?_⟩
    match j, hj with
    | 0, hj => cases hj; exact ⟨_, rfl, aK_wf _ 0, rfl⟩
    | 1, hj => cases hj; exact ⟨_, rfl, aVr_wf (show (0 : Nat) < 2 by decide), x, rfl, by show x.toInt = aEv _ (aVr 0); rw [aVr_ev]; rfl⟩
    | 2, hj => cases hj; exact ⟨_, rfl, aVr_wf (show (1 : Nat) < 2 by decide), y, rfl, by show y.toInt = aEv _ (aVr 1); rw [aVr_ev]; rfl⟩
    | 3, hj => cases hj; exact absurd hv (by decide)
    | j + 4, hj => simp [rC] at hj
  obtain ⟨r0, q1, q2, q3, q4⟩ := hm h [.ref a, .int x, .int y] _ _ t ht hh hO hF D hD
  obtain ⟨w, e1, u, e2, e3, e4⟩ := q4
  obtain ⟨r1, h1⟩ := r0
  have e1 : r1 = some w := e1
  have e3 : z ≤ u.toInt := e3
  have e4 : u.toInt ≤ z := e4
  have e5 : u = Int32.ofInt z := aI_of (by omega)
  subst e1 e2 e5
  exact ⟨h1, q1, q2, q3⟩
theorem rVs_in (x y : Int32) : ∃ v ∈ rVs, (v.1.1 ≤ x.toInt ∧ x.toInt ≤ v.1.2) ∧ v.2.1.1 ≤ y.toInt ∧ y.toInt ≤ v.2.1.2 := by
  have hx := aI_rg x
  have hy := aI_rg y
  unfold rVs
  by_cases h1 : x.toInt < 0
  · exact ⟨((aMi, -1), (aMi, aMa), -1), List.mem_append_left _ (by simp), ⟨hx.1, by show x.toInt ≤ -1; omega⟩, hy⟩
  · by_cases h2 : 5 < x.toInt
    · exact ⟨((6, aMa), (aMi, aMa), -1), List.mem_append_left _ (by simp), ⟨by show 6 ≤ x.toInt; omega, hx.2⟩, hy⟩
    · by_cases h3 : 40 < y.toInt
      · exact ⟨((0, 5), (41, aMa), -1), List.mem_append_left _ (by simp), ⟨by show 0 ≤ x.toInt; omega, by show x.toInt ≤ 5; omega⟩, by show 41 ≤ y.toInt; omega, hy.2⟩
      · by_cases h4 : y.toInt < 0
        · exact ⟨((0, 5), (aMi, -1), -3), List.mem_append_left _ (by simp), ⟨by show 0 ≤ x.toInt; omega, by show x.toInt ≤ 5; omega⟩, hy.1, by show y.toInt ≤ -1; omega⟩
        · refine ⟨((0, 5), (((y.toInt.toNat : Nat) : Int), ((y.toInt.toNat : Nat) : Int)), ((y.toInt.toNat : Nat) : Int)), List.mem_append_right _ (List.mem_map.mpr ⟨y.toInt.toNat, List.mem_range.mpr (show y.toInt.toNat < 41 by omega), rfl⟩), ⟨by show 0 ≤ x.toInt; omega, by show x.toInt ≤ 5; omega⟩, by show ((y.toInt.toNat : Nat) : Int) ≤ y.toInt; omega, by show y.toInt ≤ ((y.toInt.toNat : Nat) : Int); omega⟩
def rEx : List (Nat × List lV) := [(7, [(1, 0), (4, 1), (4, 2)]), (125, [(2, 0), (4, 1), (4, 2)])]
theorem rEx_ok {D i : Nat} (hD : 18 ≤ D) : ∃ z0, ∀ p ∈ rEx, ∀ av h, aHp h → lSk sc i z0 p.2 av → ∃ h1, nEv sc D p.1 av h (some (.int z0), h1) ∧ aHp h1 := by
  obtain ⟨v, v1, ⟨v2, v3⟩, v4, v5⟩ := rVs_in (sc.getD (i + 1) 0) (sc.getD (i + 2) 0)
  refine ⟨Int32.ofInt v.2.2, fun p hp av h hh hs => ?_⟩
  rcases List.mem_cons.mp hp with rfl | hp
  · obtain ⟨w1, t1, rfl, s1, s2⟩ := hs.cons
    obtain ⟨w2, t2, rfl, s3, s4⟩ := s2.cons
    obtain ⟨w3, t3, rfl, s5, s6⟩ := s4.cons
    match t3, s6 with
    | [], _ =>
      have s1 : w1 = .ref 0 := s1
      have s3 : w2 = .int (sc.getD (i + 1) 0) := s3
      have s5 : w3 = .int (sc.getD (i + 2) 0) := s5
      subst s1 s3 s5
      obtain ⟨h1, a1, a2, -⟩ := rC_ok (t := mMe7) (rX_me sc v1) rfl rfl v2 v3 v4 v5 hh hD
      exact ⟨h1, a1, a2⟩
    | _ :: _, s6 => exact s6.elim
  · rcases List.mem_cons.mp hp with rfl | hp
    · obtain ⟨w1, t1, rfl, s1, s2⟩ := hs.cons
      obtain ⟨w2, t2, rfl, s3, s4⟩ := s2.cons
      obtain ⟨w3, t3, rfl, s5, s6⟩ := s4.cons
      match t3, s6 with
      | [], _ =>
        have s1 : w1 = .ref 53 := s1
        have s3 : w2 = .int (sc.getD (i + 1) 0) := s3
        have s5 : w3 = .int (sc.getD (i + 2) 0) := s5
        subst s1 s3 s5
        obtain ⟨h1, a1, a2, -⟩ := rC_ok (t := mMe125) (rM_me sc v1) rfl rfl v2 v3 v4 v5 hh hD
        exact ⟨h1, a1, a2⟩
      | _ :: _, s6 => exact s6.elim
    · cases hp
set_option maxRecDepth 100000 in
theorem rGo : lGoAll pT rEx = true := by decide +kernel
/-- the goal -/
theorem mGoal_ok : mGoal := by
  intro sc hl
  obtain ⟨h0, p0, hst⟩ := lBegin (sc := sc) (D := 100) (by decide)
  obtain ⟨h1, p1, hr⟩ := lLoop (P := aHp) (T := pT) (ex := rEx) (dm := 81) (D := 100) (fun _ h => h) (pT_ok sc) (by decide) (fun _ _ _ _ _ hh _ => hh) (fun i _ => rEx_ok (by decide)) hl rGo 384 0 (by omega) (by omega) h0 p0
  obtain ⟨n0, hn⟩ := hst _ hr
  obtain ⟨s1, s2⟩ := aHp_sl p1
  exact ⟨100, n0, h1, by decide, hn n0 (Nat.le_refl _) n0 (Nat.le_refl _), s1, s2⟩
end ROW
