/-! mid, odds: the answers -/
theorem iC_ok {sc : List Int32} {c : aCt} {k a mx dm D : Nat} {B : aB} {t : mM} {h : mH} {xs : List Int32} (hm : nMe sc dm c) (e1 : c.1 = k) (e2 : c.2.1.1 = (B, [], [], (vBig, []))) (e3 : c.2.1.2.1 = [(k, 0, aEntL mx ((2, (0, []), a) :: vLs 0 xs.length), [])]) (ht : mTab[k]? = some t) (hx : mMX t = mx) (hn : xs.length ≤ B.length) (hB : vBd B xs) (hh : aHp h) (hD : dm ≤ D) : ∃ r0, nEv sc D k (.ref a :: xs.map Value.int) h r0 ∧ aHp r0.2 ∧ nFr c.2.2.2 h r0.2 ∧ nRes c.2.2.1 r0.1 := by
  have hO : aOk (vR xs) c.2.1.1 (aEv (vR xs) (vBig, []) + aKap * aPh h) h := by
    rw [e2]
    exact ⟨vBd_ok hB, fun c hc => absurd hc (by simp), fun g hg => absurd hg (by simp), fun t ht => absurd ht (by simp), Int.le_refl _⟩
  have hs : aSk B.length (vR xs) ((2, (0, []), a) :: vLs 0 xs.length) (.ref a :: xs.map Value.int) := by
    refine ⟨⟨aK_wf _ 0, rfl⟩, vLs_ok xs 0 (fun j x hj => ?_) (by omega)⟩
    show (xs.getD (0 + j) 0).toInt = x.toInt
    rw [Nat.zero_add, List.getD_eq_getElem?_getD, hj]
    rfl
  have hF : nMf c.2.1.1.1.length (vR xs) c.2.1.2.1 [(c.1, 0, mEntL (mMX t) (.ref a :: xs.map Value.int), [])] := by
    rw [e2, e3, hx, e1]
    exact ⟨⟨rfl, rfl, (aEntL_ok hs (by rw [List.all_cons, vLs_lt]; rfl)).1, trivial⟩, trivial⟩
  obtain ⟨r0, q1, q2, q3, q4⟩ := hm h (.ref a :: xs.map Value.int) _ _ t (by rw [e1]; exact ht) hh hO hF D hD
  rw [e1] at q1
  exact ⟨r0, q1, q2, q3, q4⟩
theorem iB3 {x y z l1 l2 l3 u1 u2 u3 : Int} (rx : sR x) (ry : sR y) (rz : sR z) (h1 : l1 ≤ x ∧ x ≤ u1) (h2 : l2 ≤ y ∧ y ≤ u2) (h3 : l3 ≤ z ∧ z ≤ u3) : vBd [(l1, u1), (l2, u2), (l3, u3)] [Int32.ofInt x, Int32.ofInt y, Int32.ofInt z] := by
  refine ⟨?_, ?_, ?_, trivial⟩
  · rw [sR_i rx]
    exact h1
  · rw [sR_i ry]
    exact h2
  · rw [sR_i rz]
    exact h3
section MID
variable {sc : List Int32} {d : Nat} {h : mH}
theorem fTellW {a p : Nat} {m : Int} (hh : aHp h) (ha : a < 6) (hp : p ≤ 12) (m1 : 1 ≤ m) (m9 : m ≤ 9) : ∃ g, nEv sc (d + 18) 104 [.ref 0, sI (a : Int), sI (p : Int), sI m] h (none, g) ∧ aHp g ∧ nFr kC214.2.2.2 h g := by
  obtain ⟨⟨r1, g⟩, q1, q2, q3, q4⟩ := iC_ok (D := d + 18) (t := mMe104) (xs := [Int32.ofInt (a : Int), Int32.ofInt (p : Int), Int32.ofInt m]) (kM214 sc) rfl rfl rfl rfl rfl (Nat.le_refl 3) (iB3 (by unfold sR aMi aMa; omega) (by unfold sR aMi aMa; omega) (by unfold sR aMi aMa; omega) (by omega) (by omega) (by omega)) hh (by omega)
  have e1 : r1 = none := q4
  subst e1
  exact ⟨g, q1, q2, q3⟩
theorem fWeigh {a p : Nat} {m : Int} (hh : aHp h) (ha : a < 6) (hp : p ≤ 12) (m1 : 0 ≤ m) (m9 : m ≤ 1) : ∃ g, nEv sc (d + 18) 209 [.ref 53, sI (a : Int), sI (p : Int), sI m] h (some (sI 1), g) ∧ aHp g ∧ nFr kC281.2.2.2 h g := by
  obtain ⟨⟨r1, g⟩, q1, q2, q3, q4⟩ := iC_ok (D := d + 18) (t := mMe209) (xs := [Int32.ofInt (a : Int), Int32.ofInt (p : Int), Int32.ofInt m]) (kM281 sc) rfl rfl rfl rfl rfl (Nat.le_refl 3) (iB3 (by unfold sR aMi aMa; omega) (by unfold sR aMi aMa; omega) (by unfold sR aMi aMa; omega) (by omega) (by omega) (by omega)) hh (by omega)
  obtain ⟨w, e1, u, e2, e3, e4⟩ := q4
  have e1 : r1 = some w := e1
  have e3 : (1 : Int) ≤ u.toInt := e3
  have e4 : u.toInt ≤ (1 : Int) := e4
  have e5 : u = Int32.ofInt 1 := aI_of (by omega)
  subst e1 e2 e5
  exact ⟨g, q1, q2, q3⟩
theorem fMidXb0 {a p : Int} (hh : aHp h) (ra : sR a) (rp : sR p) (hc : ¬ (0 ≤ a ∧ a < hI h 3 3)) : nEv sc (d + 3) 103 [.ref 0, sI a, sI p] h (some (sI (-1)), h) := by
  have gp := hI_rg hh xw_p
  unfold sR aMi aMa at ra rp
  refine nEv_of (t := mMe103) rfl ?_
  show nRn sc (d + 2) (mMT mMe103) (mMC mMe103) (0, [some (.ref 0), some (sI a), some (sI p)], [], h) _
  refine sP 1 (g1 := (1, [some (.ref 0), some (sI a), some (sI p)], [.ref 0], h)) rfl ?_
  refine s_get (a := 0) (j := 2) hh rfl ⟨_, rfl⟩ rfl rfl rfl (v := .ref 3) (hR_ok hh (by decide +kernel)) ?_
  refine sP 1 (g1 := (3, [some (.ref 0), some (sI a), some (sI p)], [sI a, .ref 3], h)) rfl ?_
  have ev1 := fHasX (sc := sc) (d := d + 1) (a := a) hh (by unfold sR aMi aMa; omega)
  rw [if_neg (by omega)] at ev1
  refine s_call (k := 35) (args := [.ref 3, sI a]) (st := []) (v := some (sI 0)) (h1 := h) rfl ⟨rfl, rfl⟩ rfl rfl rfl rfl (sRcv hh (a := 3) rfl rfl) rfl ev1 ?_
  refine s_ifc (q := .eq) (a := 0) rfl ⟨_, rfl⟩ rfl (by unfold sR aMi aMa; omega) (fun hc2 => ?_) (fun hc2 => ?_)
  · have hc2 : (0 : Int) = 0 := hc2
    refine sP 1 (g1 := (11, [some (.ref 0), some (sI a), some (sI p)], [sI ((-1))], h)) rfl ?_
    exact s_reti rfl rfl (Or.inl rfl) rfl rfl
  · have hc2 : ¬ ((0 : Int) = 0) := hc2
    omega
theorem fMidXb1 {a p : Int} (hh : aHp h) (ra : sR a) (rp : sR p) (hc : (0 ≤ a ∧ a < hI h 3 3) ∧ ¬ (0 ≤ p ∧ p ≤ 12)) : nEv sc (d + 3) 103 [.ref 0, sI a, sI p] h (some (sI (-1)), h) := by
  have gp := hI_rg hh xw_p
  unfold sR aMi aMa at ra rp
  refine nEv_of (t := mMe103) rfl ?_
  show nRn sc (d + 2) (mMT mMe103) (mMC mMe103) (0, [some (.ref 0), some (sI a), some (sI p)], [], h) _
  refine sP 1 (g1 := (1, [some (.ref 0), some (sI a), some (sI p)], [.ref 0], h)) rfl ?_
  refine s_get (a := 0) (j := 2) hh rfl ⟨_, rfl⟩ rfl rfl rfl (v := .ref 3) (hR_ok hh (by decide +kernel)) ?_
  refine sP 1 (g1 := (3, [some (.ref 0), some (sI a), some (sI p)], [sI a, .ref 3], h)) rfl ?_
  have ev1 := fHasX (sc := sc) (d := d + 1) (a := a) hh (by unfold sR aMi aMa; omega)
  rw [if_pos (by omega)] at ev1
  refine s_call (k := 35) (args := [.ref 3, sI a]) (st := []) (v := some (sI 1)) (h1 := h) rfl ⟨rfl, rfl⟩ rfl rfl rfl rfl (sRcv hh (a := 3) rfl rfl) rfl ev1 ?_
  refine s_ifc (q := .eq) (a := 1) rfl ⟨_, rfl⟩ rfl (by unfold sR aMi aMa; omega) (fun hc2 => ?_) (fun hc2 => ?_)
  · have hc2 : (1 : Int) = 0 := hc2
    omega
  · have hc2 : ¬ ((1 : Int) = 0) := hc2
    refine sP 1 (g1 := (6, [some (.ref 0), some (sI a), some (sI p)], [sI p], h)) rfl ?_
    refine s_ifc (q := .lt) (a := p) rfl ⟨_, rfl⟩ rfl (by unfold sR aMi aMa; omega) (fun hc3 => ?_) (fun hc3 => ?_)
    · have hc3 : (p : Int) < 0 := hc3
      refine sP 1 (g1 := (11, [some (.ref 0), some (sI a), some (sI p)], [sI ((-1))], h)) rfl ?_
      exact s_reti rfl rfl (Or.inl rfl) rfl rfl
    · have hc3 : ¬ ((p : Int) < 0) := hc3
      refine sP 2 (g1 := (9, [some (.ref 0), some (sI a), some (sI p)], [sI 12, sI p], h)) rfl ?_
      refine s_icmp (q := .le) (a := p) (b := 12) rfl ⟨_, rfl⟩ rfl (by unfold sR aMi aMa; omega) (by unfold sR aMi aMa; omega) (fun hc4 => ?_) (fun hc4 => ?_)
      · have hc4 : (p : Int) ≤ 12 := hc4
        omega
      · have hc4 : ¬ ((p : Int) ≤ 12) := hc4
        refine sP 1 (g1 := (11, [some (.ref 0), some (sI a), some (sI p)], [sI ((-1))], h)) rfl ?_
        exact s_reti rfl rfl (Or.inl rfl) rfl rfl
theorem fMidXs {a p u : Nat} (hh : aHp h) (hu : hI h 3 4 = (u : Int)) (ha : (a : Int) < hI h 3 3) (hp : p ≤ 12) (hb : ¬ bt u a = true) : nEv sc (d + 3) 103 [.ref 0, sI (a : Int), sI (p : Int)] h (some (sI (-4)), h) := by
  have gp := hI_rg hh xw_p
  have gu := hI_rg hh xw_u
  have vi := fIsIn (sc := sc) (d := d + 1) (h := h) (s := u) (a := a) (by omega) (by omega)
  rw [if_neg hb] at vi
  refine nEv_of (t := mMe103) rfl ?_
  show nRn sc (d + 2) (mMT mMe103) (mMC mMe103) (0, [some (.ref 0), some (sI ((a : Int))), some (sI ((p : Int)))], [], h) _
  refine sP 1 (g1 := (1, [some (.ref 0), some (sI ((a : Int))), some (sI ((p : Int)))], [.ref 0], h)) rfl ?_
  refine s_get (a := 0) (j := 2) hh rfl ⟨_, rfl⟩ rfl rfl rfl (v := .ref 3) (hR_ok hh (by decide +kernel)) ?_
  refine sP 1 (g1 := (3, [some (.ref 0), some (sI ((a : Int))), some (sI ((p : Int)))], [sI ((a : Int)), .ref 3], h)) rfl ?_
  have ev1 := fHasX (sc := sc) (d := d + 1) (a := (a : Int)) hh (by unfold sR aMi aMa; omega)
  rw [if_pos (by omega)] at ev1
  refine s_call (k := 35) (args := [.ref 3, sI ((a : Int))]) (st := []) (v := some (sI 1)) (h1 := h) rfl ⟨rfl, rfl⟩ rfl rfl rfl rfl (sRcv hh (a := 3) rfl rfl) rfl ev1 ?_
  refine s_ifc (q := .eq) (a := 1) rfl ⟨_, rfl⟩ rfl (by unfold sR aMi aMa; omega) (fun hc2 => ?_) (fun hc2 => ?_)
  · have hc2 : (1 : Int) = 0 := hc2
    omega
  · have hc2 : ¬ ((1 : Int) = 0) := hc2
    refine sP 1 (g1 := (6, [some (.ref 0), some (sI ((a : Int))), some (sI ((p : Int)))], [sI ((p : Int))], h)) rfl ?_
    refine s_ifc (q := .lt) (a := (p : Int)) rfl ⟨_, rfl⟩ rfl (by unfold sR aMi aMa; omega) (fun hc3 => ?_) (fun hc3 => ?_)
    · have hc3 : (((p : Int)) : Int) < 0 := hc3
      omega
    · have hc3 : ¬ ((((p : Int)) : Int) < 0) := hc3
      refine sP 2 (g1 := (9, [some (.ref 0), some (sI ((a : Int))), some (sI ((p : Int)))], [sI 12, sI ((p : Int))], h)) rfl ?_
      refine s_icmp (q := .le) (a := (p : Int)) (b := 12) rfl ⟨_, rfl⟩ rfl (by unfold sR aMi aMa; omega) (by unfold sR aMi aMa; omega) (fun hc4 => ?_) (fun hc4 => ?_)
      · have hc4 : (((p : Int)) : Int) ≤ 12 := hc4
        refine sP 1 (g1 := (13, [some (.ref 0), some (sI ((a : Int))), some (sI ((p : Int)))], [.ref 0], h)) rfl ?_
        refine s_get (a := 0) (j := 2) hh rfl ⟨_, rfl⟩ rfl rfl rfl (v := .ref 3) (hR_ok hh (by decide +kernel)) ?_
        refine s_get (a := 3) (j := 4) hh rfl ⟨_, rfl⟩ rfl rfl rfl (v := sI ((u : Int))) (by have q := hI_ok hh xw_u; rw [hu] at q; exact q) ?_
        refine sP 1 (g1 := (16, [some (.ref 0), some (sI ((a : Int))), some (sI ((p : Int)))], [sI ((a : Int)), sI ((u : Int))], h)) rfl ?_
        refine s_call (k := 39) (args := [sI ((u : Int)), sI ((a : Int))]) (st := []) (v := some (sI 0)) (h1 := h) rfl ⟨rfl, rfl⟩ rfl rfl rfl rfl rfl rfl vi ?_
        refine s_ifc (q := .ne) (a := 0) rfl ⟨_, rfl⟩ rfl (by unfold sR aMi aMa; omega) (fun hc5 => ?_) (fun hc5 => ?_)
        · have hc5 : (0 : Int) ≠ 0 := hc5
          omega
        · have hc5 : ¬ ((0 : Int) ≠ 0) := hc5
          refine sP 1 (g1 := (19, [some (.ref 0), some (sI ((a : Int))), some (sI ((p : Int)))], [sI ((-4))], h)) rfl ?_
          exact s_reti rfl rfl (Or.inl rfl) rfl rfl
      · have hc4 : ¬ ((((p : Int)) : Int) ≤ 12) := hc4
        omega
theorem fMidX {a p u : Nat} (hh : aHp h) (hu : hI h 3 4 = (u : Int)) (ha : (a : Int) < hI h 3 3) (hp : p ≤ 12) (hb : bt u a = true) : ∃ g, nEv sc (d + 19) 103 [.ref 0, sI (a : Int), sI (p : Int)] h (some (sI 1), g) ∧ aHp g ∧ nFr kC214.2.2.2 h g := by
  have gp := hI_rg hh xw_p
  have gu := hI_rg hh xw_u
  have vi := fIsIn (sc := sc) (d := d + 17) (h := h) (s := u) (a := a) (by omega) (by omega)
  rw [if_pos hb] at vi
  obtain ⟨g, eg, hg, fg⟩ := fTellW (sc := sc) (d := d) (a := a) (p := p) (m := 9) hh (by omega) hp (by omega) (by omega)
  refine ⟨g, ?_, hg, fg⟩
  refine nEv_of (t := mMe103) rfl ?_
  show nRn sc (d + 18) (mMT mMe103) (mMC mMe103) (0, [some (.ref 0), some (sI ((a : Int))), some (sI ((p : Int)))], [], h) _
  refine sP 1 (g1 := (1, [some (.ref 0), some (sI ((a : Int))), some (sI ((p : Int)))], [.ref 0], h)) rfl ?_
  refine s_get (a := 0) (j := 2) hh rfl ⟨_, rfl⟩ rfl rfl rfl (v := .ref 3) (hR_ok hh (by decide +kernel)) ?_
  refine sP 1 (g1 := (3, [some (.ref 0), some (sI ((a : Int))), some (sI ((p : Int)))], [sI ((a : Int)), .ref 3], h)) rfl ?_
  have ev1 := fHasX (sc := sc) (d := d + 17) (a := (a : Int)) hh (by unfold sR aMi aMa; omega)
  rw [if_pos (by omega)] at ev1
  refine s_call (k := 35) (args := [.ref 3, sI ((a : Int))]) (st := []) (v := some (sI 1)) (h1 := h) rfl ⟨rfl, rfl⟩ rfl rfl rfl rfl (sRcv hh (a := 3) rfl rfl) rfl ev1 ?_
  refine s_ifc (q := .eq) (a := 1) rfl ⟨_, rfl⟩ rfl (by unfold sR aMi aMa; omega) (fun hc2 => ?_) (fun hc2 => ?_)
  · have hc2 : (1 : Int) = 0 := hc2
    omega
  · have hc2 : ¬ ((1 : Int) = 0) := hc2
    refine sP 1 (g1 := (6, [some (.ref 0), some (sI ((a : Int))), some (sI ((p : Int)))], [sI ((p : Int))], h)) rfl ?_
    refine s_ifc (q := .lt) (a := (p : Int)) rfl ⟨_, rfl⟩ rfl (by unfold sR aMi aMa; omega) (fun hc3 => ?_) (fun hc3 => ?_)
    · have hc3 : (((p : Int)) : Int) < 0 := hc3
      omega
    · have hc3 : ¬ ((((p : Int)) : Int) < 0) := hc3
      refine sP 2 (g1 := (9, [some (.ref 0), some (sI ((a : Int))), some (sI ((p : Int)))], [sI 12, sI ((p : Int))], h)) rfl ?_
      refine s_icmp (q := .le) (a := (p : Int)) (b := 12) rfl ⟨_, rfl⟩ rfl (by unfold sR aMi aMa; omega) (by unfold sR aMi aMa; omega) (fun hc4 => ?_) (fun hc4 => ?_)
      · have hc4 : (((p : Int)) : Int) ≤ 12 := hc4
        refine sP 1 (g1 := (13, [some (.ref 0), some (sI ((a : Int))), some (sI ((p : Int)))], [.ref 0], h)) rfl ?_
        refine s_get (a := 0) (j := 2) hh rfl ⟨_, rfl⟩ rfl rfl rfl (v := .ref 3) (hR_ok hh (by decide +kernel)) ?_
        refine s_get (a := 3) (j := 4) hh rfl ⟨_, rfl⟩ rfl rfl rfl (v := sI ((u : Int))) (by have q := hI_ok hh xw_u; rw [hu] at q; exact q) ?_
        refine sP 1 (g1 := (16, [some (.ref 0), some (sI ((a : Int))), some (sI ((p : Int)))], [sI ((a : Int)), sI ((u : Int))], h)) rfl ?_
        refine s_call (k := 39) (args := [sI ((u : Int)), sI ((a : Int))]) (st := []) (v := some (sI 1)) (h1 := h) rfl ⟨rfl, rfl⟩ rfl rfl rfl rfl rfl rfl vi ?_
        refine s_ifc (q := .ne) (a := 1) rfl ⟨_, rfl⟩ rfl (by unfold sR aMi aMa; omega) (fun hc5 => ?_) (fun hc5 => ?_)
        · have hc5 : (1 : Int) ≠ 0 := hc5
          refine sP 4 (g1 := (24, [some (.ref 0), some (sI ((a : Int))), some (sI ((p : Int)))], [sI 9, sI ((p : Int)), sI ((a : Int)), .ref 0], h)) rfl ?_
          refine s_call (k := 104) (args := [.ref 0, sI ((a : Int)), sI ((p : Int)), sI 9]) (st := []) (v := none) (h1 := g) rfl ⟨rfl, rfl⟩ rfl rfl rfl rfl (sRcv hh (a := 0) rfl rfl) rfl eg ?_
          refine sP 1 (g1 := (26, [some (.ref 0), some (sI ((a : Int))), some (sI ((p : Int)))], [sI 1], g)) rfl ?_
          exact s_reti rfl rfl (Or.inl rfl) rfl rfl
        · have hc5 : ¬ ((1 : Int) ≠ 0) := hc5
          omega
      · have hc4 : ¬ ((((p : Int)) : Int) ≤ 12) := hc4
        omega
theorem fOddsXb0 {a p : Int} (hh : aHp h) (ra : sR a) (rp : sR p) (hc : ¬ (0 ≤ a ∧ a < hI h 3 3)) : nEv sc (d + 3) 107 [.ref 0, sI a, sI p] h (some (sI (-1)), h) := by
  have gp := hI_rg hh xw_p
  unfold sR aMi aMa at ra rp
  refine nEv_of (t := mMe107) rfl ?_
  show nRn sc (d + 2) (mMT mMe107) (mMC mMe107) (0, [some (.ref 0), some (sI a), some (sI p)], [], h) _
  refine sP 1 (g1 := (1, [some (.ref 0), some (sI a), some (sI p)], [.ref 0], h)) rfl ?_
  refine s_get (a := 0) (j := 2) hh rfl ⟨_, rfl⟩ rfl rfl rfl (v := .ref 3) (hR_ok hh (by decide +kernel)) ?_
  refine sP 1 (g1 := (3, [some (.ref 0), some (sI a), some (sI p)], [sI a, .ref 3], h)) rfl ?_
  have ev1 := fHasX (sc := sc) (d := d + 1) (a := a) hh (by unfold sR aMi aMa; omega)
  rw [if_neg (by omega)] at ev1
  refine s_call (k := 35) (args := [.ref 3, sI a]) (st := []) (v := some (sI 0)) (h1 := h) rfl ⟨rfl, rfl⟩ rfl rfl rfl rfl (sRcv hh (a := 3) rfl rfl) rfl ev1 ?_
  refine s_ifc (q := .eq) (a := 0) rfl ⟨_, rfl⟩ rfl (by unfold sR aMi aMa; omega) (fun hc2 => ?_) (fun hc2 => ?_)
  · have hc2 : (0 : Int) = 0 := hc2
    refine sP 1 (g1 := (11, [some (.ref 0), some (sI a), some (sI p)], [sI ((-1))], h)) rfl ?_
    exact s_reti rfl rfl (Or.inl rfl) rfl rfl
  · have hc2 : ¬ ((0 : Int) = 0) := hc2
    omega
theorem fOddsXb1 {a p : Int} (hh : aHp h) (ra : sR a) (rp : sR p) (hc : (0 ≤ a ∧ a < hI h 3 3) ∧ ¬ (0 ≤ p ∧ p ≤ 12)) : nEv sc (d + 3) 107 [.ref 0, sI a, sI p] h (some (sI (-1)), h) := by
  have gp := hI_rg hh xw_p
  unfold sR aMi aMa at ra rp
  refine nEv_of (t := mMe107) rfl ?_
  show nRn sc (d + 2) (mMT mMe107) (mMC mMe107) (0, [some (.ref 0), some (sI a), some (sI p)], [], h) _
  refine sP 1 (g1 := (1, [some (.ref 0), some (sI a), some (sI p)], [.ref 0], h)) rfl ?_
  refine s_get (a := 0) (j := 2) hh rfl ⟨_, rfl⟩ rfl rfl rfl (v := .ref 3) (hR_ok hh (by decide +kernel)) ?_
  refine sP 1 (g1 := (3, [some (.ref 0), some (sI a), some (sI p)], [sI a, .ref 3], h)) rfl ?_
  have ev1 := fHasX (sc := sc) (d := d + 1) (a := a) hh (by unfold sR aMi aMa; omega)
  rw [if_pos (by omega)] at ev1
  refine s_call (k := 35) (args := [.ref 3, sI a]) (st := []) (v := some (sI 1)) (h1 := h) rfl ⟨rfl, rfl⟩ rfl rfl rfl rfl (sRcv hh (a := 3) rfl rfl) rfl ev1 ?_
  refine s_ifc (q := .eq) (a := 1) rfl ⟨_, rfl⟩ rfl (by unfold sR aMi aMa; omega) (fun hc2 => ?_) (fun hc2 => ?_)
  · have hc2 : (1 : Int) = 0 := hc2
    omega
  · have hc2 : ¬ ((1 : Int) = 0) := hc2
    refine sP 1 (g1 := (6, [some (.ref 0), some (sI a), some (sI p)], [sI p], h)) rfl ?_
    refine s_ifc (q := .lt) (a := p) rfl ⟨_, rfl⟩ rfl (by unfold sR aMi aMa; omega) (fun hc3 => ?_) (fun hc3 => ?_)
    · have hc3 : (p : Int) < 0 := hc3
      refine sP 1 (g1 := (11, [some (.ref 0), some (sI a), some (sI p)], [sI ((-1))], h)) rfl ?_
      exact s_reti rfl rfl (Or.inl rfl) rfl rfl
    · have hc3 : ¬ ((p : Int) < 0) := hc3
      refine sP 2 (g1 := (9, [some (.ref 0), some (sI a), some (sI p)], [sI 12, sI p], h)) rfl ?_
      refine s_icmp (q := .le) (a := p) (b := 12) rfl ⟨_, rfl⟩ rfl (by unfold sR aMi aMa; omega) (by unfold sR aMi aMa; omega) (fun hc4 => ?_) (fun hc4 => ?_)
      · have hc4 : (p : Int) ≤ 12 := hc4
        omega
      · have hc4 : ¬ ((p : Int) ≤ 12) := hc4
        refine sP 1 (g1 := (11, [some (.ref 0), some (sI a), some (sI p)], [sI ((-1))], h)) rfl ?_
        exact s_reti rfl rfl (Or.inl rfl) rfl rfl
theorem fOddsXs {a p u : Nat} (hh : aHp h) (hu : hI h 3 4 = (u : Int)) (ha : (a : Int) < hI h 3 3) (hp : p ≤ 12) (hb : ¬ bt u a = true) : nEv sc (d + 3) 107 [.ref 0, sI (a : Int), sI (p : Int)] h (some (sI (-4)), h) := by
  have gp := hI_rg hh xw_p
  have gu := hI_rg hh xw_u
  have vi := fIsIn (sc := sc) (d := d + 1) (h := h) (s := u) (a := a) (by omega) (by omega)
  rw [if_neg hb] at vi
  refine nEv_of (t := mMe107) rfl ?_
  show nRn sc (d + 2) (mMT mMe107) (mMC mMe107) (0, [some (.ref 0), some (sI ((a : Int))), some (sI ((p : Int)))], [], h) _
  refine sP 1 (g1 := (1, [some (.ref 0), some (sI ((a : Int))), some (sI ((p : Int)))], [.ref 0], h)) rfl ?_
  refine s_get (a := 0) (j := 2) hh rfl ⟨_, rfl⟩ rfl rfl rfl (v := .ref 3) (hR_ok hh (by decide +kernel)) ?_
  refine sP 1 (g1 := (3, [some (.ref 0), some (sI ((a : Int))), some (sI ((p : Int)))], [sI ((a : Int)), .ref 3], h)) rfl ?_
  have ev1 := fHasX (sc := sc) (d := d + 1) (a := (a : Int)) hh (by unfold sR aMi aMa; omega)
  rw [if_pos (by omega)] at ev1
  refine s_call (k := 35) (args := [.ref 3, sI ((a : Int))]) (st := []) (v := some (sI 1)) (h1 := h) rfl ⟨rfl, rfl⟩ rfl rfl rfl rfl (sRcv hh (a := 3) rfl rfl) rfl ev1 ?_
  refine s_ifc (q := .eq) (a := 1) rfl ⟨_, rfl⟩ rfl (by unfold sR aMi aMa; omega) (fun hc2 => ?_) (fun hc2 => ?_)
  · have hc2 : (1 : Int) = 0 := hc2
    omega
  · have hc2 : ¬ ((1 : Int) = 0) := hc2
    refine sP 1 (g1 := (6, [some (.ref 0), some (sI ((a : Int))), some (sI ((p : Int)))], [sI ((p : Int))], h)) rfl ?_
    refine s_ifc (q := .lt) (a := (p : Int)) rfl ⟨_, rfl⟩ rfl (by unfold sR aMi aMa; omega) (fun hc3 => ?_) (fun hc3 => ?_)
    · have hc3 : (((p : Int)) : Int) < 0 := hc3
      omega
    · have hc3 : ¬ ((((p : Int)) : Int) < 0) := hc3
      refine sP 2 (g1 := (9, [some (.ref 0), some (sI ((a : Int))), some (sI ((p : Int)))], [sI 12, sI ((p : Int))], h)) rfl ?_
      refine s_icmp (q := .le) (a := (p : Int)) (b := 12) rfl ⟨_, rfl⟩ rfl (by unfold sR aMi aMa; omega) (by unfold sR aMi aMa; omega) (fun hc4 => ?_) (fun hc4 => ?_)
      · have hc4 : (((p : Int)) : Int) ≤ 12 := hc4
        refine sP 1 (g1 := (13, [some (.ref 0), some (sI ((a : Int))), some (sI ((p : Int)))], [.ref 0], h)) rfl ?_
        refine s_get (a := 0) (j := 2) hh rfl ⟨_, rfl⟩ rfl rfl rfl (v := .ref 3) (hR_ok hh (by decide +kernel)) ?_
        refine s_get (a := 3) (j := 4) hh rfl ⟨_, rfl⟩ rfl rfl rfl (v := sI ((u : Int))) (by have q := hI_ok hh xw_u; rw [hu] at q; exact q) ?_
        refine sP 1 (g1 := (16, [some (.ref 0), some (sI ((a : Int))), some (sI ((p : Int)))], [sI ((a : Int)), sI ((u : Int))], h)) rfl ?_
        refine s_call (k := 39) (args := [sI ((u : Int)), sI ((a : Int))]) (st := []) (v := some (sI 0)) (h1 := h) rfl ⟨rfl, rfl⟩ rfl rfl rfl rfl rfl rfl vi ?_
        refine s_ifc (q := .ne) (a := 0) rfl ⟨_, rfl⟩ rfl (by unfold sR aMi aMa; omega) (fun hc5 => ?_) (fun hc5 => ?_)
        · have hc5 : (0 : Int) ≠ 0 := hc5
          omega
        · have hc5 : ¬ ((0 : Int) ≠ 0) := hc5
          refine sP 1 (g1 := (19, [some (.ref 0), some (sI ((a : Int))), some (sI ((p : Int)))], [sI ((-4))], h)) rfl ?_
          exact s_reti rfl rfl (Or.inl rfl) rfl rfl
      · have hc4 : ¬ ((((p : Int)) : Int) ≤ 12) := hc4
        omega
theorem fOddsX {a p u : Nat} (hh : aHp h) (hu : hI h 3 4 = (u : Int)) (ha : (a : Int) < hI h 3 3) (hp : p ≤ 12) (hb : bt u a = true) : ∃ g, nEv sc (d + 19) 107 [.ref 0, sI (a : Int), sI (p : Int)] h (some (sI 1), g) ∧ aHp g ∧ nFr kC214.2.2.2 h g := by
  have gp := hI_rg hh xw_p
  have gu := hI_rg hh xw_u
  have vi := fIsIn (sc := sc) (d := d + 17) (h := h) (s := u) (a := a) (by omega) (by omega)
  rw [if_pos hb] at vi
  obtain ⟨g, eg, hg, fg⟩ := fTellW (sc := sc) (d := d) (a := a) (p := p) (m := 1) hh (by omega) hp (by omega) (by omega)
  refine ⟨g, ?_, hg, fg⟩
  refine nEv_of (t := mMe107) rfl ?_
  show nRn sc (d + 18) (mMT mMe107) (mMC mMe107) (0, [some (.ref 0), some (sI ((a : Int))), some (sI ((p : Int)))], [], h) _
  refine sP 1 (g1 := (1, [some (.ref 0), some (sI ((a : Int))), some (sI ((p : Int)))], [.ref 0], h)) rfl ?_
  refine s_get (a := 0) (j := 2) hh rfl ⟨_, rfl⟩ rfl rfl rfl (v := .ref 3) (hR_ok hh (by decide +kernel)) ?_
  refine sP 1 (g1 := (3, [some (.ref 0), some (sI ((a : Int))), some (sI ((p : Int)))], [sI ((a : Int)), .ref 3], h)) rfl ?_
  have ev1 := fHasX (sc := sc) (d := d + 17) (a := (a : Int)) hh (by unfold sR aMi aMa; omega)
  rw [if_pos (by omega)] at ev1
  refine s_call (k := 35) (args := [.ref 3, sI ((a : Int))]) (st := []) (v := some (sI 1)) (h1 := h) rfl ⟨rfl, rfl⟩ rfl rfl rfl rfl (sRcv hh (a := 3) rfl rfl) rfl ev1 ?_
  refine s_ifc (q := .eq) (a := 1) rfl ⟨_, rfl⟩ rfl (by unfold sR aMi aMa; omega) (fun hc2 => ?_) (fun hc2 => ?_)
  · have hc2 : (1 : Int) = 0 := hc2
    omega
  · have hc2 : ¬ ((1 : Int) = 0) := hc2
    refine sP 1 (g1 := (6, [some (.ref 0), some (sI ((a : Int))), some (sI ((p : Int)))], [sI ((p : Int))], h)) rfl ?_
    refine s_ifc (q := .lt) (a := (p : Int)) rfl ⟨_, rfl⟩ rfl (by unfold sR aMi aMa; omega) (fun hc3 => ?_) (fun hc3 => ?_)
    · have hc3 : (((p : Int)) : Int) < 0 := hc3
      omega
    · have hc3 : ¬ ((((p : Int)) : Int) < 0) := hc3
      refine sP 2 (g1 := (9, [some (.ref 0), some (sI ((a : Int))), some (sI ((p : Int)))], [sI 12, sI ((p : Int))], h)) rfl ?_
      refine s_icmp (q := .le) (a := (p : Int)) (b := 12) rfl ⟨_, rfl⟩ rfl (by unfold sR aMi aMa; omega) (by unfold sR aMi aMa; omega) (fun hc4 => ?_) (fun hc4 => ?_)
      · have hc4 : (((p : Int)) : Int) ≤ 12 := hc4
        refine sP 1 (g1 := (13, [some (.ref 0), some (sI ((a : Int))), some (sI ((p : Int)))], [.ref 0], h)) rfl ?_
        refine s_get (a := 0) (j := 2) hh rfl ⟨_, rfl⟩ rfl rfl rfl (v := .ref 3) (hR_ok hh (by decide +kernel)) ?_
        refine s_get (a := 3) (j := 4) hh rfl ⟨_, rfl⟩ rfl rfl rfl (v := sI ((u : Int))) (by have q := hI_ok hh xw_u; rw [hu] at q; exact q) ?_
        refine sP 1 (g1 := (16, [some (.ref 0), some (sI ((a : Int))), some (sI ((p : Int)))], [sI ((a : Int)), sI ((u : Int))], h)) rfl ?_
        refine s_call (k := 39) (args := [sI ((u : Int)), sI ((a : Int))]) (st := []) (v := some (sI 1)) (h1 := h) rfl ⟨rfl, rfl⟩ rfl rfl rfl rfl rfl rfl vi ?_
        refine s_ifc (q := .ne) (a := 1) rfl ⟨_, rfl⟩ rfl (by unfold sR aMi aMa; omega) (fun hc5 => ?_) (fun hc5 => ?_)
        · have hc5 : (1 : Int) ≠ 0 := hc5
          refine sP 4 (g1 := (24, [some (.ref 0), some (sI ((a : Int))), some (sI ((p : Int)))], [sI 1, sI ((p : Int)), sI ((a : Int)), .ref 0], h)) rfl ?_
          refine s_call (k := 104) (args := [.ref 0, sI ((a : Int)), sI ((p : Int)), sI 1]) (st := []) (v := none) (h1 := g) rfl ⟨rfl, rfl⟩ rfl rfl rfl rfl (sRcv hh (a := 0) rfl rfl) rfl eg ?_
          refine sP 1 (g1 := (26, [some (.ref 0), some (sI ((a : Int))), some (sI ((p : Int)))], [sI 1], g)) rfl ?_
          exact s_reti rfl rfl (Or.inl rfl) rfl rfl
        · have hc5 : ¬ ((1 : Int) ≠ 0) := hc5
          omega
      · have hc4 : ¬ ((((p : Int)) : Int) ≤ 12) := hc4
        omega
theorem fChanceMb0 {a p m : Int} (hh : aHp h) (ra : sR a) (rp : sR p) (rm : sR m) (hc : ¬ (0 ≤ a ∧ a < hI h 58 0)) : nEv sc (d + 3) 208 [.ref 53, sI a, sI p, sI m] h (some (sI (-1)), h) := by
  have gp := hI_rg hh nw_p
  unfold sR aMi aMa at ra rp rm
  refine nEv_of (t := mMe208) rfl ?_
  show nRn sc (d + 2) (mMT mMe208) (mMC mMe208) (0, [some (.ref 53), some (sI a), some (sI p), some (sI m)], [], h) _
  refine sP 2 (g1 := (2, [some (.ref 53), some (sI a), some (sI p), some (sI m)], [sI a, .ref 53], h)) rfl ?_
  have ev1 := fIsPerson (sc := sc) (d := d + 0) (a := a) hh (by unfold sR aMi aMa; omega)
  rw [if_neg (by omega)] at ev1
  refine s_call (k := 147) (args := [.ref 53, sI a]) (st := []) (v := some (sI 0)) (h1 := h) rfl ⟨rfl, rfl⟩ rfl rfl rfl rfl (sRcv hh (a := 53) rfl rfl) rfl ev1 ?_
  refine s_ifc (q := .eq) (a := 0) rfl ⟨_, rfl⟩ rfl (by unfold sR aMi aMa; omega) (fun hc2 => ?_) (fun hc2 => ?_)
  · have hc2 : (0 : Int) = 0 := hc2
    refine sP 1 (g1 := (11, [some (.ref 53), some (sI a), some (sI p), some (sI m)], [sI ((-1))], h)) rfl ?_
    exact s_reti rfl rfl (Or.inl rfl) rfl rfl
  · have hc2 : ¬ ((0 : Int) = 0) := hc2
    omega
theorem fChanceMb1 {a p m : Int} (hh : aHp h) (ra : sR a) (rp : sR p) (rm : sR m) (hc : (0 ≤ a ∧ a < hI h 58 0) ∧ ¬ (0 ≤ p ∧ p ≤ 12)) : nEv sc (d + 3) 208 [.ref 53, sI a, sI p, sI m] h (some (sI (-1)), h) := by
  have gp := hI_rg hh nw_p
  unfold sR aMi aMa at ra rp rm
  refine nEv_of (t := mMe208) rfl ?_
  show nRn sc (d + 2) (mMT mMe208) (mMC mMe208) (0, [some (.ref 53), some (sI a), some (sI p), some (sI m)], [], h) _
  refine sP 2 (g1 := (2, [some (.ref 53), some (sI a), some (sI p), some (sI m)], [sI a, .ref 53], h)) rfl ?_
  have ev1 := fIsPerson (sc := sc) (d := d + 0) (a := a) hh (by unfold sR aMi aMa; omega)
  rw [if_pos (by omega)] at ev1
  refine s_call (k := 147) (args := [.ref 53, sI a]) (st := []) (v := some (sI 1)) (h1 := h) rfl ⟨rfl, rfl⟩ rfl rfl rfl rfl (sRcv hh (a := 53) rfl rfl) rfl ev1 ?_
  refine s_ifc (q := .eq) (a := 1) rfl ⟨_, rfl⟩ rfl (by unfold sR aMi aMa; omega) (fun hc2 => ?_) (fun hc2 => ?_)
  · have hc2 : (1 : Int) = 0 := hc2
    omega
  · have hc2 : ¬ ((1 : Int) = 0) := hc2
    refine sP 1 (g1 := (5, [some (.ref 53), some (sI a), some (sI p), some (sI m)], [sI p], h)) rfl ?_
    refine s_i2l (a := p) rfl rfl (by unfold sR aMi aMa; omega) ?_
    refine sP 2 (g1 := (8, [some (.ref 53), some (sI a), some (sI p), some (sI m)], [sJ 12, sJ 0, sJ p], h)) rfl ?_
    have ev3 := fIn (sc := sc) (d := d + 1) (h := h) (a := p) (b := 0) (e := 12) (by omega) (by omega) (by omega) (by omega) (by omega) (by omega)
    rw [if_neg (by omega)] at ev3
    refine s_call (k := 127) (args := [sJ p, sJ 0, sJ 12]) (st := []) (v := some (sI 0)) (h1 := h) rfl ⟨rfl, rfl⟩ rfl rfl rfl rfl rfl rfl ev3 ?_
    refine s_ifc (q := .ne) (a := 0) rfl ⟨_, rfl⟩ rfl (by unfold sR aMi aMa; omega) (fun hc4 => ?_) (fun hc4 => ?_)
    · have hc4 : (0 : Int) ≠ 0 := hc4
      omega
    · have hc4 : ¬ ((0 : Int) ≠ 0) := hc4
      refine sP 1 (g1 := (11, [some (.ref 53), some (sI a), some (sI p), some (sI m)], [sI ((-1))], h)) rfl ?_
      exact s_reti rfl rfl (Or.inl rfl) rfl rfl
theorem fChanceMs {a p u : Nat} {m : Int} (hh : aHp h) (hu : hI h 58 43 = (u : Int)) (ha : (a : Int) < hI h 58 0) (hp : p ≤ 12) (hb : ¬ bt u a = true) : nEv sc (d + 3) 208 [.ref 53, sI (a : Int), sI (p : Int), sI m] h (some (sI (-4)), h) := by
  have gp := hI_rg hh nw_p
  have gu := hI_rg hh nw_u
  have vi := fHas (sc := sc) (d := d + 1) (h := h) (s := u) (a := a) (by omega) (by omega)
  rw [if_neg hb] at vi
  refine nEv_of (t := mMe208) rfl ?_
  show nRn sc (d + 2) (mMT mMe208) (mMC mMe208) (0, [some (.ref 53), some (sI ((a : Int))), some (sI ((p : Int))), some (sI m)], [], h) _
  refine sP 2 (g1 := (2, [some (.ref 53), some (sI ((a : Int))), some (sI ((p : Int))), some (sI m)], [sI ((a : Int)), .ref 53], h)) rfl ?_
  have ev1 := fIsPerson (sc := sc) (d := d + 0) (a := (a : Int)) hh (by unfold sR aMi aMa; omega)
  rw [if_pos (by omega)] at ev1
  refine s_call (k := 147) (args := [.ref 53, sI ((a : Int))]) (st := []) (v := some (sI 1)) (h1 := h) rfl ⟨rfl, rfl⟩ rfl rfl rfl rfl (sRcv hh (a := 53) rfl rfl) rfl ev1 ?_
  refine s_ifc (q := .eq) (a := 1) rfl ⟨_, rfl⟩ rfl (by unfold sR aMi aMa; omega) (fun hc2 => ?_) (fun hc2 => ?_)
  · have hc2 : (1 : Int) = 0 := hc2
    omega
  · have hc2 : ¬ ((1 : Int) = 0) := hc2
    refine sP 1 (g1 := (5, [some (.ref 53), some (sI ((a : Int))), some (sI ((p : Int))), some (sI m)], [sI ((p : Int))], h)) rfl ?_
    refine s_i2l (a := (p : Int)) rfl rfl (by unfold sR aMi aMa; omega) ?_
    refine sP 2 (g1 := (8, [some (.ref 53), some (sI ((a : Int))), some (sI ((p : Int))), some (sI m)], [sJ 12, sJ 0, sJ ((p : Int))], h)) rfl ?_
    have ev3 := fIn (sc := sc) (d := d + 1) (h := h) (a := (p : Int)) (b := 0) (e := 12) (by omega) (by omega) (by omega) (by omega) (by omega) (by omega)
    rw [if_pos (by omega)] at ev3
    refine s_call (k := 127) (args := [sJ ((p : Int)), sJ 0, sJ 12]) (st := []) (v := some (sI 1)) (h1 := h) rfl ⟨rfl, rfl⟩ rfl rfl rfl rfl rfl rfl ev3 ?_
    refine s_ifc (q := .ne) (a := 1) rfl ⟨_, rfl⟩ rfl (by unfold sR aMi aMa; omega) (fun hc4 => ?_) (fun hc4 => ?_)
    · have hc4 : (1 : Int) ≠ 0 := hc4
      refine sP 1 (g1 := (13, [some (.ref 53), some (sI ((a : Int))), some (sI ((p : Int))), some (sI m)], [.ref 53], h)) rfl ?_
      refine s_get (a := 53) (j := 4) hh rfl ⟨_, rfl⟩ rfl rfl rfl (v := .ref 58) (hR_ok hh (by decide +kernel)) ?_
      refine sP 1 (g1 := (15, [some (.ref 53), some (sI ((a : Int))), some (sI ((p : Int))), some (sI m)], [sI 43, .ref 58], h)) rfl ?_
      refine s_iald (a := 58) (n := 201) (j := 43) hh rfl rfl rfl (by omega) (by omega) (by decide) (v := sI ((u : Int))) (by have q := hI_ok hh nw_u; rw [hu] at q; exact q) ?_
      refine sP 1 (g1 := (17, [some (.ref 53), some (sI ((a : Int))), some (sI ((p : Int))), some (sI m)], [sI ((a : Int)), sI ((u : Int))], h)) rfl ?_
      refine s_call (k := 149) (args := [sI ((u : Int)), sI ((a : Int))]) (st := []) (v := some (sI 0)) (h1 := h) rfl ⟨rfl, rfl⟩ rfl rfl rfl rfl rfl rfl vi ?_
      refine s_ifc (q := .eq) (a := 0) rfl ⟨_, rfl⟩ rfl (by unfold sR aMi aMa; omega) (fun hc5 => ?_) (fun hc5 => ?_)
      · have hc5 : (0 : Int) = 0 := hc5
        refine sP 1 (g1 := (26, [some (.ref 53), some (sI ((a : Int))), some (sI ((p : Int))), some (sI m)], [sI ((-4))], h)) rfl ?_
        exact s_reti rfl rfl (Or.inl rfl) rfl rfl
      · have hc5 : ¬ ((0 : Int) = 0) := hc5
        omega
    · have hc4 : ¬ ((1 : Int) ≠ 0) := hc4
      omega
theorem fChanceM {a p u : Nat} {m : Int} (hh : aHp h) (hu : hI h 58 43 = (u : Int)) (ha : (a : Int) < hI h 58 0) (hp : p ≤ 12) (hb : bt u a = true) (m1 : 0 ≤ m) (m2 : m ≤ 1) : ∃ g, nEv sc (d + 19) 208 [.ref 53, sI (a : Int), sI (p : Int), sI m] h (some (sI 1), g) ∧ aHp g ∧ nFr kC281.2.2.2 h g := by
  have gp := hI_rg hh nw_p
  have gu := hI_rg hh nw_u
  have vi := fHas (sc := sc) (d := d + 17) (h := h) (s := u) (a := a) (by omega) (by omega)
  rw [if_pos hb] at vi
  obtain ⟨g, eg, hg, fg⟩ := fWeigh (sc := sc) (d := d) (a := a) (p := p) (m := m) hh (by omega) hp (by omega) (by omega)
  refine ⟨g, ?_, hg, fg⟩
  refine nEv_of (t := mMe208) rfl ?_
  show nRn sc (d + 18) (mMT mMe208) (mMC mMe208) (0, [some (.ref 53), some (sI ((a : Int))), some (sI ((p : Int))), some (sI m)], [], h) _
  refine sP 2 (g1 := (2, [some (.ref 53), some (sI ((a : Int))), some (sI ((p : Int))), some (sI m)], [sI ((a : Int)), .ref 53], h)) rfl ?_
  have ev1 := fIsPerson (sc := sc) (d := d + 16) (a := (a : Int)) hh (by unfold sR aMi aMa; omega)
  rw [if_pos (by omega)] at ev1
  refine s_call (k := 147) (args := [.ref 53, sI ((a : Int))]) (st := []) (v := some (sI 1)) (h1 := h) rfl ⟨rfl, rfl⟩ rfl rfl rfl rfl (sRcv hh (a := 53) rfl rfl) rfl ev1 ?_
  refine s_ifc (q := .eq) (a := 1) rfl ⟨_, rfl⟩ rfl (by unfold sR aMi aMa; omega) (fun hc2 => ?_) (fun hc2 => ?_)
  · have hc2 : (1 : Int) = 0 := hc2
    omega
  · have hc2 : ¬ ((1 : Int) = 0) := hc2
    refine sP 1 (g1 := (5, [some (.ref 53), some (sI ((a : Int))), some (sI ((p : Int))), some (sI m)], [sI ((p : Int))], h)) rfl ?_
    refine s_i2l (a := (p : Int)) rfl rfl (by unfold sR aMi aMa; omega) ?_
    refine sP 2 (g1 := (8, [some (.ref 53), some (sI ((a : Int))), some (sI ((p : Int))), some (sI m)], [sJ 12, sJ 0, sJ ((p : Int))], h)) rfl ?_
    have ev3 := fIn (sc := sc) (d := d + 17) (h := h) (a := (p : Int)) (b := 0) (e := 12) (by omega) (by omega) (by omega) (by omega) (by omega) (by omega)
    rw [if_pos (by omega)] at ev3
    refine s_call (k := 127) (args := [sJ ((p : Int)), sJ 0, sJ 12]) (st := []) (v := some (sI 1)) (h1 := h) rfl ⟨rfl, rfl⟩ rfl rfl rfl rfl rfl rfl ev3 ?_
    refine s_ifc (q := .ne) (a := 1) rfl ⟨_, rfl⟩ rfl (by unfold sR aMi aMa; omega) (fun hc4 => ?_) (fun hc4 => ?_)
    · have hc4 : (1 : Int) ≠ 0 := hc4
      refine sP 1 (g1 := (13, [some (.ref 53), some (sI ((a : Int))), some (sI ((p : Int))), some (sI m)], [.ref 53], h)) rfl ?_
      refine s_get (a := 53) (j := 4) hh rfl ⟨_, rfl⟩ rfl rfl rfl (v := .ref 58) (hR_ok hh (by decide +kernel)) ?_
      refine sP 1 (g1 := (15, [some (.ref 53), some (sI ((a : Int))), some (sI ((p : Int))), some (sI m)], [sI 43, .ref 58], h)) rfl ?_
      refine s_iald (a := 58) (n := 201) (j := 43) hh rfl rfl rfl (by omega) (by omega) (by decide) (v := sI ((u : Int))) (by have q := hI_ok hh nw_u; rw [hu] at q; exact q) ?_
      refine sP 1 (g1 := (17, [some (.ref 53), some (sI ((a : Int))), some (sI ((p : Int))), some (sI m)], [sI ((a : Int)), sI ((u : Int))], h)) rfl ?_
      refine s_call (k := 149) (args := [sI ((u : Int)), sI ((a : Int))]) (st := []) (v := some (sI 1)) (h1 := h) rfl ⟨rfl, rfl⟩ rfl rfl rfl rfl rfl rfl vi ?_
      refine s_ifc (q := .eq) (a := 1) rfl ⟨_, rfl⟩ rfl (by unfold sR aMi aMa; omega) (fun hc5 => ?_) (fun hc5 => ?_)
      · have hc5 : (1 : Int) = 0 := hc5
        omega
      · have hc5 : ¬ ((1 : Int) = 0) := hc5
        refine sP 4 (g1 := (23, [some (.ref 53), some (sI ((a : Int))), some (sI ((p : Int))), some (sI m)], [sI m, sI ((p : Int)), sI ((a : Int)), .ref 53], h)) rfl ?_
        refine s_call (k := 209) (args := [.ref 53, sI ((a : Int)), sI ((p : Int)), sI m]) (st := []) (v := some (sI 1)) (h1 := g) rfl ⟨rfl, rfl⟩ rfl rfl rfl rfl (sRcv hh (a := 53) rfl rfl) rfl eg ?_
        refine sP 1 (g1 := (26, [some (.ref 53), some (sI ((a : Int))), some (sI ((p : Int))), some (sI m)], [sI 1], g)) rfl ?_
        exact s_reti rfl rfl (Or.inl rfl) rfl rfl
    · have hc4 : ¬ ((1 : Int) ≠ 0) := hc4
      omega
theorem fMidM {r : Int} {g : mH} {a p : Int} (hh : aHp h) (ev : nEv sc d 208 [.ref 53, sI a, sI p, sI 1] h (some (sI r), g)) : nEv sc (d + 1) 207 [.ref 53, sI a, sI p] h (some (sI r), g) := by
  refine nEv_of (t := mMe207) rfl ?_
  show nRn sc (d) (mMT mMe207) (mMC mMe207) (0, [some (.ref 53), some (sI a), some (sI p)], [], h) _
  refine sP 4 (g1 := (4, [some (.ref 53), some (sI a), some (sI p)], [sI 1, sI p, sI a, .ref 53], h)) rfl ?_
  refine s_call (k := 208) (args := [.ref 53, sI a, sI p, sI 1]) (st := []) (v := some (sI r)) (h1 := g) rfl ⟨rfl, rfl⟩ rfl rfl rfl rfl (sRcv hh (a := 53) rfl rfl) rfl ev ?_
  exact s_reti rfl rfl (Or.inl rfl) rfl rfl
theorem fOddsM {r : Int} {g : mH} {a p : Int} (hh : aHp h) (ev : nEv sc d 208 [.ref 53, sI a, sI p, sI 0] h (some (sI r), g)) : nEv sc (d + 1) 211 [.ref 53, sI a, sI p] h (some (sI r), g) := by
  refine nEv_of (t := mMe211) rfl ?_
  show nRn sc (d) (mMT mMe211) (mMC mMe211) (0, [some (.ref 53), some (sI a), some (sI p)], [], h) _
  refine sP 4 (g1 := (4, [some (.ref 53), some (sI a), some (sI p)], [sI 0, sI p, sI a, .ref 53], h)) rfl ?_
  refine s_call (k := 208) (args := [.ref 53, sI a, sI p, sI 0]) (st := []) (v := some (sI r)) (h1 := g) rfl ⟨rfl, rfl⟩ rfl rfl rfl rfl (sRcv hh (a := 53) rfl rfl) rfl ev ?_
  exact s_reti rfl rfl (Or.inl rfl) rfl rfl
end MID
theorem wMid {sc : List Int32} {h : mH} (x y : Int32) (hp : wP h) : ∃ z1 h1 z2 h2, nEv sc 100 103 (.ref 0 :: [x, y].map Value.int) h (some (.int z1), h1) ∧ aHp h1 ∧ nEv sc 100 207 (.ref 53 :: [x, y].map Value.int) h1 (some (.int z2), h2) ∧ wP h2 ∧ z2 = z1 := by
  have hh := wP_a h hp
  have rx : sR x.toInt := aI_rg x
  have ry : sR y.toInt := aI_rg y
  have e3 : hI h 3 3 = hI h 58 0 := hp.2.1.1
  have e4 : hI h 3 4 = hI h 58 43 := hp.2.1.2.1
  have gp := hI_rg hh xw_p
  obtain ⟨u, eu⟩ := iN (hI_rg hh xw_u).1
  by_cases c1 : 0 ≤ x.toInt ∧ x.toInt < hI h 3 3
  · by_cases c2 : 0 ≤ y.toInt ∧ y.toInt ≤ 12
    · obtain ⟨a, ea⟩ := iN c1.1
      obtain ⟨p, ep⟩ := iN c2.1
      by_cases hb : bt u a = true
      · obtain ⟨g, x1, x2, x3⟩ := fMidX (sc := sc) (d := 81) (a := a) (p := p) hh eu (by omega) (by omega) hb
        have w1 : wMiss kC214.2.2.2 = true := by decide +kernel
        have w2 : wMiss kC281.2.2.2 = true := by decide +kernel
        have hp1 := wP_fr hp x2 x3 w1
        have k3 : hI g 58 0 = hI h 58 0 := hI_cg (x3 58 0 (by rintro ⟨m, hm, e, _⟩; rcases List.mem_singleton.mp hm with rfl; exact absurd e (by decide)))
        have k4 : hI g 58 43 = hI h 58 43 := hI_cg (x3 58 43 (by rintro ⟨m, hm, e, _⟩; rcases List.mem_singleton.mp hm with rfl; exact absurd e (by decide)))
        obtain ⟨g2, y1, y2, y3⟩ := fChanceM (sc := sc) (d := 80) (a := a) (p := p) (u := u) (m := 1) x2 (by omega) (by omega) (by omega) hb (by omega) (by omega)
        exact pair2e (by rw [ea, ep]; exact x1) x2 (by rw [ea, ep]; exact fMidM (d := 99) x2 y1) (wP_fr hp1 y2 y3 w2) rfl
      · exact pair2e (by rw [ea, ep]; exact fMidXs (d := 97) hh eu (by omega) (by omega) hb) hh (by rw [ea, ep]; exact fMidM (d := 99) hh (fChanceMs (d := 96) (u := u) hh (by omega) (by omega) (by omega) hb)) hp rfl
    · exact pair2e (fMidXb1 (d := 97) hh rx ry ⟨c1, c2⟩) hh (fMidM (d := 99) hh (fChanceMb1 (d := 96) hh rx ry (by unfold sR aMi aMa; omega) ⟨by omega, c2⟩)) hp rfl
  · exact pair2e (fMidXb0 (d := 97) hh rx ry c1) hh (fMidM (d := 99) hh (fChanceMb0 (d := 96) hh rx ry (by unfold sR aMi aMa; omega) (by omega))) hp rfl
theorem wOdds {sc : List Int32} {h : mH} (x y : Int32) (hp : wP h) : ∃ z1 h1 z2 h2, nEv sc 100 107 (.ref 0 :: [x, y].map Value.int) h (some (.int z1), h1) ∧ aHp h1 ∧ nEv sc 100 211 (.ref 53 :: [x, y].map Value.int) h1 (some (.int z2), h2) ∧ wP h2 ∧ z2 = z1 := by
  have hh := wP_a h hp
  have rx : sR x.toInt := aI_rg x
  have ry : sR y.toInt := aI_rg y
  have e3 : hI h 3 3 = hI h 58 0 := hp.2.1.1
  have e4 : hI h 3 4 = hI h 58 43 := hp.2.1.2.1
  have gp := hI_rg hh xw_p
  obtain ⟨u, eu⟩ := iN (hI_rg hh xw_u).1
  by_cases c1 : 0 ≤ x.toInt ∧ x.toInt < hI h 3 3
  · by_cases c2 : 0 ≤ y.toInt ∧ y.toInt ≤ 12
    · obtain ⟨a, ea⟩ := iN c1.1
      obtain ⟨p, ep⟩ := iN c2.1
      by_cases hb : bt u a = true
      · obtain ⟨g, x1, x2, x3⟩ := fOddsX (sc := sc) (d := 81) (a := a) (p := p) hh eu (by omega) (by omega) hb
        have w1 : wMiss kC214.2.2.2 = true := by decide +kernel
        have w2 : wMiss kC281.2.2.2 = true := by decide +kernel
        have hp1 := wP_fr hp x2 x3 w1
        have k3 : hI g 58 0 = hI h 58 0 := hI_cg (x3 58 0 (by rintro ⟨m, hm, e, _⟩; rcases List.mem_singleton.mp hm with rfl; exact absurd e (by decide)))
        have k4 : hI g 58 43 = hI h 58 43 := hI_cg (x3 58 43 (by rintro ⟨m, hm, e, _⟩; rcases List.mem_singleton.mp hm with rfl; exact absurd e (by decide)))
        obtain ⟨g2, y1, y2, y3⟩ := fChanceM (sc := sc) (d := 80) (a := a) (p := p) (u := u) (m := 0) x2 (by omega) (by omega) (by omega) hb (by omega) (by omega)
        exact pair2e (by rw [ea, ep]; exact x1) x2 (by rw [ea, ep]; exact fOddsM (d := 99) x2 y1) (wP_fr hp1 y2 y3 w2) rfl
      · exact pair2e (by rw [ea, ep]; exact fOddsXs (d := 97) hh eu (by omega) (by omega) hb) hh (by rw [ea, ep]; exact fOddsM (d := 99) hh (fChanceMs (d := 96) (u := u) hh (by omega) (by omega) (by omega) hb)) hp rfl
    · exact pair2e (fOddsXb1 (d := 97) hh rx ry ⟨c1, c2⟩) hh (fOddsM (d := 99) hh (fChanceMb1 (d := 96) hh rx ry (by unfold sR aMi aMa; omega) ⟨by omega, c2⟩)) hp rfl
  · exact pair2e (fOddsXb0 (d := 97) hh rx ry c1) hh (fOddsM (d := 99) hh (fChanceMb0 (d := 96) hh rx ry (by unfold sR aMi aMa; omega) (by omega))) hp rfl
