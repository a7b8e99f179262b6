/-! fits, meetings leave the embassy alone; the start -/
theorem gFr2 {sc : List Int32} {c : aCt} {k a mx n dm D : Nat} {lo hi : Int} {t : mM} {h : mH} {xs : List Int32} (hm : nMe sc dm c) (e1 : c.1 = k) (e2 : c.2.1.1 = (List.replicate n vI, [], [], (vBig, []))) (e3 : c.2.1.2.1 = [(k, 0, aEntL mx ((2, (0, []), a) :: vLs 0 n), [])]) (e4 : c.2.2.1 = some (0, lo, hi)) (ht : mTab[k]? = some t) (hx : mMX t = mx) (hn : xs.length = n) (hh : aHp h) (hD : dm ≤ D) : ∃ z g, nEv sc D k (.ref a :: xs.map Value.int) h (some (.int z), g) ∧ aHp g ∧ nFr c.2.2.2 h g := by
  obtain ⟨r0, q1, q2, q3⟩ := gFr hm e1 e2 e3 ht hx hn hh hD
  subst hn
  have hB : ∀ ys : List Int32, vBd (List.replicate ys.length vI) ys := by
    intro ys
    induction ys with
    | nil => exact trivial
    | cons y ys ih => exact ⟨aI_rg y, ih⟩
  have hO : aOk (vR xs) c.2.1.1 (aEv (vR xs) (vBig, []) + aKap * aPh h) h := by
    rw [e2]
    exact ⟨vBd_ok (hB xs), fun c hc => absurd hc (by simp), fun g hg => absurd hg (by simp), fun t ht => absurd ht (by simp), Int.le_refl _⟩
  have hs : aSk (List.replicate xs.length vI).length (vR xs) ((2, (0, []), a) :: vLs 0 xs.length) (.ref a :: xs.map Value.int) := by
    refine ⟨⟨aK_wf _ 0, rfl⟩, vLs_ok xs 0 (fun j x hj => ?_) (by simp)⟩
    show (xs.getD (0 + j) 0).toInt = x.toInt
    rw [Nat.zero_add, List.getD_eq_getElem?_getD, hj]
    rfl
  have hF : nMf c.2.1.1.1.length (vR xs) c.2.1.2.1 [(c.1, 0, mEntL (mMX t) (.ref a :: xs.map Value.int), [])] := by
    rw [e2, e3, hx, e1]
    exact ⟨⟨rfl, rfl, (aEntL_ok hs (by rw [List.all_cons, vLs_lt]; rfl)).1, trivial⟩, trivial⟩
  obtain ⟨r1, p1, p2, p3, p4⟩ := hm h (.ref a :: xs.map Value.int) _ _ t (by rw [e1]; exact ht) hh hO hF D hD
  rw [e1] at p1
  rw [e4] at p4
  obtain ⟨w, w1, z, z1, -⟩ := p4
  obtain ⟨v, g⟩ := r1
  have z2 : v = some (.int z) := by rw [← z1]; exact w1
  subst z2
  exact ⟨z, g, p1, p2, p3⟩
theorem p3_of {sc : List Int32} {h h1 h2 : mH} {kx km : Nat} {x y w : Int32} {v1 v2 : Int} (a1 : nEv sc 100 kx [.ref 0, sI x.toInt, sI y.toInt, sI w.toInt] h (some (sI v1), h1)) (a2 : aHp h1) (a3 : nEv sc 100 km [.ref 53, sI x.toInt, sI y.toInt, sI w.toInt] h1 (some (sI v2), h2)) (a4 : wP h2) : ∃ z1 h1 z2 h2, nEv sc 100 kx (.ref 0 :: [x, y, w].map Value.int) h (some (.int z1), h1) ∧ aHp h1 ∧ nEv sc 100 km (.ref 53 :: [x, y, w].map Value.int) h1 (some (.int z2), h2) ∧ wP h2 := by
  refine ⟨Int32.ofInt v1, h1, Int32.ofInt v2, h2, ?_, a2, ?_, a4⟩
  · show nEv sc 100 kx [.ref 0, .int x, .int y, .int w] h _
    rw [sI_of x, sI_of y, sI_of w]
    exact a1
  · show nEv sc 100 km [.ref 53, .int x, .int y, .int w] h1 _
    rw [sI_of x, sI_of y, sI_of w]
    exact a3
theorem wMtg {sc : List Int32} {h : mH} (x y w : Int32) (hp : wP h) : ∃ z1 h1 z2 h2, nEv sc 100 88 (.ref 0 :: [x, y, w].map Value.int) h (some (.int z1), h1) ∧ aHp h1 ∧ nEv sc 100 194 (.ref 53 :: [x, y, w].map Value.int) h1 (some (.int z2), h2) ∧ wP h2 := by
  obtain ⟨z1, h1, a1, a2, a3⟩ := gFr2 (xs := [x, y, w]) (t := mMe88) (D := 100) (kM176 sc) rfl rfl rfl rfl rfl rfl rfl hp.1.1 (by decide)
  have w1 : wMiss kC176.2.2.2 = true := by decide +kernel
  have hp1 := wP_fr hp a2 a3 w1
  have rx : sR x.toInt := aI_rg x
  have ry : sR y.toInt := aI_rg y
  have rw' : sR w.toInt := aI_rg w
  have gp := hI_rg a2 nw_p
  obtain ⟨n, en⟩ := iN gp.1
  have p2 := p2_le (show n ≤ 6 by omega)
  have fin : ∀ {v2 : Int} {h2 : mH}, nEv sc 100 194 [.ref 53, sI x.toInt, sI y.toInt, sI w.toInt] h1 (some (sI v2), h2) → wP h2 → ∃ z1 h1 z2 h2, nEv sc 100 88 (.ref 0 :: [x, y, w].map Value.int) h (some (.int z1), h1) ∧ aHp h1 ∧ nEv sc 100 194 (.ref 53 :: [x, y, w].map Value.int) h1 (some (.int z2), h2) ∧ wP h2 := by
    intro v2 h2 b1 b2
    refine ⟨z1, h1, Int32.ofInt v2, h2, a1, a2, ?_, b2⟩
    show nEv sc 100 194 [.ref 53, .int x, .int y, .int w] h1 _
    rw [sI_of x, sI_of y, sI_of w]
    exact b1
  by_cases c1 : 0 ≤ x.toInt ∧ x.toInt < (n : Int)
  · by_cases c2 : 0 ≤ y.toInt ∧ y.toInt < ((2 ^ n : Nat) : Int)
    · by_cases c3 : 0 ≤ w.toInt ∧ w.toInt ≤ 9
      · obtain ⟨a, ea⟩ := iN c1.1
        obtain ⟨s, es⟩ := iN c2.1
        obtain ⟨kd, ek⟩ := iN (hI_rg a2 (nw_kd (show a < 6 by omega))).1
        obtain ⟨g, b1, b2, b3⟩ := fMmt (sc := sc) (d := 96) (n := n) (kd := kd) (a := a) (s := s) (v := w.toInt) a2 en (by omega) (by omega) c3 ek
        exact fin (by rw [ea, es]; exact b1) (wP_sl hp1 (tP_sl hp1.1 b2 (fun e m q => b3 e m (by omega))) (fun p m q => b3 p m (by omega)))
      · exact fin (fMmb2 (d := 96) a2 en rx ry rw' ⟨c1, c2, c3⟩) hp1
    · exact fin (fMmb1 (d := 96) a2 en rx ry rw' ⟨c1, c2⟩) hp1
  · exact fin (fMmb0 (d := 96) a2 en rx ry rw' c1) hp1
theorem pWr_rg (sz : Int) (R : Nat → Int) (q : Int) : pWr sz R q = 0 ∨ ∃ f : Nat, f < 6 ∧ f ≠ 0 ∧ pWr sz R q = (f : Int) := by
  unfold pWr
  split
  · exact Or.inr ⟨1, by decide, by decide, rfl⟩
  · split
    · exact Or.inr ⟨5, by decide, by decide, rfl⟩
    · split
      · exact Or.inl rfl
      · exact Or.inr ⟨3, by decide, by decide, rfl⟩
/-- the class's fits -/
theorem wFitsX {sc : List Int32} {h : mH} {x y w : Int} (hh : aHp h) (rx : sR x) (ry : sR y) (rw' : sR w) : ∃ v g, nEv sc 100 91 [.ref 0, sI x, sI y, sI w] h (some (sI v), g) ∧ aHp g ∧ ∀ p m, p ≠ 0 → p ≠ 20 → aSlot g p m = aSlot h p m := by
  have gp := hI_rg hh xw_p
  obtain ⟨n, en⟩ := iN gp.1
  by_cases c1 : 0 ≤ w ∧ w < 6
  · obtain ⟨r, er⟩ := iN c1.1
    subst er
    by_cases c2 : (0 ≤ x ∧ x < hI h 3 3) ∧ (0 ≤ y ∧ y < hI h 3 3) ∧ x ≠ y
    · obtain ⟨a, ea⟩ := iN c2.1.1
      obtain ⟨b, eb⟩ := iN c2.2.1.1
      subst ea eb
      rcases pWr_rg (hI h (21 + 2 * r) 1) (hI h (22 + 2 * r)) ((2 ^ n : Nat) : Int) with hw | ⟨f, f6, f0, hw⟩
      · obtain ⟨kd, ek⟩ := iN (hI_rg hh (xw_k (show a < 6 by omega))).1
        exact ⟨_, h, fFitsX (d := 95) hh (by omega) en rfl (by omega) (by omega) (by omega) ek hw, hh, fun _ _ _ _ => rfl⟩
      · obtain ⟨g, b1, b2, b3⟩ := fFitsXw (sc := sc) (d := 95) (r := r) (a := a) (b := b) hh (by omega) en rfl (by omega) (by omega) (by omega) f6 f0 hw
        exact ⟨_, g, b1, b2, fun p m p1 p2 => by rw [b3, if_neg (by omega), if_neg (by omega)]⟩
    · exact ⟨_, h, fFitsXb1 (d := 95) hh rx ry (by omega) c2, hh, fun _ _ _ _ => rfl⟩
  · exact ⟨_, h, fFitsXb0 (d := 95) hh rx ry rw' c1, hh, fun _ _ _ _ => rfl⟩
theorem wFitsM {sc : List Int32} {h : mH} {x y w : Int} (hh : aHp h) (rx : sR x) (ry : sR y) (rw' : sR w) : ∃ v g, nEv sc 100 195 [.ref 53, sI x, sI y, sI w] h (some (sI v), g) ∧ aHp g ∧ ∀ p m, p ≠ 53 → p ≠ 62 → aSlot g p m = aSlot h p m := by
  have gp := hI_rg hh nw_p
  obtain ⟨n, en⟩ := iN gp.1
  by_cases d1 : 0 ≤ x ∧ x < hI h 58 0
  · by_cases d2 : 0 ≤ y ∧ y < hI h 58 0
    · by_cases d3 : x = y
      · exact ⟨_, h, fFitsMb2 (d := 95) hh rx ry rw' ⟨d1, d2, d3⟩, hh, fun _ _ _ _ => rfl⟩
      · by_cases c1 : 0 ≤ w ∧ w < 6
        · obtain ⟨r, er⟩ := iN c1.1
          subst er
          obtain ⟨a, ea⟩ := iN d1.1
          obtain ⟨b, eb⟩ := iN d2.1
          subst ea eb
          rcases pWr_rg (hI h 54 r) (fun j => hI h 55 (40 * r + j)) ((2 ^ n : Nat) : Int) with hw | ⟨f, f6, f0, hw⟩
          · obtain ⟨kd, ek⟩ := iN (hI_rg hh (nw_kd (show a < 6 by omega))).1
            exact ⟨_, h, fFitsM (d := 95) hh (by omega) en rfl (by omega) (by omega) (by omega) ek hw, hh, fun _ _ _ _ => rfl⟩
          · obtain ⟨g, b1, b2, b3⟩ := fFitsMw (sc := sc) (d := 95) (r := r) (a := a) (b := b) hh (by omega) en rfl (by omega) (by omega) (by omega) f6 f0 hw
            exact ⟨_, g, b1, b2, fun p m p1 p2 => by rw [b3, if_neg (by omega), if_neg (by omega)]⟩
        · exact ⟨_, h, fFitsMb3 (d := 95) hh rx ry rw' ⟨⟨d1, d2, d3⟩, c1⟩, hh, fun _ _ _ _ => rfl⟩
    · exact ⟨_, h, fFitsMb1 (d := 95) hh rx ry rw' ⟨d1, d2⟩, hh, fun _ _ _ _ => rfl⟩
  · exact ⟨_, h, fFitsMb0 (d := 95) hh rx ry rw' d1, hh, fun _ _ _ _ => rfl⟩
theorem wFits {sc : List Int32} {h : mH} (x y w : Int32) (hp : wP h) : ∃ z1 h1 z2 h2, nEv sc 100 91 (.ref 0 :: [x, y, w].map Value.int) h (some (.int z1), h1) ∧ aHp h1 ∧ nEv sc 100 195 (.ref 53 :: [x, y, w].map Value.int) h1 (some (.int z2), h2) ∧ wP h2 := by
  obtain ⟨v1, h1, a1, a2, a3⟩ := wFitsX (sc := sc) hp.1.1 (aI_rg x) (aI_rg y) (aI_rg w)
  obtain ⟨v2, h2, b1, b2, b3⟩ := wFitsM (sc := sc) a2 (aI_rg x) (aI_rg y) (aI_rg w)
  have hs : ∀ p m, p ≠ 0 → p ≠ 20 → p ≠ 53 → p ≠ 62 → aSlot h2 p m = aSlot h p m := fun p m p1 p2 p3 p4 => by rw [b3 p m p3 p4, a3 p m p1 p2]
  exact p3_of a1 a2 b1 (wP_sl hp (tP_sl hp.1 b2 (fun e m q => hs e m (by omega) (by omega) (by omega) (by omega))) (fun p m q => hs p m (by omega) (by omega) (by omega) (by omega)))
/-! promises that leave the embassies alone -/
noncomputable def wT : List aCt := [kC6, kC7, kC8, kC9, kC10, kC11, kC12, kC13, kC14, kC15, kC22, kC23, kC45, kC49, kC56, kC61, kC62, kC63, kC68, kC72, kC101, kC102, kC103, kC105, kC108, kC110, kC111, kC112, kC113, kC114, kC115, kC116, kC166, kC172, kC176, kC193, kC194, kC196, kC197, kC200, kC202, kC203, kC204, kC210, kC211, kC215, kC282, kC283, kC284, kC288, kC289, kC290, kC291, kC292, kC293, kC298, kC300, kC301, kC302, kC303, kC304, kC316, kC317]
set_option maxRecDepth 100000 in
theorem wT_ok (sc : List Int32) : ∀ c ∈ wT, nMe sc 81 c := by
  unfold wT
  exact List.forall_mem_cons.mpr ⟨(kM6 sc).mono (by decide), List.forall_mem_cons.mpr ⟨(kM7 sc).mono (by decide), List.forall_mem_cons.mpr ⟨(kM8 sc).mono (by decide), List.forall_mem_cons.mpr ⟨(kM9 sc).mono (by decide), List.forall_mem_cons.mpr ⟨(kM10 sc).mono (by decide), List.forall_mem_cons.mpr ⟨(kM11 sc).mono (by decide), List.forall_mem_cons.mpr ⟨(kM12 sc).mono (by decide), List.forall_mem_cons.mpr ⟨(kM13 sc).mono (by decide), List.forall_mem_cons.mpr ⟨(kM14 sc).mono (by decide), List.forall_mem_cons.mpr ⟨(kM15 sc).mono (by decide), List.forall_mem_cons.mpr ⟨(kM22 sc).mono (by decide), List.forall_mem_cons.mpr ⟨(kM23 sc).mono (by decide), List.forall_mem_cons.mpr ⟨(kM45 sc).mono (by decide), List.forall_mem_cons.mpr ⟨(kM49 sc).mono (by decide), List.forall_mem_cons.mpr ⟨(kM56 sc).mono (by decide), List.forall_mem_cons.mpr ⟨(kM61 sc).mono (by decide), List.forall_mem_cons.mpr ⟨(kM62 sc).mono (by decide), List.forall_mem_cons.mpr ⟨(kM63 sc).mono (by decide), List.forall_mem_cons.mpr ⟨(kM68 sc).mono (by decide), List.forall_mem_cons.mpr ⟨(kM72 sc).mono (by decide), List.forall_mem_cons.mpr ⟨(kM101 sc).mono (by decide), List.forall_mem_cons.mpr ⟨(kM102 sc).mono (by decide), List.forall_mem_cons.mpr ⟨(kM103 sc).mono (by decide), List.forall_mem_cons.mpr ⟨(kM105 sc).mono (by decide), List.forall_mem_cons.mpr ⟨(kM108 sc).mono (by decide), List.forall_mem_cons.mpr ⟨(kM110 sc).mono (by decide), List.forall_mem_cons.mpr ⟨(kM111 sc).mono (by decide), List.forall_mem_cons.mpr ⟨(kM112 sc).mono (by decide), List.forall_mem_cons.mpr ⟨(kM113 sc).mono (by decide), List.forall_mem_cons.mpr ⟨(kM114 sc).mono (by decide), List.forall_mem_cons.mpr ⟨(kM115 sc).mono (by decide), List.forall_mem_cons.mpr ⟨(kM116 sc).mono (by decide), List.forall_mem_cons.mpr ⟨(kM166 sc).mono (by decide), List.forall_mem_cons.mpr ⟨(kM172 sc).mono (by decide), List.forall_mem_cons.mpr ⟨(kM176 sc).mono (by decide), List.forall_mem_cons.mpr ⟨(kM193 sc).mono (by decide), List.forall_mem_cons.mpr ⟨(kM194 sc).mono (by decide), List.forall_mem_cons.mpr ⟨(kM196 sc).mono (by decide), List.forall_mem_cons.mpr ⟨(kM197 sc).mono (by decide), List.forall_mem_cons.mpr ⟨(kM200 sc).mono (by decide), List.forall_mem_cons.mpr ⟨(kM202 sc).mono (by decide), List.forall_mem_cons.mpr ⟨(kM203 sc).mono (by decide), List.forall_mem_cons.mpr ⟨(kM204 sc).mono (by decide), List.forall_mem_cons.mpr ⟨(kM210 sc).mono (by decide), List.forall_mem_cons.mpr ⟨(kM211 sc).mono (by decide), List.forall_mem_cons.mpr ⟨(kM215 sc).mono (by decide), List.forall_mem_cons.mpr ⟨(kM282 sc).mono (by decide), List.forall_mem_cons.mpr ⟨(kM283 sc).mono (by decide), List.forall_mem_cons.mpr ⟨(kM284 sc).mono (by decide), List.forall_mem_cons.mpr ⟨(kM288 sc).mono (by decide), List.forall_mem_cons.mpr ⟨(kM289 sc).mono (by decide), List.forall_mem_cons.mpr ⟨(kM290 sc).mono (by decide), List.forall_mem_cons.mpr ⟨(kM291 sc).mono (by decide), List.forall_mem_cons.mpr ⟨(kM292 sc).mono (by decide), List.forall_mem_cons.mpr ⟨(kM293 sc).mono (by decide), List.forall_mem_cons.mpr ⟨(kM298 sc).mono (by decide), List.forall_mem_cons.mpr ⟨(kM300 sc).mono (by decide), List.forall_mem_cons.mpr ⟨(kM301 sc).mono (by decide), List.forall_mem_cons.mpr ⟨(kM302 sc).mono (by decide), List.forall_mem_cons.mpr ⟨(kM303 sc).mono (by decide), List.forall_mem_cons.mpr ⟨(kM304 sc).mono (by decide), List.forall_mem_cons.mpr ⟨(kM316 sc).mono (by decide), List.forall_mem_cons.mpr ⟨(kM317 sc).mono (by decide), List.forall_mem_nil _⟩⟩⟩⟩⟩⟩⟩⟩⟩⟩⟩⟩⟩⟩⟩⟩⟩⟩⟩⟩⟩⟩⟩⟩⟩⟩⟩⟩⟩⟩⟩⟩⟩⟩⟩⟩⟩⟩⟩⟩⟩⟩⟩⟩⟩⟩⟩⟩⟩⟩⟩⟩⟩⟩⟩⟩⟩⟩⟩⟩⟩⟩⟩
set_option maxRecDepth 100000 in
theorem wT_z : wT.all (fun c => wMiss c.2.2.2) = true := by decide +kernel
/-! the start -/
noncomputable def zL0 (h : mH) (a j : Nat) : Bool := match aSlot h a j with
  | some (.long x) => decide (x = Int64.ofInt 0)
  | _ => false
theorem zL0_ok {h : mH} {a j : Nat} (hz : zL0 h a j = true) : hJ h a j = Int64.ofInt 0 := by
  unfold zL0 at hz
  unfold hJ
  split at hz
  · rename_i x e1
    rw [e1]
    exact of_decide_eq_true hz
  · cases hz
theorem uZ_i {h : mH} {a j : Nat} (hz : uZ h a j = true) : hI h a j = 0 := hI_si (uZ_ok hz) (by unfold sR aMi aMa; omega)
noncomputable def lB4 : Bool := match qPre 10 (0, mEntL 4 [.retAddr 0], [], []) with
  | some g => uZ g.2.2.2 3 3 && (uZ g.2.2.2 3 4 && (uZ g.2.2.2 3 5 && (zL0 g.2.2.2 3 6 && (List.range 201).all (fun m => uZ g.2.2.2 58 m))))
  | none => false
set_option maxRecDepth 100000 in
theorem lB4_ok : lB4 = true := by decide +kernel
theorem lBegin4 {sc : List Int32} {D : Nat} (hD : 10 ≤ D) : ∃ h, wP h ∧ ∀ r, nRn sc D (some .boolean) mLaw (10, lM 0, [], h) r → nRn sc D (some .boolean) mLaw (0, mEntL 4 [.retAddr 0], [], []) r := by
  have h0 := lB3_ok
  have k0 := lB4_ok
  unfold lB3 at h0
  unfold lB4 at k0
  split at h0
  · rename_i g hg
    rw [hg] at k0
    obtain ⟨i, L, st, h⟩ := g
    simp only [Bool.and_eq_true, decide_eq_true_eq, List.isEmpty_iff] at h0
    obtain ⟨e1, e2, e3, e4, e5, e7, e8⟩ := h0
    subst e1 e2 e3
    simp only [Bool.and_eq_true] at k0
    obtain ⟨k1, k2, k3, k4, k5⟩ := k0
    have mz : ∀ m, m < 201 → hI h 58 m = 0 := fun m hm => uZ_i (List.all_eq_true.mp k5 m (List.mem_range.mpr hm))
    have x3 := uZ_i k1
    have x4 := uZ_i k2
    have x5 := uZ_i k3
    have x6 := zL0_ok k4
    refine ⟨h, ⟨⟨aHpB_ok e4, fun c hc => ?_⟩, ⟨?_, ?_, ?_, fun a ha => ?_, ?_, fun i hi => ?_⟩, fun k hk => Or.inl ?_⟩, fun r hr => qPre_ok hD 10 _ _ hg hr⟩
    · have e6 := List.all_eq_true.mp e5 c (List.mem_range.mpr hc)
      rw [Bool.and_eq_true] at e6
      exact ⟨tEqB_ok e6.1, fun j hj => tEqB_ok (List.all_eq_true.mp e6.2 j (List.mem_range.mpr hj))⟩
    · rw [x3, mz 0 (by omega)]
    · rw [x4, mz 43 (by omega)]
    · rw [x5, mz 80 (by omega)]
    · rw [x3] at ha
      omega
    · rw [x6]
      exact tR_zero (fun j hj => mz _ (by omega))
    · rw [x5] at hi
      omega
    · have e6 := List.all_eq_true.mp e8 k (List.mem_range.mpr hk)
      rw [Bool.and_eq_true] at e6
      exact ⟨uZ_i e6.1, uZ_i e6.2⟩
  · cases h0
