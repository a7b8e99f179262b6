/-! text, put, embassy, keep, on: class and reference go on alike -/
noncomputable def wNo (ms : aMd) : Bool := ms.all (fun m => decide ((m.1 < 3 ∨ 6 < m.1) ∧ (m.1 < 41 ∨ 52 < m.1) ∧ m.1 ≠ 58 ∧ m.1 ≠ 60 ∧ m.1 ≠ 61))
theorem wNo_no {ms : aMd} (hm : wNo ms = true) {a j : Nat} (ha : (3 ≤ a ∧ a ≤ 6) ∨ (41 ≤ a ∧ a ≤ 52) ∨ a = 58 ∨ a = 60 ∨ a = 61) : ¬ aCov ms a j := by
  rintro ⟨m, m1, m2, m3, m4⟩
  have h2 := of_decide_eq_true (List.all_eq_true.mp hm m m1)
  omega
theorem wP_sl {h h1 : mH} (hp : wP h) (ht : tP h1) (hs : ∀ a j, ((3 ≤ a ∧ a ≤ 6) ∨ (41 ≤ a ∧ a ≤ 52) ∨ a = 58 ∨ a = 60 ∨ a = 61) → aSlot h1 a j = aSlot h a j) : wP h1 :=
  ⟨ht, nR_sl hp.2.1 (fun p m a b => hs p m (by omega)) (fun m => hs 58 m (by omega)), kR_sl hp.2.2 (fun p m w => hs p m (by omega))⟩
theorem wText {sc : List Int32} {h : mH} (t n : Int32) (hp : wP h) : ∃ z1 h1 z2 h2, nEv sc 100 20 (.ref 0 :: [t, n].map Value.int) h (some (.int z1), h1) ∧ aHp h1 ∧ nEv sc 100 135 (.ref 53 :: [t, n].map Value.int) h1 (some (.int z2), h2) ∧ wP h2 ∧ z2 = z1 := by
  obtain ⟨z1, h1, z2, h2, x1, x2, x3, x4, x5⟩ := tText (sc := sc) t n hp.1
  obtain ⟨q, q1, q2, q3⟩ := gFr (xs := [t, n]) (t := mMe20) (D := 100) (kM28 sc) rfl rfl rfl rfl rfl rfl hp.1.1 (by decide)
  have e1 := nEv_det q1 x1
  subst e1
  obtain ⟨p, p1, p2, p3⟩ := gFr (xs := [t, n]) (t := mMe135) (D := 100) (kM29 sc) rfl rfl rfl rfl rfl rfl x2 (by decide)
  have e2 := nEv_det p1 x3
  subst e2
  refine ⟨z1, h1, z2, h2, x1, x2, x3, wP_sl hp x4 (fun a j w => ?_), x5⟩
  have w1 : wNo kC28.2.2.2 = true := by decide +kernel
  have w2 : wNo kC29.2.2.2 = true := by decide +kernel
  exact (p3 a j (wNo_no w2 w)).trans (q3 a j (wNo_no w1 w))
theorem wPut {sc : List Int32} {h : mH} (t n v : Int32) (hp : wP h) : ∃ z1 h1 z2 h2, nEv sc 100 24 (.ref 0 :: [t, n, v].map Value.int) h (some (.int z1), h1) ∧ aHp h1 ∧ nEv sc 100 137 (.ref 53 :: [t, n, v].map Value.int) h1 (some (.int z2), h2) ∧ wP h2 ∧ z2 = z1 := by
  obtain ⟨z1, h1, z2, h2, x1, x2, x3, x4, x5⟩ := tPut (sc := sc) t n v hp.1
  obtain ⟨q, q1, q2, q3⟩ := gFr (xs := [t, n, v]) (t := mMe24) (D := 100) (kM30 sc) rfl rfl rfl rfl rfl rfl hp.1.1 (by decide)
  have e1 := nEv_det q1 x1
  subst e1
  obtain ⟨p, p1, p2, p3⟩ := gFr (xs := [t, n, v]) (t := mMe137) (D := 100) (kM31 sc) rfl rfl rfl rfl rfl rfl x2 (by decide)
  have e2 := nEv_det p1 x3
  subst e2
  refine ⟨z1, h1, z2, h2, x1, x2, x3, wP_sl hp x4 (fun a j w => ?_), x5⟩
  have w1 : wNo kC30.2.2.2 = true := by decide +kernel
  have w2 : wNo kC31.2.2.2 = true := by decide +kernel
  exact (p3 a j (wNo_no w2 w)).trans (q3 a j (wNo_no w1 w))
theorem hI_cg2 {h h1 : mH} {a j b m : Nat} (e : aSlot h1 a j = aSlot h b m) : hI h1 a j = hI h b m := by
  unfold hI
  rw [e]
theorem wEmb {sc : List Int32} {h : mH} (t : Int32) (hp : wP h) : ∃ z1 h1 z2 h2, nEv sc 100 32 (.ref 0 :: [t].map Value.int) h (some (.int z1), h1) ∧ aHp h1 ∧ nEv sc 100 144 (.ref 53 :: [t].map Value.int) h1 (some (.int z2), h2) ∧ wP h2 := by
  have ht := aI_rg t
  have bad : ∀ u ∈ tFB, vOk [t] u → u.1.length = 1 → ∃ z1 h1 z2 h2, nEv sc 100 32 (.ref 0 :: [t].map Value.int) h (some (.int z1), h1) ∧ aHp h1 ∧ nEv sc 100 144 (.ref 53 :: [t].map Value.int) h1 (some (.int z2), h2) ∧ wP h2 := fun u hu hk hl => by
    obtain ⟨z1, h1, z2, h2, x1, x2, x3, x4, x5⟩ := gBad (P := wP) (xs := [t]) (tx := mMe32) (tm := mMe144) (D := 100) wP_a (qzbCk_ok (dm := 0) (List.forall_mem_nil _) (List.all_eq_true.mp tEXB u hu)) (qzbCk_ok (dm := 0) (List.forall_mem_nil _) (List.all_eq_true.mp tEMB u hu)) rfl rfl rfl rfl (fun h1 a b => wP_fr hp a b (by decide)) (fun h1 h2 p a b => wP_fr p a b (by decide)) hk (by rw [hl]; exact Nat.le_refl _) hp (by omega)
    exact ⟨z1, h1, z2, h2, x1, x2, x3, x4⟩
  by_cases h1 : t.toInt < 0
  · exact bad ([(aMi, -1)], [], -1) (by simp [tFB]) ⟨⟨⟨ht.1, by show t.toInt ≤ -1; omega⟩, trivial⟩, List.forall_mem_nil _⟩ rfl
  by_cases h2 : 3 < t.toInt
  · exact bad ([(4, aMa)], [], -1) (by simp [tFB]) ⟨⟨⟨by show 4 ≤ t.toInt; omega, ht.2⟩, trivial⟩, List.forall_mem_nil _⟩ rfl
  obtain ⟨c, hc⟩ : ∃ c : Nat, (c : Int) = t.toInt := ⟨t.toInt.toNat, by omega⟩
  have hc4 : c < 4 := by omega
  obtain ⟨s, s1, s2, s3, s4⟩ := tS hp.1 hc4
  have rc : (c : Int) ≤ t.toInt ∧ t.toInt ≤ (c : Int) := by omega
  by_cases h3 : s.toInt = -1
  · obtain ⟨z1, h1, z2, h2, x1, x2, x3, x4, x5⟩ := gOne (P := wP) (xs := [t]) (v := tFN c) (s := s) (ax := 33 + 2 * c) (jx := 1) (am := 56) (jm := c) (tx := mMe32) (tm := mMe144) (D := 100) wP_a (qzbCk_ok (dm := 0) (List.forall_mem_nil _) (List.all_eq_true.mp tEXN c (List.mem_range.mpr hc4))) (qzbCk_ok (dm := 0) (List.forall_mem_nil _) (List.all_eq_true.mp tEMN c (List.mem_range.mpr hc4))) rfl rfl rfl rfl (fun h1 a b => wP_fr hp a b (by decide)) (fun h1 h2 p a b => wP_fr p a b (by decide)) s1 s2 (tMiss_no (by decide) (by omega)) ⟨⟨rc, ⟨by show -1 ≤ s.toInt; omega, by show s.toInt ≤ -1; omega⟩, trivial⟩, List.forall_mem_nil _⟩ (by show 1 < 2; omega) hp (by omega)
    exact ⟨z1, h1, z2, h2, x1, x2, x3, x4⟩
  have et : Value.int t = sI (c : Int) := by unfold sI; rw [hc, Int32.ofInt_toInt]
  have z1 : hI h (33 + 2 * c) 1 = s.toInt := hI_of s1
  have z2 : hI h 56 c = s.toInt := hI_of s2
  by_cases hz : pRd (hI h (33 + 2 * c) 1) (hI h (34 + 2 * c)) = -9
  · obtain ⟨g, h1, n, x1, x2, x3, x4, x5, x6, x7, x9, x10, x11, x12, x13, x8⟩ := fEmbX (sc := sc) (d := 96) hc4 hp.1.1 (by omega) hz
    have k0 : ∀ e m, (e = 56 ∨ e = 57 ∨ (33 ≤ e ∧ e ≤ 40)) → aSlot h1 e m = aSlot h e m := fun e m w => by rw [x8, if_neg (by omega), if_neg (by omega), if_neg (by omega), if_neg (by omega), if_neg (by omega), x4 e m (by omega) (by omega) (by omega) (by omega)]
    have y0 : hI h1 56 c = s.toInt := by rw [← z2]; unfold hI; rw [k0 _ _ (by omega)]
    have hg : ∀ j : Nat, (j : Int) < s.toInt → (fun j => hI h1 57 (60 * c + j)) j = hI h (34 + 2 * c) j := fun j hj => by
      show hI h1 57 (60 * c + j) = hI h (34 + 2 * c) j
      unfold hI
      rw [k0 _ _ (by omega), (hp.1.2 c hc4).2 j (by omega)]
    have eq : pRd (hI h1 56 c) (fun j => hI h1 57 (60 * c + j)) = -9 := by
      rw [y0, ← hz, z1]
      exact pRd_cg hg
    obtain ⟨g2, h2, n2, y1, y2, y3, y4, y5, y6, y7, y9, y10, y11, y8⟩ := fEmbM (sc := sc) (d := 96) hc4 x3 (by omega) eq
    have hn : n2 = n := by
      have q := pSk_ge (s.toInt) (hI h (34 + 2 * c)) 61 0
      rw [y0, pSk_cg hg 61 0 (by omega), pDt_cg hg (by omega)] at y7
      rw [z1] at x7
      omega
    subst hn
    have a1 : nEv sc 100 32 (.ref 0 :: [t].map Value.int) h (some (sI (n2 : Int)), h1) := by
      show nEv sc 100 32 [.ref 0, .int t] h _
      rw [et]
      exact x1
    have a2 : nEv sc 100 144 (.ref 53 :: [t].map Value.int) h1 (some (sI (n2 : Int)), h2) := by
      show nEv sc 100 144 [.ref 53, .int t] h1 _
      rw [et]
      exact y1
    have pk : ∀ j : Nat, pPo s.toInt (fun j => hI h1 57 (60 * c + j)) n2 j (pSk s.toInt (hI h (34 + 2 * c)) 61 0 + 2) = pPo s.toInt (hI h (34 + 2 * c)) n2 j (pSk s.toInt (hI h (34 + 2 * c)) 61 0 + 2) ∧ 0 ≤ pPo s.toInt (hI h (34 + 2 * c)) n2 j (pSk s.toInt (hI h (34 + 2 * c)) 61 0 + 2) := fun j => pPo_cg hg j _ (by have q := pSk_ge (s.toInt) (hI h (34 + 2 * c)) 61 0; omega)
    have ty : ∀ p m, p ≠ 58 → p ≠ 61 → ¬ (p = 53 ∧ m = 13) → p ≠ 59 → aSlot h2 p m = aSlot h1 p m := fun p m b1 b2 b3 b4 => by rw [y8, if_neg (by omega), if_neg (by omega), y4 p m b3 b4]
    have X3 : ∀ m, 3 ≤ m → m ≤ 6 → aSlot h2 3 m = aSlot g 9 m := fun m m1 m2 => by rw [ty 3 m (by omega) (by omega) (by omega) (by omega), x8, if_neg (by omega), if_neg (by omega), if_neg (by omega), if_neg (by omega), if_pos (by omega)]
    have X4 : ∀ m, aSlot h2 4 m = aSlot g 10 m := fun m => by rw [ty 4 m (by omega) (by omega) (by omega) (by omega), x8, if_neg (by omega), if_pos (by omega)]
    have X5 : ∀ m, aSlot h2 5 m = aSlot g 11 m := fun m => by rw [ty 5 m (by omega) (by omega) (by omega) (by omega), x8, if_neg (by omega), if_neg (by omega), if_pos (by omega)]
    have M0 : ∀ m, m < 201 → aSlot h2 58 m = aSlot g2 59 m := fun m hm => by rw [y8, if_neg (by omega), if_pos (by omega)]
    refine ⟨_, h1, _, h2, a1, x3, a2, tP_sl hp.1 y3 (fun e m w => by rw [y8, if_neg (by omega), if_neg (by omega), y4 e m (by omega) (by omega), k0 e m w]), ?_, fun k hk => Or.inl ⟨?_, ?_⟩⟩
    · have n3 : hI h2 3 3 = n2 := (hI_cg2 (X3 3 (by omega) (by omega))).trans x9
      have m3 : hI h2 58 0 = n2 := (hI_cg2 (M0 0 (by omega))).trans y9
      have z4 : hI h2 3 4 = 0 := hI_si (by rw [X3 4 (by omega) (by omega)]; exact x10) (by unfold sR aMi aMa; omega)
      have z5 : hI h2 3 5 = 0 := hI_si (by rw [X3 5 (by omega) (by omega)]; exact x11) (by unfold sR aMi aMa; omega)
      have z6 : hJ h2 3 6 = Int64.ofInt 0 := hJ_of (by rw [X3 6 (by omega) (by omega)]; exact x12)
      have mz : ∀ m, 43 ≤ m → m < 201 → hI h2 58 m = 0 := fun m m1 m2 => hI_si (by rw [M0 m m2]; exact y10 m m1 m2) (by unfold sR aMi aMa; omega)
      refine ⟨by rw [n3, m3], by rw [z4, mz 43 (by omega) (by omega)], by rw [z5, mz 80 (by omega) (by omega)], fun a ha => ⟨?_, fun b hb => ?_⟩, by rw [z6]; exact tR_zero (fun j hj => mz _ (by omega) (by omega)), fun i hi => by rw [z5] at hi; omega⟩
      · rw [n3] at ha
        have l1 := (x13 a (by omega)).1
        have l2 := (y11 a (by omega)).1
        rw [y0, pSk_cg hg 61 0 (by omega), (pk a).1, pLt_cg hg (pk a).2] at l2
        rw [z1] at l1
        rw [hI_cg2 (X4 a), hI_cg2 (M0 (1 + a) (by omega)), l1, l2]
      · rw [n3] at ha hb
        have l1 := (x13 a (by omega)).2 b (by omega)
        have l2 := (y11 a (by omega)).2 b (by omega)
        rw [y0, pSk_cg hg 61 0 (by omega), (pk a).1, pDt_cg hg (by have := (pk a).2; omega)] at l2
        rw [z1] at l1
        rw [hI_cg2 (X5 (6 * a + b)), hI_cg2 (M0 (7 + (6 * a + b)) (by omega)), l1, show 7 + (6 * a + b) = 7 + 6 * a + b by omega, l2]
    · exact hI_si (by rw [y8, if_pos (by omega)]) (by unfold sR aMi aMa; omega)
    · exact hI_si (by rw [y8, if_neg (by omega), if_neg (by omega), y4 _ _ (by omega) (by omega), x8, if_pos (by omega)]) (by unfold sR aMi aMa; omega)
  · obtain ⟨h1, x1, x2, x3⟩ := fEmbXn (sc := sc) (d := 96) hc4 hp.1.1 (by omega) hz
    have k0 : ∀ e m, (e = 56 ∨ e = 57 ∨ (33 ≤ e ∧ e ≤ 40)) → aSlot h1 e m = aSlot h e m := fun e m w => by rw [x3 e m (by omega) (by omega) (by omega) (by omega)]
    have y0 : hI h1 56 c = s.toInt := by rw [← z2]; unfold hI; rw [k0 _ _ (by omega)]
    have hg : ∀ j : Nat, (j : Int) < s.toInt → (fun j => hI h1 57 (60 * c + j)) j = hI h (34 + 2 * c) j := fun j hj => by
      show hI h1 57 (60 * c + j) = hI h (34 + 2 * c) j
      unfold hI
      rw [k0 _ _ (by omega), (hp.1.2 c hc4).2 j (by omega)]
    have eq : pRd (hI h1 56 c) (fun j => hI h1 57 (60 * c + j)) ≠ -9 := by
      rw [z1] at hz
      rw [y0, pRd_cg hg]
      exact hz
    obtain ⟨h2, y1, y2, y3⟩ := fEmbMn (sc := sc) (d := 96) hc4 x2 (by omega) eq
    have a1 : nEv sc 100 32 (.ref 0 :: [t].map Value.int) h (some (sI (-4)), h1) := by
      show nEv sc 100 32 [.ref 0, .int t] h _
      rw [et]
      exact x1
    have a2 : nEv sc 100 144 (.ref 53 :: [t].map Value.int) h1 (some (sI (-4)), h2) := by
      show nEv sc 100 144 [.ref 53, .int t] h1 _
      rw [et]
      exact y1
    exact ⟨_, h1, _, h2, a1, x2, a2, wP_sl hp (tP_sl hp.1 y2 (fun e m w => by rw [y3 e m (by omega) (by omega), k0 e m w])) (fun e m w => by rw [y3 e m (by omega) (by omega), x3 e m (by omega) (by omega) (by omega) (by omega)])⟩
theorem ke_3 {k : Nat} (hk : k < 3) : zCell (41 + 4 * k) 3 0 6 = true := (show ∀ k, k < 3 → zCell (41 + 4 * k) 3 0 6 = true by decide +kernel) k hk
theorem ke_5 {k : Nat} (hk : k < 3) : zCell (41 + 4 * k) 5 0 40 = true := (show ∀ k, k < 3 → zCell (41 + 4 * k) 5 0 40 = true by decide +kernel) k hk
theorem wKeep {sc : List Int32} {h : mH} (t : Int32) (hp : wP h) : ∃ z1 h1 z2 h2, nEv sc 100 72 (.ref 0 :: [t].map Value.int) h (some (.int z1), h1) ∧ aHp h1 ∧ nEv sc 100 178 (.ref 53 :: [t].map Value.int) h1 (some (.int z2), h2) ∧ wP h2 ∧ z2 = z1 := by
  have ht := aI_rg t
  have bad : ∀ u ∈ uKB, vOk [t] u → u.1.length = 1 → ∃ z1 h1 z2 h2, nEv sc 100 72 (.ref 0 :: [t].map Value.int) h (some (.int z1), h1) ∧ aHp h1 ∧ nEv sc 100 178 (.ref 53 :: [t].map Value.int) h1 (some (.int z2), h2) ∧ wP h2 ∧ z2 = z1 := fun u hu hk hl => by
    obtain ⟨z1, h1, z2, h2, x1, x2, x3, x4, x5⟩ := gBad (P := wP) (xs := [t]) (tx := mMe72) (tm := mMe178) (D := 100) wP_a (qzbCk_ok (dm := 0) (List.forall_mem_nil _) (List.all_eq_true.mp uKXB u hu)) (qzbCk_ok (dm := 0) (List.forall_mem_nil _) (List.all_eq_true.mp uKMB u hu)) rfl rfl rfl rfl (fun h1 a b => wP_fr hp a b (by decide)) (fun h1 h2 p a b => wP_fr p a b (by decide)) hk (by rw [hl]; exact Nat.le_refl _) hp (by omega)
    exact ⟨z1, h1, z2, h2, x1, x2, x3, x4, x5⟩
  by_cases h1 : t.toInt < 0
  · exact bad ([(aMi, -1)], [], -1) (by simp [uKB]) ⟨⟨⟨ht.1, by show t.toInt ≤ -1; omega⟩, trivial⟩, List.forall_mem_nil _⟩ rfl
  by_cases h2 : 2 < t.toInt
  · exact bad ([(3, aMa)], [], -1) (by simp [uKB]) ⟨⟨⟨by show 3 ≤ t.toInt; omega, ht.2⟩, trivial⟩, List.forall_mem_nil _⟩ rfl
  obtain ⟨k, hc⟩ : ∃ k : Nat, (k : Int) = t.toInt := ⟨t.toInt.toNat, by omega⟩
  have hk : k < 3 := by omega
  have et : Value.int t = sI (k : Int) := by unfold sI; rw [hc, Int32.ofInt_toInt]
  obtain ⟨s, s1, s3, s4⟩ := zCell_ok hp.1.1 xw_p
  have s2 : aSlot h 58 0 = some (.int s) := by rw [hI_ok hp.1.1 nw_p, ← hp.2.1.1, hI_of s1]; unfold sI; rw [Int32.ofInt_toInt]
  have z1 := hI_of s1
  have z2 := hI_of s2
  by_cases h3 : s.toInt = 0
  · obtain ⟨z1, h1, z2, h2, x1, x2, x3, x4, x5⟩ := gOne (P := wP) (xs := [t]) (v := uKN) (s := s) (ax := 3) (jx := 3) (am := 58) (jm := 0) (tx := mMe72) (tm := mMe178) (D := 100) wP_a (qzbCk_ok (dm := 0) (List.forall_mem_nil _) uKXN) (qzbCk_ok (dm := 0) (List.forall_mem_nil _) uKMN) rfl rfl rfl rfl (fun h1 a b => wP_fr hp a b (by decide)) (fun h1 h2 p a b => wP_fr p a b (by decide)) s1 s2 (wMiss_no (by decide) (by omega)) ⟨⟨⟨by show 0 ≤ t.toInt; omega, by show t.toInt ≤ 2; omega⟩, ⟨by show 0 ≤ s.toInt; omega, by show s.toInt ≤ 0; omega⟩, trivial⟩, List.forall_mem_nil _⟩ (by show 1 < 2; omega) hp (by omega)
    exact ⟨z1, h1, z2, h2, x1, x2, x3, x4, x5⟩
  obtain ⟨y, h1, x1, x2, yv, x3⟩ := fKeepX (sc := sc) (d := 98) hp.1.1 hk (by omega)
  have e0 : aSlot h1 58 0 = aSlot h 58 0 := by rw [x3, if_neg (by omega), if_neg (by omega), if_neg (by omega), if_neg (by omega)]
  have z3 : hI h1 58 0 = hI h 58 0 := by unfold hI; rw [e0]
  obtain ⟨w, h2, y1, y2, wv, y3⟩ := fKeepM (sc := sc) (d := 98) x2 hk (by omega)
  have t1 : ∀ p m, ¬ (p = 41 + 4 * k + 1) → ¬ (p = 41 + 4 * k + 2) → ¬ (p = 41 + 4 * k + 3) → ¬ (p = 41 + 4 * k ∧ 3 ≤ m ∧ m ≤ 6) → ¬ (p = 61 ∧ m = k) → ¬ (p = 60 ∧ 201 * k ≤ m ∧ m < 201 * k + 201) → aSlot h2 p m = aSlot h p m := fun p m b1 b2 b3 b4 b5 b6 => by rw [y3, if_neg b5, if_neg b6, x3, if_neg b1, if_neg b2, if_neg b3, if_neg b4]
  have gp6 := hI_rg hp.1.1 xw_p
  have gd40 := hI_rg hp.1.1 xw_d
  refine ⟨Int32.ofInt y, h1, Int32.ofInt w, h2, ?_, x2, ?_, ⟨tP_sl hp.1 y2 (fun e m w => t1 e m (by omega) (by omega) (by omega) (by omega) (by omega) (by omega)), nR_sl hp.2.1 (fun p m _ _ => t1 p m (by omega) (by omega) (by omega) (by omega) (by omega) (by omega)) (fun m => t1 58 m (by omega) (by omega) (by omega) (by omega) (by omega) (by omega)), fun j hj => ?_⟩, ?_⟩
  rotate_right
  · rw [wv, yv, hI_cg2 (show aSlot h1 58 80 = aSlot h 58 80 by rw [x3, if_neg (by omega), if_neg (by omega), if_neg (by omega), if_neg (by omega)]), ← hp.2.1.2.2.1]
  · show nEv sc 100 72 [.ref 0, .int t] h _
    rw [et]
    exact x1
  · show nEv sc 100 178 [.ref 53, .int t] h1 _
    rw [et]
    exact y1
  · by_cases hjk : j = k
    · subst hjk
      have q3 : ∀ m, 3 ≤ m → m ≤ 6 → aSlot h2 (41 + 4 * j) m = aSlot h 3 m := fun m m1 m2 => by rw [y3, if_neg (by omega), if_neg (by omega), x3, if_neg (by omega), if_neg (by omega), if_neg (by omega), if_pos (by omega)]
      have q4 : ∀ m, aSlot h2 (41 + 4 * j + 1) m = aSlot h 4 m := fun m => by rw [y3, if_neg (by omega), if_neg (by omega), x3, if_pos (by omega)]
      have q5 : ∀ m, aSlot h2 (41 + 4 * j + 2) m = aSlot h 5 m := fun m => by rw [y3, if_neg (by omega), if_neg (by omega), x3, if_neg (by omega), if_pos (by omega)]
      have q6 : ∀ m, aSlot h2 (41 + 4 * j + 3) m = aSlot h 6 m := fun m => by rw [y3, if_neg (by omega), if_neg (by omega), x3, if_neg (by omega), if_neg (by omega), if_pos (by omega)]
      have qm : ∀ m, m < 201 → aSlot h2 60 (201 * j + m) = aSlot h 58 m := fun m hm => by rw [y3, if_neg (by omega), if_pos (by omega), show 201 * j + m - 201 * j = m by omega, x3, if_neg (by omega), if_neg (by omega), if_neg (by omega), if_neg (by omega)]
      have q7 : hJ h2 (41 + 4 * j) 6 = hJ h 3 6 := by unfold hJ; rw [q3 6 (by omega) (by omega)]
      refine Or.inr ⟨hI_si (by rw [y3, if_pos (by omega)]) (by unfold sR aMi aMa; omega), by rw [hI_cg2 (q3 3 (by omega) (by omega)), z1]; exact h3, ?_⟩
      rw [q7]
      exact eRf_cg hp.2.1 gp6.2 gd40.2 (fun m m1 m2 => hI_cg2 (q3 m m1 (by omega))) (fun m _ => hI_cg2 (q4 m)) (fun m _ => hI_cg2 (q5 m)) (fun m _ => hI_cg2 (q6 m)) (fun m hm => hI_cg2 (qm m hm))
    · have r6 := hI_rg hp.1.1 (ke_3 hj)
      have r40 := hI_rg hp.1.1 (ke_5 hj)
      have q0 : ∀ p m, 41 + 4 * j ≤ p → p ≤ 41 + 4 * j + 3 → aSlot h2 p m = aSlot h p m := fun p m p1 p2 => t1 p m (by omega) (by omega) (by omega) (by omega) (by omega) (by omega)
      have qj : hJ h2 (41 + 4 * j) 6 = hJ h (41 + 4 * j) 6 := by unfold hJ; rw [q0 _ _ (by omega) (by omega)]
      have e1 : hI h2 (41 + 4 * j) 3 = hI h (41 + 4 * j) 3 := hI_cg (q0 _ _ (by omega) (by omega))
      have e2 : hI h2 61 j = hI h 61 j := hI_cg (t1 61 j (by omega) (by omega) (by omega) (by omega) (by omega) (by omega))
      rw [e1, e2, qj]
      rcases hp.2.2 j hj with ⟨u1, u2⟩ | ⟨u1, u2, u3⟩
      · exact Or.inl ⟨u1, u2⟩
      · exact Or.inr ⟨u1, u2, eRf_cg u3 r6.2 r40.2 (fun m _ _ => hI_cg (q0 _ m (by omega) (by omega))) (fun m _ => hI_cg (q0 _ m (by omega) (by omega))) (fun m _ => hI_cg (q0 _ m (by omega) (by omega))) (fun m _ => hI_cg (q0 _ m (by omega) (by omega))) (fun m hm => hI_cg (t1 60 _ (by omega) (by omega) (by omega) (by omega) (by omega) (by omega)))⟩
theorem wOn {sc : List Int32} {h : mH} (t : Int32) (hp : wP h) : ∃ z1 h1 z2 h2, nEv sc 100 74 (.ref 0 :: [t].map Value.int) h (some (.int z1), h1) ∧ aHp h1 ∧ nEv sc 100 179 (.ref 53 :: [t].map Value.int) h1 (some (.int z2), h2) ∧ wP h2 ∧ z2 = z1 := by
  have ht := aI_rg t
  have bad : ∀ u ∈ uKB, vOk [t] u → u.1.length = 1 → ∃ z1 h1 z2 h2, nEv sc 100 74 (.ref 0 :: [t].map Value.int) h (some (.int z1), h1) ∧ aHp h1 ∧ nEv sc 100 179 (.ref 53 :: [t].map Value.int) h1 (some (.int z2), h2) ∧ wP h2 ∧ z2 = z1 := fun u hu hk hl => by
    obtain ⟨z1, h1, z2, h2, x1, x2, x3, x4, x5⟩ := gBad (P := wP) (xs := [t]) (tx := mMe74) (tm := mMe179) (D := 100) wP_a (qzbCk_ok (dm := 0) (List.forall_mem_nil _) (List.all_eq_true.mp uOXB u hu)) (qzbCk_ok (dm := 0) (List.forall_mem_nil _) (List.all_eq_true.mp uOMB u hu)) rfl rfl rfl rfl (fun h1 a b => wP_fr hp a b (by decide)) (fun h1 h2 p a b => wP_fr p a b (by decide)) hk (by rw [hl]; exact Nat.le_refl _) hp (by omega)
    exact ⟨z1, h1, z2, h2, x1, x2, x3, x4, x5⟩
  by_cases h1 : t.toInt < 0
  · exact bad ([(aMi, -1)], [], -1) (by simp [uKB]) ⟨⟨⟨ht.1, by show t.toInt ≤ -1; omega⟩, trivial⟩, List.forall_mem_nil _⟩ rfl
  by_cases h2 : 2 < t.toInt
  · exact bad ([(3, aMa)], [], -1) (by simp [uKB]) ⟨⟨⟨by show 3 ≤ t.toInt; omega, ht.2⟩, trivial⟩, List.forall_mem_nil _⟩ rfl
  obtain ⟨k, hc⟩ : ∃ k : Nat, (k : Int) = t.toInt := ⟨t.toInt.toNat, by omega⟩
  have hk : k < 3 := by omega
  have et : Value.int t = sI (k : Int) := by unfold sI; rw [hc, Int32.ofInt_toInt]
  have rc : (k : Int) ≤ t.toInt ∧ t.toInt ≤ (k : Int) := by omega
  have h0 : (Int32.ofInt 0).toInt = 0 := rfl
  have kz := hI_ok hp.1.1 (ka_b hk)
  have kp := hI_ok hp.1.1 (ke_3 hk)
  rcases hp.2.2 k hk with ⟨s1, s2⟩ | ⟨s1, s3, s2⟩
  · rw [s1] at kz
    rw [s2] at kp
    have s1 := kz
    have s2 := kp
    obtain ⟨z1, h1, z2, h2, x1, x2, x3, x4, x5⟩ := gOne (P := wP) (xs := [t]) (v := uON k) (s := Int32.ofInt 0) (ax := 41 + 4 * k) (jx := 3) (am := 61) (jm := k) (tx := mMe74) (tm := mMe179) (D := 100) wP_a (qzbCk_ok (dm := 0) (List.forall_mem_nil _) (List.all_eq_true.mp uOXN k (List.mem_range.mpr hk))) (qzbCk_ok (dm := 0) (List.forall_mem_nil _) (List.all_eq_true.mp uOMN k (List.mem_range.mpr hk))) rfl rfl rfl rfl (fun h1 a b => wP_fr hp a b (by decide)) (fun h1 h2 p a b => wP_fr p a b (by decide)) s2 s1 (wMiss_no (by decide) (by omega)) ⟨⟨rc, ⟨by rw [h0]; decide, by rw [h0]; decide⟩, trivial⟩, List.forall_mem_nil _⟩ (by show 1 < 2; omega) hp (by omega)
    exact ⟨z1, h1, z2, h2, x1, x2, x3, x4, x5⟩
  obtain ⟨y, h1, x1, x2, yv, x3⟩ := fOnX (sc := sc) (d := 98) hp.1.1 hk s3
  have e0 : aSlot h1 61 k = some (sI 1) := by rw [x3, if_neg (by omega), if_neg (by omega), if_neg (by omega), if_neg (by omega), kz, s1]
  have z3 : hI h1 61 k = 1 := by rw [hI_of e0]; rfl
  obtain ⟨w, h2, y1, y2, wv, y3⟩ := fOnM (sc := sc) (d := 98) x2 hk (by omega)
  have t1 : ∀ p m, p ≠ 4 → p ≠ 5 → p ≠ 6 → ¬ (p = 3 ∧ 3 ≤ m ∧ m ≤ 6) → ¬ (p = 58 ∧ m < 201) → aSlot h2 p m = aSlot h p m := fun p m b1 b2 b3 b4 b5 => by rw [y3, if_neg b5, x3, if_neg b1, if_neg b2, if_neg b3, if_neg b4]
  have r6 := hI_rg hp.1.1 (ke_3 hk)
  have r40 := hI_rg hp.1.1 (ke_5 hk)
  have q3 : ∀ m, 3 ≤ m → m ≤ 6 → aSlot h2 3 m = aSlot h (41 + 4 * k) m := fun m m1 m2 => by rw [y3, if_neg (by omega), x3, if_neg (by omega), if_neg (by omega), if_neg (by omega), if_pos (by omega)]
  have q4 : ∀ m, aSlot h2 4 m = aSlot h (41 + 4 * k + 1) m := fun m => by rw [y3, if_neg (by omega), x3, if_pos (by omega)]
  have q5 : ∀ m, aSlot h2 5 m = aSlot h (41 + 4 * k + 2) m := fun m => by rw [y3, if_neg (by omega), x3, if_neg (by omega), if_pos (by omega)]
  have q6 : ∀ m, aSlot h2 6 m = aSlot h (41 + 4 * k + 3) m := fun m => by rw [y3, if_neg (by omega), x3, if_neg (by omega), if_neg (by omega), if_pos (by omega)]
  have qm : ∀ m, m < 201 → aSlot h2 58 m = aSlot h 60 (201 * k + m) := fun m hm => by rw [y3, if_pos (by omega), x3, if_neg (by omega), if_neg (by omega), if_neg (by omega), if_neg (by omega)]
  have q7 : hJ h2 3 6 = hJ h (41 + 4 * k) 6 := by unfold hJ; rw [q3 6 (by omega) (by omega)]
  refine ⟨Int32.ofInt y, h1, Int32.ofInt w, h2, ?_, x2, ?_, ⟨tP_sl hp.1 y2 (fun e m w => t1 e m (by omega) (by omega) (by omega) (by omega) (by omega)), ?_, kR_sl hp.2.2 (fun p m w => t1 p m (by omega) (by omega) (by omega) (by omega) (by omega))⟩, ?_⟩
  rotate_right
  · rw [wv, yv, hI_cg2 (show aSlot h1 60 (201 * k + 80) = aSlot h 60 (201 * k + 80) by rw [x3, if_neg (by omega), if_neg (by omega), if_neg (by omega), if_neg (by omega)])]
    exact congrArg Int32.ofInt s2.2.2.1.symm
  · show nEv sc 100 74 [.ref 0, .int t] h _
    rw [et]
    exact x1
  · show nEv sc 100 179 [.ref 53, .int t] h1 _
    rw [et]
    exact y1
  · unfold nR
    rw [q7]
    exact eRf_cg s2 r6.2 r40.2 (fun m m1 m2 => hI_cg2 (q3 m m1 (by omega))) (fun m _ => hI_cg2 (q4 m)) (fun m _ => hI_cg2 (q5 m)) (fun m _ => hI_cg2 (q6 m)) (fun m hm => hI_cg2 (qm m hm))
