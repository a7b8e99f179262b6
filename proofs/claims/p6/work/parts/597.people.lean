/-! people: class and reference have as many, now and kept -/
theorem gFr {sc : List Int32} {c : aCt} {k a mx n dm D : Nat} {t : mM} {h : mH} {xs : List Int32} (hm : nMe sc dm c) (e1 : c.1 = k) (e2 : c.2.1.1 = (List.replicate n vI, [], [], (vBig, []))) (e3 : c.2.1.2.1 = [(k, 0, aEntL mx ((2, (0, []), a) :: vLs 0 n), [])]) (ht : mTab[k]? = some t) (hx : mMX t = mx) (hn : xs.length = n) (hh : aHp h) (hD : dm ≤ D) : ∃ r0, nEv sc D k (.ref a :: xs.map Value.int) h r0 ∧ aHp r0.2 ∧ nFr c.2.2.2 h r0.2 := by
  subst hn
  have hB : ∀ ys : List Int32, vBd (List.replicate ys.length vI) ys := by
    intro ys
    induction ys with
    | nil => exact trivial
    | cons y ys ih => exact ⟨aI_rg y, ih⟩
  have hO : aOk (vR xs) c.2.1.1 (aEv (vR xs) (vBig, []) + aKap * aPh h) h := by
    rw [e2]
    exact ⟨vBd_ok (hB xs), fun c hc => absurd hc (by simp), fun g hg => absurd hg (by simp), fun t ht => absurd ht (by simp), Int.le_refl _⟩
  have hs : aSk (List.replicate xs.length vI).length (vR xs) ((2, (0, []), a) :: vLs 0 xs.length) (.ref a :: xs.map Value.int) := by
    refine ⟨⟨aK_wf _ 0, rfl⟩, vLs_ok xs 0 (fun j x hj => ?_) (by simp)⟩
    show (xs.getD (0 + j) 0).toInt = x.toInt
    rw [Nat.zero_add, List.getD_eq_getElem?_getD, hj]
    rfl
  have hF : nMf c.2.1.1.1.length (vR xs) c.2.1.2.1 [(c.1, 0, mEntL (mMX t) (.ref a :: xs.map Value.int), [])] := by
    rw [e2, e3, hx, e1]
    exact ⟨⟨rfl, rfl, (aEntL_ok hs (by rw [List.all_cons, vLs_lt]; rfl)).1, trivial⟩, trivial⟩
  obtain ⟨r0, q1, q2, q3, -⟩ := hm h (.ref a :: xs.map Value.int) _ _ t (by rw [e1]; exact ht) hh hO hF D hD
  rw [e1] at q1
  exact ⟨r0, q1, q2, q3⟩
noncomputable def uP (h : mH) : Prop := tP h ∧ aSlot h 3 3 = aSlot h 58 0 ∧ ∀ k, k < 3 → (aSlot h 61 k = some (sI 0) ∧ aSlot h (41 + 4 * k) 3 = some (sI 0)) ∨ (aSlot h 61 k = some (sI 1) ∧ aSlot h (41 + 4 * k) 3 = aSlot h 60 (201 * k) ∧ hI h (41 + 4 * k) 3 ≠ 0)
noncomputable def uMiss (ms : aMd) : Bool := tMiss ms && ms.all (fun m => decide (m.1 ≠ 60 ∧ m.1 ≠ 61 ∧ (m.1 ≠ 58 ∨ 0 < m.2.1) ∧ ((m.1 ≠ 3 ∧ m.1 ≠ 41 ∧ m.1 ≠ 45 ∧ m.1 ≠ 49) ∨ 3 < m.2.1 ∨ m.2.2 < 3)))
theorem uMiss_no {ms : aMd} (hm : uMiss ms = true) {a j : Nat} (ha : a = 60 ∨ a = 61 ∨ (a = 58 ∧ j = 0) ∨ ((a = 3 ∨ a = 41 ∨ a = 45 ∨ a = 49) ∧ j = 3)) : ¬ aCov ms a j := by
  unfold uMiss at hm
  rw [Bool.and_eq_true] at hm
  rintro ⟨m, m1, m2, m3, m4⟩
  have h2 := of_decide_eq_true (List.all_eq_true.mp hm.2 m m1)
  omega
theorem uP_sl {h h1 : mH} (hp : uP h) (ht : tP h1) (hs : ∀ a j, (a = 60 ∨ a = 61 ∨ (a = 58 ∧ j = 0) ∨ ((a = 3 ∨ a = 41 ∨ a = 45 ∨ a = 49) ∧ j = 3)) → aSlot h1 a j = aSlot h a j) : uP h1 := by
  refine ⟨ht, ?_, fun k hk => ?_⟩
  · rw [hs 3 3 (by omega), hs 58 0 (by omega)]
    exact hp.2.1
  · unfold hI
    rw [hs 61 k (by omega), hs (41 + 4 * k) 3 (by omega), hs 60 (201 * k) (by omega)]
    exact hp.2.2 k hk
theorem uP_fr {h h1 : mH} {ms : aMd} (hp : uP h) (hh1 : aHp h1) (hf : nFr ms h h1) (hm : uMiss ms = true) : uP h1 := by
  have ht : tMiss ms = true := by
    unfold uMiss at hm
    rw [Bool.and_eq_true] at hm
    exact hm.1
  exact uP_sl hp (tP_fr hp.1 hh1 hf ht) (fun a j w => hf a j (uMiss_no hm w))
section GONE
variable {sc : List Int32} {D dm : Nat} {h : mH} {kx mx km mm : Nat} {tx tm : mM} {msx msm : aMd} {xs : List Int32} {P : mH → Prop}
theorem gBad {v : vV} (hPa : ∀ h, P h → aHp h) (hx : bMe sc dm [] (vC kx 0 mx xs.length v.1 v.2.1 [] v.2.2 msx)) (hm : bMe sc dm [] (vC km 53 mm xs.length v.1 v.2.1 [] v.2.2 msm)) (ht : mTab[kx]? = some tx) (htx : mMX tx = mx) (hu : mTab[km]? = some tm) (htm : mMX tm = mm)
    (hK1 : ∀ h1, aHp h1 → nFr msx h h1 → P h1) (hK2 : ∀ h1 h2, P h1 → aHp h2 → nFr msm h1 h2 → P h2) (hv : vOk xs v) (hn : xs.length ≤ v.1.length) (hp : P h) (hD : dm ≤ D) : ∃ z1 h1 z2 h2, nEv sc D kx (.ref 0 :: xs.map Value.int) h (some (.int z1), h1) ∧ aHp h1 ∧ nEv sc D km (.ref 53 :: xs.map Value.int) h1 (some (.int z2), h2) ∧ P h2 ∧ z2 = z1 := by
  obtain ⟨h1, a1, a2, a3, -⟩ := vC_ok (gs := []) hx ht htx hn (by rw [List.append_nil]; exact hv.1) (by rw [List.append_nil]; exact hv.2) (fun g hg => absurd hg (by simp)) (hPa h hp) hD
  have hp1 := hK1 h1 a2 a3
  obtain ⟨h2, b1, b2, b3, -⟩ := vC_ok (gs := []) hm hu htm hn (by rw [List.append_nil]; exact hv.1) (by rw [List.append_nil]; exact hv.2) (fun g hg => absurd hg (by simp)) (hPa h1 hp1) hD
  exact ⟨_, h1, _, h2, a1, a2, b1, hK2 h1 h2 hp1 b2 b3, rfl⟩
theorem gOne {v : vV} {ax jx am jm : Nat} {s : Int32} (hPa : ∀ h, P h → aHp h) (hx : bMe sc dm [] (vC kx 0 mx xs.length v.1 v.2.1 [(ax, aK jx, (0, aVr xs.length, 0))] v.2.2 msx)) (hm : bMe sc dm [] (vC km 53 mm xs.length v.1 v.2.1 [(am, aK jm, (0, aVr xs.length, 0))] v.2.2 msm)) (ht : mTab[kx]? = some tx) (htx : mMX tx = mx) (hu : mTab[km]? = some tm) (htm : mMX tm = mm)
    (hK1 : ∀ h1, aHp h1 → nFr msx h h1 → P h1) (hK2 : ∀ h1 h2, P h1 → aHp h2 → nFr msm h1 h2 → P h2) (hs1 : aSlot h ax jx = some (.int s)) (hs2 : aSlot h am jm = some (.int s)) (hno : ¬ aCov msx am jm) (hv : vOk (xs ++ [s]) v) (hn : xs.length < v.1.length) (hp : P h) (hD : dm ≤ D) : ∃ z1 h1 z2 h2, nEv sc D kx (.ref 0 :: xs.map Value.int) h (some (.int z1), h1) ∧ aHp h1 ∧ nEv sc D km (.ref 53 :: xs.map Value.int) h1 (some (.int z2), h2) ∧ P h2 ∧ z2 = z1 := by
  obtain ⟨h1, a1, a2, a3, -⟩ := vC_ok (gs := [s]) hx ht htx (by omega) hv.1 hv.2 (zGh hs1 hn) (hPa h hp) hD
  have hp1 := hK1 h1 a2 a3
  obtain ⟨h2, b1, b2, b3, -⟩ := vC_ok (gs := [s]) hm hu htm (by omega) hv.1 hv.2 (zGh ((a3 am jm hno).trans hs2) hn) (hPa h1 hp1) hD
  exact ⟨_, h1, _, h2, a1, a2, b1, hK2 h1 h2 hp1 b2 b3, rfl⟩
end GONE
theorem uP_a (h : mH) (hp : uP h) : aHp h := hp.1.1

noncomputable def uNo (ms : aMd) : Bool := ms.all (fun m => decide (m.1 ≠ 60 ∧ m.1 ≠ 61 ∧ (m.1 ≠ 58 ∨ 0 < m.2.1) ∧ ((m.1 ≠ 3 ∧ m.1 ≠ 41 ∧ m.1 ≠ 45 ∧ m.1 ≠ 49) ∨ 3 < m.2.1 ∨ m.2.2 < 3)))
theorem uNo_no {ms : aMd} (hm : uNo ms = true) {a j : Nat} (ha : a = 60 ∨ a = 61 ∨ (a = 58 ∧ j = 0) ∨ ((a = 3 ∨ a = 41 ∨ a = 45 ∨ a = 49) ∧ j = 3)) : ¬ aCov ms a j := by
  rintro ⟨m, m1, m2, m3, m4⟩
  have h2 := of_decide_eq_true (List.all_eq_true.mp hm m m1)
  omega
theorem uText {sc : List Int32} {h : mH} (t n : Int32) (hp : uP h) : ∃ z1 h1 z2 h2, nEv sc 100 20 (.ref 0 :: [t, n].map Value.int) h (some (.int z1), h1) ∧ aHp h1 ∧ nEv sc 100 135 (.ref 53 :: [t, n].map Value.int) h1 (some (.int z2), h2) ∧ uP h2 ∧ z2 = z1 := by
  obtain ⟨z1, h1, z2, h2, x1, x2, x3, x4, x5⟩ := tText (sc := sc) t n hp.1
  obtain ⟨q, q1, q2, q3⟩ := gFr (xs := [t, n]) (t := mMe20) (D := 100) (kM28 sc) rfl rfl rfl rfl rfl rfl hp.1.1 (by decide)
  have e1 := nEv_det q1 x1
  subst e1
  obtain ⟨p, p1, p2, p3⟩ := gFr (xs := [t, n]) (t := mMe135) (D := 100) (kM29 sc) rfl rfl rfl rfl rfl rfl x2 (by decide)
  have e2 := nEv_det p1 x3
  subst e2
  refine ⟨z1, h1, z2, h2, x1, x2, x3, uP_sl hp x4 (fun a j w => ?_), x5⟩
  have w1 : uNo kC28.2.2.2 = true := by decide +kernel
  have w2 : uNo kC29.2.2.2 = true := by decide +kernel
  exact (p3 a j (uNo_no w2 w)).trans (q3 a j (uNo_no w1 w))
theorem uPut {sc : List Int32} {h : mH} (t n v : Int32) (hp : uP h) : ∃ z1 h1 z2 h2, nEv sc 100 24 (.ref 0 :: [t, n, v].map Value.int) h (some (.int z1), h1) ∧ aHp h1 ∧ nEv sc 100 137 (.ref 53 :: [t, n, v].map Value.int) h1 (some (.int z2), h2) ∧ uP h2 ∧ z2 = z1 := by
  obtain ⟨z1, h1, z2, h2, x1, x2, x3, x4, x5⟩ := tPut (sc := sc) t n v hp.1
  obtain ⟨q, q1, q2, q3⟩ := gFr (xs := [t, n, v]) (t := mMe24) (D := 100) (kM30 sc) rfl rfl rfl rfl rfl rfl hp.1.1 (by decide)
  have e1 := nEv_det q1 x1
  subst e1
  obtain ⟨p, p1, p2, p3⟩ := gFr (xs := [t, n, v]) (t := mMe137) (D := 100) (kM31 sc) rfl rfl rfl rfl rfl rfl x2 (by decide)
  have e2 := nEv_det p1 x3
  subst e2
  refine ⟨z1, h1, z2, h2, x1, x2, x3, uP_sl hp x4 (fun a j w => ?_), x5⟩
  have w1 : uNo kC30.2.2.2 = true := by decide +kernel
  have w2 : uNo kC31.2.2.2 = true := by decide +kernel
  exact (p3 a j (uNo_no w2 w)).trans (q3 a j (uNo_no w1 w))
theorem uEmb {sc : List Int32} {h : mH} (t : Int32) (hp : uP h) : ∃ z1 h1 z2 h2, nEv sc 100 32 (.ref 0 :: [t].map Value.int) h (some (.int z1), h1) ∧ aHp h1 ∧ nEv sc 100 144 (.ref 53 :: [t].map Value.int) h1 (some (.int z2), h2) ∧ uP h2 := by
  have ht := aI_rg t
  have bad : ∀ u ∈ tFB, vOk [t] u → u.1.length = 1 → ∃ z1 h1 z2 h2, nEv sc 100 32 (.ref 0 :: [t].map Value.int) h (some (.int z1), h1) ∧ aHp h1 ∧ nEv sc 100 144 (.ref 53 :: [t].map Value.int) h1 (some (.int z2), h2) ∧ uP h2 := fun u hu hk hl => by
    obtain ⟨z1, h1, z2, h2, x1, x2, x3, x4, x5⟩ := gBad (P := uP) (xs := [t]) (tx := mMe32) (tm := mMe144) (D := 100) uP_a (qzbCk_ok (dm := 0) (List.forall_mem_nil _) (List.all_eq_true.mp tEXB u hu)) (qzbCk_ok (dm := 0) (List.forall_mem_nil _) (List.all_eq_true.mp tEMB u hu)) rfl rfl rfl rfl (fun h1 a b => uP_fr hp a b (by decide)) (fun h1 h2 p a b => uP_fr p a b (by decide)) hk (by rw [hl]; exact Nat.le_refl _) hp (by omega)
    exact ⟨z1, h1, z2, h2, x1, x2, x3, x4⟩
  by_cases h1 : t.toInt < 0
  · exact bad ([(aMi, -1)], [], -1) (by simp [tFB]) ⟨⟨⟨ht.1, by show t.toInt ≤ -1; omega⟩, trivial⟩, List.forall_mem_nil _⟩ rfl
  by_cases h2 : 3 < t.toInt
  · exact bad ([(4, aMa)], [], -1) (by simp [tFB]) ⟨⟨⟨by show 4 ≤ t.toInt; omega, ht.2⟩, trivial⟩, List.forall_mem_nil _⟩ rfl
  obtain ⟨c, hc⟩ : ∃ c : Nat, (c : Int) = t.toInt := ⟨t.toInt.toNat, by omega⟩
  have hc4 : c < 4 := by omega
  obtain ⟨s, s1, s2, s3, s4⟩ := tS hp.1 hc4
  have rc : (c : Int) ≤ t.toInt ∧ t.toInt ≤ (c : Int) := by omega
  by_cases h3 : s.toInt = -1
  · obtain ⟨z1, h1, z2, h2, x1, x2, x3, x4, x5⟩ := gOne (P := uP) (xs := [t]) (v := tFN c) (s := s) (ax := 33 + 2 * c) (jx := 1) (am := 56) (jm := c) (tx := mMe32) (tm := mMe144) (D := 100) uP_a (qzbCk_ok (dm := 0) (List.forall_mem_nil _) (List.all_eq_true.mp tEXN c (List.mem_range.mpr hc4))) (qzbCk_ok (dm := 0) (List.forall_mem_nil _) (List.all_eq_true.mp tEMN c (List.mem_range.mpr hc4))) rfl rfl rfl rfl (fun h1 a b => uP_fr hp a b (by decide)) (fun h1 h2 p a b => uP_fr p a b (by decide)) s1 s2 (tMiss_no (by decide) (by omega)) ⟨⟨rc, ⟨by show -1 ≤ s.toInt; omega, by show s.toInt ≤ -1; omega⟩, trivial⟩, List.forall_mem_nil _⟩ (by show 1 < 2; omega) hp (by omega)
    exact ⟨z1, h1, z2, h2, x1, x2, x3, x4⟩
  have et : Value.int t = sI (c : Int) := by unfold sI; rw [hc, Int32.ofInt_toInt]
  have z1 : hI h (33 + 2 * c) 1 = s.toInt := hI_of s1
  have z2 : hI h 56 c = s.toInt := hI_of s2
  by_cases hz : pRd (hI h (33 + 2 * c) 1) (hI h (34 + 2 * c)) = -9
  · obtain ⟨g, h1, n, x1, x2, x3, x4, x5, x6, x7, x9, -, -, -, -, x8⟩ := fEmbX (sc := sc) (d := 96) hc4 hp.1.1 (by omega) hz
    have k0 : ∀ e m, (e = 56 ∨ e = 57 ∨ (33 ≤ e ∧ e ≤ 40)) → aSlot h1 e m = aSlot h e m := fun e m w => by rw [x8, if_neg (by omega), if_neg (by omega), if_neg (by omega), if_neg (by omega), if_neg (by omega), x4 e m (by omega) (by omega) (by omega) (by omega)]
    have y0 : hI h1 56 c = s.toInt := by rw [← z2]; unfold hI; rw [k0 _ _ (by omega)]
    have hg : ∀ j : Nat, (j : Int) < s.toInt → (fun j => hI h1 57 (60 * c + j)) j = hI h (34 + 2 * c) j := fun j hj => by
      show hI h1 57 (60 * c + j) = hI h (34 + 2 * c) j
      unfold hI
      rw [k0 _ _ (by omega), (hp.1.2 c hc4).2 j (by omega)]
    have eq : pRd (hI h1 56 c) (fun j => hI h1 57 (60 * c + j)) = -9 := by
      rw [y0, ← hz, z1]
      exact pRd_cg hg
    obtain ⟨g2, h2, n2, y1, y2, y3, y4, y5, y6, y7, y9, -, -, y8⟩ := fEmbM (sc := sc) (d := 96) hc4 x3 (by omega) eq
    have hn : n2 = n := by
      have q := pSk_ge (s.toInt) (hI h (34 + 2 * c)) 61 0
      rw [y0, pSk_cg hg 61 0 (by omega), pDt_cg hg (by omega)] at y7
      rw [z1] at x7
      omega
    subst hn
    have a1 : nEv sc 100 32 (.ref 0 :: [t].map Value.int) h (some (sI (n2 : Int)), h1) := by
      show nEv sc 100 32 [.ref 0, .int t] h _
      rw [et]
      exact x1
    have a2 : nEv sc 100 144 (.ref 53 :: [t].map Value.int) h1 (some (sI (n2 : Int)), h2) := by
      show nEv sc 100 144 [.ref 53, .int t] h1 _
      rw [et]
      exact y1
    refine ⟨_, h1, _, h2, a1, x3, a2, tP_sl hp.1 y3 (fun e m w => by rw [y8, if_neg (by omega), if_neg (by omega), y4 e m (by omega) (by omega), k0 e m w]), ?_, fun k hk => Or.inl ⟨?_, ?_⟩⟩
    · rw [y8, y8, if_neg (by omega), if_neg (by omega), if_neg (by omega), if_pos (by omega), y4 3 3 (by omega) (by omega), x8, if_neg (by omega), if_neg (by omega), if_neg (by omega), if_neg (by omega), if_pos (by omega)]
      have e1 := hI_ok x2 rn_x
      have e2 := hI_ok y2 mz_c
      rw [x9] at e1
      rw [y9] at e2
      rw [e1, e2]
    · rw [y8, if_pos (by omega)]
    · rw [y8, if_neg (by omega), if_neg (by omega), y4 _ _ (by omega) (by omega), x8, if_pos (by omega)]
  · obtain ⟨h1, x1, x2, x3⟩ := fEmbXn (sc := sc) (d := 96) hc4 hp.1.1 (by omega) hz
    have k0 : ∀ e m, (e = 56 ∨ e = 57 ∨ (33 ≤ e ∧ e ≤ 40)) → aSlot h1 e m = aSlot h e m := fun e m w => by rw [x3 e m (by omega) (by omega) (by omega) (by omega)]
    have y0 : hI h1 56 c = s.toInt := by rw [← z2]; unfold hI; rw [k0 _ _ (by omega)]
    have hg : ∀ j : Nat, (j : Int) < s.toInt → (fun j => hI h1 57 (60 * c + j)) j = hI h (34 + 2 * c) j := fun j hj => by
      show hI h1 57 (60 * c + j) = hI h (34 + 2 * c) j
      unfold hI
      rw [k0 _ _ (by omega), (hp.1.2 c hc4).2 j (by omega)]
    have eq : pRd (hI h1 56 c) (fun j => hI h1 57 (60 * c + j)) ≠ -9 := by
      rw [z1] at hz
      rw [y0, pRd_cg hg]
      exact hz
    obtain ⟨h2, y1, y2, y3⟩ := fEmbMn (sc := sc) (d := 96) hc4 x2 (by omega) eq
    have a1 : nEv sc 100 32 (.ref 0 :: [t].map Value.int) h (some (sI (-4)), h1) := by
      show nEv sc 100 32 [.ref 0, .int t] h _
      rw [et]
      exact x1
    have a2 : nEv sc 100 144 (.ref 53 :: [t].map Value.int) h1 (some (sI (-4)), h2) := by
      show nEv sc 100 144 [.ref 53, .int t] h1 _
      rw [et]
      exact y1
    exact ⟨_, h1, _, h2, a1, x2, a2, uP_sl hp (tP_sl hp.1 y2 (fun e m w => by rw [y3 e m (by omega) (by omega), k0 e m w])) (fun e m w => by rw [y3 e m (by omega) (by omega), x3 e m (by omega) (by omega) (by omega) (by omega)])⟩
noncomputable def uKB : List vV := [([(aMi, -1)], [], -1), ([(3, aMa)], [], -1)]
noncomputable def uKN : vV := ([(0, 2), (0, 0)], [], -4)
set_option maxRecDepth 100000 in
theorem uKXB : uKB.all (fun v => qzbCk [] [] [] [] [] (vC 72 0 3 1 v.1 v.2.1 [] v.2.2 []) 100000) = true := by decide +kernel
set_option maxRecDepth 100000 in
theorem uKMB : uKB.all (fun v => qzbCk [] [] [] [] [] (vC 178 53 2 1 v.1 v.2.1 [] v.2.2 []) 100000) = true := by decide +kernel
set_option maxRecDepth 100000 in
theorem uKXN : qzbCk [] [] [] [] [] (vC 72 0 3 1 uKN.1 uKN.2.1 [(3, aK 3, (0, aVr 1, 0))] uKN.2.2 []) 100000 = true := by decide +kernel
set_option maxRecDepth 100000 in
theorem uKMN : qzbCk [] [] [] [] [] (vC 178 53 2 1 uKN.1 uKN.2.1 [(58, aK 0, (0, aVr 1, 0))] uKN.2.2 []) 100000 = true := by decide +kernel
noncomputable def uON (k : Nat) : vV := ([((k : Int), (k : Int)), (0, 0)], [], -3)
set_option maxRecDepth 100000 in
theorem uOXB : uKB.all (fun v => qzbCk [] [] [] [] [] (vC 74 0 3 1 v.1 v.2.1 [] v.2.2 []) 100000) = true := by decide +kernel
set_option maxRecDepth 100000 in
theorem uOMB : uKB.all (fun v => qzbCk [] [] [] [] [] (vC 179 53 2 1 v.1 v.2.1 [] v.2.2 []) 100000) = true := by decide +kernel
set_option maxRecDepth 100000 in
theorem uOXN : (List.range 3).all (fun k => qzbCk [] [] [] [] [] (vC 74 0 3 1 (uON k).1 (uON k).2.1 [(41 + 4 * k, aK 3, (0, aVr 1, 0))] (uON k).2.2 tFx) 100000) = true := by decide +kernel
set_option maxRecDepth 100000 in
theorem uOMN : (List.range 3).all (fun k => qzbCk [] [] [] [] [] (vC 179 53 2 1 (uON k).1 (uON k).2.1 [(61, aK k, (0, aVr 1, 0))] (uON k).2.2 tFm) 100000) = true := by decide +kernel
theorem uKeep {sc : List Int32} {h : mH} (t : Int32) (hp : uP h) : ∃ z1 h1 z2 h2, nEv sc 100 72 (.ref 0 :: [t].map Value.int) h (some (.int z1), h1) ∧ aHp h1 ∧ nEv sc 100 178 (.ref 53 :: [t].map Value.int) h1 (some (.int z2), h2) ∧ uP h2 := by
  have ht := aI_rg t
  have bad : ∀ u ∈ uKB, vOk [t] u → u.1.length = 1 → ∃ z1 h1 z2 h2, nEv sc 100 72 (.ref 0 :: [t].map Value.int) h (some (.int z1), h1) ∧ aHp h1 ∧ nEv sc 100 178 (.ref 53 :: [t].map Value.int) h1 (some (.int z2), h2) ∧ uP h2 := fun u hu hk hl => by
    obtain ⟨z1, h1, z2, h2, x1, x2, x3, x4, x5⟩ := gBad (P := uP) (xs := [t]) (tx := mMe72) (tm := mMe178) (D := 100) uP_a (qzbCk_ok (dm := 0) (List.forall_mem_nil _) (List.all_eq_true.mp uKXB u hu)) (qzbCk_ok (dm := 0) (List.forall_mem_nil _) (List.all_eq_true.mp uKMB u hu)) rfl rfl rfl rfl (fun h1 a b => uP_fr hp a b (by decide)) (fun h1 h2 p a b => uP_fr p a b (by decide)) hk (by rw [hl]; exact Nat.le_refl _) hp (by omega)
    exact ⟨z1, h1, z2, h2, x1, x2, x3, x4⟩
  by_cases h1 : t.toInt < 0
  · exact bad ([(aMi, -1)], [], -1) (by simp [uKB]) ⟨⟨⟨ht.1, by show t.toInt ≤ -1; omega⟩, trivial⟩, List.forall_mem_nil _⟩ rfl
  by_cases h2 : 2 < t.toInt
  · exact bad ([(3, aMa)], [], -1) (by simp [uKB]) ⟨⟨⟨by show 3 ≤ t.toInt; omega, ht.2⟩, trivial⟩, List.forall_mem_nil _⟩ rfl
  obtain ⟨k, hc⟩ : ∃ k : Nat, (k : Int) = t.toInt := ⟨t.toInt.toNat, by omega⟩
  have hk : k < 3 := by omega
  have et : Value.int t = sI (k : Int) := by unfold sI; rw [hc, Int32.ofInt_toInt]
  obtain ⟨s, s1, s3, s4⟩ := zCell_ok hp.1.1 xw_p
  have s2 : aSlot h 58 0 = some (.int s) := by rw [← hp.2.1]; exact s1
  have z1 := hI_of s1
  have z2 := hI_of s2
  by_cases h3 : s.toInt = 0
  · obtain ⟨z1, h1, z2, h2, x1, x2, x3, x4, x5⟩ := gOne (P := uP) (xs := [t]) (v := uKN) (s := s) (ax := 3) (jx := 3) (am := 58) (jm := 0) (tx := mMe72) (tm := mMe178) (D := 100) uP_a (qzbCk_ok (dm := 0) (List.forall_mem_nil _) uKXN) (qzbCk_ok (dm := 0) (List.forall_mem_nil _) uKMN) rfl rfl rfl rfl (fun h1 a b => uP_fr hp a b (by decide)) (fun h1 h2 p a b => uP_fr p a b (by decide)) s1 s2 (uMiss_no (by decide) (by omega)) ⟨⟨⟨by show 0 ≤ t.toInt; omega, by show t.toInt ≤ 2; omega⟩, ⟨by show 0 ≤ s.toInt; omega, by show s.toInt ≤ 0; omega⟩, trivial⟩, List.forall_mem_nil _⟩ (by show 1 < 2; omega) hp (by omega)
    exact ⟨z1, h1, z2, h2, x1, x2, x3, x4⟩
  obtain ⟨y, h1, x1, x2, -, x3⟩ := fKeepX (sc := sc) (d := 98) hp.1.1 hk (by omega)
  have e0 : aSlot h1 58 0 = aSlot h 58 0 := by rw [x3, if_neg (by omega), if_neg (by omega), if_neg (by omega), if_neg (by omega)]
  have z3 : hI h1 58 0 = hI h 58 0 := by unfold hI; rw [e0]
  obtain ⟨w, h2, y1, y2, -, y3⟩ := fKeepM (sc := sc) (d := 98) x2 hk (by omega)
  refine ⟨Int32.ofInt y, h1, Int32.ofInt w, h2, ?_, x2, ?_, tP_sl hp.1 y2 (fun e m w => by rw [y3, if_neg (by omega), if_neg (by omega), x3, if_neg (by omega), if_neg (by omega), if_neg (by omega), if_neg (by omega)]), ?_, fun j hj => ?_⟩
  · show nEv sc 100 72 [.ref 0, .int t] h _
    rw [et]
    exact x1
  · show nEv sc 100 178 [.ref 53, .int t] h1 _
    rw [et]
    exact y1
  · rw [y3, y3, if_neg (by omega), if_neg (by omega), if_neg (by omega), if_neg (by omega), e0, x3, if_neg (by omega), if_neg (by omega), if_neg (by omega), if_neg (by omega)]
    exact hp.2.1
  · by_cases hjk : j = k
    · subst hjk
      have q1 : aSlot h2 (41 + 4 * j) 3 = some (.int s) := by rw [y3, if_neg (by omega), if_neg (by omega), x3, if_neg (by omega), if_neg (by omega), if_neg (by omega), if_pos (by omega)]; exact s1
      refine Or.inr ⟨by rw [y3, if_pos (by omega)], ?_, by rw [hI_of q1]; exact h3⟩
      rw [q1, y3, if_neg (by omega), if_pos (by omega), show 201 * j - 201 * j = 0 by omega, e0]
      exact s2.symm
    · have q1 : aSlot h2 (41 + 4 * j) 3 = aSlot h (41 + 4 * j) 3 := by rw [y3, if_neg (by omega), if_neg (by omega), x3, if_neg (by omega), if_neg (by omega), if_neg (by omega), if_neg (by omega)]
      have q2 : aSlot h2 61 j = aSlot h 61 j := by rw [y3, if_neg (by omega), if_neg (by omega), x3, if_neg (by omega), if_neg (by omega), if_neg (by omega), if_neg (by omega)]
      have q3 : aSlot h2 60 (201 * j) = aSlot h 60 (201 * j) := by rw [y3, if_neg (by omega), if_neg (by omega), x3, if_neg (by omega), if_neg (by omega), if_neg (by omega), if_neg (by omega)]
      unfold hI
      rw [q1, q2, q3]
      exact hp.2.2 j hj
theorem uOn {sc : List Int32} {h : mH} (t : Int32) (hp : uP h) : ∃ z1 h1 z2 h2, nEv sc 100 74 (.ref 0 :: [t].map Value.int) h (some (.int z1), h1) ∧ aHp h1 ∧ nEv sc 100 179 (.ref 53 :: [t].map Value.int) h1 (some (.int z2), h2) ∧ uP h2 := by
  have ht := aI_rg t
  have bad : ∀ u ∈ uKB, vOk [t] u → u.1.length = 1 → ∃ z1 h1 z2 h2, nEv sc 100 74 (.ref 0 :: [t].map Value.int) h (some (.int z1), h1) ∧ aHp h1 ∧ nEv sc 100 179 (.ref 53 :: [t].map Value.int) h1 (some (.int z2), h2) ∧ uP h2 := fun u hu hk hl => by
    obtain ⟨z1, h1, z2, h2, x1, x2, x3, x4, x5⟩ := gBad (P := uP) (xs := [t]) (tx := mMe74) (tm := mMe179) (D := 100) uP_a (qzbCk_ok (dm := 0) (List.forall_mem_nil _) (List.all_eq_true.mp uOXB u hu)) (qzbCk_ok (dm := 0) (List.forall_mem_nil _) (List.all_eq_true.mp uOMB u hu)) rfl rfl rfl rfl (fun h1 a b => uP_fr hp a b (by decide)) (fun h1 h2 p a b => uP_fr p a b (by decide)) hk (by rw [hl]; exact Nat.le_refl _) hp (by omega)
    exact ⟨z1, h1, z2, h2, x1, x2, x3, x4⟩
  by_cases h1 : t.toInt < 0
  · exact bad ([(aMi, -1)], [], -1) (by simp [uKB]) ⟨⟨⟨ht.1, by show t.toInt ≤ -1; omega⟩, trivial⟩, List.forall_mem_nil _⟩ rfl
  by_cases h2 : 2 < t.toInt
  · exact bad ([(3, aMa)], [], -1) (by simp [uKB]) ⟨⟨⟨by show 3 ≤ t.toInt; omega, ht.2⟩, trivial⟩, List.forall_mem_nil _⟩ rfl
  obtain ⟨k, hc⟩ : ∃ k : Nat, (k : Int) = t.toInt := ⟨t.toInt.toNat, by omega⟩
  have hk : k < 3 := by omega
  have et : Value.int t = sI (k : Int) := by unfold sI; rw [hc, Int32.ofInt_toInt]
  have rc : (k : Int) ≤ t.toInt ∧ t.toInt ≤ (k : Int) := by omega
  have h0 : (Int32.ofInt 0).toInt = 0 := rfl
  rcases hp.2.2 k hk with ⟨s1, s2⟩ | ⟨s1, s2, s3⟩
  · obtain ⟨z1, h1, z2, h2, x1, x2, x3, x4, x5⟩ := gOne (P := uP) (xs := [t]) (v := uON k) (s := Int32.ofInt 0) (ax := 41 + 4 * k) (jx := 3) (am := 61) (jm := k) (tx := mMe74) (tm := mMe179) (D := 100) uP_a (qzbCk_ok (dm := 0) (List.forall_mem_nil _) (List.all_eq_true.mp uOXN k (List.mem_range.mpr hk))) (qzbCk_ok (dm := 0) (List.forall_mem_nil _) (List.all_eq_true.mp uOMN k (List.mem_range.mpr hk))) rfl rfl rfl rfl (fun h1 a b => uP_fr hp a b (by decide)) (fun h1 h2 p a b => uP_fr p a b (by decide)) s2 s1 (uMiss_no (by decide) (by omega)) ⟨⟨rc, ⟨by rw [h0]; decide, by rw [h0]; decide⟩, trivial⟩, List.forall_mem_nil _⟩ (by show 1 < 2; omega) hp (by omega)
    exact ⟨z1, h1, z2, h2, x1, x2, x3, x4⟩
  obtain ⟨y, h1, x1, x2, -, x3⟩ := fOnX (sc := sc) (d := 98) hp.1.1 hk s3
  have e0 : aSlot h1 61 k = some (sI 1) := by rw [x3, if_neg (by omega), if_neg (by omega), if_neg (by omega), if_neg (by omega)]; exact s1
  have z3 : hI h1 61 k = 1 := by rw [hI_of e0]; rfl
  obtain ⟨w, h2, y1, y2, -, y3⟩ := fOnM (sc := sc) (d := 98) x2 hk (by omega)
  refine ⟨Int32.ofInt y, h1, Int32.ofInt w, h2, ?_, x2, ?_, tP_sl hp.1 y2 (fun e m w => by rw [y3, if_neg (by omega), x3, if_neg (by omega), if_neg (by omega), if_neg (by omega), if_neg (by omega)]), ?_, fun j hj => ?_⟩
  · show nEv sc 100 74 [.ref 0, .int t] h _
    rw [et]
    exact x1
  · show nEv sc 100 179 [.ref 53, .int t] h1 _
    rw [et]
    exact y1
  · rw [y3, y3, if_neg (by omega), if_pos (by omega), x3, x3, if_neg (by omega), if_neg (by omega), if_neg (by omega), if_pos (by omega), if_neg (by omega), if_neg (by omega), if_neg (by omega), if_neg (by omega), Nat.add_zero]
    exact s2
  · have q1 : aSlot h2 (41 + 4 * j) 3 = aSlot h (41 + 4 * j) 3 := by rw [y3, if_neg (by omega), x3, if_neg (by omega), if_neg (by omega), if_neg (by omega), if_neg (by omega)]
    have q2 : aSlot h2 61 j = aSlot h 61 j := by rw [y3, if_neg (by omega), x3, if_neg (by omega), if_neg (by omega), if_neg (by omega), if_neg (by omega)]
    have q3 : aSlot h2 60 (201 * j) = aSlot h 60 (201 * j) := by rw [y3, if_neg (by omega), x3, if_neg (by omega), if_neg (by omega), if_neg (by omega), if_neg (by omega)]
    unfold hI
    rw [q1, q2, q3]
    exact hp.2.2 j hj
/-! person -/
noncomputable def uP1 : vV := ([(aMi, -1), vI, (0, 6)], [], -1)
noncomputable def uP2 : vV := ([(0, aMa), vI, (0, 6)], [(0, [(1, 0), (-1, 2)])], -1)
noncomputable def uP3 : vV := ([vI, (aMi, -1), (0, 6)], [], -1)
noncomputable def uP4 : vV := ([vI, (5, aMa), (0, 6)], [], -1)
noncomputable def uP5 : vV := ([(0, 5), (0, 4), (1, 6)], [(-1, [(-1, 0), (1, 2)])], 1)
noncomputable def uPV : List vV := [uP1, uP2, uP3, uP4, uP5]
noncomputable def uPx : aMd := [(0, 9, 9)]
noncomputable def uPm : aMd := [(53, 8, 8)]
set_option maxRecDepth 100000 in
theorem uPX : uPV.all (fun v => qzbCk [] [kC53, kC54, kC55] [] [] [] (vC 34 0 3 2 v.1 v.2.1 [(3, aK 3, (0, aVr 2, 0))] v.2.2 uPx) 100000) = true := by decide +kernel
set_option maxRecDepth 100000 in
theorem uPM : uPV.all (fun v => qzbCk [] [kC60] [] [] [] (vC 146 53 3 2 v.1 v.2.1 [(58, aK 0, (0, aVr 2, 0))] v.2.2 uPm) 100000) = true := by decide +kernel
theorem uPerson {sc : List Int32} {h : mH} (a w : Int32) (hp : uP h) : ∃ z1 h1 z2 h2, nEv sc 100 34 (.ref 0 :: [a, w].map Value.int) h (some (.int z1), h1) ∧ aHp h1 ∧ nEv sc 100 146 (.ref 53 :: [a, w].map Value.int) h1 (some (.int z2), h2) ∧ uP h2 ∧ z2 = z1 := by
  have ha := aI_rg a
  have hw := aI_rg w
  obtain ⟨s, s1, s3, s4⟩ := zCell_ok hp.1.1 xw_p
  have s2 : aSlot h 58 0 = some (.int s) := by rw [← hp.2.1]; exact s1
  have one : ∀ u ∈ uPV, vOk ([a, w] ++ [s]) u → u.1.length = 3 → ∃ z1 h1 z2 h2, nEv sc 100 34 (.ref 0 :: [a, w].map Value.int) h (some (.int z1), h1) ∧ aHp h1 ∧ nEv sc 100 146 (.ref 53 :: [a, w].map Value.int) h1 (some (.int z2), h2) ∧ uP h2 ∧ z2 = z1 := fun u hu hk hl =>
    gOne (P := uP) (xs := [a, w]) (v := u) (s := s) (ax := 3) (jx := 3) (am := 58) (jm := 0) (tx := mMe34) (tm := mMe146) (dm := 36) (D := 100) uP_a ((qzbCk_ok (dm := 9) (List.forall_mem_cons.mpr ⟨(kM53 sc).mono (by decide), List.forall_mem_cons.mpr ⟨(kM54 sc).mono (by decide), List.forall_mem_cons.mpr ⟨(kM55 sc).mono (by decide), List.forall_mem_nil _⟩⟩⟩) (List.all_eq_true.mp uPX u hu)).mono (by decide)) ((qzbCk_ok (dm := 18) (List.forall_mem_cons.mpr ⟨(kM60 sc).mono (by decide), List.forall_mem_nil _⟩) (List.all_eq_true.mp uPM u hu)).mono (by decide)) rfl rfl rfl rfl (fun h1 a b => uP_fr hp a b (by decide)) (fun h1 h2 p a b => uP_fr p a b (by decide)) s1 s2 (uMiss_no (by decide) (by omega)) hk (by rw [hl]; show 2 < 3; omega) hp (by omega)
  by_cases h1 : a.toInt < 0
  · exact one uP1 (by simp [uPV]) ⟨⟨⟨ha.1, by show a.toInt ≤ -1; omega⟩, hw, ⟨s3, s4⟩, trivial⟩, List.forall_mem_nil _⟩ rfl
  by_cases h2 : s.toInt ≤ a.toInt
  · refine one uP2 (by simp [uPV]) ⟨⟨⟨by show 0 ≤ a.toInt; omega, ha.2⟩, hw, ⟨s3, s4⟩, trivial⟩, List.forall_mem_singleton.mpr ⟨show aWf 3 (0, [(1, 0), (-1, 2)]) by unfold aWf aWl; decide, ?_⟩⟩ rfl
    show 0 ≤ 0 + (1 * a.toInt + (-1 * s.toInt + 0))
    omega
  by_cases h3 : w.toInt < 0
  · exact one uP3 (by simp [uPV]) ⟨⟨ha, ⟨hw.1, by show w.toInt ≤ -1; omega⟩, ⟨s3, s4⟩, trivial⟩, List.forall_mem_nil _⟩ rfl
  by_cases h4 : 4 < w.toInt
  · exact one uP4 (by simp [uPV]) ⟨⟨ha, ⟨by show 5 ≤ w.toInt; omega, hw.2⟩, ⟨s3, s4⟩, trivial⟩, List.forall_mem_nil _⟩ rfl
  · refine one uP5 (by simp [uPV]) ⟨⟨⟨by show 0 ≤ a.toInt; omega, by show a.toInt ≤ 5; omega⟩, ⟨by show 0 ≤ w.toInt; omega, by show w.toInt ≤ 4; omega⟩, ⟨by show 1 ≤ s.toInt; omega, s4⟩, trivial⟩, List.forall_mem_singleton.mpr ⟨show aWf 3 (-1, [(-1, 0), (1, 2)]) by unfold aWf aWl; decide, ?_⟩⟩ rfl
    show 0 ≤ -1 + (-1 * a.toInt + (1 * s.toInt + 0))
    omega
