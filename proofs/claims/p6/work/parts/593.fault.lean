/-! fault: class and reference answer alike -/
section PCG
variable {sz : Int} {g g1 : Nat → Int}
theorem pSk_cg (hg : ∀ j : Nat, (j : Int) < sz → g j = g1 j) : ∀ (n : Nat) (p : Int), 0 ≤ p → pSk sz g n p = pSk sz g1 n p
  | 0, p, _ => rfl
  | n + 1, p, hp => by
    unfold pSk
    by_cases h1 : p < sz
    · rw [hg p.toNat (by omega), pSk_cg hg n (p + 1) (by omega)]
    · rw [if_neg (fun q => h1 q.1), if_neg (fun q => h1 q.1)]
theorem pDt_cg (hg : ∀ j : Nat, (j : Int) < sz → g j = g1 j) {p : Int} (hp : 0 ≤ p) : pDt sz g p = pDt sz g1 p := by
  unfold pDt
  by_cases h1 : p < sz
  · rw [hg p.toNat (by omega)]
  · rw [if_neg (fun q => h1 q.1), if_neg (fun q => h1 q.1)]
theorem pLt_cg (hg : ∀ j : Nat, (j : Int) < sz → g j = g1 j) {p : Int} (hp : 0 ≤ p) : pLt sz g p = pLt sz g1 p := by
  unfold pLt
  by_cases h1 : p < sz
  · rw [hg p.toNat (by omega)]
  · rw [if_neg h1, if_neg h1]
theorem pFg_cg (hg : ∀ j : Nat, (j : Int) < sz → g j = g1 j) : ∀ (k : Nat) (p : Int), 0 ≤ p → pFg sz g k p = pFg sz g1 k p
  | 0, p, _ => rfl
  | k + 1, p, hp => by
    unfold pFg
    rw [pDt_cg hg hp, pFg_cg hg k (p + 1) (by omega)]
theorem pPs_cg (hg : ∀ j : Nat, (j : Int) < sz → g j = g1 j) {n : Nat} {p : Int} (hp : 0 ≤ p) : pPs sz g n p = pPs sz g1 n p := by
  unfold pPs
  rw [pLt_cg hg hp, pFg_cg hg n (p + 1) (by omega)]
theorem pEnd_cg (hg : ∀ j : Nat, (j : Int) < sz → g j = g1 j) {n : Nat} : ∀ (k : Nat) (p : Int), 0 ≤ p → pEnd sz g n k p = pEnd sz g1 n k p
  | 0, p, hp => by
    unfold pEnd
    rw [pSk_cg hg 61 p hp]
  | k + 1, p, hp => by
    have s1 := pSk_ge sz g1 61 p
    obtain ⟨q1, -, -⟩ := pPs_rg sz g1 n (pSk sz g1 61 p)
    unfold pEnd
    rw [pSk_cg hg 61 p hp, pPs_cg hg (by omega), pEnd_cg hg k _ (by omega)]
theorem pPo_cg (hg : ∀ j : Nat, (j : Int) < sz → g j = g1 j) {n : Nat} : ∀ (j : Nat) (p : Int), 0 ≤ p → pPo sz g n j p = pPo sz g1 n j p ∧ 0 ≤ pPo sz g1 n j p
  | 0, p, hp => by
    have s1 := pSk_ge sz g1 61 p
    exact ⟨pSk_cg hg 61 p hp, by show 0 ≤ pSk sz g1 61 p; omega⟩
  | j + 1, p, hp => by
    have s1 := pSk_ge sz g1 61 p
    unfold pPo
    rw [pSk_cg hg 61 p hp]
    exact pPo_cg hg j _ (by omega)
theorem pRd_cg (hg : ∀ j : Nat, (j : Int) < sz → g j = g1 j) : pRd sz g = pRd sz g1 := by
  have s1 := pSk_ge sz g1 61 0
  unfold pRd
  rw [pSk_cg hg 61 0 (by omega), pDt_cg hg (by omega), pEnd_cg hg _ _ (by omega)]
  by_cases h1 : pSk sz g1 61 0 < sz
  · rw [hg (pSk sz g1 61 0).toNat (by omega)]
  · rw [if_pos (fun q => h1 q.1), if_pos (fun q => h1 q.1)]
end PCG
section FLT
variable {sc : List Int32} {d : Nat} {h : mH}
theorem fFaultX {c : Nat} (hc : c < 4) (hh : aHp h) (hs : hI h (33 + 2 * c) 1 ≠ -1) : ∃ h1, nEv sc (d + 4) 25 [.ref 0, sI (c : Int)] h (some (sI (pRd (hI h (33 + 2 * c) 1) (hI h (34 + 2 * c)))), h1) ∧ aHp h1 ∧ (∀ e m, e ≠ 8 → e ≠ 9 → e ≠ 10 → e ≠ 11 → aSlot h1 e m = aSlot h e m) := by
  have sz := hI_rg hh (tx_z hc)
  obtain ⟨h1, r1, r2, r3, -⟩ := fRead (sc := sc) (d := d) hc hh
  refine ⟨h1, nEv_of (t := mMe25) rfl ?_, r2, r3⟩
  show nRn sc (d + 3) (mMT mMe25) (mMC mMe25) (0, [some (.ref 0), some (sI (c : Int)), none], [], h) _
  refine sP 2 (g1 := (2, [some (.ref 0), some (sI ((c : Int))), none], [sI ((c : Int)), .ref 0], h)) rfl ?_
  refine s_call (k := 21) (args := [.ref 0, sI ((c : Int))]) (st := []) (v := some (.ref (33 + 2 * c))) (h1 := h) rfl ⟨rfl, rfl⟩ rfl rfl rfl rfl (sRcv hh (a := 0) rfl rfl) rfl (fTextAt hh hc) ?_
  refine sP 2 (g1 := (5, [some (.ref 0), some (sI ((c : Int))), some (.ref (33 + 2 * c))], [.ref (33 + 2 * c)], h)) rfl ?_
  refine s_null rfl (Or.inr ⟨⟨_, rfl⟩, rfl⟩) ?_
  refine sP 1 (g1 := (9, [some (.ref 0), some (sI ((c : Int))), some (.ref (33 + 2 * c))], [.ref (33 + 2 * c)], h)) rfl ?_
  have rg1 := hI_rg hh (tx_z hc)
  refine s_get (a := 33 + 2 * c) (j := 1) hh rfl ⟨_, rfl⟩ (tx_a hc) rfl rfl (v := sI (hI h (33 + 2 * c) 1)) (hI_ok hh (tx_z hc)) ?_
  refine sP 1 (g1 := (11, [some (.ref 0), some (sI ((c : Int))), some (.ref (33 + 2 * c))], [sI ((-1)), sI (hI h (33 + 2 * c) 1)], h)) rfl ?_
  refine s_icmp (q := .ne) (a := hI h (33 + 2 * c) 1) (b := (-1)) rfl ⟨_, rfl⟩ rfl (by unfold sR aMi aMa; omega) (by unfold sR aMi aMa; omega) (fun hc2 => ?_) (fun hc2 => ?_)
  · have hc2 : ((hI h (33 + 2 * c) 1) : Int) ≠ ((-1)) := hc2
    refine sP 1 (g1 := (17, [some (.ref 0), some (sI ((c : Int))), some (.ref (33 + 2 * c))], [.ref 0], h)) rfl ?_
    refine s_get (a := 0) (j := 4) hh rfl ⟨_, rfl⟩ rfl rfl rfl (v := .ref 8) (hR_ok hh (by decide +kernel)) ?_
    refine sP 1 (g1 := (19, [some (.ref 0), some (sI ((c : Int))), some (.ref (33 + 2 * c))], [.ref (33 + 2 * c), .ref 8], h)) rfl ?_
    refine s_call (k := 26) (args := [.ref 8, .ref (33 + 2 * c)]) (st := []) (v := some (sI (pRd (hI h (33 + 2 * c) 1) (hI h (34 + 2 * c))))) (h1 := h1) rfl ⟨rfl, rfl⟩ rfl rfl rfl rfl (sRcv hh (a := 8) rfl rfl) rfl r1 ?_
    exact s_reti rfl rfl (Or.inl rfl) rfl rfl
  · have hc2 : ¬ (((hI h (33 + 2 * c) 1) : Int) ≠ ((-1))) := hc2
    omega
theorem fFaultM {c : Nat} (hc : c < 4) (hh : aHp h) (hs : hI h 56 c ≠ -1) : ∃ h1, nEv sc (d + 4) 138 [.ref 53, sI (c : Int)] h (some (sI (pRd (hI h 56 c) (fun j => hI h 57 (60 * c + j)))), h1) ∧ aHp h1 ∧ (∀ e m, ¬ (e = 53 ∧ m = 13) → e ≠ 59 → aSlot h1 e m = aSlot h e m) := by
  have sz := hI_rg hh (tx_n hc)
  obtain ⟨h1, r1, r2, r3, -⟩ := fFaultOf (sc := sc) (d := d) hc hh
  refine ⟨h1, nEv_of (t := mMe138) rfl ?_, r2, r3⟩
  show nRn sc (d + 3) (mMT mMe138) (mMC mMe138) (0, [some (.ref 53), some (sI (c : Int))], [], h) _
  refine sP 1 (g1 := (1, [some (.ref 53), some (sI ((c : Int)))], [sI ((c : Int))], h)) rfl ?_
  refine s_call (k := 136) (args := [sI ((c : Int))]) (st := []) (v := some (sI 1)) (h1 := h) rfl ⟨rfl, rfl⟩ rfl rfl rfl rfl rfl rfl (fIsText1 hc) ?_
  refine s_ifc (q := .ne) (a := 1) rfl ⟨_, rfl⟩ rfl (by unfold sR aMi aMa; omega) (fun hc1 => ?_) (fun hc1 => ?_)
  · have hc1 : (1 : Int) ≠ 0 := hc1
    refine sP 1 (g1 := (6, [some (.ref 53), some (sI ((c : Int)))], [.ref 53], h)) rfl ?_
    refine s_get (a := 53) (j := 2) hh rfl ⟨_, rfl⟩ rfl rfl rfl (v := .ref 56) (hR_ok hh (by decide +kernel)) ?_
    refine sP 1 (g1 := (8, [some (.ref 53), some (sI ((c : Int)))], [sI ((c : Int)), .ref 56], h)) rfl ?_
    have rg2 := hI_rg hh (tx_n hc)
    refine s_iald (a := 56) (n := 4) (j := (c : Int)) hh rfl rfl rfl (by omega) (by omega) (by decide) (v := sI (hI h 56 c)) (by rw [Int.toNat_natCast]; exact hI_ok hh (tx_n hc)) ?_
    refine s_ifc (q := .ge) (a := hI h 56 c) rfl ⟨_, rfl⟩ rfl (by unfold sR aMi aMa; omega) (fun hc3 => ?_) (fun hc3 => ?_)
    · have hc3 : (0 : Int) ≤ (hI h 56 c) := hc3
      refine sP 2 (g1 := (16, [some (.ref 53), some (sI ((c : Int)))], [sI ((c : Int)), .ref 53], h)) rfl ?_
      refine s_call (k := 139) (args := [.ref 53, sI ((c : Int))]) (st := []) (v := some (sI (pRd (hI h 56 c) (fun j => hI h 57 (60 * c + j))))) (h1 := h1) rfl ⟨rfl, rfl⟩ rfl rfl rfl rfl (sRcv hh (a := 53) rfl rfl) rfl r1 ?_
      exact s_reti rfl rfl (Or.inl rfl) rfl rfl
    · have hc3 : ¬ ((0 : Int) ≤ (hI h 56 c)) := hc3
      omega
  · have hc1 : ¬ ((1 : Int) ≠ 0) := hc1
    omega
end FLT
theorem tP_sl {h h1 : mH} (hp : tP h) (hh1 : aHp h1) (hs : ∀ e m, (e = 56 ∨ e = 57 ∨ (33 ≤ e ∧ e ≤ 40)) → aSlot h1 e m = aSlot h e m) : tP h1 := by
  refine ⟨hh1, fun c hc => ⟨?_, fun i hi => ?_⟩⟩
  · rw [hs _ _ (by omega), hs _ _ (by omega)]
    exact (hp.2 c hc).1
  · rw [hs _ _ (by omega), hs _ _ (by omega)]
    exact (hp.2 c hc).2 i hi
noncomputable def tFB : List vV := [([(aMi, -1)], [], -1), ([(4, aMa)], [], -1)]
noncomputable def tFN (c : Nat) : vV := ([((c : Int), (c : Int)), (-1, -1)], [], -3)
noncomputable def tFx : aMd := [(0, 8, 8), (20, 1, 1)]
noncomputable def tFm : aMd := [(53, 11, 11), (62, 1, 1)]
set_option maxRecDepth 100000 in
theorem tFXB : tFB.all (fun v => qzbCk [] [] [] [] [] (vC 25 0 3 1 v.1 v.2.1 [] v.2.2 tFx) 100000) = true := by decide +kernel
set_option maxRecDepth 100000 in
theorem tFMB : tFB.all (fun v => qzbCk [] [] [] [] [] (vC 138 53 2 1 v.1 v.2.1 [] v.2.2 tFm) 100000) = true := by decide +kernel
set_option maxRecDepth 100000 in
theorem tFXN : (List.range 4).all (fun c => qzbCk [] [] [] [] [] (vC 25 0 3 1 (tFN c).1 (tFN c).2.1 [(33 + 2 * c, aK 1, (0, aVr 1, 0))] (tFN c).2.2 tFx) 100000) = true := by decide +kernel
set_option maxRecDepth 100000 in
theorem tFMN : (List.range 4).all (fun c => qzbCk [] [] [] [] [] (vC 138 53 2 1 (tFN c).1 (tFN c).2.1 [(56, aK c, (0, aVr 1, 0))] (tFN c).2.2 tFm) 100000) = true := by decide +kernel
theorem tFault {sc : List Int32} {h : mH} (t : Int32) (hp : tP h) : ∃ z1 h1 z2 h2, nEv sc 100 25 (.ref 0 :: [t].map Value.int) h (some (.int z1), h1) ∧ aHp h1 ∧ nEv sc 100 138 (.ref 53 :: [t].map Value.int) h1 (some (.int z2), h2) ∧ tP h2 ∧ z2 = z1 := by
  have ht := aI_rg t
  have bad : ∀ u ∈ tFB, vOk [t] u → u.1.length = 1 → ∃ z1 h1 z2 h2, nEv sc 100 25 (.ref 0 :: [t].map Value.int) h (some (.int z1), h1) ∧ aHp h1 ∧ nEv sc 100 138 (.ref 53 :: [t].map Value.int) h1 (some (.int z2), h2) ∧ tP h2 ∧ z2 = z1 := fun u hu hk hl =>
    tBad (xs := [t]) (tx := mMe25) (tm := mMe138) (qzbCk_ok (dm := 0) (List.forall_mem_nil _) (List.all_eq_true.mp tFXB u hu)) (qzbCk_ok (dm := 0) (List.forall_mem_nil _) (List.all_eq_true.mp tFMB u hu)) rfl rfl rfl rfl (by decide) (by decide) hk (by rw [hl]; exact Nat.le_refl _) hp (by omega)
  by_cases h1 : t.toInt < 0
  · exact bad ([(aMi, -1)], [], -1) (by simp [tFB]) ⟨⟨⟨ht.1, by show t.toInt ≤ -1; omega⟩, trivial⟩, List.forall_mem_nil _⟩ rfl
  by_cases h2 : 3 < t.toInt
  · exact bad ([(4, aMa)], [], -1) (by simp [tFB]) ⟨⟨⟨by show 4 ≤ t.toInt; omega, ht.2⟩, trivial⟩, List.forall_mem_nil _⟩ rfl
  obtain ⟨c, hc⟩ : ∃ c : Nat, (c : Int) = t.toInt := ⟨t.toInt.toNat, by omega⟩
  have hc4 : c < 4 := by omega
  obtain ⟨s, s1, s2, s3, s4⟩ := tS hp hc4
  have rc : (c : Int) ≤ t.toInt ∧ t.toInt ≤ (c : Int) := by omega
  by_cases h3 : s.toInt = -1
  · exact tOne (xs := [t]) (v := tFN c) (s := s) (tx := mMe25) (tm := mMe138) (qzbCk_ok (dm := 0) (List.forall_mem_nil _) (List.all_eq_true.mp tFXN c (List.mem_range.mpr hc4))) (qzbCk_ok (dm := 0) (List.forall_mem_nil _) (List.all_eq_true.mp tFMN c (List.mem_range.mpr hc4))) rfl rfl rfl rfl (by decide) (by decide) hc4 s1 ⟨⟨rc, ⟨by show -1 ≤ s.toInt; omega, by show s.toInt ≤ -1; omega⟩, trivial⟩, List.forall_mem_nil _⟩ (by show 1 < 2; omega) hp (by omega)
  have et : Value.int t = sI (c : Int) := by unfold sI; rw [hc, Int32.ofInt_toInt]
  have z1 : hI h (33 + 2 * c) 1 = s.toInt := hI_of s1
  have z2 : hI h 56 c = s.toInt := hI_of s2
  obtain ⟨h1, x1, x2, x3⟩ := fFaultX (sc := sc) (d := 96) hc4 hp.1 (by omega)
  have y0 : hI h1 56 c = hI h 56 c := by unfold hI; rw [x3 _ _ (by omega) (by omega) (by omega) (by omega)]
  obtain ⟨h2, y1, y2, y3⟩ := fFaultM (sc := sc) (d := 96) hc4 x2 (by omega)
  have eq : pRd (hI h1 56 c) (fun j => hI h1 57 (60 * c + j)) = pRd (hI h (33 + 2 * c) 1) (hI h (34 + 2 * c)) := by
    rw [y0, z2, z1]
    refine pRd_cg (fun j hj => ?_)
    show hI h1 57 (60 * c + j) = hI h (34 + 2 * c) j
    unfold hI
    rw [x3 _ _ (by omega) (by omega) (by omega) (by omega), (hp.2 c hc4).2 j (by omega)]
  rw [eq] at y1
  have a1 : nEv sc 100 25 (.ref 0 :: [t].map Value.int) h (some (sI (pRd (hI h (33 + 2 * c) 1) (hI h (34 + 2 * c)))), h1) := by
    show nEv sc 100 25 [.ref 0, .int t] h _
    rw [et]
    exact x1
  have a2 : nEv sc 100 138 (.ref 53 :: [t].map Value.int) h1 (some (sI (pRd (hI h (33 + 2 * c) 1) (hI h (34 + 2 * c)))), h2) := by
    show nEv sc 100 138 [.ref 53, .int t] h1 _
    rw [et]
    exact y1
  exact ⟨_, h1, _, h2, a1, x2, a2, tP_sl hp y2 (fun e m w => by rw [y3 e m (by omega) (by omega), x3 e m (by omega) (by omega) (by omega) (by omega)]), rfl⟩
