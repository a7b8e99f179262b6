/-! what is found: text, put, fault, embassy, on, mark -/
def dK (h g : mH) : Prop := ∀ p m, ((p = 0 ∧ m = 8) ∨ p = 20 ∨ (p = 53 ∧ m = 11) ∨ p = 62) → aSlot g p m = aSlot h p m
theorem dK.rf (h : mH) : dK h h := fun _ _ _ => rfl
theorem dP_K {h g : mH} (hd : dP h) (hk : dK h g) : dP g := by
  refine ⟨?_, fun j hj => ?_⟩
  · rw [hk 0 8 (by omega), hk 53 11 (by omega)]
    exact hd.1
  · rw [hk 20 j (by omega), hk 62 j (by omega)]
    exact hd.2 j hj
theorem dK.tr {h g g1 : mH} (a : dK h g) (b : dK g g1) : dK h g1 := fun p m w => (b p m w).trans (a p m w)
theorem d_found {f : Nat} {h h1 h2 : mH} (hf : f < 6) (hp : vP h) (hd : dP h) (hx : oFX f h h1) (hm : oFM f h1 h2) : dP h2 := (v_found hf hp hx hm).2.1 hd
def dMiss (ms : aMd) : Bool := ms.all (fun m => decide (¬ (m.1 = 0 ∧ m.2.1 ≤ 8 ∧ 8 ≤ m.2.2) ∧ m.1 ≠ 20 ∧ ¬ (m.1 = 53 ∧ m.2.1 ≤ 11 ∧ 11 ≤ m.2.2) ∧ m.1 ≠ 62))
theorem dMiss_K {h h1 : mH} {ms : aMd} (hf : nFr ms h h1) (hm : dMiss ms = true) : dK h h1 := by
  intro p m w
  refine hf p m ?_
  rintro ⟨q, m1, m2, m3, m4⟩
  have h2 := of_decide_eq_true (List.all_eq_true.mp hm q m1)
  omega
theorem db1 {sc : List Int32} {h : mH} {kx km : Nat} {x : Int32} {Q : Int32 → Int32 → Prop} (hw : ∃ z1 h1 z2 h2, nEv sc 100 kx (.ref 0 :: [x].map Value.int) h (some (.int z1), h1) ∧ aHp h1 ∧ nEv sc 100 km (.ref 53 :: [x].map Value.int) h1 (some (.int z2), h2) ∧ vP h2 ∧ Q z1 z2) {v1 v2 : Option Value} {g1 g2 : mH} (a : nEv sc 100 kx [.ref 0, sI x.toInt] h (v1, g1)) (b : nEv sc 100 km [.ref 53, sI x.toInt] g1 (v2, g2)) (hd : dP g2) : ∃ z1 h1 z2 h2, nEv sc 100 kx (.ref 0 :: [x].map Value.int) h (some (.int z1), h1) ∧ aHp h1 ∧ nEv sc 100 km (.ref 53 :: [x].map Value.int) h1 (some (.int z2), h2) ∧ vP h2 ∧ dP h2 := by
  obtain ⟨z1, h1, z2, h2, a1, a2, a3, a4, -⟩ := hw
  rw [← sI_of x] at a b
  have e1 := nEv_det a1 a
  cases e1
  have e2 := nEv_det a3 b
  cases e2
  exact ⟨z1, _, z2, _, a1, a2, a3, a4, hd⟩
theorem db2 {sc : List Int32} {h : mH} {kx km : Nat} {x y : Int32} {Q : Int32 → Int32 → Prop} (hw : ∃ z1 h1 z2 h2, nEv sc 100 kx (.ref 0 :: [x, y].map Value.int) h (some (.int z1), h1) ∧ aHp h1 ∧ nEv sc 100 km (.ref 53 :: [x, y].map Value.int) h1 (some (.int z2), h2) ∧ vP h2 ∧ Q z1 z2) {v1 v2 : Option Value} {g1 g2 : mH} (a : nEv sc 100 kx [.ref 0, sI x.toInt, sI y.toInt] h (v1, g1)) (b : nEv sc 100 km [.ref 53, sI x.toInt, sI y.toInt] g1 (v2, g2)) (hd : dP g2) : ∃ z1 h1 z2 h2, nEv sc 100 kx (.ref 0 :: [x, y].map Value.int) h (some (.int z1), h1) ∧ aHp h1 ∧ nEv sc 100 km (.ref 53 :: [x, y].map Value.int) h1 (some (.int z2), h2) ∧ vP h2 ∧ dP h2 := by
  obtain ⟨z1, h1, z2, h2, a1, a2, a3, a4, -⟩ := hw
  rw [← sI_of x, ← sI_of y] at a b
  have e1 := nEv_det a1 a
  cases e1
  have e2 := nEv_det a3 b
  cases e2
  exact ⟨z1, _, z2, _, a1, a2, a3, a4, hd⟩
theorem db3 {sc : List Int32} {h : mH} {kx km : Nat} {x y z : Int32} {Q : Int32 → Int32 → Prop} (hw : ∃ z1 h1 z2 h2, nEv sc 100 kx (.ref 0 :: [x, y, z].map Value.int) h (some (.int z1), h1) ∧ aHp h1 ∧ nEv sc 100 km (.ref 53 :: [x, y, z].map Value.int) h1 (some (.int z2), h2) ∧ vP h2 ∧ Q z1 z2) {v1 v2 : Option Value} {g1 g2 : mH} (a : nEv sc 100 kx [.ref 0, sI x.toInt, sI y.toInt, .int z] h (v1, g1)) (b : nEv sc 100 km [.ref 53, sI x.toInt, sI y.toInt, .int z] g1 (v2, g2)) (hd : dP g2) : ∃ z1 h1 z2 h2, nEv sc 100 kx (.ref 0 :: [x, y, z].map Value.int) h (some (.int z1), h1) ∧ aHp h1 ∧ nEv sc 100 km (.ref 53 :: [x, y, z].map Value.int) h1 (some (.int z2), h2) ∧ vP h2 ∧ dP h2 := by
  obtain ⟨z1, h1, z2, h2, a1, a2, a3, a4, -⟩ := hw
  rw [← sI_of x, ← sI_of y] at a b
  have e1 := nEv_det a1 a
  cases e1
  have e2 := nEv_det a3 b
  cases e2
  exact ⟨z1, _, z2, _, a1, a2, a3, a4, hd⟩
section FIND
variable {sc : List Int32} {d : Nat} {h : mH}
theorem fTextNo {r : Int} (rr : sR r) (hr : ¬ (0 ≤ r ∧ r < 4)) : nEv sc (d + 1) 21 [.ref 0, sI r] h (some .null, h) := by
  unfold sR aMi aMa at rr
  refine nEv_of (t := mMe21) rfl ?_
  show nRn sc (d) (mMT mMe21) (mMC mMe21) (0, [some (.ref 0), some (sI r)], [], h) _
  refine sP 1 (g1 := (1, [some (.ref 0), some (sI r)], [sI r], h)) rfl ?_
  refine s_ifc (q := .lt) (a := r) rfl ⟨_, rfl⟩ rfl (by unfold sR aMi aMa; omega) (fun hc1 => ?_) (fun hc1 => ?_)
  · have hc1 : (r : Int) < 0 := hc1
    refine sP 1 (g1 := (11, [some (.ref 0), some (sI r)], [.null], h)) rfl ?_
    exact s_ret rfl rfl
  · have hc1 : ¬ ((r : Int) < 0) := hc1
    refine sP 2 (g1 := (4, [some (.ref 0), some (sI r)], [sI 4, sI r], h)) rfl ?_
    refine s_icmp (q := .ge) (a := r) (b := 4) rfl ⟨_, rfl⟩ rfl (by unfold sR aMi aMa; omega) (by unfold sR aMi aMa; omega) (fun hc2 => ?_) (fun hc2 => ?_)
    · have hc2 : (4 : Int) ≤ r := hc2
      refine sP 1 (g1 := (11, [some (.ref 0), some (sI r)], [.null], h)) rfl ?_
      exact s_ret rfl rfl
    · have hc2 : ¬ ((4 : Int) ≤ r) := hc2
      omega
theorem fKeptNo {r : Int} (rr : sR r) (hr : ¬ (0 ≤ r ∧ r < 3)) : nEv sc (d + 1) 73 [.ref 0, sI r] h (some .null, h) := by
  unfold sR aMi aMa at rr
  refine nEv_of (t := mMe73) rfl ?_
  show nRn sc (d) (mMT mMe73) (mMC mMe73) (0, [some (.ref 0), some (sI r)], [], h) _
  refine sP 1 (g1 := (1, [some (.ref 0), some (sI r)], [sI r], h)) rfl ?_
  refine s_ifc (q := .lt) (a := r) rfl ⟨_, rfl⟩ rfl (by unfold sR aMi aMa; omega) (fun hc1 => ?_) (fun hc1 => ?_)
  · have hc1 : (r : Int) < 0 := hc1
    refine sP 1 (g1 := (11, [some (.ref 0), some (sI r)], [.null], h)) rfl ?_
    exact s_ret rfl rfl
  · have hc1 : ¬ ((r : Int) < 0) := hc1
    refine sP 2 (g1 := (4, [some (.ref 0), some (sI r)], [sI 3, sI r], h)) rfl ?_
    refine s_icmp (q := .ge) (a := r) (b := 3) rfl ⟨_, rfl⟩ rfl (by unfold sR aMi aMa; omega) (by unfold sR aMi aMa; omega) (fun hc2 => ?_) (fun hc2 => ?_)
    · have hc2 : (3 : Int) ≤ r := hc2
      refine sP 1 (g1 := (11, [some (.ref 0), some (sI r)], [.null], h)) rfl ?_
      exact s_ret rfl rfl
    · have hc2 : ¬ ((3 : Int) ≤ r) := hc2
      omega
theorem fIsTx {r : Int} (rr : sR r) : nEv sc (d + 2) 136 [sI r] h (some (sI (if 0 ≤ r ∧ r < 4 then 1 else 0)), h) := by
  unfold sR aMi aMa at rr
  have ev := fIn (sc := sc) (d := d) (h := h) (a := r) (b := 0) (e := 3) (by omega) (by omega) (by omega) (by omega) (by omega) (by omega)
  have e0 : (if 0 ≤ r ∧ r ≤ 3 then (1 : Int) else 0) = if 0 ≤ r ∧ r < 4 then 1 else 0 := by
    by_cases c : 0 ≤ r ∧ r < 4
    · rw [if_pos c, if_pos (by omega)]
    · rw [if_neg c, if_neg (by omega)]
  rw [e0] at ev
  have e1 : (if 0 ≤ r ∧ r < 4 then (1 : Int) else 0) = 0 ∨ (if 0 ≤ r ∧ r < 4 then (1 : Int) else 0) = 1 := by
    split
    · exact Or.inr rfl
    · exact Or.inl rfl
  generalize (if 0 ≤ r ∧ r < 4 then (1 : Int) else 0) = z at *
  refine nEv_of (t := mMe136) rfl ?_
  show nRn sc (d + 1) (mMT mMe136) (mMC mMe136) (0, [some (sI r)], [], h) _
  refine sP 1 (g1 := (1, [some (sI r)], [sI r], h)) rfl ?_
  refine s_i2l (a := r) rfl rfl (by unfold sR aMi aMa; omega) ?_
  refine sP 2 (g1 := (4, [some (sI r)], [sJ 3, sJ 0, sJ r], h)) rfl ?_
  refine s_call (k := 127) (args := [sJ r, sJ 0, sJ 3]) (st := []) (v := some (sI z)) (h1 := h) rfl ⟨rfl, rfl⟩ rfl rfl rfl rfl rfl rfl ev ?_
  exact s_reti rfl rfl (Or.inr ⟨rfl, by omega⟩) rfl rfl
theorem fk_t {k : Nat} (hk : k < 3) : sTg (41 + 4 * k) = some (1, 7) := (show ∀ k, k < 3 → sTg (41 + 4 * k) = some (1, 7) by decide +kernel) k hk
theorem fk_61 {k : Nat} (hk : k < 3) : zCell 61 k 0 1 = true := (show ∀ k, k < 3 → zCell 61 k 0 1 = true by decide +kernel) k hk
theorem fTextXb0 {t n : Int} (hh : aHp h) (rr : sR t) (rn : sR n) (hc : ¬ (0 ≤ t ∧ t < 4)) : nEv sc (d + 3) 20 [.ref 0, sI t, sI n] h (some (sI (-1)), h) := by
  unfold sR aMi aMa at rr rn
  refine nEv_of (t := mMe20) rfl ?_
  show nRn sc (d + 2) (mMT mMe20) (mMC mMe20) (0, [some (.ref 0), some (sI t), some (sI n), none], [], h) _
  refine sP 2 (g1 := (2, [some (.ref 0), some (sI t), some (sI n), none], [sI t, .ref 0], h)) rfl ?_
  refine s_call (k := 21) (args := [.ref 0, sI t]) (st := []) (v := some (.null)) (h1 := h) rfl ⟨rfl, rfl⟩ rfl rfl rfl rfl (sRcv hh (a := 0) rfl rfl) rfl (fTextNo (by unfold sR aMi aMa; omega) (by omega)) ?_
  refine sP 2 (g1 := (5, [some (.ref 0), some (sI t), some (sI n), some (.null)], [.null], h)) rfl ?_
  refine s_nil rfl (Or.inl ⟨⟨_, rfl⟩, rfl⟩) ?_
  refine sP 1 (g1 := (10, [some (.ref 0), some (sI t), some (sI n), some (.null)], [sI ((-1))], h)) rfl ?_
  exact s_reti rfl rfl (Or.inl rfl) rfl rfl
theorem fTextXb1 {c : Nat} {n : Int} (hh : aHp h) (hc : c < 4) (rn : sR n) (hn : 60 < n) : nEv sc (d + 3) 20 [.ref 0, sI (c : Int), sI n] h (some (sI (-1)), h) := by
  unfold sR aMi aMa at rn
  refine nEv_of (t := mMe20) rfl ?_
  show nRn sc (d + 2) (mMT mMe20) (mMC mMe20) (0, [some (.ref 0), some (sI ((c : Int))), some (sI n), none], [], h) _
  refine sP 2 (g1 := (2, [some (.ref 0), some (sI ((c : Int))), some (sI n), none], [sI ((c : Int)), .ref 0], h)) rfl ?_
  refine s_call (k := 21) (args := [.ref 0, sI ((c : Int))]) (st := []) (v := some (.ref (33 + 2 * c))) (h1 := h) rfl ⟨rfl, rfl⟩ rfl rfl rfl rfl (sRcv hh (a := 0) rfl rfl) rfl (fTextAt hh hc) ?_
  refine sP 2 (g1 := (5, [some (.ref 0), some (sI ((c : Int))), some (sI n), some (.ref (33 + 2 * c))], [.ref (33 + 2 * c)], h)) rfl ?_
  refine s_null rfl (Or.inl ⟨⟨_, rfl⟩, rfl⟩) ?_
  refine sP 2 (g1 := (8, [some (.ref 0), some (sI ((c : Int))), some (sI n), some (.ref (33 + 2 * c))], [sI 60, sI n], h)) rfl ?_
  refine s_icmp (q := .le) (a := n) (b := 60) rfl ⟨_, rfl⟩ rfl (by unfold sR aMi aMa; omega) (by unfold sR aMi aMa; omega) (fun hc1 => ?_) (fun hc1 => ?_)
  · have hc1 : (n : Int) ≤ 60 := hc1
    omega
  · have hc1 : ¬ ((n : Int) ≤ 60) := hc1
    refine sP 1 (g1 := (10, [some (.ref 0), some (sI ((c : Int))), some (sI n), some (.ref (33 + 2 * c))], [sI ((-1))], h)) rfl ?_
    exact s_reti rfl rfl (Or.inl rfl) rfl rfl
theorem fTextXw {c : Nat} {n : Int} (hh : aHp h) (hc : c < 4) (rn : sR n) (hn : n < 0) : ∃ g, nEv sc (d + 3) 20 [.ref 0, sI (c : Int), sI n] h (some (sI (-3)), g) ∧ oFX 5 h g := by
  unfold sR aMi aMa at rn
  obtain ⟨g1, r1, r2, r3⟩ := fFoundX (sc := sc) (d := d + 1) (f := 5) hh (by omega)
  refine ⟨g1, nEv_of (t := mMe20) rfl ?_, r2, r3⟩
  show nRn sc (d + 2) (mMT mMe20) (mMC mMe20) (0, [some (.ref 0), some (sI ((c : Int))), some (sI n), none], [], h) _
  refine sP 2 (g1 := (2, [some (.ref 0), some (sI ((c : Int))), some (sI n), none], [sI ((c : Int)), .ref 0], h)) rfl ?_
  refine s_call (k := 21) (args := [.ref 0, sI ((c : Int))]) (st := []) (v := some (.ref (33 + 2 * c))) (h1 := h) rfl ⟨rfl, rfl⟩ rfl rfl rfl rfl (sRcv hh (a := 0) rfl rfl) rfl (fTextAt hh hc) ?_
  refine sP 2 (g1 := (5, [some (.ref 0), some (sI ((c : Int))), some (sI n), some (.ref (33 + 2 * c))], [.ref (33 + 2 * c)], h)) rfl ?_
  refine s_null rfl (Or.inl ⟨⟨_, rfl⟩, rfl⟩) ?_
  refine sP 2 (g1 := (8, [some (.ref 0), some (sI ((c : Int))), some (sI n), some (.ref (33 + 2 * c))], [sI 60, sI n], h)) rfl ?_
  refine s_icmp (q := .le) (a := n) (b := 60) rfl ⟨_, rfl⟩ rfl (by unfold sR aMi aMa; omega) (by unfold sR aMi aMa; omega) (fun hc1 => ?_) (fun hc1 => ?_)
  · have hc1 : (n : Int) ≤ 60 := hc1
    refine sP 1 (g1 := (12, [some (.ref 0), some (sI ((c : Int))), some (sI n), some (.ref (33 + 2 * c))], [sI n], h)) rfl ?_
    refine s_ifc (q := .ge) (a := n) rfl ⟨_, rfl⟩ rfl (by unfold sR aMi aMa; omega) (fun hc2 => ?_) (fun hc2 => ?_)
    · have hc2 : (0 : Int) ≤ n := hc2
      omega
    · have hc2 : ¬ ((0 : Int) ≤ n) := hc2
      refine sP 2 (g1 := (15, [some (.ref 0), some (sI ((c : Int))), some (sI n), some (.ref (33 + 2 * c))], [sI 5, .ref 0], h)) rfl ?_
      refine s_call (k := 9) (args := [.ref 0, sI 5]) (st := []) (v := some (sI ((-3)))) (h1 := g1) rfl ⟨rfl, rfl⟩ rfl rfl rfl rfl (sRcv hh (a := 0) rfl rfl) rfl r1 ?_
      exact s_reti rfl rfl (Or.inl rfl) rfl rfl
  · have hc1 : ¬ ((n : Int) ≤ 60) := hc1
    omega
theorem fTextMb0 {t n : Int} (hh : aHp h) (rr : sR t) (rn : sR n) (hc : ¬ (0 ≤ t ∧ t < 4)) : nEv sc (d + 3) 135 [.ref 53, sI t, sI n] h (some (sI (-1)), h) := by
  unfold sR aMi aMa at rr rn
  refine nEv_of (t := mMe135) rfl ?_
  show nRn sc (d + 2) (mMT mMe135) (mMC mMe135) (0, [some (.ref 53), some (sI t), some (sI n), none], [], h) _
  refine sP 1 (g1 := (1, [some (.ref 53), some (sI t), some (sI n), none], [sI t], h)) rfl ?_
  have ev1 := fIsTx (sc := sc) (d := d) (h := h) (r := t) (by unfold sR aMi aMa; omega)
  rw [if_neg (by omega)] at ev1
  refine s_call (k := 136) (args := [sI t]) (st := []) (v := some (sI 0)) (h1 := h) rfl ⟨rfl, rfl⟩ rfl rfl rfl rfl rfl rfl ev1 ?_
  refine s_ifc (q := .eq) (a := 0) rfl ⟨_, rfl⟩ rfl (by unfold sR aMi aMa; omega) (fun hc2 => ?_) (fun hc2 => ?_)
  · have hc2 : (0 : Int) = 0 := hc2
    refine sP 1 (g1 := (7, [some (.ref 53), some (sI t), some (sI n), none], [sI ((-1))], h)) rfl ?_
    exact s_reti rfl rfl (Or.inl rfl) rfl rfl
  · have hc2 : ¬ ((0 : Int) = 0) := hc2
    omega
theorem fTextMb1 {c : Nat} {n : Int} (hh : aHp h) (hc : c < 4) (rn : sR n) (hn : 60 < n) : nEv sc (d + 3) 135 [.ref 53, sI (c : Int), sI n] h (some (sI (-1)), h) := by
  unfold sR aMi aMa at rn
  refine nEv_of (t := mMe135) rfl ?_
  show nRn sc (d + 2) (mMT mMe135) (mMC mMe135) (0, [some (.ref 53), some (sI ((c : Int))), some (sI n), none], [], h) _
  refine sP 1 (g1 := (1, [some (.ref 53), some (sI ((c : Int))), some (sI n), none], [sI ((c : Int))], h)) rfl ?_
  have ev1 := fIsTx (sc := sc) (d := d) (h := h) (r := (c : Int)) (by unfold sR aMi aMa; omega)
  rw [if_pos (by omega)] at ev1
  refine s_call (k := 136) (args := [sI ((c : Int))]) (st := []) (v := some (sI 1)) (h1 := h) rfl ⟨rfl, rfl⟩ rfl rfl rfl rfl rfl rfl ev1 ?_
  refine s_ifc (q := .eq) (a := 1) rfl ⟨_, rfl⟩ rfl (by unfold sR aMi aMa; omega) (fun hc2 => ?_) (fun hc2 => ?_)
  · have hc2 : (1 : Int) = 0 := hc2
    omega
  · have hc2 : ¬ ((1 : Int) = 0) := hc2
    refine sP 2 (g1 := (5, [some (.ref 53), some (sI ((c : Int))), some (sI n), none], [sI 60, sI n], h)) rfl ?_
    refine s_icmp (q := .le) (a := n) (b := 60) rfl ⟨_, rfl⟩ rfl (by unfold sR aMi aMa; omega) (by unfold sR aMi aMa; omega) (fun hc3 => ?_) (fun hc3 => ?_)
    · have hc3 : (n : Int) ≤ 60 := hc3
      omega
    · have hc3 : ¬ ((n : Int) ≤ 60) := hc3
      refine sP 1 (g1 := (7, [some (.ref 53), some (sI ((c : Int))), some (sI n), none], [sI ((-1))], h)) rfl ?_
      exact s_reti rfl rfl (Or.inl rfl) rfl rfl
theorem fTextMw {c : Nat} {n : Int} (hh : aHp h) (hc : c < 4) (rn : sR n) (hn : n < 0) : ∃ g, nEv sc (d + 3) 135 [.ref 53, sI (c : Int), sI n] h (some (sI (-3)), g) ∧ oFM 5 h g := by
  unfold sR aMi aMa at rn
  obtain ⟨g1, r1, r2, r3⟩ := fFoundM (sc := sc) (d := d + 1) (f := 5) hh (by omega)
  refine ⟨g1, nEv_of (t := mMe135) rfl ?_, r2, r3⟩
  show nRn sc (d + 2) (mMT mMe135) (mMC mMe135) (0, [some (.ref 53), some (sI ((c : Int))), some (sI n), none], [], h) _
  refine sP 1 (g1 := (1, [some (.ref 53), some (sI ((c : Int))), some (sI n), none], [sI ((c : Int))], h)) rfl ?_
  have ev1 := fIsTx (sc := sc) (d := d) (h := h) (r := (c : Int)) (by unfold sR aMi aMa; omega)
  rw [if_pos (by omega)] at ev1
  refine s_call (k := 136) (args := [sI ((c : Int))]) (st := []) (v := some (sI 1)) (h1 := h) rfl ⟨rfl, rfl⟩ rfl rfl rfl rfl rfl rfl ev1 ?_
  refine s_ifc (q := .eq) (a := 1) rfl ⟨_, rfl⟩ rfl (by unfold sR aMi aMa; omega) (fun hc2 => ?_) (fun hc2 => ?_)
  · have hc2 : (1 : Int) = 0 := hc2
    omega
  · have hc2 : ¬ ((1 : Int) = 0) := hc2
    refine sP 2 (g1 := (5, [some (.ref 53), some (sI ((c : Int))), some (sI n), none], [sI 60, sI n], h)) rfl ?_
    refine s_icmp (q := .le) (a := n) (b := 60) rfl ⟨_, rfl⟩ rfl (by unfold sR aMi aMa; omega) (by unfold sR aMi aMa; omega) (fun hc3 => ?_) (fun hc3 => ?_)
    · have hc3 : (n : Int) ≤ 60 := hc3
      refine sP 1 (g1 := (9, [some (.ref 53), some (sI ((c : Int))), some (sI n), none], [sI n], h)) rfl ?_
      refine s_ifc (q := .ge) (a := n) rfl ⟨_, rfl⟩ rfl (by unfold sR aMi aMa; omega) (fun hc4 => ?_) (fun hc4 => ?_)
      · have hc4 : (0 : Int) ≤ n := hc4
        omega
      · have hc4 : ¬ ((0 : Int) ≤ n) := hc4
        refine sP 2 (g1 := (12, [some (.ref 53), some (sI ((c : Int))), some (sI n), none], [sI 5, .ref 53], h)) rfl ?_
        refine s_call (k := 128) (args := [.ref 53, sI 5]) (st := []) (v := some (sI ((-3)))) (h1 := g1) rfl ⟨rfl, rfl⟩ rfl rfl rfl rfl (sRcv hh (a := 53) rfl rfl) rfl r1 ?_
        exact s_reti rfl rfl (Or.inl rfl) rfl rfl
    · have hc3 : ¬ ((n : Int) ≤ 60) := hc3
      omega
theorem fPutXb0 {t i : Int} {v : Int32} (hh : aHp h) (rr : sR t) (hc : ¬ (0 ≤ t ∧ t < 4)) : nEv sc (d + 3) 24 [.ref 0, sI t, sI i, .int v] h (some (sI (-1)), h) := by
  unfold sR aMi aMa at rr
  refine nEv_of (t := mMe24) rfl ?_
  show nRn sc (d + 2) (mMT mMe24) (mMC mMe24) (0, [some (.ref 0), some (sI t), some (sI i), some (.int v), none, none, none], [], h) _
  refine sP 2 (g1 := (2, [some (.ref 0), some (sI t), some (sI i), some (.int v), none, none, none], [sI t, .ref 0], h)) rfl ?_
  refine s_call (k := 21) (args := [.ref 0, sI t]) (st := []) (v := some (.null)) (h1 := h) rfl ⟨rfl, rfl⟩ rfl rfl rfl rfl (sRcv hh (a := 0) rfl rfl) rfl (fTextNo (by unfold sR aMi aMa; omega) (by omega)) ?_
  refine sP 2 (g1 := (5, [some (.ref 0), some (sI t), some (sI i), some (.int v), some (.null), none, none], [.null], h)) rfl ?_
  refine s_nil rfl (Or.inr ⟨⟨_, rfl⟩, rfl⟩) ?_
  refine sP 1 (g1 := (7, [some (.ref 0), some (sI t), some (sI i), some (.int v), some (.null), none, none], [sI ((-1))], h)) rfl ?_
  exact s_reti rfl rfl (Or.inl rfl) rfl rfl
theorem fPutXw {c f : Nat} {i : Int} {v : Int32} (hh : aHp h) (hc : c < 4) (ri : sR i) (hf : f < 6) (f0 : f ≠ 0) (hw : (if hI h (33 + 2 * c) 1 = -1 then (1 : Int) else if i < 0 ∨ hI h (33 + 2 * c) 1 ≤ i then 2 else 0) = (f : Int)) : ∃ g, nEv sc (d + 3) 24 [.ref 0, sI (c : Int), sI i, .int v] h (some (sI (-3)), g) ∧ oFX f h g := by
  unfold sR aMi aMa at ri
  obtain ⟨g1, r1, r2, r3⟩ := fFoundX (sc := sc) (d := d + 1) (f := f) hh (by omega)
  refine ⟨g1, nEv_of (t := mMe24) rfl ?_, r2, r3⟩
  show nRn sc (d + 2) (mMT mMe24) (mMC mMe24) (0, [some (.ref 0), some (sI ((c : Int))), some (sI i), some (.int v), none, none, none], [], h) _
  refine sP 2 (g1 := (2, [some (.ref 0), some (sI ((c : Int))), some (sI i), some (.int v), none, none, none], [sI ((c : Int)), .ref 0], h)) rfl ?_
  refine s_call (k := 21) (args := [.ref 0, sI ((c : Int))]) (st := []) (v := some (.ref (33 + 2 * c))) (h1 := h) rfl ⟨rfl, rfl⟩ rfl rfl rfl rfl (sRcv hh (a := 0) rfl rfl) rfl (fTextAt hh hc) ?_
  refine sP 2 (g1 := (5, [some (.ref 0), some (sI ((c : Int))), some (sI i), some (.int v), some (.ref (33 + 2 * c)), none, none], [.ref (33 + 2 * c)], h)) rfl ?_
  refine s_null rfl (Or.inr ⟨⟨_, rfl⟩, rfl⟩) ?_
  refine sP 1 (g1 := (9, [some (.ref 0), some (sI ((c : Int))), some (sI i), some (.int v), some (.ref (33 + 2 * c)), none, none], [.ref (33 + 2 * c)], h)) rfl ?_
  have rg1 := hI_rg hh (tx_z hc)
  refine s_get (a := 33 + 2 * c) (j := 1) hh rfl ⟨_, rfl⟩ (tx_a hc) rfl rfl (v := sI (hI h (33 + 2 * c) 1)) (hI_ok hh (tx_z hc)) ?_
  refine sP 1 (g1 := (11, [some (.ref 0), some (sI ((c : Int))), some (sI i), some (.int v), some (.ref (33 + 2 * c)), none, none], [sI i, sI (hI h (33 + 2 * c) 1)], h)) rfl ?_
  have ev2 := fWhy (sc := sc) (d := d + 1) (h := h) (a := hI h (33 + 2 * c) 1) (b := i) (by omega) (by omega) (by omega) (by omega)
  rw [hw] at ev2
  refine s_call (k := 13) (args := [sI (hI h (33 + 2 * c) 1), sI i]) (st := []) (v := some (sI ((f : Int)))) (h1 := h) rfl ⟨rfl, rfl⟩ rfl rfl rfl rfl rfl rfl ev2 ?_
  refine sP 2 (g1 := (14, [some (.ref 0), some (sI ((c : Int))), some (sI i), some (.int v), some (.ref (33 + 2 * c)), some (sI ((f : Int))), none], [sI ((f : Int))], h)) rfl ?_
  refine s_ifc (q := .eq) (a := (f : Int)) rfl ⟨_, rfl⟩ rfl (by unfold sR aMi aMa; omega) (fun hc3 => ?_) (fun hc3 => ?_)
  · have hc3 : (((f : Int)) : Int) = 0 := hc3
    omega
  · have hc3 : ¬ ((((f : Int)) : Int) = 0) := hc3
    refine sP 2 (g1 := (17, [some (.ref 0), some (sI ((c : Int))), some (sI i), some (.int v), some (.ref (33 + 2 * c)), some (sI ((f : Int))), none], [sI ((f : Int)), .ref 0], h)) rfl ?_
    refine s_call (k := 9) (args := [.ref 0, sI ((f : Int))]) (st := []) (v := some (sI ((-3)))) (h1 := g1) rfl ⟨rfl, rfl⟩ rfl rfl rfl rfl (sRcv hh (a := 0) rfl rfl) rfl r1 ?_
    exact s_reti rfl rfl (Or.inl rfl) rfl rfl
theorem fPutMb0 {t i : Int} {v : Int32} (hh : aHp h) (rr : sR t) (hc : ¬ (0 ≤ t ∧ t < 4)) : nEv sc (d + 3) 137 [.ref 53, sI t, sI i, .int v] h (some (sI (-1)), h) := by
  unfold sR aMi aMa at rr
  refine nEv_of (t := mMe137) rfl ?_
  show nRn sc (d + 2) (mMT mMe137) (mMC mMe137) (0, [some (.ref 53), some (sI t), some (sI i), some (.int v), none], [], h) _
  refine sP 1 (g1 := (1, [some (.ref 53), some (sI t), some (sI i), some (.int v), none], [sI t], h)) rfl ?_
  have ev1 := fIsTx (sc := sc) (d := d) (h := h) (r := t) (by unfold sR aMi aMa; omega)
  rw [if_neg (by omega)] at ev1
  refine s_call (k := 136) (args := [sI t]) (st := []) (v := some (sI 0)) (h1 := h) rfl ⟨rfl, rfl⟩ rfl rfl rfl rfl rfl rfl ev1 ?_
  refine s_ifc (q := .ne) (a := 0) rfl ⟨_, rfl⟩ rfl (by unfold sR aMi aMa; omega) (fun hc2 => ?_) (fun hc2 => ?_)
  · have hc2 : (0 : Int) ≠ 0 := hc2
    omega
  · have hc2 : ¬ ((0 : Int) ≠ 0) := hc2
    refine sP 1 (g1 := (4, [some (.ref 53), some (sI t), some (sI i), some (.int v), none], [sI ((-1))], h)) rfl ?_
    exact s_reti rfl rfl (Or.inl rfl) rfl rfl
theorem fPutMw1 {c : Nat} {i : Int} {v : Int32} (hh : aHp h) (hc : c < 4) (hw : hI h 56 c < 0) : ∃ g, nEv sc (d + 3) 137 [.ref 53, sI (c : Int), sI i, .int v] h (some (sI (-3)), g) ∧ oFM 1 h g := by
  obtain ⟨g1, r1, r2, r3⟩ := fFoundM (sc := sc) (d := d + 1) (f := 1) hh (by omega)
  refine ⟨g1, nEv_of (t := mMe137) rfl ?_, r2, r3⟩
  show nRn sc (d + 2) (mMT mMe137) (mMC mMe137) (0, [some (.ref 53), some (sI ((c : Int))), some (sI i), some (.int v), none], [], h) _
  refine sP 1 (g1 := (1, [some (.ref 53), some (sI ((c : Int))), some (sI i), some (.int v), none], [sI ((c : Int))], h)) rfl ?_
  have ev1 := fIsTx (sc := sc) (d := d) (h := h) (r := (c : Int)) (by unfold sR aMi aMa; omega)
  rw [if_pos (by omega)] at ev1
  refine s_call (k := 136) (args := [sI ((c : Int))]) (st := []) (v := some (sI 1)) (h1 := h) rfl ⟨rfl, rfl⟩ rfl rfl rfl rfl rfl rfl ev1 ?_
  refine s_ifc (q := .ne) (a := 1) rfl ⟨_, rfl⟩ rfl (by unfold sR aMi aMa; omega) (fun hc2 => ?_) (fun hc2 => ?_)
  · have hc2 : (1 : Int) ≠ 0 := hc2
    refine sP 1 (g1 := (6, [some (.ref 53), some (sI ((c : Int))), some (sI i), some (.int v), none], [.ref 53], h)) rfl ?_
    refine s_get (a := 53) (j := 2) hh rfl ⟨_, rfl⟩ rfl rfl rfl (v := .ref 56) (hR_ok hh (by decide +kernel)) ?_
    refine sP 1 (g1 := (8, [some (.ref 53), some (sI ((c : Int))), some (sI i), some (.int v), none], [sI ((c : Int)), .ref 56], h)) rfl ?_
    have rg3 := hI_rg hh (tx_n hc)
    refine s_iald (a := 56) (n := 4) (j := (c : Int)) hh rfl rfl rfl (by omega) (by omega) (by decide) (v := sI (hI h 56 c)) (by rw [Int.toNat_natCast]; exact hI_ok hh (tx_n hc)) ?_
    refine s_ifc (q := .ge) (a := hI h 56 c) rfl ⟨_, rfl⟩ rfl (by unfold sR aMi aMa; omega) (fun hc4 => ?_) (fun hc4 => ?_)
    · have hc4 : (0 : Int) ≤ (hI h 56 c) := hc4
      omega
    · have hc4 : ¬ ((0 : Int) ≤ (hI h 56 c)) := hc4
      refine sP 2 (g1 := (12, [some (.ref 53), some (sI ((c : Int))), some (sI i), some (.int v), none], [sI 1, .ref 53], h)) rfl ?_
      refine s_call (k := 128) (args := [.ref 53, sI 1]) (st := []) (v := some (sI ((-3)))) (h1 := g1) rfl ⟨rfl, rfl⟩ rfl rfl rfl rfl (sRcv hh (a := 53) rfl rfl) rfl r1 ?_
      exact s_reti rfl rfl (Or.inl rfl) rfl rfl
  · have hc2 : ¬ ((1 : Int) ≠ 0) := hc2
    omega
theorem fPutMw2 {c : Nat} {i : Int} {v : Int32} (hh : aHp h) (hc : c < 4) (ri : sR i) (h0 : 0 ≤ hI h 56 c) (hw : ¬ (0 ≤ i ∧ i < hI h 56 c)) : ∃ g, nEv sc (d + 3) 137 [.ref 53, sI (c : Int), sI i, .int v] h (some (sI (-3)), g) ∧ oFM 2 h g := by
  unfold sR aMi aMa at ri
  obtain ⟨g1, r1, r2, r3⟩ := fFoundM (sc := sc) (d := d + 1) (f := 2) hh (by omega)
  refine ⟨g1, nEv_of (t := mMe137) rfl ?_, r2, r3⟩
  show nRn sc (d + 2) (mMT mMe137) (mMC mMe137) (0, [some (.ref 53), some (sI ((c : Int))), some (sI i), some (.int v), none], [], h) _
  refine sP 1 (g1 := (1, [some (.ref 53), some (sI ((c : Int))), some (sI i), some (.int v), none], [sI ((c : Int))], h)) rfl ?_
  have ev1 := fIsTx (sc := sc) (d := d) (h := h) (r := (c : Int)) (by unfold sR aMi aMa; omega)
  rw [if_pos (by omega)] at ev1
  refine s_call (k := 136) (args := [sI ((c : Int))]) (st := []) (v := some (sI 1)) (h1 := h) rfl ⟨rfl, rfl⟩ rfl rfl rfl rfl rfl rfl ev1 ?_
  refine s_ifc (q := .ne) (a := 1) rfl ⟨_, rfl⟩ rfl (by unfold sR aMi aMa; omega) (fun hc2 => ?_) (fun hc2 => ?_)
  · have hc2 : (1 : Int) ≠ 0 := hc2
    refine sP 1 (g1 := (6, [some (.ref 53), some (sI ((c : Int))), some (sI i), some (.int v), none], [.ref 53], h)) rfl ?_
    refine s_get (a := 53) (j := 2) hh rfl ⟨_, rfl⟩ rfl rfl rfl (v := .ref 56) (hR_ok hh (by decide +kernel)) ?_
    refine sP 1 (g1 := (8, [some (.ref 53), some (sI ((c : Int))), some (sI i), some (.int v), none], [sI ((c : Int)), .ref 56], h)) rfl ?_
    have rg3 := hI_rg hh (tx_n hc)
    refine s_iald (a := 56) (n := 4) (j := (c : Int)) hh rfl rfl rfl (by omega) (by omega) (by decide) (v := sI (hI h 56 c)) (by rw [Int.toNat_natCast]; exact hI_ok hh (tx_n hc)) ?_
    refine s_ifc (q := .ge) (a := hI h 56 c) rfl ⟨_, rfl⟩ rfl (by unfold sR aMi aMa; omega) (fun hc4 => ?_) (fun hc4 => ?_)
    · have hc4 : (0 : Int) ≤ (hI h 56 c) := hc4
      refine sP 1 (g1 := (15, [some (.ref 53), some (sI ((c : Int))), some (sI i), some (.int v), none], [sI i], h)) rfl ?_
      refine s_i2l (a := i) rfl rfl (by unfold sR aMi aMa; omega) ?_
      refine sP 2 (g1 := (18, [some (.ref 53), some (sI ((c : Int))), some (sI i), some (.int v), none], [.ref 53, sJ 0, sJ i], h)) rfl ?_
      refine s_get (a := 53) (j := 2) hh rfl ⟨_, rfl⟩ rfl rfl rfl (v := .ref 56) (hR_ok hh (by decide +kernel)) ?_
      refine sP 1 (g1 := (20, [some (.ref 53), some (sI ((c : Int))), some (sI i), some (.int v), none], [sI ((c : Int)), .ref 56, sJ 0, sJ i], h)) rfl ?_
      have rg5 := hI_rg hh (tx_n hc)
      refine s_iald (a := 56) (n := 4) (j := (c : Int)) hh rfl rfl rfl (by omega) (by omega) (by decide) (v := sI (hI h 56 c)) (by rw [Int.toNat_natCast]; exact hI_ok hh (tx_n hc)) ?_
      refine sP 1 (g1 := (22, [some (.ref 53), some (sI ((c : Int))), some (sI i), some (.int v), none], [sI 1, sI (hI h 56 c), sJ 0, sJ i], h)) rfl ?_
      refine s_sub (a := hI h 56 c) (b := 1) rfl rfl ?_
      refine s_i2l (a := (hI h 56 c) - 1) rfl rfl (by unfold sR aMi aMa; omega) ?_
      have ev6 := fIn (sc := sc) (d := d + 1) (h := h) (a := i) (b := 0) (e := (hI h 56 c) - 1) (by omega) (by omega) (by omega) (by omega) (by omega) (by omega)
      rw [if_neg (by omega)] at ev6
      refine s_call (k := 127) (args := [sJ i, sJ 0, sJ ((hI h 56 c) - 1)]) (st := []) (v := some (sI 0)) (h1 := h) rfl ⟨rfl, rfl⟩ rfl rfl rfl rfl rfl rfl ev6 ?_
      refine s_ifc (q := .ne) (a := 0) rfl ⟨_, rfl⟩ rfl (by unfold sR aMi aMa; omega) (fun hc7 => ?_) (fun hc7 => ?_)
      · have hc7 : (0 : Int) ≠ 0 := hc7
        omega
      · have hc7 : ¬ ((0 : Int) ≠ 0) := hc7
        refine sP 2 (g1 := (28, [some (.ref 53), some (sI ((c : Int))), some (sI i), some (.int v), none], [sI 2, .ref 53], h)) rfl ?_
        refine s_call (k := 128) (args := [.ref 53, sI 2]) (st := []) (v := some (sI ((-3)))) (h1 := g1) rfl ⟨rfl, rfl⟩ rfl rfl rfl rfl (sRcv hh (a := 53) rfl rfl) rfl r1 ?_
        exact s_reti rfl rfl (Or.inl rfl) rfl rfl
    · have hc4 : ¬ ((0 : Int) ≤ (hI h 56 c)) := hc4
      omega
  · have hc2 : ¬ ((1 : Int) ≠ 0) := hc2
    omega
theorem fFaultXb0 {t : Int} (hh : aHp h) (rr : sR t) (hc : ¬ (0 ≤ t ∧ t < 4)) : nEv sc (d + 3) 25 [.ref 0, sI t] h (some (sI (-1)), h) := by
  unfold sR aMi aMa at rr
  refine nEv_of (t := mMe25) rfl ?_
  show nRn sc (d + 2) (mMT mMe25) (mMC mMe25) (0, [some (.ref 0), some (sI t), none], [], h) _
  refine sP 2 (g1 := (2, [some (.ref 0), some (sI t), none], [sI t, .ref 0], h)) rfl ?_
  refine s_call (k := 21) (args := [.ref 0, sI t]) (st := []) (v := some (.null)) (h1 := h) rfl ⟨rfl, rfl⟩ rfl rfl rfl rfl (sRcv hh (a := 0) rfl rfl) rfl (fTextNo (by unfold sR aMi aMa; omega) (by omega)) ?_
  refine sP 2 (g1 := (5, [some (.ref 0), some (sI t), some (.null)], [.null], h)) rfl ?_
  refine s_nil rfl (Or.inr ⟨⟨_, rfl⟩, rfl⟩) ?_
  refine sP 1 (g1 := (7, [some (.ref 0), some (sI t), some (.null)], [sI ((-1))], h)) rfl ?_
  exact s_reti rfl rfl (Or.inl rfl) rfl rfl
theorem fFaultXw {c : Nat} (hh : aHp h) (hc : c < 4) (hw : hI h (33 + 2 * c) 1 = -1) : ∃ g, nEv sc (d + 3) 25 [.ref 0, sI (c : Int)] h (some (sI (-3)), g) ∧ oFX 1 h g := by
  obtain ⟨g1, r1, r2, r3⟩ := fFoundX (sc := sc) (d := d + 1) (f := 1) hh (by omega)
  refine ⟨g1, nEv_of (t := mMe25) rfl ?_, r2, r3⟩
  show nRn sc (d + 2) (mMT mMe25) (mMC mMe25) (0, [some (.ref 0), some (sI ((c : Int))), none], [], h) _
  refine sP 2 (g1 := (2, [some (.ref 0), some (sI ((c : Int))), none], [sI ((c : Int)), .ref 0], h)) rfl ?_
  refine s_call (k := 21) (args := [.ref 0, sI ((c : Int))]) (st := []) (v := some (.ref (33 + 2 * c))) (h1 := h) rfl ⟨rfl, rfl⟩ rfl rfl rfl rfl (sRcv hh (a := 0) rfl rfl) rfl (fTextAt hh hc) ?_
  refine sP 2 (g1 := (5, [some (.ref 0), some (sI ((c : Int))), some (.ref (33 + 2 * c))], [.ref (33 + 2 * c)], h)) rfl ?_
  refine s_null rfl (Or.inr ⟨⟨_, rfl⟩, rfl⟩) ?_
  refine sP 1 (g1 := (9, [some (.ref 0), some (sI ((c : Int))), some (.ref (33 + 2 * c))], [.ref (33 + 2 * c)], h)) rfl ?_
  have rg1 := hI_rg hh (tx_z hc)
  refine s_get (a := 33 + 2 * c) (j := 1) hh rfl ⟨_, rfl⟩ (tx_a hc) rfl rfl (v := sI (hI h (33 + 2 * c) 1)) (hI_ok hh (tx_z hc)) ?_
  refine sP 1 (g1 := (11, [some (.ref 0), some (sI ((c : Int))), some (.ref (33 + 2 * c))], [sI ((-1)), sI (hI h (33 + 2 * c) 1)], h)) rfl ?_
  refine s_icmp (q := .ne) (a := hI h (33 + 2 * c) 1) (b := (-1)) rfl ⟨_, rfl⟩ rfl (by unfold sR aMi aMa; omega) (by unfold sR aMi aMa; omega) (fun hc2 => ?_) (fun hc2 => ?_)
  · have hc2 : ((hI h (33 + 2 * c) 1) : Int) ≠ ((-1)) := hc2
    omega
  · have hc2 : ¬ (((hI h (33 + 2 * c) 1) : Int) ≠ ((-1))) := hc2
    refine sP 2 (g1 := (14, [some (.ref 0), some (sI ((c : Int))), some (.ref (33 + 2 * c))], [sI 1, .ref 0], h)) rfl ?_
    refine s_call (k := 9) (args := [.ref 0, sI 1]) (st := []) (v := some (sI ((-3)))) (h1 := g1) rfl ⟨rfl, rfl⟩ rfl rfl rfl rfl (sRcv hh (a := 0) rfl rfl) rfl r1 ?_
    exact s_reti rfl rfl (Or.inl rfl) rfl rfl
theorem fFaultMb0 {t : Int} (hh : aHp h) (rr : sR t) (hc : ¬ (0 ≤ t ∧ t < 4)) : nEv sc (d + 3) 138 [.ref 53, sI t] h (some (sI (-1)), h) := by
  unfold sR aMi aMa at rr
  refine nEv_of (t := mMe138) rfl ?_
  show nRn sc (d + 2) (mMT mMe138) (mMC mMe138) (0, [some (.ref 53), some (sI t)], [], h) _
  refine sP 1 (g1 := (1, [some (.ref 53), some (sI t)], [sI t], h)) rfl ?_
  have ev1 := fIsTx (sc := sc) (d := d) (h := h) (r := t) (by unfold sR aMi aMa; omega)
  rw [if_neg (by omega)] at ev1
  refine s_call (k := 136) (args := [sI t]) (st := []) (v := some (sI 0)) (h1 := h) rfl ⟨rfl, rfl⟩ rfl rfl rfl rfl rfl rfl ev1 ?_
  refine s_ifc (q := .ne) (a := 0) rfl ⟨_, rfl⟩ rfl (by unfold sR aMi aMa; omega) (fun hc2 => ?_) (fun hc2 => ?_)
  · have hc2 : (0 : Int) ≠ 0 := hc2
    omega
  · have hc2 : ¬ ((0 : Int) ≠ 0) := hc2
    refine sP 1 (g1 := (4, [some (.ref 53), some (sI t)], [sI ((-1))], h)) rfl ?_
    exact s_reti rfl rfl (Or.inl rfl) rfl rfl
theorem fFaultMw {c : Nat} (hh : aHp h) (hc : c < 4) (hw : hI h 56 c < 0) : ∃ g, nEv sc (d + 3) 138 [.ref 53, sI (c : Int)] h (some (sI (-3)), g) ∧ oFM 1 h g := by
  obtain ⟨g1, r1, r2, r3⟩ := fFoundM (sc := sc) (d := d + 1) (f := 1) hh (by omega)
  refine ⟨g1, nEv_of (t := mMe138) rfl ?_, r2, r3⟩
  show nRn sc (d + 2) (mMT mMe138) (mMC mMe138) (0, [some (.ref 53), some (sI ((c : Int)))], [], h) _
  refine sP 1 (g1 := (1, [some (.ref 53), some (sI ((c : Int)))], [sI ((c : Int))], h)) rfl ?_
  have ev1 := fIsTx (sc := sc) (d := d) (h := h) (r := (c : Int)) (by unfold sR aMi aMa; omega)
  rw [if_pos (by omega)] at ev1
  refine s_call (k := 136) (args := [sI ((c : Int))]) (st := []) (v := some (sI 1)) (h1 := h) rfl ⟨rfl, rfl⟩ rfl rfl rfl rfl rfl rfl ev1 ?_
  refine s_ifc (q := .ne) (a := 1) rfl ⟨_, rfl⟩ rfl (by unfold sR aMi aMa; omega) (fun hc2 => ?_) (fun hc2 => ?_)
  · have hc2 : (1 : Int) ≠ 0 := hc2
    refine sP 1 (g1 := (6, [some (.ref 53), some (sI ((c : Int)))], [.ref 53], h)) rfl ?_
    refine s_get (a := 53) (j := 2) hh rfl ⟨_, rfl⟩ rfl rfl rfl (v := .ref 56) (hR_ok hh (by decide +kernel)) ?_
    refine sP 1 (g1 := (8, [some (.ref 53), some (sI ((c : Int)))], [sI ((c : Int)), .ref 56], h)) rfl ?_
    have rg3 := hI_rg hh (tx_n hc)
    refine s_iald (a := 56) (n := 4) (j := (c : Int)) hh rfl rfl rfl (by omega) (by omega) (by decide) (v := sI (hI h 56 c)) (by rw [Int.toNat_natCast]; exact hI_ok hh (tx_n hc)) ?_
    refine s_ifc (q := .ge) (a := hI h 56 c) rfl ⟨_, rfl⟩ rfl (by unfold sR aMi aMa; omega) (fun hc4 => ?_) (fun hc4 => ?_)
    · have hc4 : (0 : Int) ≤ (hI h 56 c) := hc4
      omega
    · have hc4 : ¬ ((0 : Int) ≤ (hI h 56 c)) := hc4
      refine sP 2 (g1 := (12, [some (.ref 53), some (sI ((c : Int)))], [sI 1, .ref 53], h)) rfl ?_
      refine s_call (k := 128) (args := [.ref 53, sI 1]) (st := []) (v := some (sI ((-3)))) (h1 := g1) rfl ⟨rfl, rfl⟩ rfl rfl rfl rfl (sRcv hh (a := 53) rfl rfl) rfl r1 ?_
      refine sP 1 (g1 := (17, [some (.ref 53), some (sI ((c : Int)))], [sI ((-3))], g1)) rfl ?_
      exact s_reti rfl rfl (Or.inl rfl) rfl rfl
  · have hc2 : ¬ ((1 : Int) ≠ 0) := hc2
    omega
theorem fEmbXb0 {t : Int} (hh : aHp h) (rr : sR t) (hc : ¬ (0 ≤ t ∧ t < 4)) : nEv sc (d + 3) 32 [.ref 0, sI t] h (some (sI (-1)), h) := by
  unfold sR aMi aMa at rr
  refine nEv_of (t := mMe32) rfl ?_
  show nRn sc (d + 2) (mMT mMe32) (mMC mMe32) (0, [some (.ref 0), some (sI t), none, none], [], h) _
  refine sP 2 (g1 := (2, [some (.ref 0), some (sI t), none, none], [sI t, .ref 0], h)) rfl ?_
  refine s_call (k := 21) (args := [.ref 0, sI t]) (st := []) (v := some (.null)) (h1 := h) rfl ⟨rfl, rfl⟩ rfl rfl rfl rfl (sRcv hh (a := 0) rfl rfl) rfl (fTextNo (by unfold sR aMi aMa; omega) (by omega)) ?_
  refine sP 2 (g1 := (5, [some (.ref 0), some (sI t), some (.null), none], [.null], h)) rfl ?_
  refine s_nil rfl (Or.inr ⟨⟨_, rfl⟩, rfl⟩) ?_
  refine sP 1 (g1 := (7, [some (.ref 0), some (sI t), some (.null), none], [sI ((-1))], h)) rfl ?_
  exact s_reti rfl rfl (Or.inl rfl) rfl rfl
theorem fEmbXw {c : Nat} (hh : aHp h) (hc : c < 4) (hw : hI h (33 + 2 * c) 1 = -1) : ∃ g, nEv sc (d + 3) 32 [.ref 0, sI (c : Int)] h (some (sI (-3)), g) ∧ oFX 1 h g := by
  obtain ⟨g1, r1, r2, r3⟩ := fFoundX (sc := sc) (d := d + 1) (f := 1) hh (by omega)
  refine ⟨g1, nEv_of (t := mMe32) rfl ?_, r2, r3⟩
  show nRn sc (d + 2) (mMT mMe32) (mMC mMe32) (0, [some (.ref 0), some (sI ((c : Int))), none, none], [], h) _
  refine sP 2 (g1 := (2, [some (.ref 0), some (sI ((c : Int))), none, none], [sI ((c : Int)), .ref 0], h)) rfl ?_
  refine s_call (k := 21) (args := [.ref 0, sI ((c : Int))]) (st := []) (v := some (.ref (33 + 2 * c))) (h1 := h) rfl ⟨rfl, rfl⟩ rfl rfl rfl rfl (sRcv hh (a := 0) rfl rfl) rfl (fTextAt hh hc) ?_
  refine sP 2 (g1 := (5, [some (.ref 0), some (sI ((c : Int))), some (.ref (33 + 2 * c)), none], [.ref (33 + 2 * c)], h)) rfl ?_
  refine s_null rfl (Or.inr ⟨⟨_, rfl⟩, rfl⟩) ?_
  refine sP 1 (g1 := (9, [some (.ref 0), some (sI ((c : Int))), some (.ref (33 + 2 * c)), none], [.ref (33 + 2 * c)], h)) rfl ?_
  have rg1 := hI_rg hh (tx_z hc)
  refine s_get (a := 33 + 2 * c) (j := 1) hh rfl ⟨_, rfl⟩ (tx_a hc) rfl rfl (v := sI (hI h (33 + 2 * c) 1)) (hI_ok hh (tx_z hc)) ?_
  refine sP 1 (g1 := (11, [some (.ref 0), some (sI ((c : Int))), some (.ref (33 + 2 * c)), none], [sI ((-1)), sI (hI h (33 + 2 * c) 1)], h)) rfl ?_
  refine s_icmp (q := .ne) (a := hI h (33 + 2 * c) 1) (b := (-1)) rfl ⟨_, rfl⟩ rfl (by unfold sR aMi aMa; omega) (by unfold sR aMi aMa; omega) (fun hc2 => ?_) (fun hc2 => ?_)
  · have hc2 : ((hI h (33 + 2 * c) 1) : Int) ≠ ((-1)) := hc2
    omega
  · have hc2 : ¬ (((hI h (33 + 2 * c) 1) : Int) ≠ ((-1))) := hc2
    refine sP 2 (g1 := (14, [some (.ref 0), some (sI ((c : Int))), some (.ref (33 + 2 * c)), none], [sI 1, .ref 0], h)) rfl ?_
    refine s_call (k := 9) (args := [.ref 0, sI 1]) (st := []) (v := some (sI ((-3)))) (h1 := g1) rfl ⟨rfl, rfl⟩ rfl rfl rfl rfl (sRcv hh (a := 0) rfl rfl) rfl r1 ?_
    exact s_reti rfl rfl (Or.inl rfl) rfl rfl
theorem fEmbMb0 {t : Int} (hh : aHp h) (rr : sR t) (hc : ¬ (0 ≤ t ∧ t < 4)) : nEv sc (d + 3) 144 [.ref 53, sI t] h (some (sI (-1)), h) := by
  unfold sR aMi aMa at rr
  refine nEv_of (t := mMe144) rfl ?_
  show nRn sc (d + 2) (mMT mMe144) (mMC mMe144) (0, [some (.ref 53), some (sI t), none], [], h) _
  refine sP 1 (g1 := (1, [some (.ref 53), some (sI t), none], [sI t], h)) rfl ?_
  have ev1 := fIsTx (sc := sc) (d := d) (h := h) (r := t) (by unfold sR aMi aMa; omega)
  rw [if_neg (by omega)] at ev1
  refine s_call (k := 136) (args := [sI t]) (st := []) (v := some (sI 0)) (h1 := h) rfl ⟨rfl, rfl⟩ rfl rfl rfl rfl rfl rfl ev1 ?_
  refine s_ifc (q := .ne) (a := 0) rfl ⟨_, rfl⟩ rfl (by unfold sR aMi aMa; omega) (fun hc2 => ?_) (fun hc2 => ?_)
  · have hc2 : (0 : Int) ≠ 0 := hc2
    omega
  · have hc2 : ¬ ((0 : Int) ≠ 0) := hc2
    refine sP 1 (g1 := (4, [some (.ref 53), some (sI t), none], [sI ((-1))], h)) rfl ?_
    exact s_reti rfl rfl (Or.inl rfl) rfl rfl
theorem fEmbMw {c : Nat} (hh : aHp h) (hc : c < 4) (hw : hI h 56 c < 0) : ∃ g, nEv sc (d + 3) 144 [.ref 53, sI (c : Int)] h (some (sI (-3)), g) ∧ oFM 1 h g := by
  obtain ⟨g1, r1, r2, r3⟩ := fFoundM (sc := sc) (d := d + 1) (f := 1) hh (by omega)
  refine ⟨g1, nEv_of (t := mMe144) rfl ?_, r2, r3⟩
  show nRn sc (d + 2) (mMT mMe144) (mMC mMe144) (0, [some (.ref 53), some (sI ((c : Int))), none], [], h) _
  refine sP 1 (g1 := (1, [some (.ref 53), some (sI ((c : Int))), none], [sI ((c : Int))], h)) rfl ?_
  have ev1 := fIsTx (sc := sc) (d := d) (h := h) (r := (c : Int)) (by unfold sR aMi aMa; omega)
  rw [if_pos (by omega)] at ev1
  refine s_call (k := 136) (args := [sI ((c : Int))]) (st := []) (v := some (sI 1)) (h1 := h) rfl ⟨rfl, rfl⟩ rfl rfl rfl rfl rfl rfl ev1 ?_
  refine s_ifc (q := .ne) (a := 1) rfl ⟨_, rfl⟩ rfl (by unfold sR aMi aMa; omega) (fun hc2 => ?_) (fun hc2 => ?_)
  · have hc2 : (1 : Int) ≠ 0 := hc2
    refine sP 1 (g1 := (6, [some (.ref 53), some (sI ((c : Int))), none], [.ref 53], h)) rfl ?_
    refine s_get (a := 53) (j := 2) hh rfl ⟨_, rfl⟩ rfl rfl rfl (v := .ref 56) (hR_ok hh (by decide +kernel)) ?_
    refine sP 1 (g1 := (8, [some (.ref 53), some (sI ((c : Int))), none], [sI ((c : Int)), .ref 56], h)) rfl ?_
    have rg3 := hI_rg hh (tx_n hc)
    refine s_iald (a := 56) (n := 4) (j := (c : Int)) hh rfl rfl rfl (by omega) (by omega) (by decide) (v := sI (hI h 56 c)) (by rw [Int.toNat_natCast]; exact hI_ok hh (tx_n hc)) ?_
    refine s_ifc (q := .ge) (a := hI h 56 c) rfl ⟨_, rfl⟩ rfl (by unfold sR aMi aMa; omega) (fun hc4 => ?_) (fun hc4 => ?_)
    · have hc4 : (0 : Int) ≤ (hI h 56 c) := hc4
      omega
    · have hc4 : ¬ ((0 : Int) ≤ (hI h 56 c)) := hc4
      refine sP 2 (g1 := (12, [some (.ref 53), some (sI ((c : Int))), none], [sI 1, .ref 53], h)) rfl ?_
      refine s_call (k := 128) (args := [.ref 53, sI 1]) (st := []) (v := some (sI ((-3)))) (h1 := g1) rfl ⟨rfl, rfl⟩ rfl rfl rfl rfl (sRcv hh (a := 53) rfl rfl) rfl r1 ?_
      exact s_reti rfl rfl (Or.inl rfl) rfl rfl
  · have hc2 : ¬ ((1 : Int) ≠ 0) := hc2
    omega
theorem fOnXb0 {t : Int} (hh : aHp h) (rr : sR t) (hc : ¬ (0 ≤ t ∧ t < 3)) : nEv sc (d + 3) 74 [.ref 0, sI t] h (some (sI (-1)), h) := by
  unfold sR aMi aMa at rr
  refine nEv_of (t := mMe74) rfl ?_
  show nRn sc (d + 2) (mMT mMe74) (mMC mMe74) (0, [some (.ref 0), some (sI t), none], [], h) _
  refine sP 2 (g1 := (2, [some (.ref 0), some (sI t), none], [sI t, .ref 0], h)) rfl ?_
  refine s_call (k := 73) (args := [.ref 0, sI t]) (st := []) (v := some (.null)) (h1 := h) rfl ⟨rfl, rfl⟩ rfl rfl rfl rfl (sRcv hh (a := 0) rfl rfl) rfl (fKeptNo (by unfold sR aMi aMa; omega) (by omega)) ?_
  refine sP 2 (g1 := (5, [some (.ref 0), some (sI t), some (.null)], [.null], h)) rfl ?_
  refine s_nil rfl (Or.inr ⟨⟨_, rfl⟩, rfl⟩) ?_
  refine sP 1 (g1 := (7, [some (.ref 0), some (sI t), some (.null)], [sI ((-1))], h)) rfl ?_
  exact s_reti rfl rfl (Or.inl rfl) rfl rfl
theorem fOnXw {k : Nat} (hh : aHp h) (hk : k < 3) (hw : hI h (41 + 4 * k) 3 = 0) : ∃ g, nEv sc (d + 3) 74 [.ref 0, sI (k : Int)] h (some (sI (-3)), g) ∧ oFX 1 h g := by
  obtain ⟨g1, r1, r2, r3⟩ := fFoundX (sc := sc) (d := d + 1) (f := 1) hh (by omega)
  refine ⟨g1, nEv_of (t := mMe74) rfl ?_, r2, r3⟩
  show nRn sc (d + 2) (mMT mMe74) (mMC mMe74) (0, [some (.ref 0), some (sI ((k : Int))), none], [], h) _
  refine sP 2 (g1 := (2, [some (.ref 0), some (sI ((k : Int))), none], [sI ((k : Int)), .ref 0], h)) rfl ?_
  refine s_call (k := 73) (args := [.ref 0, sI ((k : Int))]) (st := []) (v := some (.ref (41 + 4 * k))) (h1 := h) rfl ⟨rfl, rfl⟩ rfl rfl rfl rfl (sRcv hh (a := 0) rfl rfl) rfl (fKeptAt hh hk) ?_
  refine sP 2 (g1 := (5, [some (.ref 0), some (sI ((k : Int))), some (.ref (41 + 4 * k))], [.ref (41 + 4 * k)], h)) rfl ?_
  refine s_null rfl (Or.inr ⟨⟨_, rfl⟩, rfl⟩) ?_
  refine sP 1 (g1 := (9, [some (.ref 0), some (sI ((k : Int))), some (.ref (41 + 4 * k))], [.ref (41 + 4 * k)], h)) rfl ?_
  have rg1 := hI_rg hh (ke_3 hk)
  refine s_get (a := 41 + 4 * k) (j := 3) hh rfl ⟨_, rfl⟩ (fk_t hk) rfl rfl (v := sI (hI h (41 + 4 * k) 3)) (hI_ok hh (ke_3 hk)) ?_
  refine s_ifc (q := .ne) (a := hI h (41 + 4 * k) 3) rfl ⟨_, rfl⟩ rfl (by unfold sR aMi aMa; omega) (fun hc2 => ?_) (fun hc2 => ?_)
  · have hc2 : ((hI h (41 + 4 * k) 3) : Int) ≠ 0 := hc2
    omega
  · have hc2 : ¬ (((hI h (41 + 4 * k) 3) : Int) ≠ 0) := hc2
    refine sP 2 (g1 := (13, [some (.ref 0), some (sI ((k : Int))), some (.ref (41 + 4 * k))], [sI 1, .ref 0], h)) rfl ?_
    refine s_call (k := 9) (args := [.ref 0, sI 1]) (st := []) (v := some (sI ((-3)))) (h1 := g1) rfl ⟨rfl, rfl⟩ rfl rfl rfl rfl (sRcv hh (a := 0) rfl rfl) rfl r1 ?_
    exact s_reti rfl rfl (Or.inl rfl) rfl rfl
theorem fOnMb0 {t : Int} (hh : aHp h) (rr : sR t) (hc : ¬ (0 ≤ t ∧ t < 3)) : nEv sc (d + 3) 179 [.ref 53, sI t] h (some (sI (-1)), h) := by
  unfold sR aMi aMa at rr
  refine nEv_of (t := mMe179) rfl ?_
  show nRn sc (d + 2) (mMT mMe179) (mMC mMe179) (0, [some (.ref 53), some (sI t)], [], h) _
  refine sP 1 (g1 := (1, [some (.ref 53), some (sI t)], [sI t], h)) rfl ?_
  refine s_i2l (a := t) rfl rfl (by unfold sR aMi aMa; omega) ?_
  refine sP 2 (g1 := (4, [some (.ref 53), some (sI t)], [sJ 2, sJ 0, sJ t], h)) rfl ?_
  have ev1 := fIn (sc := sc) (d := d + 1) (h := h) (a := t) (b := 0) (e := 2) (by omega) (by omega) (by omega) (by omega) (by omega) (by omega)
  rw [if_neg (by omega)] at ev1
  refine s_call (k := 127) (args := [sJ t, sJ 0, sJ 2]) (st := []) (v := some (sI 0)) (h1 := h) rfl ⟨rfl, rfl⟩ rfl rfl rfl rfl rfl rfl ev1 ?_
  refine s_ifc (q := .ne) (a := 0) rfl ⟨_, rfl⟩ rfl (by unfold sR aMi aMa; omega) (fun hc2 => ?_) (fun hc2 => ?_)
  · have hc2 : (0 : Int) ≠ 0 := hc2
    omega
  · have hc2 : ¬ ((0 : Int) ≠ 0) := hc2
    refine sP 1 (g1 := (7, [some (.ref 53), some (sI t)], [sI ((-1))], h)) rfl ?_
    exact s_reti rfl rfl (Or.inl rfl) rfl rfl
theorem fOnMw {k : Nat} (hh : aHp h) (hk : k < 3) (hw : hI h 61 k = 0) : ∃ g, nEv sc (d + 3) 179 [.ref 53, sI (k : Int)] h (some (sI (-3)), g) ∧ oFM 1 h g := by
  obtain ⟨g1, r1, r2, r3⟩ := fFoundM (sc := sc) (d := d + 1) (f := 1) hh (by omega)
  refine ⟨g1, nEv_of (t := mMe179) rfl ?_, r2, r3⟩
  show nRn sc (d + 2) (mMT mMe179) (mMC mMe179) (0, [some (.ref 53), some (sI ((k : Int)))], [], h) _
  refine sP 1 (g1 := (1, [some (.ref 53), some (sI ((k : Int)))], [sI ((k : Int))], h)) rfl ?_
  refine s_i2l (a := (k : Int)) rfl rfl (by unfold sR aMi aMa; omega) ?_
  refine sP 2 (g1 := (4, [some (.ref 53), some (sI ((k : Int)))], [sJ 2, sJ 0, sJ ((k : Int))], h)) rfl ?_
  have ev1 := fIn (sc := sc) (d := d + 1) (h := h) (a := (k : Int)) (b := 0) (e := 2) (by omega) (by omega) (by omega) (by omega) (by omega) (by omega)
  rw [if_pos (by omega)] at ev1
  refine s_call (k := 127) (args := [sJ ((k : Int)), sJ 0, sJ 2]) (st := []) (v := some (sI 1)) (h1 := h) rfl ⟨rfl, rfl⟩ rfl rfl rfl rfl rfl rfl ev1 ?_
  refine s_ifc (q := .ne) (a := 1) rfl ⟨_, rfl⟩ rfl (by unfold sR aMi aMa; omega) (fun hc2 => ?_) (fun hc2 => ?_)
  · have hc2 : (1 : Int) ≠ 0 := hc2
    refine sP 1 (g1 := (9, [some (.ref 53), some (sI ((k : Int)))], [.ref 53], h)) rfl ?_
    refine s_get (a := 53) (j := 7) hh rfl ⟨_, rfl⟩ rfl rfl rfl (v := .ref 61) (hR_ok hh (by decide +kernel)) ?_
    refine sP 1 (g1 := (11, [some (.ref 53), some (sI ((k : Int)))], [sI ((k : Int)), .ref 61], h)) rfl ?_
    have rg3 := hI_rg hh (fk_61 hk)
    refine s_bald (a := 61) (n := 3) (j := (k : Int)) hh rfl rfl rfl (by decide) (by omega) (by omega) (by decide) (v := sI (hI h 61 k)) (by rw [Int.toNat_natCast]; exact hI_ok hh (fk_61 hk)) ?_
    refine s_ifc (q := .ne) (a := hI h 61 k) rfl ⟨_, rfl⟩ rfl (by unfold sR aMi aMa; omega) (fun hc4 => ?_) (fun hc4 => ?_)
    · have hc4 : ((hI h 61 k) : Int) ≠ 0 := hc4
      omega
    · have hc4 : ¬ (((hI h 61 k) : Int) ≠ 0) := hc4
      refine sP 2 (g1 := (15, [some (.ref 53), some (sI ((k : Int)))], [sI 1, .ref 53], h)) rfl ?_
      refine s_call (k := 128) (args := [.ref 53, sI 1]) (st := []) (v := some (sI ((-3)))) (h1 := g1) rfl ⟨rfl, rfl⟩ rfl rfl rfl rfl (sRcv hh (a := 53) rfl rfl) rfl r1 ?_
      exact s_reti rfl rfl (Or.inl rfl) rfl rfl
  · have hc2 : ¬ ((1 : Int) ≠ 0) := hc2
    omega
theorem fMarkXw {n a k kd : Nat} (hh : aHp h) (hn : hI h 3 3 = n) (ha : a < n) (k1 : 1 ≤ k) (k5 : k ≤ 5) (ek : hI h 4 a = (kd : Int)) (hi : pIs kd k = false) : ∃ g, nEv sc (d + 3) 49 [.ref 0, sI (a : Int), sI (k : Int)] h (some (sI (-3)), g) ∧ oFX 3 h g := by
  have gp := hI_rg hh xw_p
  have gk := hI_rg hh (xw_k (show a < 6 by omega))
  have ei := fIsA (sc := sc) (d := d + 1) (h := h) (kd := kd) (k := k) (by omega) k1 k5
  rw [hi, if_neg (by decide)] at ei
  obtain ⟨g1, r1, r2, r3⟩ := fFoundX (sc := sc) (d := d + 1) (f := 3) hh (by decide)
  refine ⟨g1, nEv_of (t := mMe49) rfl ?_, r2, r3⟩
  show nRn sc (d + 2) (mMT mMe49) (mMC mMe49) (0, [some (.ref 0), some (sI ((a : Int))), some (sI ((k : Int)))], [], h) _
  refine sP 1 (g1 := (1, [some (.ref 0), some (sI ((a : Int))), some (sI ((k : Int)))], [.ref 0], h)) rfl ?_
  refine s_get (a := 0) (j := 2) hh rfl ⟨_, rfl⟩ rfl rfl rfl (v := .ref 3) (hR_ok hh (by decide +kernel)) ?_
  refine sP 1 (g1 := (3, [some (.ref 0), some (sI ((a : Int))), some (sI ((k : Int)))], [sI ((a : Int)), .ref 3], h)) rfl ?_
  have ev1 := fHasX (sc := sc) (d := d + 1) (a := (a : Int)) hh (by unfold sR aMi aMa; omega)
  rw [if_pos (by omega)] at ev1
  refine s_call (k := 35) (args := [.ref 3, sI ((a : Int))]) (st := []) (v := some (sI 1)) (h1 := h) rfl ⟨rfl, rfl⟩ rfl rfl rfl rfl (sRcv hh (a := 3) rfl rfl) rfl ev1 ?_
  refine s_ifc (q := .eq) (a := 1) rfl ⟨_, rfl⟩ rfl (by unfold sR aMi aMa; omega) (fun hc2 => ?_) (fun hc2 => ?_)
  · have hc2 : (1 : Int) = 0 := hc2
    omega
  · have hc2 : ¬ ((1 : Int) = 0) := hc2
    refine sP 2 (g1 := (7, [some (.ref 0), some (sI ((a : Int))), some (sI ((k : Int)))], [sI 1, sI ((k : Int))], h)) rfl ?_
    refine s_icmp (q := .lt) (a := (k : Int)) (b := 1) rfl ⟨_, rfl⟩ rfl (by unfold sR aMi aMa; omega) (by unfold sR aMi aMa; omega) (fun hc3 => ?_) (fun hc3 => ?_)
    · have hc3 : (((k : Int)) : Int) < 1 := hc3
      omega
    · have hc3 : ¬ ((((k : Int)) : Int) < 1) := hc3
      refine sP 2 (g1 := (10, [some (.ref 0), some (sI ((a : Int))), some (sI ((k : Int)))], [sI 5, sI ((k : Int))], h)) rfl ?_
      refine s_icmp (q := .le) (a := (k : Int)) (b := 5) rfl ⟨_, rfl⟩ rfl (by unfold sR aMi aMa; omega) (by unfold sR aMi aMa; omega) (fun hc4 => ?_) (fun hc4 => ?_)
      · have hc4 : (((k : Int)) : Int) ≤ 5 := hc4
        refine sP 1 (g1 := (14, [some (.ref 0), some (sI ((a : Int))), some (sI ((k : Int)))], [.ref 0], h)) rfl ?_
        refine s_get (a := 0) (j := 2) hh rfl ⟨_, rfl⟩ rfl rfl rfl (v := .ref 3) (hR_ok hh (by decide +kernel)) ?_
        refine s_get (a := 3) (j := 0) hh rfl ⟨_, rfl⟩ rfl rfl rfl (v := .ref 4) (hR_ok hh (by decide +kernel)) ?_
        refine sP 1 (g1 := (17, [some (.ref 0), some (sI ((a : Int))), some (sI ((k : Int)))], [sI ((a : Int)), .ref 4], h)) rfl ?_
        refine s_iald (a := 4) (n := 6) (j := (a : Int)) hh rfl rfl rfl (by omega) (by omega) (by decide) (v := sI ((kd : Int))) (by rw [Int.toNat_natCast]; have q := hI_ok hh (xw_k (show a < 6 by omega)); rw [ek] at q; exact q) ?_
        refine sP 1 (g1 := (19, [some (.ref 0), some (sI ((a : Int))), some (sI ((k : Int)))], [sI ((k : Int)), sI ((kd : Int))], h)) rfl ?_
        refine s_call (k := 50) (args := [sI ((kd : Int)), sI ((k : Int))]) (st := []) (v := some (sI 0)) (h1 := h) rfl ⟨rfl, rfl⟩ rfl rfl rfl rfl rfl rfl ei ?_
        refine s_ifc (q := .ne) (a := 0) rfl ⟨_, rfl⟩ rfl (by unfold sR aMi aMa; omega) (fun hc5 => ?_) (fun hc5 => ?_)
        · have hc5 : (0 : Int) ≠ 0 := hc5
          omega
        · have hc5 : ¬ ((0 : Int) ≠ 0) := hc5
          refine sP 2 (g1 := (23, [some (.ref 0), some (sI ((a : Int))), some (sI ((k : Int)))], [sI 3, .ref 0], h)) rfl ?_
          refine s_call (k := 9) (args := [.ref 0, sI 3]) (st := []) (v := some (sI ((-3)))) (h1 := g1) rfl ⟨rfl, rfl⟩ rfl rfl rfl rfl (sRcv hh (a := 0) rfl rfl) rfl r1 ?_
          exact s_reti rfl rfl (Or.inl rfl) rfl rfl
      · have hc4 : ¬ ((((k : Int)) : Int) ≤ 5) := hc4
        omega
theorem fMarkXo {n a k kd : Nat} (hh : aHp h) (hn : hI h 3 3 = n) (ha : a < n) (k1 : 1 ≤ k) (k5 : k ≤ 5) (ek : hI h 4 a = (kd : Int)) (hi : pIs kd k = true) : ∃ v, nEv sc (d + 3) 49 [.ref 0, sI (a : Int), sI (k : Int)] h (some (sI v), h) := by
  match k, k1, k5, hi with
  | 1, _, _, hi => exact ⟨_, fMarkX1 hh hn ha ek hi⟩
  | 2, _, _, hi => exact ⟨_, fMarkX2 hh hn ha ek hi⟩
  | 3, _, _, hi => exact ⟨_, fMarkX3 hh hn ha ek hi⟩
  | 4, _, _, hi => exact ⟨_, fMarkX4 hh hn ha ek hi⟩
  | 5, _, _, hi => exact ⟨_, fMarkX5 hh hn ha ek hi⟩
  | 0, k1, _, _ => exact absurd k1 (by omega)
  | k + 6, _, k5, _ => exact absurd k5 (by omega)
theorem fMarkMw {n a k kd : Nat} (hh : aHp h) (hn : hI h 58 0 = n) (ha : a < n) (k1 : 1 ≤ k) (k5 : k ≤ 5) (ek : hI h 58 (1 + a) = (kd : Int)) (hi : pIs kd k = false) : ∃ g, nEv sc (d + 3) 157 [.ref 53, sI (a : Int), sI (k : Int)] h (some (sI (-3)), g) ∧ oFM 3 h g := by
  have gp := hI_rg hh nw_p
  have gk := hI_rg hh (nw_kd (show a < 6 by omega))
  have ei := fIsOf (sc := sc) (d := d + 1) (h := h) (kd := kd) (k := k) (by omega) k1 k5
  rw [hi, if_neg (by decide)] at ei
  obtain ⟨g1, r1, r2, r3⟩ := fFoundM (sc := sc) (d := d + 1) (f := 3) hh (by decide)
  refine ⟨g1, nEv_of (t := mMe157) rfl ?_, r2, r3⟩
  show nRn sc (d + 2) (mMT mMe157) (mMC mMe157) (0, [some (.ref 53), some (sI ((a : Int))), some (sI ((k : Int)))], [], h) _
  refine sP 2 (g1 := (2, [some (.ref 53), some (sI ((a : Int))), some (sI ((k : Int)))], [sI ((a : Int)), .ref 53], h)) rfl ?_
  have ev1 := fIsPerson (sc := sc) (d := d + 0) (a := (a : Int)) hh (by unfold sR aMi aMa; omega)
  rw [if_pos (by omega)] at ev1
  refine s_call (k := 147) (args := [.ref 53, sI ((a : Int))]) (st := []) (v := some (sI 1)) (h1 := h) rfl ⟨rfl, rfl⟩ rfl rfl rfl rfl (sRcv hh (a := 53) rfl rfl) rfl ev1 ?_
  refine s_ifc (q := .eq) (a := 1) rfl ⟨_, rfl⟩ rfl (by unfold sR aMi aMa; omega) (fun hc2 => ?_) (fun hc2 => ?_)
  · have hc2 : (1 : Int) = 0 := hc2
    omega
  · have hc2 : ¬ ((1 : Int) = 0) := hc2
    refine sP 1 (g1 := (5, [some (.ref 53), some (sI ((a : Int))), some (sI ((k : Int)))], [sI ((k : Int))], h)) rfl ?_
    refine s_i2l (a := (k : Int)) rfl rfl (by unfold sR aMi aMa; omega) ?_
    refine sP 2 (g1 := (8, [some (.ref 53), some (sI ((a : Int))), some (sI ((k : Int)))], [sJ 5, sJ 1, sJ ((k : Int))], h)) rfl ?_
    have ev3 := fIn (sc := sc) (d := d + 1) (h := h) (a := (k : Int)) (b := 1) (e := 5) (by omega) (by omega) (by omega) (by omega) (by omega) (by omega)
    rw [if_pos (by omega)] at ev3
    refine s_call (k := 127) (args := [sJ ((k : Int)), sJ 1, sJ 5]) (st := []) (v := some (sI 1)) (h1 := h) rfl ⟨rfl, rfl⟩ rfl rfl rfl rfl rfl rfl ev3 ?_
    refine s_ifc (q := .ne) (a := 1) rfl ⟨_, rfl⟩ rfl (by unfold sR aMi aMa; omega) (fun hc4 => ?_) (fun hc4 => ?_)
    · have hc4 : (1 : Int) ≠ 0 := hc4
      refine sP 1 (g1 := (13, [some (.ref 53), some (sI ((a : Int))), some (sI ((k : Int)))], [.ref 53], h)) rfl ?_
      refine s_get (a := 53) (j := 4) hh rfl ⟨_, rfl⟩ rfl rfl rfl (v := .ref 58) (hR_ok hh (by decide +kernel)) ?_
      refine sP 2 (g1 := (16, [some (.ref 53), some (sI ((a : Int))), some (sI ((k : Int)))], [sI ((a : Int)), sI 1, .ref 58], h)) rfl ?_
      refine s_add (a := 1) (b := (a : Int)) rfl rfl ?_
      refine s_iald (a := 58) (n := 201) (j := 1 + ((a : Int))) hh rfl rfl rfl (by omega) (by omega) (by decide) (v := sI ((kd : Int))) (by rw [show (1 + ((a : Int)) : Int).toNat = 1 + a by omega]; have q := hI_ok hh (nw_kd (show a < 6 by omega)); rw [ek] at q; exact q) ?_
      refine sP 1 (g1 := (19, [some (.ref 53), some (sI ((a : Int))), some (sI ((k : Int)))], [sI ((k : Int)), sI ((kd : Int))], h)) rfl ?_
      refine s_call (k := 158) (args := [sI ((kd : Int)), sI ((k : Int))]) (st := []) (v := some (sI 0)) (h1 := h) rfl ⟨rfl, rfl⟩ rfl rfl rfl rfl rfl rfl ei ?_
      refine s_ifc (q := .ne) (a := 0) rfl ⟨_, rfl⟩ rfl (by unfold sR aMi aMa; omega) (fun hc5 => ?_) (fun hc5 => ?_)
      · have hc5 : (0 : Int) ≠ 0 := hc5
        omega
      · have hc5 : ¬ ((0 : Int) ≠ 0) := hc5
        refine sP 2 (g1 := (23, [some (.ref 53), some (sI ((a : Int))), some (sI ((k : Int)))], [sI 3, .ref 53], h)) rfl ?_
        refine s_call (k := 128) (args := [.ref 53, sI 3]) (st := []) (v := some (sI ((-3)))) (h1 := g1) rfl ⟨rfl, rfl⟩ rfl rfl rfl rfl (sRcv hh (a := 53) rfl rfl) rfl r1 ?_
        exact s_reti rfl rfl (Or.inl rfl) rfl rfl
    · have hc4 : ¬ ((1 : Int) ≠ 0) := hc4
      omega
theorem fMarkMo {n a k kd : Nat} (hh : aHp h) (hn : hI h 58 0 = n) (ha : a < n) (k1 : 1 ≤ k) (k5 : k ≤ 5) (ek : hI h 58 (1 + a) = (kd : Int)) (hi : pIs kd k = true) : ∃ v, nEv sc (d + 3) 157 [.ref 53, sI (a : Int), sI (k : Int)] h (some (sI v), h) := by
  match k, k1, k5, hi with
  | 1, _, _, hi => exact ⟨_, fMarkM1 hh hn ha ek hi⟩
  | 2, _, _, hi => exact ⟨_, fMarkM2 hh hn ha ek hi⟩
  | 3, _, _, hi => exact ⟨_, fMarkM3 hh hn ha ek hi⟩
  | 4, _, _, hi => exact ⟨_, fMarkM4 hh hn ha ek hi⟩
  | 5, _, _, hi => exact ⟨_, fMarkM5 hh hn ha ek hi⟩
  | 0, k1, _, _ => exact absurd k1 (by omega)
  | k + 6, _, k5, _ => exact absurd k5 (by omega)
end FIND
theorem tSz {h : mH} (hp : vP h) {c : Nat} (hc : c < 4) : hI h 56 c = hI h (33 + 2 * c) 1 := hI_cg2 (hp.1.1.2 c hc).1.symm
theorem dText {sc : List Int32} {h : mH} (x y : Int32) (hp : vP h) (hd : dP h) : ∃ z1 h1 z2 h2, nEv sc 100 20 (.ref 0 :: [x, y].map Value.int) h (some (.int z1), h1) ∧ aHp h1 ∧ nEv sc 100 135 (.ref 53 :: [x, y].map Value.int) h1 (some (.int z2), h2) ∧ vP h2 ∧ dP h2 := by
  have hh := vP_a h hp
  have rx : sR x.toInt := aI_rg x
  have ry : sR y.toInt := aI_rg y
  have hw := vText (sc := sc) x y hp
  by_cases c1 : 0 ≤ x.toInt ∧ x.toInt < 4
  · obtain ⟨c, ec⟩ := iN c1.1
    have hc : c < 4 := by omega
    by_cases c2 : 60 < y.toInt
    · exact db2 hw (by rw [ec]; exact fTextXb1 (d := 97) hh hc ry c2) (by rw [ec]; exact fTextMb1 (d := 97) hh hc ry c2) hd
    by_cases c3 : y.toInt < 0
    · obtain ⟨h1, a1, a2⟩ := fTextXw (sc := sc) (d := 97) hh hc ry c3
      obtain ⟨h2, b1, b2⟩ := fTextMw (sc := sc) (d := 97) a2.1 hc ry c3
      exact db2 hw (by rw [ec]; exact a1) (by rw [ec]; exact b1) (d_found (by decide) hp hd a2 b2)
    · obtain ⟨h1, a1, a2, a3⟩ := fTextX (sc := sc) (d := 97) hc hh (n := y.toInt) (by omega) (by omega)
      obtain ⟨h2, b1, b2, b3⟩ := fTextM (sc := sc) (d := 97) hc a2 (n := y.toInt) (by omega) (by omega)
      exact db2 hw (by rw [ec]; exact a1) (by rw [ec]; exact b1) (dP_K hd (fun p m w => by rw [b3, if_neg (by omega), if_neg (by omega), a3, if_neg (by omega), if_neg (by omega)]))
  · exact db2 hw (fTextXb0 (d := 97) hh rx ry c1) (fTextMb0 (d := 97) hh rx ry c1) hd
theorem dPut {sc : List Int32} {h : mH} (x y z : Int32) (hp : vP h) (hd : dP h) : ∃ z1 h1 z2 h2, nEv sc 100 24 (.ref 0 :: [x, y, z].map Value.int) h (some (.int z1), h1) ∧ aHp h1 ∧ nEv sc 100 137 (.ref 53 :: [x, y, z].map Value.int) h1 (some (.int z2), h2) ∧ vP h2 ∧ dP h2 := by
  have hh := vP_a h hp
  have rx : sR x.toInt := aI_rg x
  have ry : sR y.toInt := aI_rg y
  have hw := vPut (sc := sc) x y z hp
  by_cases c1 : 0 ≤ x.toInt ∧ x.toInt < 4
  · obtain ⟨c, ec⟩ := iN c1.1
    have hc : c < 4 := by omega
    have sz := hI_rg hh (tx_z hc)
    have e0 := tSz hp hc
    by_cases c2 : hI h (33 + 2 * c) 1 = -1
    · obtain ⟨h1, a1, a2⟩ := fPutXw (sc := sc) (d := 97) (f := 1) (i := y.toInt) (v := z) hh hc ry (by decide) (by decide) (by rw [if_pos c2]; rfl)
      obtain ⟨h2, b1, b2⟩ := fPutMw1 (sc := sc) (d := 97) (i := y.toInt) (v := z) a2.1 hc (by rw [hI_cg (a2.sl (by omega) (by omega))]; omega)
      exact db3 hw (by rw [ec]; exact a1) (by rw [ec]; exact b1) (d_found (by decide) hp hd a2 b2)
    by_cases c3 : y.toInt < 0 ∨ hI h (33 + 2 * c) 1 ≤ y.toInt
    · obtain ⟨h1, a1, a2⟩ := fPutXw (sc := sc) (d := 97) (f := 2) (i := y.toInt) (v := z) hh hc ry (by decide) (by decide) (by rw [if_neg c2, if_pos c3]; rfl)
      have e1 : hI h1 56 c = hI h 56 c := hI_cg (a2.sl (by omega) (by omega))
      obtain ⟨h2, b1, b2⟩ := fPutMw2 (sc := sc) (d := 97) (i := y.toInt) (v := z) a2.1 hc ry (by omega) (by omega)
      exact db3 hw (by rw [ec]; exact a1) (by rw [ec]; exact b1) (d_found (by decide) hp hd a2 b2)
    · have a1 := fPutX (sc := sc) (d := 98) (h := h) (c := c) (i := y.toInt) (v := z) hh hc (by omega) (by omega)
      have s1 : ∀ p m, aSlot (hset h (34 + 2 * c) y.toInt.toNat (.int z.toInt8.toInt32.toInt8.toInt32)) p m = if p = 34 + 2 * c ∧ m = y.toInt.toNat then some (.int z.toInt8.toInt32.toInt8.toInt32) else aSlot h p m := fun p m => hset_slot hh (tx_b hc) (by omega) p m
      have g1 : aHp (hset h (34 + 2 * c) y.toInt.toNat (.int z.toInt8.toInt32.toInt8.toInt32)) := by
        obtain ⟨z1, h1, z2, h2, a2, a3, -⟩ := hw
        have a4 : nEv sc 100 24 [.ref 0, sI x.toInt, sI y.toInt, .int z] h (some (sI (hI h (34 + 2 * c) y.toInt.toNat + 1000)), hset h (34 + 2 * c) y.toInt.toNat (.int z.toInt8.toInt32.toInt8.toInt32)) := by rw [ec]; exact a1
        rw [← sI_of x, ← sI_of y] at a4
        have e1 := nEv_det a2 a4
        cases e1
        exact a3
      have e5 : hI (hset h (34 + 2 * c) y.toInt.toNat (.int z.toInt8.toInt32.toInt8.toInt32)) 56 c = hI h 56 c := hI_cg (by rw [s1, if_neg (by omega)])
      have b1 := fPutM (sc := sc) (d := 97) (c := c) (i := y.toInt) (v := z) g1 hc (by omega) (by omega)
      refine db3 hw (by rw [ec]; exact a1) (by rw [ec]; exact b1) (dP_K hd (fun p m w => ?_))
      rw [hset_slot g1 (show sTg 57 = some (50, 240) from rfl) (by omega), if_neg (by omega), s1, if_neg (by omega)]
  · exact db3 hw (fPutXb0 (d := 97) hh rx c1) (fPutMb0 (d := 97) hh rx c1) hd
theorem dEmb {sc : List Int32} {h : mH} (x : Int32) (hp : vP h) (hd : dP h) : ∃ z1 h1 z2 h2, nEv sc 100 32 (.ref 0 :: [x].map Value.int) h (some (.int z1), h1) ∧ aHp h1 ∧ nEv sc 100 144 (.ref 53 :: [x].map Value.int) h1 (some (.int z2), h2) ∧ vP h2 ∧ dP h2 := by
  have hh := vP_a h hp
  have rx : sR x.toInt := aI_rg x
  have hw : ∃ z1 h1 z2 h2, nEv sc 100 32 (.ref 0 :: [x].map Value.int) h (some (.int z1), h1) ∧ aHp h1 ∧ nEv sc 100 144 (.ref 53 :: [x].map Value.int) h1 (some (.int z2), h2) ∧ vP h2 ∧ (fun _ _ : Int32 => True) z1 z2 := by
    obtain ⟨z1, h1, z2, h2, a1, a2, a3, a4⟩ := vEmb (sc := sc) x hp
    exact ⟨z1, h1, z2, h2, a1, a2, a3, a4, trivial⟩
  by_cases c1 : 0 ≤ x.toInt ∧ x.toInt < 4
  · obtain ⟨c, ec⟩ := iN c1.1
    have hc : c < 4 := by omega
    have sz := hI_rg hh (tx_z hc)
    have e0 := tSz hp hc
    by_cases c2 : hI h (33 + 2 * c) 1 = -1
    · obtain ⟨h1, a1, a2⟩ := fEmbXw (sc := sc) (d := 97) hh hc c2
      obtain ⟨h2, b1, b2⟩ := fEmbMw (sc := sc) (d := 97) a2.1 hc (by rw [hI_cg (a2.sl (by omega) (by omega))]; omega)
      exact db1 hw (by rw [ec]; exact a1) (by rw [ec]; exact b1) (d_found (by decide) hp hd a2 b2)
    · obtain ⟨v1, h1, a1, a2, a3, a4⟩ : ∃ v1 h1, nEv sc 100 32 [.ref 0, sI (c : Int)] h (v1, h1) ∧ aHp h1 ∧ dK h h1 ∧ ∀ m, aSlot h1 56 m = aSlot h 56 m := by
        by_cases hz : pRd (hI h (33 + 2 * c) 1) (hI h (34 + 2 * c)) = -9
        · obtain ⟨g, h1, n, a1, a2, a3, a4, -, -, -, -, -, -, -, -, a5⟩ := fEmbX (sc := sc) (d := 96) hc hh c2 hz
          exact ⟨_, h1, a1, a3, fun p m w => by rw [a5]; (repeat rw [if_neg (by omega)]); exact a4 p m (by omega) (by omega) (by omega) (by omega), fun m => by rw [a5]; (repeat rw [if_neg (by omega)]); exact a4 56 m (by omega) (by omega) (by omega) (by omega)⟩
        · obtain ⟨h1, a1, a2, a3⟩ := fEmbXn (sc := sc) (d := 96) hc hh c2 hz
          exact ⟨_, h1, a1, a2, fun p m w => a3 p m (by omega) (by omega) (by omega) (by omega), fun m => a3 56 m (by omega) (by omega) (by omega) (by omega)⟩
      have e1 : hI h1 56 c = hI h 56 c := hI_cg (a4 c)
      obtain ⟨v2, h2, b1, b3⟩ : ∃ v2 h2, nEv sc 100 144 [.ref 53, sI (c : Int)] h1 (v2, h2) ∧ dK h1 h2 := by
        by_cases hz : pRd (hI h1 56 c) (fun j => hI h1 57 (60 * c + j)) = -9
        · obtain ⟨g, h2, n, a1, a2, a3, a4, -, -, -, -, -, -, a5⟩ := fEmbM (sc := sc) (d := 96) hc a2 (by omega) hz
          exact ⟨_, h2, a1, fun p m w => by rw [a5]; (repeat rw [if_neg (by omega)]); exact a4 p m (by omega) (by omega)⟩
        · obtain ⟨h2, a1, a2, a3⟩ := fEmbMn (sc := sc) (d := 96) hc a2 (by omega) hz
          exact ⟨_, h2, a1, fun p m w => a3 p m (by omega) (by omega)⟩
      exact db1 hw (by rw [ec]; exact a1) (by rw [ec]; exact b1) (dP_K hd (a3.tr b3))
  · exact db1 hw (fEmbXb0 (d := 97) hh rx c1) (fEmbMb0 (d := 97) hh rx c1) hd
theorem dOn {sc : List Int32} {h : mH} (x : Int32) (hp : vP h) (hd : dP h) : ∃ z1 h1 z2 h2, nEv sc 100 74 (.ref 0 :: [x].map Value.int) h (some (.int z1), h1) ∧ aHp h1 ∧ nEv sc 100 179 (.ref 53 :: [x].map Value.int) h1 (some (.int z2), h2) ∧ vP h2 ∧ dP h2 := by
  have hh := vP_a h hp
  have rx : sR x.toInt := aI_rg x
  have hw := vOn (sc := sc) x hp
  by_cases c1 : 0 ≤ x.toInt ∧ x.toInt < 3
  · obtain ⟨k, ek⟩ := iN c1.1
    have hk : k < 3 := by omega
    have k0 := hp.1.2.2 k hk
    by_cases c2 : hI h (41 + 4 * k) 3 = 0
    · have k1 : hI h 61 k = 0 := by
        rcases k0 with q | q
        · exact q.1
        · exact absurd c2 q.2.1
      obtain ⟨h1, a1, a2⟩ := fOnXw (sc := sc) (d := 97) hh hk c2
      obtain ⟨h2, b1, b2⟩ := fOnMw (sc := sc) (d := 97) a2.1 hk (by rw [hI_cg (a2.sl (by omega) (by omega))]; exact k1)
      exact db1 hw (by rw [ek]; exact a1) (by rw [ek]; exact b1) (d_found (by decide) hp hd a2 b2)
    · have k1 : hI h 61 k ≠ 0 := by
        rcases k0 with q | q
        · exact absurd q.2 c2
        · omega
      obtain ⟨v1, h1, a1, a2, -, a3⟩ := fOnX (sc := sc) (d := 98) hh hk c2
      have f1 : ∀ p m, ¬ (3 ≤ p ∧ p ≤ 6) → aSlot h1 p m = aSlot h p m := fun p m w => by rw [a3]; repeat rw [if_neg (by omega)]
      obtain ⟨v2, h2, b1, b2, -, b3⟩ := fOnM (sc := sc) (d := 98) a2 hk (by rw [hI_cg (f1 61 k (by omega))]; exact k1)
      exact db1 hw (by rw [ek]; exact a1) (by rw [ek]; exact b1) (dP_K hd (fun p m w => by rw [b3, if_neg (by omega), f1 p m (by omega)]))
  · exact db1 hw (fOnXb0 (d := 97) hh rx c1) (fOnMb0 (d := 97) hh rx c1) hd
theorem d_pr {sc : List Int32} {cx cm : aCt} {kx km mx mm n : Nat} {tx tm : mM} {h g1 g2 : mH} {xs : List Int32} {v1 v2 : Int} (a : nEv sc 100 kx (.ref 0 :: xs.map Value.int) h (some (sI v1), g1)) (ha : aHp g1) (b : nEv sc 100 km (.ref 53 :: xs.map Value.int) g1 (some (sI v2), g2)) (hb : aHp g2) (hd : dP g2)
    (hx : nMe sc 81 cx) (x1 : cx.1 = kx) (x2 : cx.2.1.1 = (List.replicate n vI, [], [], (vBig, []))) (x3 : cx.2.1.2.1 = [(kx, 0, aEntL mx ((2, (0, []), 0) :: vLs 0 n), [])]) (x4 : mTab[kx]? = some tx) (x5 : mMX tx = mx)
    (hm : nMe sc 81 cm) (m1 : cm.1 = km) (m2 : cm.2.1.1 = (List.replicate n vI, [], [], (vBig, []))) (m3 : cm.2.1.2.1 = [(km, 0, aEntL mm ((2, (0, []), 53) :: vLs 0 n), [])]) (m4 : mTab[km]? = some tm) (m5 : mMX tm = mm) (hn : xs.length = n) (hp : vP h) (w1 : (wMiss cx.2.2.2 && rMiss cx.2.2.2) = true) (w2 : (wMiss cm.2.2.2 && rMiss cm.2.2.2) = true) :
    ∃ z1 h1 z2 h2, nEv sc 100 kx (.ref 0 :: xs.map Value.int) h (some (.int z1), h1) ∧ aHp h1 ∧ nEv sc 100 km (.ref 53 :: xs.map Value.int) h1 (some (.int z2), h2) ∧ vP h2 ∧ dP h2 := by
  obtain ⟨z1, h1, z2, h2, a1, a2, a3, a4, f1, f2⟩ := pFr (sc := sc) (Q := fun _ _ h2 => aHp h2 ∧ dP h2) ⟨_, g1, _, g2, a, ha, b, hb, hd⟩ hx x1 x2 x3 x4 x5 hm m1 m2 m3 m4 m5 hn (vP_a h hp)
  exact ⟨z1, h1, z2, h2, a1, a2, a3, vP_fr (vP_fr hp a2 f1 w1) a4.1 f2 w2, a4.2⟩
theorem dFault {sc : List Int32} {h : mH} (x : Int32) (hp : vP h) (hd : dP h) : ∃ z1 h1 z2 h2, nEv sc 100 25 (.ref 0 :: [x].map Value.int) h (some (.int z1), h1) ∧ aHp h1 ∧ nEv sc 100 138 (.ref 53 :: [x].map Value.int) h1 (some (.int z2), h2) ∧ vP h2 ∧ dP h2 := by
  have hh := vP_a h hp
  have rx : sR x.toInt := aI_rg x
  have key : ∀ {v1 v2 : Int} {g1 g2 : mH}, nEv sc 100 25 [.ref 0, sI x.toInt] h (some (sI v1), g1) → aHp g1 → nEv sc 100 138 [.ref 53, sI x.toInt] g1 (some (sI v2), g2) → aHp g2 → dP g2 → ∃ z1 h1 z2 h2, nEv sc 100 25 (.ref 0 :: [x].map Value.int) h (some (.int z1), h1) ∧ aHp h1 ∧ nEv sc 100 138 (.ref 53 :: [x].map Value.int) h1 (some (.int z2), h2) ∧ vP h2 ∧ dP h2 := fun a ha b hb hd => by
    rw [← sI_of x] at a b
    exact d_pr (xs := [x]) (tx := mMe25) (tm := mMe138) a ha b hb hd ((kM45 sc).mono (by decide)) rfl rfl rfl rfl rfl ((kM49 sc).mono (by decide)) rfl rfl rfl rfl rfl rfl hp (by decide +kernel) (by decide +kernel)
  by_cases c1 : 0 ≤ x.toInt ∧ x.toInt < 4
  · obtain ⟨c, ec⟩ := iN c1.1
    have hc : c < 4 := by omega
    have sz := hI_rg hh (tx_z hc)
    have e0 := tSz hp hc
    by_cases c2 : hI h (33 + 2 * c) 1 = -1
    · obtain ⟨h1, a1, a2⟩ := fFaultXw (sc := sc) (d := 97) hh hc c2
      obtain ⟨h2, b1, b2⟩ := fFaultMw (sc := sc) (d := 97) a2.1 hc (by rw [hI_cg (a2.sl (by omega) (by omega))]; omega)
      exact key (by rw [ec]; exact a1) a2.1 (by rw [ec]; exact b1) b2.1 (d_found (by decide) hp hd a2 b2)
    · obtain ⟨h1, a1, a2, a3⟩ := fFaultX (sc := sc) (d := 96) hc hh c2
      have e1 : hI h1 56 c = hI h 56 c := hI_cg (a3 56 c (by omega) (by omega) (by omega) (by omega))
      obtain ⟨h2, b1, b2, b3⟩ := fFaultM (sc := sc) (d := 96) hc a2 (by omega)
      exact key (by rw [ec]; exact a1) a2 (by rw [ec]; exact b1) b2 (dP_K hd (fun p m w => by rw [b3 p m (by omega) (by omega), a3 p m (by omega) (by omega) (by omega) (by omega)]))
  · exact key (fFaultXb0 (d := 97) hh rx c1) hh (fFaultMb0 (d := 97) hh rx c1) hh hd
theorem dMark {sc : List Int32} {h : mH} (x y : Int32) (hp : vP h) (hd : dP h) : ∃ z1 h1 z2 h2, nEv sc 100 49 (.ref 0 :: [x, y].map Value.int) h (some (.int z1), h1) ∧ aHp h1 ∧ nEv sc 100 157 (.ref 53 :: [x, y].map Value.int) h1 (some (.int z2), h2) ∧ vP h2 ∧ dP h2 := by
  have hh := vP_a h hp
  have rx : sR x.toInt := aI_rg x
  have ry : sR y.toInt := aI_rg y
  have key : ∀ {v1 v2 : Int} {g1 g2 : mH}, nEv sc 100 49 [.ref 0, sI x.toInt, sI y.toInt] h (some (sI v1), g1) → aHp g1 → nEv sc 100 157 [.ref 53, sI x.toInt, sI y.toInt] g1 (some (sI v2), g2) → aHp g2 → dP g2 → ∃ z1 h1 z2 h2, nEv sc 100 49 (.ref 0 :: [x, y].map Value.int) h (some (.int z1), h1) ∧ aHp h1 ∧ nEv sc 100 157 (.ref 53 :: [x, y].map Value.int) h1 (some (.int z2), h2) ∧ vP h2 ∧ dP h2 := fun a ha b hb hd => by
    rw [← sI_of x, ← sI_of y] at a b
    exact d_pr (xs := [x, y]) (tx := mMe49) (tm := mMe157) a ha b hb hd ((kM68 sc).mono (by decide)) rfl rfl rfl rfl rfl ((kM72 sc).mono (by decide)) rfl rfl rfl rfl rfl rfl hp (by decide +kernel) (by decide +kernel)
  have e3 : hI h 3 3 = hI h 58 0 := hp.1.2.1.1
  have gp := hI_rg hh xw_p
  obtain ⟨n, en⟩ := iN gp.1
  by_cases c1 : 0 ≤ x.toInt ∧ x.toInt < hI h 3 3
  · by_cases c2 : 1 ≤ y.toInt ∧ y.toInt ≤ 5
    · obtain ⟨a, ea⟩ := iN c1.1
      obtain ⟨k, ek⟩ := iN (show 0 ≤ y.toInt by omega)
      have ha : a < n := by omega
      have gr := hp.1.2.1.2.2.2.1
      obtain ⟨kd, ekd⟩ := iN (hI_rg hh (xw_k (show a < 6 by omega))).1
      have ekm : hI h 58 (1 + a) = (kd : Int) := by rw [← (gr a (by omega)).1]; exact ekd
      cases hi : pIs kd k with
      | false =>
        obtain ⟨h1, a1, a2⟩ := fMarkXw (sc := sc) (d := 97) hh en ha (by omega) (by omega) ekd hi
        obtain ⟨h2, b1, b2⟩ := fMarkMw (sc := sc) (d := 97) (n := n) (a := a) (k := k) (kd := kd) a2.1 (by rw [hI_cg (a2.sl (by omega) (by omega))]; omega) ha (by omega) (by omega) (by rw [hI_cg (a2.sl (by omega) (by omega))]; exact ekm) hi
        exact key (by rw [ea, ek]; exact a1) a2.1 (by rw [ea, ek]; exact b1) b2.1 (d_found (by decide) hp hd a2 b2)
      | true =>
        obtain ⟨v1, a1⟩ := fMarkXo (sc := sc) (d := 97) hh en ha (show 1 ≤ k by omega) (by omega) ekd hi
        obtain ⟨v2, b1⟩ := fMarkMo (sc := sc) (d := 97) (n := n) hh (by omega) ha (show 1 ≤ k by omega) (by omega) ekm hi
        exact key (by rw [ea, ek]; exact a1) hh (by rw [ea, ek]; exact b1) hh hd
    · exact key (fMarkXb1 (d := 97) hh rx ry ⟨c1, c2⟩) hh (fMarkMb1 (d := 97) hh rx ry ⟨by omega, c2⟩) hh hd
  · exact key (fMarkXb0 (d := 97) hh rx ry c1) hh (fMarkMb0 (d := 97) hh rx ry (by omega)) hh hd
