/-! at, mean -/
noncomputable def smL (f : Nat → Int) : Nat → Nat → Int64 → Int64
  | 0, _, H => H
  | c + 1, k, H => smL f c (k + 1) (H + (Int32.ofInt (f k)).toInt64)
theorem smL_cg {f g : Nat → Int} : ∀ (c k : Nat) (H : Int64), (∀ j, k ≤ j → j < k + c → f j = g j) → smL f c k H = smL g c k H
  | 0, _, _, _ => rfl
  | c + 1, k, H, h => by
    show smL f c (k + 1) (H + (Int32.ofInt (f k)).toInt64) = smL g c (k + 1) (H + (Int32.ofInt (g k)).toInt64)
    rw [h k (Nat.le_refl _) (by omega)]
    exact smL_cg c (k + 1) _ (fun j h1 h2 => h j (by omega) (by omega))
theorem i64nz {z : Int} (h0 : 0 < z) (h1 : z ≤ 100) : (Int32.ofInt z).toInt64 ≠ 0 := by
  intro e
  have e1 := congrArg Int64.toInt e
  rw [Int32.toInt_toInt64, sR_i (by unfold sR aMi aMa; omega)] at e1
  have e2 : Int64.toInt 0 = 0 := rfl
  omega
section ATM
variable {sc : List Int32} {d : Nat} {h : mH}
theorem s_i2lq {rt : Option FieldType} {cs : List mE} {i : Nat} {L : mL} {st : List Value} {r : mR} {en : mE} {x : Int32} (he : cs[i]? = some en) (ho : en.2.1 = .i2l) (hr : nRn sc d rt cs (i + 1, L, .long x.toInt64 :: st, h) r) : nRn sc d rt cs (i, L, .int x :: st, h) r := by
  refine sStep he (by unfold nCl; rw [ho]; intro q; cases q) (fun call => mStep_B2 ?_) hr
  unfold mB2
  rw [ho]
theorem s_l2iq {rt : Option FieldType} {cs : List mE} {i : Nat} {L : mL} {st : List Value} {r : mR} {en : mE} {x : Int64} (he : cs[i]? = some en) (ho : en.2.1 = .l2i) (hr : nRn sc d rt cs (i + 1, L, .int x.toInt32 :: st, h) r) : nRn sc d rt cs (i, L, .long x :: st, h) r := by
  refine sStep he (by unfold nCl; rw [ho]; intro q; cases q) (fun call => mStep_B2 ?_) hr
  unfold mB2
  rw [ho]
theorem s_ldivq {rt : Option FieldType} {cs : List mE} {i : Nat} {L : mL} {st : List Value} {r : mR} {en : mE} {x y : Int64} (he : cs[i]? = some en) (ho : en.2.1 = .ldiv) (hy : y ≠ 0) (hr : nRn sc d rt cs (i + 1, L, .long (x / y) :: st, h) r) : nRn sc d rt cs (i, L, .long y :: .long x :: st, h) r := by
  refine sStep he (by unfold nCl; rw [ho]; intro q; cases q) (fun call => mStep_B2 ?_) hr
  unfold mB2
  rw [ho]
  dsimp only
  rw [if_neg hy]
theorem fTellMq {z : Int32} (hh : aHp h) : ∃ g, nEv sc (d + 1) 130 [.ref 53, .int z] h (some (sI 1), g) ∧ aHp g ∧ ∀ p m, aSlot g p m = if p = 53 ∧ m = 8 then some (.int z) else aSlot h p m := by
  obtain ⟨g, a1, a2, a3⟩ := fTellM (sc := sc) (d := d) (z := z.toInt) hh
  rw [← sI_of z] at a1 a3
  exact ⟨g, a1, a2, a3⟩
theorem fAtXb0 {r i : Int} (hh : aHp h) (rr : sR r) (hc : ¬ (0 ≤ r ∧ r < 6)) : nEv sc (d + 3) 14 [.ref 0, sI r, sI i] h (some (sI (-1)), h) := by
  unfold sR aMi aMa at rr
  refine nEv_of (t := mMe14) rfl ?_
  show nRn sc (d + 2) (mMT mMe14) (mMC mMe14) (0, [some (.ref 0), some (sI r), some (sI i), none, none], [], h) _
  refine sP 2 (g1 := (2, [some (.ref 0), some (sI r), some (sI i), none, none], [sI r, .ref 0], h)) rfl ?_
  refine s_call (k := 8) (args := [.ref 0, sI r]) (st := []) (v := some (.null)) (h1 := h) rfl ⟨rfl, rfl⟩ rfl rfl rfl rfl (sRcv hh (a := 0) rfl rfl) rfl (fRowNo (by unfold sR aMi aMa; omega) (by omega)) ?_
  refine sP 2 (g1 := (5, [some (.ref 0), some (sI r), some (sI i), some (.null), none], [.null], h)) rfl ?_
  refine s_nil rfl (Or.inr ⟨⟨_, rfl⟩, rfl⟩) ?_
  refine sP 1 (g1 := (7, [some (.ref 0), some (sI r), some (sI i), some (.null), none], [sI ((-1))], h)) rfl ?_
  exact s_reti rfl rfl (Or.inl rfl) rfl rfl
theorem fAtXw {r f : Nat} {i : Int} (hh : aHp h) (hr : r < 6) (ri : sR i) (hf : f < 6) (f0 : f ≠ 0) (hw : (if hI h (21 + 2 * r) 1 = -1 then (1 : Int) else if i < 0 ∨ hI h (21 + 2 * r) 1 ≤ i then 2 else 0) = (f : Int)) : ∃ g, nEv sc (d + 3) 14 [.ref 0, sI (r : Int), sI i] h (some (sI (-3)), g) ∧ oFX f h g := by
  unfold sR aMi aMa at ri
  obtain ⟨g1, r1, r2, r3⟩ := fFoundX (sc := sc) (d := d + 1) (f := f) hh (by omega)
  refine ⟨g1, nEv_of (t := mMe14) rfl ?_, r2, r3⟩
  show nRn sc (d + 2) (mMT mMe14) (mMC mMe14) (0, [some (.ref 0), some (sI ((r : Int))), some (sI i), none, none], [], h) _
  refine sP 2 (g1 := (2, [some (.ref 0), some (sI ((r : Int))), some (sI i), none, none], [sI ((r : Int)), .ref 0], h)) rfl ?_
  refine s_call (k := 8) (args := [.ref 0, sI ((r : Int))]) (st := []) (v := some (.ref (21 + 2 * r))) (h1 := h) rfl ⟨rfl, rfl⟩ rfl rfl rfl rfl (sRcv hh (a := 0) rfl rfl) rfl (fRowAt hh hr) ?_
  refine sP 2 (g1 := (5, [some (.ref 0), some (sI ((r : Int))), some (sI i), some (.ref (21 + 2 * r)), none], [.ref (21 + 2 * r)], h)) rfl ?_
  refine s_null rfl (Or.inr ⟨⟨_, rfl⟩, rfl⟩) ?_
  refine sP 1 (g1 := (9, [some (.ref 0), some (sI ((r : Int))), some (sI i), some (.ref (21 + 2 * r)), none], [.ref (21 + 2 * r)], h)) rfl ?_
  have rg1 := hI_rg hh (ra_z hr)
  refine s_get (a := 21 + 2 * r) (j := 1) hh rfl ⟨_, rfl⟩ (ra_t hr) rfl rfl (v := sI (hI h (21 + 2 * r) 1)) (hI_ok hh (ra_z hr)) ?_
  refine sP 1 (g1 := (11, [some (.ref 0), some (sI ((r : Int))), some (sI i), some (.ref (21 + 2 * r)), none], [sI i, sI (hI h (21 + 2 * r) 1)], h)) rfl ?_
  have ev2 := fWhy (sc := sc) (d := d + 1) (h := h) (a := hI h (21 + 2 * r) 1) (b := i) (by omega) (by omega) (by omega) (by omega)
  rw [hw] at ev2
  refine s_call (k := 13) (args := [sI (hI h (21 + 2 * r) 1), sI i]) (st := []) (v := some (sI ((f : Int)))) (h1 := h) rfl ⟨rfl, rfl⟩ rfl rfl rfl rfl rfl rfl ev2 ?_
  refine sP 2 (g1 := (14, [some (.ref 0), some (sI ((r : Int))), some (sI i), some (.ref (21 + 2 * r)), some (sI ((f : Int)))], [sI ((f : Int))], h)) rfl ?_
  refine s_ifc (q := .eq) (a := (f : Int)) rfl ⟨_, rfl⟩ rfl (by unfold sR aMi aMa; omega) (fun hc3 => ?_) (fun hc3 => ?_)
  · have hc3 : (((f : Int)) : Int) = 0 := hc3
    omega
  · have hc3 : ¬ ((((f : Int)) : Int) = 0) := hc3
    refine sP 2 (g1 := (17, [some (.ref 0), some (sI ((r : Int))), some (sI i), some (.ref (21 + 2 * r)), some (sI ((f : Int)))], [sI ((f : Int)), .ref 0], h)) rfl ?_
    refine s_call (k := 9) (args := [.ref 0, sI ((f : Int))]) (st := []) (v := some (sI ((-3)))) (h1 := g1) rfl ⟨rfl, rfl⟩ rfl rfl rfl rfl (sRcv hh (a := 0) rfl rfl) rfl r1 ?_
    exact s_reti rfl rfl (Or.inl rfl) rfl rfl
theorem fAtMb0 {r i : Int} (hh : aHp h) (rr : sR r) (hc : ¬ (0 ≤ r ∧ r < 6)) : nEv sc (d + 3) 131 [.ref 53, sI r, sI i] h (some (sI (-1)), h) := by
  unfold sR aMi aMa at rr
  refine nEv_of (t := mMe131) rfl ?_
  show nRn sc (d + 2) (mMT mMe131) (mMC mMe131) (0, [some (.ref 53), some (sI r), some (sI i)], [], h) _
  refine sP 1 (g1 := (1, [some (.ref 53), some (sI r), some (sI i)], [sI r], h)) rfl ?_
  have ev1 := fIsRow (sc := sc) (d := d) (h := h) (r := r) (by unfold sR aMi aMa; omega)
  rw [if_neg (by omega)] at ev1
  refine s_call (k := 126) (args := [sI r]) (st := []) (v := some (sI 0)) (h1 := h) rfl ⟨rfl, rfl⟩ rfl rfl rfl rfl rfl rfl ev1 ?_
  refine s_ifc (q := .ne) (a := 0) rfl ⟨_, rfl⟩ rfl (by unfold sR aMi aMa; omega) (fun hc2 => ?_) (fun hc2 => ?_)
  · have hc2 : (0 : Int) ≠ 0 := hc2
    omega
  · have hc2 : ¬ ((0 : Int) ≠ 0) := hc2
    refine sP 1 (g1 := (4, [some (.ref 53), some (sI r), some (sI i)], [sI ((-1))], h)) rfl ?_
    exact s_reti rfl rfl (Or.inl rfl) rfl rfl
theorem fAtMw1 {r : Nat} {i : Int} (hh : aHp h) (hr : r < 6) (hw : hI h 54 r < 0) : ∃ g, nEv sc (d + 3) 131 [.ref 53, sI (r : Int), sI i] h (some (sI (-3)), g) ∧ oFM 1 h g := by
  obtain ⟨g1, r1, r2, r3⟩ := fFoundM (sc := sc) (d := d + 1) (f := 1) hh (by omega)
  refine ⟨g1, nEv_of (t := mMe131) rfl ?_, r2, r3⟩
  show nRn sc (d + 2) (mMT mMe131) (mMC mMe131) (0, [some (.ref 53), some (sI ((r : Int))), some (sI i)], [], h) _
  refine sP 1 (g1 := (1, [some (.ref 53), some (sI ((r : Int))), some (sI i)], [sI ((r : Int))], h)) rfl ?_
  have ev1 := fIsRow (sc := sc) (d := d) (h := h) (r := (r : Int)) (by unfold sR aMi aMa; omega)
  rw [if_pos (by omega)] at ev1
  refine s_call (k := 126) (args := [sI ((r : Int))]) (st := []) (v := some (sI 1)) (h1 := h) rfl ⟨rfl, rfl⟩ rfl rfl rfl rfl rfl rfl ev1 ?_
  refine s_ifc (q := .ne) (a := 1) rfl ⟨_, rfl⟩ rfl (by unfold sR aMi aMa; omega) (fun hc2 => ?_) (fun hc2 => ?_)
  · have hc2 : (1 : Int) ≠ 0 := hc2
    refine sP 1 (g1 := (6, [some (.ref 53), some (sI ((r : Int))), some (sI i)], [.ref 53], h)) rfl ?_
    refine s_get (a := 53) (j := 0) hh rfl ⟨_, rfl⟩ rfl rfl rfl (v := .ref 54) (hR_ok hh (by decide +kernel)) ?_
    refine sP 1 (g1 := (8, [some (.ref 53), some (sI ((r : Int))), some (sI i)], [sI ((r : Int)), .ref 54], h)) rfl ?_
    have rg3 := hI_rg hh (rm_z hr)
    refine s_iald (a := 54) (n := 6) (j := (r : Int)) hh rfl rfl rfl (by omega) (by omega) (by decide) (v := sI (hI h 54 r)) (by rw [Int.toNat_natCast]; exact hI_ok hh (rm_z hr)) ?_
    refine s_ifc (q := .ge) (a := hI h 54 r) rfl ⟨_, rfl⟩ rfl (by unfold sR aMi aMa; omega) (fun hc4 => ?_) (fun hc4 => ?_)
    · have hc4 : (0 : Int) ≤ (hI h 54 r) := hc4
      omega
    · have hc4 : ¬ ((0 : Int) ≤ (hI h 54 r)) := hc4
      refine sP 2 (g1 := (12, [some (.ref 53), some (sI ((r : Int))), some (sI i)], [sI 1, .ref 53], h)) rfl ?_
      refine s_call (k := 128) (args := [.ref 53, sI 1]) (st := []) (v := some (sI ((-3)))) (h1 := g1) rfl ⟨rfl, rfl⟩ rfl rfl rfl rfl (sRcv hh (a := 53) rfl rfl) rfl r1 ?_
      exact s_reti rfl rfl (Or.inl rfl) rfl rfl
  · have hc2 : ¬ ((1 : Int) ≠ 0) := hc2
    omega
theorem fAtMw2 {r : Nat} {i : Int} (hh : aHp h) (hr : r < 6) (ri : sR i) (h0 : 0 ≤ hI h 54 r) (hw : ¬ (0 ≤ i ∧ i < hI h 54 r)) : ∃ g, nEv sc (d + 3) 131 [.ref 53, sI (r : Int), sI i] h (some (sI (-3)), g) ∧ oFM 2 h g := by
  unfold sR aMi aMa at ri
  obtain ⟨g1, r1, r2, r3⟩ := fFoundM (sc := sc) (d := d + 1) (f := 2) hh (by omega)
  refine ⟨g1, nEv_of (t := mMe131) rfl ?_, r2, r3⟩
  show nRn sc (d + 2) (mMT mMe131) (mMC mMe131) (0, [some (.ref 53), some (sI ((r : Int))), some (sI i)], [], h) _
  refine sP 1 (g1 := (1, [some (.ref 53), some (sI ((r : Int))), some (sI i)], [sI ((r : Int))], h)) rfl ?_
  have ev1 := fIsRow (sc := sc) (d := d) (h := h) (r := (r : Int)) (by unfold sR aMi aMa; omega)
  rw [if_pos (by omega)] at ev1
  refine s_call (k := 126) (args := [sI ((r : Int))]) (st := []) (v := some (sI 1)) (h1 := h) rfl ⟨rfl, rfl⟩ rfl rfl rfl rfl rfl rfl ev1 ?_
  refine s_ifc (q := .ne) (a := 1) rfl ⟨_, rfl⟩ rfl (by unfold sR aMi aMa; omega) (fun hc2 => ?_) (fun hc2 => ?_)
  · have hc2 : (1 : Int) ≠ 0 := hc2
    refine sP 1 (g1 := (6, [some (.ref 53), some (sI ((r : Int))), some (sI i)], [.ref 53], h)) rfl ?_
    refine s_get (a := 53) (j := 0) hh rfl ⟨_, rfl⟩ rfl rfl rfl (v := .ref 54) (hR_ok hh (by decide +kernel)) ?_
    refine sP 1 (g1 := (8, [some (.ref 53), some (sI ((r : Int))), some (sI i)], [sI ((r : Int)), .ref 54], h)) rfl ?_
    have rg3 := hI_rg hh (rm_z hr)
    refine s_iald (a := 54) (n := 6) (j := (r : Int)) hh rfl rfl rfl (by omega) (by omega) (by decide) (v := sI (hI h 54 r)) (by rw [Int.toNat_natCast]; exact hI_ok hh (rm_z hr)) ?_
    refine s_ifc (q := .ge) (a := hI h 54 r) rfl ⟨_, rfl⟩ rfl (by unfold sR aMi aMa; omega) (fun hc4 => ?_) (fun hc4 => ?_)
    · have hc4 : (0 : Int) ≤ (hI h 54 r) := hc4
      refine sP 1 (g1 := (15, [some (.ref 53), some (sI ((r : Int))), some (sI i)], [sI i], h)) rfl ?_
      refine s_i2l (a := i) rfl rfl (by unfold sR aMi aMa; omega) ?_
      refine sP 2 (g1 := (18, [some (.ref 53), some (sI ((r : Int))), some (sI i)], [.ref 53, sJ 0, sJ i], h)) rfl ?_
      refine s_get (a := 53) (j := 0) hh rfl ⟨_, rfl⟩ rfl rfl rfl (v := .ref 54) (hR_ok hh (by decide +kernel)) ?_
      refine sP 1 (g1 := (20, [some (.ref 53), some (sI ((r : Int))), some (sI i)], [sI ((r : Int)), .ref 54, sJ 0, sJ i], h)) rfl ?_
      have rg5 := hI_rg hh (rm_z hr)
      refine s_iald (a := 54) (n := 6) (j := (r : Int)) hh rfl rfl rfl (by omega) (by omega) (by decide) (v := sI (hI h 54 r)) (by rw [Int.toNat_natCast]; exact hI_ok hh (rm_z hr)) ?_
      refine sP 1 (g1 := (22, [some (.ref 53), some (sI ((r : Int))), some (sI i)], [sI 1, sI (hI h 54 r), sJ 0, sJ i], h)) rfl ?_
      refine s_sub (a := hI h 54 r) (b := 1) rfl rfl ?_
      refine s_i2l (a := (hI h 54 r) - 1) rfl rfl (by unfold sR aMi aMa; omega) ?_
      have ev6 := fIn (sc := sc) (d := d + 1) (h := h) (a := i) (b := 0) (e := (hI h 54 r) - 1) (by omega) (by omega) (by omega) (by omega) (by omega) (by omega)
      rw [if_neg (by omega)] at ev6
      refine s_call (k := 127) (args := [sJ i, sJ 0, sJ ((hI h 54 r) - 1)]) (st := []) (v := some (sI 0)) (h1 := h) rfl ⟨rfl, rfl⟩ rfl rfl rfl rfl rfl rfl ev6 ?_
      refine s_ifc (q := .eq) (a := 0) rfl ⟨_, rfl⟩ rfl (by unfold sR aMi aMa; omega) (fun hc7 => ?_) (fun hc7 => ?_)
      · have hc7 : (0 : Int) = 0 := hc7
        refine sP 2 (g1 := (39, [some (.ref 53), some (sI ((r : Int))), some (sI i)], [sI 2, .ref 53], h)) rfl ?_
        refine s_call (k := 128) (args := [.ref 53, sI 2]) (st := []) (v := some (sI ((-3)))) (h1 := g1) rfl ⟨rfl, rfl⟩ rfl rfl rfl rfl (sRcv hh (a := 53) rfl rfl) rfl r1 ?_
        exact s_reti rfl rfl (Or.inl rfl) rfl rfl
      · have hc7 : ¬ ((0 : Int) = 0) := hc7
        omega
    · have hc4 : ¬ ((0 : Int) ≤ (hI h 54 r)) := hc4
      omega
  · have hc2 : ¬ ((1 : Int) ≠ 0) := hc2
    omega
theorem fAtX {r i : Nat} (hh : aHp h) (hr : r < 6) (hi : (i : Int) < hI h (21 + 2 * r) 1) : ∃ g, nEv sc (d + 3) 14 [.ref 0, sI (r : Int), sI (i : Int)] h (some (sI 1), g) ∧ aHp g ∧ ∀ p m, aSlot g p m = if p = 0 ∧ m = 9 then some (sI (hI h (22 + 2 * r) i)) else aSlot h p m := by
  have sz := hI_rg hh (ra_z hr)
  obtain ⟨g1, eg1⟩ : ∃ gz, gz = hset h 0 9 (sI (hI h (22 + 2 * r) i)) := ⟨_, rfl⟩
  have sg1 : ∀ xa xm, aSlot g1 xa xm = if xa = 0 ∧ xm = 9 then some (sI (hI h (22 + 2 * r) i)) else aSlot h xa xm := fun xa xm => by rw [eg1]; exact hset_slot hh (show sTg 0 = some (0, 12) from rfl) (by omega) xa xm
  have hg1 : aHp g1 := by rw [eg1]; exact hset_any hh as_x
  refine ⟨g1, nEv_of (t := mMe14) rfl ?_, hg1, sg1⟩
  show nRn sc (d + 2) (mMT mMe14) (mMC mMe14) (0, [some (.ref 0), some (sI ((r : Int))), some (sI ((i : Int))), none, none], [], h) _
  refine sP 2 (g1 := (2, [some (.ref 0), some (sI ((r : Int))), some (sI ((i : Int))), none, none], [sI ((r : Int)), .ref 0], h)) rfl ?_
  refine s_call (k := 8) (args := [.ref 0, sI ((r : Int))]) (st := []) (v := some (.ref (21 + 2 * r))) (h1 := h) rfl ⟨rfl, rfl⟩ rfl rfl rfl rfl (sRcv hh (a := 0) rfl rfl) rfl (fRowAt hh hr) ?_
  refine sP 2 (g1 := (5, [some (.ref 0), some (sI ((r : Int))), some (sI ((i : Int))), some (.ref (21 + 2 * r)), none], [.ref (21 + 2 * r)], h)) rfl ?_
  refine s_null rfl (Or.inr ⟨⟨_, rfl⟩, rfl⟩) ?_
  refine sP 1 (g1 := (9, [some (.ref 0), some (sI ((r : Int))), some (sI ((i : Int))), some (.ref (21 + 2 * r)), none], [.ref (21 + 2 * r)], h)) rfl ?_
  have rg1 := hI_rg hh (ra_z hr)
  refine s_get (a := 21 + 2 * r) (j := 1) hh rfl ⟨_, rfl⟩ (ra_t hr) rfl rfl (v := sI (hI h (21 + 2 * r) 1)) (hI_ok hh (ra_z hr)) ?_
  refine sP 1 (g1 := (11, [some (.ref 0), some (sI ((r : Int))), some (sI ((i : Int))), some (.ref (21 + 2 * r)), none], [sI ((i : Int)), sI (hI h (21 + 2 * r) 1)], h)) rfl ?_
  have ev2 := fWhy (sc := sc) (d := d + 1) (h := h) (a := hI h (21 + 2 * r) 1) (b := (i : Int)) (by omega) (by omega) (by omega) (by omega)
  rw [if_neg (by omega), if_neg (by omega)] at ev2
  refine s_call (k := 13) (args := [sI (hI h (21 + 2 * r) 1), sI ((i : Int))]) (st := []) (v := some (sI 0)) (h1 := h) rfl ⟨rfl, rfl⟩ rfl rfl rfl rfl rfl rfl ev2 ?_
  refine sP 2 (g1 := (14, [some (.ref 0), some (sI ((r : Int))), some (sI ((i : Int))), some (.ref (21 + 2 * r)), some (sI 0)], [sI 0], h)) rfl ?_
  refine s_ifc (q := .eq) (a := 0) rfl ⟨_, rfl⟩ rfl (by unfold sR aMi aMa; omega) (fun hc3 => ?_) (fun hc3 => ?_)
  · have hc3 : (0 : Int) = 0 := hc3
    refine sP 2 (g1 := (21, [some (.ref 0), some (sI ((r : Int))), some (sI ((i : Int))), some (.ref (21 + 2 * r)), some (sI 0)], [.ref (21 + 2 * r), .ref 0], h)) rfl ?_
    refine s_get (a := 21 + 2 * r) (j := 0) hh rfl ⟨_, rfl⟩ (ra_t hr) rfl rfl (v := .ref (22 + 2 * r)) (hR_ok hh (ra_r hr)) ?_
    refine sP 1 (g1 := (23, [some (.ref 0), some (sI ((r : Int))), some (sI ((i : Int))), some (.ref (21 + 2 * r)), some (sI 0)], [sI ((i : Int)), .ref (22 + 2 * r), .ref 0], h)) rfl ?_
    refine s_iald (a := 22 + 2 * r) (n := 40) (j := (i : Int)) hh rfl rfl (ra_2 hr) (by omega) (by omega) (by decide) (v := sI (hI h (22 + 2 * r) i)) (by rw [Int.toNat_natCast]; exact hI_ok hh (ra_c hr (by omega))) ?_
    refine s_put (a := 0) (j := 9) (k := 0) (n := 12) hh rfl ⟨_, rfl⟩ (show sTg 0 = some (0, 12) from rfl) rfl rfl (by decide) rfl ?_
    rw [← eg1]
    refine sP 1 (g1 := (26, [some (.ref 0), some (sI ((r : Int))), some (sI ((i : Int))), some (.ref (21 + 2 * r)), some (sI 0)], [sI 1], g1)) rfl ?_
    exact s_reti rfl rfl (Or.inl rfl) rfl rfl
  · have hc3 : ¬ ((0 : Int) = 0) := hc3
    omega
theorem fAtM {r i : Nat} (hh : aHp h) (hr : r < 6) (hi : (i : Int) < hI h 54 r) : ∃ g, nEv sc (d + 3) 131 [.ref 53, sI (r : Int), sI (i : Int)] h (some (sI 1), g) ∧ aHp g ∧ ∀ p m, aSlot g p m = if p = 53 ∧ m = 8 then some (sI (hI h 55 (40 * r + i))) else aSlot h p m := by
  have sz := hI_rg hh (rm_z hr)
  obtain ⟨g9, t1, t2, t3⟩ := fTellM (sc := sc) (d := d + 1) (z := hI h 55 (40 * r + i)) hh
  refine ⟨g9, nEv_of (t := mMe131) rfl ?_, t2, t3⟩
  show nRn sc (d + 2) (mMT mMe131) (mMC mMe131) (0, [some (.ref 53), some (sI ((r : Int))), some (sI ((i : Int)))], [], h) _
  refine sP 1 (g1 := (1, [some (.ref 53), some (sI ((r : Int))), some (sI ((i : Int)))], [sI ((r : Int))], h)) rfl ?_
  have ev1 := fIsRow (sc := sc) (d := d) (h := h) (r := (r : Int)) (by unfold sR aMi aMa; omega)
  rw [if_pos (by omega)] at ev1
  refine s_call (k := 126) (args := [sI ((r : Int))]) (st := []) (v := some (sI 1)) (h1 := h) rfl ⟨rfl, rfl⟩ rfl rfl rfl rfl rfl rfl ev1 ?_
  refine s_ifc (q := .ne) (a := 1) rfl ⟨_, rfl⟩ rfl (by unfold sR aMi aMa; omega) (fun hc2 => ?_) (fun hc2 => ?_)
  · have hc2 : (1 : Int) ≠ 0 := hc2
    refine sP 1 (g1 := (6, [some (.ref 53), some (sI ((r : Int))), some (sI ((i : Int)))], [.ref 53], h)) rfl ?_
    refine s_get (a := 53) (j := 0) hh rfl ⟨_, rfl⟩ rfl rfl rfl (v := .ref 54) (hR_ok hh (by decide +kernel)) ?_
    refine sP 1 (g1 := (8, [some (.ref 53), some (sI ((r : Int))), some (sI ((i : Int)))], [sI ((r : Int)), .ref 54], h)) rfl ?_
    have rg3 := hI_rg hh (rm_z hr)
    refine s_iald (a := 54) (n := 6) (j := (r : Int)) hh rfl rfl rfl (by omega) (by omega) (by decide) (v := sI (hI h 54 r)) (by rw [Int.toNat_natCast]; exact hI_ok hh (rm_z hr)) ?_
    refine s_ifc (q := .ge) (a := hI h 54 r) rfl ⟨_, rfl⟩ rfl (by unfold sR aMi aMa; omega) (fun hc4 => ?_) (fun hc4 => ?_)
    · have hc4 : (0 : Int) ≤ (hI h 54 r) := hc4
      refine sP 1 (g1 := (15, [some (.ref 53), some (sI ((r : Int))), some (sI ((i : Int)))], [sI ((i : Int))], h)) rfl ?_
      refine s_i2l (a := (i : Int)) rfl rfl (by unfold sR aMi aMa; omega) ?_
      refine sP 2 (g1 := (18, [some (.ref 53), some (sI ((r : Int))), some (sI ((i : Int)))], [.ref 53, sJ 0, sJ ((i : Int))], h)) rfl ?_
      refine s_get (a := 53) (j := 0) hh rfl ⟨_, rfl⟩ rfl rfl rfl (v := .ref 54) (hR_ok hh (by decide +kernel)) ?_
      refine sP 1 (g1 := (20, [some (.ref 53), some (sI ((r : Int))), some (sI ((i : Int)))], [sI ((r : Int)), .ref 54, sJ 0, sJ ((i : Int))], h)) rfl ?_
      have rg5 := hI_rg hh (rm_z hr)
      refine s_iald (a := 54) (n := 6) (j := (r : Int)) hh rfl rfl rfl (by omega) (by omega) (by decide) (v := sI (hI h 54 r)) (by rw [Int.toNat_natCast]; exact hI_ok hh (rm_z hr)) ?_
      refine sP 1 (g1 := (22, [some (.ref 53), some (sI ((r : Int))), some (sI ((i : Int)))], [sI 1, sI (hI h 54 r), sJ 0, sJ ((i : Int))], h)) rfl ?_
      refine s_sub (a := hI h 54 r) (b := 1) rfl rfl ?_
      refine s_i2l (a := (hI h 54 r) - 1) rfl rfl (by unfold sR aMi aMa; omega) ?_
      have ev6 := fIn (sc := sc) (d := d + 1) (h := h) (a := (i : Int)) (b := 0) (e := (hI h 54 r) - 1) (by omega) (by omega) (by omega) (by omega) (by omega) (by omega)
      rw [if_pos (by omega)] at ev6
      refine s_call (k := 127) (args := [sJ ((i : Int)), sJ 0, sJ ((hI h 54 r) - 1)]) (st := []) (v := some (sI 1)) (h1 := h) rfl ⟨rfl, rfl⟩ rfl rfl rfl rfl rfl rfl ev6 ?_
      refine s_ifc (q := .eq) (a := 1) rfl ⟨_, rfl⟩ rfl (by unfold sR aMi aMa; omega) (fun hc7 => ?_) (fun hc7 => ?_)
      · have hc7 : (1 : Int) = 0 := hc7
        omega
      · have hc7 : ¬ ((1 : Int) = 0) := hc7
        refine sP 2 (g1 := (28, [some (.ref 53), some (sI ((r : Int))), some (sI ((i : Int)))], [.ref 53, .ref 53], h)) rfl ?_
        refine s_get (a := 53) (j := 1) hh rfl ⟨_, rfl⟩ rfl rfl rfl (v := .ref 55) (hR_ok hh (by decide +kernel)) ?_
        refine sP 2 (g1 := (31, [some (.ref 53), some (sI ((r : Int))), some (sI ((i : Int)))], [sI ((r : Int)), sI 40, .ref 55, .ref 53], h)) rfl ?_
        refine s_mul (a := 40) (b := (r : Int)) rfl rfl ?_
        refine sP 1 (g1 := (33, [some (.ref 53), some (sI ((r : Int))), some (sI ((i : Int)))], [sI ((i : Int)), sI (40 * ((r : Int))), .ref 55, .ref 53], h)) rfl ?_
        refine s_add (a := 40 * ((r : Int))) (b := (i : Int)) rfl rfl ?_
        refine s_iald (a := 55) (n := 240) (j := (40 * ((r : Int))) + ((i : Int))) hh rfl rfl rfl (by omega) (by omega) (by decide) (v := sI (hI h 55 (40 * r + i))) (by rw [show ((40 * ((r : Int))) + ((i : Int)) : Int).toNat = 40 * r + i by omega]; exact hI_ok hh (rm_cc (by omega))) ?_
        refine s_call (k := 130) (args := [.ref 53, sI (hI h 55 (40 * r + i))]) (st := []) (v := some (sI 1)) (h1 := g9) rfl ⟨rfl, rfl⟩ rfl rfl rfl rfl (sRcv hh (a := 53) rfl rfl) rfl t1 ?_
        refine sP 1 (g1 := (40, [some (.ref 53), some (sI ((r : Int))), some (sI ((i : Int)))], [sI 1], g9)) rfl ?_
        exact s_reti rfl rfl (Or.inl rfl) rfl rfl
    · have hc4 : ¬ ((0 : Int) ≤ (hI h 54 r)) := hc4
      omega
  · have hc2 : ¬ ((1 : Int) ≠ 0) := hc2
    omega
theorem fMeanXb0 {r : Int} (hh : aHp h) (rr : sR r) (hc : ¬ (0 ≤ r ∧ r < 6)) : nEv sc (d + 3) 18 [.ref 0, sI r] h (some (sI (-1)), h) := by
  unfold sR aMi aMa at rr
  refine nEv_of (t := mMe18) rfl ?_
  show nRn sc (d + 2) (mMT mMe18) (mMC mMe18) (0, [some (.ref 0), some (sI r), none], [], h) _
  refine sP 2 (g1 := (2, [some (.ref 0), some (sI r), none], [sI r, .ref 0], h)) rfl ?_
  refine s_call (k := 8) (args := [.ref 0, sI r]) (st := []) (v := some (.null)) (h1 := h) rfl ⟨rfl, rfl⟩ rfl rfl rfl rfl (sRcv hh (a := 0) rfl rfl) rfl (fRowNo (by unfold sR aMi aMa; omega) (by omega)) ?_
  refine sP 2 (g1 := (5, [some (.ref 0), some (sI r), some (.null)], [.null], h)) rfl ?_
  refine s_nil rfl (Or.inr ⟨⟨_, rfl⟩, rfl⟩) ?_
  refine sP 1 (g1 := (7, [some (.ref 0), some (sI r), some (.null)], [sI ((-1))], h)) rfl ?_
  exact s_reti rfl rfl (Or.inl rfl) rfl rfl
theorem fMeanMb0 {r : Int} (hh : aHp h) (rr : sR r) (hc : ¬ (0 ≤ r ∧ r < 6)) : nEv sc (d + 3) 134 [.ref 53, sI r] h (some (sI (-1)), h) := by
  unfold sR aMi aMa at rr
  refine nEv_of (t := mMe134) rfl ?_
  show nRn sc (d + 2) (mMT mMe134) (mMC mMe134) (0, [some (.ref 53), some (sI r), none, none, none], [], h) _
  refine sP 1 (g1 := (1, [some (.ref 53), some (sI r), none, none, none], [sI r], h)) rfl ?_
  have ev1 := fIsRow (sc := sc) (d := d) (h := h) (r := r) (by unfold sR aMi aMa; omega)
  rw [if_neg (by omega)] at ev1
  refine s_call (k := 126) (args := [sI r]) (st := []) (v := some (sI 0)) (h1 := h) rfl ⟨rfl, rfl⟩ rfl rfl rfl rfl rfl rfl ev1 ?_
  refine s_ifc (q := .ne) (a := 0) rfl ⟨_, rfl⟩ rfl (by unfold sR aMi aMa; omega) (fun hc2 => ?_) (fun hc2 => ?_)
  · have hc2 : (0 : Int) ≠ 0 := hc2
    omega
  · have hc2 : ¬ ((0 : Int) ≠ 0) := hc2
    refine sP 1 (g1 := (4, [some (.ref 53), some (sI r), none, none, none], [sI ((-1))], h)) rfl ?_
    exact s_reti rfl rfl (Or.inl rfl) rfl rfl
theorem fMeanXw1 {r : Nat} (hh : aHp h) (hr : r < 6) (hw : hI h (21 + 2 * r) 1 = -1) : ∃ g, nEv sc (d + 3) 18 [.ref 0, sI (r : Int)] h (some (sI (-3)), g) ∧ oFX 1 h g := by
  obtain ⟨g1, r1, r2, r3⟩ := fFoundX (sc := sc) (d := d + 1) (f := 1) hh (by omega)
  refine ⟨g1, nEv_of (t := mMe18) rfl ?_, r2, r3⟩
  show nRn sc (d + 2) (mMT mMe18) (mMC mMe18) (0, [some (.ref 0), some (sI ((r : Int))), none], [], h) _
  refine sP 2 (g1 := (2, [some (.ref 0), some (sI ((r : Int))), none], [sI ((r : Int)), .ref 0], h)) rfl ?_
  refine s_call (k := 8) (args := [.ref 0, sI ((r : Int))]) (st := []) (v := some (.ref (21 + 2 * r))) (h1 := h) rfl ⟨rfl, rfl⟩ rfl rfl rfl rfl (sRcv hh (a := 0) rfl rfl) rfl (fRowAt hh hr) ?_
  refine sP 2 (g1 := (5, [some (.ref 0), some (sI ((r : Int))), some (.ref (21 + 2 * r))], [.ref (21 + 2 * r)], h)) rfl ?_
  refine s_null rfl (Or.inr ⟨⟨_, rfl⟩, rfl⟩) ?_
  refine sP 1 (g1 := (9, [some (.ref 0), some (sI ((r : Int))), some (.ref (21 + 2 * r))], [.ref (21 + 2 * r)], h)) rfl ?_
  have rg1 := hI_rg hh (ra_z hr)
  refine s_get (a := 21 + 2 * r) (j := 1) hh rfl ⟨_, rfl⟩ (ra_t hr) rfl rfl (v := sI (hI h (21 + 2 * r) 1)) (hI_ok hh (ra_z hr)) ?_
  refine sP 1 (g1 := (11, [some (.ref 0), some (sI ((r : Int))), some (.ref (21 + 2 * r))], [sI ((-1)), sI (hI h (21 + 2 * r) 1)], h)) rfl ?_
  refine s_icmp (q := .ne) (a := hI h (21 + 2 * r) 1) (b := (-1)) rfl ⟨_, rfl⟩ rfl (by unfold sR aMi aMa; omega) (by unfold sR aMi aMa; omega) (fun hc2 => ?_) (fun hc2 => ?_)
  · have hc2 : ((hI h (21 + 2 * r) 1) : Int) ≠ ((-1)) := hc2
    omega
  · have hc2 : ¬ (((hI h (21 + 2 * r) 1) : Int) ≠ ((-1))) := hc2
    refine sP 2 (g1 := (14, [some (.ref 0), some (sI ((r : Int))), some (.ref (21 + 2 * r))], [sI 1, .ref 0], h)) rfl ?_
    refine s_call (k := 9) (args := [.ref 0, sI 1]) (st := []) (v := some (sI ((-3)))) (h1 := g1) rfl ⟨rfl, rfl⟩ rfl rfl rfl rfl (sRcv hh (a := 0) rfl rfl) rfl r1 ?_
    exact s_reti rfl rfl (Or.inl rfl) rfl rfl
theorem fMeanXw4 {r : Nat} (hh : aHp h) (hr : r < 6) (hw : hI h (21 + 2 * r) 1 = 0) : ∃ g, nEv sc (d + 3) 18 [.ref 0, sI (r : Int)] h (some (sI (-3)), g) ∧ oFX 4 h g := by
  obtain ⟨g1, r1, r2, r3⟩ := fFoundX (sc := sc) (d := d + 1) (f := 4) hh (by omega)
  refine ⟨g1, nEv_of (t := mMe18) rfl ?_, r2, r3⟩
  show nRn sc (d + 2) (mMT mMe18) (mMC mMe18) (0, [some (.ref 0), some (sI ((r : Int))), none], [], h) _
  refine sP 2 (g1 := (2, [some (.ref 0), some (sI ((r : Int))), none], [sI ((r : Int)), .ref 0], h)) rfl ?_
  refine s_call (k := 8) (args := [.ref 0, sI ((r : Int))]) (st := []) (v := some (.ref (21 + 2 * r))) (h1 := h) rfl ⟨rfl, rfl⟩ rfl rfl rfl rfl (sRcv hh (a := 0) rfl rfl) rfl (fRowAt hh hr) ?_
  refine sP 2 (g1 := (5, [some (.ref 0), some (sI ((r : Int))), some (.ref (21 + 2 * r))], [.ref (21 + 2 * r)], h)) rfl ?_
  refine s_null rfl (Or.inr ⟨⟨_, rfl⟩, rfl⟩) ?_
  refine sP 1 (g1 := (9, [some (.ref 0), some (sI ((r : Int))), some (.ref (21 + 2 * r))], [.ref (21 + 2 * r)], h)) rfl ?_
  have rg1 := hI_rg hh (ra_z hr)
  refine s_get (a := 21 + 2 * r) (j := 1) hh rfl ⟨_, rfl⟩ (ra_t hr) rfl rfl (v := sI (hI h (21 + 2 * r) 1)) (hI_ok hh (ra_z hr)) ?_
  refine sP 1 (g1 := (11, [some (.ref 0), some (sI ((r : Int))), some (.ref (21 + 2 * r))], [sI ((-1)), sI (hI h (21 + 2 * r) 1)], h)) rfl ?_
  refine s_icmp (q := .ne) (a := hI h (21 + 2 * r) 1) (b := (-1)) rfl ⟨_, rfl⟩ rfl (by unfold sR aMi aMa; omega) (by unfold sR aMi aMa; omega) (fun hc2 => ?_) (fun hc2 => ?_)
  · have hc2 : ((hI h (21 + 2 * r) 1) : Int) ≠ ((-1)) := hc2
    refine sP 1 (g1 := (17, [some (.ref 0), some (sI ((r : Int))), some (.ref (21 + 2 * r))], [.ref (21 + 2 * r)], h)) rfl ?_
    have rg3 := hI_rg hh (ra_z hr)
    refine s_get (a := 21 + 2 * r) (j := 1) hh rfl ⟨_, rfl⟩ (ra_t hr) rfl rfl (v := sI (hI h (21 + 2 * r) 1)) (hI_ok hh (ra_z hr)) ?_
    refine s_ifc (q := .gt) (a := hI h (21 + 2 * r) 1) rfl ⟨_, rfl⟩ rfl (by unfold sR aMi aMa; omega) (fun hc4 => ?_) (fun hc4 => ?_)
    · have hc4 : (0 : Int) < (hI h (21 + 2 * r) 1) := hc4
      omega
    · have hc4 : ¬ ((0 : Int) < (hI h (21 + 2 * r) 1)) := hc4
      refine sP 2 (g1 := (21, [some (.ref 0), some (sI ((r : Int))), some (.ref (21 + 2 * r))], [sI 4, .ref 0], h)) rfl ?_
      refine s_call (k := 9) (args := [.ref 0, sI 4]) (st := []) (v := some (sI ((-3)))) (h1 := g1) rfl ⟨rfl, rfl⟩ rfl rfl rfl rfl (sRcv hh (a := 0) rfl rfl) rfl r1 ?_
      exact s_reti rfl rfl (Or.inl rfl) rfl rfl
  · have hc2 : ¬ (((hI h (21 + 2 * r) 1) : Int) ≠ ((-1))) := hc2
    omega
theorem fMeanMw1 {r : Nat} (hh : aHp h) (hr : r < 6) (hw : hI h 54 r < 0) : ∃ g, nEv sc (d + 3) 134 [.ref 53, sI (r : Int)] h (some (sI (-3)), g) ∧ oFM 1 h g := by
  obtain ⟨g1, r1, r2, r3⟩ := fFoundM (sc := sc) (d := d + 1) (f := 1) hh (by omega)
  refine ⟨g1, nEv_of (t := mMe134) rfl ?_, r2, r3⟩
  show nRn sc (d + 2) (mMT mMe134) (mMC mMe134) (0, [some (.ref 53), some (sI ((r : Int))), none, none, none], [], h) _
  refine sP 1 (g1 := (1, [some (.ref 53), some (sI ((r : Int))), none, none, none], [sI ((r : Int))], h)) rfl ?_
  have ev1 := fIsRow (sc := sc) (d := d) (h := h) (r := (r : Int)) (by unfold sR aMi aMa; omega)
  rw [if_pos (by omega)] at ev1
  refine s_call (k := 126) (args := [sI ((r : Int))]) (st := []) (v := some (sI 1)) (h1 := h) rfl ⟨rfl, rfl⟩ rfl rfl rfl rfl rfl rfl ev1 ?_
  refine s_ifc (q := .ne) (a := 1) rfl ⟨_, rfl⟩ rfl (by unfold sR aMi aMa; omega) (fun hc2 => ?_) (fun hc2 => ?_)
  · have hc2 : (1 : Int) ≠ 0 := hc2
    refine sP 1 (g1 := (6, [some (.ref 53), some (sI ((r : Int))), none, none, none], [.ref 53], h)) rfl ?_
    refine s_get (a := 53) (j := 0) hh rfl ⟨_, rfl⟩ rfl rfl rfl (v := .ref 54) (hR_ok hh (by decide +kernel)) ?_
    refine sP 1 (g1 := (8, [some (.ref 53), some (sI ((r : Int))), none, none, none], [sI ((r : Int)), .ref 54], h)) rfl ?_
    have rg3 := hI_rg hh (rm_z hr)
    refine s_iald (a := 54) (n := 6) (j := (r : Int)) hh rfl rfl rfl (by omega) (by omega) (by decide) (v := sI (hI h 54 r)) (by rw [Int.toNat_natCast]; exact hI_ok hh (rm_z hr)) ?_
    refine s_ifc (q := .ge) (a := hI h 54 r) rfl ⟨_, rfl⟩ rfl (by unfold sR aMi aMa; omega) (fun hc4 => ?_) (fun hc4 => ?_)
    · have hc4 : (0 : Int) ≤ (hI h 54 r) := hc4
      omega
    · have hc4 : ¬ ((0 : Int) ≤ (hI h 54 r)) := hc4
      refine sP 2 (g1 := (12, [some (.ref 53), some (sI ((r : Int))), none, none, none], [sI 1, .ref 53], h)) rfl ?_
      refine s_call (k := 128) (args := [.ref 53, sI 1]) (st := []) (v := some (sI ((-3)))) (h1 := g1) rfl ⟨rfl, rfl⟩ rfl rfl rfl rfl (sRcv hh (a := 53) rfl rfl) rfl r1 ?_
      exact s_reti rfl rfl (Or.inl rfl) rfl rfl
  · have hc2 : ¬ ((1 : Int) ≠ 0) := hc2
    omega
theorem fMeanMw4 {r : Nat} (hh : aHp h) (hr : r < 6) (hw : hI h 54 r = 0) : ∃ g, nEv sc (d + 3) 134 [.ref 53, sI (r : Int)] h (some (sI (-3)), g) ∧ oFM 4 h g := by
  obtain ⟨g1, r1, r2, r3⟩ := fFoundM (sc := sc) (d := d + 1) (f := 4) hh (by omega)
  refine ⟨g1, nEv_of (t := mMe134) rfl ?_, r2, r3⟩
  show nRn sc (d + 2) (mMT mMe134) (mMC mMe134) (0, [some (.ref 53), some (sI ((r : Int))), none, none, none], [], h) _
  refine sP 1 (g1 := (1, [some (.ref 53), some (sI ((r : Int))), none, none, none], [sI ((r : Int))], h)) rfl ?_
  have ev1 := fIsRow (sc := sc) (d := d) (h := h) (r := (r : Int)) (by unfold sR aMi aMa; omega)
  rw [if_pos (by omega)] at ev1
  refine s_call (k := 126) (args := [sI ((r : Int))]) (st := []) (v := some (sI 1)) (h1 := h) rfl ⟨rfl, rfl⟩ rfl rfl rfl rfl rfl rfl ev1 ?_
  refine s_ifc (q := .ne) (a := 1) rfl ⟨_, rfl⟩ rfl (by unfold sR aMi aMa; omega) (fun hc2 => ?_) (fun hc2 => ?_)
  · have hc2 : (1 : Int) ≠ 0 := hc2
    refine sP 1 (g1 := (6, [some (.ref 53), some (sI ((r : Int))), none, none, none], [.ref 53], h)) rfl ?_
    refine s_get (a := 53) (j := 0) hh rfl ⟨_, rfl⟩ rfl rfl rfl (v := .ref 54) (hR_ok hh (by decide +kernel)) ?_
    refine sP 1 (g1 := (8, [some (.ref 53), some (sI ((r : Int))), none, none, none], [sI ((r : Int)), .ref 54], h)) rfl ?_
    have rg3 := hI_rg hh (rm_z hr)
    refine s_iald (a := 54) (n := 6) (j := (r : Int)) hh rfl rfl rfl (by omega) (by omega) (by decide) (v := sI (hI h 54 r)) (by rw [Int.toNat_natCast]; exact hI_ok hh (rm_z hr)) ?_
    refine s_ifc (q := .ge) (a := hI h 54 r) rfl ⟨_, rfl⟩ rfl (by unfold sR aMi aMa; omega) (fun hc4 => ?_) (fun hc4 => ?_)
    · have hc4 : (0 : Int) ≤ (hI h 54 r) := hc4
      refine sP 1 (g1 := (15, [some (.ref 53), some (sI ((r : Int))), none, none, none], [.ref 53], h)) rfl ?_
      refine s_get (a := 53) (j := 0) hh rfl ⟨_, rfl⟩ rfl rfl rfl (v := .ref 54) (hR_ok hh (by decide +kernel)) ?_
      refine sP 1 (g1 := (17, [some (.ref 53), some (sI ((r : Int))), none, none, none], [sI ((r : Int)), .ref 54], h)) rfl ?_
      have rg5 := hI_rg hh (rm_z hr)
      refine s_iald (a := 54) (n := 6) (j := (r : Int)) hh rfl rfl rfl (by omega) (by omega) (by decide) (v := sI (hI h 54 r)) (by rw [Int.toNat_natCast]; exact hI_ok hh (rm_z hr)) ?_
      refine s_ifc (q := .ne) (a := hI h 54 r) rfl ⟨_, rfl⟩ rfl (by unfold sR aMi aMa; omega) (fun hc6 => ?_) (fun hc6 => ?_)
      · have hc6 : ((hI h 54 r) : Int) ≠ 0 := hc6
        omega
      · have hc6 : ¬ (((hI h 54 r) : Int) ≠ 0) := hc6
        refine sP 2 (g1 := (21, [some (.ref 53), some (sI ((r : Int))), none, none, none], [sI 4, .ref 53], h)) rfl ?_
        refine s_call (k := 128) (args := [.ref 53, sI 4]) (st := []) (v := some (sI ((-3)))) (h1 := g1) rfl ⟨rfl, rfl⟩ rfl rfl rfl rfl (sRcv hh (a := 53) rfl rfl) rfl r1 ?_
        exact s_reti rfl rfl (Or.inl rfl) rfl rfl
    · have hc4 : ¬ ((0 : Int) ≤ (hI h 54 r)) := hc4
      omega
  · have hc2 : ¬ ((1 : Int) ≠ 0) := hc2
    omega
theorem fTotL {r : Nat} {q : mR} (hh : aHp h) (hr : r < 6) : ∀ (c k : Nat) (H : Int64), k + c = (hI h (21 + 2 * r) 1).toNat → (∀ Z : Option Value, nRn sc d (mMT mMe19) (mMC mMe19) (18, [some (.ref (21 + 2 * r)), some (.long (smL (hI h (22 + 2 * r)) c k H)), none, Z], [], h) q) → nRn sc d (mMT mMe19) (mMC mMe19) (4, [some (.ref (21 + 2 * r)), some (.long H), none, some (sI (k : Int))], [], h) q := by
  have gz := hI_rg hh (ra_z hr)
  intro c
  induction c with
  | zero =>
    intro k H hk hq
    refine sP 2 (g1 := (6, [some (.ref (21 + 2 * r)), some (.long H), none, some (sI ((k : Int)))], [.ref (21 + 2 * r), sI ((k : Int))], h)) rfl ?_
    have rg1 := hI_rg hh (ra_z hr)
    refine s_get (a := 21 + 2 * r) (j := 1) hh rfl ⟨_, rfl⟩ (ra_t hr) rfl rfl (v := sI (hI h (21 + 2 * r) 1)) (hI_ok hh (ra_z hr)) ?_
    refine s_icmp (q := .ge) (a := (k : Int)) (b := hI h (21 + 2 * r) 1) rfl ⟨_, rfl⟩ rfl (by unfold sR aMi aMa; omega) (by unfold sR aMi aMa; omega) (fun hc2 => ?_) (fun hc2 => ?_)
    · have hc2 : ((hI h (21 + 2 * r) 1) : Int) ≤ ((k : Int)) := hc2
      exact hq _
    · have hc2 : ¬ (((hI h (21 + 2 * r) 1) : Int) ≤ ((k : Int))) := hc2
      omega
  | succ c ih =>
    intro k H hk hq
    refine sP 2 (g1 := (6, [some (.ref (21 + 2 * r)), some (.long H), none, some (sI ((k : Int)))], [.ref (21 + 2 * r), sI ((k : Int))], h)) rfl ?_
    have rg1 := hI_rg hh (ra_z hr)
    refine s_get (a := 21 + 2 * r) (j := 1) hh rfl ⟨_, rfl⟩ (ra_t hr) rfl rfl (v := sI (hI h (21 + 2 * r) 1)) (hI_ok hh (ra_z hr)) ?_
    refine s_icmp (q := .ge) (a := (k : Int)) (b := hI h (21 + 2 * r) 1) rfl ⟨_, rfl⟩ rfl (by unfold sR aMi aMa; omega) (by unfold sR aMi aMa; omega) (fun hc2 => ?_) (fun hc2 => ?_)
    · have hc2 : ((hI h (21 + 2 * r) 1) : Int) ≤ ((k : Int)) := hc2
      omega
    · have hc2 : ¬ (((hI h (21 + 2 * r) 1) : Int) ≤ ((k : Int))) := hc2
      refine sP 2 (g1 := (10, [some (.ref (21 + 2 * r)), some (.long H), none, some (sI ((k : Int)))], [.ref (21 + 2 * r), .long H], h)) rfl ?_
      refine s_get (a := 21 + 2 * r) (j := 0) hh rfl ⟨_, rfl⟩ (ra_t hr) rfl rfl (v := .ref (22 + 2 * r)) (hR_ok hh (ra_r hr)) ?_
      refine sP 1 (g1 := (12, [some (.ref (21 + 2 * r)), some (.long H), none, some (sI ((k : Int)))], [sI ((k : Int)), .ref (22 + 2 * r), .long H], h)) rfl ?_
      refine s_iald (a := 22 + 2 * r) (n := 40) (j := (k : Int)) hh rfl rfl (ra_2 hr) (by omega) (by omega) (by decide) (v := sI (hI h (22 + 2 * r) k)) (by rw [Int.toNat_natCast]; exact hI_ok hh (ra_c hr (by omega))) ?_
      refine s_i2lq rfl rfl ?_
      refine s_b2 (w := H + (Int32.ofInt (hI h (22 + 2 * r) k)).toInt64) rfl rfl rfl ?_
      refine sP 1 (g1 := (16, [some (.ref (21 + 2 * r)), some (.long (H + (Int32.ofInt (hI h (22 + 2 * r) k)).toInt64)), none, some (sI ((k : Int)))], [], h)) rfl ?_
      refine s_inc (a := (k : Int)) (n := 1) (k := 3) rfl rfl rfl ?_
      refine sP 1 (g1 := (4, [some (.ref (21 + 2 * r)), some (.long (H + (Int32.ofInt (hI h (22 + 2 * r) k)).toInt64)), none, some (sI (((k : Int)) + 1))], [], h)) rfl ?_
      rw [show ((k : Int) + 1) = ((k + 1 : Nat) : Int) by omega]
      exact ih (k + 1) _ (by omega) hq
theorem fTot {r : Nat} (hh : aHp h) (hr : r < 6) (h0 : 0 ≤ hI h (21 + 2 * r) 1) : nEv sc (d + 1) 19 [.ref (21 + 2 * r)] h (some (.long (smL (hI h (22 + 2 * r)) (hI h (21 + 2 * r) 1).toNat 0 (Int64.ofInt 0))), h) := by
  refine nEv_of (t := mMe19) rfl ?_
  show nRn sc d (mMT mMe19) (mMC mMe19) (0, [some (.ref (21 + 2 * r)), none, none, none], [], h) _
  refine sP 4 (g1 := (4, [some (.ref (21 + 2 * r)), some (sJ 0), none, some (sI 0)], [], h)) rfl ?_
  refine fTotL hh hr (hI h (21 + 2 * r) 1).toNat 0 (Int64.ofInt 0) (by omega) (fun Z => ?_)
  refine sP 1 (g1 := (19, [some (.ref (21 + 2 * r)), some (.long (smL (hI h (22 + 2 * r)) (hI h (21 + 2 * r) 1).toNat 0 (Int64.ofInt 0))), none, Z], [.long (smL (hI h (22 + 2 * r)) (hI h (21 + 2 * r) 1).toNat 0 (Int64.ofInt 0))], h)) rfl ?_
  exact s_ret rfl rfl
theorem fMeanX {r : Nat} (hh : aHp h) (hr : r < 6) (h0 : 0 < hI h (21 + 2 * r) 1) : ∃ g, nEv sc (d + 3) 18 [.ref 0, sI (r : Int)] h (some (sI 1), g) ∧ aHp g ∧ ∀ p m, aSlot g p m = if p = 0 ∧ m = 9 then some (.int ((smL (hI h (22 + 2 * r)) (hI h (21 + 2 * r) 1).toNat 0 (Int64.ofInt 0)) / (Int32.ofInt (hI h (21 + 2 * r) 1)).toInt64).toInt32) else aSlot h p m := by
  have gz := hI_rg hh (ra_z hr)
  have nz := i64nz h0 (by omega)
  have ev := fTot (sc := sc) (d := d + 1) hh hr (by omega)
  obtain ⟨g1, eg1⟩ : ∃ gz, gz = hset h 0 9 (.int ((smL (hI h (22 + 2 * r)) (hI h (21 + 2 * r) 1).toNat 0 (Int64.ofInt 0)) / (Int32.ofInt (hI h (21 + 2 * r) 1)).toInt64).toInt32) := ⟨_, rfl⟩
  have sg1 : ∀ xa xm, aSlot g1 xa xm = if xa = 0 ∧ xm = 9 then some (.int ((smL (hI h (22 + 2 * r)) (hI h (21 + 2 * r) 1).toNat 0 (Int64.ofInt 0)) / (Int32.ofInt (hI h (21 + 2 * r) 1)).toInt64).toInt32) else aSlot h xa xm := fun xa xm => by rw [eg1]; exact hset_slot hh (show sTg 0 = some (0, 12) from rfl) (by omega) xa xm
  have hg1 : aHp g1 := by rw [eg1]; exact hset_any hh as_x
  refine ⟨g1, nEv_of (t := mMe18) rfl ?_, hg1, sg1⟩
  show nRn sc (d + 2) (mMT mMe18) (mMC mMe18) (0, [some (.ref 0), some (sI ((r : Int))), none], [], h) _
  refine sP 2 (g1 := (2, [some (.ref 0), some (sI ((r : Int))), none], [sI ((r : Int)), .ref 0], h)) rfl ?_
  refine s_call (k := 8) (args := [.ref 0, sI ((r : Int))]) (st := []) (v := some (.ref (21 + 2 * r))) (h1 := h) rfl ⟨rfl, rfl⟩ rfl rfl rfl rfl (sRcv hh (a := 0) rfl rfl) rfl (fRowAt hh hr) ?_
  refine sP 2 (g1 := (5, [some (.ref 0), some (sI ((r : Int))), some (.ref (21 + 2 * r))], [.ref (21 + 2 * r)], h)) rfl ?_
  refine s_null rfl (Or.inr ⟨⟨_, rfl⟩, rfl⟩) ?_
  refine sP 1 (g1 := (9, [some (.ref 0), some (sI ((r : Int))), some (.ref (21 + 2 * r))], [.ref (21 + 2 * r)], h)) rfl ?_
  have rg1 := hI_rg hh (ra_z hr)
  refine s_get (a := 21 + 2 * r) (j := 1) hh rfl ⟨_, rfl⟩ (ra_t hr) rfl rfl (v := sI (hI h (21 + 2 * r) 1)) (hI_ok hh (ra_z hr)) ?_
  refine sP 1 (g1 := (11, [some (.ref 0), some (sI ((r : Int))), some (.ref (21 + 2 * r))], [sI ((-1)), sI (hI h (21 + 2 * r) 1)], h)) rfl ?_
  refine s_icmp (q := .ne) (a := hI h (21 + 2 * r) 1) (b := (-1)) rfl ⟨_, rfl⟩ rfl (by unfold sR aMi aMa; omega) (by unfold sR aMi aMa; omega) (fun hc2 => ?_) (fun hc2 => ?_)
  · have hc2 : ((hI h (21 + 2 * r) 1) : Int) ≠ ((-1)) := hc2
    refine sP 1 (g1 := (17, [some (.ref 0), some (sI ((r : Int))), some (.ref (21 + 2 * r))], [.ref (21 + 2 * r)], h)) rfl ?_
    have rg3 := hI_rg hh (ra_z hr)
    refine s_get (a := 21 + 2 * r) (j := 1) hh rfl ⟨_, rfl⟩ (ra_t hr) rfl rfl (v := sI (hI h (21 + 2 * r) 1)) (hI_ok hh (ra_z hr)) ?_
    refine s_ifc (q := .gt) (a := hI h (21 + 2 * r) 1) rfl ⟨_, rfl⟩ rfl (by unfold sR aMi aMa; omega) (fun hc4 => ?_) (fun hc4 => ?_)
    · have hc4 : (0 : Int) < (hI h (21 + 2 * r) 1) := hc4
      refine sP 2 (g1 := (25, [some (.ref 0), some (sI ((r : Int))), some (.ref (21 + 2 * r))], [.ref (21 + 2 * r), .ref 0], h)) rfl ?_
      refine s_call (k := 19) (args := [.ref (21 + 2 * r)]) (st := [.ref 0]) (v := some (.long (smL (hI h (22 + 2 * r)) (hI h (21 + 2 * r) 1).toNat 0 (Int64.ofInt 0)))) (h1 := h) rfl ⟨rfl, rfl⟩ rfl rfl rfl rfl (sRcv hh (ra_t hr) rfl) rfl ev ?_
      refine sP 1 (g1 := (27, [some (.ref 0), some (sI ((r : Int))), some (.ref (21 + 2 * r))], [.ref (21 + 2 * r), .long (smL (hI h (22 + 2 * r)) (hI h (21 + 2 * r) 1).toNat 0 (Int64.ofInt 0)), .ref 0], h)) rfl ?_
      have rg5 := hI_rg hh (ra_z hr)
      refine s_get (a := 21 + 2 * r) (j := 1) hh rfl ⟨_, rfl⟩ (ra_t hr) rfl rfl (v := sI (hI h (21 + 2 * r) 1)) (hI_ok hh (ra_z hr)) ?_
      refine s_i2lq rfl rfl ?_
      refine s_ldivq rfl rfl nz ?_
      refine s_l2iq rfl rfl ?_
      refine s_put (a := 0) (j := 9) (k := 0) (n := 12) hh rfl ⟨_, rfl⟩ (show sTg 0 = some (0, 12) from rfl) rfl rfl (by decide) rfl ?_
      rw [← eg1]
      refine sP 1 (g1 := (33, [some (.ref 0), some (sI ((r : Int))), some (.ref (21 + 2 * r))], [sI 1], g1)) rfl ?_
      exact s_reti rfl rfl (Or.inl rfl) rfl rfl
    · have hc4 : ¬ ((0 : Int) < (hI h (21 + 2 * r) 1)) := hc4
      omega
  · have hc2 : ¬ (((hI h (21 + 2 * r) 1) : Int) ≠ ((-1))) := hc2
    omega
theorem fMeaL {r : Nat} {q : mR} (hh : aHp h) (hr : r < 6) : ∀ (c k : Nat) (H : Int64), k + c = (hI h 54 r).toNat → (∀ Z : Option Value, nRn sc (d + 2) (mMT mMe134) (mMC mMe134) (47, [some (.ref 53), some (sI (r : Int)), some (.long (smL (fun j => hI h 55 (40 * r + j)) c k H)), none, Z], [], h) q) → nRn sc (d + 2) (mMT mMe134) (mMC mMe134) (27, [some (.ref 53), some (sI (r : Int)), some (.long H), none, some (sI (k : Int))], [], h) q := by
  have gz := hI_rg hh (rm_z hr)
  intro c
  induction c with
  | zero =>
    intro k H hk hq
    refine sP 2 (g1 := (29, [some (.ref 53), some (sI ((r : Int))), some (.long H), none, some (sI ((k : Int)))], [.ref 53, sI ((k : Int))], h)) rfl ?_
    refine s_get (a := 53) (j := 0) hh rfl ⟨_, rfl⟩ rfl rfl rfl (v := .ref 54) (hR_ok hh (by decide +kernel)) ?_
    refine sP 1 (g1 := (31, [some (.ref 53), some (sI ((r : Int))), some (.long H), none, some (sI ((k : Int)))], [sI ((r : Int)), .ref 54, sI ((k : Int))], h)) rfl ?_
    have rg1 := hI_rg hh (rm_z hr)
    refine s_iald (a := 54) (n := 6) (j := (r : Int)) hh rfl rfl rfl (by omega) (by omega) (by decide) (v := sI (hI h 54 r)) (by rw [Int.toNat_natCast]; exact hI_ok hh (rm_z hr)) ?_
    refine s_icmp (q := .ge) (a := (k : Int)) (b := hI h 54 r) rfl ⟨_, rfl⟩ rfl (by unfold sR aMi aMa; omega) (by unfold sR aMi aMa; omega) (fun hc2 => ?_) (fun hc2 => ?_)
    · have hc2 : ((hI h 54 r) : Int) ≤ ((k : Int)) := hc2
      exact hq _
    · have hc2 : ¬ (((hI h 54 r) : Int) ≤ ((k : Int))) := hc2
      omega
  | succ c ih =>
    intro k H hk hq
    refine sP 2 (g1 := (29, [some (.ref 53), some (sI ((r : Int))), some (.long H), none, some (sI ((k : Int)))], [.ref 53, sI ((k : Int))], h)) rfl ?_
    refine s_get (a := 53) (j := 0) hh rfl ⟨_, rfl⟩ rfl rfl rfl (v := .ref 54) (hR_ok hh (by decide +kernel)) ?_
    refine sP 1 (g1 := (31, [some (.ref 53), some (sI ((r : Int))), some (.long H), none, some (sI ((k : Int)))], [sI ((r : Int)), .ref 54, sI ((k : Int))], h)) rfl ?_
    have rg1 := hI_rg hh (rm_z hr)
    refine s_iald (a := 54) (n := 6) (j := (r : Int)) hh rfl rfl rfl (by omega) (by omega) (by decide) (v := sI (hI h 54 r)) (by rw [Int.toNat_natCast]; exact hI_ok hh (rm_z hr)) ?_
    refine s_icmp (q := .ge) (a := (k : Int)) (b := hI h 54 r) rfl ⟨_, rfl⟩ rfl (by unfold sR aMi aMa; omega) (by unfold sR aMi aMa; omega) (fun hc2 => ?_) (fun hc2 => ?_)
    · have hc2 : ((hI h 54 r) : Int) ≤ ((k : Int)) := hc2
      omega
    · have hc2 : ¬ (((hI h 54 r) : Int) ≤ ((k : Int))) := hc2
      refine sP 2 (g1 := (35, [some (.ref 53), some (sI ((r : Int))), some (.long H), none, some (sI ((k : Int)))], [.ref 53, .long H], h)) rfl ?_
      refine s_get (a := 53) (j := 1) hh rfl ⟨_, rfl⟩ rfl rfl rfl (v := .ref 55) (hR_ok hh (by decide +kernel)) ?_
      refine sP 2 (g1 := (38, [some (.ref 53), some (sI ((r : Int))), some (.long H), none, some (sI ((k : Int)))], [sI ((r : Int)), sI 40, .ref 55, .long H], h)) rfl ?_
      refine s_mul (a := 40) (b := (r : Int)) rfl rfl ?_
      refine sP 1 (g1 := (40, [some (.ref 53), some (sI ((r : Int))), some (.long H), none, some (sI ((k : Int)))], [sI ((k : Int)), sI (40 * ((r : Int))), .ref 55, .long H], h)) rfl ?_
      refine s_add (a := 40 * ((r : Int))) (b := (k : Int)) rfl rfl ?_
      refine s_iald (a := 55) (n := 240) (j := (40 * ((r : Int))) + ((k : Int))) hh rfl rfl rfl (by omega) (by omega) (by decide) (v := sI (hI h 55 (40 * r + k))) (by rw [show ((40 * ((r : Int))) + ((k : Int)) : Int).toNat = 40 * r + k by omega]; exact hI_ok hh (rm_cc (by omega))) ?_
      refine s_i2lq rfl rfl ?_
      refine s_b2 (w := H + (Int32.ofInt (hI h 55 (40 * r + k))).toInt64) rfl rfl rfl ?_
      refine sP 1 (g1 := (45, [some (.ref 53), some (sI ((r : Int))), some (.long (H + (Int32.ofInt (hI h 55 (40 * r + k))).toInt64)), none, some (sI ((k : Int)))], [], h)) rfl ?_
      refine s_inc (a := (k : Int)) (n := 1) (k := 4) rfl rfl rfl ?_
      refine sP 1 (g1 := (27, [some (.ref 53), some (sI ((r : Int))), some (.long (H + (Int32.ofInt (hI h 55 (40 * r + k))).toInt64)), none, some (sI (((k : Int)) + 1))], [], h)) rfl ?_
      rw [show ((k : Int) + 1) = ((k + 1 : Nat) : Int) by omega]
      exact ih (k + 1) _ (by omega) hq
theorem fMeanM {r : Nat} (hh : aHp h) (hr : r < 6) (h0 : 0 < hI h 54 r) : ∃ g, nEv sc (d + 3) 134 [.ref 53, sI (r : Int)] h (some (sI 1), g) ∧ aHp g ∧ ∀ p m, aSlot g p m = if p = 53 ∧ m = 8 then some (.int ((smL (fun j => hI h 55 (40 * r + j)) (hI h 54 r).toNat 0 (Int64.ofInt 0)) / (Int32.ofInt (hI h 54 r)).toInt64).toInt32) else aSlot h p m := by
  have gz := hI_rg hh (rm_z hr)
  have nz := i64nz h0 (by omega)
  obtain ⟨g9, t1, t2, t3⟩ := fTellMq (sc := sc) (d := d + 1) (z := ((smL (fun j => hI h 55 (40 * r + j)) (hI h 54 r).toNat 0 (Int64.ofInt 0)) / (Int32.ofInt (hI h 54 r)).toInt64).toInt32) hh
  refine ⟨g9, nEv_of (t := mMe134) rfl ?_, t2, t3⟩
  show nRn sc (d + 2) (mMT mMe134) (mMC mMe134) (0, [some (.ref 53), some (sI ((r : Int))), none, none, none], [], h) _
  refine sP 1 (g1 := (1, [some (.ref 53), some (sI ((r : Int))), none, none, none], [sI ((r : Int))], h)) rfl ?_
  have ev1 := fIsRow (sc := sc) (d := d) (h := h) (r := (r : Int)) (by unfold sR aMi aMa; omega)
  rw [if_pos (by omega)] at ev1
  refine s_call (k := 126) (args := [sI ((r : Int))]) (st := []) (v := some (sI 1)) (h1 := h) rfl ⟨rfl, rfl⟩ rfl rfl rfl rfl rfl rfl ev1 ?_
  refine s_ifc (q := .ne) (a := 1) rfl ⟨_, rfl⟩ rfl (by unfold sR aMi aMa; omega) (fun hc2 => ?_) (fun hc2 => ?_)
  · have hc2 : (1 : Int) ≠ 0 := hc2
    refine sP 1 (g1 := (6, [some (.ref 53), some (sI ((r : Int))), none, none, none], [.ref 53], h)) rfl ?_
    refine s_get (a := 53) (j := 0) hh rfl ⟨_, rfl⟩ rfl rfl rfl (v := .ref 54) (hR_ok hh (by decide +kernel)) ?_
    refine sP 1 (g1 := (8, [some (.ref 53), some (sI ((r : Int))), none, none, none], [sI ((r : Int)), .ref 54], h)) rfl ?_
    have rg3 := hI_rg hh (rm_z hr)
    refine s_iald (a := 54) (n := 6) (j := (r : Int)) hh rfl rfl rfl (by omega) (by omega) (by decide) (v := sI (hI h 54 r)) (by rw [Int.toNat_natCast]; exact hI_ok hh (rm_z hr)) ?_
    refine s_ifc (q := .ge) (a := hI h 54 r) rfl ⟨_, rfl⟩ rfl (by unfold sR aMi aMa; omega) (fun hc4 => ?_) (fun hc4 => ?_)
    · have hc4 : (0 : Int) ≤ (hI h 54 r) := hc4
      refine sP 1 (g1 := (15, [some (.ref 53), some (sI ((r : Int))), none, none, none], [.ref 53], h)) rfl ?_
      refine s_get (a := 53) (j := 0) hh rfl ⟨_, rfl⟩ rfl rfl rfl (v := .ref 54) (hR_ok hh (by decide +kernel)) ?_
      refine sP 1 (g1 := (17, [some (.ref 53), some (sI ((r : Int))), none, none, none], [sI ((r : Int)), .ref 54], h)) rfl ?_
      have rg5 := hI_rg hh (rm_z hr)
      refine s_iald (a := 54) (n := 6) (j := (r : Int)) hh rfl rfl rfl (by omega) (by omega) (by decide) (v := sI (hI h 54 r)) (by rw [Int.toNat_natCast]; exact hI_ok hh (rm_z hr)) ?_
      refine s_ifc (q := .ne) (a := hI h 54 r) rfl ⟨_, rfl⟩ rfl (by unfold sR aMi aMa; omega) (fun hc6 => ?_) (fun hc6 => ?_)
      · have hc6 : ((hI h 54 r) : Int) ≠ 0 := hc6
        refine sP 4 (g1 := (27, [some (.ref 53), some (sI ((r : Int))), some (sJ 0), none, some (sI 0)], [], h)) rfl ?_
        refine fMeaL hh hr (hI h 54 r).toNat 0 (Int64.ofInt 0) (by omega) (fun Z => ?_)
        refine sP 3 (g1 := (50, [some (.ref 53), some (sI ((r : Int))), some (.long (smL (fun j => hI h 55 (40 * r + j)) (hI h 54 r).toNat 0 (Int64.ofInt 0))), none, Z], [.ref 53, .long (smL (fun j => hI h 55 (40 * r + j)) (hI h 54 r).toNat 0 (Int64.ofInt 0)), .ref 53], h)) rfl ?_
        refine s_get (a := 53) (j := 0) hh rfl ⟨_, rfl⟩ rfl rfl rfl (v := .ref 54) (hR_ok hh (by decide +kernel)) ?_
        refine sP 1 (g1 := (52, [some (.ref 53), some (sI ((r : Int))), some (.long (smL (fun j => hI h 55 (40 * r + j)) (hI h 54 r).toNat 0 (Int64.ofInt 0))), none, Z], [sI ((r : Int)), .ref 54, .long (smL (fun j => hI h 55 (40 * r + j)) (hI h 54 r).toNat 0 (Int64.ofInt 0)), .ref 53], h)) rfl ?_
        have rg51 := hI_rg hh (rm_z hr)
        refine s_iald (a := 54) (n := 6) (j := (r : Int)) hh rfl rfl rfl (by omega) (by omega) (by decide) (v := sI (hI h 54 r)) (by rw [Int.toNat_natCast]; exact hI_ok hh (rm_z hr)) ?_
        refine s_i2lq rfl rfl ?_
        refine s_ldivq rfl rfl nz ?_
        refine s_l2iq rfl rfl ?_
        refine s_call (k := 130) (args := [.ref 53, .int (((smL (fun j => hI h 55 (40 * r + j)) (hI h 54 r).toNat 0 (Int64.ofInt 0)) / (Int32.ofInt (hI h 54 r)).toInt64).toInt32)]) (st := []) (v := some (sI 1)) (h1 := g9) rfl ⟨rfl, rfl⟩ rfl rfl rfl rfl (sRcv hh (a := 53) rfl rfl) rfl t1 ?_
        exact s_reti rfl rfl (Or.inl rfl) rfl rfl
      · have hc6 : ¬ (((hI h 54 r) : Int) ≠ 0) := hc6
        omega
    · have hc4 : ¬ ((0 : Int) ≤ (hI h 54 r)) := hc4
      omega
  · have hc2 : ¬ ((1 : Int) ≠ 0) := hc2
    omega
end ATM
theorem v_ask {h h2 : mH} (hp : vP h) (hh : aHp h2) (hs : ∀ p m, ¬ (p = 0 ∧ m = 9) → ¬ (p = 53 ∧ m = 8) → aSlot h2 p m = aSlot h p m) (hq : aSlot h2 0 9 = aSlot h2 53 8) : vE h h2 := by
  refine v_rows hp hh (fun e he => ⟨?_, fun j hj => ?_⟩) (fun p m w1 w2 w3 w4 w5 => hs p m (by omega) (by omega)) (fun _ => hq)
  · rw [hs _ _ (by omega) (by omega), hs _ _ (by omega) (by omega)]
    exact (hp.2 e he).1
  · rw [hs _ _ (by omega) (by omega), hs _ _ (by omega) (by omega)]
    exact (hp.2 e he).2 j hj
theorem vAt {sc : List Int32} {h : mH} (x y : Int32) (hp : vP h) : ∃ z1 h1 z2 h2, nEv sc 100 14 (.ref 0 :: [x, y].map Value.int) h (some (.int z1), h1) ∧ aHp h1 ∧ nEv sc 100 131 (.ref 53 :: [x, y].map Value.int) h1 (some (.int z2), h2) ∧ vE h h2 ∧ z2 = z1 := by
  have hh := vP_a h hp
  have rx : sR x.toInt := aI_rg x
  have ry : sR y.toInt := aI_rg y
  by_cases c1 : 0 ≤ x.toInt ∧ x.toInt < 6
  · obtain ⟨r, er⟩ := iN c1.1
    have hr : r < 6 := by omega
    have sz := hI_rg hh (ra_z hr)
    have e0 := rS hp.2 hr
    by_cases c2 : hI h (21 + 2 * r) 1 = -1
    · obtain ⟨h1, a1, a2⟩ := fAtXw (sc := sc) (d := 97) (f := 1) (i := y.toInt) hh hr ry (by decide) (by decide) (by rw [if_pos c2]; rfl)
      obtain ⟨h2, b1, b2⟩ := fAtMw1 (sc := sc) (d := 97) (i := y.toInt) a2.1 hr (by rw [hI_cg (a2.sl (by omega) (by omega))]; omega)
      exact pk2 (-3) (by rw [er]; exact a1) a2.1 (by rw [er]; exact b1) (v_found (by decide) hp a2 b2)
    by_cases c3 : y.toInt < 0 ∨ hI h (21 + 2 * r) 1 ≤ y.toInt
    · obtain ⟨h1, a1, a2⟩ := fAtXw (sc := sc) (d := 97) (f := 2) (i := y.toInt) hh hr ry (by decide) (by decide) (by rw [if_neg c2, if_pos c3]; rfl)
      have e1 : hI h1 54 r = hI h 54 r := hI_cg (a2.sl (by omega) (by omega))
      obtain ⟨h2, b1, b2⟩ := fAtMw2 (sc := sc) (d := 97) (i := y.toInt) a2.1 hr ry (by omega) (by omega)
      exact pk2 (-3) (by rw [er]; exact a1) a2.1 (by rw [er]; exact b1) (v_found (by decide) hp a2 b2)
    · obtain ⟨i, ei⟩ := iN (show 0 ≤ y.toInt by omega)
      obtain ⟨h1, a1, a2, a3⟩ := fAtX (sc := sc) (d := 97) (i := i) hh hr (by omega)
      have e1 : hI h1 54 r = hI h 54 r := hI_cg (by rw [a3, if_neg (by omega)])
      have e2 : hI h1 55 (40 * r + i) = hI h (22 + 2 * r) i := hI_cg2 (by rw [a3, if_neg (by omega)]; exact ((hp.2 r hr).2 i (by omega)).symm)
      obtain ⟨h2, b1, b2, b3⟩ := fAtM (sc := sc) (d := 97) (i := i) a2 hr (by omega)
      refine pk2 1 (by rw [er, ei]; exact a1) a2 (by rw [er, ei]; exact b1) (v_ask hp b2 (fun p m w1 w2 => by rw [b3, if_neg w2, a3, if_neg w1]) ?_)
      rw [b3 0 9, if_neg (by omega), a3, if_pos ⟨rfl, rfl⟩, b3, if_pos ⟨rfl, rfl⟩, e2]
  · exact pk2 (-1) (fAtXb0 (d := 97) hh rx c1) hh (fAtMb0 (d := 97) hh rx c1) (v_same hp)
theorem vMean {sc : List Int32} {h : mH} (x : Int32) (hp : vP h) : ∃ z1 h1 z2 h2, nEv sc 100 18 (.ref 0 :: [x].map Value.int) h (some (.int z1), h1) ∧ aHp h1 ∧ nEv sc 100 134 (.ref 53 :: [x].map Value.int) h1 (some (.int z2), h2) ∧ vE h h2 ∧ z2 = z1 := by
  have hh := vP_a h hp
  have rx : sR x.toInt := aI_rg x
  by_cases c1 : 0 ≤ x.toInt ∧ x.toInt < 6
  · obtain ⟨r, er⟩ := iN c1.1
    have hr : r < 6 := by omega
    have sz := hI_rg hh (ra_z hr)
    have e0 := rS hp.2 hr
    by_cases c2 : hI h (21 + 2 * r) 1 = -1
    · obtain ⟨h1, a1, a2⟩ := fMeanXw1 (sc := sc) (d := 97) hh hr c2
      obtain ⟨h2, b1, b2⟩ := fMeanMw1 (sc := sc) (d := 97) a2.1 hr (by rw [hI_cg (a2.sl (by omega) (by omega))]; omega)
      exact pk1 (-3) (by rw [er]; exact a1) a2.1 (by rw [er]; exact b1) (v_found (by decide) hp a2 b2)
    by_cases c3 : hI h (21 + 2 * r) 1 = 0
    · obtain ⟨h1, a1, a2⟩ := fMeanXw4 (sc := sc) (d := 97) hh hr c3
      obtain ⟨h2, b1, b2⟩ := fMeanMw4 (sc := sc) (d := 97) a2.1 hr (by rw [hI_cg (a2.sl (by omega) (by omega))]; omega)
      exact pk1 (-3) (by rw [er]; exact a1) a2.1 (by rw [er]; exact b1) (v_found (by decide) hp a2 b2)
    · obtain ⟨h1, a1, a2, a3⟩ := fMeanX (sc := sc) (d := 97) hh hr (by omega)
      have e9 : hI h1 54 r = hI h 54 r := hI_cg (by rw [a3, if_neg (by omega)])
      have e1 : hI h1 54 r = hI h (21 + 2 * r) 1 := by omega
      obtain ⟨h2, b1, b2, b3⟩ := fMeanM (sc := sc) (d := 97) (r := r) a2 hr (by omega)
      refine pk1 1 (by rw [er]; exact a1) a2 (by rw [er]; exact b1) (v_ask hp b2 (fun p m w1 w2 => by rw [b3, if_neg w2, a3, if_neg w1]) ?_)
      rw [b3 0 9, if_neg (by omega), a3, if_pos ⟨rfl, rfl⟩, b3, if_pos ⟨rfl, rfl⟩, e1]
      rw [smL_cg (f := hI h (22 + 2 * r)) (g := fun j => hI h1 55 (40 * r + j)) _ 0 _ (fun j _ hj => (hI_cg2 (h := h) (h1 := h1) (by rw [a3, if_neg (by omega)]; exact ((hp.2 r hr).2 j (by omega)).symm)).symm)]
  · exact pk1 (-1) (fMeanXb0 (d := 97) hh rx c1) hh (fMeanMb0 (d := 97) hh rx c1) (v_same hp)
