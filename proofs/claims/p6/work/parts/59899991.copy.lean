/-! copy -/
noncomputable def hcpg (h : mH) (a0 a1 sp dp n : Nat) : mH := match h[a0]? with
  | some q0 => match h[a1]? with
    | some q1 => h.set a1 (q1.1, mCpy q0.2 q1.2 sp dp n)
    | none => h
  | none => h
theorem mCpy_gt {us vs : List Value} {sp dp n : Nat} (hs : sp + n ≤ us.length) (m : Nat) : (mCpy us vs sp dp n)[m]? = if m < vs.length then (if dp ≤ m ∧ m < dp + n then us[sp + (m - dp)]? else vs[m]?) else none := by
  unfold mCpy
  rw [List.getElem?_map]
  by_cases hk : m < vs.length
  · rw [List.getElem?_range hk, if_pos hk]
    show some (va_cpy (vp_V us) (vp_V vs) sp dp n m) = _
    unfold va_cpy vp_V
    by_cases c : dp ≤ m ∧ m < dp + n
    · rw [if_pos c, if_pos c, List.getD_eq_getElem?_getD, List.getElem?_eq_getElem (by omega)]
      rfl
    · rw [if_neg c, if_neg c, List.getD_eq_getElem?_getD, List.getElem?_eq_getElem hk]
      rfl
  · rw [if_neg hk, List.getElem?_eq_none (by simpa using Nat.le_of_not_lt hk)]
    rfl
theorem mCpy_len {us vs : List Value} {sp dp n : Nat} : (mCpy us vs sp dp n).length = vs.length := by
  unfold mCpy
  rw [List.length_map, List.length_range]
section HCG
variable {h : mH} {a0 a1 sp dp n : Nat}
theorem hcpg_slot {k0 k1 n0 n1 : Nat} (hh : aHp h) (ht0 : sTg a0 = some (k0, n0)) (ht1 : sTg a1 = some (k1, n1)) (b0 : sp + n ≤ n0) (b1 : dp + n ≤ n1) (b m : Nat) : aSlot (hcpg h a0 a1 sp dp n) b m = if b = a1 ∧ dp ≤ m ∧ m < dp + n then aSlot h a0 (sp + (m - dp)) else aSlot h b m := by
  obtain ⟨q0, x1, x2, x3⟩ := sTg_ok hh ht0
  obtain ⟨q1, y1, y2, y3⟩ := sTg_ok hh ht1
  unfold hcpg
  rw [x1]
  dsimp only
  rw [y1]
  dsimp only
  unfold aSlot
  rw [List.getElem?_set]
  by_cases hb : b = a1
  · subst hb
    rw [if_pos rfl, if_pos (List.getElem?_eq_some_iff.mp y1).1]
    dsimp only
    rw [mCpy_gt (by omega), x1, y1]
    dsimp only
    by_cases c : dp ≤ m ∧ m < dp + n
    · rw [if_pos (by omega), if_pos c, if_pos ⟨rfl, c⟩]
    · have c9 : ¬ (b = b ∧ dp ≤ m ∧ m < dp + n) := fun q => c q.2
      by_cases hm : m < q1.2.length
      · rw [if_pos hm, if_neg c, if_neg c9]
      · rw [if_neg hm, if_neg c9, List.getElem?_eq_none (by omega)]
  · rw [if_neg (fun e => hb e.symm), if_neg (fun q => hb q.1)]
theorem hcpg_hp (hh : aHp h) (hT : aTlB a0 a1 = true) {k0 n0 : Nat} (ht0 : sTg a0 = some (k0, n0)) (b0 : sp + n ≤ n0) : aHp (hcpg h a0 a1 sp dp n) := by
  obtain ⟨q0, q1, t1, x1, x2, x3, x4, x5, x6, x7⟩ := aTlB_ok hh hT
  obtain ⟨p0, y1, y2, y3⟩ := sTg_ok hh ht0
  rw [x1] at y1
  cases y1
  unfold hcpg
  rw [x1]
  dsimp only
  rw [x2]
  dsimp only
  refine ⟨by rw [List.length_set]; exact hh.1, fun b t p ht hp => ?_⟩
  rw [List.getElem?_set] at hp
  split at hp
  · rename_i hab
    subst hab
    split at hp
    · cases hp
      rw [x3] at ht
      cases ht
      refine ⟨x4, by rw [mCpy_len]; exact x6, fun g hg m w m1 m2 hw => ?_⟩
      rw [mCpy_gt (by omega)] at hw
      split at hw
      · split at hw
        · exact (x7 _ w hw).2 g hg
        · exact (hh.2 a1 t1 q1 x3 x2).2.2 g hg m w m1 m2 hw
      · cases hw
    · cases hp
  · exact hh.2 b t p ht hp
end HCG
theorem s_acg {sc : List Int32} {d : Nat} {rt : Option FieldType} {cs : List mE} {i : Nat} {L : mL} {st : List Value} {h : mH} {r : mR} {en : mE} {a0 a1 n0 n1 sp dp n : Nat} (hh : aHp h) (he : cs[i]? = some en) (ho : ∃ z, en.2.1 = .invokestatic z) (h2 : mTgt en 2 = 2) (ht0 : sTg a0 = some (50, n0)) (ht1 : sTg a1 = some (50, n1)) (hn0 : n0 ≤ 100000) (hn1 : n1 ≤ 100000) (b0 : sp + n ≤ n0) (b1 : dp + n ≤ n1) (hT : aTlB a0 a1 = true) (h8 : Nat.ble ((st.map (fun v => v.category)).sum) 8 = true) (hr : nRn sc d rt cs (i + 1, L, st, hcpg h a0 a1 sp dp n) r) : nRn sc d rt cs (i, L, sI (n : Int) :: sI (dp : Int) :: .ref a1 :: sI (sp : Int) :: .ref a0 :: st, h) r := by
  obtain ⟨z, ho⟩ := ho
  obtain ⟨q0, q1, t1, x1, x2, x3, x4, x5, x6, x7⟩ := aTlB_ok hh hT
  obtain ⟨p0, y1, y2, y3⟩ := sTg_ok hh ht0
  obtain ⟨p1, w1, w2, w3⟩ := sTg_ok hh ht1
  rw [x1] at y1
  cases y1
  rw [x2] at w1
  cases w1
  have cl : ∀ k : Nat, k ≤ 100000 → (Int32.ofInt (k : Int)).toNatClampNeg = k ∧ ¬ Int32.ofInt (k : Int) < 0 := fun k hk => by
    refine ⟨by rw [sR_n (by unfold sR aMi aMa; omega)]; omega, ?_⟩
    rw [Int32.lt_iff_toInt_lt, sR_i (by unfold sR aMi aMa; omega)]
    have : (0 : Int32).toInt = 0 := rfl
    omega
  obtain ⟨u1, u2⟩ := cl n (by omega)
  obtain ⟨u3, u4⟩ := cl sp (by omega)
  obtain ⟨u5, u6⟩ := cl dp (by omega)
  have hall : q0.2.all mIsI = true := by
    rw [List.all_eq_true]
    intro w hw
    obtain ⟨j, hj⟩ := List.getElem?_of_mem hw
    exact (x7 j w hj).1
  have hcp : hcpg h a0 a1 sp dp n = h.set a1 (q1.1, mCpy q0.2 q1.2 sp dp n) := by
    unfold hcpg
    rw [x1]
    dsimp only
    rw [x2]
  rw [hcp] at hr
  refine sStep he (by unfold nCl; rw [ho]; dsimp only; rw [if_neg (by omega)]; intro q; cases q) (fun call => mStep_G2 ?_) hr
  unfold mG2
  rw [ho]
  dsimp only
  rw [x1]
  dsimp only
  rw [x2]
  dsimp only
  rw [u1, u3, u5, if_pos ⟨h2, Nat.le_of_ble_eq_true h8, y2, w2, u4, u6, u2, by omega, by omega, hall⟩]
section COPY
variable {sc : List Int32} {d : Nat} {h : mH}
theorem s_laddc {rt : Option FieldType} {cs : List mE} {i : Nat} {L : mL} {st : List Value} {r : mR} {en : mE} {a b : Int} (he : cs[i]? = some en) (ho : en.2.1 = .ladd) (hr : nRn sc d rt cs (i + 1, L, sJ (a + b) :: st, h) r) : nRn sc d rt cs (i, L, sJ b :: sJ a :: st, h) r := by
  refine sStep he (by unfold nCl; rw [ho]; intro q; cases q) (fun call => mStep_B2 ?_) hr
  unfold mB2
  rw [ho]
  dsimp only
  rw [← Int64.ofInt_add]
theorem fHolds {r : Nat} {a b : Int} (hh : aHp h) (hr : r < 6) (ra : sR a) (b0 : 0 ≤ b) (b1 : b ≤ 2147483647) : nEv sc (d + 1) 17 [.ref (21 + 2 * r), sI a, sI b] h (some (sI (if 0 ≤ a ∧ a + b ≤ hI h (21 + 2 * r) 1 then 1 else 0)), h) := by
  have sz := hI_rg hh (ra_z hr)
  unfold sR aMi aMa at ra
  refine nEv_of (t := mMe17) rfl ?_
  show nRn sc (d) (mMT mMe17) (mMC mMe17) (0, [some (.ref (21 + 2 * r)), some (sI a), some (sI b)], [], h) _
  refine sP 1 (g1 := (1, [some (.ref (21 + 2 * r)), some (sI a), some (sI b)], [sI a], h)) rfl ?_
  refine s_ifc (q := .lt) (a := a) rfl ⟨_, rfl⟩ rfl (by unfold sR aMi aMa; omega) (fun hc1 => ?_) (fun hc1 => ?_)
  · have hc1 : (a : Int) < 0 := hc1
    refine sP 1 (g1 := (13, [some (.ref (21 + 2 * r)), some (sI a), some (sI b)], [sI 0], h)) rfl ?_
    exact s_reti rfl rfl (Or.inr ⟨rfl, by omega⟩) (by first | rw [if_pos (by omega)] | rw [if_neg (by omega)]) rfl
  · have hc1 : ¬ ((a : Int) < 0) := hc1
    refine sP 1 (g1 := (3, [some (.ref (21 + 2 * r)), some (sI a), some (sI b)], [sI b], h)) rfl ?_
    refine s_ifc (q := .lt) (a := b) rfl ⟨_, rfl⟩ rfl (by unfold sR aMi aMa; omega) (fun hc2 => ?_) (fun hc2 => ?_)
    · have hc2 : (b : Int) < 0 := hc2
      omega
    · have hc2 : ¬ ((b : Int) < 0) := hc2
      refine sP 2 (g1 := (6, [some (.ref (21 + 2 * r)), some (sI a), some (sI b)], [.ref (21 + 2 * r), sI a], h)) rfl ?_
      have rg3 := hI_rg hh (ra_z hr)
      refine s_get (a := 21 + 2 * r) (j := 1) hh rfl ⟨_, rfl⟩ (ra_t hr) rfl rfl (v := sI (hI h (21 + 2 * r) 1)) (hI_ok hh (ra_z hr)) ?_
      refine sP 1 (g1 := (8, [some (.ref (21 + 2 * r)), some (sI a), some (sI b)], [sI b, sI (hI h (21 + 2 * r) 1), sI a], h)) rfl ?_
      refine s_sub (a := hI h (21 + 2 * r) 1) (b := b) rfl rfl ?_
      refine s_icmp (q := .gt) (a := a) (b := (hI h (21 + 2 * r) 1) - b) rfl ⟨_, rfl⟩ rfl (by unfold sR aMi aMa; omega) (by unfold sR aMi aMa; omega) (fun hc4 => ?_) (fun hc4 => ?_)
      · have hc4 : (((hI h (21 + 2 * r) 1) - b) : Int) < a := hc4
        refine sP 1 (g1 := (13, [some (.ref (21 + 2 * r)), some (sI a), some (sI b)], [sI 0], h)) rfl ?_
        exact s_reti rfl rfl (Or.inr ⟨rfl, by omega⟩) (by first | rw [if_pos (by omega)] | rw [if_neg (by omega)]) rfl
      · have hc4 : ¬ ((((hI h (21 + 2 * r) 1) - b) : Int) < a) := hc4
        refine sP 2 (g1 := (13, [some (.ref (21 + 2 * r)), some (sI a), some (sI b)], [sI 1], h)) rfl ?_
        exact s_reti rfl rfl (Or.inr ⟨rfl, by omega⟩) (by first | rw [if_pos (by omega)] | rw [if_neg (by omega)]) rfl
theorem fCopyXb0 {r t i j n : Int} (hh : aHp h) (rr : sR r) (rt : sR t) (hc : ¬ (0 ≤ r ∧ r < 6)) (he : ¬ (0 ≤ t ∧ t < 6)) : nEv sc (d + 3) 16 [.ref 0, sI r, sI i, sI t, sI j, sI n] h (some (sI (-1)), h) := by
  unfold sR aMi aMa at rr rt
  refine nEv_of (t := mMe16) rfl ?_
  show nRn sc (d + 2) (mMT mMe16) (mMC mMe16) (0, [some (.ref 0), some (sI r), some (sI i), some (sI t), some (sI j), some (sI n), none, none], [], h) _
  refine sP 2 (g1 := (2, [some (.ref 0), some (sI r), some (sI i), some (sI t), some (sI j), some (sI n), none, none], [sI r, .ref 0], h)) rfl ?_
  refine s_call (k := 8) (args := [.ref 0, sI r]) (st := []) (v := some (.null)) (h1 := h) rfl ⟨rfl, rfl⟩ rfl rfl rfl rfl (sRcv hh (a := 0) rfl rfl) rfl (fRowNo (by unfold sR aMi aMa; omega) (by omega)) ?_
  refine sP 3 (g1 := (6, [some (.ref 0), some (sI r), some (sI i), some (sI t), some (sI j), some (sI n), some (.null), none], [sI t, .ref 0], h)) rfl ?_
  refine s_call (k := 8) (args := [.ref 0, sI t]) (st := []) (v := some (.null)) (h1 := h) rfl ⟨rfl, rfl⟩ rfl rfl rfl rfl (sRcv hh (a := 0) rfl rfl) rfl (fRowNo (by unfold sR aMi aMa; omega) (by omega)) ?_
  refine sP 2 (g1 := (9, [some (.ref 0), some (sI r), some (sI i), some (sI t), some (sI j), some (sI n), some (.null), some (.null)], [.null], h)) rfl ?_
  refine s_nil rfl (Or.inl ⟨⟨_, rfl⟩, rfl⟩) ?_
  refine sP 1 (g1 := (13, [some (.ref 0), some (sI r), some (sI i), some (sI t), some (sI j), some (sI n), some (.null), some (.null)], [sI ((-1))], h)) rfl ?_
  exact s_reti rfl rfl (Or.inl rfl) rfl rfl
theorem fCopyXb1 {t : Nat} {r i j n : Int} (hh : aHp h) (rr : sR r) (ht : t < 6) (hc : ¬ (0 ≤ r ∧ r < 6)) : nEv sc (d + 3) 16 [.ref 0, sI r, sI i, sI (t : Int), sI j, sI n] h (some (sI (-1)), h) := by
  unfold sR aMi aMa at rr
  refine nEv_of (t := mMe16) rfl ?_
  show nRn sc (d + 2) (mMT mMe16) (mMC mMe16) (0, [some (.ref 0), some (sI r), some (sI i), some (sI ((t : Int))), some (sI j), some (sI n), none, none], [], h) _
  refine sP 2 (g1 := (2, [some (.ref 0), some (sI r), some (sI i), some (sI ((t : Int))), some (sI j), some (sI n), none, none], [sI r, .ref 0], h)) rfl ?_
  refine s_call (k := 8) (args := [.ref 0, sI r]) (st := []) (v := some (.null)) (h1 := h) rfl ⟨rfl, rfl⟩ rfl rfl rfl rfl (sRcv hh (a := 0) rfl rfl) rfl (fRowNo (by unfold sR aMi aMa; omega) (by omega)) ?_
  refine sP 3 (g1 := (6, [some (.ref 0), some (sI r), some (sI i), some (sI ((t : Int))), some (sI j), some (sI n), some (.null), none], [sI ((t : Int)), .ref 0], h)) rfl ?_
  refine s_call (k := 8) (args := [.ref 0, sI ((t : Int))]) (st := []) (v := some (.ref (21 + 2 * t))) (h1 := h) rfl ⟨rfl, rfl⟩ rfl rfl rfl rfl (sRcv hh (a := 0) rfl rfl) rfl (fRowAt hh ht) ?_
  refine sP 2 (g1 := (9, [some (.ref 0), some (sI r), some (sI i), some (sI ((t : Int))), some (sI j), some (sI n), some (.null), some (.ref (21 + 2 * t))], [.null], h)) rfl ?_
  refine s_nil rfl (Or.inl ⟨⟨_, rfl⟩, rfl⟩) ?_
  refine sP 1 (g1 := (13, [some (.ref 0), some (sI r), some (sI i), some (sI ((t : Int))), some (sI j), some (sI n), some (.null), some (.ref (21 + 2 * t))], [sI ((-1))], h)) rfl ?_
  exact s_reti rfl rfl (Or.inl rfl) rfl rfl
theorem fCopyXb2 {r : Nat} {t i j n : Int} (hh : aHp h) (hr : r < 6) (rt : sR t) (hc : ¬ (0 ≤ t ∧ t < 6)) : nEv sc (d + 3) 16 [.ref 0, sI (r : Int), sI i, sI t, sI j, sI n] h (some (sI (-1)), h) := by
  unfold sR aMi aMa at rt
  refine nEv_of (t := mMe16) rfl ?_
  show nRn sc (d + 2) (mMT mMe16) (mMC mMe16) (0, [some (.ref 0), some (sI ((r : Int))), some (sI i), some (sI t), some (sI j), some (sI n), none, none], [], h) _
  refine sP 2 (g1 := (2, [some (.ref 0), some (sI ((r : Int))), some (sI i), some (sI t), some (sI j), some (sI n), none, none], [sI ((r : Int)), .ref 0], h)) rfl ?_
  refine s_call (k := 8) (args := [.ref 0, sI ((r : Int))]) (st := []) (v := some (.ref (21 + 2 * r))) (h1 := h) rfl ⟨rfl, rfl⟩ rfl rfl rfl rfl (sRcv hh (a := 0) rfl rfl) rfl (fRowAt hh hr) ?_
  refine sP 3 (g1 := (6, [some (.ref 0), some (sI ((r : Int))), some (sI i), some (sI t), some (sI j), some (sI n), some (.ref (21 + 2 * r)), none], [sI t, .ref 0], h)) rfl ?_
  refine s_call (k := 8) (args := [.ref 0, sI t]) (st := []) (v := some (.null)) (h1 := h) rfl ⟨rfl, rfl⟩ rfl rfl rfl rfl (sRcv hh (a := 0) rfl rfl) rfl (fRowNo (by unfold sR aMi aMa; omega) (by omega)) ?_
  refine sP 2 (g1 := (9, [some (.ref 0), some (sI ((r : Int))), some (sI i), some (sI t), some (sI j), some (sI n), some (.ref (21 + 2 * r)), some (.null)], [.ref (21 + 2 * r)], h)) rfl ?_
  refine s_null rfl (Or.inl ⟨⟨_, rfl⟩, rfl⟩) ?_
  refine sP 1 (g1 := (11, [some (.ref 0), some (sI ((r : Int))), some (sI i), some (sI t), some (sI j), some (sI n), some (.ref (21 + 2 * r)), some (.null)], [.null], h)) rfl ?_
  refine s_nil rfl (Or.inr ⟨⟨_, rfl⟩, rfl⟩) ?_
  refine sP 1 (g1 := (13, [some (.ref 0), some (sI ((r : Int))), some (sI i), some (sI t), some (sI j), some (sI n), some (.ref (21 + 2 * r)), some (.null)], [sI ((-1))], h)) rfl ?_
  exact s_reti rfl rfl (Or.inl rfl) rfl rfl
theorem fCopyXw5 {r t : Nat} {i j n : Int} (hh : aHp h) (hr : r < 6) (ht : t < 6) (ri : sR i) (rj : sR j) (rn : sR n) (hc : n < 0) : ∃ g, nEv sc (d + 3) 16 [.ref 0, sI (r : Int), sI i, sI (t : Int), sI j, sI n] h (some (sI (-3)), g) ∧ oFX 5 h g := by
  unfold sR aMi aMa at ri rj rn
  obtain ⟨g1, r1, r2, r3⟩ := fFoundX (sc := sc) (d := d + 1) (f := 5) hh (by omega)
  refine ⟨g1, nEv_of (t := mMe16) rfl ?_, r2, r3⟩
  show nRn sc (d + 2) (mMT mMe16) (mMC mMe16) (0, [some (.ref 0), some (sI ((r : Int))), some (sI i), some (sI ((t : Int))), some (sI j), some (sI n), none, none], [], h) _
  refine sP 2 (g1 := (2, [some (.ref 0), some (sI ((r : Int))), some (sI i), some (sI ((t : Int))), some (sI j), some (sI n), none, none], [sI ((r : Int)), .ref 0], h)) rfl ?_
  refine s_call (k := 8) (args := [.ref 0, sI ((r : Int))]) (st := []) (v := some (.ref (21 + 2 * r))) (h1 := h) rfl ⟨rfl, rfl⟩ rfl rfl rfl rfl (sRcv hh (a := 0) rfl rfl) rfl (fRowAt hh hr) ?_
  refine sP 3 (g1 := (6, [some (.ref 0), some (sI ((r : Int))), some (sI i), some (sI ((t : Int))), some (sI j), some (sI n), some (.ref (21 + 2 * r)), none], [sI ((t : Int)), .ref 0], h)) rfl ?_
  refine s_call (k := 8) (args := [.ref 0, sI ((t : Int))]) (st := []) (v := some (.ref (21 + 2 * t))) (h1 := h) rfl ⟨rfl, rfl⟩ rfl rfl rfl rfl (sRcv hh (a := 0) rfl rfl) rfl (fRowAt hh ht) ?_
  refine sP 2 (g1 := (9, [some (.ref 0), some (sI ((r : Int))), some (sI i), some (sI ((t : Int))), some (sI j), some (sI n), some (.ref (21 + 2 * r)), some (.ref (21 + 2 * t))], [.ref (21 + 2 * r)], h)) rfl ?_
  refine s_null rfl (Or.inl ⟨⟨_, rfl⟩, rfl⟩) ?_
  refine sP 1 (g1 := (11, [some (.ref 0), some (sI ((r : Int))), some (sI i), some (sI ((t : Int))), some (sI j), some (sI n), some (.ref (21 + 2 * r)), some (.ref (21 + 2 * t))], [.ref (21 + 2 * t)], h)) rfl ?_
  refine s_null rfl (Or.inr ⟨⟨_, rfl⟩, rfl⟩) ?_
  refine sP 1 (g1 := (15, [some (.ref 0), some (sI ((r : Int))), some (sI i), some (sI ((t : Int))), some (sI j), some (sI n), some (.ref (21 + 2 * r)), some (.ref (21 + 2 * t))], [sI n], h)) rfl ?_
  refine s_ifc (q := .ge) (a := n) rfl ⟨_, rfl⟩ rfl (by unfold sR aMi aMa; omega) (fun hc1 => ?_) (fun hc1 => ?_)
  · have hc1 : (0 : Int) ≤ n := hc1
    omega
  · have hc1 : ¬ ((0 : Int) ≤ n) := hc1
    refine sP 2 (g1 := (18, [some (.ref 0), some (sI ((r : Int))), some (sI i), some (sI ((t : Int))), some (sI j), some (sI n), some (.ref (21 + 2 * r)), some (.ref (21 + 2 * t))], [sI 5, .ref 0], h)) rfl ?_
    refine s_call (k := 9) (args := [.ref 0, sI 5]) (st := []) (v := some (sI ((-3)))) (h1 := g1) rfl ⟨rfl, rfl⟩ rfl rfl rfl rfl (sRcv hh (a := 0) rfl rfl) rfl r1 ?_
    exact s_reti rfl rfl (Or.inl rfl) rfl rfl
theorem fCopyXw1 {r t : Nat} {i j n : Int} (hh : aHp h) (hr : r < 6) (ht : t < 6) (ri : sR i) (rj : sR j) (rn : sR n) (h0 : 0 ≤ n) (hc : hI h (21 + 2 * r) 1 = -1 ∨ hI h (21 + 2 * t) 1 = -1) : ∃ g, nEv sc (d + 3) 16 [.ref 0, sI (r : Int), sI i, sI (t : Int), sI j, sI n] h (some (sI (-3)), g) ∧ oFX 1 h g := by
  unfold sR aMi aMa at ri rj rn
  obtain ⟨g1, r1, r2, r3⟩ := fFoundX (sc := sc) (d := d + 1) (f := 1) hh (by omega)
  refine ⟨g1, nEv_of (t := mMe16) rfl ?_, r2, r3⟩
  show nRn sc (d + 2) (mMT mMe16) (mMC mMe16) (0, [some (.ref 0), some (sI ((r : Int))), some (sI i), some (sI ((t : Int))), some (sI j), some (sI n), none, none], [], h) _
  refine sP 2 (g1 := (2, [some (.ref 0), some (sI ((r : Int))), some (sI i), some (sI ((t : Int))), some (sI j), some (sI n), none, none], [sI ((r : Int)), .ref 0], h)) rfl ?_
  refine s_call (k := 8) (args := [.ref 0, sI ((r : Int))]) (st := []) (v := some (.ref (21 + 2 * r))) (h1 := h) rfl ⟨rfl, rfl⟩ rfl rfl rfl rfl (sRcv hh (a := 0) rfl rfl) rfl (fRowAt hh hr) ?_
  refine sP 3 (g1 := (6, [some (.ref 0), some (sI ((r : Int))), some (sI i), some (sI ((t : Int))), some (sI j), some (sI n), some (.ref (21 + 2 * r)), none], [sI ((t : Int)), .ref 0], h)) rfl ?_
  refine s_call (k := 8) (args := [.ref 0, sI ((t : Int))]) (st := []) (v := some (.ref (21 + 2 * t))) (h1 := h) rfl ⟨rfl, rfl⟩ rfl rfl rfl rfl (sRcv hh (a := 0) rfl rfl) rfl (fRowAt hh ht) ?_
  refine sP 2 (g1 := (9, [some (.ref 0), some (sI ((r : Int))), some (sI i), some (sI ((t : Int))), some (sI j), some (sI n), some (.ref (21 + 2 * r)), some (.ref (21 + 2 * t))], [.ref (21 + 2 * r)], h)) rfl ?_
  refine s_null rfl (Or.inl ⟨⟨_, rfl⟩, rfl⟩) ?_
  refine sP 1 (g1 := (11, [some (.ref 0), some (sI ((r : Int))), some (sI i), some (sI ((t : Int))), some (sI j), some (sI n), some (.ref (21 + 2 * r)), some (.ref (21 + 2 * t))], [.ref (21 + 2 * t)], h)) rfl ?_
  refine s_null rfl (Or.inr ⟨⟨_, rfl⟩, rfl⟩) ?_
  refine sP 1 (g1 := (15, [some (.ref 0), some (sI ((r : Int))), some (sI i), some (sI ((t : Int))), some (sI j), some (sI n), some (.ref (21 + 2 * r)), some (.ref (21 + 2 * t))], [sI n], h)) rfl ?_
  refine s_ifc (q := .ge) (a := n) rfl ⟨_, rfl⟩ rfl (by unfold sR aMi aMa; omega) (fun hc1 => ?_) (fun hc1 => ?_)
  · have hc1 : (0 : Int) ≤ n := hc1
    refine sP 1 (g1 := (21, [some (.ref 0), some (sI ((r : Int))), some (sI i), some (sI ((t : Int))), some (sI j), some (sI n), some (.ref (21 + 2 * r)), some (.ref (21 + 2 * t))], [.ref (21 + 2 * r)], h)) rfl ?_
    have rg2 := hI_rg hh (ra_z hr)
    refine s_get (a := 21 + 2 * r) (j := 1) hh rfl ⟨_, rfl⟩ (ra_t hr) rfl rfl (v := sI (hI h (21 + 2 * r) 1)) (hI_ok hh (ra_z hr)) ?_
    refine sP 1 (g1 := (23, [some (.ref 0), some (sI ((r : Int))), some (sI i), some (sI ((t : Int))), some (sI j), some (sI n), some (.ref (21 + 2 * r)), some (.ref (21 + 2 * t))], [sI ((-1)), sI (hI h (21 + 2 * r) 1)], h)) rfl ?_
    refine s_icmp (q := .eq) (a := hI h (21 + 2 * r) 1) (b := (-1)) rfl ⟨_, rfl⟩ rfl (by unfold sR aMi aMa; omega) (by unfold sR aMi aMa; omega) (fun hc3 => ?_) (fun hc3 => ?_)
    · have hc3 : ((hI h (21 + 2 * r) 1) : Int) = ((-1)) := hc3
      refine sP 2 (g1 := (30, [some (.ref 0), some (sI ((r : Int))), some (sI i), some (sI ((t : Int))), some (sI j), some (sI n), some (.ref (21 + 2 * r)), some (.ref (21 + 2 * t))], [sI 1, .ref 0], h)) rfl ?_
      refine s_call (k := 9) (args := [.ref 0, sI 1]) (st := []) (v := some (sI ((-3)))) (h1 := g1) rfl ⟨rfl, rfl⟩ rfl rfl rfl rfl (sRcv hh (a := 0) rfl rfl) rfl r1 ?_
      exact s_reti rfl rfl (Or.inl rfl) rfl rfl
    · have hc3 : ¬ (((hI h (21 + 2 * r) 1) : Int) = ((-1))) := hc3
      refine sP 1 (g1 := (25, [some (.ref 0), some (sI ((r : Int))), some (sI i), some (sI ((t : Int))), some (sI j), some (sI n), some (.ref (21 + 2 * r)), some (.ref (21 + 2 * t))], [.ref (21 + 2 * t)], h)) rfl ?_
      have rg4 := hI_rg hh (ra_z ht)
      refine s_get (a := 21 + 2 * t) (j := 1) hh rfl ⟨_, rfl⟩ (ra_t ht) rfl rfl (v := sI (hI h (21 + 2 * t) 1)) (hI_ok hh (ra_z ht)) ?_
      refine sP 1 (g1 := (27, [some (.ref 0), some (sI ((r : Int))), some (sI i), some (sI ((t : Int))), some (sI j), some (sI n), some (.ref (21 + 2 * r)), some (.ref (21 + 2 * t))], [sI ((-1)), sI (hI h (21 + 2 * t) 1)], h)) rfl ?_
      refine s_icmp (q := .ne) (a := hI h (21 + 2 * t) 1) (b := (-1)) rfl ⟨_, rfl⟩ rfl (by unfold sR aMi aMa; omega) (by unfold sR aMi aMa; omega) (fun hc5 => ?_) (fun hc5 => ?_)
      · have hc5 : ((hI h (21 + 2 * t) 1) : Int) ≠ ((-1)) := hc5
        omega
      · have hc5 : ¬ (((hI h (21 + 2 * t) 1) : Int) ≠ ((-1))) := hc5
        refine sP 2 (g1 := (30, [some (.ref 0), some (sI ((r : Int))), some (sI i), some (sI ((t : Int))), some (sI j), some (sI n), some (.ref (21 + 2 * r)), some (.ref (21 + 2 * t))], [sI 1, .ref 0], h)) rfl ?_
        refine s_call (k := 9) (args := [.ref 0, sI 1]) (st := []) (v := some (sI ((-3)))) (h1 := g1) rfl ⟨rfl, rfl⟩ rfl rfl rfl rfl (sRcv hh (a := 0) rfl rfl) rfl r1 ?_
        exact s_reti rfl rfl (Or.inl rfl) rfl rfl
  · have hc1 : ¬ ((0 : Int) ≤ n) := hc1
    omega
theorem fCopyXw2a {r t : Nat} {i j n : Int} (hh : aHp h) (hr : r < 6) (ht : t < 6) (ri : sR i) (rj : sR j) (rn : sR n) (h0 : 0 ≤ n) (h1 : hI h (21 + 2 * r) 1 ≠ -1) (h2 : hI h (21 + 2 * t) 1 ≠ -1) (hc : ¬ (0 ≤ i ∧ i + n ≤ hI h (21 + 2 * r) 1)) : ∃ g, nEv sc (d + 3) 16 [.ref 0, sI (r : Int), sI i, sI (t : Int), sI j, sI n] h (some (sI (-3)), g) ∧ oFX 2 h g := by
  unfold sR aMi aMa at ri rj rn
  obtain ⟨g1, r1, r2, r3⟩ := fFoundX (sc := sc) (d := d + 1) (f := 2) hh (by omega)
  refine ⟨g1, nEv_of (t := mMe16) rfl ?_, r2, r3⟩
  show nRn sc (d + 2) (mMT mMe16) (mMC mMe16) (0, [some (.ref 0), some (sI ((r : Int))), some (sI i), some (sI ((t : Int))), some (sI j), some (sI n), none, none], [], h) _
  refine sP 2 (g1 := (2, [some (.ref 0), some (sI ((r : Int))), some (sI i), some (sI ((t : Int))), some (sI j), some (sI n), none, none], [sI ((r : Int)), .ref 0], h)) rfl ?_
  refine s_call (k := 8) (args := [.ref 0, sI ((r : Int))]) (st := []) (v := some (.ref (21 + 2 * r))) (h1 := h) rfl ⟨rfl, rfl⟩ rfl rfl rfl rfl (sRcv hh (a := 0) rfl rfl) rfl (fRowAt hh hr) ?_
  refine sP 3 (g1 := (6, [some (.ref 0), some (sI ((r : Int))), some (sI i), some (sI ((t : Int))), some (sI j), some (sI n), some (.ref (21 + 2 * r)), none], [sI ((t : Int)), .ref 0], h)) rfl ?_
  refine s_call (k := 8) (args := [.ref 0, sI ((t : Int))]) (st := []) (v := some (.ref (21 + 2 * t))) (h1 := h) rfl ⟨rfl, rfl⟩ rfl rfl rfl rfl (sRcv hh (a := 0) rfl rfl) rfl (fRowAt hh ht) ?_
  refine sP 2 (g1 := (9, [some (.ref 0), some (sI ((r : Int))), some (sI i), some (sI ((t : Int))), some (sI j), some (sI n), some (.ref (21 + 2 * r)), some (.ref (21 + 2 * t))], [.ref (21 + 2 * r)], h)) rfl ?_
  refine s_null rfl (Or.inl ⟨⟨_, rfl⟩, rfl⟩) ?_
  refine sP 1 (g1 := (11, [some (.ref 0), some (sI ((r : Int))), some (sI i), some (sI ((t : Int))), some (sI j), some (sI n), some (.ref (21 + 2 * r)), some (.ref (21 + 2 * t))], [.ref (21 + 2 * t)], h)) rfl ?_
  refine s_null rfl (Or.inr ⟨⟨_, rfl⟩, rfl⟩) ?_
  refine sP 1 (g1 := (15, [some (.ref 0), some (sI ((r : Int))), some (sI i), some (sI ((t : Int))), some (sI j), some (sI n), some (.ref (21 + 2 * r)), some (.ref (21 + 2 * t))], [sI n], h)) rfl ?_
  refine s_ifc (q := .ge) (a := n) rfl ⟨_, rfl⟩ rfl (by unfold sR aMi aMa; omega) (fun hc1 => ?_) (fun hc1 => ?_)
  · have hc1 : (0 : Int) ≤ n := hc1
    refine sP 1 (g1 := (21, [some (.ref 0), some (sI ((r : Int))), some (sI i), some (sI ((t : Int))), some (sI j), some (sI n), some (.ref (21 + 2 * r)), some (.ref (21 + 2 * t))], [.ref (21 + 2 * r)], h)) rfl ?_
    have rg2 := hI_rg hh (ra_z hr)
    refine s_get (a := 21 + 2 * r) (j := 1) hh rfl ⟨_, rfl⟩ (ra_t hr) rfl rfl (v := sI (hI h (21 + 2 * r) 1)) (hI_ok hh (ra_z hr)) ?_
    refine sP 1 (g1 := (23, [some (.ref 0), some (sI ((r : Int))), some (sI i), some (sI ((t : Int))), some (sI j), some (sI n), some (.ref (21 + 2 * r)), some (.ref (21 + 2 * t))], [sI ((-1)), sI (hI h (21 + 2 * r) 1)], h)) rfl ?_
    refine s_icmp (q := .eq) (a := hI h (21 + 2 * r) 1) (b := (-1)) rfl ⟨_, rfl⟩ rfl (by unfold sR aMi aMa; omega) (by unfold sR aMi aMa; omega) (fun hc3 => ?_) (fun hc3 => ?_)
    · have hc3 : ((hI h (21 + 2 * r) 1) : Int) = ((-1)) := hc3
      omega
    · have hc3 : ¬ (((hI h (21 + 2 * r) 1) : Int) = ((-1))) := hc3
      refine sP 1 (g1 := (25, [some (.ref 0), some (sI ((r : Int))), some (sI i), some (sI ((t : Int))), some (sI j), some (sI n), some (.ref (21 + 2 * r)), some (.ref (21 + 2 * t))], [.ref (21 + 2 * t)], h)) rfl ?_
      have rg4 := hI_rg hh (ra_z ht)
      refine s_get (a := 21 + 2 * t) (j := 1) hh rfl ⟨_, rfl⟩ (ra_t ht) rfl rfl (v := sI (hI h (21 + 2 * t) 1)) (hI_ok hh (ra_z ht)) ?_
      refine sP 1 (g1 := (27, [some (.ref 0), some (sI ((r : Int))), some (sI i), some (sI ((t : Int))), some (sI j), some (sI n), some (.ref (21 + 2 * r)), some (.ref (21 + 2 * t))], [sI ((-1)), sI (hI h (21 + 2 * t) 1)], h)) rfl ?_
      refine s_icmp (q := .ne) (a := hI h (21 + 2 * t) 1) (b := (-1)) rfl ⟨_, rfl⟩ rfl (by unfold sR aMi aMa; omega) (by unfold sR aMi aMa; omega) (fun hc5 => ?_) (fun hc5 => ?_)
      · have hc5 : ((hI h (21 + 2 * t) 1) : Int) ≠ ((-1)) := hc5
        refine sP 3 (g1 := (35, [some (.ref 0), some (sI ((r : Int))), some (sI i), some (sI ((t : Int))), some (sI j), some (sI n), some (.ref (21 + 2 * r)), some (.ref (21 + 2 * t))], [sI n, sI i, .ref (21 + 2 * r)], h)) rfl ?_
        have ev6 := fHolds (sc := sc) (d := d + 1) (h := h) (r := r) (a := i) (b := n) hh hr (by unfold sR aMi aMa; omega) (by omega) (by omega)
        rw [if_neg (by omega)] at ev6
        refine s_call (k := 17) (args := [.ref (21 + 2 * r), sI i, sI n]) (st := []) (v := some (sI 0)) (h1 := h) rfl ⟨rfl, rfl⟩ rfl rfl rfl rfl (sRcv hh (ra_t hr) rfl) rfl ev6 ?_
        refine s_ifc (q := .eq) (a := 0) rfl ⟨_, rfl⟩ rfl (by unfold sR aMi aMa; omega) (fun hc7 => ?_) (fun hc7 => ?_)
        · have hc7 : (0 : Int) = 0 := hc7
          refine sP 2 (g1 := (44, [some (.ref 0), some (sI ((r : Int))), some (sI i), some (sI ((t : Int))), some (sI j), some (sI n), some (.ref (21 + 2 * r)), some (.ref (21 + 2 * t))], [sI 2, .ref 0], h)) rfl ?_
          refine s_call (k := 9) (args := [.ref 0, sI 2]) (st := []) (v := some (sI ((-3)))) (h1 := g1) rfl ⟨rfl, rfl⟩ rfl rfl rfl rfl (sRcv hh (a := 0) rfl rfl) rfl r1 ?_
          exact s_reti rfl rfl (Or.inl rfl) rfl rfl
        · have hc7 : ¬ ((0 : Int) = 0) := hc7
          omega
      · have hc5 : ¬ (((hI h (21 + 2 * t) 1) : Int) ≠ ((-1))) := hc5
        omega
  · have hc1 : ¬ ((0 : Int) ≤ n) := hc1
    omega
theorem fCopyXw2b {r t : Nat} {i j n : Int} (hh : aHp h) (hr : r < 6) (ht : t < 6) (ri : sR i) (rj : sR j) (rn : sR n) (h0 : 0 ≤ n) (h1 : hI h (21 + 2 * r) 1 ≠ -1) (h2 : hI h (21 + 2 * t) 1 ≠ -1) (hc : (0 ≤ i ∧ i + n ≤ hI h (21 + 2 * r) 1) ∧ ¬ (0 ≤ j ∧ j + n ≤ hI h (21 + 2 * t) 1)) : ∃ g, nEv sc (d + 3) 16 [.ref 0, sI (r : Int), sI i, sI (t : Int), sI j, sI n] h (some (sI (-3)), g) ∧ oFX 2 h g := by
  unfold sR aMi aMa at ri rj rn
  obtain ⟨g1, r1, r2, r3⟩ := fFoundX (sc := sc) (d := d + 1) (f := 2) hh (by omega)
  refine ⟨g1, nEv_of (t := mMe16) rfl ?_, r2, r3⟩
  show nRn sc (d + 2) (mMT mMe16) (mMC mMe16) (0, [some (.ref 0), some (sI ((r : Int))), some (sI i), some (sI ((t : Int))), some (sI j), some (sI n), none, none], [], h) _
  refine sP 2 (g1 := (2, [some (.ref 0), some (sI ((r : Int))), some (sI i), some (sI ((t : Int))), some (sI j), some (sI n), none, none], [sI ((r : Int)), .ref 0], h)) rfl ?_
  refine s_call (k := 8) (args := [.ref 0, sI ((r : Int))]) (st := []) (v := some (.ref (21 + 2 * r))) (h1 := h) rfl ⟨rfl, rfl⟩ rfl rfl rfl rfl (sRcv hh (a := 0) rfl rfl) rfl (fRowAt hh hr) ?_
  refine sP 3 (g1 := (6, [some (.ref 0), some (sI ((r : Int))), some (sI i), some (sI ((t : Int))), some (sI j), some (sI n), some (.ref (21 + 2 * r)), none], [sI ((t : Int)), .ref 0], h)) rfl ?_
  refine s_call (k := 8) (args := [.ref 0, sI ((t : Int))]) (st := []) (v := some (.ref (21 + 2 * t))) (h1 := h) rfl ⟨rfl, rfl⟩ rfl rfl rfl rfl (sRcv hh (a := 0) rfl rfl) rfl (fRowAt hh ht) ?_
  refine sP 2 (g1 := (9, [some (.ref 0), some (sI ((r : Int))), some (sI i), some (sI ((t : Int))), some (sI j), some (sI n), some (.ref (21 + 2 * r)), some (.ref (21 + 2 * t))], [.ref (21 + 2 * r)], h)) rfl ?_
  refine s_null rfl (Or.inl ⟨⟨_, rfl⟩, rfl⟩) ?_
  refine sP 1 (g1 := (11, [some (.ref 0), some (sI ((r : Int))), some (sI i), some (sI ((t : Int))), some (sI j), some (sI n), some (.ref (21 + 2 * r)), some (.ref (21 + 2 * t))], [.ref (21 + 2 * t)], h)) rfl ?_
  refine s_null rfl (Or.inr ⟨⟨_, rfl⟩, rfl⟩) ?_
  refine sP 1 (g1 := (15, [some (.ref 0), some (sI ((r : Int))), some (sI i), some (sI ((t : Int))), some (sI j), some (sI n), some (.ref (21 + 2 * r)), some (.ref (21 + 2 * t))], [sI n], h)) rfl ?_
  refine s_ifc (q := .ge) (a := n) rfl ⟨_, rfl⟩ rfl (by unfold sR aMi aMa; omega) (fun hc1 => ?_) (fun hc1 => ?_)
  · have hc1 : (0 : Int) ≤ n := hc1
    refine sP 1 (g1 := (21, [some (.ref 0), some (sI ((r : Int))), some (sI i), some (sI ((t : Int))), some (sI j), some (sI n), some (.ref (21 + 2 * r)), some (.ref (21 + 2 * t))], [.ref (21 + 2 * r)], h)) rfl ?_
    have rg2 := hI_rg hh (ra_z hr)
    refine s_get (a := 21 + 2 * r) (j := 1) hh rfl ⟨_, rfl⟩ (ra_t hr) rfl rfl (v := sI (hI h (21 + 2 * r) 1)) (hI_ok hh (ra_z hr)) ?_
    refine sP 1 (g1 := (23, [some (.ref 0), some (sI ((r : Int))), some (sI i), some (sI ((t : Int))), some (sI j), some (sI n), some (.ref (21 + 2 * r)), some (.ref (21 + 2 * t))], [sI ((-1)), sI (hI h (21 + 2 * r) 1)], h)) rfl ?_
    refine s_icmp (q := .eq) (a := hI h (21 + 2 * r) 1) (b := (-1)) rfl ⟨_, rfl⟩ rfl (by unfold sR aMi aMa; omega) (by unfold sR aMi aMa; omega) (fun hc3 => ?_) (fun hc3 => ?_)
    · have hc3 : ((hI h (21 + 2 * r) 1) : Int) = ((-1)) := hc3
      omega
    · have hc3 : ¬ (((hI h (21 + 2 * r) 1) : Int) = ((-1))) := hc3
      refine sP 1 (g1 := (25, [some (.ref 0), some (sI ((r : Int))), some (sI i), some (sI ((t : Int))), some (sI j), some (sI n), some (.ref (21 + 2 * r)), some (.ref (21 + 2 * t))], [.ref (21 + 2 * t)], h)) rfl ?_
      have rg4 := hI_rg hh (ra_z ht)
      refine s_get (a := 21 + 2 * t) (j := 1) hh rfl ⟨_, rfl⟩ (ra_t ht) rfl rfl (v := sI (hI h (21 + 2 * t) 1)) (hI_ok hh (ra_z ht)) ?_
      refine sP 1 (g1 := (27, [some (.ref 0), some (sI ((r : Int))), some (sI i), some (sI ((t : Int))), some (sI j), some (sI n), some (.ref (21 + 2 * r)), some (.ref (21 + 2 * t))], [sI ((-1)), sI (hI h (21 + 2 * t) 1)], h)) rfl ?_
      refine s_icmp (q := .ne) (a := hI h (21 + 2 * t) 1) (b := (-1)) rfl ⟨_, rfl⟩ rfl (by unfold sR aMi aMa; omega) (by unfold sR aMi aMa; omega) (fun hc5 => ?_) (fun hc5 => ?_)
      · have hc5 : ((hI h (21 + 2 * t) 1) : Int) ≠ ((-1)) := hc5
        refine sP 3 (g1 := (35, [some (.ref 0), some (sI ((r : Int))), some (sI i), some (sI ((t : Int))), some (sI j), some (sI n), some (.ref (21 + 2 * r)), some (.ref (21 + 2 * t))], [sI n, sI i, .ref (21 + 2 * r)], h)) rfl ?_
        have ev6 := fHolds (sc := sc) (d := d + 1) (h := h) (r := r) (a := i) (b := n) hh hr (by unfold sR aMi aMa; omega) (by omega) (by omega)
        rw [if_pos (by omega)] at ev6
        refine s_call (k := 17) (args := [.ref (21 + 2 * r), sI i, sI n]) (st := []) (v := some (sI 1)) (h1 := h) rfl ⟨rfl, rfl⟩ rfl rfl rfl rfl (sRcv hh (ra_t hr) rfl) rfl ev6 ?_
        refine s_ifc (q := .eq) (a := 1) rfl ⟨_, rfl⟩ rfl (by unfold sR aMi aMa; omega) (fun hc7 => ?_) (fun hc7 => ?_)
        · have hc7 : (1 : Int) = 0 := hc7
          omega
        · have hc7 : ¬ ((1 : Int) = 0) := hc7
          refine sP 3 (g1 := (40, [some (.ref 0), some (sI ((r : Int))), some (sI i), some (sI ((t : Int))), some (sI j), some (sI n), some (.ref (21 + 2 * r)), some (.ref (21 + 2 * t))], [sI n, sI j, .ref (21 + 2 * t)], h)) rfl ?_
          have ev8 := fHolds (sc := sc) (d := d + 1) (h := h) (r := t) (a := j) (b := n) hh ht (by unfold sR aMi aMa; omega) (by omega) (by omega)
          rw [if_neg (by omega)] at ev8
          refine s_call (k := 17) (args := [.ref (21 + 2 * t), sI j, sI n]) (st := []) (v := some (sI 0)) (h1 := h) rfl ⟨rfl, rfl⟩ rfl rfl rfl rfl (sRcv hh (ra_t ht) rfl) rfl ev8 ?_
          refine s_ifc (q := .ne) (a := 0) rfl ⟨_, rfl⟩ rfl (by unfold sR aMi aMa; omega) (fun hc9 => ?_) (fun hc9 => ?_)
          · have hc9 : (0 : Int) ≠ 0 := hc9
            omega
          · have hc9 : ¬ ((0 : Int) ≠ 0) := hc9
            refine sP 2 (g1 := (44, [some (.ref 0), some (sI ((r : Int))), some (sI i), some (sI ((t : Int))), some (sI j), some (sI n), some (.ref (21 + 2 * r)), some (.ref (21 + 2 * t))], [sI 2, .ref 0], h)) rfl ?_
            refine s_call (k := 9) (args := [.ref 0, sI 2]) (st := []) (v := some (sI ((-3)))) (h1 := g1) rfl ⟨rfl, rfl⟩ rfl rfl rfl rfl (sRcv hh (a := 0) rfl rfl) rfl r1 ?_
            exact s_reti rfl rfl (Or.inl rfl) rfl rfl
      · have hc5 : ¬ (((hI h (21 + 2 * t) 1) : Int) ≠ ((-1))) := hc5
        omega
  · have hc1 : ¬ ((0 : Int) ≤ n) := hc1
    omega
theorem fCopyX {r t i j n : Nat} (hh : aHp h) (hr : r < 6) (ht : t < 6) (c1 : (i : Int) + n ≤ hI h (21 + 2 * r) 1) (c2 : (j : Int) + n ≤ hI h (21 + 2 * t) 1) : ∃ g, nEv sc (d + 3) 16 [.ref 0, sI (r : Int), sI (i : Int), sI (t : Int), sI (j : Int), sI (n : Int)] h (some (sI 1), g) ∧ aHp g ∧ ∀ p m, aSlot g p m = if p = 22 + 2 * t ∧ j ≤ m ∧ m < j + n then aSlot h (22 + 2 * r) (i + (m - j)) else aSlot h p m := by
  have z1 := hI_rg hh (ra_z hr)
  have z2 := hI_rg hh (ra_z ht)
  refine ⟨hcpg h (22 + 2 * r) (22 + 2 * t) i j n, nEv_of (t := mMe16) rfl ?_, hcpg_hp hh (ra_tl hr ht) (ra_2 hr) (by omega), fun p m => hcpg_slot hh (ra_2 hr) (ra_2 ht) (by omega) (by omega) p m⟩
  show nRn sc (d + 2) (mMT mMe16) (mMC mMe16) (0, [some (.ref 0), some (sI ((r : Int))), some (sI ((i : Int))), some (sI ((t : Int))), some (sI ((j : Int))), some (sI ((n : Int))), none, none], [], h) _
  refine sP 2 (g1 := (2, [some (.ref 0), some (sI ((r : Int))), some (sI ((i : Int))), some (sI ((t : Int))), some (sI ((j : Int))), some (sI ((n : Int))), none, none], [sI ((r : Int)), .ref 0], h)) rfl ?_
  refine s_call (k := 8) (args := [.ref 0, sI ((r : Int))]) (st := []) (v := some (.ref (21 + 2 * r))) (h1 := h) rfl ⟨rfl, rfl⟩ rfl rfl rfl rfl (sRcv hh (a := 0) rfl rfl) rfl (fRowAt hh hr) ?_
  refine sP 3 (g1 := (6, [some (.ref 0), some (sI ((r : Int))), some (sI ((i : Int))), some (sI ((t : Int))), some (sI ((j : Int))), some (sI ((n : Int))), some (.ref (21 + 2 * r)), none], [sI ((t : Int)), .ref 0], h)) rfl ?_
  refine s_call (k := 8) (args := [.ref 0, sI ((t : Int))]) (st := []) (v := some (.ref (21 + 2 * t))) (h1 := h) rfl ⟨rfl, rfl⟩ rfl rfl rfl rfl (sRcv hh (a := 0) rfl rfl) rfl (fRowAt hh ht) ?_
  refine sP 2 (g1 := (9, [some (.ref 0), some (sI ((r : Int))), some (sI ((i : Int))), some (sI ((t : Int))), some (sI ((j : Int))), some (sI ((n : Int))), some (.ref (21 + 2 * r)), some (.ref (21 + 2 * t))], [.ref (21 + 2 * r)], h)) rfl ?_
  refine s_null rfl (Or.inl ⟨⟨_, rfl⟩, rfl⟩) ?_
  refine sP 1 (g1 := (11, [some (.ref 0), some (sI ((r : Int))), some (sI ((i : Int))), some (sI ((t : Int))), some (sI ((j : Int))), some (sI ((n : Int))), some (.ref (21 + 2 * r)), some (.ref (21 + 2 * t))], [.ref (21 + 2 * t)], h)) rfl ?_
  refine s_null rfl (Or.inr ⟨⟨_, rfl⟩, rfl⟩) ?_
  refine sP 1 (g1 := (15, [some (.ref 0), some (sI ((r : Int))), some (sI ((i : Int))), some (sI ((t : Int))), some (sI ((j : Int))), some (sI ((n : Int))), some (.ref (21 + 2 * r)), some (.ref (21 + 2 * t))], [sI ((n : Int))], h)) rfl ?_
  refine s_ifc (q := .ge) (a := (n : Int)) rfl ⟨_, rfl⟩ rfl (by unfold sR aMi aMa; omega) (fun hc1 => ?_) (fun hc1 => ?_)
  · have hc1 : (0 : Int) ≤ ((n : Int)) := hc1
    refine sP 1 (g1 := (21, [some (.ref 0), some (sI ((r : Int))), some (sI ((i : Int))), some (sI ((t : Int))), some (sI ((j : Int))), some (sI ((n : Int))), some (.ref (21 + 2 * r)), some (.ref (21 + 2 * t))], [.ref (21 + 2 * r)], h)) rfl ?_
    have rg2 := hI_rg hh (ra_z hr)
    refine s_get (a := 21 + 2 * r) (j := 1) hh rfl ⟨_, rfl⟩ (ra_t hr) rfl rfl (v := sI (hI h (21 + 2 * r) 1)) (hI_ok hh (ra_z hr)) ?_
    refine sP 1 (g1 := (23, [some (.ref 0), some (sI ((r : Int))), some (sI ((i : Int))), some (sI ((t : Int))), some (sI ((j : Int))), some (sI ((n : Int))), some (.ref (21 + 2 * r)), some (.ref (21 + 2 * t))], [sI ((-1)), sI (hI h (21 + 2 * r) 1)], h)) rfl ?_
    refine s_icmp (q := .eq) (a := hI h (21 + 2 * r) 1) (b := (-1)) rfl ⟨_, rfl⟩ rfl (by unfold sR aMi aMa; omega) (by unfold sR aMi aMa; omega) (fun hc3 => ?_) (fun hc3 => ?_)
    · have hc3 : ((hI h (21 + 2 * r) 1) : Int) = ((-1)) := hc3
      omega
    · have hc3 : ¬ (((hI h (21 + 2 * r) 1) : Int) = ((-1))) := hc3
      refine sP 1 (g1 := (25, [some (.ref 0), some (sI ((r : Int))), some (sI ((i : Int))), some (sI ((t : Int))), some (sI ((j : Int))), some (sI ((n : Int))), some (.ref (21 + 2 * r)), some (.ref (21 + 2 * t))], [.ref (21 + 2 * t)], h)) rfl ?_
      have rg4 := hI_rg hh (ra_z ht)
      refine s_get (a := 21 + 2 * t) (j := 1) hh rfl ⟨_, rfl⟩ (ra_t ht) rfl rfl (v := sI (hI h (21 + 2 * t) 1)) (hI_ok hh (ra_z ht)) ?_
      refine sP 1 (g1 := (27, [some (.ref 0), some (sI ((r : Int))), some (sI ((i : Int))), some (sI ((t : Int))), some (sI ((j : Int))), some (sI ((n : Int))), some (.ref (21 + 2 * r)), some (.ref (21 + 2 * t))], [sI ((-1)), sI (hI h (21 + 2 * t) 1)], h)) rfl ?_
      refine s_icmp (q := .ne) (a := hI h (21 + 2 * t) 1) (b := (-1)) rfl ⟨_, rfl⟩ rfl (by unfold sR aMi aMa; omega) (by unfold sR aMi aMa; omega) (fun hc5 => ?_) (fun hc5 => ?_)
      · have hc5 : ((hI h (21 + 2 * t) 1) : Int) ≠ ((-1)) := hc5
        refine sP 3 (g1 := (35, [some (.ref 0), some (sI ((r : Int))), some (sI ((i : Int))), some (sI ((t : Int))), some (sI ((j : Int))), some (sI ((n : Int))), some (.ref (21 + 2 * r)), some (.ref (21 + 2 * t))], [sI ((n : Int)), sI ((i : Int)), .ref (21 + 2 * r)], h)) rfl ?_
        have ev6 := fHolds (sc := sc) (d := d + 1) (h := h) (r := r) (a := (i : Int)) (b := (n : Int)) hh hr (by unfold sR aMi aMa; omega) (by omega) (by omega)
        rw [if_pos (by omega)] at ev6
        refine s_call (k := 17) (args := [.ref (21 + 2 * r), sI ((i : Int)), sI ((n : Int))]) (st := []) (v := some (sI 1)) (h1 := h) rfl ⟨rfl, rfl⟩ rfl rfl rfl rfl (sRcv hh (ra_t hr) rfl) rfl ev6 ?_
        refine s_ifc (q := .eq) (a := 1) rfl ⟨_, rfl⟩ rfl (by unfold sR aMi aMa; omega) (fun hc7 => ?_) (fun hc7 => ?_)
        · have hc7 : (1 : Int) = 0 := hc7
          omega
        · have hc7 : ¬ ((1 : Int) = 0) := hc7
          refine sP 3 (g1 := (40, [some (.ref 0), some (sI ((r : Int))), some (sI ((i : Int))), some (sI ((t : Int))), some (sI ((j : Int))), some (sI ((n : Int))), some (.ref (21 + 2 * r)), some (.ref (21 + 2 * t))], [sI ((n : Int)), sI ((j : Int)), .ref (21 + 2 * t)], h)) rfl ?_
          have ev8 := fHolds (sc := sc) (d := d + 1) (h := h) (r := t) (a := (j : Int)) (b := (n : Int)) hh ht (by unfold sR aMi aMa; omega) (by omega) (by omega)
          rw [if_pos (by omega)] at ev8
          refine s_call (k := 17) (args := [.ref (21 + 2 * t), sI ((j : Int)), sI ((n : Int))]) (st := []) (v := some (sI 1)) (h1 := h) rfl ⟨rfl, rfl⟩ rfl rfl rfl rfl (sRcv hh (ra_t ht) rfl) rfl ev8 ?_
          refine s_ifc (q := .ne) (a := 1) rfl ⟨_, rfl⟩ rfl (by unfold sR aMi aMa; omega) (fun hc9 => ?_) (fun hc9 => ?_)
          · have hc9 : (1 : Int) ≠ 0 := hc9
            refine sP 1 (g1 := (47, [some (.ref 0), some (sI ((r : Int))), some (sI ((i : Int))), some (sI ((t : Int))), some (sI ((j : Int))), some (sI ((n : Int))), some (.ref (21 + 2 * r)), some (.ref (21 + 2 * t))], [.ref (21 + 2 * r)], h)) rfl ?_
            refine s_get (a := 21 + 2 * r) (j := 0) hh rfl ⟨_, rfl⟩ (ra_t hr) rfl rfl (v := .ref (22 + 2 * r)) (hR_ok hh (ra_r hr)) ?_
            refine sP 2 (g1 := (50, [some (.ref 0), some (sI ((r : Int))), some (sI ((i : Int))), some (sI ((t : Int))), some (sI ((j : Int))), some (sI ((n : Int))), some (.ref (21 + 2 * r)), some (.ref (21 + 2 * t))], [.ref (21 + 2 * t), sI ((i : Int)), .ref (22 + 2 * r)], h)) rfl ?_
            refine s_get (a := 21 + 2 * t) (j := 0) hh rfl ⟨_, rfl⟩ (ra_t ht) rfl rfl (v := .ref (22 + 2 * t)) (hR_ok hh (ra_r ht)) ?_
            refine sP 2 (g1 := (53, [some (.ref 0), some (sI ((r : Int))), some (sI ((i : Int))), some (sI ((t : Int))), some (sI ((j : Int))), some (sI ((n : Int))), some (.ref (21 + 2 * r)), some (.ref (21 + 2 * t))], [sI ((n : Int)), sI ((j : Int)), .ref (22 + 2 * t), sI ((i : Int)), .ref (22 + 2 * r)], h)) rfl ?_
            refine s_acg (a0 := 22 + 2 * r) (a1 := 22 + 2 * t) (n0 := 40) (n1 := 40) (sp := i) (dp := j) (n := n) hh rfl ⟨_, rfl⟩ rfl (ra_2 hr) (ra_2 ht) (by decide) (by decide) (by omega) (by omega) (ra_tl hr ht) rfl ?_
            refine sP 1 (g1 := (55, [some (.ref 0), some (sI ((r : Int))), some (sI ((i : Int))), some (sI ((t : Int))), some (sI ((j : Int))), some (sI ((n : Int))), some (.ref (21 + 2 * r)), some (.ref (21 + 2 * t))], [sI 1], (hcpg h (22 + 2 * r) (22 + 2 * t) i j n))) rfl ?_
            exact s_reti rfl rfl (Or.inl rfl) rfl rfl
          · have hc9 : ¬ ((1 : Int) ≠ 0) := hc9
            omega
      · have hc5 : ¬ (((hI h (21 + 2 * t) 1) : Int) ≠ ((-1))) := hc5
        omega
  · have hc1 : ¬ ((0 : Int) ≤ ((n : Int))) := hc1
    omega
theorem fCopyMb0 {r t i j n : Int} (hh : aHp h) (rr : sR r) (hc : ¬ (0 ≤ r ∧ r < 6)) : nEv sc (d + 3) 133 [.ref 53, sI r, sI i, sI t, sI j, sI n] h (some (sI (-1)), h) := by
  unfold sR aMi aMa at rr
  refine nEv_of (t := mMe133) rfl ?_
  show nRn sc (d + 2) (mMT mMe133) (mMC mMe133) (0, [some (.ref 53), some (sI r), some (sI i), some (sI t), some (sI j), some (sI n), none, none], [], h) _
  refine sP 1 (g1 := (1, [some (.ref 53), some (sI r), some (sI i), some (sI t), some (sI j), some (sI n), none, none], [sI r], h)) rfl ?_
  have ev1 := fIsRow (sc := sc) (d := d) (h := h) (r := r) (by unfold sR aMi aMa; omega)
  rw [if_neg (by omega)] at ev1
  refine s_call (k := 126) (args := [sI r]) (st := []) (v := some (sI 0)) (h1 := h) rfl ⟨rfl, rfl⟩ rfl rfl rfl rfl rfl rfl ev1 ?_
  refine s_ifc (q := .eq) (a := 0) rfl ⟨_, rfl⟩ rfl (by unfold sR aMi aMa; omega) (fun hc2 => ?_) (fun hc2 => ?_)
  · have hc2 : (0 : Int) = 0 := hc2
    refine sP 1 (g1 := (7, [some (.ref 53), some (sI r), some (sI i), some (sI t), some (sI j), some (sI n), none, none], [sI ((-1))], h)) rfl ?_
    exact s_reti rfl rfl (Or.inl rfl) rfl rfl
  · have hc2 : ¬ ((0 : Int) = 0) := hc2
    omega
theorem fCopyMb1 {r : Nat} {t i j n : Int} (hh : aHp h) (hr : r < 6) (rt : sR t) (hc : ¬ (0 ≤ t ∧ t < 6)) : nEv sc (d + 3) 133 [.ref 53, sI (r : Int), sI i, sI t, sI j, sI n] h (some (sI (-1)), h) := by
  unfold sR aMi aMa at rt
  refine nEv_of (t := mMe133) rfl ?_
  show nRn sc (d + 2) (mMT mMe133) (mMC mMe133) (0, [some (.ref 53), some (sI ((r : Int))), some (sI i), some (sI t), some (sI j), some (sI n), none, none], [], h) _
  refine sP 1 (g1 := (1, [some (.ref 53), some (sI ((r : Int))), some (sI i), some (sI t), some (sI j), some (sI n), none, none], [sI ((r : Int))], h)) rfl ?_
  have ev1 := fIsRow (sc := sc) (d := d) (h := h) (r := (r : Int)) (by unfold sR aMi aMa; omega)
  rw [if_pos (by omega)] at ev1
  refine s_call (k := 126) (args := [sI ((r : Int))]) (st := []) (v := some (sI 1)) (h1 := h) rfl ⟨rfl, rfl⟩ rfl rfl rfl rfl rfl rfl ev1 ?_
  refine s_ifc (q := .eq) (a := 1) rfl ⟨_, rfl⟩ rfl (by unfold sR aMi aMa; omega) (fun hc2 => ?_) (fun hc2 => ?_)
  · have hc2 : (1 : Int) = 0 := hc2
    omega
  · have hc2 : ¬ ((1 : Int) = 0) := hc2
    refine sP 1 (g1 := (4, [some (.ref 53), some (sI ((r : Int))), some (sI i), some (sI t), some (sI j), some (sI n), none, none], [sI t], h)) rfl ?_
    have ev3 := fIsRow (sc := sc) (d := d) (h := h) (r := t) (by unfold sR aMi aMa; omega)
    rw [if_neg (by omega)] at ev3
    refine s_call (k := 126) (args := [sI t]) (st := []) (v := some (sI 0)) (h1 := h) rfl ⟨rfl, rfl⟩ rfl rfl rfl rfl rfl rfl ev3 ?_
    refine s_ifc (q := .ne) (a := 0) rfl ⟨_, rfl⟩ rfl (by unfold sR aMi aMa; omega) (fun hc4 => ?_) (fun hc4 => ?_)
    · have hc4 : (0 : Int) ≠ 0 := hc4
      omega
    · have hc4 : ¬ ((0 : Int) ≠ 0) := hc4
      refine sP 1 (g1 := (7, [some (.ref 53), some (sI ((r : Int))), some (sI i), some (sI t), some (sI j), some (sI n), none, none], [sI ((-1))], h)) rfl ?_
      exact s_reti rfl rfl (Or.inl rfl) rfl rfl
theorem fCopyMw5 {r t : Nat} {i j n : Int} (hh : aHp h) (hr : r < 6) (ht : t < 6) (ri : sR i) (rj : sR j) (rn : sR n) (hc : n < 0) : ∃ g, nEv sc (d + 3) 133 [.ref 53, sI (r : Int), sI i, sI (t : Int), sI j, sI n] h (some (sI (-3)), g) ∧ oFM 5 h g := by
  unfold sR aMi aMa at ri rj rn
  obtain ⟨g1, r1, r2, r3⟩ := fFoundM (sc := sc) (d := d + 1) (f := 5) hh (by omega)
  refine ⟨g1, nEv_of (t := mMe133) rfl ?_, r2, r3⟩
  show nRn sc (d + 2) (mMT mMe133) (mMC mMe133) (0, [some (.ref 53), some (sI ((r : Int))), some (sI i), some (sI ((t : Int))), some (sI j), some (sI n), none, none], [], h) _
  refine sP 1 (g1 := (1, [some (.ref 53), some (sI ((r : Int))), some (sI i), some (sI ((t : Int))), some (sI j), some (sI n), none, none], [sI ((r : Int))], h)) rfl ?_
  have ev1 := fIsRow (sc := sc) (d := d) (h := h) (r := (r : Int)) (by unfold sR aMi aMa; omega)
  rw [if_pos (by omega)] at ev1
  refine s_call (k := 126) (args := [sI ((r : Int))]) (st := []) (v := some (sI 1)) (h1 := h) rfl ⟨rfl, rfl⟩ rfl rfl rfl rfl rfl rfl ev1 ?_
  refine s_ifc (q := .eq) (a := 1) rfl ⟨_, rfl⟩ rfl (by unfold sR aMi aMa; omega) (fun hc2 => ?_) (fun hc2 => ?_)
  · have hc2 : (1 : Int) = 0 := hc2
    omega
  · have hc2 : ¬ ((1 : Int) = 0) := hc2
    refine sP 1 (g1 := (4, [some (.ref 53), some (sI ((r : Int))), some (sI i), some (sI ((t : Int))), some (sI j), some (sI n), none, none], [sI ((t : Int))], h)) rfl ?_
    have ev3 := fIsRow (sc := sc) (d := d) (h := h) (r := (t : Int)) (by unfold sR aMi aMa; omega)
    rw [if_pos (by omega)] at ev3
    refine s_call (k := 126) (args := [sI ((t : Int))]) (st := []) (v := some (sI 1)) (h1 := h) rfl ⟨rfl, rfl⟩ rfl rfl rfl rfl rfl rfl ev3 ?_
    refine s_ifc (q := .ne) (a := 1) rfl ⟨_, rfl⟩ rfl (by unfold sR aMi aMa; omega) (fun hc4 => ?_) (fun hc4 => ?_)
    · have hc4 : (1 : Int) ≠ 0 := hc4
      refine sP 1 (g1 := (9, [some (.ref 53), some (sI ((r : Int))), some (sI i), some (sI ((t : Int))), some (sI j), some (sI n), none, none], [sI n], h)) rfl ?_
      refine s_ifc (q := .ge) (a := n) rfl ⟨_, rfl⟩ rfl (by unfold sR aMi aMa; omega) (fun hc5 => ?_) (fun hc5 => ?_)
      · have hc5 : (0 : Int) ≤ n := hc5
        omega
      · have hc5 : ¬ ((0 : Int) ≤ n) := hc5
        refine sP 2 (g1 := (12, [some (.ref 53), some (sI ((r : Int))), some (sI i), some (sI ((t : Int))), some (sI j), some (sI n), none, none], [sI 5, .ref 53], h)) rfl ?_
        refine s_call (k := 128) (args := [.ref 53, sI 5]) (st := []) (v := some (sI ((-3)))) (h1 := g1) rfl ⟨rfl, rfl⟩ rfl rfl rfl rfl (sRcv hh (a := 53) rfl rfl) rfl r1 ?_
        exact s_reti rfl rfl (Or.inl rfl) rfl rfl
    · have hc4 : ¬ ((1 : Int) ≠ 0) := hc4
      omega
theorem fCopyMw1 {r t : Nat} {i j n : Int} (hh : aHp h) (hr : r < 6) (ht : t < 6) (ri : sR i) (rj : sR j) (rn : sR n) (h0 : 0 ≤ n) (hc : hI h 54 r < 0 ∨ hI h 54 t < 0) : ∃ g, nEv sc (d + 3) 133 [.ref 53, sI (r : Int), sI i, sI (t : Int), sI j, sI n] h (some (sI (-3)), g) ∧ oFM 1 h g := by
  unfold sR aMi aMa at ri rj rn
  obtain ⟨g1, r1, r2, r3⟩ := fFoundM (sc := sc) (d := d + 1) (f := 1) hh (by omega)
  refine ⟨g1, nEv_of (t := mMe133) rfl ?_, r2, r3⟩
  show nRn sc (d + 2) (mMT mMe133) (mMC mMe133) (0, [some (.ref 53), some (sI ((r : Int))), some (sI i), some (sI ((t : Int))), some (sI j), some (sI n), none, none], [], h) _
  refine sP 1 (g1 := (1, [some (.ref 53), some (sI ((r : Int))), some (sI i), some (sI ((t : Int))), some (sI j), some (sI n), none, none], [sI ((r : Int))], h)) rfl ?_
  have ev1 := fIsRow (sc := sc) (d := d) (h := h) (r := (r : Int)) (by unfold sR aMi aMa; omega)
  rw [if_pos (by omega)] at ev1
  refine s_call (k := 126) (args := [sI ((r : Int))]) (st := []) (v := some (sI 1)) (h1 := h) rfl ⟨rfl, rfl⟩ rfl rfl rfl rfl rfl rfl ev1 ?_
  refine s_ifc (q := .eq) (a := 1) rfl ⟨_, rfl⟩ rfl (by unfold sR aMi aMa; omega) (fun hc2 => ?_) (fun hc2 => ?_)
  · have hc2 : (1 : Int) = 0 := hc2
    omega
  · have hc2 : ¬ ((1 : Int) = 0) := hc2
    refine sP 1 (g1 := (4, [some (.ref 53), some (sI ((r : Int))), some (sI i), some (sI ((t : Int))), some (sI j), some (sI n), none, none], [sI ((t : Int))], h)) rfl ?_
    have ev3 := fIsRow (sc := sc) (d := d) (h := h) (r := (t : Int)) (by unfold sR aMi aMa; omega)
    rw [if_pos (by omega)] at ev3
    refine s_call (k := 126) (args := [sI ((t : Int))]) (st := []) (v := some (sI 1)) (h1 := h) rfl ⟨rfl, rfl⟩ rfl rfl rfl rfl rfl rfl ev3 ?_
    refine s_ifc (q := .ne) (a := 1) rfl ⟨_, rfl⟩ rfl (by unfold sR aMi aMa; omega) (fun hc4 => ?_) (fun hc4 => ?_)
    · have hc4 : (1 : Int) ≠ 0 := hc4
      refine sP 1 (g1 := (9, [some (.ref 53), some (sI ((r : Int))), some (sI i), some (sI ((t : Int))), some (sI j), some (sI n), none, none], [sI n], h)) rfl ?_
      refine s_ifc (q := .ge) (a := n) rfl ⟨_, rfl⟩ rfl (by unfold sR aMi aMa; omega) (fun hc5 => ?_) (fun hc5 => ?_)
      · have hc5 : (0 : Int) ≤ n := hc5
        refine sP 1 (g1 := (15, [some (.ref 53), some (sI ((r : Int))), some (sI i), some (sI ((t : Int))), some (sI j), some (sI n), none, none], [.ref 53], h)) rfl ?_
        refine s_get (a := 53) (j := 0) hh rfl ⟨_, rfl⟩ rfl rfl rfl (v := .ref 54) (hR_ok hh (by decide +kernel)) ?_
        refine sP 1 (g1 := (17, [some (.ref 53), some (sI ((r : Int))), some (sI i), some (sI ((t : Int))), some (sI j), some (sI n), none, none], [sI ((r : Int)), .ref 54], h)) rfl ?_
        have rg6 := hI_rg hh (rm_z hr)
        refine s_iald (a := 54) (n := 6) (j := (r : Int)) hh rfl rfl rfl (by omega) (by omega) (by decide) (v := sI (hI h 54 r)) (by rw [Int.toNat_natCast]; exact hI_ok hh (rm_z hr)) ?_
        refine s_ifc (q := .lt) (a := hI h 54 r) rfl ⟨_, rfl⟩ rfl (by unfold sR aMi aMa; omega) (fun hc7 => ?_) (fun hc7 => ?_)
        · have hc7 : ((hI h 54 r) : Int) < 0 := hc7
          refine sP 2 (g1 := (26, [some (.ref 53), some (sI ((r : Int))), some (sI i), some (sI ((t : Int))), some (sI j), some (sI n), none, none], [sI 1, .ref 53], h)) rfl ?_
          refine s_call (k := 128) (args := [.ref 53, sI 1]) (st := []) (v := some (sI ((-3)))) (h1 := g1) rfl ⟨rfl, rfl⟩ rfl rfl rfl rfl (sRcv hh (a := 53) rfl rfl) rfl r1 ?_
          exact s_reti rfl rfl (Or.inl rfl) rfl rfl
        · have hc7 : ¬ (((hI h 54 r) : Int) < 0) := hc7
          refine sP 1 (g1 := (20, [some (.ref 53), some (sI ((r : Int))), some (sI i), some (sI ((t : Int))), some (sI j), some (sI n), none, none], [.ref 53], h)) rfl ?_
          refine s_get (a := 53) (j := 0) hh rfl ⟨_, rfl⟩ rfl rfl rfl (v := .ref 54) (hR_ok hh (by decide +kernel)) ?_
          refine sP 1 (g1 := (22, [some (.ref 53), some (sI ((r : Int))), some (sI i), some (sI ((t : Int))), some (sI j), some (sI n), none, none], [sI ((t : Int)), .ref 54], h)) rfl ?_
          have rg8 := hI_rg hh (rm_z ht)
          refine s_iald (a := 54) (n := 6) (j := (t : Int)) hh rfl rfl rfl (by omega) (by omega) (by decide) (v := sI (hI h 54 t)) (by rw [Int.toNat_natCast]; exact hI_ok hh (rm_z ht)) ?_
          refine s_ifc (q := .ge) (a := hI h 54 t) rfl ⟨_, rfl⟩ rfl (by unfold sR aMi aMa; omega) (fun hc9 => ?_) (fun hc9 => ?_)
          · have hc9 : (0 : Int) ≤ (hI h 54 t) := hc9
            omega
          · have hc9 : ¬ ((0 : Int) ≤ (hI h 54 t)) := hc9
            refine sP 2 (g1 := (26, [some (.ref 53), some (sI ((r : Int))), some (sI i), some (sI ((t : Int))), some (sI j), some (sI n), none, none], [sI 1, .ref 53], h)) rfl ?_
            refine s_call (k := 128) (args := [.ref 53, sI 1]) (st := []) (v := some (sI ((-3)))) (h1 := g1) rfl ⟨rfl, rfl⟩ rfl rfl rfl rfl (sRcv hh (a := 53) rfl rfl) rfl r1 ?_
            exact s_reti rfl rfl (Or.inl rfl) rfl rfl
      · have hc5 : ¬ ((0 : Int) ≤ n) := hc5
        omega
    · have hc4 : ¬ ((1 : Int) ≠ 0) := hc4
      omega
theorem fCopyMw2 {r t : Nat} {i j n : Int} (hh : aHp h) (hr : r < 6) (ht : t < 6) (ri : sR i) (rj : sR j) (rn : sR n) (h0 : 0 ≤ n) (h1 : 0 ≤ hI h 54 r) (h2 : 0 ≤ hI h 54 t) (hc : ¬ ((0 ≤ i ∧ i + n ≤ hI h 54 r) ∧ (0 ≤ j ∧ j + n ≤ hI h 54 t))) : ∃ g, nEv sc (d + 3) 133 [.ref 53, sI (r : Int), sI i, sI (t : Int), sI j, sI n] h (some (sI (-3)), g) ∧ oFM 2 h g := by
  unfold sR aMi aMa at ri rj rn
  obtain ⟨g1, r1, r2, r3⟩ := fFoundM (sc := sc) (d := d + 1) (f := 2) hh (by omega)
  refine ⟨g1, nEv_of (t := mMe133) rfl ?_, r2, r3⟩
  show nRn sc (d + 2) (mMT mMe133) (mMC mMe133) (0, [some (.ref 53), some (sI ((r : Int))), some (sI i), some (sI ((t : Int))), some (sI j), some (sI n), none, none], [], h) _
  refine sP 1 (g1 := (1, [some (.ref 53), some (sI ((r : Int))), some (sI i), some (sI ((t : Int))), some (sI j), some (sI n), none, none], [sI ((r : Int))], h)) rfl ?_
  have ev1 := fIsRow (sc := sc) (d := d) (h := h) (r := (r : Int)) (by unfold sR aMi aMa; omega)
  rw [if_pos (by omega)] at ev1
  refine s_call (k := 126) (args := [sI ((r : Int))]) (st := []) (v := some (sI 1)) (h1 := h) rfl ⟨rfl, rfl⟩ rfl rfl rfl rfl rfl rfl ev1 ?_
  refine s_ifc (q := .eq) (a := 1) rfl ⟨_, rfl⟩ rfl (by unfold sR aMi aMa; omega) (fun hc2 => ?_) (fun hc2 => ?_)
  · have hc2 : (1 : Int) = 0 := hc2
    omega
  · have hc2 : ¬ ((1 : Int) = 0) := hc2
    refine sP 1 (g1 := (4, [some (.ref 53), some (sI ((r : Int))), some (sI i), some (sI ((t : Int))), some (sI j), some (sI n), none, none], [sI ((t : Int))], h)) rfl ?_
    have ev3 := fIsRow (sc := sc) (d := d) (h := h) (r := (t : Int)) (by unfold sR aMi aMa; omega)
    rw [if_pos (by omega)] at ev3
    refine s_call (k := 126) (args := [sI ((t : Int))]) (st := []) (v := some (sI 1)) (h1 := h) rfl ⟨rfl, rfl⟩ rfl rfl rfl rfl rfl rfl ev3 ?_
    refine s_ifc (q := .ne) (a := 1) rfl ⟨_, rfl⟩ rfl (by unfold sR aMi aMa; omega) (fun hc4 => ?_) (fun hc4 => ?_)
    · have hc4 : (1 : Int) ≠ 0 := hc4
      refine sP 1 (g1 := (9, [some (.ref 53), some (sI ((r : Int))), some (sI i), some (sI ((t : Int))), some (sI j), some (sI n), none, none], [sI n], h)) rfl ?_
      refine s_ifc (q := .ge) (a := n) rfl ⟨_, rfl⟩ rfl (by unfold sR aMi aMa; omega) (fun hc5 => ?_) (fun hc5 => ?_)
      · have hc5 : (0 : Int) ≤ n := hc5
        refine sP 1 (g1 := (15, [some (.ref 53), some (sI ((r : Int))), some (sI i), some (sI ((t : Int))), some (sI j), some (sI n), none, none], [.ref 53], h)) rfl ?_
        refine s_get (a := 53) (j := 0) hh rfl ⟨_, rfl⟩ rfl rfl rfl (v := .ref 54) (hR_ok hh (by decide +kernel)) ?_
        refine sP 1 (g1 := (17, [some (.ref 53), some (sI ((r : Int))), some (sI i), some (sI ((t : Int))), some (sI j), some (sI n), none, none], [sI ((r : Int)), .ref 54], h)) rfl ?_
        have rg6 := hI_rg hh (rm_z hr)
        refine s_iald (a := 54) (n := 6) (j := (r : Int)) hh rfl rfl rfl (by omega) (by omega) (by decide) (v := sI (hI h 54 r)) (by rw [Int.toNat_natCast]; exact hI_ok hh (rm_z hr)) ?_
        refine s_ifc (q := .lt) (a := hI h 54 r) rfl ⟨_, rfl⟩ rfl (by unfold sR aMi aMa; omega) (fun hc7 => ?_) (fun hc7 => ?_)
        · have hc7 : ((hI h 54 r) : Int) < 0 := hc7
          omega
        · have hc7 : ¬ (((hI h 54 r) : Int) < 0) := hc7
          refine sP 1 (g1 := (20, [some (.ref 53), some (sI ((r : Int))), some (sI i), some (sI ((t : Int))), some (sI j), some (sI n), none, none], [.ref 53], h)) rfl ?_
          refine s_get (a := 53) (j := 0) hh rfl ⟨_, rfl⟩ rfl rfl rfl (v := .ref 54) (hR_ok hh (by decide +kernel)) ?_
          refine sP 1 (g1 := (22, [some (.ref 53), some (sI ((r : Int))), some (sI i), some (sI ((t : Int))), some (sI j), some (sI n), none, none], [sI ((t : Int)), .ref 54], h)) rfl ?_
          have rg8 := hI_rg hh (rm_z ht)
          refine s_iald (a := 54) (n := 6) (j := (t : Int)) hh rfl rfl rfl (by omega) (by omega) (by decide) (v := sI (hI h 54 t)) (by rw [Int.toNat_natCast]; exact hI_ok hh (rm_z ht)) ?_
          refine s_ifc (q := .ge) (a := hI h 54 t) rfl ⟨_, rfl⟩ rfl (by unfold sR aMi aMa; omega) (fun hc9 => ?_) (fun hc9 => ?_)
          · have hc9 : (0 : Int) ≤ (hI h 54 t) := hc9
            refine sP 1 (g1 := (29, [some (.ref 53), some (sI ((r : Int))), some (sI i), some (sI ((t : Int))), some (sI j), some (sI n), none, none], [sI i], h)) rfl ?_
            refine s_ifc (q := .lt) (a := i) rfl ⟨_, rfl⟩ rfl (by unfold sR aMi aMa; omega) (fun hc10 => ?_) (fun hc10 => ?_)
            · have hc10 : (i : Int) < 0 := hc10
              refine sP 2 (g1 := (58, [some (.ref 53), some (sI ((r : Int))), some (sI i), some (sI ((t : Int))), some (sI j), some (sI n), none, none], [sI 2, .ref 53], h)) rfl ?_
              refine s_call (k := 128) (args := [.ref 53, sI 2]) (st := []) (v := some (sI ((-3)))) (h1 := g1) rfl ⟨rfl, rfl⟩ rfl rfl rfl rfl (sRcv hh (a := 53) rfl rfl) rfl r1 ?_
              exact s_reti rfl rfl (Or.inl rfl) rfl rfl
            · have hc10 : ¬ ((i : Int) < 0) := hc10
              refine sP 1 (g1 := (31, [some (.ref 53), some (sI ((r : Int))), some (sI i), some (sI ((t : Int))), some (sI j), some (sI n), none, none], [sI j], h)) rfl ?_
              refine s_ifc (q := .lt) (a := j) rfl ⟨_, rfl⟩ rfl (by unfold sR aMi aMa; omega) (fun hc11 => ?_) (fun hc11 => ?_)
              · have hc11 : (j : Int) < 0 := hc11
                refine sP 2 (g1 := (58, [some (.ref 53), some (sI ((r : Int))), some (sI i), some (sI ((t : Int))), some (sI j), some (sI n), none, none], [sI 2, .ref 53], h)) rfl ?_
                refine s_call (k := 128) (args := [.ref 53, sI 2]) (st := []) (v := some (sI ((-3)))) (h1 := g1) rfl ⟨rfl, rfl⟩ rfl rfl rfl rfl (sRcv hh (a := 53) rfl rfl) rfl r1 ?_
                exact s_reti rfl rfl (Or.inl rfl) rfl rfl
              · have hc11 : ¬ ((j : Int) < 0) := hc11
                refine sP 1 (g1 := (33, [some (.ref 53), some (sI ((r : Int))), some (sI i), some (sI ((t : Int))), some (sI j), some (sI n), none, none], [sI i], h)) rfl ?_
                refine s_i2l (a := i) rfl rfl (by unfold sR aMi aMa; omega) ?_
                refine sP 1 (g1 := (35, [some (.ref 53), some (sI ((r : Int))), some (sI i), some (sI ((t : Int))), some (sI j), some (sI n), none, none], [sI n, sJ i], h)) rfl ?_
                refine s_i2l (a := n) rfl rfl (by unfold sR aMi aMa; omega) ?_
                refine s_laddc (a := i) (b := n) rfl rfl ?_
                refine sP 1 (g1 := (38, [some (.ref 53), some (sI ((r : Int))), some (sI i), some (sI ((t : Int))), some (sI j), some (sI n), none, none], [.ref 53, sJ (i + n)], h)) rfl ?_
                refine s_get (a := 53) (j := 0) hh rfl ⟨_, rfl⟩ rfl rfl rfl (v := .ref 54) (hR_ok hh (by decide +kernel)) ?_
                refine sP 1 (g1 := (40, [some (.ref 53), some (sI ((r : Int))), some (sI i), some (sI ((t : Int))), some (sI j), some (sI n), none, none], [sI ((r : Int)), .ref 54, sJ (i + n)], h)) rfl ?_
                have rg12 := hI_rg hh (rm_z hr)
                refine s_iald (a := 54) (n := 6) (j := (r : Int)) hh rfl rfl rfl (by omega) (by omega) (by decide) (v := sI (hI h 54 r)) (by rw [Int.toNat_natCast]; exact hI_ok hh (rm_z hr)) ?_
                refine s_i2l (a := hI h 54 r) rfl rfl (by unfold sR aMi aMa; omega) ?_
                refine s_lif (q := .gt) (a := i + n) (b := hI h 54 r) rfl rfl rfl ⟨_, rfl⟩ rfl (by unfold sRJ; omega) (by unfold sRJ; omega) (fun hc13 => ?_) (fun hc13 => ?_)
                · have hc13 : ((hI h 54 r) : Int) < (i + n) := hc13
                  refine sP 2 (g1 := (58, [some (.ref 53), some (sI ((r : Int))), some (sI i), some (sI ((t : Int))), some (sI j), some (sI n), none, none], [sI 2, .ref 53], h)) rfl ?_
                  refine s_call (k := 128) (args := [.ref 53, sI 2]) (st := []) (v := some (sI ((-3)))) (h1 := g1) rfl ⟨rfl, rfl⟩ rfl rfl rfl rfl (sRcv hh (a := 53) rfl rfl) rfl r1 ?_
                  exact s_reti rfl rfl (Or.inl rfl) rfl rfl
                · have hc13 : ¬ (((hI h 54 r) : Int) < (i + n)) := hc13
                  refine sP 1 (g1 := (45, [some (.ref 53), some (sI ((r : Int))), some (sI i), some (sI ((t : Int))), some (sI j), some (sI n), none, none], [sI j], h)) rfl ?_
                  refine s_i2l (a := j) rfl rfl (by unfold sR aMi aMa; omega) ?_
                  refine sP 1 (g1 := (47, [some (.ref 53), some (sI ((r : Int))), some (sI i), some (sI ((t : Int))), some (sI j), some (sI n), none, none], [sI n, sJ j], h)) rfl ?_
                  refine s_i2l (a := n) rfl rfl (by unfold sR aMi aMa; omega) ?_
                  refine s_laddc (a := j) (b := n) rfl rfl ?_
                  refine sP 1 (g1 := (50, [some (.ref 53), some (sI ((r : Int))), some (sI i), some (sI ((t : Int))), some (sI j), some (sI n), none, none], [.ref 53, sJ (j + n)], h)) rfl ?_
                  refine s_get (a := 53) (j := 0) hh rfl ⟨_, rfl⟩ rfl rfl rfl (v := .ref 54) (hR_ok hh (by decide +kernel)) ?_
                  refine sP 1 (g1 := (52, [some (.ref 53), some (sI ((r : Int))), some (sI i), some (sI ((t : Int))), some (sI j), some (sI n), none, none], [sI ((t : Int)), .ref 54, sJ (j + n)], h)) rfl ?_
                  have rg14 := hI_rg hh (rm_z ht)
                  refine s_iald (a := 54) (n := 6) (j := (t : Int)) hh rfl rfl rfl (by omega) (by omega) (by decide) (v := sI (hI h 54 t)) (by rw [Int.toNat_natCast]; exact hI_ok hh (rm_z ht)) ?_
                  refine s_i2l (a := hI h 54 t) rfl rfl (by unfold sR aMi aMa; omega) ?_
                  refine s_lif (q := .le) (a := j + n) (b := hI h 54 t) rfl rfl rfl ⟨_, rfl⟩ rfl (by unfold sRJ; omega) (by unfold sRJ; omega) (fun hc15 => ?_) (fun hc15 => ?_)
                  · have hc15 : ((j + n) : Int) ≤ (hI h 54 t) := hc15
                    omega
                  · have hc15 : ¬ (((j + n) : Int) ≤ (hI h 54 t)) := hc15
                    refine sP 2 (g1 := (58, [some (.ref 53), some (sI ((r : Int))), some (sI i), some (sI ((t : Int))), some (sI j), some (sI n), none, none], [sI 2, .ref 53], h)) rfl ?_
                    refine s_call (k := 128) (args := [.ref 53, sI 2]) (st := []) (v := some (sI ((-3)))) (h1 := g1) rfl ⟨rfl, rfl⟩ rfl rfl rfl rfl (sRcv hh (a := 53) rfl rfl) rfl r1 ?_
                    exact s_reti rfl rfl (Or.inl rfl) rfl rfl
          · have hc9 : ¬ ((0 : Int) ≤ (hI h 54 t)) := hc9
            omega
      · have hc5 : ¬ ((0 : Int) ≤ n) := hc5
        omega
    · have hc4 : ¬ ((1 : Int) ≠ 0) := hc4
      omega
/-- which places are done after k turns -/
noncomputable def cpD (i j n k p : Nat) : Prop := p < n ∧ (if i < j then n - k ≤ p else p < k)
theorem fCopyML {r t i j n : Nat} (hr : r < 6) (ht : t < 6) (c1 : i + n ≤ 40) (c2 : j + n ≤ 40) : ∀ (c k : Nat) (X : Option Value) (g : mH), k + c = n → aHp g → (∀ p m, (¬ (p = 55 ∧ ∃ q, cpD i j n k q ∧ m = 40 * t + j + q) → aSlot g p m = aSlot h p m) ∧ (∀ q, p = 55 → cpD i j n k q → m = 40 * t + j + q → aSlot g p m = aSlot h 55 (40 * r + i + q))) → ∃ g2, nRn sc d (mMT mMe133) (mMC mMe133) (62, [some (.ref 53), some (sI (r : Int)), some (sI (i : Int)), some (sI (t : Int)), some (sI (j : Int)), some (sI (n : Int)), some (sI (k : Int)), X], [], g) (some (sI 1), g2) ∧ aHp g2 ∧ (∀ p m, (¬ (p = 55 ∧ ∃ q, cpD i j n n q ∧ m = 40 * t + j + q) → aSlot g2 p m = aSlot h p m) ∧ (∀ q, p = 55 → cpD i j n n q → m = 40 * t + j + q → aSlot g2 p m = aSlot h 55 (40 * r + i + q))) := by
  intro c
  induction c with
  | zero =>
    intro k X g hk hg hs
    have hkn : k = n := by omega
    subst hkn
    refine ⟨g, ?_, hg, hs⟩
    refine sP 2 (g1 := (64, [some (.ref 53), some (sI ((r : Int))), some (sI ((i : Int))), some (sI ((t : Int))), some (sI ((j : Int))), some (sI ((k : Int))), some (sI ((k : Int))), X], [sI ((k : Int)), sI ((k : Int))], g)) rfl ?_
    refine s_icmp (q := .ge) (a := (k : Int)) (b := (k : Int)) rfl ⟨_, rfl⟩ rfl (by unfold sR aMi aMa; omega) (by unfold sR aMi aMa; omega) (fun hc1 => ?_) (fun hc1 => ?_)
    · have hc1 : (((k : Int)) : Int) ≤ ((k : Int)) := hc1
      refine sP 1 (g1 := (99, [some (.ref 53), some (sI ((r : Int))), some (sI ((i : Int))), some (sI ((t : Int))), some (sI ((j : Int))), some (sI ((k : Int))), some (sI ((k : Int))), X], [sI 1], g)) rfl ?_
      exact s_reti rfl rfl (Or.inl rfl) rfl rfl
    · have hc1 : ¬ ((((k : Int)) : Int) ≤ ((k : Int))) := hc1
      omega
  | succ c ih =>
    intro k X g hk hg hs
    obtain ⟨q, hq⟩ : ∃ q, q = if i < j then n - 1 - k else k := ⟨_, rfl⟩
    have hqn : q < n := by
      rw [hq]
      split <;> omega
    have src : aSlot g 55 (40 * r + i + q) = aSlot h 55 (40 * r + i + q) := by
      refine (hs 55 _).1 ?_
      rintro ⟨-, p, ⟨p1, p2⟩, p3⟩
      split at p2
      · rename_i e
        rw [if_pos e] at hq
        omega
      · rename_i e
        rw [if_neg e] at hq
        omega
    have rd0 : aSlot g 55 (40 * r + i + q) = some (sI (hI h 55 (40 * r + i + q))) := by
      rw [← hI_cg src]
      exact hI_ok hg (rm_cc (by omega))
    obtain ⟨g1, eg1⟩ : ∃ gz, gz = hset g 55 (40 * t + j + q) (sI (hI h 55 (40 * r + i + q))) := ⟨_, rfl⟩
    have sg1 : ∀ xa xm, aSlot g1 xa xm = if xa = 55 ∧ xm = 40 * t + j + q then some (sI (hI h 55 (40 * r + i + q))) else aSlot g xa xm := fun xa xm => by rw [eg1]; exact hset_slot hg (show sTg 55 = some (50, 240) from rfl) (by omega) xa xm
    have hg1 : aHp g1 := by rw [eg1]; exact hset_any hg (rm_ic (by omega))
    have hs1 : ∀ p m, (¬ (p = 55 ∧ ∃ q, cpD i j n (k + 1) q ∧ m = 40 * t + j + q) → aSlot g1 p m = aSlot h p m) ∧ (∀ q, p = 55 → cpD i j n (k + 1) q → m = 40 * t + j + q → aSlot g1 p m = aSlot h 55 (40 * r + i + q)) := by
      have dn : ∀ p, cpD i j n (k + 1) p ↔ cpD i j n k p ∨ p = q := fun p => by
        unfold cpD
        by_cases e : i < j
        · rw [if_pos e, if_pos e]
          rw [if_pos e] at hq
          omega
        · rw [if_neg e, if_neg e]
          rw [if_neg e] at hq
          omega
      intro p m
      refine ⟨fun hn => ?_, fun q2 e1 e2 e3 => ?_⟩
      · rw [sg1, if_neg (fun w => hn ⟨w.1, q, (dn q).mpr (Or.inr rfl), w.2⟩)]
        exact (hs p m).1 (fun w => hn ⟨w.1, by obtain ⟨q3, w3, w4⟩ := w.2; exact ⟨q3, (dn q3).mpr (Or.inl w3), w4⟩⟩)
      · by_cases e4 : q2 = q
        · subst e4
          rw [sg1, if_pos ⟨e1, e3⟩, ← src, rd0]
        · rw [sg1, if_neg (by omega)]
          rcases (dn q2).mp e2 with w | w
          · exact (hs p m).2 q2 e1 w e3
          · exact absurd w e4
    obtain ⟨g2, r1, r2, r3⟩ := ih (k + 1) (some (sI (q : Int))) g1 (by omega) hg1 hs1
    refine ⟨g2, ?_, r2, r3⟩
    refine sP 2 (g1 := (64, [some (.ref 53), some (sI ((r : Int))), some (sI ((i : Int))), some (sI ((t : Int))), some (sI ((j : Int))), some (sI ((n : Int))), some (sI ((k : Int))), X], [sI ((n : Int)), sI ((k : Int))], g)) rfl ?_
    refine s_icmp (q := .ge) (a := (k : Int)) (b := (n : Int)) rfl ⟨_, rfl⟩ rfl (by unfold sR aMi aMa; omega) (by unfold sR aMi aMa; omega) (fun hc1 => ?_) (fun hc1 => ?_)
    · have hc1 : (((n : Int)) : Int) ≤ ((k : Int)) := hc1
      omega
    · have hc1 : ¬ ((((n : Int)) : Int) ≤ ((k : Int))) := hc1
      refine sP 2 (g1 := (67, [some (.ref 53), some (sI ((r : Int))), some (sI ((i : Int))), some (sI ((t : Int))), some (sI ((j : Int))), some (sI ((n : Int))), some (sI ((k : Int))), X], [sI ((i : Int)), sI ((j : Int))], g)) rfl ?_
      refine s_icmp (q := .le) (a := (j : Int)) (b := (i : Int)) rfl ⟨_, rfl⟩ rfl (by unfold sR aMi aMa; omega) (by unfold sR aMi aMa; omega) (fun hc2 => ?_) (fun hc2 => ?_)
      · have hc2 : (((j : Int)) : Int) ≤ ((i : Int)) := hc2
        refine sP 1 (g1 := (75, [some (.ref 53), some (sI ((r : Int))), some (sI ((i : Int))), some (sI ((t : Int))), some (sI ((j : Int))), some (sI ((n : Int))), some (sI ((k : Int))), X], [sI ((k : Int))], g)) rfl ?_
        have hqk : k = q := by rw [hq, if_neg (by omega)]
        subst hqk
        refine sP 2 (g1 := (77, [some (.ref 53), some (sI ((r : Int))), some (sI ((i : Int))), some (sI ((t : Int))), some (sI ((j : Int))), some (sI ((n : Int))), some (sI ((k : Int))), some (sI ((k : Int)))], [.ref 53], g)) rfl ?_
        refine s_get (a := 53) (j := 1) hg rfl ⟨_, rfl⟩ rfl rfl rfl (v := .ref 55) (hR_ok hg (by decide +kernel)) ?_
        refine sP 2 (g1 := (80, [some (.ref 53), some (sI ((r : Int))), some (sI ((i : Int))), some (sI ((t : Int))), some (sI ((j : Int))), some (sI ((n : Int))), some (sI ((k : Int))), some (sI ((k : Int)))], [sI ((t : Int)), sI 40, .ref 55], g)) rfl ?_
        refine s_mul (a := 40) (b := (t : Int)) rfl rfl ?_
        refine sP 1 (g1 := (82, [some (.ref 53), some (sI ((r : Int))), some (sI ((i : Int))), some (sI ((t : Int))), some (sI ((j : Int))), some (sI ((n : Int))), some (sI ((k : Int))), some (sI ((k : Int)))], [sI ((j : Int)), sI (40 * ((t : Int))), .ref 55], g)) rfl ?_
        refine s_add (a := 40 * ((t : Int))) (b := (j : Int)) rfl rfl ?_
        refine sP 1 (g1 := (84, [some (.ref 53), some (sI ((r : Int))), some (sI ((i : Int))), some (sI ((t : Int))), some (sI ((j : Int))), some (sI ((n : Int))), some (sI ((k : Int))), some (sI ((k : Int)))], [sI ((k : Int)), sI ((40 * ((t : Int))) + ((j : Int))), .ref 55], g)) rfl ?_
        refine s_add (a := (40 * ((t : Int))) + ((j : Int))) (b := (k : Int)) rfl rfl ?_
        refine sP 1 (g1 := (86, [some (.ref 53), some (sI ((r : Int))), some (sI ((i : Int))), some (sI ((t : Int))), some (sI ((j : Int))), some (sI ((n : Int))), some (sI ((k : Int))), some (sI ((k : Int)))], [.ref 53, sI (((40 * ((t : Int))) + ((j : Int))) + ((k : Int))), .ref 55], g)) rfl ?_
        refine s_get (a := 53) (j := 1) hg rfl ⟨_, rfl⟩ rfl rfl rfl (v := .ref 55) (hR_ok hg (by decide +kernel)) ?_
        refine sP 2 (g1 := (89, [some (.ref 53), some (sI ((r : Int))), some (sI ((i : Int))), some (sI ((t : Int))), some (sI ((j : Int))), some (sI ((n : Int))), some (sI ((k : Int))), some (sI ((k : Int)))], [sI ((r : Int)), sI 40, .ref 55, sI (((40 * ((t : Int))) + ((j : Int))) + ((k : Int))), .ref 55], g)) rfl ?_
        refine s_mul (a := 40) (b := (r : Int)) rfl rfl ?_
        refine sP 1 (g1 := (91, [some (.ref 53), some (sI ((r : Int))), some (sI ((i : Int))), some (sI ((t : Int))), some (sI ((j : Int))), some (sI ((n : Int))), some (sI ((k : Int))), some (sI ((k : Int)))], [sI ((i : Int)), sI (40 * ((r : Int))), .ref 55, sI (((40 * ((t : Int))) + ((j : Int))) + ((k : Int))), .ref 55], g)) rfl ?_
        refine s_add (a := 40 * ((r : Int))) (b := (i : Int)) rfl rfl ?_
        refine sP 1 (g1 := (93, [some (.ref 53), some (sI ((r : Int))), some (sI ((i : Int))), some (sI ((t : Int))), some (sI ((j : Int))), some (sI ((n : Int))), some (sI ((k : Int))), some (sI ((k : Int)))], [sI ((k : Int)), sI ((40 * ((r : Int))) + ((i : Int))), .ref 55, sI (((40 * ((t : Int))) + ((j : Int))) + ((k : Int))), .ref 55], g)) rfl ?_
        refine s_add (a := (40 * ((r : Int))) + ((i : Int))) (b := (k : Int)) rfl rfl ?_
        refine s_iald (a := 55) (n := 240) (j := ((40 * ((r : Int))) + ((i : Int))) + ((k : Int))) hg rfl rfl rfl (by omega) (by omega) (by decide) (v := sI (hI h 55 (40 * r + i + k))) (by rw [show (((40 * ((r : Int))) + ((i : Int))) + ((k : Int)) : Int).toNat = 40 * r + i + k by omega]; exact rd0) ?_
        refine s_iast (a := 55) (n := 240) (j := ((40 * ((t : Int))) + ((j : Int))) + ((k : Int))) hg rfl rfl rfl (by omega) (by omega) (by decide) ?_
        rw [show (((40 * ((t : Int))) + ((j : Int))) + ((k : Int)) : Int).toNat = 40 * t + j + k by omega, ← eg1]
        refine s_inc (a := (k : Int)) (n := 1) (k := 6) rfl rfl rfl ?_
        refine sP 1 (g1 := (62, [some (.ref 53), some (sI ((r : Int))), some (sI ((i : Int))), some (sI ((t : Int))), some (sI ((j : Int))), some (sI ((n : Int))), some (sI (((k : Int)) + 1)), some (sI ((k : Int)))], [], g1)) rfl ?_
        rw [show ((k : Int) + 1) = ((k + 1 : Nat) : Int) by omega]
        exact r1
      · have hc2 : ¬ ((((j : Int)) : Int) ≤ ((i : Int))) := hc2
        refine sP 2 (g1 := (70, [some (.ref 53), some (sI ((r : Int))), some (sI ((i : Int))), some (sI ((t : Int))), some (sI ((j : Int))), some (sI ((n : Int))), some (sI ((k : Int))), X], [sI 1, sI ((n : Int))], g)) rfl ?_
        refine s_sub (a := (n : Int)) (b := 1) rfl rfl ?_
        refine sP 1 (g1 := (72, [some (.ref 53), some (sI ((r : Int))), some (sI ((i : Int))), some (sI ((t : Int))), some (sI ((j : Int))), some (sI ((n : Int))), some (sI ((k : Int))), X], [sI ((k : Int)), sI (((n : Int)) - 1)], g)) rfl ?_
        refine s_sub (a := ((n : Int)) - 1) (b := (k : Int)) rfl rfl ?_
        refine sP 1 (g1 := (75, [some (.ref 53), some (sI ((r : Int))), some (sI ((i : Int))), some (sI ((t : Int))), some (sI ((j : Int))), some (sI ((n : Int))), some (sI ((k : Int))), X], [sI ((((n : Int)) - 1) - ((k : Int)))], g)) rfl ?_
        have hq2 : ((((n : Int)) - 1) - ((k : Int)) : Int) = (q : Int) := by
          rw [hq, if_pos (by omega)]
          omega
        rw [hq2]
        refine sP 2 (g1 := (77, [some (.ref 53), some (sI ((r : Int))), some (sI ((i : Int))), some (sI ((t : Int))), some (sI ((j : Int))), some (sI ((n : Int))), some (sI ((k : Int))), some (sI ((q : Int)))], [.ref 53], g)) rfl ?_
        refine s_get (a := 53) (j := 1) hg rfl ⟨_, rfl⟩ rfl rfl rfl (v := .ref 55) (hR_ok hg (by decide +kernel)) ?_
        refine sP 2 (g1 := (80, [some (.ref 53), some (sI ((r : Int))), some (sI ((i : Int))), some (sI ((t : Int))), some (sI ((j : Int))), some (sI ((n : Int))), some (sI ((k : Int))), some (sI ((q : Int)))], [sI ((t : Int)), sI 40, .ref 55], g)) rfl ?_
        refine s_mul (a := 40) (b := (t : Int)) rfl rfl ?_
        refine sP 1 (g1 := (82, [some (.ref 53), some (sI ((r : Int))), some (sI ((i : Int))), some (sI ((t : Int))), some (sI ((j : Int))), some (sI ((n : Int))), some (sI ((k : Int))), some (sI ((q : Int)))], [sI ((j : Int)), sI (40 * ((t : Int))), .ref 55], g)) rfl ?_
        refine s_add (a := 40 * ((t : Int))) (b := (j : Int)) rfl rfl ?_
        refine sP 1 (g1 := (84, [some (.ref 53), some (sI ((r : Int))), some (sI ((i : Int))), some (sI ((t : Int))), some (sI ((j : Int))), some (sI ((n : Int))), some (sI ((k : Int))), some (sI ((q : Int)))], [sI ((q : Int)), sI ((40 * ((t : Int))) + ((j : Int))), .ref 55], g)) rfl ?_
        refine s_add (a := (40 * ((t : Int))) + ((j : Int))) (b := (q : Int)) rfl rfl ?_
        refine sP 1 (g1 := (86, [some (.ref 53), some (sI ((r : Int))), some (sI ((i : Int))), some (sI ((t : Int))), some (sI ((j : Int))), some (sI ((n : Int))), some (sI ((k : Int))), some (sI ((q : Int)))], [.ref 53, sI (((40 * ((t : Int))) + ((j : Int))) + ((q : Int))), .ref 55], g)) rfl ?_
        refine s_get (a := 53) (j := 1) hg rfl ⟨_, rfl⟩ rfl rfl rfl (v := .ref 55) (hR_ok hg (by decide +kernel)) ?_
        refine sP 2 (g1 := (89, [some (.ref 53), some (sI ((r : Int))), some (sI ((i : Int))), some (sI ((t : Int))), some (sI ((j : Int))), some (sI ((n : Int))), some (sI ((k : Int))), some (sI ((q : Int)))], [sI ((r : Int)), sI 40, .ref 55, sI (((40 * ((t : Int))) + ((j : Int))) + ((q : Int))), .ref 55], g)) rfl ?_
        refine s_mul (a := 40) (b := (r : Int)) rfl rfl ?_
        refine sP 1 (g1 := (91, [some (.ref 53), some (sI ((r : Int))), some (sI ((i : Int))), some (sI ((t : Int))), some (sI ((j : Int))), some (sI ((n : Int))), some (sI ((k : Int))), some (sI ((q : Int)))], [sI ((i : Int)), sI (40 * ((r : Int))), .ref 55, sI (((40 * ((t : Int))) + ((j : Int))) + ((q : Int))), .ref 55], g)) rfl ?_
        refine s_add (a := 40 * ((r : Int))) (b := (i : Int)) rfl rfl ?_
        refine sP 1 (g1 := (93, [some (.ref 53), some (sI ((r : Int))), some (sI ((i : Int))), some (sI ((t : Int))), some (sI ((j : Int))), some (sI ((n : Int))), some (sI ((k : Int))), some (sI ((q : Int)))], [sI ((q : Int)), sI ((40 * ((r : Int))) + ((i : Int))), .ref 55, sI (((40 * ((t : Int))) + ((j : Int))) + ((q : Int))), .ref 55], g)) rfl ?_
        refine s_add (a := (40 * ((r : Int))) + ((i : Int))) (b := (q : Int)) rfl rfl ?_
        refine s_iald (a := 55) (n := 240) (j := ((40 * ((r : Int))) + ((i : Int))) + ((q : Int))) hg rfl rfl rfl (by omega) (by omega) (by decide) (v := sI (hI h 55 (40 * r + i + q))) (by rw [show (((40 * ((r : Int))) + ((i : Int))) + ((q : Int)) : Int).toNat = 40 * r + i + q by omega]; exact rd0) ?_
        refine s_iast (a := 55) (n := 240) (j := ((40 * ((t : Int))) + ((j : Int))) + ((q : Int))) hg rfl rfl rfl (by omega) (by omega) (by decide) ?_
        rw [show (((40 * ((t : Int))) + ((j : Int))) + ((q : Int)) : Int).toNat = 40 * t + j + q by omega, ← eg1]
        refine s_inc (a := (k : Int)) (n := 1) (k := 6) rfl rfl rfl ?_
        refine sP 1 (g1 := (62, [some (.ref 53), some (sI ((r : Int))), some (sI ((i : Int))), some (sI ((t : Int))), some (sI ((j : Int))), some (sI ((n : Int))), some (sI (((k : Int)) + 1)), some (sI ((q : Int)))], [], g1)) rfl ?_
        rw [show ((k : Int) + 1) = ((k + 1 : Nat) : Int) by omega]
        exact r1
theorem fCopyM {r t i j n : Nat} (hh : aHp h) (hr : r < 6) (ht : t < 6) (c1 : (i : Int) + n ≤ hI h 54 r) (c2 : (j : Int) + n ≤ hI h 54 t) : ∃ g, nEv sc (d + 3) 133 [.ref 53, sI (r : Int), sI (i : Int), sI (t : Int), sI (j : Int), sI (n : Int)] h (some (sI 1), g) ∧ aHp g ∧ ∀ p m, aSlot g p m = if p = 55 ∧ 40 * t + j ≤ m ∧ m < 40 * t + j + n then aSlot h 55 (40 * r + i + (m - (40 * t + j))) else aSlot h p m := by
  have z1 := hI_rg hh (rm_z hr)
  have z2 := hI_rg hh (rm_z ht)
  obtain ⟨g, r1, r2, r3⟩ := fCopyML (sc := sc) (d := d + 2) (h := h) (i := i) (j := j) (n := n) hr ht (by omega) (by omega) n 0 none h (by omega) hh (fun p m => ⟨fun _ => rfl, fun q _ e _ => by
    exfalso
    obtain ⟨e1, e2⟩ := e
    split at e2 <;> omega⟩)
  refine ⟨g, nEv_of (t := mMe133) rfl ?_, r2, fun p m => ?_⟩
  rotate_left
  · have al : ∀ q, cpD i j n n q ↔ q < n := fun q => by
      unfold cpD
      split <;> omega
    by_cases e : p = 55 ∧ 40 * t + j ≤ m ∧ m < 40 * t + j + n
    · rw [if_pos e]
      exact (r3 p m).2 (m - (40 * t + j)) e.1 ((al _).mpr (by omega)) (by omega)
    · rw [if_neg e]
      refine (r3 p m).1 (fun w => e ?_)
      obtain ⟨w1, q, w2, w3⟩ := w
      have := (al q).mp w2
      exact ⟨w1, by omega, by omega⟩
  show nRn sc (d + 2) (mMT mMe133) (mMC mMe133) (0, [some (.ref 53), some (sI ((r : Int))), some (sI ((i : Int))), some (sI ((t : Int))), some (sI ((j : Int))), some (sI ((n : Int))), none, none], [], h) _
  refine sP 1 (g1 := (1, [some (.ref 53), some (sI ((r : Int))), some (sI ((i : Int))), some (sI ((t : Int))), some (sI ((j : Int))), some (sI ((n : Int))), none, none], [sI ((r : Int))], h)) rfl ?_
  have ev1 := fIsRow (sc := sc) (d := d) (h := h) (r := (r : Int)) (by unfold sR aMi aMa; omega)
  rw [if_pos (by omega)] at ev1
  refine s_call (k := 126) (args := [sI ((r : Int))]) (st := []) (v := some (sI 1)) (h1 := h) rfl ⟨rfl, rfl⟩ rfl rfl rfl rfl rfl rfl ev1 ?_
  refine s_ifc (q := .eq) (a := 1) rfl ⟨_, rfl⟩ rfl (by unfold sR aMi aMa; omega) (fun hc2 => ?_) (fun hc2 => ?_)
  · have hc2 : (1 : Int) = 0 := hc2
    omega
  · have hc2 : ¬ ((1 : Int) = 0) := hc2
    refine sP 1 (g1 := (4, [some (.ref 53), some (sI ((r : Int))), some (sI ((i : Int))), some (sI ((t : Int))), some (sI ((j : Int))), some (sI ((n : Int))), none, none], [sI ((t : Int))], h)) rfl ?_
    have ev3 := fIsRow (sc := sc) (d := d) (h := h) (r := (t : Int)) (by unfold sR aMi aMa; omega)
    rw [if_pos (by omega)] at ev3
    refine s_call (k := 126) (args := [sI ((t : Int))]) (st := []) (v := some (sI 1)) (h1 := h) rfl ⟨rfl, rfl⟩ rfl rfl rfl rfl rfl rfl ev3 ?_
    refine s_ifc (q := .ne) (a := 1) rfl ⟨_, rfl⟩ rfl (by unfold sR aMi aMa; omega) (fun hc4 => ?_) (fun hc4 => ?_)
    · have hc4 : (1 : Int) ≠ 0 := hc4
      refine sP 1 (g1 := (9, [some (.ref 53), some (sI ((r : Int))), some (sI ((i : Int))), some (sI ((t : Int))), some (sI ((j : Int))), some (sI ((n : Int))), none, none], [sI ((n : Int))], h)) rfl ?_
      refine s_ifc (q := .ge) (a := (n : Int)) rfl ⟨_, rfl⟩ rfl (by unfold sR aMi aMa; omega) (fun hc5 => ?_) (fun hc5 => ?_)
      · have hc5 : (0 : Int) ≤ ((n : Int)) := hc5
        refine sP 1 (g1 := (15, [some (.ref 53), some (sI ((r : Int))), some (sI ((i : Int))), some (sI ((t : Int))), some (sI ((j : Int))), some (sI ((n : Int))), none, none], [.ref 53], h)) rfl ?_
        refine s_get (a := 53) (j := 0) hh rfl ⟨_, rfl⟩ rfl rfl rfl (v := .ref 54) (hR_ok hh (by decide +kernel)) ?_
        refine sP 1 (g1 := (17, [some (.ref 53), some (sI ((r : Int))), some (sI ((i : Int))), some (sI ((t : Int))), some (sI ((j : Int))), some (sI ((n : Int))), none, none], [sI ((r : Int)), .ref 54], h)) rfl ?_
        have rg6 := hI_rg hh (rm_z hr)
        refine s_iald (a := 54) (n := 6) (j := (r : Int)) hh rfl rfl rfl (by omega) (by omega) (by decide) (v := sI (hI h 54 r)) (by rw [Int.toNat_natCast]; exact hI_ok hh (rm_z hr)) ?_
        refine s_ifc (q := .lt) (a := hI h 54 r) rfl ⟨_, rfl⟩ rfl (by unfold sR aMi aMa; omega) (fun hc7 => ?_) (fun hc7 => ?_)
        · have hc7 : ((hI h 54 r) : Int) < 0 := hc7
          omega
        · have hc7 : ¬ (((hI h 54 r) : Int) < 0) := hc7
          refine sP 1 (g1 := (20, [some (.ref 53), some (sI ((r : Int))), some (sI ((i : Int))), some (sI ((t : Int))), some (sI ((j : Int))), some (sI ((n : Int))), none, none], [.ref 53], h)) rfl ?_
          refine s_get (a := 53) (j := 0) hh rfl ⟨_, rfl⟩ rfl rfl rfl (v := .ref 54) (hR_ok hh (by decide +kernel)) ?_
          refine sP 1 (g1 := (22, [some (.ref 53), some (sI ((r : Int))), some (sI ((i : Int))), some (sI ((t : Int))), some (sI ((j : Int))), some (sI ((n : Int))), none, none], [sI ((t : Int)), .ref 54], h)) rfl ?_
          have rg8 := hI_rg hh (rm_z ht)
          refine s_iald (a := 54) (n := 6) (j := (t : Int)) hh rfl rfl rfl (by omega) (by omega) (by decide) (v := sI (hI h 54 t)) (by rw [Int.toNat_natCast]; exact hI_ok hh (rm_z ht)) ?_
          refine s_ifc (q := .ge) (a := hI h 54 t) rfl ⟨_, rfl⟩ rfl (by unfold sR aMi aMa; omega) (fun hc9 => ?_) (fun hc9 => ?_)
          · have hc9 : (0 : Int) ≤ (hI h 54 t) := hc9
            refine sP 1 (g1 := (29, [some (.ref 53), some (sI ((r : Int))), some (sI ((i : Int))), some (sI ((t : Int))), some (sI ((j : Int))), some (sI ((n : Int))), none, none], [sI ((i : Int))], h)) rfl ?_
            refine s_ifc (q := .lt) (a := (i : Int)) rfl ⟨_, rfl⟩ rfl (by unfold sR aMi aMa; omega) (fun hc10 => ?_) (fun hc10 => ?_)
            · have hc10 : (((i : Int)) : Int) < 0 := hc10
              omega
            · have hc10 : ¬ ((((i : Int)) : Int) < 0) := hc10
              refine sP 1 (g1 := (31, [some (.ref 53), some (sI ((r : Int))), some (sI ((i : Int))), some (sI ((t : Int))), some (sI ((j : Int))), some (sI ((n : Int))), none, none], [sI ((j : Int))], h)) rfl ?_
              refine s_ifc (q := .lt) (a := (j : Int)) rfl ⟨_, rfl⟩ rfl (by unfold sR aMi aMa; omega) (fun hc11 => ?_) (fun hc11 => ?_)
              · have hc11 : (((j : Int)) : Int) < 0 := hc11
                omega
              · have hc11 : ¬ ((((j : Int)) : Int) < 0) := hc11
                refine sP 1 (g1 := (33, [some (.ref 53), some (sI ((r : Int))), some (sI ((i : Int))), some (sI ((t : Int))), some (sI ((j : Int))), some (sI ((n : Int))), none, none], [sI ((i : Int))], h)) rfl ?_
                refine s_i2l (a := (i : Int)) rfl rfl (by unfold sR aMi aMa; omega) ?_
                refine sP 1 (g1 := (35, [some (.ref 53), some (sI ((r : Int))), some (sI ((i : Int))), some (sI ((t : Int))), some (sI ((j : Int))), some (sI ((n : Int))), none, none], [sI ((n : Int)), sJ ((i : Int))], h)) rfl ?_
                refine s_i2l (a := (n : Int)) rfl rfl (by unfold sR aMi aMa; omega) ?_
                refine s_laddc (a := (i : Int)) (b := (n : Int)) rfl rfl ?_
                refine sP 1 (g1 := (38, [some (.ref 53), some (sI ((r : Int))), some (sI ((i : Int))), some (sI ((t : Int))), some (sI ((j : Int))), some (sI ((n : Int))), none, none], [.ref 53, sJ (((i : Int)) + ((n : Int)))], h)) rfl ?_
                refine s_get (a := 53) (j := 0) hh rfl ⟨_, rfl⟩ rfl rfl rfl (v := .ref 54) (hR_ok hh (by decide +kernel)) ?_
                refine sP 1 (g1 := (40, [some (.ref 53), some (sI ((r : Int))), some (sI ((i : Int))), some (sI ((t : Int))), some (sI ((j : Int))), some (sI ((n : Int))), none, none], [sI ((r : Int)), .ref 54, sJ (((i : Int)) + ((n : Int)))], h)) rfl ?_
                have rg12 := hI_rg hh (rm_z hr)
                refine s_iald (a := 54) (n := 6) (j := (r : Int)) hh rfl rfl rfl (by omega) (by omega) (by decide) (v := sI (hI h 54 r)) (by rw [Int.toNat_natCast]; exact hI_ok hh (rm_z hr)) ?_
                refine s_i2l (a := hI h 54 r) rfl rfl (by unfold sR aMi aMa; omega) ?_
                refine s_lif (q := .gt) (a := ((i : Int)) + ((n : Int))) (b := hI h 54 r) rfl rfl rfl ⟨_, rfl⟩ rfl (by unfold sRJ; omega) (by unfold sRJ; omega) (fun hc13 => ?_) (fun hc13 => ?_)
                · have hc13 : ((hI h 54 r) : Int) < (((i : Int)) + ((n : Int))) := hc13
                  omega
                · have hc13 : ¬ (((hI h 54 r) : Int) < (((i : Int)) + ((n : Int)))) := hc13
                  refine sP 1 (g1 := (45, [some (.ref 53), some (sI ((r : Int))), some (sI ((i : Int))), some (sI ((t : Int))), some (sI ((j : Int))), some (sI ((n : Int))), none, none], [sI ((j : Int))], h)) rfl ?_
                  refine s_i2l (a := (j : Int)) rfl rfl (by unfold sR aMi aMa; omega) ?_
                  refine sP 1 (g1 := (47, [some (.ref 53), some (sI ((r : Int))), some (sI ((i : Int))), some (sI ((t : Int))), some (sI ((j : Int))), some (sI ((n : Int))), none, none], [sI ((n : Int)), sJ ((j : Int))], h)) rfl ?_
                  refine s_i2l (a := (n : Int)) rfl rfl (by unfold sR aMi aMa; omega) ?_
                  refine s_laddc (a := (j : Int)) (b := (n : Int)) rfl rfl ?_
                  refine sP 1 (g1 := (50, [some (.ref 53), some (sI ((r : Int))), some (sI ((i : Int))), some (sI ((t : Int))), some (sI ((j : Int))), some (sI ((n : Int))), none, none], [.ref 53, sJ (((j : Int)) + ((n : Int)))], h)) rfl ?_
                  refine s_get (a := 53) (j := 0) hh rfl ⟨_, rfl⟩ rfl rfl rfl (v := .ref 54) (hR_ok hh (by decide +kernel)) ?_
                  refine sP 1 (g1 := (52, [some (.ref 53), some (sI ((r : Int))), some (sI ((i : Int))), some (sI ((t : Int))), some (sI ((j : Int))), some (sI ((n : Int))), none, none], [sI ((t : Int)), .ref 54, sJ (((j : Int)) + ((n : Int)))], h)) rfl ?_
                  have rg14 := hI_rg hh (rm_z ht)
                  refine s_iald (a := 54) (n := 6) (j := (t : Int)) hh rfl rfl rfl (by omega) (by omega) (by decide) (v := sI (hI h 54 t)) (by rw [Int.toNat_natCast]; exact hI_ok hh (rm_z ht)) ?_
                  refine s_i2l (a := hI h 54 t) rfl rfl (by unfold sR aMi aMa; omega) ?_
                  refine s_lif (q := .le) (a := ((j : Int)) + ((n : Int))) (b := hI h 54 t) rfl rfl rfl ⟨_, rfl⟩ rfl (by unfold sRJ; omega) (by unfold sRJ; omega) (fun hc15 => ?_) (fun hc15 => ?_)
                  · have hc15 : ((((j : Int)) + ((n : Int))) : Int) ≤ (hI h 54 t) := hc15
                    refine sP 2 (g1 := (62, [some (.ref 53), some (sI ((r : Int))), some (sI ((i : Int))), some (sI ((t : Int))), some (sI ((j : Int))), some (sI ((n : Int))), some (sI 0), none], [], h)) rfl ?_
                    exact r1
                  · have hc15 : ¬ (((((j : Int)) + ((n : Int))) : Int) ≤ (hI h 54 t)) := hc15
                    omega
          · have hc9 : ¬ ((0 : Int) ≤ (hI h 54 t)) := hc9
            omega
      · have hc5 : ¬ ((0 : Int) ≤ ((n : Int))) := hc5
        omega
    · have hc4 : ¬ ((1 : Int) ≠ 0) := hc4
      omega
end COPY
