/-! one instruction in the analyser: cells -/
noncomputable def aPu (l : List (aSt × aV)) (i : Nat) (L s : List aV) : List aQ := l.map (fun p => (p.1, i + 1, L, p.2 :: s))
noncomputable def aFk (v : aV) (ty : FieldType) : Bool := match ty with
  | .int => v.1 == 0
  | .long => v.1 == 1
  | _ => false
noncomputable def aTag (a : Nat) (g : Nat → Bool) : Bool := match aTq a with
  | some t => g t.1
  | none => false
noncomputable def aXt (n : Nat) : Option (List Int32) := if n = 1 then some mLet else if n = 2 then some mPar else none
noncomputable def aLmin : List Int32 → Int
  | [] => aMa
  | z :: q => min z.toInt (aLmin q)
noncomputable def aLmax : List Int32 → Int
  | [] => aMi
  | z :: q => max z.toInt (aLmax q)
noncomputable def aF1 (en : mE) (S : aSt) (i : Nat) (L st : List aV) : Option (List aQ) := match en.2.1 with
  | .getfield _ => match st with
    | (2, _, a) :: s => if aTag a (fun t => t == mTgt en 1) = true then (match aRd S a (aK (mTgt en 2)) with
      | some l => some (aPu l i L s)
      | none => none) else none
    | _ => none
  | .putfield _ => match st with
    | v :: (2, _, a) :: s => if aTag a (fun t => t == mTgt en 1) = true ∧ aFk v (mFT (mTgt en 1) (mTgt en 2)) = true then (match aWr S a (aK (mTgt en 2)) v with
      | some S1 => some [(S1, i + 1, L, s)]
      | none => none) else none
    | _ => none
  | _ => none
noncomputable def aRdA (S : aSt) (a : Nat) (j : aX) (g : Nat → Bool) (i : Nat) (L s : List aV) : Option (List aQ) := if aTag a g = true then (match aRd S a j with
  | some l => some (aPu l i L s)
  | none => none) else none
noncomputable def aF2 (en : mE) (S : aSt) (i : Nat) (L st : List aV) : Option (List aQ) := match en.2.1 with
  | .getstatic _ => if mTgt en 1 = 1 ∨ mTgt en 1 = 2 then some [(S, i + 1, L, (4, (0, []), mTgt en 1) :: st)] else none
  | .arraylength => match st with
    | (2, _, a) :: s => match aTq a with
      | some t => if 50 ≤ t.1 ∧ t.1 < 56 then some [(S, i + 1, L, (0, aK (Int32.ofNat t.2.1).toInt, 0) :: s)] else none
      | none => none
    | _ => none
  | .iaload => match st with
    | (0, j, _) :: (2, _, a) :: s => aRdA S a j (fun t => t == 50) i L s
    | (0, j, _) :: (4, _, n) :: s => match aXt n with
      | some vs => if (aPr S j && aPr S (aSb (aK ((vs.length : Int) - 1)) j)) = true then (if aLo S.1 j = aHj S.1 j then some [(S, i + 1, L, (0, aK (vs.getD (aLo S.1 j).toNat 0).toInt, 0) :: s)] else some [(aNw S (aLmin vs) (aLmax vs), i + 1, L, (0, aVr S.1.length, 0) :: s)]) else none
      | none => none
    | _ => none
  | .baload => match st with
    | (0, j, _) :: (2, _, a) :: s => aRdA S a j (fun t => t == 51 || t == 52) i L s
    | _ => none
  | .aaload => match st with
    | (0, j, _) :: (2, _, a) :: s => aRdA S a j (fun t => decide (53 ≤ t) && decide (t < 56)) i L s
    | _ => none
  | _ => none
noncomputable def aF3 (en : mE) (S : aSt) (i : Nat) (L st : List aV) : Option (List aQ) := match en.2.1 with
  | .iastore => match st with
    | (0, v, _) :: (0, j, _) :: (2, _, a) :: s => if aTag a (fun t => t == 50) = true then (match aWr S a j (0, v, 0) with
      | some S1 => some [(S1, i + 1, L, s)]
      | none => none) else none
    | _ => none
  | .bastore => match st with
    | (0, v, _) :: (0, j, _) :: (2, _, a) :: s => if aTag a (fun t => t == 51) = true then (match aWr (aCl S (-128) 127 v).1 a j (0, (aCl S (-128) 127 v).2, 0) with
      | some S1 => some [(S1, i + 1, L, s)]
      | none => none) else if aTag a (fun t => t == 52) = true ∧ aPr S v = true ∧ aPr S (aSb (aK 1) v) = true then (match aWr S a j (0, v, 0) with
      | some S1 => some [(S1, i + 1, L, s)]
      | none => none) else none
    | _ => none
  | _ => none
section AB4
variable {r : Nat → Int} {S : aSt} {m0 : Int} {h : mH} {L : List aV} {M : mL} {st : List aV} {su : List Value} {i : Nat} {en : mE} {l : List aQ} {sc : List Int32}
theorem aTag_ok {a : Nat} {g : Nat → Bool} (h : aTag a g = true) : ∃ t, aT[a]? = some t ∧ g t.1 = true := by
  unfold aTag at h
  rw [aTq_eq] at h
  split at h
  · rename_i t ht; exact ⟨t, ht, h⟩
  · cases h
theorem aPu_ok {l0 : List (aSt × aV)} {w : Value} (hh : aHp h) (hL : aFs S.1.length r L M) (hs : aSk S.1.length r st su) (hp : ∃ p ∈ l0, ∃ r1, aOk r1 p.1 m0 h ∧ aVs p.1.1.length r1 p.2 w ∧ aLe S.1.length r p.1.1.length r1) : aGood r S m0 (aPu l0 i L st) (i + 1, M, w :: su, h) := by
  obtain ⟨p, h1, r1, h2, h3, h4⟩ := hp
  exact ⟨_, List.mem_map.mpr ⟨p, h1, rfl⟩, r1, h2, hh, h4, rfl, hL.le h4, h3, hs.le h4⟩
theorem aJx {z : Int32} {j n : Nat} (hz : z.toInt = (j : Int)) (hj : j < n) : mIx z n = true ∧ z.toNatClampNeg = j := by
  have h1 : z.toNatClampNeg = j := by
    show z.toInt.toNat = j
    rw [hz]; rfl
  refine ⟨?_, h1⟩
  unfold mIx
  rw [decide_eq_true_eq, h1]
  rintro (q | q)
  · have := Int32.lt_iff_toInt_lt.mp q
    have h0 : (0 : Int32).toInt = 0 := rfl
    omega
  · omega
set_option maxHeartbeats 2000000 in
theorem aF1_ok (hS : aOk r S m0 h) (hh : aHp h) (hL : aFs S.1.length r L M) (hs : aSk S.1.length r st su) (hl : aF1 en S i L st = some l) : ∃ g1, mF1 en i M su h = some g1 ∧ aGood r S m0 l g1 := by
  unfold aF1 at hl
  unfold mF1
  split at hl
  · rename_i idx heq
    rw [heq]
    split at hl
    · rename_i e0 a s
      obtain ⟨w1, t1, rfl, h1, h2⟩ := hs.cons
      have h3 : w1 = .ref a := h1.2
      subst h3
      split at hl
      · rename_i htg
        obtain ⟨t, ht, hgt⟩ := aTag_ok htg
        split at hl
        · rename_i l0 hrd
          cases hl
          obtain ⟨t2, q, j, w, e1, e2, e3, e4, e5, e6, e7⟩ := aRd_ok hS hh (aK_wf _ _) hrd
          cases ht.symm.trans e1
          rw [aK_ev] at e5
          have ej : j = mTgt en 2 := by omega
          subst ej
          dsimp only
          rw [e2]
          dsimp only
          rw [if_pos (by rw [e3]; simpa using hgt), e6]
          exact ⟨_, rfl, aPu_ok hh hL h2 e7⟩
        · cases hl
      · cases hl
    · cases hl
  · rename_i idx heq
    rw [heq]
    split at hl
    · rename_i v e0 a s
      obtain ⟨w1, t1, rfl, h1, h2⟩ := hs.cons
      obtain ⟨w2, t2, rfl, h3, h4⟩ := h2.cons
      have h5 : w2 = .ref a := h3.2
      subst h5
      split at hl
      · rename_i hc
        obtain ⟨t, ht, hgt⟩ := aTag_ok hc.1
        split at hl
        · rename_i S1 hwr
          cases hl
          obtain ⟨t2, q, j, e1, e2, e3, e4, e5, e6, e7, e8, e9⟩ := aWr_ok hS hh (aK_wf _ _) h1 hwr
          cases ht.symm.trans e1
          rw [aK_ev] at e5
          have ej : j = mTgt en 2 := by omega
          subst ej
          have hq1 : q.1 = mTgt en 1 := by rw [e3]; simpa using hgt
          have hfit : mFit (mFT q.1 (mTgt en 2)) w1 = true := by
            rw [hq1]
            have hk := hc.2
            unfold aFk at hk
            split at hk
            · rename_i hty
              rw [hty]
              exact (aG0_ok _ _ v w1 (by simpa [aG0] using hk) h1).2
            · rename_i hty
              rw [hty]
              exact (aG1_ok _ _ v w1 (by simpa [aG1] using hk) h1).2
            · cases hk
          dsimp only
          rw [e2]
          dsimp only
          rw [if_pos ⟨hq1, e6, hfit⟩]
          exact ⟨_, rfl, _, List.mem_cons_self, r, e7, e8, by rw [e9]; exact aLe.rf, rfl, by rw [e9]; exact hL, by rw [e9]; exact h4⟩
        · cases hl
      · cases hl
    · cases hl
  · cases hl
theorem aLm (vs : List Int32) : ∀ z ∈ vs, aLmin vs ≤ z.toInt ∧ z.toInt ≤ aLmax vs := by
  induction vs with
  | nil => intro z hz; cases hz
  | cons y q ih =>
    intro z hz
    show min y.toInt (aLmin q) ≤ _ ∧ _ ≤ max y.toInt (aLmax q)
    rcases List.mem_cons.mp hz with rfl | hz
    · omega
    · have := ih z hz; omega
theorem aXt_ok {n : Nat} {vs : List Int32} (h : aXt n = some vs) : n < 3 ∧ mXs sc n = vs := by
  unfold aXt at h
  split at h
  · rename_i e; cases h; subst e; exact ⟨by decide, rfl⟩
  · split at h
    · rename_i e; cases h; subst e; exact ⟨by decide, rfl⟩
    · cases h
theorem aRdA_ok {a : Nat} {j : aX} {g : Nat → Bool} {s : List aV} {t2 : List Value} {z : Int32} (hS : aOk r S m0 h) (hh : aHp h) (hL : aFs S.1.length r L M) (h4 : aSk S.1.length r s t2) (wj : aWf S.1.length j) (ej : z.toInt = aEv r j) (hl : aRdA S a j g i L s = some l) : ∃ q w, h[a]? = some q ∧ g q.1 = true ∧ mIx z q.2.length = true ∧ q.2[z.toNatClampNeg]? = some w ∧ aGood r S m0 l (i + 1, M, w :: t2, h) := by
  unfold aRdA at hl
  split at hl
  · rename_i htg
    obtain ⟨t, ht, hgt⟩ := aTag_ok htg
    split at hl
    · rename_i l0 hrd
      cases hl
      obtain ⟨t2, q, k, w, e1, e2, e3, e4, e5, e6, e7⟩ := aRd_ok hS hh wj hrd
      cases ht.symm.trans e1
      obtain ⟨x1, x2⟩ := aJx (z := z) (j := k) (n := q.2.length) (ej.trans e5) (List.getElem?_eq_some_iff.mp e6).1
      exact ⟨q, w, e2, by rw [e3]; exact hgt, x1, by rw [x2]; exact e6, aPu_ok hh hL h4 e7⟩
    · cases hl
  · cases hl
set_option maxHeartbeats 2000000 in
theorem aF2_ok (hS : aOk r S m0 h) (hh : aHp h) (hL : aFs S.1.length r L M) (hs : aSk S.1.length r st su) (hl : aF2 en S i L st = some l) : ∃ g1, mF2 (mXs sc) en i M su h = some g1 ∧ aGood r S m0 l g1 := by
  unfold aF2 at hl
  unfold mF2
  split at hl
  · rename_i idx heq
    rw [heq]
    split at hl
    · rename_i hc
      cases hl
      dsimp only
      rw [if_pos hc]
      exact ⟨_, rfl, aGood.same hS hh hL ⟨⟨aK_wf _ 0, rfl⟩, hs⟩⟩
    · cases hl
  · rename_i heq
    rw [heq]
    split at hl
    · rename_i e0 a s
      obtain ⟨w1, t1, rfl, h1, h2⟩ := hs.cons
      have h3 : w1 = .ref a := h1.2
      subst h3
      rw [aTq_eq] at hl
      split at hl
      · rename_i t ht
        split at hl
        · rename_i hc
          cases hl
          obtain ⟨q, e1, e2, e3, -⟩ := aHp_at hh ht
          dsimp only
          rw [e1]
          dsimp only
          rw [if_pos (by rw [e2]; exact hc), e3]
          exact ⟨_, rfl, aGood.same hS hh hL ⟨⟨aK_wf _ _, _, rfl, by rw [aK_ev]⟩, h2⟩⟩
        · cases hl
      · cases hl
    · cases hl
  · rename_i heq
    rw [heq]
    split at hl
    · rename_i j kj e0 a s
      obtain ⟨w1, t1, rfl, h1, h2⟩ := hs.cons
      obtain ⟨w2, t2, rfl, h3, h4⟩ := h2.cons
      have h5 : w2 = .ref a := h3.2
      subst h5
      obtain ⟨wj, z, rfl, ej⟩ := aVs0 h1
      obtain ⟨q, w, q1, q2, q3, q4, q5⟩ := aRdA_ok hS hh hL h4 wj ej hl
      dsimp only
      rw [q1]
      dsimp only
      rw [if_pos ⟨by simpa using q2, q3⟩, q4]
      exact ⟨_, rfl, q5⟩
    · rename_i j kj e0 n s
      obtain ⟨w1, t1, rfl, h1, h2⟩ := hs.cons
      obtain ⟨w2, t2, rfl, h3, h4⟩ := h2.cons
      have h5 : w2 = .retAddr n := h3.2
      subst h5
      obtain ⟨wj, z, rfl, ej⟩ := aVs0 h1
      split at hl
      · rename_i vs hvs
        obtain ⟨n3, hx⟩ := aXt_ok (sc := sc) hvs
        split at hl
        · rename_i hc
          rw [Bool.and_eq_true] at hc
          have p1 := aPr_ok hS wj hc.1
          have p2 := aPr_ok hS (aSb_wf (aK_wf _ _) wj) hc.2
          rw [aSb_ev, aK_ev] at p2
          obtain ⟨k, hk⟩ : ∃ k : Nat, aEv r j = (k : Int) := ⟨(aEv r j).toNat, by omega⟩
          have hkl : k < vs.length := by omega
          obtain ⟨x1, x2⟩ := aJx (z := z) (j := k) (n := vs.length) (ej.trans hk) hkl
          dsimp only
          rw [hx, if_pos ⟨n3, x1⟩, x2]
          split at hl
          · rename_i hcc
            cases hl
            have l1 := aLo_le hS.1 wj
            have l2 := aHj_ge hS.1 wj
            rw [show (aLo S.1 j).toNat = k by omega]
            exact ⟨_, rfl, aGood.same hS hh hL ⟨⟨aK_wf _ _, _, rfl, by rw [aK_ev]⟩, h4⟩⟩
          · cases hl
            have hm : vs.getD k 0 ∈ vs := by
              rw [List.getD_eq_getElem?_getD, List.getElem?_eq_getElem hkl]
              exact List.getElem_mem hkl
            obtain ⟨b1, b2⟩ := aLm vs _ hm
            exact ⟨_, rfl, aGood.int (p := (aNw S (aLmin vs) (aLmax vs), aVr S.1.length)) hh hL h4 (aRes.new hS b1 b2)⟩
        · cases hl
      · cases hl
    · cases hl
  · rename_i heq
    rw [heq]
    split at hl
    · rename_i j kj e0 a s
      obtain ⟨w1, t1, rfl, h1, h2⟩ := hs.cons
      obtain ⟨w2, t2, rfl, h3, h4⟩ := h2.cons
      have h5 : w2 = .ref a := h3.2
      subst h5
      obtain ⟨wj, z, rfl, ej⟩ := aVs0 h1
      obtain ⟨q, w, q1, q2, q3, q4, q5⟩ := aRdA_ok hS hh hL h4 wj ej hl
      dsimp only
      rw [q1]
      dsimp only
      rw [if_pos ⟨by simpa using q2, q3⟩, q4]
      exact ⟨_, rfl, q5⟩
    · cases hl
  · rename_i heq
    rw [heq]
    split at hl
    · rename_i j kj e0 a s
      obtain ⟨w1, t1, rfl, h1, h2⟩ := hs.cons
      obtain ⟨w2, t2, rfl, h3, h4⟩ := h2.cons
      have h5 : w2 = .ref a := h3.2
      subst h5
      obtain ⟨wj, z, rfl, ej⟩ := aVs0 h1
      obtain ⟨q, w, q1, q2, q3, q4, q5⟩ := aRdA_ok hS hh hL h4 wj ej hl
      dsimp only
      rw [q1]
      dsimp only
      rw [if_pos ⟨by simpa using q2, q3⟩, q4]
      exact ⟨_, rfl, q5⟩
    · cases hl
  · cases hl
theorem aAnd1 {v : Int32} (h1 : 0 ≤ v.toInt) (h2 : v.toInt ≤ 1) : v &&& 1 = v := by
  have h3 : v = 0 ∨ v = 1 := by
    rcases (show v.toInt = 0 ∨ v.toInt = 1 by omega) with e | e
    · exact Or.inl (aI_ind.mpr e)
    · exact Or.inr (aI_ind.mpr e)
  rcases h3 with rfl | rfl <;> rfl
set_option maxHeartbeats 2000000 in
theorem aF3_ok (hS : aOk r S m0 h) (hh : aHp h) (hL : aFs S.1.length r L M) (hs : aSk S.1.length r st su) (hl : aF3 en S i L st = some l) : ∃ g1, mF3 en i M su h = some g1 ∧ aGood r S m0 l g1 := by
  unfold aF3 at hl
  unfold mF3
  split at hl
  · rename_i heq
    rw [heq]
    split at hl
    · rename_i v kv j kj e0 a s
      obtain ⟨w1, t1, rfl, h1, h2⟩ := hs.cons
      obtain ⟨w2, t2, rfl, h3, h4⟩ := h2.cons
      obtain ⟨w3, t3, rfl, h5, h6⟩ := h4.cons
      have h7 : w3 = .ref a := h5.2
      subst h7
      obtain ⟨wv, u, rfl, eu⟩ := aVs0 h1
      obtain ⟨wj, z, rfl, ej⟩ := aVs0 h3
      split at hl
      · rename_i htg
        obtain ⟨t, ht, hgt⟩ := aTag_ok htg
        split at hl
        · rename_i S1 hwr
          cases hl
          obtain ⟨t2, q, k, e1, e2, e3, e4, e5, e6, e7, e8, e9⟩ := aWr_ok (v := (0, v, 0)) (w := .int u) hS hh wj ⟨wv, u, rfl, eu⟩ hwr
          cases ht.symm.trans e1
          obtain ⟨x1, x2⟩ := aJx (z := z) (j := k) (n := q.2.length) (ej.trans e5) e6
          dsimp only
          rw [e2]
          dsimp only
          rw [if_pos ⟨by rw [e3]; simpa using hgt, x1⟩, x2]
          exact ⟨_, rfl, _, List.mem_cons_self, r, e7, e8, by rw [e9]; exact aLe.rf, rfl, by rw [e9]; exact hL, by rw [e9]; exact h6⟩
        · cases hl
      · cases hl
    · cases hl
  · rename_i heq
    rw [heq]
    split at hl
    · rename_i v kv j kj e0 a s
      obtain ⟨w1, t1, rfl, h1, h2⟩ := hs.cons
      obtain ⟨w2, t2, rfl, h3, h4⟩ := h2.cons
      obtain ⟨w3, t3, rfl, h5, h6⟩ := h4.cons
      have h7 : w3 = .ref a := h5.2
      subst h7
      obtain ⟨wv, u, rfl, eu⟩ := aVs0 h1
      obtain ⟨wj, z, rfl, ej⟩ := aVs0 h3
      split at hl
      · rename_i htg
        obtain ⟨t, ht, hgt⟩ := aTag_ok htg
        split at hl
        · rename_i S1 hwr
          cases hl
          have hb := lg_i2b_range u
          obtain ⟨r1, q1, q2, q3, q4⟩ := aCl_ok (z := u.toInt8.toInt32.toInt) (mi := -128) (ma := 127) (e := v) hS wv hb.1 (by omega) (by rw [← eu]; exact fun q1 q2 => by rw [lg_i2b_small q1 (by omega)])
          obtain ⟨wj2, z2, hz2, ej2⟩ := aVs0 (q2 _ _ h3)
          cases hz2
          obtain ⟨t2, q, k, e1, e2, e3, e4, e5, e6, e7, e8, e9⟩ := aWr_ok (v := (0, (aCl S (-128) 127 v).2, 0)) (w := .int u.toInt8.toInt32) q1 hh wj2 ⟨q3, _, rfl, q4⟩ hwr
          cases ht.symm.trans e1
          obtain ⟨x1, x2⟩ := aJx (z := z) (j := k) (n := q.2.length) (ej2.trans e5) e6
          dsimp only
          rw [e2]
          dsimp only
          rw [if_pos ⟨by rw [e3]; simpa using hgt, x1⟩, x2]
          exact ⟨_, rfl, _, List.mem_cons_self, r1, e7, e8, by rw [e9]; exact q2, rfl, by rw [e9]; exact hL.le q2, by rw [e9]; exact h6.le q2⟩
        · cases hl
      · split at hl
        · rename_i hno hc
          obtain ⟨t, ht, hgt⟩ := aTag_ok hc.1
          have p1 := aPr_ok hS wv hc.2.1
          have p2 := aPr_ok hS (aSb_wf (aK_wf _ _) wv) hc.2.2
          rw [aSb_ev, aK_ev] at p2
          split at hl
          · rename_i S1 hwr
            cases hl
            obtain ⟨t2, q, k, e1, e2, e3, e4, e5, e6, e7, e8, e9⟩ := aWr_ok (v := (0, v, 0)) (w := .int u) hS hh wj ⟨wv, u, rfl, eu⟩ hwr
            cases ht.symm.trans e1
            obtain ⟨x1, x2⟩ := aJx (z := z) (j := k) (n := q.2.length) (ej.trans e5) e6
            have q52 : q.1 = 52 := by rw [e3]; simpa using hgt
            dsimp only
            rw [e2]
            dsimp only
            rw [if_neg (by omega), if_pos ⟨q52, x1⟩, x2, aAnd1 (by omega) (by omega)]
            exact ⟨_, rfl, _, List.mem_cons_self, r, e7, e8, by rw [e9]; exact aLe.rf, rfl, by rw [e9]; exact hL, by rw [e9]; exact h6⟩
          · cases hl
        · cases hl
    · cases hl
  · cases hl
end AB4
