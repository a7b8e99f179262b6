/-! worst -/
theorem bt_add : ∀ v, v < 6 → ∀ x, x < 64 → x < 2 ^ v → ∀ a, a < 6 → bt (x + 2 ^ v) a = if a = v then true else bt x a := by decide +kernel
theorem bt_hi : ∀ v, v < 6 → ∀ x, x < 64 → x < 2 ^ v → bt x v = false := by decide +kernel
theorem bt_pFw (f : Nat → Bool) : ∀ v, v ≤ 6 → ∀ a, a < v → bt (pFw f v) a = f a
  | 0, _, a, h => absurd h (by omega)
  | v + 1, hv, a, h => by
    have l1 := pFw_lt f v
    have l2 := p2_6 (show v ≤ 6 by omega) (Nat.le_refl 6)
    unfold pFw
    by_cases e : a = v
    · subst e
      cases hf : f a with
      | true => rw [if_pos rfl, bt_add a (by omega) _ (by omega) l1 a (by omega), if_pos rfl]
      | false => rw [if_neg (by decide), Nat.add_zero, bt_hi a (by omega) _ (by omega) l1]
    · have ih := bt_pFw f v (by omega) a (by omega)
      cases hf : f v with
      | true => rw [if_pos rfl, bt_add v (by omega) _ (by omega) l1 a (by omega), if_neg e, ih]
      | false => rw [if_neg (by decide), Nat.add_zero, ih]
noncomputable def iW (D : Nat → Nat → Int) (a : Nat) : Nat → Nat → Int × Int → Int × Int
  | 0, _, st => st
  | k + 1, b, st => iW D a k (b + 1) (if st.2 < D a b then (6 * (a : Int) + (b : Int), D a b) else st)
noncomputable def oW (D : Nat → Nat → Int) (n : Nat) : Nat → Nat → Int × Int → Int × Int
  | 0, _, st => st
  | k + 1, a, st => oW D n k (a + 1) (iW D a (n - (a + 1)) (a + 1) st)
noncomputable def wOk (st : Int × Int) : Prop := (-9 ≤ st.1 ∧ st.1 ≤ 100) ∧ (-1 ≤ st.2 ∧ st.2 ≤ 100)
theorem iW_rg {D : Nat → Nat → Int} {a n : Nat} (hn : n ≤ 6) (ha : a < n) (hD : ∀ b, b < n → -1 ≤ D a b ∧ D a b ≤ 100) : ∀ k b st, b + k ≤ n → wOk st → wOk (iW D a k b st)
  | 0, _, _, _, h => h
  | k + 1, b, st, hb, h => by
    unfold iW
    refine iW_rg hn ha hD k (b + 1) _ (by omega) ?_
    have := hD b (by omega)
    split
    · refine ⟨?_, ?_⟩
      · show -9 ≤ 6 * (a : Int) + (b : Int) ∧ 6 * (a : Int) + (b : Int) ≤ 100
        omega
      · exact this
    · exact h
theorem oW_rg {D : Nat → Nat → Int} {n : Nat} (hn : n ≤ 6) (hD : ∀ a b, a < n → b < n → -1 ≤ D a b ∧ D a b ≤ 100) : ∀ k a st, a + k ≤ n → wOk st → wOk (oW D n k a st)
  | 0, _, _, _, h => h
  | k + 1, a, st, hb, h => by
    unfold oW
    exact oW_rg hn hD k (a + 1) _ (by omega) (iW_rg hn (by omega) (fun b hb => hD a b (by omega) hb) _ _ _ (by omega) h)
theorem iW_cg {D E : Nat → Nat → Int} {n a : Nat} (hD : ∀ b, b < n → D a b = E a b) : ∀ k b st, b + k ≤ n → iW D a k b st = iW E a k b st
  | 0, _, _, _ => rfl
  | k + 1, b, st, h => by
    unfold iW
    rw [hD b (by omega), iW_cg hD k (b + 1) _ (by omega)]
theorem oW_cg {D E : Nat → Nat → Int} {n : Nat} (hD : ∀ a b, a < n → b < n → D a b = E a b) : ∀ k a st, a + k ≤ n → oW D n k a st = oW E n k a st
  | 0, _, _, _ => rfl
  | k + 1, a, st, h => by
    unfold oW
    rw [iW_cg (fun b hb => hD a b (by omega) hb) _ _ _ (by omega), oW_cg hD k (a + 1) _ (by omega)]
noncomputable def dX (h : mH) (n s a b : Nat) : Int := pAp (sX h n a s) (sX h n b s) (bt s a) (bt s b)
noncomputable def dM (h : mH) (n s a b : Nat) : Int := pAp (sM h n a s) (sM h n b s) (bt s a) (bt s b)
section WORST
variable {sc : List Int32} {d : Nat} {h : mH}
theorem dX_rg {n s a b : Nat} (hh : aHp h) (hn : n ≤ 6) (ha : a < 6) (hb : b < 6) : -1 ≤ dX h n s a b ∧ dX h n s a b ≤ 100 := by
  have r1 := sX_rg (s := s) hh hn ha
  have r2 := sX_rg (s := s) hh hn hb
  have := pAp_rg (u := bt s a) (v := bt s b) r1.1 r1.2 r2.1 r2.2
  unfold dX
  omega
theorem dM_rg {n s a b : Nat} (hh : aHp h) (hn : n ≤ 6) (ha : a < 6) (hb : b < 6) : -1 ≤ dM h n s a b ∧ dM h n s a b ≤ 100 := by
  have r1 := sM_rg (s := s) hh hn ha
  have r2 := sM_rg (s := s) hh hn hb
  have := pAp_rg (u := bt s a) (v := bt s b) r1.1 r1.2 r2.1 r2.2
  unfold dM
  omega
theorem fApK {n a b s : Nat} (hh : aHp h) (hn : hI h 3 3 = n) (ha : a < 6) (hb : b < 6) (hs : s < 64) : nEv sc (d + 4) 66 [.ref 3, sI (a : Int), sI (b : Int), sI (s : Int)] h (some (sI (dX h n s a b)), h) := by
  have rka := hI_rg hh (xw_k ha)
  have rkb := hI_rg hh (xw_k hb)
  exact fApart (e := 3) hh (by decide) hn ha hb hs (show hI h 4 a = ((hI h 4 a).toNat : Int) by omega) (show hI h 4 b = ((hI h 4 b).toNat : Int) by omega)
theorem fWoI {n s a : Nat} (hh : aHp h) (hn : hI h 3 3 = n) (ha : a < n) (hs : s < 64) : ∀ (k b : Nat) (st : Int × Int) (X : Option Value), b + k = n → wOk st → ∀ r, (∀ Y : Option Value, nRn sc (d + 4) (mMT mMe83) (mMC mMe83) (47, [some (.ref 0), some (sI (s : Int)), some (sI (iW (dX h n s) a k b st).1), some (sI (iW (dX h n s) a k b st).2), some (sI (a : Int)), some (sI (n : Int)), Y], [], h) r) → nRn sc (d + 4) (mMT mMe83) (mMC mMe83) (22, [some (.ref 0), some (sI (s : Int)), some (sI st.1), some (sI st.2), some (sI (a : Int)), some (sI (b : Int)), X], [], h) r := by
  have gp := hI_rg hh xw_p
  intro k
  induction k with
  | zero =>
    intro b st X hb ho r r1
    have hbn : b = n := by omega
    subst hbn
    have r0 : nRn sc (d + 4) (mMT mMe83) (mMC mMe83) (47, [some (.ref 0), some (sI (s : Int)), some (sI st.1), some (sI st.2), some (sI (a : Int)), some (sI (b : Int)), X], [], h) r := r1 X
    refine sP 2 (g1 := (24, [some (.ref 0), some (sI ((s : Int))), some (sI (st.1)), some (sI (st.2)), some (sI ((a : Int))), some (sI ((b : Int))), X], [.ref 0, sI ((b : Int))], h)) rfl ?_
    refine s_get (a := 0) (j := 2) hh rfl ⟨_, rfl⟩ rfl rfl rfl (v := .ref 3) (hR_ok hh (by decide +kernel)) ?_
    refine s_get (a := 3) (j := 3) hh rfl ⟨_, rfl⟩ rfl rfl rfl (v := sI (hI h 3 3)) (hI_ok hh xw_p) ?_
    refine s_icmp (q := .ge) (a := (b : Int)) (b := hI h 3 3) rfl ⟨_, rfl⟩ rfl (by unfold sR aMi aMa; omega) (by unfold sR aMi aMa; omega) (fun hc1 => ?_) (fun hc1 => ?_)
    · have hc1 : ((hI h 3 3) : Int) ≤ ((b : Int)) := hc1
      exact r0
    · have hc1 : ¬ (((hI h 3 3) : Int) ≤ ((b : Int))) := hc1
      omega
  | succ k ih =>
    intro b st X hb ho r r1
    have ev := fApK (sc := sc) (d := d) hh hn (show a < 6 by omega) (show b < 6 by omega) hs
    have dr := dX_rg (n := n) (s := s) (a := a) (b := b) hh (by omega) (by omega) (by omega)
    have e1 : iW (dX h n s) a (k + 1) b st = iW (dX h n s) a k (b + 1) (if st.2 < dX h n s a b then (6 * (a : Int) + (b : Int), dX h n s a b) else st) := rfl
    rw [e1] at r1
    obtain ⟨o1, o2⟩ := ho
    by_cases hc : st.2 < dX h n s a b
    · rw [if_pos hc] at r1
      have r0 := fun X => ih (b + 1) (6 * (a : Int) + (b : Int), dX h n s a b) X (by omega) ⟨by show -9 ≤ 6 * (a : Int) + (b : Int) ∧ 6 * (a : Int) + (b : Int) ≤ 100; omega, dr⟩ r r1
      refine sP 2 (g1 := (24, [some (.ref 0), some (sI ((s : Int))), some (sI (st.1)), some (sI (st.2)), some (sI ((a : Int))), some (sI ((b : Int))), X], [.ref 0, sI ((b : Int))], h)) rfl ?_
      refine s_get (a := 0) (j := 2) hh rfl ⟨_, rfl⟩ rfl rfl rfl (v := .ref 3) (hR_ok hh (by decide +kernel)) ?_
      refine s_get (a := 3) (j := 3) hh rfl ⟨_, rfl⟩ rfl rfl rfl (v := sI (hI h 3 3)) (hI_ok hh xw_p) ?_
      refine s_icmp (q := .ge) (a := (b : Int)) (b := hI h 3 3) rfl ⟨_, rfl⟩ rfl (by unfold sR aMi aMa; omega) (by unfold sR aMi aMa; omega) (fun hc1 => ?_) (fun hc1 => ?_)
      · have hc1 : ((hI h 3 3) : Int) ≤ ((b : Int)) := hc1
        omega
      · have hc1 : ¬ (((hI h 3 3) : Int) ≤ ((b : Int))) := hc1
        refine sP 1 (g1 := (28, [some (.ref 0), some (sI ((s : Int))), some (sI (st.1)), some (sI (st.2)), some (sI ((a : Int))), some (sI ((b : Int))), X], [.ref 0], h)) rfl ?_
        refine s_get (a := 0) (j := 2) hh rfl ⟨_, rfl⟩ rfl rfl rfl (v := .ref 3) (hR_ok hh (by decide +kernel)) ?_
        refine sP 3 (g1 := (32, [some (.ref 0), some (sI ((s : Int))), some (sI (st.1)), some (sI (st.2)), some (sI ((a : Int))), some (sI ((b : Int))), X], [sI ((s : Int)), sI ((b : Int)), sI ((a : Int)), .ref 3], h)) rfl ?_
        refine s_call (k := 66) (args := [.ref 3, sI ((a : Int)), sI ((b : Int)), sI ((s : Int))]) (st := []) (v := some (sI (dX h n s a b))) (h1 := h) rfl ⟨rfl, rfl⟩ rfl rfl rfl rfl (sRcv hh (a := 3) rfl rfl) rfl ev ?_
        refine sP 3 (g1 := (36, [some (.ref 0), some (sI ((s : Int))), some (sI (st.1)), some (sI (st.2)), some (sI ((a : Int))), some (sI ((b : Int))), some (sI (dX h n s a b))], [sI (st.2), sI (dX h n s a b)], h)) rfl ?_
        refine s_icmp (q := .le) (a := dX h n s a b) (b := st.2) rfl ⟨_, rfl⟩ rfl (by unfold sR aMi aMa; omega) (by unfold sR aMi aMa; omega) (fun hc2 => ?_) (fun hc2 => ?_)
        · have hc2 : ((dX h n s a b) : Int) ≤ (st.2) := hc2
          omega
        · have hc2 : ¬ (((dX h n s a b) : Int) ≤ (st.2)) := hc2
          refine sP 4 (g1 := (41, [some (.ref 0), some (sI ((s : Int))), some (sI (st.1)), some (sI (dX h n s a b)), some (sI ((a : Int))), some (sI ((b : Int))), some (sI (dX h n s a b))], [sI ((a : Int)), sI 6], h)) rfl ?_
          refine s_mul (a := 6) (b := (a : Int)) rfl rfl ?_
          refine sP 1 (g1 := (43, [some (.ref 0), some (sI ((s : Int))), some (sI (st.1)), some (sI (dX h n s a b)), some (sI ((a : Int))), some (sI ((b : Int))), some (sI (dX h n s a b))], [sI ((b : Int)), sI (6 * ((a : Int)))], h)) rfl ?_
          refine s_add (a := 6 * ((a : Int))) (b := (b : Int)) rfl rfl ?_
          refine sP 1 (g1 := (45, [some (.ref 0), some (sI ((s : Int))), some (sI ((6 * ((a : Int))) + ((b : Int)))), some (sI (dX h n s a b)), some (sI ((a : Int))), some (sI ((b : Int))), some (sI (dX h n s a b))], [], h)) rfl ?_
          refine s_inc (a := (b : Int)) (n := 1) (k := 5) rfl rfl rfl ?_
          refine sP 1 (g1 := (22, [some (.ref 0), some (sI ((s : Int))), some (sI ((6 * ((a : Int))) + ((b : Int)))), some (sI (dX h n s a b)), some (sI ((a : Int))), some (sI (((b : Int)) + 1)), some (sI (dX h n s a b))], [], h)) rfl ?_
          rw [show ((b : Int) + 1) = ((b + 1 : Nat) : Int) by omega]
          exact r0 _
    · rw [if_neg hc] at r1
      have r0 := fun X => ih (b + 1) st X (by omega) ⟨o1, o2⟩ r r1
      refine sP 2 (g1 := (24, [some (.ref 0), some (sI ((s : Int))), some (sI (st.1)), some (sI (st.2)), some (sI ((a : Int))), some (sI ((b : Int))), X], [.ref 0, sI ((b : Int))], h)) rfl ?_
      refine s_get (a := 0) (j := 2) hh rfl ⟨_, rfl⟩ rfl rfl rfl (v := .ref 3) (hR_ok hh (by decide +kernel)) ?_
      refine s_get (a := 3) (j := 3) hh rfl ⟨_, rfl⟩ rfl rfl rfl (v := sI (hI h 3 3)) (hI_ok hh xw_p) ?_
      refine s_icmp (q := .ge) (a := (b : Int)) (b := hI h 3 3) rfl ⟨_, rfl⟩ rfl (by unfold sR aMi aMa; omega) (by unfold sR aMi aMa; omega) (fun hc1 => ?_) (fun hc1 => ?_)
      · have hc1 : ((hI h 3 3) : Int) ≤ ((b : Int)) := hc1
        omega
      · have hc1 : ¬ (((hI h 3 3) : Int) ≤ ((b : Int))) := hc1
        refine sP 1 (g1 := (28, [some (.ref 0), some (sI ((s : Int))), some (sI (st.1)), some (sI (st.2)), some (sI ((a : Int))), some (sI ((b : Int))), X], [.ref 0], h)) rfl ?_
        refine s_get (a := 0) (j := 2) hh rfl ⟨_, rfl⟩ rfl rfl rfl (v := .ref 3) (hR_ok hh (by decide +kernel)) ?_
        refine sP 3 (g1 := (32, [some (.ref 0), some (sI ((s : Int))), some (sI (st.1)), some (sI (st.2)), some (sI ((a : Int))), some (sI ((b : Int))), X], [sI ((s : Int)), sI ((b : Int)), sI ((a : Int)), .ref 3], h)) rfl ?_
        refine s_call (k := 66) (args := [.ref 3, sI ((a : Int)), sI ((b : Int)), sI ((s : Int))]) (st := []) (v := some (sI (dX h n s a b))) (h1 := h) rfl ⟨rfl, rfl⟩ rfl rfl rfl rfl (sRcv hh (a := 3) rfl rfl) rfl ev ?_
        refine sP 3 (g1 := (36, [some (.ref 0), some (sI ((s : Int))), some (sI (st.1)), some (sI (st.2)), some (sI ((a : Int))), some (sI ((b : Int))), some (sI (dX h n s a b))], [sI (st.2), sI (dX h n s a b)], h)) rfl ?_
        refine s_icmp (q := .le) (a := dX h n s a b) (b := st.2) rfl ⟨_, rfl⟩ rfl (by unfold sR aMi aMa; omega) (by unfold sR aMi aMa; omega) (fun hc2 => ?_) (fun hc2 => ?_)
        · have hc2 : ((dX h n s a b) : Int) ≤ (st.2) := hc2
          refine s_inc (a := (b : Int)) (n := 1) (k := 5) rfl rfl rfl ?_
          refine sP 1 (g1 := (22, [some (.ref 0), some (sI ((s : Int))), some (sI (st.1)), some (sI (st.2)), some (sI ((a : Int))), some (sI (((b : Int)) + 1)), some (sI (dX h n s a b))], [], h)) rfl ?_
          rw [show ((b : Int) + 1) = ((b + 1 : Nat) : Int) by omega]
          exact r0 _
        · have hc2 : ¬ (((dX h n s a b) : Int) ≤ (st.2)) := hc2
          omega
theorem fWoO {n s : Nat} (hh : aHp h) (hn : hI h 3 3 = n) (hs : s < 64) : ∀ (k a : Nat) (st : Int × Int) (X5 X6 : Option Value), a + k = n → wOk st → ∀ r, (∀ Y5 Y6 : Option Value, nRn sc (d + 4) (mMT mMe83) (mMC mMe83) (49, [some (.ref 0), some (sI (s : Int)), some (sI (oW (dX h n s) n k a st).1), some (sI (oW (dX h n s) n k a st).2), some (sI (n : Int)), Y5, Y6], [], h) r) → nRn sc (d + 4) (mMT mMe83) (mMC mMe83) (13, [some (.ref 0), some (sI (s : Int)), some (sI st.1), some (sI st.2), some (sI (a : Int)), X5, X6], [], h) r := by
  have gp := hI_rg hh xw_p
  intro k
  induction k with
  | zero =>
    intro a st X5 X6 hb ho r r1
    have hbn : a = n := by omega
    subst hbn
    have r0 : nRn sc (d + 4) (mMT mMe83) (mMC mMe83) (49, [some (.ref 0), some (sI (s : Int)), some (sI st.1), some (sI st.2), some (sI (a : Int)), X5, X6], [], h) r := r1 X5 X6
    refine sP 2 (g1 := (15, [some (.ref 0), some (sI ((s : Int))), some (sI (st.1)), some (sI (st.2)), some (sI ((a : Int))), X5, X6], [.ref 0, sI ((a : Int))], h)) rfl ?_
    refine s_get (a := 0) (j := 2) hh rfl ⟨_, rfl⟩ rfl rfl rfl (v := .ref 3) (hR_ok hh (by decide +kernel)) ?_
    refine s_get (a := 3) (j := 3) hh rfl ⟨_, rfl⟩ rfl rfl rfl (v := sI (hI h 3 3)) (hI_ok hh xw_p) ?_
    refine s_icmp (q := .ge) (a := (a : Int)) (b := hI h 3 3) rfl ⟨_, rfl⟩ rfl (by unfold sR aMi aMa; omega) (by unfold sR aMi aMa; omega) (fun hc1 => ?_) (fun hc1 => ?_)
    · have hc1 : ((hI h 3 3) : Int) ≤ ((a : Int)) := hc1
      exact r0
    · have hc1 : ¬ (((hI h 3 3) : Int) ≤ ((a : Int))) := hc1
      omega
  | succ k ih =>
    intro a st X5 X6 hb ho r r1
    have e1 : oW (dX h n s) n (k + 1) a st = oW (dX h n s) n k (a + 1) (iW (dX h n s) a (n - (a + 1)) (a + 1) st) := rfl
    rw [e1] at r1
    have r0 := fun X5 X6 => ih (a + 1) (iW (dX h n s) a (n - (a + 1)) (a + 1) st) X5 X6 (by omega) (iW_rg (show n ≤ 6 by omega) (by omega) (fun b hb => dX_rg hh (by omega) (by omega) (by omega)) _ _ _ (by omega) ho) r r1
    have r2 := fun X => fWoI (sc := sc) (d := d) hh hn (show a < n by omega) hs (n - (a + 1)) (a + 1) st X (by omega) ho
    refine sP 2 (g1 := (15, [some (.ref 0), some (sI ((s : Int))), some (sI (st.1)), some (sI (st.2)), some (sI ((a : Int))), X5, X6], [.ref 0, sI ((a : Int))], h)) rfl ?_
    refine s_get (a := 0) (j := 2) hh rfl ⟨_, rfl⟩ rfl rfl rfl (v := .ref 3) (hR_ok hh (by decide +kernel)) ?_
    refine s_get (a := 3) (j := 3) hh rfl ⟨_, rfl⟩ rfl rfl rfl (v := sI (hI h 3 3)) (hI_ok hh xw_p) ?_
    refine s_icmp (q := .ge) (a := (a : Int)) (b := hI h 3 3) rfl ⟨_, rfl⟩ rfl (by unfold sR aMi aMa; omega) (by unfold sR aMi aMa; omega) (fun hc1 => ?_) (fun hc1 => ?_)
    · have hc1 : ((hI h 3 3) : Int) ≤ ((a : Int)) := hc1
      omega
    · have hc1 : ¬ (((hI h 3 3) : Int) ≤ ((a : Int))) := hc1
      refine sP 2 (g1 := (20, [some (.ref 0), some (sI ((s : Int))), some (sI (st.1)), some (sI (st.2)), some (sI ((a : Int))), X5, X6], [sI 1, sI ((a : Int))], h)) rfl ?_
      refine s_add (a := (a : Int)) (b := 1) rfl rfl ?_
      refine sP 1 (g1 := (22, [some (.ref 0), some (sI ((s : Int))), some (sI (st.1)), some (sI (st.2)), some (sI ((a : Int))), some (sI (((a : Int)) + 1)), X6], [], h)) rfl ?_
      rw [show ((a : Int) + 1) = ((a + 1 : Nat) : Int) by omega]
      refine r2 _ _ (fun Y => ?_)
      refine s_inc (a := (a : Int)) (n := 1) (k := 4) rfl rfl rfl ?_
      refine sP 1 (g1 := (13, [some (.ref 0), some (sI ((s : Int))), some (sI ((iW (dX h n s) a (n - (a + 1)) (a + 1) st).1)), some (sI ((iW (dX h n s) a (n - (a + 1)) (a + 1) st).2)), some (sI (((a : Int)) + 1)), some (sI ((n : Int))), Y], [], h)) rfl ?_
      rw [show ((a : Int) + 1) = ((a + 1 : Nat) : Int) by omega]
      exact r0 _ _
theorem fWorstXb {s : Int} {n : Nat} (hh : aHp h) (hn : hI h 3 3 = (n : Int)) (rs : sR s) (hc : ¬ (0 ≤ s ∧ s < ((2 ^ n : Nat) : Int))) : nEv sc (d + 5) 83 [.ref 0, sI s] h (some (sI (-1)), h) := by
  have gp := hI_rg hh xw_p
  have p2 := p2_le (show n ≤ 6 by omega)
  unfold sR aMi aMa at rs
  refine nEv_of (t := mMe83) rfl ?_
  show nRn sc (d + 4) (mMT mMe83) (mMC mMe83) (0, [some (.ref 0), some (sI s), none, none, none, none, none], [], h) _
  refine sP 1 (g1 := (1, [some (.ref 0), some (sI s), none, none, none, none, none], [.ref 0], h)) rfl ?_
  refine s_get (a := 0) (j := 2) hh rfl ⟨_, rfl⟩ rfl rfl rfl (v := .ref 3) (hR_ok hh (by decide +kernel)) ?_
  refine sP 1 (g1 := (3, [some (.ref 0), some (sI s), none, none, none, none, none], [sI s, .ref 3], h)) rfl ?_
  have ev1 := fHasSet (sc := sc) (d := d + 3) (n := n) (s := s) hh hn (by unfold sR aMi aMa; omega)
  rw [if_neg (by omega)] at ev1
  refine s_call (k := 76) (args := [.ref 3, sI s]) (st := []) (v := some (sI 0)) (h1 := h) rfl ⟨rfl, rfl⟩ rfl rfl rfl rfl (sRcv hh (a := 3) rfl rfl) rfl ev1 ?_
  refine s_ifc (q := .ne) (a := 0) rfl ⟨_, rfl⟩ rfl (by unfold sR aMi aMa; omega) (fun hc2 => ?_) (fun hc2 => ?_)
  · have hc2 : (0 : Int) ≠ 0 := hc2
    omega
  · have hc2 : ¬ ((0 : Int) ≠ 0) := hc2
    refine sP 1 (g1 := (6, [some (.ref 0), some (sI s), none, none, none, none, none], [sI ((-1))], h)) rfl ?_
    exact s_reti rfl rfl (Or.inl rfl) rfl rfl
theorem wOk0 : wOk (-9, -1) := by
  refine ⟨?_, ?_⟩
  · show -9 ≤ (-9 : Int) ∧ (-9 : Int) ≤ 100
    omega
  · show -1 ≤ (-1 : Int) ∧ (-1 : Int) ≤ 100
    omega
theorem fWorstX {n s : Nat} (hh : aHp h) (hn : hI h 3 3 = n) (hs : s < 2 ^ n) : ∃ g, nEv sc (d + 5) 83 [.ref 0, sI (s : Int)] h (some (sI (oW (dX h n s) n n 0 (-9, -1)).1), g) ∧ aHp g ∧ ∀ p m, aSlot g p m = if p = 0 ∧ m = 9 ∧ (oW (dX h n s) n n 0 (-9, -1)).1 ≠ -9 then some (sI (oW (dX h n s) n n 0 (-9, -1)).2) else aSlot h p m := by
  have gp := hI_rg hh xw_p
  have p2 := p2_le (show n ≤ 6 by omega)
  have br := oW_rg (D := dX h n s) (n := n) (by omega) (fun a b ha hb => dX_rg hh (by omega) (by omega) (by omega)) n 0 (-9, -1) (by omega) wOk0
  unfold wOk at br
  have r3 := fWoO (sc := sc) (d := d) hh hn (show s < 64 by omega) n 0 (-9, -1) none none (by omega) wOk0
  by_cases c0 : (oW (dX h n s) n n 0 (-9, -1)).1 = -9
  · have r2 : ∀ Y5 Y6 : Option Value, nRn sc (d + 4) (mMT mMe83) (mMC mMe83) (49, [some (.ref 0), some (sI (s : Int)), some (sI (oW (dX h n s) n n 0 (-9, -1)).1), some (sI (oW (dX h n s) n n 0 (-9, -1)).2), some (sI (n : Int)), Y5, Y6], [], h) (some (sI (oW (dX h n s) n n 0 (-9, -1)).1), h) := by
      intro Y5 Y6
      refine sP 2 (g1 := (51, [some (.ref 0), some (sI ((s : Int))), some (sI ((oW (dX h n s) n n 0 (-9, -1)).1)), some (sI ((oW (dX h n s) n n 0 (-9, -1)).2)), some (sI ((n : Int))), Y5, Y6], [sI ((-9)), sI ((oW (dX h n s) n n 0 (-9, -1)).1)], h)) rfl ?_
      refine s_icmp (q := .eq) (a := (oW (dX h n s) n n 0 (-9, -1)).1) (b := (-9)) rfl ⟨_, rfl⟩ rfl (by unfold sR aMi aMa; omega) (by unfold sR aMi aMa; omega) (fun hc1 => ?_) (fun hc1 => ?_)
      · have hc1 : (((oW (dX h n s) n n 0 (-9, -1)).1) : Int) = ((-9)) := hc1
        refine sP 1 (g1 := (56, [some (.ref 0), some (sI ((s : Int))), some (sI ((oW (dX h n s) n n 0 (-9, -1)).1)), some (sI ((oW (dX h n s) n n 0 (-9, -1)).2)), some (sI ((n : Int))), Y5, Y6], [sI ((oW (dX h n s) n n 0 (-9, -1)).1)], h)) rfl ?_
        exact s_reti rfl rfl (Or.inl rfl) rfl rfl
      · have hc1 : ¬ ((((oW (dX h n s) n n 0 (-9, -1)).1) : Int) = ((-9))) := hc1
        omega
    have r1 := r3 _ r2
    refine ⟨h, nEv_of (t := mMe83) rfl ?_, hh, fun p m => by rw [if_neg (fun q => q.2.2 c0)]⟩
    show nRn sc (d + 4) (mMT mMe83) (mMC mMe83) (0, [some (.ref 0), some (sI ((s : Int))), none, none, none, none, none], [], h) _
    refine sP 1 (g1 := (1, [some (.ref 0), some (sI ((s : Int))), none, none, none, none, none], [.ref 0], h)) rfl ?_
    refine s_get (a := 0) (j := 2) hh rfl ⟨_, rfl⟩ rfl rfl rfl (v := .ref 3) (hR_ok hh (by decide +kernel)) ?_
    refine sP 1 (g1 := (3, [some (.ref 0), some (sI ((s : Int))), none, none, none, none, none], [sI ((s : Int)), .ref 3], h)) rfl ?_
    have ev1 := fHasSet (sc := sc) (d := d + 3) (n := n) (s := (s : Int)) hh hn (by unfold sR aMi aMa; omega)
    rw [if_pos (by omega)] at ev1
    refine s_call (k := 76) (args := [.ref 3, sI ((s : Int))]) (st := []) (v := some (sI 1)) (h1 := h) rfl ⟨rfl, rfl⟩ rfl rfl rfl rfl (sRcv hh (a := 3) rfl rfl) rfl ev1 ?_
    refine s_ifc (q := .ne) (a := 1) rfl ⟨_, rfl⟩ rfl (by unfold sR aMi aMa; omega) (fun hc2 => ?_) (fun hc2 => ?_)
    · have hc2 : (1 : Int) ≠ 0 := hc2
      refine sP 6 (g1 := (13, [some (.ref 0), some (sI ((s : Int))), some (sI ((-9))), some (sI ((-1))), some (sI 0), none, none], [], h)) rfl ?_
      exact r1
    · have hc2 : ¬ ((1 : Int) ≠ 0) := hc2
      omega
  · skip
    obtain ⟨g1, eg1⟩ : ∃ gz, gz = hset h 0 9 (sI (oW (dX h n s) n n 0 (-9, -1)).2) := ⟨_, rfl⟩
    have sg1 : ∀ xa xm, aSlot g1 xa xm = if xa = 0 ∧ xm = 9 then some (sI (oW (dX h n s) n n 0 (-9, -1)).2) else aSlot h xa xm := fun xa xm => by rw [eg1]; exact hset_slot hh (show sTg 0 = some (0, 12) from rfl) (by omega) xa xm
    have hg1 : aHp g1 := by rw [eg1]; exact hset_any hh la_i
    have r2 : ∀ Y5 Y6 : Option Value, nRn sc (d + 4) (mMT mMe83) (mMC mMe83) (49, [some (.ref 0), some (sI (s : Int)), some (sI (oW (dX h n s) n n 0 (-9, -1)).1), some (sI (oW (dX h n s) n n 0 (-9, -1)).2), some (sI (n : Int)), Y5, Y6], [], h) (some (sI (oW (dX h n s) n n 0 (-9, -1)).1), g1) := by
      intro Y5 Y6
      refine sP 2 (g1 := (51, [some (.ref 0), some (sI ((s : Int))), some (sI ((oW (dX h n s) n n 0 (-9, -1)).1)), some (sI ((oW (dX h n s) n n 0 (-9, -1)).2)), some (sI ((n : Int))), Y5, Y6], [sI ((-9)), sI ((oW (dX h n s) n n 0 (-9, -1)).1)], h)) rfl ?_
      refine s_icmp (q := .eq) (a := (oW (dX h n s) n n 0 (-9, -1)).1) (b := (-9)) rfl ⟨_, rfl⟩ rfl (by unfold sR aMi aMa; omega) (by unfold sR aMi aMa; omega) (fun hc1 => ?_) (fun hc1 => ?_)
      · have hc1 : (((oW (dX h n s) n n 0 (-9, -1)).1) : Int) = ((-9)) := hc1
        omega
      · have hc1 : ¬ ((((oW (dX h n s) n n 0 (-9, -1)).1) : Int) = ((-9))) := hc1
        refine sP 2 (g1 := (54, [some (.ref 0), some (sI ((s : Int))), some (sI ((oW (dX h n s) n n 0 (-9, -1)).1)), some (sI ((oW (dX h n s) n n 0 (-9, -1)).2)), some (sI ((n : Int))), Y5, Y6], [sI ((oW (dX h n s) n n 0 (-9, -1)).2), .ref 0], h)) rfl ?_
        refine s_put (a := 0) (j := 9) (k := 0) (n := 12) hh rfl ⟨_, rfl⟩ (show sTg 0 = some (0, 12) from rfl) rfl rfl (by decide) rfl ?_
        rw [← eg1]
        refine sP 1 (g1 := (56, [some (.ref 0), some (sI ((s : Int))), some (sI ((oW (dX h n s) n n 0 (-9, -1)).1)), some (sI ((oW (dX h n s) n n 0 (-9, -1)).2)), some (sI ((n : Int))), Y5, Y6], [sI ((oW (dX h n s) n n 0 (-9, -1)).1)], g1)) rfl ?_
        exact s_reti rfl rfl (Or.inl rfl) rfl rfl
    have r1 := r3 _ r2
    refine ⟨g1, nEv_of (t := mMe83) rfl ?_, hg1, fun p m => ?_⟩
    rotate_left
    · rw [sg1]
      by_cases w : p = 0 ∧ m = 9
      · rw [if_pos w, if_pos ⟨w.1, w.2, c0⟩]
      · rw [if_neg w, if_neg (fun q => w ⟨q.1, q.2.1⟩)]
    show nRn sc (d + 4) (mMT mMe83) (mMC mMe83) (0, [some (.ref 0), some (sI ((s : Int))), none, none, none, none, none], [], h) _
    refine sP 1 (g1 := (1, [some (.ref 0), some (sI ((s : Int))), none, none, none, none, none], [.ref 0], h)) rfl ?_
    refine s_get (a := 0) (j := 2) hh rfl ⟨_, rfl⟩ rfl rfl rfl (v := .ref 3) (hR_ok hh (by decide +kernel)) ?_
    refine sP 1 (g1 := (3, [some (.ref 0), some (sI ((s : Int))), none, none, none, none, none], [sI ((s : Int)), .ref 3], h)) rfl ?_
    have ev1 := fHasSet (sc := sc) (d := d + 3) (n := n) (s := (s : Int)) hh hn (by unfold sR aMi aMa; omega)
    rw [if_pos (by omega)] at ev1
    refine s_call (k := 76) (args := [.ref 3, sI ((s : Int))]) (st := []) (v := some (sI 1)) (h1 := h) rfl ⟨rfl, rfl⟩ rfl rfl rfl rfl (sRcv hh (a := 3) rfl rfl) rfl ev1 ?_
    refine s_ifc (q := .ne) (a := 1) rfl ⟨_, rfl⟩ rfl (by unfold sR aMi aMa; omega) (fun hc2 => ?_) (fun hc2 => ?_)
    · have hc2 : (1 : Int) ≠ 0 := hc2
      refine sP 6 (g1 := (13, [some (.ref 0), some (sI ((s : Int))), some (sI ((-9))), some (sI ((-1))), some (sI 0), none, none], [], h)) rfl ?_
      exact r1
    · have hc2 : ¬ ((1 : Int) ≠ 0) := hc2
      omega
theorem dM_th {n s a b : Nat} (hh : aHp h) (hn : n ≤ 6) (ha : a < 6) (hb : b < 6) : dM h n s a b = if thM h n s a = true ∧ thM h n s b = true then pDi (sM h n a s) (sM h n b s) else -1 := by
  have r1 := sM_rg (s := s) hh hn ha
  have r2 := sM_rg (s := s) hh hn hb
  unfold dM pAp thM
  simp only [Bool.and_eq_true, decide_eq_true_eq]
  by_cases w : (bt s a = true ∧ 0 < sM h n a s) ∧ (bt s b = true ∧ 0 < sM h n b s)
  · rw [if_pos w, if_pos ⟨w.1.1, w.2.1⟩, if_neg (by omega)]
  · rw [if_neg w]
    by_cases uv : bt s a = true ∧ bt s b = true
    · have q : ¬ (0 < sM h n a s ∧ 0 < sM h n b s) := fun q => w ⟨⟨uv.1, q.1⟩, ⟨uv.2, q.2⟩⟩
      rw [if_pos uv, if_pos (by omega)]
    · rw [if_neg uv]
theorem fWmI {n s a w : Nat} (hh : aHp h) (hn : hI h 58 0 = n) (ha : a < n) (hs : s < 64) (hw : pFw (thM h n s) n = w) : ∀ (k b : Nat) (st : Int × Int) (X : Option Value), b + k = n → wOk st → ∀ r, (∀ Y : Option Value, nRn sc (d + 4) (mMT mMe189) (mMC mMe189) (73, [some (.ref 53), some (sI (s : Int)), some (sI (w : Int)), some (sI (iW (dM h n s) a k b st).1), some (sI (iW (dM h n s) a k b st).2), some (sI (a : Int)), some (sI (n : Int)), Y], [], h) r) → nRn sc (d + 4) (mMT mMe189) (mMC mMe189) (26, [some (.ref 53), some (sI (s : Int)), some (sI (w : Int)), some (sI st.1), some (sI st.2), some (sI (a : Int)), some (sI (b : Int)), X], [], h) r := by
  have gp := hI_rg hh nw_p
  have p2 := p2_le (show n ≤ 6 by omega)
  have wl := pFw_lt (thM h n s) n
  intro k
  induction k with
  | zero =>
    intro b st X hb ho r r1
    have hbn : b = n := by omega
    subst hbn
    have r0 : nRn sc (d + 4) (mMT mMe189) (mMC mMe189) (73, [some (.ref 53), some (sI (s : Int)), some (sI (w : Int)), some (sI st.1), some (sI st.2), some (sI (a : Int)), some (sI (b : Int)), X], [], h) r := r1 X
    refine sP 2 (g1 := (28, [some (.ref 53), some (sI ((s : Int))), some (sI ((w : Int))), some (sI (st.1)), some (sI (st.2)), some (sI ((a : Int))), some (sI ((b : Int))), X], [.ref 53, sI ((b : Int))], h)) rfl ?_
    refine s_get (a := 53) (j := 4) hh rfl ⟨_, rfl⟩ rfl rfl rfl (v := .ref 58) (hR_ok hh (by decide +kernel)) ?_
    refine sP 1 (g1 := (30, [some (.ref 53), some (sI ((s : Int))), some (sI ((w : Int))), some (sI (st.1)), some (sI (st.2)), some (sI ((a : Int))), some (sI ((b : Int))), X], [sI 0, .ref 58, sI ((b : Int))], h)) rfl ?_
    refine s_iald (a := 58) (n := 201) (j := 0) hh rfl rfl rfl (by omega) (by omega) (by decide) (v := sI (hI h 58 0)) (hI_ok hh nw_p) ?_
    refine s_icmp (q := .ge) (a := (b : Int)) (b := hI h 58 0) rfl ⟨_, rfl⟩ rfl (by unfold sR aMi aMa; omega) (by unfold sR aMi aMa; omega) (fun hc1 => ?_) (fun hc1 => ?_)
    · have hc1 : ((hI h 58 0) : Int) ≤ ((b : Int)) := hc1
      exact r0
    · have hc1 : ¬ (((hI h 58 0) : Int) ≤ ((b : Int))) := hc1
      omega
  | succ k ih =>
    intro b st X hb ho r r1
    have w64 : w < 64 := by omega
    have va := fHas (sc := sc) (d := d + 3) (h := h) (s := w) (a := a) w64 (by omega)
    have vb := fHas (sc := sc) (d := d + 3) (h := h) (s := w) (a := b) w64 (by omega)
    rw [← hw, bt_pFw _ n (by omega) a ha] at va
    rw [← hw, bt_pFw _ n (by omega) b (by omega)] at vb
    rw [hw] at va vb
    have ea := fSeemKM (sc := sc) (d := d + 1) (n := n) (a := a) (s := s) hh hn (by omega) hs
    have eb := fSeemKM (sc := sc) (d := d + 1) (n := n) (a := b) (s := s) hh hn (by omega) hs
    have ra := sM_rg (n := n) (a := a) (s := s) hh (by omega) (by omega)
    have rb := sM_rg (n := n) (a := b) (s := s) hh (by omega) (by omega)
    have eab := fAbsM (sc := sc) (d := d + 3) (h := h) (x := sM h n a s) (y := sM h n b s) (by omega) (by omega) (by omega) (by omega)
    have dr := dM_rg (n := n) (s := s) (a := a) (b := b) hh (by omega) (by omega) (by omega)
    have et := dM_th (n := n) (s := s) (a := a) (b := b) hh (by omega) (by omega) (by omega)
    have e1 : iW (dM h n s) a (k + 1) b st = iW (dM h n s) a k (b + 1) (if st.2 < dM h n s a b then (6 * (a : Int) + (b : Int), dM h n s a b) else st) := rfl
    rw [e1] at r1
    obtain ⟨o1, o2⟩ := ho
    have rA : ∀ D : Int, D = dM h n s a b → st.2 < D → nRn sc (d + 4) (mMT mMe189) (mMC mMe189) (26, [some (.ref 53), some (sI (s : Int)), some (sI (w : Int)), some (sI (6 * (a : Int) + (b : Int))), some (sI D), some (sI (a : Int)), some (sI ((b + 1 : Nat) : Int)), some (sI D)], [], h) r := fun D hD hc => by
      subst hD
      rw [if_pos hc] at r1
      exact ih (b + 1) (6 * (a : Int) + (b : Int), dM h n s a b) _ (by omega) ⟨by show -9 ≤ 6 * (a : Int) + (b : Int) ∧ 6 * (a : Int) + (b : Int) ≤ 100; omega, dr⟩ r r1
    have rB : ∀ D : Int, D = dM h n s a b → ¬ st.2 < D → nRn sc (d + 4) (mMT mMe189) (mMC mMe189) (26, [some (.ref 53), some (sI (s : Int)), some (sI (w : Int)), some (sI st.1), some (sI st.2), some (sI (a : Int)), some (sI ((b + 1 : Nat) : Int)), some (sI D)], [], h) r := fun D hD hc => by
      subst hD
      rw [if_neg hc] at r1
      exact ih (b + 1) st _ (by omega) ⟨o1, o2⟩ r r1
    have r2 : ∀ D : Int, D = dM h n s a b → nRn sc (d + 4) (mMT mMe189) (mMC mMe189) (53, [some (.ref 53), some (sI (s : Int)), some (sI (w : Int)), some (sI st.1), some (sI st.2), some (sI (a : Int)), some (sI (b : Int)), some (sI D)], [], h) r := by
      intro D hD
      have rA := rA D hD
      have rB := rB D hD
      by_cases hc : st.2 < D
      · have r0 := rA hc
        refine sP 2 (g1 := (55, [some (.ref 53), some (sI ((s : Int))), some (sI ((w : Int))), some (sI (st.1)), some (sI (st.2)), some (sI ((a : Int))), some (sI ((b : Int))), some (sI D)], [sI (st.2), sI D], h)) rfl ?_
        refine s_icmp (q := .le) (a := D) (b := st.2) rfl ⟨_, rfl⟩ rfl (by unfold sR aMi aMa; omega) (by unfold sR aMi aMa; omega) (fun hc1 => ?_) (fun hc1 => ?_)
        · have hc1 : (D : Int) ≤ (st.2) := hc1
          omega
        · have hc1 : ¬ ((D : Int) ≤ (st.2)) := hc1
          refine sP 2 (g1 := (58, [some (.ref 53), some (sI ((s : Int))), some (sI ((w : Int))), some (sI (st.1)), some (sI (st.2)), some (sI ((a : Int))), some (sI ((b : Int))), some (sI D)], [sI ((a : Int)), sI 6], h)) rfl ?_
          refine s_mul (a := 6) (b := (a : Int)) rfl rfl ?_
          refine sP 1 (g1 := (60, [some (.ref 53), some (sI ((s : Int))), some (sI ((w : Int))), some (sI (st.1)), some (sI (st.2)), some (sI ((a : Int))), some (sI ((b : Int))), some (sI D)], [sI ((b : Int)), sI (6 * ((a : Int)))], h)) rfl ?_
          refine s_add (a := 6 * ((a : Int))) (b := (b : Int)) rfl rfl ?_
          refine sP 4 (g1 := (66, [some (.ref 53), some (sI ((s : Int))), some (sI ((w : Int))), some (sI ((6 * ((a : Int))) + ((b : Int)))), some (sI (st.2)), some (sI ((a : Int))), some (sI ((b : Int))), some (sI D)], [sI (st.2), sI D], h)) rfl ?_
          refine s_icmp (q := .le) (a := D) (b := st.2) rfl ⟨_, rfl⟩ rfl (by unfold sR aMi aMa; omega) (by unfold sR aMi aMa; omega) (fun hc2 => ?_) (fun hc2 => ?_)
          · have hc2 : (D : Int) ≤ (st.2) := hc2
            omega
          · have hc2 : ¬ ((D : Int) ≤ (st.2)) := hc2
            refine sP 3 (g1 := (71, [some (.ref 53), some (sI ((s : Int))), some (sI ((w : Int))), some (sI ((6 * ((a : Int))) + ((b : Int)))), some (sI D), some (sI ((a : Int))), some (sI ((b : Int))), some (sI D)], [], h)) rfl ?_
            refine s_inc (a := (b : Int)) (n := 1) (k := 6) rfl rfl rfl ?_
            refine sP 1 (g1 := (26, [some (.ref 53), some (sI ((s : Int))), some (sI ((w : Int))), some (sI ((6 * ((a : Int))) + ((b : Int)))), some (sI D), some (sI ((a : Int))), some (sI (((b : Int)) + 1)), some (sI D)], [], h)) rfl ?_
            rw [show ((b : Int) + 1) = ((b + 1 : Nat) : Int) by omega]
            exact r0
      · have r0 := rB hc
        refine sP 2 (g1 := (55, [some (.ref 53), some (sI ((s : Int))), some (sI ((w : Int))), some (sI (st.1)), some (sI (st.2)), some (sI ((a : Int))), some (sI ((b : Int))), some (sI D)], [sI (st.2), sI D], h)) rfl ?_
        refine s_icmp (q := .le) (a := D) (b := st.2) rfl ⟨_, rfl⟩ rfl (by unfold sR aMi aMa; omega) (by unfold sR aMi aMa; omega) (fun hc1 => ?_) (fun hc1 => ?_)
        · have hc1 : (D : Int) ≤ (st.2) := hc1
          refine sP 4 (g1 := (66, [some (.ref 53), some (sI ((s : Int))), some (sI ((w : Int))), some (sI (st.1)), some (sI (st.2)), some (sI ((a : Int))), some (sI ((b : Int))), some (sI D)], [sI (st.2), sI D], h)) rfl ?_
          refine s_icmp (q := .le) (a := D) (b := st.2) rfl ⟨_, rfl⟩ rfl (by unfold sR aMi aMa; omega) (by unfold sR aMi aMa; omega) (fun hc2 => ?_) (fun hc2 => ?_)
          · have hc2 : (D : Int) ≤ (st.2) := hc2
            refine sP 2 (g1 := (71, [some (.ref 53), some (sI ((s : Int))), some (sI ((w : Int))), some (sI (st.1)), some (sI (st.2)), some (sI ((a : Int))), some (sI ((b : Int))), some (sI D)], [], h)) rfl ?_
            refine s_inc (a := (b : Int)) (n := 1) (k := 6) rfl rfl rfl ?_
            refine sP 1 (g1 := (26, [some (.ref 53), some (sI ((s : Int))), some (sI ((w : Int))), some (sI (st.1)), some (sI (st.2)), some (sI ((a : Int))), some (sI (((b : Int)) + 1)), some (sI D)], [], h)) rfl ?_
            rw [show ((b : Int) + 1) = ((b + 1 : Nat) : Int) by omega]
            exact r0
          · have hc2 : ¬ ((D : Int) ≤ (st.2)) := hc2
            omega
        · have hc1 : ¬ ((D : Int) ≤ (st.2)) := hc1
          omega
    by_cases u1 : thM h n s a = true
    · rw [if_pos u1] at va
      by_cases u2 : thM h n s b = true
      · rw [if_pos u2] at vb
        rw [if_pos ⟨u1, u2⟩] at et
        refine sP 2 (g1 := (28, [some (.ref 53), some (sI ((s : Int))), some (sI ((w : Int))), some (sI (st.1)), some (sI (st.2)), some (sI ((a : Int))), some (sI ((b : Int))), X], [.ref 53, sI ((b : Int))], h)) rfl ?_
        refine s_get (a := 53) (j := 4) hh rfl ⟨_, rfl⟩ rfl rfl rfl (v := .ref 58) (hR_ok hh (by decide +kernel)) ?_
        refine sP 1 (g1 := (30, [some (.ref 53), some (sI ((s : Int))), some (sI ((w : Int))), some (sI (st.1)), some (sI (st.2)), some (sI ((a : Int))), some (sI ((b : Int))), X], [sI 0, .ref 58, sI ((b : Int))], h)) rfl ?_
        refine s_iald (a := 58) (n := 201) (j := 0) hh rfl rfl rfl (by omega) (by omega) (by decide) (v := sI (hI h 58 0)) (hI_ok hh nw_p) ?_
        refine s_icmp (q := .ge) (a := (b : Int)) (b := hI h 58 0) rfl ⟨_, rfl⟩ rfl (by unfold sR aMi aMa; omega) (by unfold sR aMi aMa; omega) (fun hc1 => ?_) (fun hc1 => ?_)
        · have hc1 : ((hI h 58 0) : Int) ≤ ((b : Int)) := hc1
          omega
        · have hc1 : ¬ (((hI h 58 0) : Int) ≤ ((b : Int))) := hc1
          refine sP 2 (g1 := (34, [some (.ref 53), some (sI ((s : Int))), some (sI ((w : Int))), some (sI (st.1)), some (sI (st.2)), some (sI ((a : Int))), some (sI ((b : Int))), X], [sI ((a : Int)), sI ((w : Int))], h)) rfl ?_
          refine s_call (k := 149) (args := [sI ((w : Int)), sI ((a : Int))]) (st := []) (v := some (sI 1)) (h1 := h) rfl ⟨rfl, rfl⟩ rfl rfl rfl rfl rfl rfl va ?_
          refine s_ifc (q := .eq) (a := 1) rfl ⟨_, rfl⟩ rfl (by unfold sR aMi aMa; omega) (fun hc2 => ?_) (fun hc2 => ?_)
          · have hc2 : (1 : Int) = 0 := hc2
            omega
          · have hc2 : ¬ ((1 : Int) = 0) := hc2
            refine sP 2 (g1 := (38, [some (.ref 53), some (sI ((s : Int))), some (sI ((w : Int))), some (sI (st.1)), some (sI (st.2)), some (sI ((a : Int))), some (sI ((b : Int))), X], [sI ((b : Int)), sI ((w : Int))], h)) rfl ?_
            refine s_call (k := 149) (args := [sI ((w : Int)), sI ((b : Int))]) (st := []) (v := some (sI 1)) (h1 := h) rfl ⟨rfl, rfl⟩ rfl rfl rfl rfl rfl rfl vb ?_
            refine s_ifc (q := .eq) (a := 1) rfl ⟨_, rfl⟩ rfl (by unfold sR aMi aMa; omega) (fun hc3 => ?_) (fun hc3 => ?_)
            · have hc3 : (1 : Int) = 0 := hc3
              omega
            · have hc3 : ¬ ((1 : Int) = 0) := hc3
              refine sP 3 (g1 := (43, [some (.ref 53), some (sI ((s : Int))), some (sI ((w : Int))), some (sI (st.1)), some (sI (st.2)), some (sI ((a : Int))), some (sI ((b : Int))), X], [sI ((s : Int)), sI ((a : Int)), .ref 53], h)) rfl ?_
              refine s_call (k := 150) (args := [.ref 53, sI ((a : Int)), sI ((s : Int))]) (st := []) (v := some (sI (sM h n a s))) (h1 := h) rfl ⟨rfl, rfl⟩ rfl rfl rfl rfl (sRcv hh (a := 53) rfl rfl) rfl ea ?_
              refine sP 3 (g1 := (47, [some (.ref 53), some (sI ((s : Int))), some (sI ((w : Int))), some (sI (st.1)), some (sI (st.2)), some (sI ((a : Int))), some (sI ((b : Int))), X], [sI ((s : Int)), sI ((b : Int)), .ref 53, sI (sM h n a s)], h)) rfl ?_
              refine s_call (k := 150) (args := [.ref 53, sI ((b : Int)), sI ((s : Int))]) (st := [sI (sM h n a s)]) (v := some (sI (sM h n b s))) (h1 := h) rfl ⟨rfl, rfl⟩ rfl rfl rfl rfl (sRcv hh (a := 53) rfl rfl) rfl eb ?_
              refine s_sub (a := sM h n a s) (b := sM h n b s) rfl rfl ?_
              refine s_call (k := 172) (args := [sI ((sM h n a s) - (sM h n b s))]) (st := []) (v := some (sI (pDi (sM h n a s) (sM h n b s)))) (h1 := h) rfl ⟨rfl, rfl⟩ rfl rfl rfl rfl rfl rfl eab ?_
              refine sP 2 (g1 := (53, [some (.ref 53), some (sI ((s : Int))), some (sI ((w : Int))), some (sI (st.1)), some (sI (st.2)), some (sI ((a : Int))), some (sI ((b : Int))), some (sI (pDi (sM h n a s) (sM h n b s)))], [], h)) rfl ?_
              exact r2 _ et.symm
      · rw [if_neg u2] at vb
        rw [if_neg (fun q => u2 q.2)] at et
        refine sP 2 (g1 := (28, [some (.ref 53), some (sI ((s : Int))), some (sI ((w : Int))), some (sI (st.1)), some (sI (st.2)), some (sI ((a : Int))), some (sI ((b : Int))), X], [.ref 53, sI ((b : Int))], h)) rfl ?_
        refine s_get (a := 53) (j := 4) hh rfl ⟨_, rfl⟩ rfl rfl rfl (v := .ref 58) (hR_ok hh (by decide +kernel)) ?_
        refine sP 1 (g1 := (30, [some (.ref 53), some (sI ((s : Int))), some (sI ((w : Int))), some (sI (st.1)), some (sI (st.2)), some (sI ((a : Int))), some (sI ((b : Int))), X], [sI 0, .ref 58, sI ((b : Int))], h)) rfl ?_
        refine s_iald (a := 58) (n := 201) (j := 0) hh rfl rfl rfl (by omega) (by omega) (by decide) (v := sI (hI h 58 0)) (hI_ok hh nw_p) ?_
        refine s_icmp (q := .ge) (a := (b : Int)) (b := hI h 58 0) rfl ⟨_, rfl⟩ rfl (by unfold sR aMi aMa; omega) (by unfold sR aMi aMa; omega) (fun hc1 => ?_) (fun hc1 => ?_)
        · have hc1 : ((hI h 58 0) : Int) ≤ ((b : Int)) := hc1
          omega
        · have hc1 : ¬ (((hI h 58 0) : Int) ≤ ((b : Int))) := hc1
          refine sP 2 (g1 := (34, [some (.ref 53), some (sI ((s : Int))), some (sI ((w : Int))), some (sI (st.1)), some (sI (st.2)), some (sI ((a : Int))), some (sI ((b : Int))), X], [sI ((a : Int)), sI ((w : Int))], h)) rfl ?_
          refine s_call (k := 149) (args := [sI ((w : Int)), sI ((a : Int))]) (st := []) (v := some (sI 1)) (h1 := h) rfl ⟨rfl, rfl⟩ rfl rfl rfl rfl rfl rfl va ?_
          refine s_ifc (q := .eq) (a := 1) rfl ⟨_, rfl⟩ rfl (by unfold sR aMi aMa; omega) (fun hc2 => ?_) (fun hc2 => ?_)
          · have hc2 : (1 : Int) = 0 := hc2
            omega
          · have hc2 : ¬ ((1 : Int) = 0) := hc2
            refine sP 2 (g1 := (38, [some (.ref 53), some (sI ((s : Int))), some (sI ((w : Int))), some (sI (st.1)), some (sI (st.2)), some (sI ((a : Int))), some (sI ((b : Int))), X], [sI ((b : Int)), sI ((w : Int))], h)) rfl ?_
            refine s_call (k := 149) (args := [sI ((w : Int)), sI ((b : Int))]) (st := []) (v := some (sI 0)) (h1 := h) rfl ⟨rfl, rfl⟩ rfl rfl rfl rfl rfl rfl vb ?_
            refine s_ifc (q := .eq) (a := 0) rfl ⟨_, rfl⟩ rfl (by unfold sR aMi aMa; omega) (fun hc3 => ?_) (fun hc3 => ?_)
            · have hc3 : (0 : Int) = 0 := hc3
              refine sP 2 (g1 := (53, [some (.ref 53), some (sI ((s : Int))), some (sI ((w : Int))), some (sI (st.1)), some (sI (st.2)), some (sI ((a : Int))), some (sI ((b : Int))), some (sI ((-1)))], [], h)) rfl ?_
              exact r2 _ et.symm
            · have hc3 : ¬ ((0 : Int) = 0) := hc3
              omega
    · rw [if_neg u1] at va
      rw [if_neg (fun q => u1 q.1)] at et
      refine sP 2 (g1 := (28, [some (.ref 53), some (sI ((s : Int))), some (sI ((w : Int))), some (sI (st.1)), some (sI (st.2)), some (sI ((a : Int))), some (sI ((b : Int))), X], [.ref 53, sI ((b : Int))], h)) rfl ?_
      refine s_get (a := 53) (j := 4) hh rfl ⟨_, rfl⟩ rfl rfl rfl (v := .ref 58) (hR_ok hh (by decide +kernel)) ?_
      refine sP 1 (g1 := (30, [some (.ref 53), some (sI ((s : Int))), some (sI ((w : Int))), some (sI (st.1)), some (sI (st.2)), some (sI ((a : Int))), some (sI ((b : Int))), X], [sI 0, .ref 58, sI ((b : Int))], h)) rfl ?_
      refine s_iald (a := 58) (n := 201) (j := 0) hh rfl rfl rfl (by omega) (by omega) (by decide) (v := sI (hI h 58 0)) (hI_ok hh nw_p) ?_
      refine s_icmp (q := .ge) (a := (b : Int)) (b := hI h 58 0) rfl ⟨_, rfl⟩ rfl (by unfold sR aMi aMa; omega) (by unfold sR aMi aMa; omega) (fun hc1 => ?_) (fun hc1 => ?_)
      · have hc1 : ((hI h 58 0) : Int) ≤ ((b : Int)) := hc1
        omega
      · have hc1 : ¬ (((hI h 58 0) : Int) ≤ ((b : Int))) := hc1
        refine sP 2 (g1 := (34, [some (.ref 53), some (sI ((s : Int))), some (sI ((w : Int))), some (sI (st.1)), some (sI (st.2)), some (sI ((a : Int))), some (sI ((b : Int))), X], [sI ((a : Int)), sI ((w : Int))], h)) rfl ?_
        refine s_call (k := 149) (args := [sI ((w : Int)), sI ((a : Int))]) (st := []) (v := some (sI 0)) (h1 := h) rfl ⟨rfl, rfl⟩ rfl rfl rfl rfl rfl rfl va ?_
        refine s_ifc (q := .eq) (a := 0) rfl ⟨_, rfl⟩ rfl (by unfold sR aMi aMa; omega) (fun hc2 => ?_) (fun hc2 => ?_)
        · have hc2 : (0 : Int) = 0 := hc2
          refine sP 2 (g1 := (53, [some (.ref 53), some (sI ((s : Int))), some (sI ((w : Int))), some (sI (st.1)), some (sI (st.2)), some (sI ((a : Int))), some (sI ((b : Int))), some (sI ((-1)))], [], h)) rfl ?_
          exact r2 _ et.symm
        · have hc2 : ¬ ((0 : Int) = 0) := hc2
          omega
theorem fWmO {n s w : Nat} (hh : aHp h) (hn : hI h 58 0 = n) (hs : s < 64) (hw : pFw (thM h n s) n = w) : ∀ (k a : Nat) (st : Int × Int) (X6 X7 : Option Value), a + k = n → wOk st → ∀ r, (∀ Y6 Y7 : Option Value, nRn sc (d + 4) (mMT mMe189) (mMC mMe189) (75, [some (.ref 53), some (sI (s : Int)), some (sI (w : Int)), some (sI (oW (dM h n s) n k a st).1), some (sI (oW (dM h n s) n k a st).2), some (sI (n : Int)), Y6, Y7], [], h) r) → nRn sc (d + 4) (mMT mMe189) (mMC mMe189) (16, [some (.ref 53), some (sI (s : Int)), some (sI (w : Int)), some (sI st.1), some (sI st.2), some (sI (a : Int)), X6, X7], [], h) r := by
  have gp := hI_rg hh nw_p
  intro k
  induction k with
  | zero =>
    intro a st X6 X7 hb ho r r1
    have hbn : a = n := by omega
    subst hbn
    have r0 : nRn sc (d + 4) (mMT mMe189) (mMC mMe189) (75, [some (.ref 53), some (sI (s : Int)), some (sI (w : Int)), some (sI st.1), some (sI st.2), some (sI (a : Int)), X6, X7], [], h) r := r1 X6 X7
    refine sP 2 (g1 := (18, [some (.ref 53), some (sI ((s : Int))), some (sI ((w : Int))), some (sI (st.1)), some (sI (st.2)), some (sI ((a : Int))), X6, X7], [.ref 53, sI ((a : Int))], h)) rfl ?_
    refine s_get (a := 53) (j := 4) hh rfl ⟨_, rfl⟩ rfl rfl rfl (v := .ref 58) (hR_ok hh (by decide +kernel)) ?_
    refine sP 1 (g1 := (20, [some (.ref 53), some (sI ((s : Int))), some (sI ((w : Int))), some (sI (st.1)), some (sI (st.2)), some (sI ((a : Int))), X6, X7], [sI 0, .ref 58, sI ((a : Int))], h)) rfl ?_
    refine s_iald (a := 58) (n := 201) (j := 0) hh rfl rfl rfl (by omega) (by omega) (by decide) (v := sI (hI h 58 0)) (hI_ok hh nw_p) ?_
    refine s_icmp (q := .ge) (a := (a : Int)) (b := hI h 58 0) rfl ⟨_, rfl⟩ rfl (by unfold sR aMi aMa; omega) (by unfold sR aMi aMa; omega) (fun hc1 => ?_) (fun hc1 => ?_)
    · have hc1 : ((hI h 58 0) : Int) ≤ ((a : Int)) := hc1
      exact r0
    · have hc1 : ¬ (((hI h 58 0) : Int) ≤ ((a : Int))) := hc1
      omega
  | succ k ih =>
    intro a st X6 X7 hb ho r r1
    have e1 : oW (dM h n s) n (k + 1) a st = oW (dM h n s) n k (a + 1) (iW (dM h n s) a (n - (a + 1)) (a + 1) st) := rfl
    rw [e1] at r1
    have r0 := fun X6 X7 => ih (a + 1) (iW (dM h n s) a (n - (a + 1)) (a + 1) st) X6 X7 (by omega) (iW_rg (show n ≤ 6 by omega) (by omega) (fun b hb => dM_rg hh (by omega) (by omega) (by omega)) _ _ _ (by omega) ho) r r1
    have r2 := fun X => fWmI (sc := sc) (d := d) hh hn (show a < n by omega) hs hw (n - (a + 1)) (a + 1) st X (by omega) ho
    refine sP 2 (g1 := (18, [some (.ref 53), some (sI ((s : Int))), some (sI ((w : Int))), some (sI (st.1)), some (sI (st.2)), some (sI ((a : Int))), X6, X7], [.ref 53, sI ((a : Int))], h)) rfl ?_
    refine s_get (a := 53) (j := 4) hh rfl ⟨_, rfl⟩ rfl rfl rfl (v := .ref 58) (hR_ok hh (by decide +kernel)) ?_
    refine sP 1 (g1 := (20, [some (.ref 53), some (sI ((s : Int))), some (sI ((w : Int))), some (sI (st.1)), some (sI (st.2)), some (sI ((a : Int))), X6, X7], [sI 0, .ref 58, sI ((a : Int))], h)) rfl ?_
    refine s_iald (a := 58) (n := 201) (j := 0) hh rfl rfl rfl (by omega) (by omega) (by decide) (v := sI (hI h 58 0)) (hI_ok hh nw_p) ?_
    refine s_icmp (q := .ge) (a := (a : Int)) (b := hI h 58 0) rfl ⟨_, rfl⟩ rfl (by unfold sR aMi aMa; omega) (by unfold sR aMi aMa; omega) (fun hc1 => ?_) (fun hc1 => ?_)
    · have hc1 : ((hI h 58 0) : Int) ≤ ((a : Int)) := hc1
      omega
    · have hc1 : ¬ (((hI h 58 0) : Int) ≤ ((a : Int))) := hc1
      refine sP 2 (g1 := (24, [some (.ref 53), some (sI ((s : Int))), some (sI ((w : Int))), some (sI (st.1)), some (sI (st.2)), some (sI ((a : Int))), X6, X7], [sI 1, sI ((a : Int))], h)) rfl ?_
      refine s_add (a := (a : Int)) (b := 1) rfl rfl ?_
      refine sP 1 (g1 := (26, [some (.ref 53), some (sI ((s : Int))), some (sI ((w : Int))), some (sI (st.1)), some (sI (st.2)), some (sI ((a : Int))), some (sI (((a : Int)) + 1)), X7], [], h)) rfl ?_
      rw [show ((a : Int) + 1) = ((a + 1 : Nat) : Int) by omega]
      refine r2 _ _ (fun Y => ?_)
      refine s_inc (a := (a : Int)) (n := 1) (k := 5) rfl rfl rfl ?_
      refine sP 1 (g1 := (16, [some (.ref 53), some (sI ((s : Int))), some (sI ((w : Int))), some (sI ((iW (dM h n s) a (n - (a + 1)) (a + 1) st).1)), some (sI ((iW (dM h n s) a (n - (a + 1)) (a + 1) st).2)), some (sI (((a : Int)) + 1)), some (sI ((n : Int))), Y], [], h)) rfl ?_
      rw [show ((a : Int) + 1) = ((a + 1 : Nat) : Int) by omega]
      exact r0 _ _
theorem fWorstMb {s : Int} {n : Nat} (hh : aHp h) (hn : hI h 58 0 = (n : Int)) (rs : sR s) (hc : ¬ (0 ≤ s ∧ s < ((2 ^ n : Nat) : Int))) : nEv sc (d + 5) 189 [.ref 53, sI s] h (some (sI (-1)), h) := by
  have gp := hI_rg hh nw_p
  have p2 := p2_le (show n ≤ 6 by omega)
  unfold sR aMi aMa at rs
  refine nEv_of (t := mMe189) rfl ?_
  show nRn sc (d + 4) (mMT mMe189) (mMC mMe189) (0, [some (.ref 53), some (sI s), none, none, none, none, none, none], [], h) _
  refine sP 2 (g1 := (2, [some (.ref 53), some (sI s), none, none, none, none, none, none], [sI s, .ref 53], h)) rfl ?_
  have ev1 := fIsSet (sc := sc) (d := d + 2) (n := n) (s := s) hh hn (by unfold sR aMi aMa; omega)
  rw [if_neg (by omega)] at ev1
  refine s_call (k := 181) (args := [.ref 53, sI s]) (st := []) (v := some (sI 0)) (h1 := h) rfl ⟨rfl, rfl⟩ rfl rfl rfl rfl (sRcv hh (a := 53) rfl rfl) rfl ev1 ?_
  refine s_ifc (q := .ne) (a := 0) rfl ⟨_, rfl⟩ rfl (by unfold sR aMi aMa; omega) (fun hc2 => ?_) (fun hc2 => ?_)
  · have hc2 : (0 : Int) ≠ 0 := hc2
    omega
  · have hc2 : ¬ ((0 : Int) ≠ 0) := hc2
    refine sP 1 (g1 := (5, [some (.ref 53), some (sI s), none, none, none, none, none, none], [sI ((-1))], h)) rfl ?_
    exact s_reti rfl rfl (Or.inl rfl) rfl rfl
theorem fWorstM {n s : Nat} (hh : aHp h) (hn : hI h 58 0 = n) (hs : s < 2 ^ n) : ∃ g, nEv sc (d + 5) 189 [.ref 53, sI (s : Int)] h (some (sI (oW (dM h n s) n n 0 (-9, -1)).1), g) ∧ aHp g ∧ (∀ p m, ¬ (p = 53 ∧ m = 8) → aSlot g p m = aSlot h p m) ∧ ((oW (dM h n s) n n 0 (-9, -1)).1 ≠ -9 → aSlot g 53 8 = some (sI (oW (dM h n s) n n 0 (-9, -1)).2)) ∧ ((oW (dM h n s) n n 0 (-9, -1)).1 = -9 → aSlot g 53 8 = aSlot h 53 8) := by
  have gp := hI_rg hh nw_p
  have p2 := p2_le (show n ≤ 6 by omega)
  have br := oW_rg (D := dM h n s) (n := n) (by omega) (fun a b ha hb => dM_rg hh (by omega) (by omega) (by omega)) n 0 (-9, -1) (by omega) wOk0
  unfold wOk at br
  have eth := fThereOf (sc := sc) (d := d) hh hn (show s < 64 by omega)
  have r3 := fWmO (sc := sc) (d := d) hh hn (show s < 64 by omega) rfl n 0 (-9, -1) none none (by omega) wOk0
  by_cases c0 : (oW (dM h n s) n n 0 (-9, -1)).1 = -9
  · have r2 : ∀ Y6 Y7 : Option Value, nRn sc (d + 4) (mMT mMe189) (mMC mMe189) (75, [some (.ref 53), some (sI (s : Int)), some (sI ((pFw (thM h n s) n : Nat) : Int)), some (sI (oW (dM h n s) n n 0 (-9, -1)).1), some (sI (oW (dM h n s) n n 0 (-9, -1)).2), some (sI (n : Int)), Y6, Y7], [], h) (some (sI (oW (dM h n s) n n 0 (-9, -1)).1), h) := by
      intro Y6 Y7
      refine sP 2 (g1 := (77, [some (.ref 53), some (sI ((s : Int))), some (sI (((pFw (thM h n s) n : Nat) : Int))), some (sI ((oW (dM h n s) n n 0 (-9, -1)).1)), some (sI ((oW (dM h n s) n n 0 (-9, -1)).2)), some (sI ((n : Int))), Y6, Y7], [sI ((-9)), sI ((oW (dM h n s) n n 0 (-9, -1)).1)], h)) rfl ?_
      refine s_icmp (q := .ne) (a := (oW (dM h n s) n n 0 (-9, -1)).1) (b := (-9)) rfl ⟨_, rfl⟩ rfl (by unfold sR aMi aMa; omega) (by unfold sR aMi aMa; omega) (fun hc1 => ?_) (fun hc1 => ?_)
      · have hc1 : (((oW (dM h n s) n n 0 (-9, -1)).1) : Int) ≠ ((-9)) := hc1
        omega
      · have hc1 : ¬ ((((oW (dM h n s) n n 0 (-9, -1)).1) : Int) ≠ ((-9))) := hc1
        refine sP 2 (g1 := (84, [some (.ref 53), some (sI ((s : Int))), some (sI (((pFw (thM h n s) n : Nat) : Int))), some (sI ((oW (dM h n s) n n 0 (-9, -1)).1)), some (sI ((oW (dM h n s) n n 0 (-9, -1)).2)), some (sI ((n : Int))), Y6, Y7], [sI ((-9))], h)) rfl ?_
        exact s_reti rfl rfl (Or.inl rfl) (by omega) rfl
    have r1 := r3 _ r2
    refine ⟨h, nEv_of (t := mMe189) rfl ?_, hh, fun _ _ _ => rfl, fun w => absurd c0 w, fun _ => rfl⟩
    show nRn sc (d + 4) (mMT mMe189) (mMC mMe189) (0, [some (.ref 53), some (sI ((s : Int))), none, none, none, none, none, none], [], h) _
    refine sP 2 (g1 := (2, [some (.ref 53), some (sI ((s : Int))), none, none, none, none, none, none], [sI ((s : Int)), .ref 53], h)) rfl ?_
    have ev1 := fIsSet (sc := sc) (d := d + 2) (n := n) (s := (s : Int)) hh hn (by unfold sR aMi aMa; omega)
    rw [if_pos (by omega)] at ev1
    refine s_call (k := 181) (args := [.ref 53, sI ((s : Int))]) (st := []) (v := some (sI 1)) (h1 := h) rfl ⟨rfl, rfl⟩ rfl rfl rfl rfl (sRcv hh (a := 53) rfl rfl) rfl ev1 ?_
    refine s_ifc (q := .ne) (a := 1) rfl ⟨_, rfl⟩ rfl (by unfold sR aMi aMa; omega) (fun hc2 => ?_) (fun hc2 => ?_)
    · have hc2 : (1 : Int) ≠ 0 := hc2
      refine sP 2 (g1 := (8, [some (.ref 53), some (sI ((s : Int))), none, none, none, none, none, none], [sI ((s : Int)), .ref 53], h)) rfl ?_
      refine s_call (k := 183) (args := [.ref 53, sI ((s : Int))]) (st := []) (v := some (sI (((pFw (thM h n s) n : Nat) : Int)))) (h1 := h) rfl ⟨rfl, rfl⟩ rfl rfl rfl rfl (sRcv hh (a := 53) rfl rfl) rfl eth ?_
      refine sP 7 (g1 := (16, [some (.ref 53), some (sI ((s : Int))), some (sI (((pFw (thM h n s) n : Nat) : Int))), some (sI ((-9))), some (sI ((-1))), some (sI 0), none, none], [], h)) rfl ?_
      exact r1
    · have hc2 : ¬ ((1 : Int) ≠ 0) := hc2
      omega
  · obtain ⟨g2, e2, j1, j2⟩ := fAnswer (sc := sc) (d := d + 3) (v := (oW (dM h n s) n n 0 (-9, -1)).1) (t := (oW (dM h n s) n n 0 (-9, -1)).2) hh (by unfold sR aMi aMa; omega)
    have r2 : ∀ Y6 Y7 : Option Value, nRn sc (d + 4) (mMT mMe189) (mMC mMe189) (75, [some (.ref 53), some (sI (s : Int)), some (sI ((pFw (thM h n s) n : Nat) : Int)), some (sI (oW (dM h n s) n n 0 (-9, -1)).1), some (sI (oW (dM h n s) n n 0 (-9, -1)).2), some (sI (n : Int)), Y6, Y7], [], h) (some (sI (oW (dM h n s) n n 0 (-9, -1)).1), g2) := by
      intro Y6 Y7
      refine sP 2 (g1 := (77, [some (.ref 53), some (sI ((s : Int))), some (sI (((pFw (thM h n s) n : Nat) : Int))), some (sI ((oW (dM h n s) n n 0 (-9, -1)).1)), some (sI ((oW (dM h n s) n n 0 (-9, -1)).2)), some (sI ((n : Int))), Y6, Y7], [sI ((-9)), sI ((oW (dM h n s) n n 0 (-9, -1)).1)], h)) rfl ?_
      refine s_icmp (q := .ne) (a := (oW (dM h n s) n n 0 (-9, -1)).1) (b := (-9)) rfl ⟨_, rfl⟩ rfl (by unfold sR aMi aMa; omega) (by unfold sR aMi aMa; omega) (fun hc1 => ?_) (fun hc1 => ?_)
      · have hc1 : (((oW (dM h n s) n n 0 (-9, -1)).1) : Int) ≠ ((-9)) := hc1
        refine sP 3 (g1 := (83, [some (.ref 53), some (sI ((s : Int))), some (sI (((pFw (thM h n s) n : Nat) : Int))), some (sI ((oW (dM h n s) n n 0 (-9, -1)).1)), some (sI ((oW (dM h n s) n n 0 (-9, -1)).2)), some (sI ((n : Int))), Y6, Y7], [sI ((oW (dM h n s) n n 0 (-9, -1)).2), sI ((oW (dM h n s) n n 0 (-9, -1)).1), .ref 53], h)) rfl ?_
        refine s_call (k := 186) (args := [.ref 53, sI ((oW (dM h n s) n n 0 (-9, -1)).1), sI ((oW (dM h n s) n n 0 (-9, -1)).2)]) (st := []) (v := some (sI ((oW (dM h n s) n n 0 (-9, -1)).1))) (h1 := g2) rfl ⟨rfl, rfl⟩ rfl rfl rfl rfl (sRcv hh (a := 53) rfl rfl) rfl e2 ?_
        exact s_reti rfl rfl (Or.inl rfl) rfl rfl
      · have hc1 : ¬ ((((oW (dM h n s) n n 0 (-9, -1)).1) : Int) ≠ ((-9))) := hc1
        omega
    have r1 := r3 _ r2
    refine ⟨g2, nEv_of (t := mMe189) rfl ?_, j1, fun p m w => by rw [j2, if_neg w], fun _ => by rw [j2, if_pos (by omega)], fun w => absurd w c0⟩
    show nRn sc (d + 4) (mMT mMe189) (mMC mMe189) (0, [some (.ref 53), some (sI ((s : Int))), none, none, none, none, none, none], [], h) _
    refine sP 2 (g1 := (2, [some (.ref 53), some (sI ((s : Int))), none, none, none, none, none, none], [sI ((s : Int)), .ref 53], h)) rfl ?_
    have ev1 := fIsSet (sc := sc) (d := d + 2) (n := n) (s := (s : Int)) hh hn (by unfold sR aMi aMa; omega)
    rw [if_pos (by omega)] at ev1
    refine s_call (k := 181) (args := [.ref 53, sI ((s : Int))]) (st := []) (v := some (sI 1)) (h1 := h) rfl ⟨rfl, rfl⟩ rfl rfl rfl rfl (sRcv hh (a := 53) rfl rfl) rfl ev1 ?_
    refine s_ifc (q := .ne) (a := 1) rfl ⟨_, rfl⟩ rfl (by unfold sR aMi aMa; omega) (fun hc2 => ?_) (fun hc2 => ?_)
    · have hc2 : (1 : Int) ≠ 0 := hc2
      refine sP 2 (g1 := (8, [some (.ref 53), some (sI ((s : Int))), none, none, none, none, none, none], [sI ((s : Int)), .ref 53], h)) rfl ?_
      refine s_call (k := 183) (args := [.ref 53, sI ((s : Int))]) (st := []) (v := some (sI (((pFw (thM h n s) n : Nat) : Int)))) (h1 := h) rfl ⟨rfl, rfl⟩ rfl rfl rfl rfl (sRcv hh (a := 53) rfl rfl) rfl eth ?_
      refine sP 7 (g1 := (16, [some (.ref 53), some (sI ((s : Int))), some (sI (((pFw (thM h n s) n : Nat) : Int))), some (sI ((-9))), some (sI ((-1))), some (sI 0), none, none], [], h)) rfl ?_
      exact r1
    · have hc2 : ¬ ((1 : Int) ≠ 0) := hc2
      omega
end WORST
theorem wWorst {sc : List Int32} {h : mH} (x : Int32) (hp : wP h) : ∃ z1 h1 z2 h2, nEv sc 100 83 (.ref 0 :: [x].map Value.int) h (some (.int z1), h1) ∧ aHp h1 ∧ nEv sc 100 189 (.ref 53 :: [x].map Value.int) h1 (some (.int z2), h2) ∧ wP h2 ∧ z2 = z1 := by
  have hh := wP_a h hp
  have rx : sR x.toInt := aI_rg x
  have e3 : hI h 3 3 = hI h 58 0 := hp.2.1.1
  have gp := hI_rg hh xw_p
  obtain ⟨n, en⟩ := iN gp.1
  by_cases c2 : 0 ≤ x.toInt ∧ x.toInt < ((2 ^ n : Nat) : Int)
  · obtain ⟨s, es⟩ := iN c2.1
    obtain ⟨g1, a1, a2, a3⟩ := fWorstX (sc := sc) (d := 95) (s := s) hh en (by omega)
    have k0 : ∀ p m, ¬ (p = 0 ∧ m = 9) → aSlot g1 p m = aSlot h p m := fun p m w => by rw [a3, if_neg (fun q => w ⟨q.1, q.2.1⟩)]
    have e0 : hI g1 58 0 = hI h 58 0 := hI_cg (k0 58 0 (by omega))
    obtain ⟨g2, b1, b2, b3, b4, b5⟩ := fWorstM (sc := sc) (d := 95) (n := n) (s := s) a2 (by omega) (by omega)
    have hr : nR h g1 := nR_sl hp.2.1 (fun _ _ _ _ => rfl) (fun m => k0 58 m (by omega))
    have t1 : ∀ p m, ¬ (p = 0 ∧ m = 9) → ¬ (p = 53 ∧ m = 8) → aSlot g2 p m = aSlot h p m := fun p m w1 w2 => by rw [b3 p m w2, k0 p m w1]
    refine pair1 (h1 := g1) (h2 := g2) (by rw [es]; exact a1) a2 (by rw [es]; exact b1) (wP_sl hp (tP_sl hp.1 b2 (fun e m w => t1 e m (by omega) (by omega))) (fun p m w => t1 p m (by omega) (by omega))) ?_
    rw [oW_cg (n := n) (fun a b ha hb => show dM g1 n s a b = dX h n s a b by
      unfold dM dX
      rw [nR_sX hr en ha, nR_sX hr en hb]) n 0 _ (by omega)]
  · exact pair1 (fWorstXb (d := 95) hh en rx c2) hh (fWorstMb (d := 95) (n := n) hh (by omega) rx c2) hp rfl
