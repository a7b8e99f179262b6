/-! reading of the reference: persons, the whole -/
section RD3
variable {sc : List Int32} {d : Nat} {h : mH}
theorem mz_0 {j : Nat} (hj : j < 201) : zIn 59 j 0 0 = true := (show ∀ j, j < 201 → zIn 59 j 0 0 = true by decide +kernel) j hj
theorem mz_n : zIn 59 0 0 6 = true := by decide +kernel
theorem mz_c : zCell 59 0 0 6 = true := by decide +kernel
theorem mz_k {a : Nat} (ha : a < 6) : zIn 59 (1 + a) 0 5 = true := (show ∀ a, a < 6 → zIn 59 (1 + a) 0 5 = true by decide +kernel) a ha
theorem mz_l {j : Nat} (hj : j < 36) : zIn 59 (7 + j) 0 9 = true := (show ∀ j, j < 36 → zIn 59 (7 + j) 0 9 = true by decide +kernel) j hj
/-- the figures of one person, from the loop's head -/
theorem fFigM {c a : Nat} {kd : Int} (hc : c < 4) (ha : a < 6) : ∀ (k b : Nat) (h : mH), aHp h → hI h 59 0 = b + k → ∃ h1, nRn sc (d + 1) (mMT mMe142) (mMC mMe142) (24, [some (.ref 53), some (sI (c : Int)), some (sI (a : Int)), some (sI kd), some (sI (b : Int))], [], h) (some (sI (if (pFg (hI h 56 c) (fun j => hI h 57 (60 * c + j)) k (hI h 53 13)).1 = true then 1 else 0)), h1) ∧ aHp h1 ∧ hI h1 53 13 = (pFg (hI h 56 c) (fun j => hI h 57 (60 * c + j)) k (hI h 53 13)).2 ∧ (∀ e m, ¬ (e = 53 ∧ m = 13) → ¬ (e = 59 ∧ 7 + 6 * a + b ≤ m ∧ m < 7 + 6 * a + b + k) → aSlot h1 e m = aSlot h e m) ∧ ((pFg (hI h 56 c) (fun j => hI h 57 (60 * c + j)) k (hI h 53 13)).1 = true → ∀ j, j < k → hI h1 59 (7 + 6 * a + b + j) = pDt (hI h 56 c) (fun j => hI h 57 (60 * c + j)) (hI h 53 13 + j)) := by
  intro k
  induction k with
  | zero =>
    intro b h hh hn
    have nn := hI_rg hh mz_c
    refine ⟨h, ?_, hh, rfl, fun e m _ _ => rfl, fun _ j hj => by omega⟩
    refine sP 2 (g1 := (26, [some (.ref 53), some (sI ((c : Int))), some (sI ((a : Int))), some (sI kd), some (sI ((b : Int)))], [.ref 53, sI ((b : Int))], h)) rfl ?_
    refine s_get (a := 53) (j := 5) hh rfl ⟨_, rfl⟩ rfl rfl rfl (v := .ref 59) (hR_ok hh (by decide +kernel)) ?_
    refine sP 1 (g1 := (28, [some (.ref 53), some (sI ((c : Int))), some (sI ((a : Int))), some (sI kd), some (sI ((b : Int)))], [sI 0, .ref 59, sI ((b : Int))], h)) rfl ?_
    refine s_iald (a := 59) (n := 201) (j := 0) hh rfl rfl rfl (by omega) (by omega) (by decide) (v := sI (hI h 59 0)) (hI_ok hh mz_c) ?_
    refine s_icmp (q := .ge) (a := (b : Int)) (b := hI h 59 0) rfl ⟨_, rfl⟩ rfl (by unfold sR aMi aMa; omega) (by unfold sR aMi aMa; omega) (fun hc1 => ?_) (fun hc1 => ?_)
    · have hc1 : ((hI h 59 0) : Int) ≤ ((b : Int)) := hc1
      refine sP 1 (g1 := (64, [some (.ref 53), some (sI ((c : Int))), some (sI ((a : Int))), some (sI kd), some (sI ((b : Int)))], [sI 1], h)) rfl ?_
      exact s_reti rfl rfl (Or.inr ⟨rfl, by omega⟩) rfl rfl
    · have hc1 : ¬ (((hI h 59 0) : Int) ≤ ((b : Int))) := hc1
      omega
  | succ k ih =>
    intro b h hh hn
    have nn := hI_rg hh mz_c
    have sz := hI_rg hh (tx_n hc)
    have pl := hI_rg hh rp_m
    have sg := fHere_rg hh hc
    have ed := pAt_dt (sz := hI h 56 c) (e := -1000) (p := hI h 53 13) (g := (fun j => hI h 57 (60 * c + j))) (by omega)
    by_cases hf : 48 ≤ pAt (hI h 56 c) (fun j => hI h 57 (60 * c + j)) (-1000) (hI h 53 13) ∧ pAt (hI h 56 c) (fun j => hI h 57 (60 * c + j)) (-1000) (hI h 53 13) ≤ 57
    · rw [if_pos hf] at ed
      have hps : hI h 53 13 < hI h 56 c := by
        have q := hf.1
        unfold pAt at q
        split at q
        · assumption
        · omega
      have e1 : pFg (hI h 56 c) (fun j => hI h 57 (60 * c + j)) (k + 1) (hI h 53 13) = pFg (hI h 56 c) (fun j => hI h 57 (60 * c + j)) k (hI h 53 13 + 1) := by
        show (if _ then _ else _) = _
        rw [if_neg (by omega)]
      rw [e1]
      have hF : sR (pAt (hI h 56 c) (fun j => hI h 57 (60 * c + j)) (-1000) (hI h 53 13) - 48) := by unfold sR aMi aMa; omega
      have hix : (7 + 6 * (a : Int) + (b : Int)).toNat = 7 + (6 * a + b) := by omega
      have hg1 : aHp (hset h 59 (7 + 6 * (a : Int) + (b : Int)).toNat (sI (pAt (hI h 56 c) (fun j => hI h 57 (60 * c + j)) (-1000) (hI h 53 13) - 48))) := by
        rw [hix]
        exact hset_in hh (mz_l (by omega)) (by rw [sR_i hF]; omega) (by rw [sR_i hF]; omega)
      have s1 := fun e m => hset_slot (v := sI (pAt (hI h 56 c) (fun j => hI h 57 (60 * c + j)) (-1000) (hI h 53 13) - 48)) (k := 50) (n := 201) (a := 59) hh rfl (show (7 + 6 * (a : Int) + (b : Int)).toNat < 201 by omega) e m
      have q1 := hI_ne (v := sI (pAt (hI h 56 c) (fun j => hI h 57 (60 * c + j)) (-1000) (hI h 53 13) - 48)) (k := 50) (n := 201) (a := 59) (b := 53) (m := 13) hh rfl (show (7 + 6 * (a : Int) + (b : Int)).toNat < 201 by omega) (by omega)
      have hg2 := rp_hm (z := hI h 53 13 + 1) hg1 (by omega) (by omega)
      have s2 := fun e m => hset_slot (v := sI (hI h 53 13 + 1)) (k := 7) (n := 21) (a := 53) hg1 rfl (show 13 < 21 by omega) e m
      have t1 := hI_eq (z := hI h 53 13 + 1) (k := 7) (n := 21) (a := 53) hg1 rfl (show 13 < 21 by omega) (by unfold sR aMi aMa; omega)
      have hs2 : ∀ e m, ¬ (e = 53 ∧ m = 13) → ¬ (e = 59 ∧ m = 7 + 6 * a + b) → aSlot (hset (hset h 59 (7 + 6 * (a : Int) + (b : Int)).toNat (sI (pAt (hI h 56 c) (fun j => hI h 57 (60 * c + j)) (-1000) (hI h 53 13) - 48))) 53 13 (sI (hI h 53 13 + 1))) e m = aSlot h e m := fun e m u1 u2 => by rw [s2, if_neg u1, s1, if_neg (by omega)]
      have hs3 : aSlot (hset (hset h 59 (7 + 6 * (a : Int) + (b : Int)).toNat (sI (pAt (hI h 56 c) (fun j => hI h 57 (60 * c + j)) (-1000) (hI h 53 13) - 48))) 53 13 (sI (hI h 53 13 + 1))) 59 (7 + 6 * a + b) = some (sI (pAt (hI h 56 c) (fun j => hI h 57 (60 * c + j)) (-1000) (hI h 53 13) - 48)) := by rw [s2, if_neg (by omega), s1, if_pos (by omega)]
      generalize hgg : hset (hset h 59 (7 + 6 * (a : Int) + (b : Int)).toNat (sI (pAt (hI h 56 c) (fun j => hI h 57 (60 * c + j)) (-1000) (hI h 53 13) - 48))) 53 13 (sI (hI h 53 13 + 1)) = g2 at hg2 hs2 hs3 t1
      have u1 : hI g2 56 c = hI h 56 c := by unfold hI; rw [hs2 _ _ (by omega) (by omega)]
      have u2 : (fun j => hI g2 57 (60 * c + j)) = (fun j => hI h 57 (60 * c + j)) := by funext m; unfold hI; rw [hs2 _ _ (by omega) (by omega)]
      have u3 : hI g2 59 0 = hI h 59 0 := by unfold hI; rw [hs2 _ _ (by omega) (by omega)]
      obtain ⟨h1, r1, r2, r3, r4, r5⟩ := ih (b + 1) g2 hg2 (by omega)
      rw [u1, u2, t1] at r1 r3 r5
      refine ⟨h1, ?_, r2, r3, fun e m w1 w2 => ?_, fun hok j hj => ?_⟩
      rotate_left
      · rw [r4 e m w1 (by omega), hs2 e m w1 (by omega)]
      · match j, hj with
        | 0, _ =>
          have e2 : aSlot h1 59 (7 + 6 * a + b + 0) = aSlot g2 59 (7 + 6 * a + b) := r4 59 (7 + 6 * a + b) (by omega) (by omega)
          rw [hs3] at e2
          rw [hI_of e2, sR_i hF, show hI h 53 13 + ((0 : Nat) : Int) = hI h 53 13 by omega, ed]
        | j + 1, hj =>
          have := r5 hok j (by omega)
          rw [show 7 + 6 * a + b + (j + 1) = 7 + 6 * a + (b + 1) + j by omega, this, show hI h 53 13 + ((j + 1 : Nat) : Int) = hI h 53 13 + 1 + (j : Int) by omega]
      rw [← hgg] at r1
      refine sP 2 (g1 := (26, [some (.ref 53), some (sI ((c : Int))), some (sI ((a : Int))), some (sI kd), some (sI ((b : Int)))], [.ref 53, sI ((b : Int))], h)) rfl ?_
      refine s_get (a := 53) (j := 5) hh rfl ⟨_, rfl⟩ rfl rfl rfl (v := .ref 59) (hR_ok hh (by decide +kernel)) ?_
      refine sP 1 (g1 := (28, [some (.ref 53), some (sI ((c : Int))), some (sI ((a : Int))), some (sI kd), some (sI ((b : Int)))], [sI 0, .ref 59, sI ((b : Int))], h)) rfl ?_
      refine s_iald (a := 59) (n := 201) (j := 0) hh rfl rfl rfl (by omega) (by omega) (by decide) (v := sI (hI h 59 0)) (hI_ok hh mz_c) ?_
      refine s_icmp (q := .ge) (a := (b : Int)) (b := hI h 59 0) rfl ⟨_, rfl⟩ rfl (by unfold sR aMi aMa; omega) (by unfold sR aMi aMa; omega) (fun hc1 => ?_) (fun hc1 => ?_)
      · have hc1 : ((hI h 59 0) : Int) ≤ ((b : Int)) := hc1
        omega
      · have hc1 : ¬ (((hI h 59 0) : Int) ≤ ((b : Int))) := hc1
        refine sP 2 (g1 := (32, [some (.ref 53), some (sI ((c : Int))), some (sI ((a : Int))), some (sI kd), some (sI ((b : Int)))], [sI ((c : Int)), .ref 53], h)) rfl ?_
        refine s_call (k := 141) (args := [.ref 53, sI ((c : Int))]) (st := []) (v := some (sI (pAt (hI h 56 c) (fun j => hI h 57 (60 * c + j)) (-1000) (hI h 53 13)))) (h1 := h) rfl ⟨rfl, rfl⟩ rfl rfl rfl rfl (sRcv hh (a := 53) rfl rfl) rfl (fHere hh hc) ?_
        refine s_i2l (a := pAt (hI h 56 c) (fun j => hI h 57 (60 * c + j)) (-1000) (hI h 53 13)) rfl rfl (by unfold sR aMi aMa; omega) ?_
        refine sP 2 (g1 := (36, [some (.ref 53), some (sI ((c : Int))), some (sI ((a : Int))), some (sI kd), some (sI ((b : Int)))], [sJ 57, sJ 48, sJ (pAt (hI h 56 c) (fun j => hI h 57 (60 * c + j)) (-1000) (hI h 53 13))], h)) rfl ?_
        have ev2 := fIn (sc := sc) (d := d) (h := h) (a := pAt (hI h 56 c) (fun j => hI h 57 (60 * c + j)) (-1000) (hI h 53 13)) (b := 48) (e := 57) (by omega) (by omega) (by omega) (by omega) (by omega) (by omega)
        rw [if_pos (by omega)] at ev2
        refine s_call (k := 127) (args := [sJ (pAt (hI h 56 c) (fun j => hI h 57 (60 * c + j)) (-1000) (hI h 53 13)), sJ 48, sJ 57]) (st := []) (v := some (sI 1)) (h1 := h) rfl ⟨rfl, rfl⟩ rfl rfl rfl rfl rfl rfl ev2 ?_
        refine s_ifc (q := .ne) (a := 1) rfl ⟨_, rfl⟩ rfl (by unfold sR aMi aMa; omega) (fun hc3 => ?_) (fun hc3 => ?_)
        · have hc3 : (1 : Int) ≠ 0 := hc3
          refine sP 1 (g1 := (41, [some (.ref 53), some (sI ((c : Int))), some (sI ((a : Int))), some (sI kd), some (sI ((b : Int)))], [.ref 53], h)) rfl ?_
          refine s_get (a := 53) (j := 5) hh rfl ⟨_, rfl⟩ rfl rfl rfl (v := .ref 59) (hR_ok hh (by decide +kernel)) ?_
          refine sP 3 (g1 := (45, [some (.ref 53), some (sI ((c : Int))), some (sI ((a : Int))), some (sI kd), some (sI ((b : Int)))], [sI ((a : Int)), sI 6, sI 7, .ref 59], h)) rfl ?_
          refine s_mul (a := 6) (b := (a : Int)) rfl rfl ?_
          refine s_add (a := 7) (b := 6 * ((a : Int))) rfl rfl ?_
          refine sP 1 (g1 := (48, [some (.ref 53), some (sI ((c : Int))), some (sI ((a : Int))), some (sI kd), some (sI ((b : Int)))], [sI ((b : Int)), sI (7 + (6 * ((a : Int)))), .ref 59], h)) rfl ?_
          refine s_add (a := 7 + (6 * ((a : Int)))) (b := (b : Int)) rfl rfl ?_
          refine sP 2 (g1 := (51, [some (.ref 53), some (sI ((c : Int))), some (sI ((a : Int))), some (sI kd), some (sI ((b : Int)))], [sI ((c : Int)), .ref 53, sI ((7 + (6 * ((a : Int)))) + ((b : Int))), .ref 59], h)) rfl ?_
          refine s_call (k := 141) (args := [.ref 53, sI ((c : Int))]) (st := [sI ((7 + (6 * ((a : Int)))) + ((b : Int))), .ref 59]) (v := some (sI (pAt (hI h 56 c) (fun j => hI h 57 (60 * c + j)) (-1000) (hI h 53 13)))) (h1 := h) rfl ⟨rfl, rfl⟩ rfl rfl rfl rfl (sRcv hh (a := 53) rfl rfl) rfl (fHere hh hc) ?_
          refine sP 1 (g1 := (53, [some (.ref 53), some (sI ((c : Int))), some (sI ((a : Int))), some (sI kd), some (sI ((b : Int)))], [sI 48, sI (pAt (hI h 56 c) (fun j => hI h 57 (60 * c + j)) (-1000) (hI h 53 13)), sI ((7 + (6 * ((a : Int)))) + ((b : Int))), .ref 59], h)) rfl ?_
          refine s_sub (a := pAt (hI h 56 c) (fun j => hI h 57 (60 * c + j)) (-1000) (hI h 53 13)) (b := 48) rfl rfl ?_
          refine s_iast (a := 59) (n := 201) (j := (7 + (6 * ((a : Int)))) + ((b : Int))) hh rfl rfl rfl (by omega) (by omega) (by decide) ?_
          refine sP 2 (g1 := (57, [some (.ref 53), some (sI ((c : Int))), some (sI ((a : Int))), some (sI kd), some (sI ((b : Int)))], [.ref 53, .ref 53], (hset h 59 ((7 + (6 * ((a : Int)))) + ((b : Int))).toNat (sI ((pAt (hI h 56 c) (fun j => hI h 57 (60 * c + j)) (-1000) (hI h 53 13)) - 48))))) rfl ?_
          refine s_get (a := 53) (j := 13) hg1 rfl ⟨_, rfl⟩ rfl rfl rfl (v := sI (hI h 53 13)) (by have q := hI_ok hg1 rp_m; rw [q1] at q; exact q) ?_
          refine sP 1 (g1 := (59, [some (.ref 53), some (sI ((c : Int))), some (sI ((a : Int))), some (sI kd), some (sI ((b : Int)))], [sI 1, sI (hI h 53 13), .ref 53], (hset h 59 ((7 + (6 * ((a : Int)))) + ((b : Int))).toNat (sI ((pAt (hI h 56 c) (fun j => hI h 57 (60 * c + j)) (-1000) (hI h 53 13)) - 48))))) rfl ?_
          refine s_add (a := hI h 53 13) (b := 1) rfl rfl ?_
          refine s_put (a := 53) (j := 13) (k := 7) (n := 21) hg1 rfl ⟨_, rfl⟩ rfl rfl rfl (by decide) rfl ?_
          refine s_inc (a := (b : Int)) (n := 1) (k := 4) rfl rfl rfl ?_
          refine sP 1 (g1 := (24, [some (.ref 53), some (sI ((c : Int))), some (sI ((a : Int))), some (sI kd), some (sI (((b : Int)) + 1))], [], (hset ((hset h 59 ((7 + (6 * ((a : Int)))) + ((b : Int))).toNat (sI ((pAt (hI h 56 c) (fun j => hI h 57 (60 * c + j)) (-1000) (hI h 53 13)) - 48)))) 53 13 (sI ((hI h 53 13) + 1))))) rfl ?_
          rw [show ((b : Int) + 1) = ((b + 1 : Nat) : Int) by omega]
          exact r1
        · have hc3 : ¬ ((1 : Int) ≠ 0) := hc3
          omega
    · rw [if_neg hf] at ed
      have e1 : pFg (hI h 56 c) (fun j => hI h 57 (60 * c + j)) (k + 1) (hI h 53 13) = (false, hI h 53 13) := by
        show (if _ then _ else _) = _
        rw [if_pos (by omega)]
      rw [e1]
      refine ⟨h, ?_, hh, rfl, fun e m _ _ => rfl, fun hx => by cases hx⟩
      refine sP 2 (g1 := (26, [some (.ref 53), some (sI ((c : Int))), some (sI ((a : Int))), some (sI kd), some (sI ((b : Int)))], [.ref 53, sI ((b : Int))], h)) rfl ?_
      refine s_get (a := 53) (j := 5) hh rfl ⟨_, rfl⟩ rfl rfl rfl (v := .ref 59) (hR_ok hh (by decide +kernel)) ?_
      refine sP 1 (g1 := (28, [some (.ref 53), some (sI ((c : Int))), some (sI ((a : Int))), some (sI kd), some (sI ((b : Int)))], [sI 0, .ref 59, sI ((b : Int))], h)) rfl ?_
      refine s_iald (a := 59) (n := 201) (j := 0) hh rfl rfl rfl (by omega) (by omega) (by decide) (v := sI (hI h 59 0)) (hI_ok hh mz_c) ?_
      refine s_icmp (q := .ge) (a := (b : Int)) (b := hI h 59 0) rfl ⟨_, rfl⟩ rfl (by unfold sR aMi aMa; omega) (by unfold sR aMi aMa; omega) (fun hc1 => ?_) (fun hc1 => ?_)
      · have hc1 : ((hI h 59 0) : Int) ≤ ((b : Int)) := hc1
        omega
      · have hc1 : ¬ (((hI h 59 0) : Int) ≤ ((b : Int))) := hc1
        refine sP 2 (g1 := (32, [some (.ref 53), some (sI ((c : Int))), some (sI ((a : Int))), some (sI kd), some (sI ((b : Int)))], [sI ((c : Int)), .ref 53], h)) rfl ?_
        refine s_call (k := 141) (args := [.ref 53, sI ((c : Int))]) (st := []) (v := some (sI (pAt (hI h 56 c) (fun j => hI h 57 (60 * c + j)) (-1000) (hI h 53 13)))) (h1 := h) rfl ⟨rfl, rfl⟩ rfl rfl rfl rfl (sRcv hh (a := 53) rfl rfl) rfl (fHere hh hc) ?_
        refine s_i2l (a := pAt (hI h 56 c) (fun j => hI h 57 (60 * c + j)) (-1000) (hI h 53 13)) rfl rfl (by unfold sR aMi aMa; omega) ?_
        refine sP 2 (g1 := (36, [some (.ref 53), some (sI ((c : Int))), some (sI ((a : Int))), some (sI kd), some (sI ((b : Int)))], [sJ 57, sJ 48, sJ (pAt (hI h 56 c) (fun j => hI h 57 (60 * c + j)) (-1000) (hI h 53 13))], h)) rfl ?_
        have ev2 := fIn (sc := sc) (d := d) (h := h) (a := pAt (hI h 56 c) (fun j => hI h 57 (60 * c + j)) (-1000) (hI h 53 13)) (b := 48) (e := 57) (by omega) (by omega) (by omega) (by omega) (by omega) (by omega)
        rw [if_neg (by omega)] at ev2
        refine s_call (k := 127) (args := [sJ (pAt (hI h 56 c) (fun j => hI h 57 (60 * c + j)) (-1000) (hI h 53 13)), sJ 48, sJ 57]) (st := []) (v := some (sI 0)) (h1 := h) rfl ⟨rfl, rfl⟩ rfl rfl rfl rfl rfl rfl ev2 ?_
        refine s_ifc (q := .ne) (a := 0) rfl ⟨_, rfl⟩ rfl (by unfold sR aMi aMa; omega) (fun hc3 => ?_) (fun hc3 => ?_)
        · have hc3 : (0 : Int) ≠ 0 := hc3
          omega
        · have hc3 : ¬ ((0 : Int) ≠ 0) := hc3
          refine sP 1 (g1 := (39, [some (.ref 53), some (sI ((c : Int))), some (sI ((a : Int))), some (sI kd), some (sI ((b : Int)))], [sI 0], h)) rfl ?_
          exact s_reti rfl rfl (Or.inr ⟨rfl, by omega⟩) rfl rfl
/-- one person -/
theorem fPersonM {c a n : Nat} (hc : c < 4) (ha : a < 6) (hh : aHp h) (hn : hI h 59 0 = n) : ∃ h1, nEv sc (d + 2) 142 [.ref 53, sI (c : Int), sI (a : Int)] h (some (sI (if (pPs (hI h 56 c) (fun j => hI h 57 (60 * c + j)) n (hI h 53 13)).1 = true then 1 else 0)), h1) ∧ aHp h1 ∧ hI h1 53 13 = (pPs (hI h 56 c) (fun j => hI h 57 (60 * c + j)) n (hI h 53 13)).2 ∧ (∀ e m, ¬ (e = 53 ∧ m = 13) → ¬ (e = 59 ∧ m = 1 + a) → ¬ (e = 59 ∧ 7 + 6 * a ≤ m ∧ m < 7 + 6 * a + n) → aSlot h1 e m = aSlot h e m) ∧ ((pPs (hI h 56 c) (fun j => hI h 57 (60 * c + j)) n (hI h 53 13)).1 = true → hI h1 59 (1 + a) = pLt (hI h 56 c) (fun j => hI h 57 (60 * c + j)) (hI h 53 13) ∧ ∀ j, j < n → hI h1 59 (7 + 6 * a + j) = pDt (hI h 56 c) (fun j => hI h 57 (60 * c + j)) (hI h 53 13 + 1 + j)) := by
  have nn := hI_rg hh mz_c
  have sz := hI_rg hh (tx_n hc)
  have pl := hI_rg hh rp_m
  have sg := fHere_rg hh hc
  have el := pAt_lt (sz := hI h 56 c) (e := -1000) (p := hI h 53 13) (g := (fun j => hI h 57 (60 * c + j))) (by omega)
  have kr := pKd_rg (pAt (hI h 56 c) (fun j => hI h 57 (60 * c + j)) (-1000) (hI h 53 13))
  by_cases hf : pKd (pAt (hI h 56 c) (fun j => hI h 57 (60 * c + j)) (-1000) (hI h 53 13)) < 0
  · have e1 : pPs (hI h 56 c) (fun j => hI h 57 (60 * c + j)) n (hI h 53 13) = (false, hI h 53 13) := by
      unfold pPs
      rw [if_pos (by omega)]
    rw [e1]
    refine ⟨h, nEv_of (t := mMe142) rfl ?_, hh, rfl, fun e m _ _ _ => rfl, fun hx => by cases hx⟩
    show nRn sc (d + 1) (mMT mMe142) (mMC mMe142) (0, [some (.ref 53), some (sI (c : Int)), some (sI (a : Int)), none, none], [], h) _
    refine sP 2 (g1 := (2, [some (.ref 53), some (sI ((c : Int))), some (sI ((a : Int))), none, none], [sI ((c : Int)), .ref 53], h)) rfl ?_
    refine s_call (k := 141) (args := [.ref 53, sI ((c : Int))]) (st := []) (v := some (sI (pAt (hI h 56 c) (fun j => hI h 57 (60 * c + j)) (-1000) (hI h 53 13)))) (h1 := h) rfl ⟨rfl, rfl⟩ rfl rfl rfl rfl (sRcv hh (a := 53) rfl rfl) rfl (fHere hh hc) ?_
    refine s_call (k := 143) (args := [sI (pAt (hI h 56 c) (fun j => hI h 57 (60 * c + j)) (-1000) (hI h 53 13))]) (st := []) (v := some (sI (pKd (pAt (hI h 56 c) (fun j => hI h 57 (60 * c + j)) (-1000) (hI h 53 13))))) (h1 := h) rfl ⟨rfl, rfl⟩ rfl rfl rfl rfl rfl rfl (fKindM (by omega) (by omega)) ?_
    refine sP 2 (g1 := (6, [some (.ref 53), some (sI ((c : Int))), some (sI ((a : Int))), some (sI (pKd (pAt (hI h 56 c) (fun j => hI h 57 (60 * c + j)) (-1000) (hI h 53 13)))), none], [sI (pKd (pAt (hI h 56 c) (fun j => hI h 57 (60 * c + j)) (-1000) (hI h 53 13)))], h)) rfl ?_
    refine s_ifc (q := .ge) (a := pKd (pAt (hI h 56 c) (fun j => hI h 57 (60 * c + j)) (-1000) (hI h 53 13))) rfl ⟨_, rfl⟩ rfl (by unfold sR aMi aMa; omega) (fun hc1 => ?_) (fun hc1 => ?_)
    · have hc1 : (0 : Int) ≤ (pKd (pAt (hI h 56 c) (fun j => hI h 57 (60 * c + j)) (-1000) (hI h 53 13))) := hc1
      omega
    · have hc1 : ¬ ((0 : Int) ≤ (pKd (pAt (hI h 56 c) (fun j => hI h 57 (60 * c + j)) (-1000) (hI h 53 13)))) := hc1
      refine sP 1 (g1 := (8, [some (.ref 53), some (sI ((c : Int))), some (sI ((a : Int))), some (sI (pKd (pAt (hI h 56 c) (fun j => hI h 57 (60 * c + j)) (-1000) (hI h 53 13)))), none], [sI 0], h)) rfl ?_
      exact s_reti rfl rfl (Or.inr ⟨rfl, by omega⟩) rfl rfl
  · have e1 : pPs (hI h 56 c) (fun j => hI h 57 (60 * c + j)) n (hI h 53 13) = pFg (hI h 56 c) (fun j => hI h 57 (60 * c + j)) n (hI h 53 13 + 1) := by
      unfold pPs
      rw [if_neg (by omega)]
    rw [e1]
    have hps : hI h 53 13 < hI h 56 c := by
      have q := hf
      rw [← el] at q
      unfold pLt at q
      split at q
      · assumption
      · omega
    have hF : sR (pKd (pAt (hI h 56 c) (fun j => hI h 57 (60 * c + j)) (-1000) (hI h 53 13))) := by unfold sR aMi aMa; omega
    have hix : (1 + (a : Int)).toNat = 1 + a := by omega
    have hg1 : aHp (hset h 59 (1 + (a : Int)).toNat (sI (pKd (pAt (hI h 56 c) (fun j => hI h 57 (60 * c + j)) (-1000) (hI h 53 13))))) := by
      rw [hix]
      exact hset_in hh (mz_k (by omega)) (by rw [sR_i hF]; omega) (by rw [sR_i hF]; omega)
    have s1 := fun e m => hset_slot (v := sI (pKd (pAt (hI h 56 c) (fun j => hI h 57 (60 * c + j)) (-1000) (hI h 53 13)))) (k := 50) (n := 201) (a := 59) hh rfl (show (1 + (a : Int)).toNat < 201 by omega) e m
    have q1 := hI_ne (v := sI (pKd (pAt (hI h 56 c) (fun j => hI h 57 (60 * c + j)) (-1000) (hI h 53 13)))) (k := 50) (n := 201) (a := 59) (b := 53) (m := 13) hh rfl (show (1 + (a : Int)).toNat < 201 by omega) (by omega)
    have hg2 := rp_hm (z := hI h 53 13 + 1) hg1 (by omega) (by omega)
    have s2 := fun e m => hset_slot (v := sI (hI h 53 13 + 1)) (k := 7) (n := 21) (a := 53) hg1 rfl (show 13 < 21 by omega) e m
    have t1 := hI_eq (z := hI h 53 13 + 1) (k := 7) (n := 21) (a := 53) hg1 rfl (show 13 < 21 by omega) (by unfold sR aMi aMa; omega)
    have hs2 : ∀ e m, ¬ (e = 53 ∧ m = 13) → ¬ (e = 59 ∧ m = 1 + a) → aSlot (hset (hset h 59 (1 + (a : Int)).toNat (sI (pKd (pAt (hI h 56 c) (fun j => hI h 57 (60 * c + j)) (-1000) (hI h 53 13))))) 53 13 (sI (hI h 53 13 + 1))) e m = aSlot h e m := fun e m u1 u2 => by rw [s2, if_neg u1, s1, if_neg (by omega)]
    have hs3 : aSlot (hset (hset h 59 (1 + (a : Int)).toNat (sI (pKd (pAt (hI h 56 c) (fun j => hI h 57 (60 * c + j)) (-1000) (hI h 53 13))))) 53 13 (sI (hI h 53 13 + 1))) 59 (1 + a) = some (sI (pKd (pAt (hI h 56 c) (fun j => hI h 57 (60 * c + j)) (-1000) (hI h 53 13)))) := by rw [s2, if_neg (by omega), s1, if_pos (by omega)]
    generalize hgg : hset (hset h 59 (1 + (a : Int)).toNat (sI (pKd (pAt (hI h 56 c) (fun j => hI h 57 (60 * c + j)) (-1000) (hI h 53 13))))) 53 13 (sI (hI h 53 13 + 1)) = g2 at hg2 hs2 hs3 t1
    have u1 : hI g2 56 c = hI h 56 c := by unfold hI; rw [hs2 _ _ (by omega) (by omega)]
    have u2 : (fun j => hI g2 57 (60 * c + j)) = (fun j => hI h 57 (60 * c + j)) := by funext m; unfold hI; rw [hs2 _ _ (by omega) (by omega)]
    have u3 : hI g2 59 0 = hI h 59 0 := by unfold hI; rw [hs2 _ _ (by omega) (by omega)]
    obtain ⟨h1, r1, r2, r3, r4, r5⟩ := fFigM (sc := sc) (d := d) (a := a) (kd := pKd (pAt (hI h 56 c) (fun j => hI h 57 (60 * c + j)) (-1000) (hI h 53 13))) hc ha n 0 g2 hg2 (by omega)
    rw [u1, u2, t1] at r1 r3 r5
    refine ⟨h1, nEv_of (t := mMe142) rfl ?_, r2, r3, fun e m w1 w2 w3 => ?_, fun hok => ⟨?_, fun j hj => ?_⟩⟩
    rotate_left
    · rw [r4 e m w1 (by omega), hs2 e m w1 w2]
    · have e2 : aSlot h1 59 (1 + a) = aSlot g2 59 (1 + a) := r4 59 (1 + a) (by omega) (by omega)
      rw [hs3] at e2
      rw [hI_of e2, sR_i hF, el]
    · have := r5 hok j hj
      rw [show 7 + 6 * a + j = 7 + 6 * a + 0 + j by omega, this]
    show nRn sc (d + 1) (mMT mMe142) (mMC mMe142) (0, [some (.ref 53), some (sI (c : Int)), some (sI (a : Int)), none, none], [], h) _
    rw [← hgg] at r1
    refine sP 2 (g1 := (2, [some (.ref 53), some (sI ((c : Int))), some (sI ((a : Int))), none, none], [sI ((c : Int)), .ref 53], h)) rfl ?_
    refine s_call (k := 141) (args := [.ref 53, sI ((c : Int))]) (st := []) (v := some (sI (pAt (hI h 56 c) (fun j => hI h 57 (60 * c + j)) (-1000) (hI h 53 13)))) (h1 := h) rfl ⟨rfl, rfl⟩ rfl rfl rfl rfl (sRcv hh (a := 53) rfl rfl) rfl (fHere hh hc) ?_
    refine s_call (k := 143) (args := [sI (pAt (hI h 56 c) (fun j => hI h 57 (60 * c + j)) (-1000) (hI h 53 13))]) (st := []) (v := some (sI (pKd (pAt (hI h 56 c) (fun j => hI h 57 (60 * c + j)) (-1000) (hI h 53 13))))) (h1 := h) rfl ⟨rfl, rfl⟩ rfl rfl rfl rfl rfl rfl (fKindM (by omega) (by omega)) ?_
    refine sP 2 (g1 := (6, [some (.ref 53), some (sI ((c : Int))), some (sI ((a : Int))), some (sI (pKd (pAt (hI h 56 c) (fun j => hI h 57 (60 * c + j)) (-1000) (hI h 53 13)))), none], [sI (pKd (pAt (hI h 56 c) (fun j => hI h 57 (60 * c + j)) (-1000) (hI h 53 13)))], h)) rfl ?_
    refine s_ifc (q := .ge) (a := pKd (pAt (hI h 56 c) (fun j => hI h 57 (60 * c + j)) (-1000) (hI h 53 13))) rfl ⟨_, rfl⟩ rfl (by unfold sR aMi aMa; omega) (fun hc1 => ?_) (fun hc1 => ?_)
    · have hc1 : (0 : Int) ≤ (pKd (pAt (hI h 56 c) (fun j => hI h 57 (60 * c + j)) (-1000) (hI h 53 13))) := hc1
      refine sP 1 (g1 := (10, [some (.ref 53), some (sI ((c : Int))), some (sI ((a : Int))), some (sI (pKd (pAt (hI h 56 c) (fun j => hI h 57 (60 * c + j)) (-1000) (hI h 53 13)))), none], [.ref 53], h)) rfl ?_
      refine s_get (a := 53) (j := 5) hh rfl ⟨_, rfl⟩ rfl rfl rfl (v := .ref 59) (hR_ok hh (by decide +kernel)) ?_
      refine sP 2 (g1 := (13, [some (.ref 53), some (sI ((c : Int))), some (sI ((a : Int))), some (sI (pKd (pAt (hI h 56 c) (fun j => hI h 57 (60 * c + j)) (-1000) (hI h 53 13)))), none], [sI ((a : Int)), sI 1, .ref 59], h)) rfl ?_
      refine s_add (a := 1) (b := (a : Int)) rfl rfl ?_
      refine sP 1 (g1 := (15, [some (.ref 53), some (sI ((c : Int))), some (sI ((a : Int))), some (sI (pKd (pAt (hI h 56 c) (fun j => hI h 57 (60 * c + j)) (-1000) (hI h 53 13)))), none], [sI (pKd (pAt (hI h 56 c) (fun j => hI h 57 (60 * c + j)) (-1000) (hI h 53 13))), sI (1 + ((a : Int))), .ref 59], h)) rfl ?_
      refine s_iast (a := 59) (n := 201) (j := 1 + ((a : Int))) hh rfl rfl rfl (by omega) (by omega) (by decide) ?_
      refine sP 2 (g1 := (18, [some (.ref 53), some (sI ((c : Int))), some (sI ((a : Int))), some (sI (pKd (pAt (hI h 56 c) (fun j => hI h 57 (60 * c + j)) (-1000) (hI h 53 13)))), none], [.ref 53, .ref 53], (hset h 59 (1 + ((a : Int))).toNat (sI (pKd (pAt (hI h 56 c) (fun j => hI h 57 (60 * c + j)) (-1000) (hI h 53 13))))))) rfl ?_
      refine s_get (a := 53) (j := 13) hg1 rfl ⟨_, rfl⟩ rfl rfl rfl (v := sI (hI h 53 13)) (by have q := hI_ok hg1 rp_m; rw [q1] at q; exact q) ?_
      refine sP 1 (g1 := (20, [some (.ref 53), some (sI ((c : Int))), some (sI ((a : Int))), some (sI (pKd (pAt (hI h 56 c) (fun j => hI h 57 (60 * c + j)) (-1000) (hI h 53 13)))), none], [sI 1, sI (hI h 53 13), .ref 53], (hset h 59 (1 + ((a : Int))).toNat (sI (pKd (pAt (hI h 56 c) (fun j => hI h 57 (60 * c + j)) (-1000) (hI h 53 13))))))) rfl ?_
      refine s_add (a := hI h 53 13) (b := 1) rfl rfl ?_
      refine s_put (a := 53) (j := 13) (k := 7) (n := 21) hg1 rfl ⟨_, rfl⟩ rfl rfl rfl (by decide) rfl ?_
      refine sP 2 (g1 := (24, [some (.ref 53), some (sI ((c : Int))), some (sI ((a : Int))), some (sI (pKd (pAt (hI h 56 c) (fun j => hI h 57 (60 * c + j)) (-1000) (hI h 53 13)))), some (sI 0)], [], (hset ((hset h 59 (1 + ((a : Int))).toNat (sI (pKd (pAt (hI h 56 c) (fun j => hI h 57 (60 * c + j)) (-1000) (hI h 53 13)))))) 53 13 (sI ((hI h 53 13) + 1))))) rfl ?_
      exact r1
    · have hc1 : ¬ ((0 : Int) ≤ (pKd (pAt (hI h 56 c) (fun j => hI h 57 (60 * c + j)) (-1000) (hI h 53 13)))) := hc1
      omega
theorem fFaultL {c n : Nat} (hc : c < 4) (hn6 : n ≤ 6) : ∀ (k a : Nat) (h : mH), a + k = n → aHp h → hI h 59 0 = n → hI h 53 13 ≤ 60 → ∃ h1, nRn sc (d + 2) (mMT mMe139) (mMC mMe139) (60, [some (.ref 53), some (sI (c : Int)), some (sI (a : Int))], [], h) (some (sI (pEnd (hI h 56 c) (fun j => hI h 57 (60 * c + j)) n k (hI h 53 13))), h1) ∧ aHp h1 ∧ (∀ e m, ¬ (e = 53 ∧ m = 13) → e ≠ 59 → aSlot h1 e m = aSlot h e m) ∧ (∀ m, (m < 1 + a ∨ (1 + n ≤ m ∧ m < 7 + 6 * a) ∨ 43 ≤ m) → aSlot h1 59 m = aSlot h 59 m) ∧ (pEnd (hI h 56 c) (fun j => hI h 57 (60 * c + j)) n k (hI h 53 13) = -9 → ∀ j, j < k → hI h1 59 (1 + (a + j)) = pLt (hI h 56 c) (fun j => hI h 57 (60 * c + j)) (pPo (hI h 56 c) (fun j => hI h 57 (60 * c + j)) n j (hI h 53 13)) ∧ ∀ b, b < n → hI h1 59 (7 + 6 * (a + j) + b) = pDt (hI h 56 c) (fun j => hI h 57 (60 * c + j)) (pPo (hI h 56 c) (fun j => hI h 57 (60 * c + j)) n j (hI h 53 13) + 1 + b)) := by
  intro k
  induction k with
  | zero =>
    intro a h hk hh hn p1
    have sz := hI_rg hh (tx_n hc)
    have pl := hI_rg hh rp_m
    have k1 := pSk_ge (hI h 56 c) (fun j => hI h 57 (60 * c + j)) 61 (hI h 53 13)
    have k2 := pSk_le (hI h 56 c) (fun j => hI h 57 (60 * c + j)) 61 (hI h 53 13)
    have hR : sR (pSk (hI h 56 c) (fun j => hI h 57 (60 * c + j)) 61 (hI h 53 13)) := by unfold sR aMi aMa; omega
    have hg1 := rp_hm (z := pSk (hI h 56 c) (fun j => hI h 57 (60 * c + j)) 61 (hI h 53 13)) hh (by omega) (by omega)
    have t1 := hI_eq (k := 7) (n := 21) (a := 53) (j := 13) hh rfl (by omega) hR
    have u1 := hI_ne (v := sI (pSk (hI h 56 c) (fun j => hI h 57 (60 * c + j)) 61 (hI h 53 13))) (k := 7) (n := 21) (a := 53) (j := 13) (b := 56) (m := c) hh rfl (by omega) (by omega)
    have s1 := fun e m => hset_slot (v := sI (pSk (hI h 56 c) (fun j => hI h 57 (60 * c + j)) 61 (hI h 53 13))) (k := 7) (n := 21) (a := 53) (j := 13) hh rfl (by omega) e m
    have ev := fBlank (sc := sc) (d := d) hh hc
    generalize hset h 53 13 (sI (pSk (hI h 56 c) (fun j => hI h 57 (60 * c + j)) 61 (hI h 53 13))) = g1 at hg1 t1 u1 s1 ev
    refine ⟨g1, ?_, hg1, fun e m w1 _ => by rw [s1, if_neg (by omega)], fun m _ => by rw [s1, if_neg (by omega)], fun _ j hj => by omega⟩
    refine sP 2 (g1 := (62, [some (.ref 53), some (sI ((c : Int))), some (sI ((a : Int)))], [.ref 53, sI ((a : Int))], h)) rfl ?_
    refine s_get (a := 53) (j := 5) hh rfl ⟨_, rfl⟩ rfl rfl rfl (v := .ref 59) (hR_ok hh (by decide +kernel)) ?_
    refine sP 1 (g1 := (64, [some (.ref 53), some (sI ((c : Int))), some (sI ((a : Int)))], [sI 0, .ref 59, sI ((a : Int))], h)) rfl ?_
    refine s_iald (a := 59) (n := 201) (j := 0) hh rfl rfl rfl (by omega) (by omega) (by decide) (v := sI (hI h 59 0)) (hI_ok hh mz_c) ?_
    refine s_icmp (q := .ge) (a := (a : Int)) (b := hI h 59 0) rfl ⟨_, rfl⟩ rfl (by unfold sR aMi aMa; omega) (by unfold sR aMi aMa; omega) (fun hc1 => ?_) (fun hc1 => ?_)
    · have hc1 : ((hI h 59 0) : Int) ≤ ((a : Int)) := hc1
      refine sP 2 (g1 := (81, [some (.ref 53), some (sI ((c : Int))), some (sI ((a : Int)))], [sI ((c : Int)), .ref 53], h)) rfl ?_
      refine s_call (k := 140) (args := [.ref 53, sI ((c : Int))]) (st := []) (v := none) (h1 := g1) rfl ⟨rfl, rfl⟩ rfl rfl rfl rfl (sRcv hh (a := 53) rfl rfl) rfl ev ?_
      refine sP 1 (g1 := (83, [some (.ref 53), some (sI ((c : Int))), some (sI ((a : Int)))], [.ref 53], g1)) rfl ?_
      refine s_get (a := 53) (j := 13) hg1 rfl ⟨_, rfl⟩ rfl rfl rfl (v := sI (pSk (hI h 56 c) (fun j => hI h 57 (60 * c + j)) 61 (hI h 53 13))) (by have q := hI_ok hg1 rp_m; rw [t1] at q; exact q) ?_
      refine sP 1 (g1 := (85, [some (.ref 53), some (sI ((c : Int))), some (sI ((a : Int)))], [.ref 53, sI (pSk (hI h 56 c) (fun j => hI h 57 (60 * c + j)) 61 (hI h 53 13))], g1)) rfl ?_
      refine s_get (a := 53) (j := 2) hg1 rfl ⟨_, rfl⟩ rfl rfl rfl (v := .ref 56) (hR_ok hg1 (by decide +kernel)) ?_
      refine sP 1 (g1 := (87, [some (.ref 53), some (sI ((c : Int))), some (sI ((a : Int)))], [sI ((c : Int)), .ref 56, sI (pSk (hI h 56 c) (fun j => hI h 57 (60 * c + j)) 61 (hI h 53 13))], g1)) rfl ?_
      refine s_iald (a := 56) (n := 4) (j := (c : Int)) hg1 rfl rfl rfl (by omega) (by omega) (by decide) (v := sI (hI h 56 c)) (by rw [Int.toNat_natCast]; have q := hI_ok hg1 (tx_n hc); rw [u1] at q; exact q) ?_
      refine s_icmp (q := .ge) (a := pSk (hI h 56 c) (fun j => hI h 57 (60 * c + j)) 61 (hI h 53 13)) (b := hI h 56 c) rfl ⟨_, rfl⟩ rfl (by unfold sR aMi aMa; omega) (by unfold sR aMi aMa; omega) (fun hc2 => ?_) (fun hc2 => ?_)
      · have hc2 : ((hI h 56 c) : Int) ≤ (pSk (hI h 56 c) (fun j => hI h 57 (60 * c + j)) 61 (hI h 53 13)) := hc2
        refine sP 1 (g1 := (93, [some (.ref 53), some (sI ((c : Int))), some (sI ((a : Int)))], [sI ((-9))], g1)) rfl ?_
        exact s_reti rfl rfl (Or.inl rfl) (by unfold pEnd; first | rw [if_pos (by omega)] | rw [if_neg (by omega)]) rfl
      · have hc2 : ¬ (((hI h 56 c) : Int) ≤ (pSk (hI h 56 c) (fun j => hI h 57 (60 * c + j)) 61 (hI h 53 13))) := hc2
        refine sP 1 (g1 := (90, [some (.ref 53), some (sI ((c : Int))), some (sI ((a : Int)))], [.ref 53], g1)) rfl ?_
        refine s_get (a := 53) (j := 13) hg1 rfl ⟨_, rfl⟩ rfl rfl rfl (v := sI (pSk (hI h 56 c) (fun j => hI h 57 (60 * c + j)) 61 (hI h 53 13))) (by have q := hI_ok hg1 rp_m; rw [t1] at q; exact q) ?_
        refine sP 1 (g1 := (93, [some (.ref 53), some (sI ((c : Int))), some (sI ((a : Int)))], [sI (pSk (hI h 56 c) (fun j => hI h 57 (60 * c + j)) 61 (hI h 53 13))], g1)) rfl ?_
        exact s_reti rfl rfl (Or.inl rfl) (by unfold pEnd; first | rw [if_pos (by omega)] | rw [if_neg (by omega)]) rfl
    · have hc1 : ¬ (((hI h 59 0) : Int) ≤ ((a : Int))) := hc1
      omega
  | succ k ih =>
    intro a h hk hh hn p1
    have sz := hI_rg hh (tx_n hc)
    have pl := hI_rg hh rp_m
    have k1 := pSk_ge (hI h 56 c) (fun j => hI h 57 (60 * c + j)) 61 (hI h 53 13)
    have k2 := pSk_le (hI h 56 c) (fun j => hI h 57 (60 * c + j)) 61 (hI h 53 13)
    have hR : sR (pSk (hI h 56 c) (fun j => hI h 57 (60 * c + j)) 61 (hI h 53 13)) := by unfold sR aMi aMa; omega
    have hg1 := rp_hm (z := pSk (hI h 56 c) (fun j => hI h 57 (60 * c + j)) 61 (hI h 53 13)) hh (by omega) (by omega)
    have t1 := hI_eq (k := 7) (n := 21) (a := 53) (j := 13) hh rfl (by omega) hR
    have u1 := hI_ne (v := sI (pSk (hI h 56 c) (fun j => hI h 57 (60 * c + j)) 61 (hI h 53 13))) (k := 7) (n := 21) (a := 53) (j := 13) (b := 56) (m := c) hh rfl (by omega) (by omega)
    have u2 : (fun j => hI (hset h 53 13 (sI (pSk (hI h 56 c) (fun j => hI h 57 (60 * c + j)) 61 (hI h 53 13)))) 57 (60 * c + j)) = (fun j => hI h 57 (60 * c + j)) := by rw [hI_nf (k := 7) (n := 21) (a := 53) (j := 13) hh rfl (by omega) (by omega)]
    have u3 := hI_ne (v := sI (pSk (hI h 56 c) (fun j => hI h 57 (60 * c + j)) 61 (hI h 53 13))) (k := 7) (n := 21) (a := 53) (j := 13) (b := 59) (m := 0) hh rfl (by omega) (by omega)
    have s1 := fun e m => hset_slot (v := sI (pSk (hI h 56 c) (fun j => hI h 57 (60 * c + j)) 61 (hI h 53 13))) (k := 7) (n := 21) (a := 53) (j := 13) hh rfl (by omega) e m
    have ev := fBlank (sc := sc) (d := d) hh hc
    generalize hset h 53 13 (sI (pSk (hI h 56 c) (fun j => hI h 57 (60 * c + j)) 61 (hI h 53 13))) = g1 at hg1 t1 u1 u2 u3 s1 ev
    obtain ⟨g2, v1, v2, v3, v4, v5⟩ := fPersonM (sc := sc) (d := d) (a := a) (n := n) hc (by omega) hg1 (by omega)
    rw [u1, u2, t1] at v1 v3 v5
    obtain ⟨q1, q2, q3⟩ := pPs_rg (hI h 56 c) (fun j => hI h 57 (60 * c + j)) n (pSk (hI h 56 c) (fun j => hI h 57 (60 * c + j)) 61 (hI h 53 13))
    have f0 : ∀ e m, ¬ (e = 53 ∧ m = 13) → e ≠ 59 → aSlot g2 e m = aSlot h e m := fun e m w1 w2 => by rw [v4 e m w1 (by omega) (by omega), s1, if_neg (by omega)]
    have f1 : ∀ m, (m < 1 + a ∨ (1 + n ≤ m ∧ m < 7 + 6 * a) ∨ 43 ≤ m) → aSlot g2 59 m = aSlot h 59 m := fun m w => by rw [v4 59 m (by omega) (by omega) (by omega), s1, if_neg (by omega)]
    by_cases hok : (pPs (hI h 56 c) (fun j => hI h 57 (60 * c + j)) n (pSk (hI h 56 c) (fun j => hI h 57 (60 * c + j)) 61 (hI h 53 13))).1 = true
    · have e1 : pEnd (hI h 56 c) (fun j => hI h 57 (60 * c + j)) n (k + 1) (hI h 53 13) = pEnd (hI h 56 c) (fun j => hI h 57 (60 * c + j)) n k (pPs (hI h 56 c) (fun j => hI h 57 (60 * c + j)) n (pSk (hI h 56 c) (fun j => hI h 57 (60 * c + j)) 61 (hI h 53 13))).2 := by
        show (if _ then _ else _) = _
        rw [if_pos hok]
      have y1 : hI g2 56 c = hI h 56 c := by unfold hI; rw [f0 _ _ (by omega) (by omega)]
      have y2 : (fun j => hI g2 57 (60 * c + j)) = (fun j => hI h 57 (60 * c + j)) := by funext m; unfold hI; rw [f0 _ _ (by omega) (by omega)]
      have y3 : hI g2 59 0 = n := by rw [← hn]; unfold hI; rw [f1 0 (by omega)]
      obtain ⟨h1, r1, r2, r3, r4, r6⟩ := ih (a + 1) g2 (by omega) v2 y3 (by omega)
      rw [y1, y2, v3] at r1 r6
      rw [e1]
      rw [if_pos hok] at v1
      refine ⟨h1, ?_, r2, fun e m w1 w2 => (r3 e m w1 w2).trans (f0 e m w1 w2), fun m w => (r4 m (by omega)).trans (f1 m w), fun hz j hj => ?_⟩
      rotate_left
      · match j, hj with
        | 0, _ =>
          obtain ⟨x1, x2⟩ := v5 hok
          refine ⟨?_, fun b hb => ?_⟩
          · show hI h1 59 (1 + a) = pLt _ _ (pSk _ _ 61 _)
            rw [← x1]
            unfold hI
            rw [r4 (1 + a) (by omega)]
          · show hI h1 59 (7 + 6 * a + b) = pDt _ _ (pSk _ _ 61 _ + 1 + b)
            rw [← x2 b hb]
            unfold hI
            rw [r4 (7 + 6 * a + b) (by omega)]
        | j + 1, hj =>
          have := r6 hz j (by omega)
          rw [q3 hok] at this
          rw [show a + (j + 1) = a + 1 + j by omega]
          exact this
      refine sP 2 (g1 := (62, [some (.ref 53), some (sI ((c : Int))), some (sI ((a : Int)))], [.ref 53, sI ((a : Int))], h)) rfl ?_
      refine s_get (a := 53) (j := 5) hh rfl ⟨_, rfl⟩ rfl rfl rfl (v := .ref 59) (hR_ok hh (by decide +kernel)) ?_
      refine sP 1 (g1 := (64, [some (.ref 53), some (sI ((c : Int))), some (sI ((a : Int)))], [sI 0, .ref 59, sI ((a : Int))], h)) rfl ?_
      refine s_iald (a := 59) (n := 201) (j := 0) hh rfl rfl rfl (by omega) (by omega) (by decide) (v := sI (hI h 59 0)) (hI_ok hh mz_c) ?_
      refine s_icmp (q := .ge) (a := (a : Int)) (b := hI h 59 0) rfl ⟨_, rfl⟩ rfl (by unfold sR aMi aMa; omega) (by unfold sR aMi aMa; omega) (fun hc1 => ?_) (fun hc1 => ?_)
      · have hc1 : ((hI h 59 0) : Int) ≤ ((a : Int)) := hc1
        omega
      · have hc1 : ¬ (((hI h 59 0) : Int) ≤ ((a : Int))) := hc1
        refine sP 2 (g1 := (68, [some (.ref 53), some (sI ((c : Int))), some (sI ((a : Int)))], [sI ((c : Int)), .ref 53], h)) rfl ?_
        refine s_call (k := 140) (args := [.ref 53, sI ((c : Int))]) (st := []) (v := none) (h1 := g1) rfl ⟨rfl, rfl⟩ rfl rfl rfl rfl (sRcv hh (a := 53) rfl rfl) rfl ev ?_
        refine sP 3 (g1 := (72, [some (.ref 53), some (sI ((c : Int))), some (sI ((a : Int)))], [sI ((a : Int)), sI ((c : Int)), .ref 53], g1)) rfl ?_
        refine s_call (k := 142) (args := [.ref 53, sI ((c : Int)), sI ((a : Int))]) (st := []) (v := some (sI 1)) (h1 := g2) rfl ⟨rfl, rfl⟩ rfl rfl rfl rfl (sRcv hg1 (a := 53) rfl rfl) rfl v1 ?_
        refine s_ifc (q := .ne) (a := 1) rfl ⟨_, rfl⟩ rfl (by unfold sR aMi aMa; omega) (fun hc2 => ?_) (fun hc2 => ?_)
        · have hc2 : (1 : Int) ≠ 0 := hc2
          refine s_inc (a := (a : Int)) (n := 1) (k := 2) rfl rfl rfl ?_
          refine sP 1 (g1 := (60, [some (.ref 53), some (sI ((c : Int))), some (sI (((a : Int)) + 1))], [], g2)) rfl ?_
          rw [show ((a : Int) + 1) = ((a + 1 : Nat) : Int) by omega]
          exact r1
        · have hc2 : ¬ ((1 : Int) ≠ 0) := hc2
          omega
    · have e1 : pEnd (hI h 56 c) (fun j => hI h 57 (60 * c + j)) n (k + 1) (hI h 53 13) = (pPs (hI h 56 c) (fun j => hI h 57 (60 * c + j)) n (pSk (hI h 56 c) (fun j => hI h 57 (60 * c + j)) 61 (hI h 53 13))).2 := by
        show (if _ then _ else _) = _
        rw [if_neg hok]
      rw [e1]
      rw [if_neg hok] at v1
      refine ⟨g2, ?_, v2, f0, f1, fun hz => by omega⟩
      refine sP 2 (g1 := (62, [some (.ref 53), some (sI ((c : Int))), some (sI ((a : Int)))], [.ref 53, sI ((a : Int))], h)) rfl ?_
      refine s_get (a := 53) (j := 5) hh rfl ⟨_, rfl⟩ rfl rfl rfl (v := .ref 59) (hR_ok hh (by decide +kernel)) ?_
      refine sP 1 (g1 := (64, [some (.ref 53), some (sI ((c : Int))), some (sI ((a : Int)))], [sI 0, .ref 59, sI ((a : Int))], h)) rfl ?_
      refine s_iald (a := 59) (n := 201) (j := 0) hh rfl rfl rfl (by omega) (by omega) (by decide) (v := sI (hI h 59 0)) (hI_ok hh mz_c) ?_
      refine s_icmp (q := .ge) (a := (a : Int)) (b := hI h 59 0) rfl ⟨_, rfl⟩ rfl (by unfold sR aMi aMa; omega) (by unfold sR aMi aMa; omega) (fun hc1 => ?_) (fun hc1 => ?_)
      · have hc1 : ((hI h 59 0) : Int) ≤ ((a : Int)) := hc1
        omega
      · have hc1 : ¬ (((hI h 59 0) : Int) ≤ ((a : Int))) := hc1
        refine sP 2 (g1 := (68, [some (.ref 53), some (sI ((c : Int))), some (sI ((a : Int)))], [sI ((c : Int)), .ref 53], h)) rfl ?_
        refine s_call (k := 140) (args := [.ref 53, sI ((c : Int))]) (st := []) (v := none) (h1 := g1) rfl ⟨rfl, rfl⟩ rfl rfl rfl rfl (sRcv hh (a := 53) rfl rfl) rfl ev ?_
        refine sP 3 (g1 := (72, [some (.ref 53), some (sI ((c : Int))), some (sI ((a : Int)))], [sI ((a : Int)), sI ((c : Int)), .ref 53], g1)) rfl ?_
        refine s_call (k := 142) (args := [.ref 53, sI ((c : Int)), sI ((a : Int))]) (st := []) (v := some (sI 0)) (h1 := g2) rfl ⟨rfl, rfl⟩ rfl rfl rfl rfl (sRcv hg1 (a := 53) rfl rfl) rfl v1 ?_
        refine s_ifc (q := .ne) (a := 0) rfl ⟨_, rfl⟩ rfl (by unfold sR aMi aMa; omega) (fun hc2 => ?_) (fun hc2 => ?_)
        · have hc2 : (0 : Int) ≠ 0 := hc2
          omega
        · have hc2 : ¬ ((0 : Int) ≠ 0) := hc2
          refine sP 1 (g1 := (75, [some (.ref 53), some (sI ((c : Int))), some (sI ((a : Int)))], [.ref 53], g2)) rfl ?_
          refine s_get (a := 53) (j := 13) v2 rfl ⟨_, rfl⟩ rfl rfl rfl (v := sI ((pPs (hI h 56 c) (fun j => hI h 57 (60 * c + j)) n (pSk (hI h 56 c) (fun j => hI h 57 (60 * c + j)) 61 (hI h 53 13))).2)) (by have q := hI_ok v2 rp_m; rw [v3] at q; exact q) ?_
          exact s_reti rfl rfl (Or.inl rfl) rfl rfl
theorem rHm {z : Int} {c : Nat} (hh : aHp h) (z0 : 0 ≤ z) (z1 : z ≤ 61) : aHp (hset h 53 13 (sI z)) ∧ hI (hset h 53 13 (sI z)) 53 13 = z ∧ hI (hset h 53 13 (sI z)) 56 c = hI h 56 c ∧ (fun j => hI (hset h 53 13 (sI z)) 57 (60 * c + j)) = (fun j => hI h 57 (60 * c + j)) :=
  ⟨rp_hm hh z0 z1, hI_eq (k := 7) (n := 21) hh rfl (by omega) (by unfold sR aMi aMa; omega), hI_ne (k := 7) (n := 21) hh rfl (by omega) (by omega), by rw [hI_nf (k := 7) (n := 21) hh rfl (by omega) (by omega)]⟩
theorem fBlankH {c : Nat} {z : Int} (hh : aHp h) (hc : c < 4) (z0 : 0 ≤ z) (z1 : z ≤ 61) : nEv sc (d + 2) 140 [.ref 53, sI (c : Int)] (hset h 53 13 (sI z)) (none, hset h 53 13 (sI (pSk (hI h 56 c) (fun j => hI h 57 (60 * c + j)) 61 z))) := by
  obtain ⟨a1, a2, a3, a4⟩ := rHm (z := z) (c := c) hh z0 z1
  have := fBlank (sc := sc) (d := d) a1 hc
  rw [a2, a3, a4, hset_hset] at this
  exact this
theorem fHereH {c : Nat} {z : Int} (hh : aHp h) (hc : c < 4) (z0 : 0 ≤ z) (z1 : z ≤ 61) : nEv sc (d + 1) 141 [.ref 53, sI (c : Int)] (hset h 53 13 (sI z)) (some (sI (pAt (hI h 56 c) (fun j => hI h 57 (60 * c + j)) (-1000) z)), hset h 53 13 (sI z)) := by
  obtain ⟨a1, a2, a3, a4⟩ := rHm (z := z) (c := c) hh z0 z1
  have := fHere (sc := sc) (d := d) a1 hc
  rw [a2, a3, a4] at this
  exact this
theorem pAt_rgm {c : Nat} {z : Int} (hh : aHp h) (hc : c < 4) (z0 : 0 ≤ z) : -1000 ≤ pAt (hI h 56 c) (fun j => hI h 57 (60 * c + j)) (-1000) z ∧ pAt (hI h 56 c) (fun j => hI h 57 (60 * c + j)) (-1000) z ≤ 127 := by
  have sz := hI_rg hh (tx_n hc)
  unfold pAt
  split
  · have := hI_rg hh (tx_m (j := 60 * c + z.toNat) (by omega))
    show -1000 ≤ hI h 57 _ ∧ hI h 57 _ ≤ 127
    omega
  · omega
/-- all that was read before is put out -/
theorem fZeroL {c : Nat} : ∀ (k j : Nat) (h : mH), j + k = 201 → aHp h → ∃ h1, aHp h1 ∧ (∀ e m, aSlot h1 e m = if e = 59 ∧ j ≤ m ∧ m < 201 then some (sI 0) else aSlot h e m) ∧ ∀ r, nRn sc d (mMT mMe139) (mMC mMe139) (12, [some (.ref 53), some (sI (c : Int)), some (sI ((201 : Nat) : Int))], [], h1) r → nRn sc d (mMT mMe139) (mMC mMe139) (2, [some (.ref 53), some (sI (c : Int)), some (sI (j : Int))], [], h) r := by
  intro k
  induction k with
  | zero =>
    intro j h hk hh
    have hj : j = 201 := by omega
    subst hj
    refine ⟨h, hh, fun e m => by rw [if_neg (by omega)], fun r hr => ?_⟩
    refine sP 2 (g1 := (4, [some (.ref 53), some (sI ((c : Int))), some (sI (((201 : Nat) : Int)))], [sI 201, sI (((201 : Nat) : Int))], h)) rfl ?_
    refine s_icmp (q := .ge) (a := ((201 : Nat) : Int)) (b := 201) rfl ⟨_, rfl⟩ rfl (by unfold sR aMi aMa; omega) (by unfold sR aMi aMa; omega) (fun hc1 => ?_) (fun hc1 => ?_)
    · have hc1 : (201 : Int) ≤ (((201 : Nat) : Int)) := hc1
      exact hr
    · have hc1 : ¬ ((201 : Int) ≤ (((201 : Nat) : Int))) := hc1
      omega
  | succ k ih =>
    intro j h hk hh
    have hg1 : aHp (hset h 59 (j : Int).toNat (sI 0)) := hset_in hh (mz_0 (by omega)) (by decide) (by decide)
    have s1 := fun e m => hset_slot (v := sI 0) (k := 50) (n := 201) (a := 59) hh rfl (show (j : Int).toNat < 201 by omega) e m
    obtain ⟨h1, r1, r2, r3⟩ := ih (j + 1) _ (by omega) hg1
    refine ⟨h1, r1, fun e m => ?_, fun r hr => ?_⟩
    · rw [r2, s1]
      by_cases e1 : e = 59 ∧ j ≤ m ∧ m < 201
      · rw [if_pos e1]
        by_cases e2 : m = j
        · rw [if_neg (by omega), if_pos (by omega)]
        · rw [if_pos (by omega)]
      · rw [if_neg e1, if_neg (by omega), if_neg (by omega)]
    have r1 := r3 r hr
    refine sP 2 (g1 := (4, [some (.ref 53), some (sI ((c : Int))), some (sI ((j : Int)))], [sI 201, sI ((j : Int))], h)) rfl ?_
    refine s_icmp (q := .ge) (a := (j : Int)) (b := 201) rfl ⟨_, rfl⟩ rfl (by unfold sR aMi aMa; omega) (by unfold sR aMi aMa; omega) (fun hc1 => ?_) (fun hc1 => ?_)
    · have hc1 : (201 : Int) ≤ ((j : Int)) := hc1
      omega
    · have hc1 : ¬ ((201 : Int) ≤ ((j : Int))) := hc1
      refine sP 1 (g1 := (6, [some (.ref 53), some (sI ((c : Int))), some (sI ((j : Int)))], [.ref 53], h)) rfl ?_
      refine s_get (a := 53) (j := 5) hh rfl ⟨_, rfl⟩ rfl rfl rfl (v := .ref 59) (hR_ok hh (by decide +kernel)) ?_
      refine sP 2 (g1 := (9, [some (.ref 53), some (sI ((c : Int))), some (sI ((j : Int)))], [sI 0, sI ((j : Int)), .ref 59], h)) rfl ?_
      refine s_iast (a := 59) (n := 201) (j := (j : Int)) hh rfl rfl rfl (by omega) (by omega) (by decide) ?_
      refine s_inc (a := (j : Int)) (n := 1) (k := 2) rfl rfl rfl ?_
      refine sP 1 (g1 := (2, [some (.ref 53), some (sI ((c : Int))), some (sI (((j : Int)) + 1))], [], (hset h 59 ((j : Int)).toNat (sI 0)))) rfl ?_
      rw [show ((j : Int) + 1) = ((j + 1 : Nat) : Int) by omega]
      exact r1
/-- reading, once the old is put out -/
theorem fFault1 {c : Nat} {X : Option Value} (hc : c < 4) (hh : aHp h) : ∃ h1, nRn sc (d + 2) (mMT mMe139) (mMC mMe139) (12, [some (.ref 53), some (sI (c : Int)), X], [], h) (some (sI (pRd (hI h 56 c) (fun j => hI h 57 (60 * c + j)))), h1) ∧ aHp h1 ∧ (∀ e m, ¬ (e = 53 ∧ m = 13) → e ≠ 59 → aSlot h1 e m = aSlot h e m) ∧ (pRd (hI h 56 c) (fun j => hI h 57 (60 * c + j)) = -9 → ∃ n : Nat, 2 ≤ n ∧ n ≤ 6 ∧ (n : Int) = pDt (hI h 56 c) (fun j => hI h 57 (60 * c + j)) (pSk (hI h 56 c) (fun j => hI h 57 (60 * c + j)) 61 0 + 1) ∧ hI h1 59 0 = n ∧ (∀ m, 43 ≤ m → aSlot h1 59 m = aSlot h 59 m) ∧ ∀ a, a < n → hI h1 59 (1 + a) = pLt (hI h 56 c) (fun j => hI h 57 (60 * c + j)) (pPo (hI h 56 c) (fun j => hI h 57 (60 * c + j)) n a (pSk (hI h 56 c) (fun j => hI h 57 (60 * c + j)) 61 0 + 2)) ∧ ∀ b, b < n → hI h1 59 (7 + 6 * a + b) = pDt (hI h 56 c) (fun j => hI h 57 (60 * c + j)) (pPo (hI h 56 c) (fun j => hI h 57 (60 * c + j)) n a (pSk (hI h 56 c) (fun j => hI h 57 (60 * c + j)) 61 0 + 2) + 1 + b)) := by
  have sz := hI_rg hh (tx_n hc)
  have k1 := pSk_ge (hI h 56 c) (fun j => hI h 57 (60 * c + j)) 61 0
  have k2 := pSk_le (hI h 56 c) (fun j => hI h 57 (60 * c + j)) 61 0
  have x0 := (rHm (z := 0) (c := c) hh (by omega) (by omega)).1
  have x1 := (rHm (z := pSk (hI h 56 c) (fun j => hI h 57 (60 * c + j)) 61 0) (c := c) hh (by omega) (by omega)).1
  have w1 := (rHm (z := pSk (hI h 56 c) (fun j => hI h 57 (60 * c + j)) 61 0) (c := c) hh (by omega) (by omega)).2.1
  have x2 := (rHm (z := pSk (hI h 56 c) (fun j => hI h 57 (60 * c + j)) 61 0 + 1) (c := c) hh (by omega) (by omega)).1
  have w2 := (rHm (z := pSk (hI h 56 c) (fun j => hI h 57 (60 * c + j)) 61 0 + 1) (c := c) hh (by omega) (by omega)).2.1
  have r1 := pAt_rgm (z := pSk (hI h 56 c) (fun j => hI h 57 (60 * c + j)) 61 0) hh hc (by omega)
  have r2 := pAt_rgm (z := pSk (hI h 56 c) (fun j => hI h 57 (60 * c + j)) 61 0 + 1) hh hc (by omega)
  have ed := pAt_dt (sz := hI h 56 c) (e := -1000) (p := pSk (hI h 56 c) (fun j => hI h 57 (60 * c + j)) 61 0 + 1) (g := (fun j => hI h 57 (60 * c + j))) (by omega)
  have fr : ∀ z : Int, ∀ e m, ¬ (e = 53 ∧ m = 13) → e ≠ 59 → aSlot (hset h 53 13 (sI z)) e m = aSlot h e m := fun z e m y _ => by rw [hset_slot (k := 7) (n := 21) hh rfl (by omega), if_neg (by omega)]
  have e1 : pAt (hI h 56 c) (fun j => hI h 57 (60 * c + j)) (-1000) (pSk (hI h 56 c) (fun j => hI h 57 (60 * c + j)) 61 0) = 110 ↔ (pSk (hI h 56 c) (fun j => hI h 57 (60 * c + j)) 61 0 < hI h 56 c ∧ (fun j => hI h 57 (60 * c + j)) (pSk (hI h 56 c) (fun j => hI h 57 (60 * c + j)) 61 0).toNat = 110) := by
    unfold pAt
    split
    · rename_i q
      exact ⟨fun z => ⟨q, z⟩, fun z => z.2⟩
    · rename_i q
      exact ⟨fun z => by omega, fun z => absurd z.1 q⟩
  by_cases c1 : pAt (hI h 56 c) (fun j => hI h 57 (60 * c + j)) (-1000) (pSk (hI h 56 c) (fun j => hI h 57 (60 * c + j)) 61 0) = 110
  rotate_left
  · have e2 : pRd (hI h 56 c) (fun j => hI h 57 (60 * c + j)) = pSk (hI h 56 c) (fun j => hI h 57 (60 * c + j)) 61 0 := by
      unfold pRd
      rw [if_pos (fun q => c1 (e1.mpr q))]
    rw [e2]
    refine ⟨_, ?_, x1, fr _, fun q => by omega⟩
    refine sP 2 (g1 := (14, [some (.ref 53), some (sI ((c : Int))), X], [sI 0, .ref 53], h)) rfl ?_
    refine s_put (a := 53) (j := 13) (k := 7) (n := 21) hh rfl ⟨_, rfl⟩ rfl rfl rfl (by decide) rfl ?_
    refine sP 2 (g1 := (17, [some (.ref 53), some (sI ((c : Int))), X], [sI ((c : Int)), .ref 53], (hset h 53 13 (sI (0))))) rfl ?_
    refine s_call (k := 140) (args := [.ref 53, sI ((c : Int))]) (st := []) (v := none) (h1 := (hset h 53 13 (sI (pSk (hI h 56 c) (fun j => hI h 57 (60 * c + j)) 61 0)))) rfl ⟨rfl, rfl⟩ rfl rfl rfl rfl (sRcv x0 (a := 53) rfl rfl) rfl (fBlankH hh hc (by omega) (by omega)) ?_
    refine sP 2 (g1 := (20, [some (.ref 53), some (sI ((c : Int))), X], [sI ((c : Int)), .ref 53], (hset h 53 13 (sI (pSk (hI h 56 c) (fun j => hI h 57 (60 * c + j)) 61 0))))) rfl ?_
    refine s_call (k := 141) (args := [.ref 53, sI ((c : Int))]) (st := []) (v := some (sI (pAt (hI h 56 c) (fun j => hI h 57 (60 * c + j)) (-1000) (pSk (hI h 56 c) (fun j => hI h 57 (60 * c + j)) 61 0)))) (h1 := (hset h 53 13 (sI (pSk (hI h 56 c) (fun j => hI h 57 (60 * c + j)) 61 0)))) rfl ⟨rfl, rfl⟩ rfl rfl rfl rfl (sRcv x1 (a := 53) rfl rfl) rfl (fHereH hh hc (by omega) (by omega)) ?_
    refine sP 1 (g1 := (22, [some (.ref 53), some (sI ((c : Int))), X], [sI 110, sI (pAt (hI h 56 c) (fun j => hI h 57 (60 * c + j)) (-1000) (pSk (hI h 56 c) (fun j => hI h 57 (60 * c + j)) 61 0))], (hset h 53 13 (sI (pSk (hI h 56 c) (fun j => hI h 57 (60 * c + j)) 61 0))))) rfl ?_
    refine s_icmp (q := .eq) (a := pAt (hI h 56 c) (fun j => hI h 57 (60 * c + j)) (-1000) (pSk (hI h 56 c) (fun j => hI h 57 (60 * c + j)) 61 0)) (b := 110) rfl ⟨_, rfl⟩ rfl (by unfold sR aMi aMa; omega) (by unfold sR aMi aMa; omega) (fun hc1 => ?_) (fun hc1 => ?_)
    · have hc1 : ((pAt (hI h 56 c) (fun j => hI h 57 (60 * c + j)) (-1000) (pSk (hI h 56 c) (fun j => hI h 57 (60 * c + j)) 61 0)) : Int) = 110 := hc1
      omega
    · have hc1 : ¬ (((pAt (hI h 56 c) (fun j => hI h 57 (60 * c + j)) (-1000) (pSk (hI h 56 c) (fun j => hI h 57 (60 * c + j)) 61 0)) : Int) = 110) := hc1
      refine sP 1 (g1 := (24, [some (.ref 53), some (sI ((c : Int))), X], [.ref 53], (hset h 53 13 (sI (pSk (hI h 56 c) (fun j => hI h 57 (60 * c + j)) 61 0))))) rfl ?_
      refine s_get (a := 53) (j := 13) x1 rfl ⟨_, rfl⟩ rfl rfl rfl (v := sI (pSk (hI h 56 c) (fun j => hI h 57 (60 * c + j)) 61 0)) (by have q := hI_ok x1 rp_m; rw [w1] at q; exact q) ?_
      exact s_reti rfl rfl (Or.inl rfl) rfl rfl
  have c1' := e1.mp c1
  by_cases c2 : pDt (hI h 56 c) (fun j => hI h 57 (60 * c + j)) (pSk (hI h 56 c) (fun j => hI h 57 (60 * c + j)) 61 0 + 1) < 2 ∨ 6 < pDt (hI h 56 c) (fun j => hI h 57 (60 * c + j)) (pSk (hI h 56 c) (fun j => hI h 57 (60 * c + j)) 61 0 + 1)
  · have e2 : pRd (hI h 56 c) (fun j => hI h 57 (60 * c + j)) = pSk (hI h 56 c) (fun j => hI h 57 (60 * c + j)) 61 0 + 1 := by
      unfold pRd
      rw [if_neg (fun q => q c1'), if_pos c2]
    have c3 : ¬ (50 ≤ pAt (hI h 56 c) (fun j => hI h 57 (60 * c + j)) (-1000) (pSk (hI h 56 c) (fun j => hI h 57 (60 * c + j)) 61 0 + 1) ∧ pAt (hI h 56 c) (fun j => hI h 57 (60 * c + j)) (-1000) (pSk (hI h 56 c) (fun j => hI h 57 (60 * c + j)) 61 0 + 1) ≤ 54) := by
      rw [ed] at c2
      split at c2 <;> omega
    rw [e2]
    refine ⟨_, ?_, x2, fr _, fun q => by omega⟩
    refine sP 2 (g1 := (14, [some (.ref 53), some (sI ((c : Int))), X], [sI 0, .ref 53], h)) rfl ?_
    refine s_put (a := 53) (j := 13) (k := 7) (n := 21) hh rfl ⟨_, rfl⟩ rfl rfl rfl (by decide) rfl ?_
    refine sP 2 (g1 := (17, [some (.ref 53), some (sI ((c : Int))), X], [sI ((c : Int)), .ref 53], (hset h 53 13 (sI (0))))) rfl ?_
    refine s_call (k := 140) (args := [.ref 53, sI ((c : Int))]) (st := []) (v := none) (h1 := (hset h 53 13 (sI (pSk (hI h 56 c) (fun j => hI h 57 (60 * c + j)) 61 0)))) rfl ⟨rfl, rfl⟩ rfl rfl rfl rfl (sRcv x0 (a := 53) rfl rfl) rfl (fBlankH hh hc (by omega) (by omega)) ?_
    refine sP 2 (g1 := (20, [some (.ref 53), some (sI ((c : Int))), X], [sI ((c : Int)), .ref 53], (hset h 53 13 (sI (pSk (hI h 56 c) (fun j => hI h 57 (60 * c + j)) 61 0))))) rfl ?_
    refine s_call (k := 141) (args := [.ref 53, sI ((c : Int))]) (st := []) (v := some (sI (pAt (hI h 56 c) (fun j => hI h 57 (60 * c + j)) (-1000) (pSk (hI h 56 c) (fun j => hI h 57 (60 * c + j)) 61 0)))) (h1 := (hset h 53 13 (sI (pSk (hI h 56 c) (fun j => hI h 57 (60 * c + j)) 61 0)))) rfl ⟨rfl, rfl⟩ rfl rfl rfl rfl (sRcv x1 (a := 53) rfl rfl) rfl (fHereH hh hc (by omega) (by omega)) ?_
    refine sP 1 (g1 := (22, [some (.ref 53), some (sI ((c : Int))), X], [sI 110, sI (pAt (hI h 56 c) (fun j => hI h 57 (60 * c + j)) (-1000) (pSk (hI h 56 c) (fun j => hI h 57 (60 * c + j)) 61 0))], (hset h 53 13 (sI (pSk (hI h 56 c) (fun j => hI h 57 (60 * c + j)) 61 0))))) rfl ?_
    refine s_icmp (q := .eq) (a := pAt (hI h 56 c) (fun j => hI h 57 (60 * c + j)) (-1000) (pSk (hI h 56 c) (fun j => hI h 57 (60 * c + j)) 61 0)) (b := 110) rfl ⟨_, rfl⟩ rfl (by unfold sR aMi aMa; omega) (by unfold sR aMi aMa; omega) (fun hc1 => ?_) (fun hc1 => ?_)
    · have hc1 : ((pAt (hI h 56 c) (fun j => hI h 57 (60 * c + j)) (-1000) (pSk (hI h 56 c) (fun j => hI h 57 (60 * c + j)) 61 0)) : Int) = 110 := hc1
      refine sP 2 (g1 := (28, [some (.ref 53), some (sI ((c : Int))), X], [.ref 53, .ref 53], (hset h 53 13 (sI (pSk (hI h 56 c) (fun j => hI h 57 (60 * c + j)) 61 0))))) rfl ?_
      refine s_get (a := 53) (j := 13) x1 rfl ⟨_, rfl⟩ rfl rfl rfl (v := sI (pSk (hI h 56 c) (fun j => hI h 57 (60 * c + j)) 61 0)) (by have q := hI_ok x1 rp_m; rw [w1] at q; exact q) ?_
      refine sP 1 (g1 := (30, [some (.ref 53), some (sI ((c : Int))), X], [sI 1, sI (pSk (hI h 56 c) (fun j => hI h 57 (60 * c + j)) 61 0), .ref 53], (hset h 53 13 (sI (pSk (hI h 56 c) (fun j => hI h 57 (60 * c + j)) 61 0))))) rfl ?_
      refine s_add (a := pSk (hI h 56 c) (fun j => hI h 57 (60 * c + j)) 61 0) (b := 1) rfl rfl ?_
      refine s_put (a := 53) (j := 13) (k := 7) (n := 21) x1 rfl ⟨_, rfl⟩ rfl rfl rfl (by decide) rfl ?_
      rw [hset_hset]
      refine sP 2 (g1 := (34, [some (.ref 53), some (sI ((c : Int))), X], [sI ((c : Int)), .ref 53], (hset h 53 13 (sI (pSk (hI h 56 c) (fun j => hI h 57 (60 * c + j)) 61 0 + 1))))) rfl ?_
      refine s_call (k := 141) (args := [.ref 53, sI ((c : Int))]) (st := []) (v := some (sI (pAt (hI h 56 c) (fun j => hI h 57 (60 * c + j)) (-1000) (pSk (hI h 56 c) (fun j => hI h 57 (60 * c + j)) 61 0 + 1)))) (h1 := (hset h 53 13 (sI (pSk (hI h 56 c) (fun j => hI h 57 (60 * c + j)) 61 0 + 1)))) rfl ⟨rfl, rfl⟩ rfl rfl rfl rfl (sRcv x2 (a := 53) rfl rfl) rfl (fHereH hh hc (by omega) (by omega)) ?_
      refine s_i2l (a := pAt (hI h 56 c) (fun j => hI h 57 (60 * c + j)) (-1000) (pSk (hI h 56 c) (fun j => hI h 57 (60 * c + j)) 61 0 + 1)) rfl rfl (by unfold sR aMi aMa; omega) ?_
      refine sP 2 (g1 := (38, [some (.ref 53), some (sI ((c : Int))), X], [sJ 54, sJ 50, sJ (pAt (hI h 56 c) (fun j => hI h 57 (60 * c + j)) (-1000) (pSk (hI h 56 c) (fun j => hI h 57 (60 * c + j)) 61 0 + 1))], (hset h 53 13 (sI (pSk (hI h 56 c) (fun j => hI h 57 (60 * c + j)) 61 0 + 1))))) rfl ?_
      have ev2 := fIn (sc := sc) (d := d + 1) (h := (hset h 53 13 (sI (pSk (hI h 56 c) (fun j => hI h 57 (60 * c + j)) 61 0 + 1)))) (a := pAt (hI h 56 c) (fun j => hI h 57 (60 * c + j)) (-1000) (pSk (hI h 56 c) (fun j => hI h 57 (60 * c + j)) 61 0 + 1)) (b := 50) (e := 54) (by omega) (by omega) (by omega) (by omega) (by omega) (by omega)
      rw [if_neg (by omega)] at ev2
      refine s_call (k := 127) (args := [sJ (pAt (hI h 56 c) (fun j => hI h 57 (60 * c + j)) (-1000) (pSk (hI h 56 c) (fun j => hI h 57 (60 * c + j)) 61 0 + 1)), sJ 50, sJ 54]) (st := []) (v := some (sI 0)) (h1 := (hset h 53 13 (sI (pSk (hI h 56 c) (fun j => hI h 57 (60 * c + j)) 61 0 + 1)))) rfl ⟨rfl, rfl⟩ rfl rfl rfl rfl rfl rfl ev2 ?_
      refine s_ifc (q := .ne) (a := 0) rfl ⟨_, rfl⟩ rfl (by unfold sR aMi aMa; omega) (fun hc3 => ?_) (fun hc3 => ?_)
      · have hc3 : (0 : Int) ≠ 0 := hc3
        omega
      · have hc3 : ¬ ((0 : Int) ≠ 0) := hc3
        refine sP 1 (g1 := (41, [some (.ref 53), some (sI ((c : Int))), X], [.ref 53], (hset h 53 13 (sI (pSk (hI h 56 c) (fun j => hI h 57 (60 * c + j)) 61 0 + 1))))) rfl ?_
        refine s_get (a := 53) (j := 13) x2 rfl ⟨_, rfl⟩ rfl rfl rfl (v := sI (pSk (hI h 56 c) (fun j => hI h 57 (60 * c + j)) 61 0 + 1)) (by have q := hI_ok x2 rp_m; rw [w2] at q; exact q) ?_
        exact s_reti rfl rfl (Or.inl rfl) rfl rfl
    · have hc1 : ¬ (((pAt (hI h 56 c) (fun j => hI h 57 (60 * c + j)) (-1000) (pSk (hI h 56 c) (fun j => hI h 57 (60 * c + j)) 61 0)) : Int) = 110) := hc1
      omega
  · have c3 : 50 ≤ pAt (hI h 56 c) (fun j => hI h 57 (60 * c + j)) (-1000) (pSk (hI h 56 c) (fun j => hI h 57 (60 * c + j)) 61 0 + 1) ∧ pAt (hI h 56 c) (fun j => hI h 57 (60 * c + j)) (-1000) (pSk (hI h 56 c) (fun j => hI h 57 (60 * c + j)) 61 0 + 1) ≤ 54 ∧ pDt (hI h 56 c) (fun j => hI h 57 (60 * c + j)) (pSk (hI h 56 c) (fun j => hI h 57 (60 * c + j)) 61 0 + 1) = pAt (hI h 56 c) (fun j => hI h 57 (60 * c + j)) (-1000) (pSk (hI h 56 c) (fun j => hI h 57 (60 * c + j)) 61 0 + 1) - 48 := by
      rw [ed] at c2 ⊢
      split at c2
      · rw [if_pos (by assumption)]
        omega
      · omega
    obtain ⟨n, hn⟩ : ∃ n : Nat, (n : Int) = pDt (hI h 56 c) (fun j => hI h 57 (60 * c + j)) (pSk (hI h 56 c) (fun j => hI h 57 (60 * c + j)) 61 0 + 1) := ⟨(pDt (hI h 56 c) (fun j => hI h 57 (60 * c + j)) (pSk (hI h 56 c) (fun j => hI h 57 (60 * c + j)) 61 0 + 1)).toNat, by omega⟩
    have e2 : pRd (hI h 56 c) (fun j => hI h 57 (60 * c + j)) = pEnd (hI h 56 c) (fun j => hI h 57 (60 * c + j)) n n (pSk (hI h 56 c) (fun j => hI h 57 (60 * c + j)) 61 0 + 2) := by
      unfold pRd
      rw [if_neg (fun q => q c1'), if_neg c2, ← hn]
      rfl
    have c4 : pSk (hI h 56 c) (fun j => hI h 57 (60 * c + j)) 61 0 + 1 < hI h 56 c := by
      have q := c3.2.2
      unfold pDt at q
      split at q
      · rename_i q2; exact q2.1
      · omega
    have hR : sR (n : Int) := by unfold sR aMi aMa; omega
    have hg1 : aHp (hset (hset h 53 13 (sI (pSk (hI h 56 c) (fun j => hI h 57 (60 * c + j)) 61 0 + 1))) 59 (0 : Int).toNat (sI (n : Int))) := hset_in x2 mz_n (by rw [sR_i hR]; omega) (by rw [sR_i hR]; omega)
    have s1 := fun e m => hset_slot (v := sI (n : Int)) (k := 50) (n := 201) (a := 59) x2 rfl (show (0 : Int).toNat < 201 by decide) e m
    have q1 : hI (hset (hset h 53 13 (sI (pSk (hI h 56 c) (fun j => hI h 57 (60 * c + j)) 61 0 + 1))) 59 (0 : Int).toNat (sI (n : Int))) 53 13 = pSk (hI h 56 c) (fun j => hI h 57 (60 * c + j)) 61 0 + 1 := by rw [hI_ne (k := 50) (n := 201) x2 rfl (by decide) (by omega), w2]
    have hg2 := rp_hm (z := pSk (hI h 56 c) (fun j => hI h 57 (60 * c + j)) 61 0 + 2) hg1 (by omega) (by omega)
    have s2 := fun e m => hset_slot (v := sI (pSk (hI h 56 c) (fun j => hI h 57 (60 * c + j)) 61 0 + 2)) (k := 7) (n := 21) (a := 53) hg1 rfl (show 13 < 21 by omega) e m
    have t1 := hI_eq (z := pSk (hI h 56 c) (fun j => hI h 57 (60 * c + j)) 61 0 + 2) (k := 7) (n := 21) (a := 53) hg1 rfl (show 13 < 21 by omega) (by unfold sR aMi aMa; omega)
    have hs2 : ∀ e m, ¬ (e = 53 ∧ m = 13) → ¬ (e = 59 ∧ m = 0) → aSlot (hset (hset (hset h 53 13 (sI (pSk (hI h 56 c) (fun j => hI h 57 (60 * c + j)) 61 0 + 1))) 59 (0 : Int).toNat (sI (n : Int))) 53 13 (sI (pSk (hI h 56 c) (fun j => hI h 57 (60 * c + j)) 61 0 + 2))) e m = aSlot h e m := fun e m u1 u2 => by rw [s2, if_neg u1, s1, if_neg (show ¬ (e = 59 ∧ m = Int.toNat 0) from u2), hset_slot (k := 7) (n := 21) hh rfl (by omega), if_neg u1]
    have hs3 : aSlot (hset (hset (hset h 53 13 (sI (pSk (hI h 56 c) (fun j => hI h 57 (60 * c + j)) 61 0 + 1))) 59 (0 : Int).toNat (sI (n : Int))) 53 13 (sI (pSk (hI h 56 c) (fun j => hI h 57 (60 * c + j)) 61 0 + 2))) 59 0 = some (sI (n : Int)) := by rw [s2, if_neg (by omega), s1, if_pos ⟨rfl, rfl⟩]
    generalize hgg : hset (hset (hset h 53 13 (sI (pSk (hI h 56 c) (fun j => hI h 57 (60 * c + j)) 61 0 + 1))) 59 (0 : Int).toNat (sI (n : Int))) 53 13 (sI (pSk (hI h 56 c) (fun j => hI h 57 (60 * c + j)) 61 0 + 2)) = g4 at hg2 hs2 hs3 t1
    have y1 : hI g4 56 c = hI h 56 c := by unfold hI; rw [hs2 _ _ (by omega) (by omega)]
    have y2 : (fun j => hI g4 57 (60 * c + j)) = (fun j => hI h 57 (60 * c + j)) := by funext m; unfold hI; rw [hs2 _ _ (by omega) (by omega)]
    have y4 : hI g4 59 0 = n := by rw [hI_of hs3, sR_i hR]
    obtain ⟨h1, r1, r2, r3, r4, r6⟩ := fFaultL (sc := sc) (d := d) (n := n) hc (by omega) n 0 g4 (by omega) hg2 y4 (by omega)
    rw [y1, y2, t1] at r1 r6
    rw [e2]
    refine ⟨h1, ?_, r2, fun e m q1 q2 => by rw [r3 e m q1 q2, hs2 e m q1 (by omega)], fun hz => ⟨n, by omega, by omega, hn, ?_, fun m hm => by rw [r4 m (by omega), hs2 59 m (by omega) (by omega)], fun a ha => ?_⟩⟩
    rotate_left
    · rw [← y4]; unfold hI; rw [r4 0 (by omega)]
    · have := r6 hz a ha
      rw [show 0 + a = a by omega] at this
      exact this
    rw [← hgg] at r1
    refine sP 2 (g1 := (14, [some (.ref 53), some (sI ((c : Int))), X], [sI 0, .ref 53], h)) rfl ?_
    refine s_put (a := 53) (j := 13) (k := 7) (n := 21) hh rfl ⟨_, rfl⟩ rfl rfl rfl (by decide) rfl ?_
    refine sP 2 (g1 := (17, [some (.ref 53), some (sI ((c : Int))), X], [sI ((c : Int)), .ref 53], (hset h 53 13 (sI (0))))) rfl ?_
    refine s_call (k := 140) (args := [.ref 53, sI ((c : Int))]) (st := []) (v := none) (h1 := (hset h 53 13 (sI (pSk (hI h 56 c) (fun j => hI h 57 (60 * c + j)) 61 0)))) rfl ⟨rfl, rfl⟩ rfl rfl rfl rfl (sRcv x0 (a := 53) rfl rfl) rfl (fBlankH hh hc (by omega) (by omega)) ?_
    refine sP 2 (g1 := (20, [some (.ref 53), some (sI ((c : Int))), X], [sI ((c : Int)), .ref 53], (hset h 53 13 (sI (pSk (hI h 56 c) (fun j => hI h 57 (60 * c + j)) 61 0))))) rfl ?_
    refine s_call (k := 141) (args := [.ref 53, sI ((c : Int))]) (st := []) (v := some (sI (pAt (hI h 56 c) (fun j => hI h 57 (60 * c + j)) (-1000) (pSk (hI h 56 c) (fun j => hI h 57 (60 * c + j)) 61 0)))) (h1 := (hset h 53 13 (sI (pSk (hI h 56 c) (fun j => hI h 57 (60 * c + j)) 61 0)))) rfl ⟨rfl, rfl⟩ rfl rfl rfl rfl (sRcv x1 (a := 53) rfl rfl) rfl (fHereH hh hc (by omega) (by omega)) ?_
    refine sP 1 (g1 := (22, [some (.ref 53), some (sI ((c : Int))), X], [sI 110, sI (pAt (hI h 56 c) (fun j => hI h 57 (60 * c + j)) (-1000) (pSk (hI h 56 c) (fun j => hI h 57 (60 * c + j)) 61 0))], (hset h 53 13 (sI (pSk (hI h 56 c) (fun j => hI h 57 (60 * c + j)) 61 0))))) rfl ?_
    refine s_icmp (q := .eq) (a := pAt (hI h 56 c) (fun j => hI h 57 (60 * c + j)) (-1000) (pSk (hI h 56 c) (fun j => hI h 57 (60 * c + j)) 61 0)) (b := 110) rfl ⟨_, rfl⟩ rfl (by unfold sR aMi aMa; omega) (by unfold sR aMi aMa; omega) (fun hc1 => ?_) (fun hc1 => ?_)
    · have hc1 : ((pAt (hI h 56 c) (fun j => hI h 57 (60 * c + j)) (-1000) (pSk (hI h 56 c) (fun j => hI h 57 (60 * c + j)) 61 0)) : Int) = 110 := hc1
      refine sP 2 (g1 := (28, [some (.ref 53), some (sI ((c : Int))), X], [.ref 53, .ref 53], (hset h 53 13 (sI (pSk (hI h 56 c) (fun j => hI h 57 (60 * c + j)) 61 0))))) rfl ?_
      refine s_get (a := 53) (j := 13) x1 rfl ⟨_, rfl⟩ rfl rfl rfl (v := sI (pSk (hI h 56 c) (fun j => hI h 57 (60 * c + j)) 61 0)) (by have q := hI_ok x1 rp_m; rw [w1] at q; exact q) ?_
      refine sP 1 (g1 := (30, [some (.ref 53), some (sI ((c : Int))), X], [sI 1, sI (pSk (hI h 56 c) (fun j => hI h 57 (60 * c + j)) 61 0), .ref 53], (hset h 53 13 (sI (pSk (hI h 56 c) (fun j => hI h 57 (60 * c + j)) 61 0))))) rfl ?_
      refine s_add (a := pSk (hI h 56 c) (fun j => hI h 57 (60 * c + j)) 61 0) (b := 1) rfl rfl ?_
      refine s_put (a := 53) (j := 13) (k := 7) (n := 21) x1 rfl ⟨_, rfl⟩ rfl rfl rfl (by decide) rfl ?_
      rw [hset_hset]
      refine sP 2 (g1 := (34, [some (.ref 53), some (sI ((c : Int))), X], [sI ((c : Int)), .ref 53], (hset h 53 13 (sI (pSk (hI h 56 c) (fun j => hI h 57 (60 * c + j)) 61 0 + 1))))) rfl ?_
      refine s_call (k := 141) (args := [.ref 53, sI ((c : Int))]) (st := []) (v := some (sI (pAt (hI h 56 c) (fun j => hI h 57 (60 * c + j)) (-1000) (pSk (hI h 56 c) (fun j => hI h 57 (60 * c + j)) 61 0 + 1)))) (h1 := (hset h 53 13 (sI (pSk (hI h 56 c) (fun j => hI h 57 (60 * c + j)) 61 0 + 1)))) rfl ⟨rfl, rfl⟩ rfl rfl rfl rfl (sRcv x2 (a := 53) rfl rfl) rfl (fHereH hh hc (by omega) (by omega)) ?_
      refine s_i2l (a := pAt (hI h 56 c) (fun j => hI h 57 (60 * c + j)) (-1000) (pSk (hI h 56 c) (fun j => hI h 57 (60 * c + j)) 61 0 + 1)) rfl rfl (by unfold sR aMi aMa; omega) ?_
      refine sP 2 (g1 := (38, [some (.ref 53), some (sI ((c : Int))), X], [sJ 54, sJ 50, sJ (pAt (hI h 56 c) (fun j => hI h 57 (60 * c + j)) (-1000) (pSk (hI h 56 c) (fun j => hI h 57 (60 * c + j)) 61 0 + 1))], (hset h 53 13 (sI (pSk (hI h 56 c) (fun j => hI h 57 (60 * c + j)) 61 0 + 1))))) rfl ?_
      have ev2 := fIn (sc := sc) (d := d + 1) (h := (hset h 53 13 (sI (pSk (hI h 56 c) (fun j => hI h 57 (60 * c + j)) 61 0 + 1)))) (a := pAt (hI h 56 c) (fun j => hI h 57 (60 * c + j)) (-1000) (pSk (hI h 56 c) (fun j => hI h 57 (60 * c + j)) 61 0 + 1)) (b := 50) (e := 54) (by omega) (by omega) (by omega) (by omega) (by omega) (by omega)
      rw [if_pos (by omega)] at ev2
      refine s_call (k := 127) (args := [sJ (pAt (hI h 56 c) (fun j => hI h 57 (60 * c + j)) (-1000) (pSk (hI h 56 c) (fun j => hI h 57 (60 * c + j)) 61 0 + 1)), sJ 50, sJ 54]) (st := []) (v := some (sI 1)) (h1 := (hset h 53 13 (sI (pSk (hI h 56 c) (fun j => hI h 57 (60 * c + j)) 61 0 + 1)))) rfl ⟨rfl, rfl⟩ rfl rfl rfl rfl rfl rfl ev2 ?_
      refine s_ifc (q := .ne) (a := 1) rfl ⟨_, rfl⟩ rfl (by unfold sR aMi aMa; omega) (fun hc3 => ?_) (fun hc3 => ?_)
      · have hc3 : (1 : Int) ≠ 0 := hc3
        refine sP 1 (g1 := (44, [some (.ref 53), some (sI ((c : Int))), X], [.ref 53], (hset h 53 13 (sI (pSk (hI h 56 c) (fun j => hI h 57 (60 * c + j)) 61 0 + 1))))) rfl ?_
        refine s_get (a := 53) (j := 5) x2 rfl ⟨_, rfl⟩ rfl rfl rfl (v := .ref 59) (hR_ok x2 (by decide +kernel)) ?_
        refine sP 3 (g1 := (48, [some (.ref 53), some (sI ((c : Int))), X], [sI ((c : Int)), .ref 53, sI 0, .ref 59], (hset h 53 13 (sI (pSk (hI h 56 c) (fun j => hI h 57 (60 * c + j)) 61 0 + 1))))) rfl ?_
        refine s_call (k := 141) (args := [.ref 53, sI ((c : Int))]) (st := [sI 0, .ref 59]) (v := some (sI (pAt (hI h 56 c) (fun j => hI h 57 (60 * c + j)) (-1000) (pSk (hI h 56 c) (fun j => hI h 57 (60 * c + j)) 61 0 + 1)))) (h1 := (hset h 53 13 (sI (pSk (hI h 56 c) (fun j => hI h 57 (60 * c + j)) 61 0 + 1)))) rfl ⟨rfl, rfl⟩ rfl rfl rfl rfl (sRcv x2 (a := 53) rfl rfl) rfl (fHereH hh hc (by omega) (by omega)) ?_
        refine sP 1 (g1 := (50, [some (.ref 53), some (sI ((c : Int))), X], [sI 48, sI (pAt (hI h 56 c) (fun j => hI h 57 (60 * c + j)) (-1000) (pSk (hI h 56 c) (fun j => hI h 57 (60 * c + j)) 61 0 + 1)), sI 0, .ref 59], (hset h 53 13 (sI (pSk (hI h 56 c) (fun j => hI h 57 (60 * c + j)) 61 0 + 1))))) rfl ?_
        refine s_sub (a := pAt (hI h 56 c) (fun j => hI h 57 (60 * c + j)) (-1000) (pSk (hI h 56 c) (fun j => hI h 57 (60 * c + j)) 61 0 + 1)) (b := 48) rfl rfl ?_
        refine s_iast (a := 59) (n := 201) (j := 0) x2 rfl rfl rfl (by omega) (by omega) (by decide) ?_
        rw [show (pAt (hI h 56 c) (fun j => hI h 57 (60 * c + j)) (-1000) (pSk (hI h 56 c) (fun j => hI h 57 (60 * c + j)) 61 0 + 1)) - 48 = (n : Int) by omega]
        refine sP 2 (g1 := (54, [some (.ref 53), some (sI ((c : Int))), X], [.ref 53, .ref 53], (hset (hset h 53 13 (sI (pSk (hI h 56 c) (fun j => hI h 57 (60 * c + j)) 61 0 + 1))) 59 (0 : Int).toNat (sI (n : Int))))) rfl ?_
        refine s_get (a := 53) (j := 13) hg1 rfl ⟨_, rfl⟩ rfl rfl rfl (v := sI (pSk (hI h 56 c) (fun j => hI h 57 (60 * c + j)) 61 0 + 1)) (by have q := hI_ok hg1 rp_m; rw [q1] at q; exact q) ?_
        refine sP 1 (g1 := (56, [some (.ref 53), some (sI ((c : Int))), X], [sI 1, sI (pSk (hI h 56 c) (fun j => hI h 57 (60 * c + j)) 61 0 + 1), .ref 53], (hset (hset h 53 13 (sI (pSk (hI h 56 c) (fun j => hI h 57 (60 * c + j)) 61 0 + 1))) 59 (0 : Int).toNat (sI (n : Int))))) rfl ?_
        refine s_add (a := pSk (hI h 56 c) (fun j => hI h 57 (60 * c + j)) 61 0 + 1) (b := 1) rfl rfl ?_
        refine s_put (a := 53) (j := 13) (k := 7) (n := 21) hg1 rfl ⟨_, rfl⟩ rfl rfl rfl (by decide) rfl ?_
        rw [show (pSk (hI h 56 c) (fun j => hI h 57 (60 * c + j)) 61 0 + 1) + 1 = pSk (hI h 56 c) (fun j => hI h 57 (60 * c + j)) 61 0 + 2 by omega]
        refine sP 2 (g1 := (60, [some (.ref 53), some (sI ((c : Int))), some (sI 0)], [], (hset (hset (hset h 53 13 (sI (pSk (hI h 56 c) (fun j => hI h 57 (60 * c + j)) 61 0 + 1))) 59 (0 : Int).toNat (sI (n : Int))) 53 13 (sI (pSk (hI h 56 c) (fun j => hI h 57 (60 * c + j)) 61 0 + 2))))) rfl ?_
        exact r1
      · have hc3 : ¬ ((1 : Int) ≠ 0) := hc3
        omega
    · have hc1 : ¬ (((pAt (hI h 56 c) (fun j => hI h 57 (60 * c + j)) (-1000) (pSk (hI h 56 c) (fun j => hI h 57 (60 * c + j)) 61 0)) : Int) = 110) := hc1
      omega
theorem fFaultOf {c : Nat} (hc : c < 4) (hh : aHp h) : ∃ h1, nEv sc (d + 3) 139 [.ref 53, sI (c : Int)] h (some (sI (pRd (hI h 56 c) (fun j => hI h 57 (60 * c + j)))), h1) ∧ aHp h1 ∧ (∀ e m, ¬ (e = 53 ∧ m = 13) → e ≠ 59 → aSlot h1 e m = aSlot h e m) ∧ (pRd (hI h 56 c) (fun j => hI h 57 (60 * c + j)) = -9 → ∃ n : Nat, 2 ≤ n ∧ n ≤ 6 ∧ (n : Int) = pDt (hI h 56 c) (fun j => hI h 57 (60 * c + j)) (pSk (hI h 56 c) (fun j => hI h 57 (60 * c + j)) 61 0 + 1) ∧ hI h1 59 0 = n ∧ (∀ m, 43 ≤ m → m < 201 → aSlot h1 59 m = some (sI 0)) ∧ ∀ a, a < n → hI h1 59 (1 + a) = pLt (hI h 56 c) (fun j => hI h 57 (60 * c + j)) (pPo (hI h 56 c) (fun j => hI h 57 (60 * c + j)) n a (pSk (hI h 56 c) (fun j => hI h 57 (60 * c + j)) 61 0 + 2)) ∧ ∀ b, b < n → hI h1 59 (7 + 6 * a + b) = pDt (hI h 56 c) (fun j => hI h 57 (60 * c + j)) (pPo (hI h 56 c) (fun j => hI h 57 (60 * c + j)) n a (pSk (hI h 56 c) (fun j => hI h 57 (60 * c + j)) 61 0 + 2) + 1 + b)) := by
  obtain ⟨g, z1, z2, z3⟩ := fZeroL (sc := sc) (d := d + 2) (c := c) 201 0 h (by omega) hh
  have y1 : hI g 56 c = hI h 56 c := by unfold hI; rw [z2, if_neg (by omega)]
  have y2 : (fun j => hI g 57 (60 * c + j)) = (fun j => hI h 57 (60 * c + j)) := by funext m; unfold hI; rw [z2, if_neg (by omega)]
  obtain ⟨h1, r1, r2, r3, r4⟩ := fFault1 (sc := sc) (d := d) (X := some (sI ((201 : Nat) : Int))) hc z1
  rw [y1, y2] at r1 r4
  refine ⟨h1, nEv_of (t := mMe139) rfl ?_, r2, fun e m w1 w2 => by rw [r3 e m w1 w2, z2, if_neg (by omega)], fun hz => ?_⟩
  · have r5 := z3 _ r1
    show nRn sc (d + 2) (mMT mMe139) (mMC mMe139) (0, [some (.ref 53), some (sI (c : Int)), none], [], h) _
    refine sP 2 (g1 := (2, [some (.ref 53), some (sI (c : Int)), some (sI 0)], [], h)) rfl ?_
    exact r5
  · obtain ⟨n, n1, n2, n3, n4, n5, n6⟩ := r4 hz
    exact ⟨n, n1, n2, n3, n4, fun m m1 m2 => by rw [n5 m m1, z2, if_pos (by omega)], n6⟩
end RD3
