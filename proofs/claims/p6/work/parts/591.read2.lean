/-! reading of the class: persons, the whole -/
noncomputable def pDt (sz : Int) (g : Nat → Int) (p : Int) : Int := if p < sz ∧ 48 ≤ g p.toNat ∧ g p.toNat ≤ 57 then g p.toNat - 48 else -1
noncomputable def pLt (sz : Int) (g : Nat → Int) (p : Int) : Int := if p < sz then pKd (g p.toNat) else -1
/-- so many figures: whether they are there, and the place behind -/
noncomputable def pFg (sz : Int) (g : Nat → Int) : Nat → Int → Bool × Int
  | 0, p => (true, p)
  | k + 1, p => if pDt sz g p < 0 then (false, p) else pFg sz g k (p + 1)
noncomputable def pPs (sz : Int) (g : Nat → Int) (n : Nat) (p : Int) : Bool × Int := if pLt sz g p < 0 then (false, p) else pFg sz g n (p + 1)
noncomputable def pEnd (sz : Int) (g : Nat → Int) (n : Nat) : Nat → Int → Int
  | 0, p => if pSk sz g 61 p < sz then pSk sz g 61 p else -9
  | k + 1, p => if (pPs sz g n (pSk sz g 61 p)).1 = true then pEnd sz g n k (pPs sz g n (pSk sz g 61 p)).2 else (pPs sz g n (pSk sz g 61 p)).2
noncomputable def pRd (sz : Int) (g : Nat → Int) : Int :=
  if ¬ (pSk sz g 61 0 < sz ∧ g (pSk sz g 61 0).toNat = 110) then pSk sz g 61 0 else
  if pDt sz g (pSk sz g 61 0 + 1) < 2 ∨ 6 < pDt sz g (pSk sz g 61 0 + 1) then pSk sz g 61 0 + 1 else
  pEnd sz g (pDt sz g (pSk sz g 61 0 + 1)).toNat (pDt sz g (pSk sz g 61 0 + 1)).toNat (pSk sz g 61 0 + 2)
theorem pDt_rg (sz : Int) (g : Nat → Int) (p : Int) : -1 ≤ pDt sz g p ∧ pDt sz g p ≤ 9 := by
  unfold pDt
  split <;> omega
theorem pLt_rg (sz : Int) (g : Nat → Int) (p : Int) : -1 ≤ pLt sz g p ∧ pLt sz g p ≤ 5 := by
  unfold pLt
  split
  · exact pKd_rg _
  · omega
theorem pFg_rg (sz : Int) (g : Nat → Int) : ∀ (k : Nat) (p : Int), p ≤ (pFg sz g k p).2 ∧ (pFg sz g k p).2 ≤ p + k ∧ ((pFg sz g k p).1 = true → (pFg sz g k p).2 = p + k)
  | 0, p => ⟨Int.le_refl _, by show p ≤ p + 0; omega, fun _ => by show p = p + 0; omega⟩
  | k + 1, p => by
    unfold pFg
    split
    · exact ⟨Int.le_refl _, by show p ≤ p + ((k + 1 : Nat) : Int); omega, fun h => by cases h⟩
    · obtain ⟨a, b, c⟩ := pFg_rg sz g k (p + 1)
      exact ⟨by omega, by omega, fun h => by have := c h; omega⟩
/-- a figure that is there lies within the text -/
theorem pFg_le (sz : Int) (g : Nat → Int) : ∀ (k : Nat) (p : Int), p ≤ max p sz → (pFg sz g k p).2 ≤ max p sz
  | 0, p, _ => by show p ≤ max p sz; omega
  | k + 1, p, _ => by
    unfold pFg
    split
    · show p ≤ max p sz; omega
    · rename_i hd
      have h1 : p < sz := by
        unfold pDt at hd
        split at hd
        · rename_i q; exact q.1
        · omega
      have := pFg_le sz g k (p + 1) (by omega)
      omega
section RD2
variable {sc : List Int32} {d : Nat} {h : mH}
theorem fLetter {z : Int} (z0 : -2000 ≤ z) (z1 : z ≤ 2000) : nEv sc (d + 1) 31 [sI z] h (some (sI (pKd z)), h) := by
  refine nEv_of (t := mMe31) rfl ?_
  show nRn sc (d) (mMT mMe31) (mMC mMe31) (0, [some (sI z), none], [], h) _
  refine sP 4 (g1 := (4, [some (sI z), some (sI 0)], [sI 6, sI 0], h)) rfl ?_
  refine s_icmp (q := .ge) (a := 0) (b := 6) rfl ⟨_, rfl⟩ rfl (by unfold sR aMi aMa; omega) (by unfold sR aMi aMa; omega) (fun hc1 => ?_) (fun hc1 => ?_)
  · have hc1 : (6 : Int) ≤ 0 := hc1
    omega
  · have hc1 : ¬ ((6 : Int) ≤ 0) := hc1
    refine s_stat (n := 1) rfl ⟨_, rfl⟩ rfl (by decide) ?_
    refine sP 1 (g1 := (7, [some (sI z), some (sI 0)], [sI 0, .retAddr 1], h)) rfl ?_
    refine s_iaX (n := 1) (j := 0) (z := 103) rfl rfl (by decide) (by decide) (by decide) ?_
    refine sP 1 (g1 := (9, [some (sI z), some (sI 0)], [sI z, sI 103], h)) rfl ?_
    refine s_icmp (q := .ne) (a := 103) (b := z) rfl ⟨_, rfl⟩ rfl (by unfold sR aMi aMa; omega) (by unfold sR aMi aMa; omega) (fun hc2 => ?_) (fun hc2 => ?_)
    · have hc2 : (103 : Int) ≠ z := hc2
      refine s_inc (a := 0) (n := 1) (k := 1) rfl rfl rfl ?_
      refine sP 3 (g1 := (4, [some (sI z), some (sI 1)], [sI 6, sI 1], h)) rfl ?_
      refine s_icmp (q := .ge) (a := 1) (b := 6) rfl ⟨_, rfl⟩ rfl (by unfold sR aMi aMa; omega) (by unfold sR aMi aMa; omega) (fun hc3 => ?_) (fun hc3 => ?_)
      · have hc3 : (6 : Int) ≤ 1 := hc3
        omega
      · have hc3 : ¬ ((6 : Int) ≤ 1) := hc3
        refine s_stat (n := 1) rfl ⟨_, rfl⟩ rfl (by decide) ?_
        refine sP 1 (g1 := (7, [some (sI z), some (sI 1)], [sI 1, .retAddr 1], h)) rfl ?_
        refine s_iaX (n := 1) (j := 1) (z := 101) rfl rfl (by decide) (by decide) (by decide) ?_
        refine sP 1 (g1 := (9, [some (sI z), some (sI 1)], [sI z, sI 101], h)) rfl ?_
        refine s_icmp (q := .ne) (a := 101) (b := z) rfl ⟨_, rfl⟩ rfl (by unfold sR aMi aMa; omega) (by unfold sR aMi aMa; omega) (fun hc4 => ?_) (fun hc4 => ?_)
        · have hc4 : (101 : Int) ≠ z := hc4
          refine s_inc (a := 1) (n := 1) (k := 1) rfl rfl rfl ?_
          refine sP 3 (g1 := (4, [some (sI z), some (sI 2)], [sI 6, sI 2], h)) rfl ?_
          refine s_icmp (q := .ge) (a := 2) (b := 6) rfl ⟨_, rfl⟩ rfl (by unfold sR aMi aMa; omega) (by unfold sR aMi aMa; omega) (fun hc5 => ?_) (fun hc5 => ?_)
          · have hc5 : (6 : Int) ≤ 2 := hc5
            omega
          · have hc5 : ¬ ((6 : Int) ≤ 2) := hc5
            refine s_stat (n := 1) rfl ⟨_, rfl⟩ rfl (by decide) ?_
            refine sP 1 (g1 := (7, [some (sI z), some (sI 2)], [sI 2, .retAddr 1], h)) rfl ?_
            refine s_iaX (n := 1) (j := 2) (z := 115) rfl rfl (by decide) (by decide) (by decide) ?_
            refine sP 1 (g1 := (9, [some (sI z), some (sI 2)], [sI z, sI 115], h)) rfl ?_
            refine s_icmp (q := .ne) (a := 115) (b := z) rfl ⟨_, rfl⟩ rfl (by unfold sR aMi aMa; omega) (by unfold sR aMi aMa; omega) (fun hc6 => ?_) (fun hc6 => ?_)
            · have hc6 : (115 : Int) ≠ z := hc6
              refine s_inc (a := 2) (n := 1) (k := 1) rfl rfl rfl ?_
              refine sP 3 (g1 := (4, [some (sI z), some (sI 3)], [sI 6, sI 3], h)) rfl ?_
              refine s_icmp (q := .ge) (a := 3) (b := 6) rfl ⟨_, rfl⟩ rfl (by unfold sR aMi aMa; omega) (by unfold sR aMi aMa; omega) (fun hc7 => ?_) (fun hc7 => ?_)
              · have hc7 : (6 : Int) ≤ 3 := hc7
                omega
              · have hc7 : ¬ ((6 : Int) ≤ 3) := hc7
                refine s_stat (n := 1) rfl ⟨_, rfl⟩ rfl (by decide) ?_
                refine sP 1 (g1 := (7, [some (sI z), some (sI 3)], [sI 3, .retAddr 1], h)) rfl ?_
                refine s_iaX (n := 1) (j := 3) (z := 118) rfl rfl (by decide) (by decide) (by decide) ?_
                refine sP 1 (g1 := (9, [some (sI z), some (sI 3)], [sI z, sI 118], h)) rfl ?_
                refine s_icmp (q := .ne) (a := 118) (b := z) rfl ⟨_, rfl⟩ rfl (by unfold sR aMi aMa; omega) (by unfold sR aMi aMa; omega) (fun hc8 => ?_) (fun hc8 => ?_)
                · have hc8 : (118 : Int) ≠ z := hc8
                  refine s_inc (a := 3) (n := 1) (k := 1) rfl rfl rfl ?_
                  refine sP 3 (g1 := (4, [some (sI z), some (sI 4)], [sI 6, sI 4], h)) rfl ?_
                  refine s_icmp (q := .ge) (a := 4) (b := 6) rfl ⟨_, rfl⟩ rfl (by unfold sR aMi aMa; omega) (by unfold sR aMi aMa; omega) (fun hc9 => ?_) (fun hc9 => ?_)
                  · have hc9 : (6 : Int) ≤ 4 := hc9
                    omega
                  · have hc9 : ¬ ((6 : Int) ≤ 4) := hc9
                    refine s_stat (n := 1) rfl ⟨_, rfl⟩ rfl (by decide) ?_
                    refine sP 1 (g1 := (7, [some (sI z), some (sI 4)], [sI 4, .retAddr 1], h)) rfl ?_
                    refine s_iaX (n := 1) (j := 4) (z := 99) rfl rfl (by decide) (by decide) (by decide) ?_
                    refine sP 1 (g1 := (9, [some (sI z), some (sI 4)], [sI z, sI 99], h)) rfl ?_
                    refine s_icmp (q := .ne) (a := 99) (b := z) rfl ⟨_, rfl⟩ rfl (by unfold sR aMi aMa; omega) (by unfold sR aMi aMa; omega) (fun hc10 => ?_) (fun hc10 => ?_)
                    · have hc10 : (99 : Int) ≠ z := hc10
                      refine s_inc (a := 4) (n := 1) (k := 1) rfl rfl rfl ?_
                      refine sP 3 (g1 := (4, [some (sI z), some (sI 5)], [sI 6, sI 5], h)) rfl ?_
                      refine s_icmp (q := .ge) (a := 5) (b := 6) rfl ⟨_, rfl⟩ rfl (by unfold sR aMi aMa; omega) (by unfold sR aMi aMa; omega) (fun hc11 => ?_) (fun hc11 => ?_)
                      · have hc11 : (6 : Int) ≤ 5 := hc11
                        omega
                      · have hc11 : ¬ ((6 : Int) ≤ 5) := hc11
                        refine s_stat (n := 1) rfl ⟨_, rfl⟩ rfl (by decide) ?_
                        refine sP 1 (g1 := (7, [some (sI z), some (sI 5)], [sI 5, .retAddr 1], h)) rfl ?_
                        refine s_iaX (n := 1) (j := 5) (z := 107) rfl rfl (by decide) (by decide) (by decide) ?_
                        refine sP 1 (g1 := (9, [some (sI z), some (sI 5)], [sI z, sI 107], h)) rfl ?_
                        refine s_icmp (q := .ne) (a := 107) (b := z) rfl ⟨_, rfl⟩ rfl (by unfold sR aMi aMa; omega) (by unfold sR aMi aMa; omega) (fun hc12 => ?_) (fun hc12 => ?_)
                        · have hc12 : (107 : Int) ≠ z := hc12
                          refine s_inc (a := 5) (n := 1) (k := 1) rfl rfl rfl ?_
                          refine sP 3 (g1 := (4, [some (sI z), some (sI 6)], [sI 6, sI 6], h)) rfl ?_
                          refine s_icmp (q := .ge) (a := 6) (b := 6) rfl ⟨_, rfl⟩ rfl (by unfold sR aMi aMa; omega) (by unfold sR aMi aMa; omega) (fun hc13 => ?_) (fun hc13 => ?_)
                          · have hc13 : (6 : Int) ≤ 6 := hc13
                            refine sP 1 (g1 := (15, [some (sI z), some (sI 6)], [sI ((-1))], h)) rfl ?_
                            exact s_reti rfl rfl (Or.inl rfl) (by unfold pKd; (repeat' split) <;> omega) rfl
                          · have hc13 : ¬ ((6 : Int) ≤ 6) := hc13
                            omega
                        · have hc12 : ¬ ((107 : Int) ≠ z) := hc12
                          refine sP 1 (g1 := (11, [some (sI z), some (sI 5)], [sI 5], h)) rfl ?_
                          exact s_reti rfl rfl (Or.inl rfl) (by unfold pKd; (repeat' split) <;> omega) rfl
                    · have hc10 : ¬ ((99 : Int) ≠ z) := hc10
                      refine sP 1 (g1 := (11, [some (sI z), some (sI 4)], [sI 4], h)) rfl ?_
                      exact s_reti rfl rfl (Or.inl rfl) (by unfold pKd; (repeat' split) <;> omega) rfl
                · have hc8 : ¬ ((118 : Int) ≠ z) := hc8
                  refine sP 1 (g1 := (11, [some (sI z), some (sI 3)], [sI 3], h)) rfl ?_
                  exact s_reti rfl rfl (Or.inl rfl) (by unfold pKd; (repeat' split) <;> omega) rfl
            · have hc6 : ¬ ((115 : Int) ≠ z) := hc6
              refine sP 1 (g1 := (11, [some (sI z), some (sI 2)], [sI 2], h)) rfl ?_
              exact s_reti rfl rfl (Or.inl rfl) (by unfold pKd; (repeat' split) <;> omega) rfl
        · have hc4 : ¬ ((101 : Int) ≠ z) := hc4
          refine sP 1 (g1 := (11, [some (sI z), some (sI 1)], [sI 1], h)) rfl ?_
          exact s_reti rfl rfl (Or.inl rfl) (by unfold pKd; (repeat' split) <;> omega) rfl
    · have hc2 : ¬ ((103 : Int) ≠ z) := hc2
      refine sP 1 (g1 := (11, [some (sI z), some (sI 0)], [sI 0], h)) rfl ?_
      exact s_reti rfl rfl (Or.inl rfl) (by unfold pKd; (repeat' split) <;> omega) rfl
theorem rk_x {j : Nat} (hj : j < 6) : zIn 10 j 0 5 = true := (show ∀ j, j < 6 → zIn 10 j 0 5 = true by decide +kernel) j hj
theorem rl_x {j : Nat} (hj : j < 36) : zIn 11 j 0 9 = true := (show ∀ j, j < 36 → zIn 11 j 0 9 = true by decide +kernel) j hj
theorem rn_x : zCell 9 3 0 6 = true := by decide +kernel
theorem pAt_dt {sz e p : Int} {g : Nat → Int} (he : e < 48 ∨ 57 < e) : pDt sz g p = if 48 ≤ pAt sz g e p ∧ pAt sz g e p ≤ 57 then pAt sz g e p - 48 else -1 := by
  unfold pDt pAt
  by_cases h1 : p < sz
  · rw [if_pos h1]
    by_cases h2 : 48 ≤ g p.toNat ∧ g p.toNat ≤ 57
    · rw [if_pos ⟨h1, h2⟩, if_pos h2]
    · rw [if_neg (fun q => h2 q.2), if_neg h2]
  · rw [if_neg h1, if_neg (fun q => h1 q.1), if_neg (by omega)]
theorem pAt_lt {sz e p : Int} {g : Nat → Int} (he : e < 90 ∨ 120 < e) : pLt sz g p = pKd (pAt sz g e p) := by
  unfold pLt pAt
  split
  · rfl
  · unfold pKd
    (repeat' split) <;> omega
/-- the figures of one person, from the loop's head -/
theorem fFigL {c a : Nat} {kd : Int} (hc : c < 4) (ha : a < 6) : ∀ (k b : Nat) (h : mH) (X : Option Value), aHp h → 0 ≤ hI h 8 1 → hI h 8 1 ≤ 80 + b → hI h 9 3 = b + k → ∃ h1, nRn sc (d + 1) (mMT mMe30) (mMC mMe30) (23, [some (.ref 8), some (.ref (33 + 2 * c)), some (sI (a : Int)), some (sI kd), some (sI (b : Int)), X], [], h) (some (sI (if (pFg (hI h (33 + 2 * c) 1) (hI h (34 + 2 * c)) k (hI h 8 1)).1 = true then 1 else 0)), h1) ∧ aHp h1 ∧ hI h1 8 1 = (pFg (hI h (33 + 2 * c) 1) (hI h (34 + 2 * c)) k (hI h 8 1)).2 ∧ (∀ e m, ¬ (e = 8 ∧ m = 1) → ¬ (e = 11 ∧ 6 * a + b ≤ m ∧ m < 6 * a + b + k) → aSlot h1 e m = aSlot h e m) ∧ ((pFg (hI h (33 + 2 * c) 1) (hI h (34 + 2 * c)) k (hI h 8 1)).1 = true → ∀ j, j < k → hI h1 11 (6 * a + b + j) = pDt (hI h (33 + 2 * c) 1) (hI h (34 + 2 * c)) (hI h 8 1 + j)) := by
  intro k
  induction k with
  | zero =>
    intro b h X hh p0 p1 hn
    have nn := hI_rg hh rn_x
    refine ⟨h, ?_, hh, rfl, fun e m _ _ => rfl, fun _ j hj => by omega⟩
    refine sP 2 (g1 := (25, [some (.ref 8), some (.ref (33 + 2 * c)), some (sI ((a : Int))), some (sI kd), some (sI ((b : Int))), X], [.ref 8, sI ((b : Int))], h)) rfl ?_
    refine s_get (a := 8) (j := 0) hh rfl ⟨_, rfl⟩ rfl rfl rfl (v := .ref 9) (hR_ok hh (by decide +kernel)) ?_
    refine s_get (a := 9) (j := 3) hh rfl ⟨_, rfl⟩ rfl rfl rfl (v := sI (hI h 9 3)) (hI_ok hh rn_x) ?_
    refine s_icmp (q := .ge) (a := (b : Int)) (b := hI h 9 3) rfl ⟨_, rfl⟩ rfl (by unfold sR aMi aMa; omega) (by unfold sR aMi aMa; omega) (fun hc1 => ?_) (fun hc1 => ?_)
    · have hc1 : ((hI h 9 3) : Int) ≤ ((b : Int)) := hc1
      refine sP 1 (g1 := (60, [some (.ref 8), some (.ref (33 + 2 * c)), some (sI ((a : Int))), some (sI kd), some (sI ((b : Int))), X], [sI 1], h)) rfl ?_
      exact s_reti rfl rfl (Or.inr ⟨rfl, by omega⟩) rfl rfl
    · have hc1 : ¬ (((hI h 9 3) : Int) ≤ ((b : Int))) := hc1
      omega
  | succ k ih =>
    intro b h X hh p0 p1 hn
    have nn := hI_rg hh rn_x
    have sz := hI_rg hh (tx_z hc)
    have sg := fSign_rg hh hc p0
    have ed := pAt_dt (sz := hI h (33 + 2 * c) 1) (e := 1000) (p := hI h 8 1) (g := hI h (34 + 2 * c)) (by omega)
    by_cases hf : 48 ≤ pAt (hI h (33 + 2 * c) 1) (hI h (34 + 2 * c)) 1000 (hI h 8 1) ∧ pAt (hI h (33 + 2 * c) 1) (hI h (34 + 2 * c)) 1000 (hI h 8 1) ≤ 57
    · rw [if_pos hf] at ed
      have e1 : pFg (hI h (33 + 2 * c) 1) (hI h (34 + 2 * c)) (k + 1) (hI h 8 1) = pFg (hI h (33 + 2 * c) 1) (hI h (34 + 2 * c)) k (hI h 8 1 + 1) := by
        show (if _ then _ else _) = _
        rw [if_neg (by omega)]
      rw [e1]
      have hF : sR (pAt (hI h (33 + 2 * c) 1) (hI h (34 + 2 * c)) 1000 (hI h 8 1) - 48) := by unfold sR aMi aMa; omega
      have hg1 : aHp (hset h 11 (6 * (a : Int) + (b : Int)).toNat (sI (pAt (hI h (33 + 2 * c) 1) (hI h (34 + 2 * c)) 1000 (hI h 8 1) - 48))) := hset_in hh (rl_x (by omega)) (by rw [sR_i hF]; omega) (by rw [sR_i hF]; omega)
      have s1 := fun e m => hset_slot (v := sI (pAt (hI h (33 + 2 * c) 1) (hI h (34 + 2 * c)) 1000 (hI h 8 1) - 48)) (k := 50) (n := 36) (a := 11) hh rfl (show (6 * (a : Int) + (b : Int)).toNat < 36 by omega) e m
      have q1 := hI_ne (v := sI (pAt (hI h (33 + 2 * c) 1) (hI h (34 + 2 * c)) 1000 (hI h 8 1) - 48)) (k := 50) (n := 36) (a := 11) (b := 8) (m := 1) hh rfl (show (6 * (a : Int) + (b : Int)).toNat < 36 by omega) (by omega)
      have hg2 := rp_hx (z := hI h 8 1 + 1) hg1 (by unfold sR aMi aMa; omega)
      have s2 := fun e m => hset_slot (v := sI (hI h 8 1 + 1)) (k := 2) (n := 2) (a := 8) hg1 rfl (show 1 < 2 by omega) e m
      have t1 := hI_eq (z := hI h 8 1 + 1) (k := 2) (n := 2) (a := 8) hg1 rfl (show 1 < 2 by omega) (by unfold sR aMi aMa; omega)
      have hs2 : ∀ e m, ¬ (e = 8 ∧ m = 1) → ¬ (e = 11 ∧ m = 6 * a + b) → aSlot (hset (hset h 11 (6 * (a : Int) + (b : Int)).toNat (sI (pAt (hI h (33 + 2 * c) 1) (hI h (34 + 2 * c)) 1000 (hI h 8 1) - 48))) 8 1 (sI (hI h 8 1 + 1))) e m = aSlot h e m := fun e m u1 u2 => by rw [s2, if_neg u1, s1, if_neg (by omega)]
      have hs3 : aSlot (hset (hset h 11 (6 * (a : Int) + (b : Int)).toNat (sI (pAt (hI h (33 + 2 * c) 1) (hI h (34 + 2 * c)) 1000 (hI h 8 1) - 48))) 8 1 (sI (hI h 8 1 + 1))) 11 (6 * a + b) = some (sI (pAt (hI h (33 + 2 * c) 1) (hI h (34 + 2 * c)) 1000 (hI h 8 1) - 48)) := by rw [s2, if_neg (by omega), s1, if_pos (by omega)]
      generalize hgg : hset (hset h 11 (6 * (a : Int) + (b : Int)).toNat (sI (pAt (hI h (33 + 2 * c) 1) (hI h (34 + 2 * c)) 1000 (hI h 8 1) - 48))) 8 1 (sI (hI h 8 1 + 1)) = g2 at hg2 hs2 hs3 t1
      have u1 : hI g2 (33 + 2 * c) 1 = hI h (33 + 2 * c) 1 := by unfold hI; rw [hs2 _ _ (by omega) (by omega)]
      have u2 : hI g2 (34 + 2 * c) = hI h (34 + 2 * c) := by funext m; unfold hI; rw [hs2 _ _ (by omega) (by omega)]
      have u3 : hI g2 9 3 = hI h 9 3 := by unfold hI; rw [hs2 _ _ (by omega) (by omega)]
      obtain ⟨h1, r1, r2, r3, r4, r5⟩ := ih (b + 1) g2 (some (sI (pAt (hI h (33 + 2 * c) 1) (hI h (34 + 2 * c)) 1000 (hI h 8 1) - 48))) hg2 (by omega) (by omega) (by omega)
      rw [u1, u2, t1] at r1 r3 r5
      refine ⟨h1, ?_, r2, r3, fun e m w1 w2 => ?_, fun hok j hj => ?_⟩
      rotate_left
      · rw [r4 e m w1 (by omega), hs2 e m w1 (by omega)]
      · match j, hj with
        | 0, _ =>
          have e2 : aSlot h1 11 (6 * a + b + 0) = aSlot g2 11 (6 * a + b) := r4 11 (6 * a + b) (by omega) (by omega)
          rw [hs3] at e2
          rw [hI_of e2, sR_i hF, show hI h 8 1 + ((0 : Nat) : Int) = hI h 8 1 by omega, ed]
        | j + 1, hj =>
          have := r5 hok j (by omega)
          rw [show 6 * a + b + (j + 1) = 6 * a + (b + 1) + j by omega, this, show hI h 8 1 + ((j + 1 : Nat) : Int) = hI h 8 1 + 1 + (j : Int) by omega]
      rw [← hgg] at r1
      refine sP 2 (g1 := (25, [some (.ref 8), some (.ref (33 + 2 * c)), some (sI ((a : Int))), some (sI kd), some (sI ((b : Int))), X], [.ref 8, sI ((b : Int))], h)) rfl ?_
      refine s_get (a := 8) (j := 0) hh rfl ⟨_, rfl⟩ rfl rfl rfl (v := .ref 9) (hR_ok hh (by decide +kernel)) ?_
      refine s_get (a := 9) (j := 3) hh rfl ⟨_, rfl⟩ rfl rfl rfl (v := sI (hI h 9 3)) (hI_ok hh rn_x) ?_
      refine s_icmp (q := .ge) (a := (b : Int)) (b := hI h 9 3) rfl ⟨_, rfl⟩ rfl (by unfold sR aMi aMa; omega) (by unfold sR aMi aMa; omega) (fun hc1 => ?_) (fun hc1 => ?_)
      · have hc1 : ((hI h 9 3) : Int) ≤ ((b : Int)) := hc1
        omega
      · have hc1 : ¬ (((hI h 9 3) : Int) ≤ ((b : Int))) := hc1
        refine sP 2 (g1 := (30, [some (.ref 8), some (.ref (33 + 2 * c)), some (sI ((a : Int))), some (sI kd), some (sI ((b : Int))), X], [.ref (33 + 2 * c), .ref 8], h)) rfl ?_
        refine s_call (k := 28) (args := [.ref 8, .ref (33 + 2 * c)]) (st := []) (v := some (sI (pAt (hI h (33 + 2 * c) 1) (hI h (34 + 2 * c)) 1000 (hI h 8 1)))) (h1 := h) rfl ⟨rfl, rfl⟩ rfl rfl rfl rfl (sRcv hh (a := 8) rfl rfl) rfl (fSign hh hc (by omega) (by omega)) ?_
        refine sP 1 (g1 := (32, [some (.ref 8), some (.ref (33 + 2 * c)), some (sI ((a : Int))), some (sI kd), some (sI ((b : Int))), X], [sI 48, sI (pAt (hI h (33 + 2 * c) 1) (hI h (34 + 2 * c)) 1000 (hI h 8 1))], h)) rfl ?_
        refine s_sub (a := pAt (hI h (33 + 2 * c) 1) (hI h (34 + 2 * c)) 1000 (hI h 8 1)) (b := 48) rfl rfl ?_
        refine sP 2 (g1 := (35, [some (.ref 8), some (.ref (33 + 2 * c)), some (sI ((a : Int))), some (sI kd), some (sI ((b : Int))), some (sI ((pAt (hI h (33 + 2 * c) 1) (hI h (34 + 2 * c)) 1000 (hI h 8 1)) - 48))], [sI ((pAt (hI h (33 + 2 * c) 1) (hI h (34 + 2 * c)) 1000 (hI h 8 1)) - 48)], h)) rfl ?_
        refine s_ifc (q := .lt) (a := (pAt (hI h (33 + 2 * c) 1) (hI h (34 + 2 * c)) 1000 (hI h 8 1)) - 48) rfl ⟨_, rfl⟩ rfl (by unfold sR aMi aMa; omega) (fun hc2 => ?_) (fun hc2 => ?_)
        · have hc2 : (((pAt (hI h (33 + 2 * c) 1) (hI h (34 + 2 * c)) 1000 (hI h 8 1)) - 48) : Int) < 0 := hc2
          omega
        · have hc2 : ¬ ((((pAt (hI h (33 + 2 * c) 1) (hI h (34 + 2 * c)) 1000 (hI h 8 1)) - 48) : Int) < 0) := hc2
          refine sP 2 (g1 := (38, [some (.ref 8), some (.ref (33 + 2 * c)), some (sI ((a : Int))), some (sI kd), some (sI ((b : Int))), some (sI ((pAt (hI h (33 + 2 * c) 1) (hI h (34 + 2 * c)) 1000 (hI h 8 1)) - 48))], [sI 9, sI ((pAt (hI h (33 + 2 * c) 1) (hI h (34 + 2 * c)) 1000 (hI h 8 1)) - 48)], h)) rfl ?_
          refine s_icmp (q := .le) (a := (pAt (hI h (33 + 2 * c) 1) (hI h (34 + 2 * c)) 1000 (hI h 8 1)) - 48) (b := 9) rfl ⟨_, rfl⟩ rfl (by unfold sR aMi aMa; omega) (by unfold sR aMi aMa; omega) (fun hc3 => ?_) (fun hc3 => ?_)
          · have hc3 : (((pAt (hI h (33 + 2 * c) 1) (hI h (34 + 2 * c)) 1000 (hI h 8 1)) - 48) : Int) ≤ 9 := hc3
            refine sP 1 (g1 := (42, [some (.ref 8), some (.ref (33 + 2 * c)), some (sI ((a : Int))), some (sI kd), some (sI ((b : Int))), some (sI ((pAt (hI h (33 + 2 * c) 1) (hI h (34 + 2 * c)) 1000 (hI h 8 1)) - 48))], [.ref 8], h)) rfl ?_
            refine s_get (a := 8) (j := 0) hh rfl ⟨_, rfl⟩ rfl rfl rfl (v := .ref 9) (hR_ok hh (by decide +kernel)) ?_
            refine s_get (a := 9) (j := 1) hh rfl ⟨_, rfl⟩ rfl rfl rfl (v := .ref 11) (hR_ok hh (by decide +kernel)) ?_
            refine sP 2 (g1 := (46, [some (.ref 8), some (.ref (33 + 2 * c)), some (sI ((a : Int))), some (sI kd), some (sI ((b : Int))), some (sI ((pAt (hI h (33 + 2 * c) 1) (hI h (34 + 2 * c)) 1000 (hI h 8 1)) - 48))], [sI ((a : Int)), sI 6, .ref 11], h)) rfl ?_
            refine s_mul (a := 6) (b := (a : Int)) rfl rfl ?_
            refine sP 1 (g1 := (48, [some (.ref 8), some (.ref (33 + 2 * c)), some (sI ((a : Int))), some (sI kd), some (sI ((b : Int))), some (sI ((pAt (hI h (33 + 2 * c) 1) (hI h (34 + 2 * c)) 1000 (hI h 8 1)) - 48))], [sI ((b : Int)), sI (6 * ((a : Int))), .ref 11], h)) rfl ?_
            refine s_add (a := 6 * ((a : Int))) (b := (b : Int)) rfl rfl ?_
            refine sP 1 (g1 := (50, [some (.ref 8), some (.ref (33 + 2 * c)), some (sI ((a : Int))), some (sI kd), some (sI ((b : Int))), some (sI ((pAt (hI h (33 + 2 * c) 1) (hI h (34 + 2 * c)) 1000 (hI h 8 1)) - 48))], [sI ((pAt (hI h (33 + 2 * c) 1) (hI h (34 + 2 * c)) 1000 (hI h 8 1)) - 48), sI ((6 * ((a : Int))) + ((b : Int))), .ref 11], h)) rfl ?_
            refine s_iast (a := 11) (n := 36) (j := (6 * ((a : Int))) + ((b : Int))) hh rfl rfl rfl (by omega) (by omega) (by decide) ?_
            refine sP 2 (g1 := (53, [some (.ref 8), some (.ref (33 + 2 * c)), some (sI ((a : Int))), some (sI kd), some (sI ((b : Int))), some (sI ((pAt (hI h (33 + 2 * c) 1) (hI h (34 + 2 * c)) 1000 (hI h 8 1)) - 48))], [.ref 8, .ref 8], (hset h 11 ((6 * ((a : Int))) + ((b : Int))).toNat (sI ((pAt (hI h (33 + 2 * c) 1) (hI h (34 + 2 * c)) 1000 (hI h 8 1)) - 48))))) rfl ?_
            refine s_get (a := 8) (j := 1) hg1 rfl ⟨_, rfl⟩ rfl rfl rfl (v := sI (hI h 8 1)) (by have q := hI_ok hg1 rp_x; rw [q1] at q; exact q) ?_
            refine sP 1 (g1 := (55, [some (.ref 8), some (.ref (33 + 2 * c)), some (sI ((a : Int))), some (sI kd), some (sI ((b : Int))), some (sI ((pAt (hI h (33 + 2 * c) 1) (hI h (34 + 2 * c)) 1000 (hI h 8 1)) - 48))], [sI 1, sI (hI h 8 1), .ref 8], (hset h 11 ((6 * ((a : Int))) + ((b : Int))).toNat (sI ((pAt (hI h (33 + 2 * c) 1) (hI h (34 + 2 * c)) 1000 (hI h 8 1)) - 48))))) rfl ?_
            refine s_add (a := hI h 8 1) (b := 1) rfl rfl ?_
            refine s_put (a := 8) (j := 1) (k := 2) (n := 2) hg1 rfl ⟨_, rfl⟩ rfl rfl rfl (by decide) rfl ?_
            refine s_inc (a := (b : Int)) (n := 1) (k := 4) rfl rfl rfl ?_
            refine sP 1 (g1 := (23, [some (.ref 8), some (.ref (33 + 2 * c)), some (sI ((a : Int))), some (sI kd), some (sI (((b : Int)) + 1)), some (sI ((pAt (hI h (33 + 2 * c) 1) (hI h (34 + 2 * c)) 1000 (hI h 8 1)) - 48))], [], (hset ((hset h 11 ((6 * ((a : Int))) + ((b : Int))).toNat (sI ((pAt (hI h (33 + 2 * c) 1) (hI h (34 + 2 * c)) 1000 (hI h 8 1)) - 48)))) 8 1 (sI ((hI h 8 1) + 1))))) rfl ?_
            rw [show ((b : Int) + 1) = ((b + 1 : Nat) : Int) by omega]
            exact r1
          · have hc3 : ¬ ((((pAt (hI h (33 + 2 * c) 1) (hI h (34 + 2 * c)) 1000 (hI h 8 1)) - 48) : Int) ≤ 9) := hc3
            omega
    · rw [if_neg hf] at ed
      have e1 : pFg (hI h (33 + 2 * c) 1) (hI h (34 + 2 * c)) (k + 1) (hI h 8 1) = (false, hI h 8 1) := by
        show (if _ then _ else _) = _
        rw [if_pos (by omega)]
      rw [e1]
      refine ⟨h, ?_, hh, rfl, fun e m _ _ => rfl, fun hx => by cases hx⟩
      refine sP 2 (g1 := (25, [some (.ref 8), some (.ref (33 + 2 * c)), some (sI ((a : Int))), some (sI kd), some (sI ((b : Int))), X], [.ref 8, sI ((b : Int))], h)) rfl ?_
      refine s_get (a := 8) (j := 0) hh rfl ⟨_, rfl⟩ rfl rfl rfl (v := .ref 9) (hR_ok hh (by decide +kernel)) ?_
      refine s_get (a := 9) (j := 3) hh rfl ⟨_, rfl⟩ rfl rfl rfl (v := sI (hI h 9 3)) (hI_ok hh rn_x) ?_
      refine s_icmp (q := .ge) (a := (b : Int)) (b := hI h 9 3) rfl ⟨_, rfl⟩ rfl (by unfold sR aMi aMa; omega) (by unfold sR aMi aMa; omega) (fun hc1 => ?_) (fun hc1 => ?_)
      · have hc1 : ((hI h 9 3) : Int) ≤ ((b : Int)) := hc1
        omega
      · have hc1 : ¬ (((hI h 9 3) : Int) ≤ ((b : Int))) := hc1
        refine sP 2 (g1 := (30, [some (.ref 8), some (.ref (33 + 2 * c)), some (sI ((a : Int))), some (sI kd), some (sI ((b : Int))), X], [.ref (33 + 2 * c), .ref 8], h)) rfl ?_
        refine s_call (k := 28) (args := [.ref 8, .ref (33 + 2 * c)]) (st := []) (v := some (sI (pAt (hI h (33 + 2 * c) 1) (hI h (34 + 2 * c)) 1000 (hI h 8 1)))) (h1 := h) rfl ⟨rfl, rfl⟩ rfl rfl rfl rfl (sRcv hh (a := 8) rfl rfl) rfl (fSign hh hc (by omega) (by omega)) ?_
        refine sP 1 (g1 := (32, [some (.ref 8), some (.ref (33 + 2 * c)), some (sI ((a : Int))), some (sI kd), some (sI ((b : Int))), X], [sI 48, sI (pAt (hI h (33 + 2 * c) 1) (hI h (34 + 2 * c)) 1000 (hI h 8 1))], h)) rfl ?_
        refine s_sub (a := pAt (hI h (33 + 2 * c) 1) (hI h (34 + 2 * c)) 1000 (hI h 8 1)) (b := 48) rfl rfl ?_
        refine sP 2 (g1 := (35, [some (.ref 8), some (.ref (33 + 2 * c)), some (sI ((a : Int))), some (sI kd), some (sI ((b : Int))), some (sI ((pAt (hI h (33 + 2 * c) 1) (hI h (34 + 2 * c)) 1000 (hI h 8 1)) - 48))], [sI ((pAt (hI h (33 + 2 * c) 1) (hI h (34 + 2 * c)) 1000 (hI h 8 1)) - 48)], h)) rfl ?_
        refine s_ifc (q := .lt) (a := (pAt (hI h (33 + 2 * c) 1) (hI h (34 + 2 * c)) 1000 (hI h 8 1)) - 48) rfl ⟨_, rfl⟩ rfl (by unfold sR aMi aMa; omega) (fun hc2 => ?_) (fun hc2 => ?_)
        · have hc2 : (((pAt (hI h (33 + 2 * c) 1) (hI h (34 + 2 * c)) 1000 (hI h 8 1)) - 48) : Int) < 0 := hc2
          refine sP 1 (g1 := (40, [some (.ref 8), some (.ref (33 + 2 * c)), some (sI ((a : Int))), some (sI kd), some (sI ((b : Int))), some (sI ((pAt (hI h (33 + 2 * c) 1) (hI h (34 + 2 * c)) 1000 (hI h 8 1)) - 48))], [sI 0], h)) rfl ?_
          exact s_reti rfl rfl (Or.inr ⟨rfl, by omega⟩) rfl rfl
        · have hc2 : ¬ ((((pAt (hI h (33 + 2 * c) 1) (hI h (34 + 2 * c)) 1000 (hI h 8 1)) - 48) : Int) < 0) := hc2
          refine sP 2 (g1 := (38, [some (.ref 8), some (.ref (33 + 2 * c)), some (sI ((a : Int))), some (sI kd), some (sI ((b : Int))), some (sI ((pAt (hI h (33 + 2 * c) 1) (hI h (34 + 2 * c)) 1000 (hI h 8 1)) - 48))], [sI 9, sI ((pAt (hI h (33 + 2 * c) 1) (hI h (34 + 2 * c)) 1000 (hI h 8 1)) - 48)], h)) rfl ?_
          refine s_icmp (q := .le) (a := (pAt (hI h (33 + 2 * c) 1) (hI h (34 + 2 * c)) 1000 (hI h 8 1)) - 48) (b := 9) rfl ⟨_, rfl⟩ rfl (by unfold sR aMi aMa; omega) (by unfold sR aMi aMa; omega) (fun hc3 => ?_) (fun hc3 => ?_)
          · have hc3 : (((pAt (hI h (33 + 2 * c) 1) (hI h (34 + 2 * c)) 1000 (hI h 8 1)) - 48) : Int) ≤ 9 := hc3
            omega
          · have hc3 : ¬ ((((pAt (hI h (33 + 2 * c) 1) (hI h (34 + 2 * c)) 1000 (hI h 8 1)) - 48) : Int) ≤ 9) := hc3
            refine sP 1 (g1 := (40, [some (.ref 8), some (.ref (33 + 2 * c)), some (sI ((a : Int))), some (sI kd), some (sI ((b : Int))), some (sI ((pAt (hI h (33 + 2 * c) 1) (hI h (34 + 2 * c)) 1000 (hI h 8 1)) - 48))], [sI 0], h)) rfl ?_
            exact s_reti rfl rfl (Or.inr ⟨rfl, by omega⟩) rfl rfl
/-- one person -/
theorem fPerson {c a n : Nat} (hc : c < 4) (ha : a < 6) (hh : aHp h) (p0 : 0 ≤ hI h 8 1) (p1 : hI h 8 1 ≤ 70) (hn : hI h 9 3 = n) : ∃ h1, nEv sc (d + 2) 30 [.ref 8, .ref (33 + 2 * c), sI (a : Int)] h (some (sI (if (pPs (hI h (33 + 2 * c) 1) (hI h (34 + 2 * c)) n (hI h 8 1)).1 = true then 1 else 0)), h1) ∧ aHp h1 ∧ hI h1 8 1 = (pPs (hI h (33 + 2 * c) 1) (hI h (34 + 2 * c)) n (hI h 8 1)).2 ∧ (∀ e m, ¬ (e = 8 ∧ m = 1) → ¬ (e = 10 ∧ m = a) → ¬ (e = 11 ∧ 6 * a ≤ m ∧ m < 6 * a + n) → aSlot h1 e m = aSlot h e m) ∧ ((pPs (hI h (33 + 2 * c) 1) (hI h (34 + 2 * c)) n (hI h 8 1)).1 = true → hI h1 10 a = pLt (hI h (33 + 2 * c) 1) (hI h (34 + 2 * c)) (hI h 8 1) ∧ ∀ j, j < n → hI h1 11 (6 * a + j) = pDt (hI h (33 + 2 * c) 1) (hI h (34 + 2 * c)) (hI h 8 1 + 1 + j)) := by
  have nn := hI_rg hh rn_x
  have sz := hI_rg hh (tx_z hc)
  have sg := fSign_rg hh hc p0
  have el := pAt_lt (sz := hI h (33 + 2 * c) 1) (e := 1000) (p := hI h 8 1) (g := hI h (34 + 2 * c)) (by omega)
  have kr := pKd_rg (pAt (hI h (33 + 2 * c) 1) (hI h (34 + 2 * c)) 1000 (hI h 8 1))
  by_cases hf : pKd (pAt (hI h (33 + 2 * c) 1) (hI h (34 + 2 * c)) 1000 (hI h 8 1)) < 0
  · have e1 : pPs (hI h (33 + 2 * c) 1) (hI h (34 + 2 * c)) n (hI h 8 1) = (false, hI h 8 1) := by
      unfold pPs
      rw [if_pos (by omega)]
    rw [e1]
    refine ⟨h, nEv_of (t := mMe30) rfl ?_, hh, rfl, fun e m _ _ _ => rfl, fun hx => by cases hx⟩
    show nRn sc (d + 1) (mMT mMe30) (mMC mMe30) (0, [some (.ref 8), some (.ref (33 + 2 * c)), some (sI (a : Int)), none, none, none], [], h) _
    refine sP 2 (g1 := (2, [some (.ref 8), some (.ref (33 + 2 * c)), some (sI ((a : Int))), none, none, none], [.ref (33 + 2 * c), .ref 8], h)) rfl ?_
    refine s_call (k := 28) (args := [.ref 8, .ref (33 + 2 * c)]) (st := []) (v := some (sI (pAt (hI h (33 + 2 * c) 1) (hI h (34 + 2 * c)) 1000 (hI h 8 1)))) (h1 := h) rfl ⟨rfl, rfl⟩ rfl rfl rfl rfl (sRcv hh (a := 8) rfl rfl) rfl (fSign hh hc (by omega) (by omega)) ?_
    refine s_call (k := 31) (args := [sI (pAt (hI h (33 + 2 * c) 1) (hI h (34 + 2 * c)) 1000 (hI h 8 1))]) (st := []) (v := some (sI (pKd (pAt (hI h (33 + 2 * c) 1) (hI h (34 + 2 * c)) 1000 (hI h 8 1))))) (h1 := h) rfl ⟨rfl, rfl⟩ rfl rfl rfl rfl rfl rfl (fLetter (by omega) (by omega)) ?_
    refine sP 2 (g1 := (6, [some (.ref 8), some (.ref (33 + 2 * c)), some (sI ((a : Int))), some (sI (pKd (pAt (hI h (33 + 2 * c) 1) (hI h (34 + 2 * c)) 1000 (hI h 8 1)))), none, none], [sI (pKd (pAt (hI h (33 + 2 * c) 1) (hI h (34 + 2 * c)) 1000 (hI h 8 1)))], h)) rfl ?_
    refine s_ifc (q := .ge) (a := pKd (pAt (hI h (33 + 2 * c) 1) (hI h (34 + 2 * c)) 1000 (hI h 8 1))) rfl ⟨_, rfl⟩ rfl (by unfold sR aMi aMa; omega) (fun hc1 => ?_) (fun hc1 => ?_)
    · have hc1 : (0 : Int) ≤ (pKd (pAt (hI h (33 + 2 * c) 1) (hI h (34 + 2 * c)) 1000 (hI h 8 1))) := hc1
      omega
    · have hc1 : ¬ ((0 : Int) ≤ (pKd (pAt (hI h (33 + 2 * c) 1) (hI h (34 + 2 * c)) 1000 (hI h 8 1)))) := hc1
      refine sP 1 (g1 := (8, [some (.ref 8), some (.ref (33 + 2 * c)), some (sI ((a : Int))), some (sI (pKd (pAt (hI h (33 + 2 * c) 1) (hI h (34 + 2 * c)) 1000 (hI h 8 1)))), none, none], [sI 0], h)) rfl ?_
      exact s_reti rfl rfl (Or.inr ⟨rfl, by omega⟩) rfl rfl
  · have e1 : pPs (hI h (33 + 2 * c) 1) (hI h (34 + 2 * c)) n (hI h 8 1) = pFg (hI h (33 + 2 * c) 1) (hI h (34 + 2 * c)) n (hI h 8 1 + 1) := by
      unfold pPs
      rw [if_neg (by omega)]
    rw [e1]
    have hF : sR (pKd (pAt (hI h (33 + 2 * c) 1) (hI h (34 + 2 * c)) 1000 (hI h 8 1))) := by unfold sR aMi aMa; omega
    have hg1 : aHp (hset h 10 (a : Int).toNat (sI (pKd (pAt (hI h (33 + 2 * c) 1) (hI h (34 + 2 * c)) 1000 (hI h 8 1))))) := hset_in hh (rk_x (by omega)) (by rw [sR_i hF]; omega) (by rw [sR_i hF]; omega)
    have s1 := fun e m => hset_slot (v := sI (pKd (pAt (hI h (33 + 2 * c) 1) (hI h (34 + 2 * c)) 1000 (hI h 8 1)))) (k := 50) (n := 6) (a := 10) hh rfl (show (a : Int).toNat < 6 by omega) e m
    have q1 := hI_ne (v := sI (pKd (pAt (hI h (33 + 2 * c) 1) (hI h (34 + 2 * c)) 1000 (hI h 8 1)))) (k := 50) (n := 6) (a := 10) (b := 8) (m := 1) hh rfl (show (a : Int).toNat < 6 by omega) (by omega)
    have hg2 := rp_hx (z := hI h 8 1 + 1) hg1 (by unfold sR aMi aMa; omega)
    have s2 := fun e m => hset_slot (v := sI (hI h 8 1 + 1)) (k := 2) (n := 2) (a := 8) hg1 rfl (show 1 < 2 by omega) e m
    have t1 := hI_eq (z := hI h 8 1 + 1) (k := 2) (n := 2) (a := 8) hg1 rfl (show 1 < 2 by omega) (by unfold sR aMi aMa; omega)
    have hs2 : ∀ e m, ¬ (e = 8 ∧ m = 1) → ¬ (e = 10 ∧ m = a) → aSlot (hset (hset h 10 (a : Int).toNat (sI (pKd (pAt (hI h (33 + 2 * c) 1) (hI h (34 + 2 * c)) 1000 (hI h 8 1))))) 8 1 (sI (hI h 8 1 + 1))) e m = aSlot h e m := fun e m u1 u2 => by rw [s2, if_neg u1, s1, if_neg (by omega)]
    have hs3 : aSlot (hset (hset h 10 (a : Int).toNat (sI (pKd (pAt (hI h (33 + 2 * c) 1) (hI h (34 + 2 * c)) 1000 (hI h 8 1))))) 8 1 (sI (hI h 8 1 + 1))) 10 a = some (sI (pKd (pAt (hI h (33 + 2 * c) 1) (hI h (34 + 2 * c)) 1000 (hI h 8 1)))) := by rw [s2, if_neg (by omega), s1, if_pos (by omega)]
    generalize hgg : hset (hset h 10 (a : Int).toNat (sI (pKd (pAt (hI h (33 + 2 * c) 1) (hI h (34 + 2 * c)) 1000 (hI h 8 1))))) 8 1 (sI (hI h 8 1 + 1)) = g2 at hg2 hs2 hs3 t1
    have u1 : hI g2 (33 + 2 * c) 1 = hI h (33 + 2 * c) 1 := by unfold hI; rw [hs2 _ _ (by omega) (by omega)]
    have u2 : hI g2 (34 + 2 * c) = hI h (34 + 2 * c) := by funext m; unfold hI; rw [hs2 _ _ (by omega) (by omega)]
    have u3 : hI g2 9 3 = hI h 9 3 := by unfold hI; rw [hs2 _ _ (by omega) (by omega)]
    obtain ⟨h1, r1, r2, r3, r4, r5⟩ := fFigL (sc := sc) (d := d) (a := a) (kd := pKd (pAt (hI h (33 + 2 * c) 1) (hI h (34 + 2 * c)) 1000 (hI h 8 1))) hc ha n 0 g2 none hg2 (by omega) (by omega) (by omega)
    rw [u1, u2, t1] at r1 r3 r5
    refine ⟨h1, nEv_of (t := mMe30) rfl ?_, r2, r3, fun e m w1 w2 w3 => ?_, fun hok => ⟨?_, fun j hj => ?_⟩⟩
    rotate_left
    · rw [r4 e m w1 (by omega), hs2 e m w1 w2]
    · have e2 : aSlot h1 10 a = aSlot g2 10 a := r4 10 a (by omega) (by omega)
      rw [hs3] at e2
      rw [hI_of e2, sR_i hF, el]
    · have := r5 hok j hj
      rw [show 6 * a + j = 6 * a + 0 + j by omega, this]
    show nRn sc (d + 1) (mMT mMe30) (mMC mMe30) (0, [some (.ref 8), some (.ref (33 + 2 * c)), some (sI (a : Int)), none, none, none], [], h) _
    rw [← hgg] at r1
    refine sP 2 (g1 := (2, [some (.ref 8), some (.ref (33 + 2 * c)), some (sI ((a : Int))), none, none, none], [.ref (33 + 2 * c), .ref 8], h)) rfl ?_
    refine s_call (k := 28) (args := [.ref 8, .ref (33 + 2 * c)]) (st := []) (v := some (sI (pAt (hI h (33 + 2 * c) 1) (hI h (34 + 2 * c)) 1000 (hI h 8 1)))) (h1 := h) rfl ⟨rfl, rfl⟩ rfl rfl rfl rfl (sRcv hh (a := 8) rfl rfl) rfl (fSign hh hc (by omega) (by omega)) ?_
    refine s_call (k := 31) (args := [sI (pAt (hI h (33 + 2 * c) 1) (hI h (34 + 2 * c)) 1000 (hI h 8 1))]) (st := []) (v := some (sI (pKd (pAt (hI h (33 + 2 * c) 1) (hI h (34 + 2 * c)) 1000 (hI h 8 1))))) (h1 := h) rfl ⟨rfl, rfl⟩ rfl rfl rfl rfl rfl rfl (fLetter (by omega) (by omega)) ?_
    refine sP 2 (g1 := (6, [some (.ref 8), some (.ref (33 + 2 * c)), some (sI ((a : Int))), some (sI (pKd (pAt (hI h (33 + 2 * c) 1) (hI h (34 + 2 * c)) 1000 (hI h 8 1)))), none, none], [sI (pKd (pAt (hI h (33 + 2 * c) 1) (hI h (34 + 2 * c)) 1000 (hI h 8 1)))], h)) rfl ?_
    refine s_ifc (q := .ge) (a := pKd (pAt (hI h (33 + 2 * c) 1) (hI h (34 + 2 * c)) 1000 (hI h 8 1))) rfl ⟨_, rfl⟩ rfl (by unfold sR aMi aMa; omega) (fun hc1 => ?_) (fun hc1 => ?_)
    · have hc1 : (0 : Int) ≤ (pKd (pAt (hI h (33 + 2 * c) 1) (hI h (34 + 2 * c)) 1000 (hI h 8 1))) := hc1
      refine sP 1 (g1 := (10, [some (.ref 8), some (.ref (33 + 2 * c)), some (sI ((a : Int))), some (sI (pKd (pAt (hI h (33 + 2 * c) 1) (hI h (34 + 2 * c)) 1000 (hI h 8 1)))), none, none], [.ref 8], h)) rfl ?_
      refine s_get (a := 8) (j := 0) hh rfl ⟨_, rfl⟩ rfl rfl rfl (v := .ref 9) (hR_ok hh (by decide +kernel)) ?_
      refine s_get (a := 9) (j := 0) hh rfl ⟨_, rfl⟩ rfl rfl rfl (v := .ref 10) (hR_ok hh (by decide +kernel)) ?_
      refine sP 2 (g1 := (14, [some (.ref 8), some (.ref (33 + 2 * c)), some (sI ((a : Int))), some (sI (pKd (pAt (hI h (33 + 2 * c) 1) (hI h (34 + 2 * c)) 1000 (hI h 8 1)))), none, none], [sI (pKd (pAt (hI h (33 + 2 * c) 1) (hI h (34 + 2 * c)) 1000 (hI h 8 1))), sI ((a : Int)), .ref 10], h)) rfl ?_
      refine s_iast (a := 10) (n := 6) (j := (a : Int)) hh rfl rfl rfl (by omega) (by omega) (by decide) ?_
      refine sP 2 (g1 := (17, [some (.ref 8), some (.ref (33 + 2 * c)), some (sI ((a : Int))), some (sI (pKd (pAt (hI h (33 + 2 * c) 1) (hI h (34 + 2 * c)) 1000 (hI h 8 1)))), none, none], [.ref 8, .ref 8], (hset h 10 ((a : Int)).toNat (sI (pKd (pAt (hI h (33 + 2 * c) 1) (hI h (34 + 2 * c)) 1000 (hI h 8 1))))))) rfl ?_
      refine s_get (a := 8) (j := 1) hg1 rfl ⟨_, rfl⟩ rfl rfl rfl (v := sI (hI h 8 1)) (by have q := hI_ok hg1 rp_x; rw [q1] at q; exact q) ?_
      refine sP 1 (g1 := (19, [some (.ref 8), some (.ref (33 + 2 * c)), some (sI ((a : Int))), some (sI (pKd (pAt (hI h (33 + 2 * c) 1) (hI h (34 + 2 * c)) 1000 (hI h 8 1)))), none, none], [sI 1, sI (hI h 8 1), .ref 8], (hset h 10 ((a : Int)).toNat (sI (pKd (pAt (hI h (33 + 2 * c) 1) (hI h (34 + 2 * c)) 1000 (hI h 8 1))))))) rfl ?_
      refine s_add (a := hI h 8 1) (b := 1) rfl rfl ?_
      refine s_put (a := 8) (j := 1) (k := 2) (n := 2) hg1 rfl ⟨_, rfl⟩ rfl rfl rfl (by decide) rfl ?_
      refine sP 2 (g1 := (23, [some (.ref 8), some (.ref (33 + 2 * c)), some (sI ((a : Int))), some (sI (pKd (pAt (hI h (33 + 2 * c) 1) (hI h (34 + 2 * c)) 1000 (hI h 8 1)))), some (sI 0), none], [], (hset ((hset h 10 ((a : Int)).toNat (sI (pKd (pAt (hI h (33 + 2 * c) 1) (hI h (34 + 2 * c)) 1000 (hI h 8 1)))))) 8 1 (sI ((hI h 8 1) + 1))))) rfl ?_
      exact r1
    · have hc1 : ¬ ((0 : Int) ≤ (pKd (pAt (hI h (33 + 2 * c) 1) (hI h (34 + 2 * c)) 1000 (hI h 8 1)))) := hc1
      omega
/-- where the persons stand -/
noncomputable def pPo (sz : Int) (g : Nat → Int) (n : Nat) : Nat → Int → Int
  | 0, p => pSk sz g 61 p
  | j + 1, p => pPo sz g n j (pSk sz g 61 p + 1 + n)
theorem pPs_rg (sz : Int) (g : Nat → Int) (n : Nat) (p : Int) : p ≤ (pPs sz g n p).2 ∧ (pPs sz g n p).2 ≤ max p sz ∧ ((pPs sz g n p).1 = true → (pPs sz g n p).2 = p + 1 + n) := by
  unfold pPs
  split
  · exact ⟨Int.le_refl _, by show p ≤ max p sz; omega, fun h => by cases h⟩
  · rename_i hl
    have h1 : p < sz := by
      unfold pLt at hl
      split at hl
      · assumption
      · omega
    obtain ⟨a, b, c⟩ := pFg_rg sz g n (p + 1)
    have e := pFg_le sz g n (p + 1) (by omega)
    exact ⟨by omega, by omega, c⟩
theorem pEnd_rg (sz : Int) (g : Nat → Int) (n : Nat) : ∀ (k : Nat) (p : Int), 0 ≤ p → -9 ≤ pEnd sz g n k p ∧ pEnd sz g n k p ≤ max p sz
  | 0, p, h0 => by
    have := pSk_ge sz g 61 p
    unfold pEnd
    split <;> omega
  | k + 1, p, h0 => by
    have s1 := pSk_ge sz g 61 p
    have s2 := pSk_le sz g 61 p
    obtain ⟨q1, q2, -⟩ := pPs_rg sz g n (pSk sz g 61 p)
    unfold pEnd
    split
    · have := pEnd_rg sz g n k (pPs sz g n (pSk sz g 61 p)).2 (by omega)
      omega
    · omega
theorem fReadL {c n : Nat} (hc : c < 4) (hn6 : n ≤ 6) : ∀ (k a : Nat) (h : mH), a + k = n → aHp h → hI h 9 3 = n → 0 ≤ hI h 8 1 → hI h 8 1 ≤ 60 → ∃ h1, nRn sc (d + 2) (mMT mMe26) (mMC mMe26) (47, [some (.ref 8), some (.ref (33 + 2 * c)), some (sI (n : Int)), some (sI (a : Int))], [], h) (some (sI (pEnd (hI h (33 + 2 * c) 1) (hI h (34 + 2 * c)) n k (hI h 8 1))), h1) ∧ aHp h1 ∧ (∀ e m, e ≠ 8 → e ≠ 10 → e ≠ 11 → aSlot h1 e m = aSlot h e m) ∧ (∀ m, m < a → aSlot h1 10 m = aSlot h 10 m) ∧ (∀ m, m < 6 * a → aSlot h1 11 m = aSlot h 11 m) ∧ (pEnd (hI h (33 + 2 * c) 1) (hI h (34 + 2 * c)) n k (hI h 8 1) = -9 → ∀ j, j < k → hI h1 10 (a + j) = pLt (hI h (33 + 2 * c) 1) (hI h (34 + 2 * c)) (pPo (hI h (33 + 2 * c) 1) (hI h (34 + 2 * c)) n j (hI h 8 1)) ∧ ∀ b, b < n → hI h1 11 (6 * (a + j) + b) = pDt (hI h (33 + 2 * c) 1) (hI h (34 + 2 * c)) (pPo (hI h (33 + 2 * c) 1) (hI h (34 + 2 * c)) n j (hI h 8 1) + 1 + b)) := by
  intro k
  induction k with
  | zero =>
    intro a h hk hh hn p0 p1
    have sz := hI_rg hh (tx_z hc)
    have k1 := pSk_ge (hI h (33 + 2 * c) 1) (hI h (34 + 2 * c)) 61 (hI h 8 1)
    have k2 := pSk_le (hI h (33 + 2 * c) 1) (hI h (34 + 2 * c)) 61 (hI h 8 1)
    have hR : sR (pSk (hI h (33 + 2 * c) 1) (hI h (34 + 2 * c)) 61 (hI h 8 1)) := by unfold sR aMi aMa; omega
    have hg1 := rp_hx hh hR
    have t1 := hI_eq (k := 2) (n := 2) (a := 8) hh rfl (show 1 < 2 by omega) hR
    have u1 := hI_ne (v := sI (pSk (hI h (33 + 2 * c) 1) (hI h (34 + 2 * c)) 61 (hI h 8 1))) (k := 2) (n := 2) (a := 8) (b := 33 + 2 * c) (m := 1) hh rfl (show 1 < 2 by omega) (by omega)
    have s1 := fun e m => hset_slot (v := sI (pSk (hI h (33 + 2 * c) 1) (hI h (34 + 2 * c)) 61 (hI h 8 1))) (k := 2) (n := 2) (a := 8) hh rfl (show 1 < 2 by omega) e m
    have ev := fSkip (sc := sc) (d := d) hh hc p0 (by omega)
    generalize hset h 8 1 (sI (pSk (hI h (33 + 2 * c) 1) (hI h (34 + 2 * c)) 61 (hI h 8 1))) = g1 at hg1 t1 u1 s1 ev
    refine ⟨g1, ?_, hg1, fun e m w1 _ _ => by rw [s1, if_neg (by omega)], fun m _ => by rw [s1, if_neg (by omega)], fun m _ => by rw [s1, if_neg (by omega)], fun _ j hj => by omega⟩
    refine sP 2 (g1 := (49, [some (.ref 8), some (.ref (33 + 2 * c)), some (sI ((n : Int))), some (sI ((a : Int)))], [sI ((n : Int)), sI ((a : Int))], h)) rfl ?_
    refine s_icmp (q := .ge) (a := (a : Int)) (b := (n : Int)) rfl ⟨_, rfl⟩ rfl (by unfold sR aMi aMa; omega) (by unfold sR aMi aMa; omega) (fun hc1 => ?_) (fun hc1 => ?_)
    · have hc1 : (((n : Int)) : Int) ≤ ((a : Int)) := hc1
      refine sP 2 (g1 := (65, [some (.ref 8), some (.ref (33 + 2 * c)), some (sI ((n : Int))), some (sI ((a : Int)))], [.ref (33 + 2 * c), .ref 8], h)) rfl ?_
      refine s_call (k := 27) (args := [.ref 8, .ref (33 + 2 * c)]) (st := []) (v := none) (h1 := g1) rfl ⟨rfl, rfl⟩ rfl rfl rfl rfl (sRcv hh (a := 8) rfl rfl) rfl ev ?_
      refine sP 1 (g1 := (67, [some (.ref 8), some (.ref (33 + 2 * c)), some (sI ((n : Int))), some (sI ((a : Int)))], [.ref 8], g1)) rfl ?_
      refine s_get (a := 8) (j := 1) hg1 rfl ⟨_, rfl⟩ rfl rfl rfl (v := sI (pSk (hI h (33 + 2 * c) 1) (hI h (34 + 2 * c)) 61 (hI h 8 1))) (by have q := hI_ok hg1 rp_x; rw [t1] at q; exact q) ?_
      refine sP 1 (g1 := (69, [some (.ref 8), some (.ref (33 + 2 * c)), some (sI ((n : Int))), some (sI ((a : Int)))], [.ref (33 + 2 * c), sI (pSk (hI h (33 + 2 * c) 1) (hI h (34 + 2 * c)) 61 (hI h 8 1))], g1)) rfl ?_
      refine s_get (a := 33 + 2 * c) (j := 1) hg1 rfl ⟨_, rfl⟩ (tx_a hc) rfl rfl (v := sI (hI h (33 + 2 * c) 1)) (by have q := hI_ok hg1 (tx_z hc); rw [u1] at q; exact q) ?_
      refine s_icmp (q := .ge) (a := pSk (hI h (33 + 2 * c) 1) (hI h (34 + 2 * c)) 61 (hI h 8 1)) (b := hI h (33 + 2 * c) 1) rfl ⟨_, rfl⟩ rfl (by unfold sR aMi aMa; omega) (by unfold sR aMi aMa; omega) (fun hc2 => ?_) (fun hc2 => ?_)
      · have hc2 : ((hI h (33 + 2 * c) 1) : Int) ≤ (pSk (hI h (33 + 2 * c) 1) (hI h (34 + 2 * c)) 61 (hI h 8 1)) := hc2
        refine sP 1 (g1 := (75, [some (.ref 8), some (.ref (33 + 2 * c)), some (sI ((n : Int))), some (sI ((a : Int)))], [sI ((-9))], g1)) rfl ?_
        exact s_reti rfl rfl (Or.inl rfl) (by unfold pEnd; first | rw [if_pos (by omega)] | rw [if_neg (by omega)]) rfl
      · have hc2 : ¬ (((hI h (33 + 2 * c) 1) : Int) ≤ (pSk (hI h (33 + 2 * c) 1) (hI h (34 + 2 * c)) 61 (hI h 8 1))) := hc2
        refine sP 1 (g1 := (72, [some (.ref 8), some (.ref (33 + 2 * c)), some (sI ((n : Int))), some (sI ((a : Int)))], [.ref 8], g1)) rfl ?_
        refine s_get (a := 8) (j := 1) hg1 rfl ⟨_, rfl⟩ rfl rfl rfl (v := sI (pSk (hI h (33 + 2 * c) 1) (hI h (34 + 2 * c)) 61 (hI h 8 1))) (by have q := hI_ok hg1 rp_x; rw [t1] at q; exact q) ?_
        refine sP 1 (g1 := (75, [some (.ref 8), some (.ref (33 + 2 * c)), some (sI ((n : Int))), some (sI ((a : Int)))], [sI (pSk (hI h (33 + 2 * c) 1) (hI h (34 + 2 * c)) 61 (hI h 8 1))], g1)) rfl ?_
        exact s_reti rfl rfl (Or.inl rfl) (by unfold pEnd; first | rw [if_pos (by omega)] | rw [if_neg (by omega)]) rfl
    · have hc1 : ¬ ((((n : Int)) : Int) ≤ ((a : Int))) := hc1
      omega
  | succ k ih =>
    intro a h hk hh hn p0 p1
    have sz := hI_rg hh (tx_z hc)
    have k1 := pSk_ge (hI h (33 + 2 * c) 1) (hI h (34 + 2 * c)) 61 (hI h 8 1)
    have k2 := pSk_le (hI h (33 + 2 * c) 1) (hI h (34 + 2 * c)) 61 (hI h 8 1)
    have hR : sR (pSk (hI h (33 + 2 * c) 1) (hI h (34 + 2 * c)) 61 (hI h 8 1)) := by unfold sR aMi aMa; omega
    have hg1 := rp_hx hh hR
    have t1 := hI_eq (k := 2) (n := 2) (a := 8) hh rfl (show 1 < 2 by omega) hR
    have u1 := hI_ne (v := sI (pSk (hI h (33 + 2 * c) 1) (hI h (34 + 2 * c)) 61 (hI h 8 1))) (k := 2) (n := 2) (a := 8) (b := 33 + 2 * c) (m := 1) hh rfl (show 1 < 2 by omega) (by omega)
    have u2 := hI_nf (v := sI (pSk (hI h (33 + 2 * c) 1) (hI h (34 + 2 * c)) 61 (hI h 8 1))) (k := 2) (n := 2) (a := 8) (b := 34 + 2 * c) hh rfl (show 1 < 2 by omega) (by omega)
    have u3 := hI_ne (v := sI (pSk (hI h (33 + 2 * c) 1) (hI h (34 + 2 * c)) 61 (hI h 8 1))) (k := 2) (n := 2) (a := 8) (b := 9) (m := 3) hh rfl (show 1 < 2 by omega) (by omega)
    have s1 := fun e m => hset_slot (v := sI (pSk (hI h (33 + 2 * c) 1) (hI h (34 + 2 * c)) 61 (hI h 8 1))) (k := 2) (n := 2) (a := 8) hh rfl (show 1 < 2 by omega) e m
    have ev := fSkip (sc := sc) (d := d) hh hc p0 (by omega)
    generalize hset h 8 1 (sI (pSk (hI h (33 + 2 * c) 1) (hI h (34 + 2 * c)) 61 (hI h 8 1))) = g1 at hg1 t1 u1 u2 u3 s1 ev
    obtain ⟨g2, v1, v2, v3, v4, v5⟩ := fPerson (sc := sc) (d := d) (a := a) (n := n) hc (by omega) hg1 (by omega) (by omega) (by omega)
    rw [u1, u2, t1] at v1 v3 v5
    obtain ⟨q1, q2, q3⟩ := pPs_rg (hI h (33 + 2 * c) 1) (hI h (34 + 2 * c)) n (pSk (hI h (33 + 2 * c) 1) (hI h (34 + 2 * c)) 61 (hI h 8 1))
    have f0 : ∀ e m, e ≠ 8 → e ≠ 10 → e ≠ 11 → aSlot g2 e m = aSlot h e m := fun e m w1 w2 w3 => by rw [v4 e m (by omega) (by omega) (by omega), s1, if_neg (by omega)]
    have f1 : ∀ m, m < a → aSlot g2 10 m = aSlot h 10 m := fun m w => by rw [v4 10 m (by omega) (by omega) (by omega), s1, if_neg (by omega)]
    have f2 : ∀ m, m < 6 * a → aSlot g2 11 m = aSlot h 11 m := fun m w => by rw [v4 11 m (by omega) (by omega) (by omega), s1, if_neg (by omega)]
    by_cases hok : (pPs (hI h (33 + 2 * c) 1) (hI h (34 + 2 * c)) n (pSk (hI h (33 + 2 * c) 1) (hI h (34 + 2 * c)) 61 (hI h 8 1))).1 = true
    · have e1 : pEnd (hI h (33 + 2 * c) 1) (hI h (34 + 2 * c)) n (k + 1) (hI h 8 1) = pEnd (hI h (33 + 2 * c) 1) (hI h (34 + 2 * c)) n k (pPs (hI h (33 + 2 * c) 1) (hI h (34 + 2 * c)) n (pSk (hI h (33 + 2 * c) 1) (hI h (34 + 2 * c)) 61 (hI h 8 1))).2 := by
        show (if _ then _ else _) = _
        rw [if_pos hok]
      have y1 : hI g2 (33 + 2 * c) 1 = hI h (33 + 2 * c) 1 := by unfold hI; rw [f0 _ _ (by omega) (by omega) (by omega)]
      have y2 : hI g2 (34 + 2 * c) = hI h (34 + 2 * c) := by funext m; unfold hI; rw [f0 _ _ (by omega) (by omega) (by omega)]
      have y3 : hI g2 9 3 = n := by rw [← hn]; unfold hI; rw [f0 _ _ (by omega) (by omega) (by omega)]
      obtain ⟨h1, r1, r2, r3, r4, r5, r6⟩ := ih (a + 1) g2 (by omega) v2 y3 (by omega) (by omega)
      rw [y1, y2, v3] at r1 r6
      rw [e1]
      rw [if_pos hok] at v1
      refine ⟨h1, ?_, r2, fun e m w1 w2 w3 => (r3 e m w1 w2 w3).trans (f0 e m w1 w2 w3), fun m w => (r4 m (by omega)).trans (f1 m w), fun m w => (r5 m (by omega)).trans (f2 m w), fun hz j hj => ?_⟩
      rotate_left
      · match j, hj with
        | 0, _ =>
          obtain ⟨x1, x2⟩ := v5 hok
          refine ⟨?_, fun b hb => ?_⟩
          · show hI h1 10 a = pLt _ _ (pSk _ _ 61 _)
            rw [← x1]
            unfold hI
            rw [r4 a (by omega)]
          · show hI h1 11 (6 * a + b) = pDt _ _ (pSk _ _ 61 _ + 1 + b)
            rw [← x2 b hb]
            unfold hI
            rw [r5 (6 * a + b) (by omega)]
        | j + 1, hj =>
          have := r6 hz j (by omega)
          rw [q3 hok] at this
          rw [show a + (j + 1) = a + 1 + j by omega]
          exact this
      refine sP 2 (g1 := (49, [some (.ref 8), some (.ref (33 + 2 * c)), some (sI ((n : Int))), some (sI ((a : Int)))], [sI ((n : Int)), sI ((a : Int))], h)) rfl ?_
      refine s_icmp (q := .ge) (a := (a : Int)) (b := (n : Int)) rfl ⟨_, rfl⟩ rfl (by unfold sR aMi aMa; omega) (by unfold sR aMi aMa; omega) (fun hc1 => ?_) (fun hc1 => ?_)
      · have hc1 : (((n : Int)) : Int) ≤ ((a : Int)) := hc1
        omega
      · have hc1 : ¬ ((((n : Int)) : Int) ≤ ((a : Int))) := hc1
        refine sP 2 (g1 := (52, [some (.ref 8), some (.ref (33 + 2 * c)), some (sI ((n : Int))), some (sI ((a : Int)))], [.ref (33 + 2 * c), .ref 8], h)) rfl ?_
        refine s_call (k := 27) (args := [.ref 8, .ref (33 + 2 * c)]) (st := []) (v := none) (h1 := g1) rfl ⟨rfl, rfl⟩ rfl rfl rfl rfl (sRcv hh (a := 8) rfl rfl) rfl ev ?_
        refine sP 3 (g1 := (56, [some (.ref 8), some (.ref (33 + 2 * c)), some (sI ((n : Int))), some (sI ((a : Int)))], [sI ((a : Int)), .ref (33 + 2 * c), .ref 8], g1)) rfl ?_
        refine s_call (k := 30) (args := [.ref 8, .ref (33 + 2 * c), sI ((a : Int))]) (st := []) (v := some (sI 1)) (h1 := g2) rfl ⟨rfl, rfl⟩ rfl rfl rfl rfl (sRcv hg1 (a := 8) rfl rfl) rfl v1 ?_
        refine s_ifc (q := .ne) (a := 1) rfl ⟨_, rfl⟩ rfl (by unfold sR aMi aMa; omega) (fun hc2 => ?_) (fun hc2 => ?_)
        · have hc2 : (1 : Int) ≠ 0 := hc2
          refine s_inc (a := (a : Int)) (n := 1) (k := 3) rfl rfl rfl ?_
          refine sP 1 (g1 := (47, [some (.ref 8), some (.ref (33 + 2 * c)), some (sI ((n : Int))), some (sI (((a : Int)) + 1))], [], g2)) rfl ?_
          rw [show ((a : Int) + 1) = ((a + 1 : Nat) : Int) by omega]
          exact r1
        · have hc2 : ¬ ((1 : Int) ≠ 0) := hc2
          omega
    · have e1 : pEnd (hI h (33 + 2 * c) 1) (hI h (34 + 2 * c)) n (k + 1) (hI h 8 1) = (pPs (hI h (33 + 2 * c) 1) (hI h (34 + 2 * c)) n (pSk (hI h (33 + 2 * c) 1) (hI h (34 + 2 * c)) 61 (hI h 8 1))).2 := by
        show (if _ then _ else _) = _
        rw [if_neg hok]
      rw [e1]
      rw [if_neg hok] at v1
      refine ⟨g2, ?_, v2, f0, f1, f2, fun hz => by omega⟩
      refine sP 2 (g1 := (49, [some (.ref 8), some (.ref (33 + 2 * c)), some (sI ((n : Int))), some (sI ((a : Int)))], [sI ((n : Int)), sI ((a : Int))], h)) rfl ?_
      refine s_icmp (q := .ge) (a := (a : Int)) (b := (n : Int)) rfl ⟨_, rfl⟩ rfl (by unfold sR aMi aMa; omega) (by unfold sR aMi aMa; omega) (fun hc1 => ?_) (fun hc1 => ?_)
      · have hc1 : (((n : Int)) : Int) ≤ ((a : Int)) := hc1
        omega
      · have hc1 : ¬ ((((n : Int)) : Int) ≤ ((a : Int))) := hc1
        refine sP 2 (g1 := (52, [some (.ref 8), some (.ref (33 + 2 * c)), some (sI ((n : Int))), some (sI ((a : Int)))], [.ref (33 + 2 * c), .ref 8], h)) rfl ?_
        refine s_call (k := 27) (args := [.ref 8, .ref (33 + 2 * c)]) (st := []) (v := none) (h1 := g1) rfl ⟨rfl, rfl⟩ rfl rfl rfl rfl (sRcv hh (a := 8) rfl rfl) rfl ev ?_
        refine sP 3 (g1 := (56, [some (.ref 8), some (.ref (33 + 2 * c)), some (sI ((n : Int))), some (sI ((a : Int)))], [sI ((a : Int)), .ref (33 + 2 * c), .ref 8], g1)) rfl ?_
        refine s_call (k := 30) (args := [.ref 8, .ref (33 + 2 * c), sI ((a : Int))]) (st := []) (v := some (sI 0)) (h1 := g2) rfl ⟨rfl, rfl⟩ rfl rfl rfl rfl (sRcv hg1 (a := 8) rfl rfl) rfl v1 ?_
        refine s_ifc (q := .ne) (a := 0) rfl ⟨_, rfl⟩ rfl (by unfold sR aMi aMa; omega) (fun hc2 => ?_) (fun hc2 => ?_)
        · have hc2 : (0 : Int) ≠ 0 := hc2
          omega
        · have hc2 : ¬ ((0 : Int) ≠ 0) := hc2
          refine sP 1 (g1 := (59, [some (.ref 8), some (.ref (33 + 2 * c)), some (sI ((n : Int))), some (sI ((a : Int)))], [.ref 8], g2)) rfl ?_
          refine s_get (a := 8) (j := 1) v2 rfl ⟨_, rfl⟩ rfl rfl rfl (v := sI ((pPs (hI h (33 + 2 * c) 1) (hI h (34 + 2 * c)) n (pSk (hI h (33 + 2 * c) 1) (hI h (34 + 2 * c)) 61 (hI h 8 1))).2)) (by have q := hI_ok v2 rp_x; rw [v3] at q; exact q) ?_
          exact s_reti rfl rfl (Or.inl rfl) rfl rfl
theorem rH {z : Int} {c : Nat} (hh : aHp h) (hz : sR z) : aHp (hset h 8 1 (sI z)) ∧ hI (hset h 8 1 (sI z)) 8 1 = z ∧ hI (hset h 8 1 (sI z)) (33 + 2 * c) 1 = hI h (33 + 2 * c) 1 ∧ hI (hset h 8 1 (sI z)) (34 + 2 * c) = hI h (34 + 2 * c) :=
  ⟨rp_hx hh hz, hI_eq (k := 2) (n := 2) hh rfl (by omega) hz, hI_ne (k := 2) (n := 2) hh rfl (by omega) (by omega), hI_nf (k := 2) (n := 2) hh rfl (by omega) (by omega)⟩
theorem fSkipH {c : Nat} {z : Int} (hh : aHp h) (hc : c < 4) (z0 : 0 ≤ z) (z1 : z ≤ 90) : nEv sc (d + 2) 27 [.ref 8, .ref (33 + 2 * c)] (hset h 8 1 (sI z)) (none, hset h 8 1 (sI (pSk (hI h (33 + 2 * c) 1) (hI h (34 + 2 * c)) 61 z))) := by
  obtain ⟨a1, a2, a3, a4⟩ := rH (z := z) (c := c) hh (by unfold sR aMi aMa; omega)
  have := fSkip (sc := sc) (d := d) a1 hc (by omega) (by omega)
  rw [a2, a3, a4, hset_hset] at this
  exact this
theorem fSignH {c : Nat} {z : Int} (hh : aHp h) (hc : c < 4) (z0 : 0 ≤ z) (z1 : z ≤ 90) : nEv sc (d + 1) 28 [.ref 8, .ref (33 + 2 * c)] (hset h 8 1 (sI z)) (some (sI (pAt (hI h (33 + 2 * c) 1) (hI h (34 + 2 * c)) 1000 z)), hset h 8 1 (sI z)) := by
  obtain ⟨a1, a2, a3, a4⟩ := rH (z := z) (c := c) hh (by unfold sR aMi aMa; omega)
  have := fSign (sc := sc) (d := d) a1 hc (by omega) (by omega)
  rw [a2, a3, a4] at this
  exact this
theorem pAt_rg {c : Nat} {z : Int} (hh : aHp h) (hc : c < 4) (z0 : 0 ≤ z) : -128 ≤ pAt (hI h (33 + 2 * c) 1) (hI h (34 + 2 * c)) 1000 z ∧ pAt (hI h (33 + 2 * c) 1) (hI h (34 + 2 * c)) 1000 z ≤ 1000 := by
  have sz := hI_rg hh (tx_z hc)
  unfold pAt
  split
  · have := hI_rg hh (tx_s hc (j := z.toNat) (by omega))
    omega
  · omega
theorem rd_3 : zIn 9 3 0 6 = true := by decide +kernel
theorem rd_4 : zIn 9 4 0 63 = true := by decide +kernel
theorem rd_5 : zIn 9 5 0 40 = true := by decide +kernel
theorem rd_6 {j : Int64} (hh : aHp h) : aHp (hset h 9 6 (.long j)) := by
  refine hset_hp hh (fun t g ht hg k1 k2 => ?_)
  have h3 : ∀ t, aT[9]? = some t → ∀ g ∈ t.2.2, g.1 ≤ 6 → 6 ≤ g.2.1 → g.2.2.1 = 1 ∧ g.2.2.2.1 ≤ -9223372036854775808 ∧ 9223372036854775807 ≤ g.2.2.2.2 := by
    intro t ht
    cases ht
    decide
  obtain ⟨e1, e2, e3⟩ := h3 t ht g hg k1 k2
  unfold aIsT
  rw [e1]
  have l1 := Int64.le_toInt j
  have l2 := Int64.toInt_lt j
  exact ⟨j, rfl, by omega, by omega⟩
/-- the draft begins -/
theorem fDraft {n : Int} (hh : aHp h) (n0 : 0 ≤ n) (n1 : n ≤ 6) : ∃ h1, nEv sc (d + 1) 29 [.ref 9, sI n] h (none, h1) ∧ aHp h1 ∧ (∀ e m, ¬ (e = 9 ∧ 3 ≤ m ∧ m ≤ 6) → aSlot h1 e m = aSlot h e m) ∧ aSlot h1 9 3 = some (sI n) ∧ aSlot h1 9 4 = some (sI 0) ∧ aSlot h1 9 5 = some (sI 0) ∧ aSlot h1 9 6 = some (sJ 0) := by
  have hR : sR n := by unfold sR aMi aMa; omega
  have a1 : aHp (hset h 9 3 (sI n)) := hset_in hh rd_3 (by rw [sR_i hR]; omega) (by rw [sR_i hR]; omega)
  have s1 := fun e m => hset_slot (v := sI n) (k := 1) (n := 7) (a := 9) hh rfl (show 3 < 7 by omega) e m
  have a2 : aHp (hset (hset h 9 3 (sI n)) 9 4 (sI 0)) := hset_in a1 rd_4 (by decide) (by decide)
  have s2 := fun e m => hset_slot (v := sI 0) (k := 1) (n := 7) (a := 9) a1 rfl (show 4 < 7 by omega) e m
  have a3 : aHp (hset (hset (hset h 9 3 (sI n)) 9 4 (sI 0)) 9 5 (sI 0)) := hset_in a2 rd_5 (by decide) (by decide)
  have s3 := fun e m => hset_slot (v := sI 0) (k := 1) (n := 7) (a := 9) a2 rfl (show 5 < 7 by omega) e m
  have a4 : aHp (hset (hset (hset (hset h 9 3 (sI n)) 9 4 (sI 0)) 9 5 (sI 0)) 9 6 (sJ 0)) := rd_6 a3
  have s4 := fun e m => hset_slot (v := sJ 0) (k := 1) (n := 7) (a := 9) a3 rfl (show 6 < 7 by omega) e m
  refine ⟨_, nEv_of (t := mMe29) rfl ?_, a4, fun e m w => ?_, ?_, ?_, ?_, ?_⟩
  rotate_left
  · rw [s4, if_neg (by omega), s3, if_neg (by omega), s2, if_neg (by omega), s1, if_neg (by omega)]
  · rw [s4, if_neg (by omega), s3, if_neg (by omega), s2, if_neg (by omega), s1, if_pos (by omega)]
  · rw [s4, if_neg (by omega), s3, if_neg (by omega), s2, if_pos (by omega)]
  · rw [s4, if_neg (by omega), s3, if_pos (by omega)]
  · rw [s4, if_pos (by omega)]
  show nRn sc d (mMT mMe29) (mMC mMe29) (0, [some (.ref 9), some (sI n)], [], h) _
  refine sP 2 (g1 := (2, [some (.ref 9), some (sI n)], [sI n, .ref 9], h)) rfl ?_
  refine s_put (a := 9) (j := 3) (k := 1) (n := 7) hh rfl ⟨_, rfl⟩ rfl rfl rfl (by decide) rfl ?_
  refine sP 2 (g1 := (5, [some (.ref 9), some (sI n)], [sI 0, .ref 9], (hset h 9 3 (sI n)))) rfl ?_
  refine s_put (a := 9) (j := 4) (k := 1) (n := 7) a1 rfl ⟨_, rfl⟩ rfl rfl rfl (by decide) rfl ?_
  refine sP 2 (g1 := (8, [some (.ref 9), some (sI n)], [sI 0, .ref 9], (hset (hset h 9 3 (sI n)) 9 4 (sI 0)))) rfl ?_
  refine s_put (a := 9) (j := 5) (k := 1) (n := 7) a2 rfl ⟨_, rfl⟩ rfl rfl rfl (by decide) rfl ?_
  refine sP 2 (g1 := (11, [some (.ref 9), some (sI n)], [sJ 0, .ref 9], (hset (hset (hset h 9 3 (sI n)) 9 4 (sI 0)) 9 5 (sI 0)))) rfl ?_
  refine s_put (a := 9) (j := 6) (k := 1) (n := 7) a3 rfl ⟨_, rfl⟩ rfl rfl rfl (by decide) rfl ?_
  exact s_ret rfl rfl
/-- the whole of reading -/
theorem fRead {c : Nat} (hc : c < 4) (hh : aHp h) : ∃ h1, nEv sc (d + 3) 26 [.ref 8, .ref (33 + 2 * c)] h (some (sI (pRd (hI h (33 + 2 * c) 1) (hI h (34 + 2 * c)))), h1) ∧ aHp h1 ∧ (∀ e m, e ≠ 8 → e ≠ 9 → e ≠ 10 → e ≠ 11 → aSlot h1 e m = aSlot h e m) ∧ (pRd (hI h (33 + 2 * c) 1) (hI h (34 + 2 * c)) = -9 → ∃ n : Nat, 2 ≤ n ∧ n ≤ 6 ∧ (n : Int) = pDt (hI h (33 + 2 * c) 1) (hI h (34 + 2 * c)) (pSk (hI h (33 + 2 * c) 1) (hI h (34 + 2 * c)) 61 0 + 1) ∧ hI h1 9 3 = n ∧ aSlot h1 9 4 = some (sI 0) ∧ aSlot h1 9 5 = some (sI 0) ∧ aSlot h1 9 6 = some (sJ 0) ∧ ∀ a, a < n → hI h1 10 a = pLt (hI h (33 + 2 * c) 1) (hI h (34 + 2 * c)) (pPo (hI h (33 + 2 * c) 1) (hI h (34 + 2 * c)) n a (pSk (hI h (33 + 2 * c) 1) (hI h (34 + 2 * c)) 61 0 + 2)) ∧ ∀ b, b < n → hI h1 11 (6 * a + b) = pDt (hI h (33 + 2 * c) 1) (hI h (34 + 2 * c)) (pPo (hI h (33 + 2 * c) 1) (hI h (34 + 2 * c)) n a (pSk (hI h (33 + 2 * c) 1) (hI h (34 + 2 * c)) 61 0 + 2) + 1 + b)) := by
  have sz := hI_rg hh (tx_z hc)
  have k1 := pSk_ge (hI h (33 + 2 * c) 1) (hI h (34 + 2 * c)) 61 0
  have k2 := pSk_le (hI h (33 + 2 * c) 1) (hI h (34 + 2 * c)) 61 0
  have x0 := (rH (z := 0) (c := c) hh (by unfold sR aMi aMa; omega)).1
  have x1 := (rH (z := pSk (hI h (33 + 2 * c) 1) (hI h (34 + 2 * c)) 61 0) (c := c) hh (by unfold sR aMi aMa; omega)).1
  have w1 := (rH (z := pSk (hI h (33 + 2 * c) 1) (hI h (34 + 2 * c)) 61 0) (c := c) hh (by unfold sR aMi aMa; omega)).2.1
  have x2 := (rH (z := pSk (hI h (33 + 2 * c) 1) (hI h (34 + 2 * c)) 61 0 + 1) (c := c) hh (by unfold sR aMi aMa; omega)).1
  have w2 := (rH (z := pSk (hI h (33 + 2 * c) 1) (hI h (34 + 2 * c)) 61 0 + 1) (c := c) hh (by unfold sR aMi aMa; omega)).2.1
  have r1 := pAt_rg (z := pSk (hI h (33 + 2 * c) 1) (hI h (34 + 2 * c)) 61 0) hh hc (by omega)
  have r2 := pAt_rg (z := pSk (hI h (33 + 2 * c) 1) (hI h (34 + 2 * c)) 61 0 + 1) hh hc (by omega)
  have ed := pAt_dt (sz := hI h (33 + 2 * c) 1) (e := 1000) (p := pSk (hI h (33 + 2 * c) 1) (hI h (34 + 2 * c)) 61 0 + 1) (g := hI h (34 + 2 * c)) (by omega)
  have fr : ∀ z : Int, sR z → ∀ e m, e ≠ 8 → e ≠ 9 → e ≠ 10 → e ≠ 11 → aSlot (hset h 8 1 (sI z)) e m = aSlot h e m := fun z hz e m y _ _ _ => by rw [hset_slot (k := 2) (n := 2) hh rfl (by omega), if_neg (by omega)]
  have e1 : pAt (hI h (33 + 2 * c) 1) (hI h (34 + 2 * c)) 1000 (pSk (hI h (33 + 2 * c) 1) (hI h (34 + 2 * c)) 61 0) = 110 ↔ (pSk (hI h (33 + 2 * c) 1) (hI h (34 + 2 * c)) 61 0 < hI h (33 + 2 * c) 1 ∧ hI h (34 + 2 * c) (pSk (hI h (33 + 2 * c) 1) (hI h (34 + 2 * c)) 61 0).toNat = 110) := by
    unfold pAt
    split
    · rename_i q
      exact ⟨fun z => ⟨q, z⟩, fun z => z.2⟩
    · rename_i q
      exact ⟨fun z => by omega, fun z => absurd z.1 q⟩
  by_cases c1 : pAt (hI h (33 + 2 * c) 1) (hI h (34 + 2 * c)) 1000 (pSk (hI h (33 + 2 * c) 1) (hI h (34 + 2 * c)) 61 0) = 110
  rotate_left
  · have e2 : pRd (hI h (33 + 2 * c) 1) (hI h (34 + 2 * c)) = pSk (hI h (33 + 2 * c) 1) (hI h (34 + 2 * c)) 61 0 := by
      unfold pRd
      rw [if_pos (fun q => c1 (e1.mpr q))]
    rw [e2]
    refine ⟨_, nEv_of (t := mMe26) rfl ?_, x1, fr _ (by unfold sR aMi aMa; omega), fun q => by omega⟩
    show nRn sc (d + 2) (mMT mMe26) (mMC mMe26) (0, [some (.ref 8), some (.ref (33 + 2 * c)), none, none], [], h) _
    refine sP 2 (g1 := (2, [some (.ref 8), some (.ref (33 + 2 * c)), none, none], [sI 0, .ref 8], h)) rfl ?_
    refine s_put (a := 8) (j := 1) (k := 2) (n := 2) hh rfl ⟨_, rfl⟩ rfl rfl rfl (by decide) rfl ?_
    refine sP 2 (g1 := (5, [some (.ref 8), some (.ref (33 + 2 * c)), none, none], [.ref (33 + 2 * c), .ref 8], (hset h 8 1 (sI (0))))) rfl ?_
    refine s_call (k := 27) (args := [.ref 8, .ref (33 + 2 * c)]) (st := []) (v := none) (h1 := (hset h 8 1 (sI (pSk (hI h (33 + 2 * c) 1) (hI h (34 + 2 * c)) 61 0)))) rfl ⟨rfl, rfl⟩ rfl rfl rfl rfl (sRcv x0 (a := 8) rfl rfl) rfl (fSkipH hh hc (by omega) (by omega)) ?_
    refine sP 2 (g1 := (8, [some (.ref 8), some (.ref (33 + 2 * c)), none, none], [.ref (33 + 2 * c), .ref 8], (hset h 8 1 (sI (pSk (hI h (33 + 2 * c) 1) (hI h (34 + 2 * c)) 61 0))))) rfl ?_
    refine s_call (k := 28) (args := [.ref 8, .ref (33 + 2 * c)]) (st := []) (v := some (sI (pAt (hI h (33 + 2 * c) 1) (hI h (34 + 2 * c)) 1000 (pSk (hI h (33 + 2 * c) 1) (hI h (34 + 2 * c)) 61 0)))) (h1 := (hset h 8 1 (sI (pSk (hI h (33 + 2 * c) 1) (hI h (34 + 2 * c)) 61 0)))) rfl ⟨rfl, rfl⟩ rfl rfl rfl rfl (sRcv x1 (a := 8) rfl rfl) rfl (fSignH hh hc (by omega) (by omega)) ?_
    refine sP 1 (g1 := (10, [some (.ref 8), some (.ref (33 + 2 * c)), none, none], [sI 110, sI (pAt (hI h (33 + 2 * c) 1) (hI h (34 + 2 * c)) 1000 (pSk (hI h (33 + 2 * c) 1) (hI h (34 + 2 * c)) 61 0))], (hset h 8 1 (sI (pSk (hI h (33 + 2 * c) 1) (hI h (34 + 2 * c)) 61 0))))) rfl ?_
    refine s_icmp (q := .eq) (a := pAt (hI h (33 + 2 * c) 1) (hI h (34 + 2 * c)) 1000 (pSk (hI h (33 + 2 * c) 1) (hI h (34 + 2 * c)) 61 0)) (b := 110) rfl ⟨_, rfl⟩ rfl (by unfold sR aMi aMa; omega) (by unfold sR aMi aMa; omega) (fun hc1 => ?_) (fun hc1 => ?_)
    · have hc1 : ((pAt (hI h (33 + 2 * c) 1) (hI h (34 + 2 * c)) 1000 (pSk (hI h (33 + 2 * c) 1) (hI h (34 + 2 * c)) 61 0)) : Int) = 110 := hc1
      omega
    · have hc1 : ¬ (((pAt (hI h (33 + 2 * c) 1) (hI h (34 + 2 * c)) 1000 (pSk (hI h (33 + 2 * c) 1) (hI h (34 + 2 * c)) 61 0)) : Int) = 110) := hc1
      refine sP 1 (g1 := (12, [some (.ref 8), some (.ref (33 + 2 * c)), none, none], [.ref 8], (hset h 8 1 (sI (pSk (hI h (33 + 2 * c) 1) (hI h (34 + 2 * c)) 61 0))))) rfl ?_
      refine s_get (a := 8) (j := 1) x1 rfl ⟨_, rfl⟩ rfl rfl rfl (v := sI (pSk (hI h (33 + 2 * c) 1) (hI h (34 + 2 * c)) 61 0)) (by have q := hI_ok x1 rp_x; rw [w1] at q; exact q) ?_
      exact s_reti rfl rfl (Or.inl rfl) rfl rfl
  have c1' := e1.mp c1
  by_cases c2 : pDt (hI h (33 + 2 * c) 1) (hI h (34 + 2 * c)) (pSk (hI h (33 + 2 * c) 1) (hI h (34 + 2 * c)) 61 0 + 1) < 2 ∨ 6 < pDt (hI h (33 + 2 * c) 1) (hI h (34 + 2 * c)) (pSk (hI h (33 + 2 * c) 1) (hI h (34 + 2 * c)) 61 0 + 1)
  · have e2 : pRd (hI h (33 + 2 * c) 1) (hI h (34 + 2 * c)) = pSk (hI h (33 + 2 * c) 1) (hI h (34 + 2 * c)) 61 0 + 1 := by
      unfold pRd
      rw [if_neg (fun q => q c1'), if_pos c2]
    have c3 : pAt (hI h (33 + 2 * c) 1) (hI h (34 + 2 * c)) 1000 (pSk (hI h (33 + 2 * c) 1) (hI h (34 + 2 * c)) 61 0 + 1) - 48 < 2 ∨ 6 < pAt (hI h (33 + 2 * c) 1) (hI h (34 + 2 * c)) 1000 (pSk (hI h (33 + 2 * c) 1) (hI h (34 + 2 * c)) 61 0 + 1) - 48 := by
      rw [ed] at c2
      split at c2 <;> omega
    rw [e2]
    refine ⟨_, nEv_of (t := mMe26) rfl ?_, x2, fr _ (by unfold sR aMi aMa; omega), fun q => by omega⟩
    show nRn sc (d + 2) (mMT mMe26) (mMC mMe26) (0, [some (.ref 8), some (.ref (33 + 2 * c)), none, none], [], h) _
    refine sP 2 (g1 := (2, [some (.ref 8), some (.ref (33 + 2 * c)), none, none], [sI 0, .ref 8], h)) rfl ?_
    refine s_put (a := 8) (j := 1) (k := 2) (n := 2) hh rfl ⟨_, rfl⟩ rfl rfl rfl (by decide) rfl ?_
    refine sP 2 (g1 := (5, [some (.ref 8), some (.ref (33 + 2 * c)), none, none], [.ref (33 + 2 * c), .ref 8], (hset h 8 1 (sI (0))))) rfl ?_
    refine s_call (k := 27) (args := [.ref 8, .ref (33 + 2 * c)]) (st := []) (v := none) (h1 := (hset h 8 1 (sI (pSk (hI h (33 + 2 * c) 1) (hI h (34 + 2 * c)) 61 0)))) rfl ⟨rfl, rfl⟩ rfl rfl rfl rfl (sRcv x0 (a := 8) rfl rfl) rfl (fSkipH hh hc (by omega) (by omega)) ?_
    refine sP 2 (g1 := (8, [some (.ref 8), some (.ref (33 + 2 * c)), none, none], [.ref (33 + 2 * c), .ref 8], (hset h 8 1 (sI (pSk (hI h (33 + 2 * c) 1) (hI h (34 + 2 * c)) 61 0))))) rfl ?_
    refine s_call (k := 28) (args := [.ref 8, .ref (33 + 2 * c)]) (st := []) (v := some (sI (pAt (hI h (33 + 2 * c) 1) (hI h (34 + 2 * c)) 1000 (pSk (hI h (33 + 2 * c) 1) (hI h (34 + 2 * c)) 61 0)))) (h1 := (hset h 8 1 (sI (pSk (hI h (33 + 2 * c) 1) (hI h (34 + 2 * c)) 61 0)))) rfl ⟨rfl, rfl⟩ rfl rfl rfl rfl (sRcv x1 (a := 8) rfl rfl) rfl (fSignH hh hc (by omega) (by omega)) ?_
    refine sP 1 (g1 := (10, [some (.ref 8), some (.ref (33 + 2 * c)), none, none], [sI 110, sI (pAt (hI h (33 + 2 * c) 1) (hI h (34 + 2 * c)) 1000 (pSk (hI h (33 + 2 * c) 1) (hI h (34 + 2 * c)) 61 0))], (hset h 8 1 (sI (pSk (hI h (33 + 2 * c) 1) (hI h (34 + 2 * c)) 61 0))))) rfl ?_
    refine s_icmp (q := .eq) (a := pAt (hI h (33 + 2 * c) 1) (hI h (34 + 2 * c)) 1000 (pSk (hI h (33 + 2 * c) 1) (hI h (34 + 2 * c)) 61 0)) (b := 110) rfl ⟨_, rfl⟩ rfl (by unfold sR aMi aMa; omega) (by unfold sR aMi aMa; omega) (fun hc1 => ?_) (fun hc1 => ?_)
    · have hc1 : ((pAt (hI h (33 + 2 * c) 1) (hI h (34 + 2 * c)) 1000 (pSk (hI h (33 + 2 * c) 1) (hI h (34 + 2 * c)) 61 0)) : Int) = 110 := hc1
      refine sP 2 (g1 := (16, [some (.ref 8), some (.ref (33 + 2 * c)), none, none], [.ref 8, .ref 8], (hset h 8 1 (sI (pSk (hI h (33 + 2 * c) 1) (hI h (34 + 2 * c)) 61 0))))) rfl ?_
      refine s_get (a := 8) (j := 1) x1 rfl ⟨_, rfl⟩ rfl rfl rfl (v := sI (pSk (hI h (33 + 2 * c) 1) (hI h (34 + 2 * c)) 61 0)) (by have q := hI_ok x1 rp_x; rw [w1] at q; exact q) ?_
      refine sP 1 (g1 := (18, [some (.ref 8), some (.ref (33 + 2 * c)), none, none], [sI 1, sI (pSk (hI h (33 + 2 * c) 1) (hI h (34 + 2 * c)) 61 0), .ref 8], (hset h 8 1 (sI (pSk (hI h (33 + 2 * c) 1) (hI h (34 + 2 * c)) 61 0))))) rfl ?_
      refine s_add (a := pSk (hI h (33 + 2 * c) 1) (hI h (34 + 2 * c)) 61 0) (b := 1) rfl rfl ?_
      refine s_put (a := 8) (j := 1) (k := 2) (n := 2) x1 rfl ⟨_, rfl⟩ rfl rfl rfl (by decide) rfl ?_
      rw [hset_hset]
      rw [show (pSk (hI h (33 + 2 * c) 1) (hI h (34 + 2 * c)) 61 0) + 1 = pSk (hI h (33 + 2 * c) 1) (hI h (34 + 2 * c)) 61 0 + 1 by omega]
      refine sP 2 (g1 := (22, [some (.ref 8), some (.ref (33 + 2 * c)), none, none], [.ref (33 + 2 * c), .ref 8], (hset h 8 1 (sI (pSk (hI h (33 + 2 * c) 1) (hI h (34 + 2 * c)) 61 0 + 1))))) rfl ?_
      refine s_call (k := 28) (args := [.ref 8, .ref (33 + 2 * c)]) (st := []) (v := some (sI (pAt (hI h (33 + 2 * c) 1) (hI h (34 + 2 * c)) 1000 (pSk (hI h (33 + 2 * c) 1) (hI h (34 + 2 * c)) 61 0 + 1)))) (h1 := (hset h 8 1 (sI (pSk (hI h (33 + 2 * c) 1) (hI h (34 + 2 * c)) 61 0 + 1)))) rfl ⟨rfl, rfl⟩ rfl rfl rfl rfl (sRcv x2 (a := 8) rfl rfl) rfl (fSignH hh hc (by omega) (by omega)) ?_
      refine sP 1 (g1 := (24, [some (.ref 8), some (.ref (33 + 2 * c)), none, none], [sI 48, sI (pAt (hI h (33 + 2 * c) 1) (hI h (34 + 2 * c)) 1000 (pSk (hI h (33 + 2 * c) 1) (hI h (34 + 2 * c)) 61 0 + 1))], (hset h 8 1 (sI (pSk (hI h (33 + 2 * c) 1) (hI h (34 + 2 * c)) 61 0 + 1))))) rfl ?_
      refine s_sub (a := pAt (hI h (33 + 2 * c) 1) (hI h (34 + 2 * c)) 1000 (pSk (hI h (33 + 2 * c) 1) (hI h (34 + 2 * c)) 61 0 + 1)) (b := 48) rfl rfl ?_
      refine sP 3 (g1 := (28, [some (.ref 8), some (.ref (33 + 2 * c)), some (sI ((pAt (hI h (33 + 2 * c) 1) (hI h (34 + 2 * c)) 1000 (pSk (hI h (33 + 2 * c) 1) (hI h (34 + 2 * c)) 61 0 + 1)) - 48)), none], [sI 2, sI ((pAt (hI h (33 + 2 * c) 1) (hI h (34 + 2 * c)) 1000 (pSk (hI h (33 + 2 * c) 1) (hI h (34 + 2 * c)) 61 0 + 1)) - 48)], (hset h 8 1 (sI (pSk (hI h (33 + 2 * c) 1) (hI h (34 + 2 * c)) 61 0 + 1))))) rfl ?_
      refine s_icmp (q := .lt) (a := (pAt (hI h (33 + 2 * c) 1) (hI h (34 + 2 * c)) 1000 (pSk (hI h (33 + 2 * c) 1) (hI h (34 + 2 * c)) 61 0 + 1)) - 48) (b := 2) rfl ⟨_, rfl⟩ rfl (by unfold sR aMi aMa; omega) (by unfold sR aMi aMa; omega) (fun hc2 => ?_) (fun hc2 => ?_)
      · have hc2 : (((pAt (hI h (33 + 2 * c) 1) (hI h (34 + 2 * c)) 1000 (pSk (hI h (33 + 2 * c) 1) (hI h (34 + 2 * c)) 61 0 + 1)) - 48) : Int) < 2 := hc2
        refine sP 1 (g1 := (33, [some (.ref 8), some (.ref (33 + 2 * c)), some (sI ((pAt (hI h (33 + 2 * c) 1) (hI h (34 + 2 * c)) 1000 (pSk (hI h (33 + 2 * c) 1) (hI h (34 + 2 * c)) 61 0 + 1)) - 48)), none], [.ref 8], (hset h 8 1 (sI (pSk (hI h (33 + 2 * c) 1) (hI h (34 + 2 * c)) 61 0 + 1))))) rfl ?_
        refine s_get (a := 8) (j := 1) x2 rfl ⟨_, rfl⟩ rfl rfl rfl (v := sI (pSk (hI h (33 + 2 * c) 1) (hI h (34 + 2 * c)) 61 0 + 1)) (by have q := hI_ok x2 rp_x; rw [w2] at q; exact q) ?_
        exact s_reti rfl rfl (Or.inl rfl) rfl rfl
      · have hc2 : ¬ ((((pAt (hI h (33 + 2 * c) 1) (hI h (34 + 2 * c)) 1000 (pSk (hI h (33 + 2 * c) 1) (hI h (34 + 2 * c)) 61 0 + 1)) - 48) : Int) < 2) := hc2
        refine sP 2 (g1 := (31, [some (.ref 8), some (.ref (33 + 2 * c)), some (sI ((pAt (hI h (33 + 2 * c) 1) (hI h (34 + 2 * c)) 1000 (pSk (hI h (33 + 2 * c) 1) (hI h (34 + 2 * c)) 61 0 + 1)) - 48)), none], [sI 6, sI ((pAt (hI h (33 + 2 * c) 1) (hI h (34 + 2 * c)) 1000 (pSk (hI h (33 + 2 * c) 1) (hI h (34 + 2 * c)) 61 0 + 1)) - 48)], (hset h 8 1 (sI (pSk (hI h (33 + 2 * c) 1) (hI h (34 + 2 * c)) 61 0 + 1))))) rfl ?_
        refine s_icmp (q := .le) (a := (pAt (hI h (33 + 2 * c) 1) (hI h (34 + 2 * c)) 1000 (pSk (hI h (33 + 2 * c) 1) (hI h (34 + 2 * c)) 61 0 + 1)) - 48) (b := 6) rfl ⟨_, rfl⟩ rfl (by unfold sR aMi aMa; omega) (by unfold sR aMi aMa; omega) (fun hc3 => ?_) (fun hc3 => ?_)
        · have hc3 : (((pAt (hI h (33 + 2 * c) 1) (hI h (34 + 2 * c)) 1000 (pSk (hI h (33 + 2 * c) 1) (hI h (34 + 2 * c)) 61 0 + 1)) - 48) : Int) ≤ 6 := hc3
          omega
        · have hc3 : ¬ ((((pAt (hI h (33 + 2 * c) 1) (hI h (34 + 2 * c)) 1000 (pSk (hI h (33 + 2 * c) 1) (hI h (34 + 2 * c)) 61 0 + 1)) - 48) : Int) ≤ 6) := hc3
          refine sP 1 (g1 := (33, [some (.ref 8), some (.ref (33 + 2 * c)), some (sI ((pAt (hI h (33 + 2 * c) 1) (hI h (34 + 2 * c)) 1000 (pSk (hI h (33 + 2 * c) 1) (hI h (34 + 2 * c)) 61 0 + 1)) - 48)), none], [.ref 8], (hset h 8 1 (sI (pSk (hI h (33 + 2 * c) 1) (hI h (34 + 2 * c)) 61 0 + 1))))) rfl ?_
          refine s_get (a := 8) (j := 1) x2 rfl ⟨_, rfl⟩ rfl rfl rfl (v := sI (pSk (hI h (33 + 2 * c) 1) (hI h (34 + 2 * c)) 61 0 + 1)) (by have q := hI_ok x2 rp_x; rw [w2] at q; exact q) ?_
          exact s_reti rfl rfl (Or.inl rfl) rfl rfl
    · have hc1 : ¬ (((pAt (hI h (33 + 2 * c) 1) (hI h (34 + 2 * c)) 1000 (pSk (hI h (33 + 2 * c) 1) (hI h (34 + 2 * c)) 61 0)) : Int) = 110) := hc1
      omega
  · have c3 : 2 ≤ pAt (hI h (33 + 2 * c) 1) (hI h (34 + 2 * c)) 1000 (pSk (hI h (33 + 2 * c) 1) (hI h (34 + 2 * c)) 61 0 + 1) - 48 ∧ pAt (hI h (33 + 2 * c) 1) (hI h (34 + 2 * c)) 1000 (pSk (hI h (33 + 2 * c) 1) (hI h (34 + 2 * c)) 61 0 + 1) - 48 ≤ 6 ∧ pDt (hI h (33 + 2 * c) 1) (hI h (34 + 2 * c)) (pSk (hI h (33 + 2 * c) 1) (hI h (34 + 2 * c)) 61 0 + 1) = pAt (hI h (33 + 2 * c) 1) (hI h (34 + 2 * c)) 1000 (pSk (hI h (33 + 2 * c) 1) (hI h (34 + 2 * c)) 61 0 + 1) - 48 := by
      rw [ed] at c2 ⊢
      split at c2
      · rw [if_pos (by assumption)]
        omega
      · omega
    obtain ⟨n, hn⟩ : ∃ n : Nat, (n : Int) = pDt (hI h (33 + 2 * c) 1) (hI h (34 + 2 * c)) (pSk (hI h (33 + 2 * c) 1) (hI h (34 + 2 * c)) 61 0 + 1) := ⟨(pDt (hI h (33 + 2 * c) 1) (hI h (34 + 2 * c)) (pSk (hI h (33 + 2 * c) 1) (hI h (34 + 2 * c)) 61 0 + 1)).toNat, by omega⟩
    have e2 : pRd (hI h (33 + 2 * c) 1) (hI h (34 + 2 * c)) = pEnd (hI h (33 + 2 * c) 1) (hI h (34 + 2 * c)) n n (pSk (hI h (33 + 2 * c) 1) (hI h (34 + 2 * c)) 61 0 + 2) := by
      unfold pRd
      rw [if_neg (fun q => q c1'), if_neg c2, ← hn]
      rfl
    have c4 : pSk (hI h (33 + 2 * c) 1) (hI h (34 + 2 * c)) 61 0 + 1 < hI h (33 + 2 * c) 1 := by
      have q := c3.2.2
      unfold pDt at q
      split at q
      · rename_i q2; exact q2.1
      · omega
    obtain ⟨x3, w3, w4, w5⟩ := rH (z := pSk (hI h (33 + 2 * c) 1) (hI h (34 + 2 * c)) 61 0 + 2) (c := c) hh (by unfold sR aMi aMa; omega)
    obtain ⟨g4, b1, b2, b3, b4, b5, b6, b7⟩ := fDraft (sc := sc) (d := d + 1) (n := (n : Int)) x3 (by omega) (by omega)
    have y1 : hI g4 (33 + 2 * c) 1 = hI h (33 + 2 * c) 1 := (hI_cg (b3 _ _ (by omega))).trans w4
    have y2 : hI g4 (34 + 2 * c) = hI h (34 + 2 * c) := funext (fun m => (hI_cg (b3 _ _ (by omega))).trans (congrFun w5 m))
    have y3 : hI g4 8 1 = pSk (hI h (33 + 2 * c) 1) (hI h (34 + 2 * c)) 61 0 + 2 := (hI_cg (b3 _ _ (by omega))).trans w3
    have y4 : hI g4 9 3 = n := by rw [hI_of b4, sR_i (by unfold sR aMi aMa; omega)]
    obtain ⟨h1, r1, r2, r3, r4, r5, r6⟩ := fReadL (sc := sc) (d := d) (n := n) hc (by omega) n 0 g4 (by omega) b2 y4 (by omega) (by omega)
    rw [y1, y2, y3] at r1 r6
    rw [e2]
    refine ⟨h1, nEv_of (t := mMe26) rfl ?_, r2, fun e m q1 q2 q3 q4 => by rw [r3 e m q1 q3 q4, b3 e m (by omega)]; exact fr _ (by unfold sR aMi aMa; omega) e m q1 q2 q3 q4, fun hz => ⟨n, by omega, by omega, hn, ?_, ?_, ?_, ?_, fun a ha => ?_⟩⟩
    rotate_left
    · rw [← y4]; unfold hI; rw [r3 9 3 (by omega) (by omega) (by omega)]
    · rw [r3 9 4 (by omega) (by omega) (by omega)]; exact b5
    · rw [r3 9 5 (by omega) (by omega) (by omega)]; exact b6
    · rw [r3 9 6 (by omega) (by omega) (by omega)]; exact b7
    · have := r6 hz a ha
      rw [show 0 + a = a by omega] at this
      exact this
    show nRn sc (d + 2) (mMT mMe26) (mMC mMe26) (0, [some (.ref 8), some (.ref (33 + 2 * c)), none, none], [], h) _
    refine sP 2 (g1 := (2, [some (.ref 8), some (.ref (33 + 2 * c)), none, none], [sI 0, .ref 8], h)) rfl ?_
    refine s_put (a := 8) (j := 1) (k := 2) (n := 2) hh rfl ⟨_, rfl⟩ rfl rfl rfl (by decide) rfl ?_
    refine sP 2 (g1 := (5, [some (.ref 8), some (.ref (33 + 2 * c)), none, none], [.ref (33 + 2 * c), .ref 8], (hset h 8 1 (sI (0))))) rfl ?_
    refine s_call (k := 27) (args := [.ref 8, .ref (33 + 2 * c)]) (st := []) (v := none) (h1 := (hset h 8 1 (sI (pSk (hI h (33 + 2 * c) 1) (hI h (34 + 2 * c)) 61 0)))) rfl ⟨rfl, rfl⟩ rfl rfl rfl rfl (sRcv x0 (a := 8) rfl rfl) rfl (fSkipH hh hc (by omega) (by omega)) ?_
    refine sP 2 (g1 := (8, [some (.ref 8), some (.ref (33 + 2 * c)), none, none], [.ref (33 + 2 * c), .ref 8], (hset h 8 1 (sI (pSk (hI h (33 + 2 * c) 1) (hI h (34 + 2 * c)) 61 0))))) rfl ?_
    refine s_call (k := 28) (args := [.ref 8, .ref (33 + 2 * c)]) (st := []) (v := some (sI (pAt (hI h (33 + 2 * c) 1) (hI h (34 + 2 * c)) 1000 (pSk (hI h (33 + 2 * c) 1) (hI h (34 + 2 * c)) 61 0)))) (h1 := (hset h 8 1 (sI (pSk (hI h (33 + 2 * c) 1) (hI h (34 + 2 * c)) 61 0)))) rfl ⟨rfl, rfl⟩ rfl rfl rfl rfl (sRcv x1 (a := 8) rfl rfl) rfl (fSignH hh hc (by omega) (by omega)) ?_
    refine sP 1 (g1 := (10, [some (.ref 8), some (.ref (33 + 2 * c)), none, none], [sI 110, sI (pAt (hI h (33 + 2 * c) 1) (hI h (34 + 2 * c)) 1000 (pSk (hI h (33 + 2 * c) 1) (hI h (34 + 2 * c)) 61 0))], (hset h 8 1 (sI (pSk (hI h (33 + 2 * c) 1) (hI h (34 + 2 * c)) 61 0))))) rfl ?_
    refine s_icmp (q := .eq) (a := pAt (hI h (33 + 2 * c) 1) (hI h (34 + 2 * c)) 1000 (pSk (hI h (33 + 2 * c) 1) (hI h (34 + 2 * c)) 61 0)) (b := 110) rfl ⟨_, rfl⟩ rfl (by unfold sR aMi aMa; omega) (by unfold sR aMi aMa; omega) (fun hc1 => ?_) (fun hc1 => ?_)
    · have hc1 : ((pAt (hI h (33 + 2 * c) 1) (hI h (34 + 2 * c)) 1000 (pSk (hI h (33 + 2 * c) 1) (hI h (34 + 2 * c)) 61 0)) : Int) = 110 := hc1
      refine sP 2 (g1 := (16, [some (.ref 8), some (.ref (33 + 2 * c)), none, none], [.ref 8, .ref 8], (hset h 8 1 (sI (pSk (hI h (33 + 2 * c) 1) (hI h (34 + 2 * c)) 61 0))))) rfl ?_
      refine s_get (a := 8) (j := 1) x1 rfl ⟨_, rfl⟩ rfl rfl rfl (v := sI (pSk (hI h (33 + 2 * c) 1) (hI h (34 + 2 * c)) 61 0)) (by have q := hI_ok x1 rp_x; rw [w1] at q; exact q) ?_
      refine sP 1 (g1 := (18, [some (.ref 8), some (.ref (33 + 2 * c)), none, none], [sI 1, sI (pSk (hI h (33 + 2 * c) 1) (hI h (34 + 2 * c)) 61 0), .ref 8], (hset h 8 1 (sI (pSk (hI h (33 + 2 * c) 1) (hI h (34 + 2 * c)) 61 0))))) rfl ?_
      refine s_add (a := pSk (hI h (33 + 2 * c) 1) (hI h (34 + 2 * c)) 61 0) (b := 1) rfl rfl ?_
      refine s_put (a := 8) (j := 1) (k := 2) (n := 2) x1 rfl ⟨_, rfl⟩ rfl rfl rfl (by decide) rfl ?_
      rw [hset_hset]
      rw [show (pSk (hI h (33 + 2 * c) 1) (hI h (34 + 2 * c)) 61 0) + 1 = pSk (hI h (33 + 2 * c) 1) (hI h (34 + 2 * c)) 61 0 + 1 by omega]
      refine sP 2 (g1 := (22, [some (.ref 8), some (.ref (33 + 2 * c)), none, none], [.ref (33 + 2 * c), .ref 8], (hset h 8 1 (sI (pSk (hI h (33 + 2 * c) 1) (hI h (34 + 2 * c)) 61 0 + 1))))) rfl ?_
      refine s_call (k := 28) (args := [.ref 8, .ref (33 + 2 * c)]) (st := []) (v := some (sI (pAt (hI h (33 + 2 * c) 1) (hI h (34 + 2 * c)) 1000 (pSk (hI h (33 + 2 * c) 1) (hI h (34 + 2 * c)) 61 0 + 1)))) (h1 := (hset h 8 1 (sI (pSk (hI h (33 + 2 * c) 1) (hI h (34 + 2 * c)) 61 0 + 1)))) rfl ⟨rfl, rfl⟩ rfl rfl rfl rfl (sRcv x2 (a := 8) rfl rfl) rfl (fSignH hh hc (by omega) (by omega)) ?_
      refine sP 1 (g1 := (24, [some (.ref 8), some (.ref (33 + 2 * c)), none, none], [sI 48, sI (pAt (hI h (33 + 2 * c) 1) (hI h (34 + 2 * c)) 1000 (pSk (hI h (33 + 2 * c) 1) (hI h (34 + 2 * c)) 61 0 + 1))], (hset h 8 1 (sI (pSk (hI h (33 + 2 * c) 1) (hI h (34 + 2 * c)) 61 0 + 1))))) rfl ?_
      refine s_sub (a := pAt (hI h (33 + 2 * c) 1) (hI h (34 + 2 * c)) 1000 (pSk (hI h (33 + 2 * c) 1) (hI h (34 + 2 * c)) 61 0 + 1)) (b := 48) rfl rfl ?_
      refine sP 3 (g1 := (28, [some (.ref 8), some (.ref (33 + 2 * c)), some (sI ((pAt (hI h (33 + 2 * c) 1) (hI h (34 + 2 * c)) 1000 (pSk (hI h (33 + 2 * c) 1) (hI h (34 + 2 * c)) 61 0 + 1)) - 48)), none], [sI 2, sI ((pAt (hI h (33 + 2 * c) 1) (hI h (34 + 2 * c)) 1000 (pSk (hI h (33 + 2 * c) 1) (hI h (34 + 2 * c)) 61 0 + 1)) - 48)], (hset h 8 1 (sI (pSk (hI h (33 + 2 * c) 1) (hI h (34 + 2 * c)) 61 0 + 1))))) rfl ?_
      refine s_icmp (q := .lt) (a := (pAt (hI h (33 + 2 * c) 1) (hI h (34 + 2 * c)) 1000 (pSk (hI h (33 + 2 * c) 1) (hI h (34 + 2 * c)) 61 0 + 1)) - 48) (b := 2) rfl ⟨_, rfl⟩ rfl (by unfold sR aMi aMa; omega) (by unfold sR aMi aMa; omega) (fun hc2 => ?_) (fun hc2 => ?_)
      · have hc2 : (((pAt (hI h (33 + 2 * c) 1) (hI h (34 + 2 * c)) 1000 (pSk (hI h (33 + 2 * c) 1) (hI h (34 + 2 * c)) 61 0 + 1)) - 48) : Int) < 2 := hc2
        omega
      · have hc2 : ¬ ((((pAt (hI h (33 + 2 * c) 1) (hI h (34 + 2 * c)) 1000 (pSk (hI h (33 + 2 * c) 1) (hI h (34 + 2 * c)) 61 0 + 1)) - 48) : Int) < 2) := hc2
        refine sP 2 (g1 := (31, [some (.ref 8), some (.ref (33 + 2 * c)), some (sI ((pAt (hI h (33 + 2 * c) 1) (hI h (34 + 2 * c)) 1000 (pSk (hI h (33 + 2 * c) 1) (hI h (34 + 2 * c)) 61 0 + 1)) - 48)), none], [sI 6, sI ((pAt (hI h (33 + 2 * c) 1) (hI h (34 + 2 * c)) 1000 (pSk (hI h (33 + 2 * c) 1) (hI h (34 + 2 * c)) 61 0 + 1)) - 48)], (hset h 8 1 (sI (pSk (hI h (33 + 2 * c) 1) (hI h (34 + 2 * c)) 61 0 + 1))))) rfl ?_
        refine s_icmp (q := .le) (a := (pAt (hI h (33 + 2 * c) 1) (hI h (34 + 2 * c)) 1000 (pSk (hI h (33 + 2 * c) 1) (hI h (34 + 2 * c)) 61 0 + 1)) - 48) (b := 6) rfl ⟨_, rfl⟩ rfl (by unfold sR aMi aMa; omega) (by unfold sR aMi aMa; omega) (fun hc3 => ?_) (fun hc3 => ?_)
        · have hc3 : (((pAt (hI h (33 + 2 * c) 1) (hI h (34 + 2 * c)) 1000 (pSk (hI h (33 + 2 * c) 1) (hI h (34 + 2 * c)) 61 0 + 1)) - 48) : Int) ≤ 6 := hc3
          refine sP 2 (g1 := (37, [some (.ref 8), some (.ref (33 + 2 * c)), some (sI ((pAt (hI h (33 + 2 * c) 1) (hI h (34 + 2 * c)) 1000 (pSk (hI h (33 + 2 * c) 1) (hI h (34 + 2 * c)) 61 0 + 1)) - 48)), none], [.ref 8, .ref 8], (hset h 8 1 (sI (pSk (hI h (33 + 2 * c) 1) (hI h (34 + 2 * c)) 61 0 + 1))))) rfl ?_
          refine s_get (a := 8) (j := 1) x2 rfl ⟨_, rfl⟩ rfl rfl rfl (v := sI (pSk (hI h (33 + 2 * c) 1) (hI h (34 + 2 * c)) 61 0 + 1)) (by have q := hI_ok x2 rp_x; rw [w2] at q; exact q) ?_
          refine sP 1 (g1 := (39, [some (.ref 8), some (.ref (33 + 2 * c)), some (sI ((pAt (hI h (33 + 2 * c) 1) (hI h (34 + 2 * c)) 1000 (pSk (hI h (33 + 2 * c) 1) (hI h (34 + 2 * c)) 61 0 + 1)) - 48)), none], [sI 1, sI (pSk (hI h (33 + 2 * c) 1) (hI h (34 + 2 * c)) 61 0 + 1), .ref 8], (hset h 8 1 (sI (pSk (hI h (33 + 2 * c) 1) (hI h (34 + 2 * c)) 61 0 + 1))))) rfl ?_
          refine s_add (a := pSk (hI h (33 + 2 * c) 1) (hI h (34 + 2 * c)) 61 0 + 1) (b := 1) rfl rfl ?_
          refine s_put (a := 8) (j := 1) (k := 2) (n := 2) x2 rfl ⟨_, rfl⟩ rfl rfl rfl (by decide) rfl ?_
          rw [hset_hset]
          rw [show (pSk (hI h (33 + 2 * c) 1) (hI h (34 + 2 * c)) 61 0 + 1) + 1 = pSk (hI h (33 + 2 * c) 1) (hI h (34 + 2 * c)) 61 0 + 2 by omega]
          refine sP 1 (g1 := (42, [some (.ref 8), some (.ref (33 + 2 * c)), some (sI ((pAt (hI h (33 + 2 * c) 1) (hI h (34 + 2 * c)) 1000 (pSk (hI h (33 + 2 * c) 1) (hI h (34 + 2 * c)) 61 0 + 1)) - 48)), none], [.ref 8], (hset h 8 1 (sI (pSk (hI h (33 + 2 * c) 1) (hI h (34 + 2 * c)) 61 0 + 2))))) rfl ?_
          refine s_get (a := 8) (j := 0) x3 rfl ⟨_, rfl⟩ rfl rfl rfl (v := .ref 9) (hR_ok x3 (by decide +kernel)) ?_
          refine sP 1 (g1 := (44, [some (.ref 8), some (.ref (33 + 2 * c)), some (sI ((pAt (hI h (33 + 2 * c) 1) (hI h (34 + 2 * c)) 1000 (pSk (hI h (33 + 2 * c) 1) (hI h (34 + 2 * c)) 61 0 + 1)) - 48)), none], [sI ((pAt (hI h (33 + 2 * c) 1) (hI h (34 + 2 * c)) 1000 (pSk (hI h (33 + 2 * c) 1) (hI h (34 + 2 * c)) 61 0 + 1)) - 48), .ref 9], (hset h 8 1 (sI (pSk (hI h (33 + 2 * c) 1) (hI h (34 + 2 * c)) 61 0 + 2))))) rfl ?_
          rw [show pAt (hI h (33 + 2 * c) 1) (hI h (34 + 2 * c)) 1000 (pSk (hI h (33 + 2 * c) 1) (hI h (34 + 2 * c)) 61 0 + 1) - 48 = (n : Int) by omega]
          refine s_call (k := 29) (args := [.ref 9, sI (n : Int)]) (st := []) (v := none) (h1 := g4) rfl ⟨rfl, rfl⟩ rfl rfl rfl rfl (sRcv x3 (a := 9) rfl rfl) rfl b1 ?_
          refine sP 2 (g1 := (47, [some (.ref 8), some (.ref (33 + 2 * c)), some (sI (n : Int)), some (sI 0)], [], g4)) rfl ?_
          exact r1
        · have hc3 : ¬ ((((pAt (hI h (33 + 2 * c) 1) (hI h (34 + 2 * c)) 1000 (pSk (hI h (33 + 2 * c) 1) (hI h (34 + 2 * c)) 61 0 + 1)) - 48) : Int) ≤ 6) := hc3
          omega
    · have hc1 : ¬ (((pAt (hI h (33 + 2 * c) 1) (hI h (34 + 2 * c)) 1000 (pSk (hI h (33 + 2 * c) 1) (hI h (34 + 2 * c)) 61 0)) : Int) = 110) := hc1
      omega
end RD2
