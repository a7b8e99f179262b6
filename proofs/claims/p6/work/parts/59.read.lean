/-! reading: signs and blanks -/
noncomputable def pSk (sz : Int) (g : Nat → Int) : Nat → Int → Int
  | 0, p => p
  | n + 1, p => if p < sz ∧ g p.toNat = 32 then pSk sz g n (p + 1) else p
noncomputable def pAt (sz : Int) (g : Nat → Int) (e p : Int) : Int := if p < sz then g p.toNat else e
noncomputable def pKd (z : Int) : Int := if z = 103 then 0 else if z = 101 then 1 else if z = 115 then 2 else if z = 118 then 3 else if z = 99 then 4 else if z = 107 then 5 else -1
theorem pKd_rg (z : Int) : -1 ≤ pKd z ∧ pKd z ≤ 5 := by
  unfold pKd
  (repeat' split) <;> omega
theorem pSk_ge (sz : Int) (g : Nat → Int) : ∀ (n : Nat) (p : Int), p ≤ pSk sz g n p
  | 0, p => Int.le_refl _
  | n + 1, p => by
    unfold pSk
    split
    · have := pSk_ge sz g n (p + 1)
      omega
    · exact Int.le_refl _
theorem pSk_le (sz : Int) (g : Nat → Int) : ∀ (n : Nat) (p : Int), pSk sz g n p ≤ max p sz
  | 0, p => by show p ≤ max p sz; omega
  | n + 1, p => by
    unfold pSk
    split
    · have := pSk_le sz g n (p + 1)
      omega
    · omega
theorem pSk_fuel (sz : Int) (g : Nat → Int) : ∀ (n m : Nat) (p : Int), (sz - p).toNat ≤ n → (sz - p).toNat ≤ m → pSk sz g n p = pSk sz g m p
  | 0, 0, p, _, _ => rfl
  | 0, m + 1, p, h1, _ => by
    show p = pSk sz g (m + 1) p
    unfold pSk
    rw [if_neg (by omega)]
  | n + 1, 0, p, _, h2 => by
    show pSk sz g (n + 1) p = p
    unfold pSk
    rw [if_neg (by omega)]
  | n + 1, m + 1, p, h1, h2 => by
    unfold pSk
    split
    · exact pSk_fuel sz g n m (p + 1) (by omega) (by omega)
    · rfl
section READ
variable {sc : List Int32} {d : Nat} {h : mH}
theorem rp_x : zCell 8 1 (-2147483648) 2147483647 = true := by decide +kernel
theorem rp_ix : zIn 8 1 (-2147483648) 2147483647 = true := by decide +kernel
theorem rp_m : zCell 53 13 0 61 = true := by decide +kernel
theorem rp_im : zIn 53 13 0 61 = true := by decide +kernel
theorem rp_hx {z : Int} (hh : aHp h) (hz : sR z) : aHp (hset h 8 1 (sI z)) := hset_in hh rp_ix (by rw [sR_i hz]; exact hz.1) (by rw [sR_i hz]; exact hz.2)
theorem rp_hm {z : Int} (hh : aHp h) (h0 : 0 ≤ z) (h1 : z ≤ 61) : aHp (hset h 53 13 (sI z)) := hset_in hh rp_im (by rw [sR_i (by unfold sR aMi aMa; omega)]; omega) (by rw [sR_i (by unfold sR aMi aMa; omega)]; omega)
theorem fSign {c : Nat} (hh : aHp h) (hc : c < 4) (p0 : 0 ≤ hI h 8 1) (p1 : hI h 8 1 ≤ 100) : nEv sc (d + 1) 28 [.ref 8, .ref (33 + 2 * c)] h (some (sI (pAt (hI h (33 + 2 * c) 1) (hI h (34 + 2 * c)) 1000 (hI h 8 1))), h) := by
  refine nEv_of (t := mMe28) rfl ?_
  show nRn sc (d) (mMT mMe28) (mMC mMe28) (0, [some (.ref 8), some (.ref (33 + 2 * c))], [], h) _
  refine sP 1 (g1 := (1, [some (.ref 8), some (.ref (33 + 2 * c))], [.ref 8], h)) rfl ?_
  refine s_get (a := 8) (j := 1) hh rfl ⟨_, rfl⟩ rfl rfl rfl (v := sI (hI h 8 1)) (hI_ok hh rp_x) ?_
  refine s_ifc (q := .lt) (a := hI h 8 1) rfl ⟨_, rfl⟩ rfl (by unfold sR aMi aMa; omega) (fun hc1 => ?_) (fun hc1 => ?_)
  · have hc1 : ((hI h 8 1) : Int) < 0 := hc1
    omega
  · have hc1 : ¬ (((hI h 8 1) : Int) < 0) := hc1
    refine sP 1 (g1 := (4, [some (.ref 8), some (.ref (33 + 2 * c))], [.ref 8], h)) rfl ?_
    refine s_get (a := 8) (j := 1) hh rfl ⟨_, rfl⟩ rfl rfl rfl (v := sI (hI h 8 1)) (hI_ok hh rp_x) ?_
    refine sP 1 (g1 := (6, [some (.ref 8), some (.ref (33 + 2 * c))], [.ref (33 + 2 * c), sI (hI h 8 1)], h)) rfl ?_
    have rg2 := hI_rg hh (tx_z hc)
    refine s_get (a := 33 + 2 * c) (j := 1) hh rfl ⟨_, rfl⟩ (tx_a hc) rfl rfl (v := sI (hI h (33 + 2 * c) 1)) (hI_ok hh (tx_z hc)) ?_
    refine s_icmp (q := .ge) (a := hI h 8 1) (b := hI h (33 + 2 * c) 1) rfl ⟨_, rfl⟩ rfl (by unfold sR aMi aMa; omega) (by unfold sR aMi aMa; omega) (fun hc3 => ?_) (fun hc3 => ?_)
    · have hc3 : ((hI h (33 + 2 * c) 1) : Int) ≤ (hI h 8 1) := hc3
      refine sP 1 (g1 := (15, [some (.ref 8), some (.ref (33 + 2 * c))], [sI 1000], h)) rfl ?_
      exact s_reti rfl rfl (Or.inl rfl) (by unfold pAt; first | rw [if_pos (by omega)] | rw [if_neg (by omega)]) rfl
    · have hc3 : ¬ (((hI h (33 + 2 * c) 1) : Int) ≤ (hI h 8 1)) := hc3
      refine sP 1 (g1 := (9, [some (.ref 8), some (.ref (33 + 2 * c))], [.ref (33 + 2 * c)], h)) rfl ?_
      refine s_get (a := 33 + 2 * c) (j := 0) hh rfl ⟨_, rfl⟩ (tx_a hc) rfl rfl (v := .ref (34 + 2 * c)) (hR_ok hh (tx_r hc)) ?_
      refine sP 1 (g1 := (11, [some (.ref 8), some (.ref (33 + 2 * c))], [.ref 8, .ref (34 + 2 * c)], h)) rfl ?_
      refine s_get (a := 8) (j := 1) hh rfl ⟨_, rfl⟩ rfl rfl rfl (v := sI (hI h 8 1)) (hI_ok hh rp_x) ?_
      have rg4 := hI_rg hh (tx_s hc (j := (hI h 8 1).toNat) (by omega))
      refine s_bald (a := 34 + 2 * c) (n := 60) (j := hI h 8 1) hh rfl rfl (tx_b hc) (by decide) (by omega) (by omega) (by decide) (v := sI (hI h (34 + 2 * c) (hI h 8 1).toNat)) (hI_ok hh (tx_s hc (j := (hI h 8 1).toNat) (by omega))) ?_
      refine sP 1 (g1 := (15, [some (.ref 8), some (.ref (33 + 2 * c))], [sI (hI h (34 + 2 * c) (hI h 8 1).toNat)], h)) rfl ?_
      exact s_reti rfl rfl (Or.inl rfl) (by unfold pAt; first | rw [if_pos (by omega)] | rw [if_neg (by omega)]) rfl
theorem fSign_rg {c : Nat} (hh : aHp h) (hc : c < 4) (p0 : 0 ≤ hI h 8 1) : -128 ≤ pAt (hI h (33 + 2 * c) 1) (hI h (34 + 2 * c)) 1000 (hI h 8 1) ∧ pAt (hI h (33 + 2 * c) 1) (hI h (34 + 2 * c)) 1000 (hI h 8 1) ≤ 1000 := by
  have sz := hI_rg hh (tx_z hc)
  unfold pAt
  split
  · have := hI_rg hh (tx_s hc (j := (hI h 8 1).toNat) (by omega))
    omega
  · omega
theorem fSkipL {c : Nat} (hc : c < 4) : ∀ (n : Nat) (h : mH), aHp h → 0 ≤ hI h 8 1 → hI h 8 1 ≤ 90 → (hI h (33 + 2 * c) 1 - hI h 8 1).toNat ≤ n → nRn sc (d + 1) (mMT mMe27) (mMC mMe27) (0, [some (.ref 8), some (.ref (33 + 2 * c))], [], h) (none, hset h 8 1 (sI (pSk (hI h (33 + 2 * c) 1) (hI h (34 + 2 * c)) n (hI h 8 1)))) := by
  intro n
  induction n with
  | zero =>
    intro h hh p0 p1 hn
    rw [show hset h 8 1 (sI (pSk (hI h (33 + 2 * c) 1) (hI h (34 + 2 * c)) 0 (hI h 8 1))) = h from hset_self (hI_ok hh rp_x)]
    refine sP 1 (g1 := (1, [some (.ref 8), some (.ref (33 + 2 * c))], [.ref 8], h)) rfl ?_
    refine s_get (a := 8) (j := 1) hh rfl ⟨_, rfl⟩ rfl rfl rfl (v := sI (hI h 8 1)) (hI_ok hh rp_x) ?_
    refine sP 1 (g1 := (3, [some (.ref 8), some (.ref (33 + 2 * c))], [.ref (33 + 2 * c), sI (hI h 8 1)], h)) rfl ?_
    have rg1 := hI_rg hh (tx_z hc)
    refine s_get (a := 33 + 2 * c) (j := 1) hh rfl ⟨_, rfl⟩ (tx_a hc) rfl rfl (v := sI (hI h (33 + 2 * c) 1)) (hI_ok hh (tx_z hc)) ?_
    refine s_icmp (q := .ge) (a := hI h 8 1) (b := hI h (33 + 2 * c) 1) rfl ⟨_, rfl⟩ rfl (by unfold sR aMi aMa; omega) (by unfold sR aMi aMa; omega) (fun hc2 => ?_) (fun hc2 => ?_)
    · have hc2 : ((hI h (33 + 2 * c) 1) : Int) ≤ (hI h 8 1) := hc2
      exact s_ret rfl rfl
    · have hc2 : ¬ (((hI h (33 + 2 * c) 1) : Int) ≤ (hI h 8 1)) := hc2
      omega
  | succ n ih =>
    intro h hh p0 p1 hn
    have sz := hI_rg hh (tx_z hc)
    have sg := fSign_rg hh hc p0
    by_cases hb : hI h 8 1 < hI h (33 + 2 * c) 1 ∧ hI h (34 + 2 * c) (hI h 8 1).toNat = 32
    · have e1 : pSk (hI h (33 + 2 * c) 1) (hI h (34 + 2 * c)) (n + 1) (hI h 8 1) = pSk (hI h (33 + 2 * c) 1) (hI h (34 + 2 * c)) n (hI h 8 1 + 1) := by
        show (if _ then _ else _) = _
        rw [if_pos hb]
      have e2 : pAt (hI h (33 + 2 * c) 1) (hI h (34 + 2 * c)) 1000 (hI h 8 1) = 32 := by
        unfold pAt
        rw [if_pos hb.1]
        exact hb.2
      rw [e1]
      have hh1 := rp_hx (z := hI h 8 1 + 1) hh (by unfold sR aMi aMa; omega)
      have f1 : hI (hset h 8 1 (sI (hI h 8 1 + 1))) 8 1 = hI h 8 1 + 1 := hI_eq (k := 2) (n := 2) hh rfl (by omega) (by unfold sR aMi aMa; omega)
      have f2 : hI (hset h 8 1 (sI (hI h 8 1 + 1))) (33 + 2 * c) 1 = hI h (33 + 2 * c) 1 := hI_ne (k := 2) (n := 2) hh rfl (by omega) (by omega)
      have f3 : hI (hset h 8 1 (sI (hI h 8 1 + 1))) (34 + 2 * c) = hI h (34 + 2 * c) := hI_nf (k := 2) (n := 2) hh rfl (by omega) (by omega)
      have r1 := ih (hset h 8 1 (sI (hI h 8 1 + 1))) hh1 (by omega) (by omega) (by omega)
      rw [f1, f2, f3, hset_hset] at r1
      refine sP 1 (g1 := (1, [some (.ref 8), some (.ref (33 + 2 * c))], [.ref 8], h)) rfl ?_
      refine s_get (a := 8) (j := 1) hh rfl ⟨_, rfl⟩ rfl rfl rfl (v := sI (hI h 8 1)) (hI_ok hh rp_x) ?_
      refine sP 1 (g1 := (3, [some (.ref 8), some (.ref (33 + 2 * c))], [.ref (33 + 2 * c), sI (hI h 8 1)], h)) rfl ?_
      have rg1 := hI_rg hh (tx_z hc)
      refine s_get (a := 33 + 2 * c) (j := 1) hh rfl ⟨_, rfl⟩ (tx_a hc) rfl rfl (v := sI (hI h (33 + 2 * c) 1)) (hI_ok hh (tx_z hc)) ?_
      refine s_icmp (q := .ge) (a := hI h 8 1) (b := hI h (33 + 2 * c) 1) rfl ⟨_, rfl⟩ rfl (by unfold sR aMi aMa; omega) (by unfold sR aMi aMa; omega) (fun hc2 => ?_) (fun hc2 => ?_)
      · have hc2 : ((hI h (33 + 2 * c) 1) : Int) ≤ (hI h 8 1) := hc2
        omega
      · have hc2 : ¬ (((hI h (33 + 2 * c) 1) : Int) ≤ (hI h 8 1)) := hc2
        refine sP 2 (g1 := (7, [some (.ref 8), some (.ref (33 + 2 * c))], [.ref (33 + 2 * c), .ref 8], h)) rfl ?_
        refine s_call (k := 28) (args := [.ref 8, .ref (33 + 2 * c)]) (st := []) (v := some (sI (pAt (hI h (33 + 2 * c) 1) (hI h (34 + 2 * c)) 1000 (hI h 8 1)))) (h1 := h) rfl ⟨rfl, rfl⟩ rfl rfl rfl rfl (sRcv hh (a := 8) rfl rfl) rfl (fSign hh hc (by omega) (by omega)) ?_
        refine sP 1 (g1 := (9, [some (.ref 8), some (.ref (33 + 2 * c))], [sI 32, sI (pAt (hI h (33 + 2 * c) 1) (hI h (34 + 2 * c)) 1000 (hI h 8 1))], h)) rfl ?_
        refine s_icmp (q := .ne) (a := pAt (hI h (33 + 2 * c) 1) (hI h (34 + 2 * c)) 1000 (hI h 8 1)) (b := 32) rfl ⟨_, rfl⟩ rfl (by unfold sR aMi aMa; omega) (by unfold sR aMi aMa; omega) (fun hc3 => ?_) (fun hc3 => ?_)
        · have hc3 : ((pAt (hI h (33 + 2 * c) 1) (hI h (34 + 2 * c)) 1000 (hI h 8 1)) : Int) ≠ 32 := hc3
          omega
        · have hc3 : ¬ (((pAt (hI h (33 + 2 * c) 1) (hI h (34 + 2 * c)) 1000 (hI h 8 1)) : Int) ≠ 32) := hc3
          refine sP 2 (g1 := (12, [some (.ref 8), some (.ref (33 + 2 * c))], [.ref 8, .ref 8], h)) rfl ?_
          refine s_get (a := 8) (j := 1) hh rfl ⟨_, rfl⟩ rfl rfl rfl (v := sI (hI h 8 1)) (hI_ok hh rp_x) ?_
          refine sP 1 (g1 := (14, [some (.ref 8), some (.ref (33 + 2 * c))], [sI 1, sI (hI h 8 1), .ref 8], h)) rfl ?_
          refine s_add (a := hI h 8 1) (b := 1) rfl rfl ?_
          refine s_put (a := 8) (j := 1) (k := 2) (n := 2) hh rfl ⟨_, rfl⟩ rfl rfl rfl (by decide) rfl ?_
          refine sP 1 (g1 := (0, [some (.ref 8), some (.ref (33 + 2 * c))], [], (hset h 8 1 (sI ((hI h 8 1) + 1))))) rfl ?_
          exact r1
    · have e1 : pSk (hI h (33 + 2 * c) 1) (hI h (34 + 2 * c)) (n + 1) (hI h 8 1) = hI h 8 1 := by
        show (if _ then _ else _) = _
        rw [if_neg hb]
      rw [e1, show hset h 8 1 (sI (hI h 8 1)) = h from hset_self (hI_ok hh rp_x)]
      have e2 : hI h 8 1 < hI h (33 + 2 * c) 1 → pAt (hI h (33 + 2 * c) 1) (hI h (34 + 2 * c)) 1000 (hI h 8 1) ≠ 32 := by
        intro q
        unfold pAt
        rw [if_pos q]
        omega
      refine sP 1 (g1 := (1, [some (.ref 8), some (.ref (33 + 2 * c))], [.ref 8], h)) rfl ?_
      refine s_get (a := 8) (j := 1) hh rfl ⟨_, rfl⟩ rfl rfl rfl (v := sI (hI h 8 1)) (hI_ok hh rp_x) ?_
      refine sP 1 (g1 := (3, [some (.ref 8), some (.ref (33 + 2 * c))], [.ref (33 + 2 * c), sI (hI h 8 1)], h)) rfl ?_
      have rg1 := hI_rg hh (tx_z hc)
      refine s_get (a := 33 + 2 * c) (j := 1) hh rfl ⟨_, rfl⟩ (tx_a hc) rfl rfl (v := sI (hI h (33 + 2 * c) 1)) (hI_ok hh (tx_z hc)) ?_
      refine s_icmp (q := .ge) (a := hI h 8 1) (b := hI h (33 + 2 * c) 1) rfl ⟨_, rfl⟩ rfl (by unfold sR aMi aMa; omega) (by unfold sR aMi aMa; omega) (fun hc2 => ?_) (fun hc2 => ?_)
      · have hc2 : ((hI h (33 + 2 * c) 1) : Int) ≤ (hI h 8 1) := hc2
        exact s_ret rfl rfl
      · have hc2 : ¬ (((hI h (33 + 2 * c) 1) : Int) ≤ (hI h 8 1)) := hc2
        refine sP 2 (g1 := (7, [some (.ref 8), some (.ref (33 + 2 * c))], [.ref (33 + 2 * c), .ref 8], h)) rfl ?_
        refine s_call (k := 28) (args := [.ref 8, .ref (33 + 2 * c)]) (st := []) (v := some (sI (pAt (hI h (33 + 2 * c) 1) (hI h (34 + 2 * c)) 1000 (hI h 8 1)))) (h1 := h) rfl ⟨rfl, rfl⟩ rfl rfl rfl rfl (sRcv hh (a := 8) rfl rfl) rfl (fSign hh hc (by omega) (by omega)) ?_
        refine sP 1 (g1 := (9, [some (.ref 8), some (.ref (33 + 2 * c))], [sI 32, sI (pAt (hI h (33 + 2 * c) 1) (hI h (34 + 2 * c)) 1000 (hI h 8 1))], h)) rfl ?_
        refine s_icmp (q := .ne) (a := pAt (hI h (33 + 2 * c) 1) (hI h (34 + 2 * c)) 1000 (hI h 8 1)) (b := 32) rfl ⟨_, rfl⟩ rfl (by unfold sR aMi aMa; omega) (by unfold sR aMi aMa; omega) (fun hc3 => ?_) (fun hc3 => ?_)
        · have hc3 : ((pAt (hI h (33 + 2 * c) 1) (hI h (34 + 2 * c)) 1000 (hI h 8 1)) : Int) ≠ 32 := hc3
          exact s_ret rfl rfl
        · have hc3 : ¬ (((pAt (hI h (33 + 2 * c) 1) (hI h (34 + 2 * c)) 1000 (hI h 8 1)) : Int) ≠ 32) := hc3
          (have := e2 (by omega); omega)
theorem fSkip {c : Nat} (hh : aHp h) (hc : c < 4) (p0 : 0 ≤ hI h 8 1) (p1 : hI h 8 1 ≤ 90) : nEv sc (d + 2) 27 [.ref 8, .ref (33 + 2 * c)] h (none, hset h 8 1 (sI (pSk (hI h (33 + 2 * c) 1) (hI h (34 + 2 * c)) 61 (hI h 8 1)))) := by
  have sz := hI_rg hh (tx_z hc)
  exact nEv_of (t := mMe27) rfl (fSkipL hc 61 h hh p0 p1 (by omega))
theorem fHere {c : Nat} (hh : aHp h) (hc : c < 4) : nEv sc (d + 1) 141 [.ref 53, sI (c : Int)] h (some (sI (pAt (hI h 56 c) (fun j => hI h 57 (60 * c + j)) (-1000) (hI h 53 13))), h) := by
  refine nEv_of (t := mMe141) rfl ?_
  show nRn sc (d) (mMT mMe141) (mMC mMe141) (0, [some (.ref 53), some (sI ((c : Int)))], [], h) _
  refine sP 1 (g1 := (1, [some (.ref 53), some (sI ((c : Int)))], [.ref 53], h)) rfl ?_
  have rg1 := hI_rg hh rp_m
  refine s_get (a := 53) (j := 13) hh rfl ⟨_, rfl⟩ rfl rfl rfl (v := sI (hI h 53 13)) (hI_ok hh rp_m) ?_
  refine sP 1 (g1 := (3, [some (.ref 53), some (sI ((c : Int)))], [.ref 53, sI (hI h 53 13)], h)) rfl ?_
  refine s_get (a := 53) (j := 2) hh rfl ⟨_, rfl⟩ rfl rfl rfl (v := .ref 56) (hR_ok hh (by decide +kernel)) ?_
  refine sP 1 (g1 := (5, [some (.ref 53), some (sI ((c : Int)))], [sI ((c : Int)), .ref 56, sI (hI h 53 13)], h)) rfl ?_
  have rg2 := hI_rg hh (tx_n hc)
  refine s_iald (a := 56) (n := 4) (j := (c : Int)) hh rfl rfl rfl (by omega) (by omega) (by decide) (v := sI (hI h 56 c)) (by rw [Int.toNat_natCast]; exact hI_ok hh (tx_n hc)) ?_
  refine s_icmp (q := .ge) (a := hI h 53 13) (b := hI h 56 c) rfl ⟨_, rfl⟩ rfl (by unfold sR aMi aMa; omega) (by unfold sR aMi aMa; omega) (fun hc3 => ?_) (fun hc3 => ?_)
  · have hc3 : ((hI h 56 c) : Int) ≤ (hI h 53 13) := hc3
    refine sP 1 (g1 := (18, [some (.ref 53), some (sI ((c : Int)))], [sI ((-1000))], h)) rfl ?_
    exact s_reti rfl rfl (Or.inl rfl) (by unfold pAt; first | (rw [if_pos (by omega)]; show _ = hI h 57 _; congr 1; omega) | rw [if_neg (by omega)]) rfl
  · have hc3 : ¬ (((hI h 56 c) : Int) ≤ (hI h 53 13)) := hc3
    refine sP 1 (g1 := (8, [some (.ref 53), some (sI ((c : Int)))], [.ref 53], h)) rfl ?_
    refine s_get (a := 53) (j := 3) hh rfl ⟨_, rfl⟩ rfl rfl rfl (v := .ref 57) (hR_ok hh (by decide +kernel)) ?_
    refine sP 2 (g1 := (11, [some (.ref 53), some (sI ((c : Int)))], [sI ((c : Int)), sI 60, .ref 57], h)) rfl ?_
    refine s_mul (a := 60) (b := (c : Int)) rfl rfl ?_
    refine sP 1 (g1 := (13, [some (.ref 53), some (sI ((c : Int)))], [.ref 53, sI (60 * ((c : Int))), .ref 57], h)) rfl ?_
    have rg4 := hI_rg hh rp_m
    refine s_get (a := 53) (j := 13) hh rfl ⟨_, rfl⟩ rfl rfl rfl (v := sI (hI h 53 13)) (hI_ok hh rp_m) ?_
    refine s_add (a := 60 * ((c : Int))) (b := hI h 53 13) rfl rfl ?_
    have rg5 := hI_rg hh (tx_m (j := ((60 * ((c : Int))) + (hI h 53 13)).toNat) (by omega))
    refine s_iald (a := 57) (n := 240) (j := (60 * ((c : Int))) + (hI h 53 13)) hh rfl rfl rfl (by omega) (by omega) (by decide) (v := sI (hI h 57 ((60 * ((c : Int))) + (hI h 53 13)).toNat)) (hI_ok hh (tx_m (j := ((60 * ((c : Int))) + (hI h 53 13)).toNat) (by omega))) ?_
    refine sP 1 (g1 := (18, [some (.ref 53), some (sI ((c : Int)))], [sI (hI h 57 ((60 * ((c : Int))) + (hI h 53 13)).toNat)], h)) rfl ?_
    exact s_reti rfl rfl (Or.inl rfl) (by unfold pAt; first | (rw [if_pos (by omega)]; show _ = hI h 57 _; congr 1; omega) | rw [if_neg (by omega)]) rfl
theorem fHere_rg {c : Nat} (hh : aHp h) (hc : c < 4) : -1000 ≤ pAt (hI h 56 c) (fun j => hI h 57 (60 * c + j)) (-1000) (hI h 53 13) ∧ pAt (hI h 56 c) (fun j => hI h 57 (60 * c + j)) (-1000) (hI h 53 13) ≤ 127 := by
  have sz := hI_rg hh (tx_n hc)
  have pl := hI_rg hh rp_m
  unfold pAt
  split
  · have := hI_rg hh (tx_m (j := 60 * c + (hI h 53 13).toNat) (by omega))
    show -1000 ≤ hI h 57 _ ∧ hI h 57 _ ≤ 127
    omega
  · omega
theorem fBlankL {c : Nat} (hc : c < 4) : ∀ (n : Nat) (h : mH), aHp h → (hI h 56 c - hI h 53 13).toNat ≤ n → nRn sc (d + 1) (mMT mMe140) (mMC mMe140) (0, [some (.ref 53), some (sI (c : Int))], [], h) (none, hset h 53 13 (sI (pSk (hI h 56 c) (fun j => hI h 57 (60 * c + j)) n (hI h 53 13)))) := by
  intro n
  induction n with
  | zero =>
    intro h hh hn
    rw [show hset h 53 13 (sI (pSk (hI h 56 c) (fun j => hI h 57 (60 * c + j)) 0 (hI h 53 13))) = h from hset_self (hI_ok hh rp_m)]
    have sg := fHere_rg hh hc
    have e2 : pAt (hI h 56 c) (fun j => hI h 57 (60 * c + j)) (-1000) (hI h 53 13) = -1000 := by
      unfold pAt
      rw [if_neg (by omega)]
    refine sP 2 (g1 := (2, [some (.ref 53), some (sI ((c : Int)))], [sI ((c : Int)), .ref 53], h)) rfl ?_
    refine s_call (k := 141) (args := [.ref 53, sI ((c : Int))]) (st := []) (v := some (sI (pAt (hI h 56 c) (fun j => hI h 57 (60 * c + j)) (-1000) (hI h 53 13)))) (h1 := h) rfl ⟨rfl, rfl⟩ rfl rfl rfl rfl (sRcv hh (a := 53) rfl rfl) rfl (fHere hh hc) ?_
    refine sP 1 (g1 := (4, [some (.ref 53), some (sI ((c : Int)))], [sI 32, sI (pAt (hI h 56 c) (fun j => hI h 57 (60 * c + j)) (-1000) (hI h 53 13))], h)) rfl ?_
    refine s_icmp (q := .ne) (a := pAt (hI h 56 c) (fun j => hI h 57 (60 * c + j)) (-1000) (hI h 53 13)) (b := 32) rfl ⟨_, rfl⟩ rfl (by unfold sR aMi aMa; omega) (by unfold sR aMi aMa; omega) (fun hc1 => ?_) (fun hc1 => ?_)
    · have hc1 : ((pAt (hI h 56 c) (fun j => hI h 57 (60 * c + j)) (-1000) (hI h 53 13)) : Int) ≠ 32 := hc1
      exact s_ret rfl rfl
    · have hc1 : ¬ (((pAt (hI h 56 c) (fun j => hI h 57 (60 * c + j)) (-1000) (hI h 53 13)) : Int) ≠ 32) := hc1
      omega
  | succ n ih =>
    intro h hh hn
    have sz := hI_rg hh (tx_n hc)
    have pl := hI_rg hh rp_m
    have sg := fHere_rg hh hc
    by_cases hb : hI h 53 13 < hI h 56 c ∧ hI h 57 (60 * c + (hI h 53 13).toNat) = 32
    · have e1 : pSk (hI h 56 c) (fun j => hI h 57 (60 * c + j)) (n + 1) (hI h 53 13) = pSk (hI h 56 c) (fun j => hI h 57 (60 * c + j)) n (hI h 53 13 + 1) := by
        show (if _ then _ else _) = _
        rw [if_pos hb]
      have e2 : pAt (hI h 56 c) (fun j => hI h 57 (60 * c + j)) (-1000) (hI h 53 13) = 32 := by
        unfold pAt
        rw [if_pos hb.1]
        exact hb.2
      rw [e1]
      have hh1 := rp_hm (z := hI h 53 13 + 1) hh (by omega) (by omega)
      have f1 : hI (hset h 53 13 (sI (hI h 53 13 + 1))) 53 13 = hI h 53 13 + 1 := hI_eq (k := 7) (n := 21) hh rfl (by omega) (by unfold sR aMi aMa; omega)
      have f2 : hI (hset h 53 13 (sI (hI h 53 13 + 1))) 56 c = hI h 56 c := hI_ne (k := 7) (n := 21) hh rfl (by omega) (by omega)
      have f3 : (fun j => hI (hset h 53 13 (sI (hI h 53 13 + 1))) 57 (60 * c + j)) = (fun j => hI h 57 (60 * c + j)) := by rw [hI_nf (k := 7) (n := 21) hh rfl (by omega) (by omega)]
      have r1 := ih (hset h 53 13 (sI (hI h 53 13 + 1))) hh1 (by omega)
      rw [f1, f2, f3, hset_hset] at r1
      refine sP 2 (g1 := (2, [some (.ref 53), some (sI ((c : Int)))], [sI ((c : Int)), .ref 53], h)) rfl ?_
      refine s_call (k := 141) (args := [.ref 53, sI ((c : Int))]) (st := []) (v := some (sI (pAt (hI h 56 c) (fun j => hI h 57 (60 * c + j)) (-1000) (hI h 53 13)))) (h1 := h) rfl ⟨rfl, rfl⟩ rfl rfl rfl rfl (sRcv hh (a := 53) rfl rfl) rfl (fHere hh hc) ?_
      refine sP 1 (g1 := (4, [some (.ref 53), some (sI ((c : Int)))], [sI 32, sI (pAt (hI h 56 c) (fun j => hI h 57 (60 * c + j)) (-1000) (hI h 53 13))], h)) rfl ?_
      refine s_icmp (q := .ne) (a := pAt (hI h 56 c) (fun j => hI h 57 (60 * c + j)) (-1000) (hI h 53 13)) (b := 32) rfl ⟨_, rfl⟩ rfl (by unfold sR aMi aMa; omega) (by unfold sR aMi aMa; omega) (fun hc1 => ?_) (fun hc1 => ?_)
      · have hc1 : ((pAt (hI h 56 c) (fun j => hI h 57 (60 * c + j)) (-1000) (hI h 53 13)) : Int) ≠ 32 := hc1
        omega
      · have hc1 : ¬ (((pAt (hI h 56 c) (fun j => hI h 57 (60 * c + j)) (-1000) (hI h 53 13)) : Int) ≠ 32) := hc1
        refine sP 2 (g1 := (7, [some (.ref 53), some (sI ((c : Int)))], [.ref 53, .ref 53], h)) rfl ?_
        have rg2 := hI_rg hh rp_m
        refine s_get (a := 53) (j := 13) hh rfl ⟨_, rfl⟩ rfl rfl rfl (v := sI (hI h 53 13)) (hI_ok hh rp_m) ?_
        refine sP 1 (g1 := (9, [some (.ref 53), some (sI ((c : Int)))], [sI 1, sI (hI h 53 13), .ref 53], h)) rfl ?_
        refine s_add (a := hI h 53 13) (b := 1) rfl rfl ?_
        refine s_put (a := 53) (j := 13) (k := 7) (n := 21) hh rfl ⟨_, rfl⟩ rfl rfl rfl (by decide) rfl ?_
        refine sP 1 (g1 := (0, [some (.ref 53), some (sI ((c : Int)))], [], (hset h 53 13 (sI ((hI h 53 13) + 1))))) rfl ?_
        exact r1
    · have e1 : pSk (hI h 56 c) (fun j => hI h 57 (60 * c + j)) (n + 1) (hI h 53 13) = hI h 53 13 := by
        show (if _ then _ else _) = _
        rw [if_neg hb]
      rw [e1, show hset h 53 13 (sI (hI h 53 13)) = h from hset_self (hI_ok hh rp_m)]
      have e2 : pAt (hI h 56 c) (fun j => hI h 57 (60 * c + j)) (-1000) (hI h 53 13) ≠ 32 := by
        unfold pAt
        split
        · rename_i q
          show hI h 57 (60 * c + (hI h 53 13).toNat) ≠ 32
          omega
        · omega
      refine sP 2 (g1 := (2, [some (.ref 53), some (sI ((c : Int)))], [sI ((c : Int)), .ref 53], h)) rfl ?_
      refine s_call (k := 141) (args := [.ref 53, sI ((c : Int))]) (st := []) (v := some (sI (pAt (hI h 56 c) (fun j => hI h 57 (60 * c + j)) (-1000) (hI h 53 13)))) (h1 := h) rfl ⟨rfl, rfl⟩ rfl rfl rfl rfl (sRcv hh (a := 53) rfl rfl) rfl (fHere hh hc) ?_
      refine sP 1 (g1 := (4, [some (.ref 53), some (sI ((c : Int)))], [sI 32, sI (pAt (hI h 56 c) (fun j => hI h 57 (60 * c + j)) (-1000) (hI h 53 13))], h)) rfl ?_
      refine s_icmp (q := .ne) (a := pAt (hI h 56 c) (fun j => hI h 57 (60 * c + j)) (-1000) (hI h 53 13)) (b := 32) rfl ⟨_, rfl⟩ rfl (by unfold sR aMi aMa; omega) (by unfold sR aMi aMa; omega) (fun hc1 => ?_) (fun hc1 => ?_)
      · have hc1 : ((pAt (hI h 56 c) (fun j => hI h 57 (60 * c + j)) (-1000) (hI h 53 13)) : Int) ≠ 32 := hc1
        exact s_ret rfl rfl
      · have hc1 : ¬ (((pAt (hI h 56 c) (fun j => hI h 57 (60 * c + j)) (-1000) (hI h 53 13)) : Int) ≠ 32) := hc1
        omega
theorem fBlank {c : Nat} (hh : aHp h) (hc : c < 4) : nEv sc (d + 2) 140 [.ref 53, sI (c : Int)] h (none, hset h 53 13 (sI (pSk (hI h 56 c) (fun j => hI h 57 (60 * c + j)) 61 (hI h 53 13)))) := by
  have sz := hI_rg hh (tx_n hc)
  have pl := hI_rg hh rp_m
  exact nEv_of (t := mMe140) rfl (fBlankL hc 61 h hh (by omega))
theorem fKindM {z : Int} (z0 : -2000 ≤ z) (z1 : z ≤ 2000) : nEv sc (d + 1) 143 [sI z] h (some (sI (pKd z)), h) := by
  refine nEv_of (t := mMe143) rfl ?_
  show nRn sc (d) (mMT mMe143) (mMC mMe143) (0, [some (sI z)], [], h) _
  refine sP 2 (g1 := (2, [some (sI z)], [sI 103, sI z], h)) rfl ?_
  refine s_icmp (q := .ne) (a := z) (b := 103) rfl ⟨_, rfl⟩ rfl (by unfold sR aMi aMa; omega) (by unfold sR aMi aMa; omega) (fun hc1 => ?_) (fun hc1 => ?_)
  · have hc1 : (z : Int) ≠ 103 := hc1
    refine sP 2 (g1 := (7, [some (sI z)], [sI 101, sI z], h)) rfl ?_
    refine s_icmp (q := .ne) (a := z) (b := 101) rfl ⟨_, rfl⟩ rfl (by unfold sR aMi aMa; omega) (by unfold sR aMi aMa; omega) (fun hc2 => ?_) (fun hc2 => ?_)
    · have hc2 : (z : Int) ≠ 101 := hc2
      refine sP 2 (g1 := (12, [some (sI z)], [sI 115, sI z], h)) rfl ?_
      refine s_icmp (q := .ne) (a := z) (b := 115) rfl ⟨_, rfl⟩ rfl (by unfold sR aMi aMa; omega) (by unfold sR aMi aMa; omega) (fun hc3 => ?_) (fun hc3 => ?_)
      · have hc3 : (z : Int) ≠ 115 := hc3
        refine sP 2 (g1 := (17, [some (sI z)], [sI 118, sI z], h)) rfl ?_
        refine s_icmp (q := .ne) (a := z) (b := 118) rfl ⟨_, rfl⟩ rfl (by unfold sR aMi aMa; omega) (by unfold sR aMi aMa; omega) (fun hc4 => ?_) (fun hc4 => ?_)
        · have hc4 : (z : Int) ≠ 118 := hc4
          refine sP 2 (g1 := (22, [some (sI z)], [sI 99, sI z], h)) rfl ?_
          refine s_icmp (q := .ne) (a := z) (b := 99) rfl ⟨_, rfl⟩ rfl (by unfold sR aMi aMa; omega) (by unfold sR aMi aMa; omega) (fun hc5 => ?_) (fun hc5 => ?_)
          · have hc5 : (z : Int) ≠ 99 := hc5
            refine sP 2 (g1 := (27, [some (sI z)], [sI 107, sI z], h)) rfl ?_
            refine s_icmp (q := .ne) (a := z) (b := 107) rfl ⟨_, rfl⟩ rfl (by unfold sR aMi aMa; omega) (by unfold sR aMi aMa; omega) (fun hc6 => ?_) (fun hc6 => ?_)
            · have hc6 : (z : Int) ≠ 107 := hc6
              refine sP 1 (g1 := (31, [some (sI z)], [sI ((-1))], h)) rfl ?_
              exact s_reti rfl rfl (Or.inl rfl) (by unfold pKd; (repeat' split) <;> omega) rfl
            · have hc6 : ¬ ((z : Int) ≠ 107) := hc6
              refine sP 2 (g1 := (31, [some (sI z)], [sI 5], h)) rfl ?_
              exact s_reti rfl rfl (Or.inl rfl) (by unfold pKd; (repeat' split) <;> omega) rfl
          · have hc5 : ¬ ((z : Int) ≠ 99) := hc5
            refine sP 2 (g1 := (31, [some (sI z)], [sI 4], h)) rfl ?_
            exact s_reti rfl rfl (Or.inl rfl) (by unfold pKd; (repeat' split) <;> omega) rfl
        · have hc4 : ¬ ((z : Int) ≠ 118) := hc4
          refine sP 2 (g1 := (31, [some (sI z)], [sI 3], h)) rfl ?_
          exact s_reti rfl rfl (Or.inl rfl) (by unfold pKd; (repeat' split) <;> omega) rfl
      · have hc3 : ¬ ((z : Int) ≠ 115) := hc3
        refine sP 2 (g1 := (31, [some (sI z)], [sI 2], h)) rfl ?_
        exact s_reti rfl rfl (Or.inl rfl) (by unfold pKd; (repeat' split) <;> omega) rfl
    · have hc2 : ¬ ((z : Int) ≠ 101) := hc2
      refine sP 2 (g1 := (31, [some (sI z)], [sI 1], h)) rfl ?_
      exact s_reti rfl rfl (Or.inl rfl) (by unfold pKd; (repeat' split) <;> omega) rfl
  · have hc1 : ¬ ((z : Int) ≠ 103) := hc1
    refine sP 2 (g1 := (31, [some (sI z)], [sI 0], h)) rfl ?_
    exact s_reti rfl rfl (Or.inl rfl) (by unfold pKd; (repeat' split) <;> omega) rfl
end READ
