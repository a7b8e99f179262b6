/-! embassy -/
section EMB2
variable {sc : List Int32} {d : Nat} {h : mH}
theorem s_bast2 {rt : Option FieldType} {cs : List mE} {i : Nat} {L : mL} {st : List Value} {r : mR} {en : mE} {a n : Nat} {j : Int} {v : Int32} (hh : aHp h) (he : cs[i]? = some en) (ho : en.2.1 = .bastore) (ht : sTg a = some (52, n)) (h0 : 0 ≤ j) (hn : j < n) (hb : n ≤ 100000) (hr : nRn sc d rt cs (i + 1, L, st, hset h a j.toNat (.int (v &&& 1))) r) : nRn sc d rt cs (i, L, .int v :: sI j :: .ref a :: st, h) r := by
  obtain ⟨q, q1, q2, q3⟩ := sTg_ok hh ht
  obtain ⟨x1, x2⟩ := sIx h0 hn hb
  unfold hset at hr
  rw [q1] at hr
  refine sStep he (by unfold nCl; rw [ho]; intro q; cases q) (fun call => mStep_F3 ?_) hr
  unfold mF3
  rw [ho]
  dsimp only
  rw [q1]
  dsimp only
  rw [if_neg (fun q => by have := q.1; omega), if_pos ⟨q2, by rw [q3]; exact x1⟩, x2]
theorem fCopies {A B i j nA nB : Nat} (hAB : A ≠ B) (tA : sTg A = some (50, nA)) (tB : sTg B = some (50, nB)) (bA : i + 201 ≤ nA) (bB : j + 201 ≤ nB) (cA : nA ≤ 100000) (cB : nB ≤ 100000) (hty : cpB A i B j = true) (hh : aHp h) : ∃ h1, nEv sc (d + 1) 145 [.ref A, sI (i : Int), .ref B, sI (j : Int)] h (none, h1) ∧ aHp h1 ∧ ∀ b q, aSlot h1 b q = if b = B ∧ j ≤ q ∧ q < j + 201 then aSlot h A (i + (q - j)) else aSlot h b q := by
  obtain ⟨h1, r1, r2, r3⟩ := fCopiesL (sc := sc) (d := d) hAB tA tB bA bB cA cB hty 201 0 h (by omega) hh
  refine ⟨h1, nEv_of (t := mMe145) rfl ?_, r2, fun b q => by rw [r3, Nat.add_zero]⟩
  show nRn sc d (mMT mMe145) (mMC mMe145) (0, [some (.ref A), some (sI (i : Int)), some (.ref B), some (sI (j : Int)), none], [], h) _
  refine sP 2 (g1 := (2, [some (.ref A), some (sI (i : Int)), some (.ref B), some (sI (j : Int)), some (sI 0)], [], h)) rfl ?_
  exact r1
theorem kx_i {e : Nat} (he : e ∈ eAd) (hh : aHp h) : aHp (hset h e 3 (sI 0)) := hset_in hh (ea_ip he) (by decide) (by decide)
theorem km_z : (Int32.ofInt 0 &&& 1) = Int32.ofInt 0 := by decide
theorem km_i {k : Nat} (hk : k < 3) (hh : aHp h) : aHp (hset h 61 k (.int (Int32.ofInt 0 &&& 1))) := by
  rw [km_z]
  exact hset_in hh ((show ∀ k, k < 3 → zIn 61 k 0 1 = true by decide +kernel) k hk) (by decide) (by decide)
/-- the class, where the text is an embassy: it becomes it, nothing is kept -/
theorem fEmbX {c : Nat} (hc : c < 4) (hh : aHp h) (hs : hI h (33 + 2 * c) 1 ≠ -1) (hz : pRd (hI h (33 + 2 * c) 1) (hI h (34 + 2 * c)) = -9) : ∃ g h1, ∃ n : Nat, nEv sc (d + 4) 32 [.ref 0, sI (c : Int)] h (some (sI (n : Int)), h1) ∧ aHp g ∧ aHp h1 ∧ (∀ e m, e ≠ 8 → e ≠ 9 → e ≠ 10 → e ≠ 11 → aSlot g e m = aSlot h e m) ∧ 2 ≤ n ∧ n ≤ 6 ∧ (n : Int) = pDt (hI h (33 + 2 * c) 1) (hI h (34 + 2 * c)) (pSk (hI h (33 + 2 * c) 1) (hI h (34 + 2 * c)) 61 0 + 1) ∧ hI g 9 3 = n ∧ aSlot g 9 4 = some (sI 0) ∧ aSlot g 9 5 = some (sI 0) ∧ aSlot g 9 6 = some (sJ 0) ∧ (∀ a, a < n → hI g 10 a = pLt (hI h (33 + 2 * c) 1) (hI h (34 + 2 * c)) (pPo (hI h (33 + 2 * c) 1) (hI h (34 + 2 * c)) n a (pSk (hI h (33 + 2 * c) 1) (hI h (34 + 2 * c)) 61 0 + 2)) ∧ ∀ b, b < n → hI g 11 (6 * a + b) = pDt (hI h (33 + 2 * c) 1) (hI h (34 + 2 * c)) (pPo (hI h (33 + 2 * c) 1) (hI h (34 + 2 * c)) n a (pSk (hI h (33 + 2 * c) 1) (hI h (34 + 2 * c)) 61 0 + 2) + 1 + b)) ∧ ∀ b m, aSlot h1 b m = if (b = 41 ∨ b = 45 ∨ b = 49) ∧ m = 3 then some (sI 0) else if b = 4 then aSlot g 10 m else if b = 5 then aSlot g 11 m else if b = 6 then aSlot g 12 m else if b = 3 ∧ 3 ≤ m ∧ m ≤ 6 then aSlot g 9 m else aSlot g b m := by
  have sz := hI_rg hh (tx_z hc)
  obtain ⟨g, r1, r2, r3, r4⟩ := fRead (sc := sc) (d := d) hc hh
  obtain ⟨n, n1, n2, n3, n4, n5, n6, n7, n8⟩ := r4 hz
  rw [hz] at r1
  obtain ⟨g2, k1, k2, k3⟩ := fBecome (sc := sc) (d := d + 2) (e := 3) (o := 9) r2 (by decide) (by decide) (by decide)
  have m1 := kx_i (e := 41) (by decide) k2
  have u1 := fun b m => hset_slot (v := sI 0) (a := 41) (j := 3) (k := 1) (n := 7) k2 rfl (by omega) b m
  have m2 := kx_i (e := 45) (by decide) m1
  have u2 := fun b m => hset_slot (v := sI 0) (a := 45) (j := 3) (k := 1) (n := 7) m1 rfl (by omega) b m
  have m3 := kx_i (e := 49) (by decide) m2
  have u3 := fun b m => hset_slot (v := sI 0) (a := 49) (j := 3) (k := 1) (n := 7) m2 rfl (by omega) b m
  have fin : aSlot (hset (hset (hset g2 41 3 (sI 0)) 45 3 (sI 0)) 49 3 (sI 0)) 3 3 = some (sI (n : Int)) := by
    rw [u3, if_neg (by omega), u2, if_neg (by omega), u1, if_neg (by omega), k3, if_neg (by omega), if_neg (by omega), if_neg (by omega), if_pos (by omega), ← n4]
    exact hI_ok r2 rn_x
  refine ⟨g, _, n, nEv_of (t := mMe32) rfl ?_, r2, m3, r3, n1, n2, n3, n4, n5, n6, n7, n8, fun b m => ?_⟩
  rotate_left
  · by_cases b1 : (b = 41 ∨ b = 45 ∨ b = 49) ∧ m = 3
    · rw [if_pos b1, u3]
      by_cases b2 : b = 49
      · rw [if_pos ⟨b2, b1.2⟩]
      · rw [if_neg (fun q => b2 q.1), u2]
        by_cases b3 : b = 45
        · rw [if_pos ⟨b3, b1.2⟩]
        · rw [if_neg (fun q => b3 q.1), u1, if_pos (by omega)]
    · rw [if_neg b1, u3, if_neg (by omega), u2, if_neg (by omega), u1, if_neg (by omega), k3]
  show nRn sc (d + 3) (mMT mMe32) (mMC mMe32) (0, [some (.ref 0), some (sI (c : Int)), none, none], [], h) _
  refine sP 2 (g1 := (2, [some (.ref 0), some (sI ((c : Int))), none, none], [sI ((c : Int)), .ref 0], h)) rfl ?_
  refine s_call (k := 21) (args := [.ref 0, sI ((c : Int))]) (st := []) (v := some (.ref (33 + 2 * c))) (h1 := h) rfl ⟨rfl, rfl⟩ rfl rfl rfl rfl (sRcv hh (a := 0) rfl rfl) rfl (fTextAt hh hc) ?_
  refine sP 2 (g1 := (5, [some (.ref 0), some (sI ((c : Int))), some (.ref (33 + 2 * c)), none], [.ref (33 + 2 * c)], h)) rfl ?_
  refine s_null rfl (Or.inr ⟨⟨_, rfl⟩, rfl⟩) ?_
  refine sP 1 (g1 := (9, [some (.ref 0), some (sI ((c : Int))), some (.ref (33 + 2 * c)), none], [.ref (33 + 2 * c)], h)) rfl ?_
  have rg1 := hI_rg hh (tx_z hc)
  refine s_get (a := 33 + 2 * c) (j := 1) hh rfl ⟨_, rfl⟩ (tx_a hc) rfl rfl (v := sI (hI h (33 + 2 * c) 1)) (hI_ok hh (tx_z hc)) ?_
  refine sP 1 (g1 := (11, [some (.ref 0), some (sI ((c : Int))), some (.ref (33 + 2 * c)), none], [sI ((-1)), sI (hI h (33 + 2 * c) 1)], h)) rfl ?_
  refine s_icmp (q := .ne) (a := hI h (33 + 2 * c) 1) (b := (-1)) rfl ⟨_, rfl⟩ rfl (by unfold sR aMi aMa; omega) (by unfold sR aMi aMa; omega) (fun hc2 => ?_) (fun hc2 => ?_)
  · have hc2 : ((hI h (33 + 2 * c) 1) : Int) ≠ ((-1)) := hc2
    refine sP 1 (g1 := (17, [some (.ref 0), some (sI ((c : Int))), some (.ref (33 + 2 * c)), none], [.ref 0], h)) rfl ?_
    refine s_get (a := 0) (j := 4) hh rfl ⟨_, rfl⟩ rfl rfl rfl (v := .ref 8) (hR_ok hh (by decide +kernel)) ?_
    refine sP 1 (g1 := (19, [some (.ref 0), some (sI ((c : Int))), some (.ref (33 + 2 * c)), none], [.ref (33 + 2 * c), .ref 8], h)) rfl ?_
    refine s_call (k := 26) (args := [.ref 8, .ref (33 + 2 * c)]) (st := []) (v := some (sI ((-9)))) (h1 := g) rfl ⟨rfl, rfl⟩ rfl rfl rfl rfl (sRcv hh (a := 8) rfl rfl) rfl r1 ?_
    refine sP 1 (g1 := (21, [some (.ref 0), some (sI ((c : Int))), some (.ref (33 + 2 * c)), none], [sI ((-9)), sI ((-9))], g)) rfl ?_
    refine s_icmp (q := .eq) (a := (-9)) (b := (-9)) rfl ⟨_, rfl⟩ rfl (by unfold sR aMi aMa; omega) (by unfold sR aMi aMa; omega) (fun hc3 => ?_) (fun hc3 => ?_)
    · have hc3 : (((-9)) : Int) = ((-9)) := hc3
      refine sP 1 (g1 := (25, [some (.ref 0), some (sI ((c : Int))), some (.ref (33 + 2 * c)), none], [.ref 0], g)) rfl ?_
      refine s_get (a := 0) (j := 2) r2 rfl ⟨_, rfl⟩ rfl rfl rfl (v := .ref 3) (hR_ok r2 (by decide +kernel)) ?_
      refine sP 1 (g1 := (27, [some (.ref 0), some (sI ((c : Int))), some (.ref (33 + 2 * c)), none], [.ref 0, .ref 3], g)) rfl ?_
      refine s_get (a := 0) (j := 4) r2 rfl ⟨_, rfl⟩ rfl rfl rfl (v := .ref 8) (hR_ok r2 (by decide +kernel)) ?_
      refine s_get (a := 8) (j := 0) r2 rfl ⟨_, rfl⟩ rfl rfl rfl (v := .ref 9) (hR_ok r2 (by decide +kernel)) ?_
      refine s_call (k := 33) (args := [.ref 3, .ref 9]) (st := []) (v := none) (h1 := g2) rfl ⟨rfl, rfl⟩ rfl rfl rfl rfl (sRcv r2 (a := 3) rfl rfl) rfl k1 ?_
      refine sP 4 (g1 := (34, [some (.ref 0), some (sI ((c : Int))), some (.ref (33 + 2 * c)), some (sI 0)], [sI 3, sI 0], g2)) rfl ?_
      refine s_icmp (q := .ge) (a := 0) (b := 3) rfl ⟨_, rfl⟩ rfl (by unfold sR aMi aMa; omega) (by unfold sR aMi aMa; omega) (fun hc4 => ?_) (fun hc4 => ?_)
      · have hc4 : (3 : Int) ≤ 0 := hc4
        omega
      · have hc4 : ¬ ((3 : Int) ≤ 0) := hc4
        refine sP 1 (g1 := (36, [some (.ref 0), some (sI ((c : Int))), some (.ref (33 + 2 * c)), some (sI 0)], [.ref 0], g2)) rfl ?_
        refine s_get (a := 0) (j := 3) k2 rfl ⟨_, rfl⟩ rfl rfl rfl (v := .ref 7) (hR_ok k2 (by decide +kernel)) ?_
        refine sP 1 (g1 := (38, [some (.ref 0), some (sI ((c : Int))), some (.ref (33 + 2 * c)), some (sI 0)], [sI 0, .ref 7], g2)) rfl ?_
        refine s_aald (a := 7) (n := 3) (j := 0) k2 rfl rfl rfl (by decide) (by omega) (by omega) (by decide) (v := .ref 41) (hR_ok k2 (by decide +kernel)) ?_
        refine sP 1 (g1 := (40, [some (.ref 0), some (sI ((c : Int))), some (.ref (33 + 2 * c)), some (sI 0)], [sI 0, .ref 41], g2)) rfl ?_
        refine s_put (a := 41) (j := 3) (k := 1) (n := 7) k2 rfl ⟨_, rfl⟩ rfl rfl rfl (by decide) rfl ?_
        refine s_inc (a := 0) (n := 1) (k := 3) rfl rfl rfl ?_
        refine sP 3 (g1 := (34, [some (.ref 0), some (sI ((c : Int))), some (.ref (33 + 2 * c)), some (sI 1)], [sI 3, sI 1], (hset g2 41 3 (sI 0)))) rfl ?_
        refine s_icmp (q := .ge) (a := 1) (b := 3) rfl ⟨_, rfl⟩ rfl (by unfold sR aMi aMa; omega) (by unfold sR aMi aMa; omega) (fun hc5 => ?_) (fun hc5 => ?_)
        · have hc5 : (3 : Int) ≤ 1 := hc5
          omega
        · have hc5 : ¬ ((3 : Int) ≤ 1) := hc5
          refine sP 1 (g1 := (36, [some (.ref 0), some (sI ((c : Int))), some (.ref (33 + 2 * c)), some (sI 1)], [.ref 0], (hset g2 41 3 (sI 0)))) rfl ?_
          refine s_get (a := 0) (j := 3) m1 rfl ⟨_, rfl⟩ rfl rfl rfl (v := .ref 7) (hR_ok m1 (by decide +kernel)) ?_
          refine sP 1 (g1 := (38, [some (.ref 0), some (sI ((c : Int))), some (.ref (33 + 2 * c)), some (sI 1)], [sI 1, .ref 7], (hset g2 41 3 (sI 0)))) rfl ?_
          refine s_aald (a := 7) (n := 3) (j := 1) m1 rfl rfl rfl (by decide) (by omega) (by omega) (by decide) (v := .ref 45) (hR_ok m1 (by decide +kernel)) ?_
          refine sP 1 (g1 := (40, [some (.ref 0), some (sI ((c : Int))), some (.ref (33 + 2 * c)), some (sI 1)], [sI 0, .ref 45], (hset g2 41 3 (sI 0)))) rfl ?_
          refine s_put (a := 45) (j := 3) (k := 1) (n := 7) m1 rfl ⟨_, rfl⟩ rfl rfl rfl (by decide) rfl ?_
          refine s_inc (a := 1) (n := 1) (k := 3) rfl rfl rfl ?_
          refine sP 3 (g1 := (34, [some (.ref 0), some (sI ((c : Int))), some (.ref (33 + 2 * c)), some (sI 2)], [sI 3, sI 2], (hset (hset g2 41 3 (sI 0)) 45 3 (sI 0)))) rfl ?_
          refine s_icmp (q := .ge) (a := 2) (b := 3) rfl ⟨_, rfl⟩ rfl (by unfold sR aMi aMa; omega) (by unfold sR aMi aMa; omega) (fun hc6 => ?_) (fun hc6 => ?_)
          · have hc6 : (3 : Int) ≤ 2 := hc6
            omega
          · have hc6 : ¬ ((3 : Int) ≤ 2) := hc6
            refine sP 1 (g1 := (36, [some (.ref 0), some (sI ((c : Int))), some (.ref (33 + 2 * c)), some (sI 2)], [.ref 0], (hset (hset g2 41 3 (sI 0)) 45 3 (sI 0)))) rfl ?_
            refine s_get (a := 0) (j := 3) m2 rfl ⟨_, rfl⟩ rfl rfl rfl (v := .ref 7) (hR_ok m2 (by decide +kernel)) ?_
            refine sP 1 (g1 := (38, [some (.ref 0), some (sI ((c : Int))), some (.ref (33 + 2 * c)), some (sI 2)], [sI 2, .ref 7], (hset (hset g2 41 3 (sI 0)) 45 3 (sI 0)))) rfl ?_
            refine s_aald (a := 7) (n := 3) (j := 2) m2 rfl rfl rfl (by decide) (by omega) (by omega) (by decide) (v := .ref 49) (hR_ok m2 (by decide +kernel)) ?_
            refine sP 1 (g1 := (40, [some (.ref 0), some (sI ((c : Int))), some (.ref (33 + 2 * c)), some (sI 2)], [sI 0, .ref 49], (hset (hset g2 41 3 (sI 0)) 45 3 (sI 0)))) rfl ?_
            refine s_put (a := 49) (j := 3) (k := 1) (n := 7) m2 rfl ⟨_, rfl⟩ rfl rfl rfl (by decide) rfl ?_
            refine s_inc (a := 2) (n := 1) (k := 3) rfl rfl rfl ?_
            refine sP 3 (g1 := (34, [some (.ref 0), some (sI ((c : Int))), some (.ref (33 + 2 * c)), some (sI 3)], [sI 3, sI 3], (hset (hset (hset g2 41 3 (sI 0)) 45 3 (sI 0)) 49 3 (sI 0)))) rfl ?_
            refine s_icmp (q := .ge) (a := 3) (b := 3) rfl ⟨_, rfl⟩ rfl (by unfold sR aMi aMa; omega) (by unfold sR aMi aMa; omega) (fun hc7 => ?_) (fun hc7 => ?_)
            · have hc7 : (3 : Int) ≤ 3 := hc7
              refine sP 1 (g1 := (44, [some (.ref 0), some (sI ((c : Int))), some (.ref (33 + 2 * c)), some (sI 3)], [.ref 0], (hset (hset (hset g2 41 3 (sI 0)) 45 3 (sI 0)) 49 3 (sI 0)))) rfl ?_
              refine s_get (a := 0) (j := 2) m3 rfl ⟨_, rfl⟩ rfl rfl rfl (v := .ref 3) (hR_ok m3 (by decide +kernel)) ?_
              refine s_get (a := 3) (j := 3) m3 rfl ⟨_, rfl⟩ rfl rfl rfl (v := sI ((n : Int))) fin ?_
              exact s_reti rfl rfl (Or.inl rfl) rfl rfl
            · have hc7 : ¬ ((3 : Int) ≤ 3) := hc7
              omega
    · have hc3 : ¬ ((((-9)) : Int) = ((-9))) := hc3
      omega
  · have hc2 : ¬ (((hI h (33 + 2 * c) 1) : Int) ≠ ((-1))) := hc2
    omega
theorem pRd_bd (sz : Int) (g : Nat → Int) (h1 : -1 ≤ sz) (h2 : sz ≤ 60) : -9 ≤ pRd sz g ∧ pRd sz g ≤ 100 := by
  have k1 := pSk_ge sz g 61 0
  have k2 := pSk_le sz g 61 0
  unfold pRd
  split
  · omega
  · split
    · omega
    · have := pEnd_rg sz g (pDt sz g (pSk sz g 61 0 + 1)).toNat (pDt sz g (pSk sz g 61 0 + 1)).toNat (pSk sz g 61 0 + 2) (by omega)
      omega
theorem pRd_rg {c : Nat} (hh : aHp h) (hc : c < 4) : -9 ≤ pRd (hI h (33 + 2 * c) 1) (hI h (34 + 2 * c)) ∧ pRd (hI h (33 + 2 * c) 1) (hI h (34 + 2 * c)) ≤ 100 := pRd_bd _ _ (hI_rg hh (tx_z hc)).1 (hI_rg hh (tx_z hc)).2
theorem pRd_rgm {c : Nat} (hh : aHp h) (hc : c < 4) : -9 ≤ pRd (hI h 56 c) (fun j => hI h 57 (60 * c + j)) ∧ pRd (hI h 56 c) (fun j => hI h 57 (60 * c + j)) ≤ 100 := pRd_bd _ _ (hI_rg hh (tx_n hc)).1 (hI_rg hh (tx_n hc)).2
/-- .. where it is none -/
theorem fEmbXn {c : Nat} (hc : c < 4) (hh : aHp h) (hs : hI h (33 + 2 * c) 1 ≠ -1) (hz : pRd (hI h (33 + 2 * c) 1) (hI h (34 + 2 * c)) ≠ -9) : ∃ h1, nEv sc (d + 4) 32 [.ref 0, sI (c : Int)] h (some (sI (-4)), h1) ∧ aHp h1 ∧ (∀ e m, e ≠ 8 → e ≠ 9 → e ≠ 10 → e ≠ 11 → aSlot h1 e m = aSlot h e m) := by
  have sz := hI_rg hh (tx_z hc)
  obtain ⟨g, r1, r2, r3, -⟩ := fRead (sc := sc) (d := d) hc hh
  have rr := pRd_rg hh hc
  refine ⟨g, nEv_of (t := mMe32) rfl ?_, r2, r3⟩
  show nRn sc (d + 3) (mMT mMe32) (mMC mMe32) (0, [some (.ref 0), some (sI (c : Int)), none, none], [], h) _
  refine sP 2 (g1 := (2, [some (.ref 0), some (sI ((c : Int))), none, none], [sI ((c : Int)), .ref 0], h)) rfl ?_
  refine s_call (k := 21) (args := [.ref 0, sI ((c : Int))]) (st := []) (v := some (.ref (33 + 2 * c))) (h1 := h) rfl ⟨rfl, rfl⟩ rfl rfl rfl rfl (sRcv hh (a := 0) rfl rfl) rfl (fTextAt hh hc) ?_
  refine sP 2 (g1 := (5, [some (.ref 0), some (sI ((c : Int))), some (.ref (33 + 2 * c)), none], [.ref (33 + 2 * c)], h)) rfl ?_
  refine s_null rfl (Or.inr ⟨⟨_, rfl⟩, rfl⟩) ?_
  refine sP 1 (g1 := (9, [some (.ref 0), some (sI ((c : Int))), some (.ref (33 + 2 * c)), none], [.ref (33 + 2 * c)], h)) rfl ?_
  have rg1 := hI_rg hh (tx_z hc)
  refine s_get (a := 33 + 2 * c) (j := 1) hh rfl ⟨_, rfl⟩ (tx_a hc) rfl rfl (v := sI (hI h (33 + 2 * c) 1)) (hI_ok hh (tx_z hc)) ?_
  refine sP 1 (g1 := (11, [some (.ref 0), some (sI ((c : Int))), some (.ref (33 + 2 * c)), none], [sI ((-1)), sI (hI h (33 + 2 * c) 1)], h)) rfl ?_
  refine s_icmp (q := .ne) (a := hI h (33 + 2 * c) 1) (b := (-1)) rfl ⟨_, rfl⟩ rfl (by unfold sR aMi aMa; omega) (by unfold sR aMi aMa; omega) (fun hc2 => ?_) (fun hc2 => ?_)
  · have hc2 : ((hI h (33 + 2 * c) 1) : Int) ≠ ((-1)) := hc2
    refine sP 1 (g1 := (17, [some (.ref 0), some (sI ((c : Int))), some (.ref (33 + 2 * c)), none], [.ref 0], h)) rfl ?_
    refine s_get (a := 0) (j := 4) hh rfl ⟨_, rfl⟩ rfl rfl rfl (v := .ref 8) (hR_ok hh (by decide +kernel)) ?_
    refine sP 1 (g1 := (19, [some (.ref 0), some (sI ((c : Int))), some (.ref (33 + 2 * c)), none], [.ref (33 + 2 * c), .ref 8], h)) rfl ?_
    refine s_call (k := 26) (args := [.ref 8, .ref (33 + 2 * c)]) (st := []) (v := some (sI (pRd (hI h (33 + 2 * c) 1) (hI h (34 + 2 * c))))) (h1 := g) rfl ⟨rfl, rfl⟩ rfl rfl rfl rfl (sRcv hh (a := 8) rfl rfl) rfl r1 ?_
    refine sP 1 (g1 := (21, [some (.ref 0), some (sI ((c : Int))), some (.ref (33 + 2 * c)), none], [sI ((-9)), sI (pRd (hI h (33 + 2 * c) 1) (hI h (34 + 2 * c)))], g)) rfl ?_
    refine s_icmp (q := .eq) (a := pRd (hI h (33 + 2 * c) 1) (hI h (34 + 2 * c))) (b := (-9)) rfl ⟨_, rfl⟩ rfl (by unfold sR aMi aMa; omega) (by unfold sR aMi aMa; omega) (fun hc3 => ?_) (fun hc3 => ?_)
    · have hc3 : ((pRd (hI h (33 + 2 * c) 1) (hI h (34 + 2 * c))) : Int) = ((-9)) := hc3
      omega
    · have hc3 : ¬ (((pRd (hI h (33 + 2 * c) 1) (hI h (34 + 2 * c))) : Int) = ((-9))) := hc3
      refine sP 1 (g1 := (23, [some (.ref 0), some (sI ((c : Int))), some (.ref (33 + 2 * c)), none], [sI ((-4))], g)) rfl ?_
      exact s_reti rfl rfl (Or.inl rfl) rfl rfl
  · have hc2 : ¬ (((hI h (33 + 2 * c) 1) : Int) ≠ ((-1))) := hc2
    omega
/-- the reference -/
theorem fEmbM {c : Nat} (hc : c < 4) (hh : aHp h) (hs : hI h 56 c ≠ -1) (hz : pRd (hI h 56 c) (fun j => hI h 57 (60 * c + j)) = -9) : ∃ g h1, ∃ n : Nat, nEv sc (d + 4) 144 [.ref 53, sI (c : Int)] h (some (sI (n : Int)), h1) ∧ aHp g ∧ aHp h1 ∧ (∀ e m, ¬ (e = 53 ∧ m = 13) → e ≠ 59 → aSlot g e m = aSlot h e m) ∧ 2 ≤ n ∧ n ≤ 6 ∧ (n : Int) = pDt (hI h 56 c) (fun j => hI h 57 (60 * c + j)) (pSk (hI h 56 c) (fun j => hI h 57 (60 * c + j)) 61 0 + 1) ∧ hI g 59 0 = n ∧ (∀ m, 43 ≤ m → m < 201 → aSlot g 59 m = some (sI 0)) ∧ (∀ a, a < n → hI g 59 (1 + a) = pLt (hI h 56 c) (fun j => hI h 57 (60 * c + j)) (pPo (hI h 56 c) (fun j => hI h 57 (60 * c + j)) n a (pSk (hI h 56 c) (fun j => hI h 57 (60 * c + j)) 61 0 + 2)) ∧ ∀ b, b < n → hI g 59 (7 + 6 * a + b) = pDt (hI h 56 c) (fun j => hI h 57 (60 * c + j)) (pPo (hI h 56 c) (fun j => hI h 57 (60 * c + j)) n a (pSk (hI h 56 c) (fun j => hI h 57 (60 * c + j)) 61 0 + 2) + 1 + b)) ∧ ∀ b m, aSlot h1 b m = if b = 61 ∧ m < 3 then some (sI 0) else if b = 58 ∧ m < 201 then aSlot g 59 m else aSlot g b m := by
  have sz := hI_rg hh (tx_n hc)
  obtain ⟨g, r1, r2, r3, r4⟩ := fFaultOf (sc := sc) (d := d) hc hh
  obtain ⟨n, n1, n2, n3, n4, n5, n6⟩ := r4 hz
  rw [hz] at r1
  obtain ⟨g2, k1, k2, k3⟩ := fCopies (sc := sc) (d := d + 2) (A := 59) (B := 58) (i := 0) (j := 0) (nA := 201) (nB := 201) (by decide) rfl rfl (by decide) (by decide) (by decide) (by decide) (by decide +kernel) r2
  have m1 := km_i (k := 0) (by omega) k2
  have u1 := fun b m => hset_slot (v := .int (Int32.ofInt 0 &&& 1)) (a := 61) (j := 0) (k := 52) (n := 3) k2 rfl (by omega) b m
  have m2 := km_i (k := 1) (by omega) m1
  have u2 := fun b m => hset_slot (v := .int (Int32.ofInt 0 &&& 1)) (a := 61) (j := 1) (k := 52) (n := 3) m1 rfl (by omega) b m
  have m3 := km_i (k := 2) (by omega) m2
  have u3 := fun b m => hset_slot (v := .int (Int32.ofInt 0 &&& 1)) (a := 61) (j := 2) (k := 52) (n := 3) m2 rfl (by omega) b m
  have fin : aSlot (hset (hset (hset g2 61 0 (.int (Int32.ofInt 0 &&& 1))) 61 1 (.int (Int32.ofInt 0 &&& 1))) 61 2 (.int (Int32.ofInt 0 &&& 1))) 58 0 = some (sI (n : Int)) := by
    rw [u3, if_neg (by omega), u2, if_neg (by omega), u1, if_neg (by omega), k3, if_pos (by omega), ← n4]
    exact hI_ok r2 mz_c
  refine ⟨g, _, n, nEv_of (t := mMe144) rfl ?_, r2, m3, r3, n1, n2, n3, n4, n5, n6, fun b m => ?_⟩
  rotate_left
  · by_cases b1 : b = 61 ∧ m < 3
    · rw [if_pos b1, u3]
      by_cases b2 : m = 2
      · rw [if_pos ⟨b1.1, b2⟩, km_z]
      · rw [if_neg (fun q => b2 q.2), u2]
        by_cases b3 : m = 1
        · rw [if_pos ⟨b1.1, b3⟩, km_z]
        · rw [if_neg (fun q => b3 q.2), u1, if_pos (by omega), km_z]
    · rw [if_neg b1, u3, if_neg (by omega), u2, if_neg (by omega), u1, if_neg (by omega), k3]
      by_cases b2 : b = 58 ∧ m < 201
      · rw [if_pos b2, if_pos (by omega), show 0 + (m - 0) = m by omega]
      · rw [if_neg b2, if_neg (by omega)]
  show nRn sc (d + 3) (mMT mMe144) (mMC mMe144) (0, [some (.ref 53), some (sI (c : Int)), none], [], h) _
  refine sP 1 (g1 := (1, [some (.ref 53), some (sI ((c : Int))), none], [sI ((c : Int))], h)) rfl ?_
  refine s_call (k := 136) (args := [sI ((c : Int))]) (st := []) (v := some (sI 1)) (h1 := h) rfl ⟨rfl, rfl⟩ rfl rfl rfl rfl rfl rfl (fIsText1 hc) ?_
  refine s_ifc (q := .ne) (a := 1) rfl ⟨_, rfl⟩ rfl (by unfold sR aMi aMa; omega) (fun hc1 => ?_) (fun hc1 => ?_)
  · have hc1 : (1 : Int) ≠ 0 := hc1
    refine sP 1 (g1 := (6, [some (.ref 53), some (sI ((c : Int))), none], [.ref 53], h)) rfl ?_
    refine s_get (a := 53) (j := 2) hh rfl ⟨_, rfl⟩ rfl rfl rfl (v := .ref 56) (hR_ok hh (by decide +kernel)) ?_
    refine sP 1 (g1 := (8, [some (.ref 53), some (sI ((c : Int))), none], [sI ((c : Int)), .ref 56], h)) rfl ?_
    have rg2 := hI_rg hh (tx_n hc)
    refine s_iald (a := 56) (n := 4) (j := (c : Int)) hh rfl rfl rfl (by omega) (by omega) (by decide) (v := sI (hI h 56 c)) (by rw [Int.toNat_natCast]; exact hI_ok hh (tx_n hc)) ?_
    refine s_ifc (q := .ge) (a := hI h 56 c) rfl ⟨_, rfl⟩ rfl (by unfold sR aMi aMa; omega) (fun hc3 => ?_) (fun hc3 => ?_)
    · have hc3 : (0 : Int) ≤ (hI h 56 c) := hc3
      refine sP 2 (g1 := (16, [some (.ref 53), some (sI ((c : Int))), none], [sI ((c : Int)), .ref 53], h)) rfl ?_
      refine s_call (k := 139) (args := [.ref 53, sI ((c : Int))]) (st := []) (v := some (sI ((-9)))) (h1 := g) rfl ⟨rfl, rfl⟩ rfl rfl rfl rfl (sRcv hh (a := 53) rfl rfl) rfl r1 ?_
      refine sP 1 (g1 := (18, [some (.ref 53), some (sI ((c : Int))), none], [sI ((-9)), sI ((-9))], g)) rfl ?_
      refine s_icmp (q := .eq) (a := (-9)) (b := (-9)) rfl ⟨_, rfl⟩ rfl (by unfold sR aMi aMa; omega) (by unfold sR aMi aMa; omega) (fun hc4 => ?_) (fun hc4 => ?_)
      · have hc4 : (((-9)) : Int) = ((-9)) := hc4
        refine sP 1 (g1 := (22, [some (.ref 53), some (sI ((c : Int))), none], [.ref 53], g)) rfl ?_
        refine s_get (a := 53) (j := 5) r2 rfl ⟨_, rfl⟩ rfl rfl rfl (v := .ref 59) (hR_ok r2 (by decide +kernel)) ?_
        refine sP 2 (g1 := (25, [some (.ref 53), some (sI ((c : Int))), none], [.ref 53, sI 0, .ref 59], g)) rfl ?_
        refine s_get (a := 53) (j := 4) r2 rfl ⟨_, rfl⟩ rfl rfl rfl (v := .ref 58) (hR_ok r2 (by decide +kernel)) ?_
        refine sP 1 (g1 := (27, [some (.ref 53), some (sI ((c : Int))), none], [sI 0, .ref 58, sI 0, .ref 59], g)) rfl ?_
        refine s_call (k := 145) (args := [.ref 59, sI 0, .ref 58, sI 0]) (st := []) (v := none) (h1 := g2) rfl ⟨rfl, rfl⟩ rfl rfl rfl rfl rfl rfl k1 ?_
        refine sP 4 (g1 := (32, [some (.ref 53), some (sI ((c : Int))), some (sI 0)], [sI 3, sI 0], g2)) rfl ?_
        refine s_icmp (q := .ge) (a := 0) (b := 3) rfl ⟨_, rfl⟩ rfl (by unfold sR aMi aMa; omega) (by unfold sR aMi aMa; omega) (fun hc5 => ?_) (fun hc5 => ?_)
        · have hc5 : (3 : Int) ≤ 0 := hc5
          omega
        · have hc5 : ¬ ((3 : Int) ≤ 0) := hc5
          refine sP 1 (g1 := (34, [some (.ref 53), some (sI ((c : Int))), some (sI 0)], [.ref 53], g2)) rfl ?_
          refine s_get (a := 53) (j := 7) k2 rfl ⟨_, rfl⟩ rfl rfl rfl (v := .ref 61) (hR_ok k2 (by decide +kernel)) ?_
          refine sP 2 (g1 := (37, [some (.ref 53), some (sI ((c : Int))), some (sI 0)], [sI 0, sI 0, .ref 61], g2)) rfl ?_
          refine s_bast2 (a := 61) (n := 3) (j := 0) k2 rfl rfl rfl (by decide) (by decide) (by decide) ?_
          refine s_inc (a := 0) (n := 1) (k := 2) rfl rfl rfl ?_
          refine sP 3 (g1 := (32, [some (.ref 53), some (sI ((c : Int))), some (sI 1)], [sI 3, sI 1], (hset g2 61 0 (.int (Int32.ofInt 0 &&& 1))))) rfl ?_
          refine s_icmp (q := .ge) (a := 1) (b := 3) rfl ⟨_, rfl⟩ rfl (by unfold sR aMi aMa; omega) (by unfold sR aMi aMa; omega) (fun hc6 => ?_) (fun hc6 => ?_)
          · have hc6 : (3 : Int) ≤ 1 := hc6
            omega
          · have hc6 : ¬ ((3 : Int) ≤ 1) := hc6
            refine sP 1 (g1 := (34, [some (.ref 53), some (sI ((c : Int))), some (sI 1)], [.ref 53], (hset g2 61 0 (.int (Int32.ofInt 0 &&& 1))))) rfl ?_
            refine s_get (a := 53) (j := 7) m1 rfl ⟨_, rfl⟩ rfl rfl rfl (v := .ref 61) (hR_ok m1 (by decide +kernel)) ?_
            refine sP 2 (g1 := (37, [some (.ref 53), some (sI ((c : Int))), some (sI 1)], [sI 0, sI 1, .ref 61], (hset g2 61 0 (.int (Int32.ofInt 0 &&& 1))))) rfl ?_
            refine s_bast2 (a := 61) (n := 3) (j := 1) m1 rfl rfl rfl (by decide) (by decide) (by decide) ?_
            refine s_inc (a := 1) (n := 1) (k := 2) rfl rfl rfl ?_
            refine sP 3 (g1 := (32, [some (.ref 53), some (sI ((c : Int))), some (sI 2)], [sI 3, sI 2], (hset (hset g2 61 0 (.int (Int32.ofInt 0 &&& 1))) 61 1 (.int (Int32.ofInt 0 &&& 1))))) rfl ?_
            refine s_icmp (q := .ge) (a := 2) (b := 3) rfl ⟨_, rfl⟩ rfl (by unfold sR aMi aMa; omega) (by unfold sR aMi aMa; omega) (fun hc7 => ?_) (fun hc7 => ?_)
            · have hc7 : (3 : Int) ≤ 2 := hc7
              omega
            · have hc7 : ¬ ((3 : Int) ≤ 2) := hc7
              refine sP 1 (g1 := (34, [some (.ref 53), some (sI ((c : Int))), some (sI 2)], [.ref 53], (hset (hset g2 61 0 (.int (Int32.ofInt 0 &&& 1))) 61 1 (.int (Int32.ofInt 0 &&& 1))))) rfl ?_
              refine s_get (a := 53) (j := 7) m2 rfl ⟨_, rfl⟩ rfl rfl rfl (v := .ref 61) (hR_ok m2 (by decide +kernel)) ?_
              refine sP 2 (g1 := (37, [some (.ref 53), some (sI ((c : Int))), some (sI 2)], [sI 0, sI 2, .ref 61], (hset (hset g2 61 0 (.int (Int32.ofInt 0 &&& 1))) 61 1 (.int (Int32.ofInt 0 &&& 1))))) rfl ?_
              refine s_bast2 (a := 61) (n := 3) (j := 2) m2 rfl rfl rfl (by decide) (by decide) (by decide) ?_
              refine s_inc (a := 2) (n := 1) (k := 2) rfl rfl rfl ?_
              refine sP 3 (g1 := (32, [some (.ref 53), some (sI ((c : Int))), some (sI 3)], [sI 3, sI 3], (hset (hset (hset g2 61 0 (.int (Int32.ofInt 0 &&& 1))) 61 1 (.int (Int32.ofInt 0 &&& 1))) 61 2 (.int (Int32.ofInt 0 &&& 1))))) rfl ?_
              refine s_icmp (q := .ge) (a := 3) (b := 3) rfl ⟨_, rfl⟩ rfl (by unfold sR aMi aMa; omega) (by unfold sR aMi aMa; omega) (fun hc8 => ?_) (fun hc8 => ?_)
              · have hc8 : (3 : Int) ≤ 3 := hc8
                refine sP 1 (g1 := (41, [some (.ref 53), some (sI ((c : Int))), some (sI 3)], [.ref 53], (hset (hset (hset g2 61 0 (.int (Int32.ofInt 0 &&& 1))) 61 1 (.int (Int32.ofInt 0 &&& 1))) 61 2 (.int (Int32.ofInt 0 &&& 1))))) rfl ?_
                refine s_get (a := 53) (j := 4) m3 rfl ⟨_, rfl⟩ rfl rfl rfl (v := .ref 58) (hR_ok m3 (by decide +kernel)) ?_
                refine sP 1 (g1 := (43, [some (.ref 53), some (sI ((c : Int))), some (sI 3)], [sI 0, .ref 58], (hset (hset (hset g2 61 0 (.int (Int32.ofInt 0 &&& 1))) 61 1 (.int (Int32.ofInt 0 &&& 1))) 61 2 (.int (Int32.ofInt 0 &&& 1))))) rfl ?_
                refine s_iald (a := 58) (n := 201) (j := 0) m3 rfl rfl rfl (by omega) (by omega) (by decide) (v := sI ((n : Int))) fin ?_
                exact s_reti rfl rfl (Or.inl rfl) rfl rfl
              · have hc8 : ¬ ((3 : Int) ≤ 3) := hc8
                omega
      · have hc4 : ¬ ((((-9)) : Int) = ((-9))) := hc4
        omega
    · have hc3 : ¬ ((0 : Int) ≤ (hI h 56 c)) := hc3
      omega
  · have hc1 : ¬ ((1 : Int) ≠ 0) := hc1
    omega
theorem fEmbMn {c : Nat} (hc : c < 4) (hh : aHp h) (hs : hI h 56 c ≠ -1) (hz : pRd (hI h 56 c) (fun j => hI h 57 (60 * c + j)) ≠ -9) : ∃ h1, nEv sc (d + 4) 144 [.ref 53, sI (c : Int)] h (some (sI (-4)), h1) ∧ aHp h1 ∧ (∀ e m, ¬ (e = 53 ∧ m = 13) → e ≠ 59 → aSlot h1 e m = aSlot h e m) := by
  have sz := hI_rg hh (tx_n hc)
  obtain ⟨g, r1, r2, r3, -⟩ := fFaultOf (sc := sc) (d := d) hc hh
  have rr := pRd_rgm hh hc
  refine ⟨g, nEv_of (t := mMe144) rfl ?_, r2, r3⟩
  show nRn sc (d + 3) (mMT mMe144) (mMC mMe144) (0, [some (.ref 53), some (sI (c : Int)), none], [], h) _
  refine sP 1 (g1 := (1, [some (.ref 53), some (sI ((c : Int))), none], [sI ((c : Int))], h)) rfl ?_
  refine s_call (k := 136) (args := [sI ((c : Int))]) (st := []) (v := some (sI 1)) (h1 := h) rfl ⟨rfl, rfl⟩ rfl rfl rfl rfl rfl rfl (fIsText1 hc) ?_
  refine s_ifc (q := .ne) (a := 1) rfl ⟨_, rfl⟩ rfl (by unfold sR aMi aMa; omega) (fun hc1 => ?_) (fun hc1 => ?_)
  · have hc1 : (1 : Int) ≠ 0 := hc1
    refine sP 1 (g1 := (6, [some (.ref 53), some (sI ((c : Int))), none], [.ref 53], h)) rfl ?_
    refine s_get (a := 53) (j := 2) hh rfl ⟨_, rfl⟩ rfl rfl rfl (v := .ref 56) (hR_ok hh (by decide +kernel)) ?_
    refine sP 1 (g1 := (8, [some (.ref 53), some (sI ((c : Int))), none], [sI ((c : Int)), .ref 56], h)) rfl ?_
    have rg2 := hI_rg hh (tx_n hc)
    refine s_iald (a := 56) (n := 4) (j := (c : Int)) hh rfl rfl rfl (by omega) (by omega) (by decide) (v := sI (hI h 56 c)) (by rw [Int.toNat_natCast]; exact hI_ok hh (tx_n hc)) ?_
    refine s_ifc (q := .ge) (a := hI h 56 c) rfl ⟨_, rfl⟩ rfl (by unfold sR aMi aMa; omega) (fun hc3 => ?_) (fun hc3 => ?_)
    · have hc3 : (0 : Int) ≤ (hI h 56 c) := hc3
      refine sP 2 (g1 := (16, [some (.ref 53), some (sI ((c : Int))), none], [sI ((c : Int)), .ref 53], h)) rfl ?_
      refine s_call (k := 139) (args := [.ref 53, sI ((c : Int))]) (st := []) (v := some (sI (pRd (hI h 56 c) (fun j => hI h 57 (60 * c + j))))) (h1 := g) rfl ⟨rfl, rfl⟩ rfl rfl rfl rfl (sRcv hh (a := 53) rfl rfl) rfl r1 ?_
      refine sP 1 (g1 := (18, [some (.ref 53), some (sI ((c : Int))), none], [sI ((-9)), sI (pRd (hI h 56 c) (fun j => hI h 57 (60 * c + j)))], g)) rfl ?_
      refine s_icmp (q := .eq) (a := pRd (hI h 56 c) (fun j => hI h 57 (60 * c + j))) (b := (-9)) rfl ⟨_, rfl⟩ rfl (by unfold sR aMi aMa; omega) (by unfold sR aMi aMa; omega) (fun hc4 => ?_) (fun hc4 => ?_)
      · have hc4 : ((pRd (hI h 56 c) (fun j => hI h 57 (60 * c + j))) : Int) = ((-9)) := hc4
        omega
      · have hc4 : ¬ (((pRd (hI h 56 c) (fun j => hI h 57 (60 * c + j))) : Int) = ((-9))) := hc4
        refine sP 1 (g1 := (20, [some (.ref 53), some (sI ((c : Int))), none], [sI ((-4))], g)) rfl ?_
        exact s_reti rfl rfl (Or.inl rfl) rfl rfl
    · have hc3 : ¬ ((0 : Int) ≤ (hI h 56 c)) := hc3
      omega
  · have hc1 : ¬ ((1 : Int) ≠ 0) := hc1
    omega
end EMB2
