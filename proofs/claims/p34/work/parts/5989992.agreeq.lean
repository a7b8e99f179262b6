/-! agree -/
section AGREE
variable {sc : List Int32} {d : Nat} {h g : mH}
theorem sX_cg (e4 : ∀ m, aSlot g 4 m = aSlot h 4 m) (e5 : ∀ m, aSlot g 5 m = aSlot h 5 m) (n a s : Nat) : sX g n a s = sX h n a s := by
  have e1 : hI g 5 = hI h 5 := funext (fun j => hI_cg (e5 j))
  unfold sX
  rw [e1, hI_cg (e4 a)]
theorem agX_cg (e4 : ∀ m, aSlot g 4 m = aSlot h 4 m) (e5 : ∀ m, aSlot g 5 m = aSlot h 5 m) (n s : Nat) : agX g n s = agX h n s := by
  funext a b
  unfold agX
  rw [sX_cg e4 e5, sX_cg e4 e5]
theorem la_i : zIn 0 9 (-2147483648) 2147483647 = true := by decide +kernel
theorem as_i : zIn 53 8 (-2147483648) 2147483647 = true := by decide +kernel
theorem fAnswer {v t : Int} (hh : aHp h) (rv : sR v) : ∃ g, nEv sc (d + 1) 186 [.ref 53, sI v, sI t] h (some (sI v), g) ∧ aHp g ∧ ∀ p m, aSlot g p m = if p = 53 ∧ m = 8 then some (sI t) else aSlot h p m := by
  obtain ⟨g1, eg1⟩ : ∃ gz, gz = hset h 53 8 (sI t) := ⟨_, rfl⟩
  have sg1 : ∀ xa xm, aSlot g1 xa xm = if xa = 53 ∧ xm = 8 then some (sI t) else aSlot h xa xm := fun xa xm => by rw [eg1]; exact hset_slot hh (show sTg 53 = some (7, 21) from rfl) (by omega) xa xm
  have hg1 : aHp g1 := by rw [eg1]; exact hset_any hh as_i
  refine ⟨g1, nEv_of (t := mMe186) rfl ?_, hg1, sg1⟩
  show nRn sc (d) (mMT mMe186) (mMC mMe186) (0, [some (.ref 53), some (sI v), some (sI t)], [], h) _
  refine sP 2 (g1 := (2, [some (.ref 53), some (sI v), some (sI t)], [sI t, .ref 53], h)) rfl ?_
  refine s_put (a := 53) (j := 8) (k := 7) (n := 21) hh rfl ⟨_, rfl⟩ (show sTg 53 = some (7, 21) from rfl) rfl rfl (by decide) rfl ?_
  rw [← eg1]
  refine sP 1 (g1 := (4, [some (.ref 53), some (sI v), some (sI t)], [sI v], g1)) rfl ?_
  exact s_reti rfl rfl (Or.inl rfl) rfl rfl
theorem fAgreeXb {s : Int} {n : Nat} (hh : aHp h) (hn : hI h 3 3 = (n : Int)) (rs : sR s) (hc : ¬ (0 ≤ s ∧ s < ((2 ^ n : Nat) : Int))) : nEv sc (d + 7) 78 [.ref 0, sI s] h (some (sI (-1)), h) := by
  have gp := hI_rg hh xw_p
  have p2 := p2_le (show n ≤ 6 by omega)
  unfold sR aMi aMa at rs
  refine nEv_of (t := mMe78) rfl ?_
  show nRn sc (d + 6) (mMT mMe78) (mMC mMe78) (0, [some (.ref 0), some (sI s)], [], h) _
  refine sP 1 (g1 := (1, [some (.ref 0), some (sI s)], [.ref 0], h)) rfl ?_
  refine s_get (a := 0) (j := 2) hh rfl ⟨_, rfl⟩ rfl rfl rfl (v := .ref 3) (hR_ok hh (by decide +kernel)) ?_
  refine sP 1 (g1 := (3, [some (.ref 0), some (sI s)], [sI s, .ref 3], h)) rfl ?_
  have ev1 := fHasSet (sc := sc) (d := d + 5) (n := n) (s := s) hh hn (by unfold sR aMi aMa; omega)
  rw [if_neg (by omega)] at ev1
  refine s_call (k := 76) (args := [.ref 3, sI s]) (st := []) (v := some (sI 0)) (h1 := h) rfl ⟨rfl, rfl⟩ rfl rfl rfl rfl (sRcv hh (a := 3) rfl rfl) rfl ev1 ?_
  refine s_ifc (q := .ne) (a := 0) rfl ⟨_, rfl⟩ rfl (by unfold sR aMi aMa; omega) (fun hc2 => ?_) (fun hc2 => ?_)
  · have hc2 : (0 : Int) ≠ 0 := hc2
    omega
  · have hc2 : ¬ ((0 : Int) ≠ 0) := hc2
    refine sP 1 (g1 := (6, [some (.ref 0), some (sI s)], [sI ((-1))], h)) rfl ?_
    exact s_reti rfl rfl (Or.inl rfl) rfl rfl
theorem fAgreeMb {s : Int} {n : Nat} (hh : aHp h) (hn : hI h 58 0 = (n : Int)) (rs : sR s) (hc : ¬ (0 ≤ s ∧ s < ((2 ^ n : Nat) : Int))) : nEv sc (d + 7) 184 [.ref 53, sI s] h (some (sI (-1)), h) := by
  have gp := hI_rg hh nw_p
  have p2 := p2_le (show n ≤ 6 by omega)
  unfold sR aMi aMa at rs
  refine nEv_of (t := mMe184) rfl ?_
  show nRn sc (d + 6) (mMT mMe184) (mMC mMe184) (0, [some (.ref 53), some (sI s), none], [], h) _
  refine sP 2 (g1 := (2, [some (.ref 53), some (sI s), none], [sI s, .ref 53], h)) rfl ?_
  have ev1 := fIsSet (sc := sc) (d := d + 4) (n := n) (s := s) hh hn (by unfold sR aMi aMa; omega)
  rw [if_neg (by omega)] at ev1
  refine s_call (k := 181) (args := [.ref 53, sI s]) (st := []) (v := some (sI 0)) (h1 := h) rfl ⟨rfl, rfl⟩ rfl rfl rfl rfl (sRcv hh (a := 53) rfl rfl) rfl ev1 ?_
  refine s_ifc (q := .ne) (a := 0) rfl ⟨_, rfl⟩ rfl (by unfold sR aMi aMa; omega) (fun hc2 => ?_) (fun hc2 => ?_)
  · have hc2 : (0 : Int) ≠ 0 := hc2
    omega
  · have hc2 : ¬ ((0 : Int) ≠ 0) := hc2
    refine sP 1 (g1 := (5, [some (.ref 53), some (sI s), none], [sI ((-1))], h)) rfl ?_
    exact s_reti rfl rfl (Or.inl rfl) rfl rfl
theorem fAgreeX {n s : Nat} (hh : aHp h) (hn : hI h 3 3 = n) (hs : s < 2 ^ n) : ∃ g, nEv sc (d + 7) 78 [.ref 0, sI (s : Int)] h (some (sI ((oC (agX h n s) n n 0 : Nat) : Int)), g) ∧ aHp g ∧ ∀ p m, aSlot g p m = if p = 0 ∧ m = 9 then some (sI (oF (agX h n s) n n 0)) else aSlot h p m := by
  have gp := hI_rg hh xw_p
  have p2 := p2_le (show n ≤ 6 by omega)
  have e1 := fFirstAg (sc := sc) (d := d) hh hn (show s < 64 by omega)
  obtain ⟨g1, eg1⟩ : ∃ gz, gz = hset h 0 9 (sI (oF (agX h n s) n n 0)) := ⟨_, rfl⟩
  have sg1 : ∀ xa xm, aSlot g1 xa xm = if xa = 0 ∧ xm = 9 then some (sI (oF (agX h n s) n n 0)) else aSlot h xa xm := fun xa xm => by rw [eg1]; exact hset_slot hh (show sTg 0 = some (0, 12) from rfl) (by omega) xa xm
  have hg1 : aHp g1 := by rw [eg1]; exact hset_any hh la_i
  have e2 := fAgreeing (sc := sc) (d := d) (n := n) (s := s) hg1 ((hI_cg (by rw [sg1, if_neg (by omega)])).trans hn) (by omega)
  rw [agX_cg (h := h) (fun m => by rw [sg1, if_neg (by omega)]) (fun m => by rw [sg1, if_neg (by omega)])] at e2
  refine ⟨g1, nEv_of (t := mMe78) rfl ?_, hg1, sg1⟩
  show nRn sc (d + 6) (mMT mMe78) (mMC mMe78) (0, [some (.ref 0), some (sI ((s : Int)))], [], h) _
  refine sP 1 (g1 := (1, [some (.ref 0), some (sI ((s : Int)))], [.ref 0], h)) rfl ?_
  refine s_get (a := 0) (j := 2) hh rfl ⟨_, rfl⟩ rfl rfl rfl (v := .ref 3) (hR_ok hh (by decide +kernel)) ?_
  refine sP 1 (g1 := (3, [some (.ref 0), some (sI ((s : Int)))], [sI ((s : Int)), .ref 3], h)) rfl ?_
  have ev1 := fHasSet (sc := sc) (d := d + 5) (n := n) (s := (s : Int)) hh hn (by unfold sR aMi aMa; omega)
  rw [if_pos (by omega)] at ev1
  refine s_call (k := 76) (args := [.ref 3, sI ((s : Int))]) (st := []) (v := some (sI 1)) (h1 := h) rfl ⟨rfl, rfl⟩ rfl rfl rfl rfl (sRcv hh (a := 3) rfl rfl) rfl ev1 ?_
  refine s_ifc (q := .ne) (a := 1) rfl ⟨_, rfl⟩ rfl (by unfold sR aMi aMa; omega) (fun hc2 => ?_) (fun hc2 => ?_)
  · have hc2 : (1 : Int) ≠ 0 := hc2
    refine sP 2 (g1 := (9, [some (.ref 0), some (sI ((s : Int)))], [.ref 0, .ref 0], h)) rfl ?_
    refine s_get (a := 0) (j := 2) hh rfl ⟨_, rfl⟩ rfl rfl rfl (v := .ref 3) (hR_ok hh (by decide +kernel)) ?_
    refine sP 1 (g1 := (11, [some (.ref 0), some (sI ((s : Int)))], [sI ((s : Int)), .ref 3, .ref 0], h)) rfl ?_
    refine s_call (k := 79) (args := [.ref 3, sI ((s : Int))]) (st := [.ref 0]) (v := some (sI (oF (agX h n s) n n 0))) (h1 := h) rfl ⟨rfl, rfl⟩ rfl rfl rfl rfl (sRcv hh (a := 3) rfl rfl) rfl e1 ?_
    refine s_put (a := 0) (j := 9) (k := 0) (n := 12) hh rfl ⟨_, rfl⟩ (show sTg 0 = some (0, 12) from rfl) rfl rfl (by decide) rfl ?_
    rw [← eg1]
    refine sP 1 (g1 := (14, [some (.ref 0), some (sI ((s : Int)))], [.ref 0], g1)) rfl ?_
    refine s_get (a := 0) (j := 2) hg1 rfl ⟨_, rfl⟩ rfl rfl rfl (v := .ref 3) (hR_ok hg1 (by decide +kernel)) ?_
    refine sP 1 (g1 := (16, [some (.ref 0), some (sI ((s : Int)))], [sI ((s : Int)), .ref 3], g1)) rfl ?_
    refine s_call (k := 80) (args := [.ref 3, sI ((s : Int))]) (st := []) (v := some (sI (((oC (agX h n s) n n 0 : Nat) : Int)))) (h1 := g1) rfl ⟨rfl, rfl⟩ rfl rfl rfl rfl (sRcv hg1 (a := 3) rfl rfl) rfl e2 ?_
    exact s_reti rfl rfl (Or.inl rfl) rfl rfl
  · have hc2 : ¬ ((1 : Int) ≠ 0) := hc2
    omega
theorem oC_le (f : Nat → Nat → Bool) {n : Nat} (hn : n ≤ 6) : ∀ k a, oC f n k a ≤ 6 * k
  | 0, _ => Nat.le_refl _
  | k + 1, a => by
    have := oC_le f hn k (a + 1)
    have := iC_le f a (n - (a + 1)) (a + 1)
    unfold oC
    omega
theorem fAgreeM {n s : Nat} (hh : aHp h) (hn : hI h 58 0 = n) (hs : s < 2 ^ n) : ∃ g, nEv sc (d + 7) 184 [.ref 53, sI (s : Int)] h (some (sI ((oC (agM h n s) n n 0 : Nat) : Int)), g) ∧ aHp g ∧ (∀ p m, ¬ (p = 53 ∧ (m = 8 ∨ m = 14)) → aSlot g p m = aSlot h p m) ∧ aSlot g 53 8 = some (sI (oF (agM h n s) n n 0)) := by
  have gp := hI_rg hh nw_p
  have p2 := p2_le (show n ≤ 6 by omega)
  have oc := oC_le (agM h n s) (show n ≤ 6 by omega) n 0
  obtain ⟨g1, e1, i1, i2, i3⟩ := fPairs (sc := sc) (d := d + 1) hh hn (show s < 64 by omega)
  obtain ⟨g2, e2, j1, j2⟩ := fAnswer (sc := sc) (d := d + 5) (v := ((oC (agM h n s) n n 0 : Nat) : Int)) (t := oF (agM h n s) n n 0) i1 (by unfold sR aMi aMa; omega)
  refine ⟨g2, nEv_of (t := mMe184) rfl ?_, j1, fun p m w => by rw [j2, if_neg (by omega), i2 p m (by omega)], by rw [j2, if_pos (by omega)]⟩
  show nRn sc (d + 6) (mMT mMe184) (mMC mMe184) (0, [some (.ref 53), some (sI ((s : Int))), none], [], h) _
  refine sP 2 (g1 := (2, [some (.ref 53), some (sI ((s : Int))), none], [sI ((s : Int)), .ref 53], h)) rfl ?_
  have ev1 := fIsSet (sc := sc) (d := d + 4) (n := n) (s := (s : Int)) hh hn (by unfold sR aMi aMa; omega)
  rw [if_pos (by omega)] at ev1
  refine s_call (k := 181) (args := [.ref 53, sI ((s : Int))]) (st := []) (v := some (sI 1)) (h1 := h) rfl ⟨rfl, rfl⟩ rfl rfl rfl rfl (sRcv hh (a := 53) rfl rfl) rfl ev1 ?_
  refine s_ifc (q := .ne) (a := 1) rfl ⟨_, rfl⟩ rfl (by unfold sR aMi aMa; omega) (fun hc2 => ?_) (fun hc2 => ?_)
  · have hc2 : (1 : Int) ≠ 0 := hc2
    refine sP 2 (g1 := (8, [some (.ref 53), some (sI ((s : Int))), none], [sI ((s : Int)), .ref 53], h)) rfl ?_
    refine s_call (k := 185) (args := [.ref 53, sI ((s : Int))]) (st := []) (v := some (sI (((oC (agM h n s) n n 0 : Nat) : Int)))) (h1 := g1) rfl ⟨rfl, rfl⟩ rfl rfl rfl rfl (sRcv hh (a := 53) rfl rfl) rfl e1 ?_
    refine sP 4 (g1 := (13, [some (.ref 53), some (sI ((s : Int))), some (sI (((oC (agM h n s) n n 0 : Nat) : Int)))], [.ref 53, sI (((oC (agM h n s) n n 0 : Nat) : Int)), .ref 53], g1)) rfl ?_
    refine s_get (a := 53) (j := 14) i1 rfl ⟨_, rfl⟩ rfl rfl rfl (v := sI (oF (agM h n s) n n 0)) (by have q := hI_ok i1 fp_z; rw [i3] at q; exact q) ?_
    refine s_call (k := 186) (args := [.ref 53, sI (((oC (agM h n s) n n 0 : Nat) : Int)), sI (oF (agM h n s) n n 0)]) (st := []) (v := some (sI (((oC (agM h n s) n n 0 : Nat) : Int)))) (h1 := g2) rfl ⟨rfl, rfl⟩ rfl rfl rfl rfl (sRcv i1 (a := 53) rfl rfl) rfl e2 ?_
    exact s_reti rfl rfl (Or.inl rfl) rfl rfl
  · have hc2 : ¬ ((1 : Int) ≠ 0) := hc2
    omega
end AGREE
theorem wAgree {sc : List Int32} {h : mH} (x : Int32) (hp : wP h) : ∃ z1 h1 z2 h2, nEv sc 100 78 (.ref 0 :: [x].map Value.int) h (some (.int z1), h1) ∧ aHp h1 ∧ nEv sc 100 184 (.ref 53 :: [x].map Value.int) h1 (some (.int z2), h2) ∧ wP h2 ∧ z2 = z1 := by
  have hh := wP_a h hp
  have rx : sR x.toInt := aI_rg x
  have e3 : hI h 3 3 = hI h 58 0 := hp.2.1.1
  have gp := hI_rg hh xw_p
  obtain ⟨n, en⟩ := iN gp.1
  by_cases c2 : 0 ≤ x.toInt ∧ x.toInt < ((2 ^ n : Nat) : Int)
  · obtain ⟨s, es⟩ := iN c2.1
    obtain ⟨g1, a1, a2, a3⟩ := fAgreeX (sc := sc) (d := 93) (s := s) hh en (by omega)
    have k0 : ∀ p m, ¬ (p = 0 ∧ m = 9) → aSlot g1 p m = aSlot h p m := fun p m w => by rw [a3, if_neg w]
    have e0 : hI g1 58 0 = hI h 58 0 := hI_cg (k0 58 0 (by omega))
    obtain ⟨g2, b1, b2, b3, b4⟩ := fAgreeM (sc := sc) (d := 93) (n := n) (s := s) a2 (by omega) (by omega)
    have hr : nR h g1 := nR_sl hp.2.1 (fun _ _ _ _ => rfl) (fun m => k0 58 m (by omega))
    have t1 : ∀ p m, ¬ (p = 0 ∧ m = 9) → ¬ (p = 53 ∧ (m = 8 ∨ m = 14)) → aSlot g2 p m = aSlot h p m := fun p m w1 w2 => by rw [b3 p m w2, k0 p m w1]
    refine pair1 (h1 := g1) (h2 := g2) (by rw [es]; exact a1) a2 (by rw [es]; exact b1) (wP_sl hp (tP_sl hp.1 b2 (fun e m w => t1 e m (by omega) (by omega))) (fun p m w => t1 p m (by omega) (by omega))) ?_
    rw [oC_cg (n := n) (fun a b ha hb => nR_aX (s := s) hr en ha hb) n 0 (by omega)]
  · exact pair1 (fAgreeXb (d := 93) hh en rx c2) hh (fAgreeMb (d := 93) (n := n) hh (by omega) rx c2) hp rfl
