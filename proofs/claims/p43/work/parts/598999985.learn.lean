/-! steps, the class: what is agreed in each set -/
theorem w14 {j : Nat} (hj : j < 64) : zCell 14 j 0 15 = true := (show ∀ j, j < 64 → zCell 14 j 0 15 = true by decide +kernel) j hj
theorem w14i {j : Nat} (hj : j < 64) : zIn 14 j 0 15 = true := (show ∀ j, j < 64 → zIn 14 j 0 15 = true by decide +kernel) j hj
theorem w15 {j : Nat} (hj : j < 1024) : zCell 15 j 0 1023 = true := (show ∀ j, j < 1024 → zCell 15 j 0 1023 = true by decide +kernel) j hj
theorem w15i {j : Nat} (hj : j < 1024) : zIn 15 j 0 1023 = true := (show ∀ j, j < 1024 → zIn 15 j 0 1023 = true by decide +kernel) j hj
theorem w16 {j : Nat} (hj : j < 1024) : zCell 16 j (-2147483648) 2147483647 = true := (show ∀ j, j < 1024 → zCell 16 j (-2147483648) 2147483647 = true by decide +kernel) j hj
theorem w16i {j : Nat} (hj : j < 1024) : zIn 16 j (-2147483648) 2147483647 = true := (show ∀ j, j < 1024 → zIn 16 j (-2147483648) 2147483647 = true by decide +kernel) j hj
theorem agX_sl {h g : mH} {n s a b : Nat} (hs : ∀ p m, p = 4 ∨ p = 5 → aSlot g p m = aSlot h p m) : agX g n s a b = agX h n s a b := by
  have e4 : hI g 4 = hI h 4 := funext (fun m => hI_cg (hs 4 m (by omega)))
  have e5 : hI g 5 = hI h 5 := funext (fun m => hI_cg (hs 5 m (by omega)))
  unfold agX sX
  rw [e4, e5]
def wkB (g : mH) (n r K : Nat) (pr : Nat → Nat) : Prop := aHp g ∧ hI g 3 3 = (n : Int) ∧ hI g (21 + 2 * r) 1 = 2 * (K : Int) ∧ ∀ i, i < 2 * K → hI g (22 + 2 * r) i = (pr i : Int)
theorem wkB_sl {g g1 : mH} {n r K : Nat} {pr : Nat → Nat} (hr : r < 6) (h : wkB g n r K pr) (hh : aHp g1) (hs : ∀ p m, p = 3 ∨ (21 ≤ p ∧ p ≤ 32) → aSlot g1 p m = aSlot g p m) : wkB g1 n r K pr := ⟨hh, by rw [hI_cg (hs 3 3 (by omega))]; exact h.2.1, by rw [hI_cg (hs _ 1 (by omega))]; exact h.2.2.1, fun i hi => by rw [hI_cg (hs _ i (by omega))]; exact h.2.2.2 i hi⟩
section LEARN
variable {sc : List Int32} {d : Nat}
theorem fLearnI {n r K s : Nat} {pr : Nat → Nat} {f : Nat → Bool} (hr : r < 6) (hK : K ≤ 4) (hs : s < 64) (hn6 : n ≤ 6) (hp : ∀ i, i < 2 * K → pr i < n) : ∀ (c j : Nat) (g : mH), j + c = K → wkB g n r K pr → (∀ j, j < K → agX g n s (pr (2 * j)) (pr (2 * j + 1)) = f j) → hI g 14 s = ((pFw f j : Nat) : Int) → ∃ g1, (∀ q, nRn sc (d + 5) (mMT mMe87) (mMC mMe87) (49, [some (.ref 13), some (.ref 3), some (.ref (21 + 2 * r)), some (sI ((s : Int))), some (sI (2 * (K : Int)))], [], g1) q → nRn sc (d + 5) (mMT mMe87) (mMC mMe87) (15, [some (.ref 13), some (.ref 3), some (.ref (21 + 2 * r)), some (sI ((s : Int))), some (sI (2 * (j : Int)))], [], g) q) ∧ aHp g1 ∧ hI g1 14 s = ((pFw f K : Nat) : Int) ∧ ∀ p m, ¬ (p = 14 ∧ m = s) → aSlot g1 p m = aSlot g p m := by
  intro c
  induction c with
  | zero =>
    intro j g hj hB hf m_g
    have hjK : j = K := by omega
    subst hjK
    obtain ⟨hg, n_g, z_g, p_g⟩ := id hB
    refine ⟨g, fun q hq => ?_, hg, m_g, fun p m _ => rfl⟩
    refine sP 2 (g1 := (17, [some (.ref 13), some (.ref 3), some (.ref (21 + 2 * r)), some (sI ((s : Int))), some (sI (2 * (j : Int)))], [sI 1, sI (2 * (j : Int))], g)) rfl ?_
    refine s_add (a := 2 * (j : Int)) (b := 1) rfl rfl ?_
    refine sP 1 (g1 := (19, [some (.ref 13), some (.ref 3), some (.ref (21 + 2 * r)), some (sI ((s : Int))), some (sI (2 * (j : Int)))], [.ref (21 + 2 * r), sI ((2 * (j : Int)) + 1)], g)) rfl ?_
    refine s_get (a := 21 + 2 * r) (j := 1) hg rfl ⟨_, rfl⟩ (ra_t hr) rfl rfl (v := sI (2 * (j : Int))) (by have q := hI_ok hg (ra_z hr); rw [z_g] at q; exact q) ?_
    refine s_icmp (q := .ge) (a := (2 * (j : Int)) + 1) (b := 2 * (j : Int)) rfl ⟨_, rfl⟩ rfl (by unfold sR aMi aMa; omega) (by unfold sR aMi aMa; omega) (fun hc1 => ?_) (fun hc1 => ?_)
    · have hc1 : ((2 * (j : Int)) : Int) ≤ ((2 * (j : Int)) + 1) := hc1
      exact hq
    · have hc1 : ¬ (((2 * (j : Int)) : Int) ≤ ((2 * (j : Int)) + 1)) := hc1
      omega
  | succ c ih =>
    intro j g hj hB hf m_g
    obtain ⟨hg, n_g, z_g, p_g⟩ := id hB
    have pv := pFw_lt f j
    have pv1 := pFw_lt f (j + 1)
    have e2 : 2 ^ (j + 1) ≤ 16 := (show ∀ j, j < 4 → 2 ^ (j + 1) ≤ 16 by decide) j (by omega)
    have e3 : 2 ^ (j + 1) = 2 * 2 ^ j := by rw [Nat.pow_succ]; omega
    have q1 := hp (2 * j) (by omega)
    have q2 := hp (2 * j + 1) (by omega)
    have e1 : pFw f (j + 1) = pFw f j + (if f j = true then 2 ^ j else 0) := rfl
    have ev := fAgrX (sc := sc) (d := d) (a := pr (2 * j)) (b := pr (2 * j + 1)) hg n_g (by omega) (by omega) hs
    rw [hf j (by omega)] at ev
    by_cases hb : f j = true
    · rw [if_pos hb] at e1 ev
      obtain ⟨g1, eg1⟩ : ∃ gz, gz = hset g 14 s (sI ((pFw f j + 2 ^ j : Nat) : Int)) := ⟨_, rfl⟩
      have sg1 : ∀ xa xm, aSlot g1 xa xm = if xa = 14 ∧ xm = s then some (sI ((pFw f j + 2 ^ j : Nat) : Int)) else aSlot g xa xm := fun xa xm => by rw [eg1]; exact hset_slot hg (show sTg 14 = some (50, 64) from rfl) (by omega) xa xm
      have hg1 : aHp g1 := by rw [eg1]; exact hset_ii hg (w14i hs) (by omega) (by omega) (by unfold sR aMi aMa; omega)
      have f1 : ∀ p m, ¬ (p = 14 ∧ m = s) → aSlot g1 p m = aSlot g p m := fun p m w => by rw [sg1, if_neg w]
      obtain ⟨g2, i1, i2, i3, i4⟩ := ih (j + 1) g1 (by omega) (wkB_sl hr hB hg1 (fun p m w => f1 p m (by omega))) (fun i hi => by rw [agX_sl (fun p m w => f1 p m (by omega))]; exact hf i hi) (by rw [e1]; exact hI_si (by rw [sg1, if_pos ⟨rfl, rfl⟩]) (by unfold sR aMi aMa; omega))
      refine ⟨g2, fun q hq => ?_, i2, i3, fun p m w => by rw [i4 p m w, f1 p m w]⟩
      refine sP 2 (g1 := (17, [some (.ref 13), some (.ref 3), some (.ref (21 + 2 * r)), some (sI ((s : Int))), some (sI (2 * (j : Int)))], [sI 1, sI (2 * (j : Int))], g)) rfl ?_
      refine s_add (a := 2 * (j : Int)) (b := 1) rfl rfl ?_
      refine sP 1 (g1 := (19, [some (.ref 13), some (.ref 3), some (.ref (21 + 2 * r)), some (sI ((s : Int))), some (sI (2 * (j : Int)))], [.ref (21 + 2 * r), sI ((2 * (j : Int)) + 1)], g)) rfl ?_
      refine s_get (a := 21 + 2 * r) (j := 1) hg rfl ⟨_, rfl⟩ (ra_t hr) rfl rfl (v := sI (2 * (K : Int))) (by have q := hI_ok hg (ra_z hr); rw [z_g] at q; exact q) ?_
      refine s_icmp (q := .ge) (a := (2 * (j : Int)) + 1) (b := 2 * (K : Int)) rfl ⟨_, rfl⟩ rfl (by unfold sR aMi aMa; omega) (by unfold sR aMi aMa; omega) (fun hc1 => ?_) (fun hc1 => ?_)
      · have hc1 : ((2 * (K : Int)) : Int) ≤ ((2 * (j : Int)) + 1) := hc1
        omega
      · have hc1 : ¬ (((2 * (K : Int)) : Int) ≤ ((2 * (j : Int)) + 1)) := hc1
        refine sP 2 (g1 := (23, [some (.ref 13), some (.ref 3), some (.ref (21 + 2 * r)), some (sI ((s : Int))), some (sI (2 * (j : Int)))], [.ref (21 + 2 * r), .ref 3], g)) rfl ?_
        refine s_get (a := 21 + 2 * r) (j := 0) hg rfl ⟨_, rfl⟩ (ra_t hr) rfl rfl (v := .ref (22 + 2 * r)) (hR_ok hg (ra_r hr)) ?_
        refine sP 1 (g1 := (25, [some (.ref 13), some (.ref 3), some (.ref (21 + 2 * r)), some (sI ((s : Int))), some (sI (2 * (j : Int)))], [sI (2 * (j : Int)), .ref (22 + 2 * r), .ref 3], g)) rfl ?_
        refine s_iald (a := 22 + 2 * r) (n := 40) (j := 2 * (j : Int)) hg rfl rfl (ra_2 hr) (by omega) (by omega) (by decide) (v := sI ((pr (2 * j) : Int))) (by rw [show (2 * (j : Int) : Int).toNat = 2 * j by omega]; have q := hI_ok hg (ra_c hr (show 2 * j < 40 by omega)); rw [p_g (2 * j) (by omega)] at q; exact q) ?_
        refine sP 1 (g1 := (27, [some (.ref 13), some (.ref 3), some (.ref (21 + 2 * r)), some (sI ((s : Int))), some (sI (2 * (j : Int)))], [.ref (21 + 2 * r), sI ((pr (2 * j) : Int)), .ref 3], g)) rfl ?_
        refine s_get (a := 21 + 2 * r) (j := 0) hg rfl ⟨_, rfl⟩ (ra_t hr) rfl rfl (v := .ref (22 + 2 * r)) (hR_ok hg (ra_r hr)) ?_
        refine sP 2 (g1 := (30, [some (.ref 13), some (.ref 3), some (.ref (21 + 2 * r)), some (sI ((s : Int))), some (sI (2 * (j : Int)))], [sI 1, sI (2 * (j : Int)), .ref (22 + 2 * r), sI ((pr (2 * j) : Int)), .ref 3], g)) rfl ?_
        refine s_add (a := 2 * (j : Int)) (b := 1) rfl rfl ?_
        refine s_iald (a := 22 + 2 * r) (n := 40) (j := (2 * (j : Int)) + 1) hg rfl rfl (ra_2 hr) (by omega) (by omega) (by decide) (v := sI ((pr (2 * j + 1) : Int))) (by rw [show ((2 * (j : Int)) + 1 : Int).toNat = 2 * j + 1 by omega]; have q := hI_ok hg (ra_c hr (show 2 * j + 1 < 40 by omega)); rw [p_g (2 * j + 1) (by omega)] at q; exact q) ?_
        refine sP 1 (g1 := (33, [some (.ref 13), some (.ref 3), some (.ref (21 + 2 * r)), some (sI ((s : Int))), some (sI (2 * (j : Int)))], [sI ((s : Int)), sI ((pr (2 * j + 1) : Int)), sI ((pr (2 * j) : Int)), .ref 3], g)) rfl ?_
        refine s_call (k := 65) (args := [.ref 3, sI ((pr (2 * j) : Int)), sI ((pr (2 * j + 1) : Int)), sI ((s : Int))]) (st := []) (v := some (sI 1)) (h1 := g) rfl ⟨rfl, rfl⟩ rfl rfl rfl rfl (sRcv hg (a := 3) rfl rfl) rfl ev ?_
        refine s_ifc (q := .eq) (a := 1) rfl ⟨_, rfl⟩ rfl (by unfold sR aMi aMa; omega) (fun hc2 => ?_) (fun hc2 => ?_)
        · have hc2 : (1 : Int) = 0 := hc2
          omega
        · have hc2 : ¬ ((1 : Int) = 0) := hc2
          refine sP 1 (g1 := (36, [some (.ref 13), some (.ref 3), some (.ref (21 + 2 * r)), some (sI ((s : Int))), some (sI (2 * (j : Int)))], [.ref 13], g)) rfl ?_
          refine s_get (a := 13) (j := 0) hg rfl ⟨_, rfl⟩ rfl rfl rfl (v := .ref 14) (hR_ok hg (by decide +kernel)) ?_
          refine sP 2 (g1 := (39, [some (.ref 13), some (.ref 3), some (.ref (21 + 2 * r)), some (sI ((s : Int))), some (sI (2 * (j : Int)))], [sI ((s : Int)), .ref 14, sI ((s : Int)), .ref 14], g)) rfl ?_
          refine s_iald (a := 14) (n := 64) (j := (s : Int)) hg rfl rfl rfl (by omega) (by omega) (by decide) (v := sI (((pFw f j : Nat) : Int))) (by rw [Int.toNat_natCast]; have q := hI_ok hg (w14 hs); rw [m_g] at q; exact q) ?_
          refine sP 3 (g1 := (43, [some (.ref 13), some (.ref 3), some (.ref (21 + 2 * r)), some (sI ((s : Int))), some (sI (2 * (j : Int)))], [sI 2, sI (2 * (j : Int)), sI 1, sI (((pFw f j : Nat) : Int)), sI ((s : Int)), .ref 14], g)) rfl ?_
          refine s_div (a := 2 * (j : Int)) (b := 2) rfl rfl (by omega) (by omega) (by omega) (by omega) ?_
          rw [show (2 * (j : Int)) / 2 = (j : Int) by omega]
          refine s_shl (a := j) rfl rfl (by omega) ?_
          refine s_b1 rfl rfl (b_or2 j (by omega) (pFw f j) (by omega) pv) ?_
          refine s_iast (a := 14) (n := 64) (j := (s : Int)) hg rfl rfl (show sTg 14 = some (50, 64) from rfl) (by omega) (by omega) (by decide) ?_
          rw [show ((s : Int) : Int).toNat = s by omega]
          rw [← eg1]
          refine s_inc (a := 2 * (j : Int)) (n := 2) (k := 4) rfl rfl rfl ?_
          refine sP 1 (g1 := (15, [some (.ref 13), some (.ref 3), some (.ref (21 + 2 * r)), some (sI ((s : Int))), some (sI ((2 * (j : Int)) + 2))], [], g1)) rfl ?_
          rw [show (2 * (j : Int)) + 2 = 2 * ((j + 1 : Nat) : Int) by omega]
          exact i1 q hq
    · rw [if_neg hb] at e1 ev
      obtain ⟨g2, i1, i2, i3, i4⟩ := ih (j + 1) g (by omega) hB hf (by rw [e1]; exact m_g)
      refine ⟨g2, fun q hq => ?_, i2, i3, i4⟩
      refine sP 2 (g1 := (17, [some (.ref 13), some (.ref 3), some (.ref (21 + 2 * r)), some (sI ((s : Int))), some (sI (2 * (j : Int)))], [sI 1, sI (2 * (j : Int))], g)) rfl ?_
      refine s_add (a := 2 * (j : Int)) (b := 1) rfl rfl ?_
      refine sP 1 (g1 := (19, [some (.ref 13), some (.ref 3), some (.ref (21 + 2 * r)), some (sI ((s : Int))), some (sI (2 * (j : Int)))], [.ref (21 + 2 * r), sI ((2 * (j : Int)) + 1)], g)) rfl ?_
      refine s_get (a := 21 + 2 * r) (j := 1) hg rfl ⟨_, rfl⟩ (ra_t hr) rfl rfl (v := sI (2 * (K : Int))) (by have q := hI_ok hg (ra_z hr); rw [z_g] at q; exact q) ?_
      refine s_icmp (q := .ge) (a := (2 * (j : Int)) + 1) (b := 2 * (K : Int)) rfl ⟨_, rfl⟩ rfl (by unfold sR aMi aMa; omega) (by unfold sR aMi aMa; omega) (fun hc1 => ?_) (fun hc1 => ?_)
      · have hc1 : ((2 * (K : Int)) : Int) ≤ ((2 * (j : Int)) + 1) := hc1
        omega
      · have hc1 : ¬ (((2 * (K : Int)) : Int) ≤ ((2 * (j : Int)) + 1)) := hc1
        refine sP 2 (g1 := (23, [some (.ref 13), some (.ref 3), some (.ref (21 + 2 * r)), some (sI ((s : Int))), some (sI (2 * (j : Int)))], [.ref (21 + 2 * r), .ref 3], g)) rfl ?_
        refine s_get (a := 21 + 2 * r) (j := 0) hg rfl ⟨_, rfl⟩ (ra_t hr) rfl rfl (v := .ref (22 + 2 * r)) (hR_ok hg (ra_r hr)) ?_
        refine sP 1 (g1 := (25, [some (.ref 13), some (.ref 3), some (.ref (21 + 2 * r)), some (sI ((s : Int))), some (sI (2 * (j : Int)))], [sI (2 * (j : Int)), .ref (22 + 2 * r), .ref 3], g)) rfl ?_
        refine s_iald (a := 22 + 2 * r) (n := 40) (j := 2 * (j : Int)) hg rfl rfl (ra_2 hr) (by omega) (by omega) (by decide) (v := sI ((pr (2 * j) : Int))) (by rw [show (2 * (j : Int) : Int).toNat = 2 * j by omega]; have q := hI_ok hg (ra_c hr (show 2 * j < 40 by omega)); rw [p_g (2 * j) (by omega)] at q; exact q) ?_
        refine sP 1 (g1 := (27, [some (.ref 13), some (.ref 3), some (.ref (21 + 2 * r)), some (sI ((s : Int))), some (sI (2 * (j : Int)))], [.ref (21 + 2 * r), sI ((pr (2 * j) : Int)), .ref 3], g)) rfl ?_
        refine s_get (a := 21 + 2 * r) (j := 0) hg rfl ⟨_, rfl⟩ (ra_t hr) rfl rfl (v := .ref (22 + 2 * r)) (hR_ok hg (ra_r hr)) ?_
        refine sP 2 (g1 := (30, [some (.ref 13), some (.ref 3), some (.ref (21 + 2 * r)), some (sI ((s : Int))), some (sI (2 * (j : Int)))], [sI 1, sI (2 * (j : Int)), .ref (22 + 2 * r), sI ((pr (2 * j) : Int)), .ref 3], g)) rfl ?_
        refine s_add (a := 2 * (j : Int)) (b := 1) rfl rfl ?_
        refine s_iald (a := 22 + 2 * r) (n := 40) (j := (2 * (j : Int)) + 1) hg rfl rfl (ra_2 hr) (by omega) (by omega) (by decide) (v := sI ((pr (2 * j + 1) : Int))) (by rw [show ((2 * (j : Int)) + 1 : Int).toNat = 2 * j + 1 by omega]; have q := hI_ok hg (ra_c hr (show 2 * j + 1 < 40 by omega)); rw [p_g (2 * j + 1) (by omega)] at q; exact q) ?_
        refine sP 1 (g1 := (33, [some (.ref 13), some (.ref 3), some (.ref (21 + 2 * r)), some (sI ((s : Int))), some (sI (2 * (j : Int)))], [sI ((s : Int)), sI ((pr (2 * j + 1) : Int)), sI ((pr (2 * j) : Int)), .ref 3], g)) rfl ?_
        refine s_call (k := 65) (args := [.ref 3, sI ((pr (2 * j) : Int)), sI ((pr (2 * j + 1) : Int)), sI ((s : Int))]) (st := []) (v := some (sI 0)) (h1 := g) rfl ⟨rfl, rfl⟩ rfl rfl rfl rfl (sRcv hg (a := 3) rfl rfl) rfl ev ?_
        refine s_ifc (q := .eq) (a := 0) rfl ⟨_, rfl⟩ rfl (by unfold sR aMi aMa; omega) (fun hc2 => ?_) (fun hc2 => ?_)
        · have hc2 : (0 : Int) = 0 := hc2
          refine s_inc (a := 2 * (j : Int)) (n := 2) (k := 4) rfl rfl rfl ?_
          refine sP 1 (g1 := (15, [some (.ref 13), some (.ref 3), some (.ref (21 + 2 * r)), some (sI ((s : Int))), some (sI ((2 * (j : Int)) + 2))], [], g)) rfl ?_
          rw [show (2 * (j : Int)) + 2 = 2 * ((j + 1 : Nat) : Int) by omega]
          exact i1 q hq
        · have hc2 : ¬ ((0 : Int) = 0) := hc2
          omega
theorem fLearnL {n r K q : Nat} {pr : Nat → Nat} {F : Nat → Nat → Bool} (hr : r < 6) (hK : K ≤ 4) (hn6 : n ≤ 6) (hq : 2 ^ n = q) (hp : ∀ i, i < 2 * K → pr i < n) : ∀ (c s : Nat) (g : mH) (X : Option Value), s + c = q → wkB g n r K pr → (∀ s, s < q → ∀ j, j < K → agX g n s (pr (2 * j)) (pr (2 * j + 1)) = F s j) → (∀ t, t < s → hI g 14 t = ((pFw (F t) K : Nat) : Int)) → ∃ g1, nRn sc (d + 5) (mMT mMe87) (mMC mMe87) (2, [some (.ref 13), some (.ref 3), some (.ref (21 + 2 * r)), some (sI ((s : Int))), X], [], g) (none, g1) ∧ aHp g1 ∧ (∀ t, t < q → hI g1 14 t = ((pFw (F t) K : Nat) : Int)) ∧ ∀ p m, p ≠ 14 → aSlot g1 p m = aSlot g p m := by
  have p2 := p2_le hn6
  rw [hq] at p2
  intro c
  induction c with
  | zero =>
    intro s g X hs hB hF hm
    have hsq : s = q := by omega
    subst hsq
    obtain ⟨hg, n_g, z_g, p_g⟩ := id hB
    refine ⟨g, ?_, hg, hm, fun p m _ => rfl⟩
    refine sP 3 (g1 := (5, [some (.ref 13), some (.ref 3), some (.ref (21 + 2 * r)), some (sI ((s : Int))), X], [.ref 3, sI 1, sI ((s : Int))], g)) rfl ?_
    refine s_get (a := 3) (j := 3) hg rfl ⟨_, rfl⟩ rfl rfl rfl (v := sI ((n : Int))) (by have q := hI_ok hg xw_p; rw [n_g] at q; exact q) ?_
    refine s_shl7 (a := n) rfl rfl (by omega) ?_
    rw [hq]
    refine s_icmp (q := .ge) (a := (s : Int)) (b := (s : Int)) rfl ⟨_, rfl⟩ rfl (by unfold sR aMi aMa; omega) (by unfold sR aMi aMa; omega) (fun hc1 => ?_) (fun hc1 => ?_)
    · have hc1 : (((s : Int)) : Int) ≤ ((s : Int)) := hc1
      exact s_ret rfl rfl
    · have hc1 : ¬ ((((s : Int)) : Int) ≤ ((s : Int))) := hc1
      omega
  | succ c ih =>
    intro s g X hs hB hF hm
    obtain ⟨hg, n_g, z_g, p_g⟩ := id hB
    have s64 : s < 64 := by omega
    obtain ⟨g1, eg1⟩ : ∃ gz, gz = hset g 14 s (sI 0) := ⟨_, rfl⟩
    have sg1 : ∀ xa xm, aSlot g1 xa xm = if xa = 14 ∧ xm = s then some (sI 0) else aSlot g xa xm := fun xa xm => by rw [eg1]; exact hset_slot hg (show sTg 14 = some (50, 64) from rfl) (by omega) xa xm
    have hg1 : aHp g1 := by rw [eg1]; exact hset_ii hg (w14i s64) (by omega) (by omega) (by unfold sR aMi aMa; omega)
    have f1 : ∀ p m, ¬ (p = 14 ∧ m = s) → aSlot g1 p m = aSlot g p m := fun p m w => by rw [sg1, if_neg w]
    have hB1 := wkB_sl hr hB hg1 (fun p m w => f1 p m (by omega))
    obtain ⟨g2, i1, hg2, i3, i4⟩ := fLearnI (sc := sc) (d := d) (s := s) (f := F s) hr hK s64 hn6 hp K 0 g1 (by omega) hB1 (fun j hj => by rw [agX_sl (fun p m w => f1 p m (by omega))]; exact hF s (by omega) j hj) (hI_si (by rw [sg1, if_pos ⟨rfl, rfl⟩]; rfl) (by have z0 : pFw (F s) 0 = 0 := rfl; rw [z0]; unfold sR aMi aMa; omega))
    rw [show 2 * ((0 : Nat) : Int) = 0 from rfl] at i1
    have f2 : ∀ p m, ¬ (p = 14 ∧ m = s) → aSlot g2 p m = aSlot g p m := fun p m w => by rw [i4 p m w, f1 p m w]
    obtain ⟨g3, j1, j2, j3, j4⟩ := ih (s + 1) g2 (some (sI (2 * (K : Int)))) (by omega) (wkB_sl hr hB hg2 (fun p m w => f2 p m (by omega))) (fun t ht j hj => by rw [agX_sl (fun p m w => f2 p m (by omega))]; exact hF t ht j hj) (fun t ht => by
      by_cases e : t = s
      · rw [e]
        exact i3
      · rw [hI_cg (f2 14 t (by omega))]
        exact hm t (by omega))
    refine ⟨g3, ?_, j2, j3, fun p m w => by rw [j4 p m w, f2 p m (by omega)]⟩
    refine sP 3 (g1 := (5, [some (.ref 13), some (.ref 3), some (.ref (21 + 2 * r)), some (sI ((s : Int))), X], [.ref 3, sI 1, sI ((s : Int))], g)) rfl ?_
    refine s_get (a := 3) (j := 3) hg rfl ⟨_, rfl⟩ rfl rfl rfl (v := sI ((n : Int))) (by have q := hI_ok hg xw_p; rw [n_g] at q; exact q) ?_
    refine s_shl7 (a := n) rfl rfl (by omega) ?_
    rw [hq]
    refine s_icmp (q := .ge) (a := (s : Int)) (b := (q : Int)) rfl ⟨_, rfl⟩ rfl (by unfold sR aMi aMa; omega) (by unfold sR aMi aMa; omega) (fun hc1 => ?_) (fun hc1 => ?_)
    · have hc1 : (((q : Int)) : Int) ≤ ((s : Int)) := hc1
      omega
    · have hc1 : ¬ ((((q : Int)) : Int) ≤ ((s : Int))) := hc1
      refine sP 1 (g1 := (9, [some (.ref 13), some (.ref 3), some (.ref (21 + 2 * r)), some (sI ((s : Int))), X], [.ref 13], g)) rfl ?_
      refine s_get (a := 13) (j := 0) hg rfl ⟨_, rfl⟩ rfl rfl rfl (v := .ref 14) (hR_ok hg (by decide +kernel)) ?_
      refine sP 2 (g1 := (12, [some (.ref 13), some (.ref 3), some (.ref (21 + 2 * r)), some (sI ((s : Int))), X], [sI 0, sI ((s : Int)), .ref 14], g)) rfl ?_
      refine s_iast (a := 14) (n := 64) (j := (s : Int)) hg rfl rfl (show sTg 14 = some (50, 64) from rfl) (by omega) (by omega) (by decide) ?_
      rw [show ((s : Int) : Int).toNat = s by omega]
      rw [← eg1]
      refine sP 2 (g1 := (15, [some (.ref 13), some (.ref 3), some (.ref (21 + 2 * r)), some (sI ((s : Int))), some (sI 0)], [], g1)) rfl ?_
      refine i1 _ ?_
      refine s_inc (a := (s : Int)) (n := 1) (k := 3) rfl rfl rfl ?_
      refine sP 1 (g1 := (2, [some (.ref 13), some (.ref 3), some (.ref (21 + 2 * r)), some (sI (((s : Int)) + 1)), some (sI (2 * (K : Int)))], [], g2)) rfl ?_
      rw [show ((s : Int) + 1) = ((s + 1 : Nat) : Int) by omega]
      exact j1
theorem fLearn {n r K : Nat} {pr : Nat → Nat} {F : Nat → Nat → Bool} {g : mH} (hr : r < 6) (hK : K ≤ 4) (hn6 : n ≤ 6) (hp : ∀ i, i < 2 * K → pr i < n) (hB : wkB g n r K pr) (hF : ∀ s, s < 2 ^ n → ∀ j, j < K → agX g n s (pr (2 * j)) (pr (2 * j + 1)) = F s j) : ∃ g1, nEv sc (d + 6) 87 [.ref 13, .ref 3, .ref (21 + 2 * r)] g (none, g1) ∧ aHp g1 ∧ (∀ t, t < 2 ^ n → hI g1 14 t = ((pFw (F t) K : Nat) : Int)) ∧ ∀ p m, p ≠ 14 → aSlot g1 p m = aSlot g p m := by
  obtain ⟨g1, i1, i2, i3, i4⟩ := fLearnL (sc := sc) (d := d) hr hK hn6 rfl hp (2 ^ n) 0 g none (by omega) hB hF (fun t ht => by omega)
  refine ⟨g1, nEv_of (t := mMe87) rfl ?_, i2, i3, i4⟩
  show nRn sc (d + 5) (mMT mMe87) (mMC mMe87) (0, [some (.ref 13), some (.ref 3), some (.ref (21 + 2 * r)), none, none], [], g) _
  refine sP 2 (g1 := (2, [some (.ref 13), some (.ref 3), some (.ref (21 + 2 * r)), some (sI 0), none], [], g)) rfl ?_
  exact i1
end LEARN
