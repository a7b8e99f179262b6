/-! steps, the reference: what is agreed in each set, how far it is from each state -/
theorem w63 {j : Nat} (hj : j < 1024) : zCell 63 j 0 1000000 = true := (show ∀ j, j < 1024 → zCell 63 j 0 1000000 = true by decide +kernel) j hj
theorem w63i {j : Nat} (hj : j < 1024) : zIn 63 j 0 1000000 = true := (show ∀ j, j < 1024 → zIn 63 j 0 1000000 = true by decide +kernel) j hj
theorem w64 {j : Nat} (hj : j < 64) : zCell 64 j 0 15 = true := (show ∀ j, j < 64 → zCell 64 j 0 15 = true by decide +kernel) j hj
theorem w64i {j : Nat} (hj : j < 64) : zIn 64 j 0 15 = true := (show ∀ j, j < 64 → zIn 64 j 0 15 = true by decide +kernel) j hj
theorem w55 {j : Nat} (hj : j < 240) : zCell 55 j (-2147483648) 2147483647 = true := (show ∀ j, j < 240 → zCell 55 j (-2147483648) 2147483647 = true by decide +kernel) j hj
theorem w54 {j : Nat} (hj : j < 6) : zCell 54 j (-1) 40 = true := (show ∀ j, j < 6 → zCell 54 j (-1) 40 = true by decide +kernel) j hj
theorem agM_f (g : mH) (n s a b : Nat) : agM g n s a b = (bt s a && (bt s b && pAg (sM g n a s) (sM g n b s) true true)) := by
  unfold agM pAg
  cases bt s a <;> cases bt s b <;> simp
theorem sM_sl {h g : mH} {n s a : Nat} (hs : ∀ m, aSlot g 58 m = aSlot h 58 m) : sM g n a s = sM h n a s := by
  have e : hI g 58 = hI h 58 := funext (fun m => hI_cg (hs m))
  unfold sM
  rw [e]
theorem agM_sl {h g : mH} {n s a b : Nat} (hs : ∀ m, aSlot g 58 m = aSlot h 58 m) : agM g n s a b = agM h n s a b := by
  unfold agM
  rw [sM_sl hs, sM_sl hs]
def wmB (g : mH) (n r K : Nat) (pr : Nat → Nat) : Prop := aHp g ∧ hI g 58 0 = (n : Int) ∧ hI g 54 r = 2 * (K : Int) ∧ ∀ i, i < 2 * K → hI g 55 (40 * r + i) = (pr i : Int)
theorem wmB_sl {g g1 : mH} {n r K : Nat} {pr : Nat → Nat} (h : wmB g n r K pr) (hh : aHp g1) (hs : ∀ p m, p = 58 ∨ p = 54 ∨ p = 55 → aSlot g1 p m = aSlot g p m) : wmB g1 n r K pr := ⟨hh, by rw [hI_cg (hs 58 0 (by omega))]; exact h.2.1, by rw [hI_cg (hs _ r (by omega))]; exact h.2.2.1, fun i hi => by rw [hI_cg (hs _ _ (by omega))]; exact h.2.2.2 i hi⟩
section LAYA
variable {sc : List Int32} {d : Nat}
theorem fLayAI {n r K s : Nat} {pr : Nat → Nat} {f : Nat → Bool} {g : mH} (hr : r < 6) (hK : K ≤ 4) (hs : s < 64) (hn6 : n ≤ 6) (hp : ∀ i, i < 2 * K → pr i < n) (hB : wmB g n r K pr) (hf : ∀ j, j < K → agM g n s (pr (2 * j)) (pr (2 * j + 1)) = f j) : ∀ (c k : Nat) (X6 X7 : Option Value), k + c = K → ∃ Y6 Y7, ∀ q, nRn sc (d + 4) (mMT mMe192) (mMC mMe192) (65, [some (.ref 53), some (sI ((r : Int))), some (sI ((K : Int))), some (sI ((s : Int))), some (sI (((pFw f K : Nat) : Int))), some (sI ((K : Int))), Y6, Y7], [], g) q → nRn sc (d + 4) (mMT mMe192) (mMC mMe192) (14, [some (.ref 53), some (sI ((r : Int))), some (sI ((K : Int))), some (sI ((s : Int))), some (sI (((pFw f k : Nat) : Int))), some (sI ((k : Int))), X6, X7], [], g) q := by
  obtain ⟨hg, n_g, z_g, p_g⟩ := id hB
  intro c
  induction c with
  | zero =>
    intro k X6 X7 hk
    have hkK : k = K := by omega
    subst hkK
    refine ⟨X6, X7, fun q hq => ?_⟩
    refine sP 2 (g1 := (16, [some (.ref 53), some (sI ((r : Int))), some (sI ((k : Int))), some (sI ((s : Int))), some (sI (((pFw f k : Nat) : Int))), some (sI ((k : Int))), X6, X7], [sI ((k : Int)), sI ((k : Int))], g)) rfl ?_
    refine s_icmp (q := .ge) (a := (k : Int)) (b := (k : Int)) rfl ⟨_, rfl⟩ rfl (by unfold sR aMi aMa; omega) (by unfold sR aMi aMa; omega) (fun hc1 => ?_) (fun hc1 => ?_)
    · have hc1 : (((k : Int)) : Int) ≤ ((k : Int)) := hc1
      exact hq
    · have hc1 : ¬ ((((k : Int)) : Int) ≤ ((k : Int))) := hc1
      omega
  | succ c ih =>
    intro k X6 X7 hk
    have pv := pFw_lt f k
    have e2 : 2 ^ k ≤ 16 := (show ∀ j, j < 5 → 2 ^ j ≤ 16 by decide) k (by omega)
    have q1 := hp (2 * k) (by omega)
    have q2 := hp (2 * k + 1) (by omega)
    have e1 : pFw f (k + 1) = pFw f k + (if f k = true then 2 ^ k else 0) := rfl
    have ef := hf k (by omega)
    rw [agM_f] at ef
    have va := fHas (sc := sc) (d := d + 3) (h := g) (s := s) (a := pr (2 * k)) hs (by omega)
    have vb := fHas (sc := sc) (d := d + 3) (h := g) (s := s) (a := pr (2 * k + 1)) hs (by omega)
    have ev := fAgrM (sc := sc) (d := d) (a := pr (2 * k)) (b := pr (2 * k + 1)) hg n_g (by omega) (by omega) hs
    obtain ⟨Y6, Y7, i1⟩ := ih (k + 1) (some (sI (pr (2 * k) : Int))) (some (sI (pr (2 * k + 1) : Int))) (by omega)
    refine ⟨Y6, Y7, fun q hq => ?_⟩
    have i1 := i1 q hq
    by_cases ca : bt s (pr (2 * k)) = true
    · rw [if_pos ca] at va
      by_cases cb : bt s (pr (2 * k + 1)) = true
      · rw [if_pos cb] at vb
        by_cases cg : pAg (sM g n (pr (2 * k)) s) (sM g n (pr (2 * k + 1)) s) true true = true
        · rw [if_pos cg] at ev
          rw [ca, cb, cg] at ef
          rw [e1, ← ef, if_pos (show (true && (true && true)) = true from rfl)] at i1
          refine sP 2 (g1 := (16, [some (.ref 53), some (sI ((r : Int))), some (sI ((K : Int))), some (sI ((s : Int))), some (sI (((pFw f k : Nat) : Int))), some (sI ((k : Int))), X6, X7], [sI ((K : Int)), sI ((k : Int))], g)) rfl ?_
          refine s_icmp (q := .ge) (a := (k : Int)) (b := (K : Int)) rfl ⟨_, rfl⟩ rfl (by unfold sR aMi aMa; omega) (by unfold sR aMi aMa; omega) (fun hc1 => ?_) (fun hc1 => ?_)
          · have hc1 : (((K : Int)) : Int) ≤ ((k : Int)) := hc1
            omega
          · have hc1 : ¬ ((((K : Int)) : Int) ≤ ((k : Int))) := hc1
            refine sP 1 (g1 := (18, [some (.ref 53), some (sI ((r : Int))), some (sI ((K : Int))), some (sI ((s : Int))), some (sI (((pFw f k : Nat) : Int))), some (sI ((k : Int))), X6, X7], [.ref 53], g)) rfl ?_
            refine s_get (a := 53) (j := 1) hg rfl ⟨_, rfl⟩ rfl rfl rfl (v := .ref 55) (hR_ok hg (by decide +kernel)) ?_
            refine sP 2 (g1 := (21, [some (.ref 53), some (sI ((r : Int))), some (sI ((K : Int))), some (sI ((s : Int))), some (sI (((pFw f k : Nat) : Int))), some (sI ((k : Int))), X6, X7], [sI ((r : Int)), sI 40, .ref 55], g)) rfl ?_
            refine s_mul (a := 40) (b := (r : Int)) rfl rfl ?_
            refine sP 2 (g1 := (24, [some (.ref 53), some (sI ((r : Int))), some (sI ((K : Int))), some (sI ((s : Int))), some (sI (((pFw f k : Nat) : Int))), some (sI ((k : Int))), X6, X7], [sI ((k : Int)), sI 2, sI (40 * ((r : Int))), .ref 55], g)) rfl ?_
            refine s_mul (a := 2) (b := (k : Int)) rfl rfl ?_
            refine s_add (a := 40 * ((r : Int))) (b := 2 * ((k : Int))) rfl rfl ?_
            refine s_iald (a := 55) (n := 240) (j := (40 * ((r : Int))) + (2 * ((k : Int)))) hg rfl rfl rfl (by omega) (by omega) (by decide) (v := sI ((pr (2 * k) : Int))) (by rw [show ((40 * ((r : Int))) + (2 * ((k : Int))) : Int).toNat = 40 * r + (2 * k) by omega]; have q := hI_ok hg (w55 (show 40 * r + (2 * k) < 240 by omega)); rw [p_g (2 * k) (by omega)] at q; exact q) ?_
            refine sP 2 (g1 := (29, [some (.ref 53), some (sI ((r : Int))), some (sI ((K : Int))), some (sI ((s : Int))), some (sI (((pFw f k : Nat) : Int))), some (sI ((k : Int))), some (sI ((pr (2 * k) : Int))), X7], [.ref 53], g)) rfl ?_
            refine s_get (a := 53) (j := 1) hg rfl ⟨_, rfl⟩ rfl rfl rfl (v := .ref 55) (hR_ok hg (by decide +kernel)) ?_
            refine sP 2 (g1 := (32, [some (.ref 53), some (sI ((r : Int))), some (sI ((K : Int))), some (sI ((s : Int))), some (sI (((pFw f k : Nat) : Int))), some (sI ((k : Int))), some (sI ((pr (2 * k) : Int))), X7], [sI ((r : Int)), sI 40, .ref 55], g)) rfl ?_
            refine s_mul (a := 40) (b := (r : Int)) rfl rfl ?_
            refine sP 2 (g1 := (35, [some (.ref 53), some (sI ((r : Int))), some (sI ((K : Int))), some (sI ((s : Int))), some (sI (((pFw f k : Nat) : Int))), some (sI ((k : Int))), some (sI ((pr (2 * k) : Int))), X7], [sI ((k : Int)), sI 2, sI (40 * ((r : Int))), .ref 55], g)) rfl ?_
            refine s_mul (a := 2) (b := (k : Int)) rfl rfl ?_
            refine s_add (a := 40 * ((r : Int))) (b := 2 * ((k : Int))) rfl rfl ?_
            refine sP 1 (g1 := (38, [some (.ref 53), some (sI ((r : Int))), some (sI ((K : Int))), some (sI ((s : Int))), some (sI (((pFw f k : Nat) : Int))), some (sI ((k : Int))), some (sI ((pr (2 * k) : Int))), X7], [sI 1, sI ((40 * ((r : Int))) + (2 * ((k : Int)))), .ref 55], g)) rfl ?_
            refine s_add (a := (40 * ((r : Int))) + (2 * ((k : Int)))) (b := 1) rfl rfl ?_
            refine s_iald (a := 55) (n := 240) (j := ((40 * ((r : Int))) + (2 * ((k : Int)))) + 1) hg rfl rfl rfl (by omega) (by omega) (by decide) (v := sI ((pr (2 * k + 1) : Int))) (by rw [show (((40 * ((r : Int))) + (2 * ((k : Int)))) + 1 : Int).toNat = 40 * r + (2 * k + 1) by omega]; have q := hI_ok hg (w55 (show 40 * r + (2 * k + 1) < 240 by omega)); rw [p_g (2 * k + 1) (by omega)] at q; exact q) ?_
            refine sP 4 (g1 := (44, [some (.ref 53), some (sI ((r : Int))), some (sI ((K : Int))), some (sI ((s : Int))), some (sI (((pFw f k : Nat) : Int))), some (sI ((k : Int))), some (sI ((pr (2 * k) : Int))), some (sI ((pr (2 * k + 1) : Int)))], [sI ((pr (2 * k) : Int)), sI ((s : Int)), sI (((pFw f k : Nat) : Int))], g)) rfl ?_
            refine s_call (k := 149) (args := [sI ((s : Int)), sI ((pr (2 * k) : Int))]) (st := [sI (((pFw f k : Nat) : Int))]) (v := some (sI 1)) (h1 := g) rfl ⟨rfl, rfl⟩ rfl rfl rfl rfl rfl rfl va ?_
            refine s_ifc (q := .eq) (a := 1) rfl ⟨_, rfl⟩ rfl (by unfold sR aMi aMa; omega) (fun hc2 => ?_) (fun hc2 => ?_)
            · have hc2 : (1 : Int) = 0 := hc2
              omega
            · have hc2 : ¬ ((1 : Int) = 0) := hc2
              refine sP 2 (g1 := (48, [some (.ref 53), some (sI ((r : Int))), some (sI ((K : Int))), some (sI ((s : Int))), some (sI (((pFw f k : Nat) : Int))), some (sI ((k : Int))), some (sI ((pr (2 * k) : Int))), some (sI ((pr (2 * k + 1) : Int)))], [sI ((pr (2 * k + 1) : Int)), sI ((s : Int)), sI (((pFw f k : Nat) : Int))], g)) rfl ?_
              refine s_call (k := 149) (args := [sI ((s : Int)), sI ((pr (2 * k + 1) : Int))]) (st := [sI (((pFw f k : Nat) : Int))]) (v := some (sI 1)) (h1 := g) rfl ⟨rfl, rfl⟩ rfl rfl rfl rfl rfl rfl vb ?_
              refine s_ifc (q := .eq) (a := 1) rfl ⟨_, rfl⟩ rfl (by unfold sR aMi aMa; omega) (fun hc3 => ?_) (fun hc3 => ?_)
              · have hc3 : (1 : Int) = 0 := hc3
                omega
              · have hc3 : ¬ ((1 : Int) = 0) := hc3
                refine sP 4 (g1 := (54, [some (.ref 53), some (sI ((r : Int))), some (sI ((K : Int))), some (sI ((s : Int))), some (sI (((pFw f k : Nat) : Int))), some (sI ((k : Int))), some (sI ((pr (2 * k) : Int))), some (sI ((pr (2 * k + 1) : Int)))], [sI ((s : Int)), sI ((pr (2 * k + 1) : Int)), sI ((pr (2 * k) : Int)), .ref 53, sI (((pFw f k : Nat) : Int))], g)) rfl ?_
                refine s_call (k := 171) (args := [.ref 53, sI ((pr (2 * k) : Int)), sI ((pr (2 * k + 1) : Int)), sI ((s : Int))]) (st := [sI (((pFw f k : Nat) : Int))]) (v := some (sI 1)) (h1 := g) rfl ⟨rfl, rfl⟩ rfl rfl rfl rfl (sRcv hg (a := 53) rfl rfl) rfl ev ?_
                refine s_ifc (q := .eq) (a := 1) rfl ⟨_, rfl⟩ rfl (by unfold sR aMi aMa; omega) (fun hc4 => ?_) (fun hc4 => ?_)
                · have hc4 : (1 : Int) = 0 := hc4
                  omega
                · have hc4 : ¬ ((1 : Int) = 0) := hc4
                  refine sP 2 (g1 := (58, [some (.ref 53), some (sI ((r : Int))), some (sI ((K : Int))), some (sI ((s : Int))), some (sI (((pFw f k : Nat) : Int))), some (sI ((k : Int))), some (sI ((pr (2 * k) : Int))), some (sI ((pr (2 * k + 1) : Int)))], [sI ((k : Int)), sI 1, sI (((pFw f k : Nat) : Int))], g)) rfl ?_
                  refine s_shl (a := k) rfl rfl (by omega) ?_
                  refine sP 1 (g1 := (61, [some (.ref 53), some (sI ((r : Int))), some (sI ((K : Int))), some (sI ((s : Int))), some (sI (((pFw f k : Nat) : Int))), some (sI ((k : Int))), some (sI ((pr (2 * k) : Int))), some (sI ((pr (2 * k + 1) : Int)))], [sI (((2 ^ k : Nat) : Int)), sI (((pFw f k : Nat) : Int))], g)) rfl ?_
                  refine s_b1 rfl rfl (b_or2 k (by omega) (pFw f k) (by omega) pv) ?_
                  refine sP 1 (g1 := (63, [some (.ref 53), some (sI ((r : Int))), some (sI ((K : Int))), some (sI ((s : Int))), some (sI (((pFw f k + 2 ^ k : Nat) : Int))), some (sI ((k : Int))), some (sI ((pr (2 * k) : Int))), some (sI ((pr (2 * k + 1) : Int)))], [], g)) rfl ?_
                  refine s_inc (a := (k : Int)) (n := 1) (k := 5) rfl rfl rfl ?_
                  refine sP 1 (g1 := (14, [some (.ref 53), some (sI ((r : Int))), some (sI ((K : Int))), some (sI ((s : Int))), some (sI (((pFw f k + 2 ^ k : Nat) : Int))), some (sI (((k : Int)) + 1)), some (sI ((pr (2 * k) : Int))), some (sI ((pr (2 * k + 1) : Int)))], [], g)) rfl ?_
                  rw [show ((k : Int) + 1) = ((k + 1 : Nat) : Int) by omega]
                  exact i1
        · rw [if_neg cg] at ev
          rw [ca, cb, Bool.eq_false_iff.mpr cg] at ef
          rw [e1, ← ef, if_neg (by decide), Nat.add_zero] at i1
          refine sP 2 (g1 := (16, [some (.ref 53), some (sI ((r : Int))), some (sI ((K : Int))), some (sI ((s : Int))), some (sI (((pFw f k : Nat) : Int))), some (sI ((k : Int))), X6, X7], [sI ((K : Int)), sI ((k : Int))], g)) rfl ?_
          refine s_icmp (q := .ge) (a := (k : Int)) (b := (K : Int)) rfl ⟨_, rfl⟩ rfl (by unfold sR aMi aMa; omega) (by unfold sR aMi aMa; omega) (fun hc1 => ?_) (fun hc1 => ?_)
          · have hc1 : (((K : Int)) : Int) ≤ ((k : Int)) := hc1
            omega
          · have hc1 : ¬ ((((K : Int)) : Int) ≤ ((k : Int))) := hc1
            refine sP 1 (g1 := (18, [some (.ref 53), some (sI ((r : Int))), some (sI ((K : Int))), some (sI ((s : Int))), some (sI (((pFw f k : Nat) : Int))), some (sI ((k : Int))), X6, X7], [.ref 53], g)) rfl ?_
            refine s_get (a := 53) (j := 1) hg rfl ⟨_, rfl⟩ rfl rfl rfl (v := .ref 55) (hR_ok hg (by decide +kernel)) ?_
            refine sP 2 (g1 := (21, [some (.ref 53), some (sI ((r : Int))), some (sI ((K : Int))), some (sI ((s : Int))), some (sI (((pFw f k : Nat) : Int))), some (sI ((k : Int))), X6, X7], [sI ((r : Int)), sI 40, .ref 55], g)) rfl ?_
            refine s_mul (a := 40) (b := (r : Int)) rfl rfl ?_
            refine sP 2 (g1 := (24, [some (.ref 53), some (sI ((r : Int))), some (sI ((K : Int))), some (sI ((s : Int))), some (sI (((pFw f k : Nat) : Int))), some (sI ((k : Int))), X6, X7], [sI ((k : Int)), sI 2, sI (40 * ((r : Int))), .ref 55], g)) rfl ?_
            refine s_mul (a := 2) (b := (k : Int)) rfl rfl ?_
            refine s_add (a := 40 * ((r : Int))) (b := 2 * ((k : Int))) rfl rfl ?_
            refine s_iald (a := 55) (n := 240) (j := (40 * ((r : Int))) + (2 * ((k : Int)))) hg rfl rfl rfl (by omega) (by omega) (by decide) (v := sI ((pr (2 * k) : Int))) (by rw [show ((40 * ((r : Int))) + (2 * ((k : Int))) : Int).toNat = 40 * r + (2 * k) by omega]; have q := hI_ok hg (w55 (show 40 * r + (2 * k) < 240 by omega)); rw [p_g (2 * k) (by omega)] at q; exact q) ?_
            refine sP 2 (g1 := (29, [some (.ref 53), some (sI ((r : Int))), some (sI ((K : Int))), some (sI ((s : Int))), some (sI (((pFw f k : Nat) : Int))), some (sI ((k : Int))), some (sI ((pr (2 * k) : Int))), X7], [.ref 53], g)) rfl ?_
            refine s_get (a := 53) (j := 1) hg rfl ⟨_, rfl⟩ rfl rfl rfl (v := .ref 55) (hR_ok hg (by decide +kernel)) ?_
            refine sP 2 (g1 := (32, [some (.ref 53), some (sI ((r : Int))), some (sI ((K : Int))), some (sI ((s : Int))), some (sI (((pFw f k : Nat) : Int))), some (sI ((k : Int))), some (sI ((pr (2 * k) : Int))), X7], [sI ((r : Int)), sI 40, .ref 55], g)) rfl ?_
            refine s_mul (a := 40) (b := (r : Int)) rfl rfl ?_
            refine sP 2 (g1 := (35, [some (.ref 53), some (sI ((r : Int))), some (sI ((K : Int))), some (sI ((s : Int))), some (sI (((pFw f k : Nat) : Int))), some (sI ((k : Int))), some (sI ((pr (2 * k) : Int))), X7], [sI ((k : Int)), sI 2, sI (40 * ((r : Int))), .ref 55], g)) rfl ?_
            refine s_mul (a := 2) (b := (k : Int)) rfl rfl ?_
            refine s_add (a := 40 * ((r : Int))) (b := 2 * ((k : Int))) rfl rfl ?_
            refine sP 1 (g1 := (38, [some (.ref 53), some (sI ((r : Int))), some (sI ((K : Int))), some (sI ((s : Int))), some (sI (((pFw f k : Nat) : Int))), some (sI ((k : Int))), some (sI ((pr (2 * k) : Int))), X7], [sI 1, sI ((40 * ((r : Int))) + (2 * ((k : Int)))), .ref 55], g)) rfl ?_
            refine s_add (a := (40 * ((r : Int))) + (2 * ((k : Int)))) (b := 1) rfl rfl ?_
            refine s_iald (a := 55) (n := 240) (j := ((40 * ((r : Int))) + (2 * ((k : Int)))) + 1) hg rfl rfl rfl (by omega) (by omega) (by decide) (v := sI ((pr (2 * k + 1) : Int))) (by rw [show (((40 * ((r : Int))) + (2 * ((k : Int)))) + 1 : Int).toNat = 40 * r + (2 * k + 1) by omega]; have q := hI_ok hg (w55 (show 40 * r + (2 * k + 1) < 240 by omega)); rw [p_g (2 * k + 1) (by omega)] at q; exact q) ?_
            refine sP 4 (g1 := (44, [some (.ref 53), some (sI ((r : Int))), some (sI ((K : Int))), some (sI ((s : Int))), some (sI (((pFw f k : Nat) : Int))), some (sI ((k : Int))), some (sI ((pr (2 * k) : Int))), some (sI ((pr (2 * k + 1) : Int)))], [sI ((pr (2 * k) : Int)), sI ((s : Int)), sI (((pFw f k : Nat) : Int))], g)) rfl ?_
            refine s_call (k := 149) (args := [sI ((s : Int)), sI ((pr (2 * k) : Int))]) (st := [sI (((pFw f k : Nat) : Int))]) (v := some (sI 1)) (h1 := g) rfl ⟨rfl, rfl⟩ rfl rfl rfl rfl rfl rfl va ?_
            refine s_ifc (q := .eq) (a := 1) rfl ⟨_, rfl⟩ rfl (by unfold sR aMi aMa; omega) (fun hc2 => ?_) (fun hc2 => ?_)
            · have hc2 : (1 : Int) = 0 := hc2
              omega
            · have hc2 : ¬ ((1 : Int) = 0) := hc2
              refine sP 2 (g1 := (48, [some (.ref 53), some (sI ((r : Int))), some (sI ((K : Int))), some (sI ((s : Int))), some (sI (((pFw f k : Nat) : Int))), some (sI ((k : Int))), some (sI ((pr (2 * k) : Int))), some (sI ((pr (2 * k + 1) : Int)))], [sI ((pr (2 * k + 1) : Int)), sI ((s : Int)), sI (((pFw f k : Nat) : Int))], g)) rfl ?_
              refine s_call (k := 149) (args := [sI ((s : Int)), sI ((pr (2 * k + 1) : Int))]) (st := [sI (((pFw f k : Nat) : Int))]) (v := some (sI 1)) (h1 := g) rfl ⟨rfl, rfl⟩ rfl rfl rfl rfl rfl rfl vb ?_
              refine s_ifc (q := .eq) (a := 1) rfl ⟨_, rfl⟩ rfl (by unfold sR aMi aMa; omega) (fun hc3 => ?_) (fun hc3 => ?_)
              · have hc3 : (1 : Int) = 0 := hc3
                omega
              · have hc3 : ¬ ((1 : Int) = 0) := hc3
                refine sP 4 (g1 := (54, [some (.ref 53), some (sI ((r : Int))), some (sI ((K : Int))), some (sI ((s : Int))), some (sI (((pFw f k : Nat) : Int))), some (sI ((k : Int))), some (sI ((pr (2 * k) : Int))), some (sI ((pr (2 * k + 1) : Int)))], [sI ((s : Int)), sI ((pr (2 * k + 1) : Int)), sI ((pr (2 * k) : Int)), .ref 53, sI (((pFw f k : Nat) : Int))], g)) rfl ?_
                refine s_call (k := 171) (args := [.ref 53, sI ((pr (2 * k) : Int)), sI ((pr (2 * k + 1) : Int)), sI ((s : Int))]) (st := [sI (((pFw f k : Nat) : Int))]) (v := some (sI 0)) (h1 := g) rfl ⟨rfl, rfl⟩ rfl rfl rfl rfl (sRcv hg (a := 53) rfl rfl) rfl ev ?_
                refine s_ifc (q := .eq) (a := 0) rfl ⟨_, rfl⟩ rfl (by unfold sR aMi aMa; omega) (fun hc4 => ?_) (fun hc4 => ?_)
                · have hc4 : (0 : Int) = 0 := hc4
                  refine sP 1 (g1 := (61, [some (.ref 53), some (sI ((r : Int))), some (sI ((K : Int))), some (sI ((s : Int))), some (sI (((pFw f k : Nat) : Int))), some (sI ((k : Int))), some (sI ((pr (2 * k) : Int))), some (sI ((pr (2 * k + 1) : Int)))], [sI 0, sI (((pFw f k : Nat) : Int))], g)) rfl ?_
                  refine s_b1 rfl rfl (b_or0 (pFw f k) (by omega)) ?_
                  refine sP 1 (g1 := (63, [some (.ref 53), some (sI ((r : Int))), some (sI ((K : Int))), some (sI ((s : Int))), some (sI (((pFw f k : Nat) : Int))), some (sI ((k : Int))), some (sI ((pr (2 * k) : Int))), some (sI ((pr (2 * k + 1) : Int)))], [], g)) rfl ?_
                  refine s_inc (a := (k : Int)) (n := 1) (k := 5) rfl rfl rfl ?_
                  refine sP 1 (g1 := (14, [some (.ref 53), some (sI ((r : Int))), some (sI ((K : Int))), some (sI ((s : Int))), some (sI (((pFw f k : Nat) : Int))), some (sI (((k : Int)) + 1)), some (sI ((pr (2 * k) : Int))), some (sI ((pr (2 * k + 1) : Int)))], [], g)) rfl ?_
                  rw [show ((k : Int) + 1) = ((k + 1 : Nat) : Int) by omega]
                  exact i1
                · have hc4 : ¬ ((0 : Int) = 0) := hc4
                  omega
      · rw [if_neg cb] at vb
        rw [Bool.eq_false_iff.mpr cb, Bool.false_and, Bool.and_false] at ef
        rw [e1, ← ef, if_neg (by decide), Nat.add_zero] at i1
        refine sP 2 (g1 := (16, [some (.ref 53), some (sI ((r : Int))), some (sI ((K : Int))), some (sI ((s : Int))), some (sI (((pFw f k : Nat) : Int))), some (sI ((k : Int))), X6, X7], [sI ((K : Int)), sI ((k : Int))], g)) rfl ?_
        refine s_icmp (q := .ge) (a := (k : Int)) (b := (K : Int)) rfl ⟨_, rfl⟩ rfl (by unfold sR aMi aMa; omega) (by unfold sR aMi aMa; omega) (fun hc1 => ?_) (fun hc1 => ?_)
        · have hc1 : (((K : Int)) : Int) ≤ ((k : Int)) := hc1
          omega
        · have hc1 : ¬ ((((K : Int)) : Int) ≤ ((k : Int))) := hc1
          refine sP 1 (g1 := (18, [some (.ref 53), some (sI ((r : Int))), some (sI ((K : Int))), some (sI ((s : Int))), some (sI (((pFw f k : Nat) : Int))), some (sI ((k : Int))), X6, X7], [.ref 53], g)) rfl ?_
          refine s_get (a := 53) (j := 1) hg rfl ⟨_, rfl⟩ rfl rfl rfl (v := .ref 55) (hR_ok hg (by decide +kernel)) ?_
          refine sP 2 (g1 := (21, [some (.ref 53), some (sI ((r : Int))), some (sI ((K : Int))), some (sI ((s : Int))), some (sI (((pFw f k : Nat) : Int))), some (sI ((k : Int))), X6, X7], [sI ((r : Int)), sI 40, .ref 55], g)) rfl ?_
          refine s_mul (a := 40) (b := (r : Int)) rfl rfl ?_
          refine sP 2 (g1 := (24, [some (.ref 53), some (sI ((r : Int))), some (sI ((K : Int))), some (sI ((s : Int))), some (sI (((pFw f k : Nat) : Int))), some (sI ((k : Int))), X6, X7], [sI ((k : Int)), sI 2, sI (40 * ((r : Int))), .ref 55], g)) rfl ?_
          refine s_mul (a := 2) (b := (k : Int)) rfl rfl ?_
          refine s_add (a := 40 * ((r : Int))) (b := 2 * ((k : Int))) rfl rfl ?_
          refine s_iald (a := 55) (n := 240) (j := (40 * ((r : Int))) + (2 * ((k : Int)))) hg rfl rfl rfl (by omega) (by omega) (by decide) (v := sI ((pr (2 * k) : Int))) (by rw [show ((40 * ((r : Int))) + (2 * ((k : Int))) : Int).toNat = 40 * r + (2 * k) by omega]; have q := hI_ok hg (w55 (show 40 * r + (2 * k) < 240 by omega)); rw [p_g (2 * k) (by omega)] at q; exact q) ?_
          refine sP 2 (g1 := (29, [some (.ref 53), some (sI ((r : Int))), some (sI ((K : Int))), some (sI ((s : Int))), some (sI (((pFw f k : Nat) : Int))), some (sI ((k : Int))), some (sI ((pr (2 * k) : Int))), X7], [.ref 53], g)) rfl ?_
          refine s_get (a := 53) (j := 1) hg rfl ⟨_, rfl⟩ rfl rfl rfl (v := .ref 55) (hR_ok hg (by decide +kernel)) ?_
          refine sP 2 (g1 := (32, [some (.ref 53), some (sI ((r : Int))), some (sI ((K : Int))), some (sI ((s : Int))), some (sI (((pFw f k : Nat) : Int))), some (sI ((k : Int))), some (sI ((pr (2 * k) : Int))), X7], [sI ((r : Int)), sI 40, .ref 55], g)) rfl ?_
          refine s_mul (a := 40) (b := (r : Int)) rfl rfl ?_
          refine sP 2 (g1 := (35, [some (.ref 53), some (sI ((r : Int))), some (sI ((K : Int))), some (sI ((s : Int))), some (sI (((pFw f k : Nat) : Int))), some (sI ((k : Int))), some (sI ((pr (2 * k) : Int))), X7], [sI ((k : Int)), sI 2, sI (40 * ((r : Int))), .ref 55], g)) rfl ?_
          refine s_mul (a := 2) (b := (k : Int)) rfl rfl ?_
          refine s_add (a := 40 * ((r : Int))) (b := 2 * ((k : Int))) rfl rfl ?_
          refine sP 1 (g1 := (38, [some (.ref 53), some (sI ((r : Int))), some (sI ((K : Int))), some (sI ((s : Int))), some (sI (((pFw f k : Nat) : Int))), some (sI ((k : Int))), some (sI ((pr (2 * k) : Int))), X7], [sI 1, sI ((40 * ((r : Int))) + (2 * ((k : Int)))), .ref 55], g)) rfl ?_
          refine s_add (a := (40 * ((r : Int))) + (2 * ((k : Int)))) (b := 1) rfl rfl ?_
          refine s_iald (a := 55) (n := 240) (j := ((40 * ((r : Int))) + (2 * ((k : Int)))) + 1) hg rfl rfl rfl (by omega) (by omega) (by decide) (v := sI ((pr (2 * k + 1) : Int))) (by rw [show (((40 * ((r : Int))) + (2 * ((k : Int)))) + 1 : Int).toNat = 40 * r + (2 * k + 1) by omega]; have q := hI_ok hg (w55 (show 40 * r + (2 * k + 1) < 240 by omega)); rw [p_g (2 * k + 1) (by omega)] at q; exact q) ?_
          refine sP 4 (g1 := (44, [some (.ref 53), some (sI ((r : Int))), some (sI ((K : Int))), some (sI ((s : Int))), some (sI (((pFw f k : Nat) : Int))), some (sI ((k : Int))), some (sI ((pr (2 * k) : Int))), some (sI ((pr (2 * k + 1) : Int)))], [sI ((pr (2 * k) : Int)), sI ((s : Int)), sI (((pFw f k : Nat) : Int))], g)) rfl ?_
          refine s_call (k := 149) (args := [sI ((s : Int)), sI ((pr (2 * k) : Int))]) (st := [sI (((pFw f k : Nat) : Int))]) (v := some (sI 1)) (h1 := g) rfl ⟨rfl, rfl⟩ rfl rfl rfl rfl rfl rfl va ?_
          refine s_ifc (q := .eq) (a := 1) rfl ⟨_, rfl⟩ rfl (by unfold sR aMi aMa; omega) (fun hc2 => ?_) (fun hc2 => ?_)
          · have hc2 : (1 : Int) = 0 := hc2
            omega
          · have hc2 : ¬ ((1 : Int) = 0) := hc2
            refine sP 2 (g1 := (48, [some (.ref 53), some (sI ((r : Int))), some (sI ((K : Int))), some (sI ((s : Int))), some (sI (((pFw f k : Nat) : Int))), some (sI ((k : Int))), some (sI ((pr (2 * k) : Int))), some (sI ((pr (2 * k + 1) : Int)))], [sI ((pr (2 * k + 1) : Int)), sI ((s : Int)), sI (((pFw f k : Nat) : Int))], g)) rfl ?_
            refine s_call (k := 149) (args := [sI ((s : Int)), sI ((pr (2 * k + 1) : Int))]) (st := [sI (((pFw f k : Nat) : Int))]) (v := some (sI 0)) (h1 := g) rfl ⟨rfl, rfl⟩ rfl rfl rfl rfl rfl rfl vb ?_
            refine s_ifc (q := .eq) (a := 0) rfl ⟨_, rfl⟩ rfl (by unfold sR aMi aMa; omega) (fun hc3 => ?_) (fun hc3 => ?_)
            · have hc3 : (0 : Int) = 0 := hc3
              refine sP 1 (g1 := (61, [some (.ref 53), some (sI ((r : Int))), some (sI ((K : Int))), some (sI ((s : Int))), some (sI (((pFw f k : Nat) : Int))), some (sI ((k : Int))), some (sI ((pr (2 * k) : Int))), some (sI ((pr (2 * k + 1) : Int)))], [sI 0, sI (((pFw f k : Nat) : Int))], g)) rfl ?_
              refine s_b1 rfl rfl (b_or0 (pFw f k) (by omega)) ?_
              refine sP 1 (g1 := (63, [some (.ref 53), some (sI ((r : Int))), some (sI ((K : Int))), some (sI ((s : Int))), some (sI (((pFw f k : Nat) : Int))), some (sI ((k : Int))), some (sI ((pr (2 * k) : Int))), some (sI ((pr (2 * k + 1) : Int)))], [], g)) rfl ?_
              refine s_inc (a := (k : Int)) (n := 1) (k := 5) rfl rfl rfl ?_
              refine sP 1 (g1 := (14, [some (.ref 53), some (sI ((r : Int))), some (sI ((K : Int))), some (sI ((s : Int))), some (sI (((pFw f k : Nat) : Int))), some (sI (((k : Int)) + 1)), some (sI ((pr (2 * k) : Int))), some (sI ((pr (2 * k + 1) : Int)))], [], g)) rfl ?_
              rw [show ((k : Int) + 1) = ((k + 1 : Nat) : Int) by omega]
              exact i1
            · have hc3 : ¬ ((0 : Int) = 0) := hc3
              omega
    · rw [if_neg ca] at va
      rw [Bool.eq_false_iff.mpr ca, Bool.false_and] at ef
      rw [e1, ← ef, if_neg (by decide), Nat.add_zero] at i1
      refine sP 2 (g1 := (16, [some (.ref 53), some (sI ((r : Int))), some (sI ((K : Int))), some (sI ((s : Int))), some (sI (((pFw f k : Nat) : Int))), some (sI ((k : Int))), X6, X7], [sI ((K : Int)), sI ((k : Int))], g)) rfl ?_
      refine s_icmp (q := .ge) (a := (k : Int)) (b := (K : Int)) rfl ⟨_, rfl⟩ rfl (by unfold sR aMi aMa; omega) (by unfold sR aMi aMa; omega) (fun hc1 => ?_) (fun hc1 => ?_)
      · have hc1 : (((K : Int)) : Int) ≤ ((k : Int)) := hc1
        omega
      · have hc1 : ¬ ((((K : Int)) : Int) ≤ ((k : Int))) := hc1
        refine sP 1 (g1 := (18, [some (.ref 53), some (sI ((r : Int))), some (sI ((K : Int))), some (sI ((s : Int))), some (sI (((pFw f k : Nat) : Int))), some (sI ((k : Int))), X6, X7], [.ref 53], g)) rfl ?_
        refine s_get (a := 53) (j := 1) hg rfl ⟨_, rfl⟩ rfl rfl rfl (v := .ref 55) (hR_ok hg (by decide +kernel)) ?_
        refine sP 2 (g1 := (21, [some (.ref 53), some (sI ((r : Int))), some (sI ((K : Int))), some (sI ((s : Int))), some (sI (((pFw f k : Nat) : Int))), some (sI ((k : Int))), X6, X7], [sI ((r : Int)), sI 40, .ref 55], g)) rfl ?_
        refine s_mul (a := 40) (b := (r : Int)) rfl rfl ?_
        refine sP 2 (g1 := (24, [some (.ref 53), some (sI ((r : Int))), some (sI ((K : Int))), some (sI ((s : Int))), some (sI (((pFw f k : Nat) : Int))), some (sI ((k : Int))), X6, X7], [sI ((k : Int)), sI 2, sI (40 * ((r : Int))), .ref 55], g)) rfl ?_
        refine s_mul (a := 2) (b := (k : Int)) rfl rfl ?_
        refine s_add (a := 40 * ((r : Int))) (b := 2 * ((k : Int))) rfl rfl ?_
        refine s_iald (a := 55) (n := 240) (j := (40 * ((r : Int))) + (2 * ((k : Int)))) hg rfl rfl rfl (by omega) (by omega) (by decide) (v := sI ((pr (2 * k) : Int))) (by rw [show ((40 * ((r : Int))) + (2 * ((k : Int))) : Int).toNat = 40 * r + (2 * k) by omega]; have q := hI_ok hg (w55 (show 40 * r + (2 * k) < 240 by omega)); rw [p_g (2 * k) (by omega)] at q; exact q) ?_
        refine sP 2 (g1 := (29, [some (.ref 53), some (sI ((r : Int))), some (sI ((K : Int))), some (sI ((s : Int))), some (sI (((pFw f k : Nat) : Int))), some (sI ((k : Int))), some (sI ((pr (2 * k) : Int))), X7], [.ref 53], g)) rfl ?_
        refine s_get (a := 53) (j := 1) hg rfl ⟨_, rfl⟩ rfl rfl rfl (v := .ref 55) (hR_ok hg (by decide +kernel)) ?_
        refine sP 2 (g1 := (32, [some (.ref 53), some (sI ((r : Int))), some (sI ((K : Int))), some (sI ((s : Int))), some (sI (((pFw f k : Nat) : Int))), some (sI ((k : Int))), some (sI ((pr (2 * k) : Int))), X7], [sI ((r : Int)), sI 40, .ref 55], g)) rfl ?_
        refine s_mul (a := 40) (b := (r : Int)) rfl rfl ?_
        refine sP 2 (g1 := (35, [some (.ref 53), some (sI ((r : Int))), some (sI ((K : Int))), some (sI ((s : Int))), some (sI (((pFw f k : Nat) : Int))), some (sI ((k : Int))), some (sI ((pr (2 * k) : Int))), X7], [sI ((k : Int)), sI 2, sI (40 * ((r : Int))), .ref 55], g)) rfl ?_
        refine s_mul (a := 2) (b := (k : Int)) rfl rfl ?_
        refine s_add (a := 40 * ((r : Int))) (b := 2 * ((k : Int))) rfl rfl ?_
        refine sP 1 (g1 := (38, [some (.ref 53), some (sI ((r : Int))), some (sI ((K : Int))), some (sI ((s : Int))), some (sI (((pFw f k : Nat) : Int))), some (sI ((k : Int))), some (sI ((pr (2 * k) : Int))), X7], [sI 1, sI ((40 * ((r : Int))) + (2 * ((k : Int)))), .ref 55], g)) rfl ?_
        refine s_add (a := (40 * ((r : Int))) + (2 * ((k : Int)))) (b := 1) rfl rfl ?_
        refine s_iald (a := 55) (n := 240) (j := ((40 * ((r : Int))) + (2 * ((k : Int)))) + 1) hg rfl rfl rfl (by omega) (by omega) (by decide) (v := sI ((pr (2 * k + 1) : Int))) (by rw [show (((40 * ((r : Int))) + (2 * ((k : Int)))) + 1 : Int).toNat = 40 * r + (2 * k + 1) by omega]; have q := hI_ok hg (w55 (show 40 * r + (2 * k + 1) < 240 by omega)); rw [p_g (2 * k + 1) (by omega)] at q; exact q) ?_
        refine sP 4 (g1 := (44, [some (.ref 53), some (sI ((r : Int))), some (sI ((K : Int))), some (sI ((s : Int))), some (sI (((pFw f k : Nat) : Int))), some (sI ((k : Int))), some (sI ((pr (2 * k) : Int))), some (sI ((pr (2 * k + 1) : Int)))], [sI ((pr (2 * k) : Int)), sI ((s : Int)), sI (((pFw f k : Nat) : Int))], g)) rfl ?_
        refine s_call (k := 149) (args := [sI ((s : Int)), sI ((pr (2 * k) : Int))]) (st := [sI (((pFw f k : Nat) : Int))]) (v := some (sI 0)) (h1 := g) rfl ⟨rfl, rfl⟩ rfl rfl rfl rfl rfl rfl va ?_
        refine s_ifc (q := .eq) (a := 0) rfl ⟨_, rfl⟩ rfl (by unfold sR aMi aMa; omega) (fun hc2 => ?_) (fun hc2 => ?_)
        · have hc2 : (0 : Int) = 0 := hc2
          refine sP 1 (g1 := (61, [some (.ref 53), some (sI ((r : Int))), some (sI ((K : Int))), some (sI ((s : Int))), some (sI (((pFw f k : Nat) : Int))), some (sI ((k : Int))), some (sI ((pr (2 * k) : Int))), some (sI ((pr (2 * k + 1) : Int)))], [sI 0, sI (((pFw f k : Nat) : Int))], g)) rfl ?_
          refine s_b1 rfl rfl (b_or0 (pFw f k) (by omega)) ?_
          refine sP 1 (g1 := (63, [some (.ref 53), some (sI ((r : Int))), some (sI ((K : Int))), some (sI ((s : Int))), some (sI (((pFw f k : Nat) : Int))), some (sI ((k : Int))), some (sI ((pr (2 * k) : Int))), some (sI ((pr (2 * k + 1) : Int)))], [], g)) rfl ?_
          refine s_inc (a := (k : Int)) (n := 1) (k := 5) rfl rfl rfl ?_
          refine sP 1 (g1 := (14, [some (.ref 53), some (sI ((r : Int))), some (sI ((K : Int))), some (sI ((s : Int))), some (sI (((pFw f k : Nat) : Int))), some (sI (((k : Int)) + 1)), some (sI ((pr (2 * k) : Int))), some (sI ((pr (2 * k + 1) : Int)))], [], g)) rfl ?_
          rw [show ((k : Int) + 1) = ((k + 1 : Nat) : Int) by omega]
          exact i1
        · have hc2 : ¬ ((0 : Int) = 0) := hc2
          omega
theorem fLayAL {n r K q : Nat} {pr : Nat → Nat} {F : Nat → Nat → Bool} (hr : r < 6) (hK : K ≤ 4) (hn6 : n ≤ 6) (hq : 2 ^ n = q) (hp : ∀ i, i < 2 * K → pr i < n) : ∀ (c s : Nat) (g : mH) (X4 X5 X6 X7 : Option Value), s + c = q → wmB g n r K pr → (∀ s, s < q → ∀ j, j < K → agM g n s (pr (2 * j)) (pr (2 * j + 1)) = F s j) → (∀ t, t < s → hI g 64 t = ((pFw (F t) K : Nat) : Int)) → ∃ g1, nRn sc (d + 4) (mMT mMe192) (mMC mMe192) (2, [some (.ref 53), some (sI ((r : Int))), some (sI ((K : Int))), some (sI ((s : Int))), X4, X5, X6, X7], [], g) (none, g1) ∧ aHp g1 ∧ (∀ t, t < q → hI g1 64 t = ((pFw (F t) K : Nat) : Int)) ∧ ∀ p m, p ≠ 64 → aSlot g1 p m = aSlot g p m := by
  have p2 := p2_le hn6
  rw [hq] at p2
  intro c
  induction c with
  | zero =>
    intro s g X4 X5 X6 X7 hs hB hF hm
    have hsq : s = q := by omega
    subst hsq
    obtain ⟨hg, n_g, z_g, p_g⟩ := id hB
    refine ⟨g, ?_, hg, hm, fun p m _ => rfl⟩
    refine sP 3 (g1 := (5, [some (.ref 53), some (sI ((r : Int))), some (sI ((K : Int))), some (sI ((s : Int))), X4, X5, X6, X7], [.ref 53, sI 1, sI ((s : Int))], g)) rfl ?_
    refine s_get (a := 53) (j := 4) hg rfl ⟨_, rfl⟩ rfl rfl rfl (v := .ref 58) (hR_ok hg (by decide +kernel)) ?_
    refine sP 1 (g1 := (7, [some (.ref 53), some (sI ((r : Int))), some (sI ((K : Int))), some (sI ((s : Int))), X4, X5, X6, X7], [sI 0, .ref 58, sI 1, sI ((s : Int))], g)) rfl ?_
    refine s_iald (a := 58) (n := 201) (j := 0) hg rfl rfl rfl (by omega) (by omega) (by decide) (v := sI ((n : Int))) (by have q := hI_ok hg nw_p; rw [n_g] at q; exact q) ?_
    refine s_shl7 (a := n) rfl rfl (by omega) ?_
    rw [hq]
    refine s_icmp (q := .ge) (a := (s : Int)) (b := (s : Int)) rfl ⟨_, rfl⟩ rfl (by unfold sR aMi aMa; omega) (by unfold sR aMi aMa; omega) (fun hc1 => ?_) (fun hc1 => ?_)
    · have hc1 : (((s : Int)) : Int) ≤ ((s : Int)) := hc1
      exact s_ret rfl rfl
    · have hc1 : ¬ ((((s : Int)) : Int) ≤ ((s : Int))) := hc1
      omega
  | succ c ih =>
    intro s g X4 X5 X6 X7 hs hB hF hm
    obtain ⟨hg, n_g, z_g, p_g⟩ := id hB
    have s64 : s < 64 := by omega
    have pv := pFw_lt (F s) K
    have e2 : 2 ^ K ≤ 16 := (show ∀ j, j < 5 → 2 ^ j ≤ 16 by decide) K (by omega)
    obtain ⟨Y6, Y7, i1⟩ := fLayAI (sc := sc) (d := d) (s := s) (f := F s) hr hK s64 hn6 hp hB (fun j hj => hF s (by omega) j hj) K 0 X6 X7 (by omega)
    obtain ⟨g1, eg1⟩ : ∃ gz, gz = hset g 64 s (sI ((pFw (F s) K : Nat) : Int)) := ⟨_, rfl⟩
    have sg1 : ∀ xa xm, aSlot g1 xa xm = if xa = 64 ∧ xm = s then some (sI ((pFw (F s) K : Nat) : Int)) else aSlot g xa xm := fun xa xm => by rw [eg1]; exact hset_slot hg (show sTg 64 = some (50, 64) from rfl) (by omega) xa xm
    have hg1 : aHp g1 := by rw [eg1]; exact hset_ii hg (w64i s64) (by omega) (by omega) (by unfold sR aMi aMa; omega)
    have f1 : ∀ p m, ¬ (p = 64 ∧ m = s) → aSlot g1 p m = aSlot g p m := fun p m w => by rw [sg1, if_neg w]
    obtain ⟨g3, j1, j2, j3, j4⟩ := ih (s + 1) g1 (some (sI ((pFw (F s) K : Nat) : Int))) (some (sI (K : Int))) Y6 Y7 (by omega) (wmB_sl hB hg1 (fun p m w => f1 p m (by omega))) (fun t ht j hj => by rw [agM_sl (fun m => f1 58 m (by omega))]; exact hF t ht j hj) (fun t ht => by
      by_cases e : t = s
      · rw [e]
        exact hI_si (by rw [sg1, if_pos ⟨rfl, rfl⟩]) (by unfold sR aMi aMa; omega)
      · rw [hI_cg (f1 64 t (by omega))]
        exact hm t (by omega))
    refine ⟨g3, ?_, j2, j3, fun p m w => by rw [j4 p m w, f1 p m (by omega)]⟩
    refine sP 3 (g1 := (5, [some (.ref 53), some (sI ((r : Int))), some (sI ((K : Int))), some (sI ((s : Int))), X4, X5, X6, X7], [.ref 53, sI 1, sI ((s : Int))], g)) rfl ?_
    refine s_get (a := 53) (j := 4) hg rfl ⟨_, rfl⟩ rfl rfl rfl (v := .ref 58) (hR_ok hg (by decide +kernel)) ?_
    refine sP 1 (g1 := (7, [some (.ref 53), some (sI ((r : Int))), some (sI ((K : Int))), some (sI ((s : Int))), X4, X5, X6, X7], [sI 0, .ref 58, sI 1, sI ((s : Int))], g)) rfl ?_
    refine s_iald (a := 58) (n := 201) (j := 0) hg rfl rfl rfl (by omega) (by omega) (by decide) (v := sI ((n : Int))) (by have q := hI_ok hg nw_p; rw [n_g] at q; exact q) ?_
    refine s_shl7 (a := n) rfl rfl (by omega) ?_
    rw [hq]
    refine s_icmp (q := .ge) (a := (s : Int)) (b := (q : Int)) rfl ⟨_, rfl⟩ rfl (by unfold sR aMi aMa; omega) (by unfold sR aMi aMa; omega) (fun hc1 => ?_) (fun hc1 => ?_)
    · have hc1 : (((q : Int)) : Int) ≤ ((s : Int)) := hc1
      omega
    · have hc1 : ¬ ((((q : Int)) : Int) ≤ ((s : Int))) := hc1
      refine sP 4 (g1 := (14, [some (.ref 53), some (sI ((r : Int))), some (sI ((K : Int))), some (sI ((s : Int))), some (sI 0), some (sI 0), X6, X7], [], g)) rfl ?_
      refine i1 _ ?_
      refine sP 1 (g1 := (66, [some (.ref 53), some (sI ((r : Int))), some (sI ((K : Int))), some (sI ((s : Int))), some (sI (((pFw (F s) K : Nat) : Int))), some (sI ((K : Int))), Y6, Y7], [.ref 53], g)) rfl ?_
      refine s_get (a := 53) (j := 16) hg rfl ⟨_, rfl⟩ rfl rfl rfl (v := .ref 64) (hR_ok hg (by decide +kernel)) ?_
      refine sP 2 (g1 := (69, [some (.ref 53), some (sI ((r : Int))), some (sI ((K : Int))), some (sI ((s : Int))), some (sI (((pFw (F s) K : Nat) : Int))), some (sI ((K : Int))), Y6, Y7], [sI (((pFw (F s) K : Nat) : Int)), sI ((s : Int)), .ref 64], g)) rfl ?_
      refine s_iast (a := 64) (n := 64) (j := (s : Int)) hg rfl rfl (show sTg 64 = some (50, 64) from rfl) (by omega) (by omega) (by decide) ?_
      rw [show ((s : Int) : Int).toNat = s by omega]
      rw [← eg1]
      refine s_inc (a := (s : Int)) (n := 1) (k := 3) rfl rfl rfl ?_
      refine sP 1 (g1 := (2, [some (.ref 53), some (sI ((r : Int))), some (sI ((K : Int))), some (sI (((s : Int)) + 1)), some (sI (((pFw (F s) K : Nat) : Int))), some (sI ((K : Int))), Y6, Y7], [], g1)) rfl ?_
      rw [show ((s : Int) + 1) = ((s + 1 : Nat) : Int) by omega]
      exact j1
theorem fLayA {n r K : Nat} {pr : Nat → Nat} {F : Nat → Nat → Bool} {g : mH} (hr : r < 6) (hK : K ≤ 4) (hn6 : n ≤ 6) (hp : ∀ i, i < 2 * K → pr i < n) (hB : wmB g n r K pr) (hF : ∀ s, s < 2 ^ n → ∀ j, j < K → agM g n s (pr (2 * j)) (pr (2 * j + 1)) = F s j) : ∃ g1, nEv sc (d + 5) 192 [.ref 53, sI (r : Int), sI (K : Int)] g (none, g1) ∧ aHp g1 ∧ (∀ t, t < 2 ^ n → hI g1 64 t = ((pFw (F t) K : Nat) : Int)) ∧ ∀ p m, p ≠ 64 → aSlot g1 p m = aSlot g p m := by
  obtain ⟨g1, i1, i2, i3, i4⟩ := fLayAL (sc := sc) (d := d) hr hK hn6 rfl hp (2 ^ n) 0 g none none none none (by omega) hB hF (fun t ht => by omega)
  refine ⟨g1, nEv_of (t := mMe192) rfl ?_, i2, i3, i4⟩
  show nRn sc (d + 4) (mMT mMe192) (mMC mMe192) (0, [some (.ref 53), some (sI ((r : Int))), some (sI ((K : Int))), none, none, none, none, none], [], g) _
  refine sP 2 (g1 := (2, [some (.ref 53), some (sI ((r : Int))), some (sI ((K : Int))), some (sI 0), none, none, none, none], [], g)) rfl ?_
  exact i1
end LAYA
def smW (F : Nat → Nat) : Nat → Nat
  | 0 => 0
  | m + 1 => smW F m + F m
theorem smW_le {F F0 : Nat → Nat} : ∀ m, (∀ s, s < m → F s ≤ F0 s) → smW F m ≤ smW F0 m
  | 0, _ => Nat.le_refl _
  | m + 1, h => by
    have h1 := smW_le m (fun s hs => h s (by omega))
    have h2 := h m (by omega)
    show smW F m + F m ≤ smW F0 m + F0 m
    omega
theorem smW_lt {F F0 : Nat → Nat} {t : Nat} (ht : F t < F0 t) : ∀ m, t < m → (∀ s, s < m → F s ≤ F0 s) → smW F m < smW F0 m
  | 0, h, _ => by omega
  | m + 1, hm, h => by
    have h2 := h m (by omega)
    show smW F m + F m < smW F0 m + F0 m
    by_cases e : t = m
    · subst e
      have h1 := smW_le t (fun s hs => h s (by omega))
      omega
    · have h1 := smW_lt ht m (by omega) (fun s hs => h s (by omega))
      omega
/-- within a pass -/
def psW (nx : Nat → Nat → Nat) (gl V : Nat → Prop) (n : Nat) (F0 F : Nat → Nat) (mo : Nat) (D : Nat → Prop) : Prop := fxS nx gl V n F ∧ (∀ s, F s ≤ 1000000) ∧ (∀ s, s < 1024 → F s ≤ F0 s) ∧ (mo = 0 ∨ mo = 1) ∧ (mo = 0 → (∀ s, s < 1024 → F s = F0 s) ∧ ∀ s, D s → ∀ a, a < n → F s ≤ F (nx s a) + 1) ∧ (mo = 1 → ∃ s, s < 1024 ∧ F s < F0 s)
theorem ps_step {nx : Nat → Nat → Nat} {gl V D D1 : Nat → Prop} {n mo mo1 s : Nat} {F0 F : Nat → Nat} (hV : ∀ s, V s → s < 1024 ∧ ∀ a, a < n → V (nx s a)) (h : psW nx gl V n F0 F mo D) (hs : V s) (hg : ¬ gl s) (hD : ∀ t, D1 t → D t ∨ t = s) (hm : mo1 = if mo = 0 ∧ ¬ mnW nx F s n < F s then 0 else 1) : psW nx gl V n F0 (fun t => if t = s then mnW nx F s n else F t) mo1 D1 := by
  obtain ⟨h1, h2, h3, h4, h5, h6⟩ := h
  have hs1 := (hV s hs).1
  obtain ⟨l1, l2⟩ := mnW_le (nx := nx) F s n
  refine ⟨fx_set hV h1 hs hg (fun t _ => rfl), fun t => ?_, fun t ht => ?_, ?_, fun q => ?_, fun q => ?_⟩
  · show (if t = s then mnW nx F s n else F t) ≤ 1000000
    have e1 := h2 s
    have e2 := h2 t
    split <;> omega
  · show (if t = s then mnW nx F s n else F t) ≤ F0 t
    have e1 := h3 t ht
    split
    · rename_i e
      subst e
      omega
    · exact e1
  · rw [hm]
    split <;> omega
  · have c : mo = 0 ∧ ¬ mnW nx F s n < F s := by
      by_cases c : mo = 0 ∧ ¬ mnW nx F s n < F s
      · exact c
      · rw [if_neg c] at hm
        omega
    have e : mnW nx F s n = F s := by omega
    have eF : (fun t => if t = s then mnW nx F s n else F t) = F := funext (fun t => by
      by_cases q : t = s
      · rw [if_pos q, e, q]
      · rw [if_neg q])
    rw [eF]
    obtain ⟨k1, k2⟩ := h5 c.1
    refine ⟨k1, fun t ht a ha => ?_⟩
    rcases hD t ht with w | w
    · exact k2 t w a ha
    · subst w
      have := l2 a ha
      omega
  · by_cases c : mnW nx F s n < F s
    · exact ⟨s, hs1, by show (if s = s then mnW nx F s n else F s) < F0 s; rw [if_pos rfl]; have := h3 s hs1; omega⟩
    · have m1 : mo = 1 := by
        rcases h4 with w | w
        · rw [if_pos ⟨w, c⟩] at hm
          omega
        · exact w
      obtain ⟨t, t1, t2⟩ := h6 m1
      refine ⟨t, t1, ?_⟩
      show (if t = s then mnW nx F s n else F t) < F0 t
      split
      · rename_i e
        subst e
        omega
      · exact t2
def dnW (A u m s : Nat) : Prop := s % 16 < A ∧ (s / 16 < u ∨ (s / 16 = u ∧ s % 16 < m))
def wmF (h g : mH) (F : Nat → Nat) : Prop := aHp g ∧ (∀ p m, p ≠ 63 → aSlot g p m = aSlot h p m) ∧ ∀ s, s < 1024 → hI g 63 s = (F s : Int)
section LAYF
variable {sc : List Int32} {d : Nat} {h : mH}
theorem fFar0 {A : Nat} (hA : A < 16) : ∀ (c s : Nat) (g : mH), s + c = 1024 → aHp g → ∃ g1, (∀ q, nRn sc (d + 1) (mMT mMe193) (mMC mMe193) (19, [some (.ref 53), some (sI ((A : Int))), some (sI (((1024 : Nat) : Int))), none, none, none, none, none], [], g1) q → nRn sc (d + 1) (mMT mMe193) (mMC mMe193) (2, [some (.ref 53), some (sI ((A : Int))), some (sI ((s : Int))), none, none, none, none, none], [], g) q) ∧ aHp g1 ∧ ∀ p m, aSlot g1 p m = if p = 63 ∧ s ≤ m ∧ m < 1024 then some (sI (if m % 16 = A then 0 else 1000000)) else aSlot g p m := by
  intro c
  induction c with
  | zero =>
    intro s g hs hg
    have e : s = 1024 := by omega
    subst e
    refine ⟨g, fun q hq => ?_, hg, fun p m => by rw [if_neg (by omega)]⟩
    refine sP 2 (g1 := (4, [some (.ref 53), some (sI ((A : Int))), some (sI (((1024 : Nat) : Int))), none, none, none, none, none], [sI 1024, sI (((1024 : Nat) : Int))], g)) rfl ?_
    refine s_icmp (q := .ge) (a := ((1024 : Nat) : Int)) (b := 1024) rfl ⟨_, rfl⟩ rfl (by unfold sR aMi aMa; omega) (by unfold sR aMi aMa; omega) (fun hc1 => ?_) (fun hc1 => ?_)
    · have hc1 : (1024 : Int) ≤ (((1024 : Nat) : Int)) := hc1
      exact hq
    · have hc1 : ¬ ((1024 : Int) ≤ (((1024 : Nat) : Int))) := hc1
      omega
  | succ c ih =>
    intro s g hs hg
    by_cases e : s % 16 = A
    · obtain ⟨g1, eg1⟩ : ∃ gz, gz = hset g 63 s (sI 0) := ⟨_, rfl⟩
      have sg1 : ∀ xa xm, aSlot g1 xa xm = if xa = 63 ∧ xm = s then some (sI 0) else aSlot g xa xm := fun xa xm => by rw [eg1]; exact hset_slot hg (show sTg 63 = some (50, 1024) from rfl) (by omega) xa xm
      have hg1 : aHp g1 := by rw [eg1]; exact hset_ii hg (w63i (by omega)) (by omega) (by omega) (by unfold sR aMi aMa; omega)
      obtain ⟨g2, i1, i2, i3⟩ := ih (s + 1) g1 (by omega) hg1
      refine ⟨g2, fun q hq => ?_, i2, fun p m => ?_⟩
      rotate_left
      · rw [i3, sg1]
        by_cases w : p = 63 ∧ m = s
        · rw [if_neg (by omega), if_pos w, if_pos (by omega), w.2, if_pos e]
        · rw [if_neg w]
          by_cases w2 : p = 63 ∧ s ≤ m ∧ m < 1024
          · rw [if_pos w2, if_pos (by omega)]
          · rw [if_neg w2, if_neg (by omega)]
      have i1 := i1 q hq
      refine sP 2 (g1 := (4, [some (.ref 53), some (sI ((A : Int))), some (sI ((s : Int))), none, none, none, none, none], [sI 1024, sI ((s : Int))], g)) rfl ?_
      refine s_icmp (q := .ge) (a := (s : Int)) (b := 1024) rfl ⟨_, rfl⟩ rfl (by unfold sR aMi aMa; omega) (by unfold sR aMi aMa; omega) (fun hc1 => ?_) (fun hc1 => ?_)
      · have hc1 : (1024 : Int) ≤ ((s : Int)) := hc1
        omega
      · have hc1 : ¬ ((1024 : Int) ≤ ((s : Int))) := hc1
        refine sP 1 (g1 := (6, [some (.ref 53), some (sI ((A : Int))), some (sI ((s : Int))), none, none, none, none, none], [.ref 53], g)) rfl ?_
        refine s_get (a := 53) (j := 15) hg rfl ⟨_, rfl⟩ rfl rfl rfl (v := .ref 63) (hR_ok hg (by decide +kernel)) ?_
        refine sP 3 (g1 := (10, [some (.ref 53), some (sI ((A : Int))), some (sI ((s : Int))), none, none, none, none, none], [sI 16, sI ((s : Int)), sI ((s : Int)), .ref 63], g)) rfl ?_
        refine s_remN (a := s) (b := 16) rfl rfl (by omega) (by omega) (by omega) ?_
        refine sP 1 (g1 := (12, [some (.ref 53), some (sI ((A : Int))), some (sI ((s : Int))), none, none, none, none, none], [sI ((A : Int)), sI (((s % 16 : Nat) : Int)), sI ((s : Int)), .ref 63], g)) rfl ?_
        refine s_icmp (q := .ne) (a := ((s % 16 : Nat) : Int)) (b := (A : Int)) rfl ⟨_, rfl⟩ rfl (by unfold sR aMi aMa; omega) (by unfold sR aMi aMa; omega) (fun hc2 => ?_) (fun hc2 => ?_)
        · have hc2 : ((((s % 16 : Nat) : Int)) : Int) ≠ ((A : Int)) := hc2
          omega
        · have hc2 : ¬ (((((s % 16 : Nat) : Int)) : Int) ≠ ((A : Int))) := hc2
          refine sP 2 (g1 := (16, [some (.ref 53), some (sI ((A : Int))), some (sI ((s : Int))), none, none, none, none, none], [sI 0, sI ((s : Int)), .ref 63], g)) rfl ?_
          refine s_iast (a := 63) (n := 1024) (j := (s : Int)) hg rfl rfl (show sTg 63 = some (50, 1024) from rfl) (by omega) (by omega) (by decide) ?_
          rw [show ((s : Int) : Int).toNat = s by omega]
          rw [← eg1]
          refine s_inc (a := (s : Int)) (n := 1) (k := 2) rfl rfl rfl ?_
          refine sP 1 (g1 := (2, [some (.ref 53), some (sI ((A : Int))), some (sI (((s : Int)) + 1)), none, none, none, none, none], [], g1)) rfl ?_
          rw [show ((s : Int) + 1) = ((s + 1 : Nat) : Int) by omega]
          exact i1
    · obtain ⟨g1, eg1⟩ : ∃ gz, gz = hset g 63 s (sI 1000000) := ⟨_, rfl⟩
      have sg1 : ∀ xa xm, aSlot g1 xa xm = if xa = 63 ∧ xm = s then some (sI 1000000) else aSlot g xa xm := fun xa xm => by rw [eg1]; exact hset_slot hg (show sTg 63 = some (50, 1024) from rfl) (by omega) xa xm
      have hg1 : aHp g1 := by rw [eg1]; exact hset_ii hg (w63i (by omega)) (by omega) (by omega) (by unfold sR aMi aMa; omega)
      obtain ⟨g2, i1, i2, i3⟩ := ih (s + 1) g1 (by omega) hg1
      refine ⟨g2, fun q hq => ?_, i2, fun p m => ?_⟩
      rotate_left
      · rw [i3, sg1]
        by_cases w : p = 63 ∧ m = s
        · rw [if_neg (by omega), if_pos w, if_pos (by omega), w.2, if_neg e]
        · rw [if_neg w]
          by_cases w2 : p = 63 ∧ s ≤ m ∧ m < 1024
          · rw [if_pos w2, if_pos (by omega)]
          · rw [if_neg w2, if_neg (by omega)]
      have i1 := i1 q hq
      refine sP 2 (g1 := (4, [some (.ref 53), some (sI ((A : Int))), some (sI ((s : Int))), none, none, none, none, none], [sI 1024, sI ((s : Int))], g)) rfl ?_
      refine s_icmp (q := .ge) (a := (s : Int)) (b := 1024) rfl ⟨_, rfl⟩ rfl (by unfold sR aMi aMa; omega) (by unfold sR aMi aMa; omega) (fun hc1 => ?_) (fun hc1 => ?_)
      · have hc1 : (1024 : Int) ≤ ((s : Int)) := hc1
        omega
      · have hc1 : ¬ ((1024 : Int) ≤ ((s : Int))) := hc1
        refine sP 1 (g1 := (6, [some (.ref 53), some (sI ((A : Int))), some (sI ((s : Int))), none, none, none, none, none], [.ref 53], g)) rfl ?_
        refine s_get (a := 53) (j := 15) hg rfl ⟨_, rfl⟩ rfl rfl rfl (v := .ref 63) (hR_ok hg (by decide +kernel)) ?_
        refine sP 3 (g1 := (10, [some (.ref 53), some (sI ((A : Int))), some (sI ((s : Int))), none, none, none, none, none], [sI 16, sI ((s : Int)), sI ((s : Int)), .ref 63], g)) rfl ?_
        refine s_remN (a := s) (b := 16) rfl rfl (by omega) (by omega) (by omega) ?_
        refine sP 1 (g1 := (12, [some (.ref 53), some (sI ((A : Int))), some (sI ((s : Int))), none, none, none, none, none], [sI ((A : Int)), sI (((s % 16 : Nat) : Int)), sI ((s : Int)), .ref 63], g)) rfl ?_
        refine s_icmp (q := .ne) (a := ((s % 16 : Nat) : Int)) (b := (A : Int)) rfl ⟨_, rfl⟩ rfl (by unfold sR aMi aMa; omega) (by unfold sR aMi aMa; omega) (fun hc2 => ?_) (fun hc2 => ?_)
        · have hc2 : ((((s % 16 : Nat) : Int)) : Int) ≠ ((A : Int)) := hc2
          refine sP 1 (g1 := (16, [some (.ref 53), some (sI ((A : Int))), some (sI ((s : Int))), none, none, none, none, none], [sI 1000000, sI ((s : Int)), .ref 63], g)) rfl ?_
          refine s_iast (a := 63) (n := 1024) (j := (s : Int)) hg rfl rfl (show sTg 63 = some (50, 1024) from rfl) (by omega) (by omega) (by decide) ?_
          rw [show ((s : Int) : Int).toNat = s by omega]
          rw [← eg1]
          refine s_inc (a := (s : Int)) (n := 1) (k := 2) rfl rfl rfl ?_
          refine sP 1 (g1 := (2, [some (.ref 53), some (sI ((A : Int))), some (sI (((s : Int)) + 1)), none, none, none, none, none], [], g1)) rfl ?_
          rw [show ((s : Int) + 1) = ((s + 1 : Nat) : Int) by omega]
          exact i1
        · have hc2 : ¬ (((((s % 16 : Nat) : Int)) : Int) ≠ ((A : Int))) := hc2
          omega
theorem fFarI {u m : Nat} {F : Nat → Nat} {mo : Int} {g : mH} {n K A q : Nat} {G : Nat → Nat} (hn6 : n ≤ 6) (hK : K ≤ 4) (hA : A = 2 ^ K - 1) (hq : 2 ^ n = q) (hG : ∀ t, G t < 2 ^ K) (n_h : hI h 58 0 = (n : Int)) (g_h : ∀ t, t < q → hI h 64 t = (G t : Int)) (hu : u < q) (hm : m < A) (hF : ∀ s, F s ≤ 1000000) (hC : wmF h g F) : ∀ (c a : Nat) (X : Option Value), a + c = n → ∃ Y, ∀ q, nRn sc (d + 1) (mMT mMe193) (mMC mMe193) (83, [some (.ref 53), some (sI ((A : Int))), some (sI mo), some (sI ((u : Int))), some (sI ((m : Int))), some (sI (((mnW (nxG G) F (16 * u + m) n : Nat) : Int))), some (sI ((n : Int))), Y], [], g) q → nRn sc (d + 1) (mMT mMe193) (mMC mMe193) (51, [some (.ref 53), some (sI ((A : Int))), some (sI mo), some (sI ((u : Int))), some (sI ((m : Int))), some (sI (((mnW (nxG G) F (16 * u + m) a : Nat) : Int))), some (sI ((a : Int))), X], [], g) q := by
  have p2 := p2_le hn6
  have p4 := p2_4 hK
  rw [hq] at p2
  obtain ⟨hg, f_g, l_g⟩ := id hC
  have n_g : hI g 58 0 = (n : Int) := by rw [hI_cg (f_g 58 0 (by omega))]; exact n_h
  have g_g : ∀ t, t < q → hI g 64 t = (G t : Int) := fun t ht => by rw [hI_cg (f_g 64 t (by omega))]; exact g_h t ht
  intro c
  induction c with
  | zero =>
    intro a X ha
    have han : a = n := by omega
    subst han
    refine ⟨X, fun q hq => ?_⟩
    refine sP 2 (g1 := (53, [some (.ref 53), some (sI ((A : Int))), some (sI mo), some (sI ((u : Int))), some (sI ((m : Int))), some (sI (((mnW (nxG G) F (16 * u + m) a : Nat) : Int))), some (sI ((a : Int))), X], [.ref 53, sI ((a : Int))], g)) rfl ?_
    refine s_get (a := 53) (j := 4) hg rfl ⟨_, rfl⟩ rfl rfl rfl (v := .ref 58) (hR_ok hg (by decide +kernel)) ?_
    refine sP 1 (g1 := (55, [some (.ref 53), some (sI ((A : Int))), some (sI mo), some (sI ((u : Int))), some (sI ((m : Int))), some (sI (((mnW (nxG G) F (16 * u + m) a : Nat) : Int))), some (sI ((a : Int))), X], [sI 0, .ref 58, sI ((a : Int))], g)) rfl ?_
    refine s_iald (a := 58) (n := 201) (j := 0) hg rfl rfl rfl (by omega) (by omega) (by decide) (v := sI ((a : Int))) (by have q := hI_ok hg nw_p; rw [n_g] at q; exact q) ?_
    refine s_icmp (q := .ge) (a := (a : Int)) (b := (a : Int)) rfl ⟨_, rfl⟩ rfl (by unfold sR aMi aMa; omega) (by unfold sR aMi aMa; omega) (fun hc1 => ?_) (fun hc1 => ?_)
    · have hc1 : (((a : Int)) : Int) ≤ ((a : Int)) := hc1
      exact hq
    · have hc1 : ¬ ((((a : Int)) : Int) ≤ ((a : Int))) := hc1
      omega
  | succ c ih =>
    intro a X ha
    have b1 : bxo u a < q := by rw [← hq]; exact bxo_w n (by omega) u (by omega) a (by omega)
    have b2 := hG (bxo u a)
    have b3 : m ||| G (bxo u a) < 2 ^ K := Nat.or_lt_two_pow (by omega) b2
    have e_nx : nxG G (16 * u + m) a = 16 * bxo u a + (m ||| G (bxo u a)) := by
      unfold nxG
      rw [show (16 * u + m) / 16 = u by omega, show (16 * u + m) % 16 = m by omega]
    have nb : nxG G (16 * u + m) a < 1024 := by omega
    have m1 := (mnW_le (nx := nxG G) F (16 * u + m) a).1
    have m2 := hF (16 * u + m)
    have m3 := hF (nxG G (16 * u + m) a)
    have el := fLess (sc := sc) (d := d) (h := g) (a := ((mnW (nxG G) F (16 * u + m) a : Nat) : Int)) (b := (F (nxG G (16 * u + m) a) : Int) + 1) (by omega) (by omega) (by omega) (by omega)
    rw [show min ((mnW (nxG G) F (16 * u + m) a : Nat) : Int) ((F (nxG G (16 * u + m) a) : Int) + 1) = ((mnW (nxG G) F (16 * u + m) (a + 1) : Nat) : Int) by show min _ _ = ((min (mnW (nxG G) F (16 * u + m) a) (F (nxG G (16 * u + m) a) + 1) : Nat) : Int); omega] at el
    obtain ⟨Y, i1⟩ := ih (a + 1) (some (sI ((bxo u a : Nat) : Int))) (by omega)
    refine ⟨Y, fun q hq => ?_⟩
    have i1 := i1 q hq
    refine sP 2 (g1 := (53, [some (.ref 53), some (sI ((A : Int))), some (sI mo), some (sI ((u : Int))), some (sI ((m : Int))), some (sI (((mnW (nxG G) F (16 * u + m) a : Nat) : Int))), some (sI ((a : Int))), X], [.ref 53, sI ((a : Int))], g)) rfl ?_
    refine s_get (a := 53) (j := 4) hg rfl ⟨_, rfl⟩ rfl rfl rfl (v := .ref 58) (hR_ok hg (by decide +kernel)) ?_
    refine sP 1 (g1 := (55, [some (.ref 53), some (sI ((A : Int))), some (sI mo), some (sI ((u : Int))), some (sI ((m : Int))), some (sI (((mnW (nxG G) F (16 * u + m) a : Nat) : Int))), some (sI ((a : Int))), X], [sI 0, .ref 58, sI ((a : Int))], g)) rfl ?_
    refine s_iald (a := 58) (n := 201) (j := 0) hg rfl rfl rfl (by omega) (by omega) (by decide) (v := sI ((n : Int))) (by have q := hI_ok hg nw_p; rw [n_g] at q; exact q) ?_
    refine s_icmp (q := .ge) (a := (a : Int)) (b := (n : Int)) rfl ⟨_, rfl⟩ rfl (by unfold sR aMi aMa; omega) (by unfold sR aMi aMa; omega) (fun hc1 => ?_) (fun hc1 => ?_)
    · have hc1 : (((n : Int)) : Int) ≤ ((a : Int)) := hc1
      omega
    · have hc1 : ¬ ((((n : Int)) : Int) ≤ ((a : Int))) := hc1
      refine sP 3 (g1 := (60, [some (.ref 53), some (sI ((A : Int))), some (sI mo), some (sI ((u : Int))), some (sI ((m : Int))), some (sI (((mnW (nxG G) F (16 * u + m) a : Nat) : Int))), some (sI ((a : Int))), X], [sI ((a : Int)), sI 1, sI ((u : Int))], g)) rfl ?_
      refine s_shl (a := a) rfl rfl (by omega) ?_
      refine s_xo (s := u) (a := a) rfl rfl (by omega) (by omega) ?_
      refine sP 3 (g1 := (65, [some (.ref 53), some (sI ((A : Int))), some (sI mo), some (sI ((u : Int))), some (sI ((m : Int))), some (sI (((mnW (nxG G) F (16 * u + m) a : Nat) : Int))), some (sI ((a : Int))), some (sI (((bxo u a : Nat) : Int)))], [.ref 53, sI (((mnW (nxG G) F (16 * u + m) a : Nat) : Int))], g)) rfl ?_
      refine s_get (a := 53) (j := 15) hg rfl ⟨_, rfl⟩ rfl rfl rfl (v := .ref 63) (hR_ok hg (by decide +kernel)) ?_
      refine sP 2 (g1 := (68, [some (.ref 53), some (sI ((A : Int))), some (sI mo), some (sI ((u : Int))), some (sI ((m : Int))), some (sI (((mnW (nxG G) F (16 * u + m) a : Nat) : Int))), some (sI ((a : Int))), some (sI (((bxo u a : Nat) : Int)))], [sI (((bxo u a : Nat) : Int)), sI 16, .ref 63, sI (((mnW (nxG G) F (16 * u + m) a : Nat) : Int))], g)) rfl ?_
      refine s_mul (a := 16) (b := ((bxo u a : Nat) : Int)) rfl rfl ?_
      refine sP 2 (g1 := (71, [some (.ref 53), some (sI ((A : Int))), some (sI mo), some (sI ((u : Int))), some (sI ((m : Int))), some (sI (((mnW (nxG G) F (16 * u + m) a : Nat) : Int))), some (sI ((a : Int))), some (sI (((bxo u a : Nat) : Int)))], [.ref 53, sI ((m : Int)), sI (16 * (((bxo u a : Nat) : Int))), .ref 63, sI (((mnW (nxG G) F (16 * u + m) a : Nat) : Int))], g)) rfl ?_
      refine s_get (a := 53) (j := 16) hg rfl ⟨_, rfl⟩ rfl rfl rfl (v := .ref 64) (hR_ok hg (by decide +kernel)) ?_
      refine sP 1 (g1 := (73, [some (.ref 53), some (sI ((A : Int))), some (sI mo), some (sI ((u : Int))), some (sI ((m : Int))), some (sI (((mnW (nxG G) F (16 * u + m) a : Nat) : Int))), some (sI ((a : Int))), some (sI (((bxo u a : Nat) : Int)))], [sI (((bxo u a : Nat) : Int)), .ref 64, sI ((m : Int)), sI (16 * (((bxo u a : Nat) : Int))), .ref 63, sI (((mnW (nxG G) F (16 * u + m) a : Nat) : Int))], g)) rfl ?_
      refine s_iald (a := 64) (n := 64) (j := ((bxo u a : Nat) : Int)) hg rfl rfl rfl (by omega) (by omega) (by decide) (v := sI ((G (bxo u a) : Int))) (by rw [Int.toNat_natCast]; have q := hI_ok hg (w64 (show bxo u a < 64 by omega)); rw [g_g _ (by omega)] at q; exact q) ?_
      refine s_b1 (w := Int32.ofInt ((m ||| G (bxo u a) : Nat) : Int)) rfl rfl (b_or16 m (by omega) (G (bxo u a)) (by omega)) ?_
      refine s_add (a := 16 * (((bxo u a : Nat) : Int))) (b := ((m ||| G (bxo u a) : Nat) : Int)) rfl rfl ?_
      rw [show ((16 * (((bxo u a : Nat) : Int))) + (((m ||| G (bxo u a) : Nat) : Int)) : Int) = ((nxG G (16 * u + m) a : Nat) : Int) by rw [e_nx]; omega]
      refine s_iald (a := 63) (n := 1024) (j := ((nxG G (16 * u + m) a : Nat) : Int)) hg rfl rfl rfl (by omega) (by omega) (by decide) (v := sI ((F (nxG G (16 * u + m) a) : Int))) (by rw [Int.toNat_natCast]; have q := hI_ok hg (w63 (show nxG G (16 * u + m) a < 1024 by omega)); rw [l_g _ (by omega)] at q; exact q) ?_
      refine sP 1 (g1 := (78, [some (.ref 53), some (sI ((A : Int))), some (sI mo), some (sI ((u : Int))), some (sI ((m : Int))), some (sI (((mnW (nxG G) F (16 * u + m) a : Nat) : Int))), some (sI ((a : Int))), some (sI (((bxo u a : Nat) : Int)))], [sI 1, sI ((F (nxG G (16 * u + m) a) : Int)), sI (((mnW (nxG G) F (16 * u + m) a : Nat) : Int))], g)) rfl ?_
      refine s_add (a := (F (nxG G (16 * u + m) a) : Int)) (b := 1) rfl rfl ?_
      refine s_call (k := 153) (args := [sI (((mnW (nxG G) F (16 * u + m) a : Nat) : Int)), sI (((F (nxG G (16 * u + m) a) : Int)) + 1)]) (st := []) (v := some (sI (((mnW (nxG G) F (16 * u + m) (a + 1) : Nat) : Int)))) (h1 := g) rfl ⟨rfl, rfl⟩ rfl rfl rfl rfl rfl rfl el ?_
      refine sP 1 (g1 := (81, [some (.ref 53), some (sI ((A : Int))), some (sI mo), some (sI ((u : Int))), some (sI ((m : Int))), some (sI (((mnW (nxG G) F (16 * u + m) (a + 1) : Nat) : Int))), some (sI ((a : Int))), some (sI (((bxo u a : Nat) : Int)))], [], g)) rfl ?_
      refine s_inc (a := (a : Int)) (n := 1) (k := 6) rfl rfl rfl ?_
      refine sP 1 (g1 := (51, [some (.ref 53), some (sI ((A : Int))), some (sI mo), some (sI ((u : Int))), some (sI ((m : Int))), some (sI (((mnW (nxG G) F (16 * u + m) (a + 1) : Nat) : Int))), some (sI (((a : Int)) + 1)), some (sI (((bxo u a : Nat) : Int)))], [], g)) rfl ?_
      rw [show ((a : Int) + 1) = ((a + 1 : Nat) : Int) by omega]
      exact i1
theorem fFarS {u : Nat} {F0 : Nat → Nat} {n K A q : Nat} {G : Nat → Nat} (hn6 : n ≤ 6) (hK : K ≤ 4) (hA : A = 2 ^ K - 1) (hq : 2 ^ n = q) (hG : ∀ t, G t < 2 ^ K) (n_h : hI h 58 0 = (n : Int)) (g_h : ∀ t, t < q → hI h 64 t = (G t : Int)) (hu : u < q) : ∀ (c m : Nat) (g : mH) (F : Nat → Nat) (mo : Nat) (X5 X6 X7 : Option Value), m + c = A → wmF h g F → psW (nxG G) (glK K) (vlK n K) n F0 F mo (dnW A u m) → ∃ (g1 : mH) (F1 : Nat → Nat) (mo1 : Nat) (Y5 Y6 Y7 : Option Value), (∀ q, nRn sc (d + 1) (mMT mMe193) (mMC mMe193) (110, [some (.ref 53), some (sI ((A : Int))), some (sI ((mo1 : Int))), some (sI ((u : Int))), some (sI ((A : Int))), Y5, Y6, Y7], [], g1) q → nRn sc (d + 1) (mMT mMe193) (mMC mMe193) (37, [some (.ref 53), some (sI ((A : Int))), some (sI ((mo : Int))), some (sI ((u : Int))), some (sI ((m : Int))), X5, X6, X7], [], g) q) ∧ wmF h g1 F1 ∧ psW (nxG G) (glK K) (vlK n K) n F0 F1 mo1 (dnW A u A) := by
  have p2 := p2_le hn6
  have p4 := p2_4 hK
  rw [hq] at p2
  have hV := vlK_ok hn6 hK hG
  intro c
  induction c with
  | zero =>
    intro m g F mo X5 X6 X7 hm hC hS
    have e : m = A := by omega
    subst e
    refine ⟨g, F, mo, X5, X6, X7, fun q hq => ?_, hC, hS⟩
    refine sP 2 (g1 := (39, [some (.ref 53), some (sI ((m : Int))), some (sI ((mo : Int))), some (sI ((u : Int))), some (sI ((m : Int))), X5, X6, X7], [sI ((m : Int)), sI ((m : Int))], g)) rfl ?_
    refine s_icmp (q := .ge) (a := (m : Int)) (b := (m : Int)) rfl ⟨_, rfl⟩ rfl (by unfold sR aMi aMa; omega) (by unfold sR aMi aMa; omega) (fun hc1 => ?_) (fun hc1 => ?_)
    · have hc1 : (((m : Int)) : Int) ≤ ((m : Int)) := hc1
      exact hq
    · have hc1 : ¬ ((((m : Int)) : Int) ≤ ((m : Int))) := hc1
      omega
  | succ c ih =>
    intro m g F mo X5 X6 X7 hm hC hS
    obtain ⟨hg, f_g, l_g⟩ := id hC
    have n_g : hI g 58 0 = (n : Int) := by rw [hI_cg (f_g 58 0 (by omega))]; exact n_h
    have mA : m < A := by omega
    have hF := hS.2.1
    have mo2 := hS.2.2.2.1
    have s1024 : 16 * u + m < 1024 := by omega
    have vs : vlK n K (16 * u + m) := ⟨by rw [hq]; omega, by omega⟩
    have ng : ¬ glK K (16 * u + m) := fun e => by
      have e : (16 * u + m) % 16 = 2 ^ K - 1 := e
      omega
    obtain ⟨Y, i1⟩ := fFarI (sc := sc) (d := d) (mo := (mo : Int)) hn6 hK hA hq hG n_h g_h hu mA hF hC n 0 X7 (by omega)
    have l1 := (mnW_le (nx := nxG G) F (16 * u + m) n).1
    have m2 := hF (16 * u + m)
    have key : ∀ mo1, mo1 = (if mo = 0 ∧ ¬ mnW (nxG G) F (16 * u + m) n < F (16 * u + m) then 0 else 1) → psW (nxG G) (glK K) (vlK n K) n F0 (fun t => if t = 16 * u + m then mnW (nxG G) F (16 * u + m) n else F t) mo1 (dnW A u (m + 1)) := fun mo1 e => ps_step hV hS vs ng (fun t ht => by
      by_cases w : t = 16 * u + m
      · exact Or.inr w
      · refine Or.inl ⟨ht.1, ?_⟩
        rcases ht.2 with q | q
        · exact Or.inl q
        · exact Or.inr ⟨q.1, by omega⟩) e
    obtain ⟨g1, eg1⟩ : ∃ gz, gz = hset g 63 ((16 * u + m)) (sI ((mnW (nxG G) F (16 * u + m) n : Nat) : Int)) := ⟨_, rfl⟩
    have sg1 : ∀ xa xm, aSlot g1 xa xm = if xa = 63 ∧ xm = (16 * u + m) then some (sI ((mnW (nxG G) F (16 * u + m) n : Nat) : Int)) else aSlot g xa xm := fun xa xm => by rw [eg1]; exact hset_slot hg (show sTg 63 = some (50, 1024) from rfl) (by omega) xa xm
    have hg1 : aHp g1 := by rw [eg1]; exact hset_ii hg (w63i s1024) (by omega) (by omega) (by unfold sR aMi aMa; omega)
    have hC1 : wmF h g1 (fun t => if t = 16 * u + m then mnW (nxG G) F (16 * u + m) n else F t) := by
      refine ⟨hg1, fun p m w => by rw [sg1, if_neg (by omega)]; exact f_g p m w, fun t ht => ?_⟩
      show hI g1 63 t = ((if t = 16 * u + m then mnW (nxG G) F (16 * u + m) n else F t : Nat) : Int)
      by_cases e : t = 16 * u + m
      · rw [if_pos e]
        exact hI_si (by rw [sg1, if_pos ⟨rfl, e⟩]) (by unfold sR aMi aMa; omega)
      · rw [if_neg e, hI_cg (show aSlot g1 63 t = aSlot g 63 t by rw [sg1, if_neg (by omega)])]
        exact l_g t ht
    by_cases cm : mo = 0 ∧ ¬ mnW (nxG G) F (16 * u + m) n < F (16 * u + m)
    · obtain ⟨g2, F2, mo3, Y5, Y6, Y7, j1, j2, j3⟩ := ih (m + 1) g1 _ 0 (some (sI ((mnW (nxG G) F (16 * u + m) n : Nat) : Int))) (some (sI (n : Int))) Y (by omega) hC1 (key 0 (by rw [if_pos cm]))
      refine ⟨g2, F2, mo3, Y5, Y6, Y7, fun q hq => ?_, j2, j3⟩
      have j1 := j1 q hq
      refine sP 2 (g1 := (39, [some (.ref 53), some (sI ((A : Int))), some (sI ((mo : Int))), some (sI ((u : Int))), some (sI ((m : Int))), X5, X6, X7], [sI ((A : Int)), sI ((m : Int))], g)) rfl ?_
      refine s_icmp (q := .ge) (a := (m : Int)) (b := (A : Int)) rfl ⟨_, rfl⟩ rfl (by unfold sR aMi aMa; omega) (by unfold sR aMi aMa; omega) (fun hc1 => ?_) (fun hc1 => ?_)
      · have hc1 : (((A : Int)) : Int) ≤ ((m : Int)) := hc1
        omega
      · have hc1 : ¬ ((((A : Int)) : Int) ≤ ((m : Int))) := hc1
        refine sP 1 (g1 := (41, [some (.ref 53), some (sI ((A : Int))), some (sI ((mo : Int))), some (sI ((u : Int))), some (sI ((m : Int))), X5, X6, X7], [.ref 53], g)) rfl ?_
        refine s_get (a := 53) (j := 15) hg rfl ⟨_, rfl⟩ rfl rfl rfl (v := .ref 63) (hR_ok hg (by decide +kernel)) ?_
        refine sP 2 (g1 := (44, [some (.ref 53), some (sI ((A : Int))), some (sI ((mo : Int))), some (sI ((u : Int))), some (sI ((m : Int))), X5, X6, X7], [sI ((u : Int)), sI 16, .ref 63], g)) rfl ?_
        refine s_mul (a := 16) (b := (u : Int)) rfl rfl ?_
        refine sP 1 (g1 := (46, [some (.ref 53), some (sI ((A : Int))), some (sI ((mo : Int))), some (sI ((u : Int))), some (sI ((m : Int))), X5, X6, X7], [sI ((m : Int)), sI (16 * ((u : Int))), .ref 63], g)) rfl ?_
        refine s_add (a := 16 * ((u : Int))) (b := (m : Int)) rfl rfl ?_
        refine s_iald (a := 63) (n := 1024) (j := (16 * ((u : Int))) + ((m : Int))) hg rfl rfl rfl (by omega) (by omega) (by decide) (v := sI ((F (16 * u + m) : Int))) (by rw [show ((16 * (u : Int)) + (m : Int) : Int).toNat = 16 * u + m by omega]; have q := hI_ok hg (w63 (show 16 * u + m < 1024 by omega)); rw [l_g _ (by omega)] at q; exact q) ?_
        refine sP 3 (g1 := (51, [some (.ref 53), some (sI ((A : Int))), some (sI ((mo : Int))), some (sI ((u : Int))), some (sI ((m : Int))), some (sI ((F (16 * u + m) : Int))), some (sI 0), X7], [], g)) rfl ?_
        refine i1 _ ?_
        refine sP 1 (g1 := (84, [some (.ref 53), some (sI ((A : Int))), some (sI ((mo : Int))), some (sI ((u : Int))), some (sI ((m : Int))), some (sI (((mnW (nxG G) F (16 * u + m) n : Nat) : Int))), some (sI ((n : Int))), Y], [sI ((mo : Int))], g)) rfl ?_
        refine s_ifc (q := .ne) (a := (mo : Int)) rfl ⟨_, rfl⟩ rfl (by unfold sR aMi aMa; omega) (fun hc2 => ?_) (fun hc2 => ?_)
        · have hc2 : (((mo : Int)) : Int) ≠ 0 := hc2
          omega
        · have hc2 : ¬ ((((mo : Int)) : Int) ≠ 0) := hc2
          refine sP 2 (g1 := (87, [some (.ref 53), some (sI ((A : Int))), some (sI ((mo : Int))), some (sI ((u : Int))), some (sI ((m : Int))), some (sI (((mnW (nxG G) F (16 * u + m) n : Nat) : Int))), some (sI ((n : Int))), Y], [.ref 53, sI (((mnW (nxG G) F (16 * u + m) n : Nat) : Int))], g)) rfl ?_
          refine s_get (a := 53) (j := 15) hg rfl ⟨_, rfl⟩ rfl rfl rfl (v := .ref 63) (hR_ok hg (by decide +kernel)) ?_
          refine sP 2 (g1 := (90, [some (.ref 53), some (sI ((A : Int))), some (sI ((mo : Int))), some (sI ((u : Int))), some (sI ((m : Int))), some (sI (((mnW (nxG G) F (16 * u + m) n : Nat) : Int))), some (sI ((n : Int))), Y], [sI ((u : Int)), sI 16, .ref 63, sI (((mnW (nxG G) F (16 * u + m) n : Nat) : Int))], g)) rfl ?_
          refine s_mul (a := 16) (b := (u : Int)) rfl rfl ?_
          refine sP 1 (g1 := (92, [some (.ref 53), some (sI ((A : Int))), some (sI ((mo : Int))), some (sI ((u : Int))), some (sI ((m : Int))), some (sI (((mnW (nxG G) F (16 * u + m) n : Nat) : Int))), some (sI ((n : Int))), Y], [sI ((m : Int)), sI (16 * ((u : Int))), .ref 63, sI (((mnW (nxG G) F (16 * u + m) n : Nat) : Int))], g)) rfl ?_
          refine s_add (a := 16 * ((u : Int))) (b := (m : Int)) rfl rfl ?_
          refine s_iald (a := 63) (n := 1024) (j := (16 * ((u : Int))) + ((m : Int))) hg rfl rfl rfl (by omega) (by omega) (by decide) (v := sI ((F (16 * u + m) : Int))) (by rw [show ((16 * (u : Int)) + (m : Int) : Int).toNat = 16 * u + m by omega]; have q := hI_ok hg (w63 (show 16 * u + m < 1024 by omega)); rw [l_g _ (by omega)] at q; exact q) ?_
          refine s_icmp (q := .ge) (a := ((mnW (nxG G) F (16 * u + m) n : Nat) : Int)) (b := (F (16 * u + m) : Int)) rfl ⟨_, rfl⟩ rfl (by unfold sR aMi aMa; omega) (by unfold sR aMi aMa; omega) (fun hc3 => ?_) (fun hc3 => ?_)
          · have hc3 : (((F (16 * u + m) : Int)) : Int) ≤ (((mnW (nxG G) F (16 * u + m) n : Nat) : Int)) := hc3
            refine sP 3 (g1 := (100, [some (.ref 53), some (sI ((A : Int))), some (sI 0), some (sI ((u : Int))), some (sI ((m : Int))), some (sI (((mnW (nxG G) F (16 * u + m) n : Nat) : Int))), some (sI ((n : Int))), Y], [.ref 53], g)) rfl ?_
            refine s_get (a := 53) (j := 15) hg rfl ⟨_, rfl⟩ rfl rfl rfl (v := .ref 63) (hR_ok hg (by decide +kernel)) ?_
            refine sP 2 (g1 := (103, [some (.ref 53), some (sI ((A : Int))), some (sI 0), some (sI ((u : Int))), some (sI ((m : Int))), some (sI (((mnW (nxG G) F (16 * u + m) n : Nat) : Int))), some (sI ((n : Int))), Y], [sI ((u : Int)), sI 16, .ref 63], g)) rfl ?_
            refine s_mul (a := 16) (b := (u : Int)) rfl rfl ?_
            refine sP 1 (g1 := (105, [some (.ref 53), some (sI ((A : Int))), some (sI 0), some (sI ((u : Int))), some (sI ((m : Int))), some (sI (((mnW (nxG G) F (16 * u + m) n : Nat) : Int))), some (sI ((n : Int))), Y], [sI ((m : Int)), sI (16 * ((u : Int))), .ref 63], g)) rfl ?_
            refine s_add (a := 16 * ((u : Int))) (b := (m : Int)) rfl rfl ?_
            rw [show ((16 * ((u : Int))) + ((m : Int)) : Int) = ((16 * u + m : Nat) : Int) by omega]
            refine sP 1 (g1 := (107, [some (.ref 53), some (sI ((A : Int))), some (sI 0), some (sI ((u : Int))), some (sI ((m : Int))), some (sI (((mnW (nxG G) F (16 * u + m) n : Nat) : Int))), some (sI ((n : Int))), Y], [sI (((mnW (nxG G) F (16 * u + m) n : Nat) : Int)), sI (((16 * u + m : Nat) : Int)), .ref 63], g)) rfl ?_
            refine s_iast (a := 63) (n := 1024) (j := ((16 * u + m : Nat) : Int)) hg rfl rfl (show sTg 63 = some (50, 1024) from rfl) (by omega) (by omega) (by decide) ?_
            rw [show (((16 * u + m : Nat) : Int) : Int).toNat = (16 * u + m) by omega]
            rw [← eg1]
            refine s_inc (a := (m : Int)) (n := 1) (k := 4) rfl rfl rfl ?_
            refine sP 1 (g1 := (37, [some (.ref 53), some (sI ((A : Int))), some (sI 0), some (sI ((u : Int))), some (sI (((m : Int)) + 1)), some (sI (((mnW (nxG G) F (16 * u + m) n : Nat) : Int))), some (sI ((n : Int))), Y], [], g1)) rfl ?_
            rw [show ((m : Int) + 1) = ((m + 1 : Nat) : Int) by omega]
            exact j1
          · have hc3 : ¬ ((((F (16 * u + m) : Int)) : Int) ≤ (((mnW (nxG G) F (16 * u + m) n : Nat) : Int))) := hc3
            omega
    · obtain ⟨g2, F2, mo3, Y5, Y6, Y7, j1, j2, j3⟩ := ih (m + 1) g1 _ 1 (some (sI ((mnW (nxG G) F (16 * u + m) n : Nat) : Int))) (some (sI (n : Int))) Y (by omega) hC1 (key 1 (by rw [if_neg cm]))
      refine ⟨g2, F2, mo3, Y5, Y6, Y7, fun q hq => ?_, j2, j3⟩
      have j1 := j1 q hq
      by_cases m1 : mo = 1
      · have m1 := m1
        refine sP 2 (g1 := (39, [some (.ref 53), some (sI ((A : Int))), some (sI ((mo : Int))), some (sI ((u : Int))), some (sI ((m : Int))), X5, X6, X7], [sI ((A : Int)), sI ((m : Int))], g)) rfl ?_
        refine s_icmp (q := .ge) (a := (m : Int)) (b := (A : Int)) rfl ⟨_, rfl⟩ rfl (by unfold sR aMi aMa; omega) (by unfold sR aMi aMa; omega) (fun hc1 => ?_) (fun hc1 => ?_)
        · have hc1 : (((A : Int)) : Int) ≤ ((m : Int)) := hc1
          omega
        · have hc1 : ¬ ((((A : Int)) : Int) ≤ ((m : Int))) := hc1
          refine sP 1 (g1 := (41, [some (.ref 53), some (sI ((A : Int))), some (sI ((mo : Int))), some (sI ((u : Int))), some (sI ((m : Int))), X5, X6, X7], [.ref 53], g)) rfl ?_
          refine s_get (a := 53) (j := 15) hg rfl ⟨_, rfl⟩ rfl rfl rfl (v := .ref 63) (hR_ok hg (by decide +kernel)) ?_
          refine sP 2 (g1 := (44, [some (.ref 53), some (sI ((A : Int))), some (sI ((mo : Int))), some (sI ((u : Int))), some (sI ((m : Int))), X5, X6, X7], [sI ((u : Int)), sI 16, .ref 63], g)) rfl ?_
          refine s_mul (a := 16) (b := (u : Int)) rfl rfl ?_
          refine sP 1 (g1 := (46, [some (.ref 53), some (sI ((A : Int))), some (sI ((mo : Int))), some (sI ((u : Int))), some (sI ((m : Int))), X5, X6, X7], [sI ((m : Int)), sI (16 * ((u : Int))), .ref 63], g)) rfl ?_
          refine s_add (a := 16 * ((u : Int))) (b := (m : Int)) rfl rfl ?_
          refine s_iald (a := 63) (n := 1024) (j := (16 * ((u : Int))) + ((m : Int))) hg rfl rfl rfl (by omega) (by omega) (by decide) (v := sI ((F (16 * u + m) : Int))) (by rw [show ((16 * (u : Int)) + (m : Int) : Int).toNat = 16 * u + m by omega]; have q := hI_ok hg (w63 (show 16 * u + m < 1024 by omega)); rw [l_g _ (by omega)] at q; exact q) ?_
          refine sP 3 (g1 := (51, [some (.ref 53), some (sI ((A : Int))), some (sI ((mo : Int))), some (sI ((u : Int))), some (sI ((m : Int))), some (sI ((F (16 * u + m) : Int))), some (sI 0), X7], [], g)) rfl ?_
          refine i1 _ ?_
          refine sP 1 (g1 := (84, [some (.ref 53), some (sI ((A : Int))), some (sI ((mo : Int))), some (sI ((u : Int))), some (sI ((m : Int))), some (sI (((mnW (nxG G) F (16 * u + m) n : Nat) : Int))), some (sI ((n : Int))), Y], [sI ((mo : Int))], g)) rfl ?_
          refine s_ifc (q := .ne) (a := (mo : Int)) rfl ⟨_, rfl⟩ rfl (by unfold sR aMi aMa; omega) (fun hc2 => ?_) (fun hc2 => ?_)
          · have hc2 : (((mo : Int)) : Int) ≠ 0 := hc2
            refine sP 4 (g1 := (100, [some (.ref 53), some (sI ((A : Int))), some (sI 1), some (sI ((u : Int))), some (sI ((m : Int))), some (sI (((mnW (nxG G) F (16 * u + m) n : Nat) : Int))), some (sI ((n : Int))), Y], [.ref 53], g)) rfl ?_
            refine s_get (a := 53) (j := 15) hg rfl ⟨_, rfl⟩ rfl rfl rfl (v := .ref 63) (hR_ok hg (by decide +kernel)) ?_
            refine sP 2 (g1 := (103, [some (.ref 53), some (sI ((A : Int))), some (sI 1), some (sI ((u : Int))), some (sI ((m : Int))), some (sI (((mnW (nxG G) F (16 * u + m) n : Nat) : Int))), some (sI ((n : Int))), Y], [sI ((u : Int)), sI 16, .ref 63], g)) rfl ?_
            refine s_mul (a := 16) (b := (u : Int)) rfl rfl ?_
            refine sP 1 (g1 := (105, [some (.ref 53), some (sI ((A : Int))), some (sI 1), some (sI ((u : Int))), some (sI ((m : Int))), some (sI (((mnW (nxG G) F (16 * u + m) n : Nat) : Int))), some (sI ((n : Int))), Y], [sI ((m : Int)), sI (16 * ((u : Int))), .ref 63], g)) rfl ?_
            refine s_add (a := 16 * ((u : Int))) (b := (m : Int)) rfl rfl ?_
            rw [show ((16 * ((u : Int))) + ((m : Int)) : Int) = ((16 * u + m : Nat) : Int) by omega]
            refine sP 1 (g1 := (107, [some (.ref 53), some (sI ((A : Int))), some (sI 1), some (sI ((u : Int))), some (sI ((m : Int))), some (sI (((mnW (nxG G) F (16 * u + m) n : Nat) : Int))), some (sI ((n : Int))), Y], [sI (((mnW (nxG G) F (16 * u + m) n : Nat) : Int)), sI (((16 * u + m : Nat) : Int)), .ref 63], g)) rfl ?_
            refine s_iast (a := 63) (n := 1024) (j := ((16 * u + m : Nat) : Int)) hg rfl rfl (show sTg 63 = some (50, 1024) from rfl) (by omega) (by omega) (by decide) ?_
            rw [show (((16 * u + m : Nat) : Int) : Int).toNat = (16 * u + m) by omega]
            rw [← eg1]
            refine s_inc (a := (m : Int)) (n := 1) (k := 4) rfl rfl rfl ?_
            refine sP 1 (g1 := (37, [some (.ref 53), some (sI ((A : Int))), some (sI 1), some (sI ((u : Int))), some (sI (((m : Int)) + 1)), some (sI (((mnW (nxG G) F (16 * u + m) n : Nat) : Int))), some (sI ((n : Int))), Y], [], g1)) rfl ?_
            rw [show ((m : Int) + 1) = ((m + 1 : Nat) : Int) by omega]
            exact j1
          · have hc2 : ¬ ((((mo : Int)) : Int) ≠ 0) := hc2
            omega
      · have m0 : mo = 0 := by omega
        have bt1 : mnW (nxG G) F (16 * u + m) n < F (16 * u + m) := by omega
        refine sP 2 (g1 := (39, [some (.ref 53), some (sI ((A : Int))), some (sI ((mo : Int))), some (sI ((u : Int))), some (sI ((m : Int))), X5, X6, X7], [sI ((A : Int)), sI ((m : Int))], g)) rfl ?_
        refine s_icmp (q := .ge) (a := (m : Int)) (b := (A : Int)) rfl ⟨_, rfl⟩ rfl (by unfold sR aMi aMa; omega) (by unfold sR aMi aMa; omega) (fun hc1 => ?_) (fun hc1 => ?_)
        · have hc1 : (((A : Int)) : Int) ≤ ((m : Int)) := hc1
          omega
        · have hc1 : ¬ ((((A : Int)) : Int) ≤ ((m : Int))) := hc1
          refine sP 1 (g1 := (41, [some (.ref 53), some (sI ((A : Int))), some (sI ((mo : Int))), some (sI ((u : Int))), some (sI ((m : Int))), X5, X6, X7], [.ref 53], g)) rfl ?_
          refine s_get (a := 53) (j := 15) hg rfl ⟨_, rfl⟩ rfl rfl rfl (v := .ref 63) (hR_ok hg (by decide +kernel)) ?_
          refine sP 2 (g1 := (44, [some (.ref 53), some (sI ((A : Int))), some (sI ((mo : Int))), some (sI ((u : Int))), some (sI ((m : Int))), X5, X6, X7], [sI ((u : Int)), sI 16, .ref 63], g)) rfl ?_
          refine s_mul (a := 16) (b := (u : Int)) rfl rfl ?_
          refine sP 1 (g1 := (46, [some (.ref 53), some (sI ((A : Int))), some (sI ((mo : Int))), some (sI ((u : Int))), some (sI ((m : Int))), X5, X6, X7], [sI ((m : Int)), sI (16 * ((u : Int))), .ref 63], g)) rfl ?_
          refine s_add (a := 16 * ((u : Int))) (b := (m : Int)) rfl rfl ?_
          refine s_iald (a := 63) (n := 1024) (j := (16 * ((u : Int))) + ((m : Int))) hg rfl rfl rfl (by omega) (by omega) (by decide) (v := sI ((F (16 * u + m) : Int))) (by rw [show ((16 * (u : Int)) + (m : Int) : Int).toNat = 16 * u + m by omega]; have q := hI_ok hg (w63 (show 16 * u + m < 1024 by omega)); rw [l_g _ (by omega)] at q; exact q) ?_
          refine sP 3 (g1 := (51, [some (.ref 53), some (sI ((A : Int))), some (sI ((mo : Int))), some (sI ((u : Int))), some (sI ((m : Int))), some (sI ((F (16 * u + m) : Int))), some (sI 0), X7], [], g)) rfl ?_
          refine i1 _ ?_
          refine sP 1 (g1 := (84, [some (.ref 53), some (sI ((A : Int))), some (sI ((mo : Int))), some (sI ((u : Int))), some (sI ((m : Int))), some (sI (((mnW (nxG G) F (16 * u + m) n : Nat) : Int))), some (sI ((n : Int))), Y], [sI ((mo : Int))], g)) rfl ?_
          refine s_ifc (q := .ne) (a := (mo : Int)) rfl ⟨_, rfl⟩ rfl (by unfold sR aMi aMa; omega) (fun hc2 => ?_) (fun hc2 => ?_)
          · have hc2 : (((mo : Int)) : Int) ≠ 0 := hc2
            omega
          · have hc2 : ¬ ((((mo : Int)) : Int) ≠ 0) := hc2
            refine sP 2 (g1 := (87, [some (.ref 53), some (sI ((A : Int))), some (sI ((mo : Int))), some (sI ((u : Int))), some (sI ((m : Int))), some (sI (((mnW (nxG G) F (16 * u + m) n : Nat) : Int))), some (sI ((n : Int))), Y], [.ref 53, sI (((mnW (nxG G) F (16 * u + m) n : Nat) : Int))], g)) rfl ?_
            refine s_get (a := 53) (j := 15) hg rfl ⟨_, rfl⟩ rfl rfl rfl (v := .ref 63) (hR_ok hg (by decide +kernel)) ?_
            refine sP 2 (g1 := (90, [some (.ref 53), some (sI ((A : Int))), some (sI ((mo : Int))), some (sI ((u : Int))), some (sI ((m : Int))), some (sI (((mnW (nxG G) F (16 * u + m) n : Nat) : Int))), some (sI ((n : Int))), Y], [sI ((u : Int)), sI 16, .ref 63, sI (((mnW (nxG G) F (16 * u + m) n : Nat) : Int))], g)) rfl ?_
            refine s_mul (a := 16) (b := (u : Int)) rfl rfl ?_
            refine sP 1 (g1 := (92, [some (.ref 53), some (sI ((A : Int))), some (sI ((mo : Int))), some (sI ((u : Int))), some (sI ((m : Int))), some (sI (((mnW (nxG G) F (16 * u + m) n : Nat) : Int))), some (sI ((n : Int))), Y], [sI ((m : Int)), sI (16 * ((u : Int))), .ref 63, sI (((mnW (nxG G) F (16 * u + m) n : Nat) : Int))], g)) rfl ?_
            refine s_add (a := 16 * ((u : Int))) (b := (m : Int)) rfl rfl ?_
            refine s_iald (a := 63) (n := 1024) (j := (16 * ((u : Int))) + ((m : Int))) hg rfl rfl rfl (by omega) (by omega) (by decide) (v := sI ((F (16 * u + m) : Int))) (by rw [show ((16 * (u : Int)) + (m : Int) : Int).toNat = 16 * u + m by omega]; have q := hI_ok hg (w63 (show 16 * u + m < 1024 by omega)); rw [l_g _ (by omega)] at q; exact q) ?_
            refine s_icmp (q := .ge) (a := ((mnW (nxG G) F (16 * u + m) n : Nat) : Int)) (b := (F (16 * u + m) : Int)) rfl ⟨_, rfl⟩ rfl (by unfold sR aMi aMa; omega) (by unfold sR aMi aMa; omega) (fun hc3 => ?_) (fun hc3 => ?_)
            · have hc3 : (((F (16 * u + m) : Int)) : Int) ≤ (((mnW (nxG G) F (16 * u + m) n : Nat) : Int)) := hc3
              omega
            · have hc3 : ¬ ((((F (16 * u + m) : Int)) : Int) ≤ (((mnW (nxG G) F (16 * u + m) n : Nat) : Int))) := hc3
              refine sP 4 (g1 := (100, [some (.ref 53), some (sI ((A : Int))), some (sI 1), some (sI ((u : Int))), some (sI ((m : Int))), some (sI (((mnW (nxG G) F (16 * u + m) n : Nat) : Int))), some (sI ((n : Int))), Y], [.ref 53], g)) rfl ?_
              refine s_get (a := 53) (j := 15) hg rfl ⟨_, rfl⟩ rfl rfl rfl (v := .ref 63) (hR_ok hg (by decide +kernel)) ?_
              refine sP 2 (g1 := (103, [some (.ref 53), some (sI ((A : Int))), some (sI 1), some (sI ((u : Int))), some (sI ((m : Int))), some (sI (((mnW (nxG G) F (16 * u + m) n : Nat) : Int))), some (sI ((n : Int))), Y], [sI ((u : Int)), sI 16, .ref 63], g)) rfl ?_
              refine s_mul (a := 16) (b := (u : Int)) rfl rfl ?_
              refine sP 1 (g1 := (105, [some (.ref 53), some (sI ((A : Int))), some (sI 1), some (sI ((u : Int))), some (sI ((m : Int))), some (sI (((mnW (nxG G) F (16 * u + m) n : Nat) : Int))), some (sI ((n : Int))), Y], [sI ((m : Int)), sI (16 * ((u : Int))), .ref 63], g)) rfl ?_
              refine s_add (a := 16 * ((u : Int))) (b := (m : Int)) rfl rfl ?_
              rw [show ((16 * ((u : Int))) + ((m : Int)) : Int) = ((16 * u + m : Nat) : Int) by omega]
              refine sP 1 (g1 := (107, [some (.ref 53), some (sI ((A : Int))), some (sI 1), some (sI ((u : Int))), some (sI ((m : Int))), some (sI (((mnW (nxG G) F (16 * u + m) n : Nat) : Int))), some (sI ((n : Int))), Y], [sI (((mnW (nxG G) F (16 * u + m) n : Nat) : Int)), sI (((16 * u + m : Nat) : Int)), .ref 63], g)) rfl ?_
              refine s_iast (a := 63) (n := 1024) (j := ((16 * u + m : Nat) : Int)) hg rfl rfl (show sTg 63 = some (50, 1024) from rfl) (by omega) (by omega) (by decide) ?_
              rw [show (((16 * u + m : Nat) : Int) : Int).toNat = (16 * u + m) by omega]
              rw [← eg1]
              refine s_inc (a := (m : Int)) (n := 1) (k := 4) rfl rfl rfl ?_
              refine sP 1 (g1 := (37, [some (.ref 53), some (sI ((A : Int))), some (sI 1), some (sI ((u : Int))), some (sI (((m : Int)) + 1)), some (sI (((mnW (nxG G) F (16 * u + m) n : Nat) : Int))), some (sI ((n : Int))), Y], [], g1)) rfl ?_
              rw [show ((m : Int) + 1) = ((m + 1 : Nat) : Int) by omega]
              exact j1
theorem fFarU {F0 : Nat → Nat} {n K A q : Nat} {G : Nat → Nat} (hn6 : n ≤ 6) (hK : K ≤ 4) (hA : A = 2 ^ K - 1) (hq : 2 ^ n = q) (hG : ∀ t, G t < 2 ^ K) (n_h : hI h 58 0 = (n : Int)) (g_h : ∀ t, t < q → hI h 64 t = (G t : Int)) : ∀ (c u : Nat) (g : mH) (F : Nat → Nat) (mo : Nat) (X4 X5 X6 X7 : Option Value), u + c = q → wmF h g F → psW (nxG G) (glK K) (vlK n K) n F0 F mo (dnW A u 0) → ∃ (g1 : mH) (F1 : Nat → Nat) (mo1 : Nat) (Y4 Y5 Y6 Y7 : Option Value), (∀ q1, nRn sc (d + 1) (mMT mMe193) (mMC mMe193) (112, [some (.ref 53), some (sI ((A : Int))), some (sI ((mo1 : Int))), some (sI ((q : Int))), Y4, Y5, Y6, Y7], [], g1) q1 → nRn sc (d + 1) (mMT mMe193) (mMC mMe193) (27, [some (.ref 53), some (sI ((A : Int))), some (sI ((mo : Int))), some (sI ((u : Int))), X4, X5, X6, X7], [], g) q1) ∧ wmF h g1 F1 ∧ psW (nxG G) (glK K) (vlK n K) n F0 F1 mo1 (dnW A q 0) := by
  have p2 := p2_le hn6
  have p4 := p2_4 hK
  rw [hq] at p2
  intro c
  induction c with
  | zero =>
    intro u g F mo X4 X5 X6 X7 hu hC hS
    have e : u = q := by omega
    subst e
    obtain ⟨hg, f_g, l_g⟩ := id hC
    have n_g : hI g 58 0 = (n : Int) := by rw [hI_cg (f_g 58 0 (by omega))]; exact n_h
    refine ⟨g, F, mo, X4, X5, X6, X7, fun q1 hq1 => ?_, hC, hS⟩
    refine sP 3 (g1 := (30, [some (.ref 53), some (sI ((A : Int))), some (sI ((mo : Int))), some (sI ((u : Int))), X4, X5, X6, X7], [.ref 53, sI 1, sI ((u : Int))], g)) rfl ?_
    refine s_get (a := 53) (j := 4) hg rfl ⟨_, rfl⟩ rfl rfl rfl (v := .ref 58) (hR_ok hg (by decide +kernel)) ?_
    refine sP 1 (g1 := (32, [some (.ref 53), some (sI ((A : Int))), some (sI ((mo : Int))), some (sI ((u : Int))), X4, X5, X6, X7], [sI 0, .ref 58, sI 1, sI ((u : Int))], g)) rfl ?_
    refine s_iald (a := 58) (n := 201) (j := 0) hg rfl rfl rfl (by omega) (by omega) (by decide) (v := sI ((n : Int))) (by have q := hI_ok hg nw_p; rw [n_g] at q; exact q) ?_
    refine s_shl7 (a := n) rfl rfl (by omega) ?_
    rw [hq]
    refine s_icmp (q := .ge) (a := (u : Int)) (b := (u : Int)) rfl ⟨_, rfl⟩ rfl (by unfold sR aMi aMa; omega) (by unfold sR aMi aMa; omega) (fun hc1 => ?_) (fun hc1 => ?_)
    · have hc1 : (((u : Int)) : Int) ≤ ((u : Int)) := hc1
      exact hq1
    · have hc1 : ¬ ((((u : Int)) : Int) ≤ ((u : Int))) := hc1
      omega
  | succ c ih =>
    intro u g F mo X4 X5 X6 X7 hu hC hS
    obtain ⟨hg, f_g, l_g⟩ := id hC
    have n_g : hI g 58 0 = (n : Int) := by rw [hI_cg (f_g 58 0 (by omega))]; exact n_h
    obtain ⟨g1, F1, mo1, Y5, Y6, Y7, i1, i2, i3⟩ := fFarS (sc := sc) (d := d) (F0 := F0) hn6 hK hA hq hG n_h g_h (show u < q by omega) A 0 g F mo X5 X6 X7 (by omega) hC hS
    obtain ⟨k1, k2, k3, k4, k5, k6⟩ := i3
    have i4 : psW (nxG G) (glK K) (vlK n K) n F0 F1 mo1 (dnW A (u + 1) 0) := ⟨k1, k2, k3, k4, fun e => ⟨(k5 e).1, fun s hs => (k5 e).2 s ⟨hs.1, by
      rcases hs.2 with w | w
      · by_cases w1 : s / 16 = u
        · exact Or.inr ⟨w1, hs.1⟩
        · exact Or.inl (by omega)
      · omega⟩⟩, k6⟩
    obtain ⟨g2, F2, mo2, Z4, Z5, Z6, Z7, j1, j2, j3⟩ := ih (u + 1) g1 F1 mo1 (some (sI (A : Int))) Y5 Y6 Y7 (by omega) i2 i4
    refine ⟨g2, F2, mo2, Z4, Z5, Z6, Z7, fun q1 hq1 => ?_, j2, j3⟩
    have j1 := j1 q1 hq1
    refine sP 3 (g1 := (30, [some (.ref 53), some (sI ((A : Int))), some (sI ((mo : Int))), some (sI ((u : Int))), X4, X5, X6, X7], [.ref 53, sI 1, sI ((u : Int))], g)) rfl ?_
    refine s_get (a := 53) (j := 4) hg rfl ⟨_, rfl⟩ rfl rfl rfl (v := .ref 58) (hR_ok hg (by decide +kernel)) ?_
    refine sP 1 (g1 := (32, [some (.ref 53), some (sI ((A : Int))), some (sI ((mo : Int))), some (sI ((u : Int))), X4, X5, X6, X7], [sI 0, .ref 58, sI 1, sI ((u : Int))], g)) rfl ?_
    refine s_iald (a := 58) (n := 201) (j := 0) hg rfl rfl rfl (by omega) (by omega) (by decide) (v := sI ((n : Int))) (by have q := hI_ok hg nw_p; rw [n_g] at q; exact q) ?_
    refine s_shl7 (a := n) rfl rfl (by omega) ?_
    rw [hq]
    refine s_icmp (q := .ge) (a := (u : Int)) (b := (q : Int)) rfl ⟨_, rfl⟩ rfl (by unfold sR aMi aMa; omega) (by unfold sR aMi aMa; omega) (fun hc1 => ?_) (fun hc1 => ?_)
    · have hc1 : (((q : Int)) : Int) ≤ ((u : Int)) := hc1
      omega
    · have hc1 : ¬ ((((q : Int)) : Int) ≤ ((u : Int))) := hc1
      refine sP 2 (g1 := (37, [some (.ref 53), some (sI ((A : Int))), some (sI ((mo : Int))), some (sI ((u : Int))), some (sI 0), X5, X6, X7], [], g)) rfl ?_
      refine i1 _ ?_
      refine s_inc (a := (u : Int)) (n := 1) (k := 3) rfl rfl rfl ?_
      refine sP 1 (g1 := (27, [some (.ref 53), some (sI ((A : Int))), some (sI ((mo1 : Int))), some (sI (((u : Int)) + 1)), some (sI ((A : Int))), Y5, Y6, Y7], [], g1)) rfl ?_
      rw [show ((u : Int) + 1) = ((u + 1 : Nat) : Int) by omega]
      exact j1
theorem fFarW {n K A q : Nat} {G : Nat → Nat} (hn6 : n ≤ 6) (hK : K ≤ 4) (hA : A = 2 ^ K - 1) (hq : 2 ^ n = q) (hG : ∀ t, G t < 2 ^ K) (n_h : hI h 58 0 = (n : Int)) (g_h : ∀ t, t < q → hI h 64 t = (G t : Int)) : ∀ (S : Nat) (g : mH) (F : Nat → Nat) (X3 X4 X5 X6 X7 : Option Value), smW F 1024 = S → wmF h g F → fxS (nxG G) (glK K) (vlK n K) n F → (∀ s, F s ≤ 1000000) → ∃ g1, nRn sc (d + 1) (mMT mMe193) (mMC mMe193) (21, [some (.ref 53), some (sI ((A : Int))), some (sI 1), X3, X4, X5, X6, X7], [], g) (none, g1) ∧ ∃ F1, wmF h g1 F1 ∧ fxS (nxG G) (glK K) (vlK n K) n F1 ∧ fxE (nxG G) (glK K) (vlK n K) n F1 ∧ ∀ s, F1 s ≤ 1000000 := by
  have p2 := p2_le hn6
  have p4 := p2_4 hK
  rw [hq] at p2
  intro S
  induction S using Nat.strongRecOn with
  | _ S ih =>
    intro g F X3 X4 X5 X6 X7 hS hC hX hF
    obtain ⟨g1, F1, mo1, Y4, Y5, Y6, Y7, i1, i2, i3⟩ := fFarU (sc := sc) (d := d) (F0 := F) hn6 hK hA hq hG n_h g_h q 0 g F 0 X4 X5 X6 X7 (by omega) hC ⟨hX, hF, fun s _ => Nat.le_refl _, Or.inl rfl, fun _ => ⟨fun s _ => rfl, fun s hs => by have := hs.2; omega⟩, fun e => by cases e⟩
    obtain ⟨k1, k2, k3, k4, k5, k6⟩ := i3
    by_cases m0 : mo1 = 0
    · refine ⟨g1, ?_, F1, i2, k1, fun s hs hg a ha => (k5 m0).2 s ⟨?_, Or.inl (by rw [← hq]; exact hs.1)⟩ a ha, k2⟩
      rotate_left
      · have h1 := hs.2
        have h2 : ¬ s % 16 = 2 ^ K - 1 := hg
        omega
      refine sP 1 (g1 := (22, [some (.ref 53), some (sI ((A : Int))), some (sI 1), X3, X4, X5, X6, X7], [sI 1], g)) rfl ?_
      refine s_ifc (q := .eq) (a := 1) rfl ⟨_, rfl⟩ rfl (by unfold sR aMi aMa; omega) (fun hc1 => ?_) (fun hc1 => ?_)
      · have hc1 : (1 : Int) = 0 := hc1
        omega
      · have hc1 : ¬ ((1 : Int) = 0) := hc1
        refine sP 4 (g1 := (27, [some (.ref 53), some (sI ((A : Int))), some (sI 0), some (sI 0), X4, X5, X6, X7], [], g)) rfl ?_
        refine i1 _ ?_
        refine sP 2 (g1 := (22, [some (.ref 53), some (sI ((A : Int))), some (sI ((mo1 : Int))), some (sI ((q : Int))), Y4, Y5, Y6, Y7], [sI ((mo1 : Int))], g1)) rfl ?_
        refine s_ifc (q := .eq) (a := (mo1 : Int)) rfl ⟨_, rfl⟩ rfl (by unfold sR aMi aMa; omega) (fun hc2 => ?_) (fun hc2 => ?_)
        · have hc2 : (((mo1 : Int)) : Int) = 0 := hc2
          exact s_ret rfl rfl
        · have hc2 : ¬ ((((mo1 : Int)) : Int) = 0) := hc2
          omega
    · have m1 : mo1 = 1 := by omega
      subst m1
      obtain ⟨t, t1, t2⟩ := k6 rfl
      obtain ⟨g2, j1, j2⟩ := ih (smW F1 1024) (by rw [← hS]; exact smW_lt t2 1024 t1 k3) g1 F1 (some (sI (q : Int))) Y4 Y5 Y6 Y7 rfl i2 k1 k2
      refine ⟨g2, ?_, j2⟩
      refine sP 1 (g1 := (22, [some (.ref 53), some (sI ((A : Int))), some (sI 1), X3, X4, X5, X6, X7], [sI 1], g)) rfl ?_
      refine s_ifc (q := .eq) (a := 1) rfl ⟨_, rfl⟩ rfl (by unfold sR aMi aMa; omega) (fun hc1 => ?_) (fun hc1 => ?_)
      · have hc1 : (1 : Int) = 0 := hc1
        omega
      · have hc1 : ¬ ((1 : Int) = 0) := hc1
        refine sP 4 (g1 := (27, [some (.ref 53), some (sI ((A : Int))), some (sI 0), some (sI 0), X4, X5, X6, X7], [], g)) rfl ?_
        refine i1 _ ?_
        refine sP 1 (g1 := (21, [some (.ref 53), some (sI ((A : Int))), some (sI (((1 : Nat) : Int))), some (sI ((q : Int))), Y4, Y5, Y6, Y7], [], g1)) rfl ?_
        exact j1
theorem fLayF {n K A q : Nat} {G : Nat → Nat} (hh : aHp h) (hn6 : n ≤ 6) (hK : K ≤ 4) (hA : A = 2 ^ K - 1) (hq : 2 ^ n = q) (hG : ∀ t, G t < 2 ^ K) (n_h : hI h 58 0 = (n : Int)) (g_h : ∀ t, t < q → hI h 64 t = (G t : Int)) : ∃ g1, nEv sc (d + 2) 193 [.ref 53, sI (A : Int)] h (none, g1) ∧ ∃ F1, wmF h g1 F1 ∧ fxS (nxG G) (glK K) (vlK n K) n F1 ∧ fxE (nxG G) (glK K) (vlK n K) n F1 ∧ ∀ s, F1 s ≤ 1000000 := by
  have p2 := p2_le hn6
  have p4 := p2_4 hK
  obtain ⟨g, i1, i2, i3⟩ := fFar0 (sc := sc) (d := d) (A := A) (by omega) 1024 0 h (by omega) hh
  have hC : wmF h g (fun s => if s % 16 = A then 0 else 1000000) := by
    refine ⟨i2, fun p m w => by rw [i3, if_neg (by omega)], fun s hs => ?_⟩
    show hI g 63 s = ((if s % 16 = A then 0 else 1000000 : Nat) : Int)
    by_cases e : s % 16 = A
    · rw [if_pos e]
      exact hI_si (by rw [i3, if_pos (by omega), if_pos e]; rfl) (by unfold sR aMi aMa; omega)
    · rw [if_neg e]
      exact hI_si (by rw [i3, if_pos (by omega), if_neg e]; rfl) (by unfold sR aMi aMa; omega)
  have hX : fxS (nxG G) (glK K) (vlK n K) n (fun s => if s % 16 = A then 0 else 1000000) := by
    refine ⟨fun s _ hg => ?_, fun s _ hl => ?_⟩
    · have hg : s % 16 = 2 ^ K - 1 := hg
      show (if s % 16 = A then 0 else 1000000) = 0
      rw [if_pos (by omega)]
    · have hl : (if s % 16 = A then 0 else 1000000) < 1000000 := hl
      by_cases e : s % 16 = A
      · refine ⟨[], okW_nil n, ?_, ?_⟩
        · show 0 = (if s % 16 = A then 0 else 1000000)
          rw [if_pos e]
        · show s % 16 = 2 ^ K - 1
          omega
      · rw [if_neg e] at hl
        omega
  obtain ⟨g1, j1, j2⟩ := fFarW (sc := sc) (d := d) hn6 hK hA hq hG n_h g_h _ g _ none none none none none rfl hC hX (fun s => by
    show (if s % 16 = A then 0 else 1000000) ≤ 1000000
    split <;> omega)
  refine ⟨g1, nEv_of (t := mMe193) rfl ?_, j2⟩
  show nRn sc (d + 1) (mMT mMe193) (mMC mMe193) (0, [some (.ref 53), some (sI ((A : Int))), none, none, none, none, none, none], [], h) _
  refine sP 2 (g1 := (2, [some (.ref 53), some (sI ((A : Int))), some (sI 0), none, none, none, none, none], [], h)) rfl ?_
  refine i1 _ ?_
  refine sP 2 (g1 := (21, [some (.ref 53), some (sI ((A : Int))), some (sI 1), none, none, none, none, none], [], g)) rfl ?_
  exact j1
end LAYF
