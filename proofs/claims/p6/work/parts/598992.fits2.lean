/-! fits, in the reference; the calls -/
section FITM
variable {sc : List Int32} {d : Nat} {h : mH}
theorem fFitsML {r n K kd a b : Nat} {z w0 : Int} (hh : aHp h) (hr : r < 6) (hn : hI h 58 0 = n) (hk6 : kd < 6) (ha : a < 6) (hz : hI h 54 r = z) (hK : z = 2 * (K : Int)) (hK6 : K ≤ 6) (hs : ∀ j, j < K → 0 ≤ (fun j => hI h 55 (40 * r + j)) (2 * j) ∧ (fun j => hI h 55 (40 * r + j)) (2 * j) < 64) (hb : b < 6) (hkd : hI h 58 (1 + a) = (kd : Int)) (hw : hI h 58 (7 + (6 * a + b)) = w0) : ∀ (c v : Nat) (g : mH), v + c = 10 → aHp g → (∀ p m, ¬ (p = 58 ∧ m = 7 + (6 * a + b)) → aSlot g p m = aSlot h p m) → nRn sc (d + 3) (mMT mMe195) (mMC mMe195) (35, [some (.ref 53), some (sI (a : Int)), some (sI (b : Int)), some (sI (r : Int)), some (sI 0), some (sI w0), some (sI ((pFw (fun v => pNt (gUp (fun j => hI h 58 (7 + j)) (6 * a + b) v) n kd a (fun j => hI h 55 (40 * r + j)) K 0) v : Nat) : Int)), some (sI (v : Int))], [], g) (some (sI ((pFw (fun v => pNt (gUp (fun j => hI h 58 (7 + j)) (6 * a + b) v) n kd a (fun j => hI h 55 (40 * r + j)) K 0) 10 : Nat) : Int)), h) := by
  have gl := hI_rg hh (nw_lk (show 6 * a + b < 36 by omega))
  have gk := hI_rg hh (nw_kd ha)
  intro c
  induction c with
  | zero =>
    intro v g hv hg hs2
    have hv10 : v = 10 := by omega
    subst hv10
    have p10 := pFw_lt (fun v => pNt (gUp (fun j => hI h 58 (7 + j)) (6 * a + b) v) n kd a (fun j => hI h 55 (40 * r + j)) K 0) 10
    obtain ⟨g1, eg1⟩ : ∃ gz, gz = hset g 58 (7 + (6 * a + b)) (sI w0) := ⟨_, rfl⟩
    have sg1 : ∀ xa xm, aSlot g1 xa xm = if xa = 58 ∧ xm = 7 + (6 * a + b) then some (sI w0) else aSlot g xa xm := fun xa xm => by rw [eg1]; exact hset_slot hg (show sTg 58 = some (50, 201) from rfl) (by omega) xa xm
    have hg1 : aHp g1 := by rw [eg1]; exact hset_ii hg (nw_il (by omega)) (by omega) (by omega) (by unfold sR aMi aMa; omega)
    have eg : g1 = h := aHp_ext hh hg1 (fun p m => by
      rw [sg1]
      by_cases c : p = 58 ∧ m = 7 + (6 * a + b)
      · rw [if_pos c, c.1, c.2, hI_ok hh (nw_lk (show 6 * a + b < 36 by omega)), hw]
      · rw [if_neg c, hs2 p m c])
    have eg2 : ∀ q, nRn sc (d + 3) (mMT mMe195) (mMC mMe195) q (some (sI ((pFw (fun v => pNt (gUp (fun j => hI h 58 (7 + j)) (6 * a + b) v) n kd a (fun j => hI h 55 (40 * r + j)) K 0) 10 : Nat) : Int)), g1) → nRn sc (d + 3) (mMT mMe195) (mMC mMe195) q (some (sI ((pFw (fun v => pNt (gUp (fun j => hI h 58 (7 + j)) (6 * a + b) v) n kd a (fun j => hI h 55 (40 * r + j)) K 0) 10 : Nat) : Int)), h) := fun q w => by rw [eg] at w; exact w
    refine eg2 _ ?_
    refine sP 2 (g1 := (37, [some (.ref 53), some (sI ((a : Int))), some (sI ((b : Int))), some (sI ((r : Int))), some (sI 0), some (sI w0), some (sI (((pFw (fun v => pNt (gUp (fun j => hI h 58 (7 + j)) (6 * a + b) v) n kd a (fun j => hI h 55 (40 * r + j)) K 0) 10 : Nat) : Int))), some (sI (((10 : Nat) : Int)))], [sI 10, sI (((10 : Nat) : Int))], g)) rfl ?_
    refine s_icmp (q := .ge) (a := ((10 : Nat) : Int)) (b := 10) rfl ⟨_, rfl⟩ rfl (by unfold sR aMi aMa; omega) (by unfold sR aMi aMa; omega) (fun hc1 => ?_) (fun hc1 => ?_)
    · have hc1 : (10 : Int) ≤ (((10 : Nat) : Int)) := hc1
      refine sP 1 (g1 := (71, [some (.ref 53), some (sI ((a : Int))), some (sI ((b : Int))), some (sI ((r : Int))), some (sI 0), some (sI w0), some (sI (((pFw (fun v => pNt (gUp (fun j => hI h 58 (7 + j)) (6 * a + b) v) n kd a (fun j => hI h 55 (40 * r + j)) K 0) 10 : Nat) : Int))), some (sI (((10 : Nat) : Int)))], [.ref 53], g)) rfl ?_
      refine s_get (a := 53) (j := 4) hg rfl ⟨_, rfl⟩ rfl rfl rfl (v := .ref 58) (hR_ok hg (by decide +kernel)) ?_
      refine sP 3 (g1 := (75, [some (.ref 53), some (sI ((a : Int))), some (sI ((b : Int))), some (sI ((r : Int))), some (sI 0), some (sI w0), some (sI (((pFw (fun v => pNt (gUp (fun j => hI h 58 (7 + j)) (6 * a + b) v) n kd a (fun j => hI h 55 (40 * r + j)) K 0) 10 : Nat) : Int))), some (sI (((10 : Nat) : Int)))], [sI ((a : Int)), sI 6, sI 7, .ref 58], g)) rfl ?_
      refine s_mul (a := 6) (b := (a : Int)) rfl rfl ?_
      refine s_add (a := 7) (b := 6 * ((a : Int))) rfl rfl ?_
      refine sP 1 (g1 := (78, [some (.ref 53), some (sI ((a : Int))), some (sI ((b : Int))), some (sI ((r : Int))), some (sI 0), some (sI w0), some (sI (((pFw (fun v => pNt (gUp (fun j => hI h 58 (7 + j)) (6 * a + b) v) n kd a (fun j => hI h 55 (40 * r + j)) K 0) 10 : Nat) : Int))), some (sI (((10 : Nat) : Int)))], [sI ((b : Int)), sI (7 + (6 * ((a : Int)))), .ref 58], g)) rfl ?_
      refine s_add (a := 7 + (6 * ((a : Int)))) (b := (b : Int)) rfl rfl ?_
      refine sP 1 (g1 := (80, [some (.ref 53), some (sI ((a : Int))), some (sI ((b : Int))), some (sI ((r : Int))), some (sI 0), some (sI w0), some (sI (((pFw (fun v => pNt (gUp (fun j => hI h 58 (7 + j)) (6 * a + b) v) n kd a (fun j => hI h 55 (40 * r + j)) K 0) 10 : Nat) : Int))), some (sI (((10 : Nat) : Int)))], [sI w0, sI ((7 + (6 * ((a : Int)))) + ((b : Int))), .ref 58], g)) rfl ?_
      refine s_iast (a := 58) (n := 201) (j := (7 + (6 * ((a : Int)))) + ((b : Int))) hg rfl rfl (show sTg 58 = some (50, 201) from rfl) (by omega) (by omega) (by decide) ?_
      rw [show ((7 + (6 * ((a : Int)))) + ((b : Int)) : Int).toNat = 7 + (6 * a + b) by omega]
      rw [← eg1]
      refine sP 1 (g1 := (82, [some (.ref 53), some (sI ((a : Int))), some (sI ((b : Int))), some (sI ((r : Int))), some (sI 0), some (sI w0), some (sI (((pFw (fun v => pNt (gUp (fun j => hI h 58 (7 + j)) (6 * a + b) v) n kd a (fun j => hI h 55 (40 * r + j)) K 0) 10 : Nat) : Int))), some (sI (((10 : Nat) : Int)))], [sI (((pFw (fun v => pNt (gUp (fun j => hI h 58 (7 + j)) (6 * a + b) v) n kd a (fun j => hI h 55 (40 * r + j)) K 0) 10 : Nat) : Int))], g1)) rfl ?_
      exact s_reti rfl rfl (Or.inl rfl) rfl rfl
    · have hc1 : ¬ ((10 : Int) ≤ (((10 : Nat) : Int))) := hc1
      omega
  | succ c ih =>
    intro v g hv hg hs2
    have pv := pFw_lt (fun v => pNt (gUp (fun j => hI h 58 (7 + j)) (6 * a + b) v) n kd a (fun j => hI h 55 (40 * r + j)) K 0) v
    have p10 := p2_10 (show v ≤ 10 by omega)
    obtain ⟨g1, eg1⟩ : ∃ gz, gz = hset g 58 (7 + (6 * a + b)) (sI (v : Int)) := ⟨_, rfl⟩
    have sg1 : ∀ xa xm, aSlot g1 xa xm = if xa = 58 ∧ xm = 7 + (6 * a + b) then some (sI (v : Int)) else aSlot g xa xm := fun xa xm => by rw [eg1]; exact hset_slot hg (show sTg 58 = some (50, 201) from rfl) (by omega) xa xm
    have hg1 : aHp g1 := by rw [eg1]; exact hset_ii hg (nw_il (by omega)) (by omega) (by omega) (by unfold sR aMi aMa; omega)
    have hs3 : ∀ p m, ¬ (p = 58 ∧ m = 7 + (6 * a + b)) → aSlot g1 p m = aSlot h p m := fun p m w => by rw [sg1, if_neg w, hs2 p m w]
    have eG5 : (fun j => hI g1 58 (7 + j)) = gUp (fun j => hI h 58 (7 + j)) (6 * a + b) v := funext (fun i => by
      unfold gUp
      show hI g1 58 (7 + i) = if i = 6 * a + b then (v : Int) else hI h 58 (7 + i)
      by_cases w : i = 6 * a + b
      · rw [if_pos w, w]
        exact hI_si (by rw [sg1, if_pos (by omega)]) (by unfold sR aMi aMa; omega)
      · rw [if_neg w]
        exact hI_cg (hs3 58 _ (by omega)))
    have eR2 : (fun j => hI g1 55 (40 * r + j)) = (fun j => hI h 55 (40 * r + j)) := funext (fun i => hI_cg (hs3 55 _ (by omega)))
    have ek : hI g1 58 (1 + a) = (kd : Int) := (hI_cg (hs3 58 _ (by omega))).trans hkd
    have hs4 : ∀ j, j < K → 0 ≤ (fun j => hI g1 55 (40 * r + j)) (2 * j) ∧ (fun j => hI g1 55 (40 * r + j)) (2 * j) < 64 := by rw [eR2]; exact hs
    have ev := fIsSo (sc := sc) (d := d) (r := r) (n := n) (K := K) (kd := kd) (a := a) (z := z) hg1 hr ((hI_cg (hs3 58 0 (by omega))).trans hn) hk6 ha ((hI_cg (hs3 54 r (by omega))).trans hz) hK hK6 hs4
    rw [eG5, eR2] at ev
    have r1 := ih (v + 1) g1 (by omega) hg1 hs3
    have e1 : pFw (fun v => pNt (gUp (fun j => hI h 58 (7 + j)) (6 * a + b) v) n kd a (fun j => hI h 55 (40 * r + j)) K 0) (v + 1) = pFw (fun v => pNt (gUp (fun j => hI h 58 (7 + j)) (6 * a + b) v) n kd a (fun j => hI h 55 (40 * r + j)) K 0) v + (if pNt (gUp (fun j => hI h 58 (7 + j)) (6 * a + b) v) n kd a (fun j => hI h 55 (40 * r + j)) K 0 = true then 2 ^ v else 0) := rfl
    rw [e1] at r1
    cases hb2 : pNt (gUp (fun j => hI h 58 (7 + j)) (6 * a + b) v) n kd a (fun j => hI h 55 (40 * r + j)) K 0 with
    | true =>
      rw [hb2, if_pos rfl] at ev r1
      refine sP 2 (g1 := (37, [some (.ref 53), some (sI ((a : Int))), some (sI ((b : Int))), some (sI ((r : Int))), some (sI 0), some (sI w0), some (sI (((pFw (fun v => pNt (gUp (fun j => hI h 58 (7 + j)) (6 * a + b) v) n kd a (fun j => hI h 55 (40 * r + j)) K 0) v : Nat) : Int))), some (sI ((v : Int)))], [sI 10, sI ((v : Int))], g)) rfl ?_
      refine s_icmp (q := .ge) (a := (v : Int)) (b := 10) rfl ⟨_, rfl⟩ rfl (by unfold sR aMi aMa; omega) (by unfold sR aMi aMa; omega) (fun hc1 => ?_) (fun hc1 => ?_)
      · have hc1 : (10 : Int) ≤ ((v : Int)) := hc1
        omega
      · have hc1 : ¬ ((10 : Int) ≤ ((v : Int))) := hc1
        refine sP 1 (g1 := (39, [some (.ref 53), some (sI ((a : Int))), some (sI ((b : Int))), some (sI ((r : Int))), some (sI 0), some (sI w0), some (sI (((pFw (fun v => pNt (gUp (fun j => hI h 58 (7 + j)) (6 * a + b) v) n kd a (fun j => hI h 55 (40 * r + j)) K 0) v : Nat) : Int))), some (sI ((v : Int)))], [.ref 53], g)) rfl ?_
        refine s_get (a := 53) (j := 4) hg rfl ⟨_, rfl⟩ rfl rfl rfl (v := .ref 58) (hR_ok hg (by decide +kernel)) ?_
        refine sP 3 (g1 := (43, [some (.ref 53), some (sI ((a : Int))), some (sI ((b : Int))), some (sI ((r : Int))), some (sI 0), some (sI w0), some (sI (((pFw (fun v => pNt (gUp (fun j => hI h 58 (7 + j)) (6 * a + b) v) n kd a (fun j => hI h 55 (40 * r + j)) K 0) v : Nat) : Int))), some (sI ((v : Int)))], [sI ((a : Int)), sI 6, sI 7, .ref 58], g)) rfl ?_
        refine s_mul (a := 6) (b := (a : Int)) rfl rfl ?_
        refine s_add (a := 7) (b := 6 * ((a : Int))) rfl rfl ?_
        refine sP 1 (g1 := (46, [some (.ref 53), some (sI ((a : Int))), some (sI ((b : Int))), some (sI ((r : Int))), some (sI 0), some (sI w0), some (sI (((pFw (fun v => pNt (gUp (fun j => hI h 58 (7 + j)) (6 * a + b) v) n kd a (fun j => hI h 55 (40 * r + j)) K 0) v : Nat) : Int))), some (sI ((v : Int)))], [sI ((b : Int)), sI (7 + (6 * ((a : Int)))), .ref 58], g)) rfl ?_
        refine s_add (a := 7 + (6 * ((a : Int)))) (b := (b : Int)) rfl rfl ?_
        refine sP 1 (g1 := (48, [some (.ref 53), some (sI ((a : Int))), some (sI ((b : Int))), some (sI ((r : Int))), some (sI 0), some (sI w0), some (sI (((pFw (fun v => pNt (gUp (fun j => hI h 58 (7 + j)) (6 * a + b) v) n kd a (fun j => hI h 55 (40 * r + j)) K 0) v : Nat) : Int))), some (sI ((v : Int)))], [sI ((v : Int)), sI ((7 + (6 * ((a : Int)))) + ((b : Int))), .ref 58], g)) rfl ?_
        refine s_iast (a := 58) (n := 201) (j := (7 + (6 * ((a : Int)))) + ((b : Int))) hg rfl rfl (show sTg 58 = some (50, 201) from rfl) (by omega) (by omega) (by decide) ?_
        rw [show ((7 + (6 * ((a : Int)))) + ((b : Int)) : Int).toNat = 7 + (6 * a + b) by omega]
        rw [← eg1]
        refine sP 4 (g1 := (53, [some (.ref 53), some (sI ((a : Int))), some (sI ((b : Int))), some (sI ((r : Int))), some (sI 0), some (sI w0), some (sI (((pFw (fun v => pNt (gUp (fun j => hI h 58 (7 + j)) (6 * a + b) v) n kd a (fun j => hI h 55 (40 * r + j)) K 0) v : Nat) : Int))), some (sI ((v : Int)))], [.ref 53, sI ((a : Int)), .ref 53, sI (((pFw (fun v => pNt (gUp (fun j => hI h 58 (7 + j)) (6 * a + b) v) n kd a (fun j => hI h 55 (40 * r + j)) K 0) v : Nat) : Int))], g1)) rfl ?_
        refine s_get (a := 53) (j := 4) hg1 rfl ⟨_, rfl⟩ rfl rfl rfl (v := .ref 58) (hR_ok hg1 (by decide +kernel)) ?_
        refine sP 2 (g1 := (56, [some (.ref 53), some (sI ((a : Int))), some (sI ((b : Int))), some (sI ((r : Int))), some (sI 0), some (sI w0), some (sI (((pFw (fun v => pNt (gUp (fun j => hI h 58 (7 + j)) (6 * a + b) v) n kd a (fun j => hI h 55 (40 * r + j)) K 0) v : Nat) : Int))), some (sI ((v : Int)))], [sI ((a : Int)), sI 1, .ref 58, sI ((a : Int)), .ref 53, sI (((pFw (fun v => pNt (gUp (fun j => hI h 58 (7 + j)) (6 * a + b) v) n kd a (fun j => hI h 55 (40 * r + j)) K 0) v : Nat) : Int))], g1)) rfl ?_
        refine s_add (a := 1) (b := (a : Int)) rfl rfl ?_
        refine s_iald (a := 58) (n := 201) (j := 1 + ((a : Int))) hg1 rfl rfl rfl (by omega) (by omega) (by decide) (v := sI ((kd : Int))) (by rw [show (1 + ((a : Int)) : Int).toNat = 1 + a by omega]; have q := hI_ok hg1 (nw_kd ha); rw [ek] at q; exact q) ?_
        refine sP 1 (g1 := (59, [some (.ref 53), some (sI ((a : Int))), some (sI ((b : Int))), some (sI ((r : Int))), some (sI 0), some (sI w0), some (sI (((pFw (fun v => pNt (gUp (fun j => hI h 58 (7 + j)) (6 * a + b) v) n kd a (fun j => hI h 55 (40 * r + j)) K 0) v : Nat) : Int))), some (sI ((v : Int)))], [sI ((r : Int)), sI ((kd : Int)), sI ((a : Int)), .ref 53, sI (((pFw (fun v => pNt (gUp (fun j => hI h 58 (7 + j)) (6 * a + b) v) n kd a (fun j => hI h 55 (40 * r + j)) K 0) v : Nat) : Int))], g1)) rfl ?_
        refine s_call (k := 197) (args := [.ref 53, sI ((a : Int)), sI ((kd : Int)), sI ((r : Int))]) (st := [sI (((pFw (fun v => pNt (gUp (fun j => hI h 58 (7 + j)) (6 * a + b) v) n kd a (fun j => hI h 55 (40 * r + j)) K 0) v : Nat) : Int))]) (v := some (sI 1)) (h1 := g1) rfl ⟨rfl, rfl⟩ rfl rfl rfl rfl (sRcv hg1 (a := 53) rfl rfl) rfl ev ?_
        refine s_ifc (q := .eq) (a := 1) rfl ⟨_, rfl⟩ rfl (by unfold sR aMi aMa; omega) (fun hc2 => ?_) (fun hc2 => ?_)
        · have hc2 : (1 : Int) = 0 := hc2
          omega
        · have hc2 : ¬ ((1 : Int) = 0) := hc2
          refine sP 2 (g1 := (63, [some (.ref 53), some (sI ((a : Int))), some (sI ((b : Int))), some (sI ((r : Int))), some (sI 0), some (sI w0), some (sI (((pFw (fun v => pNt (gUp (fun j => hI h 58 (7 + j)) (6 * a + b) v) n kd a (fun j => hI h 55 (40 * r + j)) K 0) v : Nat) : Int))), some (sI ((v : Int)))], [sI ((v : Int)), sI 1, sI (((pFw (fun v => pNt (gUp (fun j => hI h 58 (7 + j)) (6 * a + b) v) n kd a (fun j => hI h 55 (40 * r + j)) K 0) v : Nat) : Int))], g1)) rfl ?_
          refine s_shl7 (a := v) rfl rfl (by omega) ?_
          refine sP 1 (g1 := (66, [some (.ref 53), some (sI ((a : Int))), some (sI ((b : Int))), some (sI ((r : Int))), some (sI 0), some (sI w0), some (sI (((pFw (fun v => pNt (gUp (fun j => hI h 58 (7 + j)) (6 * a + b) v) n kd a (fun j => hI h 55 (40 * r + j)) K 0) v : Nat) : Int))), some (sI ((v : Int)))], [sI (((2 ^ v : Nat) : Int)), sI (((pFw (fun v => pNt (gUp (fun j => hI h 58 (7 + j)) (6 * a + b) v) n kd a (fun j => hI h 55 (40 * r + j)) K 0) v : Nat) : Int))], g1)) rfl ?_
          refine s_b1 rfl rfl (b_or2 v (by omega) (pFw (fun v => pNt (gUp (fun j => hI h 58 (7 + j)) (6 * a + b) v) n kd a (fun j => hI h 55 (40 * r + j)) K 0) v) (by omega) pv) ?_
          refine sP 1 (g1 := (68, [some (.ref 53), some (sI ((a : Int))), some (sI ((b : Int))), some (sI ((r : Int))), some (sI 0), some (sI w0), some (sI (((pFw (fun v => pNt (gUp (fun j => hI h 58 (7 + j)) (6 * a + b) v) n kd a (fun j => hI h 55 (40 * r + j)) K 0) v + 2 ^ v : Nat) : Int))), some (sI ((v : Int)))], [], g1)) rfl ?_
          refine s_inc (a := (v : Int)) (n := 1) (k := 7) rfl rfl rfl ?_
          refine sP 1 (g1 := (35, [some (.ref 53), some (sI ((a : Int))), some (sI ((b : Int))), some (sI ((r : Int))), some (sI 0), some (sI w0), some (sI (((pFw (fun v => pNt (gUp (fun j => hI h 58 (7 + j)) (6 * a + b) v) n kd a (fun j => hI h 55 (40 * r + j)) K 0) v + 2 ^ v : Nat) : Int))), some (sI (((v : Int)) + 1))], [], g1)) rfl ?_
          rw [show ((v : Int) + 1) = ((v + 1 : Nat) : Int) by omega]
          exact r1
    | false =>
      rw [hb2, if_neg (by decide)] at ev r1
      rw [Nat.add_zero] at r1
      refine sP 2 (g1 := (37, [some (.ref 53), some (sI ((a : Int))), some (sI ((b : Int))), some (sI ((r : Int))), some (sI 0), some (sI w0), some (sI (((pFw (fun v => pNt (gUp (fun j => hI h 58 (7 + j)) (6 * a + b) v) n kd a (fun j => hI h 55 (40 * r + j)) K 0) v : Nat) : Int))), some (sI ((v : Int)))], [sI 10, sI ((v : Int))], g)) rfl ?_
      refine s_icmp (q := .ge) (a := (v : Int)) (b := 10) rfl ⟨_, rfl⟩ rfl (by unfold sR aMi aMa; omega) (by unfold sR aMi aMa; omega) (fun hc1 => ?_) (fun hc1 => ?_)
      · have hc1 : (10 : Int) ≤ ((v : Int)) := hc1
        omega
      · have hc1 : ¬ ((10 : Int) ≤ ((v : Int))) := hc1
        refine sP 1 (g1 := (39, [some (.ref 53), some (sI ((a : Int))), some (sI ((b : Int))), some (sI ((r : Int))), some (sI 0), some (sI w0), some (sI (((pFw (fun v => pNt (gUp (fun j => hI h 58 (7 + j)) (6 * a + b) v) n kd a (fun j => hI h 55 (40 * r + j)) K 0) v : Nat) : Int))), some (sI ((v : Int)))], [.ref 53], g)) rfl ?_
        refine s_get (a := 53) (j := 4) hg rfl ⟨_, rfl⟩ rfl rfl rfl (v := .ref 58) (hR_ok hg (by decide +kernel)) ?_
        refine sP 3 (g1 := (43, [some (.ref 53), some (sI ((a : Int))), some (sI ((b : Int))), some (sI ((r : Int))), some (sI 0), some (sI w0), some (sI (((pFw (fun v => pNt (gUp (fun j => hI h 58 (7 + j)) (6 * a + b) v) n kd a (fun j => hI h 55 (40 * r + j)) K 0) v : Nat) : Int))), some (sI ((v : Int)))], [sI ((a : Int)), sI 6, sI 7, .ref 58], g)) rfl ?_
        refine s_mul (a := 6) (b := (a : Int)) rfl rfl ?_
        refine s_add (a := 7) (b := 6 * ((a : Int))) rfl rfl ?_
        refine sP 1 (g1 := (46, [some (.ref 53), some (sI ((a : Int))), some (sI ((b : Int))), some (sI ((r : Int))), some (sI 0), some (sI w0), some (sI (((pFw (fun v => pNt (gUp (fun j => hI h 58 (7 + j)) (6 * a + b) v) n kd a (fun j => hI h 55 (40 * r + j)) K 0) v : Nat) : Int))), some (sI ((v : Int)))], [sI ((b : Int)), sI (7 + (6 * ((a : Int)))), .ref 58], g)) rfl ?_
        refine s_add (a := 7 + (6 * ((a : Int)))) (b := (b : Int)) rfl rfl ?_
        refine sP 1 (g1 := (48, [some (.ref 53), some (sI ((a : Int))), some (sI ((b : Int))), some (sI ((r : Int))), some (sI 0), some (sI w0), some (sI (((pFw (fun v => pNt (gUp (fun j => hI h 58 (7 + j)) (6 * a + b) v) n kd a (fun j => hI h 55 (40 * r + j)) K 0) v : Nat) : Int))), some (sI ((v : Int)))], [sI ((v : Int)), sI ((7 + (6 * ((a : Int)))) + ((b : Int))), .ref 58], g)) rfl ?_
        refine s_iast (a := 58) (n := 201) (j := (7 + (6 * ((a : Int)))) + ((b : Int))) hg rfl rfl (show sTg 58 = some (50, 201) from rfl) (by omega) (by omega) (by decide) ?_
        rw [show ((7 + (6 * ((a : Int)))) + ((b : Int)) : Int).toNat = 7 + (6 * a + b) by omega]
        rw [← eg1]
        refine sP 4 (g1 := (53, [some (.ref 53), some (sI ((a : Int))), some (sI ((b : Int))), some (sI ((r : Int))), some (sI 0), some (sI w0), some (sI (((pFw (fun v => pNt (gUp (fun j => hI h 58 (7 + j)) (6 * a + b) v) n kd a (fun j => hI h 55 (40 * r + j)) K 0) v : Nat) : Int))), some (sI ((v : Int)))], [.ref 53, sI ((a : Int)), .ref 53, sI (((pFw (fun v => pNt (gUp (fun j => hI h 58 (7 + j)) (6 * a + b) v) n kd a (fun j => hI h 55 (40 * r + j)) K 0) v : Nat) : Int))], g1)) rfl ?_
        refine s_get (a := 53) (j := 4) hg1 rfl ⟨_, rfl⟩ rfl rfl rfl (v := .ref 58) (hR_ok hg1 (by decide +kernel)) ?_
        refine sP 2 (g1 := (56, [some (.ref 53), some (sI ((a : Int))), some (sI ((b : Int))), some (sI ((r : Int))), some (sI 0), some (sI w0), some (sI (((pFw (fun v => pNt (gUp (fun j => hI h 58 (7 + j)) (6 * a + b) v) n kd a (fun j => hI h 55 (40 * r + j)) K 0) v : Nat) : Int))), some (sI ((v : Int)))], [sI ((a : Int)), sI 1, .ref 58, sI ((a : Int)), .ref 53, sI (((pFw (fun v => pNt (gUp (fun j => hI h 58 (7 + j)) (6 * a + b) v) n kd a (fun j => hI h 55 (40 * r + j)) K 0) v : Nat) : Int))], g1)) rfl ?_
        refine s_add (a := 1) (b := (a : Int)) rfl rfl ?_
        refine s_iald (a := 58) (n := 201) (j := 1 + ((a : Int))) hg1 rfl rfl rfl (by omega) (by omega) (by decide) (v := sI ((kd : Int))) (by rw [show (1 + ((a : Int)) : Int).toNat = 1 + a by omega]; have q := hI_ok hg1 (nw_kd ha); rw [ek] at q; exact q) ?_
        refine sP 1 (g1 := (59, [some (.ref 53), some (sI ((a : Int))), some (sI ((b : Int))), some (sI ((r : Int))), some (sI 0), some (sI w0), some (sI (((pFw (fun v => pNt (gUp (fun j => hI h 58 (7 + j)) (6 * a + b) v) n kd a (fun j => hI h 55 (40 * r + j)) K 0) v : Nat) : Int))), some (sI ((v : Int)))], [sI ((r : Int)), sI ((kd : Int)), sI ((a : Int)), .ref 53, sI (((pFw (fun v => pNt (gUp (fun j => hI h 58 (7 + j)) (6 * a + b) v) n kd a (fun j => hI h 55 (40 * r + j)) K 0) v : Nat) : Int))], g1)) rfl ?_
        refine s_call (k := 197) (args := [.ref 53, sI ((a : Int)), sI ((kd : Int)), sI ((r : Int))]) (st := [sI (((pFw (fun v => pNt (gUp (fun j => hI h 58 (7 + j)) (6 * a + b) v) n kd a (fun j => hI h 55 (40 * r + j)) K 0) v : Nat) : Int))]) (v := some (sI 0)) (h1 := g1) rfl ⟨rfl, rfl⟩ rfl rfl rfl rfl (sRcv hg1 (a := 53) rfl rfl) rfl ev ?_
        refine s_ifc (q := .eq) (a := 0) rfl ⟨_, rfl⟩ rfl (by unfold sR aMi aMa; omega) (fun hc2 => ?_) (fun hc2 => ?_)
        · have hc2 : (0 : Int) = 0 := hc2
          refine sP 1 (g1 := (66, [some (.ref 53), some (sI ((a : Int))), some (sI ((b : Int))), some (sI ((r : Int))), some (sI 0), some (sI w0), some (sI (((pFw (fun v => pNt (gUp (fun j => hI h 58 (7 + j)) (6 * a + b) v) n kd a (fun j => hI h 55 (40 * r + j)) K 0) v : Nat) : Int))), some (sI ((v : Int)))], [sI 0, sI (((pFw (fun v => pNt (gUp (fun j => hI h 58 (7 + j)) (6 * a + b) v) n kd a (fun j => hI h 55 (40 * r + j)) K 0) v : Nat) : Int))], g1)) rfl ?_
          refine s_b1 rfl rfl (b_or0 (pFw (fun v => pNt (gUp (fun j => hI h 58 (7 + j)) (6 * a + b) v) n kd a (fun j => hI h 55 (40 * r + j)) K 0) v) (by omega)) ?_
          refine sP 1 (g1 := (68, [some (.ref 53), some (sI ((a : Int))), some (sI ((b : Int))), some (sI ((r : Int))), some (sI 0), some (sI w0), some (sI (((pFw (fun v => pNt (gUp (fun j => hI h 58 (7 + j)) (6 * a + b) v) n kd a (fun j => hI h 55 (40 * r + j)) K 0) v : Nat) : Int))), some (sI ((v : Int)))], [], g1)) rfl ?_
          refine s_inc (a := (v : Int)) (n := 1) (k := 7) rfl rfl rfl ?_
          refine sP 1 (g1 := (35, [some (.ref 53), some (sI ((a : Int))), some (sI ((b : Int))), some (sI ((r : Int))), some (sI 0), some (sI w0), some (sI (((pFw (fun v => pNt (gUp (fun j => hI h 58 (7 + j)) (6 * a + b) v) n kd a (fun j => hI h 55 (40 * r + j)) K 0) v : Nat) : Int))), some (sI (((v : Int)) + 1))], [], g1)) rfl ?_
          rw [show ((v : Int) + 1) = ((v + 1 : Nat) : Int) by omega]
          exact r1
        · have hc2 : ¬ ((0 : Int) = 0) := hc2
          omega
theorem fFitsXb0 {a b r : Int} (hh : aHp h) (ra : sR a) (rb : sR b) (rr : sR r) (hc : ¬ (0 ≤ r ∧ r < 6)) : nEv sc (d + 5) 91 [.ref 0, sI a, sI b, sI r] h (some (sI (-1)), h) := by
  have gp := hI_rg hh xw_p
  unfold sR aMi aMa at ra rb rr
  refine nEv_of (t := mMe91) rfl ?_
  show nRn sc (d + 4) (mMT mMe91) (mMC mMe91) (0, [some (.ref 0), some (sI a), some (sI b), some (sI r), none, none, none, none, none, none], [], h) _
  refine sP 2 (g1 := (2, [some (.ref 0), some (sI a), some (sI b), some (sI r), none, none, none, none, none, none], [sI r, .ref 0], h)) rfl ?_
  refine s_call (k := 8) (args := [.ref 0, sI r]) (st := []) (v := some (.null)) (h1 := h) rfl ⟨rfl, rfl⟩ rfl rfl rfl rfl (sRcv hh (a := 0) rfl rfl) rfl (fRowNo (by unfold sR aMi aMa; omega) (by omega)) ?_
  refine sP 2 (g1 := (5, [some (.ref 0), some (sI a), some (sI b), some (sI r), some (.null), none, none, none, none, none], [.null], h)) rfl ?_
  refine s_nil rfl (Or.inl ⟨⟨_, rfl⟩, rfl⟩) ?_
  refine sP 1 (g1 := (13, [some (.ref 0), some (sI a), some (sI b), some (sI r), some (.null), none, none, none, none, none], [sI ((-1))], h)) rfl ?_
  exact s_reti rfl rfl (Or.inl rfl) rfl rfl
theorem fFitsXb1 {a b : Int} {r : Nat} (hh : aHp h) (ra : sR a) (rb : sR b) (hr : r < 6) (hc : ¬ ((0 ≤ a ∧ a < hI h 3 3) ∧ (0 ≤ b ∧ b < hI h 3 3) ∧ a ≠ b)) : nEv sc (d + 5) 91 [.ref 0, sI a, sI b, sI (r : Int)] h (some (sI (-1)), h) := by
  have gp := hI_rg hh xw_p
  unfold sR aMi aMa at ra rb
  refine nEv_of (t := mMe91) rfl ?_
  show nRn sc (d + 4) (mMT mMe91) (mMC mMe91) (0, [some (.ref 0), some (sI a), some (sI b), some (sI ((r : Int))), none, none, none, none, none, none], [], h) _
  refine sP 2 (g1 := (2, [some (.ref 0), some (sI a), some (sI b), some (sI ((r : Int))), none, none, none, none, none, none], [sI ((r : Int)), .ref 0], h)) rfl ?_
  refine s_call (k := 8) (args := [.ref 0, sI ((r : Int))]) (st := []) (v := some (.ref (21 + 2 * r))) (h1 := h) rfl ⟨rfl, rfl⟩ rfl rfl rfl rfl (sRcv hh (a := 0) rfl rfl) rfl (fRowAt hh hr) ?_
  refine sP 2 (g1 := (5, [some (.ref 0), some (sI a), some (sI b), some (sI ((r : Int))), some (.ref (21 + 2 * r)), none, none, none, none, none], [.ref (21 + 2 * r)], h)) rfl ?_
  refine s_null rfl (Or.inl ⟨⟨_, rfl⟩, rfl⟩) ?_
  refine sP 1 (g1 := (7, [some (.ref 0), some (sI a), some (sI b), some (sI ((r : Int))), some (.ref (21 + 2 * r)), none, none, none, none, none], [.ref 0], h)) rfl ?_
  refine s_get (a := 0) (j := 2) hh rfl ⟨_, rfl⟩ rfl rfl rfl (v := .ref 3) (hR_ok hh (by decide +kernel)) ?_
  refine sP 2 (g1 := (10, [some (.ref 0), some (sI a), some (sI b), some (sI ((r : Int))), some (.ref (21 + 2 * r)), none, none, none, none, none], [sI b, sI a, .ref 3], h)) rfl ?_
  have ev1 := fHasTwoX (sc := sc) (d := d + 2) (a := a) (b := b) hh (by unfold sR aMi aMa; omega) (by unfold sR aMi aMa; omega)
  rw [if_neg (by omega)] at ev1
  refine s_call (k := 60) (args := [.ref 3, sI a, sI b]) (st := []) (v := some (sI 0)) (h1 := h) rfl ⟨rfl, rfl⟩ rfl rfl rfl rfl (sRcv hh (a := 3) rfl rfl) rfl ev1 ?_
  refine s_ifc (q := .ne) (a := 0) rfl ⟨_, rfl⟩ rfl (by unfold sR aMi aMa; omega) (fun hc2 => ?_) (fun hc2 => ?_)
  · have hc2 : (0 : Int) ≠ 0 := hc2
    omega
  · have hc2 : ¬ ((0 : Int) ≠ 0) := hc2
    refine sP 1 (g1 := (13, [some (.ref 0), some (sI a), some (sI b), some (sI ((r : Int))), some (.ref (21 + 2 * r)), none, none, none, none, none], [sI ((-1))], h)) rfl ?_
    exact s_reti rfl rfl (Or.inl rfl) rfl rfl
theorem fFitsMb0 {a b r : Int} (hh : aHp h) (ra : sR a) (rb : sR b) (rr : sR r) (hc : ¬ (0 ≤ a ∧ a < hI h 58 0)) : nEv sc (d + 5) 195 [.ref 53, sI a, sI b, sI r] h (some (sI (-1)), h) := by
  have gp := hI_rg hh nw_p
  unfold sR aMi aMa at ra rb rr
  refine nEv_of (t := mMe195) rfl ?_
  show nRn sc (d + 4) (mMT mMe195) (mMC mMe195) (0, [some (.ref 53), some (sI a), some (sI b), some (sI r), none, none, none, none], [], h) _
  refine sP 2 (g1 := (2, [some (.ref 53), some (sI a), some (sI b), some (sI r), none, none, none, none], [sI a, .ref 53], h)) rfl ?_
  have ev1 := fIsPerson (sc := sc) (d := d + 2) (a := a) hh (by unfold sR aMi aMa; omega)
  rw [if_neg (by omega)] at ev1
  refine s_call (k := 147) (args := [.ref 53, sI a]) (st := []) (v := some (sI 0)) (h1 := h) rfl ⟨rfl, rfl⟩ rfl rfl rfl rfl (sRcv hh (a := 53) rfl rfl) rfl ev1 ?_
  refine s_ifc (q := .eq) (a := 0) rfl ⟨_, rfl⟩ rfl (by unfold sR aMi aMa; omega) (fun hc2 => ?_) (fun hc2 => ?_)
  · have hc2 : (0 : Int) = 0 := hc2
    refine sP 1 (g1 := (15, [some (.ref 53), some (sI a), some (sI b), some (sI r), none, none, none, none], [sI ((-1))], h)) rfl ?_
    exact s_reti rfl rfl (Or.inl rfl) rfl rfl
  · have hc2 : ¬ ((0 : Int) = 0) := hc2
    omega
theorem fFitsMb1 {a b r : Int} (hh : aHp h) (ra : sR a) (rb : sR b) (rr : sR r) (hc : (0 ≤ a ∧ a < hI h 58 0) ∧ ¬ (0 ≤ b ∧ b < hI h 58 0)) : nEv sc (d + 5) 195 [.ref 53, sI a, sI b, sI r] h (some (sI (-1)), h) := by
  have gp := hI_rg hh nw_p
  unfold sR aMi aMa at ra rb rr
  refine nEv_of (t := mMe195) rfl ?_
  show nRn sc (d + 4) (mMT mMe195) (mMC mMe195) (0, [some (.ref 53), some (sI a), some (sI b), some (sI r), none, none, none, none], [], h) _
  refine sP 2 (g1 := (2, [some (.ref 53), some (sI a), some (sI b), some (sI r), none, none, none, none], [sI a, .ref 53], h)) rfl ?_
  have ev1 := fIsPerson (sc := sc) (d := d + 2) (a := a) hh (by unfold sR aMi aMa; omega)
  rw [if_pos (by omega)] at ev1
  refine s_call (k := 147) (args := [.ref 53, sI a]) (st := []) (v := some (sI 1)) (h1 := h) rfl ⟨rfl, rfl⟩ rfl rfl rfl rfl (sRcv hh (a := 53) rfl rfl) rfl ev1 ?_
  refine s_ifc (q := .eq) (a := 1) rfl ⟨_, rfl⟩ rfl (by unfold sR aMi aMa; omega) (fun hc2 => ?_) (fun hc2 => ?_)
  · have hc2 : (1 : Int) = 0 := hc2
    omega
  · have hc2 : ¬ ((1 : Int) = 0) := hc2
    refine sP 2 (g1 := (6, [some (.ref 53), some (sI a), some (sI b), some (sI r), none, none, none, none], [sI b, .ref 53], h)) rfl ?_
    have ev3 := fIsPerson (sc := sc) (d := d + 2) (a := b) hh (by unfold sR aMi aMa; omega)
    rw [if_neg (by omega)] at ev3
    refine s_call (k := 147) (args := [.ref 53, sI b]) (st := []) (v := some (sI 0)) (h1 := h) rfl ⟨rfl, rfl⟩ rfl rfl rfl rfl (sRcv hh (a := 53) rfl rfl) rfl ev3 ?_
    refine s_ifc (q := .eq) (a := 0) rfl ⟨_, rfl⟩ rfl (by unfold sR aMi aMa; omega) (fun hc4 => ?_) (fun hc4 => ?_)
    · have hc4 : (0 : Int) = 0 := hc4
      refine sP 1 (g1 := (15, [some (.ref 53), some (sI a), some (sI b), some (sI r), none, none, none, none], [sI ((-1))], h)) rfl ?_
      exact s_reti rfl rfl (Or.inl rfl) rfl rfl
    · have hc4 : ¬ ((0 : Int) = 0) := hc4
      omega
theorem fFitsMb2 {a b r : Int} (hh : aHp h) (ra : sR a) (rb : sR b) (rr : sR r) (hc : (0 ≤ a ∧ a < hI h 58 0) ∧ (0 ≤ b ∧ b < hI h 58 0) ∧ a = b) : nEv sc (d + 5) 195 [.ref 53, sI a, sI b, sI r] h (some (sI (-1)), h) := by
  have gp := hI_rg hh nw_p
  unfold sR aMi aMa at ra rb rr
  refine nEv_of (t := mMe195) rfl ?_
  show nRn sc (d + 4) (mMT mMe195) (mMC mMe195) (0, [some (.ref 53), some (sI a), some (sI b), some (sI r), none, none, none, none], [], h) _
  refine sP 2 (g1 := (2, [some (.ref 53), some (sI a), some (sI b), some (sI r), none, none, none, none], [sI a, .ref 53], h)) rfl ?_
  have ev1 := fIsPerson (sc := sc) (d := d + 2) (a := a) hh (by unfold sR aMi aMa; omega)
  rw [if_pos (by omega)] at ev1
  refine s_call (k := 147) (args := [.ref 53, sI a]) (st := []) (v := some (sI 1)) (h1 := h) rfl ⟨rfl, rfl⟩ rfl rfl rfl rfl (sRcv hh (a := 53) rfl rfl) rfl ev1 ?_
  refine s_ifc (q := .eq) (a := 1) rfl ⟨_, rfl⟩ rfl (by unfold sR aMi aMa; omega) (fun hc2 => ?_) (fun hc2 => ?_)
  · have hc2 : (1 : Int) = 0 := hc2
    omega
  · have hc2 : ¬ ((1 : Int) = 0) := hc2
    refine sP 2 (g1 := (6, [some (.ref 53), some (sI a), some (sI b), some (sI r), none, none, none, none], [sI b, .ref 53], h)) rfl ?_
    have ev3 := fIsPerson (sc := sc) (d := d + 2) (a := b) hh (by unfold sR aMi aMa; omega)
    rw [if_pos (by omega)] at ev3
    refine s_call (k := 147) (args := [.ref 53, sI b]) (st := []) (v := some (sI 1)) (h1 := h) rfl ⟨rfl, rfl⟩ rfl rfl rfl rfl (sRcv hh (a := 53) rfl rfl) rfl ev3 ?_
    refine s_ifc (q := .eq) (a := 1) rfl ⟨_, rfl⟩ rfl (by unfold sR aMi aMa; omega) (fun hc4 => ?_) (fun hc4 => ?_)
    · have hc4 : (1 : Int) = 0 := hc4
      omega
    · have hc4 : ¬ ((1 : Int) = 0) := hc4
      refine sP 2 (g1 := (10, [some (.ref 53), some (sI a), some (sI b), some (sI r), none, none, none, none], [sI b, sI a], h)) rfl ?_
      refine s_icmp (q := .eq) (a := a) (b := b) rfl ⟨_, rfl⟩ rfl (by unfold sR aMi aMa; omega) (by unfold sR aMi aMa; omega) (fun hc5 => ?_) (fun hc5 => ?_)
      · have hc5 : (a : Int) = b := hc5
        refine sP 1 (g1 := (15, [some (.ref 53), some (sI a), some (sI b), some (sI r), none, none, none, none], [sI ((-1))], h)) rfl ?_
        exact s_reti rfl rfl (Or.inl rfl) rfl rfl
      · have hc5 : ¬ ((a : Int) = b) := hc5
        omega
theorem fFitsMb3 {a b r : Int} (hh : aHp h) (ra : sR a) (rb : sR b) (rr : sR r) (hc : ((0 ≤ a ∧ a < hI h 58 0) ∧ (0 ≤ b ∧ b < hI h 58 0) ∧ a ≠ b) ∧ ¬ (0 ≤ r ∧ r < 6)) : nEv sc (d + 5) 195 [.ref 53, sI a, sI b, sI r] h (some (sI (-1)), h) := by
  have gp := hI_rg hh nw_p
  unfold sR aMi aMa at ra rb rr
  refine nEv_of (t := mMe195) rfl ?_
  show nRn sc (d + 4) (mMT mMe195) (mMC mMe195) (0, [some (.ref 53), some (sI a), some (sI b), some (sI r), none, none, none, none], [], h) _
  refine sP 2 (g1 := (2, [some (.ref 53), some (sI a), some (sI b), some (sI r), none, none, none, none], [sI a, .ref 53], h)) rfl ?_
  have ev1 := fIsPerson (sc := sc) (d := d + 2) (a := a) hh (by unfold sR aMi aMa; omega)
  rw [if_pos (by omega)] at ev1
  refine s_call (k := 147) (args := [.ref 53, sI a]) (st := []) (v := some (sI 1)) (h1 := h) rfl ⟨rfl, rfl⟩ rfl rfl rfl rfl (sRcv hh (a := 53) rfl rfl) rfl ev1 ?_
  refine s_ifc (q := .eq) (a := 1) rfl ⟨_, rfl⟩ rfl (by unfold sR aMi aMa; omega) (fun hc2 => ?_) (fun hc2 => ?_)
  · have hc2 : (1 : Int) = 0 := hc2
    omega
  · have hc2 : ¬ ((1 : Int) = 0) := hc2
    refine sP 2 (g1 := (6, [some (.ref 53), some (sI a), some (sI b), some (sI r), none, none, none, none], [sI b, .ref 53], h)) rfl ?_
    have ev3 := fIsPerson (sc := sc) (d := d + 2) (a := b) hh (by unfold sR aMi aMa; omega)
    rw [if_pos (by omega)] at ev3
    refine s_call (k := 147) (args := [.ref 53, sI b]) (st := []) (v := some (sI 1)) (h1 := h) rfl ⟨rfl, rfl⟩ rfl rfl rfl rfl (sRcv hh (a := 53) rfl rfl) rfl ev3 ?_
    refine s_ifc (q := .eq) (a := 1) rfl ⟨_, rfl⟩ rfl (by unfold sR aMi aMa; omega) (fun hc4 => ?_) (fun hc4 => ?_)
    · have hc4 : (1 : Int) = 0 := hc4
      omega
    · have hc4 : ¬ ((1 : Int) = 0) := hc4
      refine sP 2 (g1 := (10, [some (.ref 53), some (sI a), some (sI b), some (sI r), none, none, none, none], [sI b, sI a], h)) rfl ?_
      refine s_icmp (q := .eq) (a := a) (b := b) rfl ⟨_, rfl⟩ rfl (by unfold sR aMi aMa; omega) (by unfold sR aMi aMa; omega) (fun hc5 => ?_) (fun hc5 => ?_)
      · have hc5 : (a : Int) = b := hc5
        omega
      · have hc5 : ¬ ((a : Int) = b) := hc5
        refine sP 1 (g1 := (12, [some (.ref 53), some (sI a), some (sI b), some (sI r), none, none, none, none], [sI r], h)) rfl ?_
        have ev6 := fIsRow (sc := sc) (d := d + 2) (h := h) (r := r) (by unfold sR aMi aMa; omega)
        rw [if_neg (by omega)] at ev6
        refine s_call (k := 126) (args := [sI r]) (st := []) (v := some (sI 0)) (h1 := h) rfl ⟨rfl, rfl⟩ rfl rfl rfl rfl rfl rfl ev6 ?_
        refine s_ifc (q := .ne) (a := 0) rfl ⟨_, rfl⟩ rfl (by unfold sR aMi aMa; omega) (fun hc7 => ?_) (fun hc7 => ?_)
        · have hc7 : (0 : Int) ≠ 0 := hc7
          omega
        · have hc7 : ¬ ((0 : Int) ≠ 0) := hc7
          refine sP 1 (g1 := (15, [some (.ref 53), some (sI a), some (sI b), some (sI r), none, none, none, none], [sI ((-1))], h)) rfl ?_
          exact s_reti rfl rfl (Or.inl rfl) rfl rfl
theorem fFitsXw {r n a b q : Nat} (hh : aHp h) (hr : r < 6) (hn : hI h 3 3 = n) (hq : 2 ^ n = q) (ha : a < n) (hb : b < n) (hab : a ≠ b) {f : Nat} (hf : f < 6) (f0 : f ≠ 0) (hw : pWr (hI h (21 + 2 * r) 1) (hI h (22 + 2 * r)) (q : Int) = (f : Int)) : ∃ g, nEv sc (d + 5) 91 [.ref 0, sI (a : Int), sI (b : Int), sI (r : Int)] h (some (sI (-3)), g) ∧ aHp g ∧ ∀ p m, aSlot g p m = if p = 20 ∧ m = f then some (sI (hI h 20 f + 1)) else if p = 0 ∧ m = 8 then some (sI (f : Int)) else aSlot h p m := by
  have gp := hI_rg hh xw_p
  have ew := fWhyN (sc := sc) (d := d + 2) hh hr hn hq
  rw [hw] at ew
  obtain ⟨g1, r1, r2, r3⟩ := fFoundX (sc := sc) (d := d + 3) hh hf
  refine ⟨g1, nEv_of (t := mMe91) rfl ?_, r2, r3⟩
  show nRn sc (d + 4) (mMT mMe91) (mMC mMe91) (0, [some (.ref 0), some (sI ((a : Int))), some (sI ((b : Int))), some (sI ((r : Int))), none, none, none, none, none, none], [], h) _
  refine sP 2 (g1 := (2, [some (.ref 0), some (sI ((a : Int))), some (sI ((b : Int))), some (sI ((r : Int))), none, none, none, none, none, none], [sI ((r : Int)), .ref 0], h)) rfl ?_
  refine s_call (k := 8) (args := [.ref 0, sI ((r : Int))]) (st := []) (v := some (.ref (21 + 2 * r))) (h1 := h) rfl ⟨rfl, rfl⟩ rfl rfl rfl rfl (sRcv hh (a := 0) rfl rfl) rfl (fRowAt hh hr) ?_
  refine sP 2 (g1 := (5, [some (.ref 0), some (sI ((a : Int))), some (sI ((b : Int))), some (sI ((r : Int))), some (.ref (21 + 2 * r)), none, none, none, none, none], [.ref (21 + 2 * r)], h)) rfl ?_
  refine s_null rfl (Or.inl ⟨⟨_, rfl⟩, rfl⟩) ?_
  refine sP 1 (g1 := (7, [some (.ref 0), some (sI ((a : Int))), some (sI ((b : Int))), some (sI ((r : Int))), some (.ref (21 + 2 * r)), none, none, none, none, none], [.ref 0], h)) rfl ?_
  refine s_get (a := 0) (j := 2) hh rfl ⟨_, rfl⟩ rfl rfl rfl (v := .ref 3) (hR_ok hh (by decide +kernel)) ?_
  refine sP 2 (g1 := (10, [some (.ref 0), some (sI ((a : Int))), some (sI ((b : Int))), some (sI ((r : Int))), some (.ref (21 + 2 * r)), none, none, none, none, none], [sI ((b : Int)), sI ((a : Int)), .ref 3], h)) rfl ?_
  have ev1 := fHasTwoX (sc := sc) (d := d + 2) (a := (a : Int)) (b := (b : Int)) hh (by unfold sR aMi aMa; omega) (by unfold sR aMi aMa; omega)
  rw [if_pos (by omega)] at ev1
  refine s_call (k := 60) (args := [.ref 3, sI ((a : Int)), sI ((b : Int))]) (st := []) (v := some (sI 1)) (h1 := h) rfl ⟨rfl, rfl⟩ rfl rfl rfl rfl (sRcv hh (a := 3) rfl rfl) rfl ev1 ?_
  refine s_ifc (q := .ne) (a := 1) rfl ⟨_, rfl⟩ rfl (by unfold sR aMi aMa; omega) (fun hc2 => ?_) (fun hc2 => ?_)
  · have hc2 : (1 : Int) ≠ 0 := hc2
    refine sP 2 (g1 := (16, [some (.ref 0), some (sI ((a : Int))), some (sI ((b : Int))), some (sI ((r : Int))), some (.ref (21 + 2 * r)), none, none, none, none, none], [.ref (21 + 2 * r), .ref 0], h)) rfl ?_
    refine s_call (k := 92) (args := [.ref 0, .ref (21 + 2 * r)]) (st := []) (v := some (sI ((f : Int)))) (h1 := h) rfl ⟨rfl, rfl⟩ rfl rfl rfl rfl (sRcv hh (a := 0) rfl rfl) rfl ew ?_
    refine sP 2 (g1 := (19, [some (.ref 0), some (sI ((a : Int))), some (sI ((b : Int))), some (sI ((r : Int))), some (.ref (21 + 2 * r)), some (sI ((f : Int))), none, none, none, none], [sI ((f : Int))], h)) rfl ?_
    refine s_ifc (q := .eq) (a := (f : Int)) rfl ⟨_, rfl⟩ rfl (by unfold sR aMi aMa; omega) (fun hc3 => ?_) (fun hc3 => ?_)
    · have hc3 : (((f : Int)) : Int) = 0 := hc3
      omega
    · have hc3 : ¬ ((((f : Int)) : Int) = 0) := hc3
      refine sP 2 (g1 := (22, [some (.ref 0), some (sI ((a : Int))), some (sI ((b : Int))), some (sI ((r : Int))), some (.ref (21 + 2 * r)), some (sI ((f : Int))), none, none, none, none], [sI ((f : Int)), .ref 0], h)) rfl ?_
      refine s_call (k := 9) (args := [.ref 0, sI ((f : Int))]) (st := []) (v := some (sI ((-3)))) (h1 := g1) rfl ⟨rfl, rfl⟩ rfl rfl rfl rfl (sRcv hh (a := 0) rfl rfl) rfl r1 ?_
      exact s_reti rfl rfl (Or.inl rfl) rfl rfl
  · have hc2 : ¬ ((1 : Int) ≠ 0) := hc2
    omega
theorem fFitsX {kd : Nat} {r n a b q : Nat} (hh : aHp h) (hr : r < 6) (hn : hI h 3 3 = n) (hq : 2 ^ n = q) (ha : a < n) (hb : b < n) (hab : a ≠ b) (hkd : hI h 4 a = (kd : Int)) (hw : pWr (hI h (21 + 2 * r) 1) (hI h (22 + 2 * r)) (q : Int) = 0) : nEv sc (d + 5) 91 [.ref 0, sI (a : Int), sI (b : Int), sI (r : Int)] h (some (sI ((pFw (fun v => pNt (gUp (hI h 5) (6 * a + b) v) n kd a (hI h (22 + 2 * r)) ((hI h (21 + 2 * r) 1) / 2).toNat 0) 10 : Nat) : Int)), h) := by
  have gp := hI_rg hh xw_p
  have gz := hI_rg hh (ra_z hr)
  have ew := fWhyN (sc := sc) (d := d + 2) hh hr hn hq
  have p2 := p2_le (show n ≤ 6 by omega)
  rw [hw] at ew
  have gk := hI_rg hh (xw_k (show a < 6 by omega))
  have gl := hI_rg hh (xw_l (show 6 * a + b < 36 by omega))
  obtain ⟨z, hz⟩ : ∃ z, hI h (21 + 2 * r) 1 = z := ⟨_, rfl⟩
  rw [hz] at hw gz ⊢
  unfold pWr at hw
  by_cases c0 : z = -1
  · rw [if_pos c0] at hw
    omega
  rw [if_neg c0] at hw
  by_cases c1 : z % 2 ≠ 0 ∨ 12 < z
  · rw [if_pos c1] at hw
    omega
  rw [if_neg c1] at hw
  by_cases c3 : ¬ (bN (hI h (22 + 2 * r)) (q : Int) (z / 2).toNat 0 = true)
  · rw [if_neg c3] at hw
    omega
  have c2 := Decidable.not_not.mp c3
  have hs : ∀ j, j < (z / 2).toNat → 0 ≤ (hI h (22 + 2 * r)) (2 * j) ∧ (hI h (22 + 2 * r)) (2 * j) < 64 := fun j hj => by
    have w := (okP_iff.mp (bN_at _ 0 j c2 (by omega) (by omega))).1
    exact ⟨w.1, Int.lt_of_lt_of_le w.2 (by omega)⟩
  have r1 := fFitsXL (sc := sc) (d := d) (b := b) (w0 := hI h 5 (6 * a + b)) (kd := kd) (K := (z / 2).toNat) hh hr hn (by omega) (show a < 6 by omega) hz (by omega) (by omega) hs (by omega) hkd rfl 10 0 h (by omega) hh (fun _ _ _ => rfl)
  refine nEv_of (t := mMe91) rfl ?_
  show nRn sc (d + 4) (mMT mMe91) (mMC mMe91) (0, [some (.ref 0), some (sI ((a : Int))), some (sI ((b : Int))), some (sI ((r : Int))), none, none, none, none, none, none], [], h) _
  refine sP 2 (g1 := (2, [some (.ref 0), some (sI ((a : Int))), some (sI ((b : Int))), some (sI ((r : Int))), none, none, none, none, none, none], [sI ((r : Int)), .ref 0], h)) rfl ?_
  refine s_call (k := 8) (args := [.ref 0, sI ((r : Int))]) (st := []) (v := some (.ref (21 + 2 * r))) (h1 := h) rfl ⟨rfl, rfl⟩ rfl rfl rfl rfl (sRcv hh (a := 0) rfl rfl) rfl (fRowAt hh hr) ?_
  refine sP 2 (g1 := (5, [some (.ref 0), some (sI ((a : Int))), some (sI ((b : Int))), some (sI ((r : Int))), some (.ref (21 + 2 * r)), none, none, none, none, none], [.ref (21 + 2 * r)], h)) rfl ?_
  refine s_null rfl (Or.inl ⟨⟨_, rfl⟩, rfl⟩) ?_
  refine sP 1 (g1 := (7, [some (.ref 0), some (sI ((a : Int))), some (sI ((b : Int))), some (sI ((r : Int))), some (.ref (21 + 2 * r)), none, none, none, none, none], [.ref 0], h)) rfl ?_
  refine s_get (a := 0) (j := 2) hh rfl ⟨_, rfl⟩ rfl rfl rfl (v := .ref 3) (hR_ok hh (by decide +kernel)) ?_
  refine sP 2 (g1 := (10, [some (.ref 0), some (sI ((a : Int))), some (sI ((b : Int))), some (sI ((r : Int))), some (.ref (21 + 2 * r)), none, none, none, none, none], [sI ((b : Int)), sI ((a : Int)), .ref 3], h)) rfl ?_
  have ev1 := fHasTwoX (sc := sc) (d := d + 2) (a := (a : Int)) (b := (b : Int)) hh (by unfold sR aMi aMa; omega) (by unfold sR aMi aMa; omega)
  rw [if_pos (by omega)] at ev1
  refine s_call (k := 60) (args := [.ref 3, sI ((a : Int)), sI ((b : Int))]) (st := []) (v := some (sI 1)) (h1 := h) rfl ⟨rfl, rfl⟩ rfl rfl rfl rfl (sRcv hh (a := 3) rfl rfl) rfl ev1 ?_
  refine s_ifc (q := .ne) (a := 1) rfl ⟨_, rfl⟩ rfl (by unfold sR aMi aMa; omega) (fun hc2 => ?_) (fun hc2 => ?_)
  · have hc2 : (1 : Int) ≠ 0 := hc2
    refine sP 2 (g1 := (16, [some (.ref 0), some (sI ((a : Int))), some (sI ((b : Int))), some (sI ((r : Int))), some (.ref (21 + 2 * r)), none, none, none, none, none], [.ref (21 + 2 * r), .ref 0], h)) rfl ?_
    refine s_call (k := 92) (args := [.ref 0, .ref (21 + 2 * r)]) (st := []) (v := some (sI 0)) (h1 := h) rfl ⟨rfl, rfl⟩ rfl rfl rfl rfl (sRcv hh (a := 0) rfl rfl) rfl ew ?_
    refine sP 2 (g1 := (19, [some (.ref 0), some (sI ((a : Int))), some (sI ((b : Int))), some (sI ((r : Int))), some (.ref (21 + 2 * r)), some (sI 0), none, none, none, none], [sI 0], h)) rfl ?_
    refine s_ifc (q := .eq) (a := 0) rfl ⟨_, rfl⟩ rfl (by unfold sR aMi aMa; omega) (fun hc3 => ?_) (fun hc3 => ?_)
    · have hc3 : (0 : Int) = 0 := hc3
      refine sP 2 (g1 := (26, [some (.ref 0), some (sI ((a : Int))), some (sI ((b : Int))), some (sI ((r : Int))), some (.ref (21 + 2 * r)), some (sI 0), none, none, none, none], [sI ((a : Int)), sI 6], h)) rfl ?_
      refine s_mul (a := 6) (b := (a : Int)) rfl rfl ?_
      refine sP 1 (g1 := (28, [some (.ref 0), some (sI ((a : Int))), some (sI ((b : Int))), some (sI ((r : Int))), some (.ref (21 + 2 * r)), some (sI 0), none, none, none, none], [sI ((b : Int)), sI (6 * ((a : Int)))], h)) rfl ?_
      refine s_add (a := 6 * ((a : Int))) (b := (b : Int)) rfl rfl ?_
      refine sP 2 (g1 := (31, [some (.ref 0), some (sI ((a : Int))), some (sI ((b : Int))), some (sI ((r : Int))), some (.ref (21 + 2 * r)), some (sI 0), some (sI ((6 * ((a : Int))) + ((b : Int)))), none, none, none], [.ref 0], h)) rfl ?_
      refine s_get (a := 0) (j := 2) hh rfl ⟨_, rfl⟩ rfl rfl rfl (v := .ref 3) (hR_ok hh (by decide +kernel)) ?_
      refine s_get (a := 3) (j := 1) hh rfl ⟨_, rfl⟩ rfl rfl rfl (v := .ref 5) (hR_ok hh (by decide +kernel)) ?_
      refine sP 1 (g1 := (34, [some (.ref 0), some (sI ((a : Int))), some (sI ((b : Int))), some (sI ((r : Int))), some (.ref (21 + 2 * r)), some (sI 0), some (sI ((6 * ((a : Int))) + ((b : Int)))), none, none, none], [sI ((6 * ((a : Int))) + ((b : Int))), .ref 5], h)) rfl ?_
      refine s_iald (a := 5) (n := 36) (j := (6 * ((a : Int))) + ((b : Int))) hh rfl rfl rfl (by omega) (by omega) (by decide) (v := sI (hI h 5 (6 * a + b))) (by rw [show ((6 * ((a : Int))) + ((b : Int)) : Int).toNat = 6 * a + b by omega]; exact hI_ok hh (xw_l (by omega))) ?_
      refine sP 5 (g1 := (40, [some (.ref 0), some (sI ((a : Int))), some (sI ((b : Int))), some (sI ((r : Int))), some (.ref (21 + 2 * r)), some (sI 0), some (sI ((6 * ((a : Int))) + ((b : Int)))), some (sI (hI h 5 (6 * a + b))), some (sI 0), some (sI 0)], [], h)) rfl ?_
      exact r1
    · have hc3 : ¬ ((0 : Int) = 0) := hc3
      omega
  · have hc2 : ¬ ((1 : Int) ≠ 0) := hc2
    omega
theorem fFitsMw {r n a b q : Nat} (hh : aHp h) (hr : r < 6) (hn : hI h 58 0 = n) (hq : 2 ^ n = q) (ha : a < n) (hb : b < n) (hab : a ≠ b) {f : Nat} (hf : f < 6) (f0 : f ≠ 0) (hw : pWr (hI h 54 r) (fun j => hI h 55 (40 * r + j)) (q : Int) = (f : Int)) : ∃ g, nEv sc (d + 5) 195 [.ref 53, sI (a : Int), sI (b : Int), sI (r : Int)] h (some (sI (-3)), g) ∧ aHp g ∧ ∀ p m, aSlot g p m = if p = 62 ∧ m = f then some (sI (hI h 62 f + 1)) else if p = 53 ∧ m = 11 then some (sI (f : Int)) else aSlot h p m := by
  have gp := hI_rg hh nw_p
  have ew := fWrong (sc := sc) (d := d + 1) hh hr hn hq
  rw [hw] at ew
  obtain ⟨g1, r1, r2, r3⟩ := fFoundM (sc := sc) (d := d + 3) hh hf
  refine ⟨g1, nEv_of (t := mMe195) rfl ?_, r2, r3⟩
  show nRn sc (d + 4) (mMT mMe195) (mMC mMe195) (0, [some (.ref 53), some (sI ((a : Int))), some (sI ((b : Int))), some (sI ((r : Int))), none, none, none, none], [], h) _
  refine sP 2 (g1 := (2, [some (.ref 53), some (sI ((a : Int))), some (sI ((b : Int))), some (sI ((r : Int))), none, none, none, none], [sI ((a : Int)), .ref 53], h)) rfl ?_
  have ev1 := fIsPerson (sc := sc) (d := d + 2) (a := (a : Int)) hh (by unfold sR aMi aMa; omega)
  rw [if_pos (by omega)] at ev1
  refine s_call (k := 147) (args := [.ref 53, sI ((a : Int))]) (st := []) (v := some (sI 1)) (h1 := h) rfl ⟨rfl, rfl⟩ rfl rfl rfl rfl (sRcv hh (a := 53) rfl rfl) rfl ev1 ?_
  refine s_ifc (q := .eq) (a := 1) rfl ⟨_, rfl⟩ rfl (by unfold sR aMi aMa; omega) (fun hc2 => ?_) (fun hc2 => ?_)
  · have hc2 : (1 : Int) = 0 := hc2
    omega
  · have hc2 : ¬ ((1 : Int) = 0) := hc2
    refine sP 2 (g1 := (6, [some (.ref 53), some (sI ((a : Int))), some (sI ((b : Int))), some (sI ((r : Int))), none, none, none, none], [sI ((b : Int)), .ref 53], h)) rfl ?_
    have ev3 := fIsPerson (sc := sc) (d := d + 2) (a := (b : Int)) hh (by unfold sR aMi aMa; omega)
    rw [if_pos (by omega)] at ev3
    refine s_call (k := 147) (args := [.ref 53, sI ((b : Int))]) (st := []) (v := some (sI 1)) (h1 := h) rfl ⟨rfl, rfl⟩ rfl rfl rfl rfl (sRcv hh (a := 53) rfl rfl) rfl ev3 ?_
    refine s_ifc (q := .eq) (a := 1) rfl ⟨_, rfl⟩ rfl (by unfold sR aMi aMa; omega) (fun hc4 => ?_) (fun hc4 => ?_)
    · have hc4 : (1 : Int) = 0 := hc4
      omega
    · have hc4 : ¬ ((1 : Int) = 0) := hc4
      refine sP 2 (g1 := (10, [some (.ref 53), some (sI ((a : Int))), some (sI ((b : Int))), some (sI ((r : Int))), none, none, none, none], [sI ((b : Int)), sI ((a : Int))], h)) rfl ?_
      refine s_icmp (q := .eq) (a := (a : Int)) (b := (b : Int)) rfl ⟨_, rfl⟩ rfl (by unfold sR aMi aMa; omega) (by unfold sR aMi aMa; omega) (fun hc5 => ?_) (fun hc5 => ?_)
      · have hc5 : (((a : Int)) : Int) = ((b : Int)) := hc5
        omega
      · have hc5 : ¬ ((((a : Int)) : Int) = ((b : Int))) := hc5
        refine sP 1 (g1 := (12, [some (.ref 53), some (sI ((a : Int))), some (sI ((b : Int))), some (sI ((r : Int))), none, none, none, none], [sI ((r : Int))], h)) rfl ?_
        have ev6 := fIsRow (sc := sc) (d := d + 2) (h := h) (r := (r : Int)) (by unfold sR aMi aMa; omega)
        rw [if_pos (by omega)] at ev6
        refine s_call (k := 126) (args := [sI ((r : Int))]) (st := []) (v := some (sI 1)) (h1 := h) rfl ⟨rfl, rfl⟩ rfl rfl rfl rfl rfl rfl ev6 ?_
        refine s_ifc (q := .ne) (a := 1) rfl ⟨_, rfl⟩ rfl (by unfold sR aMi aMa; omega) (fun hc7 => ?_) (fun hc7 => ?_)
        · have hc7 : (1 : Int) ≠ 0 := hc7
          refine sP 2 (g1 := (18, [some (.ref 53), some (sI ((a : Int))), some (sI ((b : Int))), some (sI ((r : Int))), none, none, none, none], [sI ((r : Int)), .ref 53], h)) rfl ?_
          refine s_call (k := 196) (args := [.ref 53, sI ((r : Int))]) (st := []) (v := some (sI ((f : Int)))) (h1 := h) rfl ⟨rfl, rfl⟩ rfl rfl rfl rfl (sRcv hh (a := 53) rfl rfl) rfl ew ?_
          refine sP 2 (g1 := (21, [some (.ref 53), some (sI ((a : Int))), some (sI ((b : Int))), some (sI ((r : Int))), some (sI ((f : Int))), none, none, none], [sI ((f : Int))], h)) rfl ?_
          refine s_ifc (q := .eq) (a := (f : Int)) rfl ⟨_, rfl⟩ rfl (by unfold sR aMi aMa; omega) (fun hc8 => ?_) (fun hc8 => ?_)
          · have hc8 : (((f : Int)) : Int) = 0 := hc8
            omega
          · have hc8 : ¬ ((((f : Int)) : Int) = 0) := hc8
            refine sP 2 (g1 := (24, [some (.ref 53), some (sI ((a : Int))), some (sI ((b : Int))), some (sI ((r : Int))), some (sI ((f : Int))), none, none, none], [sI ((f : Int)), .ref 53], h)) rfl ?_
            refine s_call (k := 128) (args := [.ref 53, sI ((f : Int))]) (st := []) (v := some (sI ((-3)))) (h1 := g1) rfl ⟨rfl, rfl⟩ rfl rfl rfl rfl (sRcv hh (a := 53) rfl rfl) rfl r1 ?_
            exact s_reti rfl rfl (Or.inl rfl) rfl rfl
        · have hc7 : ¬ ((1 : Int) ≠ 0) := hc7
          omega
theorem fFitsM {kd : Nat} {r n a b q : Nat} (hh : aHp h) (hr : r < 6) (hn : hI h 58 0 = n) (hq : 2 ^ n = q) (ha : a < n) (hb : b < n) (hab : a ≠ b) (hkd : hI h 58 (1 + a) = (kd : Int)) (hw : pWr (hI h 54 r) (fun j => hI h 55 (40 * r + j)) (q : Int) = 0) : nEv sc (d + 5) 195 [.ref 53, sI (a : Int), sI (b : Int), sI (r : Int)] h (some (sI ((pFw (fun v => pNt (gUp (fun j => hI h 58 (7 + j)) (6 * a + b) v) n kd a (fun j => hI h 55 (40 * r + j)) ((hI h 54 r) / 2).toNat 0) 10 : Nat) : Int)), h) := by
  have gp := hI_rg hh nw_p
  have gz := hI_rg hh (rm_z hr)
  have ew := fWrong (sc := sc) (d := d + 1) hh hr hn hq
  have p2 := p2_le (show n ≤ 6 by omega)
  rw [hw] at ew
  have gk := hI_rg hh (nw_kd (show a < 6 by omega))
  have gl := hI_rg hh (nw_lk (show 6 * a + b < 36 by omega))
  obtain ⟨z, hz⟩ : ∃ z, hI h 54 r = z := ⟨_, rfl⟩
  rw [hz] at hw gz ⊢
  unfold pWr at hw
  by_cases c0 : z = -1
  · rw [if_pos c0] at hw
    omega
  rw [if_neg c0] at hw
  by_cases c1 : z % 2 ≠ 0 ∨ 12 < z
  · rw [if_pos c1] at hw
    omega
  rw [if_neg c1] at hw
  by_cases c3 : ¬ (bN (fun j => hI h 55 (40 * r + j)) (q : Int) (z / 2).toNat 0 = true)
  · rw [if_neg c3] at hw
    omega
  have c2 := Decidable.not_not.mp c3
  have hs : ∀ j, j < (z / 2).toNat → 0 ≤ (fun j => hI h 55 (40 * r + j)) (2 * j) ∧ (fun j => hI h 55 (40 * r + j)) (2 * j) < 64 := fun j hj => by
    have w := (okP_iff.mp (bN_at _ 0 j c2 (by omega) (by omega))).1
    exact ⟨w.1, Int.lt_of_lt_of_le w.2 (by omega)⟩
  have r1 := fFitsML (sc := sc) (d := d + 1) (b := b) (w0 := hI h 58 (7 + (6 * a + b))) (kd := kd) (K := (z / 2).toNat) hh hr hn (by omega) (show a < 6 by omega) hz (by omega) (by omega) hs (by omega) hkd rfl 10 0 h (by omega) hh (fun _ _ _ => rfl)
  refine nEv_of (t := mMe195) rfl ?_
  show nRn sc (d + 4) (mMT mMe195) (mMC mMe195) (0, [some (.ref 53), some (sI ((a : Int))), some (sI ((b : Int))), some (sI ((r : Int))), none, none, none, none], [], h) _
  refine sP 2 (g1 := (2, [some (.ref 53), some (sI ((a : Int))), some (sI ((b : Int))), some (sI ((r : Int))), none, none, none, none], [sI ((a : Int)), .ref 53], h)) rfl ?_
  have ev1 := fIsPerson (sc := sc) (d := d + 2) (a := (a : Int)) hh (by unfold sR aMi aMa; omega)
  rw [if_pos (by omega)] at ev1
  refine s_call (k := 147) (args := [.ref 53, sI ((a : Int))]) (st := []) (v := some (sI 1)) (h1 := h) rfl ⟨rfl, rfl⟩ rfl rfl rfl rfl (sRcv hh (a := 53) rfl rfl) rfl ev1 ?_
  refine s_ifc (q := .eq) (a := 1) rfl ⟨_, rfl⟩ rfl (by unfold sR aMi aMa; omega) (fun hc2 => ?_) (fun hc2 => ?_)
  · have hc2 : (1 : Int) = 0 := hc2
    omega
  · have hc2 : ¬ ((1 : Int) = 0) := hc2
    refine sP 2 (g1 := (6, [some (.ref 53), some (sI ((a : Int))), some (sI ((b : Int))), some (sI ((r : Int))), none, none, none, none], [sI ((b : Int)), .ref 53], h)) rfl ?_
    have ev3 := fIsPerson (sc := sc) (d := d + 2) (a := (b : Int)) hh (by unfold sR aMi aMa; omega)
    rw [if_pos (by omega)] at ev3
    refine s_call (k := 147) (args := [.ref 53, sI ((b : Int))]) (st := []) (v := some (sI 1)) (h1 := h) rfl ⟨rfl, rfl⟩ rfl rfl rfl rfl (sRcv hh (a := 53) rfl rfl) rfl ev3 ?_
    refine s_ifc (q := .eq) (a := 1) rfl ⟨_, rfl⟩ rfl (by unfold sR aMi aMa; omega) (fun hc4 => ?_) (fun hc4 => ?_)
    · have hc4 : (1 : Int) = 0 := hc4
      omega
    · have hc4 : ¬ ((1 : Int) = 0) := hc4
      refine sP 2 (g1 := (10, [some (.ref 53), some (sI ((a : Int))), some (sI ((b : Int))), some (sI ((r : Int))), none, none, none, none], [sI ((b : Int)), sI ((a : Int))], h)) rfl ?_
      refine s_icmp (q := .eq) (a := (a : Int)) (b := (b : Int)) rfl ⟨_, rfl⟩ rfl (by unfold sR aMi aMa; omega) (by unfold sR aMi aMa; omega) (fun hc5 => ?_) (fun hc5 => ?_)
      · have hc5 : (((a : Int)) : Int) = ((b : Int)) := hc5
        omega
      · have hc5 : ¬ ((((a : Int)) : Int) = ((b : Int))) := hc5
        refine sP 1 (g1 := (12, [some (.ref 53), some (sI ((a : Int))), some (sI ((b : Int))), some (sI ((r : Int))), none, none, none, none], [sI ((r : Int))], h)) rfl ?_
        have ev6 := fIsRow (sc := sc) (d := d + 2) (h := h) (r := (r : Int)) (by unfold sR aMi aMa; omega)
        rw [if_pos (by omega)] at ev6
        refine s_call (k := 126) (args := [sI ((r : Int))]) (st := []) (v := some (sI 1)) (h1 := h) rfl ⟨rfl, rfl⟩ rfl rfl rfl rfl rfl rfl ev6 ?_
        refine s_ifc (q := .ne) (a := 1) rfl ⟨_, rfl⟩ rfl (by unfold sR aMi aMa; omega) (fun hc7 => ?_) (fun hc7 => ?_)
        · have hc7 : (1 : Int) ≠ 0 := hc7
          refine sP 2 (g1 := (18, [some (.ref 53), some (sI ((a : Int))), some (sI ((b : Int))), some (sI ((r : Int))), none, none, none, none], [sI ((r : Int)), .ref 53], h)) rfl ?_
          refine s_call (k := 196) (args := [.ref 53, sI ((r : Int))]) (st := []) (v := some (sI 0)) (h1 := h) rfl ⟨rfl, rfl⟩ rfl rfl rfl rfl (sRcv hh (a := 53) rfl rfl) rfl ew ?_
          refine sP 2 (g1 := (21, [some (.ref 53), some (sI ((a : Int))), some (sI ((b : Int))), some (sI ((r : Int))), some (sI 0), none, none, none], [sI 0], h)) rfl ?_
          refine s_ifc (q := .eq) (a := 0) rfl ⟨_, rfl⟩ rfl (by unfold sR aMi aMa; omega) (fun hc8 => ?_) (fun hc8 => ?_)
          · have hc8 : (0 : Int) = 0 := hc8
            refine sP 3 (g1 := (29, [some (.ref 53), some (sI ((a : Int))), some (sI ((b : Int))), some (sI ((r : Int))), some (sI 0), none, none, none], [sI ((b : Int)), sI ((a : Int)), .ref 53], h)) rfl ?_
            refine s_call (k := 152) (args := [.ref 53, sI ((a : Int)), sI ((b : Int))]) (st := []) (v := some (sI (hI h 58 (7 + (6 * a + b))))) (h1 := h) rfl ⟨rfl, rfl⟩ rfl rfl rfl rfl (sRcv hh (a := 53) rfl rfl) rfl (fLookM hh (by omega) (by omega)) ?_
            refine sP 5 (g1 := (35, [some (.ref 53), some (sI ((a : Int))), some (sI ((b : Int))), some (sI ((r : Int))), some (sI 0), some (sI (hI h 58 (7 + (6 * a + b)))), some (sI 0), some (sI 0)], [], h)) rfl ?_
            exact r1
          · have hc8 : ¬ ((0 : Int) = 0) := hc8
            omega
        · have hc7 : ¬ ((1 : Int) ≠ 0) := hc7
          omega
end FITM
