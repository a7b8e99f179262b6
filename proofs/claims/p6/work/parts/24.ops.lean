/-! what the analyser makes of a number that is worked out -/
abbrev aP : Type := aSt × aX
noncomputable def aRes (r : Nat → Int) (S : aSt) (m0 : Int) (h : mH) (p : aP) (z : Int) : Prop := ∃ r1, aOk r1 p.1 m0 h ∧ aLe S.1.length r p.1.1.length r1 ∧ aWf p.1.1.length p.2 ∧ z = aEv r1 p.2
section AOPS
variable {r : Nat → Int} {S : aSt} {m0 : Int} {h : mH}
theorem aRes.keep {e : aX} {z : Int} (hS : aOk r S m0 h) (hw : aWf S.1.length e) (hz : z = aEv r e) : aRes r S m0 h (S, e) z := ⟨r, hS, aLe.rf, hw, hz⟩
theorem aRes.new {lo hi z : Int} (hS : aOk r S m0 h) (h1 : lo ≤ z) (h2 : z ≤ hi) : aRes r S m0 h (aNw S lo hi, aVr S.1.length) z := by
  refine ⟨aUp r S.1.length z, aNw_ok hS h1 h2, fun v w hv => ?_, ?_, ?_⟩
  · rw [aNw_len]; exact hv.up
  · rw [aNw_len]; exact aVr_wf (Nat.lt_succ_self _)
  · rw [aVr_ev, aUp_self]
noncomputable def aAdC (S : aSt) (c : aX) : aSt := (S.1, c :: S.2.1, S.2.2)
theorem aAdC_ok {c : aX} (hS : aOk r S m0 h) (hw : aWf S.1.length c) (hc : 0 ≤ aEv r c) : aOk r (aAdC S c) m0 h := by
  obtain ⟨hB, hC, hG, hO⟩ := hS
  refine ⟨hB, ?_, hG, hO⟩
  intro d hd
  rcases List.mem_cons.mp hd with rfl | hd
  · exact ⟨hw, hc⟩
  · exact hC d hd
/-- a sum, if it doesn't wrap around -/
noncomputable def aCl (S : aSt) (mi ma : Int) (e : aX) : aP := if (aPr S (aSb e (aK mi)) && aPr S (aSb (aK ma) e)) = true then (S, e) else (aNw S mi ma, aVr S.1.length)
theorem aCl_ok {mi ma z : Int} {e : aX} (hS : aOk r S m0 h) (hw : aWf S.1.length e) (h1 : mi ≤ z) (h2 : z ≤ ma) (hz : mi ≤ aEv r e → aEv r e ≤ ma → z = aEv r e) : aRes r S m0 h (aCl S mi ma e) z := by
  unfold aCl
  split
  · rename_i hc
    rw [Bool.and_eq_true] at hc
    have p1 := aPr_ok hS (aSb_wf hw (aK_wf _ _)) hc.1
    have p2 := aPr_ok hS (aSb_wf (aK_wf _ _) hw) hc.2
    rw [aSb_ev, aK_ev] at p1 p2
    exact aRes.keep hS hw (hz (by omega) (by omega))
  · exact aRes.new hS h1 h2
/-- a product -/
noncomputable def aMul (S : aSt) (mi ma : Int) (x y : aX) : aP :=
  if aLo S.1 y = aHj S.1 y then aCl S mi ma (aSc (aLo S.1 y) x) else if aLo S.1 x = aHj S.1 x then aCl S mi ma (aSc (aLo S.1 x) y) else
  if 0 ≤ aLo S.1 x ∧ 0 ≤ aLo S.1 y ∧ aHj S.1 x * aHj S.1 y ≤ ma then (aNw S (aLo S.1 x * aLo S.1 y) (aHj S.1 x * aHj S.1 y), aVr S.1.length) else (aNw S mi ma, aVr S.1.length)
theorem aMul_ok {mi ma z : Int} {x y : aX} (hS : aOk r S m0 h) (hx : aWf S.1.length x) (hy : aWf S.1.length y) (h1 : mi ≤ z) (h2 : z ≤ ma) (hmi : mi ≤ 0) (hz : mi ≤ aEv r x * aEv r y → aEv r x * aEv r y ≤ ma → z = aEv r x * aEv r y) : aRes r S m0 h (aMul S mi ma x y) z := by
  have x1 := aLo_le hS.1 hx
  have x2 := aHj_ge hS.1 hx
  have y1 := aLo_le hS.1 hy
  have y2 := aHj_ge hS.1 hy
  unfold aMul
  split
  · rename_i hc
    have e : aEv r (aSc (aLo S.1 y) x) = aEv r x * aEv r y := by
      rw [aSc_ev, Int.mul_comm, show aLo S.1 y = aEv r y by omega]
    exact aCl_ok hS (aSc_wf hx) h1 h2 (by rw [e]; exact hz)
  · split
    · rename_i hc
      have e : aEv r (aSc (aLo S.1 x) y) = aEv r x * aEv r y := by
        rw [aSc_ev, show aLo S.1 x = aEv r x by omega]
      exact aCl_ok hS (aSc_wf hy) h1 h2 (by rw [e]; exact hz)
    · split
      · rename_i hc
        obtain ⟨c1, c2, c3⟩ := hc
        have a1 : aLo S.1 x * aLo S.1 y ≤ aEv r x * aEv r y := Int.mul_le_mul x1 y1 c2 (by omega)
        have a2 : aEv r x * aEv r y ≤ aHj S.1 x * aHj S.1 y := Int.mul_le_mul x2 y2 (by omega) (by omega)
        have a3 : 0 ≤ aLo S.1 x * aLo S.1 y := Int.mul_nonneg c1 c2
        have hz2 := hz (by omega) (by omega)
        exact aRes.new hS (by omega) (by omega)
      · exact aRes.new hS h1 h2
/-- a remainder; none: the divisor may be 0 -/
noncomputable def aRem (S : aSt) (mi ma : Int) (x y : aX) : Option aP :=
  if aPr S (aSb y (aK 1)) = true then
    (if aLo S.1 x = aHj S.1 x ∧ max (aLo S.1 y) 1 = aHj S.1 y ∧ 0 ≤ aLo S.1 x then some (S, aK (aLo S.1 x % aHj S.1 y)) else
    if 0 ≤ aLo S.1 x then
      (if max (aLo S.1 y) 1 = aHj S.1 y ∧ aHj S.1 x < 1099511627776 then
        some (aAdC (aAdC (aNw (aAdC (aAdC (aNw S 0 (min (aHj S.1 x) (aHj S.1 y - 1))) (aSb (aSb y (aVr S.1.length)) (aK 1))) (aSb x (aVr S.1.length))) (aLo S.1 x / aHj S.1 y) (aHj S.1 x / aHj S.1 y)) (aSb x (aAd (aSc (aHj S.1 y) (aVr (S.1.length + 1))) (aVr S.1.length)))) (aSc (-1) (aSb x (aAd (aSc (aHj S.1 y) (aVr (S.1.length + 1))) (aVr S.1.length)))), aVr S.1.length)
      else some (aAdC (aAdC (aNw S 0 (min (aHj S.1 x) (aHj S.1 y - 1))) (aSb (aSb y (aVr S.1.length)) (aK 1))) (aSb x (aVr S.1.length)), aVr S.1.length))
    else some (aNw S (-(aHj S.1 y - 1)) (aHj S.1 y - 1), aVr S.1.length))
  else if aPr S (aSb (aK (-1)) y) = true then some (aNw S mi ma, aVr S.1.length) else none
theorem aRem_ok {mi ma z : Int} {x y : aX} {p : aP} (hS : aOk r S m0 h) (hx : aWf S.1.length x) (hy : aWf S.1.length y) (h1 : mi ≤ z) (h2 : z ≤ ma) (hz : z = (aEv r x).tmod (aEv r y)) (hp : aRem S mi ma x y = some p) : aEv r y ≠ 0 ∧ aRes r S m0 h p z := by
  have x1 := aLo_le hS.1 hx
  have x2 := aHj_ge hS.1 hx
  have y1 := aLo_le hS.1 hy
  have y2 := aHj_ge hS.1 hy
  unfold aRem at hp
  split at hp
  · rename_i hy1
    have hyp := aPr_ok hS (aSb_wf hy (aK_wf _ _)) hy1
    rw [aSb_ev, aK_ev] at hyp
    refine ⟨by omega, ?_⟩
    split at hp
    · rename_i hc
      cases hp
      refine aRes.keep hS (aK_wf _ _) ?_
      rw [aK_ev, hz, show aLo S.1 x = aEv r x by omega, show aHj S.1 y = aEv r y by omega]
      exact Int.tmod_eq_emod_of_nonneg (by omega)
    · split at hp
      · rename_i hx0
        have hz0 : z = aEv r x % aEv r y := by rw [hz]; exact Int.tmod_eq_emod_of_nonneg (by omega)
        have z1 : 0 ≤ z := by rw [hz0]; exact Int.emod_nonneg _ (by omega)
        have z2 : z < aEv r y := by rw [hz0]; exact Int.emod_lt_of_pos _ (by omega)
        have z3 : z ≤ aEv r x := by
          rw [hz0]
          have q1 := Int.mul_ediv_add_emod (aEv r x) (aEv r y)
          have q2 : 0 ≤ aEv r y * (aEv r x / aEv r y) := Int.mul_nonneg (by omega) (Int.ediv_nonneg (by omega) (by omega))
          omega
        have n1 : S.1.length < (aNw S 0 (min (aHj S.1 x) (aHj S.1 y - 1))).1.length := by rw [aNw_len]; omega
        have hS1 := aNw_ok (z := z) hS (show (0 : Int) ≤ z from z1) (show z ≤ min (aHj S.1 x) (aHj S.1 y - 1) by omega)
        have wx := hx.up (Nat.le_succ S.1.length)
        have wy := hy.up (Nat.le_succ S.1.length)
        have wv : aWf (S.1.length + 1) (aVr S.1.length) := aVr_wf (Nat.lt_succ_self _)
        have hS2 := aAdC_ok (c := aSb (aSb y (aVr S.1.length)) (aK 1)) hS1 (by rw [aNw_len]; exact aSb_wf (aSb_wf wy wv) (aK_wf _ _)) (by
          rw [aSb_ev, aSb_ev, aK_ev, aEv_up hy, aVr_ev, aUp_self]; omega)
        have hS3 := aAdC_ok (c := aSb x (aVr S.1.length)) hS2 (by show aWf (aNw S _ _).1.length _; rw [aNw_len]; exact aSb_wf wx wv) (by
          rw [aSb_ev, aEv_up hx, aVr_ev, aUp_self]; omega)
        have le1 : aLe S.1.length r (S.1.length + 1) (aUp r S.1.length z) := fun v w hv => hv.up
        split at hp
        · rename_i hc
          cases hp
          have ey : aHj S.1 y = aEv r y := by omega
          have hq1 : aLo S.1 x / aHj S.1 y ≤ aEv r x / aEv r y := by rw [ey]; exact Int.ediv_le_ediv (by omega) x1
          have hq2 : aEv r x / aEv r y ≤ aHj S.1 x / aHj S.1 y := by rw [ey]; exact Int.ediv_le_ediv (by omega) x2
          have hS4 := aNw_ok (z := aEv r x / aEv r y) hS3 hq1 hq2
          have hl4 : (aAdC (aAdC (aNw S 0 (min (aHj S.1 x) (aHj S.1 y - 1))) (aSb (aSb y (aVr S.1.length)) (aK 1))) (aSb x (aVr S.1.length))).1.length = S.1.length + 1 := aNw_len _ _ _
          rw [hl4] at hS4
          have ev : ∀ f : aX, aWf (S.1.length + 1) f → aEv (aUp (aUp r S.1.length z) (S.1.length + 1) (aEv r x / aEv r y)) f = aEv (aUp r S.1.length z) f := fun f hf => aEv_up hf
          have wE : aWf (S.1.length + 1 + 1) (aSb x (aAd (aSc (aHj S.1 y) (aVr (S.1.length + 1))) (aVr S.1.length))) := aSb_wf (wx.up (Nat.le_succ _)) (aAd_wf (aSc_wf (aVr_wf (Nat.lt_succ_self _))) (aVr_wf (by omega)))
          have eE : aEv (aUp (aUp r S.1.length z) (S.1.length + 1) (aEv r x / aEv r y)) (aSb x (aAd (aSc (aHj S.1 y) (aVr (S.1.length + 1))) (aVr S.1.length))) = 0 := by
            rw [aSb_ev, aAd_ev, aSc_ev, ev x wx, aEv_up hx, aVr_ev, aUp_self, ev _ wv, aVr_ev, aUp_self, ey, hz0]
            have := Int.mul_ediv_add_emod (aEv r x) (aEv r y)
            omega
          have hS5 := aAdC_ok (c := aSb x (aAd (aSc (aHj S.1 y) (aVr (S.1.length + 1))) (aVr S.1.length))) hS4 (by rw [aNw_len, hl4]; exact wE) (by rw [eE]; exact Int.le_refl _)
          have hS6 := aAdC_ok (c := aSc (-1) (aSb x (aAd (aSc (aHj S.1 y) (aVr (S.1.length + 1))) (aVr S.1.length)))) hS5 (by show aWf (aNw _ _ _).1.length _; rw [aNw_len, hl4]; exact aSc_wf wE) (by rw [aSc_ev, eE]; exact Int.le_refl _)
          refine ⟨_, hS6, ?_, ?_, ?_⟩
          · show aLe _ _ (aNw _ _ _).1.length _
            rw [aNw_len, hl4]
            exact fun v w hv => (le1 v w hv).up
          · show aWf (aNw _ _ _).1.length _
            rw [aNw_len, hl4]
            exact wv.up (Nat.le_succ _)
          · rw [ev _ wv, aVr_ev, aUp_self]
        · cases hp
          refine ⟨_, hS3, ?_, ?_, ?_⟩
          · show aLe _ _ (aNw _ _ _).1.length _
            rw [aNw_len]; exact le1
          · show aWf (aNw _ _ _).1.length _
            rw [aNw_len]; exact wv
          · rw [aVr_ev, aUp_self]
      · cases hp
        obtain ⟨b1, b2⟩ := tmod_bounds (a := aEv r x) (M := aEv r y) (by omega)
        exact aRes.new hS (by omega) (by omega)
  · split at hp
    · rename_i hy1
      cases hp
      have hyp := aPr_ok hS (aSb_wf (aK_wf _ _) hy) hy1
      rw [aSb_ev, aK_ev] at hyp
      exact ⟨by omega, aRes.new hS h1 h2⟩
    · cases hp
/-- a quotient -/
noncomputable def aDiv (S : aSt) (mi ma : Int) (x y : aX) : Option aP :=
  if aPr S (aSb y (aK 1)) = true then
    (if 0 ≤ aLo S.1 x then
      (if aLo S.1 x = aHj S.1 x ∧ max (aLo S.1 y) 1 = aHj S.1 y then some (S, aK (aLo S.1 x / aHj S.1 y)) else
      if 9 < aHj S.1 x / max (aLo S.1 y) 1 ∧ aPr S (aSb (aSc 10 y) (aAd x (aK 1))) = true then some (aNw S (aLo S.1 x / aHj S.1 y) 9, aVr S.1.length)
      else some (aNw S (aLo S.1 x / aHj S.1 y) (aHj S.1 x / max (aLo S.1 y) 1), aVr S.1.length))
    else some (aNw S mi ma, aVr S.1.length))
  else if aPr S (aSb (aK (-1)) y) = true then some (aNw S mi ma, aVr S.1.length) else none
theorem aDiv_ok {mi ma z : Int} {x y : aX} {p : aP} (hS : aOk r S m0 h) (hx : aWf S.1.length x) (hy : aWf S.1.length y) (h1 : mi ≤ z) (h2 : z ≤ ma) (hz : 0 ≤ aEv r x → 0 < aEv r y → z = aEv r x / aEv r y) (hp : aDiv S mi ma x y = some p) : aEv r y ≠ 0 ∧ aRes r S m0 h p z := by
  have x1 := aLo_le hS.1 hx
  have x2 := aHj_ge hS.1 hx
  have y1 := aLo_le hS.1 hy
  have y2 := aHj_ge hS.1 hy
  unfold aDiv at hp
  split at hp
  · rename_i hy1
    have hyp := aPr_ok hS (aSb_wf hy (aK_wf _ _)) hy1
    rw [aSb_ev, aK_ev] at hyp
    refine ⟨by omega, ?_⟩
    split at hp
    · rename_i hx0
      have hz0 := hz (by omega) (by omega)
      have lo : aLo S.1 x / aHj S.1 y ≤ z := by
        rw [hz0]
        have q1 : aLo S.1 x / aHj S.1 y ≤ aLo S.1 x / aEv r y := by
          rw [Int.le_ediv_iff_mul_le (by omega)]
          have q2 : aLo S.1 x / aHj S.1 y * aHj S.1 y ≤ aLo S.1 x := Int.ediv_mul_le _ (by omega)
          have q3 : 0 ≤ aLo S.1 x / aHj S.1 y := Int.ediv_nonneg hx0 (by omega)
          have q4 : aLo S.1 x / aHj S.1 y * aEv r y ≤ aLo S.1 x / aHj S.1 y * aHj S.1 y := Int.mul_le_mul_of_nonneg_left y2 q3
          omega
        have q5 : aLo S.1 x / aEv r y ≤ aEv r x / aEv r y := Int.ediv_le_ediv (by omega) x1
        omega
      have hi : z ≤ aHj S.1 x / max (aLo S.1 y) 1 := by
        rw [hz0]
        have q5 : aEv r x / aEv r y ≤ aHj S.1 x / aEv r y := Int.ediv_le_ediv (by omega) x2
        have q1 : aHj S.1 x / aEv r y ≤ aHj S.1 x / max (aLo S.1 y) 1 := by
          rw [Int.le_ediv_iff_mul_le (by omega)]
          have q2 : aHj S.1 x / aEv r y * aEv r y ≤ aHj S.1 x := Int.ediv_mul_le _ (by omega)
          have q3 : 0 ≤ aHj S.1 x / aEv r y := Int.ediv_nonneg (by omega) (by omega)
          have q4 : aHj S.1 x / aEv r y * max (aLo S.1 y) 1 ≤ aHj S.1 x / aEv r y * aEv r y := Int.mul_le_mul_of_nonneg_left (by omega) q3
          omega
        omega
      split at hp
      · rename_i hc
        cases hp
        refine aRes.keep hS (aK_wf _ _) ?_
        rw [aK_ev, hz0, show aLo S.1 x = aEv r x by omega, show aHj S.1 y = aEv r y by omega]
      · split at hp
        · rename_i hc
          cases hp
          have q := aPr_ok hS (aSb_wf (aSc_wf hy) (aAd_wf hx (aK_wf _ _))) hc.2
          rw [aSb_ev, aSc_ev, aAd_ev, aK_ev] at q
          have : z ≤ 9 := by
            rw [hz0]
            have : aEv r x / aEv r y < 10 := by rw [Int.ediv_lt_iff_lt_mul (by omega)]; omega
            omega
          exact aRes.new hS lo this
        · cases hp
          exact aRes.new hS lo hi
    · cases hp
      exact aRes.new hS h1 h2
  · split at hp
    · rename_i hy1
      cases hp
      have hyp := aPr_ok hS (aSb_wf (aK_wf _ _) hy) hy1
      rw [aSb_ev, aK_ev] at hyp
      exact ⟨by omega, aRes.new hS h1 h2⟩
    · cases hp
end AOPS
