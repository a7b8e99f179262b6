/-! bits -/
theorem aNat {x : Int32} (h : 0 ≤ x.toInt) : x.toInt = (x.toBitVec.toNat : Int) := by
  have h1 : x.toInt = x.toBitVec.toInt := rfl
  rw [h1, BitVec.toInt_eq_toNat_cond] at h ⊢
  split
  · rfl
  · rename_i hc
    rw [if_neg hc] at h
    have := x.toBitVec.isLt
    omega
theorem aNat2 {z : Int32} (h : z.toBitVec.toNat < 2 ^ 31) : z.toInt = (z.toBitVec.toNat : Int) := by
  have h1 : z.toInt = z.toBitVec.toInt := rfl
  rw [h1, BitVec.toInt_eq_toNat_cond, if_pos (by omega)]
theorem aNlt {x : Int32} (h : 0 ≤ x.toInt) : x.toBitVec.toNat < 2 ^ 31 := by
  have h1 := aNat h
  have h2 := (aI_rg x).2
  unfold aMa at h2
  omega
theorem aAnd_r {x y : Int32} (h : 0 ≤ y.toInt) : 0 ≤ (x &&& y).toInt ∧ (x &&& y).toInt ≤ y.toInt := by
  have h1 : (x &&& y).toBitVec.toNat = x.toBitVec.toNat &&& y.toBitVec.toNat := by rw [Int32.toBitVec_and, BitVec.toNat_and]
  have h2 : x.toBitVec.toNat &&& y.toBitVec.toNat ≤ y.toBitVec.toNat := Nat.and_le_right
  have h3 := aNlt h
  have h4 := aNat2 (z := x &&& y) (by omega)
  rw [h4, h1, aNat h]
  omega
theorem aAnd_l {x y : Int32} (h : 0 ≤ x.toInt) : 0 ≤ (x &&& y).toInt ∧ (x &&& y).toInt ≤ x.toInt := by
  have h1 : (x &&& y).toBitVec.toNat = x.toBitVec.toNat &&& y.toBitVec.toNat := by rw [Int32.toBitVec_and, BitVec.toNat_and]
  have h2 : x.toBitVec.toNat &&& y.toBitVec.toNat ≤ x.toBitVec.toNat := Nat.and_le_left
  have h3 := aNlt h
  have h4 := aNat2 (z := x &&& y) (by omega)
  rw [h4, h1, aNat h]
  omega
theorem aOr_b {x y : Int32} {k : Nat} (hx : 0 ≤ x.toInt) (hy : 0 ≤ y.toInt) (h1 : x.toInt < 2 ^ k) (h2 : y.toInt < 2 ^ k) (hk : k ≤ 31) : (0 ≤ (x ||| y).toInt ∧ (x ||| y).toInt < 2 ^ k) ∧ 0 ≤ (x ^^^ y).toInt ∧ (x ^^^ y).toInt < 2 ^ k := by
  rw [aNat hx] at h1
  rw [aNat hy] at h2
  have g1 : x.toBitVec.toNat < 2 ^ k := by exact_mod_cast h1
  have g2 : y.toBitVec.toNat < 2 ^ k := by exact_mod_cast h2
  have hp : 2 ^ k ≤ 2 ^ 31 := Nat.pow_le_pow_right (by decide) hk
  have e1 : (x ||| y).toBitVec.toNat = x.toBitVec.toNat ||| y.toBitVec.toNat := by rw [Int32.toBitVec_or, BitVec.toNat_or]
  have e2 : (x ^^^ y).toBitVec.toNat = x.toBitVec.toNat ^^^ y.toBitVec.toNat := by rw [Int32.toBitVec_xor, BitVec.toNat_xor]
  have o1 := Nat.or_lt_two_pow g1 g2
  have o2 := Nat.xor_lt_two_pow g1 g2
  have z1 := aNat2 (z := x ||| y) (by omega)
  have z2 := aNat2 (z := x ^^^ y) (by omega)
  rw [z1, z2, e1, e2]
  refine ⟨⟨by omega, by exact_mod_cast o1⟩, by omega, by exact_mod_cast o2⟩
noncomputable def aPw (n : Int) : Int := 2 ^ (n.toNat.log2 + 1) - 1
theorem aPw_ok {n : Int} (h0 : 0 ≤ n) (h1 : n ≤ aMa) : n < 2 ^ (n.toNat.log2 + 1) ∧ n.toNat.log2 + 1 ≤ 31 := by
  constructor
  · have h2 : n.toNat < 2 ^ (n.toNat.log2 + 1) := Nat.lt_log2_self
    have h3 : (n.toNat : Int) < 2 ^ (n.toNat.log2 + 1) := by exact_mod_cast h2
    omega
  · unfold aMa at h1
    have h2 : n.toNat < 2 ^ 31 := by omega
    by_cases hz : n.toNat = 0
    · rw [hz]; decide
    · have := (Nat.log2_lt hz).mpr h2
      omega
theorem aI_of {x : Int32} {n : Int} (h : x.toInt = n) : x = Int32.ofInt n := by rw [← h, Int32.ofInt_toInt]
section ABITS
variable {r : Nat → Int} {S : aSt} {m0 : Int} {h : mH}
noncomputable def aAnd (S : aSt) (x y : aX) : aP :=
  if aLo S.1 x = aHj S.1 x ∧ aLo S.1 y = aHj S.1 y then (S, aK (Int32.ofInt (aLo S.1 x) &&& Int32.ofInt (aLo S.1 y)).toInt) else
  if 0 ≤ aLo S.1 y then (if 0 ≤ aLo S.1 x then (aAdC (aAdC (aNw S 0 (min (aHj S.1 x) (aHj S.1 y))) (aSb x (aVr S.1.length))) (aSb y (aVr S.1.length)), aVr S.1.length) else (aNw S 0 (aHj S.1 y), aVr S.1.length))
  else if 0 ≤ aLo S.1 x then (aNw S 0 (aHj S.1 x), aVr S.1.length) else (aNw S aMi aMa, aVr S.1.length)
theorem aAnd_ok {x y : aX} {u v : Int32} (hS : aOk r S m0 h) (hx : aWf S.1.length x) (hy : aWf S.1.length y) (hu : u.toInt = aEv r x) (hv : v.toInt = aEv r y) : aRes r S m0 h (aAnd S x y) (u &&& v).toInt := by
  have x1 := aLo_le hS.1 hx
  have x2 := aHj_ge hS.1 hx
  have y1 := aLo_le hS.1 hy
  have y2 := aHj_ge hS.1 hy
  unfold aAnd
  split
  · rename_i hc
    refine aRes.keep hS (aK_wf _ _) ?_
    rw [aK_ev, ← aI_of (show u.toInt = aLo S.1 x by omega), ← aI_of (show v.toInt = aLo S.1 y by omega)]
  · split
    · rename_i hy0
      have a1 := aAnd_r (x := u) (y := v) (by omega)
      split
      · rename_i hx0
        have a2 := aAnd_l (x := u) (y := v) (by omega)
        have hS1 := aNw_ok (z := (u &&& v).toInt) hS (show (0 : Int) ≤ _ from a1.1) (show (u &&& v).toInt ≤ min (aHj S.1 x) (aHj S.1 y) by omega)
        have wv : aWf (S.1.length + 1) (aVr S.1.length) := aVr_wf (Nat.lt_succ_self _)
        have hS2 := aAdC_ok (c := aSb x (aVr S.1.length)) hS1 (by rw [aNw_len]; exact aSb_wf (hx.up (Nat.le_succ _)) wv) (by rw [aSb_ev, aEv_up hx, aVr_ev, aUp_self]; omega)
        have hS3 := aAdC_ok (c := aSb y (aVr S.1.length)) hS2 (by show aWf (aNw S _ _).1.length _; rw [aNw_len]; exact aSb_wf (hy.up (Nat.le_succ _)) wv) (by rw [aSb_ev, aEv_up hy, aVr_ev, aUp_self]; omega)
        refine ⟨_, hS3, ?_, ?_, ?_⟩
        · show aLe _ _ (aNw _ _ _).1.length _
          rw [aNw_len]; exact fun v w hv => hv.up
        · show aWf (aNw _ _ _).1.length _
          rw [aNw_len]; exact wv
        · rw [aVr_ev, aUp_self]
      · exact aRes.new hS a1.1 (by omega)
    · split
      · have a2 := aAnd_l (x := u) (y := v) (by omega)
        exact aRes.new hS a2.1 (by omega)
      · exact aRes.new hS (aI_rg _).1 (aI_rg _).2
noncomputable def aOrX (S : aSt) (o : Bool) (x y : aX) : aP :=
  if aLo S.1 x = aHj S.1 x ∧ aLo S.1 y = aHj S.1 y then (S, aK (if o = true then (Int32.ofInt (aLo S.1 x) ||| Int32.ofInt (aLo S.1 y)).toInt else (Int32.ofInt (aLo S.1 x) ^^^ Int32.ofInt (aLo S.1 y)).toInt)) else
  if 0 ≤ aLo S.1 y ∧ 0 ≤ aLo S.1 x ∧ aHj S.1 x ≤ aMa ∧ aHj S.1 y ≤ aMa then (aNw S 0 (aPw (max (aHj S.1 x) (aHj S.1 y))), aVr S.1.length) else (aNw S aMi aMa, aVr S.1.length)
theorem aOrX_ok {o : Bool} {x y : aX} {u v : Int32} (hS : aOk r S m0 h) (hx : aWf S.1.length x) (hy : aWf S.1.length y) (hu : u.toInt = aEv r x) (hv : v.toInt = aEv r y) : aRes r S m0 h (aOrX S o x y) (if o = true then (u ||| v).toInt else (u ^^^ v).toInt) := by
  have x1 := aLo_le hS.1 hx
  have x2 := aHj_ge hS.1 hx
  have y1 := aLo_le hS.1 hy
  have y2 := aHj_ge hS.1 hy
  unfold aOrX
  split
  · rename_i hc
    refine aRes.keep hS (aK_wf _ _) ?_
    rw [aK_ev, ← aI_of (show u.toInt = aLo S.1 x by omega), ← aI_of (show v.toInt = aLo S.1 y by omega)]
  · split
    · rename_i hc
      obtain ⟨p1, p2⟩ := aPw_ok (n := max (aHj S.1 x) (aHj S.1 y)) (by omega) (by omega)
      obtain ⟨⟨b1, b2⟩, b3, b4⟩ := aOr_b (x := u) (y := v) (k := (max (aHj S.1 x) (aHj S.1 y)).toNat.log2 + 1) (by omega) (by omega) (by omega) (by omega) p2
      unfold aPw
      refine aRes.new hS ?_ ?_
      · split <;> omega
      · split <;> omega
    · refine aRes.new hS ?_ ?_
      · split
        · exact (aI_rg _).1
        · exact (aI_rg _).1
      · split
        · exact (aI_rg _).2
        · exact (aI_rg _).2
theorem aSm : ∀ n : Nat, n < 32 → ((Int32.ofNat n &&& 31).toBitVec.smod 32).toNat = n := by decide +kernel
theorem aSh {y : Int32} {n : Nat} (h : y.toInt = (n : Int)) (hn : n < 32) : ((y &&& 31).toBitVec.smod 32).toNat = n := by
  have h1 : y = Int32.ofNat n := by
    rw [aI_ind, h]
    exact (Int32.toInt_ofNat_of_lt (by omega)).symm
  rw [h1]
  exact aSm n hn
theorem aShl_n {x y : Int32} {n : Nat} (hx : 0 ≤ x.toInt) (h : y.toInt = (n : Int)) (hn : n < 32) (hb : x.toInt * 2 ^ n ≤ aMa) : (x <<< (y &&& 31)).toInt = x.toInt * 2 ^ n := by
  have h1 := pk_shl x (y &&& 31) n (aSh h hn)
  rw [aNat hx] at hb ⊢
  unfold aMa at hb
  have hb2 : x.toBitVec.toNat * 2 ^ n < 2 ^ 31 := by
    have : ((x.toBitVec.toNat * 2 ^ n : Nat) : Int) ≤ 2147483647 := by push_cast; exact hb
    omega
  rw [Nat.mod_eq_of_lt (by omega)] at h1
  rw [aNat2 (z := x <<< (y &&& 31)) (by omega), h1]
  push_cast
  rfl
noncomputable def aShl (S : aSt) (x y : aX) : aP :=
  if aLo S.1 x = 1 ∧ aHj S.1 x = 1 ∧ 0 ≤ aLo S.1 y ∧ aHj S.1 y ≤ 30 then (if aLo S.1 y = aHj S.1 y then (S, aK (2 ^ (aLo S.1 y).toNat)) else (aNw S (2 ^ (aLo S.1 y).toNat) (2 ^ (aHj S.1 y).toNat), aVr S.1.length)) else
  if aLo S.1 y = aHj S.1 y ∧ 0 ≤ aLo S.1 y ∧ aHj S.1 y ≤ 30 ∧ 0 ≤ aLo S.1 x ∧ aHj S.1 x * 2 ^ (aLo S.1 y).toNat ≤ aMa then (S, aSc (2 ^ (aLo S.1 y).toNat) x) else (aNw S aMi aMa, aVr S.1.length)
theorem aShl_ok {x y : aX} {u v : Int32} (hS : aOk r S m0 h) (hx : aWf S.1.length x) (hy : aWf S.1.length y) (hu : u.toInt = aEv r x) (hv : v.toInt = aEv r y) : aRes r S m0 h (aShl S x y) (u <<< (v &&& 31)).toInt := by
  have x1 := aLo_le hS.1 hx
  have x2 := aHj_ge hS.1 hx
  have y1 := aLo_le hS.1 hy
  have y2 := aHj_ge hS.1 hy
  have pp : ∀ a b : Nat, a ≤ b → (2 : Int) ^ a ≤ 2 ^ b := fun a b hab => by exact_mod_cast Nat.pow_le_pow_right (by decide : 0 < 2) hab
  unfold aShl
  split
  · rename_i hc
    obtain ⟨c1, c2, c3, c4⟩ := hc
    have hn : v.toInt = ((v.toInt.toNat : Nat) : Int) := by omega
    have p30 := pp v.toInt.toNat 30 (by omega)
    have e1 : u.toInt = 1 := by omega
    have key := aShl_n (x := u) (y := v) (n := v.toInt.toNat) (by omega) hn (by omega) (by rw [e1]; unfold aMa; omega)
    rw [e1, Int.one_mul] at key
    split
    · rename_i hcc
      refine aRes.keep hS (aK_wf _ _) ?_
      rw [key, aK_ev, show aLo S.1 y = v.toInt by omega]
    · rw [key]
      exact aRes.new hS (pp _ _ (by omega)) (pp _ _ (by omega))
  · split
    · rename_i hc
      obtain ⟨c1, c2, c3, c4, c5⟩ := hc
      have hn : v.toInt = (((aLo S.1 y).toNat : Nat) : Int) := by omega
      have hp : (0 : Int) ≤ 2 ^ (aLo S.1 y).toNat := by
        have := pp 0 (aLo S.1 y).toNat (by omega)
        omega
      have hm : u.toInt * 2 ^ (aLo S.1 y).toNat ≤ aHj S.1 x * 2 ^ (aLo S.1 y).toNat := Int.mul_le_mul_of_nonneg_right (by omega) hp
      have key := aShl_n (x := u) (y := v) (n := (aLo S.1 y).toNat) (by omega) hn (by omega) (by omega)
      refine aRes.keep hS (aSc_wf hx) ?_
      rw [key, aSc_ev, hu, Int.mul_comm]
    · exact aRes.new hS (aI_rg _).1 (aI_rg _).2
noncomputable def aShr (S : aSt) (x y : aX) : aP :=
  if 0 ≤ aLo S.1 x then (if aLo S.1 y = aHj S.1 y ∧ 0 ≤ aLo S.1 y ∧ aHj S.1 y ≤ 30 then (if aLo S.1 x = aHj S.1 x then (S, aK (aLo S.1 x / 2 ^ (aLo S.1 y).toNat)) else (aNw S (aLo S.1 x / 2 ^ (aLo S.1 y).toNat) (aHj S.1 x / 2 ^ (aLo S.1 y).toNat), aVr S.1.length)) else (aNw S 0 (aHj S.1 x), aVr S.1.length)) else (aNw S aMi aMa, aVr S.1.length)
theorem aShr_ok {x y : aX} {u v : Int32} (hS : aOk r S m0 h) (hx : aWf S.1.length x) (hy : aWf S.1.length y) (hu : u.toInt = aEv r x) (hv : v.toInt = aEv r y) : aRes r S m0 h (aShr S x y) (u >>> (v &&& 31)).toInt := by
  have x1 := aLo_le hS.1 hx
  have x2 := aHj_ge hS.1 hx
  have y1 := aLo_le hS.1 hy
  have y2 := aHj_ge hS.1 hy
  unfold aShr
  split
  · rename_i hx0
    split
    · rename_i hc
      have hn : v.toInt = (((aLo S.1 y).toNat : Nat) : Int) := by omega
      have key := pk_shr u (v &&& 31) _ (aSh hn (by omega))
      rw [Int.shiftRight_eq_div_pow] at key
      have hp : (0 : Int) < 2 ^ (aLo S.1 y).toNat := by
        have : 0 < 2 ^ (aLo S.1 y).toNat := Nat.pow_pos (by decide)
        exact_mod_cast this
      have key2 : (u >>> (v &&& 31)).toInt = u.toInt / 2 ^ (aLo S.1 y).toNat := by rw [key]; push_cast; rfl
      split
      · rename_i hcc
        refine aRes.keep hS (aK_wf _ _) ?_
        rw [key2, aK_ev, show aLo S.1 x = u.toInt by omega]
      · rw [key2]
        exact aRes.new hS (Int.ediv_le_ediv hp (by omega)) (Int.ediv_le_ediv hp (by omega))
    · have key := pk_shr u (v &&& 31) _ rfl
      rw [Int.shiftRight_eq_div_pow] at key
      have q0 : 0 ≤ u.toInt := by omega
      have q1 : 0 ≤ (u >>> (v &&& 31)).toInt := by rw [key]; exact Int.ediv_nonneg q0 (by exact_mod_cast Nat.zero_le _)
      have q2 : (u >>> (v &&& 31)).toInt ≤ u.toInt := by rw [key]; exact Int.ediv_le_self _ q0
      exact aRes.new hS q1 (by omega)
  · exact aRes.new hS (aI_rg _).1 (aI_rg _).2
end ABITS
