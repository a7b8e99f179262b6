/-! writing cells, in the analyser -/
def aFit (S : aSt) (v : aV) (g : aRg) : Bool := match g.2.2.1 with
  | 0 => v.1 == 0 && (aPr S (aSb v.2.1 (aK g.2.2.2.1)) && aPr S (aSb (aK g.2.2.2.2) v.2.1))
  | 1 => v.1 == 1 && (aPr S (aSb v.2.1 (aK g.2.2.2.1)) && aPr S (aSb (aK g.2.2.2.2) v.2.1))
  | 2 => false
  | _ => v.1 == 0 && (v.2.1.2.isEmpty && aDs.contains v.2.1.1)
def aWr (S : aSt) (a : Nat) (ix0 : aX) (v : aV) : Option aSt := match aT[a]? with
  | none => none
  | some t => if (aPr S (aNm S.1 ix0) && (aPr S (aSb (aK ((t.2.1 : Int) - 1)) (aNm S.1 ix0)) && (aRgs t (max (aLo S.1 (aNm S.1 ix0)) 0) (min (aHj S.1 (aNm S.1 ix0)) ((t.2.1 : Int) - 1))).all (aFit S v))) = true then
      some (S.1, S.2.1, (a, aNm S.1 ix0, v) :: S.2.2.1.filter (fun g => g.1 != a || (decide (0 < aLo S.1 (aSb g.2.1 (aNm S.1 ix0))) || decide (aHj S.1 (aSb g.2.1 (aNm S.1 ix0)) < 0))), S.2.2.2) else none
theorem aFit_ok {r : Nat → Int} {S : aSt} {m0 : Int} {h : mH} {v : aV} {w : Value} {g : aRg} (hS : aOk r S m0 h) (hv : aVs S.1.length r v w) (hf : aFit S v g = true) : aIsT g w := by
  unfold aFit at hf
  unfold aIsT
  obtain ⟨hw, hv⟩ := hv
  split at hf
  · rename_i hk
    simp only [Bool.and_eq_true, beq_iff_eq] at hf
    obtain ⟨h0, h1, h2⟩ := hf
    rw [h0] at hv
    obtain ⟨z, z1, z2⟩ := hv
    have p1 := aPr_ok hS (aSb_wf hw (aK_wf _ _)) h1
    have p2 := aPr_ok hS (aSb_wf (aK_wf _ _) hw) h2
    rw [aSb_ev, aK_ev] at p1 p2
    rw [hk]
    exact ⟨z, z1, by omega, by omega⟩
  · rename_i hk
    simp only [Bool.and_eq_true, beq_iff_eq] at hf
    obtain ⟨h0, h1, h2⟩ := hf
    rw [h0] at hv
    obtain ⟨z, z1, z2⟩ := hv
    have p1 := aPr_ok hS (aSb_wf hw (aK_wf _ _)) h1
    have p2 := aPr_ok hS (aSb_wf (aK_wf _ _) hw) h2
    rw [aSb_ev, aK_ev] at p1 p2
    rw [hk]
    exact ⟨z, z1, by omega, by omega⟩
  · cases hf
  · rename_i k0 k1 k2
    simp only [Bool.and_eq_true, beq_iff_eq] at hf
    obtain ⟨h0, h1, h2⟩ := hf
    rw [h0] at hv
    obtain ⟨z, z1, z2⟩ := hv
    have h3 : aEv r v.2.1 = v.2.1.1 := by
      unfold aEv
      rw [List.isEmpty_iff.mp h1]
      simp [aS1]
    split
    · rename_i q; exact absurd q k0
    · rename_i q; exact absurd q k1
    · rename_i q; exact absurd q k2
    · exact ⟨z, z1, by rw [z2, h3]; simpa using h2⟩
theorem aSlot_set {h : mH} {a j : Nat} {q : mC} {w : Value} (hq : h[a]? = some q) (b n : Nat) : aSlot (h.set a (q.1, q.2.set j w)) b n = if b = a ∧ n = j then (if j < q.2.length then some w else none) else aSlot h b n := by
  unfold aSlot
  by_cases hb : b = a
  · subst hb
    rw [List.getElem?_set_self (List.getElem?_eq_some_iff.mp hq).1, hq]
    dsimp only
    by_cases hn : n = j
    · subst hn
      rw [if_pos ⟨rfl, rfl⟩, List.getElem?_set]
      simp
    · rw [if_neg (fun z => hn z.2), List.getElem?_set_ne (Ne.symm hn)]
  · rw [if_neg (fun z => hb z.1), List.getElem?_set_ne (Ne.symm hb)]
set_option maxHeartbeats 1000000 in
theorem aWr_ok {r : Nat → Int} {S S1 : aSt} {m0 : Int} {h : mH} {a : Nat} {ix0 : aX} {v : aV} {w : Value} (hS : aOk r S m0 h) (hh : aHp h) (hw0 : aWf S.1.length ix0) (hv : aVs S.1.length r v w) (hr : aWr S a ix0 v = some S1) :
    ∃ (t : aTy) (q : mC) (j : Nat), aT[a]? = some t ∧ h[a]? = some q ∧ q.1 = t.1 ∧ q.2.length = t.2.1 ∧ aEv r ix0 = (j : Int) ∧ j < q.2.length ∧ aOk r S1 m0 (h.set a (q.1, q.2.set j w)) ∧ aHp (h.set a (q.1, q.2.set j w)) ∧ S1.1 = S.1 := by
  unfold aWr at hr
  split at hr
  · cases hr
  · rename_i t ht
    split at hr
    · rename_i hc
      simp only [Bool.and_eq_true] at hc
      obtain ⟨hc1, hc2, hc3⟩ := hc
      cases hr
      have hev := aNm_ev hS.1 ix0
      have hw := aNm_wf hS.1 hw0
      generalize aNm S.1 ix0 = ix at *
      have p1 := aPr_ok hS hw hc1
      have p2 := aPr_ok hS (aSb_wf (aK_wf _ _) hw) hc2
      rw [aSb_ev, aK_ev] at p2
      obtain ⟨q, e1, e2, e3, e4⟩ := aHp_at hh ht
      obtain ⟨j, hj⟩ : ∃ j : Nat, aEv r ix = (j : Int) := ⟨(aEv r ix).toNat, by omega⟩
      have hjl : j < q.2.length := by omega
      refine ⟨t, q, j, ht, e1, e2, e3, by rw [← hev]; exact hj, hjl, ?_, ?_, rfl⟩
      · obtain ⟨hB, hC, hG, hO⟩ := hS
        refine ⟨hB, hC, ?_, hO⟩
        intro g hg
        rcases List.mem_cons.mp hg with rfl | hg
        · exact ⟨hw, j, w, hj, by rw [aSlot_set e1, if_pos ⟨rfl, rfl⟩, if_pos hjl], hv⟩
        · obtain ⟨g1, g2⟩ := List.mem_filter.mp hg
          obtain ⟨x1, k, w2, x2, x3, x4⟩ := hG g g1
          refine ⟨x1, k, w2, x2, ?_, x4⟩
          rw [aSlot_set e1, if_neg]
          · exact x3
          · rintro ⟨y1, y2⟩
            simp only [Bool.or_eq_true, bne_iff_ne, ne_eq, decide_eq_true_eq] at g2
            have l1 := aLo_le hB (aSb_wf x1 hw)
            have l2 := aHj_ge hB (aSb_wf x1 hw)
            rw [aSb_ev] at l1 l2
            rcases g2 with g2 | g2 | g2
            · exact g2 y1
            · omega
            · omega
      · refine ⟨by simp [hh.1], fun b t2 q2 ht2 hq2 => ?_⟩
        by_cases hb : b = a
        · subst hb
          rw [List.getElem?_set_self (List.getElem?_eq_some_iff.mp e1).1] at hq2
          cases hq2
          cases ht2.symm.trans ht
          refine ⟨e2, by simp [e3], fun g hg k w2 k1 k2 k3 => ?_⟩
          by_cases hkj : k = j
          · subst hkj
            rw [List.getElem?_set_self hjl] at k3
            cases k3
            have l1 := aLo_le hS.1 hw
            have l2 := aHj_ge hS.1 hw
            exact aFit_ok hS hv (List.all_eq_true.mp hc3 g (aRgs_mem hg k1 k2 (by omega) (by omega)))
          · rw [List.getElem?_set_ne (Ne.symm hkj)] at k3
            exact e4 g hg k w2 k1 k2 k3
        · rw [List.getElem?_set_ne (Ne.symm hb)] at hq2
          exact hh.2 b t2 q2 ht2 hq2
    · cases hr
/-! numbers -/
def aMi : Int := -2147483648
def aMa : Int := 2147483647
def aLi : Int := -9223372036854775808
def aLa : Int := 9223372036854775807
theorem aI_rg (x : Int32) : aMi ≤ x.toInt ∧ x.toInt ≤ aMa := by
  have h1 := Int32.le_toInt x
  have h2 := Int32.toInt_lt x
  unfold aMi aMa
  omega
theorem aL_rg (x : Int64) : aLi ≤ x.toInt ∧ x.toInt ≤ aLa := by
  have h1 := Int64.le_toInt x
  have h2 := Int64.toInt_lt x
  unfold aLi aLa
  omega
theorem bmod32 {x : Int} (h1 : aMi ≤ x) (h2 : x ≤ aMa) : x.bmod (2 ^ 32) = x := by
  unfold aMi at h1; unfold aMa at h2
  exact Int.bmod_eq_of_le (by omega) (by omega)
theorem bmod64 {x : Int} (h1 : aLi ≤ x) (h2 : x ≤ aLa) : x.bmod (2 ^ 64) = x := by
  unfold aLi at h1; unfold aLa at h2
  exact Int.bmod_eq_of_le (by omega) (by omega)
theorem aI_add {x y : Int32} (h1 : aMi ≤ x.toInt + y.toInt) (h2 : x.toInt + y.toInt ≤ aMa) : (x + y).toInt = x.toInt + y.toInt := by rw [Int32.toInt_add]; exact bmod32 h1 h2
theorem aI_sub {x y : Int32} (h1 : aMi ≤ x.toInt - y.toInt) (h2 : x.toInt - y.toInt ≤ aMa) : (x - y).toInt = x.toInt - y.toInt := by rw [Int32.toInt_sub]; exact bmod32 h1 h2
theorem aI_mul {x y : Int32} (h1 : aMi ≤ x.toInt * y.toInt) (h2 : x.toInt * y.toInt ≤ aMa) : (x * y).toInt = x.toInt * y.toInt := by rw [Int32.toInt_mul]; exact bmod32 h1 h2
theorem aI_neg {x : Int32} (h1 : aMi ≤ -x.toInt) (h2 : -x.toInt ≤ aMa) : (-x).toInt = -x.toInt := by rw [Int32.toInt_neg]; exact bmod32 h1 h2
theorem aL_add {x y : Int64} (h1 : aLi ≤ x.toInt + y.toInt) (h2 : x.toInt + y.toInt ≤ aLa) : (x + y).toInt = x.toInt + y.toInt := by rw [Int64.toInt_add]; exact bmod64 h1 h2
theorem aL_sub {x y : Int64} (h1 : aLi ≤ x.toInt - y.toInt) (h2 : x.toInt - y.toInt ≤ aLa) : (x - y).toInt = x.toInt - y.toInt := by rw [Int64.toInt_sub]; exact bmod64 h1 h2
theorem aL_mul {x y : Int64} (h1 : aLi ≤ x.toInt * y.toInt) (h2 : x.toInt * y.toInt ≤ aLa) : (x * y).toInt = x.toInt * y.toInt := by rw [Int64.toInt_mul]; exact bmod64 h1 h2
theorem aI_lit {n : Int} (h1 : aMi ≤ n) (h2 : n ≤ aMa) : (Int32.ofInt n).toInt = n := by rw [Int32.toInt_ofInt]; exact bmod32 h1 h2
theorem aL_lit {n : Int} (h1 : aLi ≤ n) (h2 : n ≤ aLa) : (Int64.ofInt n).toInt = n := by rw [Int64.toInt_ofInt]; exact bmod64 h1 h2
theorem aI_ind {x y : Int32} : x = y ↔ x.toInt = y.toInt := Int32.toInt_inj.symm
theorem aI_tdiv {x y : Int32} (h : 0 ≤ x.toInt) (hy : 0 < y.toInt) : (x / y).toInt = x.toInt / y.toInt := lg_idiv_nonneg h hy
theorem aI_rem (x y : Int32) : (x - x / y * y).toInt = x.toInt.tmod y.toInt := rem_toInt x y
theorem aL_rem (x y : Int64) : (x - x / y * y).toInt = x.toInt.tmod y.toInt := by
  have h1 : x - x / y * y = x % y := by
    apply Int64.toInt_inj.mp
    rw [Int64.toInt_sub, Int64.toInt_mul, Int64.toInt_div, Int.bmod_mul_bmod, Int.sub_bmod_bmod, Int.mul_comm (x.toInt.tdiv y.toInt), ← Int.tmod_def, ← Int64.toInt_mod]
    exact bmod64 (aL_rg _).1 (aL_rg _).2
  rw [h1, Int64.toInt_mod]
