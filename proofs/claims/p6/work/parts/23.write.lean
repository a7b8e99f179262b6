/-! writing cells, in the analyser -/
noncomputable def aFit (S : aSt) (v : aV) (g : aRg) : Bool := match g.2.2.1 with
  | 0 => v.1 == 0 && (aPr S (aSb v.2.1 (aK g.2.2.2.1)) && aPr S (aSb (aK g.2.2.2.2) v.2.1))
  | 1 => v.1 == 1 && (aPr S (aSb v.2.1 (aK g.2.2.2.1)) && aPr S (aSb (aK g.2.2.2.2) v.2.1))
  | 2 => false
  | _ => v.1 == 0 && (v.2.1.2.isEmpty && aDs.contains v.2.1.1)
/-- what is left of the measure behind a store -/
noncomputable def aOw (S : aSt) (a : Nat) (ix : aX) (v : aV) : aX := if a = 63 then (match S.2.2.1.find? (fun g => g.1 == a && (g.2.2.1 == 0 && aNm S.1 (aSb g.2.1 ix) == (0, []))) with
  | some g => aAd S.2.2.2 (aSc aKap (aSb g.2.2.2.1 v.2.1))
  | none => aSb S.2.2.2 (aSc aKap v.2.1)) else S.2.2.2
noncomputable def aWr (S : aSt) (a : Nat) (ix0 : aX) (v : aV) : Option aSt := match aTq a with
  | none => none
  | some t => if (aPr S (aNm S.1 ix0) && (aPr S (aSb (aK ((t.2.1 : Int) - 1)) (aNm S.1 ix0)) && (aRgs t (max (aLo S.1 (aNm S.1 ix0)) 0) (min (aHj S.1 (aNm S.1 ix0)) ((t.2.1 : Int) - 1))).all (aFit S v))) = true then
      some (S.1, S.2.1, (a, aNm S.1 ix0, v) :: (S.2.2.1.take aGc).filter (fun g => g.1 != a || (decide (0 < aLo S.1 (aSb g.2.1 (aNm S.1 ix0))) || decide (aHj S.1 (aSb g.2.1 (aNm S.1 ix0)) < 0))), aOw S a (aNm S.1 ix0) v) else none
theorem aFit_ok {r : Nat → Int} {S : aSt} {m0 : Int} {h : mH} {v : aV} {w : Value} {g : aRg} (hS : aOk r S m0 h) (hv : aVs S.1.length r v w) (hf : aFit S v g = true) : aIsT g w := by
  unfold aFit at hf
  unfold aIsT
  obtain ⟨hw, hv⟩ := hv
  split at hf
  · rename_i hk
    simp only [Bool.and_eq_true, beq_iff_eq] at hf
    obtain ⟨h0, h1, h2⟩ := hf
    rw [h0] at hv
    obtain ⟨z, z1, z2⟩ := hv
    have p1 := aPr_ok hS (aSb_wf hw (aK_wf _ _)) h1
    have p2 := aPr_ok hS (aSb_wf (aK_wf _ _) hw) h2
    rw [aSb_ev, aK_ev] at p1 p2
    rw [hk]
    exact ⟨z, z1, by omega, by omega⟩
  · rename_i hk
    simp only [Bool.and_eq_true, beq_iff_eq] at hf
    obtain ⟨h0, h1, h2⟩ := hf
    rw [h0] at hv
    obtain ⟨z, z1, z2⟩ := hv
    have p1 := aPr_ok hS (aSb_wf hw (aK_wf _ _)) h1
    have p2 := aPr_ok hS (aSb_wf (aK_wf _ _) hw) h2
    rw [aSb_ev, aK_ev] at p1 p2
    rw [hk]
    exact ⟨z, z1, by omega, by omega⟩
  · cases hf
  · rename_i k0 k1 k2
    simp only [Bool.and_eq_true, beq_iff_eq] at hf
    obtain ⟨h0, h1, h2⟩ := hf
    rw [h0] at hv
    obtain ⟨z, z1, z2⟩ := hv
    have h3 : aEv r v.2.1 = v.2.1.1 := by
      unfold aEv
      rw [List.isEmpty_iff.mp h1]
      simp [aS1]
    split
    · rename_i q; exact absurd q k0
    · rename_i q; exact absurd q k1
    · rename_i q; exact absurd q k2
    · exact ⟨z, z1, by rw [z2, h3]; simpa using h2⟩
theorem aSlot_set {h : mH} {a j : Nat} {q : mC} {w : Value} (hq : h[a]? = some q) (b n : Nat) : aSlot (h.set a (q.1, q.2.set j w)) b n = if b = a ∧ n = j then (if j < q.2.length then some w else none) else aSlot h b n := by
  unfold aSlot
  by_cases hb : b = a
  · subst hb
    rw [List.getElem?_set_self (List.getElem?_eq_some_iff.mp hq).1, hq]
    dsimp only
    by_cases hn : n = j
    · subst hn
      rw [if_pos ⟨rfl, rfl⟩, List.getElem?_set]
      simp
    · rw [if_neg (fun z => hn z.2), List.getElem?_set_ne (Ne.symm hn)]
  · rw [if_neg (fun z => hb z.1), List.getElem?_set_ne (Ne.symm hb)]
theorem aSum_set : ∀ (l : List Value) (j : Nat) (w old : Value), l[j]? = some old → ((l.set j w).map aIv).sum = (l.map aIv).sum - aIv old + aIv w
  | [], j, w, old, h => by simp at h
  | u :: l, 0, w, old, h => by
    have : u = old := by simpa using h
    subst this
    simp only [List.set_cons_zero, List.map_cons, List.sum_cons]
    omega
  | u :: l, j + 1, w, old, h => by
    have ih := aSum_set l j w old (by simpa using h)
    simp only [List.set_cons_succ, List.map_cons, List.sum_cons]
    omega
theorem aPh_set {h : mH} {a j : Nat} {q : mC} {w old : Value} (hq : h[a]? = some q) (ho : q.2[j]? = some old) : aPh (h.set a (q.1, q.2.set j w)) = if a = 63 then aPh h - aIv old + aIv w else aPh h := by
  unfold aPh
  by_cases ha : a = 63
  · subst ha
    rw [if_pos rfl, List.getElem?_set_self (List.getElem?_eq_some_iff.mp hq).1, hq]
    exact aSum_set _ _ _ _ ho
  · rw [if_neg ha, List.getElem?_set_ne ha]
theorem aT63 : aT[63]? = some ((50, 1024, [(0, 1023, 0, 0, 1000000)]) : aTy) := rfl
theorem aSum_rg : ∀ (l : List Value), (∀ w ∈ l, 0 ≤ aIv w ∧ aIv w ≤ 1000000) → 0 ≤ (l.map aIv).sum ∧ (l.map aIv).sum ≤ 1000000 * l.length
  | [], _ => by simp
  | u :: l, h => by
    have ih := aSum_rg l (fun w hw => h w (List.mem_cons_of_mem _ hw))
    have h1 := h u List.mem_cons_self
    simp only [List.map_cons, List.sum_cons, List.length_cons]
    omega
theorem aHp63 {h : mH} (hh : aHp h) : ∃ q, h[63]? = some q ∧ q.2.length = 1024 ∧ ∀ (j : Nat) (w : Value), q.2[j]? = some w → ∃ z : Int32, w = .int z ∧ 0 ≤ z.toInt ∧ z.toInt ≤ 1000000 := by
  obtain ⟨q, e1, e2, e3, e4⟩ := aHp_at hh aT63
  refine ⟨q, e1, e3, fun j w hw => ?_⟩
  have hj := (List.getElem?_eq_some_iff.mp hw).1
  have e3 : q.2.length = 1024 := e3
  exact e4 _ List.mem_cons_self j w (Nat.zero_le _) (show j ≤ 1023 by omega) hw
theorem aPh_rg {h : mH} (hh : aHp h) : 0 ≤ aPh h ∧ aPh h ≤ 1024000000 := by
  obtain ⟨q, e1, e2, e3⟩ := aHp63 hh
  unfold aPh
  rw [e1]
  dsimp only
  have h1 := aSum_rg q.2 (fun w hw => by
    obtain ⟨j, hj⟩ := List.getElem?_of_mem hw
    obtain ⟨z, rfl, z1, z2⟩ := e3 j w hj
    exact ⟨z1, z2⟩)
  rw [e2] at h1
  omega
theorem aOw_ok {r : Nat → Int} {S : aSt} {m0 : Int} {h : mH} {a j : Nat} {ix : aX} {v : aV} {w : Value} {q : mC} (hS : aOk r S m0 h) (hh : aHp h) (hq : h[a]? = some q) (hj : aEv r ix = (j : Int)) (hjl : j < q.2.length) (hw : aWf S.1.length ix) (hv : aVs S.1.length r v w) (hT : a = 63 → ∃ z : Int32, w = .int z ∧ z.toInt = aEv r v.2.1) : aWf S.1.length (aOw S a ix v) ∧ aEv r (aOw S a ix v) + aKap * aPh (h.set a (q.1, q.2.set j w)) ≤ m0 := by
  have ho : q.2[j]? = some q.2[j] := List.getElem?_eq_getElem hjl
  obtain ⟨hB, hC, hG, hO1, hO2⟩ := hS
  rw [aPh_set hq ho]
  unfold aOw
  by_cases ha : a = 63
  · rw [if_pos ha, if_pos ha]
    obtain ⟨z, rfl, hz⟩ := hT ha
    subst ha
    obtain ⟨q1, f1, f2, f3⟩ := aHp63 hh
    rw [hq] at f1
    cases f1
    obtain ⟨z0, g0, g1, g2⟩ := f3 j _ ho
    rw [g0]
    show _ ∧ _ + aKap * (aPh h - z0.toInt + z.toInt) ≤ m0
    have hk : aKap * (aPh h - z0.toInt + z.toInt) = aKap * aPh h - aKap * z0.toInt + aKap * z.toInt := by rw [Int.mul_add, Int.mul_sub]
    rw [hk]
    have hk0 : 0 ≤ aKap * z0.toInt := Int.mul_nonneg (by decide) g1
    split
    · rename_i g hg
      have x1 := List.find?_some hg
      have x2 := List.mem_of_find?_eq_some hg
      simp only [Bool.and_eq_true, beq_iff_eq] at x1
      obtain ⟨y1, y2, y3⟩ := x1
      obtain ⟨w1, k, w0, w2, w3, w4⟩ := hG g x2
      have x7 : aEv r (aSb g.2.1 ix) = 0 := by
        rw [← aNm_ev hB, y3]
        rfl
      rw [aSb_ev] at x7
      have x8 : k = j := by omega
      subst x8
      have hsl : aSlot h 63 k = some q.2[k] := by unfold aSlot; rw [hq]; exact ho
      rw [y1, hsl, g0] at w3
      cases w3
      obtain ⟨v1, v2⟩ := w4
      rw [y2] at v2
      obtain ⟨z1, z2, z3⟩ := v2
      cases z2
      refine ⟨aAd_wf hO1 (aSc_wf (aSb_wf v1 hv.1)), ?_⟩
      rw [aAd_ev, aSc_ev, aSb_ev, ← z3, ← hz, Int.mul_sub]
      omega
    · refine ⟨aSb_wf hO1 (aSc_wf hv.1), ?_⟩
      rw [aSb_ev, aSc_ev, ← hz]
      omega
  · rw [if_neg ha, if_neg ha]
    exact ⟨hO1, hO2⟩
set_option maxHeartbeats 1000000 in
theorem aWr_ok {r : Nat → Int} {S S1 : aSt} {m0 : Int} {h : mH} {a : Nat} {ix0 : aX} {v : aV} {w : Value} (hS : aOk r S m0 h) (hh : aHp h) (hw0 : aWf S.1.length ix0) (hv : aVs S.1.length r v w) (hr : aWr S a ix0 v = some S1) :
    ∃ (t : aTy) (q : mC) (j : Nat), aT[a]? = some t ∧ h[a]? = some q ∧ q.1 = t.1 ∧ q.2.length = t.2.1 ∧ aEv r ix0 = (j : Int) ∧ j < q.2.length ∧ aOk r S1 m0 (h.set a (q.1, q.2.set j w)) ∧ aHp (h.set a (q.1, q.2.set j w)) ∧ S1.1 = S.1 := by
  unfold aWr at hr
  rw [aTq_eq] at hr
  split at hr
  · cases hr
  · rename_i t ht
    split at hr
    · rename_i hc
      simp only [Bool.and_eq_true] at hc
      obtain ⟨hc1, hc2, hc3⟩ := hc
      cases hr
      have hev := aNm_ev hS.1 ix0
      have hw := aNm_wf hS.1 hw0
      generalize aNm S.1 ix0 = ix at *
      have p1 := aPr_ok hS hw hc1
      have p2 := aPr_ok hS (aSb_wf (aK_wf _ _) hw) hc2
      rw [aSb_ev, aK_ev] at p2
      obtain ⟨q, e1, e2, e3, e4⟩ := aHp_at hh ht
      obtain ⟨j, hj⟩ : ∃ j : Nat, aEv r ix = (j : Int) := ⟨(aEv r ix).toNat, by omega⟩
      have hjl : j < q.2.length := by omega
      refine ⟨t, q, j, ht, e1, e2, e3, by rw [← hev]; exact hj, hjl, ?_, ?_, rfl⟩
      · have hO := aOw_ok hS hh e1 hj hjl hw hv (fun h63 => by
          subst h63
          cases ht.symm.trans aT63
          have l1 := aLo_le hS.1 hw
          have l2 := aHj_ge hS.1 hw
          have e3 : q.2.length = 1024 := e3
          have hf := List.all_eq_true.mp hc3 (0, 1023, 0, 0, 1000000) (aRgs_mem (j := j) List.mem_cons_self (Nat.zero_le _) (show j ≤ 1023 by omega) (by omega) (show (j : Int) ≤ min (aHj S.1 ix) ((1024 : Nat) - 1) by omega))
          unfold aFit at hf
          simp only [Bool.and_eq_true, beq_iff_eq] at hf
          obtain ⟨-, hv2⟩ := hv
          rw [hf.1] at hv2
          exact hv2)
        obtain ⟨hB, hC, hG, -⟩ := hS
        refine ⟨hB, hC, ?_, hO⟩
        intro g hg
        rcases List.mem_cons.mp hg with rfl | hg
        · exact ⟨hw, j, w, hj, by rw [aSlot_set e1, if_pos ⟨rfl, rfl⟩, if_pos hjl], hv⟩
        · obtain ⟨g1, g2⟩ := List.mem_filter.mp hg
          have g1 := List.mem_of_mem_take g1
          obtain ⟨x1, k, w2, x2, x3, x4⟩ := hG g g1
          refine ⟨x1, k, w2, x2, ?_, x4⟩
          rw [aSlot_set e1, if_neg]
          · exact x3
          · rintro ⟨y1, y2⟩
            simp only [Bool.or_eq_true, bne_iff_ne, ne_eq, decide_eq_true_eq] at g2
            have l1 := aLo_le hB (aSb_wf x1 hw)
            have l2 := aHj_ge hB (aSb_wf x1 hw)
            rw [aSb_ev] at l1 l2
            rcases g2 with g2 | g2 | g2
            · exact g2 y1
            · omega
            · omega
      · refine ⟨by simp [hh.1], fun b t2 q2 ht2 hq2 => ?_⟩
        by_cases hb : b = a
        · subst hb
          rw [List.getElem?_set_self (List.getElem?_eq_some_iff.mp e1).1] at hq2
          cases hq2
          cases ht2.symm.trans ht
          refine ⟨e2, by simp [e3], fun g hg k w2 k1 k2 k3 => ?_⟩
          by_cases hkj : k = j
          · subst hkj
            rw [List.getElem?_set_self hjl] at k3
            cases k3
            have l1 := aLo_le hS.1 hw
            have l2 := aHj_ge hS.1 hw
            exact aFit_ok hS hv (List.all_eq_true.mp hc3 g (aRgs_mem hg k1 k2 (by omega) (by omega)))
          · rw [List.getElem?_set_ne (Ne.symm hkj)] at k3
            exact e4 g hg k w2 k1 k2 k3
        · rw [List.getElem?_set_ne (Ne.symm hb)] at hq2
          exact hh.2 b t2 q2 ht2 hq2
    · cases hr
/-! numbers -/
noncomputable def aMi : Int := -2147483648
noncomputable def aMa : Int := 2147483647
noncomputable def aLi : Int := -9223372036854775808
noncomputable def aLa : Int := 9223372036854775807
theorem aI_rg (x : Int32) : aMi ≤ x.toInt ∧ x.toInt ≤ aMa := by
  have h1 := Int32.le_toInt x
  have h2 := Int32.toInt_lt x
  unfold aMi aMa
  omega
theorem aL_rg (x : Int64) : aLi ≤ x.toInt ∧ x.toInt ≤ aLa := by
  have h1 := Int64.le_toInt x
  have h2 := Int64.toInt_lt x
  unfold aLi aLa
  omega
theorem bmod32 {x : Int} (h1 : aMi ≤ x) (h2 : x ≤ aMa) : x.bmod (2 ^ 32) = x := by
  unfold aMi at h1; unfold aMa at h2
  exact Int.bmod_eq_of_le (by omega) (by omega)
theorem bmod64 {x : Int} (h1 : aLi ≤ x) (h2 : x ≤ aLa) : x.bmod (2 ^ 64) = x := by
  unfold aLi at h1; unfold aLa at h2
  exact Int.bmod_eq_of_le (by omega) (by omega)
theorem aI_add {x y : Int32} (h1 : aMi ≤ x.toInt + y.toInt) (h2 : x.toInt + y.toInt ≤ aMa) : (x + y).toInt = x.toInt + y.toInt := by rw [Int32.toInt_add]; exact bmod32 h1 h2
theorem aI_sub {x y : Int32} (h1 : aMi ≤ x.toInt - y.toInt) (h2 : x.toInt - y.toInt ≤ aMa) : (x - y).toInt = x.toInt - y.toInt := by rw [Int32.toInt_sub]; exact bmod32 h1 h2
theorem aI_mul {x y : Int32} (h1 : aMi ≤ x.toInt * y.toInt) (h2 : x.toInt * y.toInt ≤ aMa) : (x * y).toInt = x.toInt * y.toInt := by rw [Int32.toInt_mul]; exact bmod32 h1 h2
theorem aI_neg {x : Int32} (h1 : aMi ≤ -x.toInt) (h2 : -x.toInt ≤ aMa) : (-x).toInt = -x.toInt := by rw [Int32.toInt_neg]; exact bmod32 h1 h2
theorem aL_add {x y : Int64} (h1 : aLi ≤ x.toInt + y.toInt) (h2 : x.toInt + y.toInt ≤ aLa) : (x + y).toInt = x.toInt + y.toInt := by rw [Int64.toInt_add]; exact bmod64 h1 h2
theorem aL_sub {x y : Int64} (h1 : aLi ≤ x.toInt - y.toInt) (h2 : x.toInt - y.toInt ≤ aLa) : (x - y).toInt = x.toInt - y.toInt := by rw [Int64.toInt_sub]; exact bmod64 h1 h2
theorem aL_mul {x y : Int64} (h1 : aLi ≤ x.toInt * y.toInt) (h2 : x.toInt * y.toInt ≤ aLa) : (x * y).toInt = x.toInt * y.toInt := by rw [Int64.toInt_mul]; exact bmod64 h1 h2
theorem aI_lit {n : Int} (h1 : aMi ≤ n) (h2 : n ≤ aMa) : (Int32.ofInt n).toInt = n := by rw [Int32.toInt_ofInt]; exact bmod32 h1 h2
theorem aL_lit {n : Int} (h1 : aLi ≤ n) (h2 : n ≤ aLa) : (Int64.ofInt n).toInt = n := by rw [Int64.toInt_ofInt]; exact bmod64 h1 h2
theorem aI_ind {x y : Int32} : x = y ↔ x.toInt = y.toInt := Int32.toInt_inj.symm
theorem aI_tdiv {x y : Int32} (h : 0 ≤ x.toInt) (hy : 0 < y.toInt) : (x / y).toInt = x.toInt / y.toInt := lg_idiv_nonneg h hy
theorem aI_rem (x y : Int32) : (x - x / y * y).toInt = x.toInt.tmod y.toInt := rem_toInt x y
theorem aL_rem (x y : Int64) : (x - x / y * y).toInt = x.toInt.tmod y.toInt := by
  have h1 : x - x / y * y = x % y := by
    apply Int64.toInt_inj.mp
    rw [Int64.toInt_sub, Int64.toInt_mul, Int64.toInt_div, Int.bmod_mul_bmod, Int.sub_bmod_bmod, Int.mul_comm (x.toInt.tdiv y.toInt), ← Int.tmod_def, ← Int64.toInt_mod]
    exact bmod64 (aL_rg _).1 (aL_rg _).2
  rw [h1, Int64.toInt_mod]
