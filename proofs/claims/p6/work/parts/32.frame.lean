/-! which cells a step may change; copies of arrays; a step of the analyser -/
abbrev aMd : Type := List (Nat × Int × Int)
noncomputable def aCov (ms : aMd) (a j : Nat) : Prop := ∃ m ∈ ms, m.1 = a ∧ m.2.1 ≤ (j : Int) ∧ (j : Int) ≤ m.2.2
noncomputable def nFr (ms : aMd) (h0 h : mH) : Prop := ∀ a j, ¬ aCov ms a j → aSlot h a j = aSlot h0 a j
theorem nFr.rf (ms : aMd) (h : mH) : nFr ms h h := fun _ _ _ => rfl
theorem nFr.tr {ms : aMd} {h0 h1 h2 : mH} (a : nFr ms h0 h1) (b : nFr ms h1 h2) : nFr ms h0 h2 := fun c j q => (b c j q).trans (a c j q)
noncomputable def aLn (a : Nat) : Int := match aTq a with
  | some t => (t.2.1 : Int)
  | none => 0
noncomputable def aWc (ms : aMd) (a : Nat) (lo hi : Int) : Bool := ms.any (fun m => m.1 == a && (decide (m.2.1 ≤ max lo 0) && (decide (hi ≤ m.2.2) || decide (aLn a ≤ m.2.2 + 1))))
theorem aHp_ln {h : mH} (hh : aHp h) {a : Nat} {q : mC} (hq : h[a]? = some q) : (q.2.length : Int) = aLn a := by
  have h1 : a < aT.length := by rw [← hh.1]; exact (List.getElem?_eq_some_iff.mp hq).1
  have h2 : aT[a]? = some aT[a] := List.getElem?_eq_getElem h1
  obtain ⟨q1, e1, -, e3, -⟩ := aHp_at hh h2
  rw [hq] at e1
  cases e1
  unfold aLn
  rw [aTq_eq, h2]
  dsimp only
  rw [e3]
theorem aWc_ok {ms : aMd} {a j : Nat} {lo hi : Int} (hc : aWc ms a lo hi = true) (h1 : lo ≤ (j : Int)) (h2 : (j : Int) ≤ hi) (h3 : (j : Int) < aLn a) : aCov ms a j := by
  obtain ⟨m, hm, hc⟩ := List.any_eq_true.mp hc
  simp only [Bool.and_eq_true, Bool.or_eq_true, decide_eq_true_eq, beq_iff_eq] at hc
  obtain ⟨c1, c2, c3⟩ := hc
  exact ⟨m, hm, c1, by omega, by omega⟩
noncomputable def aWk (ms : aMd) (en : mE) (S : aSt) (st : List aV) : Bool := match en.2.1 with
  | .putfield _ => match st with
    | _ :: (2, _, a) :: _ => aWc ms a (mTgt en 2) (mTgt en 2)
    | _ => false
  | .iastore => match st with
    | _ :: (0, j, _) :: (2, _, a) :: _ => aWc ms a (aLo S.1 j) (aHj S.1 j)
    | _ => false
  | .bastore => match st with
    | _ :: (0, j, _) :: (2, _, a) :: _ => aWc ms a (aLo S.1 j) (aHj S.1 j)
    | _ => false
  | .invokestatic _ => match st with
    | _ :: _ :: (2, _, a) :: _ => aWc ms a 0 (aLn a)
    | _ => false
  | _ => true
section NFRM
variable {r : Nat → Int} {S : aSt} {m0 : Int} {h : mH} {L : List aV} {M : mL} {st : List aV} {su : List Value} {i : Nat} {en : mE} {l : List aQ} {sc : List Int32} {ms : aMd} {g : mG}
theorem nFr_set {a j : Nat} {q : mC} {w : Value} (hq : h[a]? = some q) (hc : aCov ms a j) : nFr ms h (h.set a (q.1, q.2.set j w)) := by
  intro b n hn
  rw [aSlot_set hq, if_neg]
  rintro ⟨rfl, rfl⟩
  exact hn hc
theorem aF1_fr (hh : aHp h) (hs : aSk S.1.length r st su) (hw : aWk ms en S st = true) (hg : mF1 en i M su h = some g) : nFr ms h g.2.2.2 := by
  unfold mF1 at hg
  unfold aWk at hw
  split at hg
  · (repeat' split at hg) <;> first | (cases hg; exact nFr.rf _ _) | cases hg
  · rename_i idx heq
    rw [heq] at hw
    dsimp only at hw
    split at hw
    · rename_i v e0 a s
      obtain ⟨w1, t1, rfl, h1, h2⟩ := hs.cons
      obtain ⟨w2, t2, rfl, h3, h4⟩ := h2.cons
      have h5 : w2 = .ref a := h3.2
      subst h5
      dsimp only at hg
      split at hg
      · rename_i q hq
        split at hg
        · rename_i hc
          cases hg
          refine nFr_set hq (aWc_ok hw (Int.le_refl _) (Int.le_refl _) ?_)
          rw [← aHp_ln hh hq]
          omega
        · cases hg
      · cases hg
    · cases hw
  · cases hg
theorem aIx_cov {j : aX} {z : Int32} {n : Nat} {a : Nat} {q : mC} (hS : aOk r S m0 h) (hh : aHp h) (hq : h[a]? = some q) (wj : aWf S.1.length j) (ej : z.toInt = aEv r j) (hi : mIx z q.2.length = true) (hw : aWc ms a (aLo S.1 j) (aHj S.1 j) = true) : aCov ms a z.toNatClampNeg := by
  unfold mIx at hi
  rw [decide_eq_true_eq] at hi
  have l1 := aLo_le hS.1 wj
  have l2 := aHj_ge hS.1 wj
  have h0 : 0 ≤ z.toInt := by
    have h1 : ¬ z < 0 := fun q => hi (Or.inl q)
    have h2 := Int32.le_iff_toInt_le.mp (Int32.not_lt.mp h1)
    simpa using h2
  have h3 : (z.toNatClampNeg : Int) = z.toInt := by
    show ((z.toInt.toNat : Nat) : Int) = z.toInt
    omega
  refine aWc_ok hw (by omega) (by omega) ?_
  rw [← aHp_ln hh hq]
  have : ¬ q.2.length ≤ z.toNatClampNeg := fun x => hi (Or.inr x)
  omega
theorem aF3_fr (hS : aOk r S m0 h) (hh : aHp h) (hs : aSk S.1.length r st su) (hl : aF3 en S i L st = some l) (hw : aWk ms en S st = true) (hg : mF3 en i M su h = some g) : nFr ms h g.2.2.2 := by
  unfold mF3 at hg
  unfold aWk at hw
  split at hg
  · rename_i heq
    rw [heq] at hw
    dsimp only at hw
    split at hw
    · rename_i v j kj e0 a s
      obtain ⟨w1, t1, rfl, h1, h2⟩ := hs.cons
      obtain ⟨w2, t2, rfl, h3, h4⟩ := h2.cons
      obtain ⟨w3, t3, rfl, h5, h6⟩ := h4.cons
      have h7 : w3 = .ref a := h5.2
      subst h7
      obtain ⟨wj, z, rfl, ej⟩ := aVs0 h3
      split at hg
      · rename_i v2 j2 a2 r2 heq2
        cases heq2
        split at hg
        · rename_i q hq
          split at hg
          · rename_i hc
            cases hg
            exact nFr_set hq (aIx_cov (n := 0) hS hh hq wj ej hc.2 hw)
          · cases hg
        · cases hg
      · cases hg
    · cases hw
  · rename_i heq
    rw [heq] at hw
    dsimp only at hw
    split at hw
    · rename_i v j kj e0 a s
      obtain ⟨w1, t1, rfl, h1, h2⟩ := hs.cons
      obtain ⟨w2, t2, rfl, h3, h4⟩ := h2.cons
      obtain ⟨w3, t3, rfl, h5, h6⟩ := h4.cons
      have h7 : w3 = .ref a := h5.2
      subst h7
      obtain ⟨wj, z, rfl, ej⟩ := aVs0 h3
      split at hg
      · rename_i v2 j2 a2 r2 heq2
        cases heq2
        split at hg
        · rename_i q hq
          split at hg
          · rename_i hc
            cases hg
            exact nFr_set hq (aIx_cov (n := 0) hS hh hq wj ej hc.2 hw)
          · split at hg
            · rename_i hc
              cases hg
              exact nFr_set hq (aIx_cov (n := 0) hS hh hq wj ej hc.2 hw)
            · cases hg
        · cases hg
      · cases hg
    · cases hw
  · rename_i heq
    unfold aF3 at hl
    rw [heq] at hl
    cases hl
  · cases hg
end NFRM
/-- copies of arrays -/
noncomputable def aTl (t0 t1 : aTy) : Bool := match t0.2.2 with
  | [g0] => match t1.2.2 with
    | [g1] => (decide (g0.1 = 0) && decide (t0.2.1 ≤ g0.2.1 + 1)) && ((decide (g0.2.2.1 = 3) && decide (g1.2.2.1 = 3)) || ((decide (g0.2.2.1 = 0) && decide (g1.2.2.1 = 0)) && (decide (g1.2.2.2.1 ≤ g0.2.2.2.1) && decide (g0.2.2.2.2 ≤ g1.2.2.2.2))))
    | _ => false
  | _ => false
noncomputable def aCp (en : mE) (S : aSt) (i : Nat) (L st : List aV) : Option (List aQ) := match en.2.1 with
  | .invokestatic _ => match st with
    | (0, n, _) :: (0, dp, _) :: (2, _, a1) :: (0, sp, _) :: (2, _, a0) :: s => match aTq a0 with
      | some t0 => match aTq a1 with
        | some t1 => if (decide (mTgt en 2 = 2 ∧ s.length ≤ 4 ∧ t0.1 = 50 ∧ t1.1 = 50 ∧ a1 ≠ 63) && (aTl t0 t1 && ((aPr S sp && (aPr S dp && aPr S n)) && (aPr S (aSb (aK t0.2.1) (aAd sp n)) && aPr S (aSb (aK t1.2.1) (aAd dp n)))))) = true then some [((S.1, S.2.1, S.2.2.1.filter (fun g => g.1 != a1), S.2.2.2), i + 1, L, s)] else none
        | none => none
      | none => none
    | _ => none
  | _ => none
theorem aCat_le {n : Nat} {r : Nat → Int} : ∀ {s : List aV} {t : List Value}, aSk n r s t → (t.map (fun v => v.category)).sum ≤ 2 * s.length
  | [], [], _ => by simp
  | v :: s, w :: t, h => by
    have ih := aCat_le h.2
    have h1 : w.category ≤ 2 := by cases w <;> simp [Value.category]
    simp only [List.map_cons, List.sum_cons, List.length_cons]
    omega
  | [], _ :: _, h => h.elim
  | _ :: _, [], h => h.elim
theorem aTl_ok {t0 t1 : aTy} {q0 : List Value} (hc : aTl t0 t1 = true) (hl : q0.length = t0.2.1) (h0 : ∀ g ∈ t0.2.2, ∀ (j : Nat) (w : Value), g.1 ≤ j → j ≤ g.2.1 → q0[j]? = some w → aIsT g w) : ∀ (j : Nat) (w : Value), q0[j]? = some w → mIsI w = true ∧ ∀ g ∈ t1.2.2, aIsT g w := by
  intro j w hw
  unfold aTl at hc
  split at hc
  · rename_i g0 e0
    split at hc
    · rename_i g1 e1
      simp only [Bool.and_eq_true, Bool.or_eq_true, decide_eq_true_eq] at hc
      obtain ⟨⟨c1, c2⟩, c3⟩ := hc
      have hj : j < q0.length := (List.getElem?_eq_some_iff.mp hw).1
      have hT := h0 g0 (by rw [e0]; exact List.mem_cons_self) j w (by omega) (by omega) hw
      unfold aIsT at hT
      rw [e1]
      rcases c3 with ⟨k0, k1⟩ | ⟨⟨k0, k1⟩, k2, k3⟩
      · rw [k0] at hT
        obtain ⟨z, rfl, hz⟩ := hT
        refine ⟨rfl, fun g hg => ?_⟩
        rcases List.mem_singleton.mp hg with rfl
        unfold aIsT
        rw [k1]
        exact ⟨z, rfl, hz⟩
      · rw [k0] at hT
        obtain ⟨z, rfl, hz1, hz2⟩ := hT
        refine ⟨rfl, fun g hg => ?_⟩
        rcases List.mem_singleton.mp hg with rfl
        unfold aIsT
        rw [k1]
        exact ⟨z, rfl, by omega, by omega⟩
    · cases hc
  · cases hc
theorem mCpy_get {us vs : List Value} {sp dp n : Nat} (h1 : sp + n ≤ us.length) {k : Nat} {w : Value} (hk : (mCpy us vs sp dp n)[k]? = some w) : (∃ j : Nat, us[j]? = some w) ∨ vs[k]? = some w := by
  unfold mCpy at hk
  rw [List.getElem?_map] at hk
  by_cases hl : k < vs.length
  · rw [List.getElem?_range hl] at hk
    have hk : va_cpy (vp_V us) (vp_V vs) sp dp n k = w := Option.some.inj hk
    unfold va_cpy vp_V at hk
    split at hk
    · rename_i hc
      refine Or.inl ⟨sp + (k - dp), ?_⟩
      have h2 : sp + (k - dp) < us.length := by omega
      rw [List.getD_eq_getElem?_getD, List.getElem?_eq_getElem h2] at hk
      rw [List.getElem?_eq_getElem h2, ← hk]
      rfl
    · refine Or.inr ?_
      rw [List.getD_eq_getElem?_getD, List.getElem?_eq_getElem hl] at hk
      rw [List.getElem?_eq_getElem hl, ← hk]
      rfl
  · rw [List.getElem?_eq_none (by simpa using Nat.le_of_not_lt hl)] at hk
    cases hk
section NCPY
variable {r : Nat → Int} {S : aSt} {m0 : Int} {h : mH} {L : List aV} {M : mL} {st : List aV} {su : List Value} {i : Nat} {en : mE} {l : List aQ} {sc : List Int32} {ms : aMd} {g : mG}
theorem aNn {z : Int32} {x : Int} (h0 : 0 ≤ x) (hz : z.toInt = x) : ¬ z < 0 ∧ (z.toNatClampNeg : Int) = x := by
  refine ⟨fun q => ?_, ?_⟩
  · have := Int32.lt_iff_toInt_lt.mp q
    have h0 : (0 : Int32).toInt = 0 := rfl
    omega
  · show ((z.toInt.toNat : Nat) : Int) = x
    omega
set_option maxHeartbeats 2000000 in
theorem aCp_ok (hS : aOk r S m0 h) (hh : aHp h) (hL : aFs S.1.length r L M) (hs : aSk S.1.length r st su) (hl : aCp en S i L st = some l) (hw : aWk ms en S st = true) : ∃ g1, mG2 en i M su h = some g1 ∧ aGood r S m0 l g1 ∧ nFr ms h g1.2.2.2 := by
  unfold aCp at hl
  unfold mG2
  unfold aWk at hw
  split at hl
  · rename_i idx heq
    rw [heq] at hw ⊢
    split at hl
    · rename_i n kn dp kd e1 a1 sp ks e0 a0 s
      obtain ⟨w1, t1, rfl, h1, h2⟩ := hs.cons
      obtain ⟨w2, t2, rfl, h3, h4⟩ := h2.cons
      obtain ⟨w3, t3, rfl, h5, h6⟩ := h4.cons
      obtain ⟨w4, t4, rfl, h7, h8⟩ := h6.cons
      obtain ⟨w5, t5, rfl, h9, h10⟩ := h8.cons
      have h11 : w3 = .ref a1 := h5.2
      have h12 : w5 = .ref a0 := h9.2
      subst h11
      subst h12
      obtain ⟨wn, zn, rfl, en1⟩ := aVs0 h1
      obtain ⟨wd, zd, rfl, ed1⟩ := aVs0 h3
      obtain ⟨ws, zs, rfl, es1⟩ := aVs0 h7
      rw [aTq_eq] at hl
      split at hl
      · rename_i ty0 ht0
        rw [aTq_eq] at hl
        split at hl
        · rename_i ty1 ht1
          split at hl
          · rename_i hc
            simp only [Bool.and_eq_true, decide_eq_true_eq] at hc
            obtain ⟨⟨c1, c2, c3, c4, c63⟩, c5, ⟨c6, c7, c8⟩, c9, c10⟩ := hc
            cases hl
            obtain ⟨q0, x1, x2, x3, x4⟩ := aHp_at hh ht0
            obtain ⟨q1, y1, y2, y3, y4⟩ := aHp_at hh ht1
            have p6 := aPr_ok hS ws c6
            have p7 := aPr_ok hS wd c7
            have p8 := aPr_ok hS wn c8
            have p9 := aPr_ok hS (aSb_wf (aK_wf _ _) (aAd_wf ws wn)) c9
            have p10 := aPr_ok hS (aSb_wf (aK_wf _ _) (aAd_wf wd wn)) c10
            rw [aSb_ev, aK_ev, aAd_ev] at p9 p10
            obtain ⟨n1, n2⟩ := aNn p8 en1
            obtain ⟨d1, d2⟩ := aNn p7 ed1
            obtain ⟨s1, s2⟩ := aNn p6 es1
            have hT := aTl_ok c5 x3 x4
            have hsl : zs.toNatClampNeg + zn.toNatClampNeg ≤ q0.2.length := by omega
            have hdl : zd.toNatClampNeg + zn.toNatClampNeg ≤ q1.2.length := by omega
            have hI : q0.2.all mIsI = true := by
              rw [List.all_eq_true]
              intro w hw
              obtain ⟨j, hj⟩ := List.getElem?_of_mem hw
              exact (hT j w hj).1
            have hcat := aCat_le h10
            dsimp only
            rw [x1]
            dsimp only
            rw [y1]
            dsimp only
            rw [if_pos ⟨c1, by omega, by omega, by omega, s1, d1, n1, hsl, hdl, hI⟩]
            refine ⟨_, rfl, ⟨_, List.mem_cons_self, r, ?_, ?_, aLe.rf, rfl, hL, h10⟩, ?_⟩
            · obtain ⟨hB, hC, hG, hO1, hO2⟩ := hS
              refine ⟨hB, hC, ?_, hO1, by
                have h63 : aPh (h.set a1 (q1.1, mCpy q0.2 q1.2 zs.toNatClampNeg zd.toNatClampNeg zn.toNatClampNeg)) = aPh h := by
                  unfold aPh
                  rw [List.getElem?_set_ne c63]
                dsimp only
                rw [h63]
                exact hO2⟩
              intro g hg
              obtain ⟨g1, g2⟩ := List.mem_filter.mp hg
              obtain ⟨z1, k, w2, z2, z3, z4⟩ := hG g g1
              refine ⟨z1, k, w2, z2, ?_, z4⟩
              unfold aSlot at z3 ⊢
              dsimp only
              rw [List.getElem?_set_ne]
              · exact z3
              · rintro rfl
                simp at g2
            · refine ⟨by simp [hh.1], fun b ty2 q2 ht2 hq2 => ?_⟩
              dsimp only at hq2
              by_cases hb : b = a1
              · subst hb
                rw [List.getElem?_set_self (List.getElem?_eq_some_iff.mp y1).1] at hq2
                cases hq2
                cases ht2.symm.trans ht1
                refine ⟨y2, by simp [mCpy, y3], fun g hg k w2 k1 k2 k3 => ?_⟩
                rcases mCpy_get hsl k3 with ⟨j, hj⟩ | hv
                · exact (hT j w2 hj).2 g hg
                · exact y4 g hg k w2 k1 k2 hv
              · rw [List.getElem?_set_ne (Ne.symm hb)] at hq2
                exact hh.2 b ty2 q2 ht2 hq2
            · intro b j hn
              unfold aSlot
              dsimp only
              by_cases hb : b = a1
              · subst hb
                by_cases hj : j < q1.2.length
                · exfalso
                  refine hn (aWc_ok hw (by omega) ?_ ?_)
                  · rw [← aHp_ln hh y1]; omega
                  · rw [← aHp_ln hh y1]; omega
                · rw [List.getElem?_set_self (List.getElem?_eq_some_iff.mp y1).1, y1]
                  dsimp only
                  rw [List.getElem?_eq_none (l := q1.2) (by omega), List.getElem?_eq_none (by simp [mCpy]; omega)]
              · rw [List.getElem?_set_ne (Ne.symm hb)]
          · cases hl
        · cases hl
      · cases hl
    · cases hl
  · cases hl
/-- one instruction -/
noncomputable def aStp (en : mE) (S : aSt) (i : Nat) (L st : List aV) : Option (List aQ) := match nCl en with
  | 1 => aA1 en S i L st
  | 2 => aB1 en S i L st
  | 3 => aB3 en S i L st
  | 4 => aF1 en S i L st
  | 6 => aF2 en S i L st
  | 7 => aF3 en S i L st
  | 8 => aA2 en S i L st
  | 9 => aB2 en S i L st
  | 11 => aCp en S i L st
  | _ => none
theorem aStp_ok (hS : aOk r S m0 h) (hh : aHp h) (hL : aFs S.1.length r L M) (hs : aSk S.1.length r st su) (hl : aStp en S i L st = some l) (hw : aWk ms en S st = true) : ∃ g1, (∀ call, mStep mTab (mXs sc) call en (i, M, su, h) = some g1) ∧ aGood r S m0 l g1 ∧ nFr ms h g1.2.2.2 := by
  unfold aStp at hl
  split at hl
  · obtain ⟨g1, q1, q2⟩ := aA1_ok hS hh hL hs hl
    exact ⟨g1, fun call => mStep_A1 q1, q2, by rw [(mA1_eqs q1).1]; exact nFr.rf _ _⟩
  · obtain ⟨g1, q1, q2⟩ := aB1_ok hS hh hL hs hl
    exact ⟨g1, fun call => mStep_B1 q1, q2, by rw [(mB1_eqs q1).1]; exact nFr.rf _ _⟩
  · obtain ⟨g1, q1, q2⟩ := aB3_ok hS hh hL hs hl
    exact ⟨g1, fun call => mStep_B3 q1, q2, by rw [(mB3_eqs q1).1]; exact nFr.rf _ _⟩
  · obtain ⟨g1, q1, q2⟩ := aF1_ok hS hh hL hs hl
    exact ⟨g1, fun call => mStep_F1 q1, q2, aF1_fr hh hs hw q1⟩
  · obtain ⟨g1, q1, q2⟩ := aF2_ok (sc := sc) hS hh hL hs hl
    exact ⟨g1, fun call => mStep_F2 q1, q2, by rw [(mF2_eqs q1).1]; exact nFr.rf _ _⟩
  · obtain ⟨g1, q1, q2⟩ := aF3_ok hS hh hL hs hl
    exact ⟨g1, fun call => mStep_F3 q1, q2, aF3_fr hS hh hs hl hw q1⟩
  · obtain ⟨g1, q1, q2⟩ := aA2_ok hS hh hL hs hl
    exact ⟨g1, fun call => mStep_A2 q1, q2, by rw [(mA2_eqs q1).1]; exact nFr.rf _ _⟩
  · obtain ⟨g1, q1, q2⟩ := aB2_ok hS hh hL hs hl
    exact ⟨g1, fun call => mStep_B2 q1, q2, by rw [(mB2_eqs q1).1]; exact nFr.rf _ _⟩
  · obtain ⟨g1, q1, q2, q3⟩ := aCp_ok hS hh hL hs hl hw
    exact ⟨g1, fun call => mStep_G2 q1, q2, q3⟩
  · cases hl
end NCPY
