/-! the analyser once more, with cells that it tells at the end -/
abbrev aPo : Type := Nat × Nat × Int
noncomputable def nPo (po : List aPo) (h : mH) : Prop := ∀ p ∈ po, ∃ z : Int32, aSlot h p.1 p.2.1 = some (.int z) ∧ z.toInt = p.2.2
noncomputable def aPoB (S : aSt) (po : List aPo) : Bool := po.all (fun p => S.2.2.1.any (fun g => g.1 == p.1 && (g.2.2.1 == 0 && (aPr S (aSb g.2.1 (aK p.2.1)) && (aPr S (aSb (aK p.2.1) g.2.1) && (aPr S (aSb g.2.2.2.1 (aK p.2.2)) && aPr S (aSb (aK p.2.2) g.2.2.2.1)))))))
theorem aPoB_ok {r : Nat → Int} {S : aSt} {m0 : Int} {h : mH} {po : List aPo} (hS : aOk r S m0 h) (hb : aPoB S po = true) : nPo po h := by
  intro p hp
  obtain ⟨g, g1, g2⟩ := List.any_eq_true.mp (List.all_eq_true.mp hb p hp)
  simp only [Bool.and_eq_true, beq_iff_eq] at g2
  obtain ⟨e1, e2, e3, e4, e5, e6⟩ := g2
  obtain ⟨w1, j, w, w2, w3, w4⟩ := hS.2.2.1 g g1
  obtain ⟨ga, gi, gk, gv, gn⟩ := g
  dsimp only at e1 e2 e3 e4 e5 e6 w1 w2 w3 w4
  subst e2
  obtain ⟨wv, z, rfl, ez⟩ := aVs0 w4
  have q3 := aPr_ok hS (aSb_wf w1 (aK_wf _ _)) e3
  have q4 := aPr_ok hS (aSb_wf (aK_wf _ _) w1) e4
  have q5 := aPr_ok hS (aSb_wf wv (aK_wf _ _)) e5
  have q6 := aPr_ok hS (aSb_wf (aK_wf _ _) wv) e6
  rw [aSb_ev, aK_ev] at q3 q4 q5 q6
  have hj : j = p.2.1 := by omega
  subst hj
  subst e1
  exact ⟨z, w3, by omega⟩
noncomputable def bMe (sc : List Int32) (dm : Nat) (po : List aPo) (c : aCt) : Prop := ∀ (h : mH) (av : List Value) (r : Nat → Int) (m1 : Int) (t : mM), mTab[c.1]? = some t → aHp h → aOk r c.2.1.1 m1 h → nMf c.2.1.1.1.length r c.2.1.2.1 [(c.1, 0, mEntL (mMX t) av, [])] → ∀ d, dm ≤ d → ∃ r0, nEv sc d c.1 av h r0 ∧ aHp r0.2 ∧ nFr c.2.2.2 h r0.2 ∧ nRes c.2.2.1 r0.1 ∧ nPo po r0.2
theorem bMe.mono {sc : List Int32} {d1 d2 : Nat} {po : List aPo} {c : aCt} (h : bMe sc d1 po c) (hd : d1 ≤ d2) : bMe sc d2 po c := fun hp av r m1 t q1 q2 q3 q4 d hq => h hp av r m1 t q1 q2 q3 q4 d (by omega)
noncomputable def bSt1 (po : List aPo) (X : aCx) (w : aW) : Option (List aW) := match w.2.1 with
  | [] => none
  | f :: fs => match aMt f.1 with
    | none => none
    | some t => match aCe t f.2.1 with
      | none => none
      | some en =>
        if (!w.2.2 && X.2.2.1.contains (f.1, f.2.1)) = true then (if X.2.1.any (fun A => aEnS w.1 (f :: fs) A (aSg w.1 (f :: fs) A.2.2 []) && aMs w.1 (aSg w.1 (f :: fs) A.2.2 []) A.1.2.2.2) = true then some [] else none)
        else match aFkV w.1 (f :: fs) X.2.2.2.1 with
        | some x => some ((aFkL w.1 x ((w.1.1.getD x (0, 0)).2 - (w.1.1.getD x (0, 0)).1 + 1).toNat (w.1.1.getD x (0, 0)).1).map (fun S1 => (S1, f :: fs, true)))
        | none =>
          if nCl en = 12 then (match aRet w.1 t en f.2.2.2 with
            | some l => match fs with
              | [] => if (aRsB w.1 X.2.2.2.2.1 l && aPoB w.1 po) = true then some [] else none
              | f2 :: gs => some [(w.1, (f2.1, f2.2.1, f2.2.2.1, l ++ f2.2.2.2) :: gs, false)]
            | none => none)
          else if nCl en = 5 then (match aMt (mTgt en 1) with
            | some t2 => if mCnt t2 ≤ f.2.2.2.length then aInto X w.1 f fs (mTgt en 1) t2 (f.2.2.2.take (mCnt t2)).reverse (f.2.2.2.drop (mCnt t2)) else none
            | none => none)
          else if aWk X.2.2.2.2.2 en w.1 f.2.2.2 = true then (match aStp en w.1 f.2.1 f.2.2.1 f.2.2.2 with
            | some l => some (l.map (fun q => (q.1, (f.1, q.2.1, q.2.2.1, q.2.2.2) :: fs, false)))
            | none => none) else none
/-- the same, on a state that has been taken apart and put together anew -/
noncomputable def bSt2 (po : List aPo) (X : aCx) (w : aW) : Option (List aW) := match w with
  | ((B, C, G, O), (k, i, L, st) :: fs, b) => bSt1 po X ((B, C, G, O), (k, i, L, st) :: fs, b)
  | (_, [], _) => none
theorem bSt2_eq (po : List aPo) (X : aCx) (w : aW) : bSt2 po X w = bSt1 po X w := by
  obtain ⟨⟨B, C, G, O⟩, frs, b⟩ := w
  match frs with
  | [] => rfl
  | (k, i, L, st) :: fs => rfl
noncomputable def bGo (po : List aPo) (X : aCx) : Nat → List aW → Bool
  | _, [] => true
  | 0, _ :: _ => false
  | n + 1, w :: ws => match bSt2 po X w with
    | some l => bGo po X n (l ++ ws)
    | none => false
noncomputable def bOut (po : List aPo) (X : aCx) (sc : List Int32) (D0 : Nat) (h0 : mH) (c : nF) (cs : List nF) (h : mH) : Prop := ∃ res, nRs sc cs (D0 - cs.length) c h res ∧ aHp res.2 ∧ nFr X.2.2.2.2.2 h0 res.2 ∧ nRes X.2.2.2.2.1 res.1 ∧ nPo po res.2
noncomputable def bGd (po : List aPo) (X : aCx) (sc : List Int32) (D0 : Nat) (h0 : mH) (m0 : Int) (w : aW) : Prop := ∀ (r : Nat → Int) (h : mH) (c : nF) (cs : List nF), aOk r w.1 m0 h → aHp h → nFr X.2.2.2.2.2 h0 h → nMf w.1.1.length r w.2.1 (c :: cs) → cs.length ≤ 8 → bOut po X sc D0 h0 c cs h
noncomputable def bHd (po : List aPo) (X : aCx) (sc : List Int32) (D0 : Nat) (h0 : mH) (m0 : Int) : Prop := ∀ A ∈ X.2.1, ∀ (r : Nat → Int) (h : mH) (c : nF) (cs : List nF) (m1 : Int), aOk r A.1 m1 h → 0 ≤ m1 → m1 < m0 → aHp h → nFr X.2.2.2.2.2 h0 h → nMf A.1.1.length r A.2.1 (c :: cs) → cs.length ≤ 8 → bOut po X sc D0 h0 c cs h
section ASND
variable {po : List aPo} {X : aCx} {sc : List Int32} {D0 dm : Nat} {h0 h : mH} {m0 : Int} {r : Nat → Int} {S : aSt}
set_option maxHeartbeats 1000000 in
theorem bInto_ok (hT : ∀ c ∈ X.1, nMe sc dm c) (hD : dm + 8 ≤ D0) {f : aF} {fs : List aF} {t t2 : mM} {en : mE} {l : List aW} {M : mL} {su : List Value} {cs : List nF}
    (hS : aOk r S m0 h) (hh : aHp h) (hf : nFr X.2.2.2.2.2 h0 h) (ht : mTab[f.1]? = some t) (he : (mMC t)[f.2.1]? = some en) (hk : nCl en = 5) (ht2 : mTab[mTgt en 1]? = some t2) (hcn : mCnt t2 ≤ f.2.2.2.length)
    (e3 : aFs S.1.length r f.2.2.1 M) (e4 : aSk S.1.length r f.2.2.2 su) (e5 : nMf S.1.length r fs cs) (h8 : cs.length ≤ 8)
    (hw : aInto X S f fs (mTgt en 1) t2 (f.2.2.2.take (mCnt t2)).reverse (f.2.2.2.drop (mCnt t2)) = some l) (hl : ∀ w1 ∈ l, bGd po X sc D0 h0 m0 w1) : bOut po X sc D0 h0 (f.1, f.2.1, M, su) cs h := by
  unfold aInto at hw
  have a1 := (e4.take (mCnt t2)).rev
  have a2 := e4.drop (mCnt t2)
  have hlen := e4.len
  generalize hargs : (f.2.2.2.take (mCnt t2)).reverse = args at hw a1
  generalize hrest : f.2.2.2.drop (mCnt t2) = rest at hw a2
  split at hw
  · rename_i hc
    simp only [Bool.and_eq_true, decide_eq_true_eq] at hc
    obtain ⟨c1, c2, c3, c4⟩ := hc
    obtain ⟨n1, n2⟩ := aEntL_ok (mx := mMX t2) a1 c2
    have k1 : mCnt t2 ≤ su.length := by omega
    have k2 : ((su.drop (mCnt t2)).map (fun v => v.category)).sum ≤ 8 := by have := aCat_le a2; omega
    have k3 := aRcv_ok ht2 hh a1 c3
    have k4 : (mEnt ((su.take (mCnt t2)).reverse)).length ≤ mMX t2 := by omega
    have hfr : nMf S.1.length r [(mTgt en 1, 0, aEntL (mMX t2) args, [])] [(mTgt en 1, 0, mEntL (mMX t2) ((su.take (mCnt t2)).reverse), [])] := ⟨⟨rfl, rfl, n1, trivial⟩, trivial⟩
    split at hw
    · rename_i c hfind
      have hc1 := List.find?_some hfind
      have hc2 := List.mem_of_find?_eq_some hfind
      rw [Bool.and_eq_true] at hc1
      split at hw
      · rename_i hmc
        cases hw
        have hck : c.1 = mTgt en 1 := by simpa using hc1.1
        obtain ⟨x1, x2, x3⟩ := aEnS_ok hS hfr hc1.2
        obtain ⟨r0, y1, y2, y3, y4⟩ := hT c hc2 h ((su.take (mCnt t2)).reverse) _ _ t2 (by rw [hck]; exact ht2) hh x1 (by rw [hck]; exact x2) (D0 - cs.length) (by omega)
        have hd := aDrp_ok hS hh y2 y3
        obtain ⟨r1, z1, z2, z3⟩ := aBk_ok hd y4
        obtain ⟨res, u1, u2⟩ := hl _ List.mem_cons_self r1 r0.2 (f.1, f.2.1 + 1, M, r0.1.toList ++ su.drop (mCnt t2)) cs z1 y2 (hf.tr (nFr_mc hh y2 hmc y3)) ⟨⟨rfl, rfl, e3.le z2, z3.app (a2.le z2)⟩, e5.le z2⟩ h8
        rw [hck] at y1
        exact ⟨res, nRs_call (f := (f.1, f.2.1, M, su)) ht he hk rfl ht2 k1 k2 k3 k4 y1 u1, u2⟩
      · cases hw
    · split at hw
      · rename_i h7
        cases hw
        have hlf := e5.len
        obtain ⟨res, u1, u2⟩ := hl _ List.mem_cons_self r h (mTgt en 1, 0, mEntL (mMX t2) ((su.take (mCnt t2)).reverse), []) ((f.1, f.2.1 + 1, M, su.drop (mCnt t2)) :: cs) hS hh hf ⟨⟨rfl, rfl, n1, trivial⟩, ⟨rfl, rfl, e3, a2⟩, e5⟩ (by simp only [List.length_cons]; omega)
        refine ⟨res, ?_, u2⟩
        have hd1 : D0 - cs.length = (D0 - (cs.length + 1)) + 1 := by omega
        rw [hd1]
        exact nRs_into (f := (f.1, f.2.1, M, su)) ht he hk rfl ht2 k1 k2 k3 k4 u1
      · cases hw
  · cases hw
set_option maxHeartbeats 1000000 in
theorem bSt1_ok (hT : ∀ c ∈ X.1, nMe sc dm c) (hD : dm + 8 ≤ D0) (hH : bHd po X sc D0 h0 m0) {w : aW} {l : List aW} (hw : bSt1 po X w = some l) (hl : ∀ w1 ∈ l, bGd po X sc D0 h0 m0 w1) : bGd po X sc D0 h0 m0 w := by
  intro r h c cs hS hh hf hm h8
  obtain ⟨S, frs, fresh⟩ := w
  unfold bSt1 at hw
  dsimp only at hw hS hm
  split at hw
  · cases hw
  · rename_i f fs
    obtain ⟨⟨e1, e2, e3, e4⟩, e5⟩ := hm
    obtain ⟨ck, cpc, M, su⟩ := c
    dsimp only at e1 e2 e3 e4
    subst e1
    subst e2
    rw [aMt_eq] at hw
    split at hw
    · cases hw
    · rename_i t ht
      rw [aCe_eq] at hw
      split at hw
      · cases hw
      · rename_i en hen
        split at hw
        · split at hw
          · rename_i hA
            obtain ⟨A, A1, A2⟩ := List.any_eq_true.mp hA
            rw [Bool.and_eq_true] at A2
            obtain ⟨x1, x2, x3⟩ := aEnS_ok (frs := f :: fs) (cfs := (f.1, f.2.1, M, su) :: cs) hS ⟨⟨rfl, rfl, e3, e4⟩, e5⟩ A2.1
            obtain ⟨y1, y2⟩ := aMs_ok hS hh x3 A2.2
            exact hH A A1 _ h _ cs _ x1 y1 y2 hh hf x2 h8
          · cases hw
        · split at hw
          · rename_i x hx
            cases hw
            have hxl := aFkV_ok hx
            obtain ⟨b1, b2⟩ := aBd_get hS.1 hxl
            obtain ⟨S1, s1, s2, s3⟩ := aFkL_ok hS hxl ((S.1.getD x (0, 0)).2 - (S.1.getD x (0, 0)).1 + 1).toNat (S.1.getD x (0, 0)).1 b1 (by omega)
            exact hl _ (List.mem_map.mpr ⟨S1, s1, rfl⟩) r h _ cs s2 hh hf (by show nMf S1.1.length r (f :: fs) _; rw [s3]; exact ⟨⟨rfl, rfl, e3, e4⟩, e5⟩) h8
          · split at hw
            · rename_i hk
              split at hw
              · rename_i lv hret
                obtain ⟨v, v1, v2⟩ := aRet_ok hS e4 hret
                split at hw
                · split at hw
                  · rename_i hrs
                    cases hw
                    match cs, e5 with
                    | [], _ => exact ⟨(v, h), nRs_end (f := (f.1, f.2.1, M, su)) ht hen v1, hh, hf, aRsB_ok hS v2 (Bool.and_eq_true_iff.mp hrs).1, aPoB_ok hS (Bool.and_eq_true_iff.mp hrs).2⟩
                    | _ :: _, e5 => exact e5.elim
                  · cases hw
                · rename_i f2 gs
                  cases hw
                  match cs, e5, h8 with
                  | [], e5, _ => exact e5.elim
                  | c2 :: cs2, e5, h8 =>
                    obtain ⟨⟨g1, g2, g3, g4⟩, g5⟩ := e5
                    simp only [List.length_cons] at h8
                    obtain ⟨res, u1, u2⟩ := hl _ List.mem_cons_self r h (nPs v c2) cs2 hS hh hf ⟨⟨g1, g2, g3, v2.app g4⟩, g5⟩ (by omega)
                    refine ⟨res, nRs_ret (f := (f.1, f.2.1, M, su)) ht hen v1 ?_, u2⟩
                    have hd1 : (D0 - (c2 :: cs2).length) + 1 = D0 - cs2.length := by simp only [List.length_cons]; omega
                    rw [hd1]
                    exact u1
              · cases hw
            · split at hw
              · rename_i hk12 hk
                rw [aMt_eq] at hw
                split at hw
                · rename_i t2 ht2
                  split at hw
                  · rename_i hcn
                    exact bInto_ok hT hD hS hh hf ht hen hk ht2 hcn e3 e4 e5 h8 hw hl
                  · cases hw
                · cases hw
              · split at hw
                · rename_i hk12 hk5 hwk
                  split at hw
                  · rename_i ql hst
                    cases hw
                    obtain ⟨g1, q1, q2, q3⟩ := aStp_ok (sc := sc) hS hh e3 e4 hst hwk
                    obtain ⟨p, p1, r1, p2, p3, p4, p5, p6, p7⟩ := q2
                    obtain ⟨res, u1, u2⟩ := hl _ (List.mem_map.mpr ⟨p, p1, rfl⟩) r1 g1.2.2.2 (f.1, g1.1, g1.2.1, g1.2.2.1) cs p2 p3 (hf.tr q3) ⟨⟨rfl, p5, p6, p7⟩, e5.le p4⟩ h8
                    exact ⟨res, nRs_step (f := (f.1, f.2.1, M, su)) (f1 := (f.1, g1.1, g1.2.1, g1.2.2.1)) ht hen hk12 ⟨0, fun n _ => q1 _⟩ rfl u1, u2⟩
                  · cases hw
                · cases hw
theorem bGo_ok (hT : ∀ c ∈ X.1, nMe sc dm c) (hD : dm + 8 ≤ D0) (hH : bHd po X sc D0 h0 m0) : ∀ (n : Nat) (ws : List aW), bGo po X n ws = true → ∀ w ∈ ws, bGd po X sc D0 h0 m0 w := by
  intro n
  induction n with
  | zero =>
    intro ws hg w hw
    cases ws with
    | nil => cases hw
    | cons _ _ => cases hg
  | succ n ih =>
    intro ws hg w hw
    cases ws with
    | nil => cases hw
    | cons w0 ws =>
      unfold bGo at hg
      rw [bSt2_eq po] at hg
      split at hg
      · rename_i l hl
        have h1 := ih _ hg
        rcases List.mem_cons.mp hw with rfl | hw
        · exact bSt1_ok hT hD hH hl (fun w1 q => h1 w1 (List.mem_append_left _ q))
        · exact h1 w (List.mem_append_right _ hw)
      · cases hg
/-- all that is checked of one promise -/
noncomputable def bCk (po : List aPo) (T : List aCt) (As : List aAn) (hd : List (Nat × Nat)) (fk : List (Nat × Nat × aLc)) (c : aCt) (n : Nat) : Bool :=
  bGo po (T, As, hd, fk, c.2.2.1, c.2.2.2) n [(c.2.1.1, c.2.1.2.1, true)] && As.all (fun A => bGo po (T, As, hd, fk, c.2.2.1, c.2.2.2) n [(aTt A.1, A.2.1, true)])
theorem bCk_ok {T : List aCt} {As : List aAn} {hd : List (Nat × Nat)} {fk : List (Nat × Nat × aLc)} {c : aCt} {n : Nat} (hT : ∀ c ∈ T, nMe sc dm c) (hk : bCk po T As hd fk c n = true) : bMe sc (dm + 9) po c := by
  unfold bCk at hk
  rw [Bool.and_eq_true] at hk
  obtain ⟨hk1, hk2⟩ := hk
  intro h av r m1 t ht hh hS hm d hd1
  generalize hX : ((T, As, hd, fk, c.2.2.1, c.2.2.2) : aCx) = X at hk1 hk2
  have hXT : ∀ c ∈ X.1, nMe sc dm c := by rw [← hX]; exact hT
  have hXA : X.2.1 = As := by rw [← hX]
  have hXr : X.2.2.2.2.1 = c.2.2.1 := by rw [← hX]
  have hXm : X.2.2.2.2.2 = c.2.2.2 := by rw [← hX]
  obtain ⟨D0, rfl⟩ : ∃ D0, d = D0 + 1 := ⟨d - 1, by omega⟩
  have hD : dm + 8 ≤ D0 := by omega
  have key : ∀ (N : Nat) (m0 : Int), m0.toNat ≤ N → bHd po X sc D0 h m0 := by
    intro N
    induction N with
    | zero =>
      intro m0 hN A hA r1 h1 c1 cs1 m2 q1 q2 q3
      omega
    | succ N ih =>
      intro m0 hN A hA r1 h1 c1 cs1 m2 q1 q2 q3 q4 q5 q6 q7
      have hA2 := List.all_eq_true.mp hk2 A (by rw [← hXA]; exact hA)
      have hg := bGo_ok hXT hD (ih m2 (by omega)) n _ hA2 _ List.mem_cons_self
      obtain ⟨t1, t2⟩ := aTt_ok q1
      exact hg r1 h1 c1 cs1 t1 q4 q5 (by show nMf (aTt A.1).1.length r1 A.2.1 _; rw [t2]; exact q6) q7
  have hg := bGo_ok hXT hD (key m1.toNat m1 (Nat.le_refl _)) n _ hk1 _ List.mem_cons_self
  obtain ⟨res, u1, u2, u3, u4, u5⟩ := hg r h _ [] hS hh (nFr.rf _ _) hm (by simp)
  rw [hXm] at u3
  rw [hXr] at u4
  obtain ⟨t1, v1, v2⟩ := u1
  have v1 : mTab[c.1]? = some t1 := v1
  rw [ht] at v1
  cases v1
  exact ⟨res, nEv_of ht v2, u2, u3, u4, u5⟩
end ASND
