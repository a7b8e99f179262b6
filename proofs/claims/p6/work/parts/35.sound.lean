/-! the analyser is right -/
noncomputable def nOut (X : aCx) (sc : List Int32) (D0 : Nat) (h0 : mH) (c : nF) (cs : List nF) (h : mH) : Prop := ∃ res, nRs sc cs (D0 - cs.length) c h res ∧ aHp res.2 ∧ nFr X.2.2.2.2.2 h0 res.2 ∧ nRes X.2.2.2.2.1 res.1
noncomputable def nGd (X : aCx) (sc : List Int32) (D0 : Nat) (h0 : mH) (m0 : Int) (w : aW) : Prop := ∀ (r : Nat → Int) (h : mH) (c : nF) (cs : List nF), aOk r w.1 m0 h → aHp h → nFr X.2.2.2.2.2 h0 h → nMf w.1.1.length r w.2.1 (c :: cs) → cs.length ≤ 8 → nOut X sc D0 h0 c cs h
noncomputable def nHd (X : aCx) (sc : List Int32) (D0 : Nat) (h0 : mH) (m0 : Int) : Prop := ∀ A ∈ X.2.1, ∀ (r : Nat → Int) (h : mH) (c : nF) (cs : List nF) (m1 : Int), aOk r A.1 m1 h → 0 ≤ m1 → m1 < m0 → aHp h → nFr X.2.2.2.2.2 h0 h → nMf A.1.1.length r A.2.1 (c :: cs) → cs.length ≤ 8 → nOut X sc D0 h0 c cs h
noncomputable def nMe (sc : List Int32) (dm : Nat) (c : aCt) : Prop := ∀ (h : mH) (av : List Value) (r : Nat → Int) (m1 : Int) (t : mM), mTab[c.1]? = some t → aHp h → aOk r c.2.1.1 m1 h → nMf c.2.1.1.1.length r c.2.1.2.1 [(c.1, 0, mEntL (mMX t) av, [])] → ∀ d, dm ≤ d → ∃ r0, nEv sc d c.1 av h r0 ∧ aHp r0.2 ∧ nFr c.2.2.2 h r0.2 ∧ nRes c.2.2.1 r0.1
theorem nMe.mono {sc : List Int32} {d1 d2 : Nat} {c : aCt} (h : nMe sc d1 c) (hd : d1 ≤ d2) : nMe sc d2 c := fun hp av r m1 t q1 q2 q3 q4 d hq => h hp av r m1 t q1 q2 q3 q4 d (by omega)
section ASND
variable {X : aCx} {sc : List Int32} {D0 dm : Nat} {h0 h : mH} {m0 : Int} {r : Nat → Int} {S : aSt}
theorem nFr_mc {ms ms1 : aMd} {h h1 : mH} (hh : aHp h) (hh1 : aHp h1) (hc : aMc ms ms1 = true) (hf : nFr ms1 h h1) : nFr ms h h1 := by
  intro a j hn
  by_cases hj : ((j : Int) < aLn a)
  · refine hf a j ?_
    rintro ⟨m, m1, m2, m3, m4⟩
    refine hn ?_
    have h2 := List.all_eq_true.mp hc m m1
    rw [m2] at h2
    exact aWc_ok h2 m3 m4 hj
  · have key : ∀ {q : mH}, aHp q → aSlot q a j = none := by
      intro q hq
      unfold aSlot
      split
      · rename_i z hz
        have := aHp_ln hq hz
        exact List.getElem?_eq_none (by omega)
      · rfl
    rw [key hh, key hh1]
set_option maxHeartbeats 1000000 in
theorem aInto_ok (hT : ∀ c ∈ X.1, nMe sc dm c) (hD : dm + 8 ≤ D0) {f : aF} {fs : List aF} {t t2 : mM} {en : mE} {l : List aW} {M : mL} {su : List Value} {cs : List nF}
    (hS : aOk r S m0 h) (hh : aHp h) (hf : nFr X.2.2.2.2.2 h0 h) (ht : mTab[f.1]? = some t) (he : (mMC t)[f.2.1]? = some en) (hk : nCl en = 5) (ht2 : mTab[mTgt en 1]? = some t2) (hcn : mCnt t2 ≤ f.2.2.2.length)
    (e3 : aFs S.1.length r f.2.2.1 M) (e4 : aSk S.1.length r f.2.2.2 su) (e5 : nMf S.1.length r fs cs) (h8 : cs.length ≤ 8)
    (hw : aInto X S f fs (mTgt en 1) t2 (f.2.2.2.take (mCnt t2)).reverse (f.2.2.2.drop (mCnt t2)) = some l) (hl : ∀ w1 ∈ l, nGd X sc D0 h0 m0 w1) : nOut X sc D0 h0 (f.1, f.2.1, M, su) cs h := by
  unfold aInto at hw
  have a1 := (e4.take (mCnt t2)).rev
  have a2 := e4.drop (mCnt t2)
  have hlen := e4.len
  generalize hargs : (f.2.2.2.take (mCnt t2)).reverse = args at hw a1
  generalize hrest : f.2.2.2.drop (mCnt t2) = rest at hw a2
  split at hw
  · rename_i hc
    simp only [Bool.and_eq_true, decide_eq_true_eq] at hc
    obtain ⟨c1, c2, c3, c4⟩ := hc
    obtain ⟨n1, n2⟩ := aEntL_ok (mx := mMX t2) a1 c2
    have k1 : mCnt t2 ≤ su.length := by omega
    have k2 : ((su.drop (mCnt t2)).map (fun v => v.category)).sum ≤ 8 := by have := aCat_le a2; omega
    have k3 := aRcv_ok ht2 hh a1 c3
    have k4 : (mEnt ((su.take (mCnt t2)).reverse)).length ≤ mMX t2 := by omega
    have hfr : nMf S.1.length r [(mTgt en 1, 0, aEntL (mMX t2) args, [])] [(mTgt en 1, 0, mEntL (mMX t2) ((su.take (mCnt t2)).reverse), [])] := ⟨⟨rfl, rfl, n1, trivial⟩, trivial⟩
    split at hw
    · rename_i c hfind
      have hc1 := List.find?_some hfind
      have hc2 := List.mem_of_find?_eq_some hfind
      rw [Bool.and_eq_true] at hc1
      split at hw
      · rename_i hmc
        cases hw
        have hck : c.1 = mTgt en 1 := by simpa using hc1.1
        obtain ⟨x1, x2, x3⟩ := aEnS_ok hS hfr hc1.2
        obtain ⟨r0, y1, y2, y3, y4⟩ := hT c hc2 h ((su.take (mCnt t2)).reverse) _ _ t2 (by rw [hck]; exact ht2) hh x1 (by rw [hck]; exact x2) (D0 - cs.length) (by omega)
        have hd := aDrp_ok hS hh y2 y3
        obtain ⟨r1, z1, z2, z3⟩ := aBk_ok hd y4
        obtain ⟨res, u1, u2⟩ := hl _ List.mem_cons_self r1 r0.2 (f.1, f.2.1 + 1, M, r0.1.toList ++ su.drop (mCnt t2)) cs z1 y2 (hf.tr (nFr_mc hh y2 hmc y3)) ⟨⟨rfl, rfl, e3.le z2, z3.app (a2.le z2)⟩, e5.le z2⟩ h8
        rw [hck] at y1
        exact ⟨res, nRs_call (f := (f.1, f.2.1, M, su)) ht he hk rfl ht2 k1 k2 k3 k4 y1 u1, u2⟩
      · cases hw
    · split at hw
      · rename_i h7
        cases hw
        have hlf := e5.len
        obtain ⟨res, u1, u2⟩ := hl _ List.mem_cons_self r h (mTgt en 1, 0, mEntL (mMX t2) ((su.take (mCnt t2)).reverse), []) ((f.1, f.2.1 + 1, M, su.drop (mCnt t2)) :: cs) hS hh hf ⟨⟨rfl, rfl, n1, trivial⟩, ⟨rfl, rfl, e3, a2⟩, e5⟩ (by simp only [List.length_cons]; omega)
        refine ⟨res, ?_, u2⟩
        have hd1 : D0 - cs.length = (D0 - (cs.length + 1)) + 1 := by omega
        rw [hd1]
        exact nRs_into (f := (f.1, f.2.1, M, su)) ht he hk rfl ht2 k1 k2 k3 k4 u1
      · cases hw
  · cases hw
set_option maxHeartbeats 1000000 in
theorem aSt1_ok (hT : ∀ c ∈ X.1, nMe sc dm c) (hD : dm + 8 ≤ D0) (hH : nHd X sc D0 h0 m0) {w : aW} {l : List aW} (hw : aSt1 X w = some l) (hl : ∀ w1 ∈ l, nGd X sc D0 h0 m0 w1) : nGd X sc D0 h0 m0 w := by
  intro r h c cs hS hh hf hm h8
  obtain ⟨S, frs, fresh⟩ := w
  unfold aSt1 at hw
  dsimp only at hw hS hm
  split at hw
  · cases hw
  · rename_i f fs
    obtain ⟨⟨e1, e2, e3, e4⟩, e5⟩ := hm
    obtain ⟨ck, cpc, M, su⟩ := c
    dsimp only at e1 e2 e3 e4
    subst e1
    subst e2
    rw [aMt_eq] at hw
    split at hw
    · cases hw
    · rename_i t ht
      rw [aCe_eq] at hw
      split at hw
      · cases hw
      · rename_i en hen
        split at hw
        · split at hw
          · rename_i hA
            obtain ⟨A, A1, A2⟩ := List.any_eq_true.mp hA
            rw [Bool.and_eq_true] at A2
            obtain ⟨x1, x2, x3⟩ := aEnS_ok (frs := f :: fs) (cfs := (f.1, f.2.1, M, su) :: cs) hS ⟨⟨rfl, rfl, e3, e4⟩, e5⟩ A2.1
            obtain ⟨y1, y2⟩ := aMs_ok hS hh x3 A2.2
            exact hH A A1 _ h _ cs _ x1 y1 y2 hh hf x2 h8
          · cases hw
        · split at hw
          · rename_i x hx
            cases hw
            have hxl := aFkV_ok hx
            obtain ⟨b1, b2⟩ := aBd_get hS.1 hxl
            obtain ⟨S1, s1, s2, s3⟩ := aFkL_ok hS hxl ((S.1.getD x (0, 0)).2 - (S.1.getD x (0, 0)).1 + 1).toNat (S.1.getD x (0, 0)).1 b1 (by omega)
            exact hl _ (List.mem_map.mpr ⟨S1, s1, rfl⟩) r h _ cs s2 hh hf (by show nMf S1.1.length r (f :: fs) _; rw [s3]; exact ⟨⟨rfl, rfl, e3, e4⟩, e5⟩) h8
          · split at hw
            · rename_i hk
              split at hw
              · rename_i lv hret
                obtain ⟨v, v1, v2⟩ := aRet_ok hS e4 hret
                split at hw
                · split at hw
                  · rename_i hrs
                    cases hw
                    match cs, e5 with
                    | [], _ => exact ⟨(v, h), nRs_end (f := (f.1, f.2.1, M, su)) ht hen v1, hh, hf, aRsB_ok hS v2 hrs⟩
                    | _ :: _, e5 => exact e5.elim
                  · cases hw
                · rename_i f2 gs
                  cases hw
                  match cs, e5, h8 with
                  | [], e5, _ => exact e5.elim
                  | c2 :: cs2, e5, h8 =>
                    obtain ⟨⟨g1, g2, g3, g4⟩, g5⟩ := e5
                    simp only [List.length_cons] at h8
                    obtain ⟨res, u1, u2⟩ := hl _ List.mem_cons_self r h (nPs v c2) cs2 hS hh hf ⟨⟨g1, g2, g3, v2.app g4⟩, g5⟩ (by omega)
                    refine ⟨res, nRs_ret (f := (f.1, f.2.1, M, su)) ht hen v1 ?_, u2⟩
                    have hd1 : (D0 - (c2 :: cs2).length) + 1 = D0 - cs2.length := by simp only [List.length_cons]; omega
                    rw [hd1]
                    exact u1
              · cases hw
            · split at hw
              · rename_i hk12 hk
                rw [aMt_eq] at hw
                split at hw
                · rename_i t2 ht2
                  split at hw
                  · rename_i hcn
                    exact aInto_ok hT hD hS hh hf ht hen hk ht2 hcn e3 e4 e5 h8 hw hl
                  · cases hw
                · cases hw
              · split at hw
                · rename_i hk12 hk5 hwk
                  split at hw
                  · rename_i ql hst
                    cases hw
                    obtain ⟨g1, q1, q2, q3⟩ := aStp_ok (sc := sc) hS hh e3 e4 hst hwk
                    obtain ⟨p, p1, r1, p2, p3, p4, p5, p6, p7⟩ := q2
                    obtain ⟨res, u1, u2⟩ := hl _ (List.mem_map.mpr ⟨p, p1, rfl⟩) r1 g1.2.2.2 (f.1, g1.1, g1.2.1, g1.2.2.1) cs p2 p3 (hf.tr q3) ⟨⟨rfl, p5, p6, p7⟩, e5.le p4⟩ h8
                    exact ⟨res, nRs_step (f := (f.1, f.2.1, M, su)) (f1 := (f.1, g1.1, g1.2.1, g1.2.2.1)) ht hen hk12 ⟨0, fun n _ => q1 _⟩ rfl u1, u2⟩
                  · cases hw
                · cases hw
theorem aGo_ok (hT : ∀ c ∈ X.1, nMe sc dm c) (hD : dm + 8 ≤ D0) (hH : nHd X sc D0 h0 m0) : ∀ (n : Nat) (ws : List aW), aGo X n ws = true → ∀ w ∈ ws, nGd X sc D0 h0 m0 w := by
  intro n
  induction n with
  | zero =>
    intro ws hg w hw
    cases ws with
    | nil => cases hw
    | cons _ _ => cases hg
  | succ n ih =>
    intro ws hg w hw
    cases ws with
    | nil => cases hw
    | cons w0 ws =>
      unfold aGo at hg
      rw [aSt2_eq] at hg
      split at hg
      · rename_i l hl
        have h1 := ih _ hg
        rcases List.mem_cons.mp hw with rfl | hw
        · exact aSt1_ok hT hD hH hl (fun w1 q => h1 w1 (List.mem_append_left _ q))
        · exact h1 w (List.mem_append_right _ hw)
      · cases hg
/-- all that is checked of one promise -/
noncomputable def aCk (T : List aCt) (As : List aAn) (hd : List (Nat × Nat)) (fk : List (Nat × Nat × aLc)) (c : aCt) (n : Nat) : Bool :=
  aGo (T, As, hd, fk, c.2.2.1, c.2.2.2) n [(c.2.1.1, c.2.1.2.1, true)] && As.all (fun A => aGo (T, As, hd, fk, c.2.2.1, c.2.2.2) n [(aTt A.1, A.2.1, true)])
theorem aCk_ok {T : List aCt} {As : List aAn} {hd : List (Nat × Nat)} {fk : List (Nat × Nat × aLc)} {c : aCt} {n : Nat} (hT : ∀ c ∈ T, nMe sc dm c) (hk : aCk T As hd fk c n = true) : nMe sc (dm + 9) c := by
  unfold aCk at hk
  rw [Bool.and_eq_true] at hk
  obtain ⟨hk1, hk2⟩ := hk
  intro h av r m1 t ht hh hS hm d hd1
  generalize hX : ((T, As, hd, fk, c.2.2.1, c.2.2.2) : aCx) = X at hk1 hk2
  have hXT : ∀ c ∈ X.1, nMe sc dm c := by rw [← hX]; exact hT
  have hXA : X.2.1 = As := by rw [← hX]
  have hXr : X.2.2.2.2.1 = c.2.2.1 := by rw [← hX]
  have hXm : X.2.2.2.2.2 = c.2.2.2 := by rw [← hX]
  obtain ⟨D0, rfl⟩ : ∃ D0, d = D0 + 1 := ⟨d - 1, by omega⟩
  have hD : dm + 8 ≤ D0 := by omega
  have key : ∀ (N : Nat) (m0 : Int), m0.toNat ≤ N → nHd X sc D0 h m0 := by
    intro N
    induction N with
    | zero =>
      intro m0 hN A hA r1 h1 c1 cs1 m2 q1 q2 q3
      omega
    | succ N ih =>
      intro m0 hN A hA r1 h1 c1 cs1 m2 q1 q2 q3 q4 q5 q6 q7
      have hA2 := List.all_eq_true.mp hk2 A (by rw [← hXA]; exact hA)
      have hg := aGo_ok hXT hD (ih m2 (by omega)) n _ hA2 _ List.mem_cons_self
      obtain ⟨t1, t2⟩ := aTt_ok q1
      exact hg r1 h1 c1 cs1 t1 q4 q5 (by show nMf (aTt A.1).1.length r1 A.2.1 _; rw [t2]; exact q6) q7
  have hg := aGo_ok hXT hD (key m1.toNat m1 (Nat.le_refl _)) n _ hk1 _ List.mem_cons_self
  obtain ⟨res, u1, u2, u3, u4⟩ := hg r h _ [] hS hh (nFr.rf _ _) hm (by simp)
  rw [hXm] at u3
  rw [hXr] at u4
  obtain ⟨t1, v1, v2⟩ := u1
  have v1 : mTab[c.1]? = some t1 := v1
  rw [ht] at v1
  cases v1
  exact ⟨res, nEv_of ht v2, u2, u3, u4⟩
end ASND
