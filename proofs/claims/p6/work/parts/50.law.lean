/-! the law's own code -/
/-- values in the law's code: the script, the two objects, a place, what stands there, a number, any int, any long, the answer that is compared -/
abbrev lV : Type := Nat × Nat
noncomputable def lVs (sc : List Int32) (i : Nat) (z0 : Int32) (v : lV) (w : Value) : Prop := match v.1 with
  | 0 => w = .retAddr 0
  | 1 => w = .ref 0
  | 2 => w = .ref 53
  | 3 => w = .int (Int32.ofNat (i + v.2))
  | 4 => w = .int (sc.getD (i + v.2) 0)
  | 5 => w = .int (Int32.ofNat v.2)
  | 6 => ∃ z, w = .int z
  | 7 => ∃ z, w = .long z
  | _ => w = .int z0
noncomputable def lSk (sc : List Int32) (i : Nat) (z0 : Int32) : List lV → List Value → Prop
  | [], [] => True
  | v :: s, w :: t => lVs sc i z0 v w ∧ lSk sc i z0 s t
  | _, _ => False
noncomputable def lM (i : Nat) : mL := [some (.retAddr 0), some (.ref 0), some (.ref 53), some (.int (Int32.ofNat i))]
noncomputable def lA (v : lV) : aV := match v.1 with
  | 1 => (2, (0, []), 0)
  | 2 => (2, (0, []), 53)
  | 4 => (0, aVr v.2, 0)
  | _ => (6, (0, []), 0)
noncomputable def lS : aSt := ([(aMi, aMa), (aMi, aMa), (aMi, aMa), (aMi, aMa), (aMi, aMa), (aMi, aMa)], [], [], aK 0)
noncomputable def lRv (q : aRs) : List lV := match q with
  | none => []
  | some p => if p.1 = 0 then [(6, 0)] else if p.1 = 1 then [(7, 0)] else [(1, 1)]
noncomputable def lCall (T : List aCt) (ex : List (Nat × List lV)) (k : Nat) (t2 : mM) (args rest : List lV) : Option (List lV) :=
  if (decide (rest.length ≤ 4) && ((args.map lA).all (fun v => decide (v.1 < 6)) && (args.all (fun v => decide (v.1 < 4 ∨ v.2 < 6)) && (aRcv k t2 (args.map lA) && decide ((aEnt (args.map lA)).length ≤ mMX t2))))) = true then
    (if ex.contains (k, args) = true then some ((8, 0) :: rest) else
    match qzfi T (fun c => qzan (Nat.beq c.1 k) (qzEnS lS [(k, 0, qzEntL (mMX t2) (args.map lA), [])] c.2.1 (qzSg lS [(k, 0, qzEntL (mMX t2) (args.map lA), [])] c.2.1.2.2 []))) with
    | some c => if c.2.2.1.map (fun p => decide (p.1 < 2)) = some false then none else some (lRv c.2.2.1 ++ rest)
    | none => none) else none
noncomputable def lSt (T : List aCt) (ex : List (Nat × List lV)) (i : Nat) (st : List lV) : Option (Nat × List lV) := match qzgo mLaw i with
  | none => none
  | some en => match en.2.1 with
    | .aload_n k => if k < 3 then some (i + 1, (k, 0) :: st) else none
    | .iload_n k => if k = 3 then some (i + 1, (3, 0) :: st) else none
    | .iconst n => if n = 1 then some (i + 1, (5, 1) :: st) else if n = 2 then some (i + 1, (5, 2) :: st) else if n = 3 then some (i + 1, (5, 3) :: st) else if n = 4 then some (i + 1, (5, 4) :: st) else if n = 5 then some (i + 1, (5, 5) :: st) else none
    | .iadd => match st with
      | (5, c) :: (3, d) :: s => if c + d < 6 then some (i + 1, (3, d + c) :: s) else none
      | _ => none
    | .iaload => match st with
      | (3, c) :: (0, _) :: s => if c < 6 then some (i + 1, (4, c) :: s) else none
      | _ => none
    | .pop => match st with
      | (6, _) :: s => some (i + 1, s)
      | _ => none
    | .pop2 => match st with
      | (7, _) :: s => some (i + 1, s)
      | _ => none
    | .goto _ => some (mTgt en 0, st)
    | .if_icmp q _ => match st with
      | (8, _) :: (8, _) :: s => if q = .eq then some (mTgt en 0, s) else if q = .ne then some (i + 1, s) else none
      | _ => none
    | .invokevirtual _ => if mTgt en 2 = 0 then (match qzgo mTab (mTgt en 1) with
      | some t2 => if mCnt t2 ≤ st.length then (match lCall T ex (mTgt en 1) t2 (st.take (mCnt t2)).reverse (st.drop (mCnt t2)) with
        | some s => some (i + 1, s)
        | none => none) else none
      | none => none) else none
    | _ => none
noncomputable def lGo (T : List aCt) (ex : List (Nat × List lV)) : Nat → Nat → List lV → Bool
  | 0, _, _ => false
  | n + 1, i, st => if i = 973 then st.isEmpty else match lSt T ex i st with
    | some q => lGo T ex n q.1 q.2
    | none => false
section LAW
variable {sc : List Int32} {i : Nat} {z0 : Int32} {D dm : Nat} {T : List aCt} {ex : List (Nat × List lV)} {P : mH → Prop}
theorem lSk.cons {v : lV} {s : List lV} {t : List Value} (h : lSk sc i z0 (v :: s) t) : ∃ w t1, t = w :: t1 ∧ lVs sc i z0 v w ∧ lSk sc i z0 s t1 := by
  cases t with
  | nil => exact h.elim
  | cons w t1 => exact ⟨w, t1, rfl, h.1, h.2⟩
theorem lSk.len : ∀ {s : List lV} {t : List Value}, lSk sc i z0 s t → s.length = t.length
  | [], [], _ => rfl
  | v :: s, w :: t, h => by simp [lSk.len h.2]
  | [], _ :: _, h => h.elim
  | _ :: _, [], h => h.elim
theorem lSk.drop : ∀ (k : Nat) {s : List lV} {t : List Value}, lSk sc i z0 s t → lSk sc i z0 (s.drop k) (t.drop k)
  | 0, _, _, h => h
  | k + 1, [], [], _ => trivial
  | k + 1, v :: s, w :: t, h => lSk.drop k h.2
  | k + 1, [], _ :: _, h => h.elim
  | k + 1, _ :: _, [], h => h.elim
theorem lSk.take : ∀ (k : Nat) {s : List lV} {t : List Value}, lSk sc i z0 s t → lSk sc i z0 (s.take k) (t.take k)
  | 0, _, _, _ => trivial
  | k + 1, [], [], _ => trivial
  | k + 1, v :: s, w :: t, h => ⟨h.1, lSk.take k h.2⟩
  | k + 1, [], _ :: _, h => h.elim
  | k + 1, _ :: _, [], h => h.elim
theorem lSk.app : ∀ {s s1 : List lV} {t t1 : List Value}, lSk sc i z0 s t → lSk sc i z0 s1 t1 → lSk sc i z0 (s ++ s1) (t ++ t1)
  | [], _, [], _, _, h1 => h1
  | v :: s, _, w :: t, _, h, h1 => ⟨h.1, lSk.app h.2 h1⟩
  | [], _, _ :: _, _, h, _ => h.elim
  | _ :: _, _, [], _, h, _ => h.elim
theorem lSk.rev : ∀ {s : List lV} {t : List Value}, lSk sc i z0 s t → lSk sc i z0 s.reverse t.reverse
  | [], [], _ => trivial
  | v :: s, w :: t, h => by
    rw [List.reverse_cons, List.reverse_cons]
    exact (lSk.rev h.2).app ⟨h.1, trivial⟩
  | [], _ :: _, h => h.elim
  | _ :: _, [], h => h.elim
theorem lSk.cat : ∀ {s : List lV} {t : List Value}, lSk sc i z0 s t → (t.map (fun v => v.category)).sum ≤ 2 * s.length
  | [], [], _ => by simp
  | v :: s, w :: t, h => by
    have ih := lSk.cat h.2
    have h1 : w.category ≤ 2 := by cases w <;> simp [Value.category]
    simp only [List.map_cons, List.sum_cons, List.length_cons]
    omega
  | [], _ :: _, h => h.elim
  | _ :: _, [], h => h.elim
noncomputable def lR (sc : List Int32) (i : Nat) : Nat → Int := fun j => (sc.getD (i + j) 0).toInt
theorem lS_ok (h : mH) : aOk (lR sc i) lS (aEv (lR sc i) (aK 0) + aKap * aPh h) h := by
  refine ⟨?_, ⟨fun c hc => absurd hc (by simp [lS]), ⟨fun g hg => absurd hg (by simp [lS]), aK_wf _ _, Int.le_refl _⟩⟩⟩
  intro k q hk
  have h1 : q = (aMi, aMa) := by
    have hm := List.mem_of_getElem? hk
    simpa [lS] using hm
  rw [h1]
  exact aI_rg _
theorem lA_ok : ∀ {s : List lV} {t : List Value}, lSk sc i z0 s t → s.all (fun v => decide (v.1 < 4 ∨ v.2 < 6)) = true → aSk 6 (lR sc i) (s.map lA) t
  | [], [], _, _ => trivial
  | v :: s, w :: t, h, ha => by
    rw [List.all_cons, Bool.and_eq_true, decide_eq_true_eq] at ha
    refine ⟨?_, lA_ok h.2 ha.2⟩
    obtain ⟨h1, -⟩ := h
    obtain ⟨k, c⟩ := v
    have ha1 : k < 4 ∨ c < 6 := ha.1
    match k, h1, ha1 with
    | 0, _, _ => exact aVs_top (aK_wf _ 0) (Nat.le_refl _)
    | 1, h1, _ => exact ⟨aK_wf _ 0, h1⟩
    | 2, h1, _ => exact ⟨aK_wf _ 0, h1⟩
    | 3, _, _ => exact aVs_top (aK_wf _ 0) (Nat.le_refl _)
    | 4, h1, ha1 => exact ⟨aVr_wf (by omega), _, h1, by show _ = aEv _ (aVr c); rw [aVr_ev]; rfl⟩
    | k + 5, _, _ =>
      have e : lA (k + 5, c) = (6, (0, []), 0) := by
        unfold lA
        rfl
      rw [e]
      exact aVs_top (aK_wf _ 0) (Nat.le_refl _)
  | [], _ :: _, h, _ => h.elim
  | _ :: _, [], h, _ => h.elim
/-- steps of the law's code -/
theorem lStep {g g1 : mG} {en : mE} {r : mR} (he : mLaw[g.1]? = some en) (hk : nCl en ≠ 12) (hs : ∃ n0, ∀ n, n0 ≤ n → mStep mTab (mXs sc) (mEval mTab (mXs sc) D n) en g = some g1) (hr : nRn sc D (some .boolean) mLaw g1 r) : nRn sc D (some .boolean) mLaw g r := nRn_step he (nRt_no hk) hs hr
noncomputable def lNext (sc : List Int32) (D : Nat) (i : Nat) (P : mH → Prop) (j : Nat) (su : List Value) (h : mH) : Prop := ∃ h1, P h1 ∧ ∀ r, nRn sc D (some .boolean) mLaw (973, lM i, [], h1) r → nRn sc D (some .boolean) mLaw (j, lM i, su, h) r
theorem lNext.step {j j1 : Nat} {su su1 : List Value} {h h1 : mH} {en : mE} (he : mLaw[j]? = some en) (hk : nCl en ≠ 12) (hs : ∃ n0, ∀ n, n0 ≤ n → mStep mTab (mXs sc) (mEval mTab (mXs sc) D n) en (j, lM i, su, h) = some (j1, lM i, su1, h1)) (hn : lNext sc D i P j1 su1 h1) : lNext sc D i P j su h := by
  obtain ⟨h2, p1, p2⟩ := hn
  exact ⟨h2, p1, fun r hr => lStep (g := (j, lM i, su, h)) he hk hs (p2 r hr)⟩
set_option maxHeartbeats 1000000 in
theorem lCall_ok (hP : ∀ h, P h → aHp h) (hT : ∀ c ∈ T, nMe sc dm c) (hD : dm ≤ D) (hK : ∀ c ∈ T, ∀ h h1, P h → aHp h1 → nFr c.2.2.2 h h1 → P h1)
    (hX : ∀ p ∈ ex, ∀ av h, P h → lSk sc i z0 p.2 av → ∃ h1, nEv sc D p.1 av h (some (.int z0), h1) ∧ P h1)
    {j : Nat} {en : mE} {t2 : mM} {st s1 : List lV} {su : List Value} {h : mH} (hh : P h) (hs : lSk sc i z0 st su) (he : mLaw[j]? = some en) (hk : nCl en = 5) (ht2 : mTab[mTgt en 1]? = some t2) (hcn : mCnt t2 ≤ st.length)
    (hc : lCall T ex (mTgt en 1) t2 (st.take (mCnt t2)).reverse (st.drop (mCnt t2)) = some s1) : ∃ su1 h1, P h1 ∧ lSk sc i z0 s1 su1 ∧ ∃ n0, ∀ n, n0 ≤ n → mStep mTab (mXs sc) (mEval mTab (mXs sc) D n) en (j, lM i, su, h) = some (j + 1, lM i, su1, h1) := by
  unfold lCall at hc
  simp only [qzfi_eq, qzan_eq, qzbe, qzEnS_eq, qzSg_eq, qzEntL_eq] at hc
  have a1 := (hs.take (mCnt t2)).rev
  have a2 := hs.drop (mCnt t2)
  have hlen := hs.len
  generalize (st.take (mCnt t2)).reverse = args at hc a1
  generalize st.drop (mCnt t2) = rest at hc a2
  have hg : mInv en.2.1 = true ∧ mTgt en 2 = 0 := by
    unfold nCl at hk
    split at hk <;> first | (rename_i heq; rw [heq]; exact ⟨rfl, by split at hk <;> first | assumption | omega⟩) | omega
  split at hc
  · rename_i hq
    simp only [Bool.and_eq_true, decide_eq_true_eq] at hq
    obtain ⟨c1, c2, c2b, c3, c4⟩ := hq
    have b1 := lA_ok a1 c2b
    obtain ⟨n1, n2⟩ := aEntL_ok (mx := mMX t2) b1 c2
    have k1 : mCnt t2 ≤ su.length := by omega
    have k2 : ((su.drop (mCnt t2)).map (fun v => v.category)).sum ≤ 8 := by have := lSk.cat a2; omega
    have k3 := aRcv_ok ht2 (hP h hh) b1 c3
    have k4 : (mEnt ((su.take (mCnt t2)).reverse)).length ≤ mMX t2 := by omega
    have key : ∀ r0 : mR, nEv sc D (mTgt en 1) ((su.take (mCnt t2)).reverse) h r0 → ∃ n0, ∀ n, n0 ≤ n → mStep mTab (mXs sc) (mEval mTab (mXs sc) D n) en (j, lM i, su, h) = some (j + 1, lM i, r0.1.toList ++ su.drop (mCnt t2), r0.2) := by
      intro r0 hev
      obtain ⟨n0, h0⟩ := hev
      refine ⟨n0, fun n hn => mStep_G1 ?_⟩
      unfold mG1
      rw [if_pos hg, ht2]
      dsimp only
      rw [if_pos ⟨k1, k2, k3, k4⟩, h0 n hn]
    split at hc
    · rename_i hex
      cases hc
      have hmem : (mTgt en 1, args) ∈ ex := by simpa using hex
      obtain ⟨h1, x1, x2⟩ := hX _ hmem _ h hh a1
      exact ⟨Value.int z0 :: su.drop (mCnt t2), h1, x2, ⟨rfl, a2⟩, key _ x1⟩
    · split at hc
      · rename_i c hfind
        have hc1 := List.find?_some hfind
        have hc2 := List.mem_of_find?_eq_some hfind
        rw [Bool.and_eq_true] at hc1
        split at hc
        · cases hc
        · rename_i hres
          cases hc
          have hck : c.1 = mTgt en 1 := by simpa using hc1.1
          have hfr : nMf lS.1.length (lR sc i) [(mTgt en 1, 0, aEntL (mMX t2) (args.map lA), [])] [(mTgt en 1, 0, mEntL (mMX t2) ((su.take (mCnt t2)).reverse), [])] := ⟨⟨rfl, rfl, n1, trivial⟩, trivial⟩
          obtain ⟨x1, x2, x3⟩ := aEnS_ok (lS_ok h) hfr hc1.2
          obtain ⟨r0, y1, y2, y3, y4⟩ := hT c hc2 h ((su.take (mCnt t2)).reverse) _ _ t2 (by rw [hck]; exact ht2) (hP h hh) x1 (by rw [hck]; exact x2) D hD
          rw [hck] at y1
          refine ⟨_, r0.2, hK c hc2 h r0.2 hh y2 y3, ?_, key r0 y1⟩
          refine lSk.app ?_ a2
          generalize c.2.2.1 = cr at y4 hres
          match cr, y4, hres with
          | none, y4, _ =>
            have y4 : r0.1 = none := y4
            rw [y4]
            exact trivial
          | some p, y4, hres =>
            obtain ⟨w, e1, e2⟩ := y4
            rw [e1]
            show lSk sc i z0 (if p.1 = 0 then [(6, 0)] else if p.1 = 1 then [(7, 0)] else [(1, 1)]) [w]
            split at e2
            · rename_i h0
              obtain ⟨z, rfl, -⟩ := e2
              rw [if_pos h0]
              exact ⟨⟨z, rfl⟩, trivial⟩
            · rename_i h0
              obtain ⟨z, rfl, -⟩ := e2
              rw [if_neg (by omega), if_pos h0]
              exact ⟨⟨z, rfl⟩, trivial⟩
            · rename_i k0 k1
              exfalso
              apply hres
              show some (decide (p.1 < 2)) = some false
              congr 1
              rw [decide_eq_false_iff_not]
              intro q
              rcases (show p.1 = 0 ∨ p.1 = 1 by omega) with e | e
              · exact k0 e
              · exact k1 e
      · cases hc
  · cases hc
theorem lI_nat {n : Nat} (h : n < 1000) : (Int32.ofNat n).toInt = (n : Int) := by
  exact Int32.toInt_ofNat_of_lt (by omega)
theorem lI_add {a b : Nat} (h : a + b < 1000) : Int32.ofNat a + Int32.ofNat b = Int32.ofNat (a + b) := by
  apply Int32.toInt_inj.mp
  rw [lI_nat h, Int32.toInt_add, lI_nat (by omega), lI_nat (by omega)]
  rw [show ((a : Int) + (b : Int)) = ((a + b : Nat) : Int) by omega]
  exact Int.bmod_eq_of_le (by omega) (by omega)
set_option maxHeartbeats 2000000 in
theorem lSt_ok (hP : ∀ h, P h → aHp h) (hT : ∀ c ∈ T, nMe sc dm c) (hD : dm ≤ D) (hK : ∀ c ∈ T, ∀ h h1, P h → aHp h1 → nFr c.2.2.2 h h1 → P h1)
    (hX : ∀ p ∈ ex, ∀ av h, P h → lSk sc i z0 p.2 av → ∃ h1, nEv sc D p.1 av h (some (.int z0), h1) ∧ P h1) (hi : i + 6 ≤ sc.length) (hl : sc.length ≤ 384)
    {j : Nat} {st : List lV} {su : List Value} {h : mH} {q : Nat × List lV} (hh : P h) (hs : lSk sc i z0 st su) (hq : lSt T ex j st = some q) : ∃ su1 h1 en, P h1 ∧ lSk sc i z0 q.2 su1 ∧ mLaw[j]? = some en ∧ nCl en ≠ 12 ∧ ∃ n0, ∀ n, n0 ≤ n → mStep mTab (mXs sc) (mEval mTab (mXs sc) D n) en (j, lM i, su, h) = some (q.1, lM i, su1, h1) := by
  unfold lSt at hq
  simp only [qzgo_eq] at hq
  split at hq
  · cases hq
  · rename_i en hen
    split at hq
    · rename_i k heq
      have hcl : nCl en = 1 := by unfold nCl; rw [heq]
      split at hq
      · rename_i hk
        cases hq
        have hst : ∃ w, (lM i)[k.val]? = some (some w) ∧ mIsA w = true ∧ lVs sc i z0 (k, 0) w := by
          match k, hk with
          | 0, _ => exact ⟨.retAddr 0, rfl, rfl, rfl⟩
          | 1, _ => exact ⟨.ref 0, rfl, rfl, rfl⟩
          | 2, _ => exact ⟨.ref 53, rfl, rfl, rfl⟩
        obtain ⟨w, w1, w2, w3⟩ := hst
        refine ⟨w :: su, h, en, hh, ⟨w3, hs⟩, hen, by omega, 0, fun n _ => mStep_A1 ?_⟩
        unfold mA1
        rw [heq]
        unfold mLd
        dsimp only
        rw [w1]
        dsimp only
        rw [if_pos w2]
      · cases hq
    · rename_i k heq
      have hcl : nCl en = 1 := by unfold nCl; rw [heq]
      split at hq
      · rename_i hk
        cases hq
        subst hk
        refine ⟨.int (Int32.ofNat i) :: su, h, en, hh, ⟨rfl, hs⟩, hen, by omega, 0, fun n _ => mStep_A1 ?_⟩
        unfold mA1
        rw [heq]
        rfl
      · cases hq
    · rename_i k heq
      have hcl : nCl en = 1 := by unfold nCl; rw [heq]
      have key : ∀ c : Nat, c < 6 → k = (c : Int) → ∃ su1 h1 en1, P h1 ∧ lSk sc i z0 ((5, c) :: st) su1 ∧ mLaw[j]? = some en1 ∧ nCl en1 ≠ 12 ∧ ∃ n0, ∀ n, n0 ≤ n → mStep mTab (mXs sc) (mEval mTab (mXs sc) D n) en1 (j, lM i, su, h) = some (j + 1, lM i, su1, h1) := by
        intro c hc hkc
        refine ⟨.int (Int32.ofNat c) :: su, h, en, hh, ⟨rfl, hs⟩, hen, by omega, 0, fun n _ => mStep_A1 ?_⟩
        unfold mA1
        rw [heq]
        dsimp only
        rw [hkc]
        rfl
      split at hq
      · rename_i hk; cases hq; exact key 1 (by decide) hk
      · split at hq
        · rename_i hk; cases hq; exact key 2 (by decide) hk
        · split at hq
          · rename_i hk; cases hq; exact key 3 (by decide) hk
          · split at hq
            · rename_i hk; cases hq; exact key 4 (by decide) hk
            · split at hq
              · rename_i hk; cases hq; exact key 5 (by decide) hk
              · cases hq
    · rename_i heq
      have hcl : nCl en = 2 := by unfold nCl; rw [heq]
      split at hq
      · rename_i c d s
        obtain ⟨w1, t1, rfl, h1, h2⟩ := hs.cons
        obtain ⟨w2, t2, rfl, h3, h4⟩ := h2.cons
        have h1 : w1 = .int (Int32.ofNat c) := h1
        have h3 : w2 = .int (Int32.ofNat (i + d)) := h3
        subst h1
        subst h3
        split at hq
        · rename_i hc
          cases hq
          refine ⟨.int (Int32.ofNat (i + d) + Int32.ofNat c) :: t2, h, en, hh, ⟨?_, h4⟩, hen, by omega, 0, fun n _ => mStep_B1 ?_⟩
          · show Value.int _ = Value.int _
            rw [lI_add (by omega), Nat.add_assoc]
          · unfold mB1
            rw [heq]
        · cases hq
      · cases hq
    · rename_i heq
      have hcl : nCl en = 6 := by unfold nCl; rw [heq]
      split at hq
      · rename_i c d s
        obtain ⟨w1, t1, rfl, h1, h2⟩ := hs.cons
        obtain ⟨w2, t2, rfl, h3, h4⟩ := h2.cons
        have h1 : w1 = .int (Int32.ofNat (i + c)) := h1
        have h3 : w2 = .retAddr 0 := h3
        subst h1
        subst h3
        split at hq
        · rename_i hc
          cases hq
          obtain ⟨x1, x2⟩ := aJx (z := Int32.ofNat (i + c)) (j := i + c) (n := sc.length) (lI_nat (by omega)) (by omega)
          refine ⟨.int (sc.getD (i + c) 0) :: t2, h, en, hh, ⟨rfl, h4⟩, hen, by omega, 0, fun n _ => mStep_F2 ?_⟩
          unfold mF2
          rw [heq]
          dsimp only
          rw [show mXs sc 0 = sc from rfl, if_pos ⟨by decide, x1⟩, x2]
        · cases hq
      · cases hq
    · rename_i heq
      have hcl : nCl en = 8 := by unfold nCl; rw [heq]
      split at hq
      · rename_i c s
        obtain ⟨w1, t1, rfl, h1, h2⟩ := hs.cons
        obtain ⟨z, rfl⟩ : ∃ z, w1 = .int z := h1
        cases hq
        refine ⟨t1, h, en, hh, h2, hen, by omega, 0, fun n _ => mStep_A2 ?_⟩
        unfold mA2
        rw [heq]
        rfl
      · cases hq
    · rename_i heq
      have hcl : nCl en = 8 := by unfold nCl; rw [heq]
      split at hq
      · rename_i c s
        obtain ⟨w1, t1, rfl, h1, h2⟩ := hs.cons
        obtain ⟨z, rfl⟩ : ∃ z, w1 = .long z := h1
        cases hq
        refine ⟨t1, h, en, hh, h2, hen, by omega, 0, fun n _ => mStep_A2 ?_⟩
        unfold mA2
        rw [heq]
        rfl
      · cases hq
    · rename_i k heq
      have hcl : nCl en = 3 := by unfold nCl; rw [heq]
      cases hq
      refine ⟨su, h, en, hh, hs, hen, by omega, 0, fun n _ => mStep_B3 ?_⟩
      unfold mB3
      rw [heq]
    · rename_i cq k heq
      have hcl : nCl en = 3 := by unfold nCl; rw [heq]
      split at hq
      · rename_i c d s
        obtain ⟨w1, t1, rfl, h1, h2⟩ := hs.cons
        obtain ⟨w2, t2, rfl, h3, h4⟩ := h2.cons
        have h1 : w1 = .int z0 := h1
        have h3 : w2 = .int z0 := h3
        subst h1
        subst h3
        split at hq
        · rename_i hc
          cases hq
          refine ⟨t2, h, en, hh, h4, hen, by omega, 0, fun n _ => mStep_B3 ?_⟩
          unfold mB3
          rw [heq, hc]
          simp [mIf, mC2]
        · split at hq
          · rename_i hc0 hc
            cases hq
            refine ⟨t2, h, en, hh, h4, hen, by omega, 0, fun n _ => mStep_B3 ?_⟩
            unfold mB3
            rw [heq, hc]
            simp [mIf, mC2]
          · cases hq
      · cases hq
    · rename_i k heq
      split at hq
      · rename_i h0
        have hcl : nCl en = 5 := by unfold nCl; rw [heq]; exact if_pos h0
        split at hq
        · rename_i t2 ht2
          split at hq
          · rename_i hcn
            split at hq
            · rename_i s1 hcall
              cases hq
              obtain ⟨su1, h1, x1, x2, x3⟩ := lCall_ok hP hT hD hK hX hh hs hen hcl ht2 hcn hcall
              exact ⟨su1, h1, en, x1, x2, hen, by omega, x3⟩
            · cases hq
          · cases hq
        · cases hq
      · cases hq
    · cases hq
theorem lGo_ok (hP : ∀ h, P h → aHp h) (hT : ∀ c ∈ T, nMe sc dm c) (hD : dm ≤ D) (hK : ∀ c ∈ T, ∀ h h1, P h → aHp h1 → nFr c.2.2.2 h h1 → P h1)
    (hX : ∀ p ∈ ex, ∀ av h, P h → lSk sc i z0 p.2 av → ∃ h1, nEv sc D p.1 av h (some (.int z0), h1) ∧ P h1) (hi : i + 6 ≤ sc.length) (hl : sc.length ≤ 384) : ∀ (n j : Nat) (st : List lV), lGo T ex n j st = true → ∀ (su : List Value) (h : mH), P h → lSk sc i z0 st su → lNext sc D i P j su h := by
  intro n
  induction n with
  | zero => intro j st hg; cases hg
  | succ n ih =>
    intro j st hg su h hh hs
    unfold lGo at hg
    split at hg
    · rename_i hj
      subst hj
      have hst := List.isEmpty_iff.mp hg
      subst hst
      match su, hs with
      | [], _ => exact ⟨h, hh, fun r hr => hr⟩
      | _ :: _, hs => exact hs.elim
    · split at hg
      · rename_i q hq
        obtain ⟨su1, h1, en, x1, x2, x3, x4, x5⟩ := lSt_ok hP hT hD hK hX hi hl hh hs hq
        exact lNext.step x3 x4 x5 (ih q.1 q.2 hg su1 h1 x1 x2)
      · cases hg
end LAW
