/-! the law's code, where two calls belong together: what holds between them hangs on the first one's answer -/
abbrev yX : Type := (Nat × List lV) × (Nat × List lV) × Bool
noncomputable def yOk (k : Nat) (t2 : mM) (args rest : List lV) : Bool := decide (rest.length ≤ 4) && ((args.map lA).all (fun v => decide (v.1 < 6)) && (args.all (fun v => decide (v.1 < 4 ∨ v.2 < 6)) && (aRcv k t2 (args.map lA) && decide ((aEnt (args.map lA)).length ≤ mMX t2))))
noncomputable def yAt (j : Nat) (st : List lV) : Option (Nat × List lV × List lV) := match qzgo mLaw j with
  | none => none
  | some en => if nCl en = 5 then (match qzgo mTab (mTgt en 1) with
    | some t2 => if mCnt t2 ≤ st.length ∧ yOk (mTgt en 1) t2 (st.take (mCnt t2)).reverse (st.drop (mCnt t2)) = true then some (mTgt en 1, (st.take (mCnt t2)).reverse, st.drop (mCnt t2)) else none
    | none => none) else none
noncomputable def yFd : List yX → Nat → Nat → List lV → Option Nat
  | [], _, _, _ => none
  | e :: q, n, k, args => if e.1 = (k, args) then some n else yFd q (n + 1) k args
noncomputable def yTg (b : Bool) : lV := if b = true then (8, 0) else (6, 0)
noncomputable def ySt (T : List aCt) (ex : List yX) (ph : Option Nat) (j : Nat) (st : List lV) : Option (Option Nat × Nat × List lV) := match ph with
  | none => (match yAt j st with
    | some q => (match yFd ex 0 q.1 q.2.1 with
      | some p => (match ex[p]? with
        | some e => if (q.2.1 ++ q.2.2).all (fun v => decide (v.1 < 8)) = true then some (some p, j + 1, yTg e.2.2 :: q.2.2) else none
        | none => none)
      | none => (lSt T [] j st).map (fun q => (none, q)))
    | none => (lSt T [] j st).map (fun q => (none, q)))
  | some p => (match yAt j st with
    | some q => (match ex[p]? with
      | some e => if e.2.1 = (q.1, q.2.1) then some (none, j + 1, yTg e.2.2 :: q.2.2) else none
      | none => none)
    | none => (lSt [] [] j st).map (fun q => (some p, q)))
noncomputable def yGo (T : List aCt) (ex : List yX) : Nat → Option Nat → Nat → List lV → Bool
  | 0, _, _, _ => false
  | n + 1, ph, i, st => if i = 973 then st.isEmpty && ph.isNone else match ySt T ex ph i st with
    | some q => yGo T ex n q.1 q.2.1 q.2.2
    | none => false
noncomputable def yGoAll (T : List aCt) (ex : List yX) : Bool := (List.range 43).all (fun op => yGo T ex 100 none (mTgt (mLaw.getD 21 (0, .nop, 0, [])) (1 + op)) [])
noncomputable def yPq (P : mH → Prop) (Q : Nat → Int32 → mH → Prop) (ph : Option Nat) (z : Int32) (h : mH) : Prop := match ph with
  | none => P h
  | some p => Q p z h
section PAIR
variable {sc : List Int32} {i : Nat} {z0 : Int32} {D dm : Nat} {T : List aCt} {ex : List yX} {P : mH → Prop} {Q : Nat → Int32 → mH → Prop}
theorem lSk.z {z1 : Int32} : ∀ {s : List lV} {t : List Value}, (∀ v ∈ s, v.1 < 8) → lSk sc i z0 s t → lSk sc i z1 s t
  | [], [], _, _ => trivial
  | v :: s, w :: t, hv, h => by
    refine ⟨?_, lSk.z (fun u hu => hv u (List.mem_cons_of_mem _ hu)) h.2⟩
    have h1 := h.1
    have h8 := hv v List.mem_cons_self
    obtain ⟨k, c⟩ := v
    match k, h1, h8 with
    | 0, h1, _ => exact h1
    | 1, h1, _ => exact h1
    | 2, h1, _ => exact h1
    | 3, h1, _ => exact h1
    | 4, h1, _ => exact h1
    | 5, h1, _ => exact h1
    | 6, h1, _ => exact h1
    | 7, h1, _ => exact h1
    | k + 8, _, h8 => exact absurd h8 (by simp)
  | [], _ :: _, _, h => h.elim
  | _ :: _, [], _, h => h.elim
theorem yFd_ok : ∀ {l : List yX} {n k p : Nat} {args : List lV}, yFd l n k args = some p → n ≤ p ∧ ∃ e, l[p - n]? = some e ∧ e.1 = (k, args)
  | [], _, _, _, _, h => by cases h
  | e :: q, n, k, p, args, h => by
    unfold yFd at h
    split at h
    · rename_i he
      cases h
      exact ⟨Nat.le_refl _, e, by simp, he⟩
    · obtain ⟨h1, e1, h2, h3⟩ := yFd_ok h
      refine ⟨by omega, e1, ?_, h3⟩
      rw [show p - n = (p - (n + 1)) + 1 by omega, List.getElem?_cons_succ]
      exact h2
theorem yAt_ok {j : Nat} {st : List lV} {su : List Value} {h : mH} {q : Nat × List lV × List lV} (hh : aHp h) (hs : lSk sc i z0 st su) (hq : yAt j st = some q) : ∃ en av sr, mLaw[j]? = some en ∧ nCl en ≠ 12 ∧ lSk sc i z0 q.2.1 av ∧ lSk sc i z0 q.2.2 sr ∧ ∀ r0, nEv sc D q.1 av h r0 → ∃ n0, ∀ n, n0 ≤ n → mStep mTab (mXs sc) (mEval mTab (mXs sc) D n) en (j, lM i, su, h) = some (j + 1, lM i, r0.1.toList ++ sr, r0.2) := by
  unfold yAt at hq
  simp only [qzgo_eq] at hq
  split at hq
  · cases hq
  · rename_i en hen
    split at hq
    · rename_i hk
      split at hq
      · rename_i t2 ht2
        split at hq
        · rename_i hc
          cases hq
          obtain ⟨hcn, hok⟩ := hc
          have a1 := (hs.take (mCnt t2)).rev
          have a2 := hs.drop (mCnt t2)
          have hlen := hs.len
          have hg : mInv en.2.1 = true ∧ mTgt en 2 = 0 := by
            unfold nCl at hk
            split at hk <;> first | (rename_i heq; rw [heq]; exact ⟨rfl, by split at hk <;> first | assumption | omega⟩) | omega
          unfold yOk at hok
          simp only [Bool.and_eq_true, decide_eq_true_eq] at hok
          obtain ⟨c1, c2, c2b, c3, c4⟩ := hok
          have b1 := lA_ok a1 c2b
          obtain ⟨n1, n2⟩ := aEntL_ok (mx := mMX t2) b1 c2
          have k1 : mCnt t2 ≤ su.length := by omega
          have k2 : ((su.drop (mCnt t2)).map (fun v => v.category)).sum ≤ 8 := by have := lSk.cat a2; omega
          have k3 := aRcv_ok ht2 hh b1 c3
          have k4 : (mEnt ((su.take (mCnt t2)).reverse)).length ≤ mMX t2 := by omega
          refine ⟨en, (su.take (mCnt t2)).reverse, su.drop (mCnt t2), hen, by omega, a1, a2, ?_⟩
          intro r0 hev
          obtain ⟨n0, h0⟩ := hev
          refine ⟨n0, fun n hn => mStep_G1 ?_⟩
          unfold mG1
          rw [if_pos hg, ht2]
          dsimp only
          rw [if_pos ⟨k1, k2, k3, k4⟩, h0 n hn]
        · cases hq
      · cases hq
    · cases hq
theorem yTg_ok {b : Bool} {z z1 : Int32} {s : List lV} {t : List Value} (hz : b = true → z1 = z) (hs : lSk sc i z s t) : lSk sc i z (yTg b :: s) (.int z1 :: t) := by
  refine ⟨?_, hs⟩
  unfold yTg
  split
  · rename_i hb
    show Value.int z1 = Value.int z
    rw [hz hb]
  · exact ⟨z1, rfl⟩
set_option maxHeartbeats 1000000 in
theorem ySt_ok (hP : ∀ h, P h → aHp h) (hQ : ∀ p z h, Q p z h → aHp h) (hT : ∀ c ∈ T, nMe sc dm c) (hD : dm ≤ D) (hK : ∀ c ∈ T, ∀ h h1, P h → aHp h1 → nFr c.2.2.2 h h1 → P h1)
    (hX1 : ∀ p e, ex[p]? = some e → ∀ z av h, P h → lSk sc i z e.1.2 av → ∃ z1 h1, nEv sc D e.1.1 av h (some (.int z1), h1) ∧ Q p z1 h1)
    (hX2 : ∀ p e, ex[p]? = some e → ∀ z av h, Q p z h → lSk sc i z e.2.1.2 av → ∃ z1 h1, nEv sc D e.2.1.1 av h (some (.int z1), h1) ∧ P h1 ∧ (e.2.2 = true → z1 = z))
    (hi : i + 6 ≤ sc.length) (hl : sc.length ≤ 384)
    {ph : Option Nat} {j : Nat} {st : List lV} {su : List Value} {h : mH} {q : Option Nat × Nat × List lV} (hh : yPq P Q ph z0 h) (hs : lSk sc i z0 st su) (hq : ySt T ex ph j st = some q) : ∃ z1 su1 h1 en, yPq P Q q.1 z1 h1 ∧ lSk sc i z1 q.2.2 su1 ∧ mLaw[j]? = some en ∧ nCl en ≠ 12 ∧ ∃ n0, ∀ n, n0 ≤ n → mStep mTab (mXs sc) (mEval mTab (mXs sc) D n) en (j, lM i, su, h) = some (q.2.1, lM i, su1, h1) := by
  have hn : ∀ {q1 : Nat × List lV}, ph = none → lSt T [] j st = some q1 → ∃ z1 su1 h1 en, P h1 ∧ lSk sc i z1 q1.2 su1 ∧ mLaw[j]? = some en ∧ nCl en ≠ 12 ∧ ∃ n0, ∀ n, n0 ≤ n → mStep mTab (mXs sc) (mEval mTab (mXs sc) D n) en (j, lM i, su, h) = some (q1.1, lM i, su1, h1) := by
    intro q1 e1 e2
    subst e1
    obtain ⟨su1, h1, en, x1, x2, x3, x4, x5⟩ := lSt_ok (ex := []) hP hT hD hK (fun p hp => absurd hp (by simp)) hi hl hh hs e2
    exact ⟨z0, su1, h1, en, x1, x2, x3, x4, x5⟩
  unfold ySt at hq
  split at hq
  · split at hq
    · rename_i qa hat
      split at hq
      · rename_i p hfd
        split at hq
        · rename_i e hep
          split at hq
          · rename_i hall
            cases hq
            have hp : P h := hh
            have hall : ∀ v ∈ qa.2.1 ++ qa.2.2, v.1 < 8 := fun v hv => by simpa using List.all_eq_true.mp hall v hv
            obtain ⟨en, av, sr, b1, b2, b3, b4, b5⟩ := yAt_ok (D := D) (hP h hp) hs hat
            obtain ⟨-, e1, f1, f2⟩ := yFd_ok hfd
            rw [Nat.sub_zero, hep] at f1
            cases f1
            obtain ⟨z1, h1, c1, c2⟩ := hX1 p e hep z0 av h hp (by rw [f2]; exact b3)
            have c1 : nEv sc D qa.1 av h (some (.int z1), h1) := by rw [f2] at c1; exact c1
            exact ⟨z1, .int z1 :: sr, h1, en, c2, yTg_ok (fun _ => rfl) (b4.z (fun v hv => hall v (List.mem_append_right _ hv))), b1, b2, b5 _ c1⟩
          · cases hq
        · cases hq
      · obtain ⟨q1, e1, rfl⟩ := Option.map_eq_some_iff.mp hq
        exact hn rfl e1
    · obtain ⟨q1, e1, rfl⟩ := Option.map_eq_some_iff.mp hq
      exact hn rfl e1
  · rename_i p
    have hp : Q p z0 h := hh
    split at hq
    · rename_i qa hat
      split at hq
      · rename_i e hep
        split at hq
        · rename_i f2
          cases hq
          obtain ⟨en, av, sr, b1, b2, b3, b4, b5⟩ := yAt_ok (D := D) (hQ p z0 h hp) hs hat
          obtain ⟨z1, h1, c1, c2, c3⟩ := hX2 p e hep z0 av h hp (by rw [f2]; exact b3)
          have c1 : nEv sc D qa.1 av h (some (.int z1), h1) := by rw [f2] at c1; exact c1
          exact ⟨z0, .int z1 :: sr, h1, en, c2, yTg_ok c3 b4, b1, b2, b5 _ c1⟩
        · cases hq
      · cases hq
    · obtain ⟨q1, e1, rfl⟩ := Option.map_eq_some_iff.mp hq
      obtain ⟨su1, h1, en, x1, x2, x3, x4, x5⟩ := lSt_ok (P := Q p z0) (dm := 0) (T := []) (ex := []) (hQ p z0) (fun c hc => absurd hc (by simp)) (Nat.zero_le _) (fun c hc => absurd hc (by simp)) (fun p hp => absurd hp (by simp)) hi hl hp hs e1
      exact ⟨z0, su1, h1, en, x1, x2, x3, x4, x5⟩
theorem yGo_ok (hP : ∀ h, P h → aHp h) (hQ : ∀ p z h, Q p z h → aHp h) (hT : ∀ c ∈ T, nMe sc dm c) (hD : dm ≤ D) (hK : ∀ c ∈ T, ∀ h h1, P h → aHp h1 → nFr c.2.2.2 h h1 → P h1)
    (hX1 : ∀ p e, ex[p]? = some e → ∀ z av h, P h → lSk sc i z e.1.2 av → ∃ z1 h1, nEv sc D e.1.1 av h (some (.int z1), h1) ∧ Q p z1 h1)
    (hX2 : ∀ p e, ex[p]? = some e → ∀ z av h, Q p z h → lSk sc i z e.2.1.2 av → ∃ z1 h1, nEv sc D e.2.1.1 av h (some (.int z1), h1) ∧ P h1 ∧ (e.2.2 = true → z1 = z))
    (hi : i + 6 ≤ sc.length) (hl : sc.length ≤ 384) : ∀ (n : Nat) (ph : Option Nat) (j : Nat) (st : List lV), yGo T ex n ph j st = true → ∀ (z0 : Int32) (su : List Value) (h : mH), yPq P Q ph z0 h → lSk sc i z0 st su → lNext sc D i P j su h := by
  intro n
  induction n with
  | zero => intro ph j st hg; cases hg
  | succ n ih =>
    intro ph j st hg z0 su h hh hs
    unfold yGo at hg
    split at hg
    · rename_i hj
      subst hj
      rw [Bool.and_eq_true] at hg
      obtain ⟨g1, g2⟩ := hg
      have hst := List.isEmpty_iff.mp g1
      subst hst
      have hph := Option.isNone_iff_eq_none.mp g2
      subst hph
      match su, hs with
      | [], _ => exact ⟨h, hh, fun r hr => hr⟩
      | _ :: _, hs => exact hs.elim
    · split at hg
      · rename_i q hq
        obtain ⟨z1, su1, h1, en, x1, x2, x3, x4, x5⟩ := ySt_ok hP hQ hT hD hK hX1 hX2 hi hl hh hs hq
        exact lNext.step x3 x4 x5 (ih q.1 q.2.1 q.2.2 hg z1 su1 h1 x1 x2)
      · cases hg
end PAIR
section PLOOP
variable {sc : List Int32} {D dm : Nat} {T : List aCt} {ex : List yX} {P : mH → Prop} {Q : Nat → Nat → Int32 → mH → Prop}
theorem yLoop (hP : ∀ h, P h → aHp h) (hQ : ∀ i p z h, Q i p z h → aHp h) (hT : ∀ c ∈ T, nMe sc dm c) (hD : dm ≤ D) (hK : ∀ c ∈ T, ∀ h h1, P h → aHp h1 → nFr c.2.2.2 h h1 → P h1)
    (hX1 : ∀ i, i + 6 ≤ sc.length → ∀ p e, ex[p]? = some e → ∀ z av h, P h → lSk sc i z e.1.2 av → ∃ z1 h1, nEv sc D e.1.1 av h (some (.int z1), h1) ∧ Q i p z1 h1)
    (hX2 : ∀ i, i + 6 ≤ sc.length → ∀ p e, ex[p]? = some e → ∀ z av h, Q i p z h → lSk sc i z e.2.1.2 av → ∃ z1 h1, nEv sc D e.2.1.1 av h (some (.int z1), h1) ∧ P h1 ∧ (e.2.2 = true → z1 = z))
    (hl : sc.length ≤ 384) (hg : yGoAll T ex = true) : ∀ (k i : Nat), sc.length ≤ i + k → i ≤ 390 → ∀ h, P h → ∃ h1, P h1 ∧ nRn sc D (some .boolean) mLaw (10, lM i, [], h) (some (.int 1), h1) := by
  intro k
  induction k using Nat.strongRecOn with
  | ind k ih =>
    intro i hk hi h hh
    by_cases hc : i + 6 ≤ sc.length
    · have hn : ∀ op : Nat, op < 43 → lNext sc D i P (mTgt (mLaw.getD 21 (0, .nop, 0, [])) (1 + op)) [] h := fun op ho => yGo_ok (Q := Q i) hP (hQ i) hT hD hK (hX1 i hc) (hX2 i hc) hc hl 100 none _ [] (List.all_eq_true.mp hg op (List.mem_range.mpr ho)) 0 [] h hh trivial
      have hnx : ∀ h1, P h1 → ∃ h2, P h2 ∧ nRn sc D (some .boolean) mLaw (973, lM i, [], h1) (some (.int 1), h2) := by
        intro h1 hp1
        obtain ⟨h2, p1, p2⟩ := ih (k - 6) (by omega) (i + 6) (by omega) (by omega) h1 hp1
        exact ⟨h2, p1, lBack (by omega) p2⟩
      obtain ⟨j, hj, hsw⟩ := lSwitch (D := D) (h := h) hl hc
      rcases hj with rfl | ⟨op, ho, rfl⟩
      · obtain ⟨h2, p1, p2⟩ := hnx h hh
        exact ⟨h2, p1, lHead hl hi (by rw [if_pos hc]; exact hsw _ p2)⟩
      · obtain ⟨h1, q1, q2⟩ := hn op ho
        obtain ⟨h2, p1, p2⟩ := hnx h1 q1
        exact ⟨h2, p1, lHead hl hi (by rw [if_pos hc]; exact hsw _ (q2 _ p2))⟩
    · exact ⟨h, hh, lHead hl hi (by rw [if_neg hc]; exact lEnd)⟩
end PLOOP
