/-! the analyser follows a method's paths -/
/-- a method's promise: which, how it is entered, what it answers, which cells it may change -/
abbrev aRs : Type := Option (Nat × Int × Int)
abbrev aCt : Type := Nat × aAn × aRs × aMd
/-- what the analyser is told: promises of the methods called, states at heads of loops, the heads, where to look at each value by itself, the answer, the cells -/
abbrev aCx : Type := List aCt × List aAn × List (Nat × Nat) × List (Nat × Nat × aLc) × aRs × aMd
abbrev aW : Type := aSt × List aF × Bool
noncomputable def nRes (q : aRs) (v : Option Value) : Prop := match q with
  | none => v = none
  | some p => ∃ w, v = some w ∧ (match p.1 with
    | 0 => ∃ z : Int32, w = .int z ∧ p.2.1 ≤ z.toInt ∧ z.toInt ≤ p.2.2
    | 1 => ∃ z : Int64, w = .long z ∧ p.2.1 ≤ z.toInt ∧ z.toInt ≤ p.2.2
    | _ => w = .ref p.2.1.toNat)
noncomputable def aRsB (S : aSt) (q : aRs) (l : List aV) : Bool := match q with
  | none => match l with
    | [] => true
    | _ => false
  | some p => match p.1 with
    | 0 => match l with
      | [(0, v, _)] => aPr S (aSb v (aK p.2.1)) && aPr S (aSb (aK p.2.2) v)
      | _ => false
    | 1 => match l with
      | [(1, v, _)] => aPr S (aSb v (aK p.2.1)) && aPr S (aSb (aK p.2.2) v)
      | _ => false
    | _ => match l with
      | [(2, _, a)] => a == p.2.1.toNat
      | _ => false
noncomputable def aTw (S : aSt) : List aX → aSt
  | [] => S
  | c :: q => aTw (aTi S.1 (aHj S.1 c) c.2 S.1, S.2) q
noncomputable def aTt (S : aSt) : aSt := aTw (aTw S S.2.1) S.2.1
noncomputable def aKeep (ms : aMd) (B : aB) (g : Nat × aX × aV) : Bool := ms.all (fun m => m.1 != g.1 || (decide (aHj B g.2.1 < m.2.1) || decide (m.2.2 < aLo B g.2.1)))
noncomputable def aDrp (S : aSt) (ms : aMd) : aSt := (S.1, S.2.1, S.2.2.1.filter (aKeep ms S.1), if ms.any (fun m => m.1 == 63) = true then aSb S.2.2.2 (aK (aKap * 1024000000)) else S.2.2.2)
noncomputable def aBk (S : aSt) (q : aRs) : aSt × List aV := match q with
  | none => (S, [])
  | some p => if p.1 = 0 ∨ p.1 = 1 then (if p.2.1 = p.2.2 then (S, [(p.1, aK p.2.1, 0)]) else (aNw S p.2.1 p.2.2, [(p.1, aVr S.1.length, 0)])) else (S, [(2, aK 0, p.2.1.toNat)])
noncomputable def aMc (ms ms1 : aMd) : Bool := ms1.all (fun m => aWc ms m.1 m.2.1 m.2.2)
/-- where a value is to be looked at by itself: the variable -/
noncomputable def aFkV (S : aSt) (frs : List aF) : List (Nat × Nat × aLc) → Option Nat
  | [] => none
  | p :: q => match frs with
    | [] => none
    | f :: _ => if p.1 = f.1 ∧ p.2.1 = f.2.1 then (match aOf S frs [] p.2.2 with
        | (c, t :: e) => if aLo S.1 (c, t :: e) = aHj S.1 (c, t :: e) ∨ ¬ t.2 < S.1.length then aFkV S frs q else some t.2
        | _ => aFkV S frs q) else aFkV S frs q
noncomputable def aFkL (S : aSt) (x : Nat) : Nat → Int → List aSt
  | 0, _ => []
  | n + 1, j => match aEq2 S (aVr x) j with
    | some S1 => aTt S1 :: aFkL S x n (j + 1)
    | none => aFkL S x n (j + 1)
noncomputable def aInto (X : aCx) (S : aSt) (f : aF) (fs : List aF) (k : Nat) (t2 : mM) (args rest : List aV) : Option (List aW) :=
  if (decide (rest.length ≤ 4) && (args.all (fun v => decide (v.1 < 6)) && (aRcv k t2 args && decide ((aEnt args).length ≤ mMX t2)))) = true then
    (match X.1.find? (fun c => c.1 == k && aEnS S [(k, 0, aEntL (mMX t2) args, [])] c.2.1 (aSg S [(k, 0, aEntL (mMX t2) args, [])] c.2.1.2.2 [])) with
    | some c => if aMc X.2.2.2.2.2 c.2.2.2 = true then some [((aBk (aDrp S c.2.2.2) c.2.2.1).1, (f.1, f.2.1 + 1, f.2.2.1, (aBk (aDrp S c.2.2.2) c.2.2.1).2 ++ rest) :: fs, false)] else none
    | none => if fs.length < 8 then some [(S, (k, 0, aEntL (mMX t2) args, []) :: (f.1, f.2.1 + 1, f.2.2.1, rest) :: fs, false)] else none) else none
noncomputable def aMt (k : Nat) : Option mM := aFn k (fun k => aOp mTab[k]?)
theorem aMt_eq (k : Nat) : aMt k = mTab[k]? := (aFn_eq k _).trans (aOp_eq _)
noncomputable def aCe (t : mM) (i : Nat) : Option mE := aFn i (fun i => aOp (mMC t)[i]?)
theorem aCe_eq (t : mM) (i : Nat) : aCe t i = (mMC t)[i]? := (aFn_eq i _).trans (aOp_eq _)
noncomputable def aSt1 (X : aCx) (w : aW) : Option (List aW) := match w.2.1 with
  | [] => none
  | f :: fs => match aMt f.1 with
    | none => none
    | some t => match aCe t f.2.1 with
      | none => none
      | some en =>
        if (!w.2.2 && X.2.2.1.contains (f.1, f.2.1)) = true then (if X.2.1.any (fun A => aEnS w.1 (f :: fs) A (aSg w.1 (f :: fs) A.2.2 []) && aMs w.1 (aSg w.1 (f :: fs) A.2.2 []) A.1.2.2.2) = true then some [] else none)
        else match aFkV w.1 (f :: fs) X.2.2.2.1 with
        | some x => some ((aFkL w.1 x ((w.1.1.getD x (0, 0)).2 - (w.1.1.getD x (0, 0)).1 + 1).toNat (w.1.1.getD x (0, 0)).1).map (fun S1 => (S1, f :: fs, true)))
        | none =>
          if nCl en = 12 then (match aRet w.1 t en f.2.2.2 with
            | some l => match fs with
              | [] => if aRsB w.1 X.2.2.2.2.1 l = true then some [] else none
              | f2 :: gs => some [(w.1, (f2.1, f2.2.1, f2.2.2.1, l ++ f2.2.2.2) :: gs, false)]
            | none => none)
          else if nCl en = 5 then (match aMt (mTgt en 1) with
            | some t2 => if mCnt t2 ≤ f.2.2.2.length then aInto X w.1 f fs (mTgt en 1) t2 (f.2.2.2.take (mCnt t2)).reverse (f.2.2.2.drop (mCnt t2)) else none
            | none => none)
          else if aWk X.2.2.2.2.2 en w.1 f.2.2.2 = true then (match aStp en w.1 f.2.1 f.2.2.1 f.2.2.2 with
            | some l => some (l.map (fun q => (q.1, (f.1, q.2.1, q.2.2.1, q.2.2.2) :: fs, false)))
            | none => none) else none
/-- the same, on a state that has been taken apart and put together anew -/
noncomputable def aSt2 (X : aCx) (w : aW) : Option (List aW) := match w with
  | ((B, C, G, O), (k, i, L, st) :: fs, b) => aSt1 X ((B, C, G, O), (k, i, L, st) :: fs, b)
  | (_, [], _) => none
theorem aSt2_eq (X : aCx) (w : aW) : aSt2 X w = aSt1 X w := by
  obtain ⟨⟨B, C, G, O⟩, frs, b⟩ := w
  match frs with
  | [] => rfl
  | (k, i, L, st) :: fs => rfl
noncomputable def aGo (X : aCx) : Nat → List aW → Bool
  | _, [] => true
  | 0, _ :: _ => false
  | n + 1, w :: ws => match aSt2 X w with
    | some l => aGo X n (l ++ ws)
    | none => false
section AGO
variable {r : Nat → Int} {S : aSt} {m0 : Int} {h : mH} {sc : List Int32} {X : aCx}
theorem aTw_ok : ∀ {C : List aX} {S : aSt}, (∀ c ∈ C, c ∈ S.2.1) → aOk r S m0 h → aOk r (aTw S C) m0 h ∧ (aTw S C).1.length = S.1.length
  | [], S, _, hS => ⟨hS, rfl⟩
  | c :: q, S, hC, hS => by
    obtain ⟨c1, c2⟩ := hS.2.1 c (hC c List.mem_cons_self)
    obtain ⟨t1, t2⟩ := aTi_ok hS.1 c1 c2 c.2 S.1 (fun t ht => ht) rfl hS.1
    have h1 : aOk r (aTi S.1 (aHj S.1 c) c.2 S.1, S.2) m0 h := ⟨t1, by rw [t2]; exact hS.2.1, by rw [t2]; exact hS.2.2.1, by rw [t2]; exact hS.2.2.2⟩
    obtain ⟨i1, i2⟩ := aTw_ok (C := q) (S := (aTi S.1 (aHj S.1 c) c.2 S.1, S.2)) (fun z hz => hC z (List.mem_cons_of_mem _ hz)) h1
    exact ⟨i1, i2.trans t2⟩
theorem aTw_C : ∀ (C : List aX) (S : aSt), (aTw S C).2 = S.2
  | [], _ => rfl
  | c :: q, S => by
    show (aTw (aTi S.1 (aHj S.1 c) c.2 S.1, S.2) q).2 = S.2
    rw [aTw_C q]
theorem aTt_ok (hS : aOk r S m0 h) : aOk r (aTt S) m0 h ∧ (aTt S).1.length = S.1.length := by
  unfold aTt
  obtain ⟨i1, i2⟩ := aTw_ok (C := S.2.1) (fun c hc => hc) hS
  obtain ⟨j1, j2⟩ := aTw_ok (C := S.2.1) (S := aTw S S.2.1) (fun c hc => by rw [aTw_C]; exact hc) i1
  exact ⟨j1, j2.trans i2⟩
theorem aPh_fr {ms : aMd} {h1 : mH} (hh : aHp h) (hh1 : aHp h1) (hf : nFr ms h h1) (hn : ms.any (fun m => m.1 == 63) ≠ true) : aPh h1 = aPh h := by
  obtain ⟨q, e1, e2, -⟩ := aHp63 hh
  obtain ⟨q1, f1, f2, -⟩ := aHp63 hh1
  have h2 : q1.2 = q.2 := by
    apply List.ext_getElem?
    intro j
    have h3 := hf 63 j (by
      rintro ⟨m, m1, m2, -, -⟩
      exact hn (List.any_eq_true.mpr ⟨m, m1, by simp [m2]⟩))
    unfold aSlot at h3
    rw [e1, f1] at h3
    exact h3
  unfold aPh
  rw [e1, f1]
  dsimp only
  rw [h2]
theorem aDrp_ok {ms : aMd} {h1 : mH} (hS : aOk r S m0 h) (hh : aHp h) (hh1 : aHp h1) (hf : nFr ms h h1) : aOk r (aDrp S ms) m0 h1 := by
  obtain ⟨hB, hC, hG, hO1, hO2⟩ := hS
  refine ⟨hB, hC, ?_, ?_⟩
  rotate_left
  · show aWf S.1.length (if ms.any (fun m => m.1 == 63) = true then aSb S.2.2.2 (aK (aKap * 1024000000)) else S.2.2.2) ∧ aEv r (if ms.any (fun m => m.1 == 63) = true then aSb S.2.2.2 (aK (aKap * 1024000000)) else S.2.2.2) + aKap * aPh h1 ≤ m0
    split
    · refine ⟨aSb_wf hO1 (aK_wf _ _), ?_⟩
      rw [aSb_ev, aK_ev]
      have p1 := (aPh_rg hh).1
      have p2 := (aPh_rg hh1).2
      unfold aKap at hO2 ⊢
      omega
    · rename_i hn
      rw [aPh_fr hh hh1 hf hn]
      exact ⟨hO1, hO2⟩
  intro g hg
  obtain ⟨g1, g2⟩ := List.mem_filter.mp hg
  obtain ⟨z1, k, w2, z2, z3, z4⟩ := hG g g1
  refine ⟨z1, k, w2, z2, ?_, z4⟩
  rw [hf g.1 k]
  · exact z3
  · rintro ⟨m, m1, m2, m3, m4⟩
    have h2 := List.all_eq_true.mp g2 m m1
    simp only [Bool.or_eq_true, bne_iff_ne, ne_eq, decide_eq_true_eq] at h2
    have l1 := aLo_le hB z1
    have l2 := aHj_ge hB z1
    rcases h2 with h2 | h2 | h2
    · exact h2 m2
    · omega
    · omega
theorem aBk_ok {q : aRs} {v : Option Value} (hS : aOk r S m0 h) (hv : nRes q v) : ∃ r1, aOk r1 (aBk S q).1 m0 h ∧ aLe S.1.length r (aBk S q).1.1.length r1 ∧ aSk (aBk S q).1.1.length r1 (aBk S q).2 v.toList := by
  unfold aBk
  unfold nRes at hv
  split at hv
  · rw [hv]; exact ⟨r, hS, aLe.rf, trivial⟩
  · rename_i p
    obtain ⟨w, rfl, hw⟩ := hv
    by_cases hk : p.1 = 0 ∨ p.1 = 1
    · rw [if_pos hk]
      rcases hk with hk | hk
      · rw [hk] at hw ⊢
        obtain ⟨z, rfl, z1, z2⟩ := hw
        split
        · rename_i he
          exact ⟨r, hS, aLe.rf, ⟨aK_wf _ _, z, rfl, by show z.toInt = aEv r (aK p.2.1); rw [aK_ev]; omega⟩, trivial⟩
        · refine ⟨aUp r S.1.length z.toInt, aNw_ok hS z1 z2, fun v w hv => ?_, ?_, trivial⟩
          · show aVs (aNw S _ _).1.length _ _ _
            rw [aNw_len]
            exact hv.up
          · show aVs (aNw S _ _).1.length _ _ _
            rw [aNw_len]
            exact ⟨aVr_wf (Nat.lt_succ_self _), z, rfl, by show z.toInt = aEv _ (aVr S.1.length); rw [aVr_ev, aUp_self]⟩
      · rw [hk] at hw ⊢
        obtain ⟨z, rfl, z1, z2⟩ := hw
        split
        · rename_i he
          exact ⟨r, hS, aLe.rf, ⟨aK_wf _ _, z, rfl, by show z.toInt = aEv r (aK p.2.1); rw [aK_ev]; omega⟩, trivial⟩
        · refine ⟨aUp r S.1.length z.toInt, aNw_ok hS z1 z2, fun v w hv => ?_, ?_, trivial⟩
          · show aVs (aNw S _ _).1.length _ _ _
            rw [aNw_len]
            exact hv.up
          · show aVs (aNw S _ _).1.length _ _ _
            rw [aNw_len]
            exact ⟨aVr_wf (Nat.lt_succ_self _), z, rfl, by show z.toInt = aEv _ (aVr S.1.length); rw [aVr_ev, aUp_self]⟩
    · rw [if_neg hk]
      refine ⟨r, hS, aLe.rf, ⟨aK_wf _ _, ?_⟩, trivial⟩
      split at hw
      · rename_i e; exact absurd (Or.inl e) hk
      · rename_i e; exact absurd (Or.inr e) hk
      · exact hw
theorem aRsB_ok {q : aRs} {l : List aV} {v : Option Value} (hS : aOk r S m0 h) (hs : aSk S.1.length r l v.toList) (hb : aRsB S q l = true) : nRes q v := by
  unfold aRsB at hb
  unfold nRes
  split at hb
  · split at hb
    · match v, hs with
      | none, _ => rfl
      | some _, hs => exact hs.elim
    · cases hb
  · rename_i p
    match v, hs with
    | none, hs =>
      exfalso
      (repeat' split at hb) <;> first | exact hs.elim | cases hb
    | some w, hs =>
      refine ⟨w, rfl, ?_⟩
      split at hb
      · rename_i hk
        split at hb
        · rename_i v k
          obtain ⟨wv, z, rfl, ez⟩ := aVs0 hs.1
          rw [Bool.and_eq_true] at hb
          have p1 := aPr_ok hS (aSb_wf wv (aK_wf _ _)) hb.1
          have p2 := aPr_ok hS (aSb_wf (aK_wf _ _) wv) hb.2
          rw [aSb_ev, aK_ev] at p1 p2
          exact ⟨z, rfl, by omega, by omega⟩
        · cases hb
      · rename_i hk
        split at hb
        · rename_i v k
          obtain ⟨wv, z, rfl, ez⟩ := aVs1 hs.1
          rw [Bool.and_eq_true] at hb
          have p1 := aPr_ok hS (aSb_wf wv (aK_wf _ _)) hb.1
          have p2 := aPr_ok hS (aSb_wf (aK_wf _ _) wv) hb.2
          rw [aSb_ev, aK_ev] at p1 p2
          exact ⟨z, rfl, by omega, by omega⟩
        · cases hb
      · rename_i k0 k1
        split at hb
        · rename_i e0 kk hs0
          have h3 : w = .ref kk := hs.1.2
          have h4 : kk = p.2.1.toNat := by simpa using hb
          rw [h3, h4]
        · cases hb
theorem aFkL_ok {x : Nat} (hS : aOk r S m0 h) (hx : x < S.1.length) : ∀ (n : Nat) (j : Int), j ≤ r x → r x < j + n → ∃ S1 ∈ aFkL S x n j, aOk r S1 m0 h ∧ S1.1.length = S.1.length := by
  intro n
  induction n with
  | zero => intro j h1 h2; omega
  | succ n ih =>
    intro j h1 h2
    unfold aFkL
    by_cases e : r x = j
    · obtain ⟨S1, q1, q2, q3⟩ := aEq2_ok (e := aVr x) (j := j) hS (aVr_wf hx) (by rw [aVr_ev]; exact e)
      rw [q1]
      obtain ⟨p1, p2⟩ := aTt_ok q2
      exact ⟨_, List.mem_cons_self, p1, p2.trans q3⟩
    · obtain ⟨S1, q1, q2⟩ := ih (j + 1) (by omega) (by omega)
      split
      · exact ⟨S1, List.mem_cons_of_mem _ q1, q2⟩
      · exact ⟨S1, q1, q2⟩
theorem aFkV_ok {frs : List aF} {x : Nat} : ∀ {l : List (Nat × Nat × aLc)}, aFkV S frs l = some x → x < S.1.length
  | [], hx => by cases hx
  | p :: q, hx => by
    unfold aFkV at hx
    split at hx
    · cases hx
    · split at hx
      · split at hx
        · split at hx
          · exact aFkV_ok hx
          · rename_i hc
            cases hx
            exact Classical.byContradiction fun q => hc (Or.inr q)
        · exact aFkV_ok hx
      · exact aFkV_ok hx
theorem nMf.len {n : Nat} : ∀ {L : List aF} {M : List nF}, nMf n r L M → L.length = M.length
  | [], [], _ => rfl
  | f :: L, c :: M, h => by simp [nMf.len h.2]
  | [], _ :: _, h => h.elim
  | _ :: _, [], h => h.elim
end AGO
