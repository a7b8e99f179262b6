/-! reading and writing cells, in the analyser -/
/-- a number is worked out before it is used, so that what hangs on it is worked out once -/
noncomputable def aFn {α : Type} (n : Nat) (g : Nat → α) : α := match n with
  | 0 => g 0
  | m + 1 => g (m + 1)
theorem aFn_eq {α : Type} (n : Nat) (g : Nat → α) : aFn n g = g n := by cases n <;> rfl
noncomputable def aOp {α : Type} (o : Option α) : Option α := match o with
  | some x => some x
  | none => none
theorem aOp_eq {α : Type} (o : Option α) : aOp o = o := by cases o <;> rfl
noncomputable def aTq (a : Nat) : Option aTy := aFn a (fun a => aOp aT[a]?)
theorem aTq_eq (a : Nat) : aTq a = aT[a]? := (aFn_eq a _).trans (aOp_eq _)
noncomputable def aIsT (g : aRg) (w : Value) : Prop := match g.2.2.1 with
  | 0 => ∃ z : Int32, w = .int z ∧ g.2.2.2.1 ≤ z.toInt ∧ z.toInt ≤ g.2.2.2.2
  | 1 => ∃ z : Int64, w = .long z ∧ g.2.2.2.1 ≤ z.toInt ∧ z.toInt ≤ g.2.2.2.2
  | 2 => w = .ref g.2.2.2.1.toNat
  | _ => ∃ z : Int32, w = .int z ∧ z.toInt ∈ aDs
noncomputable def aHp (h : mH) : Prop := h.length = aT.length ∧ ∀ (a : Nat) (t : aTy) (q : mC), aT[a]? = some t → h[a]? = some q → q.1 = t.1 ∧ q.2.length = t.2.1 ∧ ∀ g ∈ t.2.2, ∀ (j : Nat) (w : Value), g.1 ≤ j → j ≤ g.2.1 → q.2[j]? = some w → aIsT g w
theorem aHp_at {h : mH} (hh : aHp h) {a : Nat} {t : aTy} (ht : aT[a]? = some t) : ∃ q, h[a]? = some q ∧ q.1 = t.1 ∧ q.2.length = t.2.1 ∧ ∀ g ∈ t.2.2, ∀ (j : Nat) (w : Value), g.1 ≤ j → j ≤ g.2.1 → q.2[j]? = some w → aIsT g w := by
  have h1 : a < h.length := by rw [hh.1]; exact (List.getElem?_eq_some_iff.mp ht).1
  have h2 : h[a]? = some h[a] := List.getElem?_eq_getElem h1
  exact ⟨h[a], h2, hh.2 a t _ ht h2⟩
noncomputable def aRgs (t : aTy) (lo hi : Int) : List aRg := t.2.2.filter (fun g => decide ((g.1 : Int) ≤ hi) && decide (lo ≤ (g.2.1 : Int)))
noncomputable def aMin (g : aRg) : List aRg → Int
  | [] => g.2.2.2.1
  | q :: r => min q.2.2.2.1 (aMin g r)
noncomputable def aMax (g : aRg) : List aRg → Int
  | [] => g.2.2.2.2
  | q :: r => max q.2.2.2.2 (aMax g r)
theorem aMin_le (g : aRg) : ∀ (l : List aRg), aMin g l ≤ g.2.2.2.1 ∧ ∀ q ∈ l, aMin g l ≤ q.2.2.2.1
  | [] => ⟨Int.le_refl _, fun q hq => by cases hq⟩
  | p :: r => by
    obtain ⟨h1, h2⟩ := aMin_le g r
    show min _ _ ≤ _ ∧ ∀ q ∈ p :: r, min _ _ ≤ _
    refine ⟨by omega, fun q hq => ?_⟩
    rcases List.mem_cons.mp hq with rfl | hq
    · omega
    · have := h2 q hq; omega
theorem aMax_ge (g : aRg) : ∀ (l : List aRg), g.2.2.2.2 ≤ aMax g l ∧ ∀ q ∈ l, q.2.2.2.2 ≤ aMax g l
  | [] => ⟨Int.le_refl _, fun q hq => by cases hq⟩
  | p :: r => by
    obtain ⟨h1, h2⟩ := aMax_ge g r
    show _ ≤ max _ _ ∧ ∀ q ∈ p :: r, _ ≤ max _ _
    refine ⟨by omega, fun q hq => ?_⟩
    rcases List.mem_cons.mp hq with rfl | hq
    · omega
    · have := h2 q hq; omega
noncomputable def aGc : Nat := 24
noncomputable def aAdG (S : aSt) (a : Nat) (ix : aX) (v : aV) : aSt := (S.1, S.2.1, (a, ix, v) :: S.2.2.1.take aGc, S.2.2.2)
noncomputable def aEq2 (S : aSt) (e : aX) (j : Int) : Option aSt := match aAs S (aSb e (aK j)) with
  | some S1 => aAs S1 (aSb (aK j) e)
  | none => none
noncomputable def aRdF (S : aSt) (t : aTy) (ix : aX) : Nat → Int → List (aSt × aV)
  | 0, _ => []
  | n + 1, j => match aEq2 S ix j with
    | some S1 => (S1, (2, aK 0, ((aRgs t j j).headD (0, 0, 0, 0, 0)).2.2.2.1.toNat)) :: aRdF S t ix n (j + 1)
    | none => aRdF S t ix n (j + 1)
noncomputable def aRd (S : aSt) (a : Nat) (ix0 : aX) : Option (List (aSt × aV)) := match aTq a with
  | none => none
  | some t => if (aPr S (aNm S.1 ix0) && aPr S (aSb (aK ((t.2.1 : Int) - 1)) (aNm S.1 ix0))) = true then
      (match S.2.2.1.find? (fun g => g.1 == a && aNm S.1 (aSb g.2.1 (aNm S.1 ix0)) == (0, [])) with
      | some g => some [(S, g.2.2)]
      | none => match aRgs t (max (aLo S.1 (aNm S.1 ix0)) 0) (min (aHj S.1 (aNm S.1 ix0)) ((t.2.1 : Int) - 1)) with
        | [] => none
        | g :: gs => if gs.all (fun q => q.2.2.1 == g.2.2.1) = true then
            (if g.2.2.1 = 0 ∨ g.2.2.1 = 1 then some [(aAdG (aNw S (aMin g gs) (aMax g gs)) a (aNm S.1 ix0) (g.2.2.1, aVr S.1.length, 0), (g.2.2.1, aVr S.1.length, 0))]
            else if g.2.2.1 = 2 then some (aRdF S t (aNm S.1 ix0) (min (aHj S.1 (aNm S.1 ix0)) ((t.2.1 : Int) - 1) - max (aLo S.1 (aNm S.1 ix0)) 0 + 1).toNat (max (aLo S.1 (aNm S.1 ix0)) 0))
            else if g.2.2.1 = 3 then some (aDs.map (fun d => (aAdG S a (aNm S.1 ix0) (0, aK d, 0), (0, aK d, 0)))) else none) else none) else none
noncomputable def aLe (n : Nat) (r : Nat → Int) (n1 : Nat) (r1 : Nat → Int) : Prop := ∀ v w, aVs n r v w → aVs n1 r1 v w
theorem aLe.rf {n : Nat} {r : Nat → Int} : aLe n r n r := fun _ _ h => h
theorem aAdG_ok {r : Nat → Int} {S : aSt} {m0 : Int} {h : mH} {a j : Nat} {ix : aX} {v : aV} {w : Value} (hS : aOk r S m0 h) (hw : aWf S.1.length ix) (he : aEv r ix = (j : Int)) (hs : aSlot h a j = some w) (hv : aVs S.1.length r v w) : aOk r (aAdG S a ix v) m0 h := by
  obtain ⟨hB, hC, hG, hO⟩ := hS
  refine ⟨hB, hC, ?_, hO⟩
  intro g hg
  rcases List.mem_cons.mp hg with rfl | hg
  · exact ⟨hw, j, w, he, hs, hv⟩
  · exact hG g (List.mem_of_mem_take hg)
theorem aEq2_ok {r : Nat → Int} {S : aSt} {m0 : Int} {h : mH} {e : aX} {j : Int} (hS : aOk r S m0 h) (hw : aWf S.1.length e) (he : aEv r e = j) : ∃ S1, aEq2 S e j = some S1 ∧ aOk r S1 m0 h ∧ S1.1.length = S.1.length := by
  obtain ⟨S1, h1, h2, h3⟩ := aAs_ok (e := aSb e (aK j)) hS (aSb_wf hw (aK_wf _ _)) (by rw [aSb_ev, aK_ev]; omega)
  obtain ⟨S2, h4, h5, h6⟩ := aAs_ok (e := aSb (aK j) e) h2 (by rw [h3]; exact aSb_wf (aK_wf _ _) hw) (by rw [aSb_ev, aK_ev]; omega)
  refine ⟨S2, ?_, h5, h6.trans h3⟩
  unfold aEq2
  rw [h1]
  exact h4
theorem aRdF_mem {r : Nat → Int} {S : aSt} {m0 : Int} {h : mH} {t : aTy} {ix : aX} (hS : aOk r S m0 h) (hw : aWf S.1.length ix) : ∀ (n : Nat) (k : Int), k ≤ aEv r ix → aEv r ix < k + n → ∃ S1, aOk r S1 m0 h ∧ S1.1.length = S.1.length ∧ (S1, ((2, aK 0, ((aRgs t (aEv r ix) (aEv r ix)).headD (0, 0, 0, 0, 0)).2.2.2.1.toNat) : aV)) ∈ aRdF S t ix n k := by
  intro n
  induction n with
  | zero => intro k h1 h2; omega
  | succ n ih =>
    intro k h1 h2
    unfold aRdF
    by_cases e : aEv r ix = k
    · obtain ⟨S1, q1, q2, q3⟩ := aEq2_ok hS hw e
      rw [q1]
      refine ⟨S1, q2, q3, ?_⟩
      dsimp only
      rw [e]
      exact List.mem_cons_self
    · obtain ⟨S1, q1, q2, q3⟩ := ih (k + 1) (by omega) (by omega)
      split
      · exact ⟨S1, q1, q2, List.mem_cons_of_mem _ q3⟩
      · exact ⟨S1, q1, q2, q3⟩
theorem aRgs_mem {t : aTy} {lo hi : Int} {g : aRg} {j : Nat} (hg : g ∈ t.2.2) (h1 : g.1 ≤ j) (h2 : j ≤ g.2.1) (h3 : lo ≤ (j : Int)) (h4 : (j : Int) ≤ hi) : g ∈ aRgs t lo hi := by
  refine List.mem_filter.mpr ⟨hg, ?_⟩
  simp only [Bool.and_eq_true, decide_eq_true_eq]
  omega
theorem aRgs_in {t : aTy} {j : Nat} {g : aRg} (hg : g ∈ aRgs t j j) : g ∈ t.2.2 ∧ g.1 ≤ j ∧ j ≤ g.2.1 := by
  obtain ⟨h1, h2⟩ := List.mem_filter.mp hg
  simp only [Bool.and_eq_true, decide_eq_true_eq] at h2
  exact ⟨h1, by omega, by omega⟩
set_option maxHeartbeats 1000000 in
theorem aRd_ok {r : Nat → Int} {S : aSt} {m0 : Int} {h : mH} {a : Nat} {ix0 : aX} {l : List (aSt × aV)} (hS : aOk r S m0 h) (hh : aHp h) (hw0 : aWf S.1.length ix0) (hr : aRd S a ix0 = some l) :
    ∃ (t : aTy) (q : mC) (j : Nat) (w : Value), aT[a]? = some t ∧ h[a]? = some q ∧ q.1 = t.1 ∧ q.2.length = t.2.1 ∧ aEv r ix0 = (j : Int) ∧ q.2[j]? = some w ∧ ∃ p ∈ l, ∃ r1, aOk r1 p.1 m0 h ∧ aVs p.1.1.length r1 p.2 w ∧ aLe S.1.length r p.1.1.length r1 := by
  unfold aRd at hr
  rw [aTq_eq] at hr
  split at hr
  · cases hr
  · rename_i t ht
    split at hr
    · rename_i hc
      rw [Bool.and_eq_true] at hc
      have hev := aNm_ev hS.1 ix0
      have hw := aNm_wf hS.1 hw0
      generalize aNm S.1 ix0 = ix at hr hc hev hw
      have p1 := aPr_ok hS hw hc.1
      have p2 := aPr_ok hS (aSb_wf (aK_wf _ _) hw) hc.2
      rw [aSb_ev, aK_ev] at p2
      obtain ⟨q, e1, e2, e3, e4⟩ := aHp_at hh ht
      obtain ⟨j, hj⟩ : ∃ j : Nat, aEv r ix = (j : Int) := ⟨(aEv r ix).toNat, by omega⟩
      have hjl : j < q.2.length := by omega
      have hq : q.2[j]? = some q.2[j] := List.getElem?_eq_getElem hjl
      have hsl : aSlot h a j = some q.2[j] := by unfold aSlot; rw [e1]; exact hq
      refine ⟨t, q, j, q.2[j], ht, e1, e2, e3, by rw [← hev]; exact hj, hq, ?_⟩
      split at hr
      · rename_i g hg
        cases hr
        have g1 := List.find?_some hg
        have g2 := List.mem_of_find?_eq_some hg
        rw [Bool.and_eq_true] at g1
        obtain ⟨x1, k, w, x2, x3, x4⟩ := hS.2.2.1 g g2
        have x5 : g.1 = a := by simpa using g1.1
        have x6 : aNm S.1 (aSb g.2.1 ix) = (0, []) := by simpa using g1.2
        have x7 : aEv r (aSb g.2.1 ix) = 0 := by
          rw [← aNm_ev hS.1, x6]
          rfl
        rw [aSb_ev] at x7
        have x8 : k = j := by omega
        subst x8
        rw [x5, hsl] at x3
        cases x3
        exact ⟨_, List.mem_cons_self, r, hS, x4, aLe.rf⟩
      · split at hr
        · cases hr
        · rename_i g gs hgs
          split at hr
          · rename_i hk
            have l1 := aLo_le hS.1 hw
            have l2 := aHj_ge hS.1 hw
            obtain ⟨g0, c1, c2, c3⟩ := aCv_at ht (show j < t.2.1 by omega)
            have c4 := aRgs_mem (lo := max (aLo S.1 ix) 0) (hi := min (aHj S.1 ix) ((t.2.1 : Int) - 1)) c1 c2 c3 (by omega) (by omega)
            have hT := e4 g0 c1 j q.2[j] c2 c3 hq
            have hkk : g0.2.2.1 = g.2.2.1 := by
              rw [hgs] at c4
              rcases List.mem_cons.mp c4 with rfl | c5
              · rfl
              · simpa using List.all_eq_true.mp hk g0 c5
            have hlo : aMin g gs ≤ g0.2.2.2.1 ∧ g0.2.2.2.2 ≤ aMax g gs := by
              rw [hgs] at c4
              rcases List.mem_cons.mp c4 with rfl | c5
              · exact ⟨(aMin_le _ gs).1, (aMax_ge _ gs).1⟩
              · exact ⟨(aMin_le g gs).2 g0 c5, (aMax_ge g gs).2 g0 c5⟩
            split at hr
            · rename_i hk01
              cases hr
              refine ⟨_, List.mem_cons_self, ?_⟩
              rcases hk01 with k0 | k0
              · unfold aIsT at hT
                rw [hkk, k0] at hT
                obtain ⟨z, z1, z2, z3⟩ := hT
                refine ⟨aUp r S.1.length z.toInt, ?_, ?_, fun v w hv => ?_⟩
                · refine aAdG_ok (w := q.2[j]) (aNw_ok hS (by omega) (by omega)) (by rw [aNw_len]; exact hw.up (Nat.le_succ _)) (by rw [aEv_up hw]; exact hj) hsl ?_
                  rw [aNw_len]
                  refine ⟨aVr_wf (Nat.lt_succ_self _), ?_⟩
                  rw [k0]
                  exact ⟨z, z1, by rw [aVr_ev, aUp_self]⟩
                · show aVs (aNw S _ _).1.length _ _ _
                  rw [aNw_len]
                  refine ⟨aVr_wf (Nat.lt_succ_self _), ?_⟩
                  rw [k0]
                  exact ⟨z, z1, by rw [aVr_ev, aUp_self]⟩
                · show aVs (aNw S _ _).1.length _ _ _
                  rw [aNw_len]
                  exact hv.up
              · unfold aIsT at hT
                rw [hkk, k0] at hT
                obtain ⟨z, z1, z2, z3⟩ := hT
                refine ⟨aUp r S.1.length z.toInt, ?_, ?_, fun v w hv => ?_⟩
                · refine aAdG_ok (w := q.2[j]) (aNw_ok hS (by omega) (by omega)) (by rw [aNw_len]; exact hw.up (Nat.le_succ _)) (by rw [aEv_up hw]; exact hj) hsl ?_
                  rw [aNw_len]
                  refine ⟨aVr_wf (Nat.lt_succ_self _), ?_⟩
                  rw [k0]
                  exact ⟨z, z1, by rw [aVr_ev, aUp_self]⟩
                · show aVs (aNw S _ _).1.length _ _ _
                  rw [aNw_len]
                  refine ⟨aVr_wf (Nat.lt_succ_self _), ?_⟩
                  rw [k0]
                  exact ⟨z, z1, by rw [aVr_ev, aUp_self]⟩
                · show aVs (aNw S _ _).1.length _ _ _
                  rw [aNw_len]
                  exact hv.up
            · split at hr
              · rename_i k2
                cases hr
                obtain ⟨S1, s1, s2, s3⟩ := aRdF_mem (t := t) hS hw (min (aHj S.1 ix) ((t.2.1 : Int) - 1) - max (aLo S.1 ix) 0 + 1).toNat (max (aLo S.1 ix) 0) (by omega) (by omega)
                refine ⟨_, s3, r, s1, ?_, by rw [s2]; exact aLe.rf⟩
                refine ⟨aK_wf _ _, ?_⟩
                show q.2[j] = .ref _
                rw [hj]
                have c6 := aRgs_mem (lo := (j : Int)) (hi := (j : Int)) c1 c2 c3 (Int.le_refl _) (Int.le_refl _)
                match hm : aRgs t j j, c6 with
                | g2 :: rest, _ =>
                  have c7 : g2 ∈ aRgs t j j := by rw [hm]; exact List.mem_cons_self
                  obtain ⟨d1, d2, d3⟩ := aRgs_in c7
                  have hT2 := e4 g2 d1 j q.2[j] d2 d3 hq
                  have c8 := aRgs_mem (lo := max (aLo S.1 ix) 0) (hi := min (aHj S.1 ix) ((t.2.1 : Int) - 1)) d1 d2 d3 (by omega) (by omega)
                  have hk2 : g2.2.2.1 = g.2.2.1 := by
                    rw [hgs] at c8
                    rcases List.mem_cons.mp c8 with rfl | c5
                    · rfl
                    · simpa using List.all_eq_true.mp hk g2 c5
                  unfold aIsT at hT2
                  rw [hk2, k2] at hT2
                  exact hT2
              · split at hr
                · rename_i k3
                  cases hr
                  unfold aIsT at hT
                  rw [hkk, k3] at hT
                  obtain ⟨z, z1, z2⟩ := hT
                  have hv : aVs S.1.length r ((0, aK z.toInt, 0) : aV) q.2[j] := ⟨aK_wf _ _, z, z1, by rw [aK_ev]⟩
                  exact ⟨_, List.mem_map.mpr ⟨z.toInt, z2, rfl⟩, r, aAdG_ok hS hw hj hsl hv, hv, aLe.rf⟩
                · cases hr
          · cases hr
    · cases hr
