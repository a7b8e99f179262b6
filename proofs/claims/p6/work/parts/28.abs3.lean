/-! one instruction in the analyser: jumps, cells -/
noncomputable def aCn (S : aSt) (e : aX) (isc : Bool) : ClassFile.Cond → List aSt
  | .lt => (aAs S (aSb (aK (-1)) e)).toList
  | .ge => (aAs S e).toList
  | .gt => (aAs S (aSb e (aK 1))).toList
  | .le => (aAs S (aSc (-1) e)).toList
  | .eq => (aEq2 S e 0).toList
  | .ne => if aPr S e = true then (aAs S (aSb e (aK 1))).toList else if aPr S (aSc (-1) e) = true then (aAs S (aSb (aK (-1)) e)).toList else if isc = true then (aAs S (aSb (aK (-1)) e)).toList ++ (aAs S (aSb e (aK 1))).toList else [S]
noncomputable def aNg : ClassFile.Cond → ClassFile.Cond
  | .lt => .ge
  | .ge => .lt
  | .gt => .le
  | .le => .gt
  | .eq => .ne
  | .ne => .eq
noncomputable def aHd (q : ClassFile.Cond) (z : Int) : Prop := match q with
  | .lt => z < 0
  | .ge => 0 ≤ z
  | .gt => 0 < z
  | .le => z ≤ 0
  | .eq => z = 0
  | .ne => z ≠ 0
theorem aHd_ng {q : ClassFile.Cond} {z : Int} (h : ¬ aHd q z) : aHd (aNg q) z := by
  cases q <;> simp only [aHd, aNg] at h ⊢ <;> omega
section AB3
variable {r : Nat → Int} {S : aSt} {m0 : Int} {h : mH} {L : List aV} {M : mL} {st : List aV} {su : List Value} {i : Nat} {en : mE} {l : List aQ}
theorem aCn_ok {q : ClassFile.Cond} {e : aX} {isc : Bool} (hS : aOk r S m0 h) (hw : aWf S.1.length e) (hq : aHd q (aEv r e)) : ∃ S1 ∈ aCn S e isc q, aOk r S1 m0 h ∧ S1.1.length = S.1.length := by
  have via : ∀ f : aX, aWf S.1.length f → 0 ≤ aEv r f → ∃ S1 ∈ (aAs S f).toList, aOk r S1 m0 h ∧ S1.1.length = S.1.length := by
    intro f hf h0
    obtain ⟨S1, h1, h2, h3⟩ := aAs_ok hS hf h0
    exact ⟨S1, by rw [h1]; exact List.mem_singleton.mpr rfl, h2, h3⟩
  have w1 : aWf S.1.length (aSb (aK (-1)) e) := aSb_wf (aK_wf _ _) hw
  have w2 : aWf S.1.length (aSb e (aK 1)) := aSb_wf hw (aK_wf _ _)
  have e1 : aEv r (aSb (aK (-1)) e) = -1 - aEv r e := by rw [aSb_ev, aK_ev]
  have e2 : aEv r (aSb e (aK 1)) = aEv r e - 1 := by rw [aSb_ev, aK_ev]
  cases q
  · simp only [aHd] at hq
    obtain ⟨S1, h1, h2, h3⟩ := aEq2_ok (j := 0) hS hw hq
    refine ⟨S1, ?_, h2, h3⟩
    show S1 ∈ (aEq2 S e 0).toList
    rw [h1]
    exact List.mem_singleton.mpr rfl
  · simp only [aHd] at hq
    unfold aCn
    dsimp only
    split
    · rename_i hp
      have := aPr_ok hS hw hp
      exact via _ w2 (by omega)
    · split
      · rename_i hp
        have := aPr_ok hS (aSc_wf hw) hp
        rw [aSc_ev] at this
        exact via _ w1 (by omega)
      · split
        · rcases Int.lt_or_lt_of_ne hq with q | q
          · obtain ⟨S1, h1, h2⟩ := via _ w1 (by omega)
            exact ⟨S1, List.mem_append_left _ h1, h2⟩
          · obtain ⟨S1, h1, h2⟩ := via _ w2 (by omega)
            exact ⟨S1, List.mem_append_right _ h1, h2⟩
        · exact ⟨S, List.mem_singleton.mpr rfl, hS, rfl⟩
  · simp only [aHd] at hq
    exact via _ w1 (by omega)
  · simp only [aHd] at hq
    exact via _ hw hq
  · simp only [aHd] at hq
    exact via _ w2 (by omega)
  · simp only [aHd] at hq
    exact via _ (aSc_wf hw) (by rw [aSc_ev]; omega)
noncomputable def aBr (S : aSt) (e : aX) (isc : Bool) (q : ClassFile.Cond) (en : mE) (i : Nat) (L s : List aV) : List aQ := (aCn S e isc q).map (fun S1 => (S1, mTgt en 0, L, s)) ++ (aCn S e isc (aNg q)).map (fun S1 => (S1, i + 1, L, s))
theorem aBr_ok {q : ClassFile.Cond} {e : aX} {isc : Bool} {d : Bool} (hS : aOk r S m0 h) (hh : aHp h) (hL : aFs S.1.length r L M) (hs : aSk S.1.length r st su) (hw : aWf S.1.length e) (hd : d = true ↔ aHd q (aEv r e)) : aGood r S m0 (aBr S e isc q en i L st) (mIf en d i M su h) := by
  unfold mIf aBr
  split
  · rename_i hc
    obtain ⟨S1, h1, h2, h3⟩ := aCn_ok (isc := isc) hS hw (hd.mp hc)
    exact ⟨_, List.mem_append_left _ (List.mem_map.mpr ⟨S1, h1, rfl⟩), r, h2, hh, by rw [h3]; exact aLe.rf, rfl, by rw [h3]; exact hL, by rw [h3]; exact hs⟩
  · rename_i hc
    obtain ⟨S1, h1, h2, h3⟩ := aCn_ok (isc := isc) hS hw (aHd_ng (fun z => hc (hd.mpr z)))
    exact ⟨_, List.mem_append_right _ (List.mem_map.mpr ⟨S1, h1, rfl⟩), r, h2, hh, by rw [h3]; exact aLe.rf, rfl, by rw [h3]; exact hL, by rw [h3]; exact hs⟩
noncomputable def aTs (S : aSt) (e : aX) (en : mE) (L s : List aV) : Nat → Int → Nat → List aQ
  | 0, _, _ => []
  | n + 1, j, k => match aEq2 S e j with
    | some S1 => (S1, mTgt en k, L, s) :: aTs S e en L s n (j + 1) (k + 1)
    | none => aTs S e en L s n (j + 1) (k + 1)
noncomputable def aLs (S : aSt) (e : aX) (en : mE) (L s : List aV) : List (Int × Int) → Nat → List aQ
  | [], _ => []
  | p :: ps, k => match aEq2 S e p.1 with
    | some S1 => (S1, mTgt en k, L, s) :: aLs S e en L s ps (k + 1)
    | none => aLs S e en L s ps (k + 1)
noncomputable def aB3 (en : mE) (S : aSt) (i : Nat) (L st : List aV) : Option (List aQ) := match en.2.1 with
  | .goto _ => some [(S, mTgt en 0, L, st)]
  | .if_icmp q _ => match st with
    | (0, y, _) :: (0, x, _) :: s => some (aBr S (aSb x y) false q en i L s)
    | _ => none
  | .ifCond q _ => match st with
    | (0, x, _) :: s => some (aBr S x false q en i L s)
    | (5, x, _) :: s => some (aBr S x true q en i L s)
    | _ => none
  | .ifnull _ => match st with
    | (3, _, _) :: s => some [(S, mTgt en 0, L, s)]
    | (2, _, _) :: s => some [(S, i + 1, L, s)]
    | _ => none
  | .ifnonnull _ => match st with
    | (3, _, _) :: s => some [(S, i + 1, L, s)]
    | (2, _, _) :: s => some [(S, mTgt en 0, L, s)]
    | _ => none
  | .tableswitch _ lo hi _ => match st with
    | (0, x, _) :: s => some ((aAs S (aSb (aK (lo - 1)) x)).toList.map (fun S1 => (S1, mTgt en 0, L, s)) ++ ((aAs S (aSb x (aK (hi + 1)))).toList.map (fun S1 => (S1, mTgt en 0, L, s)) ++ aTs S x en L s (hi - lo + 1).toNat lo 1))
    | _ => none
  | .lookupswitch _ ps => match st with
    | (0, x, _) :: s => some (aLs S x en L s ps.toList 1 ++ (if aLo S.1 x = aHj S.1 x ∧ (ps.toList.any (fun p => p.1 == aLo S.1 x)) = true then [] else [(S, mTgt en 0, L, s)]))
    | _ => none
  | _ => none
theorem aTs_mem {e : aX} {s : List aV} (hS : aOk r S m0 h) (hw : aWf S.1.length e) : ∀ (n : Nat) (j : Int) (k : Nat), j ≤ aEv r e → aEv r e < j + n → ∃ S1, aOk r S1 m0 h ∧ S1.1.length = S.1.length ∧ (S1, mTgt en (k + (aEv r e - j).toNat), L, s) ∈ aTs S e en L s n j k := by
  intro n
  induction n with
  | zero => intro j k h1 h2; omega
  | succ n ih =>
    intro j k h1 h2
    unfold aTs
    by_cases e1 : aEv r e = j
    · obtain ⟨S1, q1, q2, q3⟩ := aEq2_ok hS hw e1
      rw [q1]
      refine ⟨S1, q2, q3, ?_⟩
      rw [e1, Int.sub_self]
      exact List.mem_cons_self
    · obtain ⟨S1, q1, q2, q3⟩ := ih (j + 1) (k + 1) (by omega) (by omega)
      rw [show k + (aEv r e - j).toNat = k + 1 + (aEv r e - (j + 1)).toNat by omega]
      split
      · exact ⟨S1, q1, q2, List.mem_cons_of_mem _ q3⟩
      · exact ⟨S1, q1, q2, q3⟩
theorem aLs_mem {e : aX} {s : List aV} (hS : aOk r S m0 h) (hw : aWf S.1.length e) : ∀ (ps : List (Int × Int)) (k : Nat), 0 < k → mLk ps k (aEv r e) ≠ 0 → ∃ S1, aOk r S1 m0 h ∧ S1.1.length = S.1.length ∧ (S1, mTgt en (mLk ps k (aEv r e)), L, s) ∈ aLs S e en L s ps k := by
  intro ps
  induction ps with
  | nil => intro k _ h1; exact absurd rfl h1
  | cons p ps ih =>
    intro k hk h1
    unfold mLk at h1 ⊢
    unfold aLs
    by_cases e1 : aEv r e = p.1
    · obtain ⟨S1, q1, q2, q3⟩ := aEq2_ok hS hw e1
      rw [q1, if_pos e1]
      exact ⟨S1, q2, q3, List.mem_cons_self⟩
    · rw [if_neg e1] at h1 ⊢
      obtain ⟨S1, q1, q2, q3⟩ := ih (k + 1) (by omega) h1
      split
      · exact ⟨S1, q1, q2, List.mem_cons_of_mem _ q3⟩
      · exact ⟨S1, q1, q2, q3⟩
theorem mLk_in {ps : List (Int × Int)} {z : Int} : ∀ {k : Nat}, 0 < k → (∃ p ∈ ps, p.1 = z) → mLk ps k z ≠ 0 := by
  induction ps with
  | nil => rintro k _ ⟨p, hp, -⟩; cases hp
  | cons q ps ih =>
    rintro k hk ⟨p, hp, hz⟩
    unfold mLk
    split
    · omega
    · rename_i hne
      rcases List.mem_cons.mp hp with rfl | hp
      · exact absurd hz.symm hne
      · exact ih (by omega) ⟨p, hp, hz⟩
set_option maxHeartbeats 2000000 in
theorem aB3_ok (hS : aOk r S m0 h) (hh : aHp h) (hL : aFs S.1.length r L M) (hs : aSk S.1.length r st su) (hl : aB3 en S i L st = some l) : ∃ g1, mB3 en i M su h = some g1 ∧ aGood r S m0 l g1 := by
  unfold aB3 at hl
  unfold mB3
  split at hl
  · rename_i heq
    rw [heq]
    cases hl
    exact ⟨_, rfl, aGood.same hS hh hL hs⟩
  · rename_i q off heq
    rw [heq]
    split at hl
    · rename_i y ky x kx s
      obtain ⟨w1, t1, rfl, h1, h2⟩ := hs.cons
      obtain ⟨w2, t2, rfl, h3, h4⟩ := h2.cons
      obtain ⟨wy, v, rfl, ev⟩ := aVs0 h1
      obtain ⟨wx, u, rfl, eu⟩ := aVs0 h3
      dsimp only
      cases hl
      refine ⟨_, rfl, aBr_ok hS hh hL h4 (aSb_wf wx wy) ?_⟩
      rw [aSb_ev, ← eu, ← ev]
      cases q <;> simp only [mC2, aHd, decide_eq_true_eq, ge_iff_le, gt_iff_lt, ne_eq, aI_ind, Int32.lt_iff_toInt_lt, Int32.le_iff_toInt_le] <;> omega
    · cases hl
  · rename_i q off heq
    rw [heq]
    split at hl
    · rename_i x kx s
      obtain ⟨w1, t1, rfl, h1, h2⟩ := hs.cons
      obtain ⟨wx, u, rfl, eu⟩ := aVs0 h1
      dsimp only
      cases hl
      refine ⟨_, rfl, aBr_ok hS hh hL h2 wx ?_⟩
      rw [← eu]
      have h0 : (0 : Int32).toInt = 0 := rfl
      cases q <;> simp only [mC2, aHd, decide_eq_true_eq, ge_iff_le, gt_iff_lt, ne_eq, aI_ind, Int32.lt_iff_toInt_lt, Int32.le_iff_toInt_le, h0]
    · rename_i x kx s
      obtain ⟨w1, t1, rfl, h1, h2⟩ := hs.cons
      obtain ⟨wx, u, rfl, eu⟩ : aWf S.1.length x ∧ ∃ z : Int32, w1 = .int z ∧ z.toInt = (if 0 < aEv r x then 1 else if aEv r x = 0 then 0 else -1) := h1
      dsimp only
      cases hl
      refine ⟨_, rfl, aBr_ok hS hh hL h2 wx ?_⟩
      have h0 : (0 : Int32).toInt = 0 := rfl
      cases q <;> simp only [mC2, aHd, decide_eq_true_eq, ge_iff_le, gt_iff_lt, ne_eq, aI_ind, Int32.lt_iff_toInt_lt, Int32.le_iff_toInt_le, h0, eu] <;> (split <;> (try split) <;> omega)
    · cases hl
  · rename_i off heq
    rw [heq]
    split at hl
    · obtain ⟨w1, t1, rfl, h1, h2⟩ := hs.cons
      have h3 : w1 = .null := h1.2
      subst h3
      cases hl
      exact ⟨_, rfl, aGood.same hS hh hL h2⟩
    · rename_i e0 a s
      obtain ⟨w1, t1, rfl, h1, h2⟩ := hs.cons
      have h3 : w1 = .ref a := h1.2
      subst h3
      cases hl
      exact ⟨_, rfl, aGood.same hS hh hL h2⟩
    · cases hl
  · rename_i off heq
    rw [heq]
    split at hl
    · obtain ⟨w1, t1, rfl, h1, h2⟩ := hs.cons
      have h3 : w1 = .null := h1.2
      subst h3
      cases hl
      exact ⟨_, rfl, aGood.same hS hh hL h2⟩
    · rename_i e0 a s
      obtain ⟨w1, t1, rfl, h1, h2⟩ := hs.cons
      have h3 : w1 = .ref a := h1.2
      subst h3
      cases hl
      exact ⟨_, rfl, aGood.same hS hh hL h2⟩
    · cases hl
  · rename_i dflt lo hi offs heq
    rw [heq]
    split at hl
    · rename_i x kx s
      obtain ⟨w1, t1, rfl, h1, h2⟩ := hs.cons
      obtain ⟨wx, u, rfl, eu⟩ := aVs0 h1
      dsimp only
      cases hl
      rw [eu]
      split
      · rename_i hc
        refine ⟨_, rfl, ?_⟩
        rcases hc with hc | hc
        · obtain ⟨S1, q1, q2, q3⟩ := aAs_ok (e := aSb (aK (lo - 1)) x) hS (aSb_wf (aK_wf _ _) wx) (by rw [aSb_ev, aK_ev]; omega)
          exact ⟨_, List.mem_append_left _ (List.mem_map.mpr ⟨S1, by rw [q1]; exact List.mem_singleton.mpr rfl, rfl⟩), r, q2, hh, by rw [q3]; exact aLe.rf, rfl, by rw [q3]; exact hL, by rw [q3]; exact h2⟩
        · obtain ⟨S1, q1, q2, q3⟩ := aAs_ok (e := aSb x (aK (hi + 1))) hS (aSb_wf wx (aK_wf _ _)) (by rw [aSb_ev, aK_ev]; omega)
          exact ⟨_, List.mem_append_right _ (List.mem_append_left _ (List.mem_map.mpr ⟨S1, by rw [q1]; exact List.mem_singleton.mpr rfl, rfl⟩)), r, q2, hh, by rw [q3]; exact aLe.rf, rfl, by rw [q3]; exact hL, by rw [q3]; exact h2⟩
      · rename_i hc
        obtain ⟨S1, q2, q3, q1⟩ := aTs_mem (en := en) (L := L) (s := s) hS wx (hi - lo + 1).toNat lo 1 (by omega) (by omega)
        exact ⟨_, rfl, _, List.mem_append_right _ (List.mem_append_right _ q1), r, q2, hh, by rw [q3]; exact aLe.rf, rfl, by rw [q3]; exact hL, by rw [q3]; exact h2⟩
    · cases hl
  · rename_i dflt ps heq
    rw [heq]
    split at hl
    · rename_i x kx s
      obtain ⟨w1, t1, rfl, h1, h2⟩ := hs.cons
      obtain ⟨wx, u, rfl, eu⟩ := aVs0 h1
      dsimp only
      cases hl
      rw [eu]
      refine ⟨_, rfl, ?_⟩
      by_cases hz : mLk ps.toList 1 (aEv r x) = 0
      · have hno : ¬ (aLo S.1 x = aHj S.1 x ∧ (ps.toList.any (fun p => p.1 == aLo S.1 x)) = true) := by
          rintro ⟨z1, z2⟩
          obtain ⟨p, hp, hp2⟩ := List.any_eq_true.mp z2
          have x1 := aLo_le hS.1 wx
          have x2 := aHj_ge hS.1 wx
          exact mLk_in (ps := ps.toList) (z := aEv r x) (k := 1) (by decide) ⟨p, hp, by have : p.1 = aLo S.1 x := by simpa using hp2
                                                                                        omega⟩ hz
        rw [if_neg hno, hz]
        exact ⟨_, List.mem_append_right _ (List.mem_singleton.mpr rfl), r, hS, hh, aLe.rf, rfl, hL, h2⟩
      · obtain ⟨S1, q2, q3, q1⟩ := aLs_mem (en := en) (L := L) (s := s) hS wx ps.toList 1 (by decide) hz
        exact ⟨_, List.mem_append_left _ q1, r, q2, hh, by rw [q3]; exact aLe.rf, rfl, by rw [q3]; exact hL, by rw [q3]; exact h2⟩
    · cases hl
  · cases hl
end AB3
