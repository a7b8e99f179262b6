/-! calls and returns in the analyser -/
noncomputable def aTop : aV := (6, (0, []), 0)
noncomputable def aEnt : List aV → List aV
  | [] => []
  | v :: q => if v.1 = 1 then v :: aTop :: aEnt q else v :: aEnt q
noncomputable def aEntL (n : Nat) (av : List aV) : List aV := aEnt av ++ List.replicate (n - (aEnt av).length) aTop
section ACL
variable {n : Nat} {r : Nat → Int}
theorem aSk.len : ∀ {s : List aV} {t : List Value}, aSk n r s t → s.length = t.length
  | [], [], _ => rfl
  | v :: s, w :: t, h => by simp [aSk.len h.2]
  | [], _ :: _, h => h.elim
  | _ :: _, [], h => h.elim
theorem aSk.drop : ∀ (k : Nat) {s : List aV} {t : List Value}, aSk n r s t → aSk n r (s.drop k) (t.drop k)
  | 0, _, _, h => h
  | k + 1, [], [], _ => trivial
  | k + 1, v :: s, w :: t, h => aSk.drop k h.2
  | k + 1, [], _ :: _, h => h.elim
  | k + 1, _ :: _, [], h => h.elim
theorem aSk.take : ∀ (k : Nat) {s : List aV} {t : List Value}, aSk n r s t → aSk n r (s.take k) (t.take k)
  | 0, _, _, _ => trivial
  | k + 1, [], [], _ => trivial
  | k + 1, v :: s, w :: t, h => ⟨h.1, aSk.take k h.2⟩
  | k + 1, [], _ :: _, h => h.elim
  | k + 1, _ :: _, [], h => h.elim
theorem aSk.app : ∀ {s s1 : List aV} {t t1 : List Value}, aSk n r s t → aSk n r s1 t1 → aSk n r (s ++ s1) (t ++ t1)
  | [], _, [], _, _, h1 => h1
  | v :: s, _, w :: t, _, h, h1 => ⟨h.1, aSk.app h.2 h1⟩
  | [], _, _ :: _, _, h, _ => h.elim
  | _ :: _, _, [], _, h, _ => h.elim
theorem aSk.rev : ∀ {s : List aV} {t : List Value}, aSk n r s t → aSk n r s.reverse t.reverse
  | [], [], _ => trivial
  | v :: s, w :: t, h => by
    rw [List.reverse_cons, List.reverse_cons]
    exact (aSk.rev h.2).app ⟨h.1, trivial⟩
  | [], _ :: _, h => h.elim
  | _ :: _, [], h => h.elim
theorem aCat_iff {v : aV} {w : Value} (h6 : v.1 < 6) (h : aVs n r v w) : v.1 = 1 ↔ w.category = 2 := by
  constructor
  · intro hc; exact aCat2 hc h
  · intro hc
    by_cases h1 : v.1 = 1
    · exact h1
    · have := aC1_ok (v := v) (w := w) (r := r) (n := n) (by unfold aC1; simp [h6, h1]) h
      omega
theorem aEnt_ok : ∀ {s : List aV} {t : List Value}, aSk n r s t → s.all (fun v => decide (v.1 < 6)) = true → (aEnt s).length = (mEnt t).length ∧ ∀ (k : Nat) (v : aV), (aEnt s)[k]? = some v → v.1 < 6 → ∃ w, (mEnt t)[k]? = some (some w) ∧ aVs n r v w
  | [], [], _, _ => ⟨rfl, fun k v hk => by simp [aEnt] at hk⟩
  | v :: s, w :: t, h, h6 => by
    rw [List.all_cons, Bool.and_eq_true, decide_eq_true_eq] at h6
    obtain ⟨i1, i2⟩ := aEnt_ok h.2 h6.2
    have hi := aCat_iff h6.1 h.1
    unfold aEnt mEnt
    by_cases hc : v.1 = 1
    · rw [if_pos hc, if_pos (hi.mp hc)]
      refine ⟨by simp [i1], fun k u hk hu => ?_⟩
      match k, hk with
      | 0, hk => cases hk; exact ⟨w, rfl, h.1⟩
      | 1, hk =>
        cases hk
        exact absurd hu (by decide)
      | k + 2, hk => exact i2 k u hk hu
    · rw [if_neg hc, if_neg (fun q => hc (hi.mpr q))]
      refine ⟨by simp [i1], fun k u hk hu => ?_⟩
      match k, hk with
      | 0, hk => cases hk; exact ⟨w, rfl, h.1⟩
      | k + 1, hk => exact i2 k u hk hu
  | [], _ :: _, h, _ => h.elim
  | _ :: _, [], h, _ => h.elim
theorem aEntL_ok {s : List aV} {t : List Value} {mx : Nat} (h : aSk n r s t) (h6 : s.all (fun v => decide (v.1 < 6)) = true) : aFs n r (aEntL mx s) (mEntL mx t) ∧ (aEnt s).length = (mEnt t).length := by
  obtain ⟨i1, i2⟩ := aEnt_ok h h6
  refine ⟨⟨by simp [aEntL, mEntL, i1], fun k v hk hv => ?_⟩, i1⟩
  unfold aEntL at hk
  unfold mEntL
  by_cases hl : k < (aEnt s).length
  · rw [List.getElem?_append_left hl] at hk
    rw [List.getElem?_append_left (by omega)]
    exact i2 k v hk hv
  · rw [List.getElem?_append_right (by omega), List.getElem?_replicate] at hk
    split at hk
    · cases hk
      exact absurd hv (by decide)
    · cases hk
end ACL
/-- the class of each method's object -/
noncomputable def aKs : List Nat := [0, 1, 2, 3, 4, 5, 6, 0, 0, 0, 5, 99, 0, 0, 0, 0, 0, 5, 0, 5, 0, 0, 6, 99, 0, 0, 2, 2, 2, 1, 2, 99, 0, 1, 0, 1, 1, 1, 1, 0, 1, 99, 99, 99, 99, 1, 1, 1, 0, 0, 99, 1, 1, 1, 1, 0, 1, 1, 99, 0, 1, 1, 1, 0, 1, 1, 1, 99, 1, 99, 0, 1, 0, 0, 0, 0, 1, 0, 0, 1, 1, 0, 0, 0, 0, 0, 3, 3, 0, 4, 4, 0, 0, 0, 0, 0, 0, 0, 1, 1, 0, 0, 1, 0, 0, 0, 0, 0, 0, 1, 0, 0, 0, 0, 0, 0, 0, 0, 0, 0, 0, 1, 5, 6, 7, 7, 7, 7, 7, 7, 7, 7, 7, 7, 7, 7, 7, 7, 7, 7, 7, 7, 7, 7, 7, 7, 7, 7, 7, 7, 7, 7, 7, 7, 7, 7, 7, 7, 7, 7, 7, 7, 7, 7, 7, 7, 7, 7, 7, 7, 7, 7, 7, 7, 7, 7, 7, 7, 7, 7, 7, 7, 7, 7, 7, 7, 7, 7, 7, 7, 7, 7, 7, 7, 7, 7, 7, 7, 7, 7, 7, 7, 7, 7, 7, 7, 7, 7, 7, 7, 7, 7, 7, 7, 7, 7, 7, 7, 7, 7, 7]
noncomputable def aKsB : Bool := mTab.zipIdx.all (fun q => if mMK q.1 = 1 then (match mCl[aKs.getD q.2 99]? with
  | some r => decide (r.1 = (mMY q.1).cls) && decide (aKs.getD q.2 99 < 50)
  | none => false) else true)
set_option maxRecDepth 100000 in
theorem aKs_all : aKsB = true := by decide +kernel
theorem aKs_ok {k : Nat} {t : mM} (ht : mTab[k]? = some t) (hk : mMK t = 1) : ∃ q, mCl[aKs.getD k 99]? = some q ∧ q.1 = (mMY t).cls ∧ aKs.getD k 99 < 50 := by
  have h1 := List.all_eq_true.mp aKs_all (t, k) (List.mem_zipIdx_iff_getElem?.mpr ht)
  dsimp only at h1
  rw [if_pos hk] at h1
  split at h1
  · rename_i q hq
    rw [Bool.and_eq_true, decide_eq_true_eq, decide_eq_true_eq] at h1
    exact ⟨q, hq, h1.1, h1.2⟩
  · cases h1
noncomputable def aRcv (k : Nat) (t : mM) (av : List aV) : Bool := decide (mMK t = 0) || (match av with
  | (2, _, a) :: _ => decide (mMK t = 2) || (decide (mMK t = 1) && (match aTq a with
    | some ty => ty.1 == aFn k (fun k => aFn (aKs.getD k 99) (fun x => x))
    | none => false))
  | _ => false)
theorem aRcv_ok {n : Nat} {r : Nat → Int} {k : Nat} {t : mM} {s : List aV} {av : List Value} {h : mH} (ht : mTab[k]? = some t) (hh : aHp h) (hs : aSk n r s av) (hr : aRcv k t s = true) : mRcv t av h = true := by
  unfold aRcv at hr
  unfold mRcv
  by_cases h0 : mMK t = 0
  · rw [if_pos h0]
  · rw [if_neg h0]
    rw [Bool.or_eq_true, decide_eq_true_eq] at hr
    rcases hr with hr | hr
    · exact absurd hr h0
    · split at hr
      · rename_i e0 a s
        obtain ⟨w1, t1, rfl, h1, h2⟩ := hs.cons
        have h3 : w1 = .ref a := h1.2
        subst h3
        dsimp only
        by_cases hk2 : mMK t = 2
        · rw [if_pos hk2]
        · rw [if_neg hk2]
          simp only [Bool.or_eq_true, Bool.and_eq_true, decide_eq_true_eq] at hr
          rcases hr with hr | ⟨hr1, hr2⟩
          · exact absurd hr hk2
          · rw [aTq_eq, aFn_eq, aFn_eq] at hr2
            split at hr2
            · rename_i ty hty
              obtain ⟨q, e1, e2, e3, -⟩ := aHp_at hh hty
              obtain ⟨c, c1, c2, c3⟩ := aKs_ok ht hr1
              have e4 : q.1 = aKs.getD k 99 := by rw [e2]; simpa using hr2
              rw [e1]
              dsimp only
              rw [e4, c1]
              dsimp only
              rw [Bool.and_eq_true, decide_eq_true_eq, decide_eq_true_eq]
              exact ⟨c3, c2⟩
            · cases hr2
      · cases hr
/-- returns -/
noncomputable def aRet (S : aSt) (t : mM) (en : mE) (st : List aV) : Option (List aV) := match en.2.1 with
  | .ireturn => match st with
    | [(0, v, k)] => match mMT t with
      | some .int => some [(0, v, k)]
      | some .boolean => if (aPr S v && aPr S (aSb (aK 1) v)) = true then some [(0, v, k)] else none
      | _ => none
    | _ => none
  | .lreturn => match st with
    | [(1, v, k)] => match mMT t with
      | some .long => some [(1, v, k)]
      | _ => none
    | _ => none
  | .areturn => match st with
    | [(2, v, k)] => match mMT t with
      | some (.object _) => some [(2, v, k)]
      | _ => none
    | [(3, v, k)] => match mMT t with
      | some (.object _) => some [(3, v, k)]
      | _ => none
    | _ => none
  | .return_ => match st with
    | [] => match mMT t with
      | none => some []
      | _ => none
    | _ => none
  | _ => none
theorem aRet_ok {r : Nat → Int} {S : aSt} {m0 : Int} {h : mH} {t : mM} {en : mE} {st l : List aV} {su : List Value} (hS : aOk r S m0 h) (hs : aSk S.1.length r st su) (hl : aRet S t en st = some l) : ∃ v : Option Value, mRt (mMT t) en su h = some (v, h) ∧ aSk S.1.length r l v.toList := by
  unfold aRet at hl
  unfold mRt
  split at hl
  · rename_i heq
    rw [heq]
    split at hl
    · rename_i v k
      obtain ⟨w1, t1, rfl, h1, h2⟩ := hs.cons
      match t1, h2 with
      | [], h2 =>
        obtain ⟨wv, z, rfl, ez⟩ := aVs0 h1
        split at hl
        · rename_i hty
          cases hl
          rw [hty]
          exact ⟨some (.int z), if_pos rfl, h1, trivial⟩
        · rename_i hty
          split at hl
          · rename_i hc
            cases hl
            rw [Bool.and_eq_true] at hc
            have p1 := aPr_ok hS wv hc.1
            have p2 := aPr_ok hS (aSb_wf (aK_wf _ _) wv) hc.2
            rw [aSb_ev, aK_ev] at p2
            rw [hty]
            refine ⟨some (.int z), ?_, h1, trivial⟩
            dsimp only
            rw [if_pos]
            rcases (show z.toInt = 0 ∨ z.toInt = 1 by omega) with e | e
            · rw [aI_ind.mpr (show z.toInt = (0 : Int32).toInt from e)]; rfl
            · rw [aI_ind.mpr (show z.toInt = (1 : Int32).toInt from e)]; rfl
          · cases hl
        · cases hl
      | _ :: _, h2 => exact h2.elim
    · cases hl
  · rename_i heq
    rw [heq]
    split at hl
    · rename_i v k
      obtain ⟨w1, t1, rfl, h1, h2⟩ := hs.cons
      match t1, h2 with
      | [], h2 =>
        obtain ⟨wv, z, rfl, ez⟩ := aVs1 h1
        split at hl
        · rename_i hty
          cases hl
          rw [hty]
          refine ⟨some (.long z), ?_, h1, trivial⟩
          dsimp only
          rw [if_pos rfl]
        · cases hl
      | _ :: _, h2 => exact h2.elim
    · cases hl
  · rename_i heq
    rw [heq]
    split at hl
    · rename_i v k
      obtain ⟨w1, t1, rfl, h1, h2⟩ := hs.cons
      match t1, h2 with
      | [], h2 =>
        have h3 : w1 = .ref k := h1.2
        subst h3
        split at hl
        · rename_i hty
          cases hl
          rw [hty]
          exact ⟨some (.ref k), if_pos rfl, h1, trivial⟩
        · cases hl
      | _ :: _, h2 => exact h2.elim
    · rename_i v k
      obtain ⟨w1, t1, rfl, h1, h2⟩ := hs.cons
      match t1, h2 with
      | [], h2 =>
        have h3 : w1 = .null := h1.2
        subst h3
        split at hl
        · rename_i hty
          cases hl
          rw [hty]
          exact ⟨some .null, if_pos rfl, h1, trivial⟩
        · cases hl
      | _ :: _, h2 => exact h2.elim
    · cases hl
  · rename_i heq
    rw [heq]
    split at hl
    · match su, hs with
      | [], hs =>
        split at hl
        · rename_i hty
          cases hl
          rw [hty]
          exact ⟨none, rfl, trivial⟩
        · cases hl
      | _ :: _, hs => exact hs.elim
    · cases hl
  · cases hl
