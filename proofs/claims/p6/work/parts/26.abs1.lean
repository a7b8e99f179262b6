/-! one instruction in the analyser: what leaves the heap -/
abbrev aQ : Type := aSt × Nat × List aV × List aV
noncomputable def aFs (n : Nat) (r : Nat → Int) (L : List aV) (M : mL) : Prop := L.length = M.length ∧ ∀ (k : Nat) (v : aV), L[k]? = some v → v.1 < 6 → ∃ w, M[k]? = some (some w) ∧ aVs n r v w
noncomputable def aSk (n : Nat) (r : Nat → Int) : List aV → List Value → Prop
  | [], [] => True
  | v :: s, w :: t => aVs n r v w ∧ aSk n r s t
  | _, _ => False
theorem aFs.le {n n1 : Nat} {r r1 : Nat → Int} {L : List aV} {M : mL} (h : aFs n r L M) (hl : aLe n r n1 r1) : aFs n1 r1 L M := ⟨h.1, fun k v hk hv => by
  obtain ⟨w, h1, h2⟩ := h.2 k v hk hv
  exact ⟨w, h1, hl v w h2⟩⟩
theorem aSk.le {n n1 : Nat} {r r1 : Nat → Int} (hl : aLe n r n1 r1) : ∀ {s : List aV} {t : List Value}, aSk n r s t → aSk n1 r1 s t
  | [], [], _ => trivial
  | v :: s, w :: t, h => ⟨hl v w h.1, aSk.le hl h.2⟩
  | [], _ :: _, h => h.elim
  | _ :: _, [], h => h.elim
theorem aSk.cons {n : Nat} {r : Nat → Int} {v : aV} {s : List aV} {t : List Value} (h : aSk n r (v :: s) t) : ∃ w t1, t = w :: t1 ∧ aVs n r v w ∧ aSk n r s t1 := by
  cases t with
  | nil => exact h.elim
  | cons w t1 => exact ⟨w, t1, rfl, h.1, h.2⟩
noncomputable def aGood (r : Nat → Int) (S : aSt) (m0 : Int) (l : List aQ) (g : mG) : Prop := ∃ p ∈ l, ∃ r1, aOk r1 p.1 m0 g.2.2.2 ∧ aHp g.2.2.2 ∧ aLe S.1.length r p.1.1.length r1 ∧ p.2.1 = g.1 ∧ aFs p.1.1.length r1 p.2.2.1 g.2.1 ∧ aSk p.1.1.length r1 p.2.2.2 g.2.2.1
section AB1
variable {r : Nat → Int} {S : aSt} {m0 : Int} {h : mH} {L : List aV} {M : mL} {st : List aV} {su : List Value} {i : Nat} {en : mE} {l : List aQ}
theorem aGood.same {j : Nat} {L1 : List aV} {M1 : mL} {s1 : List aV} {t1 : List Value} (hS : aOk r S m0 h) (hh : aHp h) (hL : aFs S.1.length r L1 M1) (hs : aSk S.1.length r s1 t1) : aGood r S m0 [(S, j, L1, s1)] (j, M1, t1, h) := ⟨_, List.mem_cons_self, r, hS, hh, aLe.rf, rfl, hL, hs⟩
theorem aGood.int {p : aP} {z : Int32} (hh : aHp h) (hL : aFs S.1.length r L M) (hs : aSk S.1.length r st su) (hp : aRes r S m0 h p z.toInt) : aGood r S m0 [(p.1, i, L, (0, p.2, 0) :: st)] (i, M, .int z :: su, h) := by
  obtain ⟨r1, h1, h2, h3, h4⟩ := hp
  exact ⟨_, List.mem_cons_self, r1, h1, hh, h2, rfl, hL.le h2, ⟨h3, z, rfl, h4⟩, hs.le h2⟩
theorem aGood.long {p : aP} {z : Int64} (hh : aHp h) (hL : aFs S.1.length r L M) (hs : aSk S.1.length r st su) (hp : aRes r S m0 h p z.toInt) : aGood r S m0 [(p.1, i, L, (1, p.2, 0) :: st)] (i, M, .long z :: su, h) := by
  obtain ⟨r1, h1, h2, h3, h4⟩ := hp
  exact ⟨_, List.mem_cons_self, r1, h1, hh, h2, rfl, hL.le h2, ⟨h3, z, rfl, h4⟩, hs.le h2⟩
noncomputable def aLd (g : Nat → Bool) (S : aSt) (L : List aV) (st : List aV) (i k : Nat) : Option (List aQ) := match L[k]? with
  | some v => if g v.1 = true then some [(S, i + 1, L, v :: st)] else none
  | none => none
noncomputable def aG0 (k : Nat) : Bool := k == 0
noncomputable def aG1 (k : Nat) : Bool := k == 1
noncomputable def aG2 (k : Nat) : Bool := k == 2 || (k == 3 || k == 4)
/-- the locals behind a store -/
noncomputable def aKl (L : List aV) (k : Nat) : List aV := match k with
  | 0 => L
  | j + 1 => match L[j]? with
    | some v => if v.1 = 1 then L.set j (6, (0, []), 0) else L
    | none => L
noncomputable def aSto (S : aSt) (L : List aV) (st : List aV) (i k : Nat) : Option (List aQ) := match st with
  | v :: s => if (v.1 = 0 ∨ v.1 = 2 ∨ v.1 = 3 ∨ v.1 = 4) ∧ k < L.length then some [(S, i + 1, (aKl L k).set k v, s)] else none
  | [] => none
noncomputable def aStJ (S : aSt) (L : List aV) (st : List aV) (i k : Nat) : Option (List aQ) := match st with
  | v :: s => if v.1 = 1 ∧ k + 1 < L.length then some [(S, i + 1, ((aKl L k).set k v).set (k + 1) (6, (0, []), 0), s)] else none
  | [] => none
noncomputable def aA1 (en : mE) (S : aSt) (i : Nat) (L st : List aV) : Option (List aQ) := match en.2.1 with
  | .aconst_null => some [(S, i + 1, L, (3, (0, []), 0) :: st)]
  | .iconst n => some [(S, i + 1, L, (0, aK (Int32.ofInt n).toInt, 0) :: st)]
  | .bipush n => some [(S, i + 1, L, (0, aK (Int8.ofInt n).toInt32.toInt, 0) :: st)]
  | .sipush n => some [(S, i + 1, L, (0, aK (Int16.ofInt n).toInt32.toInt, 0) :: st)]
  | .lconst n => some [(S, i + 1, L, (1, aK (Int64.ofNat (n : Nat)).toInt, 0) :: st)]
  | .ldc _ => some [(S, i + 1, L, (0, aK (Int32.ofInt (en.2.2.2.getD 1 0)).toInt, 0) :: st)]
  | .ldc_w _ => some [(S, i + 1, L, (0, aK (Int32.ofInt (en.2.2.2.getD 1 0)).toInt, 0) :: st)]
  | .ldc2_w _ => some [(S, i + 1, L, (1, aK (Int64.ofInt (en.2.2.2.getD 1 0)).toInt, 0) :: st)]
  | .iload k => aLd aG0 S L st i k
  | .iload_n k => aLd aG0 S L st i k
  | .lload k => aLd aG1 S L st i k
  | .lload_n k => aLd aG1 S L st i k
  | .aload k => aLd aG2 S L st i k
  | .aload_n k => aLd aG2 S L st i k
  | .istore k => if (st.headD (6, (0, []), 0)).1 = 0 then aSto S L st i k else none
  | .istore_n k => if (st.headD (6, (0, []), 0)).1 = 0 then aSto S L st i k else none
  | .lstore k => aStJ S L st i k
  | .lstore_n k => aStJ S L st i k
  | .astore k => if aG2 (st.headD (6, (0, []), 0)).1 = true then aSto S L st i k else none
  | .astore_n k => if aG2 (st.headD (6, (0, []), 0)).1 = true then aSto S L st i k else none
  | _ => none
theorem aLd_ok {g : Nat → Bool} {q : Value → Bool} {k : Nat} (hg : ∀ n r v w, g v.1 = true → aVs n r v w → v.1 < 6 ∧ q w = true) (hS : aOk r S m0 h) (hh : aHp h) (hL : aFs S.1.length r L M) (hs : aSk S.1.length r st su) (hl : aLd g S L st i k = some l) : ∃ g1, mLd q M k i su h = some g1 ∧ aGood r S m0 l g1 := by
  unfold aLd at hl
  split at hl
  · rename_i v hv
    split at hl
    · rename_i hc
      cases hl
      have h6 : v.1 < 6 := by
        by_cases e : v.1 < 6
        · exact e
        · exfalso
          have h7 := (hg S.1.length r (v.1, aK 0, v.2.2) .null hc ⟨aK_wf _ _, by
            match hv1 : v.1, e with
            | n + 6, _ => exact trivial⟩).1
          exact e h7
      obtain ⟨w, h1, h2⟩ := hL.2 k v hv h6
      have h3 := (hg _ _ v w hc h2).2
      unfold mLd
      rw [h1]
      dsimp only
      rw [if_pos h3]
      exact ⟨_, rfl, aGood.same hS hh hL ⟨h2, hs⟩⟩
    · cases hl
  · cases hl
theorem aG0_ok : ∀ n r v w, aG0 v.1 = true → aVs n r v w → v.1 < 6 ∧ mIsI w = true := by
  intro n r v w hg hv
  have h0 : v.1 = 0 := by simpa [aG0] using hg
  obtain ⟨-, hv⟩ := hv
  rw [h0] at hv
  obtain ⟨z, rfl, -⟩ := hv
  exact ⟨by omega, rfl⟩
theorem aG1_ok : ∀ n r v w, aG1 v.1 = true → aVs n r v w → v.1 < 6 ∧ mIsJ w = true := by
  intro n r v w hg hv
  have h0 : v.1 = 1 := by simpa [aG1] using hg
  obtain ⟨-, hv⟩ := hv
  rw [h0] at hv
  obtain ⟨z, rfl, -⟩ := hv
  exact ⟨by omega, rfl⟩
theorem aG2_ok : ∀ n r v w, aG2 v.1 = true → aVs n r v w → v.1 < 6 ∧ mIsA w = true := by
  intro n r v w hg hv
  have h0 : v.1 = 2 ∨ v.1 = 3 ∨ v.1 = 4 := by simpa [aG2] using hg
  obtain ⟨-, hv⟩ := hv
  rcases h0 with h0 | h0 | h0
  · rw [h0] at hv
    rw [hv]
    exact ⟨by omega, rfl⟩
  · rw [h0] at hv
    rw [hv]
    exact ⟨by omega, rfl⟩
  · rw [h0] at hv
    rw [hv]
    exact ⟨by omega, rfl⟩
theorem aKl_len (L : List aV) (k : Nat) : (aKl L k).length = L.length := by
  unfold aKl
  cases k with
  | zero => rfl
  | succ j =>
    dsimp only
    split
    · split <;> simp
    · rfl
theorem mKill_keep {M : mL} {k j : Nat} {w : Value} (h : M[j]? = some (some w)) (hc : ¬ (j + 1 = k ∧ w.category = 2)) : (mKill M k)[j]? = some (some w) := by
  unfold mKill
  cases k with
  | zero => exact h
  | succ i =>
    dsimp only
    split
    · rename_i u hu
      split
      · rename_i hcat
        by_cases e : j = i
        · subst e
          rw [h] at hu
          cases hu
          exact absurd ⟨rfl, hcat⟩ hc
        · rw [List.getElem?_set_ne (Ne.symm e)]; exact h
      · exact h
    · exact h
theorem aVs_cat {n : Nat} {v : aV} {w : Value} (hv : aVs n r v w) (h6 : v.1 < 6) (h1 : v.1 ≠ 1) : w.category = 1 := by
  obtain ⟨-, hv⟩ := hv
  match hk : v.1, h6, h1 with
  | 0, _, _ => rw [hk] at hv; obtain ⟨z, rfl, -⟩ := hv; rfl
  | 2, _, _ => rw [hk] at hv; rw [hv]; rfl
  | 3, _, _ => rw [hk] at hv; rw [hv]; rfl
  | 4, _, _ => rw [hk] at hv; rw [hv]; rfl
  | 5, _, _ => rw [hk] at hv; obtain ⟨z, rfl, -⟩ := hv; rfl
theorem aKl_fs {n k : Nat} (hL : aFs n r L M) : aFs n r (aKl L k) (mKill M k) := by
  refine ⟨by rw [aKl_len, mKill_len]; exact hL.1, fun j v hj hv => ?_⟩
  have key : L[j]? = some v ∧ (j + 1 = k → v.1 ≠ 1) := by
    unfold aKl at hj
    cases k with
    | zero => exact ⟨hj, by omega⟩
    | succ i =>
      dsimp only at hj
      split at hj
      · rename_i u hu
        split at hj
        · rename_i h1
          by_cases e : j = i
          · subst e
            rw [List.getElem?_set_self (List.getElem?_eq_some_iff.mp hu).1] at hj
            cases hj
            exact absurd hv (by decide)
          · rw [List.getElem?_set_ne (Ne.symm e)] at hj
            exact ⟨hj, by omega⟩
        · rename_i h1
          refine ⟨hj, fun e => ?_⟩
          have e2 : j = i := by omega
          subst e2
          rw [hj] at hu
          cases hu
          exact h1
      · rename_i hu
        refine ⟨hj, fun e => ?_⟩
        have e2 : j = i := by omega
        subst e2
        rw [hj] at hu
        cases hu
  obtain ⟨w, h1, h2⟩ := hL.2 j v key.1 hv
  refine ⟨w, mKill_keep h1 ?_, h2⟩
  rintro ⟨e1, e2⟩
  have := aVs_cat h2 hv (key.2 e1)
  omega
theorem aSet_fs {n k : Nat} {v : aV} {w : Value} (hL : aFs n r L M) (hv : aVs n r v w) : aFs n r (L.set k v) (M.set k (some w)) := by
  refine ⟨by simp [hL.1], fun j u hj hu => ?_⟩
  by_cases e : j = k
  · subst e
    rw [List.getElem?_set] at hj
    simp only [if_true] at hj
    split at hj
    · rename_i hlt
      cases hj
      exact ⟨w, by rw [List.getElem?_set_self (by rw [← hL.1]; exact hlt)], hv⟩
    · cases hj
  · rw [List.getElem?_set_ne (Ne.symm e)] at hj ⊢
    exact hL.2 j u hj hu
theorem aUn_fs {n k : Nat} {o : Option Value} (hL : aFs n r L M) : aFs n r (L.set k (6, (0, []), 0)) (M.set k o) := by
  refine ⟨by simp [hL.1], fun j u hj hu => ?_⟩
  by_cases e : j = k
  · subst e
    rw [List.getElem?_set] at hj
    simp only [if_true] at hj
    split at hj
    · cases hj; exact absurd hu (by decide)
    · cases hj
  · rw [List.getElem?_set_ne (Ne.symm e)] at hj ⊢
    exact hL.2 j u hj hu
theorem aSto_ok {q : Value → Bool} {k : Nat} (hq : ∀ v w s, st = v :: s → aVs S.1.length r v w → q w = true) (hS : aOk r S m0 h) (hh : aHp h) (hL : aFs S.1.length r L M) (hs : aSk S.1.length r st su) (hl : aSto S L st i k = some l) : ∃ g1, mSt q M k i su h = some g1 ∧ aGood r S m0 l g1 := by
  unfold aSto at hl
  split at hl
  · rename_i v s
    split at hl
    · rename_i hc
      cases hl
      obtain ⟨w, t, rfl, h1, h2⟩ := hs.cons
      unfold mSt
      dsimp only
      rw [if_pos ⟨hq v w s rfl h1, by rw [← hL.1]; exact hc.2⟩]
      exact ⟨_, rfl, aGood.same hS hh (aSet_fs (aKl_fs hL) h1) h2⟩
    · cases hl
  · cases hl
theorem aStJ_ok {k : Nat} (hS : aOk r S m0 h) (hh : aHp h) (hL : aFs S.1.length r L M) (hs : aSk S.1.length r st su) (hl : aStJ S L st i k = some l) : ∃ g1, mStJ M k i su h = some g1 ∧ aGood r S m0 l g1 := by
  unfold aStJ at hl
  split at hl
  · rename_i v s
    split at hl
    · rename_i hc
      cases hl
      obtain ⟨w, t, rfl, h1, h2⟩ := hs.cons
      unfold mStJ
      dsimp only
      rw [if_pos ⟨(aG1_ok _ _ v w (by simp [aG1, hc.1]) h1).2, by rw [← hL.1]; exact hc.2⟩]
      exact ⟨_, rfl, aGood.same hS hh (aUn_fs (aSet_fs (aKl_fs hL) h1)) h2⟩
    · cases hl
  · cases hl
set_option maxHeartbeats 2000000 in
theorem aA1_ok (hS : aOk r S m0 h) (hh : aHp h) (hL : aFs S.1.length r L M) (hs : aSk S.1.length r st su) (hl : aA1 en S i L st = some l) : ∃ g1, mA1 en i M su h = some g1 ∧ aGood r S m0 l g1 := by
  unfold aA1 at hl
  unfold mA1
  split at hl
  · rename_i heq
    cases hl
    rw [heq]
    exact ⟨_, rfl, aGood.same hS hh hL ⟨⟨aK_wf _ 0, rfl⟩, hs⟩⟩
  · rename_i n heq
    cases hl
    rw [heq]
    exact ⟨_, rfl, aGood.same hS hh hL ⟨⟨aK_wf _ _, _, rfl, by rw [aK_ev]⟩, hs⟩⟩
  · rename_i n heq
    cases hl
    rw [heq]
    exact ⟨_, rfl, aGood.same hS hh hL ⟨⟨aK_wf _ _, _, rfl, by rw [aK_ev]⟩, hs⟩⟩
  · rename_i n heq
    cases hl
    rw [heq]
    exact ⟨_, rfl, aGood.same hS hh hL ⟨⟨aK_wf _ _, _, rfl, by rw [aK_ev]⟩, hs⟩⟩
  · rename_i n heq
    cases hl
    rw [heq]
    exact ⟨_, rfl, aGood.same hS hh hL ⟨⟨aK_wf _ _, _, rfl, by rw [aK_ev]⟩, hs⟩⟩
  · rename_i n heq
    cases hl
    rw [heq]
    exact ⟨_, rfl, aGood.same hS hh hL ⟨⟨aK_wf _ _, _, rfl, by rw [aK_ev]⟩, hs⟩⟩
  · rename_i n heq
    cases hl
    rw [heq]
    exact ⟨_, rfl, aGood.same hS hh hL ⟨⟨aK_wf _ _, _, rfl, by rw [aK_ev]⟩, hs⟩⟩
  · rename_i n heq
    cases hl
    rw [heq]
    exact ⟨_, rfl, aGood.same hS hh hL ⟨⟨aK_wf _ _, _, rfl, by rw [aK_ev]⟩, hs⟩⟩
  · rename_i k heq
    rw [heq]
    exact aLd_ok aG0_ok hS hh hL hs hl
  · rename_i k heq
    rw [heq]
    exact aLd_ok aG0_ok hS hh hL hs hl
  · rename_i k heq
    rw [heq]
    exact aLd_ok aG1_ok hS hh hL hs hl
  · rename_i k heq
    rw [heq]
    exact aLd_ok aG1_ok hS hh hL hs hl
  · rename_i k heq
    rw [heq]
    exact aLd_ok aG2_ok hS hh hL hs hl
  · rename_i k heq
    rw [heq]
    exact aLd_ok aG2_ok hS hh hL hs hl
  · rename_i k heq
    rw [heq]
    split at hl
    · rename_i hc
      refine aSto_ok (fun v w s e hv => ?_) hS hh hL hs hl
      subst e
      exact (aG0_ok _ _ v w (by simpa [aG0] using hc) hv).2
    · cases hl
  · rename_i k heq
    rw [heq]
    split at hl
    · rename_i hc
      refine aSto_ok (fun v w s e hv => ?_) hS hh hL hs hl
      subst e
      exact (aG0_ok _ _ v w (by simpa [aG0] using hc) hv).2
    · cases hl
  · rename_i k heq
    rw [heq]
    exact aStJ_ok hS hh hL hs hl
  · rename_i k heq
    rw [heq]
    exact aStJ_ok hS hh hL hs hl
  · rename_i k heq
    rw [heq]
    split at hl
    · rename_i hc
      refine aSto_ok (fun v w s e hv => ?_) hS hh hL hs hl
      subst e
      exact (aG2_ok _ _ v w (by simpa [aG2] using hc) hv).2
    · cases hl
  · rename_i k heq
    rw [heq]
    split at hl
    · rename_i hc
      refine aSto_ok (fun v w s e hv => ?_) hS hh hL hs hl
      subst e
      exact (aG2_ok _ _ v w (by simpa [aG2] using hc) hv).2
    · cases hl
  · cases hl
end AB1
