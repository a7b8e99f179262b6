/-! the law's beginning: the two constructors, run by the kernel -/
noncomputable def mIsR : Value → Bool
  | .retAddr _ => true
  | _ => false
noncomputable def qF2 (en : mE) (i : Nat) (L : mL) (st : List Value) (h : mH) : Option mG := match en.2.1 with
  | .getstatic _ => none
  | _ => if st.any mIsR = true then none else mF2 (fun _ => []) en i L st h
noncomputable def qStep (tab : List mM) (call : Nat → List Value → mH → Option mR) (en : mE) (g : mG) : Option mG :=
  (mA1 en g.1 g.2.1 g.2.2.1 g.2.2.2).or ((mB1 en g.1 g.2.1 g.2.2.1 g.2.2.2).or ((mB3 en g.1 g.2.1 g.2.2.1 g.2.2.2).or ((mF1 en g.1 g.2.1 g.2.2.1 g.2.2.2).or ((mG1 tab call en g.1 g.2.1 g.2.2.1 g.2.2.2).or ((qF2 en g.1 g.2.1 g.2.2.1 g.2.2.2).or ((mF3 en g.1 g.2.1 g.2.2.1 g.2.2.2).or ((mA2 en g.1 g.2.1 g.2.2.1 g.2.2.2).or ((mB2 en g.1 g.2.1 g.2.2.1 g.2.2.2).or ((mN1 en g.1 g.2.1 g.2.2.1 g.2.2.2).or (mG2 en g.1 g.2.1 g.2.2.1 g.2.2.2))))))))))
noncomputable def qRun (tab : List mM) (call : Nat → List Value → mH → Option mR) (rt : Option FieldType) (cs : List mE) : Nat → mG → Option mR
  | 0, _ => none
  | n + 1, g => match cs[g.1]? with
    | none => none
    | some en => match mRt rt en g.2.2.1 g.2.2.2 with
      | some r => some r
      | none => match qStep tab call en g with
        | some g1 => qRun tab call rt cs n g1
        | none => none
noncomputable def qEval (tab : List mM) : Nat → Nat → Nat → List Value → mH → Option mR
  | 0, _, _, _, _ => none
  | d + 1, n, k, av, h => match tab[k]? with
    | some t => qRun tab (qEval tab d n) (mMT t) (mMC t) n (0, mEntL (mMX t) av, [], h)
    | none => none
section QM
variable {tab : List mM} {xs : Nat → List Int32} {call call1 : Nat → List Value → mH → Option mR} {en : mE} {i : Nat} {L : mL} {st : List Value} {h : mH} {g g1 : mG} {r : mR} {rt : Option FieldType} {cs : List mE}
theorem mStep_N1 (hs : mN1 en i L st h = some g) : mStep tab xs call en (i, L, st, h) = some g := by
  have hc := nCl_N1 hs
  unfold mStep; dsimp only
  rw [nNo (o := mA1 en i L st h) (fun _ => nCl_A1) (by omega), nNo (o := mB1 en i L st h) (fun _ => nCl_B1) (by omega), nNo (o := mB3 en i L st h) (fun _ => nCl_B3) (by omega), nNo (o := mF1 en i L st h) (fun _ => nCl_F1) (by omega), nNo (o := mG1 tab call en i L st h) (fun _ => nCl_G1) (by omega), nNo (o := mF2 xs en i L st h) (fun _ => nCl_F2) (by omega), nNo (o := mF3 en i L st h) (fun _ => nCl_F3) (by omega), nNo (o := mA2 en i L st h) (fun _ => nCl_A2) (by omega), nNo (o := mB2 en i L st h) (fun _ => nCl_B2) (by omega), hs]; rfl
theorem qF2_le (hs : qF2 en i L st h = some g) : mF2 xs en i L st h = some g := by
  unfold qF2 at hs
  split at hs
  · cases hs
  · rename_i hng
    split at hs
    · cases hs
    · rename_i hnr
      unfold mF2 at hs ⊢
      split at hs
      · rename_i heq
        exact absurd heq (hng _)
      · rename_i heq
        split at hs
        · exact hs
        · exact absurd rfl hnr
        · cases hs
      · rename_i heq
        split at hs
        · exact hs
        · exact absurd (by simp [mIsR]) hnr
        · cases hs
      · rename_i heq
        exact hs
      · rename_i heq
        exact hs
      · cases hs
theorem mG1_le (hc : ∀ k av h r, call k av h = some r → call1 k av h = some r) (hs : mG1 tab call en i L st h = some g) : mG1 tab call1 en i L st h = some g := by
  unfold mG1 at hs ⊢
  split at hs
  · rename_i h1
    rw [if_pos h1]
    split at hs
    · rename_i t ht
      split at hs
      · rename_i h2
        rw [if_pos h2]
        split at hs
        · rename_i r0 hr
          rw [hc _ _ _ _ hr]
          exact hs
        · cases hs
      · cases hs
    · cases hs
  · cases hs
theorem qStep_le (hc : ∀ k av h r, call k av h = some r → call1 k av h = some r) (hs : qStep tab call en g = some g1) : mStep tab xs call1 en g = some g1 ∧ nCl en ≠ 12 := by
  obtain ⟨i, L, st, h⟩ := g
  unfold qStep at hs
  simp only [Option.or_eq_some_iff] at hs
  rcases hs with hg | ⟨-, hg | ⟨-, hg | ⟨-, hg | ⟨-, hg | ⟨-, hg | ⟨-, hg | ⟨-, hg | ⟨-, hg | ⟨-, hg | ⟨-, hg⟩⟩⟩⟩⟩⟩⟩⟩⟩⟩
  · exact ⟨mStep_A1 hg, by have := nCl_A1 hg; omega⟩
  · exact ⟨mStep_B1 hg, by have := nCl_B1 hg; omega⟩
  · exact ⟨mStep_B3 hg, by have := nCl_B3 hg; omega⟩
  · exact ⟨mStep_F1 hg, by have := nCl_F1 hg; omega⟩
  · exact ⟨mStep_G1 (mG1_le hc hg), by have := nCl_G1 hg; omega⟩
  · exact ⟨mStep_F2 (qF2_le hg), by have := nCl_F2 (qF2_le (xs := fun _ => []) hg); omega⟩
  · exact ⟨mStep_F3 hg, by have := nCl_F3 hg; omega⟩
  · exact ⟨mStep_A2 hg, by have := nCl_A2 hg; omega⟩
  · exact ⟨mStep_B2 hg, by have := nCl_B2 hg; omega⟩
  · exact ⟨mStep_N1 hg, by have := nCl_N1 hg; omega⟩
  · exact ⟨mStep_G2 hg, by have := nCl_G2 hg; omega⟩
theorem qRun_le (hc : ∀ k av h r, call k av h = some r → call1 k av h = some r) : ∀ (n m : Nat) (g : mG), n ≤ m → qRun tab call rt cs n g = some r → mRun tab xs call1 rt cs m g = some r := by
  intro n
  induction n with
  | zero => intro m g _ hs; cases hs
  | succ n ih =>
    intro m g hm hs
    match m, hm with
    | m + 1, hm =>
      unfold qRun at hs
      unfold mRun
      split at hs
      · cases hs
      · rename_i en hen
        rw [hen]
        dsimp only
        split at hs
        · rename_i r0 hr
          rw [hr]
          exact hs
        · rename_i hr
          rw [hr]
          dsimp only
          split at hs
          · rename_i g2 hg
            rw [(qStep_le hc hg).1]
            exact ih m g2 (by omega) hs
          · cases hs
theorem qEval_le : ∀ (d D n m k : Nat) (av : List Value) (h : mH) (r : mR), d ≤ D → n ≤ m → qEval tab d n k av h = some r → mEval tab xs D m k av h = some r := by
  intro d
  induction d with
  | zero => intro D n m k av h r _ _ hs; cases hs
  | succ d ih =>
    intro D n m k av h r hd hm hs
    match D, hd with
    | D + 1, hd =>
      unfold qEval at hs
      unfold mEval
      split at hs
      · rename_i t ht
        rw [ht]
        exact qRun_le (fun k av h r q => ih D n m k av h r (by omega) hm q) n m _ hm hs
      · cases hs
noncomputable def qPre : Nat → mG → Option mG
  | 0, g => some g
  | n + 1, g => match mLaw[g.1]? with
    | some en => match qStep mTab (qEval mTab 10 2000) en g with
      | some g2 => qPre n g2
      | none => none
    | none => none
theorem qPre_ok {sc : List Int32} {D : Nat} (hD : 10 ≤ D) : ∀ (n : Nat) (g g1 : mG), qPre n g = some g1 → nRn sc D (some .boolean) mLaw g1 r → nRn sc D (some .boolean) mLaw g r := by
  intro n
  induction n with
  | zero => intro g g1 hs hr; cases hs; exact hr
  | succ n ih =>
    intro g g1 hs hr
    unfold qPre at hs
    split at hs
    · rename_i en hen
      split at hs
      · rename_i g2 hg
        exact lStep hen (qStep_le (xs := fun _ => []) (fun k av h r q => q) hg).2 ⟨2000, fun m hm => (qStep_le (fun k av h r q => qEval_le 10 D 2000 m k av h r hD hm q) hg).1⟩ (ih g2 g1 hs hr)
      · cases hs
    · cases hs
end QM
/-- the heap behind the constructors -/
noncomputable def aIsTB (g : aRg) (w : Value) : Bool := match w with
  | .int z => (g.2.2.1 == 0 && (decide (g.2.2.2.1 ≤ z.toInt) && decide (z.toInt ≤ g.2.2.2.2))) || (decide (3 ≤ g.2.2.1) && aDs.contains z.toInt)
  | .long z => g.2.2.1 == 1 && (decide (g.2.2.2.1 ≤ z.toInt) && decide (z.toInt ≤ g.2.2.2.2))
  | .ref a => g.2.2.1 == 2 && a == g.2.2.2.1.toNat
  | _ => false
noncomputable def aHpB (h : mH) : Bool := h.length == aT.length && (h.zip aT).all (fun p => decide (p.1.1 = p.2.1) && (decide (p.1.2.length = p.2.2.1) && p.2.2.2.all (fun g => ((p.1.2.drop g.1).take (g.2.1 + 1 - g.1)).all (aIsTB g))))
theorem aIsTB_ok {g : aRg} {w : Value} (h : aIsTB g w = true) : aIsT g w := by
  unfold aIsTB at h
  unfold aIsT
  split at h
  · rename_i z
    simp only [Bool.or_eq_true, Bool.and_eq_true, beq_iff_eq, decide_eq_true_eq] at h
    rcases h with ⟨h0, h1, h2⟩ | ⟨h0, h1⟩
    · rw [h0]; exact ⟨z, rfl, h1, h2⟩
    · split
      · omega
      · omega
      · omega
      · exact ⟨z, rfl, by simpa using h1⟩
  · rename_i z
    simp only [Bool.and_eq_true, beq_iff_eq, decide_eq_true_eq] at h
    obtain ⟨h0, h1, h2⟩ := h
    rw [h0]; exact ⟨z, rfl, h1, h2⟩
  · simp only [Bool.and_eq_true, beq_iff_eq] at h
    obtain ⟨h0, h1⟩ := h
    rw [h0, h1]
    rfl
  · cases h
theorem aHpB_ok {h : mH} (hb : aHpB h = true) : aHp h := by
  unfold aHpB at hb
  rw [Bool.and_eq_true, beq_iff_eq] at hb
  refine ⟨hb.1, fun a t q ht hq => ?_⟩
  have hm : (q, t) ∈ h.zip aT := by
    refine List.mem_of_getElem? (i := a) ?_
    rw [List.getElem?_zip_eq_some]
    exact ⟨hq, ht⟩
  have h1 := List.all_eq_true.mp hb.2 _ hm
  simp only [Bool.and_eq_true, decide_eq_true_eq] at h1
  obtain ⟨h2, h3, h4⟩ := h1
  refine ⟨h2, h3, fun g hg j w j1 j2 hw => ?_⟩
  refine aIsTB_ok (List.all_eq_true.mp (List.all_eq_true.mp h4 g hg) w ?_)
  refine List.mem_of_getElem? (i := j - g.1) ?_
  rw [List.getElem?_take, if_pos (by omega), List.getElem?_drop, show g.1 + (j - g.1) = j by omega]
  exact hw
noncomputable def lB0 : Bool := match qPre 10 (0, mEntL 4 [.retAddr 0], [], []) with
  | some g => decide (g.1 = 10) && (decide (g.2.1 = lM 0) && (g.2.2.1.isEmpty && aHpB g.2.2.2))
  | none => false
set_option maxRecDepth 100000 in
theorem lB0_ok : lB0 = true := by decide +kernel
theorem lBegin {sc : List Int32} {D : Nat} (hD : 10 ≤ D) : ∃ h, aHp h ∧ ∀ r, nRn sc D (some .boolean) mLaw (10, lM 0, [], h) r → nRn sc D (some .boolean) mLaw (0, mEntL 4 [.retAddr 0], [], []) r := by
  have h0 := lB0_ok
  unfold lB0 at h0
  split at h0
  · rename_i g hg
    obtain ⟨i, L, st, h⟩ := g
    simp only [Bool.and_eq_true, decide_eq_true_eq, List.isEmpty_iff] at h0
    obtain ⟨e1, e2, e3, e4⟩ := h0
    subst e1 e2 e3
    exact ⟨h, aHpB_ok e4, fun r hr => qPre_ok hD 10 _ _ hg hr⟩
  · cases h0
theorem aHp_sl {h : mH} (hh : aHp h) : h.length ≤ 600000 ∧ mSl h ≤ 7302250 := by
  have h1 : h.map (fun q => q.2.length) = aT.map (fun t => t.2.1) := by
    apply List.ext_getElem?
    intro a
    rw [List.getElem?_map, List.getElem?_map]
    cases ht : aT[a]? with
    | none =>
      have h2 : h[a]? = none := by
        rw [List.getElem?_eq_none_iff] at ht ⊢
        rw [hh.1]; exact ht
      rw [h2]
      rfl
    | some t =>
      obtain ⟨q, e1, e2, e3, e4⟩ := aHp_at hh ht
      rw [e1]
      show some q.2.length = some t.2.1
      rw [e3]
  have h3 : aT.length ≤ 600000 := by decide +kernel
  have h4 : (aT.map (fun t => t.2.1)).sum ≤ 7302250 := by decide +kernel
  unfold mSl
  rw [h1, hh.1]
  exact ⟨h3, h4⟩
