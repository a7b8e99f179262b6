/-! runs of the small machine, with enough fuel; and runs with callers waiting -/
noncomputable def nEv (sc : List Int32) (d k : Nat) (av : List Value) (h : mH) (r : mR) : Prop := ∃ n0, ∀ n, n0 ≤ n → mEval mTab (mXs sc) d n k av h = some r
noncomputable def nRn (sc : List Int32) (d : Nat) (rt : Option FieldType) (cs : List mE) (g : mG) (r : mR) : Prop := ∃ n0, ∀ n, n0 ≤ n → ∀ m, n0 ≤ m → mRun mTab (mXs sc) (mEval mTab (mXs sc) d n) rt cs m g = some r
section NR
variable {sc : List Int32} {d k : Nat} {av : List Value} {h : mH} {r : mR} {rt : Option FieldType} {cs : List mE} {g g1 : mG} {en : mE} {t : mM}
theorem nEv_of (ht : mTab[k]? = some t) (hr : nRn sc d (mMT t) (mMC t) (0, mEntL (mMX t) av, [], h) r) : nEv sc (d + 1) k av h r := by
  obtain ⟨n0, h0⟩ := hr
  refine ⟨n0, fun n hn => ?_⟩
  unfold mEval
  rw [ht]
  exact h0 n hn n hn
theorem nRn_ret (he : cs[g.1]? = some en) (hr : mRt rt en g.2.2.1 g.2.2.2 = some r) : nRn sc d rt cs g r := by
  refine ⟨1, fun n _ m hm => ?_⟩
  match m, hm with
  | m + 1, _ =>
    unfold mRun
    rw [he]
    dsimp only
    rw [hr]
theorem nRn_step (he : cs[g.1]? = some en) (hn : mRt rt en g.2.2.1 g.2.2.2 = none) (hs : ∃ n0, ∀ n, n0 ≤ n → mStep mTab (mXs sc) (mEval mTab (mXs sc) d n) en g = some g1) (hr : nRn sc d rt cs g1 r) : nRn sc d rt cs g r := by
  obtain ⟨a, ha⟩ := hs
  obtain ⟨b, hb⟩ := hr
  refine ⟨a + b + 1, fun n q m hm => ?_⟩
  match m, hm with
  | m + 1, hm =>
    unfold mRun
    rw [he]
    dsimp only
    rw [hn, ha n (by omega)]
    exact hb n (by omega) m (by omega)
end NR
abbrev nF : Type := Nat × Nat × mL × List Value
noncomputable def nR1 (sc : List Int32) (d : Nat) (f : nF) (h : mH) (r : mR) : Prop := ∃ t, mTab[f.1]? = some t ∧ nRn sc d (mMT t) (mMC t) (f.2.1, f.2.2.1, f.2.2.2, h) r
noncomputable def nPs (v : Option Value) (f : nF) : nF := (f.1, f.2.1, f.2.2.1, v.toList ++ f.2.2.2)
noncomputable def nRs (sc : List Int32) : List nF → Nat → nF → mH → mR → Prop
  | [], d, f, h, r => nR1 sc d f h r
  | f2 :: fs, d, f, h, r => ∃ r0, nR1 sc d f h r0 ∧ nRs sc fs (d + 1) (nPs r0.1 f2) r0.2 r
theorem nRs_map {sc : List Int32} {d : Nat} {f f1 : nF} {h h1 : mH} {r : mR} (hm : ∀ q, nR1 sc d f1 h1 q → nR1 sc d f h q) : ∀ {fs : List nF}, nRs sc fs d f1 h1 r → nRs sc fs d f h r
  | [], hr => hm _ hr
  | f2 :: fs, hr => by
    obtain ⟨r0, h1, h2⟩ := hr
    exact ⟨r0, hm _ h1, h2⟩
/-- the sort of an instruction: which function of the small machine does it -/
noncomputable def nCl (en : mE) : Nat := match en.2.1 with
  | .ireturn => 12
  | .lreturn => 12
  | .areturn => 12
  | .return_ => 12
  | .aconst_null => 1
  | .iconst _ => 1
  | .bipush _ => 1
  | .sipush _ => 1
  | .lconst _ => 1
  | .ldc _ => 1
  | .ldc_w _ => 1
  | .ldc2_w _ => 1
  | .iload _ => 1
  | .iload_n _ => 1
  | .lload _ => 1
  | .lload_n _ => 1
  | .aload _ => 1
  | .aload_n _ => 1
  | .istore _ => 1
  | .istore_n _ => 1
  | .lstore _ => 1
  | .lstore_n _ => 1
  | .astore _ => 1
  | .astore_n _ => 1
  | .iinc _ _ => 8
  | .dup => 8
  | .dup2 => 8
  | .pop => 8
  | .pop2 => 8
  | .iadd => 2
  | .isub => 2
  | .imul => 2
  | .iand => 2
  | .ior => 2
  | .ixor => 2
  | .ishl => 2
  | .ishr => 2
  | .iushr => 2
  | .idiv => 2
  | .irem => 2
  | .ineg => 2
  | .ladd => 9
  | .lsub => 9
  | .lmul => 9
  | .land => 9
  | .lor => 9
  | .lxor => 9
  | .ldiv => 9
  | .lrem => 9
  | .lshl => 9
  | .lushr => 9
  | .lcmp => 9
  | .i2l => 9
  | .l2i => 9
  | .i2b => 9
  | .goto _ => 3
  | .if_icmp _ _ => 3
  | .ifCond _ _ => 3
  | .ifnull _ => 3
  | .ifnonnull _ => 3
  | .tableswitch _ _ _ _ => 3
  | .lookupswitch _ _ => 3
  | .getfield _ => 4
  | .putfield _ => 4
  | .getstatic _ => 6
  | .arraylength => 6
  | .iaload => 6
  | .baload => 6
  | .aaload => 6
  | .iastore => 7
  | .bastore => 7
  | .aastore => 7
  | .new _ => 10
  | .newarray _ => 10
  | .anewarray _ => 10
  | .invokevirtual _ => if mTgt en 2 = 0 then 5 else 13
  | .invokestatic _ => if mTgt en 2 = 0 then 5 else 11
  | .invokespecial _ => if mTgt en 2 = 0 then 5 else 11
  | _ => 13
section NCL
variable {en : mE} {i : Nat} {L : mL} {st : List Value} {h : mH} {g : mG} {r : mR} {rt : Option FieldType} {tab : List mM} {xs : Nat → List Int32} {call : Nat → List Value → mH → Option mR}
theorem nCl_rt (hs : mRt rt en st h = some r) : nCl en = 12 := by
  unfold mRt at hs
  unfold nCl
  split at hs <;> first | (rename_i heq; rw [heq]) | cases hs
theorem nCl_A1 (hs : mA1 en i L st h = some g) : nCl en = 1 := by
  unfold mA1 at hs
  unfold nCl
  split at hs <;> first | (rename_i heq; rw [heq]) | cases hs
theorem nCl_A2 (hs : mA2 en i L st h = some g) : nCl en = 8 := by
  unfold mA2 at hs
  unfold nCl
  split at hs <;> first | (rename_i heq; rw [heq]) | cases hs
theorem nCl_B1 (hs : mB1 en i L st h = some g) : nCl en = 2 := by
  unfold mB1 at hs
  unfold nCl
  split at hs <;> first | (rename_i heq; rw [heq]) | cases hs
theorem nCl_B2 (hs : mB2 en i L st h = some g) : nCl en = 9 := by
  unfold mB2 at hs
  unfold nCl
  split at hs <;> first | (rename_i heq; rw [heq]) | cases hs
theorem nCl_B3 (hs : mB3 en i L st h = some g) : nCl en = 3 := by
  unfold mB3 at hs
  unfold nCl
  split at hs <;> first | (rename_i heq; rw [heq]) | cases hs
theorem nCl_F1 (hs : mF1 en i L st h = some g) : nCl en = 4 := by
  unfold mF1 at hs
  unfold nCl
  split at hs <;> first | (rename_i heq; rw [heq]) | cases hs
theorem nCl_F2 (hs : mF2 xs en i L st h = some g) : nCl en = 6 := by
  unfold mF2 at hs
  unfold nCl
  split at hs <;> first | (rename_i heq; rw [heq]) | cases hs
theorem nCl_F3 (hs : mF3 en i L st h = some g) : nCl en = 7 := by
  unfold mF3 at hs
  unfold nCl
  split at hs <;> first | (rename_i heq; rw [heq]) | cases hs
theorem nCl_N1 (hs : mN1 en i L st h = some g) : nCl en = 10 := by
  unfold mN1 at hs
  unfold nCl
  split at hs <;> first | (rename_i heq; rw [heq]) | cases hs
theorem nCl_G1 (hs : mG1 tab call en i L st h = some g) : nCl en = 5 := by
  unfold mG1 at hs
  split at hs
  · rename_i hc
    obtain ⟨h1, h2⟩ := hc
    unfold mInv at h1
    unfold nCl
    split at h1 <;> first | (rename_i heq; rw [heq]; dsimp only; rw [if_pos h2]) | cases h1
  · cases hs
theorem nCl_G2 (hs : mG2 en i L st h = some g) : nCl en = 11 := by
  unfold mG2 at hs
  unfold nCl
  split at hs
  · rename_i heq
    rw [heq]
    dsimp only
    split at hs
    · split at hs
      · rename_i hc; rw [if_neg (by omega)]
      · cases hs
    · cases hs
  · rename_i heq
    rw [heq]
    dsimp only
    split at hs
    · split at hs
      · split at hs
        · split at hs
          · rename_i hc; rw [if_neg (by omega)]
          · cases hs
        · cases hs
      · cases hs
    · cases hs
  · cases hs
theorem nNo {α : Type} {o : Option α} {k : Nat} {en : mE} (ho : ∀ x, o = some x → nCl en = k) (hk : nCl en ≠ k) : o = none := by
  cases o with
  | none => rfl
  | some x => exact absurd (ho x rfl) hk
theorem nRt_no (hk : nCl en ≠ 12) : mRt rt en st h = none := nNo (fun _ => nCl_rt) hk
theorem mStep_A1 (hs : mA1 en i L st h = some g) : mStep tab xs call en (i, L, st, h) = some g := by
  unfold mStep; dsimp only; rw [hs]; rfl
theorem mStep_B1 (hs : mB1 en i L st h = some g) : mStep tab xs call en (i, L, st, h) = some g := by
  have hc := nCl_B1 hs
  unfold mStep; dsimp only
  rw [nNo (o := mA1 en i L st h) (fun _ => nCl_A1) (by omega), hs]; rfl
theorem mStep_B3 (hs : mB3 en i L st h = some g) : mStep tab xs call en (i, L, st, h) = some g := by
  have hc := nCl_B3 hs
  unfold mStep; dsimp only
  rw [nNo (o := mA1 en i L st h) (fun _ => nCl_A1) (by omega), nNo (o := mB1 en i L st h) (fun _ => nCl_B1) (by omega), hs]; rfl
theorem mStep_F1 (hs : mF1 en i L st h = some g) : mStep tab xs call en (i, L, st, h) = some g := by
  have hc := nCl_F1 hs
  unfold mStep; dsimp only
  rw [nNo (o := mA1 en i L st h) (fun _ => nCl_A1) (by omega), nNo (o := mB1 en i L st h) (fun _ => nCl_B1) (by omega), nNo (o := mB3 en i L st h) (fun _ => nCl_B3) (by omega), hs]; rfl
theorem mStep_G1 (hs : mG1 tab call en i L st h = some g) : mStep tab xs call en (i, L, st, h) = some g := by
  have hc := nCl_G1 hs
  unfold mStep; dsimp only
  rw [nNo (o := mA1 en i L st h) (fun _ => nCl_A1) (by omega), nNo (o := mB1 en i L st h) (fun _ => nCl_B1) (by omega), nNo (o := mB3 en i L st h) (fun _ => nCl_B3) (by omega), nNo (o := mF1 en i L st h) (fun _ => nCl_F1) (by omega), hs]; rfl
theorem mStep_F2 (hs : mF2 xs en i L st h = some g) : mStep tab xs call en (i, L, st, h) = some g := by
  have hc := nCl_F2 hs
  unfold mStep; dsimp only
  rw [nNo (o := mA1 en i L st h) (fun _ => nCl_A1) (by omega), nNo (o := mB1 en i L st h) (fun _ => nCl_B1) (by omega), nNo (o := mB3 en i L st h) (fun _ => nCl_B3) (by omega), nNo (o := mF1 en i L st h) (fun _ => nCl_F1) (by omega), nNo (o := mG1 tab call en i L st h) (fun _ => nCl_G1) (by omega), hs]; rfl
theorem mStep_F3 (hs : mF3 en i L st h = some g) : mStep tab xs call en (i, L, st, h) = some g := by
  have hc := nCl_F3 hs
  unfold mStep; dsimp only
  rw [nNo (o := mA1 en i L st h) (fun _ => nCl_A1) (by omega), nNo (o := mB1 en i L st h) (fun _ => nCl_B1) (by omega), nNo (o := mB3 en i L st h) (fun _ => nCl_B3) (by omega), nNo (o := mF1 en i L st h) (fun _ => nCl_F1) (by omega), nNo (o := mG1 tab call en i L st h) (fun _ => nCl_G1) (by omega), nNo (o := mF2 xs en i L st h) (fun _ => nCl_F2) (by omega), hs]; rfl
theorem mStep_A2 (hs : mA2 en i L st h = some g) : mStep tab xs call en (i, L, st, h) = some g := by
  have hc := nCl_A2 hs
  unfold mStep; dsimp only
  rw [nNo (o := mA1 en i L st h) (fun _ => nCl_A1) (by omega), nNo (o := mB1 en i L st h) (fun _ => nCl_B1) (by omega), nNo (o := mB3 en i L st h) (fun _ => nCl_B3) (by omega), nNo (o := mF1 en i L st h) (fun _ => nCl_F1) (by omega), nNo (o := mG1 tab call en i L st h) (fun _ => nCl_G1) (by omega), nNo (o := mF2 xs en i L st h) (fun _ => nCl_F2) (by omega), nNo (o := mF3 en i L st h) (fun _ => nCl_F3) (by omega), hs]; rfl
theorem mStep_B2 (hs : mB2 en i L st h = some g) : mStep tab xs call en (i, L, st, h) = some g := by
  have hc := nCl_B2 hs
  unfold mStep; dsimp only
  rw [nNo (o := mA1 en i L st h) (fun _ => nCl_A1) (by omega), nNo (o := mB1 en i L st h) (fun _ => nCl_B1) (by omega), nNo (o := mB3 en i L st h) (fun _ => nCl_B3) (by omega), nNo (o := mF1 en i L st h) (fun _ => nCl_F1) (by omega), nNo (o := mG1 tab call en i L st h) (fun _ => nCl_G1) (by omega), nNo (o := mF2 xs en i L st h) (fun _ => nCl_F2) (by omega), nNo (o := mF3 en i L st h) (fun _ => nCl_F3) (by omega), nNo (o := mA2 en i L st h) (fun _ => nCl_A2) (by omega), hs]; rfl
theorem mStep_G2 (hs : mG2 en i L st h = some g) : mStep tab xs call en (i, L, st, h) = some g := by
  have hc := nCl_G2 hs
  unfold mStep; dsimp only
  rw [nNo (o := mA1 en i L st h) (fun _ => nCl_A1) (by omega), nNo (o := mB1 en i L st h) (fun _ => nCl_B1) (by omega), nNo (o := mB3 en i L st h) (fun _ => nCl_B3) (by omega), nNo (o := mF1 en i L st h) (fun _ => nCl_F1) (by omega), nNo (o := mG1 tab call en i L st h) (fun _ => nCl_G1) (by omega), nNo (o := mF2 xs en i L st h) (fun _ => nCl_F2) (by omega), nNo (o := mF3 en i L st h) (fun _ => nCl_F3) (by omega), nNo (o := mA2 en i L st h) (fun _ => nCl_A2) (by omega), nNo (o := mB2 en i L st h) (fun _ => nCl_B2) (by omega), nNo (o := mN1 en i L st h) (fun _ => nCl_N1) (by omega), hs]; rfl
end NCL
section NR1
variable {sc : List Int32} {d : Nat} {f f1 : nF} {h h1 : mH} {r : mR} {en : mE} {t : mM} {fs : List nF}
/-- a step of the innermost frame -/
theorem nRs_step (ht : mTab[f.1]? = some t) (he : (mMC t)[f.2.1]? = some en) (hk : nCl en ≠ 12) (hs : ∃ n0, ∀ n, n0 ≤ n → mStep mTab (mXs sc) (mEval mTab (mXs sc) d n) en (f.2.1, f.2.2.1, f.2.2.2, h) = some (f1.2.1, f1.2.2.1, f1.2.2.2, h1)) (hf : f1.1 = f.1) (hr : nRs sc fs d f1 h1 r) : nRs sc fs d f h r := by
  refine nRs_map (fun q hq => ?_) hr
  obtain ⟨t1, e1, e2⟩ := hq
  rw [hf, ht] at e1
  cases e1
  exact ⟨t, ht, nRn_step (by exact he) (nRt_no hk) hs e2⟩
/-- a call of a method that is known to come back -/
theorem nRs_call {k : Nat} {r0 : mR} {t2 : mM} (ht : mTab[f.1]? = some t) (he : (mMC t)[f.2.1]? = some en) (hk : nCl en = 5) (hT : mTgt en 1 = k) (ht2 : mTab[k]? = some t2) (h1 : mCnt t2 ≤ f.2.2.2.length) (h2 : ((f.2.2.2.drop (mCnt t2)).map (fun v => v.category)).sum ≤ 8) (h3 : mRcv t2 ((f.2.2.2.take (mCnt t2)).reverse) h = true) (h4 : (mEnt ((f.2.2.2.take (mCnt t2)).reverse)).length ≤ mMX t2)
    (hev : nEv sc d k ((f.2.2.2.take (mCnt t2)).reverse) h r0) (hr : nRs sc fs d (nPs r0.1 (f.1, f.2.1 + 1, f.2.2.1, f.2.2.2.drop (mCnt t2))) r0.2 r) : nRs sc fs d f h r := by
  refine nRs_step (f1 := nPs r0.1 (f.1, f.2.1 + 1, f.2.2.1, f.2.2.2.drop (mCnt t2))) ht he (by omega) ?_ rfl hr
  obtain ⟨n0, h0⟩ := hev
  refine ⟨n0, fun n hn => mStep_G1 ?_⟩
  have hg : mInv en.2.1 = true ∧ mTgt en 2 = 0 := by
    unfold nCl at hk
    split at hk <;> first | (rename_i heq; rw [heq]; exact ⟨rfl, by split at hk <;> first | assumption | omega⟩) | omega
  unfold mG1
  rw [if_pos hg, hT, ht2]
  dsimp only
  rw [if_pos ⟨h1, h2, h3, h4⟩, h0 n hn]
  rfl
/-- a call that is followed into the callee -/
theorem nRs_into {k : Nat} {t2 : mM} (ht : mTab[f.1]? = some t) (he : (mMC t)[f.2.1]? = some en) (hk : nCl en = 5) (hT : mTgt en 1 = k) (ht2 : mTab[k]? = some t2) (h1 : mCnt t2 ≤ f.2.2.2.length) (h2 : ((f.2.2.2.drop (mCnt t2)).map (fun v => v.category)).sum ≤ 8) (h3 : mRcv t2 ((f.2.2.2.take (mCnt t2)).reverse) h = true) (h4 : (mEnt ((f.2.2.2.take (mCnt t2)).reverse)).length ≤ mMX t2)
    (hr : nRs sc ((f.1, f.2.1 + 1, f.2.2.1, f.2.2.2.drop (mCnt t2)) :: fs) d (k, 0, mEntL (mMX t2) ((f.2.2.2.take (mCnt t2)).reverse), []) h r) : nRs sc fs (d + 1) f h r := by
  obtain ⟨r0, ⟨t3, e1, e2⟩, e3⟩ := hr
  have e1 : mTab[k]? = some t3 := e1
  rw [ht2] at e1
  cases e1
  exact nRs_call ht he hk hT ht2 h1 h2 h3 h4 (nEv_of ht2 e2) e3
/-- a return -/
theorem nRs_ret {r0 : mR} {f2 : nF} (ht : mTab[f.1]? = some t) (he : (mMC t)[f.2.1]? = some en) (hk : mRt (mMT t) en f.2.2.2 h = some r0) (hr : nRs sc fs (d + 1) (nPs r0.1 f2) r0.2 r) : nRs sc (f2 :: fs) d f h r := ⟨r0, ⟨t, ht, nRn_ret (by exact he) hk⟩, hr⟩
theorem nRs_end {r0 : mR} (ht : mTab[f.1]? = some t) (he : (mMC t)[f.2.1]? = some en) (hk : mRt (mMT t) en f.2.2.2 h = some r0) : nRs sc [] d f h r0 := ⟨t, ht, nRn_ret (by exact he) hk⟩
end NR1
