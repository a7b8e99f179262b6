/-! steps of the small machine, one by one, with ints as numbers -/
noncomputable def sStp (en : mE) (g : mG) : Option mG := match en.2.1 with
  | .goto _ => some (mTgt en 0, g.2)
  | .dup => mA2 en g.1 g.2.1 g.2.2.1 g.2.2.2
  | .dup2 => mA2 en g.1 g.2.1 g.2.2.1 g.2.2.2
  | .pop => mA2 en g.1 g.2.1 g.2.2.1 g.2.2.2
  | .pop2 => mA2 en g.1 g.2.1 g.2.2.1 g.2.2.2
  | _ => mA1 en g.1 g.2.1 g.2.2.1 g.2.2.2
noncomputable def sN (cs : List mE) : Nat → mG → Option mG
  | 0, g => some g
  | n + 1, g => match cs[g.1]? with
    | some en => match sStp en g with
      | some g1 => sN cs n g1
      | none => none
    | none => none
abbrev sI (a : Int) : Value := .int (Int32.ofInt a)
noncomputable def mCi (q : ClassFile.Cond) (a b : Int) : Prop := match q with
  | .eq => a = b
  | .ne => a ≠ b
  | .lt => a < b
  | .ge => b ≤ a
  | .gt => b < a
  | .le => a ≤ b
/-- a number that an int holds -/
noncomputable def sR (a : Int) : Prop := aMi ≤ a ∧ a ≤ aMa
theorem sR_i {a : Int} (h : sR a) : (Int32.ofInt a).toInt = a := by
  unfold sR aMi aMa at h
  exact Int32.toInt_ofInt_of_le (by omega) (by omega)
theorem sR_n {a : Int} (h : sR a) : (Int32.ofInt a).toNatClampNeg = a.toNat := by
  unfold sR aMi aMa at h
  exact Int32.toNatClampNeg_ofInt_of_le (by omega) (by omega)
theorem sR_inj {a b : Int} (ha : sR a) (hb : sR b) (h : Int32.ofInt a = Int32.ofInt b) : a = b := by
  rw [← sR_i ha, ← sR_i hb, h]
theorem mC2_ci {q : ClassFile.Cond} {a b : Int} (ha : sR a) (hb : sR b) : mC2 q (Int32.ofInt a) (Int32.ofInt b) = true ↔ mCi q a b := by
  have h1 := sR_i ha
  have h2 := sR_i hb
  cases q
  · show decide (Int32.ofInt a = Int32.ofInt b) = true ↔ a = b
    rw [decide_eq_true_eq]
    exact ⟨sR_inj ha hb, fun e => by rw [e]⟩
  · show decide (Int32.ofInt a ≠ Int32.ofInt b) = true ↔ a ≠ b
    rw [decide_eq_true_eq]
    exact ⟨fun e q => e (by rw [q]), fun e q => e (sR_inj ha hb q)⟩
  · show decide (Int32.ofInt a < Int32.ofInt b) = true ↔ a < b
    rw [decide_eq_true_eq, Int32.lt_iff_toInt_lt, h1, h2]
  · show decide (Int32.ofInt b ≤ Int32.ofInt a) = true ↔ b ≤ a
    rw [decide_eq_true_eq, Int32.le_iff_toInt_le, h1, h2]
  · show decide (Int32.ofInt b < Int32.ofInt a) = true ↔ b < a
    rw [decide_eq_true_eq, Int32.lt_iff_toInt_lt, h1, h2]
  · show decide (Int32.ofInt a ≤ Int32.ofInt b) = true ↔ a ≤ b
    rw [decide_eq_true_eq, Int32.le_iff_toInt_le, h1, h2]
noncomputable def hset (h : mH) (a j : Nat) (v : Value) : mH := match h[a]? with
  | some q => h.set a (q.1, q.2.set j v)
  | none => h
section SST
variable {sc : List Int32} {d : Nat} {rt : Option FieldType} {cs : List mE} {i : Nat} {L : mL} {st : List Value} {h : mH} {r : mR} {en : mE} {g g1 : mG}
theorem sStep (he : cs[i]? = some en) (hk : nCl en ≠ 12) (hs : ∀ call, mStep mTab (mXs sc) call en (i, L, st, h) = some g1) (hr : nRn sc d rt cs g1 r) : nRn sc d rt cs (i, L, st, h) r :=
  nRn_step (g := (i, L, st, h)) he (nRt_no hk) ⟨0, fun n _ => hs _⟩ hr
theorem sStp_ok (hs : sStp en g = some g1) : (∀ call, mStep mTab (mXs sc) call en g = some g1) ∧ nCl en ≠ 12 := by
  obtain ⟨i, L, st, h⟩ := g
  unfold sStp at hs
  split at hs
  · rename_i heq
    cases hs
    exact ⟨fun call => mStep_B3 (by unfold mB3; rw [heq]), by unfold nCl; rw [heq]; intro q; cases q⟩
  · exact ⟨fun call => mStep_A2 hs, by have := nCl_A2 hs; omega⟩
  · exact ⟨fun call => mStep_A2 hs, by have := nCl_A2 hs; omega⟩
  · exact ⟨fun call => mStep_A2 hs, by have := nCl_A2 hs; omega⟩
  · exact ⟨fun call => mStep_A2 hs, by have := nCl_A2 hs; omega⟩
  · exact ⟨fun call => mStep_A1 hs, by have := nCl_A1 hs; omega⟩
/-- so many steps that only move things -/
theorem sP : ∀ (n : Nat) {g g1 : mG}, sN cs n g = some g1 → nRn sc d rt cs g1 r → nRn sc d rt cs g r
  | 0, g, g1, hs, hr => by cases hs; exact hr
  | n + 1, g, g1, hs, hr => by
    unfold sN at hs
    split at hs
    · rename_i en hen
      split at hs
      · rename_i g2 hg
        obtain ⟨h1, h2⟩ := sStp_ok (sc := sc) hg
        obtain ⟨i, L, st, h⟩ := g
        exact sStep hen h2 h1 (sP n hs hr)
      · cases hs
    · cases hs
theorem s_add {a b : Int} (he : cs[i]? = some en) (ho : en.2.1 = .iadd) (hr : nRn sc d rt cs (i + 1, L, sI (a + b) :: st, h) r) : nRn sc d rt cs (i, L, sI b :: sI a :: st, h) r := by
  refine sStep he (by unfold nCl; rw [ho]; intro q; cases q) (fun call => mStep_B1 ?_) hr
  unfold mB1
  rw [ho]
  dsimp only
  rw [← Int32.ofInt_add]
theorem s_sub {a b : Int} (he : cs[i]? = some en) (ho : en.2.1 = .isub) (hr : nRn sc d rt cs (i + 1, L, sI (a - b) :: st, h) r) : nRn sc d rt cs (i, L, sI b :: sI a :: st, h) r := by
  refine sStep he (by unfold nCl; rw [ho]; intro q; cases q) (fun call => mStep_B1 ?_) hr
  unfold mB1
  rw [ho]
  dsimp only
  rw [← Int32.ofInt_sub]
theorem s_mul {a b : Int} (he : cs[i]? = some en) (ho : en.2.1 = .imul) (hr : nRn sc d rt cs (i + 1, L, sI (a * b) :: st, h) r) : nRn sc d rt cs (i, L, sI b :: sI a :: st, h) r := by
  refine sStep he (by unfold nCl; rw [ho]; intro q; cases q) (fun call => mStep_B1 ?_) hr
  unfold mB1
  rw [ho]
  dsimp only
  rw [← Int32.ofInt_mul]
/-- any step of two ints whose answer is known -/
theorem s_bin {x y z : Int32} (he : cs[i]? = some en) (hs : mB1 en i L (.int y :: .int x :: st) h = some (i + 1, L, .int z :: st, h)) (hr : nRn sc d rt cs (i + 1, L, .int z :: st, h) r) : nRn sc d rt cs (i, L, .int y :: .int x :: st, h) r :=
  sStep he (by have := nCl_B1 hs; omega) (fun call => mStep_B1 hs) hr
theorem s_inc {a n : Int} {k : Nat} {L1 : mL} (he : cs[i]? = some en) (ho : mA2 en i L st h = some (i + 1, mS1 L k (.int (Int32.ofInt a + Int32.ofInt n)), st, h)) (hL : mS1 L k (sI (a + n)) = L1) (hr : nRn sc d rt cs (i + 1, L1, st, h) r) : nRn sc d rt cs (i, L, st, h) r := by
  rw [← Int32.ofInt_add, hL] at ho
  exact sStep he (by have := nCl_A2 ho; omega) (fun call => mStep_A2 ho) hr
theorem s_icmp {a b : Int} {q : ClassFile.Cond} {j : Nat} (he : cs[i]? = some en) (ho : ∃ z, en.2.1 = .if_icmp q z) (hj : mTgt en 0 = j) (ha : sR a) (hb : sR b) (hT : mCi q a b → nRn sc d rt cs (j, L, st, h) r) (hF : ¬ mCi q a b → nRn sc d rt cs (i + 1, L, st, h) r) : nRn sc d rt cs (i, L, sI b :: sI a :: st, h) r := by
  obtain ⟨z, ho⟩ := ho
  by_cases hc : mCi q a b
  · refine sStep he (by unfold nCl; rw [ho]; intro q; cases q) (fun call => mStep_B3 (g := (j, L, st, h)) ?_) (hT hc)
    unfold mB3
    rw [ho]
    dsimp only
    unfold mIf
    rw [if_pos ((mC2_ci ha hb).mpr hc), hj]
  · refine sStep he (by unfold nCl; rw [ho]; intro q; cases q) (fun call => mStep_B3 (g := (i + 1, L, st, h)) ?_) (hF hc)
    unfold mB3
    rw [ho]
    dsimp only
    unfold mIf
    rw [if_neg (fun e => hc ((mC2_ci ha hb).mp e))]
theorem s_ifc {a : Int} {q : ClassFile.Cond} {j : Nat} (he : cs[i]? = some en) (ho : ∃ z, en.2.1 = .ifCond q z) (hj : mTgt en 0 = j) (ha : sR a) (hT : mCi q a 0 → nRn sc d rt cs (j, L, st, h) r) (hF : ¬ mCi q a 0 → nRn sc d rt cs (i + 1, L, st, h) r) : nRn sc d rt cs (i, L, sI a :: st, h) r := by
  obtain ⟨z, ho⟩ := ho
  have hb : sR 0 := by unfold sR aMi aMa; omega
  by_cases hc : mCi q a 0
  · refine sStep he (by unfold nCl; rw [ho]; intro q; cases q) (fun call => mStep_B3 (g := (j, L, st, h)) ?_) (hT hc)
    unfold mB3
    rw [ho]
    dsimp only
    unfold mIf
    rw [show (0 : Int32) = Int32.ofInt 0 from rfl]
    rw [if_pos ((mC2_ci ha hb).mpr hc), hj]
  · refine sStep he (by unfold nCl; rw [ho]; intro q; cases q) (fun call => mStep_B3 (g := (i + 1, L, st, h)) ?_) (hF hc)
    unfold mB3
    rw [ho]
    dsimp only
    unfold mIf
    rw [show (0 : Int32) = Int32.ofInt 0 from rfl]
    rw [if_neg (fun e => hc ((mC2_ci ha hb).mp e))]
/-- a ref is not null -/
theorem s_null {a j : Nat} (he : cs[i]? = some en) (ho : (∃ z, en.2.1 = .ifnull z) ∧ i + 1 = j ∨ (∃ z, en.2.1 = .ifnonnull z) ∧ mTgt en 0 = j) (hr : nRn sc d rt cs (j, L, st, h) r) : nRn sc d rt cs (i, L, .ref a :: st, h) r := by
  rcases ho with ⟨⟨z, ho⟩, rfl⟩ | ⟨⟨z, ho⟩, rfl⟩
  · refine sStep he (by unfold nCl; rw [ho]; intro q; cases q) (fun call => mStep_B3 ?_) hr
    unfold mB3
    rw [ho]
  · refine sStep he (by unfold nCl; rw [ho]; intro q; cases q) (fun call => mStep_B3 ?_) hr
    unfold mB3
    rw [ho]
/-- the heap's sorts -/
noncomputable def sTg (a : Nat) : Option (Nat × Nat) := (aT[a]?).map (fun t => (t.1, t.2.1))
theorem sTg_ok {a k n : Nat} (hh : aHp h) (ht : sTg a = some (k, n)) : ∃ q, h[a]? = some q ∧ q.1 = k ∧ q.2.length = n := by
  unfold sTg at ht
  obtain ⟨t, t1, t2⟩ := Option.map_eq_some_iff.mp ht
  obtain ⟨q, q1, q2, q3, -⟩ := aHp_at hh t1
  cases t2
  exact ⟨q, q1, q2, q3⟩
theorem aSlot_of {a j : Nat} {q : mC} (hq : h[a]? = some q) : aSlot h a j = q.2[j]? := by
  unfold aSlot
  rw [hq]
theorem s_get {a j k n : Nat} {v : Value} (hh : aHp h) (he : cs[i]? = some en) (ho : ∃ z, en.2.1 = .getfield z) (ht : sTg a = some (k, n)) (hk : mTgt en 1 = k) (hj : mTgt en 2 = j) (hv : aSlot h a j = some v) (hr : nRn sc d rt cs (i + 1, L, v :: st, h) r) : nRn sc d rt cs (i, L, .ref a :: st, h) r := by
  obtain ⟨z, ho⟩ := ho
  obtain ⟨q, q1, q2, q3⟩ := sTg_ok hh ht
  rw [aSlot_of q1] at hv
  refine sStep he (by unfold nCl; rw [ho]; intro q; cases q) (fun call => mStep_F1 ?_) hr
  unfold mF1
  rw [ho]
  dsimp only
  rw [q1]
  dsimp only
  rw [if_pos (q2.trans hk.symm), hj, hv]
theorem s_put {a j k n : Nat} {v : Value} (hh : aHp h) (he : cs[i]? = some en) (ho : ∃ z, en.2.1 = .putfield z) (ht : sTg a = some (k, n)) (hk : mTgt en 1 = k) (hj : mTgt en 2 = j) (hn : j < n) (hf : mFit (mFT k j) v = true) (hr : nRn sc d rt cs (i + 1, L, st, hset h a j v) r) : nRn sc d rt cs (i, L, v :: .ref a :: st, h) r := by
  obtain ⟨z, ho⟩ := ho
  obtain ⟨q, q1, q2, q3⟩ := sTg_ok hh ht
  unfold hset at hr
  rw [q1] at hr
  refine sStep he (by unfold nCl; rw [ho]; intro q; cases q) (fun call => mStep_F1 ?_) hr
  unfold mF1
  rw [ho]
  dsimp only
  rw [q1]
  dsimp only
  rw [if_pos ⟨q2.trans hk.symm, by omega, by rw [q2, hj]; exact hf⟩, hj]
theorem sIx {j : Int} {n : Nat} (h0 : 0 ≤ j) (hn : j < n) (hb : n ≤ 100000) : mIx (Int32.ofInt j) n = true ∧ (Int32.ofInt j).toNatClampNeg = j.toNat := by
  have hr : sR j := by unfold sR aMi aMa; omega
  have h1 := sR_n hr
  refine ⟨?_, h1⟩
  unfold mIx
  rw [decide_eq_true_eq, h1, Int32.lt_iff_toInt_lt, sR_i hr]
  have : (0 : Int32).toInt = 0 := rfl
  omega
theorem s_iald {a n : Nat} {j : Int} {v : Value} (hh : aHp h) (he : cs[i]? = some en) (ho : en.2.1 = .iaload) (ht : sTg a = some (50, n)) (h0 : 0 ≤ j) (hn : j < n) (hb : n ≤ 100000) (hv : aSlot h a j.toNat = some v) (hr : nRn sc d rt cs (i + 1, L, v :: st, h) r) : nRn sc d rt cs (i, L, sI j :: .ref a :: st, h) r := by
  obtain ⟨q, q1, q2, q3⟩ := sTg_ok hh ht
  obtain ⟨x1, x2⟩ := sIx h0 hn hb
  rw [aSlot_of q1] at hv
  refine sStep he (by unfold nCl; rw [ho]; intro q; cases q) (fun call => mStep_F2 ?_) hr
  unfold mF2
  rw [ho]
  dsimp only
  rw [q1]
  dsimp only
  rw [if_pos ⟨q2, by rw [q3]; exact x1⟩, x2, hv]
theorem s_bald {a n k : Nat} {j : Int} {v : Value} (hh : aHp h) (he : cs[i]? = some en) (ho : en.2.1 = .baload) (ht : sTg a = some (k, n)) (hk : k = 51 ∨ k = 52) (h0 : 0 ≤ j) (hn : j < n) (hb : n ≤ 100000) (hv : aSlot h a j.toNat = some v) (hr : nRn sc d rt cs (i + 1, L, v :: st, h) r) : nRn sc d rt cs (i, L, sI j :: .ref a :: st, h) r := by
  obtain ⟨q, q1, q2, q3⟩ := sTg_ok hh ht
  obtain ⟨x1, x2⟩ := sIx h0 hn hb
  rw [aSlot_of q1] at hv
  refine sStep he (by unfold nCl; rw [ho]; intro q; cases q) (fun call => mStep_F2 ?_) hr
  unfold mF2
  rw [ho]
  dsimp only
  rw [q1]
  dsimp only
  rw [if_pos ⟨by rw [q2]; exact hk, by rw [q3]; exact x1⟩, x2, hv]
theorem s_aald {a n k : Nat} {j : Int} {v : Value} (hh : aHp h) (he : cs[i]? = some en) (ho : en.2.1 = .aaload) (ht : sTg a = some (k, n)) (hk : 53 ≤ k ∧ k < 56) (h0 : 0 ≤ j) (hn : j < n) (hb : n ≤ 100000) (hv : aSlot h a j.toNat = some v) (hr : nRn sc d rt cs (i + 1, L, v :: st, h) r) : nRn sc d rt cs (i, L, sI j :: .ref a :: st, h) r := by
  obtain ⟨q, q1, q2, q3⟩ := sTg_ok hh ht
  obtain ⟨x1, x2⟩ := sIx h0 hn hb
  rw [aSlot_of q1] at hv
  refine sStep he (by unfold nCl; rw [ho]; intro q; cases q) (fun call => mStep_F2 ?_) hr
  unfold mF2
  rw [ho]
  dsimp only
  rw [q1]
  dsimp only
  rw [if_pos ⟨by rw [q2]; exact hk, by rw [q3]; exact x1⟩, x2, hv]
theorem s_len {a k n : Nat} (hh : aHp h) (he : cs[i]? = some en) (ho : en.2.1 = .arraylength) (ht : sTg a = some (k, n)) (hk : 50 ≤ k ∧ k < 56) (hr : nRn sc d rt cs (i + 1, L, sI (n : Int) :: st, h) r) : nRn sc d rt cs (i, L, .ref a :: st, h) r := by
  obtain ⟨q, q1, q2, q3⟩ := sTg_ok hh ht
  refine sStep he (by unfold nCl; rw [ho]; intro q; cases q) (fun call => mStep_F2 ?_) hr
  unfold mF2
  rw [ho]
  dsimp only
  rw [q1]
  dsimp only
  rw [if_pos (by rw [q2]; exact hk), q3]
  rfl
theorem s_iast {a n : Nat} {j : Int} {v : Int32} (hh : aHp h) (he : cs[i]? = some en) (ho : en.2.1 = .iastore) (ht : sTg a = some (50, n)) (h0 : 0 ≤ j) (hn : j < n) (hb : n ≤ 100000) (hr : nRn sc d rt cs (i + 1, L, st, hset h a j.toNat (.int v)) r) : nRn sc d rt cs (i, L, .int v :: sI j :: .ref a :: st, h) r := by
  obtain ⟨q, q1, q2, q3⟩ := sTg_ok hh ht
  obtain ⟨x1, x2⟩ := sIx h0 hn hb
  unfold hset at hr
  rw [q1] at hr
  refine sStep he (by unfold nCl; rw [ho]; intro q; cases q) (fun call => mStep_F3 ?_) hr
  unfold mF3
  rw [ho]
  dsimp only
  rw [q1]
  dsimp only
  rw [if_pos ⟨q2, by rw [q3]; exact x1⟩, x2]
theorem s_bast {a n : Nat} {j : Int} {v : Int32} (hh : aHp h) (he : cs[i]? = some en) (ho : en.2.1 = .bastore) (ht : sTg a = some (51, n)) (h0 : 0 ≤ j) (hn : j < n) (hb : n ≤ 100000) (hr : nRn sc d rt cs (i + 1, L, st, hset h a j.toNat (.int v.toInt8.toInt32)) r) : nRn sc d rt cs (i, L, .int v :: sI j :: .ref a :: st, h) r := by
  obtain ⟨q, q1, q2, q3⟩ := sTg_ok hh ht
  obtain ⟨x1, x2⟩ := sIx h0 hn hb
  unfold hset at hr
  rw [q1] at hr
  refine sStep he (by unfold nCl; rw [ho]; intro q; cases q) (fun call => mStep_F3 ?_) hr
  unfold mF3
  rw [ho]
  dsimp only
  rw [q1]
  dsimp only
  rw [if_pos ⟨q2, by rw [q3]; exact x1⟩, x2]
/-- a call whose answer is known -/
theorem s_call {k : Nat} {t2 : mM} {args : List Value} {v : Option Value} {h1 : mH} (he : cs[i]? = some en) (ho : mInv en.2.1 = true ∧ mTgt en 2 = 0) (hk : mTgt en 1 = k) (ht : mTab[k]? = some t2) (hc : mCnt t2 = args.length) (h8 : Nat.ble ((st.map (fun v => v.category)).sum) 8 = true) (hrc : mRcv t2 args h = true) (hx : Nat.ble (mEnt args).length (mMX t2) = true) (hev : nEv sc d k args h (v, h1)) (hr : nRn sc d rt cs (i + 1, L, v.toList ++ st, h1) r) : nRn sc d rt cs (i, L, args.reverse ++ st, h) r := by
  obtain ⟨n0, h0⟩ := hev
  have hcl : nCl en ≠ 12 := by
    obtain ⟨o1, o2⟩ := ho
    unfold mInv at o1
    unfold nCl
    split at o1 <;> first | (rename_i heq; rw [heq]; dsimp only; rw [if_pos o2]; intro q; cases q) | cases o1
  refine nRn_step (g := (i, L, args.reverse ++ st, h)) he (nRt_no hcl) ⟨n0, fun n hn => mStep_G1 ?_⟩ hr
  unfold mG1
  have e1 : (args.reverse ++ st).take (mCnt t2) = args.reverse := by
    rw [hc, ← List.length_reverse]
    exact List.take_left
  have e2 : (args.reverse ++ st).drop (mCnt t2) = st := by
    rw [hc, ← List.length_reverse]
    exact List.drop_left
  rw [if_pos ho, hk, ht]
  dsimp only
  rw [e1, e2, List.reverse_reverse, if_pos ⟨by rw [hc]; simp, Nat.le_of_ble_eq_true h8, hrc, Nat.le_of_ble_eq_true hx⟩, h0 n hn]
theorem s_ret {v : Option Value} (he : cs[i]? = some en) (hr : mRt rt en st h = some (v, h)) : nRn sc d rt cs (i, L, st, h) (v, h) := nRn_ret (g := (i, L, st, h)) he hr
end SST
/-! writing a cell -/
section HSET
variable {h : mH} {a j : Nat} {v : Value}
theorem hset_slot {k n : Nat} (hh : aHp h) (ht : sTg a = some (k, n)) (hj : j < n) (b m : Nat) : aSlot (hset h a j v) b m = if b = a ∧ m = j then some v else aSlot h b m := by
  obtain ⟨q, q1, q2, q3⟩ := sTg_ok hh ht
  unfold hset
  rw [q1]
  dsimp only
  rw [aSlot_set q1]
  rw [if_pos (show j < q.2.length by omega)]
/-- the type of a cell lets a value in -/
noncomputable def sTy (a j : Nat) (p : aRg → Bool) : Bool := match aT[a]? with
  | some t => t.2.2.all (fun g => decide (j < g.1) || (decide (g.2.1 < j) || p g))
  | none => false
theorem hset_hp (hh : aHp h) (hv : ∀ t g, aT[a]? = some t → g ∈ t.2.2 → g.1 ≤ j → j ≤ g.2.1 → aIsT g v) : aHp (hset h a j v) := by
  unfold hset
  split
  · rename_i q hq
    refine ⟨by rw [List.length_set]; exact hh.1, fun b t p ht hp => ?_⟩
    rw [List.getElem?_set] at hp
    split at hp
    · rename_i hab
      subst hab
      split at hp
      · cases hp
        obtain ⟨e1, e2, e3⟩ := hh.2 a t q ht hq
        refine ⟨e1, by rw [List.length_set]; exact e2, fun g hg m w m1 m2 hw => ?_⟩
        rw [List.getElem?_set] at hw
        split at hw
        · rename_i hjm
          subst hjm
          split at hw
          · cases hw
            exact hv t g ht hg m1 m2
          · cases hw
        · exact e3 g hg m w m1 m2 hw
      · cases hp
    · exact hh.2 b t p ht hp
  · exact hh
/-- an int within its cell's range -/
theorem hset_int {z : Int} (hh : aHp h) (hz : sR z) (hc : ∀ t g, aT[a]? = some t → g ∈ t.2.2 → g.1 ≤ j → j ≤ g.2.1 → g.2.2.1 = 0 ∧ g.2.2.2.1 ≤ z ∧ z ≤ g.2.2.2.2) : aHp (hset h a j (sI z)) := by
  refine hset_hp hh (fun t g ht hg h1 h2 => ?_)
  obtain ⟨c1, c2, c3⟩ := hc t g ht hg h1 h2
  unfold aIsT
  rw [c1]
  exact ⟨_, rfl, by rw [sR_i hz]; exact c2, by rw [sR_i hz]; exact c3⟩
end HSET
/-- two heaps with the same cells are the same -/
theorem aHp_ext {h h1 : mH} (hh : aHp h) (hh1 : aHp h1) (hs : ∀ a j, aSlot h1 a j = aSlot h a j) : h1 = h := by
  apply List.ext_getElem?
  intro a
  cases ht : aT[a]? with
  | none =>
    rw [List.getElem?_eq_none_iff] at ht
    rw [List.getElem?_eq_none (by rw [hh1.1]; exact ht), List.getElem?_eq_none (by rw [hh.1]; exact ht)]
  | some t =>
    obtain ⟨q, q1, q2, q3, -⟩ := aHp_at hh ht
    obtain ⟨p, p1, p2, p3, -⟩ := aHp_at hh1 ht
    rw [q1, p1]
    have e2 : p.2 = q.2 := by
      apply List.ext_getElem?
      intro j
      have := hs a j
      rw [aSlot_of p1, aSlot_of q1] at this
      exact this
    have e1 : p.1 = q.1 := p2.trans q2.symm
    obtain ⟨pa, pb⟩ := p
    obtain ⟨qa, qb⟩ := q
    cases e1
    cases e2
    rfl
theorem nFr_nil {h h1 : mH} (hh : aHp h) (hh1 : aHp h1) (hf : nFr [] h h1) : h1 = h := aHp_ext hh hh1 (fun a j => hf a j (by rintro ⟨m, m1, -⟩; cases m1))
