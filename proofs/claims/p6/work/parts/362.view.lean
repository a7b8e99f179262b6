/-! longs, returns, receivers; what the heap holds as numbers -/
abbrev sJ (a : Int) : Value := .long (Int64.ofInt a)
noncomputable def sRJ (a : Int) : Prop := -9223372036854775808 ≤ a ∧ a ≤ 9223372036854775807
theorem sRJ_i {a : Int} (h : sRJ a) : (Int64.ofInt a).toInt = a := by
  unfold sRJ at h
  exact Int64.toInt_ofInt_of_le (by omega) (by omega)
theorem s_cmp {q : ClassFile.Cond} {a b : Int} (ha : sRJ a) (hb : sRJ b) : mC2 q (lg_cmp (Int64.ofInt a) (Int64.ofInt b)) 0 = true ↔ mCi q a b := by
  have h1 := sRJ_i ha
  have h2 := sRJ_i hb
  have e1 : Int64.ofInt b < Int64.ofInt a ↔ b < a := by rw [Int64.lt_iff_toInt_lt, h1, h2]
  have e2 : Int64.ofInt a = Int64.ofInt b ↔ a = b := ⟨fun e => by rw [← h1, ← h2, e], fun e => by rw [e]⟩
  unfold lg_cmp
  rcases Int.lt_trichotomy a b with hc | hc | hc
  · rw [if_neg (fun e => by have := e1.mp e; omega), if_neg (fun e => by have := e2.mp e; omega)]
    cases q
    · exact ⟨fun e => absurd e (by decide), fun e => by have e : a = b := e; omega⟩
    · exact ⟨fun _ => by show a ≠ b; omega, fun _ => by decide⟩
    · exact ⟨fun _ => hc, fun _ => by decide⟩
    · exact ⟨fun e => absurd e (by decide), fun e => by have e : b ≤ a := e; omega⟩
    · exact ⟨fun e => absurd e (by decide), fun e => by have e : b < a := e; omega⟩
    · exact ⟨fun _ => by show a ≤ b; omega, fun _ => by decide⟩
  · rw [if_neg (fun e => by have := e1.mp e; omega), if_pos (e2.mpr hc)]
    cases q
    · exact ⟨fun _ => hc, fun _ => by decide⟩
    · exact ⟨fun e => absurd e (by decide), fun e => by have e : a ≠ b := e; omega⟩
    · exact ⟨fun e => absurd e (by decide), fun e => by have e : a < b := e; omega⟩
    · exact ⟨fun _ => by show b ≤ a; omega, fun _ => by decide⟩
    · exact ⟨fun e => absurd e (by decide), fun e => by have e : b < a := e; omega⟩
    · exact ⟨fun _ => by show a ≤ b; omega, fun _ => by decide⟩
  · rw [if_pos (e1.mpr hc)]
    cases q
    · exact ⟨fun e => absurd e (by decide), fun e => by have e : a = b := e; omega⟩
    · exact ⟨fun _ => by show a ≠ b; omega, fun _ => by decide⟩
    · exact ⟨fun e => absurd e (by decide), fun e => by have e : a < b := e; omega⟩
    · exact ⟨fun _ => by show b ≤ a; omega, fun _ => by decide⟩
    · exact ⟨fun _ => hc, fun _ => by decide⟩
    · exact ⟨fun e => absurd e (by decide), fun e => by have e : a ≤ b := e; omega⟩
section SS2
variable {sc : List Int32} {d : Nat} {rt : Option FieldType} {cs : List mE} {i : Nat} {L : mL} {st : List Value} {h : mH} {r : mR} {en en1 : mE}
theorem s_i2l {a : Int} (he : cs[i]? = some en) (ho : en.2.1 = .i2l) (ha : sR a) (hr : nRn sc d rt cs (i + 1, L, sJ a :: st, h) r) : nRn sc d rt cs (i, L, sI a :: st, h) r := by
  refine sStep he (by unfold nCl; rw [ho]; intro q; cases q) (fun call => mStep_B2 ?_) hr
  unfold mB2
  rw [ho]
  dsimp only
  have e : (Int32.ofInt a).toInt64 = Int64.ofInt a := by
    apply Int64.toInt_inj.mp
    rw [Int32.toInt_toInt64, sR_i ha, sRJ_i (by unfold sR aMi aMa at ha; unfold sRJ; omega)]
  rw [e]
/-- two longs are compared and a branch is taken -/
theorem s_lif {a b : Int} {q : ClassFile.Cond} {j : Nat} (he : cs[i]? = some en) (ho : en.2.1 = .lcmp) (he1 : cs[i + 1]? = some en1) (ho1 : ∃ z, en1.2.1 = .ifCond q z) (hj : mTgt en1 0 = j) (ha : sRJ a) (hb : sRJ b) (hT : mCi q a b → nRn sc d rt cs (j, L, st, h) r) (hF : ¬ mCi q a b → nRn sc d rt cs (i + 2, L, st, h) r) : nRn sc d rt cs (i, L, sJ b :: sJ a :: st, h) r := by
  refine sStep (g1 := (i + 1, L, .int (lg_cmp (Int64.ofInt a) (Int64.ofInt b)) :: st, h)) he (by unfold nCl; rw [ho]; intro q; cases q) (fun call => mStep_B2 (by unfold mB2; rw [ho])) ?_
  obtain ⟨z, ho1⟩ := ho1
  by_cases hc : mCi q a b
  · refine sStep he1 (by unfold nCl; rw [ho1]; intro q; cases q) (fun call => mStep_B3 (g := (j, L, st, h)) ?_) (hT hc)
    unfold mB3
    rw [ho1]
    dsimp only
    unfold mIf
    rw [if_pos ((s_cmp ha hb).mpr hc), hj]
  · refine sStep he1 (by unfold nCl; rw [ho1]; intro q; cases q) (fun call => mStep_B3 (g := (i + 2, L, st, h)) ?_) (hF hc)
    unfold mB3
    rw [ho1]
    dsimp only
    unfold mIf
    rw [if_neg (fun e => hc ((s_cmp ha hb).mp e))]
theorem s_reti {a b : Int} {h1 : mH} (he : cs[i]? = some en) (ho : en.2.1 = .ireturn) (hrt : rt = some .int ∨ (rt = some .boolean ∧ (a = 0 ∨ a = 1))) (hv : a = b) (hh : h = h1) : nRn sc d rt cs (i, L, [sI a], h) (some (sI b), h1) := by
  subst hv
  subst hh
  refine s_ret he ?_
  unfold mRt
  rw [ho]
  dsimp only
  rcases hrt with rfl | ⟨rfl, rfl | rfl⟩
  · dsimp only
    rw [if_pos (show narrow .int (.int (Int32.ofInt a)) = .int (Int32.ofInt a) from rfl)]
  · rfl
  · rfl
theorem sRcv {t2 : mM} {a k n : Nat} {args : List Value} (hh : aHp h) (ht : sTg a = some (k, n)) (hc : (decide (mMK t2 ≠ 0) && (decide (mMK t2 = 2) || (decide (k < 50) && (match mCl[k]? with
    | some r => decide (r.1 = (mMY t2).cls)
    | none => false)))) = true) : mRcv t2 (.ref a :: args) h = true := by
  obtain ⟨q, q1, q2, q3⟩ := sTg_ok hh ht
  rw [Bool.and_eq_true, decide_eq_true_eq] at hc
  unfold mRcv
  rw [if_neg hc.1]
  dsimp only
  by_cases h2 : mMK t2 = 2
  · rw [if_pos h2]
  · rw [if_neg h2, q1]
    dsimp only
    have hd := hc.2
    rw [decide_eq_false h2, Bool.false_or] at hd
    rw [q2]
    exact hd
end SS2
noncomputable def hI (h : mH) (a j : Nat) : Int := match aSlot h a j with
  | some (.int z) => z.toInt
  | _ => 0
theorem hI_sR (h : mH) (a j : Nat) : sR (hI h a j) := by
  unfold hI
  split
  · exact aI_rg _
  · unfold sR aMi aMa
    omega
theorem hI_of {h : mH} {a j : Nat} {z : Int32} (hz : aSlot h a j = some (.int z)) : hI h a j = z.toInt := by
  unfold hI
  rw [hz]
theorem hI_ok {h : mH} {a j : Nat} {lo hi : Int} (hh : aHp h) (hz : zCell a j lo hi = true) : aSlot h a j = some (sI (hI h a j)) := by
  obtain ⟨s, s1, -⟩ := zCell_ok hh hz
  rw [s1, hI_of s1]
  unfold sI
  rw [Int32.ofInt_toInt]
theorem hI_rg {h : mH} {a j : Nat} {lo hi : Int} (hh : aHp h) (hz : zCell a j lo hi = true) : lo ≤ hI h a j ∧ hI h a j ≤ hi := by
  obtain ⟨s, s1, s2, s3⟩ := zCell_ok hh hz
  rw [hI_of s1]
  exact ⟨s2, s3⟩
noncomputable def zRef (a j b : Nat) : Bool := match aT[a]? with
  | some t => decide (j < t.2.1) && t.2.2.any (fun g => decide (g.1 ≤ j) && (decide (j ≤ g.2.1) && (g.2.2.1 == 2 && g.2.2.2.1.toNat == b)))
  | none => false
theorem hR_ok {h : mH} {a j b : Nat} (hh : aHp h) (hz : zRef a j b = true) : aSlot h a j = some (.ref b) := by
  unfold zRef at hz
  split at hz
  · rename_i t ht
    rw [Bool.and_eq_true, decide_eq_true_eq] at hz
    obtain ⟨hj, hz⟩ := hz
    obtain ⟨g, g1, g2⟩ := List.any_eq_true.mp hz
    simp only [Bool.and_eq_true, decide_eq_true_eq, beq_iff_eq] at g2
    obtain ⟨a1, a2, a3, a4⟩ := g2
    obtain ⟨q, q1, q2, q3, q4⟩ := aHp_at hh ht
    have hjq : j < q.2.length := by omega
    have h1 := q4 g g1 j _ a1 a2 (List.getElem?_eq_getElem hjq)
    unfold aIsT at h1
    rw [a3] at h1
    rw [aSlot_of q1, List.getElem?_eq_getElem hjq, h1, a4]
  · cases hz
theorem nEv_det {sc : List Int32} {d k : Nat} {av : List Value} {h : mH} {r r1 : mR} (h1 : nEv sc d k av h r) (h2 : nEv sc d k av h r1) : r = r1 := by
  obtain ⟨n, hn⟩ := h1
  obtain ⟨m, hm⟩ := h2
  have e1 := hn (n + m) (by omega)
  have e2 := hm (n + m) (by omega)
  rw [e1] at e2
  exact Option.some.inj e2
noncomputable def zIn (a j : Nat) (lo hi : Int) : Bool := match aT[a]? with
  | some t => t.2.2.all (fun g => decide (j < g.1) || (decide (g.2.1 < j) || (g.2.2.1 == 0 && (decide (g.2.2.2.1 ≤ lo) && decide (hi ≤ g.2.2.2.2)))))
  | none => true
theorem hset_in {h : mH} {a j : Nat} {lo hi : Int} {z : Int32} (hh : aHp h) (hz : zIn a j lo hi = true) (h1 : lo ≤ z.toInt) (h2 : z.toInt ≤ hi) : aHp (hset h a j (.int z)) := by
  refine hset_hp hh (fun t g ht hg k1 k2 => ?_)
  unfold zIn at hz
  rw [ht] at hz
  have h3 := List.all_eq_true.mp hz g hg
  simp only [Bool.or_eq_true, Bool.and_eq_true, decide_eq_true_eq, beq_iff_eq] at h3
  rcases h3 with h3 | h3 | ⟨h3, h4, h5⟩
  · omega
  · omega
  · unfold aIsT
    rw [h3]
    exact ⟨z, rfl, by omega, by omega⟩
section HS2
variable {h : mH} {a j k n : Nat} {v w : Value}
theorem hset_self (hv : aSlot h a j = some v) : hset h a j v = h := by
  unfold hset
  split
  · rename_i q hq
    rw [aSlot_of hq] at hv
    have e1 : q.2.set j v = q.2 := by
      apply List.ext_getElem?
      intro m
      rw [List.getElem?_set]
      split
      · rename_i hm
        subst hm
        rw [hv]
        split
        · rfl
        · rename_i hl
          rw [List.getElem?_eq_none (by omega)] at hv
          cases hv
      · rfl
    rw [e1]
    apply List.ext_getElem?
    intro m
    rw [List.getElem?_set]
    split
    · rename_i hm
      subst hm
      rw [hq]
      split
      · rfl
      · rename_i hl
        rw [List.getElem?_eq_none (by omega)] at hq
        cases hq
    · rfl
  · rfl
theorem hset_hset : hset (hset h a j v) a j w = hset h a j w := by
  unfold hset
  cases hq : h[a]? with
  | none =>
    dsimp only
    rw [hq]
  | some q =>
    dsimp only
    rw [List.getElem?_set_self (List.getElem?_eq_some_iff.mp hq).1]
    dsimp only
    rw [List.set_set, List.set_set]
theorem hI_ne {b m : Nat} (hh : aHp h) (ht : sTg a = some (k, n)) (hj : j < n) (hb : b ≠ a ∨ m ≠ j) : hI (hset h a j v) b m = hI h b m := by
  unfold hI
  rw [hset_slot hh ht hj, if_neg (by omega)]
theorem hI_eq {z : Int} (hh : aHp h) (ht : sTg a = some (k, n)) (hj : j < n) (hz : sR z) : hI (hset h a j (sI z)) a j = z := by
  rw [hI_of (z := Int32.ofInt z) (by rw [hset_slot hh ht hj, if_pos ⟨rfl, rfl⟩]), sR_i hz]
theorem hI_nf {b : Nat} (hh : aHp h) (ht : sTg a = some (k, n)) (hj : j < n) (hb : b ≠ a) : hI (hset h a j v) b = hI h b := by
  funext m
  exact hI_ne hh ht hj (Or.inl hb)
end HS2
