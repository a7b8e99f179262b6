/-! longs as bits; what a deed is; who is up -/
noncomputable def tb (t : Int64) (i : Nat) : Bool := t.toBitVec.getLsbD i
theorem tb_and (x y : Int64) (i : Nat) : tb (x &&& y) i = (tb x i && tb y i) := BitVec.getLsbD_and
theorem tb_or (x y : Int64) (i : Nat) : tb (x ||| y) i = (tb x i || tb y i) := BitVec.getLsbD_or
theorem tb_xor (x y : Int64) (i : Nat) : tb (x ^^^ y) i = (tb x i ^^ tb y i) := BitVec.getLsbD_xor
theorem tb_ext {x y : Int64} (h : ∀ i, i < 64 → tb x i = tb y i) : x = y := Int64.toBitVec_inj.mp (BitVec.eq_of_getLsbD_eq h)
theorem tb_ge (x : Int64) {i : Nat} (h : 64 ≤ i) : tb x i = false := BitVec.getLsbD_of_ge _ _ h
theorem tb_z (i : Nat) : tb (Int64.ofInt 0) i = false := by
  by_cases h : i < 64
  · exact (show ∀ i, i < 64 → tb (Int64.ofInt 0) i = false by decide +kernel) i h
  · exact tb_ge _ (by omega)
/-- the place of two in a long, and the long with that bit -/
noncomputable def pI (a b : Nat) : Nat := 6 * min a b + max a b
noncomputable def pBt (a b : Nat) : Int64 := Int64.ofNat 1 <<< ((Int32.ofInt ((6 : Int) * min (a : Int) (b : Int) + max (a : Int) (b : Int))).toInt64 &&& 63)
theorem pBt_tb : ∀ a, a < 6 → ∀ b, b < 6 → ∀ i, i < 64 → tb (pBt a b) i = decide (i = pI a b) := by decide +kernel
theorem pBt_nt : ∀ a, a < 6 → ∀ b, b < 6 → ∀ i, i < 64 → tb (pBt a b ^^^ Int64.ofInt (-1)) i = decide (i ≠ pI a b) := by decide +kernel
theorem pI_lt : ∀ a, a < 6 → ∀ b, b < 6 → pI a b < 64 := by decide
theorem pI_sym (a b : Nat) : pI a b = pI b a := by unfold pI; omega
theorem pI_inj : ∀ a, a < 6 → ∀ b, b < 6 → ∀ c, c < 6 → ∀ e, e < 6 → pI c e = pI a b → (c = a ∧ e = b) ∨ (c = b ∧ e = a) := by
  intro a ha b hb c hc e he q
  unfold pI at q
  omega
theorem tb_pB {t : Int64} {a b : Nat} (ha : a < 6) (hb : b < 6) : t &&& pBt a b = 0 ↔ tb t (pI a b) = false := by
  constructor
  · intro h
    have h1 := tb_and t (pBt a b) (pI a b)
    rw [h, show (0 : Int64) = Int64.ofInt 0 from rfl, tb_z, pBt_tb a ha b hb _ (pI_lt a ha b hb), decide_eq_true rfl, Bool.and_true] at h1
    exact h1.symm
  · intro h
    refine tb_ext (fun i hi => ?_)
    rw [tb_and, pBt_tb a ha b hb i hi, show (0 : Int64) = Int64.ofInt 0 from rfl, tb_z]
    by_cases e : i = pI a b
    · rw [e, h]; rfl
    · rw [decide_eq_false e, Bool.and_false]
/-- who is up, when one goes up or down -/
noncomputable def bxo (s a : Nat) : Nat := if bt s a = true then s - 2 ^ a else s + 2 ^ a
theorem b_xo : ∀ s, s < 64 → ∀ a, a < 6 → (Int32.ofInt (s : Nat) ^^^ Int32.ofInt ((2 ^ a : Nat) : Int)) = Int32.ofInt ((bxo s a : Nat) : Int) := by decide +kernel
theorem bxo_lt : ∀ s, s < 64 → ∀ a, a < 6 → bxo s a < 64 := by decide +kernel
/-- a deed as the class writes it -/
theorem b_d6 : ∀ s, s < 3 → (Int32.ofInt (s : Nat) <<< (Int32.ofInt 6 &&& 31)) = Int32.ofInt ((64 * s : Nat) : Int) := by decide +kernel
theorem b_d3 : ∀ a, a < 6 → (Int32.ofInt (a : Nat) <<< (Int32.ofInt 3 &&& 31)) = Int32.ofInt ((8 * a : Nat) : Int) := by decide +kernel
theorem b_o1 : ∀ s, s < 3 → ∀ a, a < 6 → (Int32.ofInt ((64 * s : Nat) : Int) ||| Int32.ofInt ((8 * a : Nat) : Int)) = Int32.ofInt ((64 * s + 8 * a : Nat) : Int) := by decide +kernel
theorem b_o2 : ∀ s, s < 3 → ∀ a, a < 6 → ∀ b, b < 6 → (Int32.ofInt ((64 * s + 8 * a : Nat) : Int) ||| Int32.ofInt (b : Nat)) = Int32.ofInt ((64 * s + 8 * a + b : Nat) : Int) := by decide +kernel
theorem b_ua : ∀ s, s < 3 → ∀ a, a < 6 → ∀ b, b < 6 → ((Int32.ofInt ((64 * s + 8 * a + b : Nat) : Int) >>> (Int32.ofInt 3 &&& 31)) &&& Int32.ofInt 7) = Int32.ofInt (a : Nat) := by decide +kernel
theorem b_ub : ∀ s, s < 3 → ∀ a, a < 6 → ∀ b, b < 6 → (Int32.ofInt ((64 * s + 8 * a + b : Nat) : Int) &&& Int32.ofInt 7) = Int32.ofInt (b : Nat) := by decide +kernel
theorem b_us : ∀ s, s < 3 → ∀ a, a < 6 → ∀ b, b < 6 → (Int32.ofInt ((64 * s + 8 * a + b : Nat) : Int) >>> (Int32.ofInt 6 &&& 31)) = Int32.ofInt (s : Nat) := by decide +kernel
theorem d_in : ∀ s, s < 3 → ∀ a, a < 6 → ∀ b, b < 6 → ((64 * s + 8 * a + b : Nat) : Int) ∈ aDs := by decide +kernel
theorem d_out : ∀ z ∈ aDs, ∃ s, s < 3 ∧ ∃ a, a < 6 ∧ ∃ b, b < 6 ∧ z = ((64 * s + 8 * a + b : Nat) : Int) := by decide +kernel
section BITS2
variable {sc : List Int32} {d : Nat} {rt : Option FieldType} {cs : List mE} {i : Nat} {L : mL} {st : List Value} {h : mH} {r : mR} {en en1 : mE}
theorem s_xo {s a : Nat} (he : cs[i]? = some en) (ho : en.2.1 = .ixor) (hs : s < 64) (ha : a < 6) (hr : nRn sc d rt cs (i + 1, L, sI ((bxo s a : Nat) : Int) :: st, h) r) : nRn sc d rt cs (i, L, sI ((2 ^ a : Nat) : Int) :: sI (s : Int) :: st, h) r := by
  refine s_bin he ?_ hr
  unfold mB1
  rw [ho]
  dsimp only
  rw [b_xo s hs a ha]
/-- a step of two ints, whatever comes out -/
theorem s_b1 {x y z : Int32} (he : cs[i]? = some en) (hz : mB1 en i L (.int y :: .int x :: st) h = some (i + 1, L, .int z :: st, h)) {w : Int32} (hw : z = w) (hr : nRn sc d rt cs (i + 1, L, .int w :: st, h) r) : nRn sc d rt cs (i, L, .int y :: .int x :: st, h) r := by
  subst hw
  exact s_bin he hz hr
/-- a step of two longs, whatever comes out -/
theorem s_b2 {x y z : Int64} (he : cs[i]? = some en) (hz : mB2 en i L (.long y :: .long x :: st) h = some (i + 1, L, .long z :: st, h)) {w : Int64} (hw : z = w) (hr : nRn sc d rt cs (i + 1, L, .long w :: st, h) r) : nRn sc d rt cs (i, L, .long y :: .long x :: st, h) r := by
  subst hw
  exact sStep he (by have := nCl_B2 hz; omega) (fun call => mStep_B2 hz) hr
theorem s_lsh {x z : Int64} {y : Int32} (he : cs[i]? = some en) (hz : mB2 en i L (.int y :: .long x :: st) h = some (i + 1, L, .long z :: st, h)) (hr : nRn sc d rt cs (i + 1, L, .long z :: st, h) r) : nRn sc d rt cs (i, L, .int y :: .long x :: st, h) r :=
  sStep he (by have := nCl_B2 hz; omega) (fun call => mStep_B2 hz) hr
/-- a long against 0 -/
theorem s_lnz {x : Int64} {j : Nat} (he : cs[i]? = some en) (ho : en.2.1 = .lcmp) (he1 : cs[i + 1]? = some en1) (ho1 : ∃ z, en1.2.1 = .ifCond .ne z) (hj : mTgt en1 0 = j) (hT : x ≠ 0 → nRn sc d rt cs (j, L, st, h) r) (hF : x = 0 → nRn sc d rt cs (i + 2, L, st, h) r) : nRn sc d rt cs (i, L, .long (Int64.ofInt 0) :: .long x :: st, h) r := by
  refine sStep (g1 := (i + 1, L, .int (lg_cmp x (Int64.ofInt 0)) :: st, h)) he (by unfold nCl; rw [ho]; intro q; cases q) (fun call => mStep_B2 (by unfold mB2; rw [ho])) ?_
  obtain ⟨z, ho1⟩ := ho1
  have e0 : (Int64.ofInt 0) = (0 : Int64) := rfl
  have hq : mC2 .ne (lg_cmp x (Int64.ofInt 0)) 0 = true ↔ x ≠ 0 := by
    rw [e0]
    unfold lg_cmp
    show decide (_ ≠ (0 : Int32)) = true ↔ _
    rw [decide_eq_true_eq]
    split
    · rename_i q
      exact ⟨fun _ e => by rw [e] at q; exact absurd q (by decide), fun _ => by decide⟩
    · split
      · rename_i q
        exact ⟨fun w => absurd rfl w, fun w => absurd q w⟩
      · rename_i q
        exact ⟨fun _ => q, fun _ => by decide⟩
  by_cases hc : x = 0
  · refine sStep he1 (by unfold nCl; rw [ho1]; intro q; cases q) (fun call => mStep_B3 (g := (i + 2, L, st, h)) ?_) (hF hc)
    unfold mB3
    rw [ho1]
    dsimp only
    unfold mIf
    rw [if_neg (fun e => (hq.mp e) hc)]
  · refine sStep he1 (by unfold nCl; rw [ho1]; intro q; cases q) (fun call => mStep_B3 (g := (j, L, st, h)) ?_) (hT hc)
    unfold mB3
    rw [ho1]
    dsimp only
    unfold mIf
    rw [if_pos (hq.mpr hc), hj]
theorem s_lsw {k : Int} {j : Nat} {o : Int} {ps : Array (Int × Int)} (he : cs[i]? = some en) (ho : en.2.1 = .lookupswitch o ps) (hk : sR k) (hj : mTgt en (mLk ps.toList 1 k) = j) (hr : nRn sc d rt cs (j, L, st, h) r) : nRn sc d rt cs (i, L, sI k :: st, h) r := by
  refine sStep he (by unfold nCl; rw [ho]; intro q; cases q) (fun call => mStep_B3 ?_) hr
  unfold mB3
  rw [ho]
  dsimp only
  rw [sR_i hk, hj]
end BITS2
/-! longs in the heap -/
noncomputable def hJ (h : mH) (a j : Nat) : Int64 := match aSlot h a j with
  | some (.long z) => z
  | _ => 0
noncomputable def zLng (a j : Nat) : Bool := match aT[a]? with
  | some t => decide (j < t.2.1) && t.2.2.all (fun g => decide (j < g.1) || (decide (g.2.1 < j) || (g.2.2.1 == 1 && (decide (g.2.2.2.1 ≤ -9223372036854775808) && decide (9223372036854775807 ≤ g.2.2.2.2)))))
  | none => false
theorem hJ_of {h : mH} {a j : Nat} {z : Int64} (hz : aSlot h a j = some (.long z)) : hJ h a j = z := by
  unfold hJ
  rw [hz]
theorem hJ_ok {h : mH} {a j : Nat} (hh : aHp h) (hz : zLng a j = true) : aSlot h a j = some (.long (hJ h a j)) := by
  unfold zLng at hz
  split at hz
  · rename_i t ht
    rw [Bool.and_eq_true, decide_eq_true_eq] at hz
    obtain ⟨hj, hz⟩ := hz
    obtain ⟨q, q1, q2, q3, q4⟩ := aHp_at hh ht
    obtain ⟨g, g1, g2, g3⟩ := aCv_at ht hj
    have h3 := List.all_eq_true.mp hz g g1
    simp only [Bool.or_eq_true, Bool.and_eq_true, decide_eq_true_eq, beq_iff_eq] at h3
    have hjq : j < q.2.length := by omega
    have h1 := q4 g g1 j _ g2 g3 (List.getElem?_eq_getElem hjq)
    unfold aIsT at h1
    rw [show g.2.2.1 = 1 by omega] at h1
    obtain ⟨z, z1, -⟩ := h1
    have h2 : aSlot h a j = some (.long z) := by rw [aSlot_of q1, List.getElem?_eq_getElem hjq, z1]
    rw [hJ_of h2]
    exact h2
  · cases hz
theorem hset_lng {h : mH} {a j : Nat} {z : Int64} (hh : aHp h) (hz : zLng a j = true) : aHp (hset h a j (.long z)) := by
  refine hset_hp hh (fun t g ht hg k1 k2 => ?_)
  unfold zLng at hz
  rw [ht] at hz
  dsimp only at hz
  rw [Bool.and_eq_true] at hz
  have h3 := List.all_eq_true.mp hz.2 g hg
  simp only [Bool.or_eq_true, Bool.and_eq_true, decide_eq_true_eq, beq_iff_eq] at h3
  have l1 := Int64.le_toInt z
  have l2 := Int64.toInt_lt z
  unfold aIsT
  rw [show g.2.2.1 = 1 by omega]
  exact ⟨z, rfl, by omega, by omega⟩
noncomputable def zDd (a j : Nat) : Bool := match aT[a]? with
  | some t => decide (j < t.2.1) && t.2.2.all (fun g => decide (j < g.1) || (decide (g.2.1 < j) || g.2.2.1 == 3))
  | none => false
theorem hD_ok {h : mH} {a j : Nat} (hh : aHp h) (hz : zDd a j = true) : ∃ s, s < 3 ∧ ∃ x, x < 6 ∧ ∃ y, y < 6 ∧ aSlot h a j = some (sI ((64 * s + 8 * x + y : Nat) : Int)) := by
  unfold zDd at hz
  split at hz
  · rename_i t ht
    rw [Bool.and_eq_true, decide_eq_true_eq] at hz
    obtain ⟨hj, hz⟩ := hz
    obtain ⟨q, q1, q2, q3, q4⟩ := aHp_at hh ht
    obtain ⟨g, g1, g2, g3⟩ := aCv_at ht hj
    have h3 := List.all_eq_true.mp hz g g1
    simp only [Bool.or_eq_true, decide_eq_true_eq, beq_iff_eq] at h3
    have hjq : j < q.2.length := by omega
    have h1 := q4 g g1 j _ g2 g3 (List.getElem?_eq_getElem hjq)
    unfold aIsT at h1
    rw [show g.2.2.1 = 3 by omega] at h1
    obtain ⟨z, z1, z2⟩ := h1
    obtain ⟨s, hs, x, hx, y, hy, e⟩ := d_out _ z2
    refine ⟨s, hs, x, hx, y, hy, ?_⟩
    rw [aSlot_of q1, List.getElem?_eq_getElem hjq, z1]
    unfold sI
    rw [← e, Int32.ofInt_toInt]
  · cases hz
theorem hset_dd {h : mH} {a j s x y : Nat} (hh : aHp h) (hz : zDd a j = true) (hs : s < 3) (hx : x < 6) (hy : y < 6) : aHp (hset h a j (sI ((64 * s + 8 * x + y : Nat) : Int))) := by
  refine hset_hp hh (fun t g ht hg k1 k2 => ?_)
  unfold zDd at hz
  rw [ht] at hz
  dsimp only at hz
  rw [Bool.and_eq_true] at hz
  have h3 := List.all_eq_true.mp hz.2 g hg
  simp only [Bool.or_eq_true, decide_eq_true_eq, beq_iff_eq] at h3
  unfold aIsT
  rw [show g.2.2.1 = 3 by omega]
  refine ⟨_, rfl, ?_⟩
  rw [sR_i (by unfold sR aMi aMa; omega)]
  exact d_in s hs x hx y hy
theorem xw_u : zCell 3 4 0 63 = true := by decide +kernel
theorem xw_iu : zIn 3 4 0 63 = true := by decide +kernel
theorem xw_id : zIn 3 5 0 40 = true := by decide +kernel
theorem xw_t : zLng 3 6 = true := by decide +kernel
theorem xw_q {j : Nat} (hj : j < 40) : zDd 6 j = true := (show ∀ j, j < 40 → zDd 6 j = true by decide +kernel) j hj
theorem xw_il {j : Nat} (hj : j < 36) : zIn 5 j 0 9 = true := (show ∀ j, j < 36 → zIn 5 j 0 9 = true by decide +kernel) j hj
theorem xw_l {j : Nat} (hj : j < 36) : zCell 5 j 0 9 = true := (show ∀ j, j < 36 → zCell 5 j 0 9 = true by decide +kernel) j hj
theorem xw_k {j : Nat} (hj : j < 6) : zCell 4 j 0 5 = true := (show ∀ j, j < 6 → zCell 4 j 0 5 = true by decide +kernel) j hj
theorem nw_u : zCell 58 43 0 63 = true := by decide +kernel
theorem nw_iu : zIn 58 43 0 63 = true := by decide +kernel
theorem nw_id : zIn 58 80 0 40 = true := by decide +kernel
theorem nw_t {j : Nat} (hj : j < 36) : zCell 58 (44 + j) 0 1 = true := (show ∀ j, j < 36 → zCell 58 (44 + j) 0 1 = true by decide +kernel) j hj
theorem nw_it {j : Nat} (hj : j < 36) : zIn 58 (44 + j) 0 1 = true := (show ∀ j, j < 36 → zIn 58 (44 + j) 0 1 = true by decide +kernel) j hj
theorem nw_q {j : Nat} (hj : j < 120) : zCell 58 (81 + j) 0 5 = true := (show ∀ j, j < 120 → zCell 58 (81 + j) 0 5 = true by decide +kernel) j hj
theorem nw_iq {j : Nat} (hj : j < 120) : zIn 58 (81 + j) 0 5 = true := (show ∀ j, j < 120 → zIn 58 (81 + j) 0 5 = true by decide +kernel) j hj
theorem nw_il {j : Nat} (hj : j < 36) : zIn 58 (7 + j) 0 9 = true := (show ∀ j, j < 36 → zIn 58 (7 + j) 0 9 = true by decide +kernel) j hj
/-- an int within its cell's range is written -/
theorem hset_ii {h : mH} {a j : Nat} {lo hi z : Int} (hh : aHp h) (hz : zIn a j lo hi = true) (h1 : lo ≤ z) (h2 : z ≤ hi) (hr : sR z) : aHp (hset h a j (sI z)) := hset_in hh hz (by rw [sR_i hr]; exact h1) (by rw [sR_i hr]; exact h2)
