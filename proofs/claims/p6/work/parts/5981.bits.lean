/-! bits of sets; switches; quotients -/
noncomputable def bt (s a : Nat) : Bool := decide (s / 2 ^ a % 2 = 1)
section BITS
variable {sc : List Int32} {d : Nat} {rt : Option FieldType} {cs : List mE} {i : Nat} {L : mL} {st : List Value} {h : mH} {r : mR} {en : mE}
theorem b_shr : ∀ s, s < 64 → ∀ a, a < 6 → (Int32.ofInt (s : Nat) >>> (Int32.ofInt (a : Nat) &&& 31)) = Int32.ofInt ((s / 2 ^ a : Nat) : Int) := by decide +kernel
theorem b_shl : ∀ a, a < 6 → (Int32.ofInt 1 <<< (Int32.ofInt (a : Nat) &&& 31)) = Int32.ofInt ((2 ^ a : Nat) : Int) := by decide +kernel
theorem b_and1 : ∀ s, s < 64 → (Int32.ofInt (s : Nat) &&& Int32.ofInt 1) = Int32.ofInt ((s % 2 : Nat) : Int) := by decide +kernel
theorem b_not : ∀ a, a < 6 → (Int32.ofInt ((2 ^ a : Nat) : Int) ^^^ Int32.ofInt (-1)) = Int32.ofInt (-((2 ^ a : Nat) : Int) - 1) := by decide +kernel
/-- a set without one -/
noncomputable def bwo (s a : Nat) : Nat := if bt s a = true then s - 2 ^ a else s
theorem b_wo : ∀ s, s < 64 → ∀ a, a < 6 → (Int32.ofInt (s : Nat) &&& Int32.ofInt (-((2 ^ a : Nat) : Int) - 1)) = Int32.ofInt ((bwo s a : Nat) : Int) := by decide +kernel
theorem bwo_lt : ∀ s, s < 64 → ∀ a, a < 6 → bwo s a < 64 := by decide +kernel
theorem bwo_bt : ∀ s, s < 64 → ∀ a, a < 6 → ∀ b, b < 6 → bt (bwo s a) b = (decide (b ≠ a) && bt s b) := by decide +kernel
theorem s_shr {s a : Nat} (he : cs[i]? = some en) (ho : en.2.1 = .ishr) (hs : s < 64) (ha : a < 6) (hr : nRn sc d rt cs (i + 1, L, sI ((s / 2 ^ a : Nat) : Int) :: st, h) r) : nRn sc d rt cs (i, L, sI (a : Int) :: sI (s : Int) :: st, h) r := by
  refine s_bin he ?_ hr
  unfold mB1
  rw [ho]
  dsimp only
  rw [b_shr s hs a ha]
theorem s_shl {a : Nat} (he : cs[i]? = some en) (ho : en.2.1 = .ishl) (ha : a < 6) (hr : nRn sc d rt cs (i + 1, L, sI ((2 ^ a : Nat) : Int) :: st, h) r) : nRn sc d rt cs (i, L, sI (a : Int) :: sI 1 :: st, h) r := by
  refine s_bin he ?_ hr
  unfold mB1
  rw [ho]
  dsimp only
  rw [b_shl a ha]
theorem s_and1 {s : Nat} (he : cs[i]? = some en) (ho : en.2.1 = .iand) (hs : s < 64) (hr : nRn sc d rt cs (i + 1, L, sI ((s % 2 : Nat) : Int) :: st, h) r) : nRn sc d rt cs (i, L, sI 1 :: sI (s : Int) :: st, h) r := by
  refine s_bin he ?_ hr
  unfold mB1
  rw [ho]
  dsimp only
  rw [b_and1 s hs]
theorem s_not {a : Nat} (he : cs[i]? = some en) (ho : en.2.1 = .ixor) (ha : a < 6) (hr : nRn sc d rt cs (i + 1, L, sI (-((2 ^ a : Nat) : Int) - 1) :: st, h) r) : nRn sc d rt cs (i, L, sI (-1) :: sI ((2 ^ a : Nat) : Int) :: st, h) r := by
  refine s_bin he ?_ hr
  unfold mB1
  rw [ho]
  dsimp only
  rw [b_not a ha]
theorem s_wo {s a : Nat} (he : cs[i]? = some en) (ho : en.2.1 = .iand) (hs : s < 64) (ha : a < 6) (hr : nRn sc d rt cs (i + 1, L, sI ((bwo s a : Nat) : Int) :: st, h) r) : nRn sc d rt cs (i, L, sI (-((2 ^ a : Nat) : Int) - 1) :: sI (s : Int) :: st, h) r := by
  refine s_bin he ?_ hr
  unfold mB1
  rw [ho]
  dsimp only
  rw [b_wo s hs a ha]
theorem s_div {a b : Int} (he : cs[i]? = some en) (ho : en.2.1 = .idiv) (a0 : 0 ≤ a) (a1 : a ≤ 1000000) (b0 : 0 < b) (b1 : b ≤ 1000000) (hr : nRn sc d rt cs (i + 1, L, sI (a / b) :: st, h) r) : nRn sc d rt cs (i, L, sI b :: sI a :: st, h) r := by
  refine s_bin he ?_ hr
  unfold mB1
  rw [ho]
  dsimp only
  have hb : sR b := by unfold sR aMi aMa; omega
  have ha : sR a := by unfold sR aMi aMa; omega
  have e0 : Int32.ofInt b ≠ 0 := fun q => by
    have := sR_inj hb (b := 0) (by unfold sR aMi aMa; omega) q
    omega
  have hq : a / b ≤ a := Int.ediv_le_self b a0
  have hp : 0 ≤ a / b := Int.ediv_nonneg a0 (by omega)
  have e1 : Int32.ofInt a / Int32.ofInt b = Int32.ofInt (a / b) := by
    apply Int32.toInt_inj.mp
    rw [Int32.toInt_div_of_ne_left _ _ (fun q => by
      have := congrArg Int32.toInt q
      rw [sR_i ha] at this
      have hm : Int32.minValue.toInt = -2147483648 := rfl
      omega), sR_i ha, sR_i hb, sR_i (by unfold sR aMi aMa; omega), Int.tdiv_eq_ediv_of_nonneg a0]
  rw [if_neg e0, e1]
noncomputable def mTsw (en : mE) (k : Int) : Nat := match en.2.1 with
  | .tableswitch _ lo hi _ => if k < lo ∨ hi < k then mTgt en 0 else mTgt en (1 + (k - lo).toNat)
  | _ => 0
theorem s_tsw {k : Int} {j : Nat} (he : cs[i]? = some en) (ho : ∃ z lo hi o, en.2.1 = .tableswitch z lo hi o) (hk : sR k) (hj : mTsw en k = j) (hr : nRn sc d rt cs (j, L, st, h) r) : nRn sc d rt cs (i, L, sI k :: st, h) r := by
  obtain ⟨z, lo, hi, o, ho⟩ := ho
  unfold mTsw at hj
  rw [ho] at hj
  dsimp only at hj
  refine sStep he (by unfold nCl; rw [ho]; intro q; cases q) (fun call => mStep_B3 ?_) hr
  unfold mB3
  rw [ho]
  dsimp only
  rw [sR_i hk]
  split
  · rename_i hc
    rw [if_pos hc] at hj
    rw [hj]
  · rename_i hc
    rw [if_neg hc] at hj
    rw [hj]
end BITS
