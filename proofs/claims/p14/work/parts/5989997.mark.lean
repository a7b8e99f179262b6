/-! mark -/
noncomputable def pIs (kd k : Nat) : Bool := decide (kd = k ∨ (k = 1 ∧ kd = 4) ∨ (k = 2 ∧ kd = 5))
theorem pIs_iff {kd k : Nat} : pIs kd k = true ↔ kd = k ∨ (k = 1 ∧ kd = 4) ∨ (k = 2 ∧ kd = 5) := by
  unfold pIs
  exact decide_eq_true_iff
noncomputable def hK (K : Nat → Int) (k : Nat) : Nat → Nat
  | 0 => 0
  | a + 1 => hK K k a + (if pIs (K a).toNat k = true then 1 else 0)
noncomputable def uT2 (G : Nat → Int) (a : Nat) : Nat → Nat
  | 0 => 0
  | b + 1 => uT2 G a b + (if b ≠ a ∧ G (6 * b + a) = 0 then 1 else 0)
noncomputable def eX (f : Nat → Nat → Bool) (a : Nat) : Nat → Option Nat
  | 0 => none
  | b + 1 => if b = a then eX f a b else match eX f a b with
    | none => some b
    | some w => if f b w = true then some b else some w
noncomputable def eV : Option Nat → Int
  | none => -9
  | some b => (b : Int)
theorem eX_lt (f : Nat → Nat → Bool) (a : Nat) : ∀ b w, eX f a b = some w → w < b
  | 0, w, h => by cases h
  | b + 1, w, h => by
    unfold eX at h
    split at h
    · have := eX_lt f a b w h
      omega
    · split at h
      · cases h
        omega
      · rename_i v hv
        split at h
        · cases h
          omega
        · cases h
          have := eX_lt f a b _ hv
          omega
theorem hK_le (K : Nat → Int) (k : Nat) : ∀ a, hK K k a ≤ a
  | 0 => Nat.le_refl _
  | a + 1 => by
    have := hK_le K k a
    unfold hK
    split <;> omega
theorem uT2_le (G : Nat → Int) (a : Nat) : ∀ b, uT2 G a b ≤ b
  | 0 => Nat.le_refl _
  | b + 1 => by
    have := uT2_le G a b
    unfold uT2
    split <;> omega
theorem hK_cg {K K1 : Nat → Int} {k n : Nat} (hg : ∀ a, a < n → K1 a = K a) : ∀ a, a ≤ n → hK K1 k a = hK K k a
  | 0, _ => rfl
  | a + 1, h => by
    unfold hK
    rw [hK_cg hg a (by omega), hg a (by omega)]
theorem uT2_cg {G G1 : Nat → Int} {a n : Nat} (hg : ∀ b, b < n → G1 (6 * b + a) = G (6 * b + a)) : ∀ b, b ≤ n → uT2 G1 a b = uT2 G a b
  | 0, _ => rfl
  | b + 1, h => by
    unfold uT2
    rw [uT2_cg hg b (by omega), hg b (by omega)]
theorem eX_cg {f g : Nat → Nat → Bool} {a n : Nat} (hg : ∀ b w, b < n → w < n → f b w = g b w) : ∀ b, b ≤ n → eX f a b = eX g a b
  | 0, _ => rfl
  | b + 1, h => by
    have ih := eX_cg (a := a) hg b (by omega)
    unfold eX
    rw [ih]
    split
    · rfl
    · split
      · rfl
      · rename_i w hw
        rw [hg b w (by omega) (by have := eX_lt g a b w hw; omega)]
noncomputable def gGr (G : Nat → Int) (a b w : Nat) : Bool := decide (G (6 * a + w) < G (6 * a + b))
noncomputable def gLe (G : Nat → Int) (a b w : Nat) : Bool := decide (G (6 * a + b) < G (6 * a + w))
section MARK
variable {sc : List Int32} {d : Nat} {h : mH}
theorem fIsA {kd k : Nat} (hk : kd < 6) (k1 : 1 ≤ k) (k5 : k ≤ 5) : nEv sc (d + 1) 50 [sI (kd : Int), sI (k : Int)] h (some (sI (if pIs kd k = true then 1 else 0)), h) := by
  have hp := @pIs_iff kd k
  refine nEv_of (t := mMe50) rfl ?_
  match kd, hk with
  | 0, _ =>
    show nRn sc d (mMT mMe50) (mMC mMe50) (0, [some (sI 0), some (sI (k : Int))], [], h) _
    refine sP 2 (g1 := (2, [some (sI 0), some (sI ((k : Int)))], [sI ((k : Int)), sI 0], h)) rfl ?_
    refine s_icmp (q := .eq) (a := 0) (b := (k : Int)) rfl ⟨_, rfl⟩ rfl (by unfold sR aMi aMa; omega) (by unfold sR aMi aMa; omega) (fun hc1 => ?_) (fun hc1 => ?_)
    · have hc1 : (0 : Int) = ((k : Int)) := hc1
      refine sP 2 (g1 := (11, [some (sI 0), some (sI ((k : Int)))], [sI 1], h)) rfl ?_
      exact s_reti rfl rfl (Or.inr ⟨rfl, by omega⟩) (by first | rw [if_pos (hp.mpr (by omega))] | rw [if_neg (fun q => by have := hp.mp q; omega)]) rfl
    · have hc1 : ¬ ((0 : Int) = ((k : Int))) := hc1
      refine s_stat (n := 2) rfl ⟨_, rfl⟩ rfl (by decide) ?_
      refine sP 1 (g1 := (5, [some (sI 0), some (sI ((k : Int)))], [sI 0, .retAddr 2], h)) rfl ?_
      refine s_iaX (n := 2) (j := 0) (z := 0) rfl rfl (by decide) (by decide) (by decide) ?_
      refine sP 1 (g1 := (7, [some (sI 0), some (sI ((k : Int)))], [sI ((k : Int)), sI 0], h)) rfl ?_
      refine s_icmp (q := .ne) (a := 0) (b := (k : Int)) rfl ⟨_, rfl⟩ rfl (by unfold sR aMi aMa; omega) (by unfold sR aMi aMa; omega) (fun hc2 => ?_) (fun hc2 => ?_)
      · have hc2 : (0 : Int) ≠ ((k : Int)) := hc2
        refine sP 1 (g1 := (11, [some (sI 0), some (sI ((k : Int)))], [sI 0], h)) rfl ?_
        exact s_reti rfl rfl (Or.inr ⟨rfl, by omega⟩) (by first | rw [if_pos (hp.mpr (by omega))] | rw [if_neg (fun q => by have := hp.mp q; omega)]) rfl
      · have hc2 : ¬ ((0 : Int) ≠ ((k : Int))) := hc2
        refine sP 2 (g1 := (11, [some (sI 0), some (sI ((k : Int)))], [sI 1], h)) rfl ?_
        exact s_reti rfl rfl (Or.inr ⟨rfl, by omega⟩) (by first | rw [if_pos (hp.mpr (by omega))] | rw [if_neg (fun q => by have := hp.mp q; omega)]) rfl
  | 1, _ =>
    show nRn sc d (mMT mMe50) (mMC mMe50) (0, [some (sI 1), some (sI (k : Int))], [], h) _
    refine sP 2 (g1 := (2, [some (sI 1), some (sI ((k : Int)))], [sI ((k : Int)), sI 1], h)) rfl ?_
    refine s_icmp (q := .eq) (a := 1) (b := (k : Int)) rfl ⟨_, rfl⟩ rfl (by unfold sR aMi aMa; omega) (by unfold sR aMi aMa; omega) (fun hc1 => ?_) (fun hc1 => ?_)
    · have hc1 : (1 : Int) = ((k : Int)) := hc1
      refine sP 2 (g1 := (11, [some (sI 1), some (sI ((k : Int)))], [sI 1], h)) rfl ?_
      exact s_reti rfl rfl (Or.inr ⟨rfl, by omega⟩) (by first | rw [if_pos (hp.mpr (by omega))] | rw [if_neg (fun q => by have := hp.mp q; omega)]) rfl
    · have hc1 : ¬ ((1 : Int) = ((k : Int))) := hc1
      refine s_stat (n := 2) rfl ⟨_, rfl⟩ rfl (by decide) ?_
      refine sP 1 (g1 := (5, [some (sI 1), some (sI ((k : Int)))], [sI 1, .retAddr 2], h)) rfl ?_
      refine s_iaX (n := 2) (j := 1) (z := 0) rfl rfl (by decide) (by decide) (by decide) ?_
      refine sP 1 (g1 := (7, [some (sI 1), some (sI ((k : Int)))], [sI ((k : Int)), sI 0], h)) rfl ?_
      refine s_icmp (q := .ne) (a := 0) (b := (k : Int)) rfl ⟨_, rfl⟩ rfl (by unfold sR aMi aMa; omega) (by unfold sR aMi aMa; omega) (fun hc2 => ?_) (fun hc2 => ?_)
      · have hc2 : (0 : Int) ≠ ((k : Int)) := hc2
        refine sP 1 (g1 := (11, [some (sI 1), some (sI ((k : Int)))], [sI 0], h)) rfl ?_
        exact s_reti rfl rfl (Or.inr ⟨rfl, by omega⟩) (by first | rw [if_pos (hp.mpr (by omega))] | rw [if_neg (fun q => by have := hp.mp q; omega)]) rfl
      · have hc2 : ¬ ((0 : Int) ≠ ((k : Int))) := hc2
        refine sP 2 (g1 := (11, [some (sI 1), some (sI ((k : Int)))], [sI 1], h)) rfl ?_
        exact s_reti rfl rfl (Or.inr ⟨rfl, by omega⟩) (by first | rw [if_pos (hp.mpr (by omega))] | rw [if_neg (fun q => by have := hp.mp q; omega)]) rfl
  | 2, _ =>
    show nRn sc d (mMT mMe50) (mMC mMe50) (0, [some (sI 2), some (sI (k : Int))], [], h) _
    refine sP 2 (g1 := (2, [some (sI 2), some (sI ((k : Int)))], [sI ((k : Int)), sI 2], h)) rfl ?_
    refine s_icmp (q := .eq) (a := 2) (b := (k : Int)) rfl ⟨_, rfl⟩ rfl (by unfold sR aMi aMa; omega) (by unfold sR aMi aMa; omega) (fun hc1 => ?_) (fun hc1 => ?_)
    · have hc1 : (2 : Int) = ((k : Int)) := hc1
      refine sP 2 (g1 := (11, [some (sI 2), some (sI ((k : Int)))], [sI 1], h)) rfl ?_
      exact s_reti rfl rfl (Or.inr ⟨rfl, by omega⟩) (by first | rw [if_pos (hp.mpr (by omega))] | rw [if_neg (fun q => by have := hp.mp q; omega)]) rfl
    · have hc1 : ¬ ((2 : Int) = ((k : Int))) := hc1
      refine s_stat (n := 2) rfl ⟨_, rfl⟩ rfl (by decide) ?_
      refine sP 1 (g1 := (5, [some (sI 2), some (sI ((k : Int)))], [sI 2, .retAddr 2], h)) rfl ?_
      refine s_iaX (n := 2) (j := 2) (z := 0) rfl rfl (by decide) (by decide) (by decide) ?_
      refine sP 1 (g1 := (7, [some (sI 2), some (sI ((k : Int)))], [sI ((k : Int)), sI 0], h)) rfl ?_
      refine s_icmp (q := .ne) (a := 0) (b := (k : Int)) rfl ⟨_, rfl⟩ rfl (by unfold sR aMi aMa; omega) (by unfold sR aMi aMa; omega) (fun hc2 => ?_) (fun hc2 => ?_)
      · have hc2 : (0 : Int) ≠ ((k : Int)) := hc2
        refine sP 1 (g1 := (11, [some (sI 2), some (sI ((k : Int)))], [sI 0], h)) rfl ?_
        exact s_reti rfl rfl (Or.inr ⟨rfl, by omega⟩) (by first | rw [if_pos (hp.mpr (by omega))] | rw [if_neg (fun q => by have := hp.mp q; omega)]) rfl
      · have hc2 : ¬ ((0 : Int) ≠ ((k : Int))) := hc2
        refine sP 2 (g1 := (11, [some (sI 2), some (sI ((k : Int)))], [sI 1], h)) rfl ?_
        exact s_reti rfl rfl (Or.inr ⟨rfl, by omega⟩) (by first | rw [if_pos (hp.mpr (by omega))] | rw [if_neg (fun q => by have := hp.mp q; omega)]) rfl
  | 3, _ =>
    show nRn sc d (mMT mMe50) (mMC mMe50) (0, [some (sI 3), some (sI (k : Int))], [], h) _
    refine sP 2 (g1 := (2, [some (sI 3), some (sI ((k : Int)))], [sI ((k : Int)), sI 3], h)) rfl ?_
    refine s_icmp (q := .eq) (a := 3) (b := (k : Int)) rfl ⟨_, rfl⟩ rfl (by unfold sR aMi aMa; omega) (by unfold sR aMi aMa; omega) (fun hc1 => ?_) (fun hc1 => ?_)
    · have hc1 : (3 : Int) = ((k : Int)) := hc1
      refine sP 2 (g1 := (11, [some (sI 3), some (sI ((k : Int)))], [sI 1], h)) rfl ?_
      exact s_reti rfl rfl (Or.inr ⟨rfl, by omega⟩) (by first | rw [if_pos (hp.mpr (by omega))] | rw [if_neg (fun q => by have := hp.mp q; omega)]) rfl
    · have hc1 : ¬ ((3 : Int) = ((k : Int))) := hc1
      refine s_stat (n := 2) rfl ⟨_, rfl⟩ rfl (by decide) ?_
      refine sP 1 (g1 := (5, [some (sI 3), some (sI ((k : Int)))], [sI 3, .retAddr 2], h)) rfl ?_
      refine s_iaX (n := 2) (j := 3) (z := 0) rfl rfl (by decide) (by decide) (by decide) ?_
      refine sP 1 (g1 := (7, [some (sI 3), some (sI ((k : Int)))], [sI ((k : Int)), sI 0], h)) rfl ?_
      refine s_icmp (q := .ne) (a := 0) (b := (k : Int)) rfl ⟨_, rfl⟩ rfl (by unfold sR aMi aMa; omega) (by unfold sR aMi aMa; omega) (fun hc2 => ?_) (fun hc2 => ?_)
      · have hc2 : (0 : Int) ≠ ((k : Int)) := hc2
        refine sP 1 (g1 := (11, [some (sI 3), some (sI ((k : Int)))], [sI 0], h)) rfl ?_
        exact s_reti rfl rfl (Or.inr ⟨rfl, by omega⟩) (by first | rw [if_pos (hp.mpr (by omega))] | rw [if_neg (fun q => by have := hp.mp q; omega)]) rfl
      · have hc2 : ¬ ((0 : Int) ≠ ((k : Int))) := hc2
        refine sP 2 (g1 := (11, [some (sI 3), some (sI ((k : Int)))], [sI 1], h)) rfl ?_
        exact s_reti rfl rfl (Or.inr ⟨rfl, by omega⟩) (by first | rw [if_pos (hp.mpr (by omega))] | rw [if_neg (fun q => by have := hp.mp q; omega)]) rfl
  | 4, _ =>
    show nRn sc d (mMT mMe50) (mMC mMe50) (0, [some (sI 4), some (sI (k : Int))], [], h) _
    refine sP 2 (g1 := (2, [some (sI 4), some (sI ((k : Int)))], [sI ((k : Int)), sI 4], h)) rfl ?_
    refine s_icmp (q := .eq) (a := 4) (b := (k : Int)) rfl ⟨_, rfl⟩ rfl (by unfold sR aMi aMa; omega) (by unfold sR aMi aMa; omega) (fun hc1 => ?_) (fun hc1 => ?_)
    · have hc1 : (4 : Int) = ((k : Int)) := hc1
      refine sP 2 (g1 := (11, [some (sI 4), some (sI ((k : Int)))], [sI 1], h)) rfl ?_
      exact s_reti rfl rfl (Or.inr ⟨rfl, by omega⟩) (by first | rw [if_pos (hp.mpr (by omega))] | rw [if_neg (fun q => by have := hp.mp q; omega)]) rfl
    · have hc1 : ¬ ((4 : Int) = ((k : Int))) := hc1
      refine s_stat (n := 2) rfl ⟨_, rfl⟩ rfl (by decide) ?_
      refine sP 1 (g1 := (5, [some (sI 4), some (sI ((k : Int)))], [sI 4, .retAddr 2], h)) rfl ?_
      refine s_iaX (n := 2) (j := 4) (z := 1) rfl rfl (by decide) (by decide) (by decide) ?_
      refine sP 1 (g1 := (7, [some (sI 4), some (sI ((k : Int)))], [sI ((k : Int)), sI 1], h)) rfl ?_
      refine s_icmp (q := .ne) (a := 1) (b := (k : Int)) rfl ⟨_, rfl⟩ rfl (by unfold sR aMi aMa; omega) (by unfold sR aMi aMa; omega) (fun hc2 => ?_) (fun hc2 => ?_)
      · have hc2 : (1 : Int) ≠ ((k : Int)) := hc2
        refine sP 1 (g1 := (11, [some (sI 4), some (sI ((k : Int)))], [sI 0], h)) rfl ?_
        exact s_reti rfl rfl (Or.inr ⟨rfl, by omega⟩) (by first | rw [if_pos (hp.mpr (by omega))] | rw [if_neg (fun q => by have := hp.mp q; omega)]) rfl
      · have hc2 : ¬ ((1 : Int) ≠ ((k : Int))) := hc2
        refine sP 2 (g1 := (11, [some (sI 4), some (sI ((k : Int)))], [sI 1], h)) rfl ?_
        exact s_reti rfl rfl (Or.inr ⟨rfl, by omega⟩) (by first | rw [if_pos (hp.mpr (by omega))] | rw [if_neg (fun q => by have := hp.mp q; omega)]) rfl
  | 5, _ =>
    show nRn sc d (mMT mMe50) (mMC mMe50) (0, [some (sI 5), some (sI (k : Int))], [], h) _
    refine sP 2 (g1 := (2, [some (sI 5), some (sI ((k : Int)))], [sI ((k : Int)), sI 5], h)) rfl ?_
    refine s_icmp (q := .eq) (a := 5) (b := (k : Int)) rfl ⟨_, rfl⟩ rfl (by unfold sR aMi aMa; omega) (by unfold sR aMi aMa; omega) (fun hc1 => ?_) (fun hc1 => ?_)
    · have hc1 : (5 : Int) = ((k : Int)) := hc1
      refine sP 2 (g1 := (11, [some (sI 5), some (sI ((k : Int)))], [sI 1], h)) rfl ?_
      exact s_reti rfl rfl (Or.inr ⟨rfl, by omega⟩) (by first | rw [if_pos (hp.mpr (by omega))] | rw [if_neg (fun q => by have := hp.mp q; omega)]) rfl
    · have hc1 : ¬ ((5 : Int) = ((k : Int))) := hc1
      refine s_stat (n := 2) rfl ⟨_, rfl⟩ rfl (by decide) ?_
      refine sP 1 (g1 := (5, [some (sI 5), some (sI ((k : Int)))], [sI 5, .retAddr 2], h)) rfl ?_
      refine s_iaX (n := 2) (j := 5) (z := 2) rfl rfl (by decide) (by decide) (by decide) ?_
      refine sP 1 (g1 := (7, [some (sI 5), some (sI ((k : Int)))], [sI ((k : Int)), sI 2], h)) rfl ?_
      refine s_icmp (q := .ne) (a := 2) (b := (k : Int)) rfl ⟨_, rfl⟩ rfl (by unfold sR aMi aMa; omega) (by unfold sR aMi aMa; omega) (fun hc2 => ?_) (fun hc2 => ?_)
      · have hc2 : (2 : Int) ≠ ((k : Int)) := hc2
        refine sP 1 (g1 := (11, [some (sI 5), some (sI ((k : Int)))], [sI 0], h)) rfl ?_
        exact s_reti rfl rfl (Or.inr ⟨rfl, by omega⟩) (by first | rw [if_pos (hp.mpr (by omega))] | rw [if_neg (fun q => by have := hp.mp q; omega)]) rfl
      · have hc2 : ¬ ((2 : Int) ≠ ((k : Int))) := hc2
        refine sP 2 (g1 := (11, [some (sI 5), some (sI ((k : Int)))], [sI 1], h)) rfl ?_
        exact s_reti rfl rfl (Or.inr ⟨rfl, by omega⟩) (by first | rw [if_pos (hp.mpr (by omega))] | rw [if_neg (fun q => by have := hp.mp q; omega)]) rfl
  | kd + 6, hk => exact absurd hk (by omega)
theorem fIsOf {kd k : Nat} (hk : kd < 6) (k1 : 1 ≤ k) (k5 : k ≤ 5) : nEv sc (d + 1) 158 [sI (kd : Int), sI (k : Int)] h (some (sI (if pIs kd k = true then 1 else 0)), h) := by
  have hp := @pIs_iff kd k
  refine nEv_of (t := mMe158) rfl ?_
  show nRn sc (d) (mMT mMe158) (mMC mMe158) (0, [some (sI ((kd : Int))), some (sI ((k : Int)))], [], h) _
  refine sP 2 (g1 := (2, [some (sI ((kd : Int))), some (sI ((k : Int)))], [sI ((k : Int)), sI ((kd : Int))], h)) rfl ?_
  refine s_icmp (q := .eq) (a := (kd : Int)) (b := (k : Int)) rfl ⟨_, rfl⟩ rfl (by unfold sR aMi aMa; omega) (by unfold sR aMi aMa; omega) (fun hc1 => ?_) (fun hc1 => ?_)
  · have hc1 : (((kd : Int)) : Int) = ((k : Int)) := hc1
    refine sP 2 (g1 := (20, [some (sI ((kd : Int))), some (sI ((k : Int)))], [sI 1], h)) rfl ?_
    exact s_reti rfl rfl (Or.inr ⟨rfl, by omega⟩) (by first | (exfalso; omega) | rw [if_pos (hp.mpr (by omega))] | rw [if_neg (fun q => by have := hp.mp q; omega)]) rfl
  · have hc1 : ¬ ((((kd : Int)) : Int) = ((k : Int))) := hc1
    refine sP 1 (g1 := (4, [some (sI ((kd : Int))), some (sI ((k : Int)))], [sI ((k : Int))], h)) rfl ?_
    refine s_ifc (q := .eq) (a := (k : Int)) rfl ⟨_, rfl⟩ rfl (by unfold sR aMi aMa; omega) (fun hc2 => ?_) (fun hc2 => ?_)
    · have hc2 : (((k : Int)) : Int) = 0 := hc2
      refine sP 2 (g1 := (20, [some (sI ((kd : Int))), some (sI ((k : Int)))], [sI 1], h)) rfl ?_
      exact s_reti rfl rfl (Or.inr ⟨rfl, by omega⟩) (by first | (exfalso; omega) | rw [if_pos (hp.mpr (by omega))] | rw [if_neg (fun q => by have := hp.mp q; omega)]) rfl
    · have hc2 : ¬ ((((k : Int)) : Int) = 0) := hc2
      refine sP 2 (g1 := (7, [some (sI ((kd : Int))), some (sI ((k : Int)))], [sI 1, sI ((k : Int))], h)) rfl ?_
      refine s_icmp (q := .ne) (a := (k : Int)) (b := 1) rfl ⟨_, rfl⟩ rfl (by unfold sR aMi aMa; omega) (by unfold sR aMi aMa; omega) (fun hc3 => ?_) (fun hc3 => ?_)
      · have hc3 : (((k : Int)) : Int) ≠ 1 := hc3
        refine sP 2 (g1 := (13, [some (sI ((kd : Int))), some (sI ((k : Int)))], [sI 2, sI ((k : Int))], h)) rfl ?_
        refine s_icmp (q := .ne) (a := (k : Int)) (b := 2) rfl ⟨_, rfl⟩ rfl (by unfold sR aMi aMa; omega) (by unfold sR aMi aMa; omega) (fun hc4 => ?_) (fun hc4 => ?_)
        · have hc4 : (((k : Int)) : Int) ≠ 2 := hc4
          refine sP 1 (g1 := (20, [some (sI ((kd : Int))), some (sI ((k : Int)))], [sI 0], h)) rfl ?_
          exact s_reti rfl rfl (Or.inr ⟨rfl, by omega⟩) (by first | (exfalso; omega) | rw [if_pos (hp.mpr (by omega))] | rw [if_neg (fun q => by have := hp.mp q; omega)]) rfl
        · have hc4 : ¬ ((((k : Int)) : Int) ≠ 2) := hc4
          refine sP 2 (g1 := (16, [some (sI ((kd : Int))), some (sI ((k : Int)))], [sI 5, sI ((kd : Int))], h)) rfl ?_
          refine s_icmp (q := .ne) (a := (kd : Int)) (b := 5) rfl ⟨_, rfl⟩ rfl (by unfold sR aMi aMa; omega) (by unfold sR aMi aMa; omega) (fun hc5 => ?_) (fun hc5 => ?_)
          · have hc5 : (((kd : Int)) : Int) ≠ 5 := hc5
            refine sP 1 (g1 := (20, [some (sI ((kd : Int))), some (sI ((k : Int)))], [sI 0], h)) rfl ?_
            exact s_reti rfl rfl (Or.inr ⟨rfl, by omega⟩) (by first | (exfalso; omega) | rw [if_pos (hp.mpr (by omega))] | rw [if_neg (fun q => by have := hp.mp q; omega)]) rfl
          · have hc5 : ¬ ((((kd : Int)) : Int) ≠ 5) := hc5
            refine sP 2 (g1 := (20, [some (sI ((kd : Int))), some (sI ((k : Int)))], [sI 1], h)) rfl ?_
            exact s_reti rfl rfl (Or.inr ⟨rfl, by omega⟩) (by first | (exfalso; omega) | rw [if_pos (hp.mpr (by omega))] | rw [if_neg (fun q => by have := hp.mp q; omega)]) rfl
      · have hc3 : ¬ ((((k : Int)) : Int) ≠ 1) := hc3
        refine sP 2 (g1 := (10, [some (sI ((kd : Int))), some (sI ((k : Int)))], [sI 4, sI ((kd : Int))], h)) rfl ?_
        refine s_icmp (q := .eq) (a := (kd : Int)) (b := 4) rfl ⟨_, rfl⟩ rfl (by unfold sR aMi aMa; omega) (by unfold sR aMi aMa; omega) (fun hc6 => ?_) (fun hc6 => ?_)
        · have hc6 : (((kd : Int)) : Int) = 4 := hc6
          refine sP 2 (g1 := (20, [some (sI ((kd : Int))), some (sI ((k : Int)))], [sI 1], h)) rfl ?_
          exact s_reti rfl rfl (Or.inr ⟨rfl, by omega⟩) (by first | (exfalso; omega) | rw [if_pos (hp.mpr (by omega))] | rw [if_neg (fun q => by have := hp.mp q; omega)]) rfl
        · have hc6 : ¬ ((((kd : Int)) : Int) = 4) := hc6
          refine sP 2 (g1 := (13, [some (sI ((kd : Int))), some (sI ((k : Int)))], [sI 2, sI ((k : Int))], h)) rfl ?_
          refine s_icmp (q := .ne) (a := (k : Int)) (b := 2) rfl ⟨_, rfl⟩ rfl (by unfold sR aMi aMa; omega) (by unfold sR aMi aMa; omega) (fun hc7 => ?_) (fun hc7 => ?_)
          · have hc7 : (((k : Int)) : Int) ≠ 2 := hc7
            refine sP 1 (g1 := (20, [some (sI ((kd : Int))), some (sI ((k : Int)))], [sI 0], h)) rfl ?_
            exact s_reti rfl rfl (Or.inr ⟨rfl, by omega⟩) (by first | (exfalso; omega) | rw [if_pos (hp.mpr (by omega))] | rw [if_neg (fun q => by have := hp.mp q; omega)]) rfl
          · have hc7 : ¬ ((((k : Int)) : Int) ≠ 2) := hc7
            refine sP 2 (g1 := (16, [some (sI ((kd : Int))), some (sI ((k : Int)))], [sI 5, sI ((kd : Int))], h)) rfl ?_
            refine s_icmp (q := .ne) (a := (kd : Int)) (b := 5) rfl ⟨_, rfl⟩ rfl (by unfold sR aMi aMa; omega) (by unfold sR aMi aMa; omega) (fun hc8 => ?_) (fun hc8 => ?_)
            · have hc8 : (((kd : Int)) : Int) ≠ 5 := hc8
              refine sP 1 (g1 := (20, [some (sI ((kd : Int))), some (sI ((k : Int)))], [sI 0], h)) rfl ?_
              exact s_reti rfl rfl (Or.inr ⟨rfl, by omega⟩) (by first | (exfalso; omega) | rw [if_pos (hp.mpr (by omega))] | rw [if_neg (fun q => by have := hp.mp q; omega)]) rfl
            · have hc8 : ¬ ((((kd : Int)) : Int) ≠ 5) := hc8
              refine sP 2 (g1 := (20, [some (sI ((kd : Int))), some (sI ((k : Int)))], [sI 1], h)) rfl ?_
              exact s_reti rfl rfl (Or.inr ⟨rfl, by omega⟩) (by first | (exfalso; omega) | rw [if_pos (hp.mpr (by omega))] | rw [if_neg (fun q => by have := hp.mp q; omega)]) rfl
theorem fHowManyL {n k : Nat} (hh : aHp h) (hn : hI h 3 3 = n) (k1 : 1 ≤ k) (k5 : k ≤ 5) : ∀ (c a : Nat), a + c = n → nRn sc (d + 1) (mMT mMe53) (mMC mMe53) (4, [some (.ref 3), some (sI (k : Int)), some (sI ((hK (hI h 4) k a : Nat) : Int)), some (sI (a : Int))], [], h) (some (sI ((hK (hI h 4) k n : Nat) : Int)), h) := by
  have gp := hI_rg hh xw_p
  intro c
  induction c with
  | zero =>
    intro a ha
    have hbn : a = n := by omega
    subst hbn
    have hl := hK_le (hI h 4) k a
    refine sP 2 (g1 := (6, [some (.ref 3), some (sI ((k : Int))), some (sI (((hK (hI h 4) k a : Nat) : Int))), some (sI ((a : Int)))], [.ref 3, sI ((a : Int))], h)) rfl ?_
    refine s_get (a := 3) (j := 3) hh rfl ⟨_, rfl⟩ rfl rfl rfl (v := sI (hI h 3 3)) (hI_ok hh xw_p) ?_
    refine s_icmp (q := .ge) (a := (a : Int)) (b := hI h 3 3) rfl ⟨_, rfl⟩ rfl (by unfold sR aMi aMa; omega) (by unfold sR aMi aMa; omega) (fun hc1 => ?_) (fun hc1 => ?_)
    · have hc1 : ((hI h 3 3) : Int) ≤ ((a : Int)) := hc1
      refine sP 1 (g1 := (19, [some (.ref 3), some (sI ((k : Int))), some (sI (((hK (hI h 4) k a : Nat) : Int))), some (sI ((a : Int)))], [sI (((hK (hI h 4) k a : Nat) : Int))], h)) rfl ?_
      exact s_reti rfl rfl (Or.inl rfl) rfl rfl
    · have hc1 : ¬ (((hI h 3 3) : Int) ≤ ((a : Int))) := hc1
      omega
  | succ c ih =>
    intro a ha
    have hl := hK_le (hI h 4) k a
    have gk := hI_rg hh (xw_k (show a < 6 by omega))
    obtain ⟨kd, ek⟩ := iN gk.1
    have ev := fIsA (sc := sc) (d := d) (h := h) (kd := kd) (k := k) (by omega) k1 k5
    have r1 := ih (a + 1) (by omega)
    have e1 : hK (hI h 4) k (a + 1) = hK (hI h 4) k a + (if pIs (hI h 4 a).toNat k = true then 1 else 0) := rfl
    rw [e1, show (hI h 4 a).toNat = kd by omega] at r1
    by_cases hc : pIs kd k = true
    · rw [if_pos hc] at ev r1
      refine sP 2 (g1 := (6, [some (.ref 3), some (sI ((k : Int))), some (sI (((hK (hI h 4) k a : Nat) : Int))), some (sI ((a : Int)))], [.ref 3, sI ((a : Int))], h)) rfl ?_
      refine s_get (a := 3) (j := 3) hh rfl ⟨_, rfl⟩ rfl rfl rfl (v := sI (hI h 3 3)) (hI_ok hh xw_p) ?_
      refine s_icmp (q := .ge) (a := (a : Int)) (b := hI h 3 3) rfl ⟨_, rfl⟩ rfl (by unfold sR aMi aMa; omega) (by unfold sR aMi aMa; omega) (fun hc1 => ?_) (fun hc1 => ?_)
      · have hc1 : ((hI h 3 3) : Int) ≤ ((a : Int)) := hc1
        omega
      · have hc1 : ¬ (((hI h 3 3) : Int) ≤ ((a : Int))) := hc1
        refine sP 1 (g1 := (9, [some (.ref 3), some (sI ((k : Int))), some (sI (((hK (hI h 4) k a : Nat) : Int))), some (sI ((a : Int)))], [.ref 3], h)) rfl ?_
        refine s_get (a := 3) (j := 0) hh rfl ⟨_, rfl⟩ rfl rfl rfl (v := .ref 4) (hR_ok hh (by decide +kernel)) ?_
        refine sP 1 (g1 := (11, [some (.ref 3), some (sI ((k : Int))), some (sI (((hK (hI h 4) k a : Nat) : Int))), some (sI ((a : Int)))], [sI ((a : Int)), .ref 4], h)) rfl ?_
        refine s_iald (a := 4) (n := 6) (j := (a : Int)) hh rfl rfl rfl (by omega) (by omega) (by decide) (v := sI ((kd : Int))) (by rw [Int.toNat_natCast]; have q := hI_ok hh (xw_k (show a < 6 by omega)); rw [ek] at q; exact q) ?_
        refine sP 1 (g1 := (13, [some (.ref 3), some (sI ((k : Int))), some (sI (((hK (hI h 4) k a : Nat) : Int))), some (sI ((a : Int)))], [sI ((k : Int)), sI ((kd : Int))], h)) rfl ?_
        refine s_call (k := 50) (args := [sI ((kd : Int)), sI ((k : Int))]) (st := []) (v := some (sI 1)) (h1 := h) rfl ⟨rfl, rfl⟩ rfl rfl rfl rfl rfl rfl ev ?_
        refine s_ifc (q := .eq) (a := 1) rfl ⟨_, rfl⟩ rfl (by unfold sR aMi aMa; omega) (fun hc2 => ?_) (fun hc2 => ?_)
        · have hc2 : (1 : Int) = 0 := hc2
          omega
        · have hc2 : ¬ ((1 : Int) = 0) := hc2
          refine s_inc (a := ((hK (hI h 4) k a : Nat) : Int)) (n := 1) (k := 2) rfl rfl rfl ?_
          refine s_inc (a := (a : Int)) (n := 1) (k := 3) rfl rfl rfl ?_
          refine sP 1 (g1 := (4, [some (.ref 3), some (sI ((k : Int))), some (sI ((((hK (hI h 4) k a : Nat) : Int)) + 1)), some (sI (((a : Int)) + 1))], [], h)) rfl ?_
          rw [show ((a : Int) + 1) = ((a + 1 : Nat) : Int) by omega, show (((hK (hI h 4) k a : Nat) : Int) + 1) = ((hK (hI h 4) k a + 1 : Nat) : Int) by omega]
          exact r1
    · rw [if_neg hc] at ev r1
      rw [Nat.add_zero] at r1
      refine sP 2 (g1 := (6, [some (.ref 3), some (sI ((k : Int))), some (sI (((hK (hI h 4) k a : Nat) : Int))), some (sI ((a : Int)))], [.ref 3, sI ((a : Int))], h)) rfl ?_
      refine s_get (a := 3) (j := 3) hh rfl ⟨_, rfl⟩ rfl rfl rfl (v := sI (hI h 3 3)) (hI_ok hh xw_p) ?_
      refine s_icmp (q := .ge) (a := (a : Int)) (b := hI h 3 3) rfl ⟨_, rfl⟩ rfl (by unfold sR aMi aMa; omega) (by unfold sR aMi aMa; omega) (fun hc1 => ?_) (fun hc1 => ?_)
      · have hc1 : ((hI h 3 3) : Int) ≤ ((a : Int)) := hc1
        omega
      · have hc1 : ¬ (((hI h 3 3) : Int) ≤ ((a : Int))) := hc1
        refine sP 1 (g1 := (9, [some (.ref 3), some (sI ((k : Int))), some (sI (((hK (hI h 4) k a : Nat) : Int))), some (sI ((a : Int)))], [.ref 3], h)) rfl ?_
        refine s_get (a := 3) (j := 0) hh rfl ⟨_, rfl⟩ rfl rfl rfl (v := .ref 4) (hR_ok hh (by decide +kernel)) ?_
        refine sP 1 (g1 := (11, [some (.ref 3), some (sI ((k : Int))), some (sI (((hK (hI h 4) k a : Nat) : Int))), some (sI ((a : Int)))], [sI ((a : Int)), .ref 4], h)) rfl ?_
        refine s_iald (a := 4) (n := 6) (j := (a : Int)) hh rfl rfl rfl (by omega) (by omega) (by decide) (v := sI ((kd : Int))) (by rw [Int.toNat_natCast]; have q := hI_ok hh (xw_k (show a < 6 by omega)); rw [ek] at q; exact q) ?_
        refine sP 1 (g1 := (13, [some (.ref 3), some (sI ((k : Int))), some (sI (((hK (hI h 4) k a : Nat) : Int))), some (sI ((a : Int)))], [sI ((k : Int)), sI ((kd : Int))], h)) rfl ?_
        refine s_call (k := 50) (args := [sI ((kd : Int)), sI ((k : Int))]) (st := []) (v := some (sI 0)) (h1 := h) rfl ⟨rfl, rfl⟩ rfl rfl rfl rfl rfl rfl ev ?_
        refine s_ifc (q := .eq) (a := 0) rfl ⟨_, rfl⟩ rfl (by unfold sR aMi aMa; omega) (fun hc2 => ?_) (fun hc2 => ?_)
        · have hc2 : (0 : Int) = 0 := hc2
          refine s_inc (a := (a : Int)) (n := 1) (k := 3) rfl rfl rfl ?_
          refine sP 1 (g1 := (4, [some (.ref 3), some (sI ((k : Int))), some (sI (((hK (hI h 4) k a : Nat) : Int))), some (sI (((a : Int)) + 1))], [], h)) rfl ?_
          rw [show ((a : Int) + 1) = ((a + 1 : Nat) : Int) by omega]
          exact r1
        · have hc2 : ¬ ((0 : Int) = 0) := hc2
          omega
theorem fHowMany {n k : Nat} (hh : aHp h) (hn : hI h 3 3 = n) (k1 : 1 ≤ k) (k5 : k ≤ 5) : nEv sc (d + 2) 53 [.ref 3, sI (k : Int)] h (some (sI ((hK (hI h 4) k n : Nat) : Int)), h) := by
  have r1 := fHowManyL (sc := sc) (d := d) hh hn k1 k5 n 0 (by omega)
  refine nEv_of (t := mMe53) rfl ?_
  show nRn sc (d + 1) (mMT mMe53) (mMC mMe53) (0, [some (.ref 3), some (sI (k : Int)), none, none], [], h) _
  refine sP 4 (g1 := (4, [some (.ref 3), some (sI (k : Int)), some (sI ((0 : Nat) : Int)), some (sI ((0 : Nat) : Int))], [], h)) rfl ?_
  exact r1
theorem fKindsOfL {n k : Nat} (hh : aHp h) (hn : hI h 58 0 = n) (k1 : 1 ≤ k) (k5 : k ≤ 5) : ∀ (c a : Nat), a + c = n → nRn sc (d + 1) (mMT mMe160) (mMC mMe160) (4, [some (.ref 53), some (sI (k : Int)), some (sI ((hK (fun a => hI h 58 (1 + a)) k a : Nat) : Int)), some (sI (a : Int))], [], h) (some (sI ((hK (fun a => hI h 58 (1 + a)) k n : Nat) : Int)), h) := by
  have gp := hI_rg hh nw_p
  intro c
  induction c with
  | zero =>
    intro a ha
    have hbn : a = n := by omega
    subst hbn
    have hl := hK_le (fun a => hI h 58 (1 + a)) k a
    refine sP 2 (g1 := (6, [some (.ref 53), some (sI ((k : Int))), some (sI (((hK (fun a => hI h 58 (1 + a)) k a : Nat) : Int))), some (sI ((a : Int)))], [.ref 53, sI ((a : Int))], h)) rfl ?_
    refine s_get (a := 53) (j := 4) hh rfl ⟨_, rfl⟩ rfl rfl rfl (v := .ref 58) (hR_ok hh (by decide +kernel)) ?_
    refine sP 1 (g1 := (8, [some (.ref 53), some (sI ((k : Int))), some (sI (((hK (fun a => hI h 58 (1 + a)) k a : Nat) : Int))), some (sI ((a : Int)))], [sI 0, .ref 58, sI ((a : Int))], h)) rfl ?_
    refine s_iald (a := 58) (n := 201) (j := 0) hh rfl rfl rfl (by omega) (by omega) (by decide) (v := sI (hI h 58 0)) (hI_ok hh nw_p) ?_
    refine s_icmp (q := .ge) (a := (a : Int)) (b := hI h 58 0) rfl ⟨_, rfl⟩ rfl (by unfold sR aMi aMa; omega) (by unfold sR aMi aMa; omega) (fun hc1 => ?_) (fun hc1 => ?_)
    · have hc1 : ((hI h 58 0) : Int) ≤ ((a : Int)) := hc1
      refine sP 1 (g1 := (28, [some (.ref 53), some (sI ((k : Int))), some (sI (((hK (fun a => hI h 58 (1 + a)) k a : Nat) : Int))), some (sI ((a : Int)))], [sI (((hK (fun a => hI h 58 (1 + a)) k a : Nat) : Int))], h)) rfl ?_
      exact s_reti rfl rfl (Or.inl rfl) rfl rfl
    · have hc1 : ¬ (((hI h 58 0) : Int) ≤ ((a : Int))) := hc1
      omega
  | succ c ih =>
    intro a ha
    have hl := hK_le (fun a => hI h 58 (1 + a)) k a
    have gk := hI_rg hh (nw_kd (show a < 6 by omega))
    obtain ⟨kd, ek⟩ := iN gk.1
    have ev := fIsOf (sc := sc) (d := d) (h := h) (kd := kd) (k := k) (by omega) k1 k5
    have r1 := ih (a + 1) (by omega)
    have e1 : hK (fun a => hI h 58 (1 + a)) k (a + 1) = hK (fun a => hI h 58 (1 + a)) k a + (if pIs (hI h 58 (1 + a)).toNat k = true then 1 else 0) := rfl
    rw [e1, show (hI h 58 (1 + a)).toNat = kd by omega] at r1
    by_cases hc : pIs kd k = true
    · rw [if_pos hc] at ev r1
      refine sP 2 (g1 := (6, [some (.ref 53), some (sI ((k : Int))), some (sI (((hK (fun a => hI h 58 (1 + a)) k a : Nat) : Int))), some (sI ((a : Int)))], [.ref 53, sI ((a : Int))], h)) rfl ?_
      refine s_get (a := 53) (j := 4) hh rfl ⟨_, rfl⟩ rfl rfl rfl (v := .ref 58) (hR_ok hh (by decide +kernel)) ?_
      refine sP 1 (g1 := (8, [some (.ref 53), some (sI ((k : Int))), some (sI (((hK (fun a => hI h 58 (1 + a)) k a : Nat) : Int))), some (sI ((a : Int)))], [sI 0, .ref 58, sI ((a : Int))], h)) rfl ?_
      refine s_iald (a := 58) (n := 201) (j := 0) hh rfl rfl rfl (by omega) (by omega) (by decide) (v := sI (hI h 58 0)) (hI_ok hh nw_p) ?_
      refine s_icmp (q := .ge) (a := (a : Int)) (b := hI h 58 0) rfl ⟨_, rfl⟩ rfl (by unfold sR aMi aMa; omega) (by unfold sR aMi aMa; omega) (fun hc1 => ?_) (fun hc1 => ?_)
      · have hc1 : ((hI h 58 0) : Int) ≤ ((a : Int)) := hc1
        omega
      · have hc1 : ¬ (((hI h 58 0) : Int) ≤ ((a : Int))) := hc1
        refine sP 2 (g1 := (12, [some (.ref 53), some (sI ((k : Int))), some (sI (((hK (fun a => hI h 58 (1 + a)) k a : Nat) : Int))), some (sI ((a : Int)))], [.ref 53, sI (((hK (fun a => hI h 58 (1 + a)) k a : Nat) : Int))], h)) rfl ?_
        refine s_get (a := 53) (j := 4) hh rfl ⟨_, rfl⟩ rfl rfl rfl (v := .ref 58) (hR_ok hh (by decide +kernel)) ?_
        refine sP 2 (g1 := (15, [some (.ref 53), some (sI ((k : Int))), some (sI (((hK (fun a => hI h 58 (1 + a)) k a : Nat) : Int))), some (sI ((a : Int)))], [sI ((a : Int)), sI 1, .ref 58, sI (((hK (fun a => hI h 58 (1 + a)) k a : Nat) : Int))], h)) rfl ?_
        refine s_add (a := 1) (b := (a : Int)) rfl rfl ?_
        refine s_iald (a := 58) (n := 201) (j := 1 + ((a : Int))) hh rfl rfl rfl (by omega) (by omega) (by decide) (v := sI ((kd : Int))) (by rw [show (1 + ((a : Int)) : Int).toNat = 1 + a by omega]; have q := hI_ok hh (nw_kd (show a < 6 by omega)); rw [ek] at q; exact q) ?_
        refine sP 1 (g1 := (18, [some (.ref 53), some (sI ((k : Int))), some (sI (((hK (fun a => hI h 58 (1 + a)) k a : Nat) : Int))), some (sI ((a : Int)))], [sI ((k : Int)), sI ((kd : Int)), sI (((hK (fun a => hI h 58 (1 + a)) k a : Nat) : Int))], h)) rfl ?_
        refine s_call (k := 158) (args := [sI ((kd : Int)), sI ((k : Int))]) (st := [sI (((hK (fun a => hI h 58 (1 + a)) k a : Nat) : Int))]) (v := some (sI 1)) (h1 := h) rfl ⟨rfl, rfl⟩ rfl rfl rfl rfl rfl rfl ev ?_
        refine s_ifc (q := .eq) (a := 1) rfl ⟨_, rfl⟩ rfl (by unfold sR aMi aMa; omega) (fun hc2 => ?_) (fun hc2 => ?_)
        · have hc2 : (1 : Int) = 0 := hc2
          omega
        · have hc2 : ¬ ((1 : Int) = 0) := hc2
          refine sP 2 (g1 := (23, [some (.ref 53), some (sI ((k : Int))), some (sI (((hK (fun a => hI h 58 (1 + a)) k a : Nat) : Int))), some (sI ((a : Int)))], [sI 1, sI (((hK (fun a => hI h 58 (1 + a)) k a : Nat) : Int))], h)) rfl ?_
          refine s_add (a := ((hK (fun a => hI h 58 (1 + a)) k a : Nat) : Int)) (b := 1) rfl rfl ?_
          refine sP 1 (g1 := (25, [some (.ref 53), some (sI ((k : Int))), some (sI ((((hK (fun a => hI h 58 (1 + a)) k a : Nat) : Int)) + 1)), some (sI ((a : Int)))], [], h)) rfl ?_
          refine s_inc (a := (a : Int)) (n := 1) (k := 3) rfl rfl rfl ?_
          refine sP 1 (g1 := (4, [some (.ref 53), some (sI ((k : Int))), some (sI ((((hK (fun a => hI h 58 (1 + a)) k a : Nat) : Int)) + 1)), some (sI (((a : Int)) + 1))], [], h)) rfl ?_
          rw [show ((a : Int) + 1) = ((a + 1 : Nat) : Int) by omega, show (((hK (fun a => hI h 58 (1 + a)) k a : Nat) : Int) + 1) = ((hK (fun a => hI h 58 (1 + a)) k a + 1 : Nat) : Int) by omega]
          exact r1
    · rw [if_neg hc] at ev r1
      rw [Nat.add_zero] at r1
      refine sP 2 (g1 := (6, [some (.ref 53), some (sI ((k : Int))), some (sI (((hK (fun a => hI h 58 (1 + a)) k a : Nat) : Int))), some (sI ((a : Int)))], [.ref 53, sI ((a : Int))], h)) rfl ?_
      refine s_get (a := 53) (j := 4) hh rfl ⟨_, rfl⟩ rfl rfl rfl (v := .ref 58) (hR_ok hh (by decide +kernel)) ?_
      refine sP 1 (g1 := (8, [some (.ref 53), some (sI ((k : Int))), some (sI (((hK (fun a => hI h 58 (1 + a)) k a : Nat) : Int))), some (sI ((a : Int)))], [sI 0, .ref 58, sI ((a : Int))], h)) rfl ?_
      refine s_iald (a := 58) (n := 201) (j := 0) hh rfl rfl rfl (by omega) (by omega) (by decide) (v := sI (hI h 58 0)) (hI_ok hh nw_p) ?_
      refine s_icmp (q := .ge) (a := (a : Int)) (b := hI h 58 0) rfl ⟨_, rfl⟩ rfl (by unfold sR aMi aMa; omega) (by unfold sR aMi aMa; omega) (fun hc1 => ?_) (fun hc1 => ?_)
      · have hc1 : ((hI h 58 0) : Int) ≤ ((a : Int)) := hc1
        omega
      · have hc1 : ¬ (((hI h 58 0) : Int) ≤ ((a : Int))) := hc1
        refine sP 2 (g1 := (12, [some (.ref 53), some (sI ((k : Int))), some (sI (((hK (fun a => hI h 58 (1 + a)) k a : Nat) : Int))), some (sI ((a : Int)))], [.ref 53, sI (((hK (fun a => hI h 58 (1 + a)) k a : Nat) : Int))], h)) rfl ?_
        refine s_get (a := 53) (j := 4) hh rfl ⟨_, rfl⟩ rfl rfl rfl (v := .ref 58) (hR_ok hh (by decide +kernel)) ?_
        refine sP 2 (g1 := (15, [some (.ref 53), some (sI ((k : Int))), some (sI (((hK (fun a => hI h 58 (1 + a)) k a : Nat) : Int))), some (sI ((a : Int)))], [sI ((a : Int)), sI 1, .ref 58, sI (((hK (fun a => hI h 58 (1 + a)) k a : Nat) : Int))], h)) rfl ?_
        refine s_add (a := 1) (b := (a : Int)) rfl rfl ?_
        refine s_iald (a := 58) (n := 201) (j := 1 + ((a : Int))) hh rfl rfl rfl (by omega) (by omega) (by decide) (v := sI ((kd : Int))) (by rw [show (1 + ((a : Int)) : Int).toNat = 1 + a by omega]; have q := hI_ok hh (nw_kd (show a < 6 by omega)); rw [ek] at q; exact q) ?_
        refine sP 1 (g1 := (18, [some (.ref 53), some (sI ((k : Int))), some (sI (((hK (fun a => hI h 58 (1 + a)) k a : Nat) : Int))), some (sI ((a : Int)))], [sI ((k : Int)), sI ((kd : Int)), sI (((hK (fun a => hI h 58 (1 + a)) k a : Nat) : Int))], h)) rfl ?_
        refine s_call (k := 158) (args := [sI ((kd : Int)), sI ((k : Int))]) (st := [sI (((hK (fun a => hI h 58 (1 + a)) k a : Nat) : Int))]) (v := some (sI 0)) (h1 := h) rfl ⟨rfl, rfl⟩ rfl rfl rfl rfl rfl rfl ev ?_
        refine s_ifc (q := .eq) (a := 0) rfl ⟨_, rfl⟩ rfl (by unfold sR aMi aMa; omega) (fun hc2 => ?_) (fun hc2 => ?_)
        · have hc2 : (0 : Int) = 0 := hc2
          refine sP 1 (g1 := (23, [some (.ref 53), some (sI ((k : Int))), some (sI (((hK (fun a => hI h 58 (1 + a)) k a : Nat) : Int))), some (sI ((a : Int)))], [sI 0, sI (((hK (fun a => hI h 58 (1 + a)) k a : Nat) : Int))], h)) rfl ?_
          refine s_add (a := ((hK (fun a => hI h 58 (1 + a)) k a : Nat) : Int)) (b := 0) rfl rfl ?_
          refine sP 1 (g1 := (25, [some (.ref 53), some (sI ((k : Int))), some (sI ((((hK (fun a => hI h 58 (1 + a)) k a : Nat) : Int)) + 0)), some (sI ((a : Int)))], [], h)) rfl ?_
          refine s_inc (a := (a : Int)) (n := 1) (k := 3) rfl rfl rfl ?_
          refine sP 1 (g1 := (4, [some (.ref 53), some (sI ((k : Int))), some (sI ((((hK (fun a => hI h 58 (1 + a)) k a : Nat) : Int)) + 0)), some (sI (((a : Int)) + 1))], [], h)) rfl ?_
          rw [show ((a : Int) + 1) = ((a + 1 : Nat) : Int) by omega, show (((hK (fun a => hI h 58 (1 + a)) k a : Nat) : Int) + 0) = ((hK (fun a => hI h 58 (1 + a)) k a : Nat) : Int) by omega]
          exact r1
        · have hc2 : ¬ ((0 : Int) = 0) := hc2
          omega
theorem fKindsOf {n k : Nat} (hh : aHp h) (hn : hI h 58 0 = n) (k1 : 1 ≤ k) (k5 : k ≤ 5) : nEv sc (d + 2) 160 [.ref 53, sI (k : Int)] h (some (sI ((hK (fun a => hI h 58 (1 + a)) k n : Nat) : Int)), h) := by
  have r1 := fKindsOfL (sc := sc) (d := d) hh hn k1 k5 n 0 (by omega)
  refine nEv_of (t := mMe160) rfl ?_
  show nRn sc (d + 1) (mMT mMe160) (mMC mMe160) (0, [some (.ref 53), some (sI (k : Int)), none, none], [], h) _
  refine sP 4 (g1 := (4, [some (.ref 53), some (sI (k : Int)), some (sI ((0 : Nat) : Int)), some (sI ((0 : Nat) : Int))], [], h)) rfl ?_
  exact r1
theorem fUnmadeToL {n a : Nat} (hh : aHp h) (hn : hI h 3 3 = n) (ha : a < 6) : ∀ (k b : Nat), b + k = n → nRn sc (d + 1) (mMT mMe54) (mMC mMe54) (4, [some (.ref 3), some (sI (a : Int)), some (sI ((uT2 (hI h 5) a b : Nat) : Int)), some (sI (b : Int))], [], h) (some (sI ((uT2 (hI h 5) a n : Nat) : Int)), h) := by
  have nn := hI_rg hh xw_p
  intro k
  induction k with
  | zero =>
    intro b hb
    have hbn : b = n := by omega
    subst hbn
    have ub := uT2_le (hI h 5) a b
    refine sP 2 (g1 := (6, [some (.ref 3), some (sI ((a : Int))), some (sI (((uT2 (hI h 5) a b : Nat) : Int))), some (sI ((b : Int)))], [.ref 3, sI ((b : Int))], h)) rfl ?_
    refine s_get (a := 3) (j := 3) hh rfl ⟨_, rfl⟩ rfl rfl rfl (v := sI (hI h 3 3)) (hI_ok hh xw_p) ?_
    refine s_icmp (q := .ge) (a := (b : Int)) (b := hI h 3 3) rfl ⟨_, rfl⟩ rfl (by unfold sR aMi aMa; omega) (by unfold sR aMi aMa; omega) (fun hc1 => ?_) (fun hc1 => ?_)
    · have hc1 : ((hI h 3 3) : Int) ≤ ((b : Int)) := hc1
      refine sP 1 (g1 := (20, [some (.ref 3), some (sI ((a : Int))), some (sI (((uT2 (hI h 5) a b : Nat) : Int))), some (sI ((b : Int)))], [sI (((uT2 (hI h 5) a b : Nat) : Int))], h)) rfl ?_
      exact s_reti rfl rfl (Or.inl rfl) rfl rfl
    · have hc1 : ¬ (((hI h 3 3) : Int) ≤ ((b : Int))) := hc1
      omega
  | succ k ih =>
    intro b hb
    have hb6 : b < 6 := by omega
    have ub := uT2_le (hI h 5) a b
    have r1 := ih (b + 1) (by omega)
    have e1 : uT2 (hI h 5) a (b + 1) = uT2 (hI h 5) a b + (if b ≠ a ∧ hI h 5 (6 * b + a) = 0 then 1 else 0) := rfl
    rw [e1] at r1
    have gl := hI_rg hh (xw_l (show 6 * b + a < 36 by omega))
    by_cases hc : b ≠ a ∧ hI h 5 (6 * b + a) = 0
    · rw [if_pos hc] at r1
      refine sP 2 (g1 := (6, [some (.ref 3), some (sI ((a : Int))), some (sI (((uT2 (hI h 5) a b : Nat) : Int))), some (sI ((b : Int)))], [.ref 3, sI ((b : Int))], h)) rfl ?_
      refine s_get (a := 3) (j := 3) hh rfl ⟨_, rfl⟩ rfl rfl rfl (v := sI (hI h 3 3)) (hI_ok hh xw_p) ?_
      refine s_icmp (q := .ge) (a := (b : Int)) (b := hI h 3 3) rfl ⟨_, rfl⟩ rfl (by unfold sR aMi aMa; omega) (by unfold sR aMi aMa; omega) (fun hc1 => ?_) (fun hc1 => ?_)
      · have hc1 : ((hI h 3 3) : Int) ≤ ((b : Int)) := hc1
        omega
      · have hc1 : ¬ (((hI h 3 3) : Int) ≤ ((b : Int))) := hc1
        refine sP 2 (g1 := (10, [some (.ref 3), some (sI ((a : Int))), some (sI (((uT2 (hI h 5) a b : Nat) : Int))), some (sI ((b : Int)))], [sI ((a : Int)), sI ((b : Int))], h)) rfl ?_
        refine s_icmp (q := .eq) (a := (b : Int)) (b := (a : Int)) rfl ⟨_, rfl⟩ rfl (by unfold sR aMi aMa; omega) (by unfold sR aMi aMa; omega) (fun hc2 => ?_) (fun hc2 => ?_)
        · have hc2 : (((b : Int)) : Int) = ((a : Int)) := hc2
          omega
        · have hc2 : ¬ ((((b : Int)) : Int) = ((a : Int))) := hc2
          refine sP 3 (g1 := (14, [some (.ref 3), some (sI ((a : Int))), some (sI (((uT2 (hI h 5) a b : Nat) : Int))), some (sI ((b : Int)))], [sI ((a : Int)), sI ((b : Int)), .ref 3], h)) rfl ?_
          refine s_call (k := 40) (args := [.ref 3, sI ((b : Int)), sI ((a : Int))]) (st := []) (v := some (sI (hI h 5 (6 * b + a)))) (h1 := h) rfl ⟨rfl, rfl⟩ rfl rfl rfl rfl (sRcv hh (a := 3) rfl rfl) rfl (fLookX (e := 3) hh (by decide) hb6 ha) ?_
          refine s_ifc (q := .ne) (a := hI h 5 (6 * b + a)) rfl ⟨_, rfl⟩ rfl (by unfold sR aMi aMa; omega) (fun hc3 => ?_) (fun hc3 => ?_)
          · have hc3 : ((hI h 5 (6 * b + a)) : Int) ≠ 0 := hc3
            omega
          · have hc3 : ¬ (((hI h 5 (6 * b + a)) : Int) ≠ 0) := hc3
            refine s_inc (a := ((uT2 (hI h 5) a b : Nat) : Int)) (n := 1) (k := 2) rfl rfl rfl ?_
            refine s_inc (a := (b : Int)) (n := 1) (k := 3) rfl rfl rfl ?_
            refine sP 1 (g1 := (4, [some (.ref 3), some (sI ((a : Int))), some (sI ((((uT2 (hI h 5) a b : Nat) : Int)) + 1)), some (sI (((b : Int)) + 1))], [], h)) rfl ?_
            rw [show ((b : Int) + 1) = ((b + 1 : Nat) : Int) by omega, show (((uT2 (hI h 5) a b : Nat) : Int) + 1) = ((uT2 (hI h 5) a b + 1 : Nat) : Int) by omega]
            exact r1
    · rw [if_neg hc] at r1
      refine sP 2 (g1 := (6, [some (.ref 3), some (sI ((a : Int))), some (sI (((uT2 (hI h 5) a b : Nat) : Int))), some (sI ((b : Int)))], [.ref 3, sI ((b : Int))], h)) rfl ?_
      refine s_get (a := 3) (j := 3) hh rfl ⟨_, rfl⟩ rfl rfl rfl (v := sI (hI h 3 3)) (hI_ok hh xw_p) ?_
      refine s_icmp (q := .ge) (a := (b : Int)) (b := hI h 3 3) rfl ⟨_, rfl⟩ rfl (by unfold sR aMi aMa; omega) (by unfold sR aMi aMa; omega) (fun hc1 => ?_) (fun hc1 => ?_)
      · have hc1 : ((hI h 3 3) : Int) ≤ ((b : Int)) := hc1
        omega
      · have hc1 : ¬ (((hI h 3 3) : Int) ≤ ((b : Int))) := hc1
        refine sP 2 (g1 := (10, [some (.ref 3), some (sI ((a : Int))), some (sI (((uT2 (hI h 5) a b : Nat) : Int))), some (sI ((b : Int)))], [sI ((a : Int)), sI ((b : Int))], h)) rfl ?_
        refine s_icmp (q := .eq) (a := (b : Int)) (b := (a : Int)) rfl ⟨_, rfl⟩ rfl (by unfold sR aMi aMa; omega) (by unfold sR aMi aMa; omega) (fun hc2 => ?_) (fun hc2 => ?_)
        · have hc2 : (((b : Int)) : Int) = ((a : Int)) := hc2
          refine s_inc (a := (b : Int)) (n := 1) (k := 3) rfl rfl rfl ?_
          refine sP 1 (g1 := (4, [some (.ref 3), some (sI ((a : Int))), some (sI (((uT2 (hI h 5) a b : Nat) : Int))), some (sI (((b : Int)) + 1))], [], h)) rfl ?_
          rw [show ((b : Int) + 1) = ((b + 1 : Nat) : Int) by omega]
          exact r1
        · have hc2 : ¬ ((((b : Int)) : Int) = ((a : Int))) := hc2
          refine sP 3 (g1 := (14, [some (.ref 3), some (sI ((a : Int))), some (sI (((uT2 (hI h 5) a b : Nat) : Int))), some (sI ((b : Int)))], [sI ((a : Int)), sI ((b : Int)), .ref 3], h)) rfl ?_
          refine s_call (k := 40) (args := [.ref 3, sI ((b : Int)), sI ((a : Int))]) (st := []) (v := some (sI (hI h 5 (6 * b + a)))) (h1 := h) rfl ⟨rfl, rfl⟩ rfl rfl rfl rfl (sRcv hh (a := 3) rfl rfl) rfl (fLookX (e := 3) hh (by decide) hb6 ha) ?_
          refine s_ifc (q := .ne) (a := hI h 5 (6 * b + a)) rfl ⟨_, rfl⟩ rfl (by unfold sR aMi aMa; omega) (fun hc3 => ?_) (fun hc3 => ?_)
          · have hc3 : ((hI h 5 (6 * b + a)) : Int) ≠ 0 := hc3
            refine s_inc (a := (b : Int)) (n := 1) (k := 3) rfl rfl rfl ?_
            refine sP 1 (g1 := (4, [some (.ref 3), some (sI ((a : Int))), some (sI (((uT2 (hI h 5) a b : Nat) : Int))), some (sI (((b : Int)) + 1))], [], h)) rfl ?_
            rw [show ((b : Int) + 1) = ((b + 1 : Nat) : Int) by omega]
            exact r1
          · have hc3 : ¬ (((hI h 5 (6 * b + a)) : Int) ≠ 0) := hc3
            omega
theorem fUnmadeTo {n a : Nat} (hh : aHp h) (hn : hI h 3 3 = n) (ha : a < 6) : nEv sc (d + 2) 54 [.ref 3, sI (a : Int)] h (some (sI ((uT2 (hI h 5) a n : Nat) : Int)), h) := by
  have r1 := fUnmadeToL (sc := sc) (d := d) hh hn ha n 0 (by omega)
  refine nEv_of (t := mMe54) rfl ?_
  show nRn sc (d + 1) (mMT mMe54) (mMC mMe54) (0, [some (.ref 3), some (sI (a : Int)), none, none], [], h) _
  refine sP 4 (g1 := (4, [some (.ref 3), some (sI (a : Int)), some (sI ((0 : Nat) : Int)), some (sI ((0 : Nat) : Int))], [], h)) rfl ?_
  exact r1
theorem fUnmetToL {n a : Nat} (hh : aHp h) (hn : hI h 58 0 = n) (ha : a < 6) : ∀ (k b : Nat), b + k = n → nRn sc (d + 1) (mMT mMe161) (mMC mMe161) (4, [some (.ref 53), some (sI (a : Int)), some (sI ((uT2 (fun j => hI h 58 (7 + j)) a b : Nat) : Int)), some (sI (b : Int))], [], h) (some (sI ((uT2 (fun j => hI h 58 (7 + j)) a n : Nat) : Int)), h) := by
  have nn := hI_rg hh nw_p
  intro k
  induction k with
  | zero =>
    intro b hb
    have hbn : b = n := by omega
    subst hbn
    have ub := uT2_le (fun j => hI h 58 (7 + j)) a b
    refine sP 2 (g1 := (6, [some (.ref 53), some (sI ((a : Int))), some (sI (((uT2 (fun j => hI h 58 (7 + j)) a b : Nat) : Int))), some (sI ((b : Int)))], [.ref 53, sI ((b : Int))], h)) rfl ?_
    refine s_get (a := 53) (j := 4) hh rfl ⟨_, rfl⟩ rfl rfl rfl (v := .ref 58) (hR_ok hh (by decide +kernel)) ?_
    refine sP 1 (g1 := (8, [some (.ref 53), some (sI ((a : Int))), some (sI (((uT2 (fun j => hI h 58 (7 + j)) a b : Nat) : Int))), some (sI ((b : Int)))], [sI 0, .ref 58, sI ((b : Int))], h)) rfl ?_
    refine s_iald (a := 58) (n := 201) (j := 0) hh rfl rfl rfl (by omega) (by omega) (by decide) (v := sI (hI h 58 0)) (hI_ok hh nw_p) ?_
    refine s_icmp (q := .ge) (a := (b : Int)) (b := hI h 58 0) rfl ⟨_, rfl⟩ rfl (by unfold sR aMi aMa; omega) (by unfold sR aMi aMa; omega) (fun hc1 => ?_) (fun hc1 => ?_)
    · have hc1 : ((hI h 58 0) : Int) ≤ ((b : Int)) := hc1
      refine sP 1 (g1 := (27, [some (.ref 53), some (sI ((a : Int))), some (sI (((uT2 (fun j => hI h 58 (7 + j)) a b : Nat) : Int))), some (sI ((b : Int)))], [sI (((uT2 (fun j => hI h 58 (7 + j)) a b : Nat) : Int))], h)) rfl ?_
      exact s_reti rfl rfl (Or.inl rfl) rfl rfl
    · have hc1 : ¬ (((hI h 58 0) : Int) ≤ ((b : Int))) := hc1
      omega
  | succ k ih =>
    intro b hb
    have hb6 : b < 6 := by omega
    have ub := uT2_le (fun j => hI h 58 (7 + j)) a b
    have r1 := ih (b + 1) (by omega)
    have e1 : uT2 (fun j => hI h 58 (7 + j)) a (b + 1) = uT2 (fun j => hI h 58 (7 + j)) a b + (if b ≠ a ∧ hI h 58 (7 + (6 * b + a)) = 0 then 1 else 0) := rfl
    rw [e1] at r1
    have gl := hI_rg hh (nw_lk (show 6 * b + a < 36 by omega))
    by_cases hc : b ≠ a ∧ hI h 58 (7 + (6 * b + a)) = 0
    · rw [if_pos hc] at r1
      refine sP 2 (g1 := (6, [some (.ref 53), some (sI ((a : Int))), some (sI (((uT2 (fun j => hI h 58 (7 + j)) a b : Nat) : Int))), some (sI ((b : Int)))], [.ref 53, sI ((b : Int))], h)) rfl ?_
      refine s_get (a := 53) (j := 4) hh rfl ⟨_, rfl⟩ rfl rfl rfl (v := .ref 58) (hR_ok hh (by decide +kernel)) ?_
      refine sP 1 (g1 := (8, [some (.ref 53), some (sI ((a : Int))), some (sI (((uT2 (fun j => hI h 58 (7 + j)) a b : Nat) : Int))), some (sI ((b : Int)))], [sI 0, .ref 58, sI ((b : Int))], h)) rfl ?_
      refine s_iald (a := 58) (n := 201) (j := 0) hh rfl rfl rfl (by omega) (by omega) (by decide) (v := sI (hI h 58 0)) (hI_ok hh nw_p) ?_
      refine s_icmp (q := .ge) (a := (b : Int)) (b := hI h 58 0) rfl ⟨_, rfl⟩ rfl (by unfold sR aMi aMa; omega) (by unfold sR aMi aMa; omega) (fun hc1 => ?_) (fun hc1 => ?_)
      · have hc1 : ((hI h 58 0) : Int) ≤ ((b : Int)) := hc1
        omega
      · have hc1 : ¬ (((hI h 58 0) : Int) ≤ ((b : Int))) := hc1
        refine sP 3 (g1 := (13, [some (.ref 53), some (sI ((a : Int))), some (sI (((uT2 (fun j => hI h 58 (7 + j)) a b : Nat) : Int))), some (sI ((b : Int)))], [sI ((a : Int)), sI ((b : Int)), sI (((uT2 (fun j => hI h 58 (7 + j)) a b : Nat) : Int))], h)) rfl ?_
        refine s_icmp (q := .eq) (a := (b : Int)) (b := (a : Int)) rfl ⟨_, rfl⟩ rfl (by unfold sR aMi aMa; omega) (by unfold sR aMi aMa; omega) (fun hc2 => ?_) (fun hc2 => ?_)
        · have hc2 : (((b : Int)) : Int) = ((a : Int)) := hc2
          omega
        · have hc2 : ¬ ((((b : Int)) : Int) = ((a : Int))) := hc2
          refine sP 3 (g1 := (17, [some (.ref 53), some (sI ((a : Int))), some (sI (((uT2 (fun j => hI h 58 (7 + j)) a b : Nat) : Int))), some (sI ((b : Int)))], [sI ((a : Int)), sI ((b : Int)), .ref 53, sI (((uT2 (fun j => hI h 58 (7 + j)) a b : Nat) : Int))], h)) rfl ?_
          refine s_call (k := 152) (args := [.ref 53, sI ((b : Int)), sI ((a : Int))]) (st := [sI (((uT2 (fun j => hI h 58 (7 + j)) a b : Nat) : Int))]) (v := some (sI (hI h 58 (7 + (6 * b + a))))) (h1 := h) rfl ⟨rfl, rfl⟩ rfl rfl rfl rfl (sRcv hh (a := 53) rfl rfl) rfl (fLookM hh hb6 ha) ?_
          refine s_ifc (q := .ne) (a := hI h 58 (7 + (6 * b + a))) rfl ⟨_, rfl⟩ rfl (by unfold sR aMi aMa; omega) (fun hc3 => ?_) (fun hc3 => ?_)
          · have hc3 : ((hI h 58 (7 + (6 * b + a))) : Int) ≠ 0 := hc3
            omega
          · have hc3 : ¬ (((hI h 58 (7 + (6 * b + a))) : Int) ≠ 0) := hc3
            refine sP 2 (g1 := (22, [some (.ref 53), some (sI ((a : Int))), some (sI (((uT2 (fun j => hI h 58 (7 + j)) a b : Nat) : Int))), some (sI ((b : Int)))], [sI 1, sI (((uT2 (fun j => hI h 58 (7 + j)) a b : Nat) : Int))], h)) rfl ?_
            refine s_add (a := ((uT2 (fun j => hI h 58 (7 + j)) a b : Nat) : Int)) (b := 1) rfl rfl ?_
            refine sP 1 (g1 := (24, [some (.ref 53), some (sI ((a : Int))), some (sI ((((uT2 (fun j => hI h 58 (7 + j)) a b : Nat) : Int)) + 1)), some (sI ((b : Int)))], [], h)) rfl ?_
            refine s_inc (a := (b : Int)) (n := 1) (k := 3) rfl rfl rfl ?_
            refine sP 1 (g1 := (4, [some (.ref 53), some (sI ((a : Int))), some (sI ((((uT2 (fun j => hI h 58 (7 + j)) a b : Nat) : Int)) + 1)), some (sI (((b : Int)) + 1))], [], h)) rfl ?_
            rw [show ((b : Int) + 1) = ((b + 1 : Nat) : Int) by omega, show (((uT2 (fun j => hI h 58 (7 + j)) a b : Nat) : Int) + 1) = ((uT2 (fun j => hI h 58 (7 + j)) a b + 1 : Nat) : Int) by omega]
            exact r1
    · rw [if_neg hc] at r1
      refine sP 2 (g1 := (6, [some (.ref 53), some (sI ((a : Int))), some (sI (((uT2 (fun j => hI h 58 (7 + j)) a b : Nat) : Int))), some (sI ((b : Int)))], [.ref 53, sI ((b : Int))], h)) rfl ?_
      refine s_get (a := 53) (j := 4) hh rfl ⟨_, rfl⟩ rfl rfl rfl (v := .ref 58) (hR_ok hh (by decide +kernel)) ?_
      refine sP 1 (g1 := (8, [some (.ref 53), some (sI ((a : Int))), some (sI (((uT2 (fun j => hI h 58 (7 + j)) a b : Nat) : Int))), some (sI ((b : Int)))], [sI 0, .ref 58, sI ((b : Int))], h)) rfl ?_
      refine s_iald (a := 58) (n := 201) (j := 0) hh rfl rfl rfl (by omega) (by omega) (by decide) (v := sI (hI h 58 0)) (hI_ok hh nw_p) ?_
      refine s_icmp (q := .ge) (a := (b : Int)) (b := hI h 58 0) rfl ⟨_, rfl⟩ rfl (by unfold sR aMi aMa; omega) (by unfold sR aMi aMa; omega) (fun hc1 => ?_) (fun hc1 => ?_)
      · have hc1 : ((hI h 58 0) : Int) ≤ ((b : Int)) := hc1
        omega
      · have hc1 : ¬ (((hI h 58 0) : Int) ≤ ((b : Int))) := hc1
        refine sP 3 (g1 := (13, [some (.ref 53), some (sI ((a : Int))), some (sI (((uT2 (fun j => hI h 58 (7 + j)) a b : Nat) : Int))), some (sI ((b : Int)))], [sI ((a : Int)), sI ((b : Int)), sI (((uT2 (fun j => hI h 58 (7 + j)) a b : Nat) : Int))], h)) rfl ?_
        refine s_icmp (q := .eq) (a := (b : Int)) (b := (a : Int)) rfl ⟨_, rfl⟩ rfl (by unfold sR aMi aMa; omega) (by unfold sR aMi aMa; omega) (fun hc2 => ?_) (fun hc2 => ?_)
        · have hc2 : (((b : Int)) : Int) = ((a : Int)) := hc2
          refine sP 1 (g1 := (22, [some (.ref 53), some (sI ((a : Int))), some (sI (((uT2 (fun j => hI h 58 (7 + j)) a b : Nat) : Int))), some (sI ((b : Int)))], [sI 0, sI (((uT2 (fun j => hI h 58 (7 + j)) a b : Nat) : Int))], h)) rfl ?_
          refine s_add (a := ((uT2 (fun j => hI h 58 (7 + j)) a b : Nat) : Int)) (b := 0) rfl rfl ?_
          refine sP 1 (g1 := (24, [some (.ref 53), some (sI ((a : Int))), some (sI ((((uT2 (fun j => hI h 58 (7 + j)) a b : Nat) : Int)) + 0)), some (sI ((b : Int)))], [], h)) rfl ?_
          refine s_inc (a := (b : Int)) (n := 1) (k := 3) rfl rfl rfl ?_
          refine sP 1 (g1 := (4, [some (.ref 53), some (sI ((a : Int))), some (sI ((((uT2 (fun j => hI h 58 (7 + j)) a b : Nat) : Int)) + 0)), some (sI (((b : Int)) + 1))], [], h)) rfl ?_
          rw [show ((b : Int) + 1) = ((b + 1 : Nat) : Int) by omega, show (((uT2 (fun j => hI h 58 (7 + j)) a b : Nat) : Int) + 0) = ((uT2 (fun j => hI h 58 (7 + j)) a b + 0 : Nat) : Int) by omega]
          exact r1
        · have hc2 : ¬ ((((b : Int)) : Int) = ((a : Int))) := hc2
          refine sP 3 (g1 := (17, [some (.ref 53), some (sI ((a : Int))), some (sI (((uT2 (fun j => hI h 58 (7 + j)) a b : Nat) : Int))), some (sI ((b : Int)))], [sI ((a : Int)), sI ((b : Int)), .ref 53, sI (((uT2 (fun j => hI h 58 (7 + j)) a b : Nat) : Int))], h)) rfl ?_
          refine s_call (k := 152) (args := [.ref 53, sI ((b : Int)), sI ((a : Int))]) (st := [sI (((uT2 (fun j => hI h 58 (7 + j)) a b : Nat) : Int))]) (v := some (sI (hI h 58 (7 + (6 * b + a))))) (h1 := h) rfl ⟨rfl, rfl⟩ rfl rfl rfl rfl (sRcv hh (a := 53) rfl rfl) rfl (fLookM hh hb6 ha) ?_
          refine s_ifc (q := .ne) (a := hI h 58 (7 + (6 * b + a))) rfl ⟨_, rfl⟩ rfl (by unfold sR aMi aMa; omega) (fun hc3 => ?_) (fun hc3 => ?_)
          · have hc3 : ((hI h 58 (7 + (6 * b + a))) : Int) ≠ 0 := hc3
            refine sP 1 (g1 := (22, [some (.ref 53), some (sI ((a : Int))), some (sI (((uT2 (fun j => hI h 58 (7 + j)) a b : Nat) : Int))), some (sI ((b : Int)))], [sI 0, sI (((uT2 (fun j => hI h 58 (7 + j)) a b : Nat) : Int))], h)) rfl ?_
            refine s_add (a := ((uT2 (fun j => hI h 58 (7 + j)) a b : Nat) : Int)) (b := 0) rfl rfl ?_
            refine sP 1 (g1 := (24, [some (.ref 53), some (sI ((a : Int))), some (sI ((((uT2 (fun j => hI h 58 (7 + j)) a b : Nat) : Int)) + 0)), some (sI ((b : Int)))], [], h)) rfl ?_
            refine s_inc (a := (b : Int)) (n := 1) (k := 3) rfl rfl rfl ?_
            refine sP 1 (g1 := (4, [some (.ref 53), some (sI ((a : Int))), some (sI ((((uT2 (fun j => hI h 58 (7 + j)) a b : Nat) : Int)) + 0)), some (sI (((b : Int)) + 1))], [], h)) rfl ?_
            rw [show ((b : Int) + 1) = ((b + 1 : Nat) : Int) by omega, show (((uT2 (fun j => hI h 58 (7 + j)) a b : Nat) : Int) + 0) = ((uT2 (fun j => hI h 58 (7 + j)) a b + 0 : Nat) : Int) by omega]
            exact r1
          · have hc3 : ¬ (((hI h 58 (7 + (6 * b + a))) : Int) ≠ 0) := hc3
            omega
theorem fUnmetTo {n a : Nat} (hh : aHp h) (hn : hI h 58 0 = n) (ha : a < 6) : nEv sc (d + 2) 161 [.ref 53, sI (a : Int)] h (some (sI ((uT2 (fun j => hI h 58 (7 + j)) a n : Nat) : Int)), h) := by
  have r1 := fUnmetToL (sc := sc) (d := d) hh hn ha n 0 (by omega)
  refine nEv_of (t := mMe161) rfl ?_
  show nRn sc (d + 1) (mMT mMe161) (mMC mMe161) (0, [some (.ref 53), some (sI (a : Int)), none, none], [], h) _
  refine sP 4 (g1 := (4, [some (.ref 53), some (sI (a : Int)), some (sI ((0 : Nat) : Int)), some (sI ((0 : Nat) : Int))], [], h)) rfl ?_
  exact r1
theorem fGreatestL {n a : Nat} (hh : aHp h) (hn : hI h 3 3 = n) (ha : a < 6) : ∀ (k b : Nat), b + k = n → nRn sc (d + 1) (mMT mMe51) (mMC mMe51) (4, [some (.ref 3), some (sI (a : Int)), some (sI (eV (eX (gGr (hI h 5) a) a b))), some (sI (b : Int))], [], h) (some (sI (eV (eX (gGr (hI h 5) a) a n))), h) := by
  have nn := hI_rg hh xw_p
  intro k
  induction k with
  | zero =>
    intro b hb
    have hbn : b = n := by omega
    subst hbn
    refine sP 2 (g1 := (6, [some (.ref 3), some (sI ((a : Int))), some (sI (eV (eX (gGr (hI h 5) a) a b))), some (sI ((b : Int)))], [.ref 3, sI ((b : Int))], h)) rfl ?_
    refine s_get (a := 3) (j := 3) hh rfl ⟨_, rfl⟩ rfl rfl rfl (v := sI (hI h 3 3)) (hI_ok hh xw_p) ?_
    refine s_icmp (q := .ge) (a := (b : Int)) (b := hI h 3 3) rfl ⟨_, rfl⟩ rfl (by unfold sR aMi aMa; omega) (by unfold sR aMi aMa; omega) (fun hc1 => ?_) (fun hc1 => ?_)
    · have hc1 : ((hI h 3 3) : Int) ≤ ((b : Int)) := hc1
      refine sP 1 (g1 := (28, [some (.ref 3), some (sI ((a : Int))), some (sI (eV (eX (gGr (hI h 5) a) a b))), some (sI ((b : Int)))], [sI (eV (eX (gGr (hI h 5) a) a b))], h)) rfl ?_
      exact s_reti rfl rfl (Or.inl rfl) rfl rfl
    · have hc1 : ¬ (((hI h 3 3) : Int) ≤ ((b : Int))) := hc1
      omega
  | succ k ih =>
    intro b hb
    have hb6 : b < 6 := by omega
    have r1 := ih (b + 1) (by omega)
    have e1 : eX (gGr (hI h 5) a) a (b + 1) = if b = a then eX (gGr (hI h 5) a) a b else match eX (gGr (hI h 5) a) a b with
      | none => some b
      | some w => if (gGr (hI h 5) a) b w = true then some b else some w := rfl
    by_cases h1 : b = a
    · rw [if_pos h1] at e1
      rw [e1] at r1
      generalize eV (eX (gGr (hI h 5) a) a b) = ev at *
      refine sP 2 (g1 := (6, [some (.ref 3), some (sI ((a : Int))), some (sI ev), some (sI ((b : Int)))], [.ref 3, sI ((b : Int))], h)) rfl ?_
      refine s_get (a := 3) (j := 3) hh rfl ⟨_, rfl⟩ rfl rfl rfl (v := sI (hI h 3 3)) (hI_ok hh xw_p) ?_
      refine s_icmp (q := .ge) (a := (b : Int)) (b := hI h 3 3) rfl ⟨_, rfl⟩ rfl (by unfold sR aMi aMa; omega) (by unfold sR aMi aMa; omega) (fun hc1 => ?_) (fun hc1 => ?_)
      · have hc1 : ((hI h 3 3) : Int) ≤ ((b : Int)) := hc1
        omega
      · have hc1 : ¬ (((hI h 3 3) : Int) ≤ ((b : Int))) := hc1
        refine sP 2 (g1 := (10, [some (.ref 3), some (sI ((a : Int))), some (sI ev), some (sI ((b : Int)))], [sI ((a : Int)), sI ((b : Int))], h)) rfl ?_
        refine s_icmp (q := .eq) (a := (b : Int)) (b := (a : Int)) rfl ⟨_, rfl⟩ rfl (by unfold sR aMi aMa; omega) (by unfold sR aMi aMa; omega) (fun hc2 => ?_) (fun hc2 => ?_)
        · have hc2 : (((b : Int)) : Int) = ((a : Int)) := hc2
          refine s_inc (a := (b : Int)) (n := 1) (k := 3) rfl rfl rfl ?_
          refine sP 1 (g1 := (4, [some (.ref 3), some (sI ((a : Int))), some (sI ev), some (sI (((b : Int)) + 1))], [], h)) rfl ?_
          rw [show ((b : Int) + 1) = ((b + 1 : Nat) : Int) by omega]
          exact r1
        · have hc2 : ¬ ((((b : Int)) : Int) = ((a : Int))) := hc2
          omega
    · rw [if_neg h1] at e1
      cases hw : eX (gGr (hI h 5) a) a b with
      | none =>
        rw [hw] at e1
        dsimp only at e1
        rw [e1] at r1
        show nRn sc (d + 1) (mMT mMe51) (mMC mMe51) (4, [some (.ref 3), some (sI ((a : Int))), some (sI ((-9))), some (sI ((b : Int)))], [], h) _
        refine sP 2 (g1 := (6, [some (.ref 3), some (sI ((a : Int))), some (sI ((-9))), some (sI ((b : Int)))], [.ref 3, sI ((b : Int))], h)) rfl ?_
        refine s_get (a := 3) (j := 3) hh rfl ⟨_, rfl⟩ rfl rfl rfl (v := sI (hI h 3 3)) (hI_ok hh xw_p) ?_
        refine s_icmp (q := .ge) (a := (b : Int)) (b := hI h 3 3) rfl ⟨_, rfl⟩ rfl (by unfold sR aMi aMa; omega) (by unfold sR aMi aMa; omega) (fun hc1 => ?_) (fun hc1 => ?_)
        · have hc1 : ((hI h 3 3) : Int) ≤ ((b : Int)) := hc1
          omega
        · have hc1 : ¬ (((hI h 3 3) : Int) ≤ ((b : Int))) := hc1
          refine sP 2 (g1 := (10, [some (.ref 3), some (sI ((a : Int))), some (sI ((-9))), some (sI ((b : Int)))], [sI ((a : Int)), sI ((b : Int))], h)) rfl ?_
          refine s_icmp (q := .eq) (a := (b : Int)) (b := (a : Int)) rfl ⟨_, rfl⟩ rfl (by unfold sR aMi aMa; omega) (by unfold sR aMi aMa; omega) (fun hc2 => ?_) (fun hc2 => ?_)
          · have hc2 : (((b : Int)) : Int) = ((a : Int)) := hc2
            omega
          · have hc2 : ¬ ((((b : Int)) : Int) = ((a : Int))) := hc2
            refine sP 2 (g1 := (13, [some (.ref 3), some (sI ((a : Int))), some (sI ((-9))), some (sI ((b : Int)))], [sI ((-9)), sI ((-9))], h)) rfl ?_
            refine s_icmp (q := .eq) (a := (-9)) (b := (-9)) rfl ⟨_, rfl⟩ rfl (by unfold sR aMi aMa; omega) (by unfold sR aMi aMa; omega) (fun hc3 => ?_) (fun hc3 => ?_)
            · have hc3 : (((-9)) : Int) = ((-9)) := hc3
              refine sP 2 (g1 := (25, [some (.ref 3), some (sI ((a : Int))), some (sI ((b : Int))), some (sI ((b : Int)))], [], h)) rfl ?_
              refine s_inc (a := (b : Int)) (n := 1) (k := 3) rfl rfl rfl ?_
              refine sP 1 (g1 := (4, [some (.ref 3), some (sI ((a : Int))), some (sI ((b : Int))), some (sI (((b : Int)) + 1))], [], h)) rfl ?_
              rw [show ((b : Int) + 1) = ((b + 1 : Nat) : Int) by omega]
              exact r1
            · have hc3 : ¬ ((((-9)) : Int) = ((-9))) := hc3
              omega
      | some w =>
        have hl := eX_lt _ _ _ _ hw
        have hw6 : w < 6 := by omega
        rw [hw] at e1
        dsimp only at e1
        have g1 := hI_rg hh (xw_l (show 6 * a + b < 36 by omega))
        have g2 := hI_rg hh (xw_l (show 6 * a + w < 36 by omega))
        have hf : (gGr (hI h 5) a) b w = true ↔ hI h 5 (6 * a + w) < hI h 5 (6 * a + b) := by unfold gGr; exact decide_eq_true_iff
        by_cases h2 : hI h 5 (6 * a + w) < hI h 5 (6 * a + b)
        · rw [if_pos (hf.mpr h2)] at e1
          rw [e1] at r1
          show nRn sc (d + 1) (mMT mMe51) (mMC mMe51) (4, [some (.ref 3), some (sI ((a : Int))), some (sI ((w : Int))), some (sI ((b : Int)))], [], h) _
          refine sP 2 (g1 := (6, [some (.ref 3), some (sI ((a : Int))), some (sI ((w : Int))), some (sI ((b : Int)))], [.ref 3, sI ((b : Int))], h)) rfl ?_
          refine s_get (a := 3) (j := 3) hh rfl ⟨_, rfl⟩ rfl rfl rfl (v := sI (hI h 3 3)) (hI_ok hh xw_p) ?_
          refine s_icmp (q := .ge) (a := (b : Int)) (b := hI h 3 3) rfl ⟨_, rfl⟩ rfl (by unfold sR aMi aMa; omega) (by unfold sR aMi aMa; omega) (fun hc1 => ?_) (fun hc1 => ?_)
          · have hc1 : ((hI h 3 3) : Int) ≤ ((b : Int)) := hc1
            omega
          · have hc1 : ¬ (((hI h 3 3) : Int) ≤ ((b : Int))) := hc1
            refine sP 2 (g1 := (10, [some (.ref 3), some (sI ((a : Int))), some (sI ((w : Int))), some (sI ((b : Int)))], [sI ((a : Int)), sI ((b : Int))], h)) rfl ?_
            refine s_icmp (q := .eq) (a := (b : Int)) (b := (a : Int)) rfl ⟨_, rfl⟩ rfl (by unfold sR aMi aMa; omega) (by unfold sR aMi aMa; omega) (fun hc2 => ?_) (fun hc2 => ?_)
            · have hc2 : (((b : Int)) : Int) = ((a : Int)) := hc2
              omega
            · have hc2 : ¬ ((((b : Int)) : Int) = ((a : Int))) := hc2
              refine sP 2 (g1 := (13, [some (.ref 3), some (sI ((a : Int))), some (sI ((w : Int))), some (sI ((b : Int)))], [sI ((-9)), sI ((w : Int))], h)) rfl ?_
              refine s_icmp (q := .eq) (a := (w : Int)) (b := (-9)) rfl ⟨_, rfl⟩ rfl (by unfold sR aMi aMa; omega) (by unfold sR aMi aMa; omega) (fun hc3 => ?_) (fun hc3 => ?_)
              · have hc3 : (((w : Int)) : Int) = ((-9)) := hc3
                omega
              · have hc3 : ¬ ((((w : Int)) : Int) = ((-9))) := hc3
                refine sP 3 (g1 := (17, [some (.ref 3), some (sI ((a : Int))), some (sI ((w : Int))), some (sI ((b : Int)))], [sI ((b : Int)), sI ((a : Int)), .ref 3], h)) rfl ?_
                refine s_call (k := 40) (args := [.ref 3, sI ((a : Int)), sI ((b : Int))]) (st := []) (v := some (sI (hI h 5 (6 * a + b)))) (h1 := h) rfl ⟨rfl, rfl⟩ rfl rfl rfl rfl (sRcv hh (a := 3) rfl rfl) rfl (fLookX (e := 3) hh (by decide) ha hb6) ?_
                refine sP 3 (g1 := (21, [some (.ref 3), some (sI ((a : Int))), some (sI ((w : Int))), some (sI ((b : Int)))], [sI ((w : Int)), sI ((a : Int)), .ref 3, sI (hI h 5 (6 * a + b))], h)) rfl ?_
                refine s_call (k := 40) (args := [.ref 3, sI ((a : Int)), sI ((w : Int))]) (st := [sI (hI h 5 (6 * a + b))]) (v := some (sI (hI h 5 (6 * a + w)))) (h1 := h) rfl ⟨rfl, rfl⟩ rfl rfl rfl rfl (sRcv hh (a := 3) rfl rfl) rfl (fLookX (e := 3) hh (by decide) ha hw6) ?_
                refine s_icmp (q := .le) (a := hI h 5 (6 * a + b)) (b := hI h 5 (6 * a + w)) rfl ⟨_, rfl⟩ rfl (by unfold sR aMi aMa; omega) (by unfold sR aMi aMa; omega) (fun hc4 => ?_) (fun hc4 => ?_)
                · have hc4 : ((hI h 5 (6 * a + b)) : Int) ≤ (hI h 5 (6 * a + w)) := hc4
                  omega
                · have hc4 : ¬ (((hI h 5 (6 * a + b)) : Int) ≤ (hI h 5 (6 * a + w))) := hc4
                  refine sP 2 (g1 := (25, [some (.ref 3), some (sI ((a : Int))), some (sI ((b : Int))), some (sI ((b : Int)))], [], h)) rfl ?_
                  refine s_inc (a := (b : Int)) (n := 1) (k := 3) rfl rfl rfl ?_
                  refine sP 1 (g1 := (4, [some (.ref 3), some (sI ((a : Int))), some (sI ((b : Int))), some (sI (((b : Int)) + 1))], [], h)) rfl ?_
                  rw [show ((b : Int) + 1) = ((b + 1 : Nat) : Int) by omega]
                  exact r1
        · rw [if_neg (fun q => h2 (hf.mp q))] at e1
          rw [e1] at r1
          show nRn sc (d + 1) (mMT mMe51) (mMC mMe51) (4, [some (.ref 3), some (sI ((a : Int))), some (sI ((w : Int))), some (sI ((b : Int)))], [], h) _
          refine sP 2 (g1 := (6, [some (.ref 3), some (sI ((a : Int))), some (sI ((w : Int))), some (sI ((b : Int)))], [.ref 3, sI ((b : Int))], h)) rfl ?_
          refine s_get (a := 3) (j := 3) hh rfl ⟨_, rfl⟩ rfl rfl rfl (v := sI (hI h 3 3)) (hI_ok hh xw_p) ?_
          refine s_icmp (q := .ge) (a := (b : Int)) (b := hI h 3 3) rfl ⟨_, rfl⟩ rfl (by unfold sR aMi aMa; omega) (by unfold sR aMi aMa; omega) (fun hc1 => ?_) (fun hc1 => ?_)
          · have hc1 : ((hI h 3 3) : Int) ≤ ((b : Int)) := hc1
            omega
          · have hc1 : ¬ (((hI h 3 3) : Int) ≤ ((b : Int))) := hc1
            refine sP 2 (g1 := (10, [some (.ref 3), some (sI ((a : Int))), some (sI ((w : Int))), some (sI ((b : Int)))], [sI ((a : Int)), sI ((b : Int))], h)) rfl ?_
            refine s_icmp (q := .eq) (a := (b : Int)) (b := (a : Int)) rfl ⟨_, rfl⟩ rfl (by unfold sR aMi aMa; omega) (by unfold sR aMi aMa; omega) (fun hc2 => ?_) (fun hc2 => ?_)
            · have hc2 : (((b : Int)) : Int) = ((a : Int)) := hc2
              omega
            · have hc2 : ¬ ((((b : Int)) : Int) = ((a : Int))) := hc2
              refine sP 2 (g1 := (13, [some (.ref 3), some (sI ((a : Int))), some (sI ((w : Int))), some (sI ((b : Int)))], [sI ((-9)), sI ((w : Int))], h)) rfl ?_
              refine s_icmp (q := .eq) (a := (w : Int)) (b := (-9)) rfl ⟨_, rfl⟩ rfl (by unfold sR aMi aMa; omega) (by unfold sR aMi aMa; omega) (fun hc3 => ?_) (fun hc3 => ?_)
              · have hc3 : (((w : Int)) : Int) = ((-9)) := hc3
                omega
              · have hc3 : ¬ ((((w : Int)) : Int) = ((-9))) := hc3
                refine sP 3 (g1 := (17, [some (.ref 3), some (sI ((a : Int))), some (sI ((w : Int))), some (sI ((b : Int)))], [sI ((b : Int)), sI ((a : Int)), .ref 3], h)) rfl ?_
                refine s_call (k := 40) (args := [.ref 3, sI ((a : Int)), sI ((b : Int))]) (st := []) (v := some (sI (hI h 5 (6 * a + b)))) (h1 := h) rfl ⟨rfl, rfl⟩ rfl rfl rfl rfl (sRcv hh (a := 3) rfl rfl) rfl (fLookX (e := 3) hh (by decide) ha hb6) ?_
                refine sP 3 (g1 := (21, [some (.ref 3), some (sI ((a : Int))), some (sI ((w : Int))), some (sI ((b : Int)))], [sI ((w : Int)), sI ((a : Int)), .ref 3, sI (hI h 5 (6 * a + b))], h)) rfl ?_
                refine s_call (k := 40) (args := [.ref 3, sI ((a : Int)), sI ((w : Int))]) (st := [sI (hI h 5 (6 * a + b))]) (v := some (sI (hI h 5 (6 * a + w)))) (h1 := h) rfl ⟨rfl, rfl⟩ rfl rfl rfl rfl (sRcv hh (a := 3) rfl rfl) rfl (fLookX (e := 3) hh (by decide) ha hw6) ?_
                refine s_icmp (q := .le) (a := hI h 5 (6 * a + b)) (b := hI h 5 (6 * a + w)) rfl ⟨_, rfl⟩ rfl (by unfold sR aMi aMa; omega) (by unfold sR aMi aMa; omega) (fun hc4 => ?_) (fun hc4 => ?_)
                · have hc4 : ((hI h 5 (6 * a + b)) : Int) ≤ (hI h 5 (6 * a + w)) := hc4
                  refine s_inc (a := (b : Int)) (n := 1) (k := 3) rfl rfl rfl ?_
                  refine sP 1 (g1 := (4, [some (.ref 3), some (sI ((a : Int))), some (sI ((w : Int))), some (sI (((b : Int)) + 1))], [], h)) rfl ?_
                  rw [show ((b : Int) + 1) = ((b + 1 : Nat) : Int) by omega]
                  exact r1
                · have hc4 : ¬ (((hI h 5 (6 * a + b)) : Int) ≤ (hI h 5 (6 * a + w))) := hc4
                  omega
theorem fGreatest {n a : Nat} (hh : aHp h) (hn : hI h 3 3 = n) (ha : a < 6) : nEv sc (d + 2) 51 [.ref 3, sI (a : Int)] h (some (sI (eV (eX (gGr (hI h 5) a) a n))), h) := by
  have r1 := fGreatestL (sc := sc) (d := d) hh hn ha n 0 (by omega)
  refine nEv_of (t := mMe51) rfl ?_
  show nRn sc (d + 1) (mMT mMe51) (mMC mMe51) (0, [some (.ref 3), some (sI (a : Int)), none, none], [], h) _
  refine sP 4 (g1 := (4, [some (.ref 3), some (sI (a : Int)), some (sI (-9)), some (sI ((0 : Nat) : Int))], [], h)) rfl ?_
  exact r1
theorem fLeastL {n a : Nat} (hh : aHp h) (hn : hI h 3 3 = n) (ha : a < 6) : ∀ (k b : Nat), b + k = n → nRn sc (d + 1) (mMT mMe52) (mMC mMe52) (4, [some (.ref 3), some (sI (a : Int)), some (sI (eV (eX (gLe (hI h 5) a) a b))), some (sI (b : Int))], [], h) (some (sI (eV (eX (gLe (hI h 5) a) a n))), h) := by
  have nn := hI_rg hh xw_p
  intro k
  induction k with
  | zero =>
    intro b hb
    have hbn : b = n := by omega
    subst hbn
    refine sP 2 (g1 := (6, [some (.ref 3), some (sI ((a : Int))), some (sI (eV (eX (gLe (hI h 5) a) a b))), some (sI ((b : Int)))], [.ref 3, sI ((b : Int))], h)) rfl ?_
    refine s_get (a := 3) (j := 3) hh rfl ⟨_, rfl⟩ rfl rfl rfl (v := sI (hI h 3 3)) (hI_ok hh xw_p) ?_
    refine s_icmp (q := .ge) (a := (b : Int)) (b := hI h 3 3) rfl ⟨_, rfl⟩ rfl (by unfold sR aMi aMa; omega) (by unfold sR aMi aMa; omega) (fun hc1 => ?_) (fun hc1 => ?_)
    · have hc1 : ((hI h 3 3) : Int) ≤ ((b : Int)) := hc1
      refine sP 1 (g1 := (28, [some (.ref 3), some (sI ((a : Int))), some (sI (eV (eX (gLe (hI h 5) a) a b))), some (sI ((b : Int)))], [sI (eV (eX (gLe (hI h 5) a) a b))], h)) rfl ?_
      exact s_reti rfl rfl (Or.inl rfl) rfl rfl
    · have hc1 : ¬ (((hI h 3 3) : Int) ≤ ((b : Int))) := hc1
      omega
  | succ k ih =>
    intro b hb
    have hb6 : b < 6 := by omega
    have r1 := ih (b + 1) (by omega)
    have e1 : eX (gLe (hI h 5) a) a (b + 1) = if b = a then eX (gLe (hI h 5) a) a b else match eX (gLe (hI h 5) a) a b with
      | none => some b
      | some w => if (gLe (hI h 5) a) b w = true then some b else some w := rfl
    by_cases h1 : b = a
    · rw [if_pos h1] at e1
      rw [e1] at r1
      generalize eV (eX (gLe (hI h 5) a) a b) = ev at *
      refine sP 2 (g1 := (6, [some (.ref 3), some (sI ((a : Int))), some (sI ev), some (sI ((b : Int)))], [.ref 3, sI ((b : Int))], h)) rfl ?_
      refine s_get (a := 3) (j := 3) hh rfl ⟨_, rfl⟩ rfl rfl rfl (v := sI (hI h 3 3)) (hI_ok hh xw_p) ?_
      refine s_icmp (q := .ge) (a := (b : Int)) (b := hI h 3 3) rfl ⟨_, rfl⟩ rfl (by unfold sR aMi aMa; omega) (by unfold sR aMi aMa; omega) (fun hc1 => ?_) (fun hc1 => ?_)
      · have hc1 : ((hI h 3 3) : Int) ≤ ((b : Int)) := hc1
        omega
      · have hc1 : ¬ (((hI h 3 3) : Int) ≤ ((b : Int))) := hc1
        refine sP 2 (g1 := (10, [some (.ref 3), some (sI ((a : Int))), some (sI ev), some (sI ((b : Int)))], [sI ((a : Int)), sI ((b : Int))], h)) rfl ?_
        refine s_icmp (q := .eq) (a := (b : Int)) (b := (a : Int)) rfl ⟨_, rfl⟩ rfl (by unfold sR aMi aMa; omega) (by unfold sR aMi aMa; omega) (fun hc2 => ?_) (fun hc2 => ?_)
        · have hc2 : (((b : Int)) : Int) = ((a : Int)) := hc2
          refine s_inc (a := (b : Int)) (n := 1) (k := 3) rfl rfl rfl ?_
          refine sP 1 (g1 := (4, [some (.ref 3), some (sI ((a : Int))), some (sI ev), some (sI (((b : Int)) + 1))], [], h)) rfl ?_
          rw [show ((b : Int) + 1) = ((b + 1 : Nat) : Int) by omega]
          exact r1
        · have hc2 : ¬ ((((b : Int)) : Int) = ((a : Int))) := hc2
          omega
    · rw [if_neg h1] at e1
      cases hw : eX (gLe (hI h 5) a) a b with
      | none =>
        rw [hw] at e1
        dsimp only at e1
        rw [e1] at r1
        show nRn sc (d + 1) (mMT mMe52) (mMC mMe52) (4, [some (.ref 3), some (sI ((a : Int))), some (sI ((-9))), some (sI ((b : Int)))], [], h) _
        refine sP 2 (g1 := (6, [some (.ref 3), some (sI ((a : Int))), some (sI ((-9))), some (sI ((b : Int)))], [.ref 3, sI ((b : Int))], h)) rfl ?_
        refine s_get (a := 3) (j := 3) hh rfl ⟨_, rfl⟩ rfl rfl rfl (v := sI (hI h 3 3)) (hI_ok hh xw_p) ?_
        refine s_icmp (q := .ge) (a := (b : Int)) (b := hI h 3 3) rfl ⟨_, rfl⟩ rfl (by unfold sR aMi aMa; omega) (by unfold sR aMi aMa; omega) (fun hc1 => ?_) (fun hc1 => ?_)
        · have hc1 : ((hI h 3 3) : Int) ≤ ((b : Int)) := hc1
          omega
        · have hc1 : ¬ (((hI h 3 3) : Int) ≤ ((b : Int))) := hc1
          refine sP 2 (g1 := (10, [some (.ref 3), some (sI ((a : Int))), some (sI ((-9))), some (sI ((b : Int)))], [sI ((a : Int)), sI ((b : Int))], h)) rfl ?_
          refine s_icmp (q := .eq) (a := (b : Int)) (b := (a : Int)) rfl ⟨_, rfl⟩ rfl (by unfold sR aMi aMa; omega) (by unfold sR aMi aMa; omega) (fun hc2 => ?_) (fun hc2 => ?_)
          · have hc2 : (((b : Int)) : Int) = ((a : Int)) := hc2
            omega
          · have hc2 : ¬ ((((b : Int)) : Int) = ((a : Int))) := hc2
            refine sP 2 (g1 := (13, [some (.ref 3), some (sI ((a : Int))), some (sI ((-9))), some (sI ((b : Int)))], [sI ((-9)), sI ((-9))], h)) rfl ?_
            refine s_icmp (q := .eq) (a := (-9)) (b := (-9)) rfl ⟨_, rfl⟩ rfl (by unfold sR aMi aMa; omega) (by unfold sR aMi aMa; omega) (fun hc3 => ?_) (fun hc3 => ?_)
            · have hc3 : (((-9)) : Int) = ((-9)) := hc3
              refine sP 2 (g1 := (25, [some (.ref 3), some (sI ((a : Int))), some (sI ((b : Int))), some (sI ((b : Int)))], [], h)) rfl ?_
              refine s_inc (a := (b : Int)) (n := 1) (k := 3) rfl rfl rfl ?_
              refine sP 1 (g1 := (4, [some (.ref 3), some (sI ((a : Int))), some (sI ((b : Int))), some (sI (((b : Int)) + 1))], [], h)) rfl ?_
              rw [show ((b : Int) + 1) = ((b + 1 : Nat) : Int) by omega]
              exact r1
            · have hc3 : ¬ ((((-9)) : Int) = ((-9))) := hc3
              omega
      | some w =>
        have hl := eX_lt _ _ _ _ hw
        have hw6 : w < 6 := by omega
        rw [hw] at e1
        dsimp only at e1
        have g1 := hI_rg hh (xw_l (show 6 * a + b < 36 by omega))
        have g2 := hI_rg hh (xw_l (show 6 * a + w < 36 by omega))
        have hf : (gLe (hI h 5) a) b w = true ↔ hI h 5 (6 * a + b) < hI h 5 (6 * a + w) := by unfold gLe; exact decide_eq_true_iff
        by_cases h2 : hI h 5 (6 * a + b) < hI h 5 (6 * a + w)
        · rw [if_pos (hf.mpr h2)] at e1
          rw [e1] at r1
          show nRn sc (d + 1) (mMT mMe52) (mMC mMe52) (4, [some (.ref 3), some (sI ((a : Int))), some (sI ((w : Int))), some (sI ((b : Int)))], [], h) _
          refine sP 2 (g1 := (6, [some (.ref 3), some (sI ((a : Int))), some (sI ((w : Int))), some (sI ((b : Int)))], [.ref 3, sI ((b : Int))], h)) rfl ?_
          refine s_get (a := 3) (j := 3) hh rfl ⟨_, rfl⟩ rfl rfl rfl (v := sI (hI h 3 3)) (hI_ok hh xw_p) ?_
          refine s_icmp (q := .ge) (a := (b : Int)) (b := hI h 3 3) rfl ⟨_, rfl⟩ rfl (by unfold sR aMi aMa; omega) (by unfold sR aMi aMa; omega) (fun hc1 => ?_) (fun hc1 => ?_)
          · have hc1 : ((hI h 3 3) : Int) ≤ ((b : Int)) := hc1
            omega
          · have hc1 : ¬ (((hI h 3 3) : Int) ≤ ((b : Int))) := hc1
            refine sP 2 (g1 := (10, [some (.ref 3), some (sI ((a : Int))), some (sI ((w : Int))), some (sI ((b : Int)))], [sI ((a : Int)), sI ((b : Int))], h)) rfl ?_
            refine s_icmp (q := .eq) (a := (b : Int)) (b := (a : Int)) rfl ⟨_, rfl⟩ rfl (by unfold sR aMi aMa; omega) (by unfold sR aMi aMa; omega) (fun hc2 => ?_) (fun hc2 => ?_)
            · have hc2 : (((b : Int)) : Int) = ((a : Int)) := hc2
              omega
            · have hc2 : ¬ ((((b : Int)) : Int) = ((a : Int))) := hc2
              refine sP 2 (g1 := (13, [some (.ref 3), some (sI ((a : Int))), some (sI ((w : Int))), some (sI ((b : Int)))], [sI ((-9)), sI ((w : Int))], h)) rfl ?_
              refine s_icmp (q := .eq) (a := (w : Int)) (b := (-9)) rfl ⟨_, rfl⟩ rfl (by unfold sR aMi aMa; omega) (by unfold sR aMi aMa; omega) (fun hc3 => ?_) (fun hc3 => ?_)
              · have hc3 : (((w : Int)) : Int) = ((-9)) := hc3
                omega
              · have hc3 : ¬ ((((w : Int)) : Int) = ((-9))) := hc3
                refine sP 3 (g1 := (17, [some (.ref 3), some (sI ((a : Int))), some (sI ((w : Int))), some (sI ((b : Int)))], [sI ((b : Int)), sI ((a : Int)), .ref 3], h)) rfl ?_
                refine s_call (k := 40) (args := [.ref 3, sI ((a : Int)), sI ((b : Int))]) (st := []) (v := some (sI (hI h 5 (6 * a + b)))) (h1 := h) rfl ⟨rfl, rfl⟩ rfl rfl rfl rfl (sRcv hh (a := 3) rfl rfl) rfl (fLookX (e := 3) hh (by decide) ha hb6) ?_
                refine sP 3 (g1 := (21, [some (.ref 3), some (sI ((a : Int))), some (sI ((w : Int))), some (sI ((b : Int)))], [sI ((w : Int)), sI ((a : Int)), .ref 3, sI (hI h 5 (6 * a + b))], h)) rfl ?_
                refine s_call (k := 40) (args := [.ref 3, sI ((a : Int)), sI ((w : Int))]) (st := [sI (hI h 5 (6 * a + b))]) (v := some (sI (hI h 5 (6 * a + w)))) (h1 := h) rfl ⟨rfl, rfl⟩ rfl rfl rfl rfl (sRcv hh (a := 3) rfl rfl) rfl (fLookX (e := 3) hh (by decide) ha hw6) ?_
                refine s_icmp (q := .ge) (a := hI h 5 (6 * a + b)) (b := hI h 5 (6 * a + w)) rfl ⟨_, rfl⟩ rfl (by unfold sR aMi aMa; omega) (by unfold sR aMi aMa; omega) (fun hc4 => ?_) (fun hc4 => ?_)
                · have hc4 : ((hI h 5 (6 * a + w)) : Int) ≤ (hI h 5 (6 * a + b)) := hc4
                  omega
                · have hc4 : ¬ (((hI h 5 (6 * a + w)) : Int) ≤ (hI h 5 (6 * a + b))) := hc4
                  refine sP 2 (g1 := (25, [some (.ref 3), some (sI ((a : Int))), some (sI ((b : Int))), some (sI ((b : Int)))], [], h)) rfl ?_
                  refine s_inc (a := (b : Int)) (n := 1) (k := 3) rfl rfl rfl ?_
                  refine sP 1 (g1 := (4, [some (.ref 3), some (sI ((a : Int))), some (sI ((b : Int))), some (sI (((b : Int)) + 1))], [], h)) rfl ?_
                  rw [show ((b : Int) + 1) = ((b + 1 : Nat) : Int) by omega]
                  exact r1
        · rw [if_neg (fun q => h2 (hf.mp q))] at e1
          rw [e1] at r1
          show nRn sc (d + 1) (mMT mMe52) (mMC mMe52) (4, [some (.ref 3), some (sI ((a : Int))), some (sI ((w : Int))), some (sI ((b : Int)))], [], h) _
          refine sP 2 (g1 := (6, [some (.ref 3), some (sI ((a : Int))), some (sI ((w : Int))), some (sI ((b : Int)))], [.ref 3, sI ((b : Int))], h)) rfl ?_
          refine s_get (a := 3) (j := 3) hh rfl ⟨_, rfl⟩ rfl rfl rfl (v := sI (hI h 3 3)) (hI_ok hh xw_p) ?_
          refine s_icmp (q := .ge) (a := (b : Int)) (b := hI h 3 3) rfl ⟨_, rfl⟩ rfl (by unfold sR aMi aMa; omega) (by unfold sR aMi aMa; omega) (fun hc1 => ?_) (fun hc1 => ?_)
          · have hc1 : ((hI h 3 3) : Int) ≤ ((b : Int)) := hc1
            omega
          · have hc1 : ¬ (((hI h 3 3) : Int) ≤ ((b : Int))) := hc1
            refine sP 2 (g1 := (10, [some (.ref 3), some (sI ((a : Int))), some (sI ((w : Int))), some (sI ((b : Int)))], [sI ((a : Int)), sI ((b : Int))], h)) rfl ?_
            refine s_icmp (q := .eq) (a := (b : Int)) (b := (a : Int)) rfl ⟨_, rfl⟩ rfl (by unfold sR aMi aMa; omega) (by unfold sR aMi aMa; omega) (fun hc2 => ?_) (fun hc2 => ?_)
            · have hc2 : (((b : Int)) : Int) = ((a : Int)) := hc2
              omega
            · have hc2 : ¬ ((((b : Int)) : Int) = ((a : Int))) := hc2
              refine sP 2 (g1 := (13, [some (.ref 3), some (sI ((a : Int))), some (sI ((w : Int))), some (sI ((b : Int)))], [sI ((-9)), sI ((w : Int))], h)) rfl ?_
              refine s_icmp (q := .eq) (a := (w : Int)) (b := (-9)) rfl ⟨_, rfl⟩ rfl (by unfold sR aMi aMa; omega) (by unfold sR aMi aMa; omega) (fun hc3 => ?_) (fun hc3 => ?_)
              · have hc3 : (((w : Int)) : Int) = ((-9)) := hc3
                omega
              · have hc3 : ¬ ((((w : Int)) : Int) = ((-9))) := hc3
                refine sP 3 (g1 := (17, [some (.ref 3), some (sI ((a : Int))), some (sI ((w : Int))), some (sI ((b : Int)))], [sI ((b : Int)), sI ((a : Int)), .ref 3], h)) rfl ?_
                refine s_call (k := 40) (args := [.ref 3, sI ((a : Int)), sI ((b : Int))]) (st := []) (v := some (sI (hI h 5 (6 * a + b)))) (h1 := h) rfl ⟨rfl, rfl⟩ rfl rfl rfl rfl (sRcv hh (a := 3) rfl rfl) rfl (fLookX (e := 3) hh (by decide) ha hb6) ?_
                refine sP 3 (g1 := (21, [some (.ref 3), some (sI ((a : Int))), some (sI ((w : Int))), some (sI ((b : Int)))], [sI ((w : Int)), sI ((a : Int)), .ref 3, sI (hI h 5 (6 * a + b))], h)) rfl ?_
                refine s_call (k := 40) (args := [.ref 3, sI ((a : Int)), sI ((w : Int))]) (st := [sI (hI h 5 (6 * a + b))]) (v := some (sI (hI h 5 (6 * a + w)))) (h1 := h) rfl ⟨rfl, rfl⟩ rfl rfl rfl rfl (sRcv hh (a := 3) rfl rfl) rfl (fLookX (e := 3) hh (by decide) ha hw6) ?_
                refine s_icmp (q := .ge) (a := hI h 5 (6 * a + b)) (b := hI h 5 (6 * a + w)) rfl ⟨_, rfl⟩ rfl (by unfold sR aMi aMa; omega) (by unfold sR aMi aMa; omega) (fun hc4 => ?_) (fun hc4 => ?_)
                · have hc4 : ((hI h 5 (6 * a + w)) : Int) ≤ (hI h 5 (6 * a + b)) := hc4
                  refine s_inc (a := (b : Int)) (n := 1) (k := 3) rfl rfl rfl ?_
                  refine sP 1 (g1 := (4, [some (.ref 3), some (sI ((a : Int))), some (sI ((w : Int))), some (sI (((b : Int)) + 1))], [], h)) rfl ?_
                  rw [show ((b : Int) + 1) = ((b + 1 : Nat) : Int) by omega]
                  exact r1
                · have hc4 : ¬ (((hI h 5 (6 * a + w)) : Int) ≤ (hI h 5 (6 * a + b))) := hc4
                  omega
theorem fLeast {n a : Nat} (hh : aHp h) (hn : hI h 3 3 = n) (ha : a < 6) : nEv sc (d + 2) 52 [.ref 3, sI (a : Int)] h (some (sI (eV (eX (gLe (hI h 5) a) a n))), h) := by
  have r1 := fLeastL (sc := sc) (d := d) hh hn ha n 0 (by omega)
  refine nEv_of (t := mMe52) rfl ?_
  show nRn sc (d + 1) (mMT mMe52) (mMC mMe52) (0, [some (.ref 3), some (sI (a : Int)), none, none], [], h) _
  refine sP 4 (g1 := (4, [some (.ref 3), some (sI (a : Int)), some (sI (-9)), some (sI ((0 : Nat) : Int))], [], h)) rfl ?_
  exact r1
theorem fExtGL {n a : Nat} (hh : aHp h) (hn : hI h 58 0 = n) (ha : a < 6) : ∀ (k b : Nat) (X5 : Option Value), b + k = n → nRn sc (d + 1) (mMT mMe159) (mMC mMe159) (4, [some (.ref 53), some (sI (a : Int)), some (sI 0), some (sI (eV (eX (gGr (fun j => hI h 58 (7 + j)) a) a b))), some (sI (b : Int)), X5], [], h) (some (sI (eV (eX (gGr (fun j => hI h 58 (7 + j)) a) a n))), h) := by
  have nn := hI_rg hh nw_p
  intro k
  induction k with
  | zero =>
    intro b X5 hb
    have hbn : b = n := by omega
    subst hbn
    refine sP 2 (g1 := (6, [some (.ref 53), some (sI ((a : Int))), some (sI 0), some (sI (eV (eX (gGr (fun j => hI h 58 (7 + j)) a) a b))), some (sI ((b : Int))), X5], [.ref 53, sI ((b : Int))], h)) rfl ?_
    refine s_get (a := 53) (j := 4) hh rfl ⟨_, rfl⟩ rfl rfl rfl (v := .ref 58) (hR_ok hh (by decide +kernel)) ?_
    refine sP 1 (g1 := (8, [some (.ref 53), some (sI ((a : Int))), some (sI 0), some (sI (eV (eX (gGr (fun j => hI h 58 (7 + j)) a) a b))), some (sI ((b : Int))), X5], [sI 0, .ref 58, sI ((b : Int))], h)) rfl ?_
    refine s_iald (a := 58) (n := 201) (j := 0) hh rfl rfl rfl (by omega) (by omega) (by decide) (v := sI (hI h 58 0)) (hI_ok hh nw_p) ?_
    refine s_icmp (q := .ge) (a := (b : Int)) (b := hI h 58 0) rfl ⟨_, rfl⟩ rfl (by unfold sR aMi aMa; omega) (by unfold sR aMi aMa; omega) (fun hc1 => ?_) (fun hc1 => ?_)
    · have hc1 : ((hI h 58 0) : Int) ≤ ((b : Int)) := hc1
      refine sP 1 (g1 := (50, [some (.ref 53), some (sI ((a : Int))), some (sI 0), some (sI (eV (eX (gGr (fun j => hI h 58 (7 + j)) a) a b))), some (sI ((b : Int))), X5], [sI (eV (eX (gGr (fun j => hI h 58 (7 + j)) a) a b))], h)) rfl ?_
      exact s_reti rfl rfl (Or.inl rfl) rfl rfl
    · have hc1 : ¬ (((hI h 58 0) : Int) ≤ ((b : Int))) := hc1
      omega
  | succ k ih =>
    intro b X5 hb
    have hb6 : b < 6 := by omega
    have r1 := fun X5 => ih (b + 1) X5 (by omega)
    have e1 : eX (gGr (fun j => hI h 58 (7 + j)) a) a (b + 1) = if b = a then eX (gGr (fun j => hI h 58 (7 + j)) a) a b else match eX (gGr (fun j => hI h 58 (7 + j)) a) a b with
      | none => some b
      | some w => if (gGr (fun j => hI h 58 (7 + j)) a) b w = true then some b else some w := rfl
    by_cases h1 : b = a
    · rw [if_pos h1] at e1
      rw [e1] at r1
      generalize eV (eX (gGr (fun j => hI h 58 (7 + j)) a) a b) = ev at *
      refine sP 2 (g1 := (6, [some (.ref 53), some (sI ((a : Int))), some (sI 0), some (sI ev), some (sI ((b : Int))), X5], [.ref 53, sI ((b : Int))], h)) rfl ?_
      refine s_get (a := 53) (j := 4) hh rfl ⟨_, rfl⟩ rfl rfl rfl (v := .ref 58) (hR_ok hh (by decide +kernel)) ?_
      refine sP 1 (g1 := (8, [some (.ref 53), some (sI ((a : Int))), some (sI 0), some (sI ev), some (sI ((b : Int))), X5], [sI 0, .ref 58, sI ((b : Int))], h)) rfl ?_
      refine s_iald (a := 58) (n := 201) (j := 0) hh rfl rfl rfl (by omega) (by omega) (by decide) (v := sI (hI h 58 0)) (hI_ok hh nw_p) ?_
      refine s_icmp (q := .ge) (a := (b : Int)) (b := hI h 58 0) rfl ⟨_, rfl⟩ rfl (by unfold sR aMi aMa; omega) (by unfold sR aMi aMa; omega) (fun hc1 => ?_) (fun hc1 => ?_)
      · have hc1 : ((hI h 58 0) : Int) ≤ ((b : Int)) := hc1
        omega
      · have hc1 : ¬ (((hI h 58 0) : Int) ≤ ((b : Int))) := hc1
        refine sP 2 (g1 := (12, [some (.ref 53), some (sI ((a : Int))), some (sI 0), some (sI ev), some (sI ((b : Int))), X5], [sI ((a : Int)), sI ((b : Int))], h)) rfl ?_
        refine s_icmp (q := .eq) (a := (b : Int)) (b := (a : Int)) rfl ⟨_, rfl⟩ rfl (by unfold sR aMi aMa; omega) (by unfold sR aMi aMa; omega) (fun hc2 => ?_) (fun hc2 => ?_)
        · have hc2 : (((b : Int)) : Int) = ((a : Int)) := hc2
          refine s_inc (a := (b : Int)) (n := 1) (k := 4) rfl rfl rfl ?_
          refine sP 1 (g1 := (4, [some (.ref 53), some (sI ((a : Int))), some (sI 0), some (sI ev), some (sI (((b : Int)) + 1)), X5], [], h)) rfl ?_
          rw [show ((b : Int) + 1) = ((b + 1 : Nat) : Int) by omega]
          exact r1 _
        · have hc2 : ¬ ((((b : Int)) : Int) = ((a : Int))) := hc2
          omega
    · rw [if_neg h1] at e1
      cases hw : eX (gGr (fun j => hI h 58 (7 + j)) a) a b with
      | none =>
        rw [hw] at e1
        dsimp only at e1
        rw [e1] at r1
        show nRn sc (d + 1) (mMT mMe159) (mMC mMe159) (4, [some (.ref 53), some (sI ((a : Int))), some (sI 0), some (sI ((-9))), some (sI ((b : Int))), X5], [], h) _
        refine sP 2 (g1 := (6, [some (.ref 53), some (sI ((a : Int))), some (sI 0), some (sI ((-9))), some (sI ((b : Int))), X5], [.ref 53, sI ((b : Int))], h)) rfl ?_
        refine s_get (a := 53) (j := 4) hh rfl ⟨_, rfl⟩ rfl rfl rfl (v := .ref 58) (hR_ok hh (by decide +kernel)) ?_
        refine sP 1 (g1 := (8, [some (.ref 53), some (sI ((a : Int))), some (sI 0), some (sI ((-9))), some (sI ((b : Int))), X5], [sI 0, .ref 58, sI ((b : Int))], h)) rfl ?_
        refine s_iald (a := 58) (n := 201) (j := 0) hh rfl rfl rfl (by omega) (by omega) (by decide) (v := sI (hI h 58 0)) (hI_ok hh nw_p) ?_
        refine s_icmp (q := .ge) (a := (b : Int)) (b := hI h 58 0) rfl ⟨_, rfl⟩ rfl (by unfold sR aMi aMa; omega) (by unfold sR aMi aMa; omega) (fun hc1 => ?_) (fun hc1 => ?_)
        · have hc1 : ((hI h 58 0) : Int) ≤ ((b : Int)) := hc1
          omega
        · have hc1 : ¬ (((hI h 58 0) : Int) ≤ ((b : Int))) := hc1
          refine sP 2 (g1 := (12, [some (.ref 53), some (sI ((a : Int))), some (sI 0), some (sI ((-9))), some (sI ((b : Int))), X5], [sI ((a : Int)), sI ((b : Int))], h)) rfl ?_
          refine s_icmp (q := .eq) (a := (b : Int)) (b := (a : Int)) rfl ⟨_, rfl⟩ rfl (by unfold sR aMi aMa; omega) (by unfold sR aMi aMa; omega) (fun hc2 => ?_) (fun hc2 => ?_)
          · have hc2 : (((b : Int)) : Int) = ((a : Int)) := hc2
            omega
          · have hc2 : ¬ ((((b : Int)) : Int) = ((a : Int))) := hc2
            refine sP 2 (g1 := (15, [some (.ref 53), some (sI ((a : Int))), some (sI 0), some (sI ((-9))), some (sI ((b : Int))), X5], [sI ((-9)), sI ((-9))], h)) rfl ?_
            refine s_icmp (q := .eq) (a := (-9)) (b := (-9)) rfl ⟨_, rfl⟩ rfl (by unfold sR aMi aMa; omega) (by unfold sR aMi aMa; omega) (fun hc3 => ?_) (fun hc3 => ?_)
            · have hc3 : (((-9)) : Int) = ((-9)) := hc3
              refine sP 4 (g1 := (42, [some (.ref 53), some (sI ((a : Int))), some (sI 0), some (sI ((-9))), some (sI ((b : Int))), some (sI 1)], [sI 1], h)) rfl ?_
              refine s_ifc (q := .eq) (a := 1) rfl ⟨_, rfl⟩ rfl (by unfold sR aMi aMa; omega) (fun hc4 => ?_) (fun hc4 => ?_)
              · have hc4 : (1 : Int) = 0 := hc4
                omega
              · have hc4 : ¬ ((1 : Int) = 0) := hc4
                refine sP 3 (g1 := (47, [some (.ref 53), some (sI ((a : Int))), some (sI 0), some (sI ((b : Int))), some (sI ((b : Int))), some (sI 1)], [], h)) rfl ?_
                refine s_inc (a := (b : Int)) (n := 1) (k := 4) rfl rfl rfl ?_
                refine sP 1 (g1 := (4, [some (.ref 53), some (sI ((a : Int))), some (sI 0), some (sI ((b : Int))), some (sI (((b : Int)) + 1)), some (sI 1)], [], h)) rfl ?_
                rw [show ((b : Int) + 1) = ((b + 1 : Nat) : Int) by omega]
                exact r1 _
            · have hc3 : ¬ ((((-9)) : Int) = ((-9))) := hc3
              omega
      | some w =>
        have hl := eX_lt _ _ _ _ hw
        have hw6 : w < 6 := by omega
        rw [hw] at e1
        dsimp only at e1
        have g1 := hI_rg hh (nw_lk (show 6 * a + b < 36 by omega))
        have g2 := hI_rg hh (nw_lk (show 6 * a + w < 36 by omega))
        have hf : (gGr (fun j => hI h 58 (7 + j)) a) b w = true ↔ hI h 58 (7 + (6 * a + w)) < hI h 58 (7 + (6 * a + b)) := by unfold gGr; exact decide_eq_true_iff
        by_cases h2 : hI h 58 (7 + (6 * a + w)) < hI h 58 (7 + (6 * a + b))
        · rw [if_pos (hf.mpr h2)] at e1
          rw [e1] at r1
          show nRn sc (d + 1) (mMT mMe159) (mMC mMe159) (4, [some (.ref 53), some (sI ((a : Int))), some (sI 0), some (sI ((w : Int))), some (sI ((b : Int))), X5], [], h) _
          refine sP 2 (g1 := (6, [some (.ref 53), some (sI ((a : Int))), some (sI 0), some (sI ((w : Int))), some (sI ((b : Int))), X5], [.ref 53, sI ((b : Int))], h)) rfl ?_
          refine s_get (a := 53) (j := 4) hh rfl ⟨_, rfl⟩ rfl rfl rfl (v := .ref 58) (hR_ok hh (by decide +kernel)) ?_
          refine sP 1 (g1 := (8, [some (.ref 53), some (sI ((a : Int))), some (sI 0), some (sI ((w : Int))), some (sI ((b : Int))), X5], [sI 0, .ref 58, sI ((b : Int))], h)) rfl ?_
          refine s_iald (a := 58) (n := 201) (j := 0) hh rfl rfl rfl (by omega) (by omega) (by decide) (v := sI (hI h 58 0)) (hI_ok hh nw_p) ?_
          refine s_icmp (q := .ge) (a := (b : Int)) (b := hI h 58 0) rfl ⟨_, rfl⟩ rfl (by unfold sR aMi aMa; omega) (by unfold sR aMi aMa; omega) (fun hc1 => ?_) (fun hc1 => ?_)
          · have hc1 : ((hI h 58 0) : Int) ≤ ((b : Int)) := hc1
            omega
          · have hc1 : ¬ (((hI h 58 0) : Int) ≤ ((b : Int))) := hc1
            refine sP 2 (g1 := (12, [some (.ref 53), some (sI ((a : Int))), some (sI 0), some (sI ((w : Int))), some (sI ((b : Int))), X5], [sI ((a : Int)), sI ((b : Int))], h)) rfl ?_
            refine s_icmp (q := .eq) (a := (b : Int)) (b := (a : Int)) rfl ⟨_, rfl⟩ rfl (by unfold sR aMi aMa; omega) (by unfold sR aMi aMa; omega) (fun hc2 => ?_) (fun hc2 => ?_)
            · have hc2 : (((b : Int)) : Int) = ((a : Int)) := hc2
              omega
            · have hc2 : ¬ ((((b : Int)) : Int) = ((a : Int))) := hc2
              refine sP 2 (g1 := (15, [some (.ref 53), some (sI ((a : Int))), some (sI 0), some (sI ((w : Int))), some (sI ((b : Int))), X5], [sI ((-9)), sI ((w : Int))], h)) rfl ?_
              refine s_icmp (q := .eq) (a := (w : Int)) (b := (-9)) rfl ⟨_, rfl⟩ rfl (by unfold sR aMi aMa; omega) (by unfold sR aMi aMa; omega) (fun hc3 => ?_) (fun hc3 => ?_)
              · have hc3 : (((w : Int)) : Int) = ((-9)) := hc3
                omega
              · have hc3 : ¬ ((((w : Int)) : Int) = ((-9))) := hc3
                refine sP 1 (g1 := (17, [some (.ref 53), some (sI ((a : Int))), some (sI 0), some (sI ((w : Int))), some (sI ((b : Int))), X5], [sI 0], h)) rfl ?_
                refine s_ifc (q := .eq) (a := 0) rfl ⟨_, rfl⟩ rfl (by unfold sR aMi aMa; omega) (fun hc4 => ?_) (fun hc4 => ?_)
                · have hc4 : (0 : Int) = 0 := hc4
                  refine sP 3 (g1 := (31, [some (.ref 53), some (sI ((a : Int))), some (sI 0), some (sI ((w : Int))), some (sI ((b : Int))), X5], [sI ((b : Int)), sI ((a : Int)), .ref 53], h)) rfl ?_
                  refine s_call (k := 152) (args := [.ref 53, sI ((a : Int)), sI ((b : Int))]) (st := []) (v := some (sI (hI h 58 (7 + (6 * a + b))))) (h1 := h) rfl ⟨rfl, rfl⟩ rfl rfl rfl rfl (sRcv hh (a := 53) rfl rfl) rfl (fLookM hh ha hb6) ?_
                  refine sP 3 (g1 := (35, [some (.ref 53), some (sI ((a : Int))), some (sI 0), some (sI ((w : Int))), some (sI ((b : Int))), X5], [sI ((w : Int)), sI ((a : Int)), .ref 53, sI (hI h 58 (7 + (6 * a + b)))], h)) rfl ?_
                  refine s_call (k := 152) (args := [.ref 53, sI ((a : Int)), sI ((w : Int))]) (st := [sI (hI h 58 (7 + (6 * a + b)))]) (v := some (sI (hI h 58 (7 + (6 * a + w))))) (h1 := h) rfl ⟨rfl, rfl⟩ rfl rfl rfl rfl (sRcv hh (a := 53) rfl rfl) rfl (fLookM hh ha hw6) ?_
                  refine s_icmp (q := .le) (a := hI h 58 (7 + (6 * a + b))) (b := hI h 58 (7 + (6 * a + w))) rfl ⟨_, rfl⟩ rfl (by unfold sR aMi aMa; omega) (by unfold sR aMi aMa; omega) (fun hc5 => ?_) (fun hc5 => ?_)
                  · have hc5 : ((hI h 58 (7 + (6 * a + b))) : Int) ≤ (hI h 58 (7 + (6 * a + w))) := hc5
                    omega
                  · have hc5 : ¬ (((hI h 58 (7 + (6 * a + b))) : Int) ≤ (hI h 58 (7 + (6 * a + w)))) := hc5
                    refine sP 4 (g1 := (42, [some (.ref 53), some (sI ((a : Int))), some (sI 0), some (sI ((w : Int))), some (sI ((b : Int))), some (sI 1)], [sI 1], h)) rfl ?_
                    refine s_ifc (q := .eq) (a := 1) rfl ⟨_, rfl⟩ rfl (by unfold sR aMi aMa; omega) (fun hc6 => ?_) (fun hc6 => ?_)
                    · have hc6 : (1 : Int) = 0 := hc6
                      omega
                    · have hc6 : ¬ ((1 : Int) = 0) := hc6
                      refine sP 3 (g1 := (47, [some (.ref 53), some (sI ((a : Int))), some (sI 0), some (sI ((b : Int))), some (sI ((b : Int))), some (sI 1)], [], h)) rfl ?_
                      refine s_inc (a := (b : Int)) (n := 1) (k := 4) rfl rfl rfl ?_
                      refine sP 1 (g1 := (4, [some (.ref 53), some (sI ((a : Int))), some (sI 0), some (sI ((b : Int))), some (sI (((b : Int)) + 1)), some (sI 1)], [], h)) rfl ?_
                      rw [show ((b : Int) + 1) = ((b + 1 : Nat) : Int) by omega]
                      exact r1 _
                · have hc4 : ¬ ((0 : Int) = 0) := hc4
                  omega
        · rw [if_neg (fun q => h2 (hf.mp q))] at e1
          rw [e1] at r1
          show nRn sc (d + 1) (mMT mMe159) (mMC mMe159) (4, [some (.ref 53), some (sI ((a : Int))), some (sI 0), some (sI ((w : Int))), some (sI ((b : Int))), X5], [], h) _
          refine sP 2 (g1 := (6, [some (.ref 53), some (sI ((a : Int))), some (sI 0), some (sI ((w : Int))), some (sI ((b : Int))), X5], [.ref 53, sI ((b : Int))], h)) rfl ?_
          refine s_get (a := 53) (j := 4) hh rfl ⟨_, rfl⟩ rfl rfl rfl (v := .ref 58) (hR_ok hh (by decide +kernel)) ?_
          refine sP 1 (g1 := (8, [some (.ref 53), some (sI ((a : Int))), some (sI 0), some (sI ((w : Int))), some (sI ((b : Int))), X5], [sI 0, .ref 58, sI ((b : Int))], h)) rfl ?_
          refine s_iald (a := 58) (n := 201) (j := 0) hh rfl rfl rfl (by omega) (by omega) (by decide) (v := sI (hI h 58 0)) (hI_ok hh nw_p) ?_
          refine s_icmp (q := .ge) (a := (b : Int)) (b := hI h 58 0) rfl ⟨_, rfl⟩ rfl (by unfold sR aMi aMa; omega) (by unfold sR aMi aMa; omega) (fun hc1 => ?_) (fun hc1 => ?_)
          · have hc1 : ((hI h 58 0) : Int) ≤ ((b : Int)) := hc1
            omega
          · have hc1 : ¬ (((hI h 58 0) : Int) ≤ ((b : Int))) := hc1
            refine sP 2 (g1 := (12, [some (.ref 53), some (sI ((a : Int))), some (sI 0), some (sI ((w : Int))), some (sI ((b : Int))), X5], [sI ((a : Int)), sI ((b : Int))], h)) rfl ?_
            refine s_icmp (q := .eq) (a := (b : Int)) (b := (a : Int)) rfl ⟨_, rfl⟩ rfl (by unfold sR aMi aMa; omega) (by unfold sR aMi aMa; omega) (fun hc2 => ?_) (fun hc2 => ?_)
            · have hc2 : (((b : Int)) : Int) = ((a : Int)) := hc2
              omega
            · have hc2 : ¬ ((((b : Int)) : Int) = ((a : Int))) := hc2
              refine sP 2 (g1 := (15, [some (.ref 53), some (sI ((a : Int))), some (sI 0), some (sI ((w : Int))), some (sI ((b : Int))), X5], [sI ((-9)), sI ((w : Int))], h)) rfl ?_
              refine s_icmp (q := .eq) (a := (w : Int)) (b := (-9)) rfl ⟨_, rfl⟩ rfl (by unfold sR aMi aMa; omega) (by unfold sR aMi aMa; omega) (fun hc3 => ?_) (fun hc3 => ?_)
              · have hc3 : (((w : Int)) : Int) = ((-9)) := hc3
                omega
              · have hc3 : ¬ ((((w : Int)) : Int) = ((-9))) := hc3
                refine sP 1 (g1 := (17, [some (.ref 53), some (sI ((a : Int))), some (sI 0), some (sI ((w : Int))), some (sI ((b : Int))), X5], [sI 0], h)) rfl ?_
                refine s_ifc (q := .eq) (a := 0) rfl ⟨_, rfl⟩ rfl (by unfold sR aMi aMa; omega) (fun hc4 => ?_) (fun hc4 => ?_)
                · have hc4 : (0 : Int) = 0 := hc4
                  refine sP 3 (g1 := (31, [some (.ref 53), some (sI ((a : Int))), some (sI 0), some (sI ((w : Int))), some (sI ((b : Int))), X5], [sI ((b : Int)), sI ((a : Int)), .ref 53], h)) rfl ?_
                  refine s_call (k := 152) (args := [.ref 53, sI ((a : Int)), sI ((b : Int))]) (st := []) (v := some (sI (hI h 58 (7 + (6 * a + b))))) (h1 := h) rfl ⟨rfl, rfl⟩ rfl rfl rfl rfl (sRcv hh (a := 53) rfl rfl) rfl (fLookM hh ha hb6) ?_
                  refine sP 3 (g1 := (35, [some (.ref 53), some (sI ((a : Int))), some (sI 0), some (sI ((w : Int))), some (sI ((b : Int))), X5], [sI ((w : Int)), sI ((a : Int)), .ref 53, sI (hI h 58 (7 + (6 * a + b)))], h)) rfl ?_
                  refine s_call (k := 152) (args := [.ref 53, sI ((a : Int)), sI ((w : Int))]) (st := [sI (hI h 58 (7 + (6 * a + b)))]) (v := some (sI (hI h 58 (7 + (6 * a + w))))) (h1 := h) rfl ⟨rfl, rfl⟩ rfl rfl rfl rfl (sRcv hh (a := 53) rfl rfl) rfl (fLookM hh ha hw6) ?_
                  refine s_icmp (q := .le) (a := hI h 58 (7 + (6 * a + b))) (b := hI h 58 (7 + (6 * a + w))) rfl ⟨_, rfl⟩ rfl (by unfold sR aMi aMa; omega) (by unfold sR aMi aMa; omega) (fun hc5 => ?_) (fun hc5 => ?_)
                  · have hc5 : ((hI h 58 (7 + (6 * a + b))) : Int) ≤ (hI h 58 (7 + (6 * a + w))) := hc5
                    refine sP 3 (g1 := (42, [some (.ref 53), some (sI ((a : Int))), some (sI 0), some (sI ((w : Int))), some (sI ((b : Int))), some (sI 0)], [sI 0], h)) rfl ?_
                    refine s_ifc (q := .eq) (a := 0) rfl ⟨_, rfl⟩ rfl (by unfold sR aMi aMa; omega) (fun hc6 => ?_) (fun hc6 => ?_)
                    · have hc6 : (0 : Int) = 0 := hc6
                      refine sP 2 (g1 := (47, [some (.ref 53), some (sI ((a : Int))), some (sI 0), some (sI ((w : Int))), some (sI ((b : Int))), some (sI 0)], [], h)) rfl ?_
                      refine s_inc (a := (b : Int)) (n := 1) (k := 4) rfl rfl rfl ?_
                      refine sP 1 (g1 := (4, [some (.ref 53), some (sI ((a : Int))), some (sI 0), some (sI ((w : Int))), some (sI (((b : Int)) + 1)), some (sI 0)], [], h)) rfl ?_
                      rw [show ((b : Int) + 1) = ((b + 1 : Nat) : Int) by omega]
                      exact r1 _
                    · have hc6 : ¬ ((0 : Int) = 0) := hc6
                      omega
                  · have hc5 : ¬ (((hI h 58 (7 + (6 * a + b))) : Int) ≤ (hI h 58 (7 + (6 * a + w)))) := hc5
                    omega
                · have hc4 : ¬ ((0 : Int) = 0) := hc4
                  omega
theorem fExtG {n a : Nat} (hh : aHp h) (hn : hI h 58 0 = n) (ha : a < 6) : nEv sc (d + 2) 159 [.ref 53, sI (a : Int), sI 0] h (some (sI (eV (eX (gGr (fun j => hI h 58 (7 + j)) a) a n))), h) := by
  have r1 := fExtGL (sc := sc) (d := d) hh hn ha n 0 none (by omega)
  refine nEv_of (t := mMe159) rfl ?_
  show nRn sc (d + 1) (mMT mMe159) (mMC mMe159) (0, [some (.ref 53), some (sI (a : Int)), some (sI 0), none, none, none], [], h) _
  refine sP 4 (g1 := (4, [some (.ref 53), some (sI (a : Int)), some (sI 0), some (sI (-9)), some (sI ((0 : Nat) : Int)), none], [], h)) rfl ?_
  exact r1
theorem fExtLL {n a : Nat} (hh : aHp h) (hn : hI h 58 0 = n) (ha : a < 6) : ∀ (k b : Nat) (X5 : Option Value), b + k = n → nRn sc (d + 1) (mMT mMe159) (mMC mMe159) (4, [some (.ref 53), some (sI (a : Int)), some (sI 1), some (sI (eV (eX (gLe (fun j => hI h 58 (7 + j)) a) a b))), some (sI (b : Int)), X5], [], h) (some (sI (eV (eX (gLe (fun j => hI h 58 (7 + j)) a) a n))), h) := by
  have nn := hI_rg hh nw_p
  intro k
  induction k with
  | zero =>
    intro b X5 hb
    have hbn : b = n := by omega
    subst hbn
    refine sP 2 (g1 := (6, [some (.ref 53), some (sI ((a : Int))), some (sI 1), some (sI (eV (eX (gLe (fun j => hI h 58 (7 + j)) a) a b))), some (sI ((b : Int))), X5], [.ref 53, sI ((b : Int))], h)) rfl ?_
    refine s_get (a := 53) (j := 4) hh rfl ⟨_, rfl⟩ rfl rfl rfl (v := .ref 58) (hR_ok hh (by decide +kernel)) ?_
    refine sP 1 (g1 := (8, [some (.ref 53), some (sI ((a : Int))), some (sI 1), some (sI (eV (eX (gLe (fun j => hI h 58 (7 + j)) a) a b))), some (sI ((b : Int))), X5], [sI 0, .ref 58, sI ((b : Int))], h)) rfl ?_
    refine s_iald (a := 58) (n := 201) (j := 0) hh rfl rfl rfl (by omega) (by omega) (by decide) (v := sI (hI h 58 0)) (hI_ok hh nw_p) ?_
    refine s_icmp (q := .ge) (a := (b : Int)) (b := hI h 58 0) rfl ⟨_, rfl⟩ rfl (by unfold sR aMi aMa; omega) (by unfold sR aMi aMa; omega) (fun hc1 => ?_) (fun hc1 => ?_)
    · have hc1 : ((hI h 58 0) : Int) ≤ ((b : Int)) := hc1
      refine sP 1 (g1 := (50, [some (.ref 53), some (sI ((a : Int))), some (sI 1), some (sI (eV (eX (gLe (fun j => hI h 58 (7 + j)) a) a b))), some (sI ((b : Int))), X5], [sI (eV (eX (gLe (fun j => hI h 58 (7 + j)) a) a b))], h)) rfl ?_
      exact s_reti rfl rfl (Or.inl rfl) rfl rfl
    · have hc1 : ¬ (((hI h 58 0) : Int) ≤ ((b : Int))) := hc1
      omega
  | succ k ih =>
    intro b X5 hb
    have hb6 : b < 6 := by omega
    have r1 := fun X5 => ih (b + 1) X5 (by omega)
    have e1 : eX (gLe (fun j => hI h 58 (7 + j)) a) a (b + 1) = if b = a then eX (gLe (fun j => hI h 58 (7 + j)) a) a b else match eX (gLe (fun j => hI h 58 (7 + j)) a) a b with
      | none => some b
      | some w => if (gLe (fun j => hI h 58 (7 + j)) a) b w = true then some b else some w := rfl
    by_cases h1 : b = a
    · rw [if_pos h1] at e1
      rw [e1] at r1
      generalize eV (eX (gLe (fun j => hI h 58 (7 + j)) a) a b) = ev at *
      refine sP 2 (g1 := (6, [some (.ref 53), some (sI ((a : Int))), some (sI 1), some (sI ev), some (sI ((b : Int))), X5], [.ref 53, sI ((b : Int))], h)) rfl ?_
      refine s_get (a := 53) (j := 4) hh rfl ⟨_, rfl⟩ rfl rfl rfl (v := .ref 58) (hR_ok hh (by decide +kernel)) ?_
      refine sP 1 (g1 := (8, [some (.ref 53), some (sI ((a : Int))), some (sI 1), some (sI ev), some (sI ((b : Int))), X5], [sI 0, .ref 58, sI ((b : Int))], h)) rfl ?_
      refine s_iald (a := 58) (n := 201) (j := 0) hh rfl rfl rfl (by omega) (by omega) (by decide) (v := sI (hI h 58 0)) (hI_ok hh nw_p) ?_
      refine s_icmp (q := .ge) (a := (b : Int)) (b := hI h 58 0) rfl ⟨_, rfl⟩ rfl (by unfold sR aMi aMa; omega) (by unfold sR aMi aMa; omega) (fun hc1 => ?_) (fun hc1 => ?_)
      · have hc1 : ((hI h 58 0) : Int) ≤ ((b : Int)) := hc1
        omega
      · have hc1 : ¬ (((hI h 58 0) : Int) ≤ ((b : Int))) := hc1
        refine sP 2 (g1 := (12, [some (.ref 53), some (sI ((a : Int))), some (sI 1), some (sI ev), some (sI ((b : Int))), X5], [sI ((a : Int)), sI ((b : Int))], h)) rfl ?_
        refine s_icmp (q := .eq) (a := (b : Int)) (b := (a : Int)) rfl ⟨_, rfl⟩ rfl (by unfold sR aMi aMa; omega) (by unfold sR aMi aMa; omega) (fun hc2 => ?_) (fun hc2 => ?_)
        · have hc2 : (((b : Int)) : Int) = ((a : Int)) := hc2
          refine s_inc (a := (b : Int)) (n := 1) (k := 4) rfl rfl rfl ?_
          refine sP 1 (g1 := (4, [some (.ref 53), some (sI ((a : Int))), some (sI 1), some (sI ev), some (sI (((b : Int)) + 1)), X5], [], h)) rfl ?_
          rw [show ((b : Int) + 1) = ((b + 1 : Nat) : Int) by omega]
          exact r1 _
        · have hc2 : ¬ ((((b : Int)) : Int) = ((a : Int))) := hc2
          omega
    · rw [if_neg h1] at e1
      cases hw : eX (gLe (fun j => hI h 58 (7 + j)) a) a b with
      | none =>
        rw [hw] at e1
        dsimp only at e1
        rw [e1] at r1
        show nRn sc (d + 1) (mMT mMe159) (mMC mMe159) (4, [some (.ref 53), some (sI ((a : Int))), some (sI 1), some (sI ((-9))), some (sI ((b : Int))), X5], [], h) _
        refine sP 2 (g1 := (6, [some (.ref 53), some (sI ((a : Int))), some (sI 1), some (sI ((-9))), some (sI ((b : Int))), X5], [.ref 53, sI ((b : Int))], h)) rfl ?_
        refine s_get (a := 53) (j := 4) hh rfl ⟨_, rfl⟩ rfl rfl rfl (v := .ref 58) (hR_ok hh (by decide +kernel)) ?_
        refine sP 1 (g1 := (8, [some (.ref 53), some (sI ((a : Int))), some (sI 1), some (sI ((-9))), some (sI ((b : Int))), X5], [sI 0, .ref 58, sI ((b : Int))], h)) rfl ?_
        refine s_iald (a := 58) (n := 201) (j := 0) hh rfl rfl rfl (by omega) (by omega) (by decide) (v := sI (hI h 58 0)) (hI_ok hh nw_p) ?_
        refine s_icmp (q := .ge) (a := (b : Int)) (b := hI h 58 0) rfl ⟨_, rfl⟩ rfl (by unfold sR aMi aMa; omega) (by unfold sR aMi aMa; omega) (fun hc1 => ?_) (fun hc1 => ?_)
        · have hc1 : ((hI h 58 0) : Int) ≤ ((b : Int)) := hc1
          omega
        · have hc1 : ¬ (((hI h 58 0) : Int) ≤ ((b : Int))) := hc1
          refine sP 2 (g1 := (12, [some (.ref 53), some (sI ((a : Int))), some (sI 1), some (sI ((-9))), some (sI ((b : Int))), X5], [sI ((a : Int)), sI ((b : Int))], h)) rfl ?_
          refine s_icmp (q := .eq) (a := (b : Int)) (b := (a : Int)) rfl ⟨_, rfl⟩ rfl (by unfold sR aMi aMa; omega) (by unfold sR aMi aMa; omega) (fun hc2 => ?_) (fun hc2 => ?_)
          · have hc2 : (((b : Int)) : Int) = ((a : Int)) := hc2
            omega
          · have hc2 : ¬ ((((b : Int)) : Int) = ((a : Int))) := hc2
            refine sP 2 (g1 := (15, [some (.ref 53), some (sI ((a : Int))), some (sI 1), some (sI ((-9))), some (sI ((b : Int))), X5], [sI ((-9)), sI ((-9))], h)) rfl ?_
            refine s_icmp (q := .eq) (a := (-9)) (b := (-9)) rfl ⟨_, rfl⟩ rfl (by unfold sR aMi aMa; omega) (by unfold sR aMi aMa; omega) (fun hc3 => ?_) (fun hc3 => ?_)
            · have hc3 : (((-9)) : Int) = ((-9)) := hc3
              refine sP 4 (g1 := (42, [some (.ref 53), some (sI ((a : Int))), some (sI 1), some (sI ((-9))), some (sI ((b : Int))), some (sI 1)], [sI 1], h)) rfl ?_
              refine s_ifc (q := .eq) (a := 1) rfl ⟨_, rfl⟩ rfl (by unfold sR aMi aMa; omega) (fun hc4 => ?_) (fun hc4 => ?_)
              · have hc4 : (1 : Int) = 0 := hc4
                omega
              · have hc4 : ¬ ((1 : Int) = 0) := hc4
                refine sP 3 (g1 := (47, [some (.ref 53), some (sI ((a : Int))), some (sI 1), some (sI ((b : Int))), some (sI ((b : Int))), some (sI 1)], [], h)) rfl ?_
                refine s_inc (a := (b : Int)) (n := 1) (k := 4) rfl rfl rfl ?_
                refine sP 1 (g1 := (4, [some (.ref 53), some (sI ((a : Int))), some (sI 1), some (sI ((b : Int))), some (sI (((b : Int)) + 1)), some (sI 1)], [], h)) rfl ?_
                rw [show ((b : Int) + 1) = ((b + 1 : Nat) : Int) by omega]
                exact r1 _
            · have hc3 : ¬ ((((-9)) : Int) = ((-9))) := hc3
              omega
      | some w =>
        have hl := eX_lt _ _ _ _ hw
        have hw6 : w < 6 := by omega
        rw [hw] at e1
        dsimp only at e1
        have g1 := hI_rg hh (nw_lk (show 6 * a + b < 36 by omega))
        have g2 := hI_rg hh (nw_lk (show 6 * a + w < 36 by omega))
        have hf : (gLe (fun j => hI h 58 (7 + j)) a) b w = true ↔ hI h 58 (7 + (6 * a + b)) < hI h 58 (7 + (6 * a + w)) := by unfold gLe; exact decide_eq_true_iff
        by_cases h2 : hI h 58 (7 + (6 * a + b)) < hI h 58 (7 + (6 * a + w))
        · rw [if_pos (hf.mpr h2)] at e1
          rw [e1] at r1
          show nRn sc (d + 1) (mMT mMe159) (mMC mMe159) (4, [some (.ref 53), some (sI ((a : Int))), some (sI 1), some (sI ((w : Int))), some (sI ((b : Int))), X5], [], h) _
          refine sP 2 (g1 := (6, [some (.ref 53), some (sI ((a : Int))), some (sI 1), some (sI ((w : Int))), some (sI ((b : Int))), X5], [.ref 53, sI ((b : Int))], h)) rfl ?_
          refine s_get (a := 53) (j := 4) hh rfl ⟨_, rfl⟩ rfl rfl rfl (v := .ref 58) (hR_ok hh (by decide +kernel)) ?_
          refine sP 1 (g1 := (8, [some (.ref 53), some (sI ((a : Int))), some (sI 1), some (sI ((w : Int))), some (sI ((b : Int))), X5], [sI 0, .ref 58, sI ((b : Int))], h)) rfl ?_
          refine s_iald (a := 58) (n := 201) (j := 0) hh rfl rfl rfl (by omega) (by omega) (by decide) (v := sI (hI h 58 0)) (hI_ok hh nw_p) ?_
          refine s_icmp (q := .ge) (a := (b : Int)) (b := hI h 58 0) rfl ⟨_, rfl⟩ rfl (by unfold sR aMi aMa; omega) (by unfold sR aMi aMa; omega) (fun hc1 => ?_) (fun hc1 => ?_)
          · have hc1 : ((hI h 58 0) : Int) ≤ ((b : Int)) := hc1
            omega
          · have hc1 : ¬ (((hI h 58 0) : Int) ≤ ((b : Int))) := hc1
            refine sP 2 (g1 := (12, [some (.ref 53), some (sI ((a : Int))), some (sI 1), some (sI ((w : Int))), some (sI ((b : Int))), X5], [sI ((a : Int)), sI ((b : Int))], h)) rfl ?_
            refine s_icmp (q := .eq) (a := (b : Int)) (b := (a : Int)) rfl ⟨_, rfl⟩ rfl (by unfold sR aMi aMa; omega) (by unfold sR aMi aMa; omega) (fun hc2 => ?_) (fun hc2 => ?_)
            · have hc2 : (((b : Int)) : Int) = ((a : Int)) := hc2
              omega
            · have hc2 : ¬ ((((b : Int)) : Int) = ((a : Int))) := hc2
              refine sP 2 (g1 := (15, [some (.ref 53), some (sI ((a : Int))), some (sI 1), some (sI ((w : Int))), some (sI ((b : Int))), X5], [sI ((-9)), sI ((w : Int))], h)) rfl ?_
              refine s_icmp (q := .eq) (a := (w : Int)) (b := (-9)) rfl ⟨_, rfl⟩ rfl (by unfold sR aMi aMa; omega) (by unfold sR aMi aMa; omega) (fun hc3 => ?_) (fun hc3 => ?_)
              · have hc3 : (((w : Int)) : Int) = ((-9)) := hc3
                omega
              · have hc3 : ¬ ((((w : Int)) : Int) = ((-9))) := hc3
                refine sP 1 (g1 := (17, [some (.ref 53), some (sI ((a : Int))), some (sI 1), some (sI ((w : Int))), some (sI ((b : Int))), X5], [sI 1], h)) rfl ?_
                refine s_ifc (q := .eq) (a := 1) rfl ⟨_, rfl⟩ rfl (by unfold sR aMi aMa; omega) (fun hc4 => ?_) (fun hc4 => ?_)
                · have hc4 : (1 : Int) = 0 := hc4
                  omega
                · have hc4 : ¬ ((1 : Int) = 0) := hc4
                  refine sP 3 (g1 := (21, [some (.ref 53), some (sI ((a : Int))), some (sI 1), some (sI ((w : Int))), some (sI ((b : Int))), X5], [sI ((b : Int)), sI ((a : Int)), .ref 53], h)) rfl ?_
                  refine s_call (k := 152) (args := [.ref 53, sI ((a : Int)), sI ((b : Int))]) (st := []) (v := some (sI (hI h 58 (7 + (6 * a + b))))) (h1 := h) rfl ⟨rfl, rfl⟩ rfl rfl rfl rfl (sRcv hh (a := 53) rfl rfl) rfl (fLookM hh ha hb6) ?_
                  refine sP 3 (g1 := (25, [some (.ref 53), some (sI ((a : Int))), some (sI 1), some (sI ((w : Int))), some (sI ((b : Int))), X5], [sI ((w : Int)), sI ((a : Int)), .ref 53, sI (hI h 58 (7 + (6 * a + b)))], h)) rfl ?_
                  refine s_call (k := 152) (args := [.ref 53, sI ((a : Int)), sI ((w : Int))]) (st := [sI (hI h 58 (7 + (6 * a + b)))]) (v := some (sI (hI h 58 (7 + (6 * a + w))))) (h1 := h) rfl ⟨rfl, rfl⟩ rfl rfl rfl rfl (sRcv hh (a := 53) rfl rfl) rfl (fLookM hh ha hw6) ?_
                  refine s_icmp (q := .ge) (a := hI h 58 (7 + (6 * a + b))) (b := hI h 58 (7 + (6 * a + w))) rfl ⟨_, rfl⟩ rfl (by unfold sR aMi aMa; omega) (by unfold sR aMi aMa; omega) (fun hc5 => ?_) (fun hc5 => ?_)
                  · have hc5 : ((hI h 58 (7 + (6 * a + w))) : Int) ≤ (hI h 58 (7 + (6 * a + b))) := hc5
                    omega
                  · have hc5 : ¬ (((hI h 58 (7 + (6 * a + w))) : Int) ≤ (hI h 58 (7 + (6 * a + b)))) := hc5
                    refine sP 5 (g1 := (42, [some (.ref 53), some (sI ((a : Int))), some (sI 1), some (sI ((w : Int))), some (sI ((b : Int))), some (sI 1)], [sI 1], h)) rfl ?_
                    refine s_ifc (q := .eq) (a := 1) rfl ⟨_, rfl⟩ rfl (by unfold sR aMi aMa; omega) (fun hc6 => ?_) (fun hc6 => ?_)
                    · have hc6 : (1 : Int) = 0 := hc6
                      omega
                    · have hc6 : ¬ ((1 : Int) = 0) := hc6
                      refine sP 3 (g1 := (47, [some (.ref 53), some (sI ((a : Int))), some (sI 1), some (sI ((b : Int))), some (sI ((b : Int))), some (sI 1)], [], h)) rfl ?_
                      refine s_inc (a := (b : Int)) (n := 1) (k := 4) rfl rfl rfl ?_
                      refine sP 1 (g1 := (4, [some (.ref 53), some (sI ((a : Int))), some (sI 1), some (sI ((b : Int))), some (sI (((b : Int)) + 1)), some (sI 1)], [], h)) rfl ?_
                      rw [show ((b : Int) + 1) = ((b + 1 : Nat) : Int) by omega]
                      exact r1 _
        · rw [if_neg (fun q => h2 (hf.mp q))] at e1
          rw [e1] at r1
          show nRn sc (d + 1) (mMT mMe159) (mMC mMe159) (4, [some (.ref 53), some (sI ((a : Int))), some (sI 1), some (sI ((w : Int))), some (sI ((b : Int))), X5], [], h) _
          refine sP 2 (g1 := (6, [some (.ref 53), some (sI ((a : Int))), some (sI 1), some (sI ((w : Int))), some (sI ((b : Int))), X5], [.ref 53, sI ((b : Int))], h)) rfl ?_
          refine s_get (a := 53) (j := 4) hh rfl ⟨_, rfl⟩ rfl rfl rfl (v := .ref 58) (hR_ok hh (by decide +kernel)) ?_
          refine sP 1 (g1 := (8, [some (.ref 53), some (sI ((a : Int))), some (sI 1), some (sI ((w : Int))), some (sI ((b : Int))), X5], [sI 0, .ref 58, sI ((b : Int))], h)) rfl ?_
          refine s_iald (a := 58) (n := 201) (j := 0) hh rfl rfl rfl (by omega) (by omega) (by decide) (v := sI (hI h 58 0)) (hI_ok hh nw_p) ?_
          refine s_icmp (q := .ge) (a := (b : Int)) (b := hI h 58 0) rfl ⟨_, rfl⟩ rfl (by unfold sR aMi aMa; omega) (by unfold sR aMi aMa; omega) (fun hc1 => ?_) (fun hc1 => ?_)
          · have hc1 : ((hI h 58 0) : Int) ≤ ((b : Int)) := hc1
            omega
          · have hc1 : ¬ (((hI h 58 0) : Int) ≤ ((b : Int))) := hc1
            refine sP 2 (g1 := (12, [some (.ref 53), some (sI ((a : Int))), some (sI 1), some (sI ((w : Int))), some (sI ((b : Int))), X5], [sI ((a : Int)), sI ((b : Int))], h)) rfl ?_
            refine s_icmp (q := .eq) (a := (b : Int)) (b := (a : Int)) rfl ⟨_, rfl⟩ rfl (by unfold sR aMi aMa; omega) (by unfold sR aMi aMa; omega) (fun hc2 => ?_) (fun hc2 => ?_)
            · have hc2 : (((b : Int)) : Int) = ((a : Int)) := hc2
              omega
            · have hc2 : ¬ ((((b : Int)) : Int) = ((a : Int))) := hc2
              refine sP 2 (g1 := (15, [some (.ref 53), some (sI ((a : Int))), some (sI 1), some (sI ((w : Int))), some (sI ((b : Int))), X5], [sI ((-9)), sI ((w : Int))], h)) rfl ?_
              refine s_icmp (q := .eq) (a := (w : Int)) (b := (-9)) rfl ⟨_, rfl⟩ rfl (by unfold sR aMi aMa; omega) (by unfold sR aMi aMa; omega) (fun hc3 => ?_) (fun hc3 => ?_)
              · have hc3 : (((w : Int)) : Int) = ((-9)) := hc3
                omega
              · have hc3 : ¬ ((((w : Int)) : Int) = ((-9))) := hc3
                refine sP 1 (g1 := (17, [some (.ref 53), some (sI ((a : Int))), some (sI 1), some (sI ((w : Int))), some (sI ((b : Int))), X5], [sI 1], h)) rfl ?_
                refine s_ifc (q := .eq) (a := 1) rfl ⟨_, rfl⟩ rfl (by unfold sR aMi aMa; omega) (fun hc4 => ?_) (fun hc4 => ?_)
                · have hc4 : (1 : Int) = 0 := hc4
                  omega
                · have hc4 : ¬ ((1 : Int) = 0) := hc4
                  refine sP 3 (g1 := (21, [some (.ref 53), some (sI ((a : Int))), some (sI 1), some (sI ((w : Int))), some (sI ((b : Int))), X5], [sI ((b : Int)), sI ((a : Int)), .ref 53], h)) rfl ?_
                  refine s_call (k := 152) (args := [.ref 53, sI ((a : Int)), sI ((b : Int))]) (st := []) (v := some (sI (hI h 58 (7 + (6 * a + b))))) (h1 := h) rfl ⟨rfl, rfl⟩ rfl rfl rfl rfl (sRcv hh (a := 53) rfl rfl) rfl (fLookM hh ha hb6) ?_
                  refine sP 3 (g1 := (25, [some (.ref 53), some (sI ((a : Int))), some (sI 1), some (sI ((w : Int))), some (sI ((b : Int))), X5], [sI ((w : Int)), sI ((a : Int)), .ref 53, sI (hI h 58 (7 + (6 * a + b)))], h)) rfl ?_
                  refine s_call (k := 152) (args := [.ref 53, sI ((a : Int)), sI ((w : Int))]) (st := [sI (hI h 58 (7 + (6 * a + b)))]) (v := some (sI (hI h 58 (7 + (6 * a + w))))) (h1 := h) rfl ⟨rfl, rfl⟩ rfl rfl rfl rfl (sRcv hh (a := 53) rfl rfl) rfl (fLookM hh ha hw6) ?_
                  refine s_icmp (q := .ge) (a := hI h 58 (7 + (6 * a + b))) (b := hI h 58 (7 + (6 * a + w))) rfl ⟨_, rfl⟩ rfl (by unfold sR aMi aMa; omega) (by unfold sR aMi aMa; omega) (fun hc5 => ?_) (fun hc5 => ?_)
                  · have hc5 : ((hI h 58 (7 + (6 * a + w))) : Int) ≤ (hI h 58 (7 + (6 * a + b))) := hc5
                    refine sP 3 (g1 := (42, [some (.ref 53), some (sI ((a : Int))), some (sI 1), some (sI ((w : Int))), some (sI ((b : Int))), some (sI 0)], [sI 0], h)) rfl ?_
                    refine s_ifc (q := .eq) (a := 0) rfl ⟨_, rfl⟩ rfl (by unfold sR aMi aMa; omega) (fun hc6 => ?_) (fun hc6 => ?_)
                    · have hc6 : (0 : Int) = 0 := hc6
                      refine sP 2 (g1 := (47, [some (.ref 53), some (sI ((a : Int))), some (sI 1), some (sI ((w : Int))), some (sI ((b : Int))), some (sI 0)], [], h)) rfl ?_
                      refine s_inc (a := (b : Int)) (n := 1) (k := 4) rfl rfl rfl ?_
                      refine sP 1 (g1 := (4, [some (.ref 53), some (sI ((a : Int))), some (sI 1), some (sI ((w : Int))), some (sI (((b : Int)) + 1)), some (sI 0)], [], h)) rfl ?_
                      rw [show ((b : Int) + 1) = ((b + 1 : Nat) : Int) by omega]
                      exact r1 _
                    · have hc6 : ¬ ((0 : Int) = 0) := hc6
                      omega
                  · have hc5 : ¬ (((hI h 58 (7 + (6 * a + w))) : Int) ≤ (hI h 58 (7 + (6 * a + b)))) := hc5
                    omega
theorem fExtL {n a : Nat} (hh : aHp h) (hn : hI h 58 0 = n) (ha : a < 6) : nEv sc (d + 2) 159 [.ref 53, sI (a : Int), sI 1] h (some (sI (eV (eX (gLe (fun j => hI h 58 (7 + j)) a) a n))), h) := by
  have r1 := fExtLL (sc := sc) (d := d) hh hn ha n 0 none (by omega)
  refine nEv_of (t := mMe159) rfl ?_
  show nRn sc (d + 1) (mMT mMe159) (mMC mMe159) (0, [some (.ref 53), some (sI (a : Int)), some (sI 1), none, none, none], [], h) _
  refine sP 4 (g1 := (4, [some (.ref 53), some (sI (a : Int)), some (sI 1), some (sI (-9)), some (sI ((0 : Nat) : Int)), none], [], h)) rfl ?_
  exact r1
theorem fMarkXb0 {a k : Int} (hh : aHp h) (ra : sR a) (rk : sR k) (hc : ¬ (0 ≤ a ∧ a < hI h 3 3)) : nEv sc (d + 3) 49 [.ref 0, sI a, sI k] h (some (sI (-1)), h) := by
  have gp := hI_rg hh xw_p
  unfold sR aMi aMa at ra rk
  refine nEv_of (t := mMe49) rfl ?_
  show nRn sc (d + 2) (mMT mMe49) (mMC mMe49) (0, [some (.ref 0), some (sI a), some (sI k)], [], h) _
  refine sP 1 (g1 := (1, [some (.ref 0), some (sI a), some (sI k)], [.ref 0], h)) rfl ?_
  refine s_get (a := 0) (j := 2) hh rfl ⟨_, rfl⟩ rfl rfl rfl (v := .ref 3) (hR_ok hh (by decide +kernel)) ?_
  refine sP 1 (g1 := (3, [some (.ref 0), some (sI a), some (sI k)], [sI a, .ref 3], h)) rfl ?_
  have ev1 := fHasX (sc := sc) (d := d + 1) (a := a) hh (by unfold sR aMi aMa; omega)
  rw [if_neg (by omega)] at ev1
  refine s_call (k := 35) (args := [.ref 3, sI a]) (st := []) (v := some (sI 0)) (h1 := h) rfl ⟨rfl, rfl⟩ rfl rfl rfl rfl (sRcv hh (a := 3) rfl rfl) rfl ev1 ?_
  refine s_ifc (q := .eq) (a := 0) rfl ⟨_, rfl⟩ rfl (by unfold sR aMi aMa; omega) (fun hc2 => ?_) (fun hc2 => ?_)
  · have hc2 : (0 : Int) = 0 := hc2
    refine sP 1 (g1 := (12, [some (.ref 0), some (sI a), some (sI k)], [sI ((-1))], h)) rfl ?_
    exact s_reti rfl rfl (Or.inl rfl) rfl rfl
  · have hc2 : ¬ ((0 : Int) = 0) := hc2
    omega
theorem fMarkXb1 {a k : Int} (hh : aHp h) (ra : sR a) (rk : sR k) (hc : (0 ≤ a ∧ a < hI h 3 3) ∧ ¬ (1 ≤ k ∧ k ≤ 5)) : nEv sc (d + 3) 49 [.ref 0, sI a, sI k] h (some (sI (-1)), h) := by
  have gp := hI_rg hh xw_p
  unfold sR aMi aMa at ra rk
  refine nEv_of (t := mMe49) rfl ?_
  show nRn sc (d + 2) (mMT mMe49) (mMC mMe49) (0, [some (.ref 0), some (sI a), some (sI k)], [], h) _
  refine sP 1 (g1 := (1, [some (.ref 0), some (sI a), some (sI k)], [.ref 0], h)) rfl ?_
  refine s_get (a := 0) (j := 2) hh rfl ⟨_, rfl⟩ rfl rfl rfl (v := .ref 3) (hR_ok hh (by decide +kernel)) ?_
  refine sP 1 (g1 := (3, [some (.ref 0), some (sI a), some (sI k)], [sI a, .ref 3], h)) rfl ?_
  have ev1 := fHasX (sc := sc) (d := d + 1) (a := a) hh (by unfold sR aMi aMa; omega)
  rw [if_pos (by omega)] at ev1
  refine s_call (k := 35) (args := [.ref 3, sI a]) (st := []) (v := some (sI 1)) (h1 := h) rfl ⟨rfl, rfl⟩ rfl rfl rfl rfl (sRcv hh (a := 3) rfl rfl) rfl ev1 ?_
  refine s_ifc (q := .eq) (a := 1) rfl ⟨_, rfl⟩ rfl (by unfold sR aMi aMa; omega) (fun hc2 => ?_) (fun hc2 => ?_)
  · have hc2 : (1 : Int) = 0 := hc2
    omega
  · have hc2 : ¬ ((1 : Int) = 0) := hc2
    refine sP 2 (g1 := (7, [some (.ref 0), some (sI a), some (sI k)], [sI 1, sI k], h)) rfl ?_
    refine s_icmp (q := .lt) (a := k) (b := 1) rfl ⟨_, rfl⟩ rfl (by unfold sR aMi aMa; omega) (by unfold sR aMi aMa; omega) (fun hc3 => ?_) (fun hc3 => ?_)
    · have hc3 : (k : Int) < 1 := hc3
      refine sP 1 (g1 := (12, [some (.ref 0), some (sI a), some (sI k)], [sI ((-1))], h)) rfl ?_
      exact s_reti rfl rfl (Or.inl rfl) rfl rfl
    · have hc3 : ¬ ((k : Int) < 1) := hc3
      refine sP 2 (g1 := (10, [some (.ref 0), some (sI a), some (sI k)], [sI 5, sI k], h)) rfl ?_
      refine s_icmp (q := .le) (a := k) (b := 5) rfl ⟨_, rfl⟩ rfl (by unfold sR aMi aMa; omega) (by unfold sR aMi aMa; omega) (fun hc4 => ?_) (fun hc4 => ?_)
      · have hc4 : (k : Int) ≤ 5 := hc4
        omega
      · have hc4 : ¬ ((k : Int) ≤ 5) := hc4
        refine sP 1 (g1 := (12, [some (.ref 0), some (sI a), some (sI k)], [sI ((-1))], h)) rfl ?_
        exact s_reti rfl rfl (Or.inl rfl) rfl rfl
theorem fMarkMb0 {a k : Int} (hh : aHp h) (ra : sR a) (rk : sR k) (hc : ¬ (0 ≤ a ∧ a < hI h 58 0)) : nEv sc (d + 3) 157 [.ref 53, sI a, sI k] h (some (sI (-1)), h) := by
  have gp := hI_rg hh nw_p
  unfold sR aMi aMa at ra rk
  refine nEv_of (t := mMe157) rfl ?_
  show nRn sc (d + 2) (mMT mMe157) (mMC mMe157) (0, [some (.ref 53), some (sI a), some (sI k)], [], h) _
  refine sP 2 (g1 := (2, [some (.ref 53), some (sI a), some (sI k)], [sI a, .ref 53], h)) rfl ?_
  have ev1 := fIsPerson (sc := sc) (d := d + 0) (a := a) hh (by unfold sR aMi aMa; omega)
  rw [if_neg (by omega)] at ev1
  refine s_call (k := 147) (args := [.ref 53, sI a]) (st := []) (v := some (sI 0)) (h1 := h) rfl ⟨rfl, rfl⟩ rfl rfl rfl rfl (sRcv hh (a := 53) rfl rfl) rfl ev1 ?_
  refine s_ifc (q := .eq) (a := 0) rfl ⟨_, rfl⟩ rfl (by unfold sR aMi aMa; omega) (fun hc2 => ?_) (fun hc2 => ?_)
  · have hc2 : (0 : Int) = 0 := hc2
    refine sP 1 (g1 := (11, [some (.ref 53), some (sI a), some (sI k)], [sI ((-1))], h)) rfl ?_
    exact s_reti rfl rfl (Or.inl rfl) rfl rfl
  · have hc2 : ¬ ((0 : Int) = 0) := hc2
    omega
theorem fMarkMb1 {a k : Int} (hh : aHp h) (ra : sR a) (rk : sR k) (hc : (0 ≤ a ∧ a < hI h 58 0) ∧ ¬ (1 ≤ k ∧ k ≤ 5)) : nEv sc (d + 3) 157 [.ref 53, sI a, sI k] h (some (sI (-1)), h) := by
  have gp := hI_rg hh nw_p
  unfold sR aMi aMa at ra rk
  refine nEv_of (t := mMe157) rfl ?_
  show nRn sc (d + 2) (mMT mMe157) (mMC mMe157) (0, [some (.ref 53), some (sI a), some (sI k)], [], h) _
  refine sP 2 (g1 := (2, [some (.ref 53), some (sI a), some (sI k)], [sI a, .ref 53], h)) rfl ?_
  have ev1 := fIsPerson (sc := sc) (d := d + 0) (a := a) hh (by unfold sR aMi aMa; omega)
  rw [if_pos (by omega)] at ev1
  refine s_call (k := 147) (args := [.ref 53, sI a]) (st := []) (v := some (sI 1)) (h1 := h) rfl ⟨rfl, rfl⟩ rfl rfl rfl rfl (sRcv hh (a := 53) rfl rfl) rfl ev1 ?_
  refine s_ifc (q := .eq) (a := 1) rfl ⟨_, rfl⟩ rfl (by unfold sR aMi aMa; omega) (fun hc2 => ?_) (fun hc2 => ?_)
  · have hc2 : (1 : Int) = 0 := hc2
    omega
  · have hc2 : ¬ ((1 : Int) = 0) := hc2
    refine sP 1 (g1 := (5, [some (.ref 53), some (sI a), some (sI k)], [sI k], h)) rfl ?_
    refine s_i2l (a := k) rfl rfl (by unfold sR aMi aMa; omega) ?_
    refine sP 2 (g1 := (8, [some (.ref 53), some (sI a), some (sI k)], [sJ 5, sJ 1, sJ k], h)) rfl ?_
    have ev3 := fIn (sc := sc) (d := d + 1) (h := h) (a := k) (b := 1) (e := 5) (by omega) (by omega) (by omega) (by omega) (by omega) (by omega)
    rw [if_neg (by omega)] at ev3
    refine s_call (k := 127) (args := [sJ k, sJ 1, sJ 5]) (st := []) (v := some (sI 0)) (h1 := h) rfl ⟨rfl, rfl⟩ rfl rfl rfl rfl rfl rfl ev3 ?_
    refine s_ifc (q := .ne) (a := 0) rfl ⟨_, rfl⟩ rfl (by unfold sR aMi aMa; omega) (fun hc4 => ?_) (fun hc4 => ?_)
    · have hc4 : (0 : Int) ≠ 0 := hc4
      omega
    · have hc4 : ¬ ((0 : Int) ≠ 0) := hc4
      refine sP 1 (g1 := (11, [some (.ref 53), some (sI a), some (sI k)], [sI ((-1))], h)) rfl ?_
      exact s_reti rfl rfl (Or.inl rfl) rfl rfl
theorem fMarkXu {n a k kd : Nat} (hh : aHp h) (hn : hI h 3 3 = n) (ha : a < n) (k1 : 1 ≤ k) (k5 : k ≤ 5) (ek : hI h 4 a = (kd : Int)) (hi : pIs kd k = false) : ∃ g, nEv sc (d + 3) 49 [.ref 0, sI (a : Int), sI (k : Int)] h (some (sI (-3)), g) ∧ aHp g ∧ ∀ p m, ¬ (p = 0 ∧ m = 8) → p ≠ 20 → aSlot g p m = aSlot h p m := by
  have gp := hI_rg hh xw_p
  have gk := hI_rg hh (xw_k (show a < 6 by omega))
  have ei := fIsA (sc := sc) (d := d + 1) (h := h) (kd := kd) (k := k) (by omega) k1 k5
  rw [hi, if_neg (by decide)] at ei
  obtain ⟨g1, r1, r2, r3⟩ := fFoundX (sc := sc) (d := d + 1) (f := 3) hh (by decide)
  refine ⟨g1, nEv_of (t := mMe49) rfl ?_, r2, fun p m w1 w2 => by rw [r3, if_neg (by omega), if_neg (by omega)]⟩
  show nRn sc (d + 2) (mMT mMe49) (mMC mMe49) (0, [some (.ref 0), some (sI ((a : Int))), some (sI ((k : Int)))], [], h) _
  refine sP 1 (g1 := (1, [some (.ref 0), some (sI ((a : Int))), some (sI ((k : Int)))], [.ref 0], h)) rfl ?_
  refine s_get (a := 0) (j := 2) hh rfl ⟨_, rfl⟩ rfl rfl rfl (v := .ref 3) (hR_ok hh (by decide +kernel)) ?_
  refine sP 1 (g1 := (3, [some (.ref 0), some (sI ((a : Int))), some (sI ((k : Int)))], [sI ((a : Int)), .ref 3], h)) rfl ?_
  have ev1 := fHasX (sc := sc) (d := d + 1) (a := (a : Int)) hh (by unfold sR aMi aMa; omega)
  rw [if_pos (by omega)] at ev1
  refine s_call (k := 35) (args := [.ref 3, sI ((a : Int))]) (st := []) (v := some (sI 1)) (h1 := h) rfl ⟨rfl, rfl⟩ rfl rfl rfl rfl (sRcv hh (a := 3) rfl rfl) rfl ev1 ?_
  refine s_ifc (q := .eq) (a := 1) rfl ⟨_, rfl⟩ rfl (by unfold sR aMi aMa; omega) (fun hc2 => ?_) (fun hc2 => ?_)
  · have hc2 : (1 : Int) = 0 := hc2
    omega
  · have hc2 : ¬ ((1 : Int) = 0) := hc2
    refine sP 2 (g1 := (7, [some (.ref 0), some (sI ((a : Int))), some (sI ((k : Int)))], [sI 1, sI ((k : Int))], h)) rfl ?_
    refine s_icmp (q := .lt) (a := (k : Int)) (b := 1) rfl ⟨_, rfl⟩ rfl (by unfold sR aMi aMa; omega) (by unfold sR aMi aMa; omega) (fun hc3 => ?_) (fun hc3 => ?_)
    · have hc3 : (((k : Int)) : Int) < 1 := hc3
      omega
    · have hc3 : ¬ ((((k : Int)) : Int) < 1) := hc3
      refine sP 2 (g1 := (10, [some (.ref 0), some (sI ((a : Int))), some (sI ((k : Int)))], [sI 5, sI ((k : Int))], h)) rfl ?_
      refine s_icmp (q := .le) (a := (k : Int)) (b := 5) rfl ⟨_, rfl⟩ rfl (by unfold sR aMi aMa; omega) (by unfold sR aMi aMa; omega) (fun hc4 => ?_) (fun hc4 => ?_)
      · have hc4 : (((k : Int)) : Int) ≤ 5 := hc4
        refine sP 1 (g1 := (14, [some (.ref 0), some (sI ((a : Int))), some (sI ((k : Int)))], [.ref 0], h)) rfl ?_
        refine s_get (a := 0) (j := 2) hh rfl ⟨_, rfl⟩ rfl rfl rfl (v := .ref 3) (hR_ok hh (by decide +kernel)) ?_
        refine s_get (a := 3) (j := 0) hh rfl ⟨_, rfl⟩ rfl rfl rfl (v := .ref 4) (hR_ok hh (by decide +kernel)) ?_
        refine sP 1 (g1 := (17, [some (.ref 0), some (sI ((a : Int))), some (sI ((k : Int)))], [sI ((a : Int)), .ref 4], h)) rfl ?_
        refine s_iald (a := 4) (n := 6) (j := (a : Int)) hh rfl rfl rfl (by omega) (by omega) (by decide) (v := sI ((kd : Int))) (by rw [Int.toNat_natCast]; have q := hI_ok hh (xw_k (show a < 6 by omega)); rw [ek] at q; exact q) ?_
        refine sP 1 (g1 := (19, [some (.ref 0), some (sI ((a : Int))), some (sI ((k : Int)))], [sI ((k : Int)), sI ((kd : Int))], h)) rfl ?_
        refine s_call (k := 50) (args := [sI ((kd : Int)), sI ((k : Int))]) (st := []) (v := some (sI 0)) (h1 := h) rfl ⟨rfl, rfl⟩ rfl rfl rfl rfl rfl rfl ei ?_
        refine s_ifc (q := .ne) (a := 0) rfl ⟨_, rfl⟩ rfl (by unfold sR aMi aMa; omega) (fun hc5 => ?_) (fun hc5 => ?_)
        · have hc5 : (0 : Int) ≠ 0 := hc5
          omega
        · have hc5 : ¬ ((0 : Int) ≠ 0) := hc5
          refine sP 2 (g1 := (23, [some (.ref 0), some (sI ((a : Int))), some (sI ((k : Int)))], [sI 3, .ref 0], h)) rfl ?_
          refine s_call (k := 9) (args := [.ref 0, sI 3]) (st := []) (v := some (sI ((-3)))) (h1 := g1) rfl ⟨rfl, rfl⟩ rfl rfl rfl rfl (sRcv hh (a := 0) rfl rfl) rfl r1 ?_
          exact s_reti rfl rfl (Or.inl rfl) rfl rfl
      · have hc4 : ¬ ((((k : Int)) : Int) ≤ 5) := hc4
        omega
theorem fMarkX1 {n a kd : Nat} (hh : aHp h) (hn : hI h 3 3 = n) (ha : a < n) (ek : hI h 4 a = (kd : Int)) (hi : pIs kd 1 = true) : nEv sc (d + 3) 49 [.ref 0, sI (a : Int), sI 1] h (some (sI (eV (eX (gGr (hI h 5) a) a n))), h) := by
  have gp := hI_rg hh xw_p
  have gk := hI_rg hh (xw_k (show a < 6 by omega))
  have ei := fIsA (sc := sc) (d := d + 1) (h := h) (kd := kd) (k := 1) (by omega) (by decide) (by decide)
  rw [hi, if_pos rfl] at ei
  have ev := fGreatest (sc := sc) (d := d) hh hn (show a < 6 by omega)
  refine nEv_of (t := mMe49) rfl ?_
  show nRn sc (d + 2) (mMT mMe49) (mMC mMe49) (0, [some (.ref 0), some (sI ((a : Int))), some (sI 1)], [], h) _
  refine sP 1 (g1 := (1, [some (.ref 0), some (sI ((a : Int))), some (sI 1)], [.ref 0], h)) rfl ?_
  refine s_get (a := 0) (j := 2) hh rfl ⟨_, rfl⟩ rfl rfl rfl (v := .ref 3) (hR_ok hh (by decide +kernel)) ?_
  refine sP 1 (g1 := (3, [some (.ref 0), some (sI ((a : Int))), some (sI 1)], [sI ((a : Int)), .ref 3], h)) rfl ?_
  have ev1 := fHasX (sc := sc) (d := d + 1) (a := (a : Int)) hh (by unfold sR aMi aMa; omega)
  rw [if_pos (by omega)] at ev1
  refine s_call (k := 35) (args := [.ref 3, sI ((a : Int))]) (st := []) (v := some (sI 1)) (h1 := h) rfl ⟨rfl, rfl⟩ rfl rfl rfl rfl (sRcv hh (a := 3) rfl rfl) rfl ev1 ?_
  refine s_ifc (q := .eq) (a := 1) rfl ⟨_, rfl⟩ rfl (by unfold sR aMi aMa; omega) (fun hc2 => ?_) (fun hc2 => ?_)
  · have hc2 : (1 : Int) = 0 := hc2
    omega
  · have hc2 : ¬ ((1 : Int) = 0) := hc2
    refine sP 2 (g1 := (7, [some (.ref 0), some (sI ((a : Int))), some (sI 1)], [sI 1, sI 1], h)) rfl ?_
    refine s_icmp (q := .lt) (a := 1) (b := 1) rfl ⟨_, rfl⟩ rfl (by unfold sR aMi aMa; omega) (by unfold sR aMi aMa; omega) (fun hc3 => ?_) (fun hc3 => ?_)
    · have hc3 : (1 : Int) < 1 := hc3
      omega
    · have hc3 : ¬ ((1 : Int) < 1) := hc3
      refine sP 2 (g1 := (10, [some (.ref 0), some (sI ((a : Int))), some (sI 1)], [sI 5, sI 1], h)) rfl ?_
      refine s_icmp (q := .le) (a := 1) (b := 5) rfl ⟨_, rfl⟩ rfl (by unfold sR aMi aMa; omega) (by unfold sR aMi aMa; omega) (fun hc4 => ?_) (fun hc4 => ?_)
      · have hc4 : (1 : Int) ≤ 5 := hc4
        refine sP 1 (g1 := (14, [some (.ref 0), some (sI ((a : Int))), some (sI 1)], [.ref 0], h)) rfl ?_
        refine s_get (a := 0) (j := 2) hh rfl ⟨_, rfl⟩ rfl rfl rfl (v := .ref 3) (hR_ok hh (by decide +kernel)) ?_
        refine s_get (a := 3) (j := 0) hh rfl ⟨_, rfl⟩ rfl rfl rfl (v := .ref 4) (hR_ok hh (by decide +kernel)) ?_
        refine sP 1 (g1 := (17, [some (.ref 0), some (sI ((a : Int))), some (sI 1)], [sI ((a : Int)), .ref 4], h)) rfl ?_
        refine s_iald (a := 4) (n := 6) (j := (a : Int)) hh rfl rfl rfl (by omega) (by omega) (by decide) (v := sI ((kd : Int))) (by rw [Int.toNat_natCast]; have q := hI_ok hh (xw_k (show a < 6 by omega)); rw [ek] at q; exact q) ?_
        refine sP 1 (g1 := (19, [some (.ref 0), some (sI ((a : Int))), some (sI 1)], [sI 1, sI ((kd : Int))], h)) rfl ?_
        refine s_call (k := 50) (args := [sI ((kd : Int)), sI 1]) (st := []) (v := some (sI 1)) (h1 := h) rfl ⟨rfl, rfl⟩ rfl rfl rfl rfl rfl rfl ei ?_
        refine s_ifc (q := .ne) (a := 1) rfl ⟨_, rfl⟩ rfl (by unfold sR aMi aMa; omega) (fun hc5 => ?_) (fun hc5 => ?_)
        · have hc5 : (1 : Int) ≠ 0 := hc5
          refine sP 1 (g1 := (26, [some (.ref 0), some (sI ((a : Int))), some (sI 1)], [sI 1], h)) rfl ?_
          refine s_tsw (k := 1) rfl ⟨_, _, _, _, rfl⟩ (by unfold sR aMi aMa; omega) rfl ?_
          refine sP 1 (g1 := (28, [some (.ref 0), some (sI ((a : Int))), some (sI 1)], [.ref 0], h)) rfl ?_
          refine s_get (a := 0) (j := 2) hh rfl ⟨_, rfl⟩ rfl rfl rfl (v := .ref 3) (hR_ok hh (by decide +kernel)) ?_
          refine sP 1 (g1 := (30, [some (.ref 0), some (sI ((a : Int))), some (sI 1)], [sI ((a : Int)), .ref 3], h)) rfl ?_
          refine s_call (k := 51) (args := [.ref 3, sI ((a : Int))]) (st := []) (v := some (sI (eV (eX (gGr (hI h 5) a) a n)))) (h1 := h) rfl ⟨rfl, rfl⟩ rfl rfl rfl rfl (sRcv hh (a := 3) rfl rfl) rfl ev ?_
          exact s_reti rfl rfl (Or.inl rfl) rfl rfl
        · have hc5 : ¬ ((1 : Int) ≠ 0) := hc5
          omega
      · have hc4 : ¬ ((1 : Int) ≤ 5) := hc4
        omega
theorem fMarkX2 {n a kd : Nat} (hh : aHp h) (hn : hI h 3 3 = n) (ha : a < n) (ek : hI h 4 a = (kd : Int)) (hi : pIs kd 2 = true) : nEv sc (d + 3) 49 [.ref 0, sI (a : Int), sI 2] h (some (sI (eV (eX (gLe (hI h 5) a) a n))), h) := by
  have gp := hI_rg hh xw_p
  have gk := hI_rg hh (xw_k (show a < 6 by omega))
  have ei := fIsA (sc := sc) (d := d + 1) (h := h) (kd := kd) (k := 2) (by omega) (by decide) (by decide)
  rw [hi, if_pos rfl] at ei
  have ev := fLeast (sc := sc) (d := d) hh hn (show a < 6 by omega)
  refine nEv_of (t := mMe49) rfl ?_
  show nRn sc (d + 2) (mMT mMe49) (mMC mMe49) (0, [some (.ref 0), some (sI ((a : Int))), some (sI 2)], [], h) _
  refine sP 1 (g1 := (1, [some (.ref 0), some (sI ((a : Int))), some (sI 2)], [.ref 0], h)) rfl ?_
  refine s_get (a := 0) (j := 2) hh rfl ⟨_, rfl⟩ rfl rfl rfl (v := .ref 3) (hR_ok hh (by decide +kernel)) ?_
  refine sP 1 (g1 := (3, [some (.ref 0), some (sI ((a : Int))), some (sI 2)], [sI ((a : Int)), .ref 3], h)) rfl ?_
  have ev1 := fHasX (sc := sc) (d := d + 1) (a := (a : Int)) hh (by unfold sR aMi aMa; omega)
  rw [if_pos (by omega)] at ev1
  refine s_call (k := 35) (args := [.ref 3, sI ((a : Int))]) (st := []) (v := some (sI 1)) (h1 := h) rfl ⟨rfl, rfl⟩ rfl rfl rfl rfl (sRcv hh (a := 3) rfl rfl) rfl ev1 ?_
  refine s_ifc (q := .eq) (a := 1) rfl ⟨_, rfl⟩ rfl (by unfold sR aMi aMa; omega) (fun hc2 => ?_) (fun hc2 => ?_)
  · have hc2 : (1 : Int) = 0 := hc2
    omega
  · have hc2 : ¬ ((1 : Int) = 0) := hc2
    refine sP 2 (g1 := (7, [some (.ref 0), some (sI ((a : Int))), some (sI 2)], [sI 1, sI 2], h)) rfl ?_
    refine s_icmp (q := .lt) (a := 2) (b := 1) rfl ⟨_, rfl⟩ rfl (by unfold sR aMi aMa; omega) (by unfold sR aMi aMa; omega) (fun hc3 => ?_) (fun hc3 => ?_)
    · have hc3 : (2 : Int) < 1 := hc3
      omega
    · have hc3 : ¬ ((2 : Int) < 1) := hc3
      refine sP 2 (g1 := (10, [some (.ref 0), some (sI ((a : Int))), some (sI 2)], [sI 5, sI 2], h)) rfl ?_
      refine s_icmp (q := .le) (a := 2) (b := 5) rfl ⟨_, rfl⟩ rfl (by unfold sR aMi aMa; omega) (by unfold sR aMi aMa; omega) (fun hc4 => ?_) (fun hc4 => ?_)
      · have hc4 : (2 : Int) ≤ 5 := hc4
        refine sP 1 (g1 := (14, [some (.ref 0), some (sI ((a : Int))), some (sI 2)], [.ref 0], h)) rfl ?_
        refine s_get (a := 0) (j := 2) hh rfl ⟨_, rfl⟩ rfl rfl rfl (v := .ref 3) (hR_ok hh (by decide +kernel)) ?_
        refine s_get (a := 3) (j := 0) hh rfl ⟨_, rfl⟩ rfl rfl rfl (v := .ref 4) (hR_ok hh (by decide +kernel)) ?_
        refine sP 1 (g1 := (17, [some (.ref 0), some (sI ((a : Int))), some (sI 2)], [sI ((a : Int)), .ref 4], h)) rfl ?_
        refine s_iald (a := 4) (n := 6) (j := (a : Int)) hh rfl rfl rfl (by omega) (by omega) (by decide) (v := sI ((kd : Int))) (by rw [Int.toNat_natCast]; have q := hI_ok hh (xw_k (show a < 6 by omega)); rw [ek] at q; exact q) ?_
        refine sP 1 (g1 := (19, [some (.ref 0), some (sI ((a : Int))), some (sI 2)], [sI 2, sI ((kd : Int))], h)) rfl ?_
        refine s_call (k := 50) (args := [sI ((kd : Int)), sI 2]) (st := []) (v := some (sI 1)) (h1 := h) rfl ⟨rfl, rfl⟩ rfl rfl rfl rfl rfl rfl ei ?_
        refine s_ifc (q := .ne) (a := 1) rfl ⟨_, rfl⟩ rfl (by unfold sR aMi aMa; omega) (fun hc5 => ?_) (fun hc5 => ?_)
        · have hc5 : (1 : Int) ≠ 0 := hc5
          refine sP 1 (g1 := (26, [some (.ref 0), some (sI ((a : Int))), some (sI 2)], [sI 2], h)) rfl ?_
          refine s_tsw (k := 2) rfl ⟨_, _, _, _, rfl⟩ (by unfold sR aMi aMa; omega) rfl ?_
          refine sP 1 (g1 := (33, [some (.ref 0), some (sI ((a : Int))), some (sI 2)], [.ref 0], h)) rfl ?_
          refine s_get (a := 0) (j := 2) hh rfl ⟨_, rfl⟩ rfl rfl rfl (v := .ref 3) (hR_ok hh (by decide +kernel)) ?_
          refine sP 1 (g1 := (35, [some (.ref 0), some (sI ((a : Int))), some (sI 2)], [sI ((a : Int)), .ref 3], h)) rfl ?_
          refine s_call (k := 52) (args := [.ref 3, sI ((a : Int))]) (st := []) (v := some (sI (eV (eX (gLe (hI h 5) a) a n)))) (h1 := h) rfl ⟨rfl, rfl⟩ rfl rfl rfl rfl (sRcv hh (a := 3) rfl rfl) rfl ev ?_
          exact s_reti rfl rfl (Or.inl rfl) rfl rfl
        · have hc5 : ¬ ((1 : Int) ≠ 0) := hc5
          omega
      · have hc4 : ¬ ((2 : Int) ≤ 5) := hc4
        omega
theorem fMarkX3 {n a kd : Nat} (hh : aHp h) (hn : hI h 3 3 = n) (ha : a < n) (ek : hI h 4 a = (kd : Int)) (hi : pIs kd 3 = true) : nEv sc (d + 3) 49 [.ref 0, sI (a : Int), sI 3] h (some (sI (((uB (hI h 5) a n : Nat) : Int))), h) := by
  have gp := hI_rg hh xw_p
  have gk := hI_rg hh (xw_k (show a < 6 by omega))
  have ei := fIsA (sc := sc) (d := d + 1) (h := h) (kd := kd) (k := 3) (by omega) (by decide) (by decide)
  rw [hi, if_pos rfl] at ei
  have ev := fUnmadeBy (sc := sc) (d := d) hh hn (show a < 6 by omega)
  refine nEv_of (t := mMe49) rfl ?_
  show nRn sc (d + 2) (mMT mMe49) (mMC mMe49) (0, [some (.ref 0), some (sI ((a : Int))), some (sI 3)], [], h) _
  refine sP 1 (g1 := (1, [some (.ref 0), some (sI ((a : Int))), some (sI 3)], [.ref 0], h)) rfl ?_
  refine s_get (a := 0) (j := 2) hh rfl ⟨_, rfl⟩ rfl rfl rfl (v := .ref 3) (hR_ok hh (by decide +kernel)) ?_
  refine sP 1 (g1 := (3, [some (.ref 0), some (sI ((a : Int))), some (sI 3)], [sI ((a : Int)), .ref 3], h)) rfl ?_
  have ev1 := fHasX (sc := sc) (d := d + 1) (a := (a : Int)) hh (by unfold sR aMi aMa; omega)
  rw [if_pos (by omega)] at ev1
  refine s_call (k := 35) (args := [.ref 3, sI ((a : Int))]) (st := []) (v := some (sI 1)) (h1 := h) rfl ⟨rfl, rfl⟩ rfl rfl rfl rfl (sRcv hh (a := 3) rfl rfl) rfl ev1 ?_
  refine s_ifc (q := .eq) (a := 1) rfl ⟨_, rfl⟩ rfl (by unfold sR aMi aMa; omega) (fun hc2 => ?_) (fun hc2 => ?_)
  · have hc2 : (1 : Int) = 0 := hc2
    omega
  · have hc2 : ¬ ((1 : Int) = 0) := hc2
    refine sP 2 (g1 := (7, [some (.ref 0), some (sI ((a : Int))), some (sI 3)], [sI 1, sI 3], h)) rfl ?_
    refine s_icmp (q := .lt) (a := 3) (b := 1) rfl ⟨_, rfl⟩ rfl (by unfold sR aMi aMa; omega) (by unfold sR aMi aMa; omega) (fun hc3 => ?_) (fun hc3 => ?_)
    · have hc3 : (3 : Int) < 1 := hc3
      omega
    · have hc3 : ¬ ((3 : Int) < 1) := hc3
      refine sP 2 (g1 := (10, [some (.ref 0), some (sI ((a : Int))), some (sI 3)], [sI 5, sI 3], h)) rfl ?_
      refine s_icmp (q := .le) (a := 3) (b := 5) rfl ⟨_, rfl⟩ rfl (by unfold sR aMi aMa; omega) (by unfold sR aMi aMa; omega) (fun hc4 => ?_) (fun hc4 => ?_)
      · have hc4 : (3 : Int) ≤ 5 := hc4
        refine sP 1 (g1 := (14, [some (.ref 0), some (sI ((a : Int))), some (sI 3)], [.ref 0], h)) rfl ?_
        refine s_get (a := 0) (j := 2) hh rfl ⟨_, rfl⟩ rfl rfl rfl (v := .ref 3) (hR_ok hh (by decide +kernel)) ?_
        refine s_get (a := 3) (j := 0) hh rfl ⟨_, rfl⟩ rfl rfl rfl (v := .ref 4) (hR_ok hh (by decide +kernel)) ?_
        refine sP 1 (g1 := (17, [some (.ref 0), some (sI ((a : Int))), some (sI 3)], [sI ((a : Int)), .ref 4], h)) rfl ?_
        refine s_iald (a := 4) (n := 6) (j := (a : Int)) hh rfl rfl rfl (by omega) (by omega) (by decide) (v := sI ((kd : Int))) (by rw [Int.toNat_natCast]; have q := hI_ok hh (xw_k (show a < 6 by omega)); rw [ek] at q; exact q) ?_
        refine sP 1 (g1 := (19, [some (.ref 0), some (sI ((a : Int))), some (sI 3)], [sI 3, sI ((kd : Int))], h)) rfl ?_
        refine s_call (k := 50) (args := [sI ((kd : Int)), sI 3]) (st := []) (v := some (sI 1)) (h1 := h) rfl ⟨rfl, rfl⟩ rfl rfl rfl rfl rfl rfl ei ?_
        refine s_ifc (q := .ne) (a := 1) rfl ⟨_, rfl⟩ rfl (by unfold sR aMi aMa; omega) (fun hc5 => ?_) (fun hc5 => ?_)
        · have hc5 : (1 : Int) ≠ 0 := hc5
          refine sP 1 (g1 := (26, [some (.ref 0), some (sI ((a : Int))), some (sI 3)], [sI 3], h)) rfl ?_
          refine s_tsw (k := 3) rfl ⟨_, _, _, _, rfl⟩ (by unfold sR aMi aMa; omega) rfl ?_
          refine sP 1 (g1 := (38, [some (.ref 0), some (sI ((a : Int))), some (sI 3)], [.ref 0], h)) rfl ?_
          refine s_get (a := 0) (j := 2) hh rfl ⟨_, rfl⟩ rfl rfl rfl (v := .ref 3) (hR_ok hh (by decide +kernel)) ?_
          refine sP 1 (g1 := (40, [some (.ref 0), some (sI ((a : Int))), some (sI 3)], [sI ((a : Int)), .ref 3], h)) rfl ?_
          refine s_call (k := 47) (args := [.ref 3, sI ((a : Int))]) (st := []) (v := some (sI (((uB (hI h 5) a n : Nat) : Int)))) (h1 := h) rfl ⟨rfl, rfl⟩ rfl rfl rfl rfl (sRcv hh (a := 3) rfl rfl) rfl ev ?_
          exact s_reti rfl rfl (Or.inl rfl) rfl rfl
        · have hc5 : ¬ ((1 : Int) ≠ 0) := hc5
          omega
      · have hc4 : ¬ ((3 : Int) ≤ 5) := hc4
        omega
theorem fMarkX4 {n a kd : Nat} (hh : aHp h) (hn : hI h 3 3 = n) (ha : a < n) (ek : hI h 4 a = (kd : Int)) (hi : pIs kd 4 = true) : nEv sc (d + 3) 49 [.ref 0, sI (a : Int), sI 4] h (some (sI (((hK (hI h 4) 4 n : Nat) : Int))), h) := by
  have gp := hI_rg hh xw_p
  have gk := hI_rg hh (xw_k (show a < 6 by omega))
  have ei := fIsA (sc := sc) (d := d + 1) (h := h) (kd := kd) (k := 4) (by omega) (by decide) (by decide)
  rw [hi, if_pos rfl] at ei
  have ev := fHowMany (sc := sc) (d := d) hh hn (k := 4) (by decide) (by decide)
  refine nEv_of (t := mMe49) rfl ?_
  show nRn sc (d + 2) (mMT mMe49) (mMC mMe49) (0, [some (.ref 0), some (sI ((a : Int))), some (sI 4)], [], h) _
  refine sP 1 (g1 := (1, [some (.ref 0), some (sI ((a : Int))), some (sI 4)], [.ref 0], h)) rfl ?_
  refine s_get (a := 0) (j := 2) hh rfl ⟨_, rfl⟩ rfl rfl rfl (v := .ref 3) (hR_ok hh (by decide +kernel)) ?_
  refine sP 1 (g1 := (3, [some (.ref 0), some (sI ((a : Int))), some (sI 4)], [sI ((a : Int)), .ref 3], h)) rfl ?_
  have ev1 := fHasX (sc := sc) (d := d + 1) (a := (a : Int)) hh (by unfold sR aMi aMa; omega)
  rw [if_pos (by omega)] at ev1
  refine s_call (k := 35) (args := [.ref 3, sI ((a : Int))]) (st := []) (v := some (sI 1)) (h1 := h) rfl ⟨rfl, rfl⟩ rfl rfl rfl rfl (sRcv hh (a := 3) rfl rfl) rfl ev1 ?_
  refine s_ifc (q := .eq) (a := 1) rfl ⟨_, rfl⟩ rfl (by unfold sR aMi aMa; omega) (fun hc2 => ?_) (fun hc2 => ?_)
  · have hc2 : (1 : Int) = 0 := hc2
    omega
  · have hc2 : ¬ ((1 : Int) = 0) := hc2
    refine sP 2 (g1 := (7, [some (.ref 0), some (sI ((a : Int))), some (sI 4)], [sI 1, sI 4], h)) rfl ?_
    refine s_icmp (q := .lt) (a := 4) (b := 1) rfl ⟨_, rfl⟩ rfl (by unfold sR aMi aMa; omega) (by unfold sR aMi aMa; omega) (fun hc3 => ?_) (fun hc3 => ?_)
    · have hc3 : (4 : Int) < 1 := hc3
      omega
    · have hc3 : ¬ ((4 : Int) < 1) := hc3
      refine sP 2 (g1 := (10, [some (.ref 0), some (sI ((a : Int))), some (sI 4)], [sI 5, sI 4], h)) rfl ?_
      refine s_icmp (q := .le) (a := 4) (b := 5) rfl ⟨_, rfl⟩ rfl (by unfold sR aMi aMa; omega) (by unfold sR aMi aMa; omega) (fun hc4 => ?_) (fun hc4 => ?_)
      · have hc4 : (4 : Int) ≤ 5 := hc4
        refine sP 1 (g1 := (14, [some (.ref 0), some (sI ((a : Int))), some (sI 4)], [.ref 0], h)) rfl ?_
        refine s_get (a := 0) (j := 2) hh rfl ⟨_, rfl⟩ rfl rfl rfl (v := .ref 3) (hR_ok hh (by decide +kernel)) ?_
        refine s_get (a := 3) (j := 0) hh rfl ⟨_, rfl⟩ rfl rfl rfl (v := .ref 4) (hR_ok hh (by decide +kernel)) ?_
        refine sP 1 (g1 := (17, [some (.ref 0), some (sI ((a : Int))), some (sI 4)], [sI ((a : Int)), .ref 4], h)) rfl ?_
        refine s_iald (a := 4) (n := 6) (j := (a : Int)) hh rfl rfl rfl (by omega) (by omega) (by decide) (v := sI ((kd : Int))) (by rw [Int.toNat_natCast]; have q := hI_ok hh (xw_k (show a < 6 by omega)); rw [ek] at q; exact q) ?_
        refine sP 1 (g1 := (19, [some (.ref 0), some (sI ((a : Int))), some (sI 4)], [sI 4, sI ((kd : Int))], h)) rfl ?_
        refine s_call (k := 50) (args := [sI ((kd : Int)), sI 4]) (st := []) (v := some (sI 1)) (h1 := h) rfl ⟨rfl, rfl⟩ rfl rfl rfl rfl rfl rfl ei ?_
        refine s_ifc (q := .ne) (a := 1) rfl ⟨_, rfl⟩ rfl (by unfold sR aMi aMa; omega) (fun hc5 => ?_) (fun hc5 => ?_)
        · have hc5 : (1 : Int) ≠ 0 := hc5
          refine sP 1 (g1 := (26, [some (.ref 0), some (sI ((a : Int))), some (sI 4)], [sI 4], h)) rfl ?_
          refine s_tsw (k := 4) rfl ⟨_, _, _, _, rfl⟩ (by unfold sR aMi aMa; omega) rfl ?_
          refine sP 1 (g1 := (43, [some (.ref 0), some (sI ((a : Int))), some (sI 4)], [.ref 0], h)) rfl ?_
          refine s_get (a := 0) (j := 2) hh rfl ⟨_, rfl⟩ rfl rfl rfl (v := .ref 3) (hR_ok hh (by decide +kernel)) ?_
          refine sP 1 (g1 := (45, [some (.ref 0), some (sI ((a : Int))), some (sI 4)], [sI 4, .ref 3], h)) rfl ?_
          refine s_call (k := 53) (args := [.ref 3, sI 4]) (st := []) (v := some (sI (((hK (hI h 4) 4 n : Nat) : Int)))) (h1 := h) rfl ⟨rfl, rfl⟩ rfl rfl rfl rfl (sRcv hh (a := 3) rfl rfl) rfl ev ?_
          exact s_reti rfl rfl (Or.inl rfl) rfl rfl
        · have hc5 : ¬ ((1 : Int) ≠ 0) := hc5
          omega
      · have hc4 : ¬ ((4 : Int) ≤ 5) := hc4
        omega
theorem fMarkX5 {n a kd : Nat} (hh : aHp h) (hn : hI h 3 3 = n) (ha : a < n) (ek : hI h 4 a = (kd : Int)) (hi : pIs kd 5 = true) : nEv sc (d + 3) 49 [.ref 0, sI (a : Int), sI 5] h (some (sI (((uT2 (hI h 5) a n : Nat) : Int))), h) := by
  have gp := hI_rg hh xw_p
  have gk := hI_rg hh (xw_k (show a < 6 by omega))
  have ei := fIsA (sc := sc) (d := d + 1) (h := h) (kd := kd) (k := 5) (by omega) (by decide) (by decide)
  rw [hi, if_pos rfl] at ei
  have ev := fUnmadeTo (sc := sc) (d := d) hh hn (show a < 6 by omega)
  refine nEv_of (t := mMe49) rfl ?_
  show nRn sc (d + 2) (mMT mMe49) (mMC mMe49) (0, [some (.ref 0), some (sI ((a : Int))), some (sI 5)], [], h) _
  refine sP 1 (g1 := (1, [some (.ref 0), some (sI ((a : Int))), some (sI 5)], [.ref 0], h)) rfl ?_
  refine s_get (a := 0) (j := 2) hh rfl ⟨_, rfl⟩ rfl rfl rfl (v := .ref 3) (hR_ok hh (by decide +kernel)) ?_
  refine sP 1 (g1 := (3, [some (.ref 0), some (sI ((a : Int))), some (sI 5)], [sI ((a : Int)), .ref 3], h)) rfl ?_
  have ev1 := fHasX (sc := sc) (d := d + 1) (a := (a : Int)) hh (by unfold sR aMi aMa; omega)
  rw [if_pos (by omega)] at ev1
  refine s_call (k := 35) (args := [.ref 3, sI ((a : Int))]) (st := []) (v := some (sI 1)) (h1 := h) rfl ⟨rfl, rfl⟩ rfl rfl rfl rfl (sRcv hh (a := 3) rfl rfl) rfl ev1 ?_
  refine s_ifc (q := .eq) (a := 1) rfl ⟨_, rfl⟩ rfl (by unfold sR aMi aMa; omega) (fun hc2 => ?_) (fun hc2 => ?_)
  · have hc2 : (1 : Int) = 0 := hc2
    omega
  · have hc2 : ¬ ((1 : Int) = 0) := hc2
    refine sP 2 (g1 := (7, [some (.ref 0), some (sI ((a : Int))), some (sI 5)], [sI 1, sI 5], h)) rfl ?_
    refine s_icmp (q := .lt) (a := 5) (b := 1) rfl ⟨_, rfl⟩ rfl (by unfold sR aMi aMa; omega) (by unfold sR aMi aMa; omega) (fun hc3 => ?_) (fun hc3 => ?_)
    · have hc3 : (5 : Int) < 1 := hc3
      omega
    · have hc3 : ¬ ((5 : Int) < 1) := hc3
      refine sP 2 (g1 := (10, [some (.ref 0), some (sI ((a : Int))), some (sI 5)], [sI 5, sI 5], h)) rfl ?_
      refine s_icmp (q := .le) (a := 5) (b := 5) rfl ⟨_, rfl⟩ rfl (by unfold sR aMi aMa; omega) (by unfold sR aMi aMa; omega) (fun hc4 => ?_) (fun hc4 => ?_)
      · have hc4 : (5 : Int) ≤ 5 := hc4
        refine sP 1 (g1 := (14, [some (.ref 0), some (sI ((a : Int))), some (sI 5)], [.ref 0], h)) rfl ?_
        refine s_get (a := 0) (j := 2) hh rfl ⟨_, rfl⟩ rfl rfl rfl (v := .ref 3) (hR_ok hh (by decide +kernel)) ?_
        refine s_get (a := 3) (j := 0) hh rfl ⟨_, rfl⟩ rfl rfl rfl (v := .ref 4) (hR_ok hh (by decide +kernel)) ?_
        refine sP 1 (g1 := (17, [some (.ref 0), some (sI ((a : Int))), some (sI 5)], [sI ((a : Int)), .ref 4], h)) rfl ?_
        refine s_iald (a := 4) (n := 6) (j := (a : Int)) hh rfl rfl rfl (by omega) (by omega) (by decide) (v := sI ((kd : Int))) (by rw [Int.toNat_natCast]; have q := hI_ok hh (xw_k (show a < 6 by omega)); rw [ek] at q; exact q) ?_
        refine sP 1 (g1 := (19, [some (.ref 0), some (sI ((a : Int))), some (sI 5)], [sI 5, sI ((kd : Int))], h)) rfl ?_
        refine s_call (k := 50) (args := [sI ((kd : Int)), sI 5]) (st := []) (v := some (sI 1)) (h1 := h) rfl ⟨rfl, rfl⟩ rfl rfl rfl rfl rfl rfl ei ?_
        refine s_ifc (q := .ne) (a := 1) rfl ⟨_, rfl⟩ rfl (by unfold sR aMi aMa; omega) (fun hc5 => ?_) (fun hc5 => ?_)
        · have hc5 : (1 : Int) ≠ 0 := hc5
          refine sP 1 (g1 := (26, [some (.ref 0), some (sI ((a : Int))), some (sI 5)], [sI 5], h)) rfl ?_
          refine s_tsw (k := 5) rfl ⟨_, _, _, _, rfl⟩ (by unfold sR aMi aMa; omega) rfl ?_
          refine sP 1 (g1 := (48, [some (.ref 0), some (sI ((a : Int))), some (sI 5)], [.ref 0], h)) rfl ?_
          refine s_get (a := 0) (j := 2) hh rfl ⟨_, rfl⟩ rfl rfl rfl (v := .ref 3) (hR_ok hh (by decide +kernel)) ?_
          refine sP 1 (g1 := (50, [some (.ref 0), some (sI ((a : Int))), some (sI 5)], [sI ((a : Int)), .ref 3], h)) rfl ?_
          refine s_call (k := 54) (args := [.ref 3, sI ((a : Int))]) (st := []) (v := some (sI (((uT2 (hI h 5) a n : Nat) : Int)))) (h1 := h) rfl ⟨rfl, rfl⟩ rfl rfl rfl rfl (sRcv hh (a := 3) rfl rfl) rfl ev ?_
          exact s_reti rfl rfl (Or.inl rfl) rfl rfl
        · have hc5 : ¬ ((1 : Int) ≠ 0) := hc5
          omega
      · have hc4 : ¬ ((5 : Int) ≤ 5) := hc4
        omega
theorem fMarkMu {n a k kd : Nat} (hh : aHp h) (hn : hI h 58 0 = n) (ha : a < n) (k1 : 1 ≤ k) (k5 : k ≤ 5) (ek : hI h 58 (1 + a) = (kd : Int)) (hi : pIs kd k = false) : ∃ g, nEv sc (d + 3) 157 [.ref 53, sI (a : Int), sI (k : Int)] h (some (sI (-3)), g) ∧ aHp g ∧ ∀ p m, ¬ (p = 53 ∧ m = 11) → p ≠ 62 → aSlot g p m = aSlot h p m := by
  have gp := hI_rg hh nw_p
  have gk := hI_rg hh (nw_kd (show a < 6 by omega))
  have ei := fIsOf (sc := sc) (d := d + 1) (h := h) (kd := kd) (k := k) (by omega) k1 k5
  rw [hi, if_neg (by decide)] at ei
  obtain ⟨g1, r1, r2, r3⟩ := fFoundM (sc := sc) (d := d + 1) (f := 3) hh (by decide)
  refine ⟨g1, nEv_of (t := mMe157) rfl ?_, r2, fun p m w1 w2 => by rw [r3, if_neg (by omega), if_neg (by omega)]⟩
  show nRn sc (d + 2) (mMT mMe157) (mMC mMe157) (0, [some (.ref 53), some (sI ((a : Int))), some (sI ((k : Int)))], [], h) _
  refine sP 2 (g1 := (2, [some (.ref 53), some (sI ((a : Int))), some (sI ((k : Int)))], [sI ((a : Int)), .ref 53], h)) rfl ?_
  have ev1 := fIsPerson (sc := sc) (d := d + 0) (a := (a : Int)) hh (by unfold sR aMi aMa; omega)
  rw [if_pos (by omega)] at ev1
  refine s_call (k := 147) (args := [.ref 53, sI ((a : Int))]) (st := []) (v := some (sI 1)) (h1 := h) rfl ⟨rfl, rfl⟩ rfl rfl rfl rfl (sRcv hh (a := 53) rfl rfl) rfl ev1 ?_
  refine s_ifc (q := .eq) (a := 1) rfl ⟨_, rfl⟩ rfl (by unfold sR aMi aMa; omega) (fun hc2 => ?_) (fun hc2 => ?_)
  · have hc2 : (1 : Int) = 0 := hc2
    omega
  · have hc2 : ¬ ((1 : Int) = 0) := hc2
    refine sP 1 (g1 := (5, [some (.ref 53), some (sI ((a : Int))), some (sI ((k : Int)))], [sI ((k : Int))], h)) rfl ?_
    refine s_i2l (a := (k : Int)) rfl rfl (by unfold sR aMi aMa; omega) ?_
    refine sP 2 (g1 := (8, [some (.ref 53), some (sI ((a : Int))), some (sI ((k : Int)))], [sJ 5, sJ 1, sJ ((k : Int))], h)) rfl ?_
    have ev3 := fIn (sc := sc) (d := d + 1) (h := h) (a := (k : Int)) (b := 1) (e := 5) (by omega) (by omega) (by omega) (by omega) (by omega) (by omega)
    rw [if_pos (by omega)] at ev3
    refine s_call (k := 127) (args := [sJ ((k : Int)), sJ 1, sJ 5]) (st := []) (v := some (sI 1)) (h1 := h) rfl ⟨rfl, rfl⟩ rfl rfl rfl rfl rfl rfl ev3 ?_
    refine s_ifc (q := .ne) (a := 1) rfl ⟨_, rfl⟩ rfl (by unfold sR aMi aMa; omega) (fun hc4 => ?_) (fun hc4 => ?_)
    · have hc4 : (1 : Int) ≠ 0 := hc4
      refine sP 1 (g1 := (13, [some (.ref 53), some (sI ((a : Int))), some (sI ((k : Int)))], [.ref 53], h)) rfl ?_
      refine s_get (a := 53) (j := 4) hh rfl ⟨_, rfl⟩ rfl rfl rfl (v := .ref 58) (hR_ok hh (by decide +kernel)) ?_
      refine sP 2 (g1 := (16, [some (.ref 53), some (sI ((a : Int))), some (sI ((k : Int)))], [sI ((a : Int)), sI 1, .ref 58], h)) rfl ?_
      refine s_add (a := 1) (b := (a : Int)) rfl rfl ?_
      refine s_iald (a := 58) (n := 201) (j := 1 + ((a : Int))) hh rfl rfl rfl (by omega) (by omega) (by decide) (v := sI ((kd : Int))) (by rw [show (1 + ((a : Int)) : Int).toNat = 1 + a by omega]; have q := hI_ok hh (nw_kd (show a < 6 by omega)); rw [ek] at q; exact q) ?_
      refine sP 1 (g1 := (19, [some (.ref 53), some (sI ((a : Int))), some (sI ((k : Int)))], [sI ((k : Int)), sI ((kd : Int))], h)) rfl ?_
      refine s_call (k := 158) (args := [sI ((kd : Int)), sI ((k : Int))]) (st := []) (v := some (sI 0)) (h1 := h) rfl ⟨rfl, rfl⟩ rfl rfl rfl rfl rfl rfl ei ?_
      refine s_ifc (q := .ne) (a := 0) rfl ⟨_, rfl⟩ rfl (by unfold sR aMi aMa; omega) (fun hc5 => ?_) (fun hc5 => ?_)
      · have hc5 : (0 : Int) ≠ 0 := hc5
        omega
      · have hc5 : ¬ ((0 : Int) ≠ 0) := hc5
        refine sP 2 (g1 := (23, [some (.ref 53), some (sI ((a : Int))), some (sI ((k : Int)))], [sI 3, .ref 53], h)) rfl ?_
        refine s_call (k := 128) (args := [.ref 53, sI 3]) (st := []) (v := some (sI ((-3)))) (h1 := g1) rfl ⟨rfl, rfl⟩ rfl rfl rfl rfl (sRcv hh (a := 53) rfl rfl) rfl r1 ?_
        exact s_reti rfl rfl (Or.inl rfl) rfl rfl
    · have hc4 : ¬ ((1 : Int) ≠ 0) := hc4
      omega
theorem fMarkM1 {n a kd : Nat} (hh : aHp h) (hn : hI h 58 0 = n) (ha : a < n) (ek : hI h 58 (1 + a) = (kd : Int)) (hi : pIs kd 1 = true) : nEv sc (d + 3) 157 [.ref 53, sI (a : Int), sI 1] h (some (sI (eV (eX (gGr (fun j => hI h 58 (7 + j)) a) a n))), h) := by
  have gp := hI_rg hh nw_p
  have gk := hI_rg hh (nw_kd (show a < 6 by omega))
  have ei := fIsOf (sc := sc) (d := d + 1) (h := h) (kd := kd) (k := 1) (by omega) (by decide) (by decide)
  rw [hi, if_pos rfl] at ei
  have ev := fExtG (sc := sc) (d := d) hh hn (show a < 6 by omega)
  refine nEv_of (t := mMe157) rfl ?_
  show nRn sc (d + 2) (mMT mMe157) (mMC mMe157) (0, [some (.ref 53), some (sI ((a : Int))), some (sI 1)], [], h) _
  refine sP 2 (g1 := (2, [some (.ref 53), some (sI ((a : Int))), some (sI 1)], [sI ((a : Int)), .ref 53], h)) rfl ?_
  have ev1 := fIsPerson (sc := sc) (d := d + 0) (a := (a : Int)) hh (by unfold sR aMi aMa; omega)
  rw [if_pos (by omega)] at ev1
  refine s_call (k := 147) (args := [.ref 53, sI ((a : Int))]) (st := []) (v := some (sI 1)) (h1 := h) rfl ⟨rfl, rfl⟩ rfl rfl rfl rfl (sRcv hh (a := 53) rfl rfl) rfl ev1 ?_
  refine s_ifc (q := .eq) (a := 1) rfl ⟨_, rfl⟩ rfl (by unfold sR aMi aMa; omega) (fun hc2 => ?_) (fun hc2 => ?_)
  · have hc2 : (1 : Int) = 0 := hc2
    omega
  · have hc2 : ¬ ((1 : Int) = 0) := hc2
    refine sP 1 (g1 := (5, [some (.ref 53), some (sI ((a : Int))), some (sI 1)], [sI 1], h)) rfl ?_
    refine s_i2l (a := 1) rfl rfl (by unfold sR aMi aMa; omega) ?_
    refine sP 2 (g1 := (8, [some (.ref 53), some (sI ((a : Int))), some (sI 1)], [sJ 5, sJ 1, sJ 1], h)) rfl ?_
    have ev3 := fIn (sc := sc) (d := d + 1) (h := h) (a := 1) (b := 1) (e := 5) (by omega) (by omega) (by omega) (by omega) (by omega) (by omega)
    rw [if_pos (by omega)] at ev3
    refine s_call (k := 127) (args := [sJ 1, sJ 1, sJ 5]) (st := []) (v := some (sI 1)) (h1 := h) rfl ⟨rfl, rfl⟩ rfl rfl rfl rfl rfl rfl ev3 ?_
    refine s_ifc (q := .ne) (a := 1) rfl ⟨_, rfl⟩ rfl (by unfold sR aMi aMa; omega) (fun hc4 => ?_) (fun hc4 => ?_)
    · have hc4 : (1 : Int) ≠ 0 := hc4
      refine sP 1 (g1 := (13, [some (.ref 53), some (sI ((a : Int))), some (sI 1)], [.ref 53], h)) rfl ?_
      refine s_get (a := 53) (j := 4) hh rfl ⟨_, rfl⟩ rfl rfl rfl (v := .ref 58) (hR_ok hh (by decide +kernel)) ?_
      refine sP 2 (g1 := (16, [some (.ref 53), some (sI ((a : Int))), some (sI 1)], [sI ((a : Int)), sI 1, .ref 58], h)) rfl ?_
      refine s_add (a := 1) (b := (a : Int)) rfl rfl ?_
      refine s_iald (a := 58) (n := 201) (j := 1 + ((a : Int))) hh rfl rfl rfl (by omega) (by omega) (by decide) (v := sI ((kd : Int))) (by rw [show (1 + ((a : Int)) : Int).toNat = 1 + a by omega]; have q := hI_ok hh (nw_kd (show a < 6 by omega)); rw [ek] at q; exact q) ?_
      refine sP 1 (g1 := (19, [some (.ref 53), some (sI ((a : Int))), some (sI 1)], [sI 1, sI ((kd : Int))], h)) rfl ?_
      refine s_call (k := 158) (args := [sI ((kd : Int)), sI 1]) (st := []) (v := some (sI 1)) (h1 := h) rfl ⟨rfl, rfl⟩ rfl rfl rfl rfl rfl rfl ei ?_
      refine s_ifc (q := .ne) (a := 1) rfl ⟨_, rfl⟩ rfl (by unfold sR aMi aMa; omega) (fun hc5 => ?_) (fun hc5 => ?_)
      · have hc5 : (1 : Int) ≠ 0 := hc5
        refine sP 1 (g1 := (26, [some (.ref 53), some (sI ((a : Int))), some (sI 1)], [sI 1], h)) rfl ?_
        refine s_tsw (k := 1) rfl ⟨_, _, _, _, rfl⟩ (by unfold sR aMi aMa; omega) rfl ?_
        refine sP 3 (g1 := (30, [some (.ref 53), some (sI ((a : Int))), some (sI 1)], [sI 0, sI ((a : Int)), .ref 53], h)) rfl ?_
        refine s_call (k := 159) (args := [.ref 53, sI ((a : Int)), sI 0]) (st := []) (v := some (sI (eV (eX (gGr (fun j => hI h 58 (7 + j)) a) a n)))) (h1 := h) rfl ⟨rfl, rfl⟩ rfl rfl rfl rfl (sRcv hh (a := 53) rfl rfl) rfl ev ?_
        exact s_reti rfl rfl (Or.inl rfl) rfl rfl
      · have hc5 : ¬ ((1 : Int) ≠ 0) := hc5
        omega
    · have hc4 : ¬ ((1 : Int) ≠ 0) := hc4
      omega
theorem fMarkM2 {n a kd : Nat} (hh : aHp h) (hn : hI h 58 0 = n) (ha : a < n) (ek : hI h 58 (1 + a) = (kd : Int)) (hi : pIs kd 2 = true) : nEv sc (d + 3) 157 [.ref 53, sI (a : Int), sI 2] h (some (sI (eV (eX (gLe (fun j => hI h 58 (7 + j)) a) a n))), h) := by
  have gp := hI_rg hh nw_p
  have gk := hI_rg hh (nw_kd (show a < 6 by omega))
  have ei := fIsOf (sc := sc) (d := d + 1) (h := h) (kd := kd) (k := 2) (by omega) (by decide) (by decide)
  rw [hi, if_pos rfl] at ei
  have ev := fExtL (sc := sc) (d := d) hh hn (show a < 6 by omega)
  refine nEv_of (t := mMe157) rfl ?_
  show nRn sc (d + 2) (mMT mMe157) (mMC mMe157) (0, [some (.ref 53), some (sI ((a : Int))), some (sI 2)], [], h) _
  refine sP 2 (g1 := (2, [some (.ref 53), some (sI ((a : Int))), some (sI 2)], [sI ((a : Int)), .ref 53], h)) rfl ?_
  have ev1 := fIsPerson (sc := sc) (d := d + 0) (a := (a : Int)) hh (by unfold sR aMi aMa; omega)
  rw [if_pos (by omega)] at ev1
  refine s_call (k := 147) (args := [.ref 53, sI ((a : Int))]) (st := []) (v := some (sI 1)) (h1 := h) rfl ⟨rfl, rfl⟩ rfl rfl rfl rfl (sRcv hh (a := 53) rfl rfl) rfl ev1 ?_
  refine s_ifc (q := .eq) (a := 1) rfl ⟨_, rfl⟩ rfl (by unfold sR aMi aMa; omega) (fun hc2 => ?_) (fun hc2 => ?_)
  · have hc2 : (1 : Int) = 0 := hc2
    omega
  · have hc2 : ¬ ((1 : Int) = 0) := hc2
    refine sP 1 (g1 := (5, [some (.ref 53), some (sI ((a : Int))), some (sI 2)], [sI 2], h)) rfl ?_
    refine s_i2l (a := 2) rfl rfl (by unfold sR aMi aMa; omega) ?_
    refine sP 2 (g1 := (8, [some (.ref 53), some (sI ((a : Int))), some (sI 2)], [sJ 5, sJ 1, sJ 2], h)) rfl ?_
    have ev3 := fIn (sc := sc) (d := d + 1) (h := h) (a := 2) (b := 1) (e := 5) (by omega) (by omega) (by omega) (by omega) (by omega) (by omega)
    rw [if_pos (by omega)] at ev3
    refine s_call (k := 127) (args := [sJ 2, sJ 1, sJ 5]) (st := []) (v := some (sI 1)) (h1 := h) rfl ⟨rfl, rfl⟩ rfl rfl rfl rfl rfl rfl ev3 ?_
    refine s_ifc (q := .ne) (a := 1) rfl ⟨_, rfl⟩ rfl (by unfold sR aMi aMa; omega) (fun hc4 => ?_) (fun hc4 => ?_)
    · have hc4 : (1 : Int) ≠ 0 := hc4
      refine sP 1 (g1 := (13, [some (.ref 53), some (sI ((a : Int))), some (sI 2)], [.ref 53], h)) rfl ?_
      refine s_get (a := 53) (j := 4) hh rfl ⟨_, rfl⟩ rfl rfl rfl (v := .ref 58) (hR_ok hh (by decide +kernel)) ?_
      refine sP 2 (g1 := (16, [some (.ref 53), some (sI ((a : Int))), some (sI 2)], [sI ((a : Int)), sI 1, .ref 58], h)) rfl ?_
      refine s_add (a := 1) (b := (a : Int)) rfl rfl ?_
      refine s_iald (a := 58) (n := 201) (j := 1 + ((a : Int))) hh rfl rfl rfl (by omega) (by omega) (by decide) (v := sI ((kd : Int))) (by rw [show (1 + ((a : Int)) : Int).toNat = 1 + a by omega]; have q := hI_ok hh (nw_kd (show a < 6 by omega)); rw [ek] at q; exact q) ?_
      refine sP 1 (g1 := (19, [some (.ref 53), some (sI ((a : Int))), some (sI 2)], [sI 2, sI ((kd : Int))], h)) rfl ?_
      refine s_call (k := 158) (args := [sI ((kd : Int)), sI 2]) (st := []) (v := some (sI 1)) (h1 := h) rfl ⟨rfl, rfl⟩ rfl rfl rfl rfl rfl rfl ei ?_
      refine s_ifc (q := .ne) (a := 1) rfl ⟨_, rfl⟩ rfl (by unfold sR aMi aMa; omega) (fun hc5 => ?_) (fun hc5 => ?_)
      · have hc5 : (1 : Int) ≠ 0 := hc5
        refine sP 1 (g1 := (26, [some (.ref 53), some (sI ((a : Int))), some (sI 2)], [sI 2], h)) rfl ?_
        refine s_tsw (k := 2) rfl ⟨_, _, _, _, rfl⟩ (by unfold sR aMi aMa; omega) rfl ?_
        refine sP 3 (g1 := (35, [some (.ref 53), some (sI ((a : Int))), some (sI 2)], [sI 1, sI ((a : Int)), .ref 53], h)) rfl ?_
        refine s_call (k := 159) (args := [.ref 53, sI ((a : Int)), sI 1]) (st := []) (v := some (sI (eV (eX (gLe (fun j => hI h 58 (7 + j)) a) a n)))) (h1 := h) rfl ⟨rfl, rfl⟩ rfl rfl rfl rfl (sRcv hh (a := 53) rfl rfl) rfl ev ?_
        exact s_reti rfl rfl (Or.inl rfl) rfl rfl
      · have hc5 : ¬ ((1 : Int) ≠ 0) := hc5
        omega
    · have hc4 : ¬ ((1 : Int) ≠ 0) := hc4
      omega
theorem fMarkM3 {n a kd : Nat} (hh : aHp h) (hn : hI h 58 0 = n) (ha : a < n) (ek : hI h 58 (1 + a) = (kd : Int)) (hi : pIs kd 3 = true) : nEv sc (d + 3) 157 [.ref 53, sI (a : Int), sI 3] h (some (sI (((uB (fun j => hI h 58 (7 + j)) a n : Nat) : Int))), h) := by
  have gp := hI_rg hh nw_p
  have gk := hI_rg hh (nw_kd (show a < 6 by omega))
  have ei := fIsOf (sc := sc) (d := d + 1) (h := h) (kd := kd) (k := 3) (by omega) (by decide) (by decide)
  rw [hi, if_pos rfl] at ei
  have ev := fUnmetBy (sc := sc) (d := d) hh hn (show a < 6 by omega)
  refine nEv_of (t := mMe157) rfl ?_
  show nRn sc (d + 2) (mMT mMe157) (mMC mMe157) (0, [some (.ref 53), some (sI ((a : Int))), some (sI 3)], [], h) _
  refine sP 2 (g1 := (2, [some (.ref 53), some (sI ((a : Int))), some (sI 3)], [sI ((a : Int)), .ref 53], h)) rfl ?_
  have ev1 := fIsPerson (sc := sc) (d := d + 0) (a := (a : Int)) hh (by unfold sR aMi aMa; omega)
  rw [if_pos (by omega)] at ev1
  refine s_call (k := 147) (args := [.ref 53, sI ((a : Int))]) (st := []) (v := some (sI 1)) (h1 := h) rfl ⟨rfl, rfl⟩ rfl rfl rfl rfl (sRcv hh (a := 53) rfl rfl) rfl ev1 ?_
  refine s_ifc (q := .eq) (a := 1) rfl ⟨_, rfl⟩ rfl (by unfold sR aMi aMa; omega) (fun hc2 => ?_) (fun hc2 => ?_)
  · have hc2 : (1 : Int) = 0 := hc2
    omega
  · have hc2 : ¬ ((1 : Int) = 0) := hc2
    refine sP 1 (g1 := (5, [some (.ref 53), some (sI ((a : Int))), some (sI 3)], [sI 3], h)) rfl ?_
    refine s_i2l (a := 3) rfl rfl (by unfold sR aMi aMa; omega) ?_
    refine sP 2 (g1 := (8, [some (.ref 53), some (sI ((a : Int))), some (sI 3)], [sJ 5, sJ 1, sJ 3], h)) rfl ?_
    have ev3 := fIn (sc := sc) (d := d + 1) (h := h) (a := 3) (b := 1) (e := 5) (by omega) (by omega) (by omega) (by omega) (by omega) (by omega)
    rw [if_pos (by omega)] at ev3
    refine s_call (k := 127) (args := [sJ 3, sJ 1, sJ 5]) (st := []) (v := some (sI 1)) (h1 := h) rfl ⟨rfl, rfl⟩ rfl rfl rfl rfl rfl rfl ev3 ?_
    refine s_ifc (q := .ne) (a := 1) rfl ⟨_, rfl⟩ rfl (by unfold sR aMi aMa; omega) (fun hc4 => ?_) (fun hc4 => ?_)
    · have hc4 : (1 : Int) ≠ 0 := hc4
      refine sP 1 (g1 := (13, [some (.ref 53), some (sI ((a : Int))), some (sI 3)], [.ref 53], h)) rfl ?_
      refine s_get (a := 53) (j := 4) hh rfl ⟨_, rfl⟩ rfl rfl rfl (v := .ref 58) (hR_ok hh (by decide +kernel)) ?_
      refine sP 2 (g1 := (16, [some (.ref 53), some (sI ((a : Int))), some (sI 3)], [sI ((a : Int)), sI 1, .ref 58], h)) rfl ?_
      refine s_add (a := 1) (b := (a : Int)) rfl rfl ?_
      refine s_iald (a := 58) (n := 201) (j := 1 + ((a : Int))) hh rfl rfl rfl (by omega) (by omega) (by decide) (v := sI ((kd : Int))) (by rw [show (1 + ((a : Int)) : Int).toNat = 1 + a by omega]; have q := hI_ok hh (nw_kd (show a < 6 by omega)); rw [ek] at q; exact q) ?_
      refine sP 1 (g1 := (19, [some (.ref 53), some (sI ((a : Int))), some (sI 3)], [sI 3, sI ((kd : Int))], h)) rfl ?_
      refine s_call (k := 158) (args := [sI ((kd : Int)), sI 3]) (st := []) (v := some (sI 1)) (h1 := h) rfl ⟨rfl, rfl⟩ rfl rfl rfl rfl rfl rfl ei ?_
      refine s_ifc (q := .ne) (a := 1) rfl ⟨_, rfl⟩ rfl (by unfold sR aMi aMa; omega) (fun hc5 => ?_) (fun hc5 => ?_)
      · have hc5 : (1 : Int) ≠ 0 := hc5
        refine sP 1 (g1 := (26, [some (.ref 53), some (sI ((a : Int))), some (sI 3)], [sI 3], h)) rfl ?_
        refine s_tsw (k := 3) rfl ⟨_, _, _, _, rfl⟩ (by unfold sR aMi aMa; omega) rfl ?_
        refine sP 2 (g1 := (39, [some (.ref 53), some (sI ((a : Int))), some (sI 3)], [sI ((a : Int)), .ref 53], h)) rfl ?_
        refine s_call (k := 155) (args := [.ref 53, sI ((a : Int))]) (st := []) (v := some (sI (((uB (fun j => hI h 58 (7 + j)) a n : Nat) : Int)))) (h1 := h) rfl ⟨rfl, rfl⟩ rfl rfl rfl rfl (sRcv hh (a := 53) rfl rfl) rfl ev ?_
        exact s_reti rfl rfl (Or.inl rfl) rfl rfl
      · have hc5 : ¬ ((1 : Int) ≠ 0) := hc5
        omega
    · have hc4 : ¬ ((1 : Int) ≠ 0) := hc4
      omega
theorem fMarkM4 {n a kd : Nat} (hh : aHp h) (hn : hI h 58 0 = n) (ha : a < n) (ek : hI h 58 (1 + a) = (kd : Int)) (hi : pIs kd 4 = true) : nEv sc (d + 3) 157 [.ref 53, sI (a : Int), sI 4] h (some (sI (((hK (fun a => hI h 58 (1 + a)) 4 n : Nat) : Int))), h) := by
  have gp := hI_rg hh nw_p
  have gk := hI_rg hh (nw_kd (show a < 6 by omega))
  have ei := fIsOf (sc := sc) (d := d + 1) (h := h) (kd := kd) (k := 4) (by omega) (by decide) (by decide)
  rw [hi, if_pos rfl] at ei
  have ev := fKindsOf (sc := sc) (d := d) hh hn (k := 4) (by decide) (by decide)
  refine nEv_of (t := mMe157) rfl ?_
  show nRn sc (d + 2) (mMT mMe157) (mMC mMe157) (0, [some (.ref 53), some (sI ((a : Int))), some (sI 4)], [], h) _
  refine sP 2 (g1 := (2, [some (.ref 53), some (sI ((a : Int))), some (sI 4)], [sI ((a : Int)), .ref 53], h)) rfl ?_
  have ev1 := fIsPerson (sc := sc) (d := d + 0) (a := (a : Int)) hh (by unfold sR aMi aMa; omega)
  rw [if_pos (by omega)] at ev1
  refine s_call (k := 147) (args := [.ref 53, sI ((a : Int))]) (st := []) (v := some (sI 1)) (h1 := h) rfl ⟨rfl, rfl⟩ rfl rfl rfl rfl (sRcv hh (a := 53) rfl rfl) rfl ev1 ?_
  refine s_ifc (q := .eq) (a := 1) rfl ⟨_, rfl⟩ rfl (by unfold sR aMi aMa; omega) (fun hc2 => ?_) (fun hc2 => ?_)
  · have hc2 : (1 : Int) = 0 := hc2
    omega
  · have hc2 : ¬ ((1 : Int) = 0) := hc2
    refine sP 1 (g1 := (5, [some (.ref 53), some (sI ((a : Int))), some (sI 4)], [sI 4], h)) rfl ?_
    refine s_i2l (a := 4) rfl rfl (by unfold sR aMi aMa; omega) ?_
    refine sP 2 (g1 := (8, [some (.ref 53), some (sI ((a : Int))), some (sI 4)], [sJ 5, sJ 1, sJ 4], h)) rfl ?_
    have ev3 := fIn (sc := sc) (d := d + 1) (h := h) (a := 4) (b := 1) (e := 5) (by omega) (by omega) (by omega) (by omega) (by omega) (by omega)
    rw [if_pos (by omega)] at ev3
    refine s_call (k := 127) (args := [sJ 4, sJ 1, sJ 5]) (st := []) (v := some (sI 1)) (h1 := h) rfl ⟨rfl, rfl⟩ rfl rfl rfl rfl rfl rfl ev3 ?_
    refine s_ifc (q := .ne) (a := 1) rfl ⟨_, rfl⟩ rfl (by unfold sR aMi aMa; omega) (fun hc4 => ?_) (fun hc4 => ?_)
    · have hc4 : (1 : Int) ≠ 0 := hc4
      refine sP 1 (g1 := (13, [some (.ref 53), some (sI ((a : Int))), some (sI 4)], [.ref 53], h)) rfl ?_
      refine s_get (a := 53) (j := 4) hh rfl ⟨_, rfl⟩ rfl rfl rfl (v := .ref 58) (hR_ok hh (by decide +kernel)) ?_
      refine sP 2 (g1 := (16, [some (.ref 53), some (sI ((a : Int))), some (sI 4)], [sI ((a : Int)), sI 1, .ref 58], h)) rfl ?_
      refine s_add (a := 1) (b := (a : Int)) rfl rfl ?_
      refine s_iald (a := 58) (n := 201) (j := 1 + ((a : Int))) hh rfl rfl rfl (by omega) (by omega) (by decide) (v := sI ((kd : Int))) (by rw [show (1 + ((a : Int)) : Int).toNat = 1 + a by omega]; have q := hI_ok hh (nw_kd (show a < 6 by omega)); rw [ek] at q; exact q) ?_
      refine sP 1 (g1 := (19, [some (.ref 53), some (sI ((a : Int))), some (sI 4)], [sI 4, sI ((kd : Int))], h)) rfl ?_
      refine s_call (k := 158) (args := [sI ((kd : Int)), sI 4]) (st := []) (v := some (sI 1)) (h1 := h) rfl ⟨rfl, rfl⟩ rfl rfl rfl rfl rfl rfl ei ?_
      refine s_ifc (q := .ne) (a := 1) rfl ⟨_, rfl⟩ rfl (by unfold sR aMi aMa; omega) (fun hc5 => ?_) (fun hc5 => ?_)
      · have hc5 : (1 : Int) ≠ 0 := hc5
        refine sP 1 (g1 := (26, [some (.ref 53), some (sI ((a : Int))), some (sI 4)], [sI 4], h)) rfl ?_
        refine s_tsw (k := 4) rfl ⟨_, _, _, _, rfl⟩ (by unfold sR aMi aMa; omega) rfl ?_
        refine sP 2 (g1 := (43, [some (.ref 53), some (sI ((a : Int))), some (sI 4)], [sI 4, .ref 53], h)) rfl ?_
        refine s_call (k := 160) (args := [.ref 53, sI 4]) (st := []) (v := some (sI (((hK (fun a => hI h 58 (1 + a)) 4 n : Nat) : Int)))) (h1 := h) rfl ⟨rfl, rfl⟩ rfl rfl rfl rfl (sRcv hh (a := 53) rfl rfl) rfl ev ?_
        exact s_reti rfl rfl (Or.inl rfl) rfl rfl
      · have hc5 : ¬ ((1 : Int) ≠ 0) := hc5
        omega
    · have hc4 : ¬ ((1 : Int) ≠ 0) := hc4
      omega
theorem fMarkM5 {n a kd : Nat} (hh : aHp h) (hn : hI h 58 0 = n) (ha : a < n) (ek : hI h 58 (1 + a) = (kd : Int)) (hi : pIs kd 5 = true) : nEv sc (d + 3) 157 [.ref 53, sI (a : Int), sI 5] h (some (sI (((uT2 (fun j => hI h 58 (7 + j)) a n : Nat) : Int))), h) := by
  have gp := hI_rg hh nw_p
  have gk := hI_rg hh (nw_kd (show a < 6 by omega))
  have ei := fIsOf (sc := sc) (d := d + 1) (h := h) (kd := kd) (k := 5) (by omega) (by decide) (by decide)
  rw [hi, if_pos rfl] at ei
  have ev := fUnmetTo (sc := sc) (d := d) hh hn (show a < 6 by omega)
  refine nEv_of (t := mMe157) rfl ?_
  show nRn sc (d + 2) (mMT mMe157) (mMC mMe157) (0, [some (.ref 53), some (sI ((a : Int))), some (sI 5)], [], h) _
  refine sP 2 (g1 := (2, [some (.ref 53), some (sI ((a : Int))), some (sI 5)], [sI ((a : Int)), .ref 53], h)) rfl ?_
  have ev1 := fIsPerson (sc := sc) (d := d + 0) (a := (a : Int)) hh (by unfold sR aMi aMa; omega)
  rw [if_pos (by omega)] at ev1
  refine s_call (k := 147) (args := [.ref 53, sI ((a : Int))]) (st := []) (v := some (sI 1)) (h1 := h) rfl ⟨rfl, rfl⟩ rfl rfl rfl rfl (sRcv hh (a := 53) rfl rfl) rfl ev1 ?_
  refine s_ifc (q := .eq) (a := 1) rfl ⟨_, rfl⟩ rfl (by unfold sR aMi aMa; omega) (fun hc2 => ?_) (fun hc2 => ?_)
  · have hc2 : (1 : Int) = 0 := hc2
    omega
  · have hc2 : ¬ ((1 : Int) = 0) := hc2
    refine sP 1 (g1 := (5, [some (.ref 53), some (sI ((a : Int))), some (sI 5)], [sI 5], h)) rfl ?_
    refine s_i2l (a := 5) rfl rfl (by unfold sR aMi aMa; omega) ?_
    refine sP 2 (g1 := (8, [some (.ref 53), some (sI ((a : Int))), some (sI 5)], [sJ 5, sJ 1, sJ 5], h)) rfl ?_
    have ev3 := fIn (sc := sc) (d := d + 1) (h := h) (a := 5) (b := 1) (e := 5) (by omega) (by omega) (by omega) (by omega) (by omega) (by omega)
    rw [if_pos (by omega)] at ev3
    refine s_call (k := 127) (args := [sJ 5, sJ 1, sJ 5]) (st := []) (v := some (sI 1)) (h1 := h) rfl ⟨rfl, rfl⟩ rfl rfl rfl rfl rfl rfl ev3 ?_
    refine s_ifc (q := .ne) (a := 1) rfl ⟨_, rfl⟩ rfl (by unfold sR aMi aMa; omega) (fun hc4 => ?_) (fun hc4 => ?_)
    · have hc4 : (1 : Int) ≠ 0 := hc4
      refine sP 1 (g1 := (13, [some (.ref 53), some (sI ((a : Int))), some (sI 5)], [.ref 53], h)) rfl ?_
      refine s_get (a := 53) (j := 4) hh rfl ⟨_, rfl⟩ rfl rfl rfl (v := .ref 58) (hR_ok hh (by decide +kernel)) ?_
      refine sP 2 (g1 := (16, [some (.ref 53), some (sI ((a : Int))), some (sI 5)], [sI ((a : Int)), sI 1, .ref 58], h)) rfl ?_
      refine s_add (a := 1) (b := (a : Int)) rfl rfl ?_
      refine s_iald (a := 58) (n := 201) (j := 1 + ((a : Int))) hh rfl rfl rfl (by omega) (by omega) (by decide) (v := sI ((kd : Int))) (by rw [show (1 + ((a : Int)) : Int).toNat = 1 + a by omega]; have q := hI_ok hh (nw_kd (show a < 6 by omega)); rw [ek] at q; exact q) ?_
      refine sP 1 (g1 := (19, [some (.ref 53), some (sI ((a : Int))), some (sI 5)], [sI 5, sI ((kd : Int))], h)) rfl ?_
      refine s_call (k := 158) (args := [sI ((kd : Int)), sI 5]) (st := []) (v := some (sI 1)) (h1 := h) rfl ⟨rfl, rfl⟩ rfl rfl rfl rfl rfl rfl ei ?_
      refine s_ifc (q := .ne) (a := 1) rfl ⟨_, rfl⟩ rfl (by unfold sR aMi aMa; omega) (fun hc5 => ?_) (fun hc5 => ?_)
      · have hc5 : (1 : Int) ≠ 0 := hc5
        refine sP 1 (g1 := (26, [some (.ref 53), some (sI ((a : Int))), some (sI 5)], [sI 5], h)) rfl ?_
        refine s_tsw (k := 5) rfl ⟨_, _, _, _, rfl⟩ (by unfold sR aMi aMa; omega) rfl ?_
        refine sP 2 (g1 := (47, [some (.ref 53), some (sI ((a : Int))), some (sI 5)], [sI ((a : Int)), .ref 53], h)) rfl ?_
        refine s_call (k := 161) (args := [.ref 53, sI ((a : Int))]) (st := []) (v := some (sI (((uT2 (fun j => hI h 58 (7 + j)) a n : Nat) : Int)))) (h1 := h) rfl ⟨rfl, rfl⟩ rfl rfl rfl rfl (sRcv hh (a := 53) rfl rfl) rfl ev ?_
        exact s_reti rfl rfl (Or.inl rfl) rfl rfl
      · have hc5 : ¬ ((1 : Int) ≠ 0) := hc5
        omega
    · have hc4 : ¬ ((1 : Int) ≠ 0) := hc4
      omega
end MARK
theorem wMark {sc : List Int32} {h : mH} (x y : Int32) (hp : wP h) : ∃ z1 h1 z2 h2, nEv sc 100 49 (.ref 0 :: [x, y].map Value.int) h (some (.int z1), h1) ∧ aHp h1 ∧ nEv sc 100 157 (.ref 53 :: [x, y].map Value.int) h1 (some (.int z2), h2) ∧ wP h2 ∧ z2 = z1 := by
  have hh := wP_a h hp
  have rx : sR x.toInt := aI_rg x
  have ry : sR y.toInt := aI_rg y
  have e3 : hI h 3 3 = hI h 58 0 := hp.2.1.1
  have gp := hI_rg hh xw_p
  obtain ⟨n, en⟩ := iN gp.1
  by_cases c1 : 0 ≤ x.toInt ∧ x.toInt < hI h 3 3
  · by_cases c2 : 1 ≤ y.toInt ∧ y.toInt ≤ 5
    · obtain ⟨a, ea⟩ := iN c1.1
      obtain ⟨k, ek⟩ := iN (show 0 ≤ y.toInt by omega)
      have ha : a < n := by omega
      have gr := hp.2.1.2.2.2.1
      obtain ⟨kd, ekd⟩ := iN (hI_rg hh (xw_k (show a < 6 by omega))).1
      have ekm : hI h 58 (1 + a) = (kd : Int) := by rw [← (gr a (by omega)).1]; exact ekd
      have gG : ∀ b c, b < n → c < n → hI h 58 (7 + (6 * b + c)) = hI h 5 (6 * b + c) := fun b c hb hc => ((gr b (by omega)).2 c (by omega)).symm
      cases hi : pIs kd k with
      | false =>
        obtain ⟨g1, a1, a2, a3⟩ := fMarkXu (sc := sc) (d := 97) hh en ha (by omega) (by omega) ekd hi
        have k0 : ∀ p m, ¬ (p = 0 ∧ m = 8) → p ≠ 20 → aSlot g1 p m = aSlot h p m := a3
        obtain ⟨g2, b1, b2, b3⟩ := fMarkMu (sc := sc) (d := 97) (n := n) (a := a) (k := k) (kd := kd) a2 (by rw [hI_cg (k0 58 0 (by omega) (by omega))]; omega) ha (by omega) (by omega) (by rw [hI_cg (k0 58 _ (by omega) (by omega))]; exact ekm) hi
        have t1 : ∀ p m, p ≠ 0 → p ≠ 20 → p ≠ 53 → p ≠ 62 → aSlot g2 p m = aSlot h p m := fun p m w1 w2 w3 w4 => by rw [b3 p m (by omega) w4, k0 p m (by omega) w2]
        exact pair2e (h1 := g1) (h2 := g2) (by rw [ea, ek]; exact a1) a2 (by rw [ea, ek]; exact b1) (wP_sl hp (tP_sl hp.1 b2 (fun e m w => t1 e m (by omega) (by omega) (by omega) (by omega))) (fun p m w => t1 p m (by omega) (by omega) (by omega) (by omega))) rfl
      | true =>
        match k, ek, hi with
        | 0, ek, _ => exact absurd c2.1 (by omega)
        | 1, ek, hi =>
          refine pair2e (by rw [ea, ek]; exact fMarkX1 (d := 97) hh en ha ekd hi) hh (by rw [ea, ek]; exact fMarkM1 (d := 97) (n := n) hh (by omega) ha ekm hi) hp ?_
          rw [eX_cg (n := n) (g := gGr (hI h 5) a) (fun b w hb hw => by unfold gGr; show decide (hI h 58 (7 + (6 * a + w)) < hI h 58 (7 + (6 * a + b))) = _; rw [gG a w ha hw, gG a b ha hb]) n (Nat.le_refl n)]
        | 2, ek, hi =>
          refine pair2e (by rw [ea, ek]; exact fMarkX2 (d := 97) hh en ha ekd hi) hh (by rw [ea, ek]; exact fMarkM2 (d := 97) (n := n) hh (by omega) ha ekm hi) hp ?_
          rw [eX_cg (n := n) (g := gLe (hI h 5) a) (fun b w hb hw => by unfold gLe; show decide (hI h 58 (7 + (6 * a + b)) < hI h 58 (7 + (6 * a + w))) = _; rw [gG a w ha hw, gG a b ha hb]) n (Nat.le_refl n)]
        | 3, ek, hi =>
          refine pair2e (by rw [ea, ek]; exact fMarkX3 (d := 97) hh en ha ekd hi) hh (by rw [ea, ek]; exact fMarkM3 (d := 97) (n := n) hh (by omega) ha ekm hi) hp ?_
          rw [uB_cg (G := hI h 5) (fun b hb => gG a b ha hb) n (Nat.le_refl n)]
        | 4, ek, hi =>
          refine pair2e (by rw [ea, ek]; exact fMarkX4 (d := 97) hh en ha ekd hi) hh (by rw [ea, ek]; exact fMarkM4 (d := 97) (n := n) hh (by omega) ha ekm hi) hp ?_
          rw [hK_cg (K := hI h 4) (fun b hb => ((gr b (by omega)).1).symm) n (Nat.le_refl n)]
        | 5, ek, hi =>
          refine pair2e (by rw [ea, ek]; exact fMarkX5 (d := 97) hh en ha ekd hi) hh (by rw [ea, ek]; exact fMarkM5 (d := 97) (n := n) hh (by omega) ha ekm hi) hp ?_
          rw [uT2_cg (G := hI h 5) (fun b hb => gG b a hb ha) n (Nat.le_refl n)]
        | k + 6, ek, _ => exact absurd c2.2 (by omega)
    · exact pair2e (fMarkXb1 (d := 97) hh rx ry ⟨c1, c2⟩) hh (fMarkMb1 (d := 97) hh rx ry ⟨by omega, c2⟩) hp rfl
  · exact pair2e (fMarkXb0 (d := 97) hh rx ry c1) hh (fMarkMb0 (d := 97) hh rx ry (by omega)) hp rfl
