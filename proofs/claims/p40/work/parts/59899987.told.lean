/-! what mid and odds tell -/
def sbs (s o : Nat) : Nat := s - (s &&& o)
theorem b_sbs : ∀ s, s < 64 → ∀ o, o < 64 → (Int32.ofInt (s : Nat) &&& (Int32.ofInt (o : Nat) ^^^ Int32.ofInt (-1))) = Int32.ofInt ((sbs s o : Nat) : Int) := by decide +kernel
theorem sbs_le (s o : Nat) : sbs s o ≤ s := Nat.sub_le _ _
theorem sbs_bt : ∀ s, s < 64 → ∀ o, o < 64 → sbs s o = 0 → ∀ b, b < 6 → bt s b = true → bt o b = true := by decide +kernel
theorem sbs_pc : ∀ s, s < 64 → ∀ o, o < 64 → sbs s o = 0 → pcn s ≤ pcn o := by decide +kernel
theorem sbs_out : ∀ n, n < 7 → ∀ o, o < 2 ^ n → ∀ s, s < 64 → 2 ^ n ≤ s → sbs s o ≠ 0 := by decide +kernel
def cnb (s : Nat) : Nat → Nat
  | 0 => 0
  | b + 1 => cnb s b + (if bt s b = true then 1 else 0)
theorem cnb_pc : ∀ n, n < 7 → ∀ s, s < 2 ^ n → cnb s n = pcn s := by decide +kernel
theorem cnb_le {s o n : Nat} (h : ∀ b, b < n → bt s b = true → bt o b = true) : ∀ b, b ≤ n → cnb s b ≤ cnb o b
  | 0, _ => Nat.le_refl _
  | b + 1, hb => by
    have ih := cnb_le h b (by omega)
    have hq := h b (by omega)
    show cnb s b + (if bt s b = true then 1 else 0) ≤ cnb o b + (if bt o b = true then 1 else 0)
    by_cases c1 : bt s b = true
    · rw [if_pos c1, if_pos (hq c1)]
      omega
    · rw [if_neg c1]
      split <;> omega
def wyN (o s p : Nat) : Nat → Nat
  | 0 => 1
  | b + 1 => wyN o s p b * (if bt o b = true then (if bt s b = true then 12 - p else p) else 1)
theorem wyN_eq {o s p n : Nat} (h : ∀ b, b < n → bt s b = true → bt o b = true) : ∀ b, b ≤ n → wyN o s p b = (12 - p) ^ cnb s b * p ^ (cnb o b - cnb s b)
  | 0, _ => by simp [wyN, cnb]
  | b + 1, hb => by
    have ih := wyN_eq (p := p) h b (by omega)
    have hl := cnb_le h b (by omega)
    have hq := h b (by omega)
    show wyN o s p b * (if bt o b = true then (if bt s b = true then 12 - p else p) else 1) = (12 - p) ^ (cnb s b + (if bt s b = true then 1 else 0)) * p ^ ((cnb o b + (if bt o b = true then 1 else 0)) - (cnb s b + (if bt s b = true then 1 else 0)))
    by_cases c1 : bt o b = true
    · by_cases c2 : bt s b = true
      · simp only [if_pos c1, if_pos c2]
        rw [ih, show cnb o b + 1 - (cnb s b + 1) = cnb o b - cnb s b by omega, Nat.pow_succ, Nat.mul_right_comm]
      · simp only [if_pos c1, if_neg c2, Nat.add_zero]
        rw [ih, show cnb o b + 1 - cnb s b = (cnb o b - cnb s b) + 1 by omega, Nat.pow_succ, Nat.mul_assoc]
    · have c2 : ¬ bt s b = true := fun q => c1 (hq q)
      simp only [if_neg c1, if_neg c2, Nat.add_zero, Nat.mul_one]
      exact ih
def tF (F : Nat → Nat) (o p : Nat) : Nat → Nat
  | 0 => 0
  | s + 1 => if sbs s o = 0 then tF F o p s + F s * (12 - p) ^ pcn s * p ^ (pcn o - pcn s) else tF F o p s
def tG (F : Nat → Nat) (o p n : Nat) : Nat → Nat
  | 0 => 0
  | s + 1 => if sbs s o = 0 then tG F o p n s + wyN o s p n * F s else tG F o p n s
theorem tG_eq {F : Nat → Nat} {o p n : Nat} (hn : n < 7) (ho : o < 2 ^ n) : ∀ s, s ≤ 2 ^ n → tG F o p n s = tF F o p s
  | 0, _ => rfl
  | s + 1, hs => by
    have p2 := p2_le (show n ≤ 6 by omega)
    have ih := tG_eq (F := F) (p := p) hn ho s (by omega)
    show (if sbs s o = 0 then tG F o p n s + wyN o s p n * F s else tG F o p n s) = (if sbs s o = 0 then tF F o p s + F s * (12 - p) ^ pcn s * p ^ (pcn o - pcn s) else tF F o p s)
    rw [ih]
    by_cases c : sbs s o = 0
    · rw [if_pos c, if_pos c, wyN_eq (fun b hb => sbs_bt s (by omega) o (by omega) c b (by omega)) n (Nat.le_refl n), cnb_pc n hn s (by omega), cnb_pc n hn o ho, Nat.mul_comm _ (F s), Nat.mul_assoc]
    · rw [if_neg c, if_neg c]
theorem tF_st {F : Nat → Nat} {o p n : Nat} (hn : n < 7) (ho : o < 2 ^ n) : ∀ k, 2 ^ n ≤ k → k ≤ 64 → tF F o p k = tF F o p (2 ^ n)
  | 0, h1, _ => by
    have p2 := p2_le (show n ≤ 6 by omega)
    omega
  | k + 1, h1, h2 => by
    by_cases e : 2 ^ n = k + 1
    · rw [e]
    · have ih := tF_st (F := F) (p := p) hn ho k (by omega) (by omega)
      show (if sbs k o = 0 then _ else tF F o p k) = _
      rw [if_neg (sbs_out n hn o ho k (by omega) (by omega))]
      exact ih
theorem tF_cg {F F1 : Nat → Nat} {o p : Nat} : ∀ k, (∀ s, s < k → F s = F1 s) → tF F o p k = tF F1 o p k
  | 0, _ => rfl
  | k + 1, h => by
    show (if sbs k o = 0 then tF F o p k + F k * (12 - p) ^ pcn k * p ^ (pcn o - pcn k) else tF F o p k) = (if sbs k o = 0 then tF F1 o p k + F1 k * (12 - p) ^ pcn k * p ^ (pcn o - pcn k) else tF F1 o p k)
    rw [tF_cg k (fun s hs => h s (by omega)), h k (by omega)]
theorem pw12 {b c : Nat} (hb : b ≤ 12) (hc : c ≤ 6) : b ^ c ≤ 2985984 := Nat.le_trans (Nat.pow_le_pow_left hb c) (Nat.le_trans (Nat.pow_le_pow_right (by decide) hc) (by decide))
theorem tF_le {F : Nat → Nat} {o p : Nat} (hF : ∀ s, F s ≤ 9) (hp : p ≤ 12) : ∀ k, tF F o p k ≤ k * 80244904034304
  | 0 => Nat.le_of_eq (by rw [Nat.zero_mul]; rfl)
  | k + 1 => by
    have ih := tF_le (o := o) hF hp k
    have t1 : F k * (12 - p) ^ pcn k * p ^ (pcn o - pcn k) ≤ 9 * 2985984 * 2985984 := Nat.mul_le_mul (Nat.mul_le_mul (hF k) (pw12 (by omega) (pcn_le k))) (pw12 hp (by have := pcn_le o; omega))
    show (if sbs k o = 0 then tF F o p k + F k * (12 - p) ^ pcn k * p ^ (pcn o - pcn k) else tF F o p k) ≤ _
    rw [Nat.succ_mul]
    split
    · exact Nat.add_le_add ih (Nat.le_trans t1 (by decide))
    · exact Nat.le_trans ih (Nat.le_add_right _ _)
theorem gcd_st (x y : Nat) : Nat.gcd y (x % y) = Nat.gcd x y := (Nat.gcd_comm _ _).trans ((Nat.gcd_rec y x).symm.trans (Nat.gcd_comm y x))
theorem mod_hf {x y : Nat} (hy : 0 < y) (hyx : y ≤ x) : 2 * (x % y) ≤ x := by
  have h1 := Nat.mod_lt x hy
  have h2 := Nat.div_add_mod x y
  have h3 : y * 1 ≤ y * (x / y) := Nat.mul_le_mul_left y (Nat.div_pos hyx hy)
  generalize y * (x / y) = Q at *
  omega
theorem sF_g9 {G : Nat → Int} {a s : Nat} (hG : ∀ j, j < 36 → 0 ≤ G j ∧ G j ≤ 9) (ha : a < 6) : ∀ b, b ≤ 6 → (sF G 0 a s b).1 ≤ 9 * ((sF G 0 a s b).2 : Int)
  | 0, _ => Int.le_refl _
  | b + 1, hb => by
    have ih := sF_g9 (s := s) hG ha b (by omega)
    have hg := hG (6 * a + b) (by omega)
    unfold sF
    split
    · show (sF G 0 a s b).1 + G (6 * a + b) ≤ 9 * (((sF G 0 a s b).2 + 1 : Nat) : Int)
      omega
    · exact ih
theorem pSe9 {G : Nat → Int} {n kd a s : Nat} (hG : ∀ j, j < 36 → 0 ≤ G j ∧ G j ≤ 9) (ha : a < 6) (hn : n ≤ 6) (hk : kd < 6) : 0 ≤ pSeem G n kd a s ∧ pSeem G n kd a s ≤ 9 := by
  refine ⟨(pSeem_rg hG ha hn).1, ?_⟩
  unfold pSeem pTe
  split
  · omega
  · rename_i hc
    match kd, hk with
    | 0, _ =>
      show (sF G 0 a s n).1 / ((sF G 0 a s n).2 : Int) ≤ 9
      exact Int.ediv_le_of_le_mul (by omega) (sF_g9 hG ha n hn)
    | 1, _ => exact (sF_9 hG ha 1 (by omega) n hn).2
    | 2, _ => exact (sF_9 hG ha 2 (by omega) n hn).2
    | 3, _ => exact (sF_9 hG ha 3 (by omega) n hn).2
    | 4, _ =>
      show (if (sF G 4 a s n).1 = 0 then (0 : Int) else min ((sF G 4 a s n).1 + 1) 9) ≤ 9
      split <;> omega
    | 5, _ => exact (sF_9 hG ha 5 (by omega) n hn).2
def cFm (G : Nat → Int) (n kd a : Nat) (m : Int) (s : Nat) : Nat := (min (pSeem G n kd a s) m).toNat
theorem cFm_9 {G : Nat → Int} {n kd a : Nat} {m : Int} (m9 : m ≤ 9) (s : Nat) : cFm G n kd a m s ≤ 9 := by
  unfold cFm
  omega
section TOLD
variable {sc : List Int32} {d : Nat} {h : mH}
theorem fPowL {b n : Nat} (hb : b ≤ 12) (hn : n ≤ 6) : ∀ (c k : Nat), k + c = n → nRn sc d (mMT mMe105) (mMC mMe105) (4, [some (sI (b : Int)), some (sI (n : Int)), some (sJ ((b ^ k : Nat) : Int)), none, some (sI (k : Int))], [], h) (some (sJ ((b ^ n : Nat) : Int)), h) := by
  intro c
  induction c with
  | zero =>
    intro k hk
    have hkn : k = n := by omega
    subst hkn
    refine sP 2 (g1 := (6, [some (sI ((b : Int))), some (sI ((k : Int))), some (sJ (((b ^ k : Nat) : Int))), none, some (sI ((k : Int)))], [sI ((k : Int)), sI ((k : Int))], h)) rfl ?_
    refine s_icmp (q := .ge) (a := (k : Int)) (b := (k : Int)) rfl ⟨_, rfl⟩ rfl (by unfold sR aMi aMa; omega) (by unfold sR aMi aMa; omega) (fun hc1 => ?_) (fun hc1 => ?_)
    · have hc1 : (((k : Int)) : Int) ≤ ((k : Int)) := hc1
      refine sP 1 (g1 := (15, [some (sI ((b : Int))), some (sI ((k : Int))), some (sJ (((b ^ k : Nat) : Int))), none, some (sI ((k : Int)))], [sJ (((b ^ k : Nat) : Int))], h)) rfl ?_
      exact s_ret rfl rfl
    · have hc1 : ¬ ((((k : Int)) : Int) ≤ ((k : Int))) := hc1
      omega
  | succ c ih =>
    intro k hk
    refine sP 2 (g1 := (6, [some (sI ((b : Int))), some (sI ((n : Int))), some (sJ (((b ^ k : Nat) : Int))), none, some (sI ((k : Int)))], [sI ((n : Int)), sI ((k : Int))], h)) rfl ?_
    refine s_icmp (q := .ge) (a := (k : Int)) (b := (n : Int)) rfl ⟨_, rfl⟩ rfl (by unfold sR aMi aMa; omega) (by unfold sR aMi aMa; omega) (fun hc1 => ?_) (fun hc1 => ?_)
    · have hc1 : (((n : Int)) : Int) ≤ ((k : Int)) := hc1
      omega
    · have hc1 : ¬ ((((n : Int)) : Int) ≤ ((k : Int))) := hc1
      refine sP 2 (g1 := (9, [some (sI ((b : Int))), some (sI ((n : Int))), some (sJ (((b ^ k : Nat) : Int))), none, some (sI ((k : Int)))], [sI ((b : Int)), sJ (((b ^ k : Nat) : Int))], h)) rfl ?_
      refine s_i2l (a := (b : Int)) rfl rfl (by unfold sR aMi aMa; omega) ?_
      refine s_lmul (a := ((b ^ k : Nat) : Int)) (b := (b : Int)) rfl rfl ?_
      refine sP 1 (g1 := (12, [some (sI ((b : Int))), some (sI ((n : Int))), some (sJ ((((b ^ k : Nat) : Int)) * ((b : Int)))), none, some (sI ((k : Int)))], [], h)) rfl ?_
      refine s_inc (a := (k : Int)) (n := 1) (k := 4) rfl rfl rfl ?_
      refine sP 1 (g1 := (4, [some (sI ((b : Int))), some (sI ((n : Int))), some (sJ ((((b ^ k : Nat) : Int)) * ((b : Int)))), none, some (sI (((k : Int)) + 1))], [], h)) rfl ?_
      rw [show ((b ^ k : Nat) : Int) * (b : Int) = ((b ^ (k + 1) : Nat) : Int) by rw [Nat.pow_succ, Int.natCast_mul], show ((k : Int) + 1) = ((k + 1 : Nat) : Int) by omega]
      exact ih (k + 1) (by omega)
theorem fPow {b n : Nat} (hb : b ≤ 12) (hn : n ≤ 6) : nEv sc (d + 1) 105 [sI (b : Int), sI (n : Int)] h (some (sJ ((b ^ n : Nat) : Int)), h) := by
  refine nEv_of (t := mMe105) rfl ?_
  show nRn sc (d) (mMT mMe105) (mMC mMe105) (0, [some (sI ((b : Int))), some (sI ((n : Int))), none, none, none], [], h) _
  refine sP 4 (g1 := (4, [some (sI ((b : Int))), some (sI ((n : Int))), some (sJ 1), none, some (sI 0)], [], h)) rfl ?_
  exact fPowL hb hn n 0 (by omega)
theorem fGcdL {A B : Nat} : ∀ (j t x y : Nat) (X : Option Value), y ≤ x → 0 < x → x < 4611686018427387904 → x * y < 2 ^ j → t + j < 100 → ∀ r, (∀ Y T X : Option Value, nRn sc d (mMT mMe106) (mMC mMe106) (23, [some (.ref 0), some (sJ ((A : Int))), none, some (sJ ((B : Int))), none, some (sJ (((Nat.gcd x y : Nat) : Int))), none, Y, none, T, X, none], [], h) r) → nRn sc d (mMT mMe106) (mMC mMe106) (6, [some (.ref 0), some (sJ ((A : Int))), none, some (sJ ((B : Int))), none, some (sJ ((x : Int))), none, some (sJ ((y : Int))), none, some (sI ((t : Int))), X, none], [], h) r := by
  intro j
  induction j with
  | zero =>
    intro t x y X h1 h2 h3 h4 h5 r r1
    have y0 : y = 0 := by
      rcases Nat.eq_zero_or_pos y with q | q
      · exact q
      · have := Nat.mul_pos h2 q
        generalize x * y = W at *
        omega
    have e : Nat.gcd x y = x := by rw [y0, Nat.gcd_zero_right]
    rw [e] at r1
    refine sP 2 (g1 := (8, [some (.ref 0), some (sJ ((A : Int))), none, some (sJ ((B : Int))), none, some (sJ ((x : Int))), none, some (sJ ((y : Int))), none, some (sI ((t : Int))), X, none], [sI 100, sI ((t : Int))], h)) rfl ?_
    refine s_icmp (q := .ge) (a := (t : Int)) (b := 100) rfl ⟨_, rfl⟩ rfl (by unfold sR aMi aMa; omega) (by unfold sR aMi aMa; omega) (fun hc1 => ?_) (fun hc1 => ?_)
    · have hc1 : (100 : Int) ≤ ((t : Int)) := hc1
      omega
    · have hc1 : ¬ ((100 : Int) ≤ ((t : Int))) := hc1
      refine sP 2 (g1 := (11, [some (.ref 0), some (sJ ((A : Int))), none, some (sJ ((B : Int))), none, some (sJ ((x : Int))), none, some (sJ ((y : Int))), none, some (sI ((t : Int))), X, none], [sJ 0, sJ ((y : Int))], h)) rfl ?_
      refine s_lif (q := .eq) (a := (y : Int)) (b := 0) rfl rfl rfl ⟨_, rfl⟩ rfl (by unfold sRJ; omega) (by unfold sRJ; omega) (fun hc2 => ?_) (fun hc2 => ?_)
      · have hc2 : (((y : Int)) : Int) = 0 := hc2
        exact r1 _ _ _
      · have hc2 : ¬ ((((y : Int)) : Int) = 0) := hc2
        omega
  | succ j ih =>
    intro t x y X h1 h2 h3 h4 h5 r r1
    by_cases y0 : y = 0
    · have e : Nat.gcd x y = x := by rw [y0, Nat.gcd_zero_right]
      rw [e] at r1
      refine sP 2 (g1 := (8, [some (.ref 0), some (sJ ((A : Int))), none, some (sJ ((B : Int))), none, some (sJ ((x : Int))), none, some (sJ ((y : Int))), none, some (sI ((t : Int))), X, none], [sI 100, sI ((t : Int))], h)) rfl ?_
      refine s_icmp (q := .ge) (a := (t : Int)) (b := 100) rfl ⟨_, rfl⟩ rfl (by unfold sR aMi aMa; omega) (by unfold sR aMi aMa; omega) (fun hc1 => ?_) (fun hc1 => ?_)
      · have hc1 : (100 : Int) ≤ ((t : Int)) := hc1
        omega
      · have hc1 : ¬ ((100 : Int) ≤ ((t : Int))) := hc1
        refine sP 2 (g1 := (11, [some (.ref 0), some (sJ ((A : Int))), none, some (sJ ((B : Int))), none, some (sJ ((x : Int))), none, some (sJ ((y : Int))), none, some (sI ((t : Int))), X, none], [sJ 0, sJ ((y : Int))], h)) rfl ?_
        refine s_lif (q := .eq) (a := (y : Int)) (b := 0) rfl rfl rfl ⟨_, rfl⟩ rfl (by unfold sRJ; omega) (by unfold sRJ; omega) (fun hc2 => ?_) (fun hc2 => ?_)
        · have hc2 : (((y : Int)) : Int) = 0 := hc2
          exact r1 _ _ _
        · have hc2 : ¬ ((((y : Int)) : Int) = 0) := hc2
          omega
    · have hy : 0 < y := by omega
      have m1 := Nat.mod_lt x hy
      have q1 : 2 * (y * (x % y)) ≤ x * y := by
        rw [Nat.mul_left_comm, Nat.mul_comm x y]
        exact Nat.mul_le_mul_left y (mod_hf hy h1)
      have q2 : y * (x % y) < 2 ^ j := by
        rw [Nat.pow_succ] at h4
        generalize y * (x % y) = W at *
        generalize x * y = V at *
        omega
      rw [← gcd_st x y] at r1
      have r0 := ih (t + 1) y (x % y) (some (sJ ((x % y : Nat) : Int))) (by omega) hy (by omega) q2 (by omega) r r1
      refine sP 2 (g1 := (8, [some (.ref 0), some (sJ ((A : Int))), none, some (sJ ((B : Int))), none, some (sJ ((x : Int))), none, some (sJ ((y : Int))), none, some (sI ((t : Int))), X, none], [sI 100, sI ((t : Int))], h)) rfl ?_
      refine s_icmp (q := .ge) (a := (t : Int)) (b := 100) rfl ⟨_, rfl⟩ rfl (by unfold sR aMi aMa; omega) (by unfold sR aMi aMa; omega) (fun hc1 => ?_) (fun hc1 => ?_)
      · have hc1 : (100 : Int) ≤ ((t : Int)) := hc1
        omega
      · have hc1 : ¬ ((100 : Int) ≤ ((t : Int))) := hc1
        refine sP 2 (g1 := (11, [some (.ref 0), some (sJ ((A : Int))), none, some (sJ ((B : Int))), none, some (sJ ((x : Int))), none, some (sJ ((y : Int))), none, some (sI ((t : Int))), X, none], [sJ 0, sJ ((y : Int))], h)) rfl ?_
        refine s_lif (q := .eq) (a := (y : Int)) (b := 0) rfl rfl rfl ⟨_, rfl⟩ rfl (by unfold sRJ; omega) (by unfold sRJ; omega) (fun hc2 => ?_) (fun hc2 => ?_)
        · have hc2 : (((y : Int)) : Int) = 0 := hc2
          omega
        · have hc2 : ¬ ((((y : Int)) : Int) = 0) := hc2
          refine sP 2 (g1 := (15, [some (.ref 0), some (sJ ((A : Int))), none, some (sJ ((B : Int))), none, some (sJ ((x : Int))), none, some (sJ ((y : Int))), none, some (sI ((t : Int))), X, none], [sJ ((y : Int)), sJ ((x : Int))], h)) rfl ?_
          refine s_lremN (a := x) (b := y) rfl rfl (by omega) (by omega) (by omega) ?_
          refine sP 5 (g1 := (21, [some (.ref 0), some (sJ ((A : Int))), none, some (sJ ((B : Int))), none, some (sJ ((y : Int))), none, some (sJ (((x % y : Nat) : Int))), none, some (sI ((t : Int))), some (sJ (((x % y : Nat) : Int))), none], [], h)) rfl ?_
          refine s_inc (a := (t : Int)) (n := 1) (k := 9) rfl rfl rfl ?_
          refine sP 1 (g1 := (6, [some (.ref 0), some (sJ ((A : Int))), none, some (sJ ((B : Int))), none, some (sJ ((y : Int))), none, some (sJ (((x % y : Nat) : Int))), none, some (sI (((t : Int)) + 1)), some (sJ (((x % y : Nat) : Int))), none], [], h)) rfl ?_
          rw [show ((t : Int) + 1) = ((t + 1 : Nat) : Int) by omega]
          exact r0
theorem fGcdX {A B x y : Nat} (X : Option Value) (h2 : 0 < x) (h3 : x < 4611686018427387904) (h3y : y < 4611686018427387904) (h4 : x * y < 2 ^ 90) (r : mR) (r1 : ∀ Y T X : Option Value, nRn sc d (mMT mMe106) (mMC mMe106) (23, [some (.ref 0), some (sJ ((A : Int))), none, some (sJ ((B : Int))), none, some (sJ (((Nat.gcd x y : Nat) : Int))), none, Y, none, T, X, none], [], h) r) : nRn sc d (mMT mMe106) (mMC mMe106) (6, [some (.ref 0), some (sJ ((A : Int))), none, some (sJ ((B : Int))), none, some (sJ ((x : Int))), none, some (sJ ((y : Int))), none, some (sI 0), X, none], [], h) r := by
  by_cases h1 : y ≤ x
  · exact fGcdL 90 0 x y X h1 h2 h3 h4 (by omega) r r1
  · have hy : 0 < y := by omega
    have m1 := Nat.mod_lt x hy
    have q1 : y * (x % y) ≤ x * y := by
      rw [Nat.mul_comm x y]
      exact Nat.mul_le_mul_left y (Nat.mod_le x y)
    rw [← gcd_st x y] at r1
    have r0 := fGcdL 90 1 y (x % y) (some (sJ ((x % y : Nat) : Int))) (by omega) hy (by omega) (Nat.lt_of_le_of_lt q1 h4) (by omega) r r1
    refine sP 2 (g1 := (8, [some (.ref 0), some (sJ ((A : Int))), none, some (sJ ((B : Int))), none, some (sJ ((x : Int))), none, some (sJ ((y : Int))), none, some (sI 0), X, none], [sI 100, sI 0], h)) rfl ?_
    refine s_icmp (q := .ge) (a := 0) (b := 100) rfl ⟨_, rfl⟩ rfl (by unfold sR aMi aMa; omega) (by unfold sR aMi aMa; omega) (fun hc1 => ?_) (fun hc1 => ?_)
    · have hc1 : (100 : Int) ≤ 0 := hc1
      omega
    · have hc1 : ¬ ((100 : Int) ≤ 0) := hc1
      refine sP 2 (g1 := (11, [some (.ref 0), some (sJ ((A : Int))), none, some (sJ ((B : Int))), none, some (sJ ((x : Int))), none, some (sJ ((y : Int))), none, some (sI 0), X, none], [sJ 0, sJ ((y : Int))], h)) rfl ?_
      refine s_lif (q := .eq) (a := (y : Int)) (b := 0) rfl rfl rfl ⟨_, rfl⟩ rfl (by unfold sRJ; omega) (by unfold sRJ; omega) (fun hc2 => ?_) (fun hc2 => ?_)
      · have hc2 : (((y : Int)) : Int) = 0 := hc2
        omega
      · have hc2 : ¬ ((((y : Int)) : Int) = 0) := hc2
        refine sP 2 (g1 := (15, [some (.ref 0), some (sJ ((A : Int))), none, some (sJ ((B : Int))), none, some (sJ ((x : Int))), none, some (sJ ((y : Int))), none, some (sI 0), X, none], [sJ ((y : Int)), sJ ((x : Int))], h)) rfl ?_
        refine s_lremN (a := x) (b := y) rfl rfl (by omega) (by omega) (by omega) ?_
        refine sP 5 (g1 := (21, [some (.ref 0), some (sJ ((A : Int))), none, some (sJ ((B : Int))), none, some (sJ ((y : Int))), none, some (sJ (((x % y : Nat) : Int))), none, some (sI 0), some (sJ (((x % y : Nat) : Int))), none], [], h)) rfl ?_
        refine s_inc (a := 0) (n := 1) (k := 9) rfl rfl rfl ?_
        refine sP 1 (g1 := (6, [some (.ref 0), some (sJ ((A : Int))), none, some (sJ ((B : Int))), none, some (sJ ((y : Int))), none, some (sJ (((x % y : Nat) : Int))), none, some (sI 1), some (sJ (((x % y : Nat) : Int))), none], [], h)) rfl ?_
        exact r0
theorem fRatioX {A B : Nat} (hh : aHp h) (hB : 0 < B) (hA1 : A < 4611686018427387904) (hB1 : B < 4611686018427387904) (hAB : B * A < 2 ^ 90) : ∃ g, nEv sc (d + 1) 106 [.ref 0, sJ (A : Int), sJ (B : Int)] h (none, g) ∧ aHp g ∧ ∀ p m, aSlot g p m = if p = 0 ∧ m = 11 then some (sJ ((B / Nat.gcd B A : Nat) : Int)) else if p = 0 ∧ m = 10 then some (sJ ((A / Nat.gcd B A : Nat) : Int)) else aSlot h p m := by
  have hG0 : 0 < Nat.gcd B A := Nat.gcd_pos_of_pos_left A hB
  have hG1 : Nat.gcd B A ≤ B := Nat.gcd_le_left A hB
  have key := fun r => fGcdX (sc := sc) (d := d) (h := h) (A := A) (B := B) (x := B) (y := A) none hB hB1 hA1 hAB r
  generalize hG : Nat.gcd B A = G at *
  obtain ⟨g1, eg1⟩ : ∃ gz, gz = hset h 0 10 (sJ ((A / G : Nat) : Int)) := ⟨_, rfl⟩
  have sg1 : ∀ xa xm, aSlot g1 xa xm = if xa = 0 ∧ xm = 10 then some (sJ ((A / G : Nat) : Int)) else aSlot h xa xm := fun xa xm => by rw [eg1]; exact hset_slot hh (show sTg 0 = some (0, 12) from rfl) (by omega) xa xm
  have hg1 : aHp g1 := by rw [eg1]; exact hset_lng hh (by decide +kernel)
  obtain ⟨g2, eg2⟩ : ∃ gz, gz = hset g1 0 11 (sJ ((B / G : Nat) : Int)) := ⟨_, rfl⟩
  have sg2 : ∀ xa xm, aSlot g2 xa xm = if xa = 0 ∧ xm = 11 then some (sJ ((B / G : Nat) : Int)) else aSlot g1 xa xm := fun xa xm => by rw [eg2]; exact hset_slot hg1 (show sTg 0 = some (0, 12) from rfl) (by omega) xa xm
  have hg2 : aHp g2 := by rw [eg2]; exact hset_lng hg1 (by decide +kernel)
  refine ⟨g2, ?_, hg2, fun p m => by rw [sg2, sg1]⟩
  have r1 : ∀ Y T X : Option Value, nRn sc d (mMT mMe106) (mMC mMe106) (23, [some (.ref 0), some (sJ ((A : Int))), none, some (sJ ((B : Int))), none, some (sJ ((G : Int))), none, Y, none, T, X, none], [], h) (none, g2) := by
    intro Y T X
    refine sP 2 (g1 := (25, [some (.ref 0), some (sJ ((A : Int))), none, some (sJ ((B : Int))), none, some (sJ ((G : Int))), none, Y, none, T, X, none], [sJ 0, sJ ((G : Int))], h)) rfl ?_
    refine s_lif (q := .eq) (a := (G : Int)) (b := 0) rfl rfl rfl ⟨_, rfl⟩ rfl (by unfold sRJ; omega) (by unfold sRJ; omega) (fun hc1 => ?_) (fun hc1 => ?_)
    · have hc1 : (((G : Int)) : Int) = 0 := hc1
      omega
    · have hc1 : ¬ ((((G : Int)) : Int) = 0) := hc1
      refine sP 3 (g1 := (30, [some (.ref 0), some (sJ ((A : Int))), none, some (sJ ((B : Int))), none, some (sJ ((G : Int))), none, Y, none, T, X, none], [sJ ((G : Int)), sJ ((A : Int)), .ref 0], h)) rfl ?_
      refine s_ldivN (a := A) (b := G) rfl rfl (by omega) (by omega) (by omega) ?_
      refine s_put (a := 0) (j := 10) (k := 0) (n := 12) hh rfl ⟨_, rfl⟩ (show sTg 0 = some (0, 12) from rfl) rfl rfl (by decide) rfl ?_
      rw [← eg1]
      refine sP 3 (g1 := (35, [some (.ref 0), some (sJ ((A : Int))), none, some (sJ ((B : Int))), none, some (sJ ((G : Int))), none, Y, none, T, X, none], [sJ ((G : Int)), sJ ((B : Int)), .ref 0], g1)) rfl ?_
      refine s_ldivN (a := B) (b := G) rfl rfl (by omega) (by omega) (by omega) ?_
      refine s_put (a := 0) (j := 11) (k := 0) (n := 12) hg1 rfl ⟨_, rfl⟩ (show sTg 0 = some (0, 12) from rfl) rfl rfl (by decide) rfl ?_
      rw [← eg2]
      exact s_ret rfl rfl
  refine nEv_of (t := mMe106) rfl ?_
  show nRn sc (d) (mMT mMe106) (mMC mMe106) (0, [some (.ref 0), some (sJ ((A : Int))), none, some (sJ ((B : Int))), none, none, none, none, none, none, none, none], [], h) _
  refine sP 6 (g1 := (6, [some (.ref 0), some (sJ ((A : Int))), none, some (sJ ((B : Int))), none, some (sJ ((B : Int))), none, some (sJ ((A : Int))), none, some (sI 0), none, none], [], h)) rfl ?_
  exact key _ r1
theorem fFracL {A B : Nat} : ∀ (y x : Nat) (X : Option Value), x < 4611686018427387904 → y < 4611686018427387904 → ∀ r, (∀ Y X : Option Value, nRn sc d (mMT mMe210) (mMC mMe210) (17, [some (.ref 53), some (sJ ((A : Int))), none, some (sJ ((B : Int))), none, some (sJ (((Nat.gcd x y : Nat) : Int))), none, Y, none, X, none], [], h) r) → nRn sc d (mMT mMe210) (mMC mMe210) (4, [some (.ref 53), some (sJ ((A : Int))), none, some (sJ ((B : Int))), none, some (sJ ((x : Int))), none, some (sJ ((y : Int))), none, X, none], [], h) r := by
  intro y
  induction y using Nat.strongRecOn with
  | _ y ih =>
    intro x X h1 h2 r r1
    by_cases y0 : y = 0
    · have e : Nat.gcd x y = x := by rw [y0, Nat.gcd_zero_right]
      rw [e] at r1
      refine sP 2 (g1 := (6, [some (.ref 53), some (sJ ((A : Int))), none, some (sJ ((B : Int))), none, some (sJ ((x : Int))), none, some (sJ ((y : Int))), none, X, none], [sJ 0, sJ ((y : Int))], h)) rfl ?_
      refine s_lif (q := .eq) (a := (y : Int)) (b := 0) rfl rfl rfl ⟨_, rfl⟩ rfl (by unfold sRJ; omega) (by unfold sRJ; omega) (fun hc1 => ?_) (fun hc1 => ?_)
      · have hc1 : (((y : Int)) : Int) = 0 := hc1
        exact r1 _ _
      · have hc1 : ¬ ((((y : Int)) : Int) = 0) := hc1
        omega
    · have hy : 0 < y := by omega
      have m1 := Nat.mod_lt x hy
      rw [← gcd_st x y] at r1
      have r0 := ih (x % y) m1 y (some (sJ ((x % y : Nat) : Int))) h2 (by omega) r r1
      refine sP 2 (g1 := (6, [some (.ref 53), some (sJ ((A : Int))), none, some (sJ ((B : Int))), none, some (sJ ((x : Int))), none, some (sJ ((y : Int))), none, X, none], [sJ 0, sJ ((y : Int))], h)) rfl ?_
      refine s_lif (q := .eq) (a := (y : Int)) (b := 0) rfl rfl rfl ⟨_, rfl⟩ rfl (by unfold sRJ; omega) (by unfold sRJ; omega) (fun hc1 => ?_) (fun hc1 => ?_)
      · have hc1 : (((y : Int)) : Int) = 0 := hc1
        omega
      · have hc1 : ¬ ((((y : Int)) : Int) = 0) := hc1
        refine sP 2 (g1 := (10, [some (.ref 53), some (sJ ((A : Int))), none, some (sJ ((B : Int))), none, some (sJ ((x : Int))), none, some (sJ ((y : Int))), none, X, none], [sJ ((y : Int)), sJ ((x : Int))], h)) rfl ?_
        refine s_lremN (a := x) (b := y) rfl rfl (by omega) (by omega) (by omega) ?_
        refine sP 6 (g1 := (4, [some (.ref 53), some (sJ ((A : Int))), none, some (sJ ((B : Int))), none, some (sJ ((y : Int))), none, some (sJ (((x % y : Nat) : Int))), none, some (sJ (((x % y : Nat) : Int))), none], [], h)) rfl ?_
        exact r0
theorem fFracM {A B : Nat} (hh : aHp h) (hB : 0 < B) (hA1 : A < 4611686018427387904) (hB1 : B < 4611686018427387904) : ∃ g, nEv sc (d + 1) 210 [.ref 53, sJ (A : Int), sJ (B : Int)] h (some (sI 1), g) ∧ aHp g ∧ ∀ p m, aSlot g p m = if p = 53 ∧ m = 10 then some (sJ ((B / Nat.gcd A B : Nat) : Int)) else if p = 53 ∧ m = 9 then some (sJ ((A / Nat.gcd A B : Nat) : Int)) else aSlot h p m := by
  have hG0 : 0 < Nat.gcd A B := Nat.gcd_pos_of_pos_right A hB
  have hG1 : Nat.gcd A B ≤ B := Nat.gcd_le_right A hB
  have key := fun r => fFracL (sc := sc) (d := d) (h := h) (A := A) (B := B) B A none hA1 hB1 r
  generalize hG : Nat.gcd A B = G at *
  obtain ⟨g1, eg1⟩ : ∃ gz, gz = hset h 53 9 (sJ ((A / G : Nat) : Int)) := ⟨_, rfl⟩
  have sg1 : ∀ xa xm, aSlot g1 xa xm = if xa = 53 ∧ xm = 9 then some (sJ ((A / G : Nat) : Int)) else aSlot h xa xm := fun xa xm => by rw [eg1]; exact hset_slot hh (show sTg 53 = some (7, 21) from rfl) (by omega) xa xm
  have hg1 : aHp g1 := by rw [eg1]; exact hset_lng hh (by decide +kernel)
  obtain ⟨g2, eg2⟩ : ∃ gz, gz = hset g1 53 10 (sJ ((B / G : Nat) : Int)) := ⟨_, rfl⟩
  have sg2 : ∀ xa xm, aSlot g2 xa xm = if xa = 53 ∧ xm = 10 then some (sJ ((B / G : Nat) : Int)) else aSlot g1 xa xm := fun xa xm => by rw [eg2]; exact hset_slot hg1 (show sTg 53 = some (7, 21) from rfl) (by omega) xa xm
  have hg2 : aHp g2 := by rw [eg2]; exact hset_lng hg1 (by decide +kernel)
  refine ⟨g2, ?_, hg2, fun p m => by rw [sg2, sg1]⟩
  have r1 : ∀ Y X : Option Value, nRn sc d (mMT mMe210) (mMC mMe210) (17, [some (.ref 53), some (sJ ((A : Int))), none, some (sJ ((B : Int))), none, some (sJ ((G : Int))), none, Y, none, X, none], [], h) (some (sI 1), g2) := by
    intro Y X
    refine sP 3 (g1 := (20, [some (.ref 53), some (sJ ((A : Int))), none, some (sJ ((B : Int))), none, some (sJ ((G : Int))), none, Y, none, X, none], [sJ ((G : Int)), sJ ((A : Int)), .ref 53], h)) rfl ?_
    refine s_ldivN (a := A) (b := G) rfl rfl (by omega) (by omega) (by omega) ?_
    refine s_put (a := 53) (j := 9) (k := 7) (n := 21) hh rfl ⟨_, rfl⟩ (show sTg 53 = some (7, 21) from rfl) rfl rfl (by decide) rfl ?_
    rw [← eg1]
    refine sP 3 (g1 := (25, [some (.ref 53), some (sJ ((A : Int))), none, some (sJ ((B : Int))), none, some (sJ ((G : Int))), none, Y, none, X, none], [sJ ((G : Int)), sJ ((B : Int)), .ref 53], g1)) rfl ?_
    refine s_ldivN (a := B) (b := G) rfl rfl (by omega) (by omega) (by omega) ?_
    refine s_put (a := 53) (j := 10) (k := 7) (n := 21) hg1 rfl ⟨_, rfl⟩ (show sTg 53 = some (7, 21) from rfl) rfl rfl (by decide) rfl ?_
    rw [← eg2]
    refine sP 1 (g1 := (28, [some (.ref 53), some (sJ ((A : Int))), none, some (sJ ((B : Int))), none, some (sJ ((G : Int))), none, Y, none, X, none], [sI 1], g2)) rfl ?_
    exact s_reti rfl rfl (Or.inl rfl) rfl rfl
  refine nEv_of (t := mMe210) rfl ?_
  show nRn sc (d) (mMT mMe210) (mMC mMe210) (0, [some (.ref 53), some (sJ ((A : Int))), none, some (sJ ((B : Int))), none, none, none, none, none, none, none], [], h) _
  refine sP 4 (g1 := (4, [some (.ref 53), some (sJ ((A : Int))), none, some (sJ ((B : Int))), none, some (sJ ((A : Int))), none, some (sJ ((B : Int))), none, none, none], [], h)) rfl ?_
  exact key _ r1
theorem fTelL {n ka a o p : Nat} {m : Int} (hh : aHp h) (hn : hI h 3 3 = n) (ha : a < 6) (hka : hI h 4 a = ka) (ho : o < 64) (hp : p ≤ 12) (m1 : 1 ≤ m) (m9 : m ≤ 9) : ∀ (c s : Nat) (X Y Z : Option Value), s + c = 64 → ∀ r, (∀ V X Y Z : Option Value, nRn sc (d + 4) (mMT mMe104) (mMC mMe104) (56, [some (.ref 0), some (sI ((a : Int))), some (sI ((p : Int))), some (sI m), some (sI ((o : Int))), some (sJ (((tF (cFm (hI h 5) n ka a m) o p 64 : Nat) : Int))), none, V, X, Y, Z], [], h) r) → nRn sc (d + 4) (mMT mMe104) (mMC mMe104) (14, [some (.ref 0), some (sI ((a : Int))), some (sI ((p : Int))), some (sI m), some (sI ((o : Int))), some (sJ (((tF (cFm (hI h 5) n ka a m) o p s : Nat) : Int))), none, some (sI ((s : Int))), X, Y, Z], [], h) r := by
  intro c
  induction c with
  | zero =>
    intro s X Y Z hs r r1
    have hs6 : s = 64 := by omega
    subst hs6
    refine sP 2 (g1 := (16, [some (.ref 0), some (sI ((a : Int))), some (sI ((p : Int))), some (sI m), some (sI ((o : Int))), some (sJ (((tF (cFm (hI h 5) n ka a m) o p 64 : Nat) : Int))), none, some (sI (((64 : Nat) : Int))), X, Y, Z], [sI 64, sI (((64 : Nat) : Int))], h)) rfl ?_
    refine s_icmp (q := .ge) (a := ((64 : Nat) : Int)) (b := 64) rfl ⟨_, rfl⟩ rfl (by unfold sR aMi aMa; omega) (by unfold sR aMi aMa; omega) (fun hc1 => ?_) (fun hc1 => ?_)
    · have hc1 : (64 : Int) ≤ (((64 : Nat) : Int)) := hc1
      exact r1 _ _ _ _
    · have hc1 : ¬ ((64 : Int) ≤ (((64 : Nat) : Int))) := hc1
      omega
  | succ c ih =>
    intro s X Y Z hs r r1
    have s64 : s < 64 := by omega
    have sb := sbs_le s o
    by_cases hz : sbs s o = 0
    · have p1 := pcn_le s
      have p2 := pcn_le o
      have p3 := sbs_pc s s64 o ho hz
      have gp := hI_rg hh xw_p
      have gk := hI_rg hh (xw_k ha)
      have v9 : 0 ≤ pSeem (hI h 5) n ka a s ∧ pSeem (hI h 5) n ka a s ≤ 9 := pSe9 (n := n) (kd := ka) (s := s) (eG hh (show 3 ∈ eAd by decide)) ha (by omega) (by omega)
      have ev := fSeeming (sc := sc) (d := d) hh hn ha s64 hka
      have em : nEv sc (d + 4) 43 [sI (pSeem (hI h 5) n ka a s), sI m] h (some (sI ((cFm (hI h 5) n ka a m s : Nat) : Int)), h) := by
        have q := fMin (sc := sc) (d := d + 3) (h := h) (a := pSeem (hI h 5) n ka a s) (b := m) (by omega) (by omega) (by omega) (by omega)
        rw [show min (pSeem (hI h 5) n ka a s) m = ((cFm (hI h 5) n ka a m s : Nat) : Int) by unfold cFm; omega] at q
        exact q
      have c9 := cFm_9 (G := hI h 5) (n := n) (kd := ka) (a := a) m9 s
      have e1 : tF (cFm (hI h 5) n ka a m) o p (s + 1) = tF (cFm (hI h 5) n ka a m) o p s + cFm (hI h 5) n ka a m s * (12 - p) ^ pcn s * p ^ (pcn o - pcn s) := by
        show (if sbs s o = 0 then _ else _) = _
        rw [if_pos hz]
      have r0 := ih (s + 1) (some (sI ((pcn s : Nat) : Int))) (some (sI ((pcn o - pcn s : Nat) : Int))) (some (sI ((cFm (hI h 5) n ka a m s : Nat) : Int))) (by omega) r r1
      rw [e1, Int.natCast_add, Int.natCast_mul, Int.natCast_mul] at r0
      refine sP 2 (g1 := (16, [some (.ref 0), some (sI ((a : Int))), some (sI ((p : Int))), some (sI m), some (sI ((o : Int))), some (sJ (((tF (cFm (hI h 5) n ka a m) o p s : Nat) : Int))), none, some (sI ((s : Int))), X, Y, Z], [sI 64, sI ((s : Int))], h)) rfl ?_
      refine s_icmp (q := .ge) (a := (s : Int)) (b := 64) rfl ⟨_, rfl⟩ rfl (by unfold sR aMi aMa; omega) (by unfold sR aMi aMa; omega) (fun hc1 => ?_) (fun hc1 => ?_)
      · have hc1 : (64 : Int) ≤ ((s : Int)) := hc1
        omega
      · have hc1 : ¬ ((64 : Int) ≤ ((s : Int))) := hc1
        refine sP 3 (g1 := (20, [some (.ref 0), some (sI ((a : Int))), some (sI ((p : Int))), some (sI m), some (sI ((o : Int))), some (sJ (((tF (cFm (hI h 5) n ka a m) o p s : Nat) : Int))), none, some (sI ((s : Int))), X, Y, Z], [sI ((-1)), sI ((o : Int)), sI ((s : Int))], h)) rfl ?_
        refine s_b1 (w := Int32.ofInt (o : Int) ^^^ Int32.ofInt (-1)) rfl rfl rfl ?_
        refine s_b1 (w := Int32.ofInt ((sbs s o : Nat) : Int)) rfl rfl (b_sbs s (by omega) o (by omega)) ?_
        refine s_ifc (q := .ne) (a := ((sbs s o : Nat) : Int)) rfl ⟨_, rfl⟩ rfl (by unfold sR aMi aMa; omega) (fun hc2 => ?_) (fun hc2 => ?_)
        · have hc2 : ((((sbs s o : Nat) : Int)) : Int) ≠ 0 := hc2
          omega
        · have hc2 : ¬ (((((sbs s o : Nat) : Int)) : Int) ≠ 0) := hc2
          refine sP 1 (g1 := (24, [some (.ref 0), some (sI ((a : Int))), some (sI ((p : Int))), some (sI m), some (sI ((o : Int))), some (sJ (((tF (cFm (hI h 5) n ka a m) o p s : Nat) : Int))), none, some (sI ((s : Int))), X, Y, Z], [sI ((s : Int))], h)) rfl ?_
          refine s_call (k := 58) (args := [sI ((s : Int))]) (st := []) (v := some (sI (((pcn s : Nat) : Int)))) (h1 := h) rfl ⟨rfl, rfl⟩ rfl rfl rfl rfl rfl rfl (fBitX (d := d + 3) (by omega)) ?_
          refine sP 2 (g1 := (27, [some (.ref 0), some (sI ((a : Int))), some (sI ((p : Int))), some (sI m), some (sI ((o : Int))), some (sJ (((tF (cFm (hI h 5) n ka a m) o p s : Nat) : Int))), none, some (sI ((s : Int))), some (sI (((pcn s : Nat) : Int))), Y, Z], [sI ((o : Int))], h)) rfl ?_
          refine s_call (k := 58) (args := [sI ((o : Int))]) (st := []) (v := some (sI (((pcn o : Nat) : Int)))) (h1 := h) rfl ⟨rfl, rfl⟩ rfl rfl rfl rfl rfl rfl (fBitX (d := d + 3) (by omega)) ?_
          refine sP 1 (g1 := (29, [some (.ref 0), some (sI ((a : Int))), some (sI ((p : Int))), some (sI m), some (sI ((o : Int))), some (sJ (((tF (cFm (hI h 5) n ka a m) o p s : Nat) : Int))), none, some (sI ((s : Int))), some (sI (((pcn s : Nat) : Int))), Y, Z], [sI (((pcn s : Nat) : Int)), sI (((pcn o : Nat) : Int))], h)) rfl ?_
          refine s_sub (a := ((pcn o : Nat) : Int)) (b := ((pcn s : Nat) : Int)) rfl rfl ?_
          rw [show ((((pcn o : Nat) : Int)) - (((pcn s : Nat) : Int)) : Int) = ((pcn o - pcn s : Nat) : Int) by omega]
          refine sP 2 (g1 := (32, [some (.ref 0), some (sI ((a : Int))), some (sI ((p : Int))), some (sI m), some (sI ((o : Int))), some (sJ (((tF (cFm (hI h 5) n ka a m) o p s : Nat) : Int))), none, some (sI ((s : Int))), some (sI (((pcn s : Nat) : Int))), some (sI (((pcn o - pcn s : Nat) : Int))), Z], [.ref 0], h)) rfl ?_
          refine s_get (a := 0) (j := 2) hh rfl ⟨_, rfl⟩ rfl rfl rfl (v := .ref 3) (hR_ok hh (by decide +kernel)) ?_
          refine sP 2 (g1 := (35, [some (.ref 0), some (sI ((a : Int))), some (sI ((p : Int))), some (sI m), some (sI ((o : Int))), some (sJ (((tF (cFm (hI h 5) n ka a m) o p s : Nat) : Int))), none, some (sI ((s : Int))), some (sI (((pcn s : Nat) : Int))), some (sI (((pcn o - pcn s : Nat) : Int))), Z], [sI ((s : Int)), sI ((a : Int)), .ref 3], h)) rfl ?_
          refine s_call (k := 37) (args := [.ref 3, sI ((a : Int)), sI ((s : Int))]) (st := []) (v := some (sI (pSeem (hI h 5) n ka a s))) (h1 := h) rfl ⟨rfl, rfl⟩ rfl rfl rfl rfl (sRcv hh (a := 3) rfl rfl) rfl ev ?_
          refine sP 1 (g1 := (37, [some (.ref 0), some (sI ((a : Int))), some (sI ((p : Int))), some (sI m), some (sI ((o : Int))), some (sJ (((tF (cFm (hI h 5) n ka a m) o p s : Nat) : Int))), none, some (sI ((s : Int))), some (sI (((pcn s : Nat) : Int))), some (sI (((pcn o - pcn s : Nat) : Int))), Z], [sI m, sI (pSeem (hI h 5) n ka a s)], h)) rfl ?_
          refine s_call (k := 43) (args := [sI (pSeem (hI h 5) n ka a s), sI m]) (st := []) (v := some (sI (((cFm (hI h 5) n ka a m s : Nat) : Int)))) (h1 := h) rfl ⟨rfl, rfl⟩ rfl rfl rfl rfl rfl rfl em ?_
          refine sP 3 (g1 := (41, [some (.ref 0), some (sI ((a : Int))), some (sI ((p : Int))), some (sI m), some (sI ((o : Int))), some (sJ (((tF (cFm (hI h 5) n ka a m) o p s : Nat) : Int))), none, some (sI ((s : Int))), some (sI (((pcn s : Nat) : Int))), some (sI (((pcn o - pcn s : Nat) : Int))), some (sI (((cFm (hI h 5) n ka a m s : Nat) : Int)))], [sI (((cFm (hI h 5) n ka a m s : Nat) : Int)), sJ (((tF (cFm (hI h 5) n ka a m) o p s : Nat) : Int))], h)) rfl ?_
          refine s_i2l (a := ((cFm (hI h 5) n ka a m s : Nat) : Int)) rfl rfl (by unfold sR aMi aMa; omega) ?_
          refine sP 2 (g1 := (44, [some (.ref 0), some (sI ((a : Int))), some (sI ((p : Int))), some (sI m), some (sI ((o : Int))), some (sJ (((tF (cFm (hI h 5) n ka a m) o p s : Nat) : Int))), none, some (sI ((s : Int))), some (sI (((pcn s : Nat) : Int))), some (sI (((pcn o - pcn s : Nat) : Int))), some (sI (((cFm (hI h 5) n ka a m s : Nat) : Int)))], [sI ((p : Int)), sI 12, sJ (((cFm (hI h 5) n ka a m s : Nat) : Int)), sJ (((tF (cFm (hI h 5) n ka a m) o p s : Nat) : Int))], h)) rfl ?_
          refine s_sub (a := 12) (b := (p : Int)) rfl rfl ?_
          rw [show (12 - ((p : Int)) : Int) = ((12 - p : Nat) : Int) by omega]
          refine sP 1 (g1 := (46, [some (.ref 0), some (sI ((a : Int))), some (sI ((p : Int))), some (sI m), some (sI ((o : Int))), some (sJ (((tF (cFm (hI h 5) n ka a m) o p s : Nat) : Int))), none, some (sI ((s : Int))), some (sI (((pcn s : Nat) : Int))), some (sI (((pcn o - pcn s : Nat) : Int))), some (sI (((cFm (hI h 5) n ka a m s : Nat) : Int)))], [sI (((pcn s : Nat) : Int)), sI (((12 - p : Nat) : Int)), sJ (((cFm (hI h 5) n ka a m s : Nat) : Int)), sJ (((tF (cFm (hI h 5) n ka a m) o p s : Nat) : Int))], h)) rfl ?_
          refine s_call (k := 105) (args := [sI (((12 - p : Nat) : Int)), sI (((pcn s : Nat) : Int))]) (st := [sJ (((cFm (hI h 5) n ka a m s : Nat) : Int)), sJ (((tF (cFm (hI h 5) n ka a m) o p s : Nat) : Int))]) (v := some (sJ ((((12 - p) ^ (pcn s) : Nat) : Int)))) (h1 := h) rfl ⟨rfl, rfl⟩ rfl rfl rfl rfl rfl rfl (fPow (d := d + 3) (b := 12 - p) (n := pcn s) (by omega) (by omega)) ?_
          refine s_lmul (a := ((cFm (hI h 5) n ka a m s : Nat) : Int)) (b := (((12 - p) ^ (pcn s) : Nat) : Int)) rfl rfl ?_
          refine sP 2 (g1 := (50, [some (.ref 0), some (sI ((a : Int))), some (sI ((p : Int))), some (sI m), some (sI ((o : Int))), some (sJ (((tF (cFm (hI h 5) n ka a m) o p s : Nat) : Int))), none, some (sI ((s : Int))), some (sI (((pcn s : Nat) : Int))), some (sI (((pcn o - pcn s : Nat) : Int))), some (sI (((cFm (hI h 5) n ka a m s : Nat) : Int)))], [sI (((pcn o - pcn s : Nat) : Int)), sI ((p : Int)), sJ ((((cFm (hI h 5) n ka a m s : Nat) : Int)) * ((((12 - p) ^ (pcn s) : Nat) : Int))), sJ (((tF (cFm (hI h 5) n ka a m) o p s : Nat) : Int))], h)) rfl ?_
          refine s_call (k := 105) (args := [sI ((p : Int)), sI (((pcn o - pcn s : Nat) : Int))]) (st := [sJ ((((cFm (hI h 5) n ka a m s : Nat) : Int)) * ((((12 - p) ^ (pcn s) : Nat) : Int))), sJ (((tF (cFm (hI h 5) n ka a m) o p s : Nat) : Int))]) (v := some (sJ (((p ^ (pcn o - pcn s) : Nat) : Int)))) (h1 := h) rfl ⟨rfl, rfl⟩ rfl rfl rfl rfl rfl rfl (fPow (d := d + 3) (b := p) (n := pcn o - pcn s) (by omega) (by omega)) ?_
          refine s_lmul (a := (((cFm (hI h 5) n ka a m s : Nat) : Int)) * ((((12 - p) ^ (pcn s) : Nat) : Int))) (b := ((p ^ (pcn o - pcn s) : Nat) : Int)) rfl rfl ?_
          refine s_ladd (a := ((tF (cFm (hI h 5) n ka a m) o p s : Nat) : Int)) (b := ((((cFm (hI h 5) n ka a m s : Nat) : Int)) * ((((12 - p) ^ (pcn s) : Nat) : Int))) * (((p ^ (pcn o - pcn s) : Nat) : Int))) rfl rfl ?_
          refine sP 1 (g1 := (54, [some (.ref 0), some (sI ((a : Int))), some (sI ((p : Int))), some (sI m), some (sI ((o : Int))), some (sJ ((((tF (cFm (hI h 5) n ka a m) o p s : Nat) : Int)) + (((((cFm (hI h 5) n ka a m s : Nat) : Int)) * ((((12 - p) ^ (pcn s) : Nat) : Int))) * (((p ^ (pcn o - pcn s) : Nat) : Int))))), none, some (sI ((s : Int))), some (sI (((pcn s : Nat) : Int))), some (sI (((pcn o - pcn s : Nat) : Int))), some (sI (((cFm (hI h 5) n ka a m s : Nat) : Int)))], [], h)) rfl ?_
          refine s_inc (a := (s : Int)) (n := 1) (k := 7) rfl rfl rfl ?_
          refine sP 1 (g1 := (14, [some (.ref 0), some (sI ((a : Int))), some (sI ((p : Int))), some (sI m), some (sI ((o : Int))), some (sJ ((((tF (cFm (hI h 5) n ka a m) o p s : Nat) : Int)) + (((((cFm (hI h 5) n ka a m s : Nat) : Int)) * ((((12 - p) ^ (pcn s) : Nat) : Int))) * (((p ^ (pcn o - pcn s) : Nat) : Int))))), none, some (sI (((s : Int)) + 1)), some (sI (((pcn s : Nat) : Int))), some (sI (((pcn o - pcn s : Nat) : Int))), some (sI (((cFm (hI h 5) n ka a m s : Nat) : Int)))], [], h)) rfl ?_
          rw [show ((s : Int) + 1) = ((s + 1 : Nat) : Int) by omega]
          exact r0
    · have e1 : tF (cFm (hI h 5) n ka a m) o p (s + 1) = tF (cFm (hI h 5) n ka a m) o p s := by
        show (if sbs s o = 0 then _ else _) = _
        rw [if_neg hz]
      have r0 := ih (s + 1) X Y Z (by omega) r r1
      rw [e1] at r0
      refine sP 2 (g1 := (16, [some (.ref 0), some (sI ((a : Int))), some (sI ((p : Int))), some (sI m), some (sI ((o : Int))), some (sJ (((tF (cFm (hI h 5) n ka a m) o p s : Nat) : Int))), none, some (sI ((s : Int))), X, Y, Z], [sI 64, sI ((s : Int))], h)) rfl ?_
      refine s_icmp (q := .ge) (a := (s : Int)) (b := 64) rfl ⟨_, rfl⟩ rfl (by unfold sR aMi aMa; omega) (by unfold sR aMi aMa; omega) (fun hc1 => ?_) (fun hc1 => ?_)
      · have hc1 : (64 : Int) ≤ ((s : Int)) := hc1
        omega
      · have hc1 : ¬ ((64 : Int) ≤ ((s : Int))) := hc1
        refine sP 3 (g1 := (20, [some (.ref 0), some (sI ((a : Int))), some (sI ((p : Int))), some (sI m), some (sI ((o : Int))), some (sJ (((tF (cFm (hI h 5) n ka a m) o p s : Nat) : Int))), none, some (sI ((s : Int))), X, Y, Z], [sI ((-1)), sI ((o : Int)), sI ((s : Int))], h)) rfl ?_
        refine s_b1 (w := Int32.ofInt (o : Int) ^^^ Int32.ofInt (-1)) rfl rfl rfl ?_
        refine s_b1 (w := Int32.ofInt ((sbs s o : Nat) : Int)) rfl rfl (b_sbs s (by omega) o (by omega)) ?_
        refine s_ifc (q := .ne) (a := ((sbs s o : Nat) : Int)) rfl ⟨_, rfl⟩ rfl (by unfold sR aMi aMa; omega) (fun hc2 => ?_) (fun hc2 => ?_)
        · have hc2 : ((((sbs s o : Nat) : Int)) : Int) ≠ 0 := hc2
          refine s_inc (a := (s : Int)) (n := 1) (k := 7) rfl rfl rfl ?_
          refine sP 1 (g1 := (14, [some (.ref 0), some (sI ((a : Int))), some (sI ((p : Int))), some (sI m), some (sI ((o : Int))), some (sJ (((tF (cFm (hI h 5) n ka a m) o p s : Nat) : Int))), none, some (sI (((s : Int)) + 1)), X, Y, Z], [], h)) rfl ?_
          rw [show ((s : Int) + 1) = ((s + 1 : Nat) : Int) by omega]
          exact r0
        · have hc2 : ¬ (((((sbs s o : Nat) : Int)) : Int) ≠ 0) := hc2
          omega
theorem fTellX {n ka a u p : Nat} {m : Int} (hh : aHp h) (hn : hI h 3 3 = n) (ha : a < 6) (hka : hI h 4 a = ka) (hu : hI h 3 4 = (u : Int)) (hp : p ≤ 12) (m1 : 1 ≤ m) (m9 : m ≤ 9) : ∃ g, nEv sc (d + 5) 104 [.ref 0, sI (a : Int), sI (p : Int), sI m] h (none, g) ∧ aHp g ∧ ∀ x y, aSlot g x y = if x = 0 ∧ y = 11 then some (sJ ((12 ^ pcn (bwo u a) / Nat.gcd (12 ^ pcn (bwo u a)) (tF (cFm (hI h 5) n ka a m) (bwo u a) p 64) : Nat) : Int)) else if x = 0 ∧ y = 10 then some (sJ ((tF (cFm (hI h 5) n ka a m) (bwo u a) p 64 / Nat.gcd (12 ^ pcn (bwo u a)) (tF (cFm (hI h 5) n ka a m) (bwo u a) p 64) : Nat) : Int)) else aSlot h x y := by
  have gu := hI_rg hh xw_u
  have ho := bwo_lt u (by omega) a ha
  have hl := tF_le (o := bwo u a) (F := cFm (hI h 5) n ka a m) (fun s => cFm_9 m9 s) hp 64
  have hb := pw12 (Nat.le_refl 12) (pcn_le (bwo u a))
  have hb0 : 0 < 12 ^ pcn (bwo u a) := Nat.pow_pos (by decide)
  have pl := pcn_le (bwo u a)
  have ep := fPow (sc := sc) (d := d + 3) (h := h) (b := 12) (n := pcn (bwo u a)) (by omega) (by omega)
  have hm : 12 ^ pcn (bwo u a) * tF (cFm (hI h 5) n ka a m) (bwo u a) p 64 < 2 ^ 90 := Nat.lt_of_le_of_lt (Nat.mul_le_mul hb hl) (by decide)
  obtain ⟨g, eg, hg, sg⟩ := fRatioX (sc := sc) (d := d + 3) (A := tF (cFm (hI h 5) n ka a m) (bwo u a) p 64) (B := 12 ^ pcn (bwo u a)) hh hb0 (by omega) (by omega) hm
  have key := fun r => fTelL (sc := sc) (d := d) (o := bwo u a) hh hn ha hka ho hp m1 m9 64 0 none none none rfl r
  refine ⟨g, ?_, hg, sg⟩
  generalize hT : tF (cFm (hI h 5) n ka a m) (bwo u a) p 64 = T at *
  generalize hB : 12 ^ pcn (bwo u a) = B at *
  have r1 : ∀ V X Y Z : Option Value, nRn sc (d + 4) (mMT mMe104) (mMC mMe104) (56, [some (.ref 0), some (sI ((a : Int))), some (sI ((p : Int))), some (sI m), some (sI (((bwo u a : Nat) : Int))), some (sJ ((T : Int))), none, V, X, Y, Z], [], h) (none, g) := by
    intro V X Y Z
    refine sP 4 (g1 := (60, [some (.ref 0), some (sI ((a : Int))), some (sI ((p : Int))), some (sI m), some (sI (((bwo u a : Nat) : Int))), some (sJ ((T : Int))), none, V, X, Y, Z], [sI (((bwo u a : Nat) : Int)), sI 12, sJ ((T : Int)), .ref 0], h)) rfl ?_
    refine s_call (k := 58) (args := [sI (((bwo u a : Nat) : Int))]) (st := [sI 12, sJ ((T : Int)), .ref 0]) (v := some (sI (((pcn (bwo u a) : Nat) : Int)))) (h1 := h) rfl ⟨rfl, rfl⟩ rfl rfl rfl rfl rfl rfl (fBitX (d := d + 3) (by omega)) ?_
    refine s_call (k := 105) (args := [sI 12, sI (((pcn (bwo u a) : Nat) : Int))]) (st := [sJ ((T : Int)), .ref 0]) (v := some (sJ ((B : Int)))) (h1 := h) rfl ⟨rfl, rfl⟩ rfl rfl rfl rfl rfl rfl ep ?_
    refine s_call (k := 106) (args := [.ref 0, sJ ((T : Int)), sJ ((B : Int))]) (st := []) (v := none) (h1 := g) rfl ⟨rfl, rfl⟩ rfl rfl rfl rfl (sRcv hh (a := 0) rfl rfl) rfl eg ?_
    exact s_ret rfl rfl
  refine nEv_of (t := mMe104) rfl ?_
  show nRn sc (d + 4) (mMT mMe104) (mMC mMe104) (0, [some (.ref 0), some (sI ((a : Int))), some (sI ((p : Int))), some (sI m), none, none, none, none, none, none, none], [], h) _
  refine sP 1 (g1 := (1, [some (.ref 0), some (sI ((a : Int))), some (sI ((p : Int))), some (sI m), none, none, none, none, none, none, none], [.ref 0], h)) rfl ?_
  refine s_get (a := 0) (j := 2) hh rfl ⟨_, rfl⟩ rfl rfl rfl (v := .ref 3) (hR_ok hh (by decide +kernel)) ?_
  refine s_get (a := 3) (j := 4) hh rfl ⟨_, rfl⟩ rfl rfl rfl (v := sI ((u : Int))) (by have q := hI_ok hh xw_u; rw [hu] at q; exact q) ?_
  refine sP 2 (g1 := (5, [some (.ref 0), some (sI ((a : Int))), some (sI ((p : Int))), some (sI m), none, none, none, none, none, none, none], [sI ((a : Int)), sI 1, sI ((u : Int))], h)) rfl ?_
  refine s_shl (a := a) rfl rfl (by omega) ?_
  refine sP 1 (g1 := (7, [some (.ref 0), some (sI ((a : Int))), some (sI ((p : Int))), some (sI m), none, none, none, none, none, none, none], [sI ((-1)), sI (((2 ^ a : Nat) : Int)), sI ((u : Int))], h)) rfl ?_
  refine s_not (a := a) rfl rfl (by omega) ?_
  refine s_wo (s := u) (a := a) rfl rfl (by omega) (by omega) ?_
  refine sP 5 (g1 := (14, [some (.ref 0), some (sI ((a : Int))), some (sI ((p : Int))), some (sI m), some (sI (((bwo u a : Nat) : Int))), some (sJ 0), none, some (sI 0), none, none, none], [], h)) rfl ?_
  exact key _ r1
theorem fWeiB {a p o c : Nat} {sm : Int} (hc : c ≤ 6) : ∀ (k j : Nat), j + k = c → ∀ r, (∀ V : Option Value, nRn sc (d + 3) (mMT mMe209) (mMC mMe209) (26, [some (.ref 53), some (sI ((a : Int))), some (sI ((p : Int))), some (sI sm), some (sI ((o : Int))), some (sJ 0), none, some (sJ (((12 ^ c : Nat) : Int))), none, V, none, none, none], [], h) r) → nRn sc (d + 3) (mMT mMe209) (mMC mMe209) (18, [some (.ref 53), some (sI ((a : Int))), some (sI ((p : Int))), some (sI sm), some (sI ((o : Int))), some (sJ 0), none, some (sJ (((12 ^ j : Nat) : Int))), none, some (sI ((k : Int))), none, none, none], [], h) r := by
  intro k
  induction k with
  | zero =>
    intro j hj r r1
    have hjc : j = c := by omega
    subst hjc
    refine sP 1 (g1 := (19, [some (.ref 53), some (sI ((a : Int))), some (sI ((p : Int))), some (sI sm), some (sI ((o : Int))), some (sJ 0), none, some (sJ (((12 ^ j : Nat) : Int))), none, some (sI (((0 : Nat) : Int))), none, none, none], [sI (((0 : Nat) : Int))], h)) rfl ?_
    refine s_ifc (q := .le) (a := ((0 : Nat) : Int)) rfl ⟨_, rfl⟩ rfl (by unfold sR aMi aMa; omega) (fun hc1 => ?_) (fun hc1 => ?_)
    · have hc1 : ((((0 : Nat) : Int)) : Int) ≤ 0 := hc1
      exact r1 _
    · have hc1 : ¬ (((((0 : Nat) : Int)) : Int) ≤ 0) := hc1
      omega
  | succ k ih =>
    intro j hj r r1
    have r0 := ih (j + 1) (by omega) r r1
    refine sP 1 (g1 := (19, [some (.ref 53), some (sI ((a : Int))), some (sI ((p : Int))), some (sI sm), some (sI ((o : Int))), some (sJ 0), none, some (sJ (((12 ^ j : Nat) : Int))), none, some (sI (((k + 1 : Nat) : Int))), none, none, none], [sI (((k + 1 : Nat) : Int))], h)) rfl ?_
    refine s_ifc (q := .le) (a := ((k + 1 : Nat) : Int)) rfl ⟨_, rfl⟩ rfl (by unfold sR aMi aMa; omega) (fun hc1 => ?_) (fun hc1 => ?_)
    · have hc1 : ((((k + 1 : Nat) : Int)) : Int) ≤ 0 := hc1
      omega
    · have hc1 : ¬ (((((k + 1 : Nat) : Int)) : Int) ≤ 0) := hc1
      refine sP 2 (g1 := (22, [some (.ref 53), some (sI ((a : Int))), some (sI ((p : Int))), some (sI sm), some (sI ((o : Int))), some (sJ 0), none, some (sJ (((12 ^ j : Nat) : Int))), none, some (sI (((k + 1 : Nat) : Int))), none, none, none], [sJ 12, sJ (((12 ^ j : Nat) : Int))], h)) rfl ?_
      refine s_lmul (a := ((12 ^ j : Nat) : Int)) (b := 12) rfl rfl ?_
      refine sP 1 (g1 := (24, [some (.ref 53), some (sI ((a : Int))), some (sI ((p : Int))), some (sI sm), some (sI ((o : Int))), some (sJ 0), none, some (sJ ((((12 ^ j : Nat) : Int)) * 12)), none, some (sI (((k + 1 : Nat) : Int))), none, none, none], [], h)) rfl ?_
      refine s_inc (a := ((k + 1 : Nat) : Int)) (n := (-1)) (k := 9) rfl rfl rfl ?_
      refine sP 1 (g1 := (18, [some (.ref 53), some (sI ((a : Int))), some (sI ((p : Int))), some (sI sm), some (sI ((o : Int))), some (sJ 0), none, some (sJ ((((12 ^ j : Nat) : Int)) * 12)), none, some (sI ((((k + 1 : Nat) : Int)) + (-1))), none, none, none], [], h)) rfl ?_
      rw [show ((12 ^ j : Nat) : Int) * 12 = ((12 ^ (j + 1) : Nat) : Int) by rw [Nat.pow_succ, Int.natCast_mul]; rfl, show (((k + 1 : Nat) : Int) + (-1)) = (k : Int) by omega]
      exact r0
theorem fWeiP {n a p o s : Nat} {sm T B : Int} (hh : aHp h) (hn : hI h 58 0 = n) (ho : o < 64) (hs : s < 64) (hp : p ≤ 12) : ∀ (k b : Nat), b + k = n → ∀ r, (∀ V : Option Value, nRn sc (d + 3) (mMT mMe209) (mMC mMe209) (74, [some (.ref 53), some (sI ((a : Int))), some (sI ((p : Int))), some (sI sm), some (sI ((o : Int))), some (sJ T), none, some (sJ B), none, some (sI ((s : Int))), some (sJ (((wyN o s p n : Nat) : Int))), none, V], [], h) r) → nRn sc (d + 3) (mMT mMe209) (mMC mMe209) (46, [some (.ref 53), some (sI ((a : Int))), some (sI ((p : Int))), some (sI sm), some (sI ((o : Int))), some (sJ T), none, some (sJ B), none, some (sI ((s : Int))), some (sJ (((wyN o s p b : Nat) : Int))), none, some (sI ((b : Int)))], [], h) r := by
  have gp := hI_rg hh nw_p
  intro k
  induction k with
  | zero =>
    intro b hb r r1
    have hbn : b = n := by omega
    subst hbn
    refine sP 2 (g1 := (48, [some (.ref 53), some (sI ((a : Int))), some (sI ((p : Int))), some (sI sm), some (sI ((o : Int))), some (sJ T), none, some (sJ B), none, some (sI ((s : Int))), some (sJ (((wyN o s p b : Nat) : Int))), none, some (sI ((b : Int)))], [.ref 53, sI ((b : Int))], h)) rfl ?_
    refine s_get (a := 53) (j := 4) hh rfl ⟨_, rfl⟩ rfl rfl rfl (v := .ref 58) (hR_ok hh (by decide +kernel)) ?_
    refine sP 1 (g1 := (50, [some (.ref 53), some (sI ((a : Int))), some (sI ((p : Int))), some (sI sm), some (sI ((o : Int))), some (sJ T), none, some (sJ B), none, some (sI ((s : Int))), some (sJ (((wyN o s p b : Nat) : Int))), none, some (sI ((b : Int)))], [sI 0, .ref 58, sI ((b : Int))], h)) rfl ?_
    refine s_iald (a := 58) (n := 201) (j := 0) hh rfl rfl rfl (by omega) (by omega) (by decide) (v := sI ((b : Int))) (by have q := hI_ok hh nw_p; rw [hn] at q; exact q) ?_
    refine s_icmp (q := .ge) (a := (b : Int)) (b := (b : Int)) rfl ⟨_, rfl⟩ rfl (by unfold sR aMi aMa; omega) (by unfold sR aMi aMa; omega) (fun hc1 => ?_) (fun hc1 => ?_)
    · have hc1 : (((b : Int)) : Int) ≤ ((b : Int)) := hc1
      exact r1 _
    · have hc1 : ¬ ((((b : Int)) : Int) ≤ ((b : Int))) := hc1
      omega
  | succ k ih =>
    intro b hb r r1
    have b6 : b < 6 := by omega
    have e1 : wyN o s p (b + 1) = wyN o s p b * (if bt o b = true then (if bt s b = true then 12 - p else p) else 1) := rfl
    have r0 := ih (b + 1) (by omega) r r1
    have v1 := fHas (sc := sc) (d := d + 2) (h := h) (s := o) (a := b) ho b6
    have v2 := fHas (sc := sc) (d := d + 2) (h := h) (s := s) (a := b) hs b6
    by_cases c1 : bt o b = true
    · rw [if_pos c1] at v1
      by_cases c2 : bt s b = true
      · rw [if_pos c2] at v2
        rw [if_pos c1, if_pos c2] at e1
        refine sP 2 (g1 := (48, [some (.ref 53), some (sI ((a : Int))), some (sI ((p : Int))), some (sI sm), some (sI ((o : Int))), some (sJ T), none, some (sJ B), none, some (sI ((s : Int))), some (sJ (((wyN o s p b : Nat) : Int))), none, some (sI ((b : Int)))], [.ref 53, sI ((b : Int))], h)) rfl ?_
        refine s_get (a := 53) (j := 4) hh rfl ⟨_, rfl⟩ rfl rfl rfl (v := .ref 58) (hR_ok hh (by decide +kernel)) ?_
        refine sP 1 (g1 := (50, [some (.ref 53), some (sI ((a : Int))), some (sI ((p : Int))), some (sI sm), some (sI ((o : Int))), some (sJ T), none, some (sJ B), none, some (sI ((s : Int))), some (sJ (((wyN o s p b : Nat) : Int))), none, some (sI ((b : Int)))], [sI 0, .ref 58, sI ((b : Int))], h)) rfl ?_
        refine s_iald (a := 58) (n := 201) (j := 0) hh rfl rfl rfl (by omega) (by omega) (by decide) (v := sI ((n : Int))) (by have q := hI_ok hh nw_p; rw [hn] at q; exact q) ?_
        refine s_icmp (q := .ge) (a := (b : Int)) (b := (n : Int)) rfl ⟨_, rfl⟩ rfl (by unfold sR aMi aMa; omega) (by unfold sR aMi aMa; omega) (fun hc1 => ?_) (fun hc1 => ?_)
        · have hc1 : (((n : Int)) : Int) ≤ ((b : Int)) := hc1
          omega
        · have hc1 : ¬ ((((n : Int)) : Int) ≤ ((b : Int))) := hc1
          refine sP 3 (g1 := (55, [some (.ref 53), some (sI ((a : Int))), some (sI ((p : Int))), some (sI sm), some (sI ((o : Int))), some (sJ T), none, some (sJ B), none, some (sI ((s : Int))), some (sJ (((wyN o s p b : Nat) : Int))), none, some (sI ((b : Int)))], [sI ((b : Int)), sI ((o : Int)), sJ (((wyN o s p b : Nat) : Int))], h)) rfl ?_
          refine s_call (k := 149) (args := [sI ((o : Int)), sI ((b : Int))]) (st := [sJ (((wyN o s p b : Nat) : Int))]) (v := some (sI 1)) (h1 := h) rfl ⟨rfl, rfl⟩ rfl rfl rfl rfl rfl rfl v1 ?_
          refine s_ifc (q := .ne) (a := 1) rfl ⟨_, rfl⟩ rfl (by unfold sR aMi aMa; omega) (fun hc2 => ?_) (fun hc2 => ?_)
          · have hc2 : (1 : Int) ≠ 0 := hc2
            refine sP 2 (g1 := (61, [some (.ref 53), some (sI ((a : Int))), some (sI ((p : Int))), some (sI sm), some (sI ((o : Int))), some (sJ T), none, some (sJ B), none, some (sI ((s : Int))), some (sJ (((wyN o s p b : Nat) : Int))), none, some (sI ((b : Int)))], [sI ((b : Int)), sI ((s : Int)), sJ (((wyN o s p b : Nat) : Int))], h)) rfl ?_
            refine s_call (k := 149) (args := [sI ((s : Int)), sI ((b : Int))]) (st := [sJ (((wyN o s p b : Nat) : Int))]) (v := some (sI 1)) (h1 := h) rfl ⟨rfl, rfl⟩ rfl rfl rfl rfl rfl rfl v2 ?_
            refine s_ifc (q := .eq) (a := 1) rfl ⟨_, rfl⟩ rfl (by unfold sR aMi aMa; omega) (fun hc3 => ?_) (fun hc3 => ?_)
            · have hc3 : (1 : Int) = 0 := hc3
              omega
            · have hc3 : ¬ ((1 : Int) = 0) := hc3
              refine sP 2 (g1 := (65, [some (.ref 53), some (sI ((a : Int))), some (sI ((p : Int))), some (sI sm), some (sI ((o : Int))), some (sJ T), none, some (sJ B), none, some (sI ((s : Int))), some (sJ (((wyN o s p b : Nat) : Int))), none, some (sI ((b : Int)))], [sI ((p : Int)), sI 12, sJ (((wyN o s p b : Nat) : Int))], h)) rfl ?_
              refine s_sub (a := 12) (b := (p : Int)) rfl rfl ?_
              refine s_i2l (a := 12 - ((p : Int))) rfl rfl (by unfold sR aMi aMa; omega) ?_
              refine sP 1 (g1 := (70, [some (.ref 53), some (sI ((a : Int))), some (sI ((p : Int))), some (sI sm), some (sI ((o : Int))), some (sJ T), none, some (sJ B), none, some (sI ((s : Int))), some (sJ (((wyN o s p b : Nat) : Int))), none, some (sI ((b : Int)))], [sJ (12 - ((p : Int))), sJ (((wyN o s p b : Nat) : Int))], h)) rfl ?_
              refine s_lmul (a := ((wyN o s p b : Nat) : Int)) (b := 12 - ((p : Int))) rfl rfl ?_
              refine sP 1 (g1 := (72, [some (.ref 53), some (sI ((a : Int))), some (sI ((p : Int))), some (sI sm), some (sI ((o : Int))), some (sJ T), none, some (sJ B), none, some (sI ((s : Int))), some (sJ ((((wyN o s p b : Nat) : Int)) * (12 - ((p : Int))))), none, some (sI ((b : Int)))], [], h)) rfl ?_
              refine s_inc (a := (b : Int)) (n := 1) (k := 12) rfl rfl rfl ?_
              refine sP 1 (g1 := (46, [some (.ref 53), some (sI ((a : Int))), some (sI ((p : Int))), some (sI sm), some (sI ((o : Int))), some (sJ T), none, some (sJ B), none, some (sI ((s : Int))), some (sJ ((((wyN o s p b : Nat) : Int)) * (12 - ((p : Int))))), none, some (sI (((b : Int)) + 1))], [], h)) rfl ?_
              rw [show ((wyN o s p b : Nat) : Int) * (12 - (p : Int)) = ((wyN o s p (b + 1) : Nat) : Int) by rw [e1, Int.natCast_mul]; congr 1; omega, show ((b : Int) + 1) = ((b + 1 : Nat) : Int) by omega]
              exact r0
          · have hc2 : ¬ ((1 : Int) ≠ 0) := hc2
            omega
      · rw [if_neg c2] at v2
        rw [if_pos c1, if_neg c2] at e1
        refine sP 2 (g1 := (48, [some (.ref 53), some (sI ((a : Int))), some (sI ((p : Int))), some (sI sm), some (sI ((o : Int))), some (sJ T), none, some (sJ B), none, some (sI ((s : Int))), some (sJ (((wyN o s p b : Nat) : Int))), none, some (sI ((b : Int)))], [.ref 53, sI ((b : Int))], h)) rfl ?_
        refine s_get (a := 53) (j := 4) hh rfl ⟨_, rfl⟩ rfl rfl rfl (v := .ref 58) (hR_ok hh (by decide +kernel)) ?_
        refine sP 1 (g1 := (50, [some (.ref 53), some (sI ((a : Int))), some (sI ((p : Int))), some (sI sm), some (sI ((o : Int))), some (sJ T), none, some (sJ B), none, some (sI ((s : Int))), some (sJ (((wyN o s p b : Nat) : Int))), none, some (sI ((b : Int)))], [sI 0, .ref 58, sI ((b : Int))], h)) rfl ?_
        refine s_iald (a := 58) (n := 201) (j := 0) hh rfl rfl rfl (by omega) (by omega) (by decide) (v := sI ((n : Int))) (by have q := hI_ok hh nw_p; rw [hn] at q; exact q) ?_
        refine s_icmp (q := .ge) (a := (b : Int)) (b := (n : Int)) rfl ⟨_, rfl⟩ rfl (by unfold sR aMi aMa; omega) (by unfold sR aMi aMa; omega) (fun hc1 => ?_) (fun hc1 => ?_)
        · have hc1 : (((n : Int)) : Int) ≤ ((b : Int)) := hc1
          omega
        · have hc1 : ¬ ((((n : Int)) : Int) ≤ ((b : Int))) := hc1
          refine sP 3 (g1 := (55, [some (.ref 53), some (sI ((a : Int))), some (sI ((p : Int))), some (sI sm), some (sI ((o : Int))), some (sJ T), none, some (sJ B), none, some (sI ((s : Int))), some (sJ (((wyN o s p b : Nat) : Int))), none, some (sI ((b : Int)))], [sI ((b : Int)), sI ((o : Int)), sJ (((wyN o s p b : Nat) : Int))], h)) rfl ?_
          refine s_call (k := 149) (args := [sI ((o : Int)), sI ((b : Int))]) (st := [sJ (((wyN o s p b : Nat) : Int))]) (v := some (sI 1)) (h1 := h) rfl ⟨rfl, rfl⟩ rfl rfl rfl rfl rfl rfl v1 ?_
          refine s_ifc (q := .ne) (a := 1) rfl ⟨_, rfl⟩ rfl (by unfold sR aMi aMa; omega) (fun hc2 => ?_) (fun hc2 => ?_)
          · have hc2 : (1 : Int) ≠ 0 := hc2
            refine sP 2 (g1 := (61, [some (.ref 53), some (sI ((a : Int))), some (sI ((p : Int))), some (sI sm), some (sI ((o : Int))), some (sJ T), none, some (sJ B), none, some (sI ((s : Int))), some (sJ (((wyN o s p b : Nat) : Int))), none, some (sI ((b : Int)))], [sI ((b : Int)), sI ((s : Int)), sJ (((wyN o s p b : Nat) : Int))], h)) rfl ?_
            refine s_call (k := 149) (args := [sI ((s : Int)), sI ((b : Int))]) (st := [sJ (((wyN o s p b : Nat) : Int))]) (v := some (sI 0)) (h1 := h) rfl ⟨rfl, rfl⟩ rfl rfl rfl rfl rfl rfl v2 ?_
            refine s_ifc (q := .eq) (a := 0) rfl ⟨_, rfl⟩ rfl (by unfold sR aMi aMa; omega) (fun hc3 => ?_) (fun hc3 => ?_)
            · have hc3 : (0 : Int) = 0 := hc3
              refine sP 1 (g1 := (69, [some (.ref 53), some (sI ((a : Int))), some (sI ((p : Int))), some (sI sm), some (sI ((o : Int))), some (sJ T), none, some (sJ B), none, some (sI ((s : Int))), some (sJ (((wyN o s p b : Nat) : Int))), none, some (sI ((b : Int)))], [sI ((p : Int)), sJ (((wyN o s p b : Nat) : Int))], h)) rfl ?_
              refine s_i2l (a := (p : Int)) rfl rfl (by unfold sR aMi aMa; omega) ?_
              refine s_lmul (a := ((wyN o s p b : Nat) : Int)) (b := (p : Int)) rfl rfl ?_
              refine sP 1 (g1 := (72, [some (.ref 53), some (sI ((a : Int))), some (sI ((p : Int))), some (sI sm), some (sI ((o : Int))), some (sJ T), none, some (sJ B), none, some (sI ((s : Int))), some (sJ ((((wyN o s p b : Nat) : Int)) * ((p : Int)))), none, some (sI ((b : Int)))], [], h)) rfl ?_
              refine s_inc (a := (b : Int)) (n := 1) (k := 12) rfl rfl rfl ?_
              refine sP 1 (g1 := (46, [some (.ref 53), some (sI ((a : Int))), some (sI ((p : Int))), some (sI sm), some (sI ((o : Int))), some (sJ T), none, some (sJ B), none, some (sI ((s : Int))), some (sJ ((((wyN o s p b : Nat) : Int)) * ((p : Int)))), none, some (sI (((b : Int)) + 1))], [], h)) rfl ?_
              rw [show ((wyN o s p b : Nat) : Int) * (p : Int) = ((wyN o s p (b + 1) : Nat) : Int) by rw [e1, Int.natCast_mul], show ((b : Int) + 1) = ((b + 1 : Nat) : Int) by omega]
              exact r0
            · have hc3 : ¬ ((0 : Int) = 0) := hc3
              omega
          · have hc2 : ¬ ((1 : Int) ≠ 0) := hc2
            omega
    · rw [if_neg c1] at v1
      rw [if_neg c1] at e1
      refine sP 2 (g1 := (48, [some (.ref 53), some (sI ((a : Int))), some (sI ((p : Int))), some (sI sm), some (sI ((o : Int))), some (sJ T), none, some (sJ B), none, some (sI ((s : Int))), some (sJ (((wyN o s p b : Nat) : Int))), none, some (sI ((b : Int)))], [.ref 53, sI ((b : Int))], h)) rfl ?_
      refine s_get (a := 53) (j := 4) hh rfl ⟨_, rfl⟩ rfl rfl rfl (v := .ref 58) (hR_ok hh (by decide +kernel)) ?_
      refine sP 1 (g1 := (50, [some (.ref 53), some (sI ((a : Int))), some (sI ((p : Int))), some (sI sm), some (sI ((o : Int))), some (sJ T), none, some (sJ B), none, some (sI ((s : Int))), some (sJ (((wyN o s p b : Nat) : Int))), none, some (sI ((b : Int)))], [sI 0, .ref 58, sI ((b : Int))], h)) rfl ?_
      refine s_iald (a := 58) (n := 201) (j := 0) hh rfl rfl rfl (by omega) (by omega) (by decide) (v := sI ((n : Int))) (by have q := hI_ok hh nw_p; rw [hn] at q; exact q) ?_
      refine s_icmp (q := .ge) (a := (b : Int)) (b := (n : Int)) rfl ⟨_, rfl⟩ rfl (by unfold sR aMi aMa; omega) (by unfold sR aMi aMa; omega) (fun hc1 => ?_) (fun hc1 => ?_)
      · have hc1 : (((n : Int)) : Int) ≤ ((b : Int)) := hc1
        omega
      · have hc1 : ¬ ((((n : Int)) : Int) ≤ ((b : Int))) := hc1
        refine sP 3 (g1 := (55, [some (.ref 53), some (sI ((a : Int))), some (sI ((p : Int))), some (sI sm), some (sI ((o : Int))), some (sJ T), none, some (sJ B), none, some (sI ((s : Int))), some (sJ (((wyN o s p b : Nat) : Int))), none, some (sI ((b : Int)))], [sI ((b : Int)), sI ((o : Int)), sJ (((wyN o s p b : Nat) : Int))], h)) rfl ?_
        refine s_call (k := 149) (args := [sI ((o : Int)), sI ((b : Int))]) (st := [sJ (((wyN o s p b : Nat) : Int))]) (v := some (sI 0)) (h1 := h) rfl ⟨rfl, rfl⟩ rfl rfl rfl rfl rfl rfl v1 ?_
        refine s_ifc (q := .ne) (a := 0) rfl ⟨_, rfl⟩ rfl (by unfold sR aMi aMa; omega) (fun hc2 => ?_) (fun hc2 => ?_)
        · have hc2 : (0 : Int) ≠ 0 := hc2
          omega
        · have hc2 : ¬ ((0 : Int) ≠ 0) := hc2
          refine sP 2 (g1 := (70, [some (.ref 53), some (sI ((a : Int))), some (sI ((p : Int))), some (sI sm), some (sI ((o : Int))), some (sJ T), none, some (sJ B), none, some (sI ((s : Int))), some (sJ (((wyN o s p b : Nat) : Int))), none, some (sI ((b : Int)))], [sJ 1, sJ (((wyN o s p b : Nat) : Int))], h)) rfl ?_
          refine s_lmul (a := ((wyN o s p b : Nat) : Int)) (b := 1) rfl rfl ?_
          refine sP 1 (g1 := (72, [some (.ref 53), some (sI ((a : Int))), some (sI ((p : Int))), some (sI sm), some (sI ((o : Int))), some (sJ T), none, some (sJ B), none, some (sI ((s : Int))), some (sJ ((((wyN o s p b : Nat) : Int)) * 1)), none, some (sI ((b : Int)))], [], h)) rfl ?_
          refine s_inc (a := (b : Int)) (n := 1) (k := 12) rfl rfl rfl ?_
          refine sP 1 (g1 := (46, [some (.ref 53), some (sI ((a : Int))), some (sI ((p : Int))), some (sI sm), some (sI ((o : Int))), some (sJ T), none, some (sJ B), none, some (sI ((s : Int))), some (sJ ((((wyN o s p b : Nat) : Int)) * 1)), none, some (sI (((b : Int)) + 1))], [], h)) rfl ?_
          rw [show ((wyN o s p b : Nat) : Int) * 1 = ((wyN o s p (b + 1) : Nat) : Int) by rw [e1, Int.natCast_mul]; rfl, show ((b : Int) + 1) = ((b + 1 : Nat) : Int) by omega]
          exact r0
theorem fWeiMidL {n ka a o p q : Nat} {B : Int} (hh : aHp h) (hn : hI h 58 0 = n) (hq : 2 ^ n = q) (ha : a < 6) (hka : hI h 58 (1 + a) = ka) (ho : o < 64) (hp : p ≤ 12) : ∀ (c s : Nat) (X Y : Option Value), s + c = q → ∀ r, (∀ V X Y : Option Value, nRn sc (d + 3) (mMT mMe209) (mMC mMe209) (96, [some (.ref 53), some (sI ((a : Int))), some (sI ((p : Int))), some (sI 1), some (sI ((o : Int))), some (sJ (((tG (cFm (fun j => hI h 58 (7 + j)) n ka a 9) o p n q : Nat) : Int))), none, some (sJ B), none, V, X, none, Y], [], h) r) → nRn sc (d + 3) (mMT mMe209) (mMC mMe209) (28, [some (.ref 53), some (sI ((a : Int))), some (sI ((p : Int))), some (sI 1), some (sI ((o : Int))), some (sJ (((tG (cFm (fun j => hI h 58 (7 + j)) n ka a 9) o p n s : Nat) : Int))), none, some (sJ B), none, some (sI ((s : Int))), X, none, Y], [], h) r := by
  have gp := hI_rg hh nw_p
  have p2 := p2_le (show n ≤ 6 by omega)
  rw [hq] at p2
  intro c
  induction c with
  | zero =>
    intro s X Y hs r r1
    have hsq : s = q := by omega
    subst hsq
    refine sP 3 (g1 := (31, [some (.ref 53), some (sI ((a : Int))), some (sI ((p : Int))), some (sI 1), some (sI ((o : Int))), some (sJ (((tG (cFm (fun j => hI h 58 (7 + j)) n ka a 9) o p n s : Nat) : Int))), none, some (sJ B), none, some (sI ((s : Int))), X, none, Y], [.ref 53, sI 1, sI ((s : Int))], h)) rfl ?_
    refine s_get (a := 53) (j := 4) hh rfl ⟨_, rfl⟩ rfl rfl rfl (v := .ref 58) (hR_ok hh (by decide +kernel)) ?_
    refine sP 1 (g1 := (33, [some (.ref 53), some (sI ((a : Int))), some (sI ((p : Int))), some (sI 1), some (sI ((o : Int))), some (sJ (((tG (cFm (fun j => hI h 58 (7 + j)) n ka a 9) o p n s : Nat) : Int))), none, some (sJ B), none, some (sI ((s : Int))), X, none, Y], [sI 0, .ref 58, sI 1, sI ((s : Int))], h)) rfl ?_
    refine s_iald (a := 58) (n := 201) (j := 0) hh rfl rfl rfl (by omega) (by omega) (by decide) (v := sI ((n : Int))) (by have q := hI_ok hh nw_p; rw [hn] at q; exact q) ?_
    refine s_shl7 (a := n) rfl rfl (by omega) ?_
    rw [hq]
    refine s_icmp (q := .ge) (a := (s : Int)) (b := (s : Int)) rfl ⟨_, rfl⟩ rfl (by unfold sR aMi aMa; omega) (by unfold sR aMi aMa; omega) (fun hc1 => ?_) (fun hc1 => ?_)
    · have hc1 : (((s : Int)) : Int) ≤ ((s : Int)) := hc1
      exact r1 _ _ _
    · have hc1 : ¬ ((((s : Int)) : Int) ≤ ((s : Int))) := hc1
      omega
  | succ c ih =>
    intro s X Y hs r r1
    have s64 : s < 64 := by omega
    have sb := sbs_le s o
    by_cases hz : sbs s o = 0
    · have gk := hI_rg hh (nw_kd ha)
      have v9 : 0 ≤ pSeem (fun j => hI h 58 (7 + j)) n ka a s ∧ pSeem (fun j => hI h 58 (7 + j)) n ka a s ≤ 9 := pSe9 (n := n) (kd := ka) (s := s) (mGk hh) ha (by omega) (by omega)
      have ev := fSeemM (sc := sc) (d := d) hh hn ha s64 hka
      have e1 : tG (cFm (fun j => hI h 58 (7 + j)) n ka a 9) o p n (s + 1) = tG (cFm (fun j => hI h 58 (7 + j)) n ka a 9) o p n s + wyN o s p n * cFm (fun j => hI h 58 (7 + j)) n ka a 9 s := by
        show (if sbs s o = 0 then _ else _) = _
        rw [if_pos hz]
      have r0 := fun X Y => ih (s + 1) X Y (by omega) r r1
      have c9 := cFm_9 (G := fun j => hI h 58 (7 + j)) (n := n) (kd := ka) (a := a) (show (9 : Int) ≤ 9 by omega) s
      rw [show pSeem (fun j => hI h 58 (7 + j)) n ka a s = ((cFm (fun j => hI h 58 (7 + j)) n ka a 9 s : Nat) : Int) by unfold cFm; omega] at ev
      refine sP 3 (g1 := (31, [some (.ref 53), some (sI ((a : Int))), some (sI ((p : Int))), some (sI 1), some (sI ((o : Int))), some (sJ (((tG (cFm (fun j => hI h 58 (7 + j)) n ka a 9) o p n s : Nat) : Int))), none, some (sJ B), none, some (sI ((s : Int))), X, none, Y], [.ref 53, sI 1, sI ((s : Int))], h)) rfl ?_
      refine s_get (a := 53) (j := 4) hh rfl ⟨_, rfl⟩ rfl rfl rfl (v := .ref 58) (hR_ok hh (by decide +kernel)) ?_
      refine sP 1 (g1 := (33, [some (.ref 53), some (sI ((a : Int))), some (sI ((p : Int))), some (sI 1), some (sI ((o : Int))), some (sJ (((tG (cFm (fun j => hI h 58 (7 + j)) n ka a 9) o p n s : Nat) : Int))), none, some (sJ B), none, some (sI ((s : Int))), X, none, Y], [sI 0, .ref 58, sI 1, sI ((s : Int))], h)) rfl ?_
      refine s_iald (a := 58) (n := 201) (j := 0) hh rfl rfl rfl (by omega) (by omega) (by decide) (v := sI ((n : Int))) (by have q := hI_ok hh nw_p; rw [hn] at q; exact q) ?_
      refine s_shl7 (a := n) rfl rfl (by omega) ?_
      rw [hq]
      refine s_icmp (q := .ge) (a := (s : Int)) (b := (q : Int)) rfl ⟨_, rfl⟩ rfl (by unfold sR aMi aMa; omega) (by unfold sR aMi aMa; omega) (fun hc1 => ?_) (fun hc1 => ?_)
      · have hc1 : (((q : Int)) : Int) ≤ ((s : Int)) := hc1
        omega
      · have hc1 : ¬ ((((q : Int)) : Int) ≤ ((s : Int))) := hc1
        refine sP 3 (g1 := (39, [some (.ref 53), some (sI ((a : Int))), some (sI ((p : Int))), some (sI 1), some (sI ((o : Int))), some (sJ (((tG (cFm (fun j => hI h 58 (7 + j)) n ka a 9) o p n s : Nat) : Int))), none, some (sJ B), none, some (sI ((s : Int))), X, none, Y], [sI ((-1)), sI ((o : Int)), sI ((s : Int))], h)) rfl ?_
        refine s_b1 (w := Int32.ofInt (o : Int) ^^^ Int32.ofInt (-1)) rfl rfl rfl ?_
        refine s_b1 (w := Int32.ofInt ((sbs s o : Nat) : Int)) rfl rfl (b_sbs s (by omega) o (by omega)) ?_
        refine s_ifc (q := .ne) (a := ((sbs s o : Nat) : Int)) rfl ⟨_, rfl⟩ rfl (by unfold sR aMi aMa; omega) (fun hc2 => ?_) (fun hc2 => ?_)
        · have hc2 : ((((sbs s o : Nat) : Int)) : Int) ≠ 0 := hc2
          omega
        · have hc2 : ¬ (((((sbs s o : Nat) : Int)) : Int) ≠ 0) := hc2
          refine sP 4 (g1 := (46, [some (.ref 53), some (sI ((a : Int))), some (sI ((p : Int))), some (sI 1), some (sI ((o : Int))), some (sJ (((tG (cFm (fun j => hI h 58 (7 + j)) n ka a 9) o p n s : Nat) : Int))), none, some (sJ B), none, some (sI ((s : Int))), some (sJ 1), none, some (sI 0)], [], h)) rfl ?_
          refine fWeiP (sc := sc) (d := d) (o := o) (s := s) hh hn ho s64 hp n 0 (by omega) _ (fun V => ?_)
          refine sP 3 (g1 := (77, [some (.ref 53), some (sI ((a : Int))), some (sI ((p : Int))), some (sI 1), some (sI ((o : Int))), some (sJ (((tG (cFm (fun j => hI h 58 (7 + j)) n ka a 9) o p n s : Nat) : Int))), none, some (sJ B), none, some (sI ((s : Int))), some (sJ (((wyN o s p n : Nat) : Int))), none, V], [sI ((s : Int)), sI ((a : Int)), .ref 53], h)) rfl ?_
          refine s_call (k := 150) (args := [.ref 53, sI ((a : Int)), sI ((s : Int))]) (st := []) (v := some (sI (((cFm (fun j => hI h 58 (7 + j)) n ka a 9 s : Nat) : Int)))) (h1 := h) rfl ⟨rfl, rfl⟩ rfl rfl rfl rfl (sRcv hh (a := 53) rfl rfl) rfl ev ?_
          refine sP 4 (g1 := (82, [some (.ref 53), some (sI ((a : Int))), some (sI ((p : Int))), some (sI 1), some (sI ((o : Int))), some (sJ (((tG (cFm (fun j => hI h 58 (7 + j)) n ka a 9) o p n s : Nat) : Int))), none, some (sJ B), none, some (sI ((s : Int))), some (sJ (((wyN o s p n : Nat) : Int))), none, some (sI (((cFm (fun j => hI h 58 (7 + j)) n ka a 9 s : Nat) : Int)))], [sI 1, sJ (((wyN o s p n : Nat) : Int)), sJ (((tG (cFm (fun j => hI h 58 (7 + j)) n ka a 9) o p n s : Nat) : Int))], h)) rfl ?_
          refine s_ifc (q := .eq) (a := 1) rfl ⟨_, rfl⟩ rfl (by unfold sR aMi aMa; omega) (fun hc3 => ?_) (fun hc3 => ?_)
          · have hc3 : (1 : Int) = 0 := hc3
            omega
          · have hc3 : ¬ ((1 : Int) = 0) := hc3
            refine sP 2 (g1 := (90, [some (.ref 53), some (sI ((a : Int))), some (sI ((p : Int))), some (sI 1), some (sI ((o : Int))), some (sJ (((tG (cFm (fun j => hI h 58 (7 + j)) n ka a 9) o p n s : Nat) : Int))), none, some (sJ B), none, some (sI ((s : Int))), some (sJ (((wyN o s p n : Nat) : Int))), none, some (sI (((cFm (fun j => hI h 58 (7 + j)) n ka a 9 s : Nat) : Int)))], [sI (((cFm (fun j => hI h 58 (7 + j)) n ka a 9 s : Nat) : Int)), sJ (((wyN o s p n : Nat) : Int)), sJ (((tG (cFm (fun j => hI h 58 (7 + j)) n ka a 9) o p n s : Nat) : Int))], h)) rfl ?_
            refine s_i2l (a := ((cFm (fun j => hI h 58 (7 + j)) n ka a 9 s : Nat) : Int)) rfl rfl (by unfold sR aMi aMa; omega) ?_
            refine s_lmul (a := ((wyN o s p n : Nat) : Int)) (b := ((cFm (fun j => hI h 58 (7 + j)) n ka a 9 s : Nat) : Int)) rfl rfl ?_
            refine s_ladd (a := ((tG (cFm (fun j => hI h 58 (7 + j)) n ka a 9) o p n s : Nat) : Int)) (b := (((wyN o s p n : Nat) : Int)) * (((cFm (fun j => hI h 58 (7 + j)) n ka a 9 s : Nat) : Int))) rfl rfl ?_
            refine sP 1 (g1 := (94, [some (.ref 53), some (sI ((a : Int))), some (sI ((p : Int))), some (sI 1), some (sI ((o : Int))), some (sJ ((((tG (cFm (fun j => hI h 58 (7 + j)) n ka a 9) o p n s : Nat) : Int)) + ((((wyN o s p n : Nat) : Int)) * (((cFm (fun j => hI h 58 (7 + j)) n ka a 9 s : Nat) : Int))))), none, some (sJ B), none, some (sI ((s : Int))), some (sJ (((wyN o s p n : Nat) : Int))), none, some (sI (((cFm (fun j => hI h 58 (7 + j)) n ka a 9 s : Nat) : Int)))], [], h)) rfl ?_
            refine s_inc (a := (s : Int)) (n := 1) (k := 9) rfl rfl rfl ?_
            refine sP 1 (g1 := (28, [some (.ref 53), some (sI ((a : Int))), some (sI ((p : Int))), some (sI 1), some (sI ((o : Int))), some (sJ ((((tG (cFm (fun j => hI h 58 (7 + j)) n ka a 9) o p n s : Nat) : Int)) + ((((wyN o s p n : Nat) : Int)) * (((cFm (fun j => hI h 58 (7 + j)) n ka a 9 s : Nat) : Int))))), none, some (sJ B), none, some (sI (((s : Int)) + 1)), some (sJ (((wyN o s p n : Nat) : Int))), none, some (sI (((cFm (fun j => hI h 58 (7 + j)) n ka a 9 s : Nat) : Int)))], [], h)) rfl ?_
            rw [show ((((tG (cFm (fun j => hI h 58 (7 + j)) n ka a 9) o p n s : Nat) : Int)) + ((((wyN o s p n : Nat) : Int)) * (((cFm (fun j => hI h 58 (7 + j)) n ka a 9 s : Nat) : Int))) : Int) = ((tG (cFm (fun j => hI h 58 (7 + j)) n ka a 9) o p n (s + 1) : Nat) : Int) by rw [e1, Int.natCast_add, Int.natCast_mul], show ((s : Int) + 1) = ((s + 1 : Nat) : Int) by omega]
            exact r0 _ _
    · have e1 : tG (cFm (fun j => hI h 58 (7 + j)) n ka a 9) o p n (s + 1) = tG (cFm (fun j => hI h 58 (7 + j)) n ka a 9) o p n s := by
        show (if sbs s o = 0 then _ else _) = _
        rw [if_neg hz]
      have r0 := ih (s + 1) X Y (by omega) r r1
      rw [e1] at r0
      refine sP 3 (g1 := (31, [some (.ref 53), some (sI ((a : Int))), some (sI ((p : Int))), some (sI 1), some (sI ((o : Int))), some (sJ (((tG (cFm (fun j => hI h 58 (7 + j)) n ka a 9) o p n s : Nat) : Int))), none, some (sJ B), none, some (sI ((s : Int))), X, none, Y], [.ref 53, sI 1, sI ((s : Int))], h)) rfl ?_
      refine s_get (a := 53) (j := 4) hh rfl ⟨_, rfl⟩ rfl rfl rfl (v := .ref 58) (hR_ok hh (by decide +kernel)) ?_
      refine sP 1 (g1 := (33, [some (.ref 53), some (sI ((a : Int))), some (sI ((p : Int))), some (sI 1), some (sI ((o : Int))), some (sJ (((tG (cFm (fun j => hI h 58 (7 + j)) n ka a 9) o p n s : Nat) : Int))), none, some (sJ B), none, some (sI ((s : Int))), X, none, Y], [sI 0, .ref 58, sI 1, sI ((s : Int))], h)) rfl ?_
      refine s_iald (a := 58) (n := 201) (j := 0) hh rfl rfl rfl (by omega) (by omega) (by decide) (v := sI ((n : Int))) (by have q := hI_ok hh nw_p; rw [hn] at q; exact q) ?_
      refine s_shl7 (a := n) rfl rfl (by omega) ?_
      rw [hq]
      refine s_icmp (q := .ge) (a := (s : Int)) (b := (q : Int)) rfl ⟨_, rfl⟩ rfl (by unfold sR aMi aMa; omega) (by unfold sR aMi aMa; omega) (fun hc1 => ?_) (fun hc1 => ?_)
      · have hc1 : (((q : Int)) : Int) ≤ ((s : Int)) := hc1
        omega
      · have hc1 : ¬ ((((q : Int)) : Int) ≤ ((s : Int))) := hc1
        refine sP 3 (g1 := (39, [some (.ref 53), some (sI ((a : Int))), some (sI ((p : Int))), some (sI 1), some (sI ((o : Int))), some (sJ (((tG (cFm (fun j => hI h 58 (7 + j)) n ka a 9) o p n s : Nat) : Int))), none, some (sJ B), none, some (sI ((s : Int))), X, none, Y], [sI ((-1)), sI ((o : Int)), sI ((s : Int))], h)) rfl ?_
        refine s_b1 (w := Int32.ofInt (o : Int) ^^^ Int32.ofInt (-1)) rfl rfl rfl ?_
        refine s_b1 (w := Int32.ofInt ((sbs s o : Nat) : Int)) rfl rfl (b_sbs s (by omega) o (by omega)) ?_
        refine s_ifc (q := .ne) (a := ((sbs s o : Nat) : Int)) rfl ⟨_, rfl⟩ rfl (by unfold sR aMi aMa; omega) (fun hc2 => ?_) (fun hc2 => ?_)
        · have hc2 : ((((sbs s o : Nat) : Int)) : Int) ≠ 0 := hc2
          refine s_inc (a := (s : Int)) (n := 1) (k := 9) rfl rfl rfl ?_
          refine sP 1 (g1 := (28, [some (.ref 53), some (sI ((a : Int))), some (sI ((p : Int))), some (sI 1), some (sI ((o : Int))), some (sJ (((tG (cFm (fun j => hI h 58 (7 + j)) n ka a 9) o p n s : Nat) : Int))), none, some (sJ B), none, some (sI (((s : Int)) + 1)), X, none, Y], [], h)) rfl ?_
          rw [show ((s : Int) + 1) = ((s + 1 : Nat) : Int) by omega]
          exact r0
        · have hc2 : ¬ (((((sbs s o : Nat) : Int)) : Int) ≠ 0) := hc2
          omega
theorem fWeighMidM {n ka a u p : Nat} (hh : aHp h) (hn : hI h 58 0 = n) (ha : a < 6) (hka : hI h 58 (1 + a) = ka) (hu : hI h 58 43 = (u : Int)) (hu2 : u < 2 ^ n) (hp : p ≤ 12) : ∃ g, nEv sc (d + 4) 209 [.ref 53, sI (a : Int), sI (p : Int), sI 1] h (some (sI 1), g) ∧ aHp g ∧ ∀ x y, aSlot g x y = if x = 53 ∧ y = 10 then some (sJ ((12 ^ pcn (bwo u a) / Nat.gcd (tF (cFm (fun j => hI h 58 (7 + j)) n ka a 9) (bwo u a) p 64) (12 ^ pcn (bwo u a)) : Nat) : Int)) else if x = 53 ∧ y = 9 then some (sJ ((tF (cFm (fun j => hI h 58 (7 + j)) n ka a 9) (bwo u a) p 64 / Nat.gcd (tF (cFm (fun j => hI h 58 (7 + j)) n ka a 9) (bwo u a) p 64) (12 ^ pcn (bwo u a)) : Nat) : Int)) else aSlot h x y := by
  have gp := hI_rg hh nw_p
  have gu := hI_rg hh nw_u
  have ho := bwo_lt u (by omega) a ha
  have ho2 : bwo u a < 2 ^ n := by
    have q : bwo u a ≤ u := by
      unfold bwo
      split
      · exact Nat.sub_le _ _
      · exact Nat.le_refl _
    omega
  have p2 := p2_le (show n ≤ 6 by omega)
  have eq : tG (cFm (fun j => hI h 58 (7 + j)) n ka a 9) (bwo u a) p n (2 ^ n) = tF (cFm (fun j => hI h 58 (7 + j)) n ka a 9) (bwo u a) p 64 := (tG_eq (by omega) ho2 (2 ^ n) (Nat.le_refl _)).trans (tF_st (by omega) ho2 64 p2.2 (Nat.le_refl _)).symm
  have hl := tF_le (o := bwo u a) (F := cFm (fun j => hI h 58 (7 + j)) n ka a 9) (fun s => cFm_9 (by omega) s) hp 64
  have hb := pw12 (Nat.le_refl 12) (pcn_le (bwo u a))
  have hb0 : 0 < 12 ^ pcn (bwo u a) := Nat.pow_pos (by decide)
  have pl := pcn_le (bwo u a)
  obtain ⟨g, eg, hg, sg⟩ := fFracM (sc := sc) (d := d + 2) (A := tF (cFm (fun j => hI h 58 (7 + j)) n ka a 9) (bwo u a) p 64) (B := 12 ^ pcn (bwo u a)) hh hb0 (by omega) (by omega)
  have key := fun (V : Option Value) r => fWeiMidL (sc := sc) (d := d) (o := bwo u a) (B := ((12 ^ pcn (bwo u a) : Nat) : Int)) hh hn rfl ha hka ho hp (2 ^ n) 0 none none (by omega) r
  rw [eq] at key
  have kb := fun r => fWeiB (sc := sc) (d := d) (h := h) (a := a) (p := p) (o := bwo u a) (sm := 1) pl (pcn (bwo u a)) 0 (by omega) r
  have bM := fBitsM (sc := sc) (d := d + 2) (h := h) ho
  refine ⟨g, ?_, hg, sg⟩
  generalize hT : tF (cFm (fun j => hI h 58 (7 + j)) n ka a 9) (bwo u a) p 64 = T at *
  have r1 : ∀ V X Y : Option Value, nRn sc (d + 3) (mMT mMe209) (mMC mMe209) (96, [some (.ref 53), some (sI ((a : Int))), some (sI ((p : Int))), some (sI 1), some (sI (((bwo u a : Nat) : Int))), some (sJ ((T : Int))), none, some (sJ (((12 ^ pcn (bwo u a) : Nat) : Int))), none, V, X, none, Y], [], h) (some (sI 1), g) := by
    intro V X Y
    refine sP 3 (g1 := (99, [some (.ref 53), some (sI ((a : Int))), some (sI ((p : Int))), some (sI 1), some (sI (((bwo u a : Nat) : Int))), some (sJ ((T : Int))), none, some (sJ (((12 ^ pcn (bwo u a) : Nat) : Int))), none, V, X, none, Y], [sJ (((12 ^ pcn (bwo u a) : Nat) : Int)), sJ ((T : Int)), .ref 53], h)) rfl ?_
    refine s_call (k := 210) (args := [.ref 53, sJ ((T : Int)), sJ (((12 ^ pcn (bwo u a) : Nat) : Int))]) (st := []) (v := some (sI 1)) (h1 := g) rfl ⟨rfl, rfl⟩ rfl rfl rfl rfl (sRcv hh (a := 53) rfl rfl) rfl eg ?_
    exact s_reti rfl rfl (Or.inl rfl) rfl rfl
  refine nEv_of (t := mMe209) rfl ?_
  show nRn sc (d + 3) (mMT mMe209) (mMC mMe209) (0, [some (.ref 53), some (sI ((a : Int))), some (sI ((p : Int))), some (sI 1), none, none, none, none, none, none, none, none, none], [], h) _
  refine sP 1 (g1 := (1, [some (.ref 53), some (sI ((a : Int))), some (sI ((p : Int))), some (sI 1), none, none, none, none, none, none, none, none, none], [.ref 53], h)) rfl ?_
  refine s_get (a := 53) (j := 4) hh rfl ⟨_, rfl⟩ rfl rfl rfl (v := .ref 58) (hR_ok hh (by decide +kernel)) ?_
  refine sP 1 (g1 := (3, [some (.ref 53), some (sI ((a : Int))), some (sI ((p : Int))), some (sI 1), none, none, none, none, none, none, none, none, none], [sI 43, .ref 58], h)) rfl ?_
  refine s_iald (a := 58) (n := 201) (j := 43) hh rfl rfl rfl (by omega) (by omega) (by decide) (v := sI ((u : Int))) (by have q := hI_ok hh nw_u; rw [hu] at q; exact q) ?_
  refine sP 2 (g1 := (6, [some (.ref 53), some (sI ((a : Int))), some (sI ((p : Int))), some (sI 1), none, none, none, none, none, none, none, none, none], [sI ((a : Int)), sI 1, sI ((u : Int))], h)) rfl ?_
  refine s_shl (a := a) rfl rfl (by omega) ?_
  refine sP 1 (g1 := (8, [some (.ref 53), some (sI ((a : Int))), some (sI ((p : Int))), some (sI 1), none, none, none, none, none, none, none, none, none], [sI ((-1)), sI (((2 ^ a : Nat) : Int)), sI ((u : Int))], h)) rfl ?_
  refine s_not (a := a) rfl rfl (by omega) ?_
  refine s_wo (s := u) (a := a) rfl rfl (by omega) (by omega) ?_
  refine sP 6 (g1 := (16, [some (.ref 53), some (sI ((a : Int))), some (sI ((p : Int))), some (sI 1), some (sI (((bwo u a : Nat) : Int))), some (sJ 0), none, some (sJ 1), none, none, none, none, none], [sI (((bwo u a : Nat) : Int))], h)) rfl ?_
  refine s_call (k := 166) (args := [sI (((bwo u a : Nat) : Int))]) (st := []) (v := some (sI (((pcn (bwo u a) : Nat) : Int)))) (h1 := h) rfl ⟨rfl, rfl⟩ rfl rfl rfl rfl rfl rfl bM ?_
  refine sP 1 (g1 := (18, [some (.ref 53), some (sI ((a : Int))), some (sI ((p : Int))), some (sI 1), some (sI (((bwo u a : Nat) : Int))), some (sJ 0), none, some (sJ 1), none, some (sI (((pcn (bwo u a) : Nat) : Int))), none, none, none], [], h)) rfl ?_
  refine kb _ (fun V => ?_)
  refine sP 2 (g1 := (28, [some (.ref 53), some (sI ((a : Int))), some (sI ((p : Int))), some (sI 1), some (sI (((bwo u a : Nat) : Int))), some (sJ 0), none, some (sJ (((12 ^ pcn (bwo u a) : Nat) : Int))), none, some (sI 0), none, none, none], [], h)) rfl ?_
  exact key none _ r1
theorem fWeiOddsL {n ka a o p q : Nat} {B : Int} (hh : aHp h) (hn : hI h 58 0 = n) (hq : 2 ^ n = q) (ha : a < 6) (hka : hI h 58 (1 + a) = ka) (ho : o < 64) (hp : p ≤ 12) : ∀ (c s : Nat) (X Y : Option Value), s + c = q → ∀ r, (∀ V X Y : Option Value, nRn sc (d + 3) (mMT mMe209) (mMC mMe209) (96, [some (.ref 53), some (sI ((a : Int))), some (sI ((p : Int))), some (sI 0), some (sI ((o : Int))), some (sJ (((tG (cFm (fun j => hI h 58 (7 + j)) n ka a 1) o p n q : Nat) : Int))), none, some (sJ B), none, V, X, none, Y], [], h) r) → nRn sc (d + 3) (mMT mMe209) (mMC mMe209) (28, [some (.ref 53), some (sI ((a : Int))), some (sI ((p : Int))), some (sI 0), some (sI ((o : Int))), some (sJ (((tG (cFm (fun j => hI h 58 (7 + j)) n ka a 1) o p n s : Nat) : Int))), none, some (sJ B), none, some (sI ((s : Int))), X, none, Y], [], h) r := by
  have gp := hI_rg hh nw_p
  have p2 := p2_le (show n ≤ 6 by omega)
  rw [hq] at p2
  intro c
  induction c with
  | zero =>
    intro s X Y hs r r1
    have hsq : s = q := by omega
    subst hsq
    refine sP 3 (g1 := (31, [some (.ref 53), some (sI ((a : Int))), some (sI ((p : Int))), some (sI 0), some (sI ((o : Int))), some (sJ (((tG (cFm (fun j => hI h 58 (7 + j)) n ka a 1) o p n s : Nat) : Int))), none, some (sJ B), none, some (sI ((s : Int))), X, none, Y], [.ref 53, sI 1, sI ((s : Int))], h)) rfl ?_
    refine s_get (a := 53) (j := 4) hh rfl ⟨_, rfl⟩ rfl rfl rfl (v := .ref 58) (hR_ok hh (by decide +kernel)) ?_
    refine sP 1 (g1 := (33, [some (.ref 53), some (sI ((a : Int))), some (sI ((p : Int))), some (sI 0), some (sI ((o : Int))), some (sJ (((tG (cFm (fun j => hI h 58 (7 + j)) n ka a 1) o p n s : Nat) : Int))), none, some (sJ B), none, some (sI ((s : Int))), X, none, Y], [sI 0, .ref 58, sI 1, sI ((s : Int))], h)) rfl ?_
    refine s_iald (a := 58) (n := 201) (j := 0) hh rfl rfl rfl (by omega) (by omega) (by decide) (v := sI ((n : Int))) (by have q := hI_ok hh nw_p; rw [hn] at q; exact q) ?_
    refine s_shl7 (a := n) rfl rfl (by omega) ?_
    rw [hq]
    refine s_icmp (q := .ge) (a := (s : Int)) (b := (s : Int)) rfl ⟨_, rfl⟩ rfl (by unfold sR aMi aMa; omega) (by unfold sR aMi aMa; omega) (fun hc1 => ?_) (fun hc1 => ?_)
    · have hc1 : (((s : Int)) : Int) ≤ ((s : Int)) := hc1
      exact r1 _ _ _
    · have hc1 : ¬ ((((s : Int)) : Int) ≤ ((s : Int))) := hc1
      omega
  | succ c ih =>
    intro s X Y hs r r1
    have s64 : s < 64 := by omega
    have sb := sbs_le s o
    by_cases hz : sbs s o = 0
    · have gk := hI_rg hh (nw_kd ha)
      have v9 : 0 ≤ pSeem (fun j => hI h 58 (7 + j)) n ka a s ∧ pSeem (fun j => hI h 58 (7 + j)) n ka a s ≤ 9 := pSe9 (n := n) (kd := ka) (s := s) (mGk hh) ha (by omega) (by omega)
      have ev := fSeemM (sc := sc) (d := d) hh hn ha s64 hka
      have e1 : tG (cFm (fun j => hI h 58 (7 + j)) n ka a 1) o p n (s + 1) = tG (cFm (fun j => hI h 58 (7 + j)) n ka a 1) o p n s + wyN o s p n * cFm (fun j => hI h 58 (7 + j)) n ka a 1 s := by
        show (if sbs s o = 0 then _ else _) = _
        rw [if_pos hz]
      have r0 := fun X Y => ih (s + 1) X Y (by omega) r r1
      have c9 := cFm_9 (G := fun j => hI h 58 (7 + j)) (n := n) (kd := ka) (a := a) (show (1 : Int) ≤ 9 by omega) s
      refine sP 3 (g1 := (31, [some (.ref 53), some (sI ((a : Int))), some (sI ((p : Int))), some (sI 0), some (sI ((o : Int))), some (sJ (((tG (cFm (fun j => hI h 58 (7 + j)) n ka a 1) o p n s : Nat) : Int))), none, some (sJ B), none, some (sI ((s : Int))), X, none, Y], [.ref 53, sI 1, sI ((s : Int))], h)) rfl ?_
      refine s_get (a := 53) (j := 4) hh rfl ⟨_, rfl⟩ rfl rfl rfl (v := .ref 58) (hR_ok hh (by decide +kernel)) ?_
      refine sP 1 (g1 := (33, [some (.ref 53), some (sI ((a : Int))), some (sI ((p : Int))), some (sI 0), some (sI ((o : Int))), some (sJ (((tG (cFm (fun j => hI h 58 (7 + j)) n ka a 1) o p n s : Nat) : Int))), none, some (sJ B), none, some (sI ((s : Int))), X, none, Y], [sI 0, .ref 58, sI 1, sI ((s : Int))], h)) rfl ?_
      refine s_iald (a := 58) (n := 201) (j := 0) hh rfl rfl rfl (by omega) (by omega) (by decide) (v := sI ((n : Int))) (by have q := hI_ok hh nw_p; rw [hn] at q; exact q) ?_
      refine s_shl7 (a := n) rfl rfl (by omega) ?_
      rw [hq]
      refine s_icmp (q := .ge) (a := (s : Int)) (b := (q : Int)) rfl ⟨_, rfl⟩ rfl (by unfold sR aMi aMa; omega) (by unfold sR aMi aMa; omega) (fun hc1 => ?_) (fun hc1 => ?_)
      · have hc1 : (((q : Int)) : Int) ≤ ((s : Int)) := hc1
        omega
      · have hc1 : ¬ ((((q : Int)) : Int) ≤ ((s : Int))) := hc1
        refine sP 3 (g1 := (39, [some (.ref 53), some (sI ((a : Int))), some (sI ((p : Int))), some (sI 0), some (sI ((o : Int))), some (sJ (((tG (cFm (fun j => hI h 58 (7 + j)) n ka a 1) o p n s : Nat) : Int))), none, some (sJ B), none, some (sI ((s : Int))), X, none, Y], [sI ((-1)), sI ((o : Int)), sI ((s : Int))], h)) rfl ?_
        refine s_b1 (w := Int32.ofInt (o : Int) ^^^ Int32.ofInt (-1)) rfl rfl rfl ?_
        refine s_b1 (w := Int32.ofInt ((sbs s o : Nat) : Int)) rfl rfl (b_sbs s (by omega) o (by omega)) ?_
        refine s_ifc (q := .ne) (a := ((sbs s o : Nat) : Int)) rfl ⟨_, rfl⟩ rfl (by unfold sR aMi aMa; omega) (fun hc2 => ?_) (fun hc2 => ?_)
        · have hc2 : ((((sbs s o : Nat) : Int)) : Int) ≠ 0 := hc2
          omega
        · have hc2 : ¬ (((((sbs s o : Nat) : Int)) : Int) ≠ 0) := hc2
          refine sP 4 (g1 := (46, [some (.ref 53), some (sI ((a : Int))), some (sI ((p : Int))), some (sI 0), some (sI ((o : Int))), some (sJ (((tG (cFm (fun j => hI h 58 (7 + j)) n ka a 1) o p n s : Nat) : Int))), none, some (sJ B), none, some (sI ((s : Int))), some (sJ 1), none, some (sI 0)], [], h)) rfl ?_
          refine fWeiP (sc := sc) (d := d) (o := o) (s := s) hh hn ho s64 hp n 0 (by omega) _ (fun V => ?_)
          refine sP 3 (g1 := (77, [some (.ref 53), some (sI ((a : Int))), some (sI ((p : Int))), some (sI 0), some (sI ((o : Int))), some (sJ (((tG (cFm (fun j => hI h 58 (7 + j)) n ka a 1) o p n s : Nat) : Int))), none, some (sJ B), none, some (sI ((s : Int))), some (sJ (((wyN o s p n : Nat) : Int))), none, V], [sI ((s : Int)), sI ((a : Int)), .ref 53], h)) rfl ?_
          refine s_call (k := 150) (args := [.ref 53, sI ((a : Int)), sI ((s : Int))]) (st := []) (v := some (sI (pSeem (fun j => hI h 58 (7 + j)) n ka a s))) (h1 := h) rfl ⟨rfl, rfl⟩ rfl rfl rfl rfl (sRcv hh (a := 53) rfl rfl) rfl ev ?_
          refine sP 4 (g1 := (82, [some (.ref 53), some (sI ((a : Int))), some (sI ((p : Int))), some (sI 0), some (sI ((o : Int))), some (sJ (((tG (cFm (fun j => hI h 58 (7 + j)) n ka a 1) o p n s : Nat) : Int))), none, some (sJ B), none, some (sI ((s : Int))), some (sJ (((wyN o s p n : Nat) : Int))), none, some (sI (pSeem (fun j => hI h 58 (7 + j)) n ka a s))], [sI 0, sJ (((wyN o s p n : Nat) : Int)), sJ (((tG (cFm (fun j => hI h 58 (7 + j)) n ka a 1) o p n s : Nat) : Int))], h)) rfl ?_
          refine s_ifc (q := .eq) (a := 0) rfl ⟨_, rfl⟩ rfl (by unfold sR aMi aMa; omega) (fun hc3 => ?_) (fun hc3 => ?_)
          · have hc3 : (0 : Int) = 0 := hc3
            refine sP 1 (g1 := (86, [some (.ref 53), some (sI ((a : Int))), some (sI ((p : Int))), some (sI 0), some (sI ((o : Int))), some (sJ (((tG (cFm (fun j => hI h 58 (7 + j)) n ka a 1) o p n s : Nat) : Int))), none, some (sJ B), none, some (sI ((s : Int))), some (sJ (((wyN o s p n : Nat) : Int))), none, some (sI (pSeem (fun j => hI h 58 (7 + j)) n ka a s))], [sI (pSeem (fun j => hI h 58 (7 + j)) n ka a s), sJ (((wyN o s p n : Nat) : Int)), sJ (((tG (cFm (fun j => hI h 58 (7 + j)) n ka a 1) o p n s : Nat) : Int))], h)) rfl ?_
            refine s_ifc (q := .le) (a := pSeem (fun j => hI h 58 (7 + j)) n ka a s) rfl ⟨_, rfl⟩ rfl (by unfold sR aMi aMa; omega) (fun hc4 => ?_) (fun hc4 => ?_)
            · have hc4 : ((pSeem (fun j => hI h 58 (7 + j)) n ka a s) : Int) ≤ 0 := hc4
              refine sP 1 (g1 := (90, [some (.ref 53), some (sI ((a : Int))), some (sI ((p : Int))), some (sI 0), some (sI ((o : Int))), some (sJ (((tG (cFm (fun j => hI h 58 (7 + j)) n ka a 1) o p n s : Nat) : Int))), none, some (sJ B), none, some (sI ((s : Int))), some (sJ (((wyN o s p n : Nat) : Int))), none, some (sI (pSeem (fun j => hI h 58 (7 + j)) n ka a s))], [sI 0, sJ (((wyN o s p n : Nat) : Int)), sJ (((tG (cFm (fun j => hI h 58 (7 + j)) n ka a 1) o p n s : Nat) : Int))], h)) rfl ?_
              refine s_i2l (a := 0) rfl rfl (by unfold sR aMi aMa; omega) ?_
              refine s_lmul (a := ((wyN o s p n : Nat) : Int)) (b := 0) rfl rfl ?_
              refine s_ladd (a := ((tG (cFm (fun j => hI h 58 (7 + j)) n ka a 1) o p n s : Nat) : Int)) (b := (((wyN o s p n : Nat) : Int)) * 0) rfl rfl ?_
              refine sP 1 (g1 := (94, [some (.ref 53), some (sI ((a : Int))), some (sI ((p : Int))), some (sI 0), some (sI ((o : Int))), some (sJ ((((tG (cFm (fun j => hI h 58 (7 + j)) n ka a 1) o p n s : Nat) : Int)) + ((((wyN o s p n : Nat) : Int)) * 0))), none, some (sJ B), none, some (sI ((s : Int))), some (sJ (((wyN o s p n : Nat) : Int))), none, some (sI (pSeem (fun j => hI h 58 (7 + j)) n ka a s))], [], h)) rfl ?_
              refine s_inc (a := (s : Int)) (n := 1) (k := 9) rfl rfl rfl ?_
              refine sP 1 (g1 := (28, [some (.ref 53), some (sI ((a : Int))), some (sI ((p : Int))), some (sI 0), some (sI ((o : Int))), some (sJ ((((tG (cFm (fun j => hI h 58 (7 + j)) n ka a 1) o p n s : Nat) : Int)) + ((((wyN o s p n : Nat) : Int)) * 0))), none, some (sJ B), none, some (sI (((s : Int)) + 1)), some (sJ (((wyN o s p n : Nat) : Int))), none, some (sI (pSeem (fun j => hI h 58 (7 + j)) n ka a s))], [], h)) rfl ?_
              have eF : cFm (fun j => hI h 58 (7 + j)) n ka a 1 s = 0 := by unfold cFm; omega
              rw [eF] at e1
              rw [show ((((tG (cFm (fun j => hI h 58 (7 + j)) n ka a 1) o p n s : Nat) : Int)) + ((((wyN o s p n : Nat) : Int)) * 0) : Int) = ((tG (cFm (fun j => hI h 58 (7 + j)) n ka a 1) o p n (s + 1) : Nat) : Int) by rw [e1, Int.natCast_add, Int.natCast_mul]; rfl, show ((s : Int) + 1) = ((s + 1 : Nat) : Int) by omega]
              exact r0 _ _
            · have hc4 : ¬ (((pSeem (fun j => hI h 58 (7 + j)) n ka a s) : Int) ≤ 0) := hc4
              refine sP 2 (g1 := (90, [some (.ref 53), some (sI ((a : Int))), some (sI ((p : Int))), some (sI 0), some (sI ((o : Int))), some (sJ (((tG (cFm (fun j => hI h 58 (7 + j)) n ka a 1) o p n s : Nat) : Int))), none, some (sJ B), none, some (sI ((s : Int))), some (sJ (((wyN o s p n : Nat) : Int))), none, some (sI (pSeem (fun j => hI h 58 (7 + j)) n ka a s))], [sI 1, sJ (((wyN o s p n : Nat) : Int)), sJ (((tG (cFm (fun j => hI h 58 (7 + j)) n ka a 1) o p n s : Nat) : Int))], h)) rfl ?_
              refine s_i2l (a := 1) rfl rfl (by unfold sR aMi aMa; omega) ?_
              refine s_lmul (a := ((wyN o s p n : Nat) : Int)) (b := 1) rfl rfl ?_
              refine s_ladd (a := ((tG (cFm (fun j => hI h 58 (7 + j)) n ka a 1) o p n s : Nat) : Int)) (b := (((wyN o s p n : Nat) : Int)) * 1) rfl rfl ?_
              refine sP 1 (g1 := (94, [some (.ref 53), some (sI ((a : Int))), some (sI ((p : Int))), some (sI 0), some (sI ((o : Int))), some (sJ ((((tG (cFm (fun j => hI h 58 (7 + j)) n ka a 1) o p n s : Nat) : Int)) + ((((wyN o s p n : Nat) : Int)) * 1))), none, some (sJ B), none, some (sI ((s : Int))), some (sJ (((wyN o s p n : Nat) : Int))), none, some (sI (pSeem (fun j => hI h 58 (7 + j)) n ka a s))], [], h)) rfl ?_
              refine s_inc (a := (s : Int)) (n := 1) (k := 9) rfl rfl rfl ?_
              refine sP 1 (g1 := (28, [some (.ref 53), some (sI ((a : Int))), some (sI ((p : Int))), some (sI 0), some (sI ((o : Int))), some (sJ ((((tG (cFm (fun j => hI h 58 (7 + j)) n ka a 1) o p n s : Nat) : Int)) + ((((wyN o s p n : Nat) : Int)) * 1))), none, some (sJ B), none, some (sI (((s : Int)) + 1)), some (sJ (((wyN o s p n : Nat) : Int))), none, some (sI (pSeem (fun j => hI h 58 (7 + j)) n ka a s))], [], h)) rfl ?_
              have eF : cFm (fun j => hI h 58 (7 + j)) n ka a 1 s = 1 := by unfold cFm; omega
              rw [eF] at e1
              rw [show ((((tG (cFm (fun j => hI h 58 (7 + j)) n ka a 1) o p n s : Nat) : Int)) + ((((wyN o s p n : Nat) : Int)) * 1) : Int) = ((tG (cFm (fun j => hI h 58 (7 + j)) n ka a 1) o p n (s + 1) : Nat) : Int) by rw [e1, Int.natCast_add, Int.natCast_mul]; rfl, show ((s : Int) + 1) = ((s + 1 : Nat) : Int) by omega]
              exact r0 _ _
          · have hc3 : ¬ ((0 : Int) = 0) := hc3
            omega
    · have e1 : tG (cFm (fun j => hI h 58 (7 + j)) n ka a 1) o p n (s + 1) = tG (cFm (fun j => hI h 58 (7 + j)) n ka a 1) o p n s := by
        show (if sbs s o = 0 then _ else _) = _
        rw [if_neg hz]
      have r0 := ih (s + 1) X Y (by omega) r r1
      rw [e1] at r0
      refine sP 3 (g1 := (31, [some (.ref 53), some (sI ((a : Int))), some (sI ((p : Int))), some (sI 0), some (sI ((o : Int))), some (sJ (((tG (cFm (fun j => hI h 58 (7 + j)) n ka a 1) o p n s : Nat) : Int))), none, some (sJ B), none, some (sI ((s : Int))), X, none, Y], [.ref 53, sI 1, sI ((s : Int))], h)) rfl ?_
      refine s_get (a := 53) (j := 4) hh rfl ⟨_, rfl⟩ rfl rfl rfl (v := .ref 58) (hR_ok hh (by decide +kernel)) ?_
      refine sP 1 (g1 := (33, [some (.ref 53), some (sI ((a : Int))), some (sI ((p : Int))), some (sI 0), some (sI ((o : Int))), some (sJ (((tG (cFm (fun j => hI h 58 (7 + j)) n ka a 1) o p n s : Nat) : Int))), none, some (sJ B), none, some (sI ((s : Int))), X, none, Y], [sI 0, .ref 58, sI 1, sI ((s : Int))], h)) rfl ?_
      refine s_iald (a := 58) (n := 201) (j := 0) hh rfl rfl rfl (by omega) (by omega) (by decide) (v := sI ((n : Int))) (by have q := hI_ok hh nw_p; rw [hn] at q; exact q) ?_
      refine s_shl7 (a := n) rfl rfl (by omega) ?_
      rw [hq]
      refine s_icmp (q := .ge) (a := (s : Int)) (b := (q : Int)) rfl ⟨_, rfl⟩ rfl (by unfold sR aMi aMa; omega) (by unfold sR aMi aMa; omega) (fun hc1 => ?_) (fun hc1 => ?_)
      · have hc1 : (((q : Int)) : Int) ≤ ((s : Int)) := hc1
        omega
      · have hc1 : ¬ ((((q : Int)) : Int) ≤ ((s : Int))) := hc1
        refine sP 3 (g1 := (39, [some (.ref 53), some (sI ((a : Int))), some (sI ((p : Int))), some (sI 0), some (sI ((o : Int))), some (sJ (((tG (cFm (fun j => hI h 58 (7 + j)) n ka a 1) o p n s : Nat) : Int))), none, some (sJ B), none, some (sI ((s : Int))), X, none, Y], [sI ((-1)), sI ((o : Int)), sI ((s : Int))], h)) rfl ?_
        refine s_b1 (w := Int32.ofInt (o : Int) ^^^ Int32.ofInt (-1)) rfl rfl rfl ?_
        refine s_b1 (w := Int32.ofInt ((sbs s o : Nat) : Int)) rfl rfl (b_sbs s (by omega) o (by omega)) ?_
        refine s_ifc (q := .ne) (a := ((sbs s o : Nat) : Int)) rfl ⟨_, rfl⟩ rfl (by unfold sR aMi aMa; omega) (fun hc2 => ?_) (fun hc2 => ?_)
        · have hc2 : ((((sbs s o : Nat) : Int)) : Int) ≠ 0 := hc2
          refine s_inc (a := (s : Int)) (n := 1) (k := 9) rfl rfl rfl ?_
          refine sP 1 (g1 := (28, [some (.ref 53), some (sI ((a : Int))), some (sI ((p : Int))), some (sI 0), some (sI ((o : Int))), some (sJ (((tG (cFm (fun j => hI h 58 (7 + j)) n ka a 1) o p n s : Nat) : Int))), none, some (sJ B), none, some (sI (((s : Int)) + 1)), X, none, Y], [], h)) rfl ?_
          rw [show ((s : Int) + 1) = ((s + 1 : Nat) : Int) by omega]
          exact r0
        · have hc2 : ¬ (((((sbs s o : Nat) : Int)) : Int) ≠ 0) := hc2
          omega
theorem fWeighOddsM {n ka a u p : Nat} (hh : aHp h) (hn : hI h 58 0 = n) (ha : a < 6) (hka : hI h 58 (1 + a) = ka) (hu : hI h 58 43 = (u : Int)) (hu2 : u < 2 ^ n) (hp : p ≤ 12) : ∃ g, nEv sc (d + 4) 209 [.ref 53, sI (a : Int), sI (p : Int), sI 0] h (some (sI 1), g) ∧ aHp g ∧ ∀ x y, aSlot g x y = if x = 53 ∧ y = 10 then some (sJ ((12 ^ pcn (bwo u a) / Nat.gcd (tF (cFm (fun j => hI h 58 (7 + j)) n ka a 1) (bwo u a) p 64) (12 ^ pcn (bwo u a)) : Nat) : Int)) else if x = 53 ∧ y = 9 then some (sJ ((tF (cFm (fun j => hI h 58 (7 + j)) n ka a 1) (bwo u a) p 64 / Nat.gcd (tF (cFm (fun j => hI h 58 (7 + j)) n ka a 1) (bwo u a) p 64) (12 ^ pcn (bwo u a)) : Nat) : Int)) else aSlot h x y := by
  have gp := hI_rg hh nw_p
  have gu := hI_rg hh nw_u
  have ho := bwo_lt u (by omega) a ha
  have ho2 : bwo u a < 2 ^ n := by
    have q : bwo u a ≤ u := by
      unfold bwo
      split
      · exact Nat.sub_le _ _
      · exact Nat.le_refl _
    omega
  have p2 := p2_le (show n ≤ 6 by omega)
  have eq : tG (cFm (fun j => hI h 58 (7 + j)) n ka a 1) (bwo u a) p n (2 ^ n) = tF (cFm (fun j => hI h 58 (7 + j)) n ka a 1) (bwo u a) p 64 := (tG_eq (by omega) ho2 (2 ^ n) (Nat.le_refl _)).trans (tF_st (by omega) ho2 64 p2.2 (Nat.le_refl _)).symm
  have hl := tF_le (o := bwo u a) (F := cFm (fun j => hI h 58 (7 + j)) n ka a 1) (fun s => cFm_9 (by omega) s) hp 64
  have hb := pw12 (Nat.le_refl 12) (pcn_le (bwo u a))
  have hb0 : 0 < 12 ^ pcn (bwo u a) := Nat.pow_pos (by decide)
  have pl := pcn_le (bwo u a)
  obtain ⟨g, eg, hg, sg⟩ := fFracM (sc := sc) (d := d + 2) (A := tF (cFm (fun j => hI h 58 (7 + j)) n ka a 1) (bwo u a) p 64) (B := 12 ^ pcn (bwo u a)) hh hb0 (by omega) (by omega)
  have key := fun (V : Option Value) r => fWeiOddsL (sc := sc) (d := d) (o := bwo u a) (B := ((12 ^ pcn (bwo u a) : Nat) : Int)) hh hn rfl ha hka ho hp (2 ^ n) 0 none none (by omega) r
  rw [eq] at key
  have kb := fun r => fWeiB (sc := sc) (d := d) (h := h) (a := a) (p := p) (o := bwo u a) (sm := 0) pl (pcn (bwo u a)) 0 (by omega) r
  have bM := fBitsM (sc := sc) (d := d + 2) (h := h) ho
  refine ⟨g, ?_, hg, sg⟩
  generalize hT : tF (cFm (fun j => hI h 58 (7 + j)) n ka a 1) (bwo u a) p 64 = T at *
  have r1 : ∀ V X Y : Option Value, nRn sc (d + 3) (mMT mMe209) (mMC mMe209) (96, [some (.ref 53), some (sI ((a : Int))), some (sI ((p : Int))), some (sI 0), some (sI (((bwo u a : Nat) : Int))), some (sJ ((T : Int))), none, some (sJ (((12 ^ pcn (bwo u a) : Nat) : Int))), none, V, X, none, Y], [], h) (some (sI 1), g) := by
    intro V X Y
    refine sP 3 (g1 := (99, [some (.ref 53), some (sI ((a : Int))), some (sI ((p : Int))), some (sI 0), some (sI (((bwo u a : Nat) : Int))), some (sJ ((T : Int))), none, some (sJ (((12 ^ pcn (bwo u a) : Nat) : Int))), none, V, X, none, Y], [sJ (((12 ^ pcn (bwo u a) : Nat) : Int)), sJ ((T : Int)), .ref 53], h)) rfl ?_
    refine s_call (k := 210) (args := [.ref 53, sJ ((T : Int)), sJ (((12 ^ pcn (bwo u a) : Nat) : Int))]) (st := []) (v := some (sI 1)) (h1 := g) rfl ⟨rfl, rfl⟩ rfl rfl rfl rfl (sRcv hh (a := 53) rfl rfl) rfl eg ?_
    exact s_reti rfl rfl (Or.inl rfl) rfl rfl
  refine nEv_of (t := mMe209) rfl ?_
  show nRn sc (d + 3) (mMT mMe209) (mMC mMe209) (0, [some (.ref 53), some (sI ((a : Int))), some (sI ((p : Int))), some (sI 0), none, none, none, none, none, none, none, none, none], [], h) _
  refine sP 1 (g1 := (1, [some (.ref 53), some (sI ((a : Int))), some (sI ((p : Int))), some (sI 0), none, none, none, none, none, none, none, none, none], [.ref 53], h)) rfl ?_
  refine s_get (a := 53) (j := 4) hh rfl ⟨_, rfl⟩ rfl rfl rfl (v := .ref 58) (hR_ok hh (by decide +kernel)) ?_
  refine sP 1 (g1 := (3, [some (.ref 53), some (sI ((a : Int))), some (sI ((p : Int))), some (sI 0), none, none, none, none, none, none, none, none, none], [sI 43, .ref 58], h)) rfl ?_
  refine s_iald (a := 58) (n := 201) (j := 43) hh rfl rfl rfl (by omega) (by omega) (by decide) (v := sI ((u : Int))) (by have q := hI_ok hh nw_u; rw [hu] at q; exact q) ?_
  refine sP 2 (g1 := (6, [some (.ref 53), some (sI ((a : Int))), some (sI ((p : Int))), some (sI 0), none, none, none, none, none, none, none, none, none], [sI ((a : Int)), sI 1, sI ((u : Int))], h)) rfl ?_
  refine s_shl (a := a) rfl rfl (by omega) ?_
  refine sP 1 (g1 := (8, [some (.ref 53), some (sI ((a : Int))), some (sI ((p : Int))), some (sI 0), none, none, none, none, none, none, none, none, none], [sI ((-1)), sI (((2 ^ a : Nat) : Int)), sI ((u : Int))], h)) rfl ?_
  refine s_not (a := a) rfl rfl (by omega) ?_
  refine s_wo (s := u) (a := a) rfl rfl (by omega) (by omega) ?_
  refine sP 6 (g1 := (16, [some (.ref 53), some (sI ((a : Int))), some (sI ((p : Int))), some (sI 0), some (sI (((bwo u a : Nat) : Int))), some (sJ 0), none, some (sJ 1), none, none, none, none, none], [sI (((bwo u a : Nat) : Int))], h)) rfl ?_
  refine s_call (k := 166) (args := [sI (((bwo u a : Nat) : Int))]) (st := []) (v := some (sI (((pcn (bwo u a) : Nat) : Int)))) (h1 := h) rfl ⟨rfl, rfl⟩ rfl rfl rfl rfl rfl rfl bM ?_
  refine sP 1 (g1 := (18, [some (.ref 53), some (sI ((a : Int))), some (sI ((p : Int))), some (sI 0), some (sI (((bwo u a : Nat) : Int))), some (sJ 0), none, some (sJ 1), none, some (sI (((pcn (bwo u a) : Nat) : Int))), none, none, none], [], h)) rfl ?_
  refine kb _ (fun V => ?_)
  refine sP 2 (g1 := (28, [some (.ref 53), some (sI ((a : Int))), some (sI ((p : Int))), some (sI 0), some (sI (((bwo u a : Nat) : Int))), some (sJ 0), none, some (sJ (((12 ^ pcn (bwo u a) : Nat) : Int))), none, some (sI 0), none, none, none], [], h)) rfl ?_
  exact key none _ r1
theorem fMidXt {a p u : Nat} {g : mH} (hh : aHp h) (hu : hI h 3 4 = (u : Int)) (ha : (a : Int) < hI h 3 3) (hp : p ≤ 12) (hb : bt u a = true) (eg : nEv sc (d + 5) 104 [.ref 0, sI (a : Int), sI (p : Int), sI 9] h (none, g)) (hg : aHp g) : nEv sc (d + 6) 103 [.ref 0, sI (a : Int), sI (p : Int)] h (some (sI 1), g) := by
  have gp := hI_rg hh xw_p
  have gu := hI_rg hh xw_u
  have vi := fIsIn (sc := sc) (d := d + 4) (h := h) (s := u) (a := a) (by omega) (by omega)
  rw [if_pos hb] at vi
  refine nEv_of (t := mMe103) rfl ?_
  show nRn sc (d + 5) (mMT mMe103) (mMC mMe103) (0, [some (.ref 0), some (sI ((a : Int))), some (sI ((p : Int)))], [], h) _
  refine sP 1 (g1 := (1, [some (.ref 0), some (sI ((a : Int))), some (sI ((p : Int)))], [.ref 0], h)) rfl ?_
  refine s_get (a := 0) (j := 2) hh rfl ⟨_, rfl⟩ rfl rfl rfl (v := .ref 3) (hR_ok hh (by decide +kernel)) ?_
  refine sP 1 (g1 := (3, [some (.ref 0), some (sI ((a : Int))), some (sI ((p : Int)))], [sI ((a : Int)), .ref 3], h)) rfl ?_
  have ev1 := fHasX (sc := sc) (d := d + 4) (a := (a : Int)) hh (by unfold sR aMi aMa; omega)
  rw [if_pos (by omega)] at ev1
  refine s_call (k := 35) (args := [.ref 3, sI ((a : Int))]) (st := []) (v := some (sI 1)) (h1 := h) rfl ⟨rfl, rfl⟩ rfl rfl rfl rfl (sRcv hh (a := 3) rfl rfl) rfl ev1 ?_
  refine s_ifc (q := .eq) (a := 1) rfl ⟨_, rfl⟩ rfl (by unfold sR aMi aMa; omega) (fun hc2 => ?_) (fun hc2 => ?_)
  · have hc2 : (1 : Int) = 0 := hc2
    omega
  · have hc2 : ¬ ((1 : Int) = 0) := hc2
    refine sP 1 (g1 := (6, [some (.ref 0), some (sI ((a : Int))), some (sI ((p : Int)))], [sI ((p : Int))], h)) rfl ?_
    refine s_ifc (q := .lt) (a := (p : Int)) rfl ⟨_, rfl⟩ rfl (by unfold sR aMi aMa; omega) (fun hc3 => ?_) (fun hc3 => ?_)
    · have hc3 : (((p : Int)) : Int) < 0 := hc3
      omega
    · have hc3 : ¬ ((((p : Int)) : Int) < 0) := hc3
      refine sP 2 (g1 := (9, [some (.ref 0), some (sI ((a : Int))), some (sI ((p : Int)))], [sI 12, sI ((p : Int))], h)) rfl ?_
      refine s_icmp (q := .le) (a := (p : Int)) (b := 12) rfl ⟨_, rfl⟩ rfl (by unfold sR aMi aMa; omega) (by unfold sR aMi aMa; omega) (fun hc4 => ?_) (fun hc4 => ?_)
      · have hc4 : (((p : Int)) : Int) ≤ 12 := hc4
        refine sP 1 (g1 := (13, [some (.ref 0), some (sI ((a : Int))), some (sI ((p : Int)))], [.ref 0], h)) rfl ?_
        refine s_get (a := 0) (j := 2) hh rfl ⟨_, rfl⟩ rfl rfl rfl (v := .ref 3) (hR_ok hh (by decide +kernel)) ?_
        refine s_get (a := 3) (j := 4) hh rfl ⟨_, rfl⟩ rfl rfl rfl (v := sI ((u : Int))) (by have q := hI_ok hh xw_u; rw [hu] at q; exact q) ?_
        refine sP 1 (g1 := (16, [some (.ref 0), some (sI ((a : Int))), some (sI ((p : Int)))], [sI ((a : Int)), sI ((u : Int))], h)) rfl ?_
        refine s_call (k := 39) (args := [sI ((u : Int)), sI ((a : Int))]) (st := []) (v := some (sI 1)) (h1 := h) rfl ⟨rfl, rfl⟩ rfl rfl rfl rfl rfl rfl vi ?_
        refine s_ifc (q := .ne) (a := 1) rfl ⟨_, rfl⟩ rfl (by unfold sR aMi aMa; omega) (fun hc5 => ?_) (fun hc5 => ?_)
        · have hc5 : (1 : Int) ≠ 0 := hc5
          refine sP 4 (g1 := (24, [some (.ref 0), some (sI ((a : Int))), some (sI ((p : Int)))], [sI 9, sI ((p : Int)), sI ((a : Int)), .ref 0], h)) rfl ?_
          refine s_call (k := 104) (args := [.ref 0, sI ((a : Int)), sI ((p : Int)), sI 9]) (st := []) (v := none) (h1 := g) rfl ⟨rfl, rfl⟩ rfl rfl rfl rfl (sRcv hh (a := 0) rfl rfl) rfl eg ?_
          refine sP 1 (g1 := (26, [some (.ref 0), some (sI ((a : Int))), some (sI ((p : Int)))], [sI 1], g)) rfl ?_
          exact s_reti rfl rfl (Or.inl rfl) rfl rfl
        · have hc5 : ¬ ((1 : Int) ≠ 0) := hc5
          omega
      · have hc4 : ¬ ((((p : Int)) : Int) ≤ 12) := hc4
        omega
theorem fOddsXt {a p u : Nat} {g : mH} (hh : aHp h) (hu : hI h 3 4 = (u : Int)) (ha : (a : Int) < hI h 3 3) (hp : p ≤ 12) (hb : bt u a = true) (eg : nEv sc (d + 5) 104 [.ref 0, sI (a : Int), sI (p : Int), sI 1] h (none, g)) (hg : aHp g) : nEv sc (d + 6) 107 [.ref 0, sI (a : Int), sI (p : Int)] h (some (sI 1), g) := by
  have gp := hI_rg hh xw_p
  have gu := hI_rg hh xw_u
  have vi := fIsIn (sc := sc) (d := d + 4) (h := h) (s := u) (a := a) (by omega) (by omega)
  rw [if_pos hb] at vi
  refine nEv_of (t := mMe107) rfl ?_
  show nRn sc (d + 5) (mMT mMe107) (mMC mMe107) (0, [some (.ref 0), some (sI ((a : Int))), some (sI ((p : Int)))], [], h) _
  refine sP 1 (g1 := (1, [some (.ref 0), some (sI ((a : Int))), some (sI ((p : Int)))], [.ref 0], h)) rfl ?_
  refine s_get (a := 0) (j := 2) hh rfl ⟨_, rfl⟩ rfl rfl rfl (v := .ref 3) (hR_ok hh (by decide +kernel)) ?_
  refine sP 1 (g1 := (3, [some (.ref 0), some (sI ((a : Int))), some (sI ((p : Int)))], [sI ((a : Int)), .ref 3], h)) rfl ?_
  have ev1 := fHasX (sc := sc) (d := d + 4) (a := (a : Int)) hh (by unfold sR aMi aMa; omega)
  rw [if_pos (by omega)] at ev1
  refine s_call (k := 35) (args := [.ref 3, sI ((a : Int))]) (st := []) (v := some (sI 1)) (h1 := h) rfl ⟨rfl, rfl⟩ rfl rfl rfl rfl (sRcv hh (a := 3) rfl rfl) rfl ev1 ?_
  refine s_ifc (q := .eq) (a := 1) rfl ⟨_, rfl⟩ rfl (by unfold sR aMi aMa; omega) (fun hc2 => ?_) (fun hc2 => ?_)
  · have hc2 : (1 : Int) = 0 := hc2
    omega
  · have hc2 : ¬ ((1 : Int) = 0) := hc2
    refine sP 1 (g1 := (6, [some (.ref 0), some (sI ((a : Int))), some (sI ((p : Int)))], [sI ((p : Int))], h)) rfl ?_
    refine s_ifc (q := .lt) (a := (p : Int)) rfl ⟨_, rfl⟩ rfl (by unfold sR aMi aMa; omega) (fun hc3 => ?_) (fun hc3 => ?_)
    · have hc3 : (((p : Int)) : Int) < 0 := hc3
      omega
    · have hc3 : ¬ ((((p : Int)) : Int) < 0) := hc3
      refine sP 2 (g1 := (9, [some (.ref 0), some (sI ((a : Int))), some (sI ((p : Int)))], [sI 12, sI ((p : Int))], h)) rfl ?_
      refine s_icmp (q := .le) (a := (p : Int)) (b := 12) rfl ⟨_, rfl⟩ rfl (by unfold sR aMi aMa; omega) (by unfold sR aMi aMa; omega) (fun hc4 => ?_) (fun hc4 => ?_)
      · have hc4 : (((p : Int)) : Int) ≤ 12 := hc4
        refine sP 1 (g1 := (13, [some (.ref 0), some (sI ((a : Int))), some (sI ((p : Int)))], [.ref 0], h)) rfl ?_
        refine s_get (a := 0) (j := 2) hh rfl ⟨_, rfl⟩ rfl rfl rfl (v := .ref 3) (hR_ok hh (by decide +kernel)) ?_
        refine s_get (a := 3) (j := 4) hh rfl ⟨_, rfl⟩ rfl rfl rfl (v := sI ((u : Int))) (by have q := hI_ok hh xw_u; rw [hu] at q; exact q) ?_
        refine sP 1 (g1 := (16, [some (.ref 0), some (sI ((a : Int))), some (sI ((p : Int)))], [sI ((a : Int)), sI ((u : Int))], h)) rfl ?_
        refine s_call (k := 39) (args := [sI ((u : Int)), sI ((a : Int))]) (st := []) (v := some (sI 1)) (h1 := h) rfl ⟨rfl, rfl⟩ rfl rfl rfl rfl rfl rfl vi ?_
        refine s_ifc (q := .ne) (a := 1) rfl ⟨_, rfl⟩ rfl (by unfold sR aMi aMa; omega) (fun hc5 => ?_) (fun hc5 => ?_)
        · have hc5 : (1 : Int) ≠ 0 := hc5
          refine sP 4 (g1 := (24, [some (.ref 0), some (sI ((a : Int))), some (sI ((p : Int)))], [sI 1, sI ((p : Int)), sI ((a : Int)), .ref 0], h)) rfl ?_
          refine s_call (k := 104) (args := [.ref 0, sI ((a : Int)), sI ((p : Int)), sI 1]) (st := []) (v := none) (h1 := g) rfl ⟨rfl, rfl⟩ rfl rfl rfl rfl (sRcv hh (a := 0) rfl rfl) rfl eg ?_
          refine sP 1 (g1 := (26, [some (.ref 0), some (sI ((a : Int))), some (sI ((p : Int)))], [sI 1], g)) rfl ?_
          exact s_reti rfl rfl (Or.inl rfl) rfl rfl
        · have hc5 : ¬ ((1 : Int) ≠ 0) := hc5
          omega
      · have hc4 : ¬ ((((p : Int)) : Int) ≤ 12) := hc4
        omega
theorem fChanceMt {a p u : Nat} {m : Int} {g : mH} (hh : aHp h) (hu : hI h 58 43 = (u : Int)) (ha : (a : Int) < hI h 58 0) (hp : p ≤ 12) (hb : bt u a = true) (eg : nEv sc (d + 4) 209 [.ref 53, sI (a : Int), sI (p : Int), sI m] h (some (sI 1), g)) (hg : aHp g) : nEv sc (d + 5) 208 [.ref 53, sI (a : Int), sI (p : Int), sI m] h (some (sI 1), g) := by
  have gp := hI_rg hh nw_p
  have gu := hI_rg hh nw_u
  have vi := fHas (sc := sc) (d := d + 3) (h := h) (s := u) (a := a) (by omega) (by omega)
  rw [if_pos hb] at vi
  refine nEv_of (t := mMe208) rfl ?_
  show nRn sc (d + 4) (mMT mMe208) (mMC mMe208) (0, [some (.ref 53), some (sI ((a : Int))), some (sI ((p : Int))), some (sI m)], [], h) _
  refine sP 2 (g1 := (2, [some (.ref 53), some (sI ((a : Int))), some (sI ((p : Int))), some (sI m)], [sI ((a : Int)), .ref 53], h)) rfl ?_
  have ev1 := fIsPerson (sc := sc) (d := d + 2) (a := (a : Int)) hh (by unfold sR aMi aMa; omega)
  rw [if_pos (by omega)] at ev1
  refine s_call (k := 147) (args := [.ref 53, sI ((a : Int))]) (st := []) (v := some (sI 1)) (h1 := h) rfl ⟨rfl, rfl⟩ rfl rfl rfl rfl (sRcv hh (a := 53) rfl rfl) rfl ev1 ?_
  refine s_ifc (q := .eq) (a := 1) rfl ⟨_, rfl⟩ rfl (by unfold sR aMi aMa; omega) (fun hc2 => ?_) (fun hc2 => ?_)
  · have hc2 : (1 : Int) = 0 := hc2
    omega
  · have hc2 : ¬ ((1 : Int) = 0) := hc2
    refine sP 1 (g1 := (5, [some (.ref 53), some (sI ((a : Int))), some (sI ((p : Int))), some (sI m)], [sI ((p : Int))], h)) rfl ?_
    refine s_i2l (a := (p : Int)) rfl rfl (by unfold sR aMi aMa; omega) ?_
    refine sP 2 (g1 := (8, [some (.ref 53), some (sI ((a : Int))), some (sI ((p : Int))), some (sI m)], [sJ 12, sJ 0, sJ ((p : Int))], h)) rfl ?_
    have ev3 := fIn (sc := sc) (d := d + 3) (h := h) (a := (p : Int)) (b := 0) (e := 12) (by omega) (by omega) (by omega) (by omega) (by omega) (by omega)
    rw [if_pos (by omega)] at ev3
    refine s_call (k := 127) (args := [sJ ((p : Int)), sJ 0, sJ 12]) (st := []) (v := some (sI 1)) (h1 := h) rfl ⟨rfl, rfl⟩ rfl rfl rfl rfl rfl rfl ev3 ?_
    refine s_ifc (q := .ne) (a := 1) rfl ⟨_, rfl⟩ rfl (by unfold sR aMi aMa; omega) (fun hc4 => ?_) (fun hc4 => ?_)
    · have hc4 : (1 : Int) ≠ 0 := hc4
      refine sP 1 (g1 := (13, [some (.ref 53), some (sI ((a : Int))), some (sI ((p : Int))), some (sI m)], [.ref 53], h)) rfl ?_
      refine s_get (a := 53) (j := 4) hh rfl ⟨_, rfl⟩ rfl rfl rfl (v := .ref 58) (hR_ok hh (by decide +kernel)) ?_
      refine sP 1 (g1 := (15, [some (.ref 53), some (sI ((a : Int))), some (sI ((p : Int))), some (sI m)], [sI 43, .ref 58], h)) rfl ?_
      refine s_iald (a := 58) (n := 201) (j := 43) hh rfl rfl rfl (by omega) (by omega) (by decide) (v := sI ((u : Int))) (by have q := hI_ok hh nw_u; rw [hu] at q; exact q) ?_
      refine sP 1 (g1 := (17, [some (.ref 53), some (sI ((a : Int))), some (sI ((p : Int))), some (sI m)], [sI ((a : Int)), sI ((u : Int))], h)) rfl ?_
      refine s_call (k := 149) (args := [sI ((u : Int)), sI ((a : Int))]) (st := []) (v := some (sI 1)) (h1 := h) rfl ⟨rfl, rfl⟩ rfl rfl rfl rfl rfl rfl vi ?_
      refine s_ifc (q := .eq) (a := 1) rfl ⟨_, rfl⟩ rfl (by unfold sR aMi aMa; omega) (fun hc5 => ?_) (fun hc5 => ?_)
      · have hc5 : (1 : Int) = 0 := hc5
        omega
      · have hc5 : ¬ ((1 : Int) = 0) := hc5
        refine sP 4 (g1 := (23, [some (.ref 53), some (sI ((a : Int))), some (sI ((p : Int))), some (sI m)], [sI m, sI ((p : Int)), sI ((a : Int)), .ref 53], h)) rfl ?_
        refine s_call (k := 209) (args := [.ref 53, sI ((a : Int)), sI ((p : Int)), sI m]) (st := []) (v := some (sI 1)) (h1 := g) rfl ⟨rfl, rfl⟩ rfl rfl rfl rfl (sRcv hh (a := 53) rfl rfl) rfl eg ?_
        refine sP 1 (g1 := (26, [some (.ref 53), some (sI ((a : Int))), some (sI ((p : Int))), some (sI m)], [sI 1], g)) rfl ?_
        exact s_reti rfl rfl (Or.inl rfl) rfl rfl
    · have hc4 : ¬ ((1 : Int) ≠ 0) := hc4
      omega
end TOLD
/-! the relation: embassies, and what is told -/
def lP (h : mH) : Prop := aSlot h 0 10 = aSlot h 53 9 ∧ aSlot h 0 11 = aSlot h 53 10
def jP (h : mH) : Prop := wP h ∧ lP h
theorem jP_a (h : mH) (hp : jP h) : aHp h := hp.1.1.1
def lMiss (ms : aMd) : Bool := ms.all (fun m => decide (¬ (m.1 = 0 ∧ m.2.1 ≤ 11 ∧ 10 ≤ m.2.2) ∧ ¬ (m.1 = 53 ∧ m.2.1 ≤ 10 ∧ 9 ≤ m.2.2)))
theorem lP_fr {h h1 : mH} {ms : aMd} (hp : lP h) (hf : nFr ms h h1) (hm : lMiss ms = true) : lP h1 := by
  have key : ∀ a j, (a = 0 ∧ 10 ≤ j ∧ j ≤ 11) ∨ (a = 53 ∧ 9 ≤ j ∧ j ≤ 10) → aSlot h1 a j = aSlot h a j := by
    intro a j w
    refine hf a j ?_
    rintro ⟨m, m1, m2, m3, m4⟩
    have h2 := of_decide_eq_true (List.all_eq_true.mp hm m m1)
    omega
  exact ⟨by rw [key 0 10 (by omega), key 53 9 (by omega)]; exact hp.1, by rw [key 0 11 (by omega), key 53 10 (by omega)]; exact hp.2⟩
theorem jP_fr {h h1 : mH} {ms : aMd} (hp : jP h) (hh1 : aHp h1) (hf : nFr ms h h1) (hm : (wMiss ms && lMiss ms) = true) : jP h1 := by
  rw [Bool.and_eq_true] at hm
  exact ⟨wP_fr hp.1 hh1 hf hm.1, lP_fr hp.2 hf hm.2⟩
theorem wP_oth {h h1 : mH} (hp : wP h) (hh1 : aHp h1) (hs : ∀ p m, p ≠ 0 → p ≠ 53 → aSlot h1 p m = aSlot h p m) : wP h1 :=
  wP_sl hp (tP_sl hp.1 hh1 (fun e m w => hs e m (by omega) (by omega))) (fun a j w => hs a j (by omega) (by omega))
theorem pair2o {sc : List Int32} {Q : mH → Prop} {h h1 h2 : mH} {kx km : Nat} {x y : Int32} {v1 v2 : Int} (a1 : nEv sc 100 kx [.ref 0, sI x.toInt, sI y.toInt] h (some (sI v1), h1)) (a2 : aHp h1) (a3 : nEv sc 100 km [.ref 53, sI x.toInt, sI y.toInt] h1 (some (sI v2), h2)) (a4 : Q h2) : ∃ z1 h1 z2 h2, nEv sc 100 kx (.ref 0 :: [x, y].map Value.int) h (some (.int z1), h1) ∧ aHp h1 ∧ nEv sc 100 km (.ref 53 :: [x, y].map Value.int) h1 (some (.int z2), h2) ∧ Q h2 := by
  rw [← sI_of x, ← sI_of y] at a1 a3
  exact ⟨_, h1, _, h2, a1, a2, a3, a4⟩
theorem jMid {sc : List Int32} {h : mH} (x y : Int32) (hp : jP h) : ∃ z1 h1 z2 h2, nEv sc 100 103 (.ref 0 :: [x, y].map Value.int) h (some (.int z1), h1) ∧ aHp h1 ∧ nEv sc 100 207 (.ref 53 :: [x, y].map Value.int) h1 (some (.int z2), h2) ∧ jP h2 := by
  have hh := jP_a h hp
  have rx : sR x.toInt := aI_rg x
  have ry : sR y.toInt := aI_rg y
  have hr := hp.1.2.1
  have e3 : hI h 3 3 = hI h 58 0 := hr.1
  have e4 : hI h 3 4 = hI h 58 43 := hr.2.1
  have gp := hI_rg hh xw_p
  have eb := hr.2.2.2.2.2.1
  obtain ⟨u, eu⟩ := iN (hI_rg hh xw_u).1
  obtain ⟨n, en⟩ := iN gp.1
  rw [en, eu, Int.toNat_natCast] at eb
  by_cases c1 : 0 ≤ x.toInt ∧ x.toInt < hI h 3 3
  · by_cases c2 : 0 ≤ y.toInt ∧ y.toInt ≤ 12
    · obtain ⟨a, ea⟩ := iN c1.1
      obtain ⟨p, ep⟩ := iN c2.1
      by_cases hb : bt u a = true
      · have ha6 : a < 6 := by omega
        obtain ⟨ka, ek⟩ := iN (hI_rg hh (xw_k ha6)).1
        have ekm : hI h 58 (1 + a) = (ka : Int) := by rw [← (hr.2.2.2.1 a (by omega)).1]; exact ek
        obtain ⟨g, x1, x2, x3⟩ := fTellX (sc := sc) (d := 94) (n := n) (ka := ka) (a := a) (p := p) (u := u) (m := 9) hh en ha6 ek eu (by omega) (by omega) (by omega)
        have k0 : ∀ q m, q ≠ 0 → aSlot g q m = aSlot h q m := fun q m w => by rw [x3, if_neg (by omega), if_neg (by omega)]
        have k8 : ∀ m, hI g 58 m = hI h 58 m := fun m => hI_cg (k0 58 m (by omega))
        obtain ⟨g2, y1, y2, y3⟩ := fWeighMidM (sc := sc) (d := 94) (n := n) (ka := ka) (a := a) (p := p) (u := u) x2 (by rw [k8]; omega) ha6 (by rw [k8]; exact ekm) (by rw [k8]; omega) (by omega) (by omega)
        have eF : tF (cFm (fun j => hI g 58 (7 + j)) n ka a 9) (bwo u a) p 64 = tF (cFm (hI h 5) n ka a 9) (bwo u a) p 64 := by
          refine tF_cg 64 (fun s _ => ?_)
          unfold cFm
          rw [show (fun j => hI g 58 (7 + j)) = (fun j => hI h 58 (7 + j)) from funext (fun j => k8 _), nR_seem hr en (by omega)]
        rw [eF] at y3
        have k2 : ∀ q m, q ≠ 53 → aSlot g2 q m = aSlot g q m := fun q m w => by rw [y3, if_neg (by omega), if_neg (by omega)]
        refine pair2o (by rw [ea, ep]; exact fMidXt (d := 94) hh eu (by omega) (by omega) hb x1 x2) x2 (by rw [ea, ep]; exact fMidM (d := 99) x2 (fChanceMt (d := 94) (u := u) x2 (by rw [k8]; omega) (by rw [k8]; omega) (by omega) hb y1 y2)) ⟨wP_oth (wP_oth hp.1 x2 (fun q m w _ => k0 q m w)) y2 (fun q m _ w => k2 q m w), ?_, ?_⟩
        · rw [k2 0 10 (by omega), x3, if_neg (by omega), if_pos ⟨rfl, rfl⟩, y3, if_neg (by omega), if_pos ⟨rfl, rfl⟩, Nat.gcd_comm]
        · rw [k2 0 11 (by omega), x3, if_pos ⟨rfl, rfl⟩, y3, if_pos ⟨rfl, rfl⟩, Nat.gcd_comm]
      · exact pair2o (by rw [ea, ep]; exact fMidXs (d := 97) hh eu (by omega) (by omega) hb) hh (by rw [ea, ep]; exact fMidM (d := 99) hh (fChanceMs (d := 96) (u := u) hh (by omega) (by omega) (by omega) hb)) hp
    · exact pair2o (fMidXb1 (d := 97) hh rx ry ⟨c1, c2⟩) hh (fMidM (d := 99) hh (fChanceMb1 (d := 96) hh rx ry (by unfold sR aMi aMa; omega) ⟨by omega, c2⟩)) hp
  · exact pair2o (fMidXb0 (d := 97) hh rx ry c1) hh (fMidM (d := 99) hh (fChanceMb0 (d := 96) hh rx ry (by unfold sR aMi aMa; omega) (by omega))) hp
theorem jOdds {sc : List Int32} {h : mH} (x y : Int32) (hp : jP h) : ∃ z1 h1 z2 h2, nEv sc 100 107 (.ref 0 :: [x, y].map Value.int) h (some (.int z1), h1) ∧ aHp h1 ∧ nEv sc 100 211 (.ref 53 :: [x, y].map Value.int) h1 (some (.int z2), h2) ∧ jP h2 := by
  have hh := jP_a h hp
  have rx : sR x.toInt := aI_rg x
  have ry : sR y.toInt := aI_rg y
  have hr := hp.1.2.1
  have e3 : hI h 3 3 = hI h 58 0 := hr.1
  have e4 : hI h 3 4 = hI h 58 43 := hr.2.1
  have gp := hI_rg hh xw_p
  have eb := hr.2.2.2.2.2.1
  obtain ⟨u, eu⟩ := iN (hI_rg hh xw_u).1
  obtain ⟨n, en⟩ := iN gp.1
  rw [en, eu, Int.toNat_natCast] at eb
  by_cases c1 : 0 ≤ x.toInt ∧ x.toInt < hI h 3 3
  · by_cases c2 : 0 ≤ y.toInt ∧ y.toInt ≤ 12
    · obtain ⟨a, ea⟩ := iN c1.1
      obtain ⟨p, ep⟩ := iN c2.1
      by_cases hb : bt u a = true
      · have ha6 : a < 6 := by omega
        obtain ⟨ka, ek⟩ := iN (hI_rg hh (xw_k ha6)).1
        have ekm : hI h 58 (1 + a) = (ka : Int) := by rw [← (hr.2.2.2.1 a (by omega)).1]; exact ek
        obtain ⟨g, x1, x2, x3⟩ := fTellX (sc := sc) (d := 94) (n := n) (ka := ka) (a := a) (p := p) (u := u) (m := 1) hh en ha6 ek eu (by omega) (by omega) (by omega)
        have k0 : ∀ q m, q ≠ 0 → aSlot g q m = aSlot h q m := fun q m w => by rw [x3, if_neg (by omega), if_neg (by omega)]
        have k8 : ∀ m, hI g 58 m = hI h 58 m := fun m => hI_cg (k0 58 m (by omega))
        obtain ⟨g2, y1, y2, y3⟩ := fWeighOddsM (sc := sc) (d := 94) (n := n) (ka := ka) (a := a) (p := p) (u := u) x2 (by rw [k8]; omega) ha6 (by rw [k8]; exact ekm) (by rw [k8]; omega) (by omega) (by omega)
        have eF : tF (cFm (fun j => hI g 58 (7 + j)) n ka a 1) (bwo u a) p 64 = tF (cFm (hI h 5) n ka a 1) (bwo u a) p 64 := by
          refine tF_cg 64 (fun s _ => ?_)
          unfold cFm
          rw [show (fun j => hI g 58 (7 + j)) = (fun j => hI h 58 (7 + j)) from funext (fun j => k8 _), nR_seem hr en (by omega)]
        rw [eF] at y3
        have k2 : ∀ q m, q ≠ 53 → aSlot g2 q m = aSlot g q m := fun q m w => by rw [y3, if_neg (by omega), if_neg (by omega)]
        refine pair2o (by rw [ea, ep]; exact fOddsXt (d := 94) hh eu (by omega) (by omega) hb x1 x2) x2 (by rw [ea, ep]; exact fOddsM (d := 99) x2 (fChanceMt (d := 94) (u := u) x2 (by rw [k8]; omega) (by rw [k8]; omega) (by omega) hb y1 y2)) ⟨wP_oth (wP_oth hp.1 x2 (fun q m w _ => k0 q m w)) y2 (fun q m _ w => k2 q m w), ?_, ?_⟩
        · rw [k2 0 10 (by omega), x3, if_neg (by omega), if_pos ⟨rfl, rfl⟩, y3, if_neg (by omega), if_pos ⟨rfl, rfl⟩, Nat.gcd_comm]
        · rw [k2 0 11 (by omega), x3, if_pos ⟨rfl, rfl⟩, y3, if_pos ⟨rfl, rfl⟩, Nat.gcd_comm]
      · exact pair2o (by rw [ea, ep]; exact fOddsXs (d := 97) hh eu (by omega) (by omega) hb) hh (by rw [ea, ep]; exact fOddsM (d := 99) hh (fChanceMs (d := 96) (u := u) hh (by omega) (by omega) (by omega) hb)) hp
    · exact pair2o (fOddsXb1 (d := 97) hh rx ry ⟨c1, c2⟩) hh (fOddsM (d := 99) hh (fChanceMb1 (d := 96) hh rx ry (by unfold sR aMi aMa; omega) ⟨by omega, c2⟩)) hp
  · exact pair2o (fOddsXb0 (d := 97) hh rx ry c1) hh (fOddsM (d := 99) hh (fChanceMb0 (d := 96) hh rx ry (by unfold sR aMi aMa; omega) (by omega))) hp
theorem jUpper {sc : List Int32} {h : mH} (hp : jP h) : ∃ w, nEv sc 100 111 [.ref 0] h (some (.long w), h) ∧ nEv sc 100 214 [.ref 53] h (some (.long w), h) := by
  have hh := jP_a h hp
  have e1 := hJ_ok hh (show zLng 0 10 = true by decide +kernel)
  have e2 : aSlot h 53 9 = some (.long (hJ h 0 10)) := by rw [← hp.2.1]; exact e1
  refine ⟨hJ h 0 10, nEv_of (t := mMe111) rfl ?_, nEv_of (t := mMe214) rfl ?_⟩
  · show nRn sc 99 (mMT mMe111) (mMC mMe111) (0, [some (.ref 0)], [], h) _
    refine sP 1 (g1 := (1, [some (.ref 0)], [.ref 0], h)) rfl ?_
    refine s_get (a := 0) (j := 10) hh rfl ⟨_, rfl⟩ rfl rfl rfl (v := .long (hJ h 0 10)) e1 ?_
    exact s_ret rfl rfl
  · show nRn sc 99 (mMT mMe214) (mMC mMe214) (0, [some (.ref 53)], [], h) _
    refine sP 1 (g1 := (1, [some (.ref 53)], [.ref 53], h)) rfl ?_
    refine s_get (a := 53) (j := 9) hh rfl ⟨_, rfl⟩ rfl rfl rfl (v := .long (hJ h 0 10)) e2 ?_
    exact s_ret rfl rfl
theorem jLower {sc : List Int32} {h : mH} (hp : jP h) : ∃ w, nEv sc 100 112 [.ref 0] h (some (.long w), h) ∧ nEv sc 100 215 [.ref 53] h (some (.long w), h) := by
  have hh := jP_a h hp
  have e1 := hJ_ok hh (show zLng 0 11 = true by decide +kernel)
  have e2 : aSlot h 53 10 = some (.long (hJ h 0 11)) := by rw [← hp.2.2]; exact e1
  refine ⟨hJ h 0 11, nEv_of (t := mMe112) rfl ?_, nEv_of (t := mMe215) rfl ?_⟩
  · show nRn sc 99 (mMT mMe112) (mMC mMe112) (0, [some (.ref 0)], [], h) _
    refine sP 1 (g1 := (1, [some (.ref 0)], [.ref 0], h)) rfl ?_
    refine s_get (a := 0) (j := 11) hh rfl ⟨_, rfl⟩ rfl rfl rfl (v := .long (hJ h 0 11)) e1 ?_
    exact s_ret rfl rfl
  · show nRn sc 99 (mMT mMe215) (mMC mMe215) (0, [some (.ref 53)], [], h) _
    refine sP 1 (g1 := (1, [some (.ref 53)], [.ref 53], h)) rfl ?_
    refine s_get (a := 53) (j := 10) hh rfl ⟨_, rfl⟩ rfl rfl rfl (v := .long (hJ h 0 11)) e2 ?_
    exact s_ret rfl rfl
theorem pFrL {sc : List Int32} {Q : mH → Prop} {cx cm : aCt} {kx km mx mm n : Nat} {tx tm : mM} {h : mH} {xs : List Int32} (hw : ∃ z1 h1 z2 h2, nEv sc 100 kx (.ref 0 :: xs.map Value.int) h (some (.int z1), h1) ∧ aHp h1 ∧ nEv sc 100 km (.ref 53 :: xs.map Value.int) h1 (some (.int z2), h2) ∧ Q h2)
    (hx : nMe sc 81 cx) (x1 : cx.1 = kx) (x2 : cx.2.1.1 = (List.replicate n vI, [], [], (vBig, []))) (x3 : cx.2.1.2.1 = [(kx, 0, aEntL mx ((2, (0, []), 0) :: vLs 0 n), [])]) (x4 : mTab[kx]? = some tx) (x5 : mMX tx = mx)
    (hm : nMe sc 81 cm) (m1 : cm.1 = km) (m2 : cm.2.1.1 = (List.replicate n vI, [], [], (vBig, []))) (m3 : cm.2.1.2.1 = [(km, 0, aEntL mm ((2, (0, []), 53) :: vLs 0 n), [])]) (m4 : mTab[km]? = some tm) (m5 : mMX tm = mm) (hn : xs.length = n) (hh : aHp h) :
    ∃ z1 h1 z2 h2, nEv sc 100 kx (.ref 0 :: xs.map Value.int) h (some (.int z1), h1) ∧ aHp h1 ∧ nEv sc 100 km (.ref 53 :: xs.map Value.int) h1 (some (.int z2), h2) ∧ Q h2 ∧ nFr cx.2.2.2 h h1 ∧ nFr cm.2.2.2 h1 h2 := by
  obtain ⟨z1, h1, z2, h2, a1, a2, a3, a4⟩ := hw
  obtain ⟨r0, q1, q2, q3⟩ := gFr (D := 100) hx x1 x2 x3 x4 x5 hn hh (by decide)
  obtain ⟨r1, p1, p2, p3⟩ := gFr (D := 100) hm m1 m2 m3 m4 m5 hn a2 (by decide)
  have e1 := nEv_det a1 q1
  have e2 := nEv_det a3 p1
  subst e1 e2
  exact ⟨z1, h1, z2, h2, a1, a2, a3, a4, q3, p3⟩
theorem jText {sc : List Int32} {h : mH} (x y : Int32) (hp : jP h) : ∃ z1 h1 z2 h2, nEv sc 100 20 (.ref 0 :: [x, y].map Value.int) h (some (.int z1), h1) ∧ aHp h1 ∧ nEv sc 100 135 (.ref 53 :: [x, y].map Value.int) h1 (some (.int z2), h2) ∧ jP h2 := by
  have hw : ∃ z1 h1 z2 h2, nEv sc 100 20 (.ref 0 :: [x, y].map Value.int) h (some (.int z1), h1) ∧ aHp h1 ∧ nEv sc 100 135 (.ref 53 :: [x, y].map Value.int) h1 (some (.int z2), h2) ∧ wP h2 := by
    obtain ⟨z1, h1, z2, h2, a1, a2, a3, a4, -⟩ := wText (sc := sc) x y hp.1
    exact ⟨z1, h1, z2, h2, a1, a2, a3, a4⟩
  obtain ⟨z1, h1, z2, h2, a1, a2, a3, a4, f1, f2⟩ := pFrL (sc := sc) (tx := mMe20) (tm := mMe135) hw ((kM28 sc).mono (by decide)) rfl rfl rfl rfl rfl ((kM29 sc).mono (by decide)) rfl rfl rfl rfl rfl rfl (jP_a h hp)
  have c1 : lMiss kC28.2.2.2 = true := by decide +kernel
  have c2 : lMiss kC29.2.2.2 = true := by decide +kernel
  exact ⟨z1, h1, z2, h2, a1, a2, a3, a4, lP_fr (lP_fr hp.2 f1 c1) f2 c2⟩
theorem jPut {sc : List Int32} {h : mH} (x y z : Int32) (hp : jP h) : ∃ z1 h1 z2 h2, nEv sc 100 24 (.ref 0 :: [x, y, z].map Value.int) h (some (.int z1), h1) ∧ aHp h1 ∧ nEv sc 100 137 (.ref 53 :: [x, y, z].map Value.int) h1 (some (.int z2), h2) ∧ jP h2 := by
  have hw : ∃ z1 h1 z2 h2, nEv sc 100 24 (.ref 0 :: [x, y, z].map Value.int) h (some (.int z1), h1) ∧ aHp h1 ∧ nEv sc 100 137 (.ref 53 :: [x, y, z].map Value.int) h1 (some (.int z2), h2) ∧ wP h2 := by
    obtain ⟨z1, h1, z2, h2, a1, a2, a3, a4, -⟩ := wPut (sc := sc) x y z hp.1
    exact ⟨z1, h1, z2, h2, a1, a2, a3, a4⟩
  obtain ⟨z1, h1, z2, h2, a1, a2, a3, a4, f1, f2⟩ := pFrL (sc := sc) (tx := mMe24) (tm := mMe137) hw ((kM30 sc).mono (by decide)) rfl rfl rfl rfl rfl ((kM31 sc).mono (by decide)) rfl rfl rfl rfl rfl rfl (jP_a h hp)
  have c1 : lMiss kC30.2.2.2 = true := by decide +kernel
  have c2 : lMiss kC31.2.2.2 = true := by decide +kernel
  exact ⟨z1, h1, z2, h2, a1, a2, a3, a4, lP_fr (lP_fr hp.2 f1 c1) f2 c2⟩
theorem jEmb {sc : List Int32} {h : mH} (x : Int32) (hp : jP h) : ∃ z1 h1 z2 h2, nEv sc 100 32 (.ref 0 :: [x].map Value.int) h (some (.int z1), h1) ∧ aHp h1 ∧ nEv sc 100 144 (.ref 53 :: [x].map Value.int) h1 (some (.int z2), h2) ∧ jP h2 := by
  have hw : ∃ z1 h1 z2 h2, nEv sc 100 32 (.ref 0 :: [x].map Value.int) h (some (.int z1), h1) ∧ aHp h1 ∧ nEv sc 100 144 (.ref 53 :: [x].map Value.int) h1 (some (.int z2), h2) ∧ wP h2 := by
    obtain ⟨z1, h1, z2, h2, a1, a2, a3, a4⟩ := wEmb (sc := sc) x hp.1
    exact ⟨z1, h1, z2, h2, a1, a2, a3, a4⟩
  obtain ⟨z1, h1, z2, h2, a1, a2, a3, a4, f1, f2⟩ := pFrL (sc := sc) (tx := mMe32) (tm := mMe144) hw ((kM50 sc).mono (by decide)) rfl rfl rfl rfl rfl ((kM52 sc).mono (by decide)) rfl rfl rfl rfl rfl rfl (jP_a h hp)
  have c1 : lMiss kC50.2.2.2 = true := by decide +kernel
  have c2 : lMiss kC52.2.2.2 = true := by decide +kernel
  exact ⟨z1, h1, z2, h2, a1, a2, a3, a4, lP_fr (lP_fr hp.2 f1 c1) f2 c2⟩
theorem jStep {sc : List Int32} {h : mH} (x : Int32) (hp : jP h) : ∃ z1 h1 z2 h2, nEv sc 100 55 (.ref 0 :: [x].map Value.int) h (some (.int z1), h1) ∧ aHp h1 ∧ nEv sc 100 162 (.ref 53 :: [x].map Value.int) h1 (some (.int z2), h2) ∧ jP h2 := by
  have hw : ∃ z1 h1 z2 h2, nEv sc 100 55 (.ref 0 :: [x].map Value.int) h (some (.int z1), h1) ∧ aHp h1 ∧ nEv sc 100 162 (.ref 53 :: [x].map Value.int) h1 (some (.int z2), h2) ∧ wP h2 := by
    obtain ⟨z1, h1, z2, h2, a1, a2, a3, a4, -⟩ := wStep (sc := sc) x hp.1
    exact ⟨z1, h1, z2, h2, a1, a2, a3, a4⟩
  obtain ⟨z1, h1, z2, h2, a1, a2, a3, a4, f1, f2⟩ := pFrL (sc := sc) (tx := mMe55) (tm := mMe162) hw ((kM75 sc).mono (by decide)) rfl rfl rfl rfl rfl ((kM77 sc).mono (by decide)) rfl rfl rfl rfl rfl rfl (jP_a h hp)
  have c1 : lMiss kC75.2.2.2 = true := by decide +kernel
  have c2 : lMiss kC77.2.2.2 = true := by decide +kernel
  exact ⟨z1, h1, z2, h2, a1, a2, a3, a4, lP_fr (lP_fr hp.2 f1 c1) f2 c2⟩
theorem jMeet {sc : List Int32} {h : mH} (x y z : Int32) (hp : jP h) : ∃ z1 h1 z2 h2, nEv sc 100 59 (.ref 0 :: [x, y, z].map Value.int) h (some (.int z1), h1) ∧ aHp h1 ∧ nEv sc 100 167 (.ref 53 :: [x, y, z].map Value.int) h1 (some (.int z2), h2) ∧ jP h2 := by
  have hw : ∃ z1 h1 z2 h2, nEv sc 100 59 (.ref 0 :: [x, y, z].map Value.int) h (some (.int z1), h1) ∧ aHp h1 ∧ nEv sc 100 167 (.ref 53 :: [x, y, z].map Value.int) h1 (some (.int z2), h2) ∧ wP h2 := by
    obtain ⟨z1, h1, z2, h2, a1, a2, a3, a4, -⟩ := wMeet (sc := sc) x y z hp.1
    exact ⟨z1, h1, z2, h2, a1, a2, a3, a4⟩
  obtain ⟨z1, h1, z2, h2, a1, a2, a3, a4, f1, f2⟩ := pFrL (sc := sc) (tx := mMe59) (tm := mMe167) hw ((kM79 sc).mono (by decide)) rfl rfl rfl rfl rfl ((kM81 sc).mono (by decide)) rfl rfl rfl rfl rfl rfl (jP_a h hp)
  have c1 : lMiss kC79.2.2.2 = true := by decide +kernel
  have c2 : lMiss kC81.2.2.2 = true := by decide +kernel
  exact ⟨z1, h1, z2, h2, a1, a2, a3, a4, lP_fr (lP_fr hp.2 f1 c1) f2 c2⟩
theorem jTreat {sc : List Int32} {h : mH} (x y : Int32) (hp : jP h) : ∃ z1 h1 z2 h2, nEv sc 100 63 (.ref 0 :: [x, y].map Value.int) h (some (.int z1), h1) ∧ aHp h1 ∧ nEv sc 100 169 (.ref 53 :: [x, y].map Value.int) h1 (some (.int z2), h2) ∧ jP h2 := by
  have hw : ∃ z1 h1 z2 h2, nEv sc 100 63 (.ref 0 :: [x, y].map Value.int) h (some (.int z1), h1) ∧ aHp h1 ∧ nEv sc 100 169 (.ref 53 :: [x, y].map Value.int) h1 (some (.int z2), h2) ∧ wP h2 := by
    obtain ⟨z1, h1, z2, h2, a1, a2, a3, a4⟩ := wTreat (sc := sc) x y hp.1
    exact ⟨z1, h1, z2, h2, a1, a2, a3, a4⟩
  obtain ⟨z1, h1, z2, h2, a1, a2, a3, a4, f1, f2⟩ := pFrL (sc := sc) (tx := mMe63) (tm := mMe169) hw ((kM84 sc).mono (by decide)) rfl rfl rfl rfl rfl ((kM87 sc).mono (by decide)) rfl rfl rfl rfl rfl rfl (jP_a h hp)
  have c1 : lMiss kC84.2.2.2 = true := by decide +kernel
  have c2 : lMiss kC87.2.2.2 = true := by decide +kernel
  exact ⟨z1, h1, z2, h2, a1, a2, a3, a4, lP_fr (lP_fr hp.2 f1 c1) f2 c2⟩
theorem jUndo {sc : List Int32} {h : mH} (x : Int32) (hp : jP h) : ∃ z1 h1 z2 h2, nEv sc 100 70 (.ref 0 :: [x].map Value.int) h (some (.int z1), h1) ∧ aHp h1 ∧ nEv sc 100 176 (.ref 53 :: [x].map Value.int) h1 (some (.int z2), h2) ∧ jP h2 := by
  have hw : ∃ z1 h1 z2 h2, nEv sc 100 70 (.ref 0 :: [x].map Value.int) h (some (.int z1), h1) ∧ aHp h1 ∧ nEv sc 100 176 (.ref 53 :: [x].map Value.int) h1 (some (.int z2), h2) ∧ wP h2 := by
    obtain ⟨z1, h1, z2, h2, a1, a2, a3, a4⟩ := wUndo (sc := sc) x hp.1
    exact ⟨z1, h1, z2, h2, a1, a2, a3, a4⟩
  obtain ⟨z1, h1, z2, h2, a1, a2, a3, a4, f1, f2⟩ := pFrL (sc := sc) (tx := mMe70) (tm := mMe176) hw ((kM89 sc).mono (by decide)) rfl rfl rfl rfl rfl ((kM90 sc).mono (by decide)) rfl rfl rfl rfl rfl rfl (jP_a h hp)
  have c1 : lMiss kC89.2.2.2 = true := by decide +kernel
  have c2 : lMiss kC90.2.2.2 = true := by decide +kernel
  exact ⟨z1, h1, z2, h2, a1, a2, a3, a4, lP_fr (lP_fr hp.2 f1 c1) f2 c2⟩
theorem jKeep {sc : List Int32} {h : mH} (x : Int32) (hp : jP h) : ∃ z1 h1 z2 h2, nEv sc 100 72 (.ref 0 :: [x].map Value.int) h (some (.int z1), h1) ∧ aHp h1 ∧ nEv sc 100 178 (.ref 53 :: [x].map Value.int) h1 (some (.int z2), h2) ∧ jP h2 := by
  have hw : ∃ z1 h1 z2 h2, nEv sc 100 72 (.ref 0 :: [x].map Value.int) h (some (.int z1), h1) ∧ aHp h1 ∧ nEv sc 100 178 (.ref 53 :: [x].map Value.int) h1 (some (.int z2), h2) ∧ wP h2 := by
    obtain ⟨z1, h1, z2, h2, a1, a2, a3, a4, -⟩ := wKeep (sc := sc) x hp.1
    exact ⟨z1, h1, z2, h2, a1, a2, a3, a4⟩
  obtain ⟨z1, h1, z2, h2, a1, a2, a3, a4, f1, f2⟩ := pFrL (sc := sc) (tx := mMe72) (tm := mMe178) hw ((kM91 sc).mono (by decide)) rfl rfl rfl rfl rfl ((kM95 sc).mono (by decide)) rfl rfl rfl rfl rfl rfl (jP_a h hp)
  have c1 : lMiss kC91.2.2.2 = true := by decide +kernel
  have c2 : lMiss kC95.2.2.2 = true := by decide +kernel
  exact ⟨z1, h1, z2, h2, a1, a2, a3, a4, lP_fr (lP_fr hp.2 f1 c1) f2 c2⟩
theorem jOn {sc : List Int32} {h : mH} (x : Int32) (hp : jP h) : ∃ z1 h1 z2 h2, nEv sc 100 74 (.ref 0 :: [x].map Value.int) h (some (.int z1), h1) ∧ aHp h1 ∧ nEv sc 100 179 (.ref 53 :: [x].map Value.int) h1 (some (.int z2), h2) ∧ jP h2 := by
  have hw : ∃ z1 h1 z2 h2, nEv sc 100 74 (.ref 0 :: [x].map Value.int) h (some (.int z1), h1) ∧ aHp h1 ∧ nEv sc 100 179 (.ref 53 :: [x].map Value.int) h1 (some (.int z2), h2) ∧ wP h2 := by
    obtain ⟨z1, h1, z2, h2, a1, a2, a3, a4, -⟩ := wOn (sc := sc) x hp.1
    exact ⟨z1, h1, z2, h2, a1, a2, a3, a4⟩
  obtain ⟨z1, h1, z2, h2, a1, a2, a3, a4, f1, f2⟩ := pFrL (sc := sc) (tx := mMe74) (tm := mMe179) hw ((kM96 sc).mono (by decide)) rfl rfl rfl rfl rfl ((kM100 sc).mono (by decide)) rfl rfl rfl rfl rfl rfl (jP_a h hp)
  have c1 : lMiss kC96.2.2.2 = true := by decide +kernel
  have c2 : lMiss kC100.2.2.2 = true := by decide +kernel
  exact ⟨z1, h1, z2, h2, a1, a2, a3, a4, lP_fr (lP_fr hp.2 f1 c1) f2 c2⟩
theorem jLotsP {sc : List Int32} {h : mH} (x y : Int32) (hp : jP h) : ∃ z1 h1 z2 h2, nEv sc 100 108 (.ref 0 :: [x, y].map Value.int) h (some (.int z1), h1) ∧ aHp h1 ∧ nEv sc 100 212 (.ref 53 :: [x, y].map Value.int) h1 (some (.int z2), h2) ∧ jP h2 := by
  have hw : ∃ z1 h1 z2 h2, nEv sc 100 108 (.ref 0 :: [x, y].map Value.int) h (some (.int z1), h1) ∧ aHp h1 ∧ nEv sc 100 212 (.ref 53 :: [x, y].map Value.int) h1 (some (.int z2), h2) ∧ wP h2 := by
    obtain ⟨z1, h1, z2, h2, a1, a2, a3, a4⟩ := wLotsP (sc := sc) x y hp.1
    exact ⟨z1, h1, z2, h2, a1, a2, a3, a4⟩
  obtain ⟨z1, h1, z2, h2, a1, a2, a3, a4, f1, f2⟩ := pFrL (sc := sc) (tx := mMe108) (tm := mMe212) hw ((kM286 sc).mono (by decide)) rfl rfl rfl rfl rfl ((kM287 sc).mono (by decide)) rfl rfl rfl rfl rfl rfl (jP_a h hp)
  have c1 : lMiss kC286.2.2.2 = true := by decide +kernel
  have c2 : lMiss kC287.2.2.2 = true := by decide +kernel
  exact ⟨z1, h1, z2, h2, a1, a2, a3, a4, lP_fr (lP_fr hp.2 f1 c1) f2 c2⟩
theorem jMtg {sc : List Int32} {h : mH} (x y z : Int32) (hp : jP h) : ∃ z1 h1 z2 h2, nEv sc 100 88 (.ref 0 :: [x, y, z].map Value.int) h (some (.int z1), h1) ∧ aHp h1 ∧ nEv sc 100 194 (.ref 53 :: [x, y, z].map Value.int) h1 (some (.int z2), h2) ∧ jP h2 := by
  have hw : ∃ z1 h1 z2 h2, nEv sc 100 88 (.ref 0 :: [x, y, z].map Value.int) h (some (.int z1), h1) ∧ aHp h1 ∧ nEv sc 100 194 (.ref 53 :: [x, y, z].map Value.int) h1 (some (.int z2), h2) ∧ wP h2 := by
    obtain ⟨z1, h1, z2, h2, a1, a2, a3, a4⟩ := wMtg (sc := sc) x y z hp.1
    exact ⟨z1, h1, z2, h2, a1, a2, a3, a4⟩
  obtain ⟨z1, h1, z2, h2, a1, a2, a3, a4, f1, f2⟩ := pFrL (sc := sc) (tx := mMe88) (tm := mMe194) hw ((kM176 sc).mono (by decide)) rfl rfl rfl rfl rfl ((kM177 sc).mono (by decide)) rfl rfl rfl rfl rfl rfl (jP_a h hp)
  have c1 : lMiss kC176.2.2.2 = true := by decide +kernel
  have c2 : lMiss kC177.2.2.2 = true := by decide +kernel
  exact ⟨z1, h1, z2, h2, a1, a2, a3, a4, lP_fr (lP_fr hp.2 f1 c1) f2 c2⟩
theorem jFits {sc : List Int32} {h : mH} (x y z : Int32) (hp : jP h) : ∃ z1 h1 z2 h2, nEv sc 100 91 (.ref 0 :: [x, y, z].map Value.int) h (some (.int z1), h1) ∧ aHp h1 ∧ nEv sc 100 195 (.ref 53 :: [x, y, z].map Value.int) h1 (some (.int z2), h2) ∧ jP h2 := by
  have hw : ∃ z1 h1 z2 h2, nEv sc 100 91 (.ref 0 :: [x, y, z].map Value.int) h (some (.int z1), h1) ∧ aHp h1 ∧ nEv sc 100 195 (.ref 53 :: [x, y, z].map Value.int) h1 (some (.int z2), h2) ∧ wP h2 := by
    obtain ⟨z1, h1, z2, h2, a1, a2, a3, a4⟩ := wFits (sc := sc) x y z hp.1
    exact ⟨z1, h1, z2, h2, a1, a2, a3, a4⟩
  obtain ⟨z1, h1, z2, h2, a1, a2, a3, a4, f1, f2⟩ := pFrL (sc := sc) (tx := mMe91) (tm := mMe195) hw ((kM190 sc).mono (by decide)) rfl rfl rfl rfl rfl ((kM192 sc).mono (by decide)) rfl rfl rfl rfl rfl rfl (jP_a h hp)
  have c1 : lMiss kC190.2.2.2 = true := by decide +kernel
  have c2 : lMiss kC192.2.2.2 = true := by decide +kernel
  exact ⟨z1, h1, z2, h2, a1, a2, a3, a4, lP_fr (lP_fr hp.2 f1 c1) f2 c2⟩
def yT : List aCt := [kC6, kC7, kC8, kC9, kC10, kC11, kC12, kC13, kC14, kC15, kC22, kC23, kC45, kC49, kC56, kC61, kC62, kC63, kC68, kC72, kC101, kC102, kC103, kC105, kC108, kC110, kC111, kC112, kC113, kC114, kC115, kC116, kC166, kC172, kC176, kC193, kC194, kC196, kC197, kC200, kC202, kC203, kC204, kC210, kC211, kC288, kC289, kC290, kC291, kC292, kC293, kC298, kC300, kC301, kC302, kC303, kC304, kC316, kC317]
set_option maxRecDepth 100000 in
theorem yT_ok (sc : List Int32) : ∀ c ∈ yT, nMe sc 81 c := by
  unfold yT
  exact List.forall_mem_cons.mpr ⟨(kM6 sc).mono (by decide), List.forall_mem_cons.mpr ⟨(kM7 sc).mono (by decide), List.forall_mem_cons.mpr ⟨(kM8 sc).mono (by decide), List.forall_mem_cons.mpr ⟨(kM9 sc).mono (by decide), List.forall_mem_cons.mpr ⟨(kM10 sc).mono (by decide), List.forall_mem_cons.mpr ⟨(kM11 sc).mono (by decide), List.forall_mem_cons.mpr ⟨(kM12 sc).mono (by decide), List.forall_mem_cons.mpr ⟨(kM13 sc).mono (by decide), List.forall_mem_cons.mpr ⟨(kM14 sc).mono (by decide), List.forall_mem_cons.mpr ⟨(kM15 sc).mono (by decide), List.forall_mem_cons.mpr ⟨(kM22 sc).mono (by decide), List.forall_mem_cons.mpr ⟨(kM23 sc).mono (by decide), List.forall_mem_cons.mpr ⟨(kM45 sc).mono (by decide), List.forall_mem_cons.mpr ⟨(kM49 sc).mono (by decide), List.forall_mem_cons.mpr ⟨(kM56 sc).mono (by decide), List.forall_mem_cons.mpr ⟨(kM61 sc).mono (by decide), List.forall_mem_cons.mpr ⟨(kM62 sc).mono (by decide), List.forall_mem_cons.mpr ⟨(kM63 sc).mono (by decide), List.forall_mem_cons.mpr ⟨(kM68 sc).mono (by decide), List.forall_mem_cons.mpr ⟨(kM72 sc).mono (by decide), List.forall_mem_cons.mpr ⟨(kM101 sc).mono (by decide), List.forall_mem_cons.mpr ⟨(kM102 sc).mono (by decide), List.forall_mem_cons.mpr ⟨(kM103 sc).mono (by decide), List.forall_mem_cons.mpr ⟨(kM105 sc).mono (by decide), List.forall_mem_cons.mpr ⟨(kM108 sc).mono (by decide), List.forall_mem_cons.mpr ⟨(kM110 sc).mono (by decide), List.forall_mem_cons.mpr ⟨(kM111 sc).mono (by decide), List.forall_mem_cons.mpr ⟨(kM112 sc).mono (by decide), List.forall_mem_cons.mpr ⟨(kM113 sc).mono (by decide), List.forall_mem_cons.mpr ⟨(kM114 sc).mono (by decide), List.forall_mem_cons.mpr ⟨(kM115 sc).mono (by decide), List.forall_mem_cons.mpr ⟨(kM116 sc).mono (by decide), List.forall_mem_cons.mpr ⟨(kM166 sc).mono (by decide), List.forall_mem_cons.mpr ⟨(kM172 sc).mono (by decide), List.forall_mem_cons.mpr ⟨(kM176 sc).mono (by decide), List.forall_mem_cons.mpr ⟨(kM193 sc).mono (by decide), List.forall_mem_cons.mpr ⟨(kM194 sc).mono (by decide), List.forall_mem_cons.mpr ⟨(kM196 sc).mono (by decide), List.forall_mem_cons.mpr ⟨(kM197 sc).mono (by decide), List.forall_mem_cons.mpr ⟨(kM200 sc).mono (by decide), List.forall_mem_cons.mpr ⟨(kM202 sc).mono (by decide), List.forall_mem_cons.mpr ⟨(kM203 sc).mono (by decide), List.forall_mem_cons.mpr ⟨(kM204 sc).mono (by decide), List.forall_mem_cons.mpr ⟨(kM210 sc).mono (by decide), List.forall_mem_cons.mpr ⟨(kM211 sc).mono (by decide), List.forall_mem_cons.mpr ⟨(kM288 sc).mono (by decide), List.forall_mem_cons.mpr ⟨(kM289 sc).mono (by decide), List.forall_mem_cons.mpr ⟨(kM290 sc).mono (by decide), List.forall_mem_cons.mpr ⟨(kM291 sc).mono (by decide), List.forall_mem_cons.mpr ⟨(kM292 sc).mono (by decide), List.forall_mem_cons.mpr ⟨(kM293 sc).mono (by decide), List.forall_mem_cons.mpr ⟨(kM298 sc).mono (by decide), List.forall_mem_cons.mpr ⟨(kM300 sc).mono (by decide), List.forall_mem_cons.mpr ⟨(kM301 sc).mono (by decide), List.forall_mem_cons.mpr ⟨(kM302 sc).mono (by decide), List.forall_mem_cons.mpr ⟨(kM303 sc).mono (by decide), List.forall_mem_cons.mpr ⟨(kM304 sc).mono (by decide), List.forall_mem_cons.mpr ⟨(kM316 sc).mono (by decide), List.forall_mem_cons.mpr ⟨(kM317 sc).mono (by decide), List.forall_mem_nil _⟩⟩⟩⟩⟩⟩⟩⟩⟩⟩⟩⟩⟩⟩⟩⟩⟩⟩⟩⟩⟩⟩⟩⟩⟩⟩⟩⟩⟩⟩⟩⟩⟩⟩⟩⟩⟩⟩⟩⟩⟩⟩⟩⟩⟩⟩⟩⟩⟩⟩⟩⟩⟩⟩⟩⟩⟩⟩⟩
set_option maxRecDepth 100000 in
theorem yT_z : yT.all (fun c => wMiss c.2.2.2 && lMiss c.2.2.2) = true := by decide +kernel
/-! the start -/
def tEqJ (h : mH) (a i b j : Nat) : Bool := match aSlot h a i, aSlot h b j with
  | some (.long x), some (.long y) => decide (x = y)
  | _, _ => false
theorem tEqJ_ok {h : mH} {a i b j : Nat} (hz : tEqJ h a i b j = true) : aSlot h a i = aSlot h b j := by
  unfold tEqJ at hz
  split at hz
  · rename_i x y e1 e2
    rw [e1, e2, of_decide_eq_true hz]
  · cases hz
def lB6 : Bool := match qPre 10 (0, mEntL 4 [.retAddr 0], [], []) with
  | some g => tEqJ g.2.2.2 0 10 53 9 && tEqJ g.2.2.2 0 11 53 10
  | none => false
set_option maxRecDepth 100000 in
theorem lB6_ok : lB6 = true := by decide +kernel
theorem lBegin6 {sc : List Int32} {D : Nat} (hD : 10 ≤ D) : ∃ h, jP h ∧ ∀ r, nRn sc D (some .boolean) mLaw (10, lM 0, [], h) r → nRn sc D (some .boolean) mLaw (0, mEntL 4 [.retAddr 0], [], []) r := by
  have h0 := lB3_ok
  have k0 := lB4_ok
  have j0 := lB6_ok
  unfold lB3 at h0
  unfold lB4 at k0
  unfold lB6 at j0
  split at h0
  · rename_i g hg
    rw [hg] at k0 j0
    obtain ⟨i, L, st, h⟩ := g
    simp only [Bool.and_eq_true, decide_eq_true_eq, List.isEmpty_iff] at h0
    obtain ⟨e1, e2, e3, e4, e5, e7, e8⟩ := h0
    subst e1 e2 e3
    simp only [Bool.and_eq_true] at k0
    obtain ⟨k1, k2, k3, k4, k5⟩ := k0
    rw [Bool.and_eq_true] at j0
    have mz : ∀ m, m < 201 → hI h 58 m = 0 := fun m hm => uZ_i (List.all_eq_true.mp k5 m (List.mem_range.mpr hm))
    have x3 := uZ_i k1
    have x4 := uZ_i k2
    have x5 := uZ_i k3
    have x6 := zL0_ok k4
    refine ⟨h, ⟨?_, tEqJ_ok j0.1, tEqJ_ok j0.2⟩, fun r hr => qPre_ok hD 10 _ _ hg hr⟩
    refine ⟨⟨aHpB_ok e4, fun c hc => ?_⟩, ⟨?_, ?_, ?_, fun a ha => ?_, ?_, ?_, fun i hi => ?_⟩, fun k hk => Or.inl ?_⟩
    · have e6 := List.all_eq_true.mp e5 c (List.mem_range.mpr hc)
      rw [Bool.and_eq_true] at e6
      exact ⟨tEqB_ok e6.1, fun j hj => tEqB_ok (List.all_eq_true.mp e6.2 j (List.mem_range.mpr hj))⟩
    · rw [x3, mz 0 (by omega)]
    · rw [x4, mz 43 (by omega)]
    · rw [x5, mz 80 (by omega)]
    · rw [x3] at ha
      omega
    · rw [x6]
      exact tR_zero (fun j hj => mz _ (by omega))
    · rw [x4]
      exact Int.natCast_pos.mpr (Nat.two_pow_pos _)
    · rw [x5] at hi
      omega
    · have e6 := List.all_eq_true.mp e8 k (List.mem_range.mpr hk)
      rw [Bool.and_eq_true] at e6
      exact ⟨uZ_i e6.1, uZ_i e6.2⟩
  · cases h0
