/-! fewest meetings: what may be met, what it costs -/
theorem gD_up {G : Nat → Int} {i v j : Nat} : gUp G i v j = if j = i then (v : Int) else G j := rfl
def alW (G : Nat → Int) (a s n : Nat) (X : Nat → Int) : Prop := (∀ j, j < 36 → 0 ≤ X j ∧ X j ≤ 9) ∧ ∀ b, b < n → b ≠ a → bt s b = true → G (6 * a + b) ≠ 0 → X (6 * a + b) = G (6 * a + b)
def coW (G : Nat → Int) (a s : Nat) (X : Nat → Int) : Nat → Nat
  | 0 => 0
  | b + 1 => coW G a s X b + (if b ≠ a ∧ bt s b = true ∧ G (6 * a + b) = 0 ∧ X (6 * a + b) ≠ 0 then 1 else 0)
def ctW (a s : Nat) : Nat → Nat
  | 0 => 0
  | b + 1 => if b ≠ a ∧ bt s b = true then ctW a s b + 1 else ctW a s b
theorem sF_ctW (X : Nat → Int) (kd a s : Nat) : ∀ j, (sF X kd a s j).2 = ctW a s j
  | 0 => rfl
  | j + 1 => by
    have ih := sF_ctW X kd a s j
    unfold sF ctW
    split
    · show (sF X kd a s j).2 + 1 = ctW a s j + 1
      omega
    · exact ih
theorem ctW_le (a s : Nat) : ∀ j, ctW a s j ≤ j
  | 0 => Nat.le_refl _
  | j + 1 => by
    have := ctW_le a s j
    unfold ctW
    split <;> omega
theorem coW_le (G : Nat → Int) (a s : Nat) (X : Nat → Int) : ∀ j, coW G a s X j ≤ j
  | 0 => Nat.le_refl _
  | j + 1 => by
    have := coW_le G a s X j
    unfold coW
    split <;> omega
theorem sF_rel {X Y : Nat → Int} {kd a s : Nat} : ∀ j, (∀ b, b < j → b ≠ a → bt s b = true → X (6 * a + b) = Y (6 * a + b)) → sF X kd a s j = sF Y kd a s j
  | 0, _ => rfl
  | j + 1, h => by
    have ih := sF_rel (kd := kd) j (fun b hb => h b (by omega))
    unfold sF
    rw [ih]
    split
    · rename_i c
      rw [h j (by omega) c.1 c.2]
    · rfl
theorem coW_rel {G X Y : Nat → Int} {a s : Nat} : ∀ j, (∀ b, b < j → b ≠ a → bt s b = true → X (6 * a + b) = Y (6 * a + b)) → coW G a s X j = coW G a s Y j
  | 0, _ => rfl
  | j + 1, h => by
    have ih := coW_rel (G := G) j (fun b hb => h b (by omega))
    unfold coW
    rw [ih]
    by_cases c : j ≠ a ∧ bt s j = true
    · rw [h j (by omega) c.1 c.2]
    · rw [if_neg (fun q => c ⟨q.1, q.2.1⟩), if_neg (fun q => c ⟨q.1, q.2.1⟩)]
/-- what the table holds, with those ahead of j folded -/
def dpW (G : Nat → Int) (kd a s n j : Nat) (L : Nat → Nat) : Prop := (∀ f, L f ≤ 100) ∧ (∀ f, f < 55 → L f < 100 → ∃ X, alW G a s n X ∧ (sF X kd a s j).1 = (f : Int) ∧ coW G a s X j = L f) ∧ ∀ X f, alW G a s n X → (sF X kd a s j).1 = ((f : Nat) : Int) → L f ≤ coW G a s X j
section DPW
variable {G : Nat → Int} {kd a s n : Nat}
theorem dp_0 (hG : ∀ j, j < 36 → 0 ≤ G j ∧ G j ≤ 9) : dpW G kd a s n 0 (fun f => if f = 0 then 0 else 100) := by
  refine ⟨fun f => ?_, fun f hf hl => ?_, fun X f hX hs => ?_⟩
  · show (if f = 0 then 0 else 100) ≤ 100
    split <;> omega
  · have hl : (if f = 0 then 0 else 100) < 100 := hl
    by_cases e : f = 0
    · refine ⟨G, ⟨hG, fun b _ _ _ _ => rfl⟩, by rw [e]; rfl, ?_⟩
      show 0 = (if f = 0 then 0 else 100)
      rw [if_pos e]
    · rw [if_neg e] at hl
      omega
  · have hs : (0 : Int) = (f : Int) := hs
    show (if f = 0 then 0 else 100) ≤ 0
    rw [if_pos (by omega)]
    exact Nat.le_refl _
theorem dp_cg {j : Nat} {L L1 : Nat → Nat} (h : dpW G kd a s n j L) (e : ∀ f, L1 f = L f) : dpW G kd a s n j L1 := by
  have : L1 = L := funext e
  rw [this]
  exact h
theorem dp_skip {j : Nat} {L : Nat → Nat} (h : dpW G kd a s n j L) (hc : ¬ (j ≠ a ∧ bt s j = true)) : dpW G kd a s n (j + 1) L := by
  have e1 : ∀ X, sF X kd a s (j + 1) = sF X kd a s j := fun X => by
    show (if j ≠ a ∧ bt s j = true then _ else _) = _
    rw [if_neg hc]
  have e2 : ∀ X, coW G a s X (j + 1) = coW G a s X j := fun X => by
    show coW G a s X j + (if j ≠ a ∧ bt s j = true ∧ G (6 * a + j) = 0 ∧ X (6 * a + j) ≠ 0 then 1 else 0) = _
    rw [if_neg (fun q => hc ⟨q.1, q.2.1⟩)]
    rfl
  refine ⟨h.1, fun f hf hl => ?_, fun X f hX hs => ?_⟩
  · obtain ⟨X, x1, x2, x3⟩ := h.2.1 f hf hl
    exact ⟨X, x1, by rw [e1]; exact x2, by rw [e2]; exact x3⟩
  · rw [e1] at hs
    rw [e2]
    exact h.2.2 X f hX hs
theorem dp_fold {j lk gr : Nat} {B L : Nat → Nat} (hj : j < n) (hn : n ≤ 6) (ha : a < 6) (hc : j ≠ a ∧ bt s j = true) (h : dpW G kd a s n j B) (hl : G (6 * a + j) = (lk : Int)) (hl9 : lk ≤ 9) (hg : gr = if lk = 0 then 9 else lk) (p1 : ∀ g, L g ≤ 100)
    (p2 : ∀ g, g < 55 → L g < 100 → ∃ f made : Nat, f < 55 ∧ B f < 100 ∧ lk ≤ made ∧ made ≤ gr ∧ pFo kd (f : Int) (made : Int) (decide (ctW a s j = 0)) = (g : Int) ∧ L g = B f + (if made = lk then 0 else 1))
    (p3 : ∀ f made g : Nat, f < 55 → B f < 100 → lk ≤ made → made ≤ gr → pFo kd (f : Int) (made : Int) (decide (ctW a s j = 0)) = (g : Int) → g < 55 → L g ≤ B f + (if made = lk then 0 else 1)) : dpW G kd a s n (j + 1) L := by
  have e1 : ∀ X, (sF X kd a s (j + 1)).1 = pFo kd (sF X kd a s j).1 (X (6 * a + j)) (decide (ctW a s j = 0)) := fun X => by
    rw [← sF_ctW X kd a s j]
    show (if j ≠ a ∧ bt s j = true then _ else _ : Int × Nat).1 = _
    rw [if_pos hc]
  have e2 : ∀ X, coW G a s X (j + 1) = coW G a s X j + (if lk = 0 ∧ X (6 * a + j) ≠ 0 then 1 else 0) := fun X => by
    show coW G a s X j + (if j ≠ a ∧ bt s j = true ∧ G (6 * a + j) = 0 ∧ X (6 * a + j) ≠ 0 then 1 else 0) = _
    rw [hl]
    by_cases q : lk = 0 ∧ X (6 * a + j) ≠ 0
    · rw [if_pos q, if_pos ⟨hc.1, hc.2, by omega, q.2⟩]
    · rw [if_neg q, if_neg (fun w => q ⟨by omega, w.2.2.2⟩)]
  refine ⟨p1, fun g hgl hlt => ?_, fun X g hX hs => ?_⟩
  · obtain ⟨f, made, m1, m2, m3, m4, m5, m6⟩ := p2 g hgl hlt
    obtain ⟨X, x1, x2, x3⟩ := h.2.1 f m1 m2
    have mg : made ≤ 9 := by
      rw [hg] at m4
      split at m4 <;> omega
    have rl : ∀ b, b < j → b ≠ a → bt s b = true → (fun i => if i = 6 * a + j then (made : Int) else X i) (6 * a + b) = X (6 * a + b) := fun b hb _ _ => by
      show (if 6 * a + b = 6 * a + j then (made : Int) else X (6 * a + b)) = X (6 * a + b)
      rw [if_neg (by omega)]
    have xj : (if 6 * a + j = 6 * a + j then (made : Int) else X (6 * a + j)) = (made : Int) := if_pos rfl
    refine ⟨fun i => if i = 6 * a + j then (made : Int) else X i, ⟨fun i hi => ?_, fun b hb hba hbs hb0 => ?_⟩, ?_, ?_⟩
    · show 0 ≤ (if i = 6 * a + j then (made : Int) else X i) ∧ (if i = 6 * a + j then (made : Int) else X i) ≤ 9
      have := x1.1 i hi
      split <;> omega
    · show (if 6 * a + b = 6 * a + j then (made : Int) else X (6 * a + b)) = G (6 * a + b)
      by_cases e : b = j
      · subst e
        rw [if_pos rfl, hl]
        have l0 : lk ≠ 0 := fun q => hb0 (by rw [hl, q]; rfl)
        rw [hg, if_neg l0] at m4
        omega
      · rw [if_neg (by omega)]
        exact x1.2 b hb hba hbs hb0
    · rw [e1, sF_rel (kd := kd) j rl, x2, xj]
      exact m5
    · rw [e2, coW_rel (G := G) j rl, x3, m6, xj]
      by_cases q : made = lk
      · rw [if_pos q, if_neg (fun w => w.2 (by omega))]
      · rw [if_neg q]
        have l0 : lk = 0 := by
          by_cases l0 : lk = 0
          · exact l0
          · rw [hg, if_neg l0] at m4
            omega
        rw [if_pos ⟨l0, by omega⟩]
  · have r1 := sF_rg (s := s) hX.1 ha kd j (by omega)
    have r2 := sF_rg (s := s) hX.1 ha kd (j + 1) (by omega)
    have rX := hX.1 (6 * a + j) (by omega)
    obtain ⟨f, ef⟩ : ∃ f : Nat, (sF X kd a s j).1 = (f : Int) := ⟨(sF X kd a s j).1.toNat, by omega⟩
    obtain ⟨made, em⟩ : ∃ made : Nat, X (6 * a + j) = (made : Int) := ⟨(X (6 * a + j)).toNat, by omega⟩
    have hb := h.2.2 X f hX ef
    have cl := coW_le G a s X j
    have q1 : lk ≤ made ∧ made ≤ gr := by
      by_cases l0 : lk = 0
      · rw [hg, if_pos l0]
        omega
      · have := hX.2 j hj hc.1 hc.2 (by rw [hl]; omega)
        rw [hl, em] at this
        rw [hg, if_neg l0]
        omega
    rw [e1, ef, em] at hs
    have q2 := p3 f made g (by omega) (by omega) q1.1 q1.2 hs (by
      have := e1 X
      rw [ef, em] at this
      omega)
    rw [e2, em]
    by_cases q : made = lk
    · rw [if_pos q] at q2
      omega
    · rw [if_neg q] at q2
      have l0 : lk = 0 := by
        by_cases l0 : lk = 0
        · exact l0
        · rw [hg, if_neg l0] at q1
          omega
      rw [if_pos ⟨l0, by omega⟩]
      omega
/-- the table over looks that agree on those who count -/
theorem dp_tr {G1 : Nat → Int} {j : Nat} {L : Nat → Nat} (hG : ∀ b, b < n → G1 (6 * a + b) = G (6 * a + b)) (hj : j ≤ n) (h : dpW G kd a s n j L) : dpW G1 kd a s n j L := by
  have e1 : ∀ X, alW G1 a s n X → alW G a s n X := fun X hX => ⟨hX.1, fun b hb hba hbs h0 => by rw [← hG b hb]; exact hX.2 b hb hba hbs (by rw [hG b hb]; exact h0)⟩
  have e2 : ∀ X, alW G a s n X → alW G1 a s n X := fun X hX => ⟨hX.1, fun b hb hba hbs h0 => by rw [hG b hb]; exact hX.2 b hb hba hbs (by rw [← hG b hb]; exact h0)⟩
  have e3 : ∀ X i, i ≤ n → coW G1 a s X i = coW G a s X i := by
    intro X i
    induction i with
    | zero => intro _; rfl
    | succ i ih =>
      intro hi
      show coW G1 a s X i + (if i ≠ a ∧ bt s i = true ∧ G1 (6 * a + i) = 0 ∧ X (6 * a + i) ≠ 0 then 1 else 0) = coW G a s X i + (if i ≠ a ∧ bt s i = true ∧ G (6 * a + i) = 0 ∧ X (6 * a + i) ≠ 0 then 1 else 0)
      rw [ih (by omega), hG i (by omega)]
  refine ⟨h.1, fun f hf hl => ?_, fun X f hX hs => ?_⟩
  · obtain ⟨X, x1, x2, x3⟩ := h.2.1 f hf hl
    exact ⟨X, e2 X x1, x2, by rw [e3 X j hj]; exact x3⟩
  · rw [e3 X j hj]
    exact h.2.2 X f (e1 X hX) hs
/-- the least of those that tell v -/
def beW (L : Nat → Nat) (kd m : Nat) (v : Int) : Nat → Nat
  | 0 => 100
  | f + 1 => if pTe kd (f : Int) m = v then min (beW L kd m v f) (L f) else beW L kd m v f
theorem beW_le {L : Nat → Nat} (hL : ∀ f, L f ≤ 100) (kd m : Nat) (v : Int) : ∀ c, beW L kd m v c ≤ 100 ∧ ∀ f, f < c → pTe kd (f : Int) m = v → beW L kd m v c ≤ L f
  | 0 => ⟨Nat.le_refl _, fun f hf => by omega⟩
  | c + 1 => by
    obtain ⟨h1, h2⟩ := beW_le hL kd m v c
    have e : beW L kd m v (c + 1) = if pTe kd (c : Int) m = v then min (beW L kd m v c) (L c) else beW L kd m v c := rfl
    rw [e]
    by_cases q : pTe kd (c : Int) m = v
    · rw [if_pos q]
      refine ⟨by omega, fun f hf hv => ?_⟩
      by_cases w : f = c
      · rw [w]
        omega
      · have := h2 f (by omega) hv
        omega
    · rw [if_neg q]
      refine ⟨h1, fun f hf hv => ?_⟩
      by_cases w : f = c
      · rw [w] at hv
        exact absurd hv q
      · exact h2 f (by omega) hv
theorem beW_at (L : Nat → Nat) (kd m : Nat) (v : Int) : ∀ c, beW L kd m v c = 100 ∨ ∃ f, f < c ∧ pTe kd (f : Int) m = v ∧ beW L kd m v c = L f
  | 0 => Or.inl rfl
  | c + 1 => by
    have e : beW L kd m v (c + 1) = if pTe kd (c : Int) m = v then min (beW L kd m v c) (L c) else beW L kd m v c := rfl
    rw [e]
    by_cases q : pTe kd (c : Int) m = v
    · rw [if_pos q]
      by_cases w : beW L kd m v c ≤ L c
      · rw [Nat.min_eq_left w]
        rcases beW_at L kd m v c with k | ⟨f, f1, f2, f3⟩
        · exact Or.inl k
        · exact Or.inr ⟨f, by omega, f2, f3⟩
      · rw [Nat.min_eq_right (by omega)]
        exact Or.inr ⟨c, by omega, q, rfl⟩
    · rw [if_neg q]
      rcases beW_at L kd m v c with k | ⟨f, f1, f2, f3⟩
      · exact Or.inl k
      · exact Or.inr ⟨f, by omega, f2, f3⟩
theorem dp_best {L : Nat → Nat} {v : Int} (ha : a < 6) (hn : n ≤ 6) (h : dpW G kd a s n n L) : (beW L kd (ctW a s n) v 55 < 100 → ∃ X, alW G a s n X ∧ pSeem X n kd a s = v ∧ coW G a s X n = beW L kd (ctW a s n) v 55) ∧ ∀ X, alW G a s n X → pSeem X n kd a s = v → beW L kd (ctW a s n) v 55 ≤ coW G a s X n := by
  refine ⟨fun hb => ?_, fun X hX hv => ?_⟩
  · rcases beW_at L kd (ctW a s n) v 55 with q | ⟨f, f1, f2, f3⟩
    · omega
    · obtain ⟨X, x1, x2, x3⟩ := h.2.1 f f1 (by omega)
      refine ⟨X, x1, ?_, by omega⟩
      unfold pSeem
      rw [x2, sF_ctW]
      exact f2
  · have r1 := sF_rg (s := s) hX.1 ha kd n (by omega)
    obtain ⟨f, ef⟩ : ∃ f : Nat, (sF X kd a s n).1 = (f : Int) := ⟨(sF X kd a s n).1.toNat, by omega⟩
    have q := h.2.2 X f hX ef
    unfold pSeem at hv
    rw [ef, sF_ctW] at hv
    have := (beW_le h.1 kd (ctW a s n) v 55).2 f (by omega) hv
    omega
end DPW
/-! the codes of the reference -/
theorem mD_top : ∀ (m x : Nat), mD (m + 1) x = mD m x + (if 0 < x / 10 ^ m % 10 then 1 else 0)
  | 0, x => by
    show (if 0 < x % 10 then 1 else 0) + 0 = 0 + (if 0 < x / 10 ^ 0 % 10 then 1 else 0)
    rw [Nat.pow_zero, Nat.div_one]
    omega
  | m + 1, x => by
    have ih := mD_top m (x / 10)
    show (if 0 < x % 10 then 1 else 0) + mD (m + 1) (x / 10) = (if 0 < x % 10 then 1 else 0) + mD m (x / 10) + (if 0 < x / 10 ^ (m + 1) % 10 then 1 else 0)
    rw [ih, Nat.div_div_eq_div_mul, show 10 * 10 ^ m = 10 ^ (m + 1) by rw [Nat.pow_succ, Nat.mul_comm]]
    omega
theorem gD_at {l : List Nat} {a : Nat} : ∀ (c k x : Nat) (G : Nat → Int) (i : Nat), k ≤ i → i < k + c → (∀ i1 i2, k ≤ i1 → i1 < i2 → i2 < k + c → l.getD i1 0 ≠ l.getD i2 0) → gD l a c k x G (6 * a + l.getD i 0) = ((x / 10 ^ (i - k) % 10 : Nat) : Int)
  | 0, k, x, G, i, h1, h2, _ => by omega
  | c + 1, k, x, G, i, h1, h2, hd => by
    show gD l a c (k + 1) (x / 10) (gUp G (6 * a + l.getD k 0) (x % 10)) (6 * a + l.getD i 0) = _
    by_cases e : i = k
    · subst e
      rw [gD_off c (i + 1) (x / 10) _ _ (fun i1 q1 q2 => by have := hd i i1 (by omega) (by omega) (by omega); omega), gD_up, if_pos rfl, Nat.sub_self, Nat.pow_zero, Nat.div_one]
    · rw [gD_at c (k + 1) (x / 10) _ i (by omega) (by omega) (fun i1 i2 q1 q2 q3 => hd i1 i2 (by omega) q2 (by omega)), Nat.div_div_eq_div_mul, show 10 * 10 ^ (i - (k + 1)) = 10 ^ (i - k) by rw [show i - k = (i - (k + 1)) + 1 by omega, Nat.pow_succ, Nat.mul_comm]]
section CODES
variable {G : Nat → Int} {a s : Nat}
theorem uq_pre : ∀ (n j : Nat), j ≤ n → ∃ r, uq G a s n = uq G a s j ++ r
  | 0, j, h => ⟨[], by rw [show j = 0 by omega]; rfl⟩
  | n + 1, j, h => by
    by_cases e : j = n + 1
    · exact ⟨[], by rw [e, List.append_nil]⟩
    · obtain ⟨r, hr⟩ := uq_pre n j (by omega)
      show ∃ r, (if n ≠ a ∧ bt s n = true ∧ G (6 * a + n) = 0 then uq G a s n ++ [n] else uq G a s n) = uq G a s j ++ r
      split
      · exact ⟨r ++ [n], by rw [hr, List.append_assoc]⟩
      · exact ⟨r, hr⟩
theorem uq_rel {n b : Nat} (hb : b < n) (hc : b ≠ a ∧ bt s b = true ∧ G (6 * a + b) = 0) : (uq G a s b).length < (uq G a s n).length ∧ (uq G a s n).getD (uq G a s b).length 0 = b := by
  have e : uq G a s (b + 1) = uq G a s b ++ [b] := by
    show (if b ≠ a ∧ bt s b = true ∧ G (6 * a + b) = 0 then uq G a s b ++ [b] else uq G a s b) = _
    rw [if_pos hc]
  obtain ⟨r, hr⟩ := uq_pre (G := G) (a := a) (s := s) n (b + 1) (by omega)
  rw [hr, e]
  refine ⟨by simp, ?_⟩
  rw [List.getD_eq_getElem?_getD, List.append_assoc, List.getElem?_append_right (Nat.le_refl _), Nat.sub_self]
  rfl
theorem uq_sorted : ∀ (n i1 i2 : Nat), i1 < i2 → i2 < (uq G a s n).length → (uq G a s n).getD i1 0 < (uq G a s n).getD i2 0
  | 0, _, _, _, h => by simp [uq] at h
  | n + 1, i1, i2, h1, h2 => by
    have ih := uq_sorted n
    have ea : uq G a s (n + 1) = if n ≠ a ∧ bt s n = true ∧ G (6 * a + n) = 0 then uq G a s n ++ [n] else uq G a s n := rfl
    by_cases c : n ≠ a ∧ bt s n = true ∧ G (6 * a + n) = 0
    · rw [if_pos c] at ea
      rw [ea] at h2 ⊢
      rw [List.length_append, List.length_singleton] at h2
      have g1 : (uq G a s n ++ [n]).getD i1 0 = (uq G a s n).getD i1 0 := by
        rw [List.getD_eq_getElem?_getD, List.getD_eq_getElem?_getD, List.getElem?_append_left (by omega)]
      by_cases e : i2 = (uq G a s n).length
      · have g2 : (uq G a s n ++ [n]).getD i2 0 = n := by
          rw [e, List.getD_eq_getElem?_getD, List.getElem?_append_right (Nat.le_refl _), Nat.sub_self]
          rfl
        rw [g1, g2]
        exact (uq_at G a s n i1 (by omega)).1
      · have g2 : (uq G a s n ++ [n]).getD i2 0 = (uq G a s n).getD i2 0 := by
          rw [List.getD_eq_getElem?_getD, List.getD_eq_getElem?_getD, List.getElem?_append_left (by omega)]
        rw [g1, g2]
        exact ih i1 i2 h1 (by omega)
    · rw [if_neg c] at ea
      rw [ea] at h2 ⊢
      exact ih i1 i2 h1 h2
theorem uq_bt : ∀ (n i : Nat), i < (uq G a s n).length → bt s ((uq G a s n).getD i 0) = true
  | 0, _, h => by simp [uq] at h
  | n + 1, i, h => by
    have ea : uq G a s (n + 1) = if n ≠ a ∧ bt s n = true ∧ G (6 * a + n) = 0 then uq G a s n ++ [n] else uq G a s n := rfl
    by_cases c : n ≠ a ∧ bt s n = true ∧ G (6 * a + n) = 0
    · rw [if_pos c] at ea
      rw [ea] at h ⊢
      rw [List.length_append, List.length_singleton] at h
      by_cases e : i = (uq G a s n).length
      · rw [e, List.getD_eq_getElem?_getD, List.getElem?_append_right (Nat.le_refl _), Nat.sub_self]
        exact c.2.1
      · rw [List.getD_eq_getElem?_getD, List.getElem?_append_left (by omega), ← List.getD_eq_getElem?_getD]
        exact uq_bt n i (by omega)
    · rw [if_neg c] at ea
      rw [ea] at h ⊢
      exact uq_bt n i h
theorem uq_ne {n i1 i2 : Nat} (h1 : i1 < i2) (h2 : i2 < (uq G a s n).length) : (uq G a s n).getD i1 0 ≠ (uq G a s n).getD i2 0 := by
  have := uq_sorted (G := G) (a := a) (s := s) n i1 i2 h1 h2
  omega
/-- the looks of a code -/
def cdG (G : Nat → Int) (a s n x : Nat) : Nat → Int := gD (uq G a s n) a (uq G a s n).length 0 x G
theorem cd_at {n x b : Nat} (hb : b < n) (hc : b ≠ a ∧ bt s b = true ∧ G (6 * a + b) = 0) : cdG G a s n x (6 * a + b) = ((x / 10 ^ (uq G a s b).length % 10 : Nat) : Int) := by
  obtain ⟨u1, u2⟩ := uq_rel hb hc
  have q := gD_at (l := uq G a s n) (a := a) (uq G a s n).length 0 x G (uq G a s b).length (Nat.zero_le _) (by omega) (fun i1 i2 _ q2 q3 => uq_ne q2 (by omega))
  rw [u2, Nat.sub_zero] at q
  exact q
theorem cd_off {n x j : Nat} (h : ∀ b, b < n → j ≠ 6 * a + b ∨ G (6 * a + b) ≠ 0) : cdG G a s n x j = G j := by
  refine gD_off _ 0 x G j (fun i _ hi => ?_)
  obtain ⟨u1, u2, u3⟩ := uq_at G a s n i (by omega)
  rcases h _ u1 with q | q
  · exact q
  · exact absurd u3 q
theorem cd_al {n x : Nat} (hG : ∀ j, j < 36 → 0 ≤ G j ∧ G j ≤ 9) (hn : n ≤ 6) (ha : a < 6) : alW G a s n (cdG G a s n x) := by
  refine ⟨fun j hj => ?_, fun b hb hba hbs h0 => cd_off (fun c hc => ?_)⟩
  · by_cases e : ∃ b, b < n ∧ j = 6 * a + b ∧ b ≠ a ∧ bt s b = true ∧ G (6 * a + b) = 0
    · obtain ⟨b, b1, b2, b3⟩ := e
      rw [b2, cd_at b1 b3]
      omega
    · have : cdG G a s n x j = G j := by
        refine gD_off _ 0 x G j (fun i _ hi => ?_)
        intro q
        have hi : i < (uq G a s n).length := by omega
        obtain ⟨u1, u2, u3⟩ := uq_at G a s n i hi
        exact e ⟨_, u1, q, u2, uq_bt n i hi, u3⟩
      rw [this]
      exact hG j hj
  · by_cases e : c = b
    · rw [e]
      exact Or.inr h0
    · exact Or.inl (by omega)
theorem cd_co {n x : Nat} : ∀ j, j ≤ n → coW G a s (cdG G a s n x) j = mD (uq G a s j).length x
  | 0, _ => rfl
  | j + 1, hj => by
    have ih := cd_co (n := n) (x := x) j (by omega)
    show coW G a s (cdG G a s n x) j + (if j ≠ a ∧ bt s j = true ∧ G (6 * a + j) = 0 ∧ cdG G a s n x (6 * a + j) ≠ 0 then 1 else 0) = mD (if j ≠ a ∧ bt s j = true ∧ G (6 * a + j) = 0 then uq G a s j ++ [j] else uq G a s j).length x
    by_cases c : j ≠ a ∧ bt s j = true ∧ G (6 * a + j) = 0
    · rw [if_pos c, List.length_append, List.length_singleton, mD_top, ih]
      have q := cd_at (x := x) (show j < n by omega) c
      by_cases w : 0 < x / 10 ^ (uq G a s j).length % 10
      · rw [if_pos w, if_pos ⟨c.1, c.2.1, c.2.2, by rw [q]; omega⟩]
      · rw [if_neg w, if_neg (fun k => k.2.2.2 (by rw [q]; omega))]
    · rw [if_neg c, if_neg (fun k => c ⟨k.1, k.2.1, k.2.2.1⟩), ih]
      rfl
/-- a code for given looks -/
def cdW (f : Nat → Nat) : Nat → Nat
  | 0 => 0
  | m + 1 => cdW f m + f m * 10 ^ m
theorem cdW_lt {f : Nat → Nat} (hf : ∀ i, f i ≤ 9) : ∀ m, cdW f m < 10 ^ m
  | 0 => by show 0 < 10 ^ 0; rw [Nat.pow_zero]; omega
  | m + 1 => by
    have ih := cdW_lt hf m
    have h2 : f m * 10 ^ m ≤ 9 * 10 ^ m := Nat.mul_le_mul_right _ (hf m)
    show cdW f m + f m * 10 ^ m < 10 ^ (m + 1)
    rw [Nat.pow_succ]
    generalize 10 ^ m = P at *
    generalize f m * P = Q at *
    omega
theorem cdW_at {f : Nat → Nat} (hf : ∀ i, f i ≤ 9) : ∀ (m i : Nat), i < m → cdW f m / 10 ^ i % 10 = f i
  | 0, i, h => by omega
  | m + 1, i, h => by
    show (cdW f m + f m * 10 ^ m) / 10 ^ i % 10 = f i
    by_cases e : i = m
    · subst e
      rw [Nat.add_mul_div_right _ _ (Nat.pow_pos (by decide)), Nat.div_eq_of_lt (cdW_lt hf i)]
      have := hf i
      omega
    · have ih := cdW_at hf m i (by omega)
      rw [show 10 ^ m = 10 ^ (m - i - 1) * 10 * 10 ^ i by rw [Nat.mul_assoc, Nat.mul_comm 10, ← Nat.pow_succ, ← Nat.pow_add]; congr 1; omega, ← Nat.mul_assoc, Nat.add_mul_div_right _ _ (Nat.pow_pos (by decide)), ← Nat.mul_assoc, Nat.add_mul_mod_self_right]
      exact ih
theorem cd_ex {n : Nat} {X : Nat → Int} (hn : n ≤ 6) (ha : a < 6) (hX : alW G a s n X) : ∃ x, x < 10 ^ (uq G a s n).length ∧ ∀ b, b < n → b ≠ a → bt s b = true → cdG G a s n x (6 * a + b) = X (6 * a + b) := by
  have hf : ∀ i, (if i < (uq G a s n).length then (X (6 * a + (uq G a s n).getD i 0)).toNat else 0) ≤ 9 := fun i => by
    split
    · rename_i hi
      have u := (uq_at G a s n i hi).1
      have := hX.1 (6 * a + (uq G a s n).getD i 0) (by omega)
      omega
    · omega
  refine ⟨cdW (fun i => if i < (uq G a s n).length then (X (6 * a + (uq G a s n).getD i 0)).toNat else 0) (uq G a s n).length, cdW_lt hf _, fun b hb hba hbs => ?_⟩
  have rX := hX.1 (6 * a + b) (by omega)
  by_cases c : G (6 * a + b) = 0
  · obtain ⟨u1, u2⟩ := uq_rel hb ⟨hba, hbs, c⟩
    rw [cd_at hb ⟨hba, hbs, c⟩, cdW_at hf _ _ u1, if_pos u1, u2]
    omega
  · rw [hX.2 b hb hba hbs c]
    exact cd_off (fun d hd => by
      by_cases e : d = b
      · rw [e]
        exact Or.inr c
      · exact Or.inl (by omega))
theorem fwC_le {f : Nat → Bool} {m : Nat} : ∀ c, ∀ x, x < c → f x = true → fwC f m c ≤ (mD m x : Int)
  | 0, x, h, _ => by omega
  | c + 1, x, h, hx => by
    have ih := fwC_le (f := f) (m := m) c
    show (if (mD m c : Int) < fwC f m c ∧ f c = true then (mD m c : Int) else fwC f m c) ≤ _
    by_cases e : x = c
    · subst e
      by_cases w : (mD m x : Int) < fwC f m x
      · rw [if_pos ⟨w, hx⟩]
        exact Int.le_refl _
      · rw [if_neg (fun q => w q.1)]
        omega
    · have := ih x (by omega) hx
      split <;> omega
theorem fwC_at {f : Nat → Bool} {m : Nat} : ∀ c, fwC f m c = 1000000 ∨ ∃ x, x < c ∧ f x = true ∧ fwC f m c = (mD m x : Int)
  | 0 => Or.inl rfl
  | c + 1 => by
    show (if (mD m c : Int) < fwC f m c ∧ f c = true then (mD m c : Int) else fwC f m c) = 1000000 ∨ ∃ x, x < c + 1 ∧ f x = true ∧ (if (mD m c : Int) < fwC f m c ∧ f c = true then (mD m c : Int) else fwC f m c) = (mD m x : Int)
    by_cases w : (mD m c : Int) < fwC f m c ∧ f c = true
    · rw [if_pos w]
      exact Or.inr ⟨c, by omega, w.2, rfl⟩
    · rw [if_neg w]
      rcases fwC_at (f := f) (m := m) c with q | ⟨x, x1, x2, x3⟩
      · exact Or.inl q
      · exact Or.inr ⟨x, by omega, x2, x3⟩
/-- the table and the codes say the same -/
theorem meet_eq {kd n : Nat} {L : Nat → Nat} {v : Int} (hG : ∀ j, j < 36 → 0 ≤ G j ∧ G j ≤ 9) (hn : n ≤ 6) (ha : a < 6) (h : dpW G kd a s n n L) : (if fwC (fun x => decide (pSeem (cdG G a s n x) n kd a s = v)) (uq G a s n).length (10 ^ (uq G a s n).length) = 1000000 then (-9 : Int) else fwC (fun x => decide (pSeem (cdG G a s n x) n kd a s = v)) (uq G a s n).length (10 ^ (uq G a s n).length)) = if beW L kd (ctW a s n) v 55 = 100 then -9 else ((beW L kd (ctW a s n) v 55 : Nat) : Int) := by
  obtain ⟨b1, b2⟩ := dp_best (v := v) ha hn h
  have b3 := (beW_le h.1 kd (ctW a s n) v 55).1
  have ul := (uq_len G a s n).1
  by_cases c : beW L kd (ctW a s n) v 55 = 100
  · rw [if_pos c]
    rcases fwC_at (f := fun x => decide (pSeem (cdG G a s n x) n kd a s = v)) (m := (uq G a s n).length) (10 ^ (uq G a s n).length) with q | ⟨x, x1, x2, x3⟩
    · rw [if_pos q]
    · have k := b2 (cdG G a s n x) (cd_al hG hn ha) (of_decide_eq_true x2)
      rw [cd_co n (Nat.le_refl n)] at k
      have := mD_le (uq G a s n).length x
      omega
  · obtain ⟨X, y1, y2, y3⟩ := b1 (by omega)
    obtain ⟨x, x1, x2⟩ := cd_ex hn ha y1
    have e1 : pSeem (cdG G a s n x) n kd a s = v := by
      rw [← y2]
      unfold pSeem
      rw [sF_rel (kd := kd) n x2]
    have e2 : mD (uq G a s n).length x = beW L kd (ctW a s n) v 55 := by
      rw [← cd_co n (Nat.le_refl n), coW_rel (G := G) n x2, y3]
    have f1 := fwC_le (f := fun x => decide (pSeem (cdG G a s n x) n kd a s = v)) (m := (uq G a s n).length) (10 ^ (uq G a s n).length) x x1 (decide_eq_true e1)
    rcases fwC_at (f := fun x => decide (pSeem (cdG G a s n x) n kd a s = v)) (m := (uq G a s n).length) (10 ^ (uq G a s n).length) with q | ⟨w, w1, w2, w3⟩
    · rw [q] at f1
      omega
    · have k := b2 (cdG G a s n w) (cd_al hG hn ha) (of_decide_eq_true w2)
      rw [cd_co n (Nat.le_refl n)] at k
      rw [if_neg (by omega), if_neg c]
      omega
end CODES
