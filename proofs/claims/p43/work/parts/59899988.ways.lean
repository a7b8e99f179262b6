/-! fewest steps: ways, a search by breadth, a fixed point -/
def rnW (nx : Nat → Nat → Nat) : Nat → List Nat → Nat
  | s, [] => s
  | s, a :: l => rnW nx (nx s a) l
def stpW (w a : Nat) : Nat := if w = 0 then 8 + a else w + 8
def wyW : Nat → List Nat → Nat
  | w, [] => w
  | w, a :: l => wyW (stpW w a) l
def okW (n : Nat) (l : List Nat) : Prop := ∀ a, a ∈ l → a < n
theorem stpW_gt (w a : Nat) : w < stpW w a ∧ 8 ≤ stpW w a := by
  unfold stpW
  split <;> omega
theorem wyW_ge : ∀ (l : List Nat) (w : Nat), w ≤ wyW w l
  | [], _ => Nat.le_refl _
  | a :: l, w => by
    have h1 := wyW_ge l (stpW w a)
    have h2 := stpW_gt w a
    show w ≤ wyW (stpW w a) l
    omega
theorem wyW_pos : ∀ (l : List Nat) (w : Nat), w ≠ 0 → wyW w l = w + 8 * l.length
  | [], w, _ => rfl
  | a :: l, w, h => by
    have e : stpW w a = w + 8 := if_neg h
    show wyW (stpW w a) l = w + 8 * (l.length + 1)
    rw [e, wyW_pos l (w + 8) (by omega)]
    omega
theorem rnW_app {nx : Nat → Nat → Nat} (a : Nat) : ∀ (l : List Nat) (s : Nat), rnW nx s (l ++ [a]) = nx (rnW nx s l) a
  | [], _ => rfl
  | b :: l, s => rnW_app a l (nx s b)
theorem wyW_app (a : Nat) : ∀ (l : List Nat) (w : Nat), wyW w (l ++ [a]) = stpW (wyW w l) a
  | [], _ => rfl
  | b :: l, w => wyW_app a l (stpW w b)
theorem okW_app {n a : Nat} {l : List Nat} (h : okW n l) (ha : a < n) : okW n (l ++ [a]) := by
  intro b hb
  rcases List.mem_append.mp hb with q | q
  · exact h b q
  · rcases List.mem_singleton.mp q with rfl
    exact ha
theorem okW_cons {n a : Nat} {l : List Nat} (h : okW n (a :: l)) : a < n ∧ okW n l := ⟨h a List.mem_cons_self, fun b hb => h b (List.mem_cons_of_mem a hb)⟩
theorem okW_mk {n a : Nat} {l : List Nat} (ha : a < n) (h : okW n l) : okW n (a :: l) := by
  intro b hb
  rcases List.mem_cons.mp hb with rfl | q
  · exact ha
  · exact h b q
theorem okW_nil (n : Nat) : okW n [] := fun _ h => absurd h List.not_mem_nil
/-- how many are reached -/
def cnW (R : Nat → Nat) : Nat → Nat
  | 0 => 0
  | m + 1 => cnW R m + (if R m = 0 then 0 else 1)
theorem cnW_le (R : Nat → Nat) : ∀ m, cnW R m ≤ m
  | 0 => Nat.le_refl _
  | m + 1 => by
    have := cnW_le R m
    show cnW R m + (if R m = 0 then 0 else 1) ≤ m + 1
    split <;> omega
theorem cnW_lt {R : Nat → Nat} {s : Nat} (h : R s = 0) : ∀ m, s < m → cnW R m < m
  | 0, hs => by omega
  | m + 1, hs => by
    show cnW R m + (if R m = 0 then 0 else 1) < m + 1
    by_cases e : s = m
    · subst e
      have := cnW_le R s
      rw [if_pos h]
      omega
    · have := cnW_lt h m (by omega)
      split <;> omega
theorem cnW_cg {R R1 : Nat → Nat} : ∀ m, (∀ s, s < m → R1 s = R s) → cnW R1 m = cnW R m
  | 0, _ => rfl
  | m + 1, h => by
    show cnW R1 m + (if R1 m = 0 then 0 else 1) = cnW R m + (if R m = 0 then 0 else 1)
    rw [cnW_cg m (fun s hs => h s (by omega)), h m (by omega)]
theorem cnW_set {R R1 : Nat → Nat} {s v : Nat} (h : R s = 0) (hv : v ≠ 0) (hR : ∀ t, R1 t = if t = s then v else R t) : ∀ m, s < m → cnW R1 m = cnW R m + 1
  | 0, hs => by omega
  | m + 1, hs => by
    show cnW R1 m + (if R1 m = 0 then 0 else 1) = cnW R m + (if R m = 0 then 0 else 1) + 1
    by_cases e : s = m
    · subst e
      rw [cnW_cg s (fun t ht => by rw [hR, if_neg (by omega)]), hR, if_pos rfl, if_neg hv, if_pos h]
    · rw [cnW_set h hv hR m (by omega), show R1 m = R m by rw [hR, if_neg (by omega)]]
      omega
theorem cnW_zero : ∀ m, cnW (fun _ => 0) m = 0
  | 0 => rfl
  | m + 1 => by
    show cnW (fun _ => 0) m + (if (0 : Nat) = 0 then 0 else 1) = 0
    rw [cnW_zero m]
    rfl
section BFS
variable {nx : Nat → Nat → Nat} {gl V : Nat → Prop} {n s0 : Nat}
def bfI (nx : Nat → Nat → Nat) (gl V : Nat → Prop) (n s0 hd tl : Nat) (Q R : Nat → Nat) : Prop :=
  (Q 0 = s0 ∧ R s0 = 1 ∧ 0 < tl) ∧ (∀ i, i < tl → V (Q i) ∧ R (Q i) ≠ 0 ∧ R (Q i) ≤ 8 * (i + 1)) ∧ (∀ i, 0 < i → i < tl → 9 ≤ R (Q i)) ∧ (∀ s, s < 1024 → R s ≠ 0 → ∃ i, i < tl ∧ Q i = s) ∧ (∀ i j, i ≤ j → j < tl → R (Q i) ≤ R (Q j)) ∧ cnW R 1024 = tl ∧ (∀ s, s < 1024 → R s ≠ 0 → ∃ l, okW n l ∧ rnW nx s0 l = s ∧ wyW 0 l = R s - 1) ∧ ∀ i, i < hd → ¬ gl (Q i) ∧ ∀ a, a < n → R (nx (Q i) a) ≠ 0 ∧ R (nx (Q i) a) - 1 ≤ stpW (R (Q i) - 1) a
/-- ahead of a turn -/
def bfO (nx : Nat → Nat → Nat) (gl V : Nat → Prop) (n s0 hd tl : Nat) (Q R : Nat → Nat) : Prop := bfI nx gl V n s0 hd tl Q R ∧ hd ≤ tl ∧ (hd < tl → ∀ j, j < tl → R (Q j) - 1 ≤ stpW (R (Q hd) - 1) 0)
/-- within a turn -/
def bfJ (nx : Nat → Nat → Nat) (gl V : Nat → Prop) (n s0 hd a tl : Nat) (Q R : Nat → Nat) : Prop := bfI nx gl V n s0 hd tl Q R ∧ hd < tl ∧ ¬ gl (Q hd) ∧ (∀ b, b < a → R (nx (Q hd) b) ≠ 0 ∧ R (nx (Q hd) b) - 1 ≤ stpW (R (Q hd) - 1) b) ∧ ∀ j, j < tl → R (Q j) - 1 ≤ stpW (R (Q hd) - 1) a
theorem bf_begin {hd tl : Nat} {Q R : Nat → Nat} (h : bfO nx gl V n s0 hd tl Q R) (hl : hd < tl) (hg : ¬ gl (Q hd)) : bfJ nx gl V n s0 hd 0 tl Q R := ⟨h.1, hl, hg, fun b hb => absurd hb (by omega), h.2.2 hl⟩
theorem stpW_mono (w a : Nat) : stpW w a ≤ stpW w (a + 1) := by
  unfold stpW
  split <;> omega
theorem bf_skip {hd a tl : Nat} {Q R : Nat → Nat} (hV : ∀ s, V s → s < 1024 ∧ ∀ a, a < n → V (nx s a)) (h : bfJ nx gl V n s0 hd a tl Q R) (ha : a < n) (hr : R (nx (Q hd) a) ≠ 0) : bfJ nx gl V n s0 hd (a + 1) tl Q R := by
  obtain ⟨h1, h2, h3, h4, h5⟩ := h
  obtain ⟨-, i2, -, i4, -⟩ := id h1
  have v1 := (hV _ (i2 hd h2).1).2 a ha
  obtain ⟨j, j1, j2⟩ := i4 _ (hV _ v1).1 hr
  refine ⟨h1, h2, h3, fun b hb => ?_, fun j hj => ?_⟩
  · by_cases e : b = a
    · subst e
      refine ⟨hr, ?_⟩
      rw [← j2]
      exact h5 j j1
    · exact h4 b (by omega)
  · exact Nat.le_trans (h5 j hj) (stpW_mono _ a)
theorem bf_add {hd a tl v : Nat} {Q R Q1 R1 : Nat → Nat} (hV : ∀ s, V s → s < 1024 ∧ ∀ a, a < n → V (nx s a)) (h : bfJ nx gl V n s0 hd a tl Q R) (ha : a < n) (ha6 : a < 8) (hr : R (nx (Q hd) a) = 0) (hv : v = 1 + stpW (R (Q hd) - 1) a) (hQ : ∀ i, Q1 i = if i = tl then nx (Q hd) a else Q i) (hR : ∀ s, R1 s = if s = nx (Q hd) a then v else R s) : bfJ nx gl V n s0 hd (a + 1) (tl + 1) Q1 R1 := by
  obtain ⟨h1, h2, h3, h4, h5⟩ := h
  obtain ⟨⟨a1, a2, a3⟩, i2, i3, i4, i5, i6, i7, i8⟩ := h1
  have v1 := (hV _ (i2 hd h2).1).2 a ha
  have v2 := (hV _ v1).1
  have hs := stpW_gt (R (Q hd) - 1) a
  have vn : v ≠ 0 := by omega
  have qi : ∀ i, i < tl → Q1 i = Q i := fun i hi => by rw [hQ, if_neg (by omega)]
  have qt : Q1 tl = nx (Q hd) a := by rw [hQ, if_pos rfl]
  have ri : ∀ i, i < tl → R1 (Q i) = R (Q i) := fun i hi => by
    rw [hR, if_neg (fun q => (i2 i hi).2.1 (by rw [q]; exact hr))]
  have rt : R1 (nx (Q hd) a) = v := by rw [hR, if_pos rfl]
  have rk : ∀ s, R s ≠ 0 → R1 s = R s := fun s hsn => by rw [hR, if_neg (fun q => hsn (by rw [q]; exact hr))]
  have ub : v ≤ 8 * (tl + 1) := by
    rw [hv]
    have := (i2 hd h2).2.2
    unfold stpW
    split <;> omega
  refine ⟨⟨⟨by rw [qi 0 a3]; exact a1, by rw [rk s0 (by omega)]; exact a2, by omega⟩, fun i hi => ?_, fun i hi0 hi => ?_, fun s hs1 hs2 => ?_, fun i j hij hj => ?_, by rw [cnW_set hr vn hR 1024 v2, i6], fun s hs1 hs2 => ?_, fun i hi => ?_⟩, by omega, by rw [qi hd h2]; exact h3, fun b hb => ?_, fun j hj => ?_⟩
  · by_cases e : i = tl
    · rw [e, qt, rt]
      exact ⟨v1, vn, ub⟩
    · rw [qi i (by omega), ri i (by omega)]
      exact i2 i (by omega)
  · by_cases e : i = tl
    · rw [e, qt, rt]
      omega
    · rw [qi i (by omega), ri i (by omega)]
      exact i3 i hi0 (by omega)
  · by_cases e : s = nx (Q hd) a
    · exact ⟨tl, by omega, by rw [qt, e]⟩
    · rw [hR, if_neg e] at hs2
      obtain ⟨i, q1, q2⟩ := i4 s hs1 hs2
      exact ⟨i, by omega, by rw [qi i q1]; exact q2⟩
  · by_cases e : j = tl
    · by_cases e1 : i = tl
      · rw [e, e1]
        exact Nat.le_refl _
      · rw [e, qt, rt, qi i (by omega), ri i (by omega)]
        have := h5 i (by omega)
        omega
    · rw [qi i (by omega), qi j (by omega), ri i (by omega), ri j (by omega)]
      exact i5 i j hij (by omega)
  · by_cases e : s = nx (Q hd) a
    · obtain ⟨l, l1, l2, l3⟩ := i7 (Q hd) (hV _ (i2 hd h2).1).1 (i2 hd h2).2.1
      refine ⟨l ++ [a], okW_app l1 ha, by rw [rnW_app, l2, e], ?_⟩
      rw [wyW_app, l3, e, rt]
      omega
    · rw [hR, if_neg e] at hs2 ⊢
      exact i7 s hs1 hs2
  · rw [qi i (by omega), ri i (by omega)]
    obtain ⟨k1, k2⟩ := i8 i hi
    refine ⟨k1, fun b hb => ?_⟩
    obtain ⟨k3, k4⟩ := k2 b hb
    rw [rk _ k3]
    exact ⟨k3, k4⟩
  · rw [qi hd h2, ri hd h2]
    by_cases e : b = a
    · rw [e, rt]
      exact ⟨vn, by omega⟩
    · obtain ⟨k3, k4⟩ := h4 b (by omega)
      rw [rk _ k3]
      exact ⟨k3, k4⟩
  · rw [qi hd h2, ri hd h2]
    have sm := stpW_mono (R (Q hd) - 1) a
    by_cases e : j = tl
    · rw [e, qt, rt]
      omega
    · rw [qi j (by omega), ri j (by omega)]
      exact Nat.le_trans (h5 j (by omega)) sm
theorem bf_end {hd tl : Nat} {Q R : Nat → Nat} (hn : n ≤ 6) (h : bfJ nx gl V n s0 hd n tl Q R) : bfO nx gl V n s0 (hd + 1) tl Q R := by
  obtain ⟨h1, h2, h3, h4, h5⟩ := h
  obtain ⟨i1, i2, i3, i4, i5, i6, i7, i8⟩ := h1
  refine ⟨⟨i1, i2, i3, i4, i5, i6, i7, fun i hi => ?_⟩, h2, fun hl j hj => ?_⟩
  · by_cases e : i = hd
    · rw [e]
      exact ⟨h3, h4⟩
    · exact i8 i (by omega)
  · have q1 := h5 j hj
    have q2 := i3 (hd + 1) (by omega) hl
    have q3 := i5 hd (hd + 1) (by omega) hl
    unfold stpW at q1 ⊢
    rw [if_neg (show ¬ R (Q (hd + 1)) - 1 = 0 by omega)]
    split at q1 <;> omega
theorem bf_start {Q R : Nat → Nat} (h0 : V s0) (h1 : s0 < 1024) (hQ : Q 0 = s0) (hR : ∀ s, R s = if s = s0 then 1 else 0) : bfO nx gl V n s0 0 1 Q R := by
  have r0 : R s0 = 1 := by rw [hR, if_pos rfl]
  have q0 : ∀ i, i < 1 → Q i = s0 := fun i hi => by rw [show i = 0 by omega]; exact hQ
  refine ⟨⟨⟨hQ, r0, by omega⟩, fun i hi => ?_, fun i a b => by omega, fun s _ hs => ?_, fun i j a b => ?_, ?_, fun s _ hs => ?_, fun i hi => by omega⟩, by omega, fun _ j hj => ?_⟩
  · rw [q0 i hi, r0]
    exact ⟨h0, by omega, by omega⟩
  · by_cases e : s = s0
    · exact ⟨0, by omega, by rw [hQ, e]⟩
    · rw [hR, if_neg e] at hs
      exact absurd rfl hs
  · rw [q0 i (by omega), q0 j b]
    exact Nat.le_refl _
  · rw [cnW_set (R := fun _ => 0) (s := s0) (v := 1) rfl (by omega) hR 1024 h1, cnW_zero]
  · by_cases e : s = s0
    · exact ⟨[], okW_nil n, e.symm, by rw [e, r0]; rfl⟩
    · rw [hR, if_neg e] at hs
      exact absurd rfl hs
  · rw [q0 j hj, r0]
    omega
/-- what is not done yet lies ahead -/
theorem bf_path {hd tl : Nat} {Q R : Nat → Nat} (hV : ∀ s, V s → s < 1024 ∧ ∀ a, a < n → V (nx s a)) (hn : n ≤ 6) (h : bfI nx gl V n s0 hd tl Q R) : ∀ (l : List Nat) (s W : Nat), s < 1024 → R s ≠ 0 → R s - 1 ≤ W → (W = 0 ∨ 8 ≤ W) → okW n l → gl (rnW nx s l) → hd < tl ∧ R (Q hd) - 1 ≤ wyW W l
  | l, s, W, hs, hr, hw, hW, hl, hg => by
    obtain ⟨i1, i2, i3, i4, i5, i6, i7, i8⟩ := id h
    obtain ⟨i, q1, q2⟩ := i4 s hs hr
    by_cases c : i < hd
    · obtain ⟨k1, k2⟩ := i8 i c
      rw [q2] at k1 k2
      match l, hl, hg with
      | [], _, hg => exact absurd hg k1
      | a :: l, hl, hg =>
        obtain ⟨ha, hl⟩ := okW_cons hl
        obtain ⟨k3, k4⟩ := k2 a ha
        have v1 : V s := by rw [← q2]; exact (i2 i q1).1
        have v2 := (hV _ ((hV _ v1).2 a ha)).1
        have g1 := stpW_gt W a
        have m1 : stpW (R s - 1) a ≤ stpW W a := by
          unfold stpW
          split <;> split <;> omega
        exact bf_path hV hn h l (nx s a) (stpW W a) v2 k3 (by omega) (Or.inr g1.2) hl hg
    · have m := i5 hd i (by omega) q1
      rw [q2] at m
      have g := wyW_ge l W
      exact ⟨by omega, by omega⟩
/-- the best of all ways -/
def bsW (nx : Nat → Nat → Nat) (gl : Nat → Prop) (n s0 w : Nat) : Prop := (∃ l, okW n l ∧ gl (rnW nx s0 l) ∧ wyW 0 l = w) ∧ ∀ l, okW n l → gl (rnW nx s0 l) → w ≤ wyW 0 l
theorem bf_found {hd tl : Nat} {Q R : Nat → Nat} (hV : ∀ s, V s → s < 1024 ∧ ∀ a, a < n → V (nx s a)) (hn : n ≤ 6) (h : bfO nx gl V n s0 hd tl Q R) (hl : hd < tl) (hg : gl (Q hd)) : bsW nx gl n s0 (R (Q hd) - 1) ∧ R (Q hd) ≤ 8 * 1024 := by
  obtain ⟨⟨a1, a2, a3⟩, i2, i3, i4, i5, i6, i7, i8⟩ := id h.1
  obtain ⟨l, l1, l2, l3⟩ := i7 (Q hd) (hV _ (i2 hd hl).1).1 (i2 hd hl).2.1
  have c := cnW_le R 1024
  have v0 := (i2 0 a3).1
  rw [a1] at v0
  refine ⟨⟨⟨l, l1, by rw [l2]; exact hg, l3⟩, fun l hl hg => (bf_path hV hn h.1 l s0 0 (hV _ v0).1 (by omega) (by omega) (Or.inl rfl) hl hg).2⟩, ?_⟩
  have := (i2 hd hl).2.2
  omega
theorem bf_none {tl : Nat} {Q R : Nat → Nat} (hV : ∀ s, V s → s < 1024 ∧ ∀ a, a < n → V (nx s a)) (hn : n ≤ 6) (h : bfO nx gl V n s0 tl tl Q R) : ∀ l, okW n l → ¬ gl (rnW nx s0 l) := by
  intro l hl hg
  obtain ⟨⟨a1, a2, a3⟩, i2, -⟩ := id h.1
  have v0 := (i2 0 a3).1
  rw [a1] at v0
  have := (bf_path hV hn h.1 l s0 0 (hV _ v0).1 (by omega) (by omega) (Or.inl rfl) hl hg).1
  omega
/-! the fixed point -/
def mnW (nx : Nat → Nat → Nat) (F : Nat → Nat) (s : Nat) : Nat → Nat
  | 0 => F s
  | a + 1 => min (mnW nx F s a) (F (nx s a) + 1)
theorem mnW_le (F : Nat → Nat) (s : Nat) : ∀ a, mnW nx F s a ≤ F s ∧ ∀ b, b < a → mnW nx F s a ≤ F (nx s b) + 1
  | 0 => ⟨Nat.le_refl _, fun b hb => absurd hb (by omega)⟩
  | a + 1 => by
    obtain ⟨h1, h2⟩ := mnW_le F s a
    have e : mnW nx F s (a + 1) = min (mnW nx F s a) (F (nx s a) + 1) := rfl
    refine ⟨by omega, fun b hb => ?_⟩
    by_cases q : b = a
    · rw [q]
      omega
    · have := h2 b (by omega)
      omega
theorem mnW_at (F : Nat → Nat) (s : Nat) : ∀ a, mnW nx F s a = F s ∨ ∃ b, b < a ∧ mnW nx F s a = F (nx s b) + 1
  | 0 => Or.inl rfl
  | a + 1 => by
    have e : mnW nx F s (a + 1) = min (mnW nx F s a) (F (nx s a) + 1) := rfl
    by_cases c : mnW nx F s a ≤ F (nx s a) + 1
    · have e1 : mnW nx F s (a + 1) = mnW nx F s a := by omega
      rw [e1]
      rcases mnW_at F s a with q | ⟨b, b1, b2⟩
      · exact Or.inl q
      · exact Or.inr ⟨b, by omega, b2⟩
    · exact Or.inr ⟨a, by omega, by omega⟩
/-- what is told so far is true -/
def fxS (nx : Nat → Nat → Nat) (gl V : Nat → Prop) (n : Nat) (F : Nat → Nat) : Prop := (∀ s, V s → gl s → F s = 0) ∧ ∀ s, V s → F s < 1000000 → ∃ l, okW n l ∧ l.length = F s ∧ gl (rnW nx s l)
theorem fx_set {F F1 : Nat → Nat} {s : Nat} (hV : ∀ s, V s → s < 1024 ∧ ∀ a, a < n → V (nx s a)) (h : fxS nx gl V n F) (hs : V s) (hg : ¬ gl s) (hF : ∀ t, t < 1024 → F1 t = if t = s then mnW nx F s n else F t) : fxS nx gl V n F1 := by
  refine ⟨fun t ht hgt => ?_, fun t ht hlt => ?_⟩
  · rw [hF t (hV t ht).1, if_neg (fun q => hg (by rw [← q]; exact hgt))]
    exact h.1 t ht hgt
  · rw [hF t (hV t ht).1] at hlt ⊢
    by_cases e : t = s
    · subst e
      rw [if_pos rfl] at hlt ⊢
      rcases mnW_at (nx := nx) F t n with q | ⟨b, b1, b2⟩
      · rw [q] at hlt ⊢
        exact h.2 t ht hlt
      · rw [b2] at hlt ⊢
        obtain ⟨l, l1, l2, l3⟩ := h.2 (nx t b) ((hV t ht).2 b b1) (by omega)
        exact ⟨b :: l, okW_mk b1 l1, by show l.length + 1 = _; omega, l3⟩
    · rw [if_neg e] at hlt ⊢
      exact h.2 t ht hlt
/-- nothing to better -/
def fxE (nx : Nat → Nat → Nat) (gl V : Nat → Prop) (n : Nat) (F : Nat → Nat) : Prop := ∀ s, V s → ¬ gl s → ∀ a, a < n → F s ≤ F (nx s a) + 1
theorem fx_le {F : Nat → Nat} (hV : ∀ s, V s → s < 1024 ∧ ∀ a, a < n → V (nx s a)) (h1 : fxS nx gl V n F) (h2 : fxE nx gl V n F) (hd : ∀ s, gl s ∨ ¬ gl s) : ∀ (l : List Nat) (s : Nat), V s → okW n l → gl (rnW nx s l) → F s ≤ l.length
  | [], s, hs, _, hg => by rw [h1.1 s hs hg]; exact Nat.zero_le _
  | a :: l, s, hs, hl, hg => by
    obtain ⟨ha, hl⟩ := okW_cons hl
    have q := fx_le hV h1 h2 hd l (nx s a) ((hV s hs).2 a ha) hl hg
    rcases hd s with c | c
    · rw [h1.1 s hs c]
      exact Nat.zero_le _
    · have := h2 s hs c a ha
      show F s ≤ l.length + 1
      omega
/-- the least that has it, counted down -/
def loW (p : Nat → Bool) (n : Nat) : Nat → Int
  | 0 => -9
  | c + 1 => if p (n - (c + 1)) = true then ((n - (c + 1) : Nat) : Int) else loW p n c
theorem loW_at {p : Nat → Bool} {n f : Nat} (hf : f < n) (h1 : p f = true) (h2 : ∀ a, a < f → p a = false) : ∀ c, n - f ≤ c → c ≤ n → loW p n c = (f : Int)
  | 0, hc, _ => by omega
  | c + 1, hc, hn => by
    show (if p (n - (c + 1)) = true then ((n - (c + 1) : Nat) : Int) else loW p n c) = (f : Int)
    by_cases e : n - (c + 1) = f
    · rw [e, if_pos h1]
    · rw [if_neg (by rw [h2 _ (by omega)]; decide)]
      exact loW_at hf h1 h2 c (by omega) (by omega)
theorem leastW {p : Nat → Bool} : ∀ {n : Nat}, (∃ a, a < n ∧ p a = true) → ∃ f, f < n ∧ p f = true ∧ ∀ a, a < f → p a = false := by
  intro n
  induction n with
  | zero => rintro ⟨a, h, -⟩; omega
  | succ n ih =>
    rintro ⟨a, h1, h2⟩
    by_cases c : ∃ a, a < n ∧ p a = true
    · obtain ⟨f, f1, f2, f3⟩ := ih c
      exact ⟨f, by omega, f2, f3⟩
    · have e : a = n := by
        by_cases q : a < n
        · exact absurd ⟨a, q, h2⟩ c
        · omega
      subst e
      refine ⟨a, by omega, h2, fun b hb => ?_⟩
      cases hb2 : p b with
      | false => rfl
      | true => exact absurd ⟨b, hb, hb2⟩ c
/-- both say the same: a way is found -/
theorem ways_eq {F : Nat → Nat} {w : Nat} (hV : ∀ s, V s → s < 1024 ∧ ∀ a, a < n → V (nx s a)) (hn : n ≤ 6) (h1 : fxS nx gl V n F) (h2 : fxE nx gl V n F) (hd : ∀ s, gl s ∨ ¬ gl s) (v0 : V s0) (hb : bsW nx gl n s0 w) (hw : w < 8 * 1024) : F s0 = w / 8 ∧ (F s0 = 0 → w = 0) ∧ (0 < F s0 → w ≠ 0 ∧ loW (fun a => decide (F (nx s0 a) = F s0 - 1)) n n = ((w % 8 : Nat) : Int)) := by
  obtain ⟨⟨l, l1, l2, l3⟩, hm⟩ := hb
  have fl := fx_le hV h1 h2 hd l s0 v0 l1 l2
  have ll : 8 * l.length ≤ w + 7 := by
    cases l with
    | nil => exact Nat.zero_le _
    | cons a l =>
      have e : wyW 0 (a :: l) = 8 + a + 8 * l.length := wyW_pos l (8 + a) (by omega)
      show 8 * (l.length + 1) ≤ w + 7
      omega
  obtain ⟨m, m1, m2, m3⟩ := h1.2 s0 v0 (by omega)
  by_cases z : F s0 = 0
  · have e : m = [] := List.eq_nil_of_length_eq_zero (by omega)
    subst e
    have w0 := hm [] (okW_nil n) m3
    have w1 : w = 0 := by
      have : wyW 0 [] = 0 := rfl
      omega
    subst w1
    exact ⟨by omega, fun _ => rfl, fun q => by omega⟩
  · have ng : ¬ gl s0 := fun q => z (h1.1 s0 v0 q)
    -- one that is best exists
    have ex : ∃ a, a < n ∧ decide (F (nx s0 a) = F s0 - 1) = true := by
      match m, m1, m2, m3 with
      | [], _, m2, _ => exact absurd m2.symm z
      | a :: m, m1, m2, m3 =>
        obtain ⟨ha, m1⟩ := okW_cons m1
        have q1 := fx_le hV h1 h2 hd m (nx s0 a) ((hV s0 v0).2 a ha) m1 m3
        have q2 := h2 s0 v0 ng a ha
        have m2 : m.length + 1 = F s0 := m2
        exact ⟨a, ha, decide_eq_true (by omega)⟩
    obtain ⟨f, f1, f2, f3⟩ := leastW ex
    have f4 := of_decide_eq_true f2
    have fl := loW_at f1 f2 f3 n (by omega) (Nat.le_refl n)
    obtain ⟨k, k1, k2, k3⟩ := h1.2 (nx s0 f) ((hV s0 v0).2 f f1) (by omega)
    have u1 := hm (f :: k) (okW_mk f1 k1) k3
    have e1 : wyW 0 (f :: k) = 8 + f + 8 * k.length := wyW_pos k (8 + f) (by omega)
    have u2 : 8 * F s0 + f ≤ w := by
      cases l with
      | nil => exact absurd l2 ng
      | cons a l =>
        obtain ⟨ha, l1⟩ := okW_cons l1
        have e2 : wyW 0 (a :: l) = 8 + a + 8 * l.length := wyW_pos l (8 + a) (by omega)
        have q1 := fx_le hV h1 h2 hd l (nx s0 a) ((hV s0 v0).2 a ha) l1 l2
        have q2 := h2 s0 v0 ng a ha
        by_cases c : l.length + 1 = F s0
        · have q3 : F (nx s0 a) = F s0 - 1 := by omega
          have q4 : f ≤ a := by
            by_cases q5 : a < f
            · have := f3 a q5
              rw [decide_eq_true q3] at this
              cases this
            · omega
          omega
        · omega
    have e3 : w = 8 * F s0 + f := by omega
    refine ⟨by omega, fun q => absurd q z, fun _ => ⟨by omega, ?_⟩⟩
    rw [fl, show w % 8 = f by omega]
/-- both say the same: there is none -/
theorem ways_no {F : Nat → Nat} (h1 : fxS nx gl V n F) (v0 : V s0) (h : ∀ l, okW n l → ¬ gl (rnW nx s0 l)) : 1000000 ≤ F s0 := by
  by_cases c : F s0 < 1000000
  · obtain ⟨l, l1, l2, l3⟩ := h1.2 s0 v0 c
    exact absurd l3 (h l l1)
  · omega
end BFS
