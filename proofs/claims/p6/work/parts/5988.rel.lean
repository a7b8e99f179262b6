/-! the embassy in the class and in the reference -/
noncomputable def tR (t : Int64) (f : Nat → Int) : Prop := (∀ a, a < 6 → ∀ b, b < 6 → f (6 * a + b) = if a ≠ b ∧ tb t (pI a b) = true then 1 else 0) ∧ ∀ i, tb t i = true → ∃ a b, a < b ∧ b < 6 ∧ i = 6 * a + b
theorem tR_cg {t : Int64} {f f1 : Nat → Int} (hf : ∀ j, j < 36 → f1 j = f j) (h : tR t f) : tR t f1 := ⟨fun a ha b hb => by rw [hf _ (by omega)]; exact h.1 a ha b hb, h.2⟩
theorem tR_set {t : Int64} {f f1 : Nat → Int} {a b : Nat} (ha : a < 6) (hb : b < 6) (hab : a ≠ b) (h : tR t f) (hf : ∀ j, f1 j = if j = 6 * b + a then 1 else if j = 6 * a + b then 1 else f j) : tR (t ||| pBt a b) f1 := by
  refine ⟨fun c hc e he => ?_, fun i hi => ?_⟩
  · rw [hf, tb_or, pBt_tb a ha b hb _ (pI_lt c hc e he)]
    by_cases h1 : 6 * c + e = 6 * b + a
    · have e1 : c = b := by omega
      have e2 : e = a := by omega
      subst e1 e2
      rw [if_pos rfl, if_pos ⟨fun q => hab q.symm, by rw [pI_sym, decide_eq_true rfl, Bool.or_true]⟩]
    · rw [if_neg h1]
      by_cases h2 : 6 * c + e = 6 * a + b
      · have e1 : c = a := by omega
        have e2 : e = b := by omega
        subst e1 e2
        rw [if_pos rfl, if_pos ⟨hab, by rw [decide_eq_true rfl, Bool.or_true]⟩]
      · rw [if_neg h2, decide_eq_false (fun q => by rcases pI_inj a ha b hb c hc e he q with ⟨e1, e2⟩ | ⟨e1, e2⟩ <;> omega), Bool.or_false]
        exact h.1 c hc e he
  · by_cases h1 : tb t i = true
    · exact h.2 i h1
    · rw [tb_or, Bool.eq_false_iff.mpr h1, Bool.false_or] at hi
      by_cases h2 : i < 64
      · rw [pBt_tb a ha b hb i h2] at hi
        have e := of_decide_eq_true hi
        refine ⟨min a b, max a b, by omega, by omega, ?_⟩
        rw [e]
        rfl
      · rw [tb_ge _ (by omega)] at hi
        cases hi
theorem tR_clr {t : Int64} {f f1 : Nat → Int} {a b : Nat} (ha : a < 6) (hb : b < 6) (h : tR t f) (hf : ∀ j, f1 j = if j = 6 * b + a then 0 else if j = 6 * a + b then 0 else f j) : tR (t &&& (pBt a b ^^^ Int64.ofInt (-1))) f1 := by
  refine ⟨fun c hc e he => ?_, fun i hi => ?_⟩
  · rw [hf, tb_and, pBt_nt a ha b hb _ (pI_lt c hc e he)]
    by_cases h1 : 6 * c + e = 6 * b + a
    · have e1 : c = b := by omega
      have e2 : e = a := by omega
      subst e1 e2
      rw [if_pos rfl, if_neg (fun q => by rw [pI_sym, decide_eq_false (fun w => w rfl), Bool.and_false] at q; exact absurd q.2 (by decide))]
    · rw [if_neg h1]
      by_cases h2 : 6 * c + e = 6 * a + b
      · have e1 : c = a := by omega
        have e2 : e = b := by omega
        subst e1 e2
        rw [if_pos rfl, if_neg (fun q => by rw [decide_eq_false (fun w => w rfl), Bool.and_false] at q; exact absurd q.2 (by decide))]
      · rw [if_neg h2, decide_eq_true (show pI c e ≠ pI a b from fun q => by rcases pI_inj a ha b hb c hc e he q with ⟨e1, e2⟩ | ⟨e1, e2⟩ <;> omega), Bool.and_true]
        exact h.1 c hc e he
  · rw [tb_and, Bool.and_eq_true] at hi
    exact h.2 i hi.1
theorem tR_zero {f : Nat → Int} (hf : ∀ j, j < 36 → f j = 0) : tR (Int64.ofInt 0) f := ⟨fun a ha b hb => by rw [hf _ (by omega), tb_z, if_neg (fun q => absurd q.2 (by decide))], fun i hi => by rw [tb_z] at hi; cases hi⟩
noncomputable def dR (x s a b : Int) : Prop := ∃ s1 a1 b1 : Nat, s1 < 3 ∧ a1 < 6 ∧ b1 < 6 ∧ x = ((64 * s1 + 8 * a1 + b1 : Nat) : Int) ∧ s = (s1 : Int) ∧ a = (a1 : Int) ∧ (s1 ≠ 0 → b = (b1 : Int))
noncomputable def eRf (X K G Q : Nat → Int) (t : Int64) (M : Nat → Int) : Prop := X 3 = M 0 ∧ X 4 = M 43 ∧ X 5 = M 80 ∧ (∀ a : Nat, (a : Int) < X 3 → K a = M (1 + a) ∧ ∀ b : Nat, (b : Int) < X 3 → G (6 * a + b) = M (7 + (6 * a + b))) ∧ tR t (fun j => M (44 + j)) ∧ ∀ i : Nat, (i : Int) < X 5 → dR (Q i) (M (81 + 3 * i)) (M (81 + (3 * i + 1))) (M (81 + (3 * i + 2)))
theorem eRf_cg {X K G Q X1 K1 G1 Q1 M M1 : Nat → Int} {t : Int64} (h : eRf X K G Q t M) (h6 : X 3 ≤ 6) (h40 : X 5 ≤ 40) (hX : ∀ j, 3 ≤ j → j ≤ 5 → X1 j = X j) (hK : ∀ a, a < 6 → K1 a = K a) (hG : ∀ j, j < 36 → G1 j = G j) (hQ : ∀ i, i < 40 → Q1 i = Q i) (hM : ∀ m, m < 201 → M1 m = M m) : eRf X1 K1 G1 Q1 t M1 := by
  obtain ⟨a1, a2, a3, a4, a5, a6⟩ := h
  unfold eRf
  rw [hX 3 (by omega) (by omega), hX 4 (by omega) (by omega), hX 5 (by omega) (by omega), hM 0 (by omega), hM 43 (by omega), hM 80 (by omega)]
  refine ⟨a1, a2, a3, fun a ha => ⟨?_, fun b hb => ?_⟩, tR_cg (fun j hj => hM _ (by omega)) a5, fun i hi => ?_⟩
  · rw [hK a (by omega), hM _ (by omega)]
    exact (a4 a ha).1
  · rw [hG _ (by omega), hM _ (by omega)]
    exact (a4 a ha).2 b hb
  · rw [hQ i (by omega), hM _ (by omega), hM _ (by omega), hM _ (by omega)]
    exact a6 i hi
/-- the class's cells in one heap, the reference's in another -/
noncomputable def nR (h g : mH) : Prop := eRf (hI h 3) (hI h 4) (hI h 5) (hI h 6) (hJ h 3 6) (hI g 58)
theorem nR_sl {h g h1 g1 : mH} (hr : nR h g) (hx : ∀ p m, 3 ≤ p → p ≤ 6 → aSlot h1 p m = aSlot h p m) (hm : ∀ m, aSlot g1 58 m = aSlot g 58 m) : nR h1 g1 := by
  have e3 : hI h1 3 = hI h 3 := funext (fun m => hI_cg (hx 3 m (by omega) (by omega)))
  have e4 : hI h1 4 = hI h 4 := funext (fun m => hI_cg (hx 4 m (by omega) (by omega)))
  have e5 : hI h1 5 = hI h 5 := funext (fun m => hI_cg (hx 5 m (by omega) (by omega)))
  have e6 : hI h1 6 = hI h 6 := funext (fun m => hI_cg (hx 6 m (by omega) (by omega)))
  have e7 : hJ h1 3 6 = hJ h 3 6 := by unfold hJ; rw [hx 3 6 (by omega) (by omega)]
  have e8 : hI g1 58 = hI g 58 := funext (fun m => hI_cg (hm m))
  unfold nR
  rw [e3, e4, e5, e6, e7, e8]
  exact hr
/-- a deed is done -/
theorem nR_deed {h g h1 g1 : mH} {D : Nat} (hr : nR h g) (hD : hI h 3 5 = (D : Int)) (p3 : hI h1 3 3 = hI h 3 3) (m0 : hI g1 58 0 = hI g 58 0) (u : hI h1 3 4 = hI g1 58 43) (d1 : hI h1 3 5 = (D : Int) + 1) (d2 : hI g1 58 80 = (D : Int) + 1)
    (hK : ∀ a : Nat, hI h1 4 a = hI h 4 a) (mK : ∀ a : Nat, (a : Int) < hI h 3 3 → hI g1 58 (1 + a) = hI g 58 (1 + a))
    (hG : ∀ a b : Nat, (a : Int) < hI h 3 3 → (b : Int) < hI h 3 3 → hI h1 5 (6 * a + b) = hI g1 58 (7 + (6 * a + b)))
    (ht : tR (hJ h1 3 6) (fun j => hI g1 58 (44 + j))) (hQ : ∀ i : Nat, i < D → hI h1 6 i = hI h 6 i) (mQ : ∀ j : Nat, j < 3 * D → hI g1 58 (81 + j) = hI g 58 (81 + j))
    (q : dR (hI h1 6 D) (hI g1 58 (81 + 3 * D)) (hI g1 58 (81 + (3 * D + 1))) (hI g1 58 (81 + (3 * D + 2)))) : nR h1 g1 := by
  obtain ⟨a1, a2, a3, a4, a5, a6⟩ := hr
  refine ⟨by rw [p3, m0]; exact a1, u, by rw [d1, d2], fun a ha => ⟨?_, fun b hb => ?_⟩, ht, fun i hi => ?_⟩
  · rw [p3] at ha
    rw [hK, mK a ha]
    exact (a4 a ha).1
  · rw [p3] at ha hb
    exact hG a b ha hb
  · by_cases e : i = D
    · subst e
      exact q
    · rw [d1] at hi
      rw [hQ i (by omega), mQ _ (by omega), mQ _ (by omega), mQ _ (by omega)]
      exact a6 i (by omega)
noncomputable def kR (h : mH) : Prop := ∀ k, k < 3 → (hI h 61 k = 0 ∧ hI h (41 + 4 * k) 3 = 0) ∨ (hI h 61 k = 1 ∧ hI h (41 + 4 * k) 3 ≠ 0 ∧ eRf (hI h (41 + 4 * k)) (hI h (41 + 4 * k + 1)) (hI h (41 + 4 * k + 2)) (hI h (41 + 4 * k + 3)) (hJ h (41 + 4 * k) 6) (fun m => hI h 60 (201 * k + m)))
theorem kR_sl {h h1 : mH} (hk : kR h) (hs : ∀ p m, ((41 ≤ p ∧ p ≤ 52) ∨ p = 60 ∨ p = 61) → aSlot h1 p m = aSlot h p m) : kR h1 := by
  intro k hk3
  have e0 : hI h1 61 = hI h 61 := funext (fun m => hI_cg (hs _ m (by omega)))
  have e1 : hI h1 (41 + 4 * k) = hI h (41 + 4 * k) := funext (fun m => hI_cg (hs _ m (by omega)))
  have e2 : hI h1 (41 + 4 * k + 1) = hI h (41 + 4 * k + 1) := funext (fun m => hI_cg (hs _ m (by omega)))
  have e3 : hI h1 (41 + 4 * k + 2) = hI h (41 + 4 * k + 2) := funext (fun m => hI_cg (hs _ m (by omega)))
  have e4 : hI h1 (41 + 4 * k + 3) = hI h (41 + 4 * k + 3) := funext (fun m => hI_cg (hs _ m (by omega)))
  have e5 : hJ h1 (41 + 4 * k) 6 = hJ h (41 + 4 * k) 6 := by unfold hJ; rw [hs _ _ (by omega)]
  have e6 : hI h1 60 = hI h 60 := funext (fun m => hI_cg (hs _ m (by omega)))
  rw [e0, e1, e2, e3, e4, e5, e6]
  exact hk k hk3
noncomputable def wP (h : mH) : Prop := tP h ∧ nR h h ∧ kR h
theorem wP_a (h : mH) (hp : wP h) : aHp h := hp.1.1
/-- what class and reference do to the embassy that is now -/
theorem wP_now {h h1 h2 : mH} (hp : wP h) (hh2 : aHp h2) (hx : ∀ p m, ¬ (3 ≤ p ∧ p ≤ 6) → aSlot h1 p m = aSlot h p m) (hm : ∀ p m, p ≠ 58 → aSlot h2 p m = aSlot h1 p m) (hr : nR h1 h2) : wP h2 := by
  have hs : ∀ p m, ¬ (3 ≤ p ∧ p ≤ 6) → p ≠ 58 → aSlot h2 p m = aSlot h p m := fun p m a b => (hm p m b).trans (hx p m a)
  refine ⟨tP_sl hp.1 hh2 (fun e m w => hs e m (by omega) (by omega)), nR_sl hr (fun p m a b => hm p m (by omega)) (fun m => rfl), kR_sl hp.2.2 (fun p m w => hs p m (by omega) (by omega))⟩
/-- at the second call the reference's cells are as they were -/
theorem wP_two {h h1 : mH} (hp : wP h) (hx : ∀ p m, ¬ (3 ≤ p ∧ p ≤ 6) → aSlot h1 p m = aSlot h p m) : nR h h1 := nR_sl hp.2.1 (fun p m _ _ => rfl) (fun m => hx 58 m (by omega))
noncomputable def wMiss (ms : aMd) : Bool := tMiss ms && ms.all (fun m => decide ((m.1 < 3 ∨ 6 < m.1) ∧ (m.1 < 41 ∨ 52 < m.1) ∧ m.1 ≠ 58 ∧ m.1 ≠ 60 ∧ m.1 ≠ 61))
theorem wMiss_no {ms : aMd} (hm : wMiss ms = true) {a j : Nat} (ha : (3 ≤ a ∧ a ≤ 6) ∨ (41 ≤ a ∧ a ≤ 52) ∨ a = 58 ∨ a = 60 ∨ a = 61) : ¬ aCov ms a j := by
  unfold wMiss at hm
  rw [Bool.and_eq_true] at hm
  rintro ⟨m, m1, m2, m3, m4⟩
  have h2 := of_decide_eq_true (List.all_eq_true.mp hm.2 m m1)
  omega
theorem wP_fr {h h1 : mH} {ms : aMd} (hp : wP h) (hh1 : aHp h1) (hf : nFr ms h h1) (hm : wMiss ms = true) : wP h1 := by
  have ht : tMiss ms = true := by
    unfold wMiss at hm
    rw [Bool.and_eq_true] at hm
    exact hm.1
  have hs : ∀ a j, ((3 ≤ a ∧ a ≤ 6) ∨ (41 ≤ a ∧ a ≤ 52) ∨ a = 58 ∨ a = 60 ∨ a = 61) → aSlot h1 a j = aSlot h a j := fun a j w => hf a j (wMiss_no hm w)
  exact ⟨tP_fr hp.1 hh1 hf ht, nR_sl hp.2.1 (fun p m a b => hs p m (by omega)) (fun m => hs 58 m (by omega)), kR_sl hp.2.2 (fun p m w => hs p m (by omega))⟩
