/-! states of the analyser -/
abbrev aV : Type := Nat × aX × Nat
abbrev aGh : Type := List (Nat × aX × aV)
abbrev aSt : Type := aB × List aX × aGh × aX
noncomputable def aHiL (B : aB) : List (Int × Nat) → Int
  | [] => 0
  | t :: q => (if 0 ≤ t.1 then t.1 * (B.getD t.2 (0, 0)).2 else t.1 * (B.getD t.2 (0, 0)).1) + aHiL B q
noncomputable def aHj (B : aB) (e : aX) : Int := e.1 + aHiL B e.2
theorem aTm_hi {B : aB} {r : Nat → Int} (h : aBd B r) {t : Int × Nat} (ht : t.2 < B.length) : t.1 * r t.2 ≤ (if 0 ≤ t.1 then t.1 * (B.getD t.2 (0, 0)).2 else t.1 * (B.getD t.2 (0, 0)).1) := by
  obtain ⟨h1, h2⟩ := aBd_get h ht
  split
  · rename_i hc; exact Int.mul_le_mul_of_nonneg_left h2 hc
  · rename_i hc; exact Int.mul_le_mul_of_nonpos_left (show t.1 ≤ 0 by omega) h1
theorem aHiL_ge {B : aB} {r : Nat → Int} (h : aBd B r) : ∀ {l : List (Int × Nat)}, aWl B.length l → aS1 r l ≤ aHiL B l
  | [], _ => Int.le_refl _
  | t :: q, hw => by
    have ih := aHiL_ge h (fun y hy => hw y (List.mem_cons_of_mem _ hy))
    have h1 := aTm_hi h (hw t List.mem_cons_self)
    show t.1 * r t.2 + aS1 r q ≤ _ + aHiL B q
    omega
theorem aHj_ge {B : aB} {r : Nat → Int} (h : aBd B r) {e : aX} (hw : aWf B.length e) : aEv r e ≤ aHj B e := by
  have := aHiL_ge h hw
  unfold aHj aEv; omega
theorem aHiL_but {B : aB} {r : Nat → Int} (h : aBd B r) {t : Int × Nat} : ∀ {l : List (Int × Nat)}, aWl B.length l → t ∈ l → aS1 r l - t.1 * r t.2 ≤ aHiL B l - (if 0 ≤ t.1 then t.1 * (B.getD t.2 (0, 0)).2 else t.1 * (B.getD t.2 (0, 0)).1)
  | [], _, ht => by cases ht
  | u :: q, hw, ht => by
    have hq : aWl B.length q := fun y hy => hw y (List.mem_cons_of_mem _ hy)
    rcases List.mem_cons.mp ht with rfl | ht
    · have := aHiL_ge h hq
      show (t.1 * r t.2 + aS1 r q) - _ ≤ (_ + aHiL B q) - _
      omega
    · have h1 := aTm_hi h (hw u List.mem_cons_self)
      have ih := aHiL_but h hq ht
      show (u.1 * r u.2 + aS1 r q) - _ ≤ (_ + aHiL B q) - _
      omega
/-- bounds made closer by a fact -/
noncomputable def aTi (B0 : aB) (hh : Int) : List (Int × Nat) → aB → aB
  | [], B => B
  | t :: q, B => aTi B0 hh q (B.set t.2 (if 0 < t.1 then (max (B0.getD t.2 (0, 0)).1 (-((hh - t.1 * (B0.getD t.2 (0, 0)).2) / t.1)), (B0.getD t.2 (0, 0)).2) else if t.1 < 0 then ((B0.getD t.2 (0, 0)).1, min (B0.getD t.2 (0, 0)).2 ((hh - t.1 * (B0.getD t.2 (0, 0)).1) / (-t.1))) else B0.getD t.2 (0, 0)))
theorem aBd_set {B : aB} {r : Nat → Int} (h : aBd B r) {k : Nat} {q : Int × Int} (hq : q.1 ≤ r k ∧ r k ≤ q.2) : aBd (B.set k q) r := by
  intro j p hj
  by_cases e : j = k
  · subst e
    rw [List.getElem?_set] at hj
    simp only [if_true] at hj
    split at hj
    · cases hj; exact hq
    · cases hj
  · rw [List.getElem?_set_ne (Ne.symm e)] at hj
    exact h j p hj
theorem aTi_ok {B0 : aB} {r : Nat → Int} {e : aX} (h0 : aBd B0 r) (hw : aWf B0.length e) (he : 0 ≤ aEv r e) : ∀ (l : List (Int × Nat)) (B : aB), (∀ t ∈ l, t ∈ e.2) → B.length = B0.length → aBd B r → aBd (aTi B0 (aHj B0 e) l B) r ∧ (aTi B0 (aHj B0 e) l B).length = B0.length := by
  intro l
  induction l with
  | nil => intro B _ hl hB; exact ⟨hB, hl⟩
  | cons t q ih =>
    intro B hs hl hB
    unfold aTi
    refine ih _ (fun z hz => hs z (List.mem_cons_of_mem _ hz)) (by simp [hl]) (aBd_set hB ?_)
    have ht := hs t List.mem_cons_self
    obtain ⟨b1, b2⟩ := aBd_get h0 (hw t ht)
    have h1 := aHiL_but h0 hw ht
    have h2 : aEv r e = e.1 + aS1 r e.2 := rfl
    have h3 : aHj B0 e = e.1 + aHiL B0 e.2 := rfl
    by_cases hc : 0 < t.1
    · rw [if_pos (Int.le_of_lt hc)] at h1
      rw [if_pos hc]
      refine ⟨?_, b2⟩
      show max _ _ ≤ r t.2
      rw [Int.max_le]
      refine ⟨b1, ?_⟩
      generalize (B0.getD t.2 (0, 0)).2 = hi at *
      have hz : t.1 ≠ 0 := by omega
      have h4 : 0 ≤ t.1 * r t.2 + (aHj B0 e - t.1 * hi) := by omega
      have h6 : 0 ≤ (r t.2 + (aHj B0 e - t.1 * hi) / t.1) := by
        have h7 : 0 ≤ (t.1 * r t.2 + (aHj B0 e - t.1 * hi)) / t.1 := Int.ediv_nonneg h4 (Int.le_of_lt hc)
        rw [Int.mul_add_ediv_left _ _ hz] at h7
        exact h7
      omega
    · rw [if_neg hc]
      by_cases hn : t.1 < 0
      · rw [if_neg (by omega)] at h1
        rw [if_pos hn]
        refine ⟨b1, ?_⟩
        show r t.2 ≤ min _ _
        rw [Int.le_min]
        refine ⟨b2, ?_⟩
        generalize (B0.getD t.2 (0, 0)).1 = lo at *
        have hp : 0 < -t.1 := by omega
        have h4 : (-t.1) * r t.2 ≤ aHj B0 e - t.1 * lo := by
          have : (-t.1) * r t.2 = - (t.1 * r t.2) := Int.neg_mul _ _
          omega
        exact (Int.le_ediv_iff_mul_le hp).mpr (by rw [Int.mul_comm]; exact h4)
      · rw [if_neg hn]
        exact ⟨b1, b2⟩
/-- a fact taken in; none: it can't be -/
noncomputable def aAs (S : aSt) (e : aX) : Option aSt :=
  if aHj S.1 e < 0 then none else if 0 ≤ aLo S.1 e then some S else
  if e.2.length ≠ 1 ∧ aPrC S.1 S.2.1 1 (aSb (aK (-1)) e) = true then none else
  if (aTi S.1 (aHj S.1 e) e.2 S.1).any (fun q => decide (q.2 < q.1)) = true then none else
  if e.2.length = 1 ∨ 0 ≤ aLo (aTi S.1 (aHj S.1 e) e.2 S.1) e then some (aTi S.1 (aHj S.1 e) e.2 S.1, S.2.1, S.2.2) else some (aTi S.1 (aHj S.1 e) e.2 S.1, e :: S.2.1, S.2.2)
/-- what a value of the analyser says of a value -/
noncomputable def aVs (n : Nat) (r : Nat → Int) (v : aV) (w : Value) : Prop := aWf n v.2.1 ∧ match v.1 with
  | 0 => ∃ z : Int32, w = .int z ∧ z.toInt = aEv r v.2.1
  | 1 => ∃ z : Int64, w = .long z ∧ z.toInt = aEv r v.2.1
  | 2 => w = .ref v.2.2
  | 3 => w = .null
  | 4 => w = .retAddr v.2.2
  | 5 => ∃ z : Int32, w = .int z ∧ z.toInt = (if 0 < aEv r v.2.1 then 1 else if aEv r v.2.1 = 0 then 0 else -1)
  | _ => True
noncomputable def aSlot (h : mH) (a n : Nat) : Option Value := match h[a]? with
  | some q => q.2[n]?
  | none => none
noncomputable def aGs (n : Nat) (r : Nat → Int) (G : aGh) (h : mH) : Prop := ∀ g ∈ G, aWf n g.2.1 ∧ ∃ (j : Nat) (w : Value), aEv r g.2.1 = (j : Int) ∧ aSlot h g.1 j = some w ∧ aVs n r g.2.2 w
/-- the sum of one cell's numbers (the reference's far), for a loop that ends because it falls -/
noncomputable def aIv : Value → Int
  | .int z => z.toInt
  | _ => 0
noncomputable def aPh (h : mH) : Int := match h[63]? with
  | some q => (q.2.map aIv).sum
  | none => 0
noncomputable def aKap : Int := 40000
noncomputable def aOk (r : Nat → Int) (S : aSt) (m0 : Int) (h : mH) : Prop := aBd S.1 r ∧ aFacts S.2.1 S.1.length r ∧ aGs S.1.length r S.2.2.1 h ∧ aWf S.1.length S.2.2.2 ∧ aEv r S.2.2.2 + aKap * aPh h ≤ m0
theorem aAs_ok {r : Nat → Int} {S : aSt} {m0 : Int} {h : mH} {e : aX} (hS : aOk r S m0 h) (hw : aWf S.1.length e) (he : 0 ≤ aEv r e) : ∃ S1, aAs S e = some S1 ∧ aOk r S1 m0 h ∧ S1.1.length = S.1.length := by
  obtain ⟨hB, hC, hG, hO⟩ := hS
  unfold aAs
  have h1 := aHj_ge hB hw
  rw [if_neg (by omega)]
  split
  · exact ⟨S, rfl, ⟨hB, hC, hG, hO⟩, rfl⟩
  · rw [if_neg (by
      rintro ⟨-, q⟩
      have := aPrC_ok hB hC 1 _ (aSb_wf (aK_wf _ _) hw) q
      rw [aSb_ev, aK_ev] at this
      omega)]
    obtain ⟨t1, t2⟩ := aTi_ok hB hw he e.2 S.1 (fun t ht => ht) rfl hB
    rw [if_neg (by
      intro q
      obtain ⟨z, hz, hz2⟩ := List.any_eq_true.mp q
      obtain ⟨k, hk⟩ := List.getElem?_of_mem hz
      have := t1 k z hk
      have := of_decide_eq_true hz2
      omega)]
    split
    · exact ⟨_, rfl, ⟨t1, by rw [t2]; exact hC, by rw [t2]; exact hG, by rw [t2]; exact hO⟩, t2⟩
    · refine ⟨_, rfl, ⟨t1, ?_, by rw [t2]; exact hG, by rw [t2]; exact hO⟩, t2⟩
      rw [t2]
      intro c hc
      rcases List.mem_cons.mp hc with rfl | hc
      · exact ⟨hw, he⟩
      · exact hC c hc
/-- a new variable -/
noncomputable def aNw (S : aSt) (lo hi : Int) : aSt := (S.1 ++ [(lo, hi)], S.2.1, S.2.2)
theorem aVs.up {n : Nat} {r : Nat → Int} {z : Int} {v : aV} {w : Value} (h : aVs n r v w) : aVs (n + 1) (aUp r n z) v w := by
  obtain ⟨h1, h2⟩ := h
  refine ⟨h1.up (Nat.le_succ _), ?_⟩
  rw [aEv_up h1]
  exact h2
theorem aNw_len (S : aSt) (lo hi : Int) : (aNw S lo hi).1.length = S.1.length + 1 := by simp [aNw]
theorem aNw_ok {r : Nat → Int} {S : aSt} {m0 : Int} {h : mH} {lo hi z : Int} (hS : aOk r S m0 h) (h1 : lo ≤ z) (h2 : z ≤ hi) : aOk (aUp r S.1.length z) (aNw S lo hi) m0 h := by
  obtain ⟨hB, hC, hG, hO1, hO2⟩ := hS
  refine ⟨?_, ?_, ?_, ?_, ?_⟩
  · intro k q hk
    unfold aUp
    show q.1 ≤ (if k = S.1.length then z else r k) ∧ _
    have hk2 : (S.1 ++ [(lo, hi)])[k]? = some q := hk
    by_cases e : k < S.1.length
    · rw [List.getElem?_append_left e] at hk2
      rw [if_neg (by omega)]
      exact hB k q hk2
    · rw [List.getElem?_append_right (by omega)] at hk2
      have h3 : k - S.1.length < 1 := (List.getElem?_eq_some_iff.mp hk2).1
      have h4 : k = S.1.length := by omega
      subst h4
      rw [Nat.sub_self] at hk2
      cases hk2
      rw [if_pos rfl]
      exact ⟨h1, h2⟩
  · rw [aNw_len]
    intro c hc
    obtain ⟨c1, c2⟩ := hC c hc
    exact ⟨c1.up (Nat.le_succ _), by rw [aEv_up c1]; exact c2⟩
  · rw [aNw_len]
    intro g hg
    obtain ⟨g1, j, w, g2, g3, g4⟩ := hG g hg
    exact ⟨g1.up (Nat.le_succ _), j, w, by rw [aEv_up g1]; exact g2, g3, g4.up⟩
  · rw [aNw_len]; exact hO1.up (Nat.le_succ _)
  · show aEv _ S.2.2.2 + _ ≤ m0
    rw [aEv_up hO1]; exact hO2
theorem aUp_self (r : Nat → Int) (n : Nat) (z : Int) : aUp r n z n = z := by simp [aUp]
noncomputable def aPr (S : aSt) (e : aX) : Bool := aPrC S.1 S.2.1 2 e
theorem aPr_ok {r : Nat → Int} {S : aSt} {m0 : Int} {h : mH} {e : aX} (hS : aOk r S m0 h) (hw : aWf S.1.length e) (hp : aPr S e = true) : 0 ≤ aEv r e := aPrC_ok hS.1 hS.2.1 2 e hw hp
/-- variables with one value only, put in -/
noncomputable def aNmL (B : aB) : List (Int × Nat) → aX
  | [] => (0, [])
  | t :: q => if (B.getD t.2 (0, 0)).1 = (B.getD t.2 (0, 0)).2 ∧ t.2 < B.length then ((aNmL B q).1 + t.1 * (B.getD t.2 (0, 0)).1, (aNmL B q).2) else ((aNmL B q).1, t :: (aNmL B q).2)
noncomputable def aNm (B : aB) (e : aX) : aX := (e.1 + (aNmL B e.2).1, (aNmL B e.2).2)
theorem aNmL_ok {B : aB} {r : Nat → Int} (h : aBd B r) (n : Nat) : ∀ {l : List (Int × Nat)}, aEv r (aNmL B l) = aS1 r l ∧ (aWl n l → aWf n (aNmL B l))
  | [] => ⟨rfl, fun h => h⟩
  | t :: q => by
    obtain ⟨i1, i2⟩ := aNmL_ok h n (l := q)
    unfold aNmL
    split
    · rename_i hc
      obtain ⟨b1, b2⟩ := aBd_get h hc.2
      refine ⟨?_, fun hw => i2 (fun y hy => hw y (List.mem_cons_of_mem _ hy))⟩
      have : (B.getD t.2 (0, 0)).1 = r t.2 := by omega
      unfold aEv at i1 ⊢
      dsimp only
      rw [this]
      show _ = t.1 * r t.2 + aS1 r q
      omega
    · refine ⟨?_, fun hw => ?_⟩
      · unfold aEv at i1 ⊢
        show (aNmL B q).1 + (t.1 * r t.2 + aS1 r (aNmL B q).2) = t.1 * r t.2 + aS1 r q
        omega
      · intro y hy
        rcases List.mem_cons.mp hy with rfl | hy
        · exact hw _ List.mem_cons_self
        · exact i2 (fun y hy => hw y (List.mem_cons_of_mem _ hy)) y hy
theorem aNm_ev {B : aB} {r : Nat → Int} (h : aBd B r) (e : aX) : aEv r (aNm B e) = aEv r e := by
  have := (aNmL_ok h 0 (l := e.2)).1
  unfold aEv at this ⊢
  unfold aNm
  dsimp only
  omega
theorem aNm_wf {B : aB} {r : Nat → Int} (h : aBd B r) {n : Nat} {e : aX} (hw : aWf n e) : aWf n (aNm B e) := (aNmL_ok h n (l := e.2)).2 hw
