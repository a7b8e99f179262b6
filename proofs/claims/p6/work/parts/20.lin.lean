/-! THE ANALYSER. Linear expressions over variables with bounds -/
abbrev aX : Type := Int × List (Int × Nat)
abbrev aB : Type := List (Int × Int)
noncomputable def aS1 (r : Nat → Int) : List (Int × Nat) → Int
  | [] => 0
  | t :: q => t.1 * r t.2 + aS1 r q
noncomputable def aEv (r : Nat → Int) (e : aX) : Int := e.1 + aS1 r e.2
noncomputable def aIn (c : Int) (k : Nat) : List (Int × Nat) → List (Int × Nat)
  | [] => if c = 0 then [] else [(c, k)]
  | t :: q => if t.2 = k then (if t.1 + c = 0 then q else (t.1 + c, k) :: q) else t :: aIn c k q
noncomputable def aIns (l : List (Int × Nat)) : List (Int × Nat) → List (Int × Nat)
  | [] => l
  | t :: q => aIn t.1 t.2 (aIns l q)
noncomputable def aAd (a b : aX) : aX := (a.1 + b.1, aIns a.2 b.2)
noncomputable def aScL (m : Int) : List (Int × Nat) → List (Int × Nat)
  | [] => []
  | t :: q => (m * t.1, t.2) :: aScL m q
noncomputable def aSc (m : Int) (a : aX) : aX := if m = 0 then (0, []) else (m * a.1, aScL m a.2)
noncomputable def aSb (a b : aX) : aX := aAd a (aSc (-1) b)
noncomputable def aK (c : Int) : aX := (c, [])
noncomputable def aVr (k : Nat) : aX := (0, [(1, k)])
theorem aIn_ev (r : Nat → Int) (c : Int) (k : Nat) : ∀ l, aS1 r (aIn c k l) = c * r k + aS1 r l
  | [] => by
    unfold aIn
    split
    · rename_i h; simp [aS1, h]
    · rfl
  | t :: q => by
    unfold aIn
    split
    · rename_i h
      split
      · rename_i h2
        show _ = _ + (t.1 * r t.2 + aS1 r q)
        have h3 : t.1 * r t.2 + c * r k = 0 := by rw [h, ← Int.add_mul, h2, Int.zero_mul]
        omega
      · show (t.1 + c) * r k + aS1 r q = c * r k + (t.1 * r t.2 + aS1 r q)
        rw [h, Int.add_mul]; omega
    · show t.1 * r t.2 + aS1 r (aIn c k q) = c * r k + (t.1 * r t.2 + aS1 r q)
      rw [aIn_ev r c k q]; omega
theorem aIns_ev (r : Nat → Int) (l : List (Int × Nat)) : ∀ q, aS1 r (aIns l q) = aS1 r l + aS1 r q
  | [] => by simp [aIns, aS1]
  | t :: q => by
    unfold aIns
    rw [aIn_ev, aIns_ev r l q]
    show _ = _ + (t.1 * r t.2 + aS1 r q)
    omega
theorem aAd_ev (r : Nat → Int) (a b : aX) : aEv r (aAd a b) = aEv r a + aEv r b := by
  unfold aEv aAd
  dsimp only
  rw [aIns_ev]; omega
theorem aScL_ev (r : Nat → Int) (m : Int) : ∀ l, aS1 r (aScL m l) = m * aS1 r l
  | [] => by simp [aScL, aS1]
  | t :: q => by
    show m * t.1 * r t.2 + aS1 r (aScL m q) = m * (t.1 * r t.2 + aS1 r q)
    rw [aScL_ev r m q, Int.mul_add, Int.mul_assoc]
theorem aSc_ev (r : Nat → Int) (m : Int) (a : aX) : aEv r (aSc m a) = m * aEv r a := by
  unfold aSc
  split
  · rename_i h; subst h; simp [aEv, aS1]
  · unfold aEv; dsimp only; rw [aScL_ev, Int.mul_add]
theorem aSb_ev (r : Nat → Int) (a b : aX) : aEv r (aSb a b) = aEv r a - aEv r b := by
  unfold aSb
  rw [aAd_ev, aSc_ev]; omega
theorem aK_ev (r : Nat → Int) (c : Int) : aEv r (aK c) = c := by simp [aEv, aK, aS1]
theorem aVr_ev (r : Nat → Int) (k : Nat) : aEv r (aVr k) = r k := by simp [aEv, aVr, aS1]
/-- all variables below n -/
noncomputable def aWl (n : Nat) (l : List (Int × Nat)) : Prop := ∀ t ∈ l, t.2 < n
noncomputable def aWf (n : Nat) (e : aX) : Prop := aWl n e.2
theorem aIn_wf {n : Nat} {c : Int} {k : Nat} (hk : k < n) : ∀ {l : List (Int × Nat)}, aWl n l → aWl n (aIn c k l)
  | [], h => by
    unfold aIn
    split
    · exact h
    · intro t ht; rcases List.mem_singleton.mp ht with rfl; exact hk
  | t :: q, h => by
    have hq : aWl n q := fun z hz => h z (List.mem_cons_of_mem _ hz)
    unfold aIn
    split
    · split
      · exact hq
      · intro z hz
        rcases List.mem_cons.mp hz with rfl | hz
        · exact hk
        · exact hq z hz
    · intro z hz
      rcases List.mem_cons.mp hz with rfl | hz
      · exact h z List.mem_cons_self
      · exact aIn_wf hk hq z hz
theorem aIns_wf {n : Nat} {l : List (Int × Nat)} (hl : aWl n l) : ∀ {q : List (Int × Nat)}, aWl n q → aWl n (aIns l q)
  | [], _ => hl
  | t :: q, h => aIn_wf (h t List.mem_cons_self) (aIns_wf hl (fun z hz => h z (List.mem_cons_of_mem _ hz)))
theorem aAd_wf {n : Nat} {a b : aX} (ha : aWf n a) (hb : aWf n b) : aWf n (aAd a b) := aIns_wf ha hb
theorem aScL_wf {n : Nat} {m : Int} : ∀ {l : List (Int × Nat)}, aWl n l → aWl n (aScL m l)
  | [], h => h
  | t :: q, h => by
    intro z hz
    rcases List.mem_cons.mp hz with rfl | hz
    · exact h t List.mem_cons_self
    · exact aScL_wf (fun y hy => h y (List.mem_cons_of_mem _ hy)) z hz
theorem aK_wf (n : Nat) (c : Int) : aWf n (aK c) := fun t ht => by cases ht
theorem aSc_wf {n : Nat} {m : Int} {a : aX} (ha : aWf n a) : aWf n (aSc m a) := by
  unfold aSc
  split
  · exact aK_wf n 0
  · exact aScL_wf ha
theorem aSb_wf {n : Nat} {a b : aX} (ha : aWf n a) (hb : aWf n b) : aWf n (aSb a b) := aAd_wf ha (aSc_wf hb)
theorem aVr_wf {n k : Nat} (h : k < n) : aWf n (aVr k) := fun t ht => by rcases List.mem_singleton.mp ht with rfl; exact h
theorem aWf.up {n n1 : Nat} {e : aX} (h : aWf n e) (hn : n ≤ n1) : aWf n1 e := fun t ht => Nat.lt_of_lt_of_le (h t ht) hn
noncomputable def aUp (r : Nat → Int) (k : Nat) (z : Int) : Nat → Int := fun j => if j = k then z else r j
theorem aS1_up {r : Nat → Int} {n : Nat} {z : Int} : ∀ {l : List (Int × Nat)}, aWl n l → aS1 (aUp r n z) l = aS1 r l
  | [], _ => rfl
  | t :: q, h => by
    show t.1 * aUp r n z t.2 + _ = _
    rw [aS1_up (fun y hy => h y (List.mem_cons_of_mem _ hy))]
    have h1 := h t List.mem_cons_self
    unfold aUp
    rw [if_neg (by omega)]
    rfl
theorem aEv_up {r : Nat → Int} {n : Nat} {z : Int} {e : aX} (h : aWf n e) : aEv (aUp r n z) e = aEv r e := by
  unfold aEv; rw [aS1_up h]
/-- bounds -/
noncomputable def aBd (B : aB) (r : Nat → Int) : Prop := ∀ (k : Nat) (q : Int × Int), B[k]? = some q → q.1 ≤ r k ∧ r k ≤ q.2
noncomputable def aLoL (B : aB) : List (Int × Nat) → Int
  | [] => 0
  | t :: q => (if 0 ≤ t.1 then t.1 * (B.getD t.2 (0, 0)).1 else t.1 * (B.getD t.2 (0, 0)).2) + aLoL B q
noncomputable def aLo (B : aB) (e : aX) : Int := e.1 + aLoL B e.2
noncomputable def aHi (B : aB) (e : aX) : Int := - aLo B (aSc (-1) e)
theorem aBd_get {B : aB} {r : Nat → Int} (h : aBd B r) {k : Nat} (hk : k < B.length) : (B.getD k (0, 0)).1 ≤ r k ∧ r k ≤ (B.getD k (0, 0)).2 := by
  have h1 : B[k]? = some B[k] := List.getElem?_eq_getElem hk
  rw [List.getD_eq_getElem?_getD, h1]
  exact h k _ h1
theorem aLoL_le {B : aB} {r : Nat → Int} (h : aBd B r) : ∀ {l : List (Int × Nat)}, aWl B.length l → aLoL B l ≤ aS1 r l
  | [], _ => Int.le_refl _
  | t :: q, hw => by
    have ih := aLoL_le h (fun y hy => hw y (List.mem_cons_of_mem _ hy))
    obtain ⟨h1, h2⟩ := aBd_get h (hw t List.mem_cons_self)
    show (if 0 ≤ t.1 then t.1 * (B.getD t.2 (0, 0)).1 else t.1 * (B.getD t.2 (0, 0)).2) + aLoL B q ≤ t.1 * r t.2 + aS1 r q
    split
    · rename_i hc
      have := Int.mul_le_mul_of_nonneg_left h1 hc
      omega
    · rename_i hc
      have := Int.mul_le_mul_of_nonpos_left (show t.1 ≤ 0 by omega) h2
      omega
theorem aLo_le {B : aB} {r : Nat → Int} (h : aBd B r) {e : aX} (hw : aWf B.length e) : aLo B e ≤ aEv r e := by
  have := aLoL_le h hw
  unfold aLo aEv; omega
theorem aHi_ge {B : aB} {r : Nat → Int} (h : aBd B r) {e : aX} (hw : aWf B.length e) : aEv r e ≤ aHi B e := by
  have h1 := aLo_le h (aSc_wf (m := -1) hw)
  rw [aSc_ev] at h1
  unfold aHi; omega
/-- what follows from the facts C, taking each at most so often -/
noncomputable def aPrC (B : aB) (C : List aX) : Nat → aX → Bool
  | 0, e => decide (0 ≤ aLo B e)
  | n + 1, e => decide (0 ≤ aLo B e) || C.any (fun c => e.2.any (fun t => c.2.any (fun u => t.2 == u.2 && (decide (0 < t.1 * u.1) && (decide (t.1 % u.1 = 0) && aPrC B C n (aSb e (aSc (t.1 / u.1) c)))))))
noncomputable def aFacts (C : List aX) (n : Nat) (r : Nat → Int) : Prop := ∀ c ∈ C, aWf n c ∧ 0 ≤ aEv r c
theorem aPrC_ok {B : aB} {C : List aX} {r : Nat → Int} (hB : aBd B r) (hC : aFacts C B.length r) : ∀ (n : Nat) (e : aX), aWf B.length e → aPrC B C n e = true → 0 ≤ aEv r e := by
  intro n
  induction n with
  | zero =>
    intro e hw h
    have h1 := of_decide_eq_true h
    have h2 := aLo_le hB hw
    omega
  | succ n ih =>
    intro e hw h
    unfold aPrC at h
    rw [Bool.or_eq_true] at h
    rcases h with h | h
    · have h1 := of_decide_eq_true h
      have h2 := aLo_le hB hw
      omega
    · obtain ⟨c, hc, h⟩ := List.any_eq_true.mp h
      obtain ⟨t, ht, h⟩ := List.any_eq_true.mp h
      obtain ⟨u, hu, h⟩ := List.any_eq_true.mp h
      simp only [Bool.and_eq_true, decide_eq_true_eq] at h
      obtain ⟨-, h1, h2, h3⟩ := h
      obtain ⟨c1, c2⟩ := hC c hc
      have h4 := ih _ (aSb_wf hw (aSc_wf c1)) h3
      rw [aSb_ev, aSc_ev] at h4
      have h5 : 0 ≤ t.1 / u.1 := by
        rcases Int.lt_trichotomy u.1 0 with hu0 | hu0 | hu0
        · have ht0 : t.1 < 0 := by
            rcases Int.lt_or_le t.1 0 with q | q
            · exact q
            · have := Int.mul_nonpos_of_nonneg_of_nonpos q (Int.le_of_lt hu0); omega
          exact Int.le_of_lt (Int.ediv_pos_of_neg_of_neg ht0 hu0)
        · rw [hu0] at h1; simp at h1
        · have ht0 : 0 < t.1 := by
            rcases Int.lt_or_le 0 t.1 with q | q
            · exact q
            · have := Int.mul_nonpos_of_nonpos_of_nonneg q (Int.le_of_lt hu0); omega
          exact Int.ediv_nonneg (Int.le_of_lt ht0) (Int.le_of_lt hu0)
      have h6 := Int.mul_nonneg h5 c2
      omega
