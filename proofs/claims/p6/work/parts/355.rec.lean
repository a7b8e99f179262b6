/-! the analyser once more, its lists walked by recursors -/
section QZP
variable {α β : Type}
noncomputable def qzif (b : Bool) (y x : α) : α := Bool.rec (motive := fun _ => α) x y b
noncomputable def qzgD (l : List α) : Nat → α → α := List.rec (motive := fun _ => Nat → α → α) (fun _ d => d) (fun a _ ih k d => Nat.rec (motive := fun _ => α) a (fun j _ => ih j d) k) l
noncomputable def qzfi (l : List α) (p : α → Bool) : Option α := List.rec (motive := fun _ => Option α) none (fun a _ ih => Bool.rec (motive := fun _ => Option α) ih (some a) (p a)) l
noncomputable def qzay (l : List α) (p : α → Bool) : Bool := List.rec (motive := fun _ => Bool) false (fun a _ ih => Bool.rec (motive := fun _ => Bool) ih true (p a)) l
noncomputable def qzal (l : List α) (p : α → Bool) : Bool := List.rec (motive := fun _ => Bool) true (fun a _ ih => Bool.rec (motive := fun _ => Bool) false ih (p a)) l
noncomputable def qzfl (l : List α) (p : α → Bool) : List α := List.rec (motive := fun _ => List α) [] (fun a _ ih => Bool.rec (motive := fun _ => List α) ih (a :: ih) (p a)) l
noncomputable def qztk (l : List α) : Nat → List α := List.rec (motive := fun _ => Nat → List α) (fun _ => []) (fun a _ ih k => Nat.rec (motive := fun _ => List α) [] (fun j _ => a :: ih j) k) l
noncomputable def qzdp (l : List α) : Nat → List α := List.rec (motive := fun _ => Nat → List α) (fun _ => []) (fun a t ih k => Nat.rec (motive := fun _ => List α) (a :: t) (fun j _ => ih j) k) l
noncomputable def qzmp (l : List α) (f : α → β) : List β := List.rec (motive := fun _ => List β) [] (fun a _ ih => f a :: ih) l
noncomputable def qzap (l q : List α) : List α := List.rec (motive := fun _ => List α) q (fun a _ ih => a :: ih) l
noncomputable def qzln (l : List α) : Nat := List.rec (motive := fun _ => Nat) 0 (fun _ _ ih => Nat.succ ih) l
noncomputable def qzst (l : List α) : Nat → α → List α := List.rec (motive := fun _ => Nat → α → List α) (fun _ _ => []) (fun a t ih k v => Nat.rec (motive := fun _ => List α) (v :: t) (fun j _ => a :: ih j v) k) l
end QZP
noncomputable def qzpl (a b : Int) : Int := Int.rec (motive := fun _ => Int) (fun m => Int.rec (motive := fun _ => Int) (fun n => Int.ofNat (Nat.add m n)) (fun n => Int.subNatNat m (Nat.succ n)) b) (fun m => Int.rec (motive := fun _ => Int) (fun n => Int.subNatNat n (Nat.succ m)) (fun n => Int.negSucc (Nat.succ (Nat.add m n))) b) a
noncomputable def qzno (n : Nat) : Int := Nat.rec (motive := fun _ => Int) (Int.ofNat 0) (fun k _ => Int.negSucc k) n
noncomputable def qzml (a b : Int) : Int := Int.rec (motive := fun _ => Int) (fun m => Int.rec (motive := fun _ => Int) (fun n => Int.ofNat (Nat.mul m n)) (fun n => qzno (Nat.mul m (Nat.succ n))) b) (fun m => Int.rec (motive := fun _ => Int) (fun n => qzno (Nat.mul (Nat.succ m) n)) (fun n => Int.ofNat (Nat.mul (Nat.succ m) (Nat.succ n))) b) a
noncomputable def qznn (a : Int) : Bool := Int.rec (motive := fun _ => Bool) (fun _ => true) (fun _ => false) a
noncomputable def qzz (a : Int) : Bool := Int.rec (motive := fun _ => Bool) (fun n => Nat.rec (motive := fun _ => Bool) true (fun _ _ => false) n) (fun _ => false) a
noncomputable def qzan (a b : Bool) : Bool := Bool.rec (motive := fun _ => Bool) false b a
noncomputable def qzor (a b : Bool) : Bool := Bool.rec (motive := fun _ => Bool) b true a
noncomputable def qz0 (e : aX) : Bool := Int.rec (motive := fun _ => Bool) (fun n => Nat.rec (motive := fun _ => Bool) (List.rec (motive := fun _ => Bool) true (fun _ _ _ => false) e.2) (fun _ _ => false) n) (fun _ => false) e.1

theorem qzif_eq {α : Type} (b : Bool) (y x : α) : qzif b y x = if b = true then y else x := by cases b <;> rfl
theorem qzgD_eq {α : Type} : ∀ (l : List α) (k : Nat) (d : α), qzgD l k d = l.getD k d
  | [], _, _ => by simp [qzgD]
  | _ :: _, 0, _ => rfl
  | a :: t, k + 1, d => (qzgD_eq t k d).trans (by simp)
theorem qzbr {α : Type} (b : Bool) (x y : α) : (Bool.rec (motive := fun _ => α) x y b : α) = if b = true then y else x := by cases b <;> rfl
theorem qzfi_eq {α : Type} (p : α → Bool) : ∀ (l : List α), qzfi l p = l.find? p
  | [] => rfl
  | a :: t => by
    show Bool.rec (motive := fun _ => Option α) (qzfi t p) (some a) (p a) = _
    rw [qzbr, qzfi_eq p t, List.find?_cons]
    cases p a <;> rfl
theorem qzay_eq {α : Type} (p : α → Bool) : ∀ (l : List α), qzay l p = l.any p
  | [] => rfl
  | a :: t => by
    show Bool.rec (motive := fun _ => Bool) (qzay t p) true (p a) = _
    rw [qzbr, qzay_eq p t, List.any_cons]
    cases p a <;> rfl
theorem qzal_eq {α : Type} (p : α → Bool) : ∀ (l : List α), qzal l p = l.all p
  | [] => rfl
  | a :: t => by
    show Bool.rec (motive := fun _ => Bool) false (qzal t p) (p a) = _
    rw [qzbr, qzal_eq p t, List.all_cons]
    cases p a <;> rfl
theorem qzfl_eq {α : Type} (p : α → Bool) : ∀ (l : List α), qzfl l p = l.filter p
  | [] => rfl
  | a :: t => by
    show Bool.rec (motive := fun _ => List α) (qzfl t p) (a :: qzfl t p) (p a) = _
    rw [qzbr, qzfl_eq p t, List.filter_cons]
theorem qztk_eq {α : Type} : ∀ (l : List α) (k : Nat), qztk l k = l.take k
  | [], _ => by simp [qztk]
  | _ :: _, 0 => rfl
  | a :: t, k + 1 => (congrArg (a :: ·) (qztk_eq t k)).trans (by simp)
theorem qzdp_eq {α : Type} : ∀ (l : List α) (k : Nat), qzdp l k = l.drop k
  | [], _ => by simp [qzdp]
  | _ :: _, 0 => rfl
  | a :: t, k + 1 => (qzdp_eq t k).trans (by simp)
theorem qzmp_eq {α β : Type} (f : α → β) : ∀ (l : List α), qzmp l f = l.map f
  | [] => rfl
  | a :: t => (congrArg (f a :: ·) (qzmp_eq f t)).trans (by simp)
theorem qzap_eq {α : Type} (q : List α) : ∀ (l : List α), qzap l q = l ++ q
  | [] => rfl
  | a :: t => (congrArg (a :: ·) (qzap_eq q t)).trans (by simp)
theorem qzln_eq {α : Type} : ∀ (l : List α), qzln l = l.length
  | [] => rfl
  | a :: t => (congrArg Nat.succ (qzln_eq t)).trans (by simp)
theorem qzst_eq {α : Type} : ∀ (l : List α) (k : Nat) (v : α), qzst l k v = l.set k v
  | [], _, _ => by simp [qzst]
  | _ :: _, 0, _ => rfl
  | a :: t, k + 1, v => (congrArg (a :: ·) (qzst_eq t k v)).trans (by simp)
theorem qzbe (a b : Nat) : Nat.beq a b = (a == b) := by
  rw [Bool.eq_iff_iff, beq_iff_eq]
  exact ⟨Nat.eq_of_beq_eq_true, fun h => by rw [h]; exact Nat.beq_refl b⟩
theorem qzpl_eq (a b : Int) : qzpl a b = a + b := by cases a <;> cases b <;> rfl
theorem qzno_eq (n : Nat) : qzno n = Int.negOfNat n := by cases n <;> rfl
theorem qzml_eq (a b : Int) : qzml a b = a * b := by
  cases a with
  | ofNat m =>
    cases b with
    | ofNat n => rfl
    | negSucc n => exact qzno_eq _
  | negSucc m =>
    cases b with
    | ofNat n => exact qzno_eq _
    | negSucc n => rfl
theorem qznn_eq (a : Int) : qznn a = decide (0 ≤ a) := by
  cases a with
  | ofNat n => exact (decide_eq_true (Int.natCast_nonneg n)).symm
  | negSucc n => exact (decide_eq_false (by omega)).symm
theorem qzz_eq (a : Int) : qzz a = decide (a = 0) := by
  cases a with
  | ofNat n =>
    cases n with
    | zero => rfl
    | succ n =>
      refine (decide_eq_false (fun h => ?_)).symm
      have h2 : Int.ofNat (n + 1) = Int.ofNat 0 := h
      injection h2 with h3
      omega
  | negSucc n => exact (decide_eq_false (by omega)).symm
theorem qzan_eq (a b : Bool) : qzan a b = (a && b) := by cases a <;> rfl
theorem qzor_eq (a b : Bool) : qzor a b = (a || b) := by cases a <;> rfl
theorem qz0_eq (e : aX) : qz0 e = (e == (0, [])) := by
  rw [Bool.eq_iff_iff, beq_iff_eq]
  obtain ⟨c, l⟩ := e
  constructor
  · intro h
    cases c with
    | ofNat n =>
      cases n with
      | zero =>
        cases l with
        | nil => rfl
        | cons _ _ => exact Bool.noConfusion h
      | succ n => exact Bool.noConfusion h
    | negSucc n => exact Bool.noConfusion h
  · intro h
    rw [h]
    rfl
theorem qzct_eq (a b : Nat) : ∀ (l : List (Nat × Nat)), (l.any fun q => a == q.1 && b == q.2) = l.contains (a, b)
  | [] => rfl
  | (x, y) :: t => by
    rw [List.any_cons, qzct_eq a b t, List.contains_cons]
    rfl

noncomputable def qzIn (c : Int) (k : Nat) (l : List (Int × Nat)) : List (Int × Nat) := List.rec (motive := fun _ => List (Int × Nat)) (qzif (qzz c) [] [(c, k)]) (fun t q ih => qzif (Nat.beq t.2 k) (qzif (qzz (qzpl t.1 c)) q ((qzpl t.1 c, k) :: q)) (t :: ih)) l
theorem qzIn_e (c : Int) (k : Nat) : ∀ l, qzIn c k l = aIn c k l
  | [] => by
    show qzif (qzz c) [] [(c, k)] = _
    simp only [aIn, qzif_eq, qzz_eq, decide_eq_true_eq]
  | t :: q => by
    show qzif (Nat.beq t.2 k) (qzif (qzz (qzpl t.1 c)) q ((qzpl t.1 c, k) :: q)) (t :: qzIn c k q) = _
    rw [qzIn_e c k q]
    simp only [aIn, qzif_eq, qzz_eq, qzpl_eq, qzbe, decide_eq_true_eq, beq_iff_eq]
theorem qzIn_eq : qzIn = aIn := by funext c k l; exact qzIn_e c k l
noncomputable def qzIns (l q : List (Int × Nat)) : List (Int × Nat) := List.rec (motive := fun _ => List (Int × Nat)) l (fun t _ ih => qzIn t.1 t.2 ih) q
theorem qzIns_e (l : List (Int × Nat)) : ∀ q, qzIns l q = aIns l q
  | [] => rfl
  | t :: q => by
    show qzIn t.1 t.2 (qzIns l q) = _
    rw [qzIns_e l q, qzIn_eq]
    rfl
theorem qzIns_eq : qzIns = aIns := by funext l q; exact qzIns_e l q
noncomputable def qzAd (a b : aX) : aX := (qzpl a.1 b.1, qzIns a.2 b.2)
theorem qzAd_eq : qzAd = aAd := by
  funext a b
  show (qzpl a.1 b.1, qzIns a.2 b.2) = (a.1 + b.1, aIns a.2 b.2)
  rw [qzpl_eq, qzIns_eq]
noncomputable def qzScL (m : Int) (l : List (Int × Nat)) : List (Int × Nat) := List.rec (motive := fun _ => List (Int × Nat)) [] (fun t _ ih => (qzml m t.1, t.2) :: ih) l
theorem qzScL_e (m : Int) : ∀ l, qzScL m l = aScL m l
  | [] => rfl
  | t :: q => by
    show (qzml m t.1, t.2) :: qzScL m q = _
    rw [qzScL_e m q, qzml_eq]
    rfl
theorem qzScL_eq : qzScL = aScL := by funext m l; exact qzScL_e m l
noncomputable def qzSc (m : Int) (a : aX) : aX := qzif (qzz m) (0, []) (qzml m a.1, qzScL m a.2)
theorem qzSc_eq : qzSc = aSc := by
  funext m a
  show qzif (qzz m) (0, []) (qzml m a.1, qzScL m a.2) = if m = 0 then (0, []) else (m * a.1, aScL m a.2)
  simp only [qzif_eq, qzz_eq, qzml_eq, qzScL_eq, decide_eq_true_eq]
noncomputable def qzSb (a b : aX) : aX := qzAd a (qzSc (-1) b)
theorem qzSb_eq : qzSb = aSb := by
  delta qzSb
  simp only [qzAd_eq, qzSc_eq]
  rfl
noncomputable def qzLoL (B : aB) (l : List (Int × Nat)) : Int := List.rec (motive := fun _ => Int) 0 (fun t _ ih => qzpl (qzif (qznn t.1) (qzml t.1 (qzgD B t.2 (0, 0)).1) (qzml t.1 (qzgD B t.2 (0, 0)).2)) ih) l
theorem qzLoL_e (B : aB) : ∀ l, qzLoL B l = aLoL B l
  | [] => rfl
  | t :: q => by
    show qzpl (qzif (qznn t.1) (qzml t.1 (qzgD B t.2 (0, 0)).1) (qzml t.1 (qzgD B t.2 (0, 0)).2)) (qzLoL B q) = _
    rw [qzLoL_e B q]
    simp only [aLoL, qzif_eq, qznn_eq, qzml_eq, qzpl_eq, qzgD_eq, decide_eq_true_eq]
theorem qzLoL_eq : qzLoL = aLoL := by funext B l; exact qzLoL_e B l
noncomputable def qzLo (B : aB) (e : aX) : Int := qzpl e.1 (qzLoL B e.2)
theorem qzLo_eq : qzLo = aLo := by
  funext B e
  show qzpl e.1 (qzLoL B e.2) = e.1 + aLoL B e.2
  rw [qzpl_eq, qzLoL_eq]
noncomputable def qzPrC (B : aB) (C : List aX) (n : Nat) : aX → Bool := Nat.rec (motive := fun _ => aX → Bool) (fun e => qznn (qzLo B e)) (fun _ ih e => qzor (qznn (qzLo B e)) (qzay C (fun c => qzay e.2 (fun t => qzay c.2 (fun u => qzan (Nat.beq t.2 u.2) (decide (0 < t.1 * u.1) && (decide (t.1 % u.1 = 0) && ih (qzSb e (qzSc (t.1 / u.1) c))))))))) n
theorem qzPrC_e (B : aB) (C : List aX) : ∀ (n : Nat) (e : aX), qzPrC B C n e = aPrC B C n e := by
  intro n
  induction n with
  | zero =>
    intro e
    show qznn (qzLo B e) = decide (0 ≤ aLo B e)
    rw [qznn_eq, qzLo_eq]
  | succ n ih =>
    intro e
    show qzor (qznn (qzLo B e)) (qzay C (fun c => qzay e.2 (fun t => qzay c.2 (fun u => qzan (Nat.beq t.2 u.2) (decide (0 < t.1 * u.1) && (decide (t.1 % u.1 = 0) && qzPrC B C n (qzSb e (qzSc (t.1 / u.1) c)))))))) = _
    simp only [aPrC, qzor_eq, qznn_eq, qzay_eq, qzan_eq, qzbe, qzLo_eq, qzSb_eq, qzSc_eq, ih]
theorem qzPrC_eq : qzPrC = aPrC := by funext B C n e; exact qzPrC_e B C n e
noncomputable def qzHiL (B : aB) (l : List (Int × Nat)) : Int := List.rec (motive := fun _ => Int) 0 (fun t _ ih => qzpl (qzif (qznn t.1) (qzml t.1 (qzgD B t.2 (0, 0)).2) (qzml t.1 (qzgD B t.2 (0, 0)).1)) ih) l
theorem qzHiL_e (B : aB) : ∀ l, qzHiL B l = aHiL B l
  | [] => rfl
  | t :: q => by
    show qzpl (qzif (qznn t.1) (qzml t.1 (qzgD B t.2 (0, 0)).2) (qzml t.1 (qzgD B t.2 (0, 0)).1)) (qzHiL B q) = _
    rw [qzHiL_e B q]
    simp only [aHiL, qzif_eq, qznn_eq, qzml_eq, qzpl_eq, qzgD_eq, decide_eq_true_eq]
theorem qzHiL_eq : qzHiL = aHiL := by funext B l; exact qzHiL_e B l
noncomputable def qzHj (B : aB) (e : aX) : Int := qzpl e.1 (qzHiL B e.2)
theorem qzHj_eq : qzHj = aHj := by
  funext B e
  show qzpl e.1 (qzHiL B e.2) = e.1 + aHiL B e.2
  rw [qzpl_eq, qzHiL_eq]
noncomputable def qzTi (B0 : aB) (hh : Int) (l : List (Int × Nat)) : aB → aB := List.rec (motive := fun _ => aB → aB) (fun B => B) (fun t _ ih B => ih (qzst B t.2 (if 0 < t.1 then (max (qzgD B0 t.2 (0, 0)).1 (-((hh - t.1 * (qzgD B0 t.2 (0, 0)).2) / t.1)), (qzgD B0 t.2 (0, 0)).2) else if t.1 < 0 then ((qzgD B0 t.2 (0, 0)).1, min (qzgD B0 t.2 (0, 0)).2 ((hh - t.1 * (qzgD B0 t.2 (0, 0)).1) / (-t.1))) else qzgD B0 t.2 (0, 0)))) l
theorem qzTi_e (B0 : aB) (hh : Int) : ∀ (l : List (Int × Nat)) (B : aB), qzTi B0 hh l B = aTi B0 hh l B
  | [], _ => rfl
  | t :: q, B => by
    refine Eq.trans (qzTi_e B0 hh q _) ?_
    simp only [aTi, qzst_eq, qzgD_eq]
theorem qzTi_eq : qzTi = aTi := by funext B0 hh l B; exact qzTi_e B0 hh l B
noncomputable def qzAs (S : aSt) (e : aX) : Option aSt :=
  if qzHj S.1 e < 0 then none else if 0 ≤ qzLo S.1 e then some S else
  if (qzln e.2) ≠ 1 ∧ qzPrC S.1 S.2.1 1 (qzSb (aK (-1)) e) = true then none else
  if qzay (qzTi S.1 (qzHj S.1 e) e.2 S.1) (fun q => decide (q.2 < q.1)) = true then none else
  if (qzln e.2) = 1 ∨ 0 ≤ qzLo (qzTi S.1 (qzHj S.1 e) e.2 S.1) e then some (qzTi S.1 (qzHj S.1 e) e.2 S.1, S.2.1, S.2.2) else some (qzTi S.1 (qzHj S.1 e) e.2 S.1, e :: S.2.1, S.2.2)
theorem qzAs_eq : qzAs = aAs := by
  delta qzAs
  simp only [qzHj_eq, qzLo_eq, qzln_eq, qzPrC_eq, qzSb_eq, qzay_eq, qzTi_eq]
  rfl
noncomputable def qzNw (S : aSt) (lo hi : Int) : aSt := (qzap S.1 [(lo, hi)], S.2.1, S.2.2)
theorem qzNw_eq : qzNw = aNw := by
  delta qzNw
  simp only [qzap_eq]
  rfl
noncomputable def qzPr (S : aSt) (e : aX) : Bool := qzPrC S.1 S.2.1 2 e
theorem qzPr_eq : qzPr = aPr := by
  delta qzPr
  simp only [qzPrC_eq]
  rfl
noncomputable def qzNmL (B : aB) (l : List (Int × Nat)) : aX := List.rec (motive := fun _ => aX) (0, []) (fun t _ ih => qzif (qzan (qzz (qzpl (qzgD B t.2 (0, 0)).1 (qzml (-1) (qzgD B t.2 (0, 0)).2))) (Nat.ble (Nat.succ t.2) (qzln B))) (qzpl ih.1 (qzml t.1 (qzgD B t.2 (0, 0)).1), ih.2) (ih.1, t :: ih.2)) l
theorem qzNmL_e (B : aB) : ∀ l, qzNmL B l = aNmL B l
  | [] => rfl
  | t :: q => by
    show qzif (qzan (qzz (qzpl (qzgD B t.2 (0, 0)).1 (qzml (-1) (qzgD B t.2 (0, 0)).2))) (Nat.ble (Nat.succ t.2) (qzln B))) (qzpl (qzNmL B q).1 (qzml t.1 (qzgD B t.2 (0, 0)).1), (qzNmL B q).2) ((qzNmL B q).1, t :: (qzNmL B q).2) = _
    rw [qzNmL_e B q]
    simp only [aNmL, qzif_eq, qzan_eq, qzz_eq, qzpl_eq, qzml_eq, qzgD_eq, qzln_eq]
    by_cases hc : (B.getD t.2 (0, 0)).1 = (B.getD t.2 (0, 0)).2 ∧ t.2 < B.length
    · rw [if_pos hc, if_pos]
      rw [Bool.and_eq_true]
      exact ⟨decide_eq_true (by omega), Nat.ble_eq_true_of_le hc.2⟩
    · rw [if_neg hc, if_neg]
      intro hb
      rw [Bool.and_eq_true] at hb
      have h1 := of_decide_eq_true hb.1
      exact hc ⟨by omega, Nat.le_of_ble_eq_true hb.2⟩
theorem qzNmL_eq : qzNmL = aNmL := by funext B l; exact qzNmL_e B l
noncomputable def qzNm (B : aB) (e : aX) : aX := (qzpl e.1 (qzNmL B e.2).1, (qzNmL B e.2).2)
theorem qzNm_eq : qzNm = aNm := by
  funext B e
  show (qzpl e.1 (qzNmL B e.2).1, (qzNmL B e.2).2) = (e.1 + (aNmL B e.2).1, (aNmL B e.2).2)
  rw [qzpl_eq, qzNmL_eq]
noncomputable def qzTq (a : Nat) : Option aTy := aFn a (fun a => aOp (qzgo aT a))
theorem qzTq_eq : qzTq = aTq := by
  delta qzTq
  simp only [qzgo_eq]
  rfl
noncomputable def qzRgs (t : aTy) (lo hi : Int) : List aRg := qzfl t.2.2 (fun g => decide ((g.1 : Int) ≤ hi) && decide (lo ≤ (g.2.1 : Int)))
theorem qzRgs_eq : qzRgs = aRgs := by
  delta qzRgs
  simp only [qzfl_eq]
  rfl
noncomputable def qzMin (g : aRg) (l : List aRg) : Int := List.rec (motive := fun _ => Int) g.2.2.2.1 (fun q _ ih => min q.2.2.2.1 ih) l
theorem qzMin_e (g : aRg) : ∀ l, qzMin g l = aMin g l
  | [] => rfl
  | q :: r => by
    show min q.2.2.2.1 (qzMin g r) = _
    rw [qzMin_e g r]
    rfl
theorem qzMin_eq : qzMin = aMin := by funext g l; exact qzMin_e g l
noncomputable def qzMax (g : aRg) (l : List aRg) : Int := List.rec (motive := fun _ => Int) g.2.2.2.2 (fun q _ ih => max q.2.2.2.2 ih) l
theorem qzMax_e (g : aRg) : ∀ l, qzMax g l = aMax g l
  | [] => rfl
  | q :: r => by
    show max q.2.2.2.2 (qzMax g r) = _
    rw [qzMax_e g r]
    rfl
theorem qzMax_eq : qzMax = aMax := by funext g l; exact qzMax_e g l
noncomputable def qzAdG (S : aSt) (a : Nat) (ix : aX) (v : aV) : aSt := (S.1, S.2.1, (a, ix, v) :: qztk S.2.2.1 aGc, S.2.2.2)
theorem qzAdG_eq : qzAdG = aAdG := by
  delta qzAdG
  simp only [qztk_eq]
  rfl
noncomputable def qzEq2 (S : aSt) (e : aX) (j : Int) : Option aSt := match qzAs S (qzSb e (aK j)) with
  | some S1 => qzAs S1 (qzSb (aK j) e)
  | none => none
theorem qzEq2_eq : qzEq2 = aEq2 := by
  delta qzEq2
  simp only [qzAs_eq, qzSb_eq]
  rfl
noncomputable def qzRdF (S : aSt) (t : aTy) (ix : aX) (n : Nat) : Int → List (aSt × aV) := Nat.rec (motive := fun _ => Int → List (aSt × aV)) (fun _ => []) (fun _ ih j => match qzEq2 S ix j with
    | some S1 => (S1, (2, aK 0, ((qzRgs t j j).headD (0, 0, 0, 0, 0)).2.2.2.1.toNat)) :: ih (j + 1)
    | none => ih (j + 1)) n
theorem qzRdF_e (S : aSt) (t : aTy) (ix : aX) : ∀ (n : Nat) (j : Int), qzRdF S t ix n j = aRdF S t ix n j := by
  intro n
  induction n with
  | zero => intro j; rfl
  | succ n ih =>
    intro j
    show (match qzEq2 S ix j with
      | some S1 => (S1, (2, aK 0, ((qzRgs t j j).headD (0, 0, 0, 0, 0)).2.2.2.1.toNat)) :: qzRdF S t ix n (j + 1)
      | none => qzRdF S t ix n (j + 1)) = (match aEq2 S ix j with
      | some S1 => (S1, (2, aK 0, ((aRgs t j j).headD (0, 0, 0, 0, 0)).2.2.2.1.toNat)) :: aRdF S t ix n (j + 1)
      | none => aRdF S t ix n (j + 1))
    rw [qzEq2_eq, ih, qzRgs_eq]
theorem qzRdF_eq : qzRdF = aRdF := by funext S t ix n j; exact qzRdF_e S t ix n j
noncomputable def qzRd (S : aSt) (a : Nat) (ix0 : aX) : Option (List (aSt × aV)) := match qzTq a with
  | none => none
  | some t => if (qzPr S (qzNm S.1 ix0) && qzPr S (qzSb (aK ((t.2.1 : Int) - 1)) (qzNm S.1 ix0))) = true then
      (match qzfi S.2.2.1 (fun g => Nat.beq g.1 a && qz0 (qzNm S.1 (qzSb g.2.1 (qzNm S.1 ix0)))) with
      | some g => some [(S, g.2.2)]
      | none => match qzRgs t (max (qzLo S.1 (qzNm S.1 ix0)) 0) (min (qzHj S.1 (qzNm S.1 ix0)) ((t.2.1 : Int) - 1)) with
        | [] => none
        | g :: gs => if qzal gs (fun q => Nat.beq q.2.2.1 g.2.2.1) = true then
            (if g.2.2.1 = 0 ∨ g.2.2.1 = 1 then some [(qzAdG (qzNw S (qzMin g gs) (qzMax g gs)) a (qzNm S.1 ix0) (g.2.2.1, aVr (qzln S.1), 0), (g.2.2.1, aVr (qzln S.1), 0))]
            else if g.2.2.1 = 2 then some (qzRdF S t (qzNm S.1 ix0) (min (qzHj S.1 (qzNm S.1 ix0)) ((t.2.1 : Int) - 1) - max (qzLo S.1 (qzNm S.1 ix0)) 0 + 1).toNat (max (qzLo S.1 (qzNm S.1 ix0)) 0))
            else if g.2.2.1 = 3 then some (qzmp aDs (fun d => (qzAdG S a (qzNm S.1 ix0) (0, aK d, 0), (0, aK d, 0)))) else none) else none) else none
theorem qzRd_eq : qzRd = aRd := by
  delta qzRd
  simp only [qzTq_eq, qzPr_eq, qzNm_eq, qzSb_eq, qzfi_eq, qz0_eq, qzRgs_eq, qzLo_eq, qzHj_eq, qzal_eq, qzAdG_eq, qzNw_eq, qzMin_eq, qzMax_eq, qzln_eq, qzRdF_eq, qzmp_eq, qzbe]
  rfl
noncomputable def qzFit (S : aSt) (v : aV) (g : aRg) : Bool := match g.2.2.1 with
  | 0 => Nat.beq v.1 0 && (qzPr S (qzSb v.2.1 (aK g.2.2.2.1)) && qzPr S (qzSb (aK g.2.2.2.2) v.2.1))
  | 1 => Nat.beq v.1 1 && (qzPr S (qzSb v.2.1 (aK g.2.2.2.1)) && qzPr S (qzSb (aK g.2.2.2.2) v.2.1))
  | 2 => false
  | _ => Nat.beq v.1 0 && (v.2.1.2.isEmpty && aDs.contains v.2.1.1)
theorem qzFit_eq : qzFit = aFit := by
  delta qzFit
  simp only [qzPr_eq, qzSb_eq, qzbe]
  rfl
noncomputable def qzOw (S : aSt) (a : Nat) (ix : aX) (v : aV) : aX := if a = 63 then (match qzfi S.2.2.1 (fun g => Nat.beq g.1 a && (Nat.beq g.2.2.1 0 && qz0 (qzNm S.1 (qzSb g.2.1 ix)))) with
  | some g => qzAd S.2.2.2 (qzSc aKap (qzSb g.2.2.2.1 v.2.1))
  | none => qzSb S.2.2.2 (qzSc aKap v.2.1)) else S.2.2.2
theorem qzOw_eq : qzOw = aOw := by
  delta qzOw
  simp only [qzfi_eq, qz0_eq, qzNm_eq, qzSb_eq, qzAd_eq, qzSc_eq, qzbe]
  rfl
noncomputable def qzWr (S : aSt) (a : Nat) (ix0 : aX) (v : aV) : Option aSt := match qzTq a with
  | none => none
  | some t => if (qzPr S (qzNm S.1 ix0) && (qzPr S (qzSb (aK ((t.2.1 : Int) - 1)) (qzNm S.1 ix0)) && qzal (qzRgs t (max (qzLo S.1 (qzNm S.1 ix0)) 0) (min (qzHj S.1 (qzNm S.1 ix0)) ((t.2.1 : Int) - 1))) (qzFit S v))) = true then
      some (S.1, S.2.1, (a, qzNm S.1 ix0, v) :: qzfl (qztk S.2.2.1 aGc) (fun g => (! Nat.beq g.1 a) || (decide (0 < qzLo S.1 (qzSb g.2.1 (qzNm S.1 ix0))) || decide (qzHj S.1 (qzSb g.2.1 (qzNm S.1 ix0)) < 0))), qzOw S a (qzNm S.1 ix0) v) else none
theorem qzWr_eq : qzWr = aWr := by
  delta qzWr
  simp only [qzTq_eq, qzPr_eq, qzNm_eq, qzSb_eq, qzal_eq, qzRgs_eq, qzLo_eq, qzHj_eq, qzFit_eq, qzfl_eq, qztk_eq, qzOw_eq, qzbe]
  rfl
noncomputable def qzCl (S : aSt) (mi ma : Int) (e : aX) : aP := if (qzPr S (qzSb e (aK mi)) && qzPr S (qzSb (aK ma) e)) = true then (S, e) else (qzNw S mi ma, aVr (qzln S.1))
theorem qzCl_eq : qzCl = aCl := by
  delta qzCl
  simp only [qzPr_eq, qzSb_eq, qzNw_eq, qzln_eq]
  rfl
noncomputable def qzMul (S : aSt) (mi ma : Int) (x y : aX) : aP :=
  if qzLo S.1 y = qzHj S.1 y then qzCl S mi ma (qzSc (qzLo S.1 y) x) else if qzLo S.1 x = qzHj S.1 x then qzCl S mi ma (qzSc (qzLo S.1 x) y) else
  if 0 ≤ qzLo S.1 x ∧ 0 ≤ qzLo S.1 y ∧ qzHj S.1 x * qzHj S.1 y ≤ ma then (qzNw S (qzLo S.1 x * qzLo S.1 y) (qzHj S.1 x * qzHj S.1 y), aVr (qzln S.1)) else (qzNw S mi ma, aVr (qzln S.1))
theorem qzMul_eq : qzMul = aMul := by
  delta qzMul
  simp only [qzLo_eq, qzHj_eq, qzCl_eq, qzSc_eq, qzNw_eq, qzln_eq]
  rfl
noncomputable def qzRem (S : aSt) (mi ma : Int) (x y : aX) : Option aP :=
  if qzPr S (qzSb y (aK 1)) = true then
    (if qzLo S.1 x = qzHj S.1 x ∧ max (qzLo S.1 y) 1 = qzHj S.1 y ∧ 0 ≤ qzLo S.1 x then some (S, aK (qzLo S.1 x % qzHj S.1 y)) else
    if 0 ≤ qzLo S.1 x then
      (if max (qzLo S.1 y) 1 = qzHj S.1 y ∧ qzHj S.1 x < 1099511627776 then
        some (aAdC (aAdC (qzNw (aAdC (aAdC (qzNw S 0 (min (qzHj S.1 x) (qzHj S.1 y - 1))) (qzSb (qzSb y (aVr (qzln S.1))) (aK 1))) (qzSb x (aVr (qzln S.1)))) (qzLo S.1 x / qzHj S.1 y) (qzHj S.1 x / qzHj S.1 y)) (qzSb x (qzAd (qzSc (qzHj S.1 y) (aVr ((qzln S.1) + 1))) (aVr (qzln S.1))))) (qzSc (-1) (qzSb x (qzAd (qzSc (qzHj S.1 y) (aVr ((qzln S.1) + 1))) (aVr (qzln S.1))))), aVr (qzln S.1))
      else some (aAdC (aAdC (qzNw S 0 (min (qzHj S.1 x) (qzHj S.1 y - 1))) (qzSb (qzSb y (aVr (qzln S.1))) (aK 1))) (qzSb x (aVr (qzln S.1))), aVr (qzln S.1)))
    else some (qzNw S (-(qzHj S.1 y - 1)) (qzHj S.1 y - 1), aVr (qzln S.1)))
  else if qzPr S (qzSb (aK (-1)) y) = true then some (qzNw S mi ma, aVr (qzln S.1)) else none
theorem qzRem_eq : qzRem = aRem := by
  delta qzRem
  simp only [qzPr_eq, qzSb_eq, qzLo_eq, qzHj_eq, qzNw_eq, qzln_eq, qzAd_eq, qzSc_eq]
  rfl
noncomputable def qzDiv (S : aSt) (mi ma : Int) (x y : aX) : Option aP :=
  if qzPr S (qzSb y (aK 1)) = true then
    (if 0 ≤ qzLo S.1 x then
      (if qzLo S.1 x = qzHj S.1 x ∧ max (qzLo S.1 y) 1 = qzHj S.1 y then some (S, aK (qzLo S.1 x / qzHj S.1 y)) else
      if 9 < qzHj S.1 x / max (qzLo S.1 y) 1 ∧ qzPr S (qzSb (qzSc 10 y) (qzAd x (aK 1))) = true then some (qzNw S (qzLo S.1 x / qzHj S.1 y) 9, aVr (qzln S.1))
      else some (qzNw S (qzLo S.1 x / qzHj S.1 y) (qzHj S.1 x / max (qzLo S.1 y) 1), aVr (qzln S.1)))
    else some (qzNw S mi ma, aVr (qzln S.1)))
  else if qzPr S (qzSb (aK (-1)) y) = true then some (qzNw S mi ma, aVr (qzln S.1)) else none
theorem qzDiv_eq : qzDiv = aDiv := by
  delta qzDiv
  simp only [qzPr_eq, qzSb_eq, qzLo_eq, qzHj_eq, qzSc_eq, qzAd_eq, qzNw_eq, qzln_eq]
  rfl
noncomputable def qzAnd (S : aSt) (x y : aX) : aP :=
  if qzLo S.1 x = qzHj S.1 x ∧ qzLo S.1 y = qzHj S.1 y then (S, aK (Int32.ofInt (qzLo S.1 x) &&& Int32.ofInt (qzLo S.1 y)).toInt) else
  if 0 ≤ qzLo S.1 y then (if 0 ≤ qzLo S.1 x then (aAdC (aAdC (qzNw S 0 (min (qzHj S.1 x) (qzHj S.1 y))) (qzSb x (aVr (qzln S.1)))) (qzSb y (aVr (qzln S.1))), aVr (qzln S.1)) else (qzNw S 0 (qzHj S.1 y), aVr (qzln S.1)))
  else if 0 ≤ qzLo S.1 x then (qzNw S 0 (qzHj S.1 x), aVr (qzln S.1)) else (qzNw S aMi aMa, aVr (qzln S.1))
theorem qzAnd_eq : qzAnd = aAnd := by
  delta qzAnd
  simp only [qzLo_eq, qzHj_eq, qzNw_eq, qzSb_eq, qzln_eq]
  rfl
noncomputable def qzOrX (S : aSt) (o : Bool) (x y : aX) : aP :=
  if qzLo S.1 x = qzHj S.1 x ∧ qzLo S.1 y = qzHj S.1 y then (S, aK (if o = true then (Int32.ofInt (qzLo S.1 x) ||| Int32.ofInt (qzLo S.1 y)).toInt else (Int32.ofInt (qzLo S.1 x) ^^^ Int32.ofInt (qzLo S.1 y)).toInt)) else
  if 0 ≤ qzLo S.1 y ∧ 0 ≤ qzLo S.1 x ∧ qzHj S.1 x ≤ aMa ∧ qzHj S.1 y ≤ aMa then (qzNw S 0 (aPw (max (qzHj S.1 x) (qzHj S.1 y))), aVr (qzln S.1)) else (qzNw S aMi aMa, aVr (qzln S.1))
theorem qzOrX_eq : qzOrX = aOrX := by
  delta qzOrX
  simp only [qzLo_eq, qzHj_eq, qzNw_eq, qzln_eq]
  rfl
noncomputable def qzShl (S : aSt) (x y : aX) : aP :=
  if qzLo S.1 x = 1 ∧ qzHj S.1 x = 1 ∧ 0 ≤ qzLo S.1 y ∧ qzHj S.1 y ≤ 30 then (if qzLo S.1 y = qzHj S.1 y then (S, aK (2 ^ (qzLo S.1 y).toNat)) else (qzNw S (2 ^ (qzLo S.1 y).toNat) (2 ^ (qzHj S.1 y).toNat), aVr (qzln S.1))) else
  if qzLo S.1 y = qzHj S.1 y ∧ 0 ≤ qzLo S.1 y ∧ qzHj S.1 y ≤ 30 ∧ 0 ≤ qzLo S.1 x ∧ qzHj S.1 x * 2 ^ (qzLo S.1 y).toNat ≤ aMa then (S, qzSc (2 ^ (qzLo S.1 y).toNat) x) else (qzNw S aMi aMa, aVr (qzln S.1))
theorem qzShl_eq : qzShl = aShl := by
  delta qzShl
  simp only [qzLo_eq, qzHj_eq, qzNw_eq, qzln_eq, qzSc_eq]
  rfl
noncomputable def qzShr (S : aSt) (x y : aX) : aP :=
  if 0 ≤ qzLo S.1 x then (if qzLo S.1 y = qzHj S.1 y ∧ 0 ≤ qzLo S.1 y ∧ qzHj S.1 y ≤ 30 then (if qzLo S.1 x = qzHj S.1 x then (S, aK (qzLo S.1 x / 2 ^ (qzLo S.1 y).toNat)) else (qzNw S (qzLo S.1 x / 2 ^ (qzLo S.1 y).toNat) (qzHj S.1 x / 2 ^ (qzLo S.1 y).toNat), aVr (qzln S.1))) else (qzNw S 0 (qzHj S.1 x), aVr (qzln S.1))) else (qzNw S aMi aMa, aVr (qzln S.1))
theorem qzShr_eq : qzShr = aShr := by
  delta qzShr
  simp only [qzLo_eq, qzHj_eq, qzNw_eq, qzln_eq]
  rfl
noncomputable def qzLd (g : Nat → Bool) (S : aSt) (L : List aV) (st : List aV) (i k : Nat) : Option (List aQ) := match qzgo L k with
  | some v => if g v.1 = true then some [(S, i + 1, L, v :: st)] else none
  | none => none
theorem qzLd_eq : qzLd = aLd := by
  delta qzLd
  simp only [qzgo_eq]
  rfl
noncomputable def qzKl (L : List aV) (k : Nat) : List aV := match k with
  | 0 => L
  | j + 1 => match qzgo L j with
    | some v => if v.1 = 1 then qzst L j (6, (0, []), 0) else L
    | none => L
theorem qzKl_eq : qzKl = aKl := by
  delta qzKl
  simp only [qzgo_eq, qzst_eq]
  rfl
noncomputable def qzSto (S : aSt) (L : List aV) (st : List aV) (i k : Nat) : Option (List aQ) := match st with
  | v :: s => if (v.1 = 0 ∨ v.1 = 2 ∨ v.1 = 3 ∨ v.1 = 4) ∧ k < (qzln L) then some [(S, i + 1, qzst (qzKl L k) k v, s)] else none
  | [] => none
theorem qzSto_eq : qzSto = aSto := by
  delta qzSto
  simp only [qzln_eq, qzst_eq, qzKl_eq]
  rfl
noncomputable def qzStJ (S : aSt) (L : List aV) (st : List aV) (i k : Nat) : Option (List aQ) := match st with
  | v :: s => if v.1 = 1 ∧ k + 1 < (qzln L) then some [(S, i + 1, qzst (qzst (qzKl L k) k v) (k + 1) (6, (0, []), 0), s)] else none
  | [] => none
theorem qzStJ_eq : qzStJ = aStJ := by
  delta qzStJ
  simp only [qzln_eq, qzst_eq, qzKl_eq]
  rfl
noncomputable def qzA1 (en : mE) (S : aSt) (i : Nat) (L st : List aV) : Option (List aQ) := match en.2.1 with
  | .aconst_null => some [(S, i + 1, L, (3, (0, []), 0) :: st)]
  | .iconst n => some [(S, i + 1, L, (0, aK (Int32.ofInt n).toInt, 0) :: st)]
  | .bipush n => some [(S, i + 1, L, (0, aK (Int8.ofInt n).toInt32.toInt, 0) :: st)]
  | .sipush n => some [(S, i + 1, L, (0, aK (Int16.ofInt n).toInt32.toInt, 0) :: st)]
  | .lconst n => some [(S, i + 1, L, (1, aK (Int64.ofNat (n : Nat)).toInt, 0) :: st)]
  | .ldc _ => some [(S, i + 1, L, (0, aK (Int32.ofInt (qzgD en.2.2.2 1 0)).toInt, 0) :: st)]
  | .ldc_w _ => some [(S, i + 1, L, (0, aK (Int32.ofInt (qzgD en.2.2.2 1 0)).toInt, 0) :: st)]
  | .ldc2_w _ => some [(S, i + 1, L, (1, aK (Int64.ofInt (qzgD en.2.2.2 1 0)).toInt, 0) :: st)]
  | .iload k => qzLd aG0 S L st i k
  | .iload_n k => qzLd aG0 S L st i k
  | .lload k => qzLd aG1 S L st i k
  | .lload_n k => qzLd aG1 S L st i k
  | .aload k => qzLd aG2 S L st i k
  | .aload_n k => qzLd aG2 S L st i k
  | .istore k => if (st.headD (6, (0, []), 0)).1 = 0 then qzSto S L st i k else none
  | .istore_n k => if (st.headD (6, (0, []), 0)).1 = 0 then qzSto S L st i k else none
  | .lstore k => qzStJ S L st i k
  | .lstore_n k => qzStJ S L st i k
  | .astore k => if aG2 (st.headD (6, (0, []), 0)).1 = true then qzSto S L st i k else none
  | .astore_n k => if aG2 (st.headD (6, (0, []), 0)).1 = true then qzSto S L st i k else none
  | _ => none
theorem qzA1_eq : qzA1 = aA1 := by
  delta qzA1
  simp only [qzgD_eq, qzLd_eq, qzSto_eq, qzStJ_eq]
  rfl
noncomputable def qzA2 (en : mE) (S : aSt) (i : Nat) (L st : List aV) : Option (List aQ) := match en.2.1 with
  | .iinc k n => match qzgo L k with
    | some v => if v.1 = 0 then some [((qzCl S aMi aMa (qzAd v.2.1 (aK (Int32.ofInt n).toInt))).1, i + 1, qzst (qzKl L k) k (0, (qzCl S aMi aMa (qzAd v.2.1 (aK (Int32.ofInt n).toInt))).2, 0), st)] else none
    | none => none
  | .dup => match st with
    | v :: s => if aC1 v = true then some [(S, i + 1, L, v :: v :: s)] else none
    | _ => none
  | .dup2 => match st with
    | v :: u :: s => if aC1 v = true ∧ aC1 u = true then some [(S, i + 1, L, v :: u :: v :: u :: s)] else none
    | _ => none
  | .pop => match st with
    | v :: s => if aC1 v = true then some [(S, i + 1, L, s)] else none
    | _ => none
  | .pop2 => match st with
    | v :: s => if v.1 = 1 then some [(S, i + 1, L, s)] else none
    | _ => none
  | _ => none
theorem qzA2_eq : qzA2 = aA2 := by
  delta qzA2
  simp only [qzgo_eq, qzCl_eq, qzAd_eq, qzst_eq, qzKl_eq]
  rfl
noncomputable def qzAll (S : aSt) (mi ma : Int) : aP := (qzNw S mi ma, aVr (qzln S.1))
theorem qzAll_eq : qzAll = aAll := by
  delta qzAll
  simp only [qzNw_eq, qzln_eq]
  rfl
noncomputable def qzB1 (en : mE) (S : aSt) (i : Nat) (L st : List aV) : Option (List aQ) := match en.2.1 with
  | .iadd => match st with
    | (0, y, _) :: (0, x, _) :: s => aOne (qzCl S aMi aMa (qzAd x y)) 0 i L s
    | _ => none
  | .isub => match st with
    | (0, y, _) :: (0, x, _) :: s => aOne (qzCl S aMi aMa (qzSb x y)) 0 i L s
    | _ => none
  | .imul => match st with
    | (0, y, _) :: (0, x, _) :: s => aOne (qzMul S aMi aMa x y) 0 i L s
    | _ => none
  | .iand => match st with
    | (0, y, _) :: (0, x, _) :: s => aOne (qzAnd S x y) 0 i L s
    | _ => none
  | .ior => match st with
    | (0, y, _) :: (0, x, _) :: s => aOne (qzOrX S true x y) 0 i L s
    | _ => none
  | .ixor => match st with
    | (0, y, _) :: (0, x, _) :: s => aOne (qzOrX S false x y) 0 i L s
    | _ => none
  | .ishl => match st with
    | (0, y, _) :: (0, x, _) :: s => aOne (qzShl S x y) 0 i L s
    | _ => none
  | .ishr => match st with
    | (0, y, _) :: (0, x, _) :: s => aOne (qzShr S x y) 0 i L s
    | _ => none
  | .iushr => match st with
    | (0, y, _) :: (0, x, _) :: s => aOne (qzAll S aMi aMa) 0 i L s
    | _ => none
  | .idiv => match st with
    | (0, y, _) :: (0, x, _) :: s => aTwo (qzDiv S aMi aMa x y) 0 i L s
    | _ => none
  | .irem => match st with
    | (0, y, _) :: (0, x, _) :: s => aTwo (qzRem S aMi aMa x y) 0 i L s
    | _ => none
  | .ineg => match st with
    | (0, x, _) :: s => aOne (qzCl S aMi aMa (qzSc (-1) x)) 0 i L s
    | _ => none
  | _ => none
theorem qzB1_eq : qzB1 = aB1 := by
  delta qzB1
  simp only [qzCl_eq, qzAd_eq, qzSb_eq, qzMul_eq, qzAnd_eq, qzOrX_eq, qzShl_eq, qzShr_eq, qzAll_eq, qzDiv_eq, qzRem_eq, qzSc_eq]
  rfl
noncomputable def qzB2 (en : mE) (S : aSt) (i : Nat) (L st : List aV) : Option (List aQ) := match en.2.1 with
  | .ladd => match st with
    | (1, y, _) :: (1, x, _) :: s => aOne (qzCl S aLi aLa (qzAd x y)) 1 i L s
    | _ => none
  | .lsub => match st with
    | (1, y, _) :: (1, x, _) :: s => aOne (qzCl S aLi aLa (qzSb x y)) 1 i L s
    | _ => none
  | .lmul => match st with
    | (1, y, _) :: (1, x, _) :: s => aOne (qzMul S aLi aLa x y) 1 i L s
    | _ => none
  | .land => match st with
    | (1, y, _) :: (1, x, _) :: s => aOne (qzAll S aLi aLa) 1 i L s
    | _ => none
  | .lor => match st with
    | (1, y, _) :: (1, x, _) :: s => aOne (qzAll S aLi aLa) 1 i L s
    | _ => none
  | .lxor => match st with
    | (1, y, _) :: (1, x, _) :: s => aOne (qzAll S aLi aLa) 1 i L s
    | _ => none
  | .ldiv => match st with
    | (1, y, _) :: (1, x, _) :: s => aTwo (qzDiv S aLi aLa x y) 1 i L s
    | _ => none
  | .lrem => match st with
    | (1, y, _) :: (1, x, _) :: s => aTwo (qzRem S aLi aLa x y) 1 i L s
    | _ => none
  | .lshl => match st with
    | (0, _, _) :: (1, _, _) :: s => aOne (qzAll S aLi aLa) 1 i L s
    | _ => none
  | .lushr => match st with
    | (0, _, _) :: (1, _, _) :: s => aOne (qzAll S aLi aLa) 1 i L s
    | _ => none
  | .lcmp => match st with
    | (1, y, _) :: (1, x, _) :: s => some [(S, i + 1, L, (5, qzSb x y, 0) :: s)]
    | _ => none
  | .i2l => match st with
    | (0, x, _) :: s => some [(S, i + 1, L, (1, x, 0) :: s)]
    | _ => none
  | .l2i => match st with
    | (1, x, _) :: s => aOne (qzCl S aMi aMa x) 0 i L s
    | _ => none
  | .i2b => match st with
    | (0, x, _) :: s => aOne (qzCl S (-128) 127 x) 0 i L s
    | _ => none
  | _ => none
theorem qzB2_eq : qzB2 = aB2 := by
  delta qzB2
  simp only [qzCl_eq, qzAd_eq, qzSb_eq, qzMul_eq, qzAll_eq, qzDiv_eq, qzRem_eq]
  rfl
noncomputable def qzCn (S : aSt) (e : aX) (isc : Bool) : ClassFile.Cond → List aSt
  | .lt => (qzAs S (qzSb (aK (-1)) e)).toList
  | .ge => (qzAs S e).toList
  | .gt => (qzAs S (qzSb e (aK 1))).toList
  | .le => (qzAs S (qzSc (-1) e)).toList
  | .eq => (qzEq2 S e 0).toList
  | .ne => if qzPr S e = true then (qzAs S (qzSb e (aK 1))).toList else if qzPr S (qzSc (-1) e) = true then (qzAs S (qzSb (aK (-1)) e)).toList else if isc = true then (qzAs S (qzSb (aK (-1)) e)).toList ++ (qzAs S (qzSb e (aK 1))).toList else [S]
theorem qzCn_eq : qzCn = aCn := by
  delta qzCn
  simp only [qzAs_eq, qzSb_eq, qzSc_eq, qzEq2_eq, qzPr_eq]
  rfl
noncomputable def qzBr (S : aSt) (e : aX) (isc : Bool) (q : ClassFile.Cond) (en : mE) (i : Nat) (L s : List aV) : List aQ := qzap (qzmp (qzCn S e isc q) (fun S1 => (S1, mTgt en 0, L, s))) (qzmp (qzCn S e isc (aNg q)) (fun S1 => (S1, i + 1, L, s)))
theorem qzBr_eq : qzBr = aBr := by
  delta qzBr
  simp only [qzap_eq, qzmp_eq, qzCn_eq]
  rfl
noncomputable def qzTs (S : aSt) (e : aX) (en : mE) (L s : List aV) (n : Nat) : Int → Nat → List aQ := Nat.rec (motive := fun _ => Int → Nat → List aQ) (fun _ _ => []) (fun _ ih j k => match qzEq2 S e j with
    | some S1 => (S1, mTgt en k, L, s) :: ih (j + 1) (k + 1)
    | none => ih (j + 1) (k + 1)) n
theorem qzTs_e (S : aSt) (e : aX) (en : mE) (L s : List aV) : ∀ (n : Nat) (j : Int) (k : Nat), qzTs S e en L s n j k = aTs S e en L s n j k := by
  intro n
  induction n with
  | zero => intro j k; rfl
  | succ n ih =>
    intro j k
    show (match qzEq2 S e j with
      | some S1 => (S1, mTgt en k, L, s) :: qzTs S e en L s n (j + 1) (k + 1)
      | none => qzTs S e en L s n (j + 1) (k + 1)) = (match aEq2 S e j with
      | some S1 => (S1, mTgt en k, L, s) :: aTs S e en L s n (j + 1) (k + 1)
      | none => aTs S e en L s n (j + 1) (k + 1))
    rw [qzEq2_eq, ih]
theorem qzTs_eq : qzTs = aTs := by funext S e en L s n j k; exact qzTs_e S e en L s n j k
noncomputable def qzLs (S : aSt) (e : aX) (en : mE) (L s : List aV) (ps : List (Int × Int)) : Nat → List aQ := List.rec (motive := fun _ => Nat → List aQ) (fun _ => []) (fun p _ ih k => match qzEq2 S e p.1 with
    | some S1 => (S1, mTgt en k, L, s) :: ih (k + 1)
    | none => ih (k + 1)) ps
theorem qzLs_e (S : aSt) (e : aX) (en : mE) (L s : List aV) : ∀ (ps : List (Int × Int)) (k : Nat), qzLs S e en L s ps k = aLs S e en L s ps k := by
  intro ps
  induction ps with
  | nil => intro k; rfl
  | cons p ps ih =>
    intro k
    show (match qzEq2 S e p.1 with
      | some S1 => (S1, mTgt en k, L, s) :: qzLs S e en L s ps (k + 1)
      | none => qzLs S e en L s ps (k + 1)) = (match aEq2 S e p.1 with
      | some S1 => (S1, mTgt en k, L, s) :: aLs S e en L s ps (k + 1)
      | none => aLs S e en L s ps (k + 1))
    rw [qzEq2_eq, ih]
theorem qzLs_eq : qzLs = aLs := by funext S e en L s ps k; exact qzLs_e S e en L s ps k
noncomputable def qzB3 (en : mE) (S : aSt) (i : Nat) (L st : List aV) : Option (List aQ) := match en.2.1 with
  | .goto _ => some [(S, mTgt en 0, L, st)]
  | .if_icmp q _ => match st with
    | (0, y, _) :: (0, x, _) :: s => some (qzBr S (qzSb x y) false q en i L s)
    | _ => none
  | .ifCond q _ => match st with
    | (0, x, _) :: s => some (qzBr S x false q en i L s)
    | (5, x, _) :: s => some (qzBr S x true q en i L s)
    | _ => none
  | .ifnull _ => match st with
    | (3, _, _) :: s => some [(S, mTgt en 0, L, s)]
    | (2, _, _) :: s => some [(S, i + 1, L, s)]
    | _ => none
  | .ifnonnull _ => match st with
    | (3, _, _) :: s => some [(S, i + 1, L, s)]
    | (2, _, _) :: s => some [(S, mTgt en 0, L, s)]
    | _ => none
  | .tableswitch _ lo hi _ => match st with
    | (0, x, _) :: s => some (qzmp (qzAs S (qzSb (aK (lo - 1)) x)).toList (fun S1 => (S1, mTgt en 0, L, s)) ++ (qzmp (qzAs S (qzSb x (aK (hi + 1)))).toList (fun S1 => (S1, mTgt en 0, L, s)) ++ qzTs S x en L s (hi - lo + 1).toNat lo 1))
    | _ => none
  | .lookupswitch _ ps => match st with
    | (0, x, _) :: s => some (qzLs S x en L s ps.toList 1 ++ (if qzLo S.1 x = qzHj S.1 x ∧ (qzay ps.toList (fun p => p.1 == qzLo S.1 x)) = true then [] else [(S, mTgt en 0, L, s)]))
    | _ => none
  | _ => none
theorem qzB3_eq : qzB3 = aB3 := by
  delta qzB3
  simp only [qzBr_eq, qzSb_eq, qzmp_eq, qzAs_eq, qzTs_eq, qzLs_eq, qzLo_eq, qzHj_eq, qzay_eq]
  rfl
noncomputable def qzPu (l : List (aSt × aV)) (i : Nat) (L s : List aV) : List aQ := qzmp l (fun p => (p.1, i + 1, L, p.2 :: s))
theorem qzPu_eq : qzPu = aPu := by
  delta qzPu
  simp only [qzmp_eq]
  rfl
noncomputable def qzFk (v : aV) (ty : FieldType) : Bool := match ty with
  | .int => Nat.beq v.1 0
  | .long => Nat.beq v.1 1
  | _ => false
theorem qzFk_eq : qzFk = aFk := by
  delta qzFk
  simp only [qzbe]
  rfl
noncomputable def qzTag (a : Nat) (g : Nat → Bool) : Bool := match qzTq a with
  | some t => g t.1
  | none => false
theorem qzTag_eq : qzTag = aTag := by
  delta qzTag
  simp only [qzTq_eq]
  rfl
noncomputable def qzF1 (en : mE) (S : aSt) (i : Nat) (L st : List aV) : Option (List aQ) := match en.2.1 with
  | .getfield _ => match st with
    | (2, _, a) :: s => if qzTag a (fun t => t == mTgt en 1) = true then (match qzRd S a (aK (mTgt en 2)) with
      | some l => some (qzPu l i L s)
      | none => none) else none
    | _ => none
  | .putfield _ => match st with
    | v :: (2, _, a) :: s => if qzTag a (fun t => t == mTgt en 1) = true ∧ qzFk v (mFT (mTgt en 1) (mTgt en 2)) = true then (match qzWr S a (aK (mTgt en 2)) v with
      | some S1 => some [(S1, i + 1, L, s)]
      | none => none) else none
    | _ => none
  | _ => none
theorem qzF1_eq : qzF1 = aF1 := by
  delta qzF1
  simp only [qzTag_eq, qzRd_eq, qzPu_eq, qzFk_eq, qzWr_eq]
  rfl
noncomputable def qzRdA (S : aSt) (a : Nat) (j : aX) (g : Nat → Bool) (i : Nat) (L s : List aV) : Option (List aQ) := if qzTag a g = true then (match qzRd S a j with
  | some l => some (qzPu l i L s)
  | none => none) else none
theorem qzRdA_eq : qzRdA = aRdA := by
  delta qzRdA
  simp only [qzTag_eq, qzRd_eq, qzPu_eq]
  rfl
noncomputable def qzF2 (en : mE) (S : aSt) (i : Nat) (L st : List aV) : Option (List aQ) := match en.2.1 with
  | .getstatic _ => if mTgt en 1 = 1 ∨ mTgt en 1 = 2 then some [(S, i + 1, L, (4, (0, []), mTgt en 1) :: st)] else none
  | .arraylength => match st with
    | (2, _, a) :: s => match qzTq a with
      | some t => if 50 ≤ t.1 ∧ t.1 < 56 then some [(S, i + 1, L, (0, aK (Int32.ofNat t.2.1).toInt, 0) :: s)] else none
      | none => none
    | _ => none
  | .iaload => match st with
    | (0, j, _) :: (2, _, a) :: s => qzRdA S a j (fun t => t == 50) i L s
    | (0, j, _) :: (4, _, n) :: s => match aXt n with
      | some vs => if (qzPr S j && qzPr S (qzSb (aK (((qzln vs) : Int) - 1)) j)) = true then (if qzLo S.1 j = qzHj S.1 j then some [(S, i + 1, L, (0, aK (qzgD vs (qzLo S.1 j).toNat 0).toInt, 0) :: s)] else some [(qzNw S (aLmin vs) (aLmax vs), i + 1, L, (0, aVr (qzln S.1), 0) :: s)]) else none
      | none => none
    | _ => none
  | .baload => match st with
    | (0, j, _) :: (2, _, a) :: s => qzRdA S a j (fun t => t == 51 || t == 52) i L s
    | _ => none
  | .aaload => match st with
    | (0, j, _) :: (2, _, a) :: s => qzRdA S a j (fun t => decide (53 ≤ t) && decide (t < 56)) i L s
    | _ => none
  | _ => none
theorem qzF2_eq : qzF2 = aF2 := by
  delta qzF2
  simp only [qzTq_eq, qzRdA_eq, qzPr_eq, qzSb_eq, qzln_eq, qzLo_eq, qzHj_eq, qzgD_eq, qzNw_eq]
  rfl
noncomputable def qzF3 (en : mE) (S : aSt) (i : Nat) (L st : List aV) : Option (List aQ) := match en.2.1 with
  | .iastore => match st with
    | (0, v, _) :: (0, j, _) :: (2, _, a) :: s => if qzTag a (fun t => t == 50) = true then (match qzWr S a j (0, v, 0) with
      | some S1 => some [(S1, i + 1, L, s)]
      | none => none) else none
    | _ => none
  | .bastore => match st with
    | (0, v, _) :: (0, j, _) :: (2, _, a) :: s => if qzTag a (fun t => t == 51) = true then (match qzWr (qzCl S (-128) 127 v).1 a j (0, (qzCl S (-128) 127 v).2, 0) with
      | some S1 => some [(S1, i + 1, L, s)]
      | none => none) else if qzTag a (fun t => t == 52) = true ∧ qzPr S v = true ∧ qzPr S (qzSb (aK 1) v) = true then (match qzWr S a j (0, v, 0) with
      | some S1 => some [(S1, i + 1, L, s)]
      | none => none) else none
    | _ => none
  | _ => none
theorem qzF3_eq : qzF3 = aF3 := by
  delta qzF3
  simp only [qzTag_eq, qzWr_eq, qzCl_eq, qzPr_eq, qzSb_eq]
  rfl
noncomputable def qzSubL (s : List aX) (l : List (Int × Nat)) : aX := List.rec (motive := fun _ => aX) (0, []) (fun t _ ih => qzAd (qzSc t.1 (qzgD s t.2 (0, []))) ih) l
theorem qzSubL_e (s : List aX) : ∀ l, qzSubL s l = aSubL s l
  | [] => rfl
  | t :: q => by
    show qzAd (qzSc t.1 (qzgD s t.2 (0, []))) (qzSubL s q) = _
    rw [qzSubL_e s q, qzAd_eq, qzSc_eq, qzgD_eq]
    rfl
theorem qzSubL_eq : qzSubL = aSubL := by funext s l; exact qzSubL_e s l
noncomputable def qzSub (s : List aX) (e : aX) : aX := qzAd (aK e.1) (qzSubL s e.2)
theorem qzSub_eq : qzSub = aSub := by
  delta qzSub
  simp only [qzAd_eq, qzSubL_eq]
  rfl
noncomputable def qzWfb (n : Nat) (e : aX) : Bool := qzal e.2 (fun t => decide (t.2 < n))
theorem qzWfb_eq : qzWfb = aWfb := by
  delta qzWfb
  simp only [qzal_eq]
  rfl
noncomputable def qzOf (S : aSt) (frs : List aF) (s : List aX) (l : aLc) : aX := match l.1 with
  | 0 => (qzgD (qzgD frs l.2.1 (0, 0, [], [])).2.2.1 l.2.2.1 (6, (0, []), 0)).2.1
  | 1 => (qzgD (qzgD frs l.2.1 (0, 0, [], [])).2.2.2 l.2.2.1 (6, (0, []), 0)).2.1
  | 2 => match qzfi S.2.2.1 (fun g => Nat.beq g.1 l.2.1 && qz0 (qzNm S.1 (qzSb g.2.1 (qzSub s l.2.2.2)))) with
    | some g => g.2.2.2.1
    | none => (0, [])
  | 3 => match qzfi S.2.2.1 (fun g => g.1 == ((qzgD (qzgD frs 0 (0, 0, [], [])).2.2.1 l.2.1 (6, (0, []), 0)).2.2) && qz0 (qzNm S.1 (qzSb g.2.1 l.2.2.2))) with
    | some g => g.2.2.2.1
    | none => (0, [])
  | _ => match qzfi S.2.2.1 (fun g => Nat.beq g.1 l.2.1 && qz0 (qzNm S.1 (qzSb g.2.1 ((qzgD (qzgD frs 0 (0, 0, [], [])).2.2.1 l.2.2.1 (6, (0, []), 0)).2.1)))) with
    | some g => g.2.2.2.1
    | none => (0, [])
theorem qzOf_eq : qzOf = aOf := by
  delta qzOf
  simp only [qzgD_eq, qzfi_eq, qz0_eq, qzNm_eq, qzSb_eq, qzSub_eq, qzbe]
  rfl
noncomputable def qzSg (S : aSt) (frs : List aF) (l : List aLc) : List aX → List aX := List.rec (motive := fun _ => List aX → List aX) (fun s => s) (fun l _ ih s => ih (qzap s [qzOf S frs s l])) l
theorem qzSg_e (S : aSt) (frs : List aF) : ∀ (l : List aLc) (s : List aX), qzSg S frs l s = aSg S frs l s
  | [], _ => rfl
  | l :: q, s => by
    refine Eq.trans (qzSg_e S frs q _) ?_
    rw [qzap_eq, qzOf_eq]
    rfl
theorem qzSg_eq : qzSg = aSg := by funext S frs l s; exact qzSg_e S frs l s
noncomputable def qzEqE (S : aSt) (a b : aX) : Bool := qz0 (qzNm S.1 (qzSb a b)) || (qzPr S (qzSb a b) && qzPr S (qzSb b a))
theorem qzEqE_eq : qzEqE = aEqE := by
  delta qzEqE
  simp only [qz0_eq, qzNm_eq, qzSb_eq, qzPr_eq]
  rfl
noncomputable def qzVe (S : aSt) (s : List aX) (n1 : Nat) (v v1 : aV) : Bool := qzWfb n1 v1.2.1 && (decide (6 ≤ v1.1) || (Nat.beq v.1 v1.1 && (if v1.1 = 2 ∨ v1.1 = 4 then Nat.beq v.2.2 v1.2.2 else if v1.1 = 3 then true else qzEqE S v.2.1 (qzSub s v1.2.1))))
theorem qzVe_eq : qzVe = aVe := by
  delta qzVe
  simp only [qzWfb_eq, qzEqE_eq, qzSub_eq, qzbe]
  rfl
noncomputable def qzZe (S : aSt) (s : List aX) (n1 : Nat) (a : List aV) : List aV → Bool := List.rec (motive := fun _ => List aV → Bool) (fun b => List.rec (motive := fun _ => Bool) true (fun _ _ _ => false) b) (fun v _ ih b => List.rec (motive := fun _ => Bool) false (fun v1 L1 _ => qzVe S s n1 v v1 && ih L1) b) a
theorem qzZe_e (S : aSt) (s : List aX) (n1 : Nat) : ∀ (a b : List aV), qzZe S s n1 a b = aZe S s n1 a b
  | [], [] => rfl
  | [], _ :: _ => rfl
  | _ :: _, [] => rfl
  | v :: L, v1 :: L1 => by
    show (qzVe S s n1 v v1 && qzZe S s n1 L L1) = (aVe S s n1 v v1 && aZe S s n1 L L1)
    rw [qzZe_e S s n1 L L1, qzVe_eq]
theorem qzZe_eq : qzZe = aZe := by funext S s n1 a b; exact qzZe_e S s n1 a b
noncomputable def qzZf (S : aSt) (s : List aX) (n1 : Nat) (a : List aF) : List aF → Bool := List.rec (motive := fun _ => List aF → Bool) (fun b => List.rec (motive := fun _ => Bool) true (fun _ _ _ => false) b) (fun f _ ih b => List.rec (motive := fun _ => Bool) false (fun f1 L1 _ => (Nat.beq f.1 f1.1 && (Nat.beq f.2.1 f1.2.1 && (qzZe S s n1 f.2.2.1 f1.2.2.1 && qzZe S s n1 f.2.2.2 f1.2.2.2))) && ih L1) b) a
theorem qzZf_e (S : aSt) (s : List aX) (n1 : Nat) : ∀ (a b : List aF), qzZf S s n1 a b = aZf S s n1 a b
  | [], [] => rfl
  | [], _ :: _ => rfl
  | _ :: _, [] => rfl
  | f :: L, f1 :: L1 => by
    show ((Nat.beq f.1 f1.1 && (Nat.beq f.2.1 f1.2.1 && (qzZe S s n1 f.2.2.1 f1.2.2.1 && qzZe S s n1 f.2.2.2 f1.2.2.2))) && qzZf S s n1 L L1) = ((f.1 == f1.1 && (f.2.1 == f1.2.1 && (aZe S s n1 f.2.2.1 f1.2.2.1 && aZe S s n1 f.2.2.2 f1.2.2.2))) && aZf S s n1 L L1)
    rw [qzZf_e S s n1 L L1, qzZe_eq, qzbe, qzbe]
theorem qzZf_eq : qzZf = aZf := by funext S s n1 a b; exact qzZf_e S s n1 a b
noncomputable def qzBe (S : aSt) (a : List aX) : aB → Bool := List.rec (motive := fun _ => aB → Bool) (fun b => List.rec (motive := fun _ => Bool) true (fun _ _ _ => false) b) (fun e _ ih b => List.rec (motive := fun _ => Bool) false (fun b B _ => (qzPr S (qzSb e (aK b.1)) && qzPr S (qzSb (aK b.2) e)) && ih B) b) a
theorem qzBe_e (S : aSt) : ∀ (a : List aX) (b : aB), qzBe S a b = aBe S a b
  | [], [] => rfl
  | [], _ :: _ => rfl
  | _ :: _, [] => rfl
  | e :: s, b :: B => by
    show ((qzPr S (qzSb e (aK b.1)) && qzPr S (qzSb (aK b.2) e)) && qzBe S s B) = ((aPr S (aSb e (aK b.1)) && aPr S (aSb (aK b.2) e)) && aBe S s B)
    rw [qzBe_e S s B, qzPr_eq, qzSb_eq]
theorem qzBe_eq : qzBe = aBe := by funext S a b; exact qzBe_e S a b
noncomputable def qzEnS (S : aSt) (frs : List aF) (A : aAn) (s : List aX) : Bool :=
  (qzZf S s (qzln A.1.1) frs A.2.1 && (qzal s (qzWfb (qzln S.1)) && qzBe S s A.1.1)) && (qzal A.1.2.1 (fun c => qzWfb (qzln A.1.1) c && qzPr S (qzSub s c)) && (qzal A.1.2.2.1 (fun g1 => qzWfb (qzln A.1.1) g1.2.1 && qzay S.2.2.1 (fun g => Nat.beq g.1 g1.1 && (qzEqE S g.2.1 (qzSub s g1.2.1) && qzVe S s (qzln A.1.1) g.2.2 g1.2.2))) && qzWfb (qzln A.1.1) A.1.2.2.2))
theorem qzEnS_eq : qzEnS = aEnS := by
  delta qzEnS
  simp only [qzZf_eq, qzln_eq, qzal_eq, qzWfb_eq, qzBe_eq, qzPr_eq, qzSub_eq, qzay_eq, qzEqE_eq, qzVe_eq, qzbe]
  rfl
noncomputable def qzMs (S : aSt) (s : List aX) (e : aX) : Bool := qzPr S (qzSub s e) && qzPr S (qzSb (qzSb S.2.2.2 (aK 1)) (qzSub s e))
theorem qzMs_eq : qzMs = aMs := by
  delta qzMs
  simp only [qzPr_eq, qzSub_eq, qzSb_eq]
  rfl
noncomputable def qzLn (a : Nat) : Int := match qzTq a with
  | some t => (t.2.1 : Int)
  | none => 0
theorem qzLn_eq : qzLn = aLn := by
  delta qzLn
  simp only [qzTq_eq]
  rfl
noncomputable def qzWc (ms : aMd) (a : Nat) (lo hi : Int) : Bool := qzay ms (fun m => Nat.beq m.1 a && (decide (m.2.1 ≤ max lo 0) && (decide (hi ≤ m.2.2) || decide (qzLn a ≤ m.2.2 + 1))))
theorem qzWc_eq : qzWc = aWc := by
  delta qzWc
  simp only [qzay_eq, qzLn_eq, qzbe]
  rfl
noncomputable def qzWk (ms : aMd) (en : mE) (S : aSt) (st : List aV) : Bool := match en.2.1 with
  | .putfield _ => match st with
    | _ :: (2, _, a) :: _ => qzWc ms a (mTgt en 2) (mTgt en 2)
    | _ => false
  | .iastore => match st with
    | _ :: (0, j, _) :: (2, _, a) :: _ => qzWc ms a (qzLo S.1 j) (qzHj S.1 j)
    | _ => false
  | .bastore => match st with
    | _ :: (0, j, _) :: (2, _, a) :: _ => qzWc ms a (qzLo S.1 j) (qzHj S.1 j)
    | _ => false
  | .invokestatic _ => match st with
    | _ :: _ :: (2, _, a) :: _ => qzWc ms a 0 (qzLn a)
    | _ => false
  | _ => true
theorem qzWk_eq : qzWk = aWk := by
  delta qzWk
  simp only [qzWc_eq, qzLo_eq, qzHj_eq, qzLn_eq]
  rfl
noncomputable def qzCp (en : mE) (S : aSt) (i : Nat) (L st : List aV) : Option (List aQ) := match en.2.1 with
  | .invokestatic _ => match st with
    | (0, n, _) :: (0, dp, _) :: (2, _, a1) :: (0, sp, _) :: (2, _, a0) :: s => match qzTq a0 with
      | some t0 => match qzTq a1 with
        | some t1 => if (decide (mTgt en 2 = 2 ∧ (qzln s) ≤ 4 ∧ t0.1 = 50 ∧ t1.1 = 50 ∧ a1 ≠ 63) && (aTl t0 t1 && ((qzPr S sp && (qzPr S dp && qzPr S n)) && (qzPr S (qzSb (aK t0.2.1) (qzAd sp n)) && qzPr S (qzSb (aK t1.2.1) (qzAd dp n)))))) = true then some [((S.1, S.2.1, qzfl S.2.2.1 (fun g => (! Nat.beq g.1 a1)), S.2.2.2), i + 1, L, s)] else none
        | none => none
      | none => none
    | _ => none
  | _ => none
theorem qzCp_eq : qzCp = aCp := by
  delta qzCp
  simp only [qzTq_eq, qzln_eq, qzPr_eq, qzSb_eq, qzAd_eq, qzfl_eq, qzbe]
  rfl
noncomputable def qzStp (en : mE) (S : aSt) (i : Nat) (L st : List aV) : Option (List aQ) := match nCl en with
  | 1 => qzA1 en S i L st
  | 2 => qzB1 en S i L st
  | 3 => qzB3 en S i L st
  | 4 => qzF1 en S i L st
  | 6 => qzF2 en S i L st
  | 7 => qzF3 en S i L st
  | 8 => qzA2 en S i L st
  | 9 => qzB2 en S i L st
  | 11 => qzCp en S i L st
  | _ => none
theorem qzStp_eq : qzStp = aStp := by
  delta qzStp
  simp only [qzA1_eq, qzB1_eq, qzB3_eq, qzF1_eq, qzF2_eq, qzF3_eq, qzA2_eq, qzB2_eq, qzCp_eq]
  rfl
noncomputable def qzEnt (l : List aV) : List aV := List.rec (motive := fun _ => List aV) [] (fun v _ ih => if v.1 = 1 then v :: aTop :: ih else v :: ih) l
theorem qzEnt_e : ∀ l, qzEnt l = aEnt l
  | [] => rfl
  | v :: q => by
    show (if v.1 = 1 then v :: aTop :: qzEnt q else v :: qzEnt q) = _
    rw [qzEnt_e q]
    rfl
theorem qzEnt_eq : qzEnt = aEnt := by funext l; exact qzEnt_e l
noncomputable def qzEntL (n : Nat) (av : List aV) : List aV := qzEnt av ++ List.replicate (n - (qzln (qzEnt av))) aTop
theorem qzEntL_eq : qzEntL = aEntL := by
  delta qzEntL
  simp only [qzEnt_eq, qzln_eq]
  rfl
noncomputable def qzRcv (k : Nat) (t : mM) (av : List aV) : Bool := decide (mMK t = 0) || (match av with
  | (2, _, a) :: _ => decide (mMK t = 2) || (decide (mMK t = 1) && (match qzTq a with
    | some ty => ty.1 == aFn k (fun k => aFn (qzgD aKs k 99) (fun x => x))
    | none => false))
  | _ => false)
theorem qzRcv_eq : qzRcv = aRcv := by
  delta qzRcv
  simp only [qzTq_eq, qzgD_eq]
  rfl
noncomputable def qzRet (S : aSt) (t : mM) (en : mE) (st : List aV) : Option (List aV) := match en.2.1 with
  | .ireturn => match st with
    | [(0, v, k)] => match mMT t with
      | some .int => some [(0, v, k)]
      | some .boolean => if (qzPr S v && qzPr S (qzSb (aK 1) v)) = true then some [(0, v, k)] else none
      | _ => none
    | _ => none
  | .lreturn => match st with
    | [(1, v, k)] => match mMT t with
      | some .long => some [(1, v, k)]
      | _ => none
    | _ => none
  | .areturn => match st with
    | [(2, v, k)] => match mMT t with
      | some (.object _) => some [(2, v, k)]
      | _ => none
    | [(3, v, k)] => match mMT t with
      | some (.object _) => some [(3, v, k)]
      | _ => none
    | _ => none
  | .return_ => match st with
    | [] => match mMT t with
      | none => some []
      | _ => none
    | _ => none
  | _ => none
theorem qzRet_eq : qzRet = aRet := by
  delta qzRet
  simp only [qzPr_eq, qzSb_eq]
  rfl
noncomputable def qzRsB (S : aSt) (q : aRs) (l : List aV) : Bool := match q with
  | none => match l with
    | [] => true
    | _ => false
  | some p => match p.1 with
    | 0 => match l with
      | [(0, v, _)] => qzPr S (qzSb v (aK p.2.1)) && qzPr S (qzSb (aK p.2.2) v)
      | _ => false
    | 1 => match l with
      | [(1, v, _)] => qzPr S (qzSb v (aK p.2.1)) && qzPr S (qzSb (aK p.2.2) v)
      | _ => false
    | _ => match l with
      | [(2, _, a)] => a == p.2.1.toNat
      | _ => false
theorem qzRsB_eq : qzRsB = aRsB := by
  delta qzRsB
  simp only [qzPr_eq, qzSb_eq]
  rfl
noncomputable def qzTw (S : aSt) (C : List aX) : aSt := List.rec (motive := fun _ => aSt → aSt) (fun S => S) (fun c _ ih S => ih (qzTi S.1 (qzHj S.1 c) c.2 S.1, S.2)) C S
theorem qzTw_e : ∀ (C : List aX) (S : aSt), qzTw S C = aTw S C
  | [], _ => rfl
  | c :: q, S => by
    refine Eq.trans (qzTw_e q (qzTi S.1 (qzHj S.1 c) c.2 S.1, S.2)) ?_
    rw [qzTi_eq, qzHj_eq]
    rfl
theorem qzTw_eq : qzTw = aTw := by funext S C; exact qzTw_e C S
noncomputable def qzTt (S : aSt) : aSt := qzTw (qzTw S S.2.1) S.2.1
theorem qzTt_eq : qzTt = aTt := by
  delta qzTt
  simp only [qzTw_eq]
  rfl
noncomputable def qzKeep (ms : aMd) (B : aB) (g : Nat × aX × aV) : Bool := qzal ms (fun m => (! Nat.beq m.1 g.1) || (decide (qzHj B g.2.1 < m.2.1) || decide (m.2.2 < qzLo B g.2.1)))
theorem qzKeep_eq : qzKeep = aKeep := by
  delta qzKeep
  simp only [qzal_eq, qzHj_eq, qzLo_eq, qzbe]
  rfl
noncomputable def qzDrp (S : aSt) (ms : aMd) : aSt := (S.1, S.2.1, qzfl S.2.2.1 (qzKeep ms S.1), if qzay ms (fun m => Nat.beq m.1 63) = true then qzSb S.2.2.2 (aK (aKap * 1024000000)) else S.2.2.2)
theorem qzDrp_eq : qzDrp = aDrp := by
  delta qzDrp
  simp only [qzfl_eq, qzKeep_eq, qzay_eq, qzSb_eq, qzbe]
  rfl
noncomputable def qzBk (S : aSt) (q : aRs) : aSt × List aV := match q with
  | none => (S, [])
  | some p => if p.1 = 0 ∨ p.1 = 1 then (if p.2.1 = p.2.2 then (S, [(p.1, aK p.2.1, 0)]) else (qzNw S p.2.1 p.2.2, [(p.1, aVr (qzln S.1), 0)])) else (S, [(2, aK 0, p.2.1.toNat)])
theorem qzBk_eq : qzBk = aBk := by
  delta qzBk
  simp only [qzNw_eq, qzln_eq]
  rfl
noncomputable def qzMc (ms ms1 : aMd) : Bool := qzal ms1 (fun m => qzWc ms m.1 m.2.1 m.2.2)
theorem qzMc_eq : qzMc = aMc := by
  delta qzMc
  simp only [qzal_eq, qzWc_eq]
  rfl
noncomputable def qzFkV (S : aSt) (frs : List aF) (l : List (Nat × Nat × aLc)) : Option Nat := List.rec (motive := fun _ => Option Nat) none (fun p _ ih => match frs with
    | [] => none
    | f :: _ => qzif (Nat.beq p.1 f.1 && Nat.beq p.2.1 f.2.1) (match qzOf S frs [] p.2.2 with
        | (c, t :: e) => if qzLo S.1 (c, t :: e) = qzHj S.1 (c, t :: e) ∨ ¬ t.2 < (qzln S.1) then ih else some t.2
        | _ => ih) ih) l
theorem qzFkV_e (S : aSt) (frs : List aF) : ∀ l, qzFkV S frs l = aFkV S frs l
  | [] => rfl
  | p :: q => by
    have ih := qzFkV_e S frs q
    cases frs with
    | nil => rfl
    | cons f fs =>
      show qzif (Nat.beq p.1 f.1 && Nat.beq p.2.1 f.2.1) (match qzOf S (f :: fs) [] p.2.2 with
        | (c, t :: e) => if qzLo S.1 (c, t :: e) = qzHj S.1 (c, t :: e) ∨ ¬ t.2 < (qzln S.1) then qzFkV S (f :: fs) q else some t.2
        | _ => qzFkV S (f :: fs) q) (qzFkV S (f :: fs) q) = (if p.1 = f.1 ∧ p.2.1 = f.2.1 then (match aOf S (f :: fs) [] p.2.2 with
        | (c, t :: e) => if aLo S.1 (c, t :: e) = aHj S.1 (c, t :: e) ∨ ¬ t.2 < S.1.length then aFkV S (f :: fs) q else some t.2
        | _ => aFkV S (f :: fs) q) else aFkV S (f :: fs) q)
      rw [ih, qzOf_eq, qzLo_eq, qzHj_eq, qzln_eq, qzif_eq]
      simp only [qzbe, Bool.and_eq_true, beq_iff_eq]
theorem qzFkV_eq : qzFkV = aFkV := by funext S frs l; exact qzFkV_e S frs l
noncomputable def qzFkL (S : aSt) (x : Nat) (n : Nat) : Int → List aSt := Nat.rec (motive := fun _ => Int → List aSt) (fun _ => []) (fun _ ih j => match qzEq2 S (aVr x) j with
    | some S1 => qzTt S1 :: ih (j + 1)
    | none => ih (j + 1)) n
theorem qzFkL_e (S : aSt) (x : Nat) : ∀ (n : Nat) (j : Int), qzFkL S x n j = aFkL S x n j := by
  intro n
  induction n with
  | zero => intro j; rfl
  | succ n ih =>
    intro j
    show (match qzEq2 S (aVr x) j with
      | some S1 => qzTt S1 :: qzFkL S x n (j + 1)
      | none => qzFkL S x n (j + 1)) = (match aEq2 S (aVr x) j with
      | some S1 => aTt S1 :: aFkL S x n (j + 1)
      | none => aFkL S x n (j + 1))
    rw [qzEq2_eq, ih, qzTt_eq]
theorem qzFkL_eq : qzFkL = aFkL := by funext S x n j; exact qzFkL_e S x n j
noncomputable def qzInto (X : aCx) (S : aSt) (f : aF) (fs : List aF) (k : Nat) (t2 : mM) (args rest : List aV) : Option (List aW) :=
  if (decide ((qzln rest) ≤ 4) && (qzal args (fun v => decide (v.1 < 6)) && (qzRcv k t2 args && decide ((qzln (qzEnt args)) ≤ mMX t2)))) = true then
    (match qzfi X.1 (fun c => Nat.beq c.1 k && qzEnS S [(k, 0, qzEntL (mMX t2) args, [])] c.2.1 (qzSg S [(k, 0, qzEntL (mMX t2) args, [])] c.2.1.2.2 [])) with
    | some c => if qzMc X.2.2.2.2.2 c.2.2.2 = true then some [((qzBk (qzDrp S c.2.2.2) c.2.2.1).1, (f.1, f.2.1 + 1, f.2.2.1, qzap (qzBk (qzDrp S c.2.2.2) c.2.2.1).2 rest) :: fs, false)] else none
    | none => if (qzln fs) < 8 then some [(S, (k, 0, qzEntL (mMX t2) args, []) :: (f.1, f.2.1 + 1, f.2.2.1, rest) :: fs, false)] else none) else none
theorem qzInto_eq : qzInto = aInto := by
  delta qzInto
  simp only [qzln_eq, qzal_eq, qzRcv_eq, qzEnt_eq, qzfi_eq, qzEnS_eq, qzEntL_eq, qzSg_eq, qzMc_eq, qzBk_eq, qzDrp_eq, qzap_eq, qzbe]
  rfl
noncomputable def qzMt (k : Nat) : Option mM := aFn k (fun k => aOp (qzgo mTab k))
theorem qzMt_eq : qzMt = aMt := by
  delta qzMt
  simp only [qzgo_eq]
  rfl
noncomputable def qzCe (t : mM) (i : Nat) : Option mE := aFn i (fun i => aOp (qzgo (mMC t) i))
theorem qzCe_eq : qzCe = aCe := by
  delta qzCe
  simp only [qzgo_eq]
  rfl
noncomputable def qzSt1 (X : aCx) (w : aW) : Option (List aW) := match w.2.1 with
  | [] => none
  | f :: fs => match qzMt f.1 with
    | none => none
    | some t => match qzCe t f.2.1 with
      | none => none
      | some en =>
        if (!w.2.2 && qzay X.2.2.1 (fun q => Nat.beq f.1 q.1 && Nat.beq f.2.1 q.2)) = true then (if qzay X.2.1 (fun A => qzEnS w.1 (f :: fs) A (qzSg w.1 (f :: fs) A.2.2 []) && qzMs w.1 (qzSg w.1 (f :: fs) A.2.2 []) A.1.2.2.2) = true then some [] else none)
        else match qzFkV w.1 (f :: fs) X.2.2.2.1 with
        | some x => some (qzmp (qzFkL w.1 x ((qzgD w.1.1 x (0, 0)).2 - (qzgD w.1.1 x (0, 0)).1 + 1).toNat (qzgD w.1.1 x (0, 0)).1) (fun S1 => (S1, f :: fs, true)))
        | none =>
          if nCl en = 12 then (match qzRet w.1 t en f.2.2.2 with
            | some l => match fs with
              | [] => if qzRsB w.1 X.2.2.2.2.1 l = true then some [] else none
              | f2 :: gs => some [(w.1, (f2.1, f2.2.1, f2.2.2.1, qzap l f2.2.2.2) :: gs, false)]
            | none => none)
          else if nCl en = 5 then (match qzMt (mTgt en 1) with
            | some t2 => if mCnt t2 ≤ (qzln f.2.2.2) then qzInto X w.1 f fs (mTgt en 1) t2 (qztk f.2.2.2 (mCnt t2)).reverse (qzdp f.2.2.2 (mCnt t2)) else none
            | none => none)
          else if qzWk X.2.2.2.2.2 en w.1 f.2.2.2 = true then (match qzStp en w.1 f.2.1 f.2.2.1 f.2.2.2 with
            | some l => some (qzmp l (fun q => (q.1, (f.1, q.2.1, q.2.2.1, q.2.2.2) :: fs, false)))
            | none => none) else none
theorem qzSt1_eq : qzSt1 = aSt1 := by
  delta qzSt1
  simp only [qzct_eq, qzMt_eq, qzCe_eq, qzay_eq, qzEnS_eq, qzSg_eq, qzMs_eq, qzFkV_eq, qzmp_eq, qzFkL_eq, qzgD_eq, qzRet_eq, qzRsB_eq, qzap_eq, qzln_eq, qzInto_eq, qztk_eq, qzdp_eq, qzWk_eq, qzStp_eq, qzbe]
  rfl
noncomputable def qzSt2 (X : aCx) (w : aW) : Option (List aW) := match w with
  | ((B, C, G, O), (k, i, L, st) :: fs, b) => qzSt1 X ((B, C, G, O), (k, i, L, st) :: fs, b)
  | (_, [], _) => none
theorem qzSt2_eq : qzSt2 = aSt2 := by
  delta qzSt2
  simp only [qzSt1_eq]
  rfl
noncomputable def qzGo (X : aCx) (n : Nat) : List aW → Bool := Nat.rec (motive := fun _ => List aW → Bool) (fun ws => List.rec (motive := fun _ => Bool) true (fun _ _ _ => false) ws) (fun _ ih ws => List.rec (motive := fun _ => Bool) true (fun w ws _ => match qzSt2 X w with
    | some l => ih (qzap l ws)
    | none => false) ws) n
theorem qzGo_e (X : aCx) : ∀ (n : Nat) (ws : List aW), qzGo X n ws = aGo X n ws := by
  intro n
  induction n with
  | zero => intro ws; cases ws <;> rfl
  | succ n ih =>
    intro ws
    cases ws with
    | nil => rfl
    | cons w ws =>
      show (match qzSt2 X w with
        | some l => qzGo X n (qzap l ws)
        | none => false) = (match aSt2 X w with
        | some l => aGo X n (l ++ ws)
        | none => false)
      rw [qzSt2_eq]
      cases aSt2 X w with
      | none => rfl
      | some l => exact (ih _).trans (by rw [qzap_eq])
theorem qzGo_eq : qzGo = aGo := by funext X n ws; exact qzGo_e X n ws
noncomputable def qzCk (T : List aCt) (As : List aAn) (hd : List (Nat × Nat)) (fk : List (Nat × Nat × aLc)) (c : aCt) (n : Nat) : Bool :=
  qzGo (T, As, hd, fk, c.2.2.1, c.2.2.2) n [(c.2.1.1, c.2.1.2.1, true)] && qzal As (fun A => qzGo (T, As, hd, fk, c.2.2.1, c.2.2.2) n [(qzTt A.1, A.2.1, true)])
theorem qzCk_eq : qzCk = aCk := by
  delta qzCk
  simp only [qzGo_eq, qzal_eq, qzTt_eq]
  rfl
theorem qzCk_ok {sc : List Int32} {dm : Nat} {T : List aCt} {As : List aAn} {hd : List (Nat × Nat)} {fk : List (Nat × Nat × aLc)} {c : aCt} {n : Nat} (hT : ∀ c ∈ T, nMe sc dm c) (hk : qzCk T As hd fk c n = true) : nMe sc (dm + 9) c := aCk_ok hT (by rw [qzCk_eq] at hk; exact hk)
