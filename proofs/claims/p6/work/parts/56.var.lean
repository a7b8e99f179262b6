/-! methods at told ranges: exact answers -/
noncomputable def vBig : Int := 10000000000000000000000000000000000000000
noncomputable def vLs : Nat → Nat → List aV
  | _, 0 => []
  | j, n + 1 => (0, aVr j, 0) :: vLs (j + 1) n
noncomputable def vR (l : List Int32) (j : Nat) : Int := (l.getD j 0).toInt
noncomputable def vBd : aB → List Int32 → Prop
  | [], _ => True
  | q :: B, x :: l => (q.1 ≤ x.toInt ∧ x.toInt ≤ q.2) ∧ vBd B l
  | _ :: _, [] => False
noncomputable def vC (k a mx na : Nat) (B : aB) (C : List aX) (G : aGh) (z : Int) (ms : aMd) : aCt := (k, ((B, C, G, (vBig, [])), [(k, 0, aEntL mx ((2, (0, []), a) :: vLs 0 na), [])], []), some (0, z, z), ms)
noncomputable def zA (sc : List Int32) (i : Nat) : Nat → Nat → List Int32
  | _, 0 => []
  | j, n + 1 => sc.getD (i + j) 0 :: zA sc i (j + 1) n
noncomputable def zL : Nat → Nat → List lV
  | _, 0 => []
  | j, n + 1 => (4, j) :: zL (j + 1) n
section VAR
variable {sc : List Int32} {i : Nat}
theorem zA_len : ∀ (n j : Nat), (zA sc i j n).length = n
  | 0, _ => rfl
  | n + 1, j => by show (zA sc i (j + 1) n).length + 1 = n + 1; rw [zA_len n]
theorem zL_ok {z : Int32} : ∀ {n j : Nat} {av : List Value}, lSk sc i z (zL j n) av → av = (zA sc i j n).map Value.int
  | 0, _, [], _ => rfl
  | n + 1, j, w :: t, h => by
    have h1 : w = .int (sc.getD (i + j) 0) := h.1
    have h2 := zL_ok (n := n) (j := j + 1) h.2
    rw [h1, h2]
    rfl
  | 0, _, _ :: _, h => h.elim
  | n + 1, _, [], h => h.elim
theorem zX_ok {z : Int32} {n : Nat} {av : List Value} (h : lSk sc i z ((1, 0) :: zL 1 n) av) : av = .ref 0 :: (zA sc i 1 n).map Value.int := by
  obtain ⟨w, t, rfl, h1, h2⟩ := h.cons
  have h1 : w = .ref 0 := h1
  rw [h1, zL_ok h2]
theorem zM_ok {z : Int32} {n : Nat} {av : List Value} (h : lSk sc i z ((2, 0) :: zL 1 n) av) : av = .ref 53 :: (zA sc i 1 n).map Value.int := by
  obtain ⟨w, t, rfl, h1, h2⟩ := h.cons
  have h1 : w = .ref 53 := h1
  rw [h1, zL_ok h2]
theorem vBd_ok : ∀ {B : aB} {l : List Int32}, vBd B l → aBd B (vR l)
  | [], _, _ => fun k q hk => by simp at hk
  | q :: B, x :: l, h => by
    intro k p hk
    match k, hk with
    | 0, hk => cases hk; exact h.1
    | k + 1, hk => exact vBd_ok h.2 k p hk
  | _ :: _, [], h => h.elim
theorem vBd_len : ∀ {B : aB} {l : List Int32}, vBd B l → B.length ≤ l.length
  | [], _, _ => Nat.zero_le _
  | q :: B, x :: l, h => Nat.succ_le_succ (vBd_len h.2)
  | _ :: _, [], h => h.elim
theorem vLs_ok {n : Nat} {r : Nat → Int} : ∀ (xs : List Int32) (j : Nat), (∀ k x, xs[k]? = some x → r (j + k) = x.toInt) → j + xs.length ≤ n → aSk n r (vLs j xs.length) (xs.map Value.int)
  | [], _, _, _ => trivial
  | x :: xs, j, hr, hn => by
    simp only [List.length_cons] at hn
    refine ⟨⟨aVr_wf (show j < n by omega), x, rfl, ?_⟩, vLs_ok xs (j + 1) (fun k y hk => ?_) (by omega)⟩
    · show x.toInt = aEv r (aVr j)
      rw [aVr_ev]
      exact (hr 0 x rfl).symm
    · rw [show j + 1 + k = j + (k + 1) by omega]
      exact hr (k + 1) y hk
theorem vLs_lt : ∀ (n j : Nat), (vLs j n).all (fun v => decide (v.1 < 6)) = true
  | 0, _ => rfl
  | n + 1, j => vLs_lt n (j + 1)
theorem vC_ok {k a mx : Nat} {B : aB} {C : List aX} {G : aGh} {z : Int} {ms : aMd} {po : List aPo} {t : mM} {dm D : Nat} {h : mH} {xs gs : List Int32}
    (hm : bMe sc dm po (vC k a mx xs.length B C G z ms)) (ht : mTab[k]? = some t) (hx : mMX t = mx) (hn : xs.length ≤ B.length) (hB : vBd B (xs ++ gs)) (hC : ∀ c ∈ C, aWf B.length c ∧ 0 ≤ aEv (vR (xs ++ gs)) c) (hG : aGs B.length (vR (xs ++ gs)) G h) (hh : aHp h) (hD : dm ≤ D) : ∃ h1, nEv sc D k (.ref a :: xs.map Value.int) h (some (.int (Int32.ofInt z)), h1) ∧ aHp h1 ∧ nFr ms h h1 ∧ nPo po h1 := by
  have hO : aOk (vR (xs ++ gs)) (vC k a mx xs.length B C G z ms).2.1.1 (aEv (vR (xs ++ gs)) (vBig, []) + aKap * aPh h) h :=
    ⟨vBd_ok hB, hC, hG, fun t ht => absurd ht (by simp [vC]), Int.le_refl _⟩
  have hs : aSk B.length (vR (xs ++ gs)) ((2, (0, []), a) :: vLs 0 xs.length) (.ref a :: xs.map Value.int) := by
    refine ⟨⟨aK_wf _ 0, rfl⟩, vLs_ok xs 0 (fun j x hj => ?_) (by omega)⟩
    have h1 := (List.getElem?_eq_some_iff.mp hj).1
    have h2 : (xs ++ gs)[j]? = some x := by rw [List.getElem?_append_left h1]; exact hj
    show ((xs ++ gs).getD (0 + j) 0).toInt = x.toInt
    rw [Nat.zero_add, List.getD_eq_getElem?_getD, h2]
    rfl
  have hF : nMf B.length (vR (xs ++ gs)) [(k, 0, aEntL mx ((2, (0, []), a) :: vLs 0 xs.length), [])] [(k, 0, mEntL (mMX t) (.ref a :: xs.map Value.int), [])] := by
    rw [hx]
    exact ⟨⟨rfl, rfl, (aEntL_ok hs (by rw [List.all_cons, vLs_lt]; rfl)).1, trivial⟩, trivial⟩
  obtain ⟨r0, q1, q2, q3, q4, q5⟩ := hm h (.ref a :: xs.map Value.int) _ _ t ht hh hO hF D hD
  obtain ⟨w, e1, u, e2, e3, e4⟩ := q4
  obtain ⟨r1, h1⟩ := r0
  have e1 : r1 = some w := e1
  have e3 : z ≤ u.toInt := e3
  have e4 : u.toInt ≤ z := e4
  have e5 : u = Int32.ofInt z := aI_of (by omega)
  subst e1 e2 e5
  exact ⟨h1, q1, q2, q3, q5⟩
end VAR
/-! pairs of calls, said at once -/
section PLOOP2
variable {sc : List Int32} {D dm : Nat} {T : List aCt} {ex : List yX} {P : mH → Prop}
noncomputable def yLow (ex : List yX) : Bool := ex.all (fun e => e.2.1.2.all (fun v => decide (v.1 < 8)))
theorem yLoop2 (hP : ∀ h, P h → aHp h) (hT : ∀ c ∈ T, nMe sc dm c) (hD : dm ≤ D) (hK : ∀ c ∈ T, ∀ h h1, P h → aHp h1 → nFr c.2.2.2 h h1 → P h1)
    (hX : ∀ i, i + 6 ≤ sc.length → ∀ e ∈ ex, ∀ z av aw h, P h → lSk sc i z e.1.2 av → lSk sc i z e.2.1.2 aw → ∃ z1 h1 z2 h2, nEv sc D e.1.1 av h (some (.int z1), h1) ∧ aHp h1 ∧ nEv sc D e.2.1.1 aw h1 (some (.int z2), h2) ∧ P h2 ∧ (e.2.2 = true → z2 = z1))
    (hw : ∀ i z, ∀ e ∈ ex, ∃ aw, lSk sc i z e.2.1.2 aw ∧ ∀ z1 av, lSk sc i z1 e.2.1.2 av → av = aw)
    (hl : sc.length ≤ 384) (hg : yGoAll T ex = true) : ∀ (k i : Nat), sc.length ≤ i + k → i ≤ 390 → ∀ h, P h → ∃ h1, P h1 ∧ nRn sc D (some .boolean) mLaw (10, lM i, [], h) (some (.int 1), h1) := by
  refine yLoop (Q := fun i p z h => aHp h ∧ ∀ e, ex[p]? = some e → ∀ aw, lSk sc i z e.2.1.2 aw → ∃ z1 h1, nEv sc D e.2.1.1 aw h (some (.int z1), h1) ∧ P h1 ∧ (e.2.2 = true → z1 = z)) hP (fun _ _ _ _ h => h.1) hT hD hK ?_ ?_ hl hg
  · intro i hi p e he z av h hp hs
    have hm := List.mem_of_getElem? he
    obtain ⟨aw, w1, w2⟩ := hw i z e hm
    obtain ⟨z1, h1, z2, h2, x1, x2, x3, x4, x5⟩ := hX i hi e hm z av aw h hp hs w1
    refine ⟨z1, h1, x1, x2, fun e1 he1 aw1 hs1 => ?_⟩
    rw [he] at he1
    cases he1
    have := w2 z1 aw1 hs1
    subst this
    exact ⟨z2, h2, x3, x4, x5⟩
  · intro i _ p e he z av h hq hs
    exact hq.2 e he av hs
end PLOOP2
theorem zW {sc : List Int32} {n : Nat} (i : Nat) (z : Int32) : ∃ aw, lSk sc i z ((2, 0) :: zL 1 n) aw ∧ ∀ z1 av, lSk sc i z1 ((2, 0) :: zL 1 n) av → av = aw := by
  have key : ∀ (n j : Nat), lSk sc i z (zL j n) ((zA sc i j n).map Value.int) := by
    intro n
    induction n with
    | zero => intro j; exact trivial
    | succ n ih => intro j; exact ⟨rfl, ih (j + 1)⟩
  exact ⟨.ref 53 :: (zA sc i 1 n).map Value.int, ⟨rfl, key n 1⟩, fun z1 av h => zM_ok h⟩
