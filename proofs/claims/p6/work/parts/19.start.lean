/-! the law's start: what the Statement gives, as the small machine wants it -/
noncomputable def mLet : List Int32 := [103, 101, 115, 118, 99, 107]
noncomputable def mPar : List Int32 := [0, 0, 0, 0, 1, 2]
noncomputable def mXs (sc : List Int32) (n : Nat) : List Int32 := if n = 0 then sc else if n = 1 then mLet else mPar
/-- WHAT IS LEFT TO SHOW, over the small machine: on every script the law's code ends with 1, within the room -/
noncomputable def mGoal : Prop := ∀ sc : List Int32, sc.length ≤ 384 → ∃ (d n : Nat) (h : mH), d ≤ 1000 ∧ mRun mTab (mXs sc) (mEval mTab (mXs sc) d n) (some .boolean) mLaw n (0, mEntL 4 [.retAddr 0], [], []) = some (some (.int 1), h) ∧ h.length ≤ 600000 ∧ mSl h ≤ 7302250
theorem mArr_of {args : Array Value} {s : State} {ty : FieldType} (h : (Cond.arrayClass ty).before args s = true) (hp : ∀ C, ty ≠ .object C) : ∃ ca : ClassId, ArrOfT s ca ty ∧ va_RA s ca ty := by
  obtain ⟨ca, kA, comp, h1, h2, h3⟩ := Cond.arrayClass_spec h
  refine ⟨ca, fun n z => ⟨fun k h => (by cases h), kA, h2, comp, h3⟩, ?_⟩
  cases ty <;> first | exact h1 | exact absurd rfl (hp _)
theorem mArr_ofq {args : Array Value} {s : State} {C : String} (h : (Cond.arrayOver (.object C)).before args s = true) : ∃ ca : ClassId, ArrOfT s ca (.object C) ∧ va_RA s ca (.object C) := by
  obtain ⟨comp, ca, k, h1, h2, h3, h4, h5⟩ := Cond.arrayOver_spec h
  exact ⟨ca, fun n z => ⟨fun k h => (by cases h), k, h3, comp, h4⟩, k, comp, h3, h4, h1, h5⟩
theorem mKn {s : State} {args : Array Value} (hts : ∀ w ∈ lw_tbl, w.before args s = true) : ∀ (k : Nat) (q : vw_C), mCl[k]? = some q → ∃ (c : ClassId) (f : Nat → Nat), u_Kn s q.1 q.2.1 q.2.2 c f := by
  intro k q hq
  have hin : ∀ w ∈ u_ws q.1 q.2.1 q.2.2, w ∈ lw_tbl := fun w hw => (List.mem_filter.mp ((mCl_ok k q hq).1 w hw)).1
  have hi : (Cond.instantiable q.1 q.2.2) ∈ lw_tbl := by
    match k, hq with
    | 0, hq => cases hq; decide +kernel
    | 1, hq => cases hq; decide +kernel
    | 2, hq => cases hq; decide +kernel
    | 3, hq => cases hq; decide +kernel
    | 4, hq => cases hq; decide +kernel
    | 5, hq => cases hq; decide +kernel
    | 6, hq => cases hq; decide +kernel
    | 7, hq => cases hq; decide +kernel
    | k + 8, hq => simp [mCl] at hq
  exact u_known hts hin (hts _ hi)
theorem mTof {args : Array Value} {s : State} {C n : String} {vs : List Int32} {A : Nat → Prop} (hN : vs.length < 2 ^ 31) (harr : (Cond.arrayOf (.static C n "[I") .int).before args s = true) (hlen : (Cond.eq (.length (.static C n "[I")) (.int (Int32.ofNat vs.length))).before args s = true)
    (hel : ∀ j : Nat, j < vs.length → (Cond.eq (.elem (.static C n "[I") (.int (Int32.ofNat j))) (.int (vs.getD j 0))).before args s = true) (hl : (Cond.laysStatic C n "[I").before args s = true) (hini : (Cond.initialized C).before args s = true) (hA : ∀ a : Nat, a < s.heap.size → ¬ A a) :
    ∃ t : Nat, va_T .int t vs.length (fun j => .int (vs.getD j 0)) A s s.heap ∧ va_Z C n "[I" (.ref t) A s s.heap := by
  obtain ⟨t, h1, h2⟩ := va_Tof (tm := .static C n "[I") (f := fun j => .int (vs.getD j 0)) hN harr (va_eqt hlen) (fun j hj => va_eqt (hel j hj)) hA
  exact ⟨t, h2, va_Zref hl hini h1 hA⟩
theorem mGets {vs : List Int32} {P : Nat → Int32 → Prop} (h : ∀ j, j < vs.length → P j (vs.getD j 0)) : ∀ j, j < vs.length → P j (vs.getD j 0) := h
set_option maxHeartbeats 4000000 in
set_option maxRecDepth 100000 in
theorem whole_of (hG : mGoal) {p : Program} {e : Env} {s : State} {m : MethodId} {below : List Frame} {meth : Method} {c : Code} (l : Launch) {b L : Nat} {xs : Nat → Int32} (hL : L ≤ 384) (C0 : lw_At p s m meth c b L xs) : W p l e room_1 s m #[Value.ref b] below meth c s.heap [] 0 0 (lw_Z below #[Value.ref b] s) (entryFrame m ([Value.ref b] : List Value).toArray 4) := by
  obtain ⟨hx, hb, hr, hml, hown, hts, hX, hbl, hlocks, hgv⟩ := C0
  have hs := flat_of_before _ hgv
  have hAlt : ∀ a : Nat, a < s.heap.size → ¬ (fun q => s.heap.size ≤ q) a := fun a h1 h2 => Nat.lt_irrefl _ (Nat.lt_of_lt_of_le h1 h2)
  have hini : (Cond.initialized "FirstLanding$Kind").before #[Value.ref b] s = true := hts _ (by decide +kernel)
  obtain ⟨t1, hT1, hZ1⟩ := mTof (s := s) (args := #[Value.ref b]) (C := "FirstLanding$Kind") (n := "LETTERS") (vs := mLet) (A := fun q => s.heap.size ≤ q) (by decide) (hs _ (by decide +kernel)) (hs _ (by decide +kernel)) (fun j hj => by
    have hj6 : j < 6 := hj
    match j, hj6 with
    | 0, _ => exact hs _ (by decide +kernel)
    | 1, _ => exact hs _ (by decide +kernel)
    | 2, _ => exact hs _ (by decide +kernel)
    | 3, _ => exact hs _ (by decide +kernel)
    | 4, _ => exact hs _ (by decide +kernel)
    | 5, _ => exact hs _ (by decide +kernel)
    | j + 6, h => omega) (hts _ (by decide +kernel)) hini hAlt
  obtain ⟨t2, hT2, hZ2⟩ := mTof (s := s) (args := #[Value.ref b]) (C := "FirstLanding$Kind") (n := "PARENTS") (vs := mPar) (A := fun q => s.heap.size ≤ q) (by decide) (hs _ (by decide +kernel)) (hs _ (by decide +kernel)) (fun j hj => by
    have hj6 : j < 6 := hj
    match j, hj6 with
    | 0, _ => exact hs _ (by decide +kernel)
    | 1, _ => exact hs _ (by decide +kernel)
    | 2, _ => exact hs _ (by decide +kernel)
    | 3, _ => exact hs _ (by decide +kernel)
    | 4, _ => exact hs _ (by decide +kernel)
    | 5, _ => exact hs _ (by decide +kernel)
    | j + 6, h => omega) (hts _ (by decide +kernel)) hini hAlt
  obtain ⟨c0, r0⟩ := mArr_of (hts (.arrayClass .int) (by decide +kernel)) (fun C h => by cases h)
  obtain ⟨c1, r1⟩ := mArr_of (hts (.arrayClass .byte) (by decide +kernel)) (fun C h => by cases h)
  obtain ⟨c2, r2⟩ := mArr_of (hts (.arrayClass .boolean) (by decide +kernel)) (fun C h => by cases h)
  have w3 := hts (.arrayOver (.object "FirstLanding$Row")) (by decide +kernel)
  have w4 := hts (.arrayOver (.object "FirstLanding$Text")) (by decide +kernel)
  have w5 := hts (.arrayOver (.object "FirstLanding$Embassy")) (by decide +kernel)
  obtain ⟨c3, r3⟩ := mArr_ofq w3
  obtain ⟨c4, r4⟩ := mArr_ofq w4
  obtain ⟨c5, r5⟩ := mArr_ofq w5
  have hkn := mKn hts
  have hch : ∀ k : Nat, ∃ z : ClassId × (Nat → Nat), ∀ q : vw_C, mCl[k]? = some q → u_Kn s q.1 q.2.1 q.2.2 z.1 z.2 := by
    intro k
    cases hk : mCl[k]? with
    | none => exact ⟨(0, fun _ => 0), fun q hq => by cases hq⟩
    | some q =>
      obtain ⟨cc, f, h⟩ := hkn k q hk
      exact ⟨(cc, f), fun q2 hq => by cases hq; exact h⟩
  obtain ⟨z, hz⟩ := Classical.axiomOfChoice hch
  have hK : va_K (fun k => (z k).1, fun k => (z k).2) mCl (mTys (fun t => if t = 50 then c0 else if t = 51 then c1 else if t = 52 then c2 else if t = 53 then c3 else if t = 54 then c4 else c5)) s := by
    refine ⟨fun k q hq => hz k q hq, fun k q hq => ?_⟩
    match k, hq with
    | 0, hq => cases hq; exact r0
    | 1, hq => cases hq; exact r1
    | 2, hq => cases hq; exact r2
    | 3, hq => cases hq; exact r3
    | 4, hq => cases hq; exact r4
    | 5, hq => cases hq; exact r5
    | k + 6, hq => simp [mTys] at hq
  generalize (fun t => if t = 50 then c0 else if t = 51 then c1 else if t = 52 then c2 else if t = 53 then c3 else if t = 54 then c4 else c5) = cA at hK
  generalize hD : ((fun k => (z k).1, fun k => (z k).2) : va_G) = D at hK
  have hsc : ((List.range L).map xs).length = L := by simp
  have hE : mEv D cA s.heap.size (fun n => if n = 0 then b else if n = 1 then t1 else t2) (mXs ((List.range L).map xs)) s := by
    refine ⟨hK, fun n hn => ?_, hZ1, hZ2, fun w hw => ?_, va_AO.of w3, va_AO.of w4, va_AO.of w5⟩
    · match n, hn with
      | 0, _ =>
        obtain ⟨scr, q1, q2, q3, q4, q5⟩ := hX
        refine ⟨scr, q1, q2, q3, ?_, ?_, fun j hj => ?_, hAlt b hbl⟩
        · show ((List.range L).map xs).length ≤ _
          rw [hsc, q4]
          exact Nat.le_refl _
        · show _ = Int32.ofNat ((List.range L).map xs).length
          rw [hsc, q4]
        · have hj2 : j < L := by rw [← hsc]; exact hj
          rw [q5 j hj2]
          show some (Value.int (xs j)) = some (Value.int (((List.range L).map xs).getD j 0))
          rw [List.getD_eq_getElem?_getD, List.getElem?_map, List.getElem?_range hj2]
          rfl
      | 1, _ => exact hT1
      | 2, _ => exact hT2
      | n + 3, h => omega
    · have h1 := List.mem_filter.mp hw
      have h2 := hts w h1.1
      have h3 := h1.2
      cases w <;> first | exact va_Nw.of rfl h2 | cases h3
  obtain ⟨d, n, h, hd, hrun, hc1, hc2⟩ := hG ((List.range L).map xs) (by rw [hsc]; exact hL)
  have htsm : ∀ w ∈ mW, w.before #[Value.ref b] s = true := fun w hw => hts w (List.mem_filter.mp hw).1
  have hkey := mRun_sim (p := p) (l := l) (e := e) (R := room_1) (s := s) (m := m) (args := #[Value.ref b]) (below := below) (meth := meth) (c := c) (Q := lw_Z below #[Value.ref b] s) (cs := mLaw) (own := "FirstLandingLaw") (ini := false) (tab := mTab) (call := mEval mTab (mXs ((List.range L).map xs)) d n) (d := d) (rt := some .boolean) (nL := 4) (D := D) (cA := cA)
    hx hb hml hown (fun hq => by cases hq) htsm hE (Nat.le_refl _) mLaw_ok (fun k1 q1 h1 => by
      have h2 := mTab_ok k1 q1 h1
      unfold mTok at h2
      simp only [Bool.and_eq_true] at h2
      exact h2.1) (fun k1 q1 av1 h1 r1 e1 e2 e3 => mEval_met l mTab_ok d n k1 q1 av1 h1 r1 e1 e2 e3) (fun k1 av1 h1 r1 e1 => mEval_up _ _ _ _ _ _ e1) ⟨by show d + 1 ≤ 2048; omega, by show 60 * (d + 1) ≤ 84000; omega⟩ [] (some (.int 1), h) (by show h.length - 0 ≤ 600000; omega) (by show mSl h - 0 ≤ 7302250; omega)
    (fun H1 locs1 pc ls ins q1 q2 q3 q4 => by
      have hins : ins = .ireturn := by
        cases ins <;> first | rfl | exact q4.elim | (exfalso; obtain ⟨_, _, _, q6, _⟩ := q4; exact absurd q6 (by simp)) | (exfalso; obtain ⟨_, _, q6⟩ := q4; exact absurd q6 (by simp)) | (exfalso; obtain ⟨_, q6⟩ := q4; exact absurd q6 (by simp))
      subst hins
      refine va_forget (fun q hq => q2.2.2 q hq) ?_
      refine W.widen (k := 600000) (n := 7302250) (by show h.length - 0 ≤ 600000; omega) (by show mSl h - 0 ≤ 7302250; omega) ?_
      exact lw_ret hx hb hr hlocks q3)
    n (0, mEntL 4 [.retAddr 0], [], []) hrun rfl (mUp.rf _) s.heap [] ⟨rfl, fun k q hq => by cases hq⟩ va_S.rf
  rw [lg_entry_eq]
  have h1 := hkey _ (by
    show lv_has _ 4 (mAs (mSh s.heap.size (fun n => if n = 0 then b else if n = 1 then t1 else t2)) (mEntL 4 [.retAddr 0]))
    exact mEntL_has (mSh s.heap.size (fun n => if n = 0 then b else if n = 1 then t1 else t2)) (mSh_cat _ _) [.retAddr 0] (n := 4) (by decide))
  have hp0 : mPcAt mLaw 0 = 0 := by decide +kernel
  dsimp only [List.map_nil] at h1
  rw [hp0] at h1
  exact h1
