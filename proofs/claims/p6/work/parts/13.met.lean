/-! each method of the table, as a contract -/
noncomputable def mTok (tab : List mM) (t : mM) : Bool := mMok t && (mCok tab (mMY t).cls (decide ((mMY t).name = "<init>")) (mMB t) (mMC t) && (plainFor (mMY t) && decide (mPcAt (mMC t) 0 = 0)))
section MMET
variable {b : Nat} {x : Nat → Nat} {xs : Nat → List Int32} {D : va_G} {cA : Nat → ClassId} {tab : List mM}
set_option maxHeartbeats 4000000 in
theorem mEval_met (l : Launch) (htab : ∀ (k : Nat) (t : mM), tab[k]? = some t → mTok tab t = true) : ∀ (d n k : Nat) (t : mM) (av : List Value) (h : mH) (r : mR), tab[k]? = some t → (mEnt av).length ≤ mMX t → mEval tab xs d n k av h = some r → mMet l D cA b x xs d t av h r := by
  intro d
  induction d with
  | zero => intro n k t av h r _ _ hs; cases hs
  | succ d ih =>
    intro n k t av h r ht hen hs
    have hup := mEval_up _ _ _ _ _ _ hs
    unfold mEval at hs
    rw [ht] at hs
    dsimp only at hs
    have htk := htab k t ht
    unfold mTok at htk
    simp only [Bool.and_eq_true] at htk
    obtain ⟨-, hcs, hpl, hp0⟩ := htk
    have hp0 := of_decide_eq_true hp0
    refine va_MetF (cc := mMB t) (maxL := mMX t) (ret := mMT t) hpl rfl ?_
    intro p e s m args below meth c s₁ B hml hv
    obtain ⟨rfl, hR, hE⟩ := hv
    have hx := B.exec
    have hb := B.bytes
    have hr := B.returns
    have hts0 := atoms_spec (ws := mWs t) B.pre
    have hts : ∀ w ∈ mW, w.before (av.map (mSh b x)).toArray s = true := fun w hw => hts0 w (List.mem_cons_of_mem _ hw)
    have hown : s.vm.findClass (mMY t).cls = some m.cls := findClass_of_methodNamed B.named
    have hlocks := B.notSynchronized
    have hnm : meth.name = (mMY t).name := (name_of_methodNamed B.named B.method).1
    have hbs : b ≤ s.heap.size := by rw [hR.1]; exact Nat.le_add_right _ _
    have hkey := mRun_sim (p := p) (l := l) (e := e) (R := mRm (d + 1) (r.2.length - h.length) (mSl r.2 - mSl h)) (s := s) (m := m) (args := (av.map (mSh b x)).toArray) (below := below) (meth := meth) (c := c) (Q := MQ below (mQc D cA b x r) (av.map (mSh b x)).toArray s (r.2.length - h.length) (mSl r.2 - mSl h) (fun q => b ≤ q)) (cs := mMC t) (own := (mMY t).cls) (ini := decide ((mMY t).name = "<init>")) (tab := tab) (call := mEval tab xs d n) (d := d) (rt := mMT t) (nL := mMX t) (D := D) (cA := cA)
      hx hb hml hown (fun hq => hnm.trans (of_decide_eq_true hq)) hts hE hbs hcs (fun k1 t1 h1 => by
        have h2 := htab k1 t1 h1
        unfold mTok at h2
        simp only [Bool.and_eq_true] at h2
        exact h2.1) (fun k1 t1 av1 h1 r1 e1 e2 e3 => ih n k1 t1 av1 h1 r1 e1 e2 e3) (fun k1 av1 h1 r1 e1 => mEval_up _ _ _ _ _ _ e1) ⟨Nat.le_refl _, Nat.le_refl _⟩ h r (Nat.le_refl _) (Nat.le_refl _)
      (fun H1 locs1 pc ls ins q1 q2 q3 q4 => by
        have hq : ∀ (v : Option Value), v = r.1.map (mSh b x) → ∀ t1 : State, t1.heap = H1 → s.WarmedH t1.vm → mQc D cA b x r (av.map (mSh b x)).toArray s (.returned v) t1 := fun v hv t1 ht1 _ => ⟨by rw [hv], by rw [ht1]; exact q1, q2.F ht1⟩
        cases ins <;> first | exact q4.elim | skip
        · obtain ⟨z, C, e1, e2, e3⟩ := q4
          rw [e1] at hq ⊢
          have h4 := mIsA_spec b x e3
          exact W.aret hx hb (hr.trans e2) (Or.inl ⟨C, rfl⟩) h4 (hq _ rfl) q2.2.2 q3
        · obtain ⟨z, ty, e1, e2, e3⟩ := q4
          rw [e1] at hq ⊢
          exact W.zret hx hb (hr.trans e2) e3 (hq _ rfl) q2.2.2 q3
        · obtain ⟨z, e1, e2⟩ := q4
          rw [e1] at hq ⊢
          exact W.lret hx hb (hr.trans e2) (hq _ rfl) q2.2.2 q3
        · obtain ⟨e1, e2⟩ := q4
          rw [e1] at hq ⊢
          exact W.vret hx hb (hr.trans e2) (hq _ rfl) q2.2.2 q3)
      n (0, mEntL (mMX t) av, [], h) hs (mEntL_len _ _ hen) (mUp.rf h) s.heap [] hR va_S.rf
    rw [lg_entry_eq]
    have h1 := hkey _ (by
      dsimp only
      rw [mEntL_len _ _ hen]
      exact mEntL_has (mSh b x) (mSh_cat b x) av hen)
    dsimp only [List.map_nil] at h1
    rw [hp0, Nat.sub_self, Nat.sub_self] at h1
    exact h1
end MMET
