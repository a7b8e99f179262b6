/-! calls -/
/-- a method: its name, bytes, locals, what it returns, its sort (0 static, 1 of an object, 2 a constructor), its arguments, where its words stand, its code -/
abbrev mM : Type := MethodName × ByteArray × Nat × Option FieldType × Nat × Nat × List Nat × List mE
noncomputable def mMY (t : mM) : MethodName := t.1
noncomputable def mMB (t : mM) : ByteArray := t.2.1
noncomputable def mMX (t : mM) : Nat := t.2.2.1
noncomputable def mMT (t : mM) : Option FieldType := t.2.2.2.1
noncomputable def mMK (t : mM) : Nat := t.2.2.2.2.1
noncomputable def mMN (t : mM) : Nat := t.2.2.2.2.2.1
noncomputable def mMW (t : mM) : List Nat := t.2.2.2.2.2.2.1
noncomputable def mMC (t : mM) : List mE := t.2.2.2.2.2.2.2
noncomputable def mCnt (t : mM) : Nat := if mMK t = 0 then mMN t else mMN t + 1
noncomputable def mRcv (t : mM) (av : List Value) (h : mH) : Bool := if mMK t = 0 then true else match av with
  | .ref a :: _ => if mMK t = 2 then true else (match h[a]? with
    | some q => decide (q.1 < 50) && (match mCl[q.1]? with
      | some r => decide (r.1 = (mMY t).cls)
      | none => false)
    | none => false)
  | _ => false
noncomputable def mInv : Instr → Bool
  | .invokevirtual _ => true
  | .invokestatic _ => true
  | .invokespecial _ => true
  | _ => false
noncomputable def mG1 (tab : List mM) (call : Nat → List Value → mH → Option mR) (en : mE) (i : Nat) (L : mL) (st : List Value) (h : mH) : Option mG :=
  if mInv en.2.1 = true ∧ mTgt en 2 = 0 then
    match tab[mTgt en 1]? with
    | some t => if mCnt t ≤ st.length ∧ ((st.drop (mCnt t)).map (fun v => v.category)).sum ≤ 8 ∧ mRcv t ((st.take (mCnt t)).reverse) h = true ∧ (mEnt ((st.take (mCnt t)).reverse)).length ≤ mMX t then
        (match call (mTgt en 1) ((st.take (mCnt t)).reverse) h with
        | some r => some (i + 1, L, r.1.toList ++ st.drop (mCnt t), r.2)
        | none => none) else none
    | none => none
  else none
noncomputable def mCpy (us vs : List Value) (sp dp n : Nat) : List Value := (List.range vs.length).map (fun k => va_cpy (vp_V us) (vp_V vs) sp dp n k)
noncomputable def mG2 (en : mE) (i : Nat) (L : mL) (st : List Value) (h : mH) : Option mG := match en.2.1 with
  | .invokespecial _ => match st with
    | .ref _ :: r => if mTgt en 2 = 1 ∧ (r.map (fun v => v.category)).sum ≤ 8 then some (i + 1, L, r, h) else none
    | _ => none
  | .invokestatic _ => match st with
    | .int n :: .int dp :: .ref a1 :: .int sp :: .ref a0 :: r => match h[a0]? with
      | some q0 => match h[a1]? with
        | some q1 => if mTgt en 2 = 2 ∧ (r.map (fun v => v.category)).sum ≤ 8 ∧ q0.1 = 50 ∧ q1.1 = 50 ∧ ¬ sp < 0 ∧ ¬ dp < 0 ∧ ¬ n < 0 ∧ sp.toNatClampNeg + n.toNatClampNeg ≤ q0.2.length ∧ dp.toNatClampNeg + n.toNatClampNeg ≤ q1.2.length ∧ q0.2.all mIsI = true then some (i + 1, L, r, h.set a1 (q1.1, mCpy q0.2 q1.2 sp.toNatClampNeg dp.toNatClampNeg n.toNatClampNeg)) else none
        | none => none
      | none => none
    | _ => none
  | _ => none
/-- what a method's own words must be -/
noncomputable def mMok (t : mM) : Bool := mHas ((mMW t).getD 0 0) (.code (mMY t) (mMB t) (mMX t) (mMT t)) && (mHas ((mMW t).getD 1 0) (.initialized (mMY t).cls) && (decide ((mMY t).cls ≠ "java/lang/invoke/MethodHandle" ∧ (mMY t).cls ≠ "java/lang/invoke/VarHandle" ∧ (parseMethodDescriptor (mMY t).desc).map (fun d => d.parameters.length) = some (mMN t) ∧ mMX t ≤ 41) &&
  (if mMK t = 0 then mHas ((mMW t).getD 2 0) (.static (mMY t)) else if mMK t = 1 then mHas ((mMW t).getD 2 0) (.instanceMethod (mMY t)) && mHas ((mMW t).getD 3 0) (.selects (mMY t).cls (mMY t) (mMY t)) else mHas ((mMW t).getD 2 0) (.instanceMethod (mMY t)) && decide ((mMY t).name = "<init>" ∧ mMT t = none ∧ mMK t = 2))))
/-- what a place of a call must be -/
noncomputable def mLnkC (tab : List mM) (own : String) (en : mE) : Bool := match en.2.1 with
  | .invokevirtual idx => mTgt en 2 = 0 ∧ (match tab[mTgt en 1]? with
    | some t => decide (mMK t = 1) && (if mTgt en 3 = 0 then mHas (mTgt en 4) (.methodLink own idx (mMY t)) else mHasN (mTgt en 4) (.methodLinkNest own idx (mMY t) "FirstLanding"))
    | none => false) = true
  | .invokestatic idx => if mTgt en 2 = 0 then (match tab[mTgt en 1]? with
    | some t => decide (mMK t = 0) && (if mTgt en 3 = 0 then mHas (mTgt en 4) (.methodLink own idx (mMY t)) else mHasN (mTgt en 4) (.methodLinkNest own idx (mMY t) "FirstLanding"))
    | none => false) else mHas (mTgt en 4) (.methodLink own idx arraycopyName) && (mHas (mTgt en 5) (.native arraycopyName) && (mHas (mTgt en 6) (.static arraycopyName) && mHas (mTgt en 7) (.initialized "java/lang/System")))
  | .invokespecial idx => if mTgt en 2 = 0 then (match tab[mTgt en 1]? with
    | some t => decide (mMK t = 2) && (if mTgt en 3 = 0 then mHas (mTgt en 4) (.methodLink own idx (mMY t)) else mHasN (mTgt en 4) (.methodLinkNest own idx (mMY t) "FirstLanding"))
    | none => false) else mHas (mTgt en 4) (.methodLink own idx Lib.objectInit) && (mHas (mTgt en 5) (.instanceMethod Lib.objectInit) && mHas (mTgt en 6) (.code Lib.objectInit ⟨#[0xb1]⟩ 1 none))
  | _ => true
noncomputable def mWs (t : mM) : List Cond := Cond.code (mMY t) (mMB t) (mMX t) (mMT t) :: mW
theorem mGood {w : Cond} (h : w ∈ mW) : GoodIn mW (w :: mW) := by
  intro z hz
  have h1 : z ∈ mW := by
    rcases List.mem_cons.mp hz with e | e
    · rw [e]; exact h
    · exact e
  exact ⟨h1, good_of_word (List.mem_filter.mp h1).2⟩
noncomputable def mRm (d mc ms : Nat) : Room := { frames := d, cells := mc, slots := ms, locals := 60 * d }
noncomputable def mPc (D : va_G) (cA : Nat → ClassId) (b : Nat) (x : Nat → Nat) (xs : Nat → List Int32) (av : List Value) (h : mH) : Array Value → State → Prop := fun a U => a = (av.map (mSh b x)).toArray ∧ mRel D cA b x h U.heap ∧ mEv D cA b x xs U
noncomputable def mQc (D : va_G) (cA : Nat → ClassId) (b : Nat) (x : Nat → Nat) (r : mR) : Array Value → State → Outcome → State → Prop := fun _ st o t => o = .returned (r.1.map (mSh b x)) ∧ mRel D cA b x r.2 t.heap ∧ va_F (fun q => b ≤ q) st t
noncomputable def mMet (l : Launch) (D : va_G) (cA : Nat → ClassId) (b : Nat) (x : Nat → Nat) (xs : Nat → List Int32) (d : Nat) (t : mM) (av : List Value) (h : mH) (r : mR) : Prop :=
  Met l (mMY t) (mWs t) (mRm d (r.2.length - h.length) (mSl r.2 - mSl h)) (mPc D cA b x xs av h) (mQc D cA b x r) (r.2.length - h.length) (mSl r.2 - mSl h) (fun q => b ≤ q)
theorem mPc_blind (D : va_G) (cA : Nat → ClassId) (b : Nat) (x : Nat → Nat) (xs : Nat → List Int32) (av : List Value) (h : mH) : FrameBlind (mPc D cA b x xs av h) := by
  intro a U g mk hp
  exact ⟨hp.1, hp.2.1, hp.2.2.to (mWN_same (s := U) (U := U.calling g mk a) rfl hp.2.2.2.2.2.2.1) (Vm.Alike.refl U.vm) (fun _ _ _ => rfl)⟩
section MSC
variable {p : Program} {l : Launch} {e : Env} {R : Room} {s : State} {m : MethodId} {args : Array Value} {below : List Frame} {meth : Method} {c : Code} {H : Heap} {locs : List Loc} {cells slots : Nat} {Q : State → Prop}
variable {cc : ByteArray} {cs : List mE} {b : Nat} {x : Nat → Nat} {xs : Nat → List Int32} {en : mE} {i : Nat} {L : mL} {st : List Value} {h : mH} {g : mG} {D : va_G} {cA : Nat → ClassId} {own : String} {ini : Bool} {tab : List mM} {call : Nat → List Value → mH → Option mR} {d : Nat}
theorem mPc_at (hE : mEv D cA b x xs s) (hR : mRel D cA b x h H) (hS : va_S (fun q => b ≤ q) s.heap H locs) (av : List Value) : ∀ U : State, U.heap = H → s.WarmedH U.vm → mPc D cA b x xs av h (av.map (mSh b x)).toArray U := by
  intro U hU hW
  refine ⟨rfl, by rw [hU]; exact hR, hE.to (mWN_warm hW hE.2.2.2.2.1) hW.alike (fun a h1 h2 => ?_)⟩
  rw [hU]
  exact hS.2.1 a h1 h2
/-- behind a call -/
theorem mBack {mc ms : Nat} {ls : Array Slot} {pc : Nat} {st0 rest : List Value} {a : Array Value} {r : mR} (hr : va_Run p l e R s m args below meth c H locs cells slots mc ms (F0 m pc ls st0) rest (mQc D cA b x r a) (fun q => b ≤ q)) (hS : va_S (fun q => b ≤ q) s.heap H locs)
    (kk : ∀ (H1 : Heap) (locs1 : List Loc), mRel D cA b x r.2 H1 → va_S (fun q => b ≤ q) s.heap H1 locs1 → W p l e R s m args below meth c H1 locs1 (cells + mc) (slots + ms) Q (F0 m (pc + 3) ls ((r.1.map (mSh b x)).toList ++ rest))) : W p l e R s m args below meth c H locs cells slots Q (F0 m pc ls st0) := by
  intro T hT X
  obtain ⟨v, st₀, t, T', L1, h0, X', hL, e1, e2, ⟨hv, hrel, hz, hk⟩, st1⟩ := hr T hT X
  cases hv
  rw [h0] at hz hk
  obtain ⟨t2, a1, b1⟩ := kk T'.heap (locs ++ L1) (by rw [e1]; exact hrel)
    ⟨Nat.le_trans hS.1 (by rw [e1]; exact hz), fun q h1 h2 => by rw [e1, hk q (Nat.lt_of_lt_of_le h1 hS.1) h2]; exact hS.2.1 q h1 h2, fun q hq => by
      rcases List.mem_append.mp hq with h | h
      · exact hS.2.2 q h
      · exact hL q h⟩ T' rfl X'
  exact ⟨t2, st1 t2 a1, b1⟩
theorem mRoom0 {pc : Nat} {ls : Array Slot} {st0 rest : List Value} (h : (rest.map (fun v => v.category)).sum ≤ 8) : 2 * (F0 m pc ls st0).monitorRoom + ((rest.map (mSh b x)).map fun v => v.category).sum ≤ 8 := by
  have h1 : ((rest.map (mSh b x)).map fun v => v.category) = rest.map (fun v => v.category) := by
    rw [List.map_map]
    exact List.map_congr_left (fun v _ => mSh_cat b x v)
  rw [h1]
  exact lv_room h
set_option maxHeartbeats 4000000 in
theorem mG1_sim (hx : p.tables.exec = Jvm.exec) (hb : c.code = cc) (hml : c.maxLocals = L.length) (hown : s.vm.findClass own = some m.cls) (hts : ∀ w ∈ mW, w.before args s = true) (hE : mEv D cA b x xs s) (hR : mRel D cA b x h H) (hS : va_S (fun q => b ≤ q) s.heap H locs)
    (hd : decode cc (mPcAt cs i) = .ok (en.2.1, mLen en.2.1)) (hf : mPcAt cs (i + 1) = mPcAt cs i + mLen en.2.1) (hlk : mLnkC tab own en = true) (htab : ∀ (k : Nat) (t : mM), tab[k]? = some t → mMok t = true)
    (hcall : ∀ (k : Nat) (t : mM) (av : List Value) (h0 : mH) (r : mR), tab[k]? = some t → (mEnt av).length ≤ mMX t → call k av h0 = some r → mMet l D cA b x xs d t av h0 r ∧ h0.length ≤ r.2.length ∧ mSl h0 ≤ mSl r.2)
    (hRf : d + 1 ≤ R.frames ∧ 60 * (d + 1) ≤ R.locals)
    (hs : mG1 tab call en i L st h = some g) (hrc : cells + (g.2.2.2.length - h.length) ≤ R.cells) (hrs : slots + (mSl g.2.2.2 - mSl h) ≤ R.slots)
    (kk : ∀ (H1 : Heap) (locs1 : List Loc), mRel D cA b x g.2.2.2 H1 → va_S (fun q => b ≤ q) s.heap H1 locs1 → mFol p l e R s m args below meth c cs (mSh b x) Q H1 locs1 (cells + (g.2.2.2.length - h.length)) (slots + (mSl g.2.2.2 - mSl h)) g) : mFol p l e R s m args below meth c cs (mSh b x) Q H locs cells slots (i, L, st, h) ∧ h.length ≤ g.2.2.2.length ∧ g.2.1.length = L.length ∧ mSl h ≤ mSl g.2.2.2 := by
  unfold mG1 at hs
  split at hs
  · rename_i hm
    obtain ⟨hm1, hm2⟩ := hm
    split at hs
    · rename_i t ht
      split at hs
      · rename_i hc
        obtain ⟨c1, c2, c3, c4⟩ := hc
        split at hs
        · rename_i r hr
          cases hs
          obtain ⟨hM, g1, g2⟩ := hcall _ t _ _ r ht c4 hr
          refine ⟨fun ls hl => ?_, g1, rfl, g2⟩
          dsimp only at hl hrc hrs kk ⊢
          have htk := htab _ t ht
          unfold mMok at htk
          simp only [Bool.and_eq_true] at htk
          obtain ⟨w0, w1, w2, w3⟩ := htk
          obtain ⟨w4, w5, w6, w7⟩ := of_decide_eq_true w2
          have hG := mGood (mHas_ok w0)
          have hini := hts _ (mHas_ok w1)
          have hRR : (mRm d (r.2.length - h.length) (mSl r.2 - mSl h)).frames + 1 ≤ R.frames ∧ 8 + (mMX t + 11) + (mRm d (r.2.length - h.length) (mSl r.2 - mSl h)).locals ≤ R.locals := ⟨hRf.1, by
            show 8 + (mMX t + 11) + 60 * d ≤ R.locals
            have := hRf.2
            omega⟩
          have hS0 : CallFix p m c cc L.length s args mW own := ⟨hx, hb, hml, hown, hts⟩
          have hst : st = (st.take (mCnt t)).reverse.reverse ++ st.drop (mCnt t) := by rw [List.reverse_reverse]; exact (List.take_append_drop _ _).symm
          have hsz : (F0 m (mPcAt cs i) ls (st.map (mSh b x))).locals.size = L.length := hl.1
          have hlen : ((st.take (mCnt t)).reverse).length = mCnt t := by simp; omega
          generalize hav : (st.take (mCnt t)).reverse = av at *
          generalize hrest : st.drop (mCnt t) = rest at *
          have hpre := mPc_at (h := h) hE hR hS av
          have hbl := mPc_blind D cA b x xs av h
          have fin : ∀ (H1 : Heap) (locs1 : List Loc), mRel D cA b x r.2 H1 → va_S (fun q => b ≤ q) s.heap H1 locs1 → W p l e R s m args below meth c H1 locs1 (cells + (r.2.length - h.length)) (slots + (mSl r.2 - mSl h)) Q (F0 m (mPcAt cs i + 3) ls ((r.1.map (mSh b x)).toList ++ rest.map (mSh b x))) := by
            intro H1 locs1 q1 q2
            have k1 := kk H1 locs1 q1 q2 ls hl
            dsimp only at k1
            rw [hf] at k1
            have e1 : mLen en.2.1 = 3 := by
              cases hi : en.2.1 <;> rw [hi] at hm1 <;> first | rfl | cases hm1
            rw [e1, List.map_append] at k1
            have e2 : r.1.toList.map (mSh b x) = (r.1.map (mSh b x)).toList := by cases r.1 <;> rfl
            rw [e2] at k1
            exact k1
          unfold mLnkC at hlk
          split at hlk
          · rename_i idx heq
            rw [heq] at hd
            have hlk2 := (of_decide_eq_true hlk).2
            rw [ht] at hlk2
            dsimp only at hlk2
            rw [Bool.and_eq_true, decide_eq_true_eq] at hlk2
            obtain ⟨hk1, l3⟩ := hlk2
            rw [if_neg (by omega), if_pos hk1, Bool.and_eq_true] at w3
            have hin := hts _ (mHas_ok w3.1)
            have hse := hts _ (mHas_ok w3.2)
            unfold mRcv at c3
            rw [if_neg (by omega)] at c3
            have hcn : mCnt t = mMN t + 1 := by unfold mCnt; rw [if_neg (by omega)]
            match av, c3 with
            | .ref a :: As, c3 =>
              dsimp only at c3
              rw [if_neg (by omega)] at c3
              split at c3
              · rename_i q hq
                rw [Bool.and_eq_true, decide_eq_true_eq] at c3
                obtain ⟨hq50, hq2⟩ := c3
                split at hq2
                · rename_i rr hrr
                  have hcl := of_decide_eq_true hq2
                  obtain ⟨r1, o1, o2, cellB, o3, o4, o5, -⟩ := (hR.2 a q hq).1 hq50
                  cases hrr.symm.trans o1
                  have hrv : ∃ cellB : Cell, H[b + a]? = some cellB ∧ cellB.vm.isStatics = false ∧ s.vm.findClass (mMY t).cls = some cellB.cls := ⟨cellB, o3, by rw [o5]; rfl, by rw [o4, ← hcl]; exact (hE.1.1 q.1 _ o1).2.1⟩
                  have hstk : st.map (mSh b x) = (As.map (mSh b x)).reverse ++ .ref (b + a) :: rest.map (mSh b x) := by
                    rw [hst, List.reverse_cons, List.append_assoc, List.map_append, List.map_reverse]
                    rfl
                  have hnn : (As.map (mSh b x)).length = mMN t := by
                    rw [List.length_map]
                    have := hlen
                    rw [List.length_cons] at this
                    omega
                  split at l3
                  · refine mBack (r := r) (va_runV (As := As.map (mSh b x)) (rest := rest.map (mSh b x)) hS0 hM ⟨callB_of (mMN t) hts hG rfl rfl rfl hini (hts _ (mHas_ok l3)) ⟨w4, w5, w6⟩ hRR, hin, hse⟩ ⟨hbl, hrv, hpre⟩ rfl hnn hsz hstk (mRoom0 c2) hd ⟨hrc, hrs⟩) hS fin
                  · refine mBack (r := r) (va_runVN (As := As.map (mSh b x)) (rest := rest.map (mSh b x)) hS0 hM ⟨va_cnB (mMN t) hts hG rfl rfl rfl (hE.2.2.2.2.1 _ (mHasN_ok l3)) hini ⟨w4, w5, w6⟩ hRR, hin, hse⟩ ⟨hbl, hrv, hpre⟩ rfl hnn hsz hstk (mRoom0 c2) hd ⟨hrc, hrs⟩) hS fin
                · cases hq2
              · cases c3
          · rename_i idx heq
            rw [heq] at hd
            rw [if_pos hm2, ht] at hlk
            dsimp only at hlk
            rw [Bool.and_eq_true, decide_eq_true_eq] at hlk
            obtain ⟨hk1, l3⟩ := hlk
            rw [if_pos hk1] at w3
            have hsta := hts _ (mHas_ok w3)
            have hcn : mCnt t = mMN t := by unfold mCnt; rw [if_pos hk1]
            have hstk : st.map (mSh b x) = (av.map (mSh b x)).reverse ++ rest.map (mSh b x) := by
              rw [hst, List.map_append, List.map_reverse]
            have hnn : (av.map (mSh b x)).length = mMN t := by rw [List.length_map]; omega
            split at l3
            · refine mBack (r := r) (va_runS (As := av.map (mSh b x)) (rest := rest.map (mSh b x)) hS0 hM ⟨callB_of (mMN t) hts hG rfl rfl rfl hini (hts _ (mHas_ok l3)) ⟨w4, w5, w6⟩ hRR, hsta⟩ ⟨hbl, hpre⟩ rfl hnn hsz hstk (mRoom0 c2) hd ⟨hrc, hrs⟩) hS fin
            · refine mBack (r := r) (va_runSN (As := av.map (mSh b x)) (rest := rest.map (mSh b x)) hS0 hM ⟨va_cnB (mMN t) hts hG rfl rfl rfl (hE.2.2.2.2.1 _ (mHasN_ok l3)) hini ⟨w4, w5, w6⟩ hRR, hsta, trivial⟩ ⟨hbl, hpre⟩ rfl hnn hsz hstk (mRoom0 c2) hd ⟨hrc, hrs⟩) hS fin
          · rename_i idx heq
            rw [heq] at hd
            rw [if_pos hm2, ht] at hlk
            dsimp only at hlk
            rw [Bool.and_eq_true, decide_eq_true_eq] at hlk
            obtain ⟨hk1, l3⟩ := hlk
            rw [if_neg (by omega), if_neg (by omega), Bool.and_eq_true] at w3
            have hin := hts _ (mHas_ok w3.1)
            obtain ⟨hy1, hrt, -⟩ := of_decide_eq_true w3.2
            unfold mRcv at c3
            rw [if_neg (by omega)] at c3
            have hcn : mCnt t = mMN t + 1 := by unfold mCnt; rw [if_neg (by omega)]
            match av, c3 with
            | .ref a :: As, c3 =>
              have hstk : st.map (mSh b x) = (As.map (mSh b x)).reverse ++ .ref (b + a) :: rest.map (mSh b x) := by
                rw [hst, List.reverse_cons, List.append_assoc, List.map_append, List.map_reverse]
                rfl
              have hnn : (As.map (mSh b x)).length = mMN t := by
                rw [List.length_map]
                have := hlen
                rw [List.length_cons] at this
                omega
              have hw0 : mWs t = Cond.code (mMY t) (mMB t) (mMX t) none :: mW := by unfold mWs; rw [hrt]
              have hG2 : GoodIn mW (mWs t) := hG
              split at l3
              · refine mBack (r := r) (va_runI (As := As.map (mSh b x)) (rest := rest.map (mSh b x)) hS0 hM ⟨callB_of (mMN t) hts hG2 hw0 rfl rfl hini (hts _ (mHas_ok l3)) ⟨w4, w5, w6⟩ hRR, hy1, hin⟩ ⟨hbl, hpre⟩ rfl hnn hsz hstk (mRoom0 c2) hd ⟨hrc, hrs⟩) hS fin
              · refine mBack (r := r) (va_runIN (As := As.map (mSh b x)) (rest := rest.map (mSh b x)) hS0 hM ⟨va_cnB (mMN t) hts hG2 hw0 rfl rfl (hE.2.2.2.2.1 _ (mHasN_ok l3)) hini ⟨w4, w5, w6⟩ hRR, hy1, hin⟩ ⟨hbl, hpre⟩ rfl hnn hsz hstk (mRoom0 c2) hd ⟨hrc, hrs⟩) hS fin
          · rename_i h1 h2 h3
            exfalso
            cases hi : en.2.1 <;> rw [hi] at hm1 <;> first | exact h1 _ hi | exact h2 _ hi | exact h3 _ hi | cases hm1
        · cases hs
      · cases hs
    · cases hs
  · cases hs
end MSC
