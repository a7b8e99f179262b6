/-! the small machine, and that the machine follows it -/
noncomputable def mStep (tab : List mM) (xs : Nat → List Int32) (call : Nat → List Value → mH → Option mR) (en : mE) (g : mG) : Option mG :=
  (mA1 en g.1 g.2.1 g.2.2.1 g.2.2.2).or ((mB1 en g.1 g.2.1 g.2.2.1 g.2.2.2).or ((mB3 en g.1 g.2.1 g.2.2.1 g.2.2.2).or ((mF1 en g.1 g.2.1 g.2.2.1 g.2.2.2).or ((mG1 tab call en g.1 g.2.1 g.2.2.1 g.2.2.2).or ((mF2 xs en g.1 g.2.1 g.2.2.1 g.2.2.2).or ((mF3 en g.1 g.2.1 g.2.2.1 g.2.2.2).or ((mA2 en g.1 g.2.1 g.2.2.1 g.2.2.2).or ((mB2 en g.1 g.2.1 g.2.2.1 g.2.2.2).or ((mN1 en g.1 g.2.1 g.2.2.1 g.2.2.2).or (mG2 en g.1 g.2.1 g.2.2.1 g.2.2.2))))))))))
noncomputable def mRt (rt : Option FieldType) (en : mE) (st : List Value) (h : mH) : Option mR := match en.2.1 with
  | .ireturn => match st with
    | [.int v] => match rt with
      | some ty => if narrow ty (.int v) = .int v then some (some (.int v), h) else none
      | none => none
    | _ => none
  | .lreturn => match st with
    | [.long v] => if rt = some .long then some (some (.long v), h) else none
    | _ => none
  | .areturn => match st with
    | [v] => match rt with
      | some (.object _) => if mIsA v = true then some (some v, h) else none
      | _ => none
    | _ => none
  | .return_ => match st with
    | [] => if rt = none then some (none, h) else none
    | _ => none
  | _ => none
noncomputable def mRun (tab : List mM) (xs : Nat → List Int32) (call : Nat → List Value → mH → Option mR) (rt : Option FieldType) (cs : List mE) : Nat → mG → Option mR
  | 0, _ => none
  | n + 1, g => match cs[g.1]? with
    | none => none
    | some en => match mRt rt en g.2.2.1 g.2.2.2 with
      | some r => some r
      | none => match mStep tab xs call en g with
        | some g1 => mRun tab xs call rt cs n g1
        | none => none
noncomputable def mEval (tab : List mM) (xs : Nat → List Int32) : Nat → Nat → Nat → List Value → mH → Option mR
  | 0, _, _, _, _ => none
  | d + 1, n, k, av, h => match tab[k]? with
    | some t => mRun tab xs (mEval tab xs d n) (mMT t) (mMC t) n (0, mEntL (mMX t) av, [], h)
    | none => none
/-- cells are never lost -/
noncomputable def mUp (h h1 : mH) : Prop := h.length ≤ h1.length ∧ mSl h ≤ mSl h1
theorem mUp.rf (h : mH) : mUp h h := ⟨Nat.le_refl _, Nat.le_refl _⟩
theorem mUp.tr {a b c : mH} (h1 : mUp a b) (h2 : mUp b c) : mUp a c := ⟨Nat.le_trans h1.1 h2.1, Nat.le_trans h1.2 h2.2⟩
theorem mSl_set {h : mH} {a : Nat} {q q1 : mC} (hq : h[a]? = some q) (he : q1.2.length = q.2.length) : mSl (h.set a q1) = mSl h := by
  unfold mSl
  congr 1
  rw [List.map_set]
  apply List.ext_getElem?
  intro k
  by_cases hk : k = a
  · subst hk
    rw [List.getElem?_set]
    simp only [if_true, List.length_map]
    rw [List.getElem?_map, hq, if_pos (List.getElem?_eq_some_iff.mp hq).1]
    simp [he]
  · rw [List.getElem?_set_ne (Ne.symm hk)]
theorem mUp.set {h : mH} {a : Nat} {q q1 : mC} (hq : h[a]? = some q) (he : q1.2.length = q.2.length) : mUp h (h.set a q1) := ⟨by simp, by rw [mSl_set hq he]; exact Nat.le_refl _⟩
theorem mUp.push (h : mH) (q : mC) : mUp h (h ++ [q]) := ⟨by simp, by rw [mSl_app]; omega⟩
section MUP
variable {en : mE} {i : Nat} {L : mL} {st : List Value} {h : mH} {g : mG} {tab : List mM} {xs : Nat → List Int32} {call : Nat → List Value → mH → Option mR}
set_option maxHeartbeats 4000000 in
theorem mA1_up (hs : mA1 en i L st h = some g) : mUp h g.2.2.2 := by
  unfold mA1 mLd mSt mStJ at hs
  (repeat' split at hs) <;> first | (cases hs; exact mUp.rf _) | cases hs
theorem mA2_up (hs : mA2 en i L st h = some g) : mUp h g.2.2.2 := by
  unfold mA2 at hs
  (repeat' split at hs) <;> first | (cases hs; exact mUp.rf _) | cases hs
theorem mB1_up (hs : mB1 en i L st h = some g) : mUp h g.2.2.2 := by
  unfold mB1 at hs
  (repeat' split at hs) <;> first | (cases hs; exact mUp.rf _) | cases hs
theorem mB2_up (hs : mB2 en i L st h = some g) : mUp h g.2.2.2 := by
  unfold mB2 at hs
  (repeat' split at hs) <;> first | (cases hs; exact mUp.rf _) | cases hs
theorem mB3_up (hs : mB3 en i L st h = some g) : mUp h g.2.2.2 := by
  unfold mB3 mIf at hs
  (repeat' split at hs) <;> first | (cases hs; exact mUp.rf _) | (cases hs; split <;> exact mUp.rf _) | cases hs
theorem mF1_up (hs : mF1 en i L st h = some g) : mUp h g.2.2.2 := by
  unfold mF1 at hs
  (repeat' split at hs) <;> first | (cases hs; exact mUp.rf _) | (rename_i hq _; cases hs; exact mUp.set hq (by simp)) | cases hs
theorem mF2_up (hs : mF2 xs en i L st h = some g) : mUp h g.2.2.2 := by
  unfold mF2 at hs
  (repeat' split at hs) <;> first | (cases hs; exact mUp.rf _) | cases hs
theorem mF3_up (hs : mF3 en i L st h = some g) : mUp h g.2.2.2 := by
  unfold mF3 at hs
  (repeat' split at hs) <;> first | (rename_i hq _; cases hs; exact mUp.set hq (by simp)) | (rename_i hq _ _; cases hs; exact mUp.set hq (by simp)) | (rename_i hq _ _ _; cases hs; exact mUp.set hq (by simp)) | (rename_i hq _ _ _ _; cases hs; exact mUp.set hq (by simp)) | cases hs
theorem mN1_up (hs : mN1 en i L st h = some g) : mUp h g.2.2.2 := by
  unfold mN1 at hs
  (repeat' split at hs) <;> first | (cases hs; exact mUp.push _ _) | cases hs
theorem mG1_up (hc : ∀ k av h0 r, call k av h0 = some r → mUp h0 r.2) (hs : mG1 tab call en i L st h = some g) : mUp h g.2.2.2 := by
  unfold mG1 at hs
  split at hs
  · split at hs
    · split at hs
      · split at hs
        · rename_i r hr
          cases hs
          exact hc _ _ _ _ hr
        · cases hs
      · cases hs
    · cases hs
  · cases hs
theorem mG2_up (hs : mG2 en i L st h = some g) : mUp h g.2.2.2 := by
  unfold mG2 at hs
  (repeat' split at hs) <;> first | (cases hs; exact mUp.rf _) | (rename_i hq _ _; cases hs; exact mUp.set hq (by simp [mCpy])) | (rename_i hq _; cases hs; exact mUp.set hq (by simp [mCpy])) | cases hs
theorem mA1_eqs (hs : mA1 en i L st h = some g) : g.2.2.2 = h ∧ g.2.1.length = L.length := by
  unfold mA1 mLd mSt mStJ at hs
  (repeat' split at hs) <;> first | (cases hs; exact ⟨rfl, rfl⟩) | (cases hs; exact ⟨rfl, mS1_len _ _ _⟩) | (cases hs; exact ⟨rfl, mS2_len _ _ _⟩) | cases hs
theorem mA2_eqs (hs : mA2 en i L st h = some g) : g.2.2.2 = h ∧ g.2.1.length = L.length := by
  unfold mA2 at hs
  (repeat' split at hs) <;> first | (cases hs; exact ⟨rfl, rfl⟩) | (cases hs; exact ⟨rfl, mS1_len _ _ _⟩) | cases hs
theorem mB1_eqs (hs : mB1 en i L st h = some g) : g.2.2.2 = h ∧ g.2.1.length = L.length := by
  unfold mB1 at hs
  (repeat' split at hs) <;> first | (cases hs; exact ⟨rfl, rfl⟩) | cases hs
theorem mB2_eqs (hs : mB2 en i L st h = some g) : g.2.2.2 = h ∧ g.2.1.length = L.length := by
  unfold mB2 at hs
  (repeat' split at hs) <;> first | (cases hs; exact ⟨rfl, rfl⟩) | cases hs
theorem mB3_eqs (hs : mB3 en i L st h = some g) : g.2.2.2 = h ∧ g.2.1.length = L.length := by
  unfold mB3 mIf at hs
  (repeat' split at hs) <;> first | (cases hs; exact ⟨rfl, rfl⟩) | (cases hs; split <;> exact ⟨rfl, rfl⟩) | cases hs
theorem mF2_eqs (hs : mF2 xs en i L st h = some g) : g.2.2.2 = h ∧ g.2.1.length = L.length := by
  unfold mF2 at hs
  (repeat' split at hs) <;> first | (cases hs; exact ⟨rfl, rfl⟩) | cases hs
theorem mF1_eqs (hs : mF1 en i L st h = some g) : (g.2.2.2.length = h.length ∧ mSl g.2.2.2 = mSl h) ∧ g.2.1.length = L.length := by
  unfold mF1 at hs
  (repeat' split at hs) <;> first | (cases hs; exact ⟨⟨rfl, rfl⟩, rfl⟩) | (rename_i hq _; cases hs; exact ⟨⟨by simp, mSl_set hq (by simp)⟩, rfl⟩) | cases hs
theorem mF3_eqs (hs : mF3 en i L st h = some g) : (g.2.2.2.length = h.length ∧ mSl g.2.2.2 = mSl h) ∧ g.2.1.length = L.length := by
  unfold mF3 at hs
  (repeat' split at hs) <;> first | (rename_i hq _; cases hs; exact ⟨⟨by simp, mSl_set hq (by simp)⟩, rfl⟩) | (rename_i hq _ _; cases hs; exact ⟨⟨by simp, mSl_set hq (by simp)⟩, rfl⟩) | (rename_i hq _ _ _; cases hs; exact ⟨⟨by simp, mSl_set hq (by simp)⟩, rfl⟩) | (rename_i hq _ _ _ _; cases hs; exact ⟨⟨by simp, mSl_set hq (by simp)⟩, rfl⟩) | cases hs
theorem mG2_eqs (hs : mG2 en i L st h = some g) : (g.2.2.2.length = h.length ∧ mSl g.2.2.2 = mSl h) ∧ g.2.1.length = L.length := by
  unfold mG2 at hs
  (repeat' split at hs) <;> first | (cases hs; exact ⟨⟨rfl, rfl⟩, rfl⟩) | (rename_i hq _ _; cases hs; exact ⟨⟨by simp, mSl_set hq (by simp [mCpy])⟩, rfl⟩) | (rename_i hq _; cases hs; exact ⟨⟨by simp, mSl_set hq (by simp [mCpy])⟩, rfl⟩) | cases hs
theorem mN1_eqs (hs : mN1 en i L st h = some g) : g.2.2.2.length = h.length + 1 ∧ g.2.1.length = L.length := by
  unfold mN1 at hs
  (repeat' split at hs) <;> first | (cases hs; exact ⟨by simp, rfl⟩) | cases hs
theorem mG1_eqs (hs : mG1 tab call en i L st h = some g) : g.2.1.length = L.length := by
  unfold mG1 at hs
  split at hs
  · split at hs
    · split at hs
      · split at hs
        · cases hs; rfl
        · cases hs
      · cases hs
    · cases hs
  · cases hs
theorem mStep_up (hc : ∀ k av h0 r, call k av h0 = some r → mUp h0 r.2) {g0 : mG} (hs : mStep tab xs call en g0 = some g) : mUp g0.2.2.2 g.2.2.2 := by
  unfold mStep at hs
  simp only [Option.or_eq_some_iff] at hs
  rcases hs with h | ⟨-, h | ⟨-, h | ⟨-, h | ⟨-, h | ⟨-, h | ⟨-, h | ⟨-, h | ⟨-, h | ⟨-, h | ⟨-, h⟩⟩⟩⟩⟩⟩⟩⟩⟩⟩
  · exact mA1_up h
  · exact mB1_up h
  · exact mB3_up h
  · exact mF1_up h
  · exact mG1_up hc h
  · exact mF2_up h
  · exact mF3_up h
  · exact mA2_up h
  · exact mB2_up h
  · exact mN1_up h
  · exact mG2_up h
theorem mRt_h {rt : Option FieldType} {r : mR} (hs : mRt rt en st h = some r) : r.2 = h := by
  unfold mRt at hs
  (repeat' split at hs) <;> first | (cases hs; rfl) | cases hs
theorem mRun_up (hc : ∀ k av h0 r, call k av h0 = some r → mUp h0 r.2) {rt : Option FieldType} {cs : List mE} : ∀ (n : Nat) (g : mG) (r : mR), mRun tab xs call rt cs n g = some r → mUp g.2.2.2 r.2 := by
  intro n
  induction n with
  | zero => intro g r h; cases h
  | succ n ih =>
    intro g r hs
    unfold mRun at hs
    split at hs
    · cases hs
    · split at hs
      · rename_i hr
        cases hs
        rw [mRt_h hr]
        exact mUp.rf _
      · split at hs
        · rename_i g1 hg
          exact (mStep_up hc hg).tr (ih g1 r hs)
        · cases hs
theorem mEval_up : ∀ (d n k : Nat) (av : List Value) (h0 : mH) (r : mR), mEval tab xs d n k av h0 = some r → mUp h0 r.2 := by
  intro d
  induction d with
  | zero => intro n k av h0 r h; cases h
  | succ d ih =>
    intro n k av h0 r hs
    unfold mEval at hs
    split at hs
    · exact mRun_up (fun k av h0 r h => ih n k av h0 r h) n _ r hs
    · cases hs
end MUP
/-- what a place of a method's code must be -/
noncomputable def mSwi : Instr → Bool
  | .tableswitch .. => true
  | .lookupswitch .. => true
  | _ => false
noncomputable def mFal : Instr → Bool
  | .tableswitch .. => false
  | .lookupswitch .. => false
  | .goto _ => false
  | .ireturn => false
  | .lreturn => false
  | .areturn => false
  | .return_ => false
  | _ => true
noncomputable def mLnkK (own : String) (en : mE) : Bool := match en.2.1 with
  | .ldc idx => mHas (mTgt en 4) (.constant own idx (Int32.ofInt (en.2.2.2.getD 1 0)))
  | .ldc_w idx => mHas (mTgt en 4) (.constant own idx (Int32.ofInt (en.2.2.2.getD 1 0)))
  | .ldc2_w idx => mHas (mTgt en 4) (.constantLong own idx (Int64.ofInt (en.2.2.2.getD 1 0)))
  | _ => true
noncomputable def mEok (tab : List mM) (own : String) (ini : Bool) (bs : ByteArray) (cs : List mE) (i : Nat) (en : mE) : Bool :=
  decide (decode bs en.1 = .ok (en.2.1, en.2.2.1)) && ((mSwi en.2.1 || decide (en.2.2.1 = mLen en.2.1)) && ((!mFal en.2.1 || decide (mPcAt cs (i + 1) = en.1 + mLen en.2.1)) && (mJok cs i en && (mLnkF own ini en && (mLnkS own en && (mLnkN own en && (mLnkC tab own en && mLnkK own en)))))))
noncomputable def mCok (tab : List mM) (own : String) (ini : Bool) (bs : ByteArray) (cs : List mE) : Bool := cs.zipIdx.all (fun q => mEok tab own ini bs cs q.2 q.1)
theorem mCok_at {tab : List mM} {own : String} {ini : Bool} {bs : ByteArray} {cs : List mE} (h : mCok tab own ini bs cs = true) {i : Nat} {en : mE} (he : cs[i]? = some en) : mEok tab own ini bs cs i en = true :=
  List.all_eq_true.mp h (en, i) (List.mem_zipIdx_iff_getElem?.mpr he)
/-- how a method may end -/
noncomputable def mEnd (rt : Option FieldType) (v : Option Value) (ins : Instr) : Prop := match ins with
  | .ireturn => ∃ z ty, v = some (.int z) ∧ rt = some ty ∧ narrow ty (.int z) = .int z
  | .lreturn => ∃ z, v = some (.long z) ∧ rt = some .long
  | .areturn => ∃ z C, v = some z ∧ rt = some (.object C) ∧ mIsA z = true
  | .return_ => v = none ∧ rt = none
  | _ => False
theorem mRt_end {rt : Option FieldType} {en : mE} {st : List Value} {h : mH} {r : mR} (hs : mRt rt en st h = some r) : mEnd rt r.1 en.2.1 ∧ st = r.1.toList := by
  unfold mRt at hs
  split at hs
  · rename_i heq
    split at hs
    · rename_i v
      split at hs
      · rename_i ty
        split at hs
        · rename_i hn
          cases hs
          rw [heq]
          exact ⟨⟨v, ty, rfl, rfl, hn⟩, rfl⟩
        · cases hs
      · cases hs
    · cases hs
  · rename_i heq
    split at hs
    · rename_i v
      split at hs
      · rename_i hn
        cases hs
        rw [heq]
        exact ⟨⟨v, rfl, hn⟩, rfl⟩
      · cases hs
    · cases hs
  · rename_i heq
    split at hs
    · rename_i v
      split at hs
      · rename_i C
        split at hs
        · rename_i hn
          cases hs
          rw [heq]
          exact ⟨⟨v, C, rfl, rfl, hn⟩, rfl⟩
        · cases hs
      · cases hs
    · cases hs
  · rename_i heq
    split at hs
    · split at hs
      · rename_i hn
        cases hs
        rw [heq]
        exact ⟨⟨rfl, hn⟩, rfl⟩
      · cases hs
    · cases hs
  · cases hs
section MSIM
variable {p : Program} {l : Launch} {e : Env} {R : Room} {s : State} {m : MethodId} {args : Array Value} {below : List Frame} {meth : Method} {c : Code} {Q : State → Prop}
variable {cc : ByteArray} {cs : List mE} {b : Nat} {x : Nat → Nat} {xs : Nat → List Int32} {D : va_G} {cA : Nat → ClassId} {own : String} {ini : Bool} {tab : List mM} {call : Nat → List Value → mH → Option mR} {d : Nat} {rt : Option FieldType} {nL : Nat}
set_option maxHeartbeats 4000000 in
theorem mRun_sim (hx : p.tables.exec = Jvm.exec) (hb : c.code = cc) (hml : c.maxLocals = nL) (hown : s.vm.findClass own = some m.cls) (hin : ini = true → meth.name = "<init>") (hts : ∀ w ∈ mW, w.before args s = true) (hE : mEv D cA b x xs s) (hbs : b ≤ s.heap.size)
    (hcs : mCok tab own ini cc cs = true) (htab : ∀ (k : Nat) (t : mM), tab[k]? = some t → mMok t = true)
    (hcall : ∀ (k : Nat) (t : mM) (av : List Value) (h0 : mH) (r : mR), tab[k]? = some t → (mEnt av).length ≤ mMX t → call k av h0 = some r → mMet l D cA b x xs d t av h0 r) (hcu : ∀ k av h0 r, call k av h0 = some r → mUp h0 r.2)
    (hRf : d + 1 ≤ R.frames ∧ 60 * (d + 1) ≤ R.locals) (h0 : mH) (r : mR) (hRc : r.2.length - h0.length ≤ R.cells) (hRs : mSl r.2 - mSl h0 ≤ R.slots)
    (hret : ∀ (H1 : Heap) (locs1 : List Loc) (pc : Nat) (ls : Array Slot) (ins : Instr), mRel D cA b x r.2 H1 → va_S (fun q => b ≤ q) s.heap H1 locs1 → decode cc pc = .ok (ins, 1) → mEnd rt r.1 ins → W p l e R s m args below meth c H1 locs1 (r.2.length - h0.length) (mSl r.2 - mSl h0) Q (F0 m pc ls ((r.1.map (mSh b x)).toList))) :
    ∀ (n : Nat) (g : mG), mRun tab xs call rt cs n g = some r → g.2.1.length = nL → mUp h0 g.2.2.2 → ∀ (H : Heap) (locs : List Loc), mRel D cA b x g.2.2.2 H → va_S (fun q => b ≤ q) s.heap H locs → mFol p l e R s m args below meth c cs (mSh b x) Q H locs (g.2.2.2.length - h0.length) (mSl g.2.2.2 - mSl h0) g := by
  intro n
  induction n with
  | zero => intro g h; cases h
  | succ n ih =>
    intro g hs hL hu H locs hR hS
    have hs0 := hs
    unfold mRun at hs
    split at hs
    · cases hs
    · rename_i en hen
      have hok := mCok_at hcs hen
      unfold mEok at hok
      simp only [Bool.and_eq_true, Bool.or_eq_true, decide_eq_true_eq] at hok
      obtain ⟨k1, k2, k3, k4, k5, k6, k7, k8, k9⟩ := hok
      have hpc : mPcAt cs g.1 = en.1 := by unfold mPcAt; rw [hen]
      rw [← hpc] at k1 k3
      split at hs
      · rename_i r0 hr
        cases hs
        obtain ⟨e1, e2⟩ := mRt_end hr
        have e3 := mRt_h hr
        have hins : en.2.2.1 = 1 := by
          rcases k2 with k2 | k2
          · exfalso
            cases hi : en.2.1 <;> rw [hi] at k2 e1 <;> first | exact e1 | cases k2
          · rw [k2]
            cases hi : en.2.1 <;> rw [hi] at e1 <;> first | rfl | exact e1.elim
        rw [hins] at k1
        intro ls hl
        rw [e2, show r.1.toList.map (mSh b x) = (r.1.map (mSh b x)).toList by cases r.1 <;> rfl, ← e3]
        rw [← e3] at hR
        exact hret H locs _ ls _ hR hS k1 e1
      · split at hs
        · rename_i g1 hg
          have hup := mStep_up hcu hg
          have hup2 := mRun_up hcu n g1 r hs
          have hu1 := hu.tr hup
          obtain ⟨u1, u2⟩ := hu
          obtain ⟨u3, u4⟩ := hup
          obtain ⟨u5, u6⟩ := hup2
          have ih1 := ih g1 hs
          obtain ⟨i, L, st, h⟩ := g
          dsimp only at hL u1 u2 u3 u4 hR hpc k1 k3 k4 hg ⊢
          have fal : mFal en.2.1 = true → mPcAt cs (i + 1) = mPcAt cs i + mLen en.2.1 := fun hq => by
            rcases k3 with k3 | k3
            · rw [hq] at k3; cases k3
            · exact k3
          have nsw : mSwi en.2.1 = false → decode cc (mPcAt cs i) = .ok (en.2.1, mLen en.2.1) := fun hq => by
            rcases k2 with k2 | k2
            · rw [hq] at k2; cases k2
            · rw [← k2]; exact k1
          unfold mStep at hg
          simp only [Option.or_eq_some_iff] at hg
          rcases hg with hg | ⟨-, hg | ⟨-, hg | ⟨-, hg | ⟨-, hg | ⟨-, hg | ⟨-, hg | ⟨-, hg | ⟨-, hg | ⟨-, hg | ⟨-, hg⟩⟩⟩⟩⟩⟩⟩⟩⟩⟩
          · have hf : mFal en.2.1 = true ∧ mSwi en.2.1 = false := by
              unfold mA1 at hg
              split at hg <;> first | (rename_i heq; rw [heq]; exact ⟨rfl, rfl⟩) | cases hg
            have hh := mA1_eqs hg
            have ih2 := ih1 (hh.2.trans hL) hu1 H locs (by rw [hh.1]; exact hR) hS
            rw [hh.1] at ih2
            exact (mA1_sim (p := p) (l := l) (e := e) (R := R) (s := s) (m := m) (args := args) (below := below) (meth := meth) (c := c) (H := H) (locs := locs) (cells := h.length - h0.length) (slots := mSl h - mSl h0) (Q := Q) (b := b) (x := x) (cs := cs) hx hb trivial (nsw hf.2) (fal hf.1) (fun idx => ⟨fun hi => ⟨own, hown, by
              unfold mLnkK at k9
              rcases hi with hi | hi <;> rw [hi] at k9 <;> exact hts _ (mHas_ok k9)⟩, fun hi => ⟨own, hown, by
              unfold mLnkK at k9
              rw [hi] at k9
              exact hts _ (mHas_ok k9)⟩⟩) hg ih2).1
          · have hf : mFal en.2.1 = true ∧ mSwi en.2.1 = false := by
              unfold mB1 at hg
              split at hg <;> first | (rename_i heq; rw [heq]; exact ⟨rfl, rfl⟩) | cases hg
            have hh := mB1_eqs hg
            have ih2 := ih1 (hh.2.trans hL) hu1 H locs (by rw [hh.1]; exact hR) hS
            rw [hh.1] at ih2
            exact (mB1_sim (p := p) (l := l) (e := e) (R := R) (s := s) (m := m) (args := args) (below := below) (meth := meth) (c := c) (H := H) (locs := locs) (cells := h.length - h0.length) (slots := mSl h - mSl h0) (Q := Q) (b := b) (x := x) (cs := cs) hx hb (nsw hf.2) (fal hf.1) hg ih2).1
          · have hh := mB3_eqs hg
            have ih2 := ih1 (hh.2.trans hL) hu1 H locs (by rw [hh.1]; exact hR) hS
            rw [hh.1] at ih2
            refine (mB3_sim (p := p) (l := l) (e := e) (R := R) (s := s) (m := m) (args := args) (below := below) (meth := meth) (c := c) (H := H) (locs := locs) (cells := h.length - h0.length) (slots := mSl h - mSl h0) (Q := Q) (b := b) (x := x) (cs := cs) hx hb k1 ?_ ?_ k4 hg ih2).1
            · rcases k2 with k2 | k2
              · refine Or.inr ?_
                cases hi : en.2.1 <;> rw [hi] at k2 <;> first | exact Or.inl ⟨_, _, _, _, rfl⟩ | exact Or.inr ⟨_, _, rfl⟩ | cases k2
              · exact Or.inl k2
            · intro hq
              refine fal ?_
              rcases hq with ⟨_, _, hq⟩ | ⟨_, _, hq⟩ | ⟨_, hq⟩ | ⟨_, hq⟩ <;> rw [hq] <;> rfl
          · have hf : mFal en.2.1 = true ∧ mSwi en.2.1 = false := by
              unfold mF1 at hg
              split at hg <;> first | (rename_i heq; rw [heq]; exact ⟨rfl, rfl⟩) | cases hg
            have hh := mF1_eqs hg
            refine (mF1_sim (p := p) (l := l) (e := e) (R := R) (s := s) (m := m) (args := args) (below := below) (meth := meth) (c := c) (H := H) (locs := locs) (cells := h.length - h0.length) (slots := mSl h - mSl h0) (Q := Q) (b := b) (x := x) (cs := cs) (ini := ini) hx hb hown hin hts hE.1 hE.2.2.2.2.1 hR hS (nsw hf.2) (fal hf.1) k5 hg fun H1 locs1 q1 q2 => ?_).1
            have ih2 := ih1 (hh.2.trans hL) hu1 H1 locs1 q1 q2
            rw [hh.1.1, hh.1.2] at ih2
            exact ih2
          · have hf : mFal en.2.1 = true ∧ mSwi en.2.1 = false := by
              unfold mG1 at hg
              split at hg
              · rename_i hq
                cases hi : en.2.1 <;> rw [hi] at hq <;> first | exact ⟨rfl, rfl⟩ | cases hq.1
              · cases hg
            have hh := mG1_eqs hg
            refine (mG1_sim (p := p) (l := l) (e := e) (R := R) (s := s) (m := m) (args := args) (below := below) (meth := meth) (c := c) (H := H) (locs := locs) (cells := h.length - h0.length) (slots := mSl h - mSl h0) (Q := Q) (b := b) (x := x) (cs := cs) (xs := xs) hx hb (hml.trans hL.symm) hown hts hE hR hS (nsw hf.2) (fal hf.1) k8 htab (fun k t av h1 r1 e1 e2 e3 => ⟨hcall k t av h1 r1 e1 e2 e3, hcu k av h1 r1 e3⟩) hRf hg (by omega) (by omega) fun H1 locs1 q1 q2 => ?_).1
            have ih2 := ih1 (hh.trans hL) hu1 H1 locs1 q1 q2
            rw [show h.length - h0.length + (g1.2.2.2.length - h.length) = g1.2.2.2.length - h0.length by omega, show mSl h - mSl h0 + (mSl g1.2.2.2 - mSl h) = mSl g1.2.2.2 - mSl h0 by omega]
            exact ih2
          · have hf : mFal en.2.1 = true ∧ mSwi en.2.1 = false := by
              unfold mF2 at hg
              split at hg <;> first | (rename_i heq; rw [heq]; exact ⟨rfl, rfl⟩) | cases hg
            have hh := mF2_eqs hg
            have ih2 := ih1 (hh.2.trans hL) hu1 H locs (by rw [hh.1]; exact hR) hS
            rw [hh.1] at ih2
            exact (mF2_sim (p := p) (l := l) (e := e) (R := R) (s := s) (m := m) (args := args) (below := below) (meth := meth) (c := c) (H := H) (locs := locs) (cells := h.length - h0.length) (slots := mSl h - mSl h0) (Q := Q) (b := b) (x := x) (cs := cs) (xs := xs) hx hb hown hts hE hR hS (nsw hf.2) (fal hf.1) k6 hg ih2).1
          · have hf : mFal en.2.1 = true ∧ mSwi en.2.1 = false := by
              unfold mF3 at hg
              split at hg <;> first | (rename_i heq; rw [heq]; exact ⟨rfl, rfl⟩) | cases hg
            have hh := mF3_eqs hg
            refine (mF3_sim (p := p) (l := l) (e := e) (R := R) (s := s) (m := m) (args := args) (below := below) (meth := meth) (c := c) (H := H) (locs := locs) (cells := h.length - h0.length) (slots := mSl h - mSl h0) (Q := Q) (b := b) (x := x) (cs := cs) hx hb hE.1 hR hS (nsw hf.2) (fal hf.1) hg fun H1 locs1 q1 q2 => ?_).1
            have ih2 := ih1 (hh.2.trans hL) hu1 H1 locs1 q1 q2
            rw [hh.1.1, hh.1.2] at ih2
            exact ih2
          · have hf : mFal en.2.1 = true ∧ mSwi en.2.1 = false := by
              unfold mA2 at hg
              split at hg <;> first | (rename_i heq; rw [heq]; exact ⟨rfl, rfl⟩) | cases hg
            have hh := mA2_eqs hg
            have ih2 := ih1 (hh.2.trans hL) hu1 H locs (by rw [hh.1]; exact hR) hS
            rw [hh.1] at ih2
            exact (mA2_sim (p := p) (l := l) (e := e) (R := R) (s := s) (m := m) (args := args) (below := below) (meth := meth) (c := c) (H := H) (locs := locs) (cells := h.length - h0.length) (slots := mSl h - mSl h0) (Q := Q) (b := b) (x := x) (cs := cs) hx hb (nsw hf.2) (fal hf.1) hg ih2).1
          · have hf : mFal en.2.1 = true ∧ mSwi en.2.1 = false := by
              unfold mB2 at hg
              split at hg <;> first | (rename_i heq; rw [heq]; exact ⟨rfl, rfl⟩) | cases hg
            have hh := mB2_eqs hg
            have ih2 := ih1 (hh.2.trans hL) hu1 H locs (by rw [hh.1]; exact hR) hS
            rw [hh.1] at ih2
            exact (mB2_sim (p := p) (l := l) (e := e) (R := R) (s := s) (m := m) (args := args) (below := below) (meth := meth) (c := c) (H := H) (locs := locs) (cells := h.length - h0.length) (slots := mSl h - mSl h0) (Q := Q) (b := b) (x := x) (cs := cs) hx hb (nsw hf.2) (fal hf.1) hg ih2).1
          · have hf : mFal en.2.1 = true ∧ mSwi en.2.1 = false := by
              unfold mN1 at hg
              split at hg <;> first | (rename_i heq; rw [heq]; exact ⟨rfl, rfl⟩) | cases hg
            have hh := mN1_eqs hg
            refine (mN1_sim (p := p) (l := l) (e := e) (R := R) (s := s) (m := m) (args := args) (below := below) (meth := meth) (c := c) (H := H) (locs := locs) (cells := h.length - h0.length) (slots := mSl h - mSl h0) (Q := Q) (b := b) (x := x) (cs := cs) (xs := xs) hx hb hown hts hE hbs hR hS (nsw hf.2) (fal hf.1) k7 hg (by omega) (by omega) fun H1 q1 q2 => ?_).1
            have ih2 := ih1 (hh.2.trans hL) hu1 H1 locs q1 q2
            rw [show h.length - h0.length + 1 = g1.2.2.2.length - h0.length by omega, show mSl h - mSl h0 + (mSl g1.2.2.2 - mSl h) = mSl g1.2.2.2 - mSl h0 by omega]
            exact ih2
          · have hf : mFal en.2.1 = true ∧ mSwi en.2.1 = false := by
              unfold mG2 at hg
              split at hg <;> first | (rename_i heq; rw [heq]; exact ⟨rfl, rfl⟩) | cases hg
            have hh := mG2_eqs hg
            refine (mG2_sim (p := p) (l := l) (e := e) (R := R) (s := s) (m := m) (args := args) (below := below) (meth := meth) (c := c) (H := H) (locs := locs) (cells := h.length - h0.length) (slots := mSl h - mSl h0) (Q := Q) (b := b) (x := x) (cs := cs) (xs := xs) (tab := tab) hx hb (hml.trans hL.symm) hown hts hE hR hS (nsw hf.2) (fal hf.1) k8 hRf hg fun H1 locs1 q1 q2 => ?_).1
            have ih2 := ih1 (hh.2.trans hL) hu1 H1 locs1 q1 q2
            rw [hh.1.1, hh.1.2] at ih2
            exact ih2
        · cases hs
end MSIM
