/-! a method's own word by a quicker comparison of bytes -/
noncomputable def uEq : List UInt8 → List UInt8 → Bool
  | [], [] => true
  | x :: xs, y :: ys => Nat.beq x.toNat y.toNat && uEq xs ys
  | _, _ => false
theorem uEq_ok : ∀ {a b : List UInt8}, uEq a b = true → a = b
  | [], [], _ => rfl
  | x :: xs, y :: ys, h => by
    unfold uEq at h
    rw [Bool.and_eq_true] at h
    rw [UInt8.toNat_inj.mp (Nat.eq_of_beq_eq_true h.1), uEq_ok h.2]
  | [], _ :: _, h => by cases h
  | _ :: _, [], h => by cases h
noncomputable def bEq (a b : ByteArray) : Bool := uEq a.data.toList b.data.toList
theorem bEq_ok {a b : ByteArray} (h : bEq a b = true) : a = b := by
  obtain ⟨⟨a⟩⟩ := a
  obtain ⟨⟨b⟩⟩ := b
  have e : a = b := uEq_ok h
  rw [e]
noncomputable def mHasC (wi : Nat) (y : MethodName) (bs : ByteArray) (mx : Nat) (rt : Option FieldType) : Bool := match qzgo lw_tbl wi with
  | some (.code y1 b1 m1 r1) => decide (y1 = y) && (bEq b1 bs && (decide (m1 = mx) && decide (r1 = rt)))
  | _ => false
theorem mHasC_ok {wi : Nat} {y : MethodName} {bs : ByteArray} {mx : Nat} {rt : Option FieldType} (h : mHasC wi y bs mx rt = true) : lw_tbl[wi]? = some (.code y bs mx rt) := by
  unfold mHasC at h
  split at h
  · rename_i y1 b1 m1 r1 e
    simp only [Bool.and_eq_true, decide_eq_true_eq] at h
    rw [← qzgo_eq, e, h.1, bEq_ok h.2.1, h.2.2.1, h.2.2.2]
  · cases h
noncomputable def mMokR (t : mM) : Bool := mHas ((mMW t).getD 1 0) (.initialized (mMY t).cls) && (decide ((mMY t).cls ≠ "java/lang/invoke/MethodHandle" ∧ (mMY t).cls ≠ "java/lang/invoke/VarHandle" ∧ (parseMethodDescriptor (mMY t).desc).map (fun d => d.parameters.length) = some (mMN t) ∧ mMX t ≤ 41) &&
  (if mMK t = 0 then mHas ((mMW t).getD 2 0) (.static (mMY t)) else if mMK t = 1 then mHas ((mMW t).getD 2 0) (.instanceMethod (mMY t)) && mHas ((mMW t).getD 3 0) (.selects (mMY t).cls (mMY t) (mMY t)) else mHas ((mMW t).getD 2 0) (.instanceMethod (mMY t)) && decide ((mMY t).name = "<init>" ∧ mMT t = none ∧ mMK t = 2)))
noncomputable def mMokF (t : mM) : Bool := mHasC ((mMW t).getD 0 0) (mMY t) (mMB t) (mMX t) (mMT t) && (goodWord (.code (mMY t) (mMB t) (mMX t) (mMT t)) && mMokR t)
theorem mMokF_ok {t : mM} (h : mMokF t = true) : mMok t = true := by
  unfold mMokF at h
  rw [Bool.and_eq_true, Bool.and_eq_true] at h
  show (mHas ((mMW t).getD 0 0) (.code (mMY t) (mMB t) (mMX t) (mMT t)) && mMokR t) = true
  rw [Bool.and_eq_true]
  refine ⟨?_, h.2.2⟩
  unfold mHas
  rw [decide_eq_true ((qzgo_eq _ _).trans (mHasC_ok h.1)), Bool.true_and]
  exact h.2.1
noncomputable def mTokF (tab : List mM) (t : mM) : Bool := mMokF t && (mCok tab (mMY t).cls (decide ((mMY t).name = "<init>")) (mMB t) (mMC t) && (plainFor (mMY t) && decide (mPcAt (mMC t) 0 = 0)))
theorem mTokF_ok {tab : List mM} {t : mM} (h : mTokF tab t = true) : mTok tab t = true := by
  unfold mTokF at h
  rw [Bool.and_eq_true] at h
  unfold mTok
  rw [Bool.and_eq_true]
  exact ⟨mMokF_ok h.1, h.2⟩
