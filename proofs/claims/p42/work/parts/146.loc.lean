/-! decode reads no bytes but those of its instruction: it may be asked over a short piece of the code -/
section LOC
variable {A B : ByteArray} {o : Nat} {α β : Type}
def lcR (A B : ByteArray) (o : Nat) {α : Type} (r r' : Jvm.ClassFile.Decoder α) : Prop := ∀ q x q', r B q = .ok (x, q') → r' A (q + o) = .ok (x, q' + o)
def lcH (A B : ByteArray) (o : Nat) : Prop := o % 4 = 0 ∧ B.size + o ≤ A.size ∧ ∀ q (h : q < B.size) (h' : q + o < A.size), A[q + o] = B[q]
theorem lc_pure (x : α) : lcR A B o (pure x) (pure x) := by
  intro q y q' h
  cases h
  rfl
theorem lc_thr (e : Jvm.ClassFile.DecodeError) (r : Jvm.ClassFile.Decoder α) : lcR A B o (throw e) r := by
  intro q y q' h
  cases h
theorem lc_bind {r r' : Jvm.ClassFile.Decoder α} {f f' : α → Jvm.ClassFile.Decoder β} (h1 : lcR A B o r r') (h2 : ∀ x, lcR A B o (f x) (f' x)) : lcR A B o (r >>= f) (r' >>= f') := by
  intro q y q' h
  have h : Except.bind (r B q) (fun v => f v.1 B v.2) = .ok (y, q') := h
  show Except.bind (r' A (q + o)) (fun v => f' v.1 A v.2) = _
  cases e1 : r B q with
  | error e =>
    rw [e1] at h
    cases h
  | ok p =>
    obtain ⟨x, q1⟩ := p
    rw [e1] at h
    rw [h1 q x q1 e1]
    exact h2 x q1 y q' h
theorem lc_map {r r' : Jvm.ClassFile.Decoder α} {g : α → β} (h1 : lcR A B o r r') : lcR A B o (g <$> r) (g <$> r') := by
  intro q y q' h
  have h : Except.bind (r B q) (fun v => .ok (g v.1, v.2)) = .ok (y, q') := h
  show Except.bind (r' A (q + o)) (fun v => .ok (g v.1, v.2)) = _
  cases e1 : r B q with
  | error e =>
    rw [e1] at h
    cases h
  | ok p =>
    obtain ⟨x, q1⟩ := p
    rw [e1] at h
    cases h
    rw [h1 q x q1 e1]
    rfl
theorem u1_eq (C : ByteArray) (p : Nat) : (Jvm.ClassFile.Reader.u1 : Jvm.ClassFile.Decoder Nat) C p = if hh : p < C.size then .ok (C[p].toNat, p + 1) else .error (.truncated p) := by
  unfold Jvm.ClassFile.Reader.u1
  by_cases hh : p < C.size
  · rw [dif_pos hh]
    show (dite (p < C.size) (fun hh => (do set (p + 1); pure C[p].toNat : Jvm.ClassFile.Decoder Nat)) (fun _ => throw (Jvm.ClassFile.HasTruncated.truncated p))) C p = _
    rw [dif_pos hh]
    rfl
  · rw [dif_neg hh]
    show (dite (p < C.size) (fun hh => (do set (p + 1); pure C[p].toNat : Jvm.ClassFile.Decoder Nat)) (fun _ => throw (Jvm.ClassFile.HasTruncated.truncated p))) C p = _
    rw [dif_neg hh]
    rfl
theorem lc_u1 (H : lcH A B o) : lcR A B o Jvm.ClassFile.Reader.u1 Jvm.ClassFile.Reader.u1 := by
  intro q x q' h
  rw [u1_eq] at h
  rw [u1_eq]
  have H2 := H.2.1
  by_cases hq : q < B.size
  · rw [dif_pos hq] at h
    rw [dif_pos (show q + o < A.size by omega), H.2.2 q hq (by omega)]
    cases h
    rw [show q + 1 + o = q + o + 1 by omega]
  · rw [dif_neg hq] at h
    cases h
theorem lc_u2 (H : lcH A B o) : lcR A B o Jvm.ClassFile.Reader.u2 Jvm.ClassFile.Reader.u2 := lc_bind (lc_u1 H) (fun _ => lc_bind (lc_u1 H) (fun _ => lc_pure _))
theorem lc_u4 (H : lcH A B o) : lcR A B o Jvm.ClassFile.Reader.u4 Jvm.ClassFile.Reader.u4 := lc_bind (lc_u2 H) (fun _ => lc_bind (lc_u2 H) (fun _ => lc_pure _))
theorem lc_s1 (H : lcH A B o) : lcR A B o Jvm.ClassFile.Reader.s1 Jvm.ClassFile.Reader.s1 := lc_map (lc_u1 H)
theorem lc_s2 (H : lcH A B o) : lcR A B o Jvm.ClassFile.Reader.s2 Jvm.ClassFile.Reader.s2 := lc_map (lc_u2 H)
theorem lc_s4 (H : lcH A B o) : lcR A B o Jvm.ClassFile.Reader.s4 Jvm.ClassFile.Reader.s4 := lc_map (lc_u4 H)
theorem lc_new (H : lcH A B o) (p1 p2 : Nat) : lcR A B o (Jvm.ClassFile.Decoder.newarray p1) (Jvm.ClassFile.Decoder.newarray p2) := by
  refine lc_bind (lc_u1 H) (fun x => ?_)
  split <;> first | exact lc_pure _ | exact lc_thr _ _
def lcK (A B : ByteArray) (o k : Nat) (r r' : Jvm.ClassFile.Decoder Instr) : Prop := ∀ q x q' (h : q < B.size), B[q].toNat = k → r B q = .ok (x, q') → r' A (q + o) = .ok (x, q' + o)
theorem lc_bk {f f' : Nat → Jvm.ClassFile.Decoder Instr} (H : lcH A B o) (k : Nat) (h2 : lcR A B o (f k) (f' k)) : lcK A B o k (Jvm.ClassFile.Reader.u1 >>= f) (Jvm.ClassFile.Reader.u1 >>= f') := by
  intro q y q' hq hk h
  have h : Except.bind (Jvm.ClassFile.Reader.u1 B q) (fun v => f v.1 B v.2) = .ok (y, q') := h
  show Except.bind (Jvm.ClassFile.Reader.u1 A (q + o)) (fun v => f' v.1 A v.2) = _
  have e1 : (Jvm.ClassFile.Reader.u1 : Jvm.ClassFile.Decoder Nat) B q = .ok (k, q + 1) := by rw [u1_eq, dif_pos hq, hk]
  rw [e1] at h
  rw [lc_u1 H q k (q + 1) e1]
  exact h2 (q + 1) y q' h
theorem lc_op0 (H : lcH A B o) (p1 p2 : Nat) : lcK A B o 0 (Jvm.ClassFile.Decoder.instr p1) (Jvm.ClassFile.Decoder.instr p2) := lc_bk H 0 (lc_pure _)
theorem lc_op1 (H : lcH A B o) (p1 p2 : Nat) : lcK A B o 1 (Jvm.ClassFile.Decoder.instr p1) (Jvm.ClassFile.Decoder.instr p2) := lc_bk H 1 (lc_pure _)
theorem lc_op2 (H : lcH A B o) (p1 p2 : Nat) : lcK A B o 2 (Jvm.ClassFile.Decoder.instr p1) (Jvm.ClassFile.Decoder.instr p2) := lc_bk H 2 (lc_pure _)
theorem lc_op3 (H : lcH A B o) (p1 p2 : Nat) : lcK A B o 3 (Jvm.ClassFile.Decoder.instr p1) (Jvm.ClassFile.Decoder.instr p2) := lc_bk H 3 (lc_pure _)
theorem lc_op4 (H : lcH A B o) (p1 p2 : Nat) : lcK A B o 4 (Jvm.ClassFile.Decoder.instr p1) (Jvm.ClassFile.Decoder.instr p2) := lc_bk H 4 (lc_pure _)
theorem lc_op5 (H : lcH A B o) (p1 p2 : Nat) : lcK A B o 5 (Jvm.ClassFile.Decoder.instr p1) (Jvm.ClassFile.Decoder.instr p2) := lc_bk H 5 (lc_pure _)
theorem lc_op6 (H : lcH A B o) (p1 p2 : Nat) : lcK A B o 6 (Jvm.ClassFile.Decoder.instr p1) (Jvm.ClassFile.Decoder.instr p2) := lc_bk H 6 (lc_pure _)
theorem lc_op7 (H : lcH A B o) (p1 p2 : Nat) : lcK A B o 7 (Jvm.ClassFile.Decoder.instr p1) (Jvm.ClassFile.Decoder.instr p2) := lc_bk H 7 (lc_pure _)
theorem lc_op8 (H : lcH A B o) (p1 p2 : Nat) : lcK A B o 8 (Jvm.ClassFile.Decoder.instr p1) (Jvm.ClassFile.Decoder.instr p2) := lc_bk H 8 (lc_pure _)
theorem lc_op9 (H : lcH A B o) (p1 p2 : Nat) : lcK A B o 9 (Jvm.ClassFile.Decoder.instr p1) (Jvm.ClassFile.Decoder.instr p2) := lc_bk H 9 (lc_pure _)
theorem lc_op10 (H : lcH A B o) (p1 p2 : Nat) : lcK A B o 10 (Jvm.ClassFile.Decoder.instr p1) (Jvm.ClassFile.Decoder.instr p2) := lc_bk H 10 (lc_pure _)
theorem lc_op11 (H : lcH A B o) (p1 p2 : Nat) : lcK A B o 11 (Jvm.ClassFile.Decoder.instr p1) (Jvm.ClassFile.Decoder.instr p2) := lc_bk H 11 (lc_pure _)
theorem lc_op12 (H : lcH A B o) (p1 p2 : Nat) : lcK A B o 12 (Jvm.ClassFile.Decoder.instr p1) (Jvm.ClassFile.Decoder.instr p2) := lc_bk H 12 (lc_pure _)
theorem lc_op13 (H : lcH A B o) (p1 p2 : Nat) : lcK A B o 13 (Jvm.ClassFile.Decoder.instr p1) (Jvm.ClassFile.Decoder.instr p2) := lc_bk H 13 (lc_pure _)
theorem lc_op14 (H : lcH A B o) (p1 p2 : Nat) : lcK A B o 14 (Jvm.ClassFile.Decoder.instr p1) (Jvm.ClassFile.Decoder.instr p2) := lc_bk H 14 (lc_pure _)
theorem lc_op15 (H : lcH A B o) (p1 p2 : Nat) : lcK A B o 15 (Jvm.ClassFile.Decoder.instr p1) (Jvm.ClassFile.Decoder.instr p2) := lc_bk H 15 (lc_pure _)
theorem lc_op16 (H : lcH A B o) (p1 p2 : Nat) : lcK A B o 16 (Jvm.ClassFile.Decoder.instr p1) (Jvm.ClassFile.Decoder.instr p2) := lc_bk H 16 (lc_bind (lc_s1 H) (fun _ => lc_pure _))
theorem lc_op17 (H : lcH A B o) (p1 p2 : Nat) : lcK A B o 17 (Jvm.ClassFile.Decoder.instr p1) (Jvm.ClassFile.Decoder.instr p2) := lc_bk H 17 (lc_bind (lc_s2 H) (fun _ => lc_pure _))
theorem lc_op18 (H : lcH A B o) (p1 p2 : Nat) : lcK A B o 18 (Jvm.ClassFile.Decoder.instr p1) (Jvm.ClassFile.Decoder.instr p2) := lc_bk H 18 (lc_bind (lc_u1 H) (fun _ => lc_pure _))
theorem lc_op19 (H : lcH A B o) (p1 p2 : Nat) : lcK A B o 19 (Jvm.ClassFile.Decoder.instr p1) (Jvm.ClassFile.Decoder.instr p2) := lc_bk H 19 (lc_bind (lc_u2 H) (fun _ => lc_pure _))
theorem lc_op20 (H : lcH A B o) (p1 p2 : Nat) : lcK A B o 20 (Jvm.ClassFile.Decoder.instr p1) (Jvm.ClassFile.Decoder.instr p2) := lc_bk H 20 (lc_bind (lc_u2 H) (fun _ => lc_pure _))
theorem lc_op21 (H : lcH A B o) (p1 p2 : Nat) : lcK A B o 21 (Jvm.ClassFile.Decoder.instr p1) (Jvm.ClassFile.Decoder.instr p2) := lc_bk H 21 (lc_bind (lc_u1 H) (fun _ => lc_pure _))
theorem lc_op22 (H : lcH A B o) (p1 p2 : Nat) : lcK A B o 22 (Jvm.ClassFile.Decoder.instr p1) (Jvm.ClassFile.Decoder.instr p2) := lc_bk H 22 (lc_bind (lc_u1 H) (fun _ => lc_pure _))
theorem lc_op23 (H : lcH A B o) (p1 p2 : Nat) : lcK A B o 23 (Jvm.ClassFile.Decoder.instr p1) (Jvm.ClassFile.Decoder.instr p2) := lc_bk H 23 (lc_bind (lc_u1 H) (fun _ => lc_pure _))
theorem lc_op24 (H : lcH A B o) (p1 p2 : Nat) : lcK A B o 24 (Jvm.ClassFile.Decoder.instr p1) (Jvm.ClassFile.Decoder.instr p2) := lc_bk H 24 (lc_bind (lc_u1 H) (fun _ => lc_pure _))
theorem lc_op25 (H : lcH A B o) (p1 p2 : Nat) : lcK A B o 25 (Jvm.ClassFile.Decoder.instr p1) (Jvm.ClassFile.Decoder.instr p2) := lc_bk H 25 (lc_bind (lc_u1 H) (fun _ => lc_pure _))
theorem lc_op26 (H : lcH A B o) (p1 p2 : Nat) : lcK A B o 26 (Jvm.ClassFile.Decoder.instr p1) (Jvm.ClassFile.Decoder.instr p2) := lc_bk H 26 (lc_pure _)
theorem lc_op27 (H : lcH A B o) (p1 p2 : Nat) : lcK A B o 27 (Jvm.ClassFile.Decoder.instr p1) (Jvm.ClassFile.Decoder.instr p2) := lc_bk H 27 (lc_pure _)
theorem lc_op28 (H : lcH A B o) (p1 p2 : Nat) : lcK A B o 28 (Jvm.ClassFile.Decoder.instr p1) (Jvm.ClassFile.Decoder.instr p2) := lc_bk H 28 (lc_pure _)
theorem lc_op29 (H : lcH A B o) (p1 p2 : Nat) : lcK A B o 29 (Jvm.ClassFile.Decoder.instr p1) (Jvm.ClassFile.Decoder.instr p2) := lc_bk H 29 (lc_pure _)
theorem lc_op30 (H : lcH A B o) (p1 p2 : Nat) : lcK A B o 30 (Jvm.ClassFile.Decoder.instr p1) (Jvm.ClassFile.Decoder.instr p2) := lc_bk H 30 (lc_pure _)
theorem lc_op31 (H : lcH A B o) (p1 p2 : Nat) : lcK A B o 31 (Jvm.ClassFile.Decoder.instr p1) (Jvm.ClassFile.Decoder.instr p2) := lc_bk H 31 (lc_pure _)
theorem lc_op32 (H : lcH A B o) (p1 p2 : Nat) : lcK A B o 32 (Jvm.ClassFile.Decoder.instr p1) (Jvm.ClassFile.Decoder.instr p2) := lc_bk H 32 (lc_pure _)
theorem lc_op33 (H : lcH A B o) (p1 p2 : Nat) : lcK A B o 33 (Jvm.ClassFile.Decoder.instr p1) (Jvm.ClassFile.Decoder.instr p2) := lc_bk H 33 (lc_pure _)
theorem lc_op34 (H : lcH A B o) (p1 p2 : Nat) : lcK A B o 34 (Jvm.ClassFile.Decoder.instr p1) (Jvm.ClassFile.Decoder.instr p2) := lc_bk H 34 (lc_pure _)
theorem lc_op35 (H : lcH A B o) (p1 p2 : Nat) : lcK A B o 35 (Jvm.ClassFile.Decoder.instr p1) (Jvm.ClassFile.Decoder.instr p2) := lc_bk H 35 (lc_pure _)
theorem lc_op36 (H : lcH A B o) (p1 p2 : Nat) : lcK A B o 36 (Jvm.ClassFile.Decoder.instr p1) (Jvm.ClassFile.Decoder.instr p2) := lc_bk H 36 (lc_pure _)
theorem lc_op37 (H : lcH A B o) (p1 p2 : Nat) : lcK A B o 37 (Jvm.ClassFile.Decoder.instr p1) (Jvm.ClassFile.Decoder.instr p2) := lc_bk H 37 (lc_pure _)
theorem lc_op38 (H : lcH A B o) (p1 p2 : Nat) : lcK A B o 38 (Jvm.ClassFile.Decoder.instr p1) (Jvm.ClassFile.Decoder.instr p2) := lc_bk H 38 (lc_pure _)
theorem lc_op39 (H : lcH A B o) (p1 p2 : Nat) : lcK A B o 39 (Jvm.ClassFile.Decoder.instr p1) (Jvm.ClassFile.Decoder.instr p2) := lc_bk H 39 (lc_pure _)
theorem lc_op40 (H : lcH A B o) (p1 p2 : Nat) : lcK A B o 40 (Jvm.ClassFile.Decoder.instr p1) (Jvm.ClassFile.Decoder.instr p2) := lc_bk H 40 (lc_pure _)
theorem lc_op41 (H : lcH A B o) (p1 p2 : Nat) : lcK A B o 41 (Jvm.ClassFile.Decoder.instr p1) (Jvm.ClassFile.Decoder.instr p2) := lc_bk H 41 (lc_pure _)
theorem lc_op42 (H : lcH A B o) (p1 p2 : Nat) : lcK A B o 42 (Jvm.ClassFile.Decoder.instr p1) (Jvm.ClassFile.Decoder.instr p2) := lc_bk H 42 (lc_pure _)
theorem lc_op43 (H : lcH A B o) (p1 p2 : Nat) : lcK A B o 43 (Jvm.ClassFile.Decoder.instr p1) (Jvm.ClassFile.Decoder.instr p2) := lc_bk H 43 (lc_pure _)
theorem lc_op44 (H : lcH A B o) (p1 p2 : Nat) : lcK A B o 44 (Jvm.ClassFile.Decoder.instr p1) (Jvm.ClassFile.Decoder.instr p2) := lc_bk H 44 (lc_pure _)
theorem lc_op45 (H : lcH A B o) (p1 p2 : Nat) : lcK A B o 45 (Jvm.ClassFile.Decoder.instr p1) (Jvm.ClassFile.Decoder.instr p2) := lc_bk H 45 (lc_pure _)
theorem lc_op46 (H : lcH A B o) (p1 p2 : Nat) : lcK A B o 46 (Jvm.ClassFile.Decoder.instr p1) (Jvm.ClassFile.Decoder.instr p2) := lc_bk H 46 (lc_pure _)
theorem lc_op47 (H : lcH A B o) (p1 p2 : Nat) : lcK A B o 47 (Jvm.ClassFile.Decoder.instr p1) (Jvm.ClassFile.Decoder.instr p2) := lc_bk H 47 (lc_pure _)
theorem lc_op48 (H : lcH A B o) (p1 p2 : Nat) : lcK A B o 48 (Jvm.ClassFile.Decoder.instr p1) (Jvm.ClassFile.Decoder.instr p2) := lc_bk H 48 (lc_pure _)
theorem lc_op49 (H : lcH A B o) (p1 p2 : Nat) : lcK A B o 49 (Jvm.ClassFile.Decoder.instr p1) (Jvm.ClassFile.Decoder.instr p2) := lc_bk H 49 (lc_pure _)
theorem lc_op50 (H : lcH A B o) (p1 p2 : Nat) : lcK A B o 50 (Jvm.ClassFile.Decoder.instr p1) (Jvm.ClassFile.Decoder.instr p2) := lc_bk H 50 (lc_pure _)
theorem lc_op51 (H : lcH A B o) (p1 p2 : Nat) : lcK A B o 51 (Jvm.ClassFile.Decoder.instr p1) (Jvm.ClassFile.Decoder.instr p2) := lc_bk H 51 (lc_pure _)
theorem lc_op52 (H : lcH A B o) (p1 p2 : Nat) : lcK A B o 52 (Jvm.ClassFile.Decoder.instr p1) (Jvm.ClassFile.Decoder.instr p2) := lc_bk H 52 (lc_pure _)
theorem lc_op53 (H : lcH A B o) (p1 p2 : Nat) : lcK A B o 53 (Jvm.ClassFile.Decoder.instr p1) (Jvm.ClassFile.Decoder.instr p2) := lc_bk H 53 (lc_pure _)
theorem lc_op54 (H : lcH A B o) (p1 p2 : Nat) : lcK A B o 54 (Jvm.ClassFile.Decoder.instr p1) (Jvm.ClassFile.Decoder.instr p2) := lc_bk H 54 (lc_bind (lc_u1 H) (fun _ => lc_pure _))
theorem lc_op55 (H : lcH A B o) (p1 p2 : Nat) : lcK A B o 55 (Jvm.ClassFile.Decoder.instr p1) (Jvm.ClassFile.Decoder.instr p2) := lc_bk H 55 (lc_bind (lc_u1 H) (fun _ => lc_pure _))
theorem lc_op56 (H : lcH A B o) (p1 p2 : Nat) : lcK A B o 56 (Jvm.ClassFile.Decoder.instr p1) (Jvm.ClassFile.Decoder.instr p2) := lc_bk H 56 (lc_bind (lc_u1 H) (fun _ => lc_pure _))
theorem lc_op57 (H : lcH A B o) (p1 p2 : Nat) : lcK A B o 57 (Jvm.ClassFile.Decoder.instr p1) (Jvm.ClassFile.Decoder.instr p2) := lc_bk H 57 (lc_bind (lc_u1 H) (fun _ => lc_pure _))
theorem lc_op58 (H : lcH A B o) (p1 p2 : Nat) : lcK A B o 58 (Jvm.ClassFile.Decoder.instr p1) (Jvm.ClassFile.Decoder.instr p2) := lc_bk H 58 (lc_bind (lc_u1 H) (fun _ => lc_pure _))
theorem lc_op59 (H : lcH A B o) (p1 p2 : Nat) : lcK A B o 59 (Jvm.ClassFile.Decoder.instr p1) (Jvm.ClassFile.Decoder.instr p2) := lc_bk H 59 (lc_pure _)
theorem lc_op60 (H : lcH A B o) (p1 p2 : Nat) : lcK A B o 60 (Jvm.ClassFile.Decoder.instr p1) (Jvm.ClassFile.Decoder.instr p2) := lc_bk H 60 (lc_pure _)
theorem lc_op61 (H : lcH A B o) (p1 p2 : Nat) : lcK A B o 61 (Jvm.ClassFile.Decoder.instr p1) (Jvm.ClassFile.Decoder.instr p2) := lc_bk H 61 (lc_pure _)
theorem lc_op62 (H : lcH A B o) (p1 p2 : Nat) : lcK A B o 62 (Jvm.ClassFile.Decoder.instr p1) (Jvm.ClassFile.Decoder.instr p2) := lc_bk H 62 (lc_pure _)
theorem lc_op63 (H : lcH A B o) (p1 p2 : Nat) : lcK A B o 63 (Jvm.ClassFile.Decoder.instr p1) (Jvm.ClassFile.Decoder.instr p2) := lc_bk H 63 (lc_pure _)
theorem lc_op64 (H : lcH A B o) (p1 p2 : Nat) : lcK A B o 64 (Jvm.ClassFile.Decoder.instr p1) (Jvm.ClassFile.Decoder.instr p2) := lc_bk H 64 (lc_pure _)
theorem lc_op65 (H : lcH A B o) (p1 p2 : Nat) : lcK A B o 65 (Jvm.ClassFile.Decoder.instr p1) (Jvm.ClassFile.Decoder.instr p2) := lc_bk H 65 (lc_pure _)
theorem lc_op66 (H : lcH A B o) (p1 p2 : Nat) : lcK A B o 66 (Jvm.ClassFile.Decoder.instr p1) (Jvm.ClassFile.Decoder.instr p2) := lc_bk H 66 (lc_pure _)
theorem lc_op67 (H : lcH A B o) (p1 p2 : Nat) : lcK A B o 67 (Jvm.ClassFile.Decoder.instr p1) (Jvm.ClassFile.Decoder.instr p2) := lc_bk H 67 (lc_pure _)
theorem lc_op68 (H : lcH A B o) (p1 p2 : Nat) : lcK A B o 68 (Jvm.ClassFile.Decoder.instr p1) (Jvm.ClassFile.Decoder.instr p2) := lc_bk H 68 (lc_pure _)
theorem lc_op69 (H : lcH A B o) (p1 p2 : Nat) : lcK A B o 69 (Jvm.ClassFile.Decoder.instr p1) (Jvm.ClassFile.Decoder.instr p2) := lc_bk H 69 (lc_pure _)
theorem lc_op70 (H : lcH A B o) (p1 p2 : Nat) : lcK A B o 70 (Jvm.ClassFile.Decoder.instr p1) (Jvm.ClassFile.Decoder.instr p2) := lc_bk H 70 (lc_pure _)
theorem lc_op71 (H : lcH A B o) (p1 p2 : Nat) : lcK A B o 71 (Jvm.ClassFile.Decoder.instr p1) (Jvm.ClassFile.Decoder.instr p2) := lc_bk H 71 (lc_pure _)
theorem lc_op72 (H : lcH A B o) (p1 p2 : Nat) : lcK A B o 72 (Jvm.ClassFile.Decoder.instr p1) (Jvm.ClassFile.Decoder.instr p2) := lc_bk H 72 (lc_pure _)
theorem lc_op73 (H : lcH A B o) (p1 p2 : Nat) : lcK A B o 73 (Jvm.ClassFile.Decoder.instr p1) (Jvm.ClassFile.Decoder.instr p2) := lc_bk H 73 (lc_pure _)
theorem lc_op74 (H : lcH A B o) (p1 p2 : Nat) : lcK A B o 74 (Jvm.ClassFile.Decoder.instr p1) (Jvm.ClassFile.Decoder.instr p2) := lc_bk H 74 (lc_pure _)
theorem lc_op75 (H : lcH A B o) (p1 p2 : Nat) : lcK A B o 75 (Jvm.ClassFile.Decoder.instr p1) (Jvm.ClassFile.Decoder.instr p2) := lc_bk H 75 (lc_pure _)
theorem lc_op76 (H : lcH A B o) (p1 p2 : Nat) : lcK A B o 76 (Jvm.ClassFile.Decoder.instr p1) (Jvm.ClassFile.Decoder.instr p2) := lc_bk H 76 (lc_pure _)
theorem lc_op77 (H : lcH A B o) (p1 p2 : Nat) : lcK A B o 77 (Jvm.ClassFile.Decoder.instr p1) (Jvm.ClassFile.Decoder.instr p2) := lc_bk H 77 (lc_pure _)
theorem lc_op78 (H : lcH A B o) (p1 p2 : Nat) : lcK A B o 78 (Jvm.ClassFile.Decoder.instr p1) (Jvm.ClassFile.Decoder.instr p2) := lc_bk H 78 (lc_pure _)
theorem lc_op79 (H : lcH A B o) (p1 p2 : Nat) : lcK A B o 79 (Jvm.ClassFile.Decoder.instr p1) (Jvm.ClassFile.Decoder.instr p2) := lc_bk H 79 (lc_pure _)
theorem lc_op80 (H : lcH A B o) (p1 p2 : Nat) : lcK A B o 80 (Jvm.ClassFile.Decoder.instr p1) (Jvm.ClassFile.Decoder.instr p2) := lc_bk H 80 (lc_pure _)
theorem lc_op81 (H : lcH A B o) (p1 p2 : Nat) : lcK A B o 81 (Jvm.ClassFile.Decoder.instr p1) (Jvm.ClassFile.Decoder.instr p2) := lc_bk H 81 (lc_pure _)
theorem lc_op82 (H : lcH A B o) (p1 p2 : Nat) : lcK A B o 82 (Jvm.ClassFile.Decoder.instr p1) (Jvm.ClassFile.Decoder.instr p2) := lc_bk H 82 (lc_pure _)
theorem lc_op83 (H : lcH A B o) (p1 p2 : Nat) : lcK A B o 83 (Jvm.ClassFile.Decoder.instr p1) (Jvm.ClassFile.Decoder.instr p2) := lc_bk H 83 (lc_pure _)
theorem lc_op84 (H : lcH A B o) (p1 p2 : Nat) : lcK A B o 84 (Jvm.ClassFile.Decoder.instr p1) (Jvm.ClassFile.Decoder.instr p2) := lc_bk H 84 (lc_pure _)
theorem lc_op85 (H : lcH A B o) (p1 p2 : Nat) : lcK A B o 85 (Jvm.ClassFile.Decoder.instr p1) (Jvm.ClassFile.Decoder.instr p2) := lc_bk H 85 (lc_pure _)
theorem lc_op86 (H : lcH A B o) (p1 p2 : Nat) : lcK A B o 86 (Jvm.ClassFile.Decoder.instr p1) (Jvm.ClassFile.Decoder.instr p2) := lc_bk H 86 (lc_pure _)
theorem lc_op87 (H : lcH A B o) (p1 p2 : Nat) : lcK A B o 87 (Jvm.ClassFile.Decoder.instr p1) (Jvm.ClassFile.Decoder.instr p2) := lc_bk H 87 (lc_pure _)
theorem lc_op88 (H : lcH A B o) (p1 p2 : Nat) : lcK A B o 88 (Jvm.ClassFile.Decoder.instr p1) (Jvm.ClassFile.Decoder.instr p2) := lc_bk H 88 (lc_pure _)
theorem lc_op89 (H : lcH A B o) (p1 p2 : Nat) : lcK A B o 89 (Jvm.ClassFile.Decoder.instr p1) (Jvm.ClassFile.Decoder.instr p2) := lc_bk H 89 (lc_pure _)
theorem lc_op90 (H : lcH A B o) (p1 p2 : Nat) : lcK A B o 90 (Jvm.ClassFile.Decoder.instr p1) (Jvm.ClassFile.Decoder.instr p2) := lc_bk H 90 (lc_pure _)
theorem lc_op91 (H : lcH A B o) (p1 p2 : Nat) : lcK A B o 91 (Jvm.ClassFile.Decoder.instr p1) (Jvm.ClassFile.Decoder.instr p2) := lc_bk H 91 (lc_pure _)
theorem lc_op92 (H : lcH A B o) (p1 p2 : Nat) : lcK A B o 92 (Jvm.ClassFile.Decoder.instr p1) (Jvm.ClassFile.Decoder.instr p2) := lc_bk H 92 (lc_pure _)
theorem lc_op93 (H : lcH A B o) (p1 p2 : Nat) : lcK A B o 93 (Jvm.ClassFile.Decoder.instr p1) (Jvm.ClassFile.Decoder.instr p2) := lc_bk H 93 (lc_pure _)
theorem lc_op94 (H : lcH A B o) (p1 p2 : Nat) : lcK A B o 94 (Jvm.ClassFile.Decoder.instr p1) (Jvm.ClassFile.Decoder.instr p2) := lc_bk H 94 (lc_pure _)
theorem lc_op95 (H : lcH A B o) (p1 p2 : Nat) : lcK A B o 95 (Jvm.ClassFile.Decoder.instr p1) (Jvm.ClassFile.Decoder.instr p2) := lc_bk H 95 (lc_pure _)
theorem lc_op96 (H : lcH A B o) (p1 p2 : Nat) : lcK A B o 96 (Jvm.ClassFile.Decoder.instr p1) (Jvm.ClassFile.Decoder.instr p2) := lc_bk H 96 (lc_pure _)
theorem lc_op97 (H : lcH A B o) (p1 p2 : Nat) : lcK A B o 97 (Jvm.ClassFile.Decoder.instr p1) (Jvm.ClassFile.Decoder.instr p2) := lc_bk H 97 (lc_pure _)
theorem lc_op98 (H : lcH A B o) (p1 p2 : Nat) : lcK A B o 98 (Jvm.ClassFile.Decoder.instr p1) (Jvm.ClassFile.Decoder.instr p2) := lc_bk H 98 (lc_pure _)
theorem lc_op99 (H : lcH A B o) (p1 p2 : Nat) : lcK A B o 99 (Jvm.ClassFile.Decoder.instr p1) (Jvm.ClassFile.Decoder.instr p2) := lc_bk H 99 (lc_pure _)
theorem lc_op100 (H : lcH A B o) (p1 p2 : Nat) : lcK A B o 100 (Jvm.ClassFile.Decoder.instr p1) (Jvm.ClassFile.Decoder.instr p2) := lc_bk H 100 (lc_pure _)
theorem lc_op101 (H : lcH A B o) (p1 p2 : Nat) : lcK A B o 101 (Jvm.ClassFile.Decoder.instr p1) (Jvm.ClassFile.Decoder.instr p2) := lc_bk H 101 (lc_pure _)
theorem lc_op102 (H : lcH A B o) (p1 p2 : Nat) : lcK A B o 102 (Jvm.ClassFile.Decoder.instr p1) (Jvm.ClassFile.Decoder.instr p2) := lc_bk H 102 (lc_pure _)
theorem lc_op103 (H : lcH A B o) (p1 p2 : Nat) : lcK A B o 103 (Jvm.ClassFile.Decoder.instr p1) (Jvm.ClassFile.Decoder.instr p2) := lc_bk H 103 (lc_pure _)
theorem lc_op104 (H : lcH A B o) (p1 p2 : Nat) : lcK A B o 104 (Jvm.ClassFile.Decoder.instr p1) (Jvm.ClassFile.Decoder.instr p2) := lc_bk H 104 (lc_pure _)
theorem lc_op105 (H : lcH A B o) (p1 p2 : Nat) : lcK A B o 105 (Jvm.ClassFile.Decoder.instr p1) (Jvm.ClassFile.Decoder.instr p2) := lc_bk H 105 (lc_pure _)
theorem lc_op106 (H : lcH A B o) (p1 p2 : Nat) : lcK A B o 106 (Jvm.ClassFile.Decoder.instr p1) (Jvm.ClassFile.Decoder.instr p2) := lc_bk H 106 (lc_pure _)
theorem lc_op107 (H : lcH A B o) (p1 p2 : Nat) : lcK A B o 107 (Jvm.ClassFile.Decoder.instr p1) (Jvm.ClassFile.Decoder.instr p2) := lc_bk H 107 (lc_pure _)
theorem lc_op108 (H : lcH A B o) (p1 p2 : Nat) : lcK A B o 108 (Jvm.ClassFile.Decoder.instr p1) (Jvm.ClassFile.Decoder.instr p2) := lc_bk H 108 (lc_pure _)
theorem lc_op109 (H : lcH A B o) (p1 p2 : Nat) : lcK A B o 109 (Jvm.ClassFile.Decoder.instr p1) (Jvm.ClassFile.Decoder.instr p2) := lc_bk H 109 (lc_pure _)
theorem lc_op110 (H : lcH A B o) (p1 p2 : Nat) : lcK A B o 110 (Jvm.ClassFile.Decoder.instr p1) (Jvm.ClassFile.Decoder.instr p2) := lc_bk H 110 (lc_pure _)
theorem lc_op111 (H : lcH A B o) (p1 p2 : Nat) : lcK A B o 111 (Jvm.ClassFile.Decoder.instr p1) (Jvm.ClassFile.Decoder.instr p2) := lc_bk H 111 (lc_pure _)
theorem lc_op112 (H : lcH A B o) (p1 p2 : Nat) : lcK A B o 112 (Jvm.ClassFile.Decoder.instr p1) (Jvm.ClassFile.Decoder.instr p2) := lc_bk H 112 (lc_pure _)
theorem lc_op113 (H : lcH A B o) (p1 p2 : Nat) : lcK A B o 113 (Jvm.ClassFile.Decoder.instr p1) (Jvm.ClassFile.Decoder.instr p2) := lc_bk H 113 (lc_pure _)
theorem lc_op114 (H : lcH A B o) (p1 p2 : Nat) : lcK A B o 114 (Jvm.ClassFile.Decoder.instr p1) (Jvm.ClassFile.Decoder.instr p2) := lc_bk H 114 (lc_pure _)
theorem lc_op115 (H : lcH A B o) (p1 p2 : Nat) : lcK A B o 115 (Jvm.ClassFile.Decoder.instr p1) (Jvm.ClassFile.Decoder.instr p2) := lc_bk H 115 (lc_pure _)
theorem lc_op116 (H : lcH A B o) (p1 p2 : Nat) : lcK A B o 116 (Jvm.ClassFile.Decoder.instr p1) (Jvm.ClassFile.Decoder.instr p2) := lc_bk H 116 (lc_pure _)
theorem lc_op117 (H : lcH A B o) (p1 p2 : Nat) : lcK A B o 117 (Jvm.ClassFile.Decoder.instr p1) (Jvm.ClassFile.Decoder.instr p2) := lc_bk H 117 (lc_pure _)
theorem lc_op118 (H : lcH A B o) (p1 p2 : Nat) : lcK A B o 118 (Jvm.ClassFile.Decoder.instr p1) (Jvm.ClassFile.Decoder.instr p2) := lc_bk H 118 (lc_pure _)
theorem lc_op119 (H : lcH A B o) (p1 p2 : Nat) : lcK A B o 119 (Jvm.ClassFile.Decoder.instr p1) (Jvm.ClassFile.Decoder.instr p2) := lc_bk H 119 (lc_pure _)
theorem lc_op120 (H : lcH A B o) (p1 p2 : Nat) : lcK A B o 120 (Jvm.ClassFile.Decoder.instr p1) (Jvm.ClassFile.Decoder.instr p2) := lc_bk H 120 (lc_pure _)
theorem lc_op121 (H : lcH A B o) (p1 p2 : Nat) : lcK A B o 121 (Jvm.ClassFile.Decoder.instr p1) (Jvm.ClassFile.Decoder.instr p2) := lc_bk H 121 (lc_pure _)
theorem lc_op122 (H : lcH A B o) (p1 p2 : Nat) : lcK A B o 122 (Jvm.ClassFile.Decoder.instr p1) (Jvm.ClassFile.Decoder.instr p2) := lc_bk H 122 (lc_pure _)
theorem lc_op123 (H : lcH A B o) (p1 p2 : Nat) : lcK A B o 123 (Jvm.ClassFile.Decoder.instr p1) (Jvm.ClassFile.Decoder.instr p2) := lc_bk H 123 (lc_pure _)
theorem lc_op124 (H : lcH A B o) (p1 p2 : Nat) : lcK A B o 124 (Jvm.ClassFile.Decoder.instr p1) (Jvm.ClassFile.Decoder.instr p2) := lc_bk H 124 (lc_pure _)
theorem lc_op125 (H : lcH A B o) (p1 p2 : Nat) : lcK A B o 125 (Jvm.ClassFile.Decoder.instr p1) (Jvm.ClassFile.Decoder.instr p2) := lc_bk H 125 (lc_pure _)
theorem lc_op126 (H : lcH A B o) (p1 p2 : Nat) : lcK A B o 126 (Jvm.ClassFile.Decoder.instr p1) (Jvm.ClassFile.Decoder.instr p2) := lc_bk H 126 (lc_pure _)
theorem lc_op127 (H : lcH A B o) (p1 p2 : Nat) : lcK A B o 127 (Jvm.ClassFile.Decoder.instr p1) (Jvm.ClassFile.Decoder.instr p2) := lc_bk H 127 (lc_pure _)
theorem lc_op128 (H : lcH A B o) (p1 p2 : Nat) : lcK A B o 128 (Jvm.ClassFile.Decoder.instr p1) (Jvm.ClassFile.Decoder.instr p2) := lc_bk H 128 (lc_pure _)
theorem lc_op129 (H : lcH A B o) (p1 p2 : Nat) : lcK A B o 129 (Jvm.ClassFile.Decoder.instr p1) (Jvm.ClassFile.Decoder.instr p2) := lc_bk H 129 (lc_pure _)
theorem lc_op130 (H : lcH A B o) (p1 p2 : Nat) : lcK A B o 130 (Jvm.ClassFile.Decoder.instr p1) (Jvm.ClassFile.Decoder.instr p2) := lc_bk H 130 (lc_pure _)
theorem lc_op131 (H : lcH A B o) (p1 p2 : Nat) : lcK A B o 131 (Jvm.ClassFile.Decoder.instr p1) (Jvm.ClassFile.Decoder.instr p2) := lc_bk H 131 (lc_pure _)
theorem lc_op132 (H : lcH A B o) (p1 p2 : Nat) : lcK A B o 132 (Jvm.ClassFile.Decoder.instr p1) (Jvm.ClassFile.Decoder.instr p2) := lc_bk H 132 (lc_bind (lc_u1 H) (fun _ => lc_bind (lc_s1 H) (fun _ => lc_pure _)))
theorem lc_op133 (H : lcH A B o) (p1 p2 : Nat) : lcK A B o 133 (Jvm.ClassFile.Decoder.instr p1) (Jvm.ClassFile.Decoder.instr p2) := lc_bk H 133 (lc_pure _)
theorem lc_op134 (H : lcH A B o) (p1 p2 : Nat) : lcK A B o 134 (Jvm.ClassFile.Decoder.instr p1) (Jvm.ClassFile.Decoder.instr p2) := lc_bk H 134 (lc_pure _)
theorem lc_op135 (H : lcH A B o) (p1 p2 : Nat) : lcK A B o 135 (Jvm.ClassFile.Decoder.instr p1) (Jvm.ClassFile.Decoder.instr p2) := lc_bk H 135 (lc_pure _)
theorem lc_op136 (H : lcH A B o) (p1 p2 : Nat) : lcK A B o 136 (Jvm.ClassFile.Decoder.instr p1) (Jvm.ClassFile.Decoder.instr p2) := lc_bk H 136 (lc_pure _)
theorem lc_op137 (H : lcH A B o) (p1 p2 : Nat) : lcK A B o 137 (Jvm.ClassFile.Decoder.instr p1) (Jvm.ClassFile.Decoder.instr p2) := lc_bk H 137 (lc_pure _)
theorem lc_op138 (H : lcH A B o) (p1 p2 : Nat) : lcK A B o 138 (Jvm.ClassFile.Decoder.instr p1) (Jvm.ClassFile.Decoder.instr p2) := lc_bk H 138 (lc_pure _)
theorem lc_op139 (H : lcH A B o) (p1 p2 : Nat) : lcK A B o 139 (Jvm.ClassFile.Decoder.instr p1) (Jvm.ClassFile.Decoder.instr p2) := lc_bk H 139 (lc_pure _)
theorem lc_op140 (H : lcH A B o) (p1 p2 : Nat) : lcK A B o 140 (Jvm.ClassFile.Decoder.instr p1) (Jvm.ClassFile.Decoder.instr p2) := lc_bk H 140 (lc_pure _)
theorem lc_op141 (H : lcH A B o) (p1 p2 : Nat) : lcK A B o 141 (Jvm.ClassFile.Decoder.instr p1) (Jvm.ClassFile.Decoder.instr p2) := lc_bk H 141 (lc_pure _)
theorem lc_op142 (H : lcH A B o) (p1 p2 : Nat) : lcK A B o 142 (Jvm.ClassFile.Decoder.instr p1) (Jvm.ClassFile.Decoder.instr p2) := lc_bk H 142 (lc_pure _)
theorem lc_op143 (H : lcH A B o) (p1 p2 : Nat) : lcK A B o 143 (Jvm.ClassFile.Decoder.instr p1) (Jvm.ClassFile.Decoder.instr p2) := lc_bk H 143 (lc_pure _)
theorem lc_op144 (H : lcH A B o) (p1 p2 : Nat) : lcK A B o 144 (Jvm.ClassFile.Decoder.instr p1) (Jvm.ClassFile.Decoder.instr p2) := lc_bk H 144 (lc_pure _)
theorem lc_op145 (H : lcH A B o) (p1 p2 : Nat) : lcK A B o 145 (Jvm.ClassFile.Decoder.instr p1) (Jvm.ClassFile.Decoder.instr p2) := lc_bk H 145 (lc_pure _)
theorem lc_op146 (H : lcH A B o) (p1 p2 : Nat) : lcK A B o 146 (Jvm.ClassFile.Decoder.instr p1) (Jvm.ClassFile.Decoder.instr p2) := lc_bk H 146 (lc_pure _)
theorem lc_op147 (H : lcH A B o) (p1 p2 : Nat) : lcK A B o 147 (Jvm.ClassFile.Decoder.instr p1) (Jvm.ClassFile.Decoder.instr p2) := lc_bk H 147 (lc_pure _)
theorem lc_op148 (H : lcH A B o) (p1 p2 : Nat) : lcK A B o 148 (Jvm.ClassFile.Decoder.instr p1) (Jvm.ClassFile.Decoder.instr p2) := lc_bk H 148 (lc_pure _)
theorem lc_op149 (H : lcH A B o) (p1 p2 : Nat) : lcK A B o 149 (Jvm.ClassFile.Decoder.instr p1) (Jvm.ClassFile.Decoder.instr p2) := lc_bk H 149 (lc_pure _)
theorem lc_op150 (H : lcH A B o) (p1 p2 : Nat) : lcK A B o 150 (Jvm.ClassFile.Decoder.instr p1) (Jvm.ClassFile.Decoder.instr p2) := lc_bk H 150 (lc_pure _)
theorem lc_op151 (H : lcH A B o) (p1 p2 : Nat) : lcK A B o 151 (Jvm.ClassFile.Decoder.instr p1) (Jvm.ClassFile.Decoder.instr p2) := lc_bk H 151 (lc_pure _)
theorem lc_op152 (H : lcH A B o) (p1 p2 : Nat) : lcK A B o 152 (Jvm.ClassFile.Decoder.instr p1) (Jvm.ClassFile.Decoder.instr p2) := lc_bk H 152 (lc_pure _)
theorem lc_op153 (H : lcH A B o) (p1 p2 : Nat) : lcK A B o 153 (Jvm.ClassFile.Decoder.instr p1) (Jvm.ClassFile.Decoder.instr p2) := lc_bk H 153 (lc_bind (lc_s2 H) (fun _ => lc_pure _))
theorem lc_op154 (H : lcH A B o) (p1 p2 : Nat) : lcK A B o 154 (Jvm.ClassFile.Decoder.instr p1) (Jvm.ClassFile.Decoder.instr p2) := lc_bk H 154 (lc_bind (lc_s2 H) (fun _ => lc_pure _))
theorem lc_op155 (H : lcH A B o) (p1 p2 : Nat) : lcK A B o 155 (Jvm.ClassFile.Decoder.instr p1) (Jvm.ClassFile.Decoder.instr p2) := lc_bk H 155 (lc_bind (lc_s2 H) (fun _ => lc_pure _))
theorem lc_op156 (H : lcH A B o) (p1 p2 : Nat) : lcK A B o 156 (Jvm.ClassFile.Decoder.instr p1) (Jvm.ClassFile.Decoder.instr p2) := lc_bk H 156 (lc_bind (lc_s2 H) (fun _ => lc_pure _))
theorem lc_op157 (H : lcH A B o) (p1 p2 : Nat) : lcK A B o 157 (Jvm.ClassFile.Decoder.instr p1) (Jvm.ClassFile.Decoder.instr p2) := lc_bk H 157 (lc_bind (lc_s2 H) (fun _ => lc_pure _))
theorem lc_op158 (H : lcH A B o) (p1 p2 : Nat) : lcK A B o 158 (Jvm.ClassFile.Decoder.instr p1) (Jvm.ClassFile.Decoder.instr p2) := lc_bk H 158 (lc_bind (lc_s2 H) (fun _ => lc_pure _))
theorem lc_op159 (H : lcH A B o) (p1 p2 : Nat) : lcK A B o 159 (Jvm.ClassFile.Decoder.instr p1) (Jvm.ClassFile.Decoder.instr p2) := lc_bk H 159 (lc_bind (lc_s2 H) (fun _ => lc_pure _))
theorem lc_op160 (H : lcH A B o) (p1 p2 : Nat) : lcK A B o 160 (Jvm.ClassFile.Decoder.instr p1) (Jvm.ClassFile.Decoder.instr p2) := lc_bk H 160 (lc_bind (lc_s2 H) (fun _ => lc_pure _))
theorem lc_op161 (H : lcH A B o) (p1 p2 : Nat) : lcK A B o 161 (Jvm.ClassFile.Decoder.instr p1) (Jvm.ClassFile.Decoder.instr p2) := lc_bk H 161 (lc_bind (lc_s2 H) (fun _ => lc_pure _))
theorem lc_op162 (H : lcH A B o) (p1 p2 : Nat) : lcK A B o 162 (Jvm.ClassFile.Decoder.instr p1) (Jvm.ClassFile.Decoder.instr p2) := lc_bk H 162 (lc_bind (lc_s2 H) (fun _ => lc_pure _))
theorem lc_op163 (H : lcH A B o) (p1 p2 : Nat) : lcK A B o 163 (Jvm.ClassFile.Decoder.instr p1) (Jvm.ClassFile.Decoder.instr p2) := lc_bk H 163 (lc_bind (lc_s2 H) (fun _ => lc_pure _))
theorem lc_op164 (H : lcH A B o) (p1 p2 : Nat) : lcK A B o 164 (Jvm.ClassFile.Decoder.instr p1) (Jvm.ClassFile.Decoder.instr p2) := lc_bk H 164 (lc_bind (lc_s2 H) (fun _ => lc_pure _))
theorem lc_op165 (H : lcH A B o) (p1 p2 : Nat) : lcK A B o 165 (Jvm.ClassFile.Decoder.instr p1) (Jvm.ClassFile.Decoder.instr p2) := lc_bk H 165 (lc_bind (lc_s2 H) (fun _ => lc_pure _))
theorem lc_op166 (H : lcH A B o) (p1 p2 : Nat) : lcK A B o 166 (Jvm.ClassFile.Decoder.instr p1) (Jvm.ClassFile.Decoder.instr p2) := lc_bk H 166 (lc_bind (lc_s2 H) (fun _ => lc_pure _))
theorem lc_op167 (H : lcH A B o) (p1 p2 : Nat) : lcK A B o 167 (Jvm.ClassFile.Decoder.instr p1) (Jvm.ClassFile.Decoder.instr p2) := lc_bk H 167 (lc_bind (lc_s2 H) (fun _ => lc_pure _))
theorem lc_op168 (H : lcH A B o) (p1 p2 : Nat) : lcK A B o 168 (Jvm.ClassFile.Decoder.instr p1) (Jvm.ClassFile.Decoder.instr p2) := lc_bk H 168 (lc_bind (lc_s2 H) (fun _ => lc_pure _))
theorem lc_op169 (H : lcH A B o) (p1 p2 : Nat) : lcK A B o 169 (Jvm.ClassFile.Decoder.instr p1) (Jvm.ClassFile.Decoder.instr p2) := lc_bk H 169 (lc_bind (lc_u1 H) (fun _ => lc_pure _))
theorem lc_op172 (H : lcH A B o) (p1 p2 : Nat) : lcK A B o 172 (Jvm.ClassFile.Decoder.instr p1) (Jvm.ClassFile.Decoder.instr p2) := lc_bk H 172 (lc_pure _)
theorem lc_op173 (H : lcH A B o) (p1 p2 : Nat) : lcK A B o 173 (Jvm.ClassFile.Decoder.instr p1) (Jvm.ClassFile.Decoder.instr p2) := lc_bk H 173 (lc_pure _)
theorem lc_op174 (H : lcH A B o) (p1 p2 : Nat) : lcK A B o 174 (Jvm.ClassFile.Decoder.instr p1) (Jvm.ClassFile.Decoder.instr p2) := lc_bk H 174 (lc_pure _)
theorem lc_op175 (H : lcH A B o) (p1 p2 : Nat) : lcK A B o 175 (Jvm.ClassFile.Decoder.instr p1) (Jvm.ClassFile.Decoder.instr p2) := lc_bk H 175 (lc_pure _)
theorem lc_op176 (H : lcH A B o) (p1 p2 : Nat) : lcK A B o 176 (Jvm.ClassFile.Decoder.instr p1) (Jvm.ClassFile.Decoder.instr p2) := lc_bk H 176 (lc_pure _)
theorem lc_op177 (H : lcH A B o) (p1 p2 : Nat) : lcK A B o 177 (Jvm.ClassFile.Decoder.instr p1) (Jvm.ClassFile.Decoder.instr p2) := lc_bk H 177 (lc_pure _)
theorem lc_op178 (H : lcH A B o) (p1 p2 : Nat) : lcK A B o 178 (Jvm.ClassFile.Decoder.instr p1) (Jvm.ClassFile.Decoder.instr p2) := lc_bk H 178 (lc_bind (lc_u2 H) (fun _ => lc_pure _))
theorem lc_op179 (H : lcH A B o) (p1 p2 : Nat) : lcK A B o 179 (Jvm.ClassFile.Decoder.instr p1) (Jvm.ClassFile.Decoder.instr p2) := lc_bk H 179 (lc_bind (lc_u2 H) (fun _ => lc_pure _))
theorem lc_op180 (H : lcH A B o) (p1 p2 : Nat) : lcK A B o 180 (Jvm.ClassFile.Decoder.instr p1) (Jvm.ClassFile.Decoder.instr p2) := lc_bk H 180 (lc_bind (lc_u2 H) (fun _ => lc_pure _))
theorem lc_op181 (H : lcH A B o) (p1 p2 : Nat) : lcK A B o 181 (Jvm.ClassFile.Decoder.instr p1) (Jvm.ClassFile.Decoder.instr p2) := lc_bk H 181 (lc_bind (lc_u2 H) (fun _ => lc_pure _))
theorem lc_op182 (H : lcH A B o) (p1 p2 : Nat) : lcK A B o 182 (Jvm.ClassFile.Decoder.instr p1) (Jvm.ClassFile.Decoder.instr p2) := lc_bk H 182 (lc_bind (lc_u2 H) (fun _ => lc_pure _))
theorem lc_op183 (H : lcH A B o) (p1 p2 : Nat) : lcK A B o 183 (Jvm.ClassFile.Decoder.instr p1) (Jvm.ClassFile.Decoder.instr p2) := lc_bk H 183 (lc_bind (lc_u2 H) (fun _ => lc_pure _))
theorem lc_op184 (H : lcH A B o) (p1 p2 : Nat) : lcK A B o 184 (Jvm.ClassFile.Decoder.instr p1) (Jvm.ClassFile.Decoder.instr p2) := lc_bk H 184 (lc_bind (lc_u2 H) (fun _ => lc_pure _))
theorem lc_op187 (H : lcH A B o) (p1 p2 : Nat) : lcK A B o 187 (Jvm.ClassFile.Decoder.instr p1) (Jvm.ClassFile.Decoder.instr p2) := lc_bk H 187 (lc_bind (lc_u2 H) (fun _ => lc_pure _))
theorem lc_op188 (H : lcH A B o) (p1 p2 : Nat) : lcK A B o 188 (Jvm.ClassFile.Decoder.instr p1) (Jvm.ClassFile.Decoder.instr p2) := lc_bk H 188 (lc_new H _ _)
theorem lc_op189 (H : lcH A B o) (p1 p2 : Nat) : lcK A B o 189 (Jvm.ClassFile.Decoder.instr p1) (Jvm.ClassFile.Decoder.instr p2) := lc_bk H 189 (lc_bind (lc_u2 H) (fun _ => lc_pure _))
theorem lc_op190 (H : lcH A B o) (p1 p2 : Nat) : lcK A B o 190 (Jvm.ClassFile.Decoder.instr p1) (Jvm.ClassFile.Decoder.instr p2) := lc_bk H 190 (lc_pure _)
theorem lc_op191 (H : lcH A B o) (p1 p2 : Nat) : lcK A B o 191 (Jvm.ClassFile.Decoder.instr p1) (Jvm.ClassFile.Decoder.instr p2) := lc_bk H 191 (lc_pure _)
theorem lc_op192 (H : lcH A B o) (p1 p2 : Nat) : lcK A B o 192 (Jvm.ClassFile.Decoder.instr p1) (Jvm.ClassFile.Decoder.instr p2) := lc_bk H 192 (lc_bind (lc_u2 H) (fun _ => lc_pure _))
theorem lc_op193 (H : lcH A B o) (p1 p2 : Nat) : lcK A B o 193 (Jvm.ClassFile.Decoder.instr p1) (Jvm.ClassFile.Decoder.instr p2) := lc_bk H 193 (lc_bind (lc_u2 H) (fun _ => lc_pure _))
theorem lc_op194 (H : lcH A B o) (p1 p2 : Nat) : lcK A B o 194 (Jvm.ClassFile.Decoder.instr p1) (Jvm.ClassFile.Decoder.instr p2) := lc_bk H 194 (lc_pure _)
theorem lc_op195 (H : lcH A B o) (p1 p2 : Nat) : lcK A B o 195 (Jvm.ClassFile.Decoder.instr p1) (Jvm.ClassFile.Decoder.instr p2) := lc_bk H 195 (lc_pure _)
theorem lc_op198 (H : lcH A B o) (p1 p2 : Nat) : lcK A B o 198 (Jvm.ClassFile.Decoder.instr p1) (Jvm.ClassFile.Decoder.instr p2) := lc_bk H 198 (lc_bind (lc_s2 H) (fun _ => lc_pure _))
theorem lc_op199 (H : lcH A B o) (p1 p2 : Nat) : lcK A B o 199 (Jvm.ClassFile.Decoder.instr p1) (Jvm.ClassFile.Decoder.instr p2) := lc_bk H 199 (lc_bind (lc_s2 H) (fun _ => lc_pure _))
theorem lc_op200 (H : lcH A B o) (p1 p2 : Nat) : lcK A B o 200 (Jvm.ClassFile.Decoder.instr p1) (Jvm.ClassFile.Decoder.instr p2) := lc_bk H 200 (lc_bind (lc_s4 H) (fun _ => lc_pure _))
theorem lc_op201 (H : lcH A B o) (p1 p2 : Nat) : lcK A B o 201 (Jvm.ClassFile.Decoder.instr p1) (Jvm.ClassFile.Decoder.instr p2) := lc_bk H 201 (lc_bind (lc_s4 H) (fun _ => lc_pure _))
def lcOps : List Nat := [0, 1, 2, 3, 4, 5, 6, 7, 8, 9, 10, 11, 12, 13, 14, 15, 16, 17, 18, 19, 20, 21, 22, 23, 24, 25, 26, 27, 28, 29, 30, 31, 32, 33, 34, 35, 36, 37, 38, 39, 40, 41, 42, 43, 44, 45, 46, 47, 48, 49, 50, 51, 52, 53, 54, 55, 56, 57, 58, 59, 60, 61, 62, 63, 64, 65, 66, 67, 68, 69, 70, 71, 72, 73, 74, 75, 76, 77, 78, 79, 80, 81, 82, 83, 84, 85, 86, 87, 88, 89, 90, 91, 92, 93, 94, 95, 96, 97, 98, 99, 100, 101, 102, 103, 104, 105, 106, 107, 108, 109, 110, 111, 112, 113, 114, 115, 116, 117, 118, 119, 120, 121, 122, 123, 124, 125, 126, 127, 128, 129, 130, 131, 132, 133, 134, 135, 136, 137, 138, 139, 140, 141, 142, 143, 144, 145, 146, 147, 148, 149, 150, 151, 152, 153, 154, 155, 156, 157, 158, 159, 160, 161, 162, 163, 164, 165, 166, 167, 168, 169, 172, 173, 174, 175, 176, 177, 178, 179, 180, 181, 182, 183, 184, 187, 188, 189, 190, 191, 192, 193, 194, 195, 198, 199, 200, 201]
set_option maxRecDepth 100000 in
theorem lc_all (H : lcH A B o) (p1 p2 : Nat) : ∀ k ∈ lcOps, lcK A B o k (Jvm.ClassFile.Decoder.instr p1) (Jvm.ClassFile.Decoder.instr p2) := by
  unfold lcOps
  exact List.forall_mem_cons.mpr ⟨lc_op0 H p1 p2, List.forall_mem_cons.mpr ⟨lc_op1 H p1 p2, List.forall_mem_cons.mpr ⟨lc_op2 H p1 p2, List.forall_mem_cons.mpr ⟨lc_op3 H p1 p2, List.forall_mem_cons.mpr ⟨lc_op4 H p1 p2, List.forall_mem_cons.mpr ⟨lc_op5 H p1 p2, List.forall_mem_cons.mpr ⟨lc_op6 H p1 p2, List.forall_mem_cons.mpr ⟨lc_op7 H p1 p2, List.forall_mem_cons.mpr ⟨lc_op8 H p1 p2, List.forall_mem_cons.mpr ⟨lc_op9 H p1 p2, List.forall_mem_cons.mpr ⟨lc_op10 H p1 p2, List.forall_mem_cons.mpr ⟨lc_op11 H p1 p2, List.forall_mem_cons.mpr ⟨lc_op12 H p1 p2, List.forall_mem_cons.mpr ⟨lc_op13 H p1 p2, List.forall_mem_cons.mpr ⟨lc_op14 H p1 p2, List.forall_mem_cons.mpr ⟨lc_op15 H p1 p2, List.forall_mem_cons.mpr ⟨lc_op16 H p1 p2, List.forall_mem_cons.mpr ⟨lc_op17 H p1 p2, List.forall_mem_cons.mpr ⟨lc_op18 H p1 p2, List.forall_mem_cons.mpr ⟨lc_op19 H p1 p2, List.forall_mem_cons.mpr ⟨lc_op20 H p1 p2, List.forall_mem_cons.mpr ⟨lc_op21 H p1 p2, List.forall_mem_cons.mpr ⟨lc_op22 H p1 p2, List.forall_mem_cons.mpr ⟨lc_op23 H p1 p2, List.forall_mem_cons.mpr ⟨lc_op24 H p1 p2, List.forall_mem_cons.mpr ⟨lc_op25 H p1 p2, List.forall_mem_cons.mpr ⟨lc_op26 H p1 p2, List.forall_mem_cons.mpr ⟨lc_op27 H p1 p2, List.forall_mem_cons.mpr ⟨lc_op28 H p1 p2, List.forall_mem_cons.mpr ⟨lc_op29 H p1 p2, List.forall_mem_cons.mpr ⟨lc_op30 H p1 p2, List.forall_mem_cons.mpr ⟨lc_op31 H p1 p2, List.forall_mem_cons.mpr ⟨lc_op32 H p1 p2, List.forall_mem_cons.mpr ⟨lc_op33 H p1 p2, List.forall_mem_cons.mpr ⟨lc_op34 H p1 p2, List.forall_mem_cons.mpr ⟨lc_op35 H p1 p2, List.forall_mem_cons.mpr ⟨lc_op36 H p1 p2, List.forall_mem_cons.mpr ⟨lc_op37 H p1 p2, List.forall_mem_cons.mpr ⟨lc_op38 H p1 p2, List.forall_mem_cons.mpr ⟨lc_op39 H p1 p2, List.forall_mem_cons.mpr ⟨lc_op40 H p1 p2, List.forall_mem_cons.mpr ⟨lc_op41 H p1 p2, List.forall_mem_cons.mpr ⟨lc_op42 H p1 p2, List.forall_mem_cons.mpr ⟨lc_op43 H p1 p2, List.forall_mem_cons.mpr ⟨lc_op44 H p1 p2, List.forall_mem_cons.mpr ⟨lc_op45 H p1 p2, List.forall_mem_cons.mpr ⟨lc_op46 H p1 p2, List.forall_mem_cons.mpr ⟨lc_op47 H p1 p2, List.forall_mem_cons.mpr ⟨lc_op48 H p1 p2, List.forall_mem_cons.mpr ⟨lc_op49 H p1 p2, List.forall_mem_cons.mpr ⟨lc_op50 H p1 p2, List.forall_mem_cons.mpr ⟨lc_op51 H p1 p2, List.forall_mem_cons.mpr ⟨lc_op52 H p1 p2, List.forall_mem_cons.mpr ⟨lc_op53 H p1 p2, List.forall_mem_cons.mpr ⟨lc_op54 H p1 p2, List.forall_mem_cons.mpr ⟨lc_op55 H p1 p2, List.forall_mem_cons.mpr ⟨lc_op56 H p1 p2, List.forall_mem_cons.mpr ⟨lc_op57 H p1 p2, List.forall_mem_cons.mpr ⟨lc_op58 H p1 p2, List.forall_mem_cons.mpr ⟨lc_op59 H p1 p2, List.forall_mem_cons.mpr ⟨lc_op60 H p1 p2, List.forall_mem_cons.mpr ⟨lc_op61 H p1 p2, List.forall_mem_cons.mpr ⟨lc_op62 H p1 p2, List.forall_mem_cons.mpr ⟨lc_op63 H p1 p2, List.forall_mem_cons.mpr ⟨lc_op64 H p1 p2, List.forall_mem_cons.mpr ⟨lc_op65 H p1 p2, List.forall_mem_cons.mpr ⟨lc_op66 H p1 p2, List.forall_mem_cons.mpr ⟨lc_op67 H p1 p2, List.forall_mem_cons.mpr ⟨lc_op68 H p1 p2, List.forall_mem_cons.mpr ⟨lc_op69 H p1 p2, List.forall_mem_cons.mpr ⟨lc_op70 H p1 p2, List.forall_mem_cons.mpr ⟨lc_op71 H p1 p2, List.forall_mem_cons.mpr ⟨lc_op72 H p1 p2, List.forall_mem_cons.mpr ⟨lc_op73 H p1 p2, List.forall_mem_cons.mpr ⟨lc_op74 H p1 p2, List.forall_mem_cons.mpr ⟨lc_op75 H p1 p2, List.forall_mem_cons.mpr ⟨lc_op76 H p1 p2, List.forall_mem_cons.mpr ⟨lc_op77 H p1 p2, List.forall_mem_cons.mpr ⟨lc_op78 H p1 p2, List.forall_mem_cons.mpr ⟨lc_op79 H p1 p2, List.forall_mem_cons.mpr ⟨lc_op80 H p1 p2, List.forall_mem_cons.mpr ⟨lc_op81 H p1 p2, List.forall_mem_cons.mpr ⟨lc_op82 H p1 p2, List.forall_mem_cons.mpr ⟨lc_op83 H p1 p2, List.forall_mem_cons.mpr ⟨lc_op84 H p1 p2, List.forall_mem_cons.mpr ⟨lc_op85 H p1 p2, List.forall_mem_cons.mpr ⟨lc_op86 H p1 p2, List.forall_mem_cons.mpr ⟨lc_op87 H p1 p2, List.forall_mem_cons.mpr ⟨lc_op88 H p1 p2, List.forall_mem_cons.mpr ⟨lc_op89 H p1 p2, List.forall_mem_cons.mpr ⟨lc_op90 H p1 p2, List.forall_mem_cons.mpr ⟨lc_op91 H p1 p2, List.forall_mem_cons.mpr ⟨lc_op92 H p1 p2, List.forall_mem_cons.mpr ⟨lc_op93 H p1 p2, List.forall_mem_cons.mpr ⟨lc_op94 H p1 p2, List.forall_mem_cons.mpr ⟨lc_op95 H p1 p2, List.forall_mem_cons.mpr ⟨lc_op96 H p1 p2, List.forall_mem_cons.mpr ⟨lc_op97 H p1 p2, List.forall_mem_cons.mpr ⟨lc_op98 H p1 p2, List.forall_mem_cons.mpr ⟨lc_op99 H p1 p2, List.forall_mem_cons.mpr ⟨lc_op100 H p1 p2, List.forall_mem_cons.mpr ⟨lc_op101 H p1 p2, List.forall_mem_cons.mpr ⟨lc_op102 H p1 p2, List.forall_mem_cons.mpr ⟨lc_op103 H p1 p2, List.forall_mem_cons.mpr ⟨lc_op104 H p1 p2, List.forall_mem_cons.mpr ⟨lc_op105 H p1 p2, List.forall_mem_cons.mpr ⟨lc_op106 H p1 p2, List.forall_mem_cons.mpr ⟨lc_op107 H p1 p2, List.forall_mem_cons.mpr ⟨lc_op108 H p1 p2, List.forall_mem_cons.mpr ⟨lc_op109 H p1 p2, List.forall_mem_cons.mpr ⟨lc_op110 H p1 p2, List.forall_mem_cons.mpr ⟨lc_op111 H p1 p2, List.forall_mem_cons.mpr ⟨lc_op112 H p1 p2, List.forall_mem_cons.mpr ⟨lc_op113 H p1 p2, List.forall_mem_cons.mpr ⟨lc_op114 H p1 p2, List.forall_mem_cons.mpr ⟨lc_op115 H p1 p2, List.forall_mem_cons.mpr ⟨lc_op116 H p1 p2, List.forall_mem_cons.mpr ⟨lc_op117 H p1 p2, List.forall_mem_cons.mpr ⟨lc_op118 H p1 p2, List.forall_mem_cons.mpr ⟨lc_op119 H p1 p2, List.forall_mem_cons.mpr ⟨lc_op120 H p1 p2, List.forall_mem_cons.mpr ⟨lc_op121 H p1 p2, List.forall_mem_cons.mpr ⟨lc_op122 H p1 p2, List.forall_mem_cons.mpr ⟨lc_op123 H p1 p2, List.forall_mem_cons.mpr ⟨lc_op124 H p1 p2, List.forall_mem_cons.mpr ⟨lc_op125 H p1 p2, List.forall_mem_cons.mpr ⟨lc_op126 H p1 p2, List.forall_mem_cons.mpr ⟨lc_op127 H p1 p2, List.forall_mem_cons.mpr ⟨lc_op128 H p1 p2, List.forall_mem_cons.mpr ⟨lc_op129 H p1 p2, List.forall_mem_cons.mpr ⟨lc_op130 H p1 p2, List.forall_mem_cons.mpr ⟨lc_op131 H p1 p2, List.forall_mem_cons.mpr ⟨lc_op132 H p1 p2, List.forall_mem_cons.mpr ⟨lc_op133 H p1 p2, List.forall_mem_cons.mpr ⟨lc_op134 H p1 p2, List.forall_mem_cons.mpr ⟨lc_op135 H p1 p2, List.forall_mem_cons.mpr ⟨lc_op136 H p1 p2, List.forall_mem_cons.mpr ⟨lc_op137 H p1 p2, List.forall_mem_cons.mpr ⟨lc_op138 H p1 p2, List.forall_mem_cons.mpr ⟨lc_op139 H p1 p2, List.forall_mem_cons.mpr ⟨lc_op140 H p1 p2, List.forall_mem_cons.mpr ⟨lc_op141 H p1 p2, List.forall_mem_cons.mpr ⟨lc_op142 H p1 p2, List.forall_mem_cons.mpr ⟨lc_op143 H p1 p2, List.forall_mem_cons.mpr ⟨lc_op144 H p1 p2, List.forall_mem_cons.mpr ⟨lc_op145 H p1 p2, List.forall_mem_cons.mpr ⟨lc_op146 H p1 p2, List.forall_mem_cons.mpr ⟨lc_op147 H p1 p2, List.forall_mem_cons.mpr ⟨lc_op148 H p1 p2, List.forall_mem_cons.mpr ⟨lc_op149 H p1 p2, List.forall_mem_cons.mpr ⟨lc_op150 H p1 p2, List.forall_mem_cons.mpr ⟨lc_op151 H p1 p2, List.forall_mem_cons.mpr ⟨lc_op152 H p1 p2, List.forall_mem_cons.mpr ⟨lc_op153 H p1 p2, List.forall_mem_cons.mpr ⟨lc_op154 H p1 p2, List.forall_mem_cons.mpr ⟨lc_op155 H p1 p2, List.forall_mem_cons.mpr ⟨lc_op156 H p1 p2, List.forall_mem_cons.mpr ⟨lc_op157 H p1 p2, List.forall_mem_cons.mpr ⟨lc_op158 H p1 p2, List.forall_mem_cons.mpr ⟨lc_op159 H p1 p2, List.forall_mem_cons.mpr ⟨lc_op160 H p1 p2, List.forall_mem_cons.mpr ⟨lc_op161 H p1 p2, List.forall_mem_cons.mpr ⟨lc_op162 H p1 p2, List.forall_mem_cons.mpr ⟨lc_op163 H p1 p2, List.forall_mem_cons.mpr ⟨lc_op164 H p1 p2, List.forall_mem_cons.mpr ⟨lc_op165 H p1 p2, List.forall_mem_cons.mpr ⟨lc_op166 H p1 p2, List.forall_mem_cons.mpr ⟨lc_op167 H p1 p2, List.forall_mem_cons.mpr ⟨lc_op168 H p1 p2, List.forall_mem_cons.mpr ⟨lc_op169 H p1 p2, List.forall_mem_cons.mpr ⟨lc_op172 H p1 p2, List.forall_mem_cons.mpr ⟨lc_op173 H p1 p2, List.forall_mem_cons.mpr ⟨lc_op174 H p1 p2, List.forall_mem_cons.mpr ⟨lc_op175 H p1 p2, List.forall_mem_cons.mpr ⟨lc_op176 H p1 p2, List.forall_mem_cons.mpr ⟨lc_op177 H p1 p2, List.forall_mem_cons.mpr ⟨lc_op178 H p1 p2, List.forall_mem_cons.mpr ⟨lc_op179 H p1 p2, List.forall_mem_cons.mpr ⟨lc_op180 H p1 p2, List.forall_mem_cons.mpr ⟨lc_op181 H p1 p2, List.forall_mem_cons.mpr ⟨lc_op182 H p1 p2, List.forall_mem_cons.mpr ⟨lc_op183 H p1 p2, List.forall_mem_cons.mpr ⟨lc_op184 H p1 p2, List.forall_mem_cons.mpr ⟨lc_op187 H p1 p2, List.forall_mem_cons.mpr ⟨lc_op188 H p1 p2, List.forall_mem_cons.mpr ⟨lc_op189 H p1 p2, List.forall_mem_cons.mpr ⟨lc_op190 H p1 p2, List.forall_mem_cons.mpr ⟨lc_op191 H p1 p2, List.forall_mem_cons.mpr ⟨lc_op192 H p1 p2, List.forall_mem_cons.mpr ⟨lc_op193 H p1 p2, List.forall_mem_cons.mpr ⟨lc_op194 H p1 p2, List.forall_mem_cons.mpr ⟨lc_op195 H p1 p2, List.forall_mem_cons.mpr ⟨lc_op198 H p1 p2, List.forall_mem_cons.mpr ⟨lc_op199 H p1 p2, List.forall_mem_cons.mpr ⟨lc_op200 H p1 p2, List.forall_mem_cons.mpr ⟨lc_op201 H p1 p2, List.forall_mem_nil _⟩⟩⟩⟩⟩⟩⟩⟩⟩⟩⟩⟩⟩⟩⟩⟩⟩⟩⟩⟩⟩⟩⟩⟩⟩⟩⟩⟩⟩⟩⟩⟩⟩⟩⟩⟩⟩⟩⟩⟩⟩⟩⟩⟩⟩⟩⟩⟩⟩⟩⟩⟩⟩⟩⟩⟩⟩⟩⟩⟩⟩⟩⟩⟩⟩⟩⟩⟩⟩⟩⟩⟩⟩⟩⟩⟩⟩⟩⟩⟩⟩⟩⟩⟩⟩⟩⟩⟩⟩⟩⟩⟩⟩⟩⟩⟩⟩⟩⟩⟩⟩⟩⟩⟩⟩⟩⟩⟩⟩⟩⟩⟩⟩⟩⟩⟩⟩⟩⟩⟩⟩⟩⟩⟩⟩⟩⟩⟩⟩⟩⟩⟩⟩⟩⟩⟩⟩⟩⟩⟩⟩⟩⟩⟩⟩⟩⟩⟩⟩⟩⟩⟩⟩⟩⟩⟩⟩⟩⟩⟩⟩⟩⟩⟩⟩⟩⟩⟩⟩⟩⟩⟩⟩⟩⟩⟩⟩⟩⟩⟩⟩⟩⟩⟩⟩⟩⟩⟩⟩⟩⟩⟩⟩⟩⟩⟩
theorem lc_dec (H : lcH A B o) {q len : Nat} {ins : Instr} (hq : q < B.size) (hk : B[q].toNat ∈ lcOps) (h : decode B q = .ok (ins, len)) : decode A (q + o) = .ok (ins, len) := by
  have h : Except.bind (Jvm.ClassFile.Decoder.instr q B q) (fun v => .ok (v.1, v.2 - q)) = .ok (ins, len) := h
  show Except.bind (Jvm.ClassFile.Decoder.instr (q + o) A (q + o)) (fun v => .ok (v.1, v.2 - (q + o))) = _
  cases e1 : Jvm.ClassFile.Decoder.instr q B q with
  | error e =>
    rw [e1] at h
    cases h
  | ok v =>
    obtain ⟨x, q1⟩ := v
    rw [e1] at h
    rw [lc_all H q (q + o) _ hk q x q1 hq rfl e1]
    cases h
    show Except.ok (x, q1 + o - (q + o)) = _
    rw [Nat.add_sub_add_right]
def decB (bs : ByteArray) (pc : Nat) (ins : Instr) (len : Nat) : Bool := match (bs.data.toList.drop (pc - pc % 4)).take (pc % 4 + len) with
  | l => Nat.beq l.length (pc % 4 + len) && (Nat.blt 0 len && (lcOps.contains (l.getD (pc % 4) 0).toNat && decide (decode ⟨⟨l⟩⟩ (pc % 4) = .ok (ins, len))))
theorem decB_ok {bs : ByteArray} {pc len : Nat} {ins : Instr} (h : decB bs pc ins len = true) : decode bs pc = .ok (ins, len) := by
  unfold decB at h
  generalize hl : (bs.data.toList.drop (pc - pc % 4)).take (pc % 4 + len) = l at h
  dsimp only at h
  simp only [Bool.and_eq_true, decide_eq_true_eq] at h
  obtain ⟨h1, h2, h3, h4⟩ := h
  have h1 : l.length = pc % 4 + len := Nat.eq_of_beq_eq_true h1
  have h2 : 0 < len := Nat.le_of_ble_eq_true h2
  have hs : bs.data.toList.length = bs.size := rfl
  have hz : (⟨⟨l⟩⟩ : ByteArray).size = l.length := rfl
  have hlen : l.length = min (pc % 4 + len) (bs.data.toList.length - (pc - pc % 4)) := by rw [← hl, List.length_take, List.length_drop]
  have hm : pc % 4 ≤ pc := Nat.mod_le _ _
  have H : lcH bs ⟨⟨l⟩⟩ (pc - pc % 4) := by
    refine ⟨by omega, by omega, fun q hq hq' => ?_⟩
    have hq1 : q < l.length := hq
    show bs.data.toList[q + (pc - pc % 4)] = l[q]
    subst hl
    rw [List.getElem_take, List.getElem_drop]
    congr 1
    omega
  have hq : pc % 4 < (⟨⟨l⟩⟩ : ByteArray).size := by omega
  have hk : ((⟨⟨l⟩⟩ : ByteArray)[pc % 4]).toNat ∈ lcOps := by
    have e1 : l.getD (pc % 4) 0 = l[pc % 4]'hq := by
      rw [List.getD_eq_getElem?_getD, List.getElem?_eq_getElem hq]
      rfl
    rw [e1] at h3
    exact List.contains_iff_mem.mp h3
  have := lc_dec H hq hk h4
  rw [show pc % 4 + (pc - pc % 4) = pc by omega] at this
  exact this
end LOC
/-! each place of a code, read over a short piece of it -/
def mErs (tab : List mM) (own : String) (ini : Bool) (cs : List mE) (i : Nat) (en : mE) : Bool :=
  (mSwi en.2.1 || decide (en.2.2.1 = mLen en.2.1)) && ((!mFal en.2.1 || decide (mPcAt cs (i + 1) = en.1 + mLen en.2.1)) && (mJok cs i en && (mLnkF own ini en && (mLnkS own en && (mLnkN own en && (mLnkC tab own en && mLnkK own en))))))
def mEokG (tab : List mM) (own : String) (ini : Bool) (bs : ByteArray) (cs : List mE) (i : Nat) (en : mE) : Bool :=
  (decB bs en.1 en.2.1 en.2.2.1 || decide (decode bs en.1 = .ok (en.2.1, en.2.2.1))) && mErs tab own ini cs i en
theorem mEokG_ok {tab : List mM} {own : String} {ini : Bool} {bs : ByteArray} {cs : List mE} {i : Nat} {en : mE} (h : mEokG tab own ini bs cs i en = true) : mEok tab own ini bs cs i en = true := by
  unfold mEokG at h
  rw [Bool.and_eq_true, Bool.or_eq_true] at h
  show (decide (decode bs en.1 = .ok (en.2.1, en.2.2.1)) && mErs tab own ini cs i en) = true
  rw [Bool.and_eq_true]
  refine ⟨?_, h.2⟩
  rcases h.1 with h1 | h1
  · exact decide_eq_true (decB_ok h1)
  · exact h1
def mCokG (tab : List mM) (own : String) (ini : Bool) (bs : ByteArray) (cs : List mE) : Bool := cs.zipIdx.all (fun q => mEokG tab own ini bs cs q.2 q.1)
theorem mCokG_ok {tab : List mM} {own : String} {ini : Bool} {bs : ByteArray} {cs : List mE} (h : mCokG tab own ini bs cs = true) : mCok tab own ini bs cs = true :=
  List.all_eq_true.mpr (fun q hq => mEokG_ok (List.all_eq_true.mp h q hq))
def mTokG (tab : List mM) (t : mM) : Bool := mMokF t && (mCokG tab (mMY t).cls (decide ((mMY t).name = "<init>")) (mMB t) (mMC t) && (plainFor (mMY t) && decide (mPcAt (mMC t) 0 = 0)))
theorem mTokG_ok {tab : List mM} {t : mM} (h : mTokG tab t = true) : mTok tab t = true := by
  unfold mTokG at h
  rw [Bool.and_eq_true, Bool.and_eq_true] at h
  refine mTokF_ok ?_
  unfold mTokF
  rw [Bool.and_eq_true, Bool.and_eq_true]
  exact ⟨h.1, mCokG_ok h.2.1, h.2.2⟩
