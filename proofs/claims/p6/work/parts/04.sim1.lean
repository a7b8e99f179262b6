/-! the machine follows the steps that leave the heap as it is -/
def mPcAt (cs : List mE) (k : Nat) : Nat := match cs[k]? with
  | some en => en.1
  | none => 0
def mFol (p : Program) (l : Launch) (e : Env) (R : Room) (s : State) (m : MethodId) (args : Array Value) (below : List Frame) (meth : Method) (c : Code) (cs : List mE) (f : Value → Value) (Q : State → Prop) (H : Heap) (locs : List Loc) (cells slots : Nat) (g : mG) : Prop :=
  ∀ ls : Array Slot, lv_has ls g.2.1.length (mAs f g.2.1) → W p l e R s m args below meth c H locs cells slots Q (F0 m (mPcAt cs g.1) ls (g.2.2.1.map f))
section MSA
variable {p : Program} {l : Launch} {e : Env} {R : Room} {s : State} {m : MethodId} {args : Array Value} {below : List Frame} {meth : Method} {c : Code} {H : Heap} {locs : List Loc} {cells slots : Nat} {Q : State → Prop}
variable {cc : ByteArray} {cs : List mE} {b : Nat} {x : Nat → Nat} {en : mE} {i : Nat} {L : mL} {st : List Value} {h : mH} {g : mG}
theorem mLd_spec {q : Value → Bool} {k : Nat} (hs : mLd q L k i st h = some g) : ∃ v, L[k]? = some (some v) ∧ q v = true ∧ g = (i + 1, L, v :: st, h) := by
  unfold mLd at hs
  split at hs
  · rename_i v hv
    split at hs
    · rename_i hq
      exact ⟨v, hv, hq, (Option.some.inj hs).symm⟩
    · cases hs
  · cases hs
theorem mSt_spec {q : Value → Bool} {k : Nat} (hs : mSt q L k i st h = some g) : ∃ v r, st = v :: r ∧ q v = true ∧ k < L.length ∧ g = (i + 1, mS1 L k v, r, h) := by
  unfold mSt at hs
  split at hs
  · rename_i v r
    split at hs
    · rename_i hq
      exact ⟨v, r, rfl, hq.1, hq.2, (Option.some.inj hs).symm⟩
    · cases hs
  · cases hs
theorem mStJ_spec {k : Nat} (hs : mStJ L k i st h = some g) : ∃ v r, st = v :: r ∧ mIsJ v = true ∧ k + 1 < L.length ∧ g = (i + 1, mS2 L k v, r, h) := by
  unfold mStJ at hs
  split at hs
  · rename_i v r
    split at hs
    · rename_i hq
      exact ⟨v, r, rfl, hq.1, hq.2, (Option.some.inj hs).symm⟩
    · cases hs
  · cases hs
theorem mIsI_spec {v : Value} (h : mIsI v = true) : ∃ z, v = .int z := by cases v <;> first | exact ⟨_, rfl⟩ | cases h
theorem mIsJ_spec {v : Value} (h : mIsJ v = true) : ∃ z, v = .long z := by cases v <;> first | exact ⟨_, rfl⟩ | cases h
theorem mIsA_spec (b : Nat) (x : Nat → Nat) {v : Value} (h : mIsA v = true) : mSh b x v = .null ∨ ∃ a, mSh b x v = .ref a := by cases v <;> first | exact Or.inl rfl | exact Or.inr ⟨_, rfl⟩ | cases h
set_option maxHeartbeats 2000000 in
theorem mA1_sim (hx : p.tables.exec = Jvm.exec) (hb : c.code = cc) (hown : True) (hd : decode cc (mPcAt cs i) = .ok (en.2.1, mLen en.2.1)) (hf : mPcAt cs (i + 1) = mPcAt cs i + mLen en.2.1)
    (hk : ∀ idx : Nat, (en.2.1 = .ldc idx ∨ en.2.1 = .ldc_w idx → ∃ own, s.vm.findClass own = some m.cls ∧ (Jvm.Cond.constant own idx (Int32.ofInt (en.2.2.2.getD 1 0))).before args s = true) ∧ (en.2.1 = .ldc2_w idx → ∃ own, s.vm.findClass own = some m.cls ∧ (Jvm.Cond.constantLong own idx (Int64.ofInt (en.2.2.2.getD 1 0))).before args s = true))
    (hs : mA1 en i L st h = some g) (kk : mFol p l e R s m args below meth c cs (mSh b x) Q H locs cells slots g) : mFol p l e R s m args below meth c cs (mSh b x) Q H locs cells slots (i, L, st, h) ∧ g.2.2.2 = h ∧ g.2.1.length = L.length := by
  unfold mA1 at hs
  split at hs
  · rename_i heq
    cases hs
    refine ⟨fun ls hl => ?_, rfl, rfl⟩
    have k1 := kk ls hl
    dsimp only at k1 ⊢
    rw [hf, heq] at k1
    rw [heq] at hd
    exact lv_null hx hb hd  k1
  · rename_i n heq
    cases hs
    refine ⟨fun ls hl => ?_, rfl, rfl⟩
    have k1 := kk ls hl
    dsimp only at k1 ⊢
    rw [hf, heq] at k1
    rw [heq] at hd
    exact lv_iconst hx hb hd rfl k1
  · rename_i n heq
    cases hs
    refine ⟨fun ls hl => ?_, rfl, rfl⟩
    have k1 := kk ls hl
    dsimp only at k1 ⊢
    rw [hf, heq] at k1
    rw [heq] at hd
    exact lv_bipush hx hb hd rfl k1
  · rename_i n heq
    cases hs
    refine ⟨fun ls hl => ?_, rfl, rfl⟩
    have k1 := kk ls hl
    dsimp only at k1 ⊢
    rw [hf, heq] at k1
    rw [heq] at hd
    exact lv_sipush hx hb hd rfl k1
  · rename_i n heq
    cases hs
    refine ⟨fun ls hl => ?_, rfl, rfl⟩
    have k1 := kk ls hl
    dsimp only at k1 ⊢
    rw [hf, heq] at k1
    rw [heq] at hd
    exact lv_lconst hx hb hd rfl k1
  · rename_i n heq
    cases hs
    obtain ⟨own, ho, hc⟩ := (hk n).1 (Or.inl heq)
    refine ⟨fun ls hl => ?_, rfl, rfl⟩
    have k1 := kk ls hl
    dsimp only at k1 ⊢
    rw [hf, heq] at k1
    rw [heq] at hd
    exact lv_ldc hx hb ho hc hd k1
  · rename_i n heq
    cases hs
    obtain ⟨own, ho, hc⟩ := (hk n).1 (Or.inr heq)
    refine ⟨fun ls hl => ?_, rfl, rfl⟩
    have k1 := kk ls hl
    dsimp only at k1 ⊢
    rw [hf, heq] at k1
    rw [heq] at hd
    exact lv_ldcw hx hb ho hc hd k1
  · rename_i n heq
    cases hs
    obtain ⟨own, ho, hc⟩ := (hk n).2 heq
    refine ⟨fun ls hl => ?_, rfl, rfl⟩
    have k1 := kk ls hl
    dsimp only at k1 ⊢
    rw [hf, heq] at k1
    rw [heq] at hd
    exact lv_ldc2 hx hb ho hc hd k1
  · rename_i k heq
    obtain ⟨v, hv, hq, rfl⟩ := mLd_spec hs
    obtain ⟨z, rfl⟩ := mIsI_spec hq
    refine ⟨fun ls hl => ?_, rfl, rfl⟩
    have k1 := kk ls hl
    dsimp only at k1 hl ⊢
    rw [hf, heq] at k1
    rw [heq] at hd
    exact lv_iload hx hb hd (mAs_at hl hv) k1
  · rename_i k heq
    obtain ⟨v, hv, hq, rfl⟩ := mLd_spec hs
    obtain ⟨z, rfl⟩ := mIsI_spec hq
    refine ⟨fun ls hl => ?_, rfl, rfl⟩
    have k1 := kk ls hl
    dsimp only at k1 hl ⊢
    rw [hf, heq] at k1
    rw [heq] at hd
    exact lv_iload_n hx hb hd rfl (mAs_at hl hv) k1
  · rename_i k heq
    obtain ⟨v, hv, hq, rfl⟩ := mLd_spec hs
    obtain ⟨z, rfl⟩ := mIsJ_spec hq
    refine ⟨fun ls hl => ?_, rfl, rfl⟩
    have k1 := kk ls hl
    dsimp only at k1 hl ⊢
    rw [hf, heq] at k1
    rw [heq] at hd
    exact lv_lload hx hb hd (mAs_at hl hv) k1
  · rename_i k heq
    obtain ⟨v, hv, hq, rfl⟩ := mLd_spec hs
    obtain ⟨z, rfl⟩ := mIsJ_spec hq
    refine ⟨fun ls hl => ?_, rfl, rfl⟩
    have k1 := kk ls hl
    dsimp only at k1 hl ⊢
    rw [hf, heq] at k1
    rw [heq] at hd
    exact lv_lload_n hx hb hd rfl (mAs_at hl hv) k1
  · rename_i k heq
    obtain ⟨v, hv, hq, rfl⟩ := mLd_spec hs
    refine ⟨fun ls hl => ?_, rfl, rfl⟩
    have k1 := kk ls hl
    dsimp only at k1 hl ⊢
    rw [hf, heq] at k1
    rw [heq] at hd
    have h1 := mAs_at hl hv
    rw [List.map_cons] at k1
    rcases mIsA_spec b x hq with e1 | ⟨a, e1⟩
    · rw [e1] at h1 k1
      exact lv_aloadN hx hb hd h1 k1
    · rw [e1] at h1 k1
      exact lv_aload hx hb hd h1 k1
  · rename_i k heq
    obtain ⟨v, hv, hq, rfl⟩ := mLd_spec hs
    refine ⟨fun ls hl => ?_, rfl, rfl⟩
    have k1 := kk ls hl
    dsimp only at k1 hl ⊢
    rw [hf, heq] at k1
    rw [heq] at hd
    have h1 := mAs_at hl hv
    rw [List.map_cons] at k1
    rcases mIsA_spec b x hq with e1 | ⟨a, e1⟩
    · rw [e1] at h1 k1
      exact lv_aload_nN hx hb hd rfl h1 k1
    · rw [e1] at h1 k1
      exact lv_aload_n hx hb hd rfl h1 k1
  · rename_i k heq
    obtain ⟨v, r, rfl, hq, hn, rfl⟩ := mSt_spec hs
    obtain ⟨z, rfl⟩ := mIsI_spec hq
    refine ⟨fun ls hl => ?_, rfl, mS1_len _ _ _⟩
    dsimp only at hl ⊢
    rw [heq] at hd
    refine lv_istore (lv := mAs (mSh b x) L) hx hb hd hl hn rfl fun ls1 h1 => ?_
    have h2 := mS1_has (f := mSh b x) (mSh_cat b x) (v := .int z) h1
    have k1 := kk ls1 (by dsimp only; rw [mS1_len]; exact h2)
    dsimp only at k1
    rw [hf, heq] at k1
    exact k1
  · rename_i k heq
    obtain ⟨v, r, rfl, hq, hn, rfl⟩ := mSt_spec hs
    obtain ⟨z, rfl⟩ := mIsI_spec hq
    refine ⟨fun ls hl => ?_, rfl, mS1_len _ _ _⟩
    dsimp only at hl ⊢
    rw [heq] at hd
    refine lv_istore_n (lv := mAs (mSh b x) L) hx hb hd rfl hl hn rfl fun ls1 h1 => ?_
    have h2 := mS1_has (f := mSh b x) (mSh_cat b x) (v := .int z) h1
    have k1 := kk ls1 (by dsimp only; rw [mS1_len]; exact h2)
    dsimp only at k1
    rw [hf, heq] at k1
    exact k1
  · rename_i k heq
    obtain ⟨v, r, rfl, hq, hn, rfl⟩ := mStJ_spec hs
    obtain ⟨z, rfl⟩ := mIsJ_spec hq
    refine ⟨fun ls hl => ?_, rfl, mS2_len _ _ _⟩
    dsimp only at hl ⊢
    rw [heq] at hd
    refine lv_lstore (lv := mAs (mSh b x) L) hx hb hd hl hn rfl fun ls1 h1 => ?_
    have h2 := mS2_has (f := mSh b x) (mSh_cat b x) (v := .long z) h1
    have k1 := kk ls1 (by dsimp only; rw [mS2_len]; exact h2)
    dsimp only at k1
    rw [hf, heq] at k1
    exact k1
  · rename_i k heq
    obtain ⟨v, r, rfl, hq, hn, rfl⟩ := mStJ_spec hs
    obtain ⟨z, rfl⟩ := mIsJ_spec hq
    refine ⟨fun ls hl => ?_, rfl, mS2_len _ _ _⟩
    dsimp only at hl ⊢
    rw [heq] at hd
    refine lv_lstore_n (lv := mAs (mSh b x) L) hx hb hd rfl hl hn rfl fun ls1 h1 => ?_
    have h2 := mS2_has (f := mSh b x) (mSh_cat b x) (v := .long z) h1
    have k1 := kk ls1 (by dsimp only; rw [mS2_len]; exact h2)
    dsimp only at k1
    rw [hf, heq] at k1
    exact k1
  · rename_i k heq
    obtain ⟨v, r, rfl, hq, hn, rfl⟩ := mSt_spec hs
    refine ⟨fun ls hl => ?_, rfl, mS1_len _ _ _⟩
    dsimp only at hl ⊢
    rw [heq] at hd
    have key : ∀ ls1 : Array Slot, lv_has ls1 L.length ((k, mSh b x v) :: (mAs (mSh b x) L).filter (fun q => !(q.1 == k) && !(q.1 + 1 == k && q.2.category == 2))) → W p l e R s m args below meth c H locs cells slots Q (F0 m (mPcAt cs i + 2) ls1 (r.map (mSh b x))) := by
      intro ls1 h1
      have h2 := mS1_has (mSh_cat b x) h1
      have k1 := kk ls1 (by dsimp only; rw [mS1_len]; exact h2)
      dsimp only at k1
      rw [hf, heq] at k1
      exact k1
    rw [List.map_cons]
    rcases mIsA_spec b x hq with e1 | ⟨a, e1⟩
    · rw [e1] at key ⊢
      exact lv_astoreN (lv := mAs (mSh b x) L) hx hb hd hl hn rfl key
    · rw [e1] at key ⊢
      exact lv_astore (lv := mAs (mSh b x) L) hx hb hd hl hn rfl key
  · rename_i k heq
    obtain ⟨v, r, rfl, hq, hn, rfl⟩ := mSt_spec hs
    refine ⟨fun ls hl => ?_, rfl, mS1_len _ _ _⟩
    dsimp only at hl ⊢
    rw [heq] at hd
    have key : ∀ ls1 : Array Slot, lv_has ls1 L.length (((k : Nat), mSh b x v) :: (mAs (mSh b x) L).filter (fun q => !(q.1 == (k : Nat)) && !(q.1 + 1 == (k : Nat) && q.2.category == 2))) → W p l e R s m args below meth c H locs cells slots Q (F0 m (mPcAt cs i + 1) ls1 (r.map (mSh b x))) := by
      intro ls1 h1
      have h2 := mS1_has (mSh_cat b x) h1
      have k1 := kk ls1 (by dsimp only; rw [mS1_len]; exact h2)
      dsimp only at k1
      rw [hf, heq] at k1
      exact k1
    rw [List.map_cons]
    rcases mIsA_spec b x hq with e1 | ⟨a, e1⟩
    · rw [e1] at key ⊢
      exact lv_astore_nN (lv := mAs (mSh b x) L) hx hb hd rfl hl hn rfl key
    · rw [e1] at key ⊢
      exact lv_astore_n (lv := mAs (mSh b x) L) hx hb hd rfl hl hn rfl key
  · cases hs
set_option maxHeartbeats 2000000 in
theorem mA2_sim (hx : p.tables.exec = Jvm.exec) (hb : c.code = cc) (hd : decode cc (mPcAt cs i) = .ok (en.2.1, mLen en.2.1)) (hf : mPcAt cs (i + 1) = mPcAt cs i + mLen en.2.1)
    (hs : mA2 en i L st h = some g) (kk : mFol p l e R s m args below meth c cs (mSh b x) Q H locs cells slots g) : mFol p l e R s m args below meth c cs (mSh b x) Q H locs cells slots (i, L, st, h) ∧ g.2.2.2 = h ∧ g.2.1.length = L.length := by
  unfold mA2 at hs
  split at hs
  · rename_i k n heq
    split at hs
    · rename_i v hv
      split at hs
      · rename_i hn
        cases hs
        refine ⟨fun ls hl => ?_, rfl, mS1_len _ _ _⟩
        dsimp only at hl ⊢
        rw [heq] at hd
        obtain ⟨j, hj⟩ := List.getElem?_of_mem (mAs_mem.mpr ⟨_, hv, rfl⟩ : (k, mSh b x (.int v)) ∈ mAs (mSh b x) L)
        refine lv_iinc (lv := mAs (mSh b x) L) (k := j) hx hb hd hl hj rfl hn rfl fun ls1 h1 => ?_
        have h2 := mS1_has (f := mSh b x) (mSh_cat b x) (v := .int (v + Int32.ofInt n)) h1
        have k1 := kk ls1 (by dsimp only; rw [mS1_len]; exact h2)
        dsimp only at k1
        rw [hf, heq] at k1
        exact k1
      · cases hs
    · cases hs
  · rename_i heq
    split at hs
    · rename_i v r
      split at hs
      · rename_i hc
        cases hs
        refine ⟨fun ls hl => ?_, rfl, rfl⟩
        have k1 := kk ls hl
        dsimp only [List.map_cons] at k1 ⊢
        rw [hf, heq] at k1
        rw [heq] at hd
        exact lv_dup hx hb hd (by rw [mSh_cat]; exact hc) k1
      · cases hs
    · cases hs
  · rename_i heq
    split at hs
    · rename_i v u r
      split at hs
      · rename_i hc
        cases hs
        refine ⟨fun ls hl => ?_, rfl, rfl⟩
        have k1 := kk ls hl
        dsimp only [List.map_cons] at k1 ⊢
        rw [hf, heq] at k1
        rw [heq] at hd
        exact lv_dup2_11 hx hb hd (by rw [mSh_cat]; exact hc.1) (by rw [mSh_cat]; exact hc.2) k1
      · cases hs
    · cases hs
  · rename_i heq
    split at hs
    · rename_i v r
      split at hs
      · rename_i hc
        cases hs
        refine ⟨fun ls hl => ?_, rfl, rfl⟩
        have k1 := kk ls hl
        dsimp only [List.map_cons] at k1 ⊢
        rw [hf, heq] at k1
        rw [heq] at hd
        exact lv_pop hx hb hd (by rw [mSh_cat]; exact hc) k1
      · cases hs
    · cases hs
  · rename_i heq
    split at hs
    · rename_i v r
      split at hs
      · rename_i hc
        cases hs
        refine ⟨fun ls hl => ?_, rfl, rfl⟩
        have k1 := kk ls hl
        dsimp only [List.map_cons] at k1 ⊢
        rw [hf, heq] at k1
        rw [heq] at hd
        exact lv_pop2_2 hx hb hd (by rw [mSh_cat]; exact hc) k1
      · cases hs
    · cases hs
  · cases hs
set_option maxHeartbeats 2000000 in
theorem mB1_sim (hx : p.tables.exec = Jvm.exec) (hb : c.code = cc) (hd : decode cc (mPcAt cs i) = .ok (en.2.1, mLen en.2.1)) (hf : mPcAt cs (i + 1) = mPcAt cs i + mLen en.2.1)
    (hs : mB1 en i L st h = some g) (kk : mFol p l e R s m args below meth c cs (mSh b x) Q H locs cells slots g) : mFol p l e R s m args below meth c cs (mSh b x) Q H locs cells slots (i, L, st, h) ∧ g.2.2.2 = h ∧ g.2.1.length = L.length := by
  unfold mB1 at hs
  split at hs
  · rename_i heq
    split at hs
    · cases hs
      refine ⟨fun ls hl => ?_, rfl, rfl⟩
      have k1 := kk ls hl
      dsimp only [List.map_cons, mSh] at k1 ⊢
      rw [hf, heq] at k1
      rw [heq] at hd
      exact lv_iadd hx hb hd  k1
    · cases hs
  · rename_i heq
    split at hs
    · cases hs
      refine ⟨fun ls hl => ?_, rfl, rfl⟩
      have k1 := kk ls hl
      dsimp only [List.map_cons, mSh] at k1 ⊢
      rw [hf, heq] at k1
      rw [heq] at hd
      exact lv_isub hx hb hd  k1
    · cases hs
  · rename_i heq
    split at hs
    · cases hs
      refine ⟨fun ls hl => ?_, rfl, rfl⟩
      have k1 := kk ls hl
      dsimp only [List.map_cons, mSh] at k1 ⊢
      rw [hf, heq] at k1
      rw [heq] at hd
      exact lv_imul hx hb hd  k1
    · cases hs
  · rename_i heq
    split at hs
    · cases hs
      refine ⟨fun ls hl => ?_, rfl, rfl⟩
      have k1 := kk ls hl
      dsimp only [List.map_cons, mSh] at k1 ⊢
      rw [hf, heq] at k1
      rw [heq] at hd
      exact lv_iand hx hb hd  k1
    · cases hs
  · rename_i heq
    split at hs
    · cases hs
      refine ⟨fun ls hl => ?_, rfl, rfl⟩
      have k1 := kk ls hl
      dsimp only [List.map_cons, mSh] at k1 ⊢
      rw [hf, heq] at k1
      rw [heq] at hd
      exact lv_ior hx hb hd  k1
    · cases hs
  · rename_i heq
    split at hs
    · cases hs
      refine ⟨fun ls hl => ?_, rfl, rfl⟩
      have k1 := kk ls hl
      dsimp only [List.map_cons, mSh] at k1 ⊢
      rw [hf, heq] at k1
      rw [heq] at hd
      exact lv_ixor hx hb hd  k1
    · cases hs
  · rename_i heq
    split at hs
    · cases hs
      refine ⟨fun ls hl => ?_, rfl, rfl⟩
      have k1 := kk ls hl
      dsimp only [List.map_cons, mSh] at k1 ⊢
      rw [hf, heq] at k1
      rw [heq] at hd
      exact lv_ishl hx hb hd  k1
    · cases hs
  · rename_i heq
    split at hs
    · cases hs
      refine ⟨fun ls hl => ?_, rfl, rfl⟩
      have k1 := kk ls hl
      dsimp only [List.map_cons, mSh] at k1 ⊢
      rw [hf, heq] at k1
      rw [heq] at hd
      exact lv_ishr hx hb hd  k1
    · cases hs
  · rename_i heq
    split at hs
    · cases hs
      refine ⟨fun ls hl => ?_, rfl, rfl⟩
      have k1 := kk ls hl
      dsimp only [List.map_cons, mSh] at k1 ⊢
      rw [hf, heq] at k1
      rw [heq] at hd
      exact lv_iushr hx hb hd rfl k1
    · cases hs
  · rename_i heq
    split at hs
    · split at hs
      · cases hs
      · rename_i hne
        cases hs
        refine ⟨fun ls hl => ?_, rfl, rfl⟩
        have k1 := kk ls hl
        dsimp only [List.map_cons, mSh] at k1 ⊢
        rw [hf, heq] at k1
        rw [heq] at hd
        exact lv_idiv hx hb hd hne k1
    · cases hs
  · rename_i heq
    split at hs
    · split at hs
      · cases hs
      · rename_i hne
        cases hs
        refine ⟨fun ls hl => ?_, rfl, rfl⟩
        have k1 := kk ls hl
        dsimp only [List.map_cons, mSh] at k1 ⊢
        rw [hf, heq] at k1
        rw [heq] at hd
        exact lv_irem hx hb hd hne k1
    · cases hs
  · rename_i heq
    split at hs
    · cases hs
      refine ⟨fun ls hl => ?_, rfl, rfl⟩
      have k1 := kk ls hl
      dsimp only [List.map_cons, mSh] at k1 ⊢
      rw [hf, heq] at k1
      rw [heq] at hd
      exact lv_ineg hx hb hd  k1
    · cases hs
  · cases hs
set_option maxHeartbeats 2000000 in
theorem mB2_sim (hx : p.tables.exec = Jvm.exec) (hb : c.code = cc) (hd : decode cc (mPcAt cs i) = .ok (en.2.1, mLen en.2.1)) (hf : mPcAt cs (i + 1) = mPcAt cs i + mLen en.2.1)
    (hs : mB2 en i L st h = some g) (kk : mFol p l e R s m args below meth c cs (mSh b x) Q H locs cells slots g) : mFol p l e R s m args below meth c cs (mSh b x) Q H locs cells slots (i, L, st, h) ∧ g.2.2.2 = h ∧ g.2.1.length = L.length := by
  unfold mB2 at hs
  split at hs
  · rename_i heq
    split at hs
    · cases hs
      refine ⟨fun ls hl => ?_, rfl, rfl⟩
      have k1 := kk ls hl
      dsimp only [List.map_cons, mSh] at k1 ⊢
      rw [hf, heq] at k1
      rw [heq] at hd
      exact lv_ladd hx hb hd  k1
    · cases hs
  · rename_i heq
    split at hs
    · cases hs
      refine ⟨fun ls hl => ?_, rfl, rfl⟩
      have k1 := kk ls hl
      dsimp only [List.map_cons, mSh] at k1 ⊢
      rw [hf, heq] at k1
      rw [heq] at hd
      exact lv_lsub hx hb hd  k1
    · cases hs
  · rename_i heq
    split at hs
    · cases hs
      refine ⟨fun ls hl => ?_, rfl, rfl⟩
      have k1 := kk ls hl
      dsimp only [List.map_cons, mSh] at k1 ⊢
      rw [hf, heq] at k1
      rw [heq] at hd
      exact lv_lmul hx hb hd  k1
    · cases hs
  · rename_i heq
    split at hs
    · cases hs
      refine ⟨fun ls hl => ?_, rfl, rfl⟩
      have k1 := kk ls hl
      dsimp only [List.map_cons, mSh] at k1 ⊢
      rw [hf, heq] at k1
      rw [heq] at hd
      exact lv_land hx hb hd  k1
    · cases hs
  · rename_i heq
    split at hs
    · cases hs
      refine ⟨fun ls hl => ?_, rfl, rfl⟩
      have k1 := kk ls hl
      dsimp only [List.map_cons, mSh] at k1 ⊢
      rw [hf, heq] at k1
      rw [heq] at hd
      exact lv_lor hx hb hd  k1
    · cases hs
  · rename_i heq
    split at hs
    · cases hs
      refine ⟨fun ls hl => ?_, rfl, rfl⟩
      have k1 := kk ls hl
      dsimp only [List.map_cons, mSh] at k1 ⊢
      rw [hf, heq] at k1
      rw [heq] at hd
      exact lv_lxor hx hb hd  k1
    · cases hs
  · rename_i heq
    split at hs
    · split at hs
      · cases hs
      · rename_i hne
        cases hs
        refine ⟨fun ls hl => ?_, rfl, rfl⟩
        have k1 := kk ls hl
        dsimp only [List.map_cons, mSh] at k1 ⊢
        rw [hf, heq] at k1
        rw [heq] at hd
        exact lv_ldiv hx hb hd hne k1
    · cases hs
  · rename_i heq
    split at hs
    · split at hs
      · cases hs
      · rename_i hne
        cases hs
        refine ⟨fun ls hl => ?_, rfl, rfl⟩
        have k1 := kk ls hl
        dsimp only [List.map_cons, mSh] at k1 ⊢
        rw [hf, heq] at k1
        rw [heq] at hd
        exact lv_lrem hx hb hd hne k1
    · cases hs
  · rename_i heq
    split at hs
    · cases hs
      refine ⟨fun ls hl => ?_, rfl, rfl⟩
      have k1 := kk ls hl
      dsimp only [List.map_cons, mSh] at k1 ⊢
      rw [hf, heq] at k1
      rw [heq] at hd
      exact lv_lshl hx hb hd rfl k1
    · cases hs
  · rename_i heq
    split at hs
    · cases hs
      refine ⟨fun ls hl => ?_, rfl, rfl⟩
      have k1 := kk ls hl
      dsimp only [List.map_cons, mSh] at k1 ⊢
      rw [hf, heq] at k1
      rw [heq] at hd
      exact lv_lushr hx hb hd rfl k1
    · cases hs
  · rename_i heq
    split at hs
    · cases hs
      refine ⟨fun ls hl => ?_, rfl, rfl⟩
      have k1 := kk ls hl
      dsimp only [List.map_cons, mSh] at k1 ⊢
      rw [hf, heq] at k1
      rw [heq] at hd
      exact W.lcmp hx hb hd  k1
    · cases hs
  · rename_i heq
    split at hs
    · cases hs
      refine ⟨fun ls hl => ?_, rfl, rfl⟩
      have k1 := kk ls hl
      dsimp only [List.map_cons, mSh] at k1 ⊢
      rw [hf, heq] at k1
      rw [heq] at hd
      exact lv_i2l hx hb hd rfl k1
    · cases hs
  · rename_i heq
    split at hs
    · cases hs
      refine ⟨fun ls hl => ?_, rfl, rfl⟩
      have k1 := kk ls hl
      dsimp only [List.map_cons, mSh] at k1 ⊢
      rw [hf, heq] at k1
      rw [heq] at hd
      exact lv_l2i hx hb hd rfl k1
    · cases hs
  · rename_i heq
    split at hs
    · cases hs
      refine ⟨fun ls hl => ?_, rfl, rfl⟩
      have k1 := kk ls hl
      dsimp only [List.map_cons, mSh] at k1 ⊢
      rw [hf, heq] at k1
      rw [heq] at hd
      exact lv_i2b hx hb hd rfl k1
    · cases hs
  · cases hs
end MSA
