/-! THE SMALL MACHINE: bytecode over a logical heap (cells in the order in which they were made), as a function with fuel. A value `.ref k` is the k-th cell made since the law began, `.retAddr n` the n-th array that was there before (0 the script, 1 LETTERS, 2 PARENTS). -/
abbrev mC : Type := Nat × List Value
abbrev mH : Type := List mC
abbrev mL : Type := List (Option Value)
abbrev mE : Type := Nat × Instr × Nat × List Int
abbrev mG : Type := Nat × mL × List Value × mH
abbrev mR : Type := Option Value × mH
/-- what a logical value is on the machine -/
def mSh (b : Nat) (x : Nat → Nat) : Value → Value
  | .ref k => .ref (b + k)
  | .retAddr n => .ref (x n)
  | v => v
theorem mSh_cat (b : Nat) (x : Nat → Nat) (v : Value) : (mSh b x v).category = v.category := by cases v <;> rfl
theorem mSh_int (b : Nat) (x : Nat → Nat) (v : Int32) : mSh b x (.int v) = .int v := rfl
theorem mSh_long (b : Nat) (x : Nat → Nat) (v : Int64) : mSh b x (.long v) = .long v := rfl
def mIsI : Value → Bool
  | .int _ => true
  | _ => false
def mIsJ : Value → Bool
  | .long _ => true
  | _ => false
def mIsA : Value → Bool
  | .ref _ => true
  | .null => true
  | .retAddr _ => true
  | _ => false
/-- the locals -/
def mKill (L : mL) (k : Nat) : mL := match k with
  | 0 => L
  | j + 1 => match L[j]? with
    | some (some v) => if v.category = 2 then L.set j none else L
    | _ => L
def mS1 (L : mL) (k : Nat) (v : Value) : mL := (mKill L k).set k (some v)
def mS2 (L : mL) (k : Nat) (v : Value) : mL := ((mKill L k).set k (some v)).set (k + 1) none
def mAs (f : Value → Value) (L : mL) : List (Nat × Value) := L.zipIdx.filterMap (fun q => q.1.map (fun v => (q.2, f v)))
theorem mAs_mem {f : Value → Value} {L : mL} {k : Nat} {w : Value} : (k, w) ∈ mAs f L ↔ ∃ v, L[k]? = some (some v) ∧ f v = w := by
  unfold mAs
  rw [List.mem_filterMap]
  constructor
  · rintro ⟨⟨o, j⟩, h1, h2⟩
    cases o with
    | none => cases h2
    | some v =>
      have h3 : (j, f v) = (k, w) := Option.some.inj h2
      cases h3
      exact ⟨v, List.mem_zipIdx_iff_getElem?.mp h1, rfl⟩
  · rintro ⟨v, h1, rfl⟩
    exact ⟨(some v, k), List.mem_zipIdx_iff_getElem?.mpr h1, rfl⟩
theorem mAs_at {f : Value → Value} {L : mL} {ls : Array Slot} {n k : Nat} {v : Value} (h : lv_has ls n (mAs f L)) (hk : L[k]? = some (some v)) : ls[k]? = some (.val (f v)) := h.2.2 (k, f v) (mAs_mem.mpr ⟨v, hk, rfl⟩)
theorem lv_mono {ls : Array Slot} {n : Nat} {l l' : List (Nat × Value)} (h : lv_has ls n l) (hl : ∀ q ∈ l', q ∈ l) : lv_has ls n l' := ⟨h.1, h.2.1, fun q hq => h.2.2 q (hl q hq)⟩
theorem mKill_len (L : mL) (k : Nat) : (mKill L k).length = L.length := by
  unfold mKill
  cases k with
  | zero => rfl
  | succ j =>
    dsimp only
    split
    · split <;> simp
    · rfl
theorem mS1_len (L : mL) (k : Nat) (v : Value) : (mS1 L k v).length = L.length := by simp [mS1, mKill_len]
theorem mS2_len (L : mL) (k : Nat) (v : Value) : (mS2 L k v).length = L.length := by simp [mS2, mKill_len]
theorem mKill_get {L : mL} {k j : Nat} {v : Value} (h : (mKill L k)[j]? = some (some v)) : L[j]? = some (some v) ∧ ¬ (j + 1 = k ∧ v.category = 2) := by
  unfold mKill at h
  cases k with
  | zero => exact ⟨h, by omega⟩
  | succ i =>
    dsimp only at h
    split at h
    · rename_i w hw
      split at h
      · by_cases hj : j = i
        · subst hj
          rw [List.getElem?_set_self (List.getElem?_eq_some_iff.mp hw).1] at h
          cases h
        · rw [List.getElem?_set_ne (Ne.symm hj)] at h
          exact ⟨h, by omega⟩
      · rename_i hc
        refine ⟨h, ?_⟩
        rintro ⟨e1, e2⟩
        have e3 : j = i := by omega
        subst e3
        rw [h] at hw
        cases hw
        exact hc e2
    · rename_i hn
      refine ⟨h, ?_⟩
      rintro ⟨e1, e2⟩
      have e3 : j = i := by omega
      subst e3
      exact hn v h
theorem mS1_has {f : Value → Value} (hf : ∀ v, (f v).category = v.category) {L : mL} {ls : Array Slot} {n k : Nat} {v : Value} (h : lv_has ls n ((k, f v) :: (mAs f L).filter (fun q => !(q.1 == k) && !(q.1 + 1 == k && q.2.category == 2)))) : lv_has ls n (mAs f (mS1 L k v)) := by
  refine lv_mono h ?_
  rintro ⟨j, w⟩ hq
  obtain ⟨u, h1, rfl⟩ := mAs_mem.mp hq
  unfold mS1 at h1
  by_cases hj : j = k
  · subst hj
    rw [List.getElem?_set] at h1
    simp only [if_true] at h1
    split at h1
    · cases h1
      exact List.mem_cons_self
    · cases h1
  · rw [List.getElem?_set_ne (Ne.symm hj)] at h1
    obtain ⟨h2, h3⟩ := mKill_get h1
    refine List.mem_cons_of_mem _ (List.mem_filter.mpr ⟨mAs_mem.mpr ⟨u, h2, rfl⟩, ?_⟩)
    simp only [hf, Bool.and_eq_true, Bool.not_eq_true', beq_eq_false_iff_ne, Bool.and_eq_false_iff]
    refine ⟨hj, ?_⟩
    by_cases e : j + 1 = k
    · exact Or.inr (fun z => h3 ⟨e, z⟩)
    · exact Or.inl e
theorem mS2_has {f : Value → Value} (hf : ∀ v, (f v).category = v.category) {L : mL} {ls : Array Slot} {n k : Nat} {v : Value} (h : lv_has ls n ((k, f v) :: (mAs f L).filter (fun q => !(q.1 == k) && (!(q.1 == k + 1) && !(q.1 + 1 == k && q.2.category == 2))))) : lv_has ls n (mAs f (mS2 L k v)) := by
  refine lv_mono h ?_
  rintro ⟨j, w⟩ hq
  obtain ⟨u, h1, rfl⟩ := mAs_mem.mp hq
  unfold mS2 at h1
  by_cases hk : j = k + 1
  · subst hk
    rw [List.getElem?_set] at h1
    simp only [if_true] at h1
    split at h1 <;> cases h1
  rw [List.getElem?_set_ne (Ne.symm hk)] at h1
  by_cases hj : j = k
  · subst hj
    rw [List.getElem?_set] at h1
    simp only [if_true] at h1
    split at h1
    · cases h1
      exact List.mem_cons_self
    · cases h1
  · rw [List.getElem?_set_ne (Ne.symm hj)] at h1
    obtain ⟨h2, h3⟩ := mKill_get h1
    refine List.mem_cons_of_mem _ (List.mem_filter.mpr ⟨mAs_mem.mpr ⟨u, h2, rfl⟩, ?_⟩)
    simp only [hf, Bool.and_eq_true, Bool.not_eq_true', beq_eq_false_iff_ne, Bool.and_eq_false_iff]
    refine ⟨hj, hk, ?_⟩
    by_cases e : j + 1 = k
    · exact Or.inr (fun z => h3 ⟨e, z⟩)
    · exact Or.inl e
/-- the locals at a method's entry -/
def mEnt : List Value → mL
  | [] => []
  | v :: r => if v.category = 2 then some v :: none :: mEnt r else some v :: mEnt r
def mEntL (n : Nat) (av : List Value) : mL := mEnt av ++ List.replicate (n - (mEnt av).length) none
theorem mEnt_len (f : Value → Value) (hf : ∀ v, (f v).category = v.category) (av : List Value) : (lg_sl (av.map f)).length = (mEnt av).length := by
  induction av with
  | nil => rfl
  | cons v r ih =>
    unfold lg_sl at ih ⊢
    simp only [List.map_cons, List.flatMap_cons, List.length_append, hf, mEnt]
    rw [ih]
    split <;> simp <;> omega
theorem mEnt_get (f : Value → Value) (hf : ∀ v, (f v).category = v.category) (av : List Value) : ∀ (k : Nat) (v : Value), (mEnt av)[k]? = some (some v) → (lg_sl (av.map f))[k]? = some (.val (f v)) := by
  induction av with
  | nil => intro k v h; simp [mEnt] at h
  | cons u r ih =>
    intro k v h
    unfold lg_sl at ih ⊢
    simp only [List.map_cons, List.flatMap_cons, hf]
    simp only [mEnt] at h
    split at h
    · rename_i hc
      rw [if_pos hc]
      match k, h with
      | 0, h => cases h; rfl
      | 1, h => cases h
      | k + 2, h => exact ih k v h
    · rename_i hc
      rw [if_neg hc]
      match k, h with
      | 0, h => cases h; rfl
      | k + 1, h => exact ih k v h
theorem mEntL_has (f : Value → Value) (hf : ∀ v, (f v).category = v.category) (av : List Value) {n : Nat} (hn : (mEnt av).length ≤ n) : lv_has ((lg_sl (av.map f) ++ List.replicate (n - (lg_sl (av.map f)).length) Slot.unset).toArray) n (mAs f (mEntL n av)) := by
  have h := lv_entry (av.map f) (n := n) (by rw [mEnt_len f hf]; exact hn)
  refine ⟨h.1, h.2.1, ?_⟩
  rintro ⟨k, w⟩ hq
  obtain ⟨v, h1, rfl⟩ := mAs_mem.mp hq
  unfold mEntL at h1
  by_cases hk : k < (mEnt av).length
  · rw [List.getElem?_append_left hk] at h1
    have h2 := mEnt_get f hf av k v h1
    show (_ : List Slot).toArray[k]? = _
    rw [List.getElem?_toArray, List.getElem?_append_left (by rw [mEnt_len f hf]; exact hk)]
    exact h2
  · rw [List.getElem?_append_right (by omega)] at h1
    rw [List.getElem?_replicate] at h1
    split at h1 <;> cases h1
theorem mEntL_len (n : Nat) (av : List Value) (h : (mEnt av).length ≤ n) : (mEntL n av).length = n := by simp [mEntL]; omega
