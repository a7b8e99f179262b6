/-! the classes, their fields -/
def mW : List Cond := lw_tbl.filter goodWord
theorem mW_of {w : Cond} (i : Nat) (h : lw_tbl[i]? = some w) (hg : goodWord w = true) : w ∈ mW := List.mem_filter.mpr ⟨List.mem_of_getElem? h, hg⟩
def mT0 : u_T := fun k => match k with
  | 0 => ("FirstLanding", "rows", "[LFirstLanding$Row;", true)
  | 1 => ("FirstLanding", "texts", "[LFirstLanding$Text;", true)
  | 2 => ("FirstLanding", "now", "LFirstLanding$Embassy;", true)
  | 3 => ("FirstLanding", "kept", "[LFirstLanding$Embassy;", true)
  | 4 => ("FirstLanding", "reader", "LFirstLanding$Reader;", true)
  | 5 => ("FirstLanding", "walk", "LFirstLanding$Walk;", true)
  | 6 => ("FirstLanding", "planned", "LFirstLanding$Meetings;", true)
  | 7 => ("FirstLanding", "timesFound", "[I", true)
  | 8 => ("FirstLanding", "lastFinding", "I", false)
  | 9 => ("FirstLanding", "lastAsked", "I", false)
  | 10 => ("FirstLanding", "toldUpper", "J", false)
  | _ => ("FirstLanding", "toldLower", "J", false)
def mTy0 : Nat → FieldType := fun k => match k with
  | 0 => .array (.object "FirstLanding$Row")
  | 1 => .array (.object "FirstLanding$Text")
  | 2 => .object "FirstLanding$Embassy"
  | 3 => .array (.object "FirstLanding$Embassy")
  | 4 => .object "FirstLanding$Reader"
  | 5 => .object "FirstLanding$Walk"
  | 6 => .object "FirstLanding$Meetings"
  | 7 => .array .int
  | 8 => .int
  | 9 => .int
  | 10 => .long
  | _ => .long
def mT1 : u_T := fun k => match k with
  | 0 => ("FirstLanding$Embassy", "kinds", "[I", true)
  | 1 => ("FirstLanding$Embassy", "looks", "[I", true)
  | 2 => ("FirstLanding$Embassy", "deeds", "[I", true)
  | 3 => ("FirstLanding$Embassy", "people", "I", false)
  | 4 => ("FirstLanding$Embassy", "up", "I", false)
  | 5 => ("FirstLanding$Embassy", "done", "I", false)
  | _ => ("FirstLanding$Embassy", "treaties", "J", false)
def mTy1 : Nat → FieldType := fun k => match k with
  | 0 => .array .int
  | 1 => .array .int
  | 2 => .array .int
  | 3 => .int
  | 4 => .int
  | 5 => .int
  | _ => .long
def mT2 : u_T := fun k => match k with
  | 0 => ("FirstLanding$Reader", "draft", "LFirstLanding$Embassy;", true)
  | _ => ("FirstLanding$Reader", "place", "I", false)
def mTy2 : Nat → FieldType := fun k => match k with
  | 0 => .object "FirstLanding$Embassy"
  | _ => .int
def mT3 : u_T := fun k => match k with
  | 0 => ("FirstLanding$Walk", "agreed", "[I", true)
  | 1 => ("FirstLanding$Walk", "queue", "[I", true)
  | 2 => ("FirstLanding$Walk", "reached", "[I", true)
  | _ => ("FirstLanding$Walk", "firstStep", "I", false)
def mTy3 : Nat → FieldType := fun k => match k with
  | 0 => .array .int
  | 1 => .array .int
  | 2 => .array .int
  | _ => .int
def mT4 : u_T := fun k => match k with
  | 0 => ("FirstLanding$Meetings", "least", "[I", true)
  | _ => ("FirstLanding$Meetings", "before", "[I", true)
def mTy4 : Nat → FieldType := fun k => match k with
  | 0 => .array .int
  | _ => .array .int
def mT5 : u_T := fun k => match k with
  | 0 => ("FirstLanding$Row", "places", "[I", true)
  | _ => ("FirstLanding$Row", "size", "I", false)
def mTy5 : Nat → FieldType := fun k => match k with
  | 0 => .array .int
  | _ => .int
def mT6 : u_T := fun k => match k with
  | 0 => ("FirstLanding$Text", "signs", "[B", true)
  | _ => ("FirstLanding$Text", "size", "I", false)
def mTy6 : Nat → FieldType := fun k => match k with
  | 0 => .array .byte
  | _ => .int
def mT7 : u_T := fun k => match k with
  | 0 => ("FirstLandingModel", "rowSizes", "[I", true)
  | 1 => ("FirstLandingModel", "rows", "[I", true)
  | 2 => ("FirstLandingModel", "textSizes", "[I", true)
  | 3 => ("FirstLandingModel", "texts", "[I", true)
  | 4 => ("FirstLandingModel", "now", "[I", true)
  | 5 => ("FirstLandingModel", "read", "[I", true)
  | 6 => ("FirstLandingModel", "keeps", "[I", true)
  | 7 => ("FirstLandingModel", "kept", "[Z", true)
  | 8 => ("FirstLandingModel", "asked", "I", false)
  | 9 => ("FirstLandingModel", "upper", "J", false)
  | 10 => ("FirstLandingModel", "lower", "J", false)
  | 11 => ("FirstLandingModel", "finding", "I", false)
  | 12 => ("FirstLandingModel", "findings", "[I", true)
  | 13 => ("FirstLandingModel", "place", "I", false)
  | 14 => ("FirstLandingModel", "firstPair", "I", false)
  | 15 => ("FirstLandingModel", "far", "[I", true)
  | 16 => ("FirstLandingModel", "agreed", "[I", true)
  | 17 => ("FirstLandingModel", "unmetOnes", "[I", true)
  | 18 => ("FirstLandingModel", "ups", "[I", true)
  | 19 => ("FirstLandingModel", "tried", "[I", true)
  | _ => ("FirstLandingModel", "best", "[I", true)
def mTy7 : Nat → FieldType := fun k => match k with
  | 0 => .array .int
  | 1 => .array .int
  | 2 => .array .int
  | 3 => .array .int
  | 4 => .array .int
  | 5 => .array .int
  | 6 => .array .int
  | 7 => .array .boolean
  | 8 => .int
  | 9 => .long
  | 10 => .long
  | 11 => .int
  | 12 => .array .int
  | 13 => .int
  | 14 => .int
  | 15 => .array .int
  | 16 => .array .int
  | 17 => .array .int
  | 18 => .array .int
  | 19 => .array .int
  | _ => .array .int
def mCl : List vw_C := [("FirstLanding", mT0, 12), ("FirstLanding$Embassy", mT1, 7), ("FirstLanding$Reader", mT2, 2), ("FirstLanding$Walk", mT3, 4), ("FirstLanding$Meetings", mT4, 2), ("FirstLanding$Row", mT5, 2), ("FirstLanding$Text", mT6, 2), ("FirstLandingModel", mT7, 21)]
def mFT : Nat → Nat → FieldType := fun c => match c with
  | 0 => mTy0
  | 1 => mTy1
  | 2 => mTy2
  | 3 => mTy3
  | 4 => mTy4
  | 5 => mTy5
  | 6 => mTy6
  | _ => mTy7
def mTagTy : Nat → FieldType := fun t => match t with
  | 50 => .int
  | 51 => .byte
  | 52 => .boolean
  | 53 => .object "FirstLanding$Row"
  | 54 => .object "FirstLanding$Text"
  | _ => .object "FirstLanding$Embassy"
def mTys (cA : Nat → ClassId) : List (ClassId × FieldType) := [(cA 50, .int), (cA 51, .byte), (cA 52, .boolean), (cA 53, .object "FirstLanding$Row"), (cA 54, .object "FirstLanding$Text"), (cA 55, .object "FirstLanding$Embassy")]
theorem mIn0 : ∀ w ∈ u_ws "FirstLanding" mT0 12, w ∈ mW := by
  intro w hw
  refine List.mem_filter.mpr ⟨?_, ?_⟩
  · exact (show ∀ w ∈ u_ws "FirstLanding" mT0 12, w ∈ lw_tbl by decide +kernel) w hw
  · exact (show ∀ w ∈ u_ws "FirstLanding" mT0 12, goodWord w = true by decide +kernel) w hw
theorem mNm0 : ∀ a, a < 12 → ∀ b, b < 12 → a ≠ b → (mT0 a).2.1 ≠ (mT0 b).2.1 := by decide +kernel
theorem mPf0 : ∀ k, k < 12 → parseFieldDescriptor (mT0 k).2.2.1 = some (mTy0 k) := by decide +kernel
theorem mIn1 : ∀ w ∈ u_ws "FirstLanding$Embassy" mT1 7, w ∈ mW := by
  intro w hw
  refine List.mem_filter.mpr ⟨?_, ?_⟩
  · exact (show ∀ w ∈ u_ws "FirstLanding$Embassy" mT1 7, w ∈ lw_tbl by decide +kernel) w hw
  · exact (show ∀ w ∈ u_ws "FirstLanding$Embassy" mT1 7, goodWord w = true by decide +kernel) w hw
theorem mNm1 : ∀ a, a < 7 → ∀ b, b < 7 → a ≠ b → (mT1 a).2.1 ≠ (mT1 b).2.1 := by decide +kernel
theorem mPf1 : ∀ k, k < 7 → parseFieldDescriptor (mT1 k).2.2.1 = some (mTy1 k) := by decide +kernel
theorem mIn2 : ∀ w ∈ u_ws "FirstLanding$Reader" mT2 2, w ∈ mW := by
  intro w hw
  refine List.mem_filter.mpr ⟨?_, ?_⟩
  · exact (show ∀ w ∈ u_ws "FirstLanding$Reader" mT2 2, w ∈ lw_tbl by decide +kernel) w hw
  · exact (show ∀ w ∈ u_ws "FirstLanding$Reader" mT2 2, goodWord w = true by decide +kernel) w hw
theorem mNm2 : ∀ a, a < 2 → ∀ b, b < 2 → a ≠ b → (mT2 a).2.1 ≠ (mT2 b).2.1 := by decide +kernel
theorem mPf2 : ∀ k, k < 2 → parseFieldDescriptor (mT2 k).2.2.1 = some (mTy2 k) := by decide +kernel
theorem mIn3 : ∀ w ∈ u_ws "FirstLanding$Walk" mT3 4, w ∈ mW := by
  intro w hw
  refine List.mem_filter.mpr ⟨?_, ?_⟩
  · exact (show ∀ w ∈ u_ws "FirstLanding$Walk" mT3 4, w ∈ lw_tbl by decide +kernel) w hw
  · exact (show ∀ w ∈ u_ws "FirstLanding$Walk" mT3 4, goodWord w = true by decide +kernel) w hw
theorem mNm3 : ∀ a, a < 4 → ∀ b, b < 4 → a ≠ b → (mT3 a).2.1 ≠ (mT3 b).2.1 := by decide +kernel
theorem mPf3 : ∀ k, k < 4 → parseFieldDescriptor (mT3 k).2.2.1 = some (mTy3 k) := by decide +kernel
theorem mIn4 : ∀ w ∈ u_ws "FirstLanding$Meetings" mT4 2, w ∈ mW := by
  intro w hw
  refine List.mem_filter.mpr ⟨?_, ?_⟩
  · exact (show ∀ w ∈ u_ws "FirstLanding$Meetings" mT4 2, w ∈ lw_tbl by decide +kernel) w hw
  · exact (show ∀ w ∈ u_ws "FirstLanding$Meetings" mT4 2, goodWord w = true by decide +kernel) w hw
theorem mNm4 : ∀ a, a < 2 → ∀ b, b < 2 → a ≠ b → (mT4 a).2.1 ≠ (mT4 b).2.1 := by decide +kernel
theorem mPf4 : ∀ k, k < 2 → parseFieldDescriptor (mT4 k).2.2.1 = some (mTy4 k) := by decide +kernel
theorem mIn5 : ∀ w ∈ u_ws "FirstLanding$Row" mT5 2, w ∈ mW := by
  intro w hw
  refine List.mem_filter.mpr ⟨?_, ?_⟩
  · exact (show ∀ w ∈ u_ws "FirstLanding$Row" mT5 2, w ∈ lw_tbl by decide +kernel) w hw
  · exact (show ∀ w ∈ u_ws "FirstLanding$Row" mT5 2, goodWord w = true by decide +kernel) w hw
theorem mNm5 : ∀ a, a < 2 → ∀ b, b < 2 → a ≠ b → (mT5 a).2.1 ≠ (mT5 b).2.1 := by decide +kernel
theorem mPf5 : ∀ k, k < 2 → parseFieldDescriptor (mT5 k).2.2.1 = some (mTy5 k) := by decide +kernel
theorem mIn6 : ∀ w ∈ u_ws "FirstLanding$Text" mT6 2, w ∈ mW := by
  intro w hw
  refine List.mem_filter.mpr ⟨?_, ?_⟩
  · exact (show ∀ w ∈ u_ws "FirstLanding$Text" mT6 2, w ∈ lw_tbl by decide +kernel) w hw
  · exact (show ∀ w ∈ u_ws "FirstLanding$Text" mT6 2, goodWord w = true by decide +kernel) w hw
theorem mNm6 : ∀ a, a < 2 → ∀ b, b < 2 → a ≠ b → (mT6 a).2.1 ≠ (mT6 b).2.1 := by decide +kernel
theorem mPf6 : ∀ k, k < 2 → parseFieldDescriptor (mT6 k).2.2.1 = some (mTy6 k) := by decide +kernel
theorem mIn7 : ∀ w ∈ u_ws "FirstLandingModel" mT7 21, w ∈ mW := by
  intro w hw
  refine List.mem_filter.mpr ⟨?_, ?_⟩
  · exact (show ∀ w ∈ u_ws "FirstLandingModel" mT7 21, w ∈ lw_tbl by decide +kernel) w hw
  · exact (show ∀ w ∈ u_ws "FirstLandingModel" mT7 21, goodWord w = true by decide +kernel) w hw
theorem mNm7 : ∀ a, a < 21 → ∀ b, b < 21 → a ≠ b → (mT7 a).2.1 ≠ (mT7 b).2.1 := by decide +kernel
theorem mPf7 : ∀ k, k < 21 → parseFieldDescriptor (mT7 k).2.2.1 = some (mTy7 k) := by decide +kernel
theorem mCl_ok : ∀ (ci : Nat) (q : vw_C), mCl[ci]? = some q → (∀ w ∈ u_ws q.1 q.2.1 q.2.2, w ∈ mW) ∧ (∀ k, k < q.2.2 → parseFieldDescriptor (q.2.1 k).2.2.1 = some (mFT ci k)) ∧ (∀ a, a < q.2.2 → ∀ b, b < q.2.2 → a ≠ b → (q.2.1 a).2.1 ≠ (q.2.1 b).2.1) := by
  intro ci q hq
  match ci, hq with
  | 0, hq => cases hq; exact ⟨mIn0, mPf0, mNm0⟩
  | 1, hq => cases hq; exact ⟨mIn1, mPf1, mNm1⟩
  | 2, hq => cases hq; exact ⟨mIn2, mPf2, mNm2⟩
  | 3, hq => cases hq; exact ⟨mIn3, mPf3, mNm3⟩
  | 4, hq => cases hq; exact ⟨mIn4, mPf4, mNm4⟩
  | 5, hq => cases hq; exact ⟨mIn5, mPf5, mNm5⟩
  | 6, hq => cases hq; exact ⟨mIn6, mPf6, mNm6⟩
  | 7, hq => cases hq; exact ⟨mIn7, mPf7, mNm7⟩
  | k + 8, hq => simp [mCl] at hq
