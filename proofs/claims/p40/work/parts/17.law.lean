/-! the law's own code -/
theorem mCokR_Q {tab : List mM} {own : String} {ini : Bool} {bs : ByteArray} {cs : List mE} {lo n : Nat} (hw : eWk bs cs 0 bs.data.toList = true) (h : ((cs.zipIdx.drop lo).take n).all (fun q => mErQ tab own ini cs q.2 q.1) = true) : mCokR tab own ini bs cs lo n = true :=
  List.all_eq_true.mpr (fun q hq => mEok_Q hw (List.mem_zipIdx_iff_getElem?.mp (List.mem_of_mem_drop (List.mem_of_mem_take hq))) (List.all_eq_true.mp h q hq))
set_option maxRecDepth 1000000 in
theorem mLwW : eWk code mLaw 0 code.data.toList = true := by decide +kernel
set_option maxRecDepth 1000000 in
theorem mLk0 : mCokR mTab "FirstLandingLaw" false code mLaw 0 140 = true := mCokR_Q mLwW (by decide +kernel)
set_option maxRecDepth 1000000 in
theorem mLk1 : mCokR mTab "FirstLandingLaw" false code mLaw 140 140 = true := mCokR_Q mLwW (by decide +kernel)
set_option maxRecDepth 1000000 in
theorem mLk2 : mCokR mTab "FirstLandingLaw" false code mLaw 280 140 = true := mCokR_Q mLwW (by decide +kernel)
set_option maxRecDepth 1000000 in
theorem mLk3 : mCokR mTab "FirstLandingLaw" false code mLaw 420 140 = true := mCokR_Q mLwW (by decide +kernel)
set_option maxRecDepth 1000000 in
theorem mLk4 : mCokR mTab "FirstLandingLaw" false code mLaw 560 140 = true := mCokR_Q mLwW (by decide +kernel)
set_option maxRecDepth 1000000 in
theorem mLk5 : mCokR mTab "FirstLandingLaw" false code mLaw 700 140 = true := mCokR_Q mLwW (by decide +kernel)
set_option maxRecDepth 1000000 in
theorem mLk6 : mCokR mTab "FirstLandingLaw" false code mLaw 840 140 = true := mCokR_Q mLwW (by decide +kernel)
set_option maxRecDepth 1000000 in
theorem mLaw_len : mLaw.length = 977 := by decide +kernel
theorem mLaw_ok : mCok mTab "FirstLandingLaw" false code mLaw = true := by
  refine mCok_of 140 (by decide) fun j hj => ?_
  rw [mLaw_len] at hj
  have hj2 : j < 7 := by omega
  match j, hj2 with
  | 0, _ => exact mLk0
  | 1, _ => exact mLk1
  | 2, _ => exact mLk2
  | 3, _ => exact mLk3
  | 4, _ => exact mLk4
  | 5, _ => exact mLk5
  | 6, _ => exact mLk6
  | j + 7, h => omega
