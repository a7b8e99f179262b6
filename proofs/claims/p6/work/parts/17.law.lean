/-! the law's own code -/
theorem mCokR_Q {tab : List mM} {own : String} {ini : Bool} {bs : ByteArray} {cs : List mE} {lo n : Nat} (hw : eWk bs cs 0 bs.data.toList = true) (h : ((cs.zipIdx.drop lo).take n).all (fun q => mErQ tab own ini cs q.2 q.1) = true) : mCokR tab own ini bs cs lo n = true :=
  List.all_eq_true.mpr (fun q hq => mEok_Q hw (List.mem_zipIdx_iff_getElem?.mp (List.mem_of_mem_drop (List.mem_of_mem_take hq))) (List.all_eq_true.mp h q hq))
set_option maxRecDepth 1000000 in
theorem mLwW : eWk code mLaw 0 code.data.toList = true := by decide +kernel
set_option maxRecDepth 1000000 in
theorem mLk0 : mCokR mTab "FirstLandingLaw" false code mLaw 0 40 = true := mCokR_Q mLwW (by decide +kernel)
set_option maxRecDepth 1000000 in
theorem mLk1 : mCokR mTab "FirstLandingLaw" false code mLaw 40 40 = true := mCokR_Q mLwW (by decide +kernel)
set_option maxRecDepth 1000000 in
theorem mLk2 : mCokR mTab "FirstLandingLaw" false code mLaw 80 40 = true := mCokR_Q mLwW (by decide +kernel)
set_option maxRecDepth 1000000 in
theorem mLk3 : mCokR mTab "FirstLandingLaw" false code mLaw 120 40 = true := mCokR_Q mLwW (by decide +kernel)
set_option maxRecDepth 1000000 in
theorem mLk4 : mCokR mTab "FirstLandingLaw" false code mLaw 160 40 = true := mCokR_Q mLwW (by decide +kernel)
set_option maxRecDepth 1000000 in
theorem mLk5 : mCokR mTab "FirstLandingLaw" false code mLaw 200 40 = true := mCokR_Q mLwW (by decide +kernel)
set_option maxRecDepth 1000000 in
theorem mLk6 : mCokR mTab "FirstLandingLaw" false code mLaw 240 40 = true := mCokR_Q mLwW (by decide +kernel)
set_option maxRecDepth 1000000 in
theorem mLk7 : mCokR mTab "FirstLandingLaw" false code mLaw 280 40 = true := mCokR_Q mLwW (by decide +kernel)
set_option maxRecDepth 1000000 in
theorem mLk8 : mCokR mTab "FirstLandingLaw" false code mLaw 320 40 = true := mCokR_Q mLwW (by decide +kernel)
set_option maxRecDepth 1000000 in
theorem mLk9 : mCokR mTab "FirstLandingLaw" false code mLaw 360 40 = true := mCokR_Q mLwW (by decide +kernel)
set_option maxRecDepth 1000000 in
theorem mLk10 : mCokR mTab "FirstLandingLaw" false code mLaw 400 40 = true := mCokR_Q mLwW (by decide +kernel)
set_option maxRecDepth 1000000 in
theorem mLk11 : mCokR mTab "FirstLandingLaw" false code mLaw 440 40 = true := mCokR_Q mLwW (by decide +kernel)
set_option maxRecDepth 1000000 in
theorem mLk12 : mCokR mTab "FirstLandingLaw" false code mLaw 480 40 = true := mCokR_Q mLwW (by decide +kernel)
set_option maxRecDepth 1000000 in
theorem mLk13 : mCokR mTab "FirstLandingLaw" false code mLaw 520 40 = true := mCokR_Q mLwW (by decide +kernel)
set_option maxRecDepth 1000000 in
theorem mLk14 : mCokR mTab "FirstLandingLaw" false code mLaw 560 40 = true := mCokR_Q mLwW (by decide +kernel)
set_option maxRecDepth 1000000 in
theorem mLk15 : mCokR mTab "FirstLandingLaw" false code mLaw 600 40 = true := mCokR_Q mLwW (by decide +kernel)
set_option maxRecDepth 1000000 in
theorem mLk16 : mCokR mTab "FirstLandingLaw" false code mLaw 640 40 = true := mCokR_Q mLwW (by decide +kernel)
set_option maxRecDepth 1000000 in
theorem mLk17 : mCokR mTab "FirstLandingLaw" false code mLaw 680 40 = true := mCokR_Q mLwW (by decide +kernel)
set_option maxRecDepth 1000000 in
theorem mLk18 : mCokR mTab "FirstLandingLaw" false code mLaw 720 40 = true := mCokR_Q mLwW (by decide +kernel)
set_option maxRecDepth 1000000 in
theorem mLk19 : mCokR mTab "FirstLandingLaw" false code mLaw 760 40 = true := mCokR_Q mLwW (by decide +kernel)
set_option maxRecDepth 1000000 in
theorem mLk20 : mCokR mTab "FirstLandingLaw" false code mLaw 800 40 = true := mCokR_Q mLwW (by decide +kernel)
set_option maxRecDepth 1000000 in
theorem mLk21 : mCokR mTab "FirstLandingLaw" false code mLaw 840 40 = true := mCokR_Q mLwW (by decide +kernel)
set_option maxRecDepth 1000000 in
theorem mLk22 : mCokR mTab "FirstLandingLaw" false code mLaw 880 40 = true := mCokR_Q mLwW (by decide +kernel)
set_option maxRecDepth 1000000 in
theorem mLk23 : mCokR mTab "FirstLandingLaw" false code mLaw 920 40 = true := mCokR_Q mLwW (by decide +kernel)
set_option maxRecDepth 1000000 in
theorem mLk24 : mCokR mTab "FirstLandingLaw" false code mLaw 960 40 = true := mCokR_Q mLwW (by decide +kernel)
