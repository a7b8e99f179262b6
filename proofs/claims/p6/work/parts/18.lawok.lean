theorem mLaw_len : mLaw.length = 977 := by decide +kernel
theorem mLaw_ok : mCok mTab "FirstLandingLaw" false code mLaw = true := by
  refine mCok_of 40 (by decide) fun j hj => ?_
  rw [mLaw_len] at hj
  have hj2 : j < 25 := by omega
  match j, hj2 with
  | 0, _ => exact mLk0
  | 1, _ => exact mLk1
  | 2, _ => exact mLk2
  | 3, _ => exact mLk3
  | 4, _ => exact mLk4
  | 5, _ => exact mLk5
  | 6, _ => exact mLk6
  | 7, _ => exact mLk7
  | 8, _ => exact mLk8
  | 9, _ => exact mLk9
  | 10, _ => exact mLk10
  | 11, _ => exact mLk11
  | 12, _ => exact mLk12
  | 13, _ => exact mLk13
  | 14, _ => exact mLk14
  | 15, _ => exact mLk15
  | 16, _ => exact mLk16
  | 17, _ => exact mLk17
  | 18, _ => exact mLk18
  | 19, _ => exact mLk19
  | 20, _ => exact mLk20
  | 21, _ => exact mLk21
  | 22, _ => exact mLk22
  | 23, _ => exact mLk23
  | 24, _ => exact mLk24
  | j + 25, h => omega
