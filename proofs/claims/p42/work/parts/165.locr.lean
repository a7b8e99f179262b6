/-! a run of places of a code, read over short pieces of it -/
def mCokRG (tab : List mM) (own : String) (ini : Bool) (bs : ByteArray) (cs : List mE) (lo n : Nat) : Bool := ((cs.zipIdx.drop lo).take n).all (fun q => mEokG tab own ini bs cs q.2 q.1)
theorem mCokRG_ok {tab : List mM} {own : String} {ini : Bool} {bs : ByteArray} {cs : List mE} {lo n : Nat} (h : mCokRG tab own ini bs cs lo n = true) : mCokR tab own ini bs cs lo n = true :=
  List.all_eq_true.mpr (fun q hq => mEokG_ok (List.all_eq_true.mp h q hq))
