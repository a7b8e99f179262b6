/-! steps, where who is up is among the people -/
theorem vStepsV {sc : List Int32} {h : mH} (x : Int32) (hp : vP h) : ∃ z1 h1 z2 h2, nEv sc 100 84 (.ref 0 :: [x].map Value.int) h (some (.int z1), h1) ∧ aHp h1 ∧ nEv sc 100 190 (.ref 53 :: [x].map Value.int) h1 (some (.int z2), h2) ∧ vE h h2 ∧ z2 = z1 := vSteps x hp hp.1.2.1.2.2.2.2.2.1
