/-! promises 93 to 98 -/
/-- (('FirstLandingModel', 'keep', '(I)I'), (('r', 53),)) -/
noncomputable def kC95 : aCt := (178, (([((-2147483648), 2147483647)], [], [], (10000000000000000000000000000000000000000, [])), [(178, 0, [(2, (0, []), 53), (0, (0, [(1, 0)]), 0)], [])], [(0, 0, 1, (0, []))]), (some (0, (-4), 40)), [(60, 0, 602), (61, 0, 2)])
noncomputable def kA95 : List aAn := []
set_option maxRecDepth 100000 in
theorem kM95 (sc : List Int32) : nMe sc 18 kC95 := qzCk_ok (dm := 9) (T := [kC92, kC93, kC94]) (As := kA95) (hd := []) (fk := [(178, 23, 1, 0, 0, (0, [])), (178, 23, 1, 0, 2, (0, []))]) (n := 2000000) (List.forall_mem_cons.mpr ⟨(kM92 sc).mono (by decide), List.forall_mem_cons.mpr ⟨(kM93 sc).mono (by decide), List.forall_mem_cons.mpr ⟨(kM94 sc).mono (by decide), List.forall_mem_nil _⟩⟩⟩) (by decide +kernel)
/-- (('FirstLanding', 'on', '(I)I'), (('r', 0),)) -/
noncomputable def kC96 : aCt := (74, (([((-2147483648), 2147483647)], [], [], (10000000000000000000000000000000000000000, [])), [(74, 0, [(2, (0, []), 0), (0, (0, [(1, 0)]), 0), (6, (0, []), 0)], [])], [(0, 0, 1, (0, []))]), (some (0, (-3), 40)), [(0, 8, 8), (3, 3, 6), (4, 0, 5), (5, 0, 35), (6, 0, 39), (20, 1, 1)])
noncomputable def kA96 : List aAn := []
set_option maxRecDepth 100000 in
theorem kM96 (sc : List Int32) : nMe sc 9 kC96 := qzCk_ok (dm := 0) (T := []) (As := kA96) (hd := []) (fk := []) (n := 2000000) (List.forall_mem_nil _) (by decide +kernel)
