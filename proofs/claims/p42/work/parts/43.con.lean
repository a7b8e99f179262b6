/-! promises 93 to 98 -/
/-- (('FirstLandingModel', 'copies', '([II[II)V'), (('r', 58), 0, ('r', 60), 402)) -/
def kC93 : aCt := (145, (([(0, 0), (402, 402)], [], [], (10000000000000000000000000000000000000000, [])), [(145, 0, [(2, (0, []), 58), (0, (0, [(1, 0)]), 0), (2, (0, []), 60), (0, (0, [(1, 1)]), 0), (6, (0, []), 0)], [])], [(0, 0, 1, (0, [])), (0, 0, 3, (0, []))]), none, [(60, 402, 602)])
def kA93 : List aAn := []
set_option maxRecDepth 100000 in
theorem kM93 (sc : List Int32) : nMe sc 9 kC93 := aCk_ok (dm := 0) (T := []) (As := kA93) (hd := []) (fk := []) (n := 2000000) (List.forall_mem_nil _) (by decide +kernel)
/-- (('FirstLandingModel', 'copies', '([II[II)V'), (('r', 58), 0, ('r', 60), 201)) -/
def kC94 : aCt := (145, (([(0, 0), (201, 201)], [], [], (10000000000000000000000000000000000000000, [])), [(145, 0, [(2, (0, []), 58), (0, (0, [(1, 0)]), 0), (2, (0, []), 60), (0, (0, [(1, 1)]), 0), (6, (0, []), 0)], [])], [(0, 0, 1, (0, [])), (0, 0, 3, (0, []))]), none, [(60, 201, 401)])
def kA94 : List aAn := []
set_option maxRecDepth 100000 in
theorem kM94 (sc : List Int32) : nMe sc 9 kC94 := aCk_ok (dm := 0) (T := []) (As := kA94) (hd := []) (fk := []) (n := 2000000) (List.forall_mem_nil _) (by decide +kernel)
/-- (('FirstLandingModel', 'keep', '(I)I'), (('r', 53),)) -/
def kC95 : aCt := (178, (([((-2147483648), 2147483647)], [], [], (10000000000000000000000000000000000000000, [])), [(178, 0, [(2, (0, []), 53), (0, (0, [(1, 0)]), 0)], [])], [(0, 0, 1, (0, []))]), (some (0, (-4), 40)), [(60, 0, 602), (61, 0, 2)])
def kA95 : List aAn := []
set_option maxRecDepth 100000 in
theorem kM95 (sc : List Int32) : nMe sc 18 kC95 := aCk_ok (dm := 9) (T := [kC92, kC93, kC94]) (As := kA95) (hd := []) (fk := [(178, 23, 1, 0, 0, (0, [])), (178, 23, 1, 0, 2, (0, []))]) (n := 2000000) (List.forall_mem_cons.mpr ⟨(kM92 sc).mono (by decide), List.forall_mem_cons.mpr ⟨(kM93 sc).mono (by decide), List.forall_mem_cons.mpr ⟨(kM94 sc).mono (by decide), List.forall_mem_nil _⟩⟩⟩) (by decide +kernel)
/-- (('FirstLanding', 'on', '(I)I'), (('r', 0),)) -/
def kC96 : aCt := (74, (([((-2147483648), 2147483647)], [], [], (10000000000000000000000000000000000000000, [])), [(74, 0, [(2, (0, []), 0), (0, (0, [(1, 0)]), 0), (6, (0, []), 0)], [])], [(0, 0, 1, (0, []))]), (some (0, (-3), 40)), [(0, 8, 8), (3, 3, 6), (4, 0, 5), (5, 0, 35), (6, 0, 39), (20, 1, 1)])
def kA96 : List aAn := []
set_option maxRecDepth 100000 in
theorem kM96 (sc : List Int32) : nMe sc 9 kC96 := aCk_ok (dm := 0) (T := []) (As := kA96) (hd := []) (fk := []) (n := 2000000) (List.forall_mem_nil _) (by decide +kernel)
/-- (('FirstLandingModel', 'copies', '([II[II)V'), (('r', 60), 0, ('r', 58), 0)) -/
def kC97 : aCt := (145, (([(0, 0), (0, 0)], [], [], (10000000000000000000000000000000000000000, [])), [(145, 0, [(2, (0, []), 60), (0, (0, [(1, 0)]), 0), (2, (0, []), 58), (0, (0, [(1, 1)]), 0), (6, (0, []), 0)], [])], [(0, 0, 1, (0, [])), (0, 0, 3, (0, []))]), none, [(58, 0, 200)])
def kA97 : List aAn := []
set_option maxRecDepth 100000 in
theorem kM97 (sc : List Int32) : nMe sc 9 kC97 := aCk_ok (dm := 0) (T := []) (As := kA97) (hd := []) (fk := []) (n := 2000000) (List.forall_mem_nil _) (by decide +kernel)
/-- (('FirstLandingModel', 'copies', '([II[II)V'), (('r', 60), 402, ('r', 58), 0)) -/
def kC98 : aCt := (145, (([(402, 402), (0, 0)], [], [], (10000000000000000000000000000000000000000, [])), [(145, 0, [(2, (0, []), 60), (0, (0, [(1, 0)]), 0), (2, (0, []), 58), (0, (0, [(1, 1)]), 0), (6, (0, []), 0)], [])], [(0, 0, 1, (0, [])), (0, 0, 3, (0, []))]), none, [(58, 0, 200)])
def kA98 : List aAn := []
set_option maxRecDepth 100000 in
theorem kM98 (sc : List Int32) : nMe sc 9 kC98 := aCk_ok (dm := 0) (T := []) (As := kA98) (hd := []) (fk := []) (n := 2000000) (List.forall_mem_nil _) (by decide +kernel)
