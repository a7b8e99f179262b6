/-! promises 211 to 317 -/
/-- (('FirstLandingModel', 'missions', '(I)I'), (('r', 53),)) -/
noncomputable def kC211 : aCt := (203, (([((-2147483648), 2147483647)], [], [], (10000000000000000000000000000000000000000, [])), [(203, 0, [(2, (0, []), 53), (0, (0, [(1, 0)]), 0), (6, (0, []), 0)], [])], [(0, 0, 1, (0, []))]), (some (0, (-2147483648), 2147483647)), [(53, 14, 14), (66, 0, 4), (67, 0, 3), (68, 0, 3)])
noncomputable def kA211 : List aAn := [(([(1, 2), (0, 0), (1, 6), (0, 63), ((-1), 6), ((-2147483648), 2147483647)], [], [(58, (0, []), (0, (0, [(1, 2)]), 0)), (58, (43, []), (0, (0, [(1, 3)]), 0)), (66, (0, []), (0, (0, [(1, 3)]), 0)), (67, (0, []), (0, (0, [(1, 4)]), 0)), (68, (0, []), (0, (0, [(1, 5)]), 0))], (57344, [((-4096), 4)])), [(203, 37, [(2, (0, []), 53), (0, (0, [(1, 0)]), 0), (0, (0, [(1, 1)]), 0)], [])], [(0, 0, 1, (0, [])), (0, 0, 2, (0, [])), (2, 58, 0, (0, [])), (2, 58, 0, (43, [])), (2, 67, 0, (0, [])), (2, 68, 0, (0, []))]), (([(1, 2), (1, 1), (1, 6), (0, 63), (0, 63), (0, 6), ((-1), 6), ((-2147483648), 2147483647), ((-2147483648), 2147483647)], [], [(58, (0, []), (0, (0, [(1, 2)]), 0)), (58, (43, []), (0, (0, [(1, 3)]), 0)), (66, (0, []), (0, (0, [(1, 3)]), 0)), (66, (1, []), (0, (0, [(1, 4)]), 0)), (67, (0, []), (0, (0, [(1, 5)]), 0)), (67, (1, []), (0, (0, [(1, 6)]), 0)), (68, (0, []), (0, (0, [(1, 7)]), 0)), (68, (1, []), (0, (0, [(1, 8)]), 0))], (60928, [((-4096), 5), ((-256), 6)])), [(203, 37, [(2, (0, []), 53), (0, (0, [(1, 0)]), 0), (0, (0, [(1, 1)]), 0)], [])], [(0, 0, 1, (0, [])), (0, 0, 2, (0, [])), (2, 58, 0, (0, [])), (2, 66, 0, (0, [])), (2, 66, 0, (1, [])), (2, 67, 0, (0, [])), (2, 67, 0, (1, [])), (2, 68, 0, (0, [])), (2, 68, 0, (1, []))]), (([(2, 2), (2, 2), (1, 6), (0, 63), (0, 63), (0, 63), (0, 6), (0, 6), ((-1), 6), ((-2147483648), 2147483647), ((-2147483648), 2147483647), ((-2147483648), 2147483647)], [], [(58, (0, []), (0, (0, [(1, 2)]), 0)), (58, (43, []), (0, (0, [(1, 3)]), 0)), (66, (0, []), (0, (0, [(1, 3)]), 0)), (66, (1, []), (0, (0, [(1, 4)]), 0)), (66, (2, []), (0, (0, [(1, 5)]), 0)), (67, (0, []), (0, (0, [(1, 6)]), 0)), (67, (1, []), (0, (0, [(1, 7)]), 0)), (67, (2, []), (0, (0, [(1, 8)]), 0)), (68, (0, []), (0, (0, [(1, 9)]), 0)), (68, (1, []), (0, (0, [(1, 10)]), 0)), (68, (2, []), (0, (0, [(1, 11)]), 0))], (61152, [((-4096), 6), ((-256), 7), ((-16), 8)])), [(203, 37, [(2, (0, []), 53), (0, (0, [(1, 0)]), 0), (0, (0, [(1, 1)]), 0)], [])], [(0, 0, 1, (0, [])), (0, 0, 2, (0, [])), (2, 58, 0, (0, [])), (2, 66, 0, (0, [])), (2, 66, 0, (1, [])), (2, 66, 0, (2, [])), (2, 67, 0, (0, [])), (2, 67, 0, (1, [])), (2, 67, 0, (2, [])), (2, 68, 0, (0, [])), (2, 68, 0, (1, [])), (2, 68, 0, (2, []))]), (([(2, 2), (3, 3), (1, 6), (0, 63), (0, 63), (0, 63), (0, 63), (0, 6), (0, 6), (0, 6), ((-1), 6), ((-2147483648), 2147483647), ((-2147483648), 2147483647), ((-2147483648), 2147483647), ((-2147483648), 2147483647)], [], [(58, (0, []), (0, (0, [(1, 2)]), 0)), (58, (43, []), (0, (0, [(1, 3)]), 0)), (66, (0, []), (0, (0, [(1, 3)]), 0)), (66, (1, []), (0, (0, [(1, 4)]), 0)), (66, (2, []), (0, (0, [(1, 5)]), 0)), (66, (3, []), (0, (0, [(1, 6)]), 0)), (67, (0, []), (0, (0, [(1, 7)]), 0)), (67, (1, []), (0, (0, [(1, 8)]), 0)), (67, (2, []), (0, (0, [(1, 9)]), 0)), (67, (3, []), (0, (0, [(1, 10)]), 0)), (68, (0, []), (0, (0, [(1, 11)]), 0)), (68, (1, []), (0, (0, [(1, 12)]), 0)), (68, (2, []), (0, (0, [(1, 13)]), 0)), (68, (3, []), (0, (0, [(1, 14)]), 0))], (61166, [((-4096), 7), ((-256), 8), ((-16), 9), ((-1), 10)])), [(203, 37, [(2, (0, []), 53), (0, (0, [(1, 0)]), 0), (0, (0, [(1, 1)]), 0)], [])], [(0, 0, 1, (0, [])), (0, 0, 2, (0, [])), (2, 58, 0, (0, [])), (2, 66, 0, (0, [])), (2, 66, 0, (1, [])), (2, 66, 0, (2, [])), (2, 66, 0, (3, [])), (2, 67, 0, (0, [])), (2, 67, 0, (1, [])), (2, 67, 0, (2, [])), (2, 67, 0, (3, [])), (2, 68, 0, (0, [])), (2, 68, 0, (1, [])), (2, 68, 0, (2, [])), (2, 68, 0, (3, []))]), (([(1, 2), ((-1), (-1)), (1, 6), (0, 63), (2, 7), ((-2147483648), 2147483647)], [], [(58, (0, []), (0, (0, [(1, 2)]), 0)), (58, (43, []), (0, (0, [(1, 3)]), 0)), (66, (0, []), (0, (0, [(1, 3)]), 0)), (67, (0, []), (0, (0, [(1, 4)]), 0)), (68, (0, []), (0, (0, [(1, 5)]), 0))], (0, [])), [(203, 37, [(2, (0, []), 53), (0, (0, [(1, 0)]), 0), (0, (0, [(1, 1)]), 0)], [])], [(0, 0, 1, (0, [])), (0, 0, 2, (0, [])), (2, 58, 0, (0, [])), (2, 66, 0, (0, [])), (2, 67, 0, (0, [])), (2, 68, 0, (0, []))])]
set_option maxRecDepth 100000 in
theorem kM211 (sc : List Int32) : nMe sc 36 kC211 := qzCk_ok (dm := 27) (T := [kC109]) (As := kA211) (hd := [(203, 37)]) (fk := []) (n := 2000000) (List.forall_mem_cons.mpr ⟨(kM109 sc).mono (by decide), List.forall_mem_nil _⟩) (by decide +kernel)
/-- (('FirstLanding', 'power', '(II)J'), ()) -/
noncomputable def kC212 : aCt := (105, (([(0, 12), ((-2147483648), 2147483647)], [], [], (10000000000000000000000000000000000000000, [])), [(105, 0, [(0, (0, [(1, 0)]), 0), (0, (0, [(1, 1)]), 0), (6, (0, []), 0), (6, (0, []), 0), (6, (0, []), 0)], [])], [(0, 0, 0, (0, [])), (0, 0, 1, (0, []))]), (some (1, (-9223372036854775808), 9223372036854775807)), [])
noncomputable def kA212 : List aAn := [(([(0, 12), ((-2147483648), 2147483647), ((-9223372036854775808), 9223372036854775807), (0, 2147483647)], [], [], (2147483647, [((-1), 3)])), [(105, 4, [(0, (0, [(1, 0)]), 0), (0, (0, [(1, 1)]), 0), (1, (0, [(1, 2)]), 0), (6, (0, []), 0), (0, (0, [(1, 3)]), 0)], [])], [(0, 0, 0, (0, [])), (0, 0, 1, (0, [])), (0, 0, 2, (0, [])), (0, 0, 4, (0, []))])]
set_option maxRecDepth 100000 in
theorem kM212 (sc : List Int32) : nMe sc 9 kC212 := qzCk_ok (dm := 0) (T := []) (As := kA212) (hd := [(105, 4)]) (fk := []) (n := 2000000) (List.forall_mem_nil _) (by decide +kernel)
/-- (('FirstLanding', 'tellRatio', '(JJ)V'), (('r', 0),)) -/
noncomputable def kC213 : aCt := (106, (([((-9223372036854775808), 9223372036854775807), ((-9223372036854775808), 9223372036854775807)], [], [], (10000000000000000000000000000000000000000, [])), [(106, 0, [(2, (0, []), 0), (1, (0, [(1, 0)]), 0), (6, (0, []), 0), (1, (0, [(1, 1)]), 0), (6, (0, []), 0), (6, (0, []), 0), (6, (0, []), 0), (6, (0, []), 0), (6, (0, []), 0), (6, (0, []), 0), (6, (0, []), 0), (6, (0, []), 0)], [])], [(0, 0, 1, (0, [])), (0, 0, 3, (0, []))]), none, [(0, 10, 11)])
noncomputable def kA213 : List aAn := [(([((-9223372036854775808), 9223372036854775807), ((-9223372036854775808), 9223372036854775807), ((-9223372036854775808), 9223372036854775807), ((-9223372036854775808), 9223372036854775807), (0, 100)], [], [], (100, [((-1), 4)])), [(106, 6, [(2, (0, []), 0), (1, (0, [(1, 0)]), 0), (6, (0, []), 0), (1, (0, [(1, 1)]), 0), (6, (0, []), 0), (1, (0, [(1, 2)]), 0), (6, (0, []), 0), (1, (0, [(1, 3)]), 0), (6, (0, []), 0), (0, (0, [(1, 4)]), 0), (6, (0, []), 0), (6, (0, []), 0)], [])], [(0, 0, 1, (0, [])), (0, 0, 3, (0, [])), (0, 0, 5, (0, [])), (0, 0, 7, (0, [])), (0, 0, 9, (0, []))])]
set_option maxRecDepth 100000 in
theorem kM213 (sc : List Int32) : nMe sc 9 kC213 := qzCk_ok (dm := 0) (T := []) (As := kA213) (hd := [(106, 6)]) (fk := []) (n := 2000000) (List.forall_mem_nil _) (by decide +kernel)
/-- (('FirstLanding', 'tellWeighed', '(III)V'), (('r', 0),)) -/
noncomputable def kC214 : aCt := (104, (([(0, 5), (0, 12), (1, 9)], [], [], (10000000000000000000000000000000000000000, [])), [(104, 0, [(2, (0, []), 0), (0, (0, [(1, 0)]), 0), (0, (0, [(1, 1)]), 0), (0, (0, [(1, 2)]), 0), (6, (0, []), 0), (6, (0, []), 0), (6, (0, []), 0), (6, (0, []), 0), (6, (0, []), 0), (6, (0, []), 0), (6, (0, []), 0)], [])], [(0, 0, 1, (0, [])), (0, 0, 2, (0, [])), (0, 0, 3, (0, []))]), none, [(0, 10, 11)])
noncomputable def kA214 : List aAn := [(([(0, 5), (0, 12), (1, 9), (0, 63), ((-9223372036854775808), 9223372036854775807), (0, 64), (0, 63)], [], [(3, (4, []), (0, (0, [(1, 6)]), 0))], (64, [((-1), 5)])), [(104, 14, [(2, (0, []), 0), (0, (0, [(1, 0)]), 0), (0, (0, [(1, 1)]), 0), (0, (0, [(1, 2)]), 0), (0, (0, [(1, 3)]), 0), (1, (0, [(1, 4)]), 0), (6, (0, []), 0), (0, (0, [(1, 5)]), 0), (6, (0, []), 0), (6, (0, []), 0), (6, (0, []), 0)], [])], [(0, 0, 1, (0, [])), (0, 0, 2, (0, [])), (0, 0, 3, (0, [])), (0, 0, 4, (0, [])), (0, 0, 5, (0, [])), (0, 0, 7, (0, [])), (2, 3, 0, (4, []))])]
set_option maxRecDepth 100000 in
theorem kM214 (sc : List Int32) : nMe sc 18 kC214 := qzCk_ok (dm := 9) (T := [kC55, kC74, kC212, kC213]) (As := kA214) (hd := [(104, 14)]) (fk := []) (n := 2000000) (List.forall_mem_cons.mpr ⟨(kM55 sc).mono (by decide), List.forall_mem_cons.mpr ⟨(kM74 sc).mono (by decide), List.forall_mem_cons.mpr ⟨(kM212 sc).mono (by decide), List.forall_mem_cons.mpr ⟨(kM213 sc).mono (by decide), List.forall_mem_nil _⟩⟩⟩⟩) (by decide +kernel)
/-- (('FirstLanding', 'mid', '(II)I'), (('r', 0),)) -/
noncomputable def kC215 : aCt := (103, (([((-2147483648), 2147483647), ((-2147483648), 2147483647)], [], [], (10000000000000000000000000000000000000000, [])), [(103, 0, [(2, (0, []), 0), (0, (0, [(1, 0)]), 0), (0, (0, [(1, 1)]), 0)], [])], [(0, 0, 1, (0, [])), (0, 0, 2, (0, []))]), (some (0, (-4), 1)), [(0, 10, 11)])
noncomputable def kA215 : List aAn := []
set_option maxRecDepth 100000 in
theorem kM215 (sc : List Int32) : nMe sc 27 kC215 := qzCk_ok (dm := 18) (T := [kC214]) (As := kA215) (hd := []) (fk := []) (n := 2000000) (List.forall_mem_cons.mpr ⟨(kM214 sc).mono (by decide), List.forall_mem_nil _⟩) (by decide +kernel)
/-- (('FirstLandingModel', 'bits', '(I)I'), (0,)) -/
noncomputable def kC216 : aCt := (166, (([(0, 0)], [], [], (10000000000000000000000000000000000000000, [])), [(166, 0, [(0, (0, [(1, 0)]), 0), (6, (0, []), 0), (6, (0, []), 0)], [])], [(0, 0, 0, (0, []))]), (some (0, 0, 0)), [])
noncomputable def kA216 : List aAn := []
set_option maxRecDepth 100000 in
theorem kM216 (sc : List Int32) : nMe sc 9 kC216 := qzCk_ok (dm := 0) (T := []) (As := kA216) (hd := []) (fk := []) (n := 2000000) (List.forall_mem_nil _) (by decide +kernel)
/-- (('FirstLandingModel', 'bits', '(I)I'), (63,)) -/
noncomputable def kC217 : aCt := (166, (([(63, 63)], [], [], (10000000000000000000000000000000000000000, [])), [(166, 0, [(0, (0, [(1, 0)]), 0), (6, (0, []), 0), (6, (0, []), 0)], [])], [(0, 0, 0, (0, []))]), (some (0, 6, 6)), [])
noncomputable def kA217 : List aAn := []
set_option maxRecDepth 100000 in
theorem kM217 (sc : List Int32) : nMe sc 9 kC217 := qzCk_ok (dm := 0) (T := []) (As := kA217) (hd := []) (fk := []) (n := 2000000) (List.forall_mem_nil _) (by decide +kernel)
/-- (('FirstLandingModel', 'bits', '(I)I'), (62,)) -/
noncomputable def kC218 : aCt := (166, (([(62, 62)], [], [], (10000000000000000000000000000000000000000, [])), [(166, 0, [(0, (0, [(1, 0)]), 0), (6, (0, []), 0), (6, (0, []), 0)], [])], [(0, 0, 0, (0, []))]), (some (0, 5, 5)), [])
noncomputable def kA218 : List aAn := []
set_option maxRecDepth 100000 in
theorem kM218 (sc : List Int32) : nMe sc 9 kC218 := qzCk_ok (dm := 0) (T := []) (As := kA218) (hd := []) (fk := []) (n := 2000000) (List.forall_mem_nil _) (by decide +kernel)
/-- (('FirstLandingModel', 'bits', '(I)I'), (61,)) -/
noncomputable def kC219 : aCt := (166, (([(61, 61)], [], [], (10000000000000000000000000000000000000000, [])), [(166, 0, [(0, (0, [(1, 0)]), 0), (6, (0, []), 0), (6, (0, []), 0)], [])], [(0, 0, 0, (0, []))]), (some (0, 5, 5)), [])
noncomputable def kA219 : List aAn := []
set_option maxRecDepth 100000 in
theorem kM219 (sc : List Int32) : nMe sc 9 kC219 := qzCk_ok (dm := 0) (T := []) (As := kA219) (hd := []) (fk := []) (n := 2000000) (List.forall_mem_nil _) (by decide +kernel)
/-- (('FirstLandingModel', 'bits', '(I)I'), (60,)) -/
noncomputable def kC220 : aCt := (166, (([(60, 60)], [], [], (10000000000000000000000000000000000000000, [])), [(166, 0, [(0, (0, [(1, 0)]), 0), (6, (0, []), 0), (6, (0, []), 0)], [])], [(0, 0, 0, (0, []))]), (some (0, 4, 4)), [])
noncomputable def kA220 : List aAn := []
set_option maxRecDepth 100000 in
theorem kM220 (sc : List Int32) : nMe sc 9 kC220 := qzCk_ok (dm := 0) (T := []) (As := kA220) (hd := []) (fk := []) (n := 2000000) (List.forall_mem_nil _) (by decide +kernel)
/-- (('FirstLandingModel', 'bits', '(I)I'), (59,)) -/
noncomputable def kC221 : aCt := (166, (([(59, 59)], [], [], (10000000000000000000000000000000000000000, [])), [(166, 0, [(0, (0, [(1, 0)]), 0), (6, (0, []), 0), (6, (0, []), 0)], [])], [(0, 0, 0, (0, []))]), (some (0, 5, 5)), [])
noncomputable def kA221 : List aAn := []
set_option maxRecDepth 100000 in
theorem kM221 (sc : List Int32) : nMe sc 9 kC221 := qzCk_ok (dm := 0) (T := []) (As := kA221) (hd := []) (fk := []) (n := 2000000) (List.forall_mem_nil _) (by decide +kernel)
/-- (('FirstLandingModel', 'bits', '(I)I'), (58,)) -/
noncomputable def kC222 : aCt := (166, (([(58, 58)], [], [], (10000000000000000000000000000000000000000, [])), [(166, 0, [(0, (0, [(1, 0)]), 0), (6, (0, []), 0), (6, (0, []), 0)], [])], [(0, 0, 0, (0, []))]), (some (0, 4, 4)), [])
noncomputable def kA222 : List aAn := []
set_option maxRecDepth 100000 in
theorem kM222 (sc : List Int32) : nMe sc 9 kC222 := qzCk_ok (dm := 0) (T := []) (As := kA222) (hd := []) (fk := []) (n := 2000000) (List.forall_mem_nil _) (by decide +kernel)
/-- (('FirstLandingModel', 'bits', '(I)I'), (57,)) -/
noncomputable def kC223 : aCt := (166, (([(57, 57)], [], [], (10000000000000000000000000000000000000000, [])), [(166, 0, [(0, (0, [(1, 0)]), 0), (6, (0, []), 0), (6, (0, []), 0)], [])], [(0, 0, 0, (0, []))]), (some (0, 4, 4)), [])
noncomputable def kA223 : List aAn := []
set_option maxRecDepth 100000 in
theorem kM223 (sc : List Int32) : nMe sc 9 kC223 := qzCk_ok (dm := 0) (T := []) (As := kA223) (hd := []) (fk := []) (n := 2000000) (List.forall_mem_nil _) (by decide +kernel)
/-- (('FirstLandingModel', 'bits', '(I)I'), (56,)) -/
noncomputable def kC224 : aCt := (166, (([(56, 56)], [], [], (10000000000000000000000000000000000000000, [])), [(166, 0, [(0, (0, [(1, 0)]), 0), (6, (0, []), 0), (6, (0, []), 0)], [])], [(0, 0, 0, (0, []))]), (some (0, 3, 3)), [])
noncomputable def kA224 : List aAn := []
set_option maxRecDepth 100000 in
theorem kM224 (sc : List Int32) : nMe sc 9 kC224 := qzCk_ok (dm := 0) (T := []) (As := kA224) (hd := []) (fk := []) (n := 2000000) (List.forall_mem_nil _) (by decide +kernel)
/-- (('FirstLandingModel', 'bits', '(I)I'), (55,)) -/
noncomputable def kC225 : aCt := (166, (([(55, 55)], [], [], (10000000000000000000000000000000000000000, [])), [(166, 0, [(0, (0, [(1, 0)]), 0), (6, (0, []), 0), (6, (0, []), 0)], [])], [(0, 0, 0, (0, []))]), (some (0, 5, 5)), [])
noncomputable def kA225 : List aAn := []
set_option maxRecDepth 100000 in
theorem kM225 (sc : List Int32) : nMe sc 9 kC225 := qzCk_ok (dm := 0) (T := []) (As := kA225) (hd := []) (fk := []) (n := 2000000) (List.forall_mem_nil _) (by decide +kernel)
/-- (('FirstLandingModel', 'bits', '(I)I'), (54,)) -/
noncomputable def kC226 : aCt := (166, (([(54, 54)], [], [], (10000000000000000000000000000000000000000, [])), [(166, 0, [(0, (0, [(1, 0)]), 0), (6, (0, []), 0), (6, (0, []), 0)], [])], [(0, 0, 0, (0, []))]), (some (0, 4, 4)), [])
noncomputable def kA226 : List aAn := []
set_option maxRecDepth 100000 in
theorem kM226 (sc : List Int32) : nMe sc 9 kC226 := qzCk_ok (dm := 0) (T := []) (As := kA226) (hd := []) (fk := []) (n := 2000000) (List.forall_mem_nil _) (by decide +kernel)
/-- (('FirstLandingModel', 'bits', '(I)I'), (53,)) -/
noncomputable def kC227 : aCt := (166, (([(53, 53)], [], [], (10000000000000000000000000000000000000000, [])), [(166, 0, [(0, (0, [(1, 0)]), 0), (6, (0, []), 0), (6, (0, []), 0)], [])], [(0, 0, 0, (0, []))]), (some (0, 4, 4)), [])
noncomputable def kA227 : List aAn := []
set_option maxRecDepth 100000 in
theorem kM227 (sc : List Int32) : nMe sc 9 kC227 := qzCk_ok (dm := 0) (T := []) (As := kA227) (hd := []) (fk := []) (n := 2000000) (List.forall_mem_nil _) (by decide +kernel)
/-- (('FirstLandingModel', 'bits', '(I)I'), (52,)) -/
noncomputable def kC228 : aCt := (166, (([(52, 52)], [], [], (10000000000000000000000000000000000000000, [])), [(166, 0, [(0, (0, [(1, 0)]), 0), (6, (0, []), 0), (6, (0, []), 0)], [])], [(0, 0, 0, (0, []))]), (some (0, 3, 3)), [])
noncomputable def kA228 : List aAn := []
set_option maxRecDepth 100000 in
theorem kM228 (sc : List Int32) : nMe sc 9 kC228 := qzCk_ok (dm := 0) (T := []) (As := kA228) (hd := []) (fk := []) (n := 2000000) (List.forall_mem_nil _) (by decide +kernel)
/-- (('FirstLandingModel', 'bits', '(I)I'), (51,)) -/
noncomputable def kC229 : aCt := (166, (([(51, 51)], [], [], (10000000000000000000000000000000000000000, [])), [(166, 0, [(0, (0, [(1, 0)]), 0), (6, (0, []), 0), (6, (0, []), 0)], [])], [(0, 0, 0, (0, []))]), (some (0, 4, 4)), [])
noncomputable def kA229 : List aAn := []
set_option maxRecDepth 100000 in
theorem kM229 (sc : List Int32) : nMe sc 9 kC229 := qzCk_ok (dm := 0) (T := []) (As := kA229) (hd := []) (fk := []) (n := 2000000) (List.forall_mem_nil _) (by decide +kernel)
/-- (('FirstLandingModel', 'bits', '(I)I'), (50,)) -/
noncomputable def kC230 : aCt := (166, (([(50, 50)], [], [], (10000000000000000000000000000000000000000, [])), [(166, 0, [(0, (0, [(1, 0)]), 0), (6, (0, []), 0), (6, (0, []), 0)], [])], [(0, 0, 0, (0, []))]), (some (0, 3, 3)), [])
noncomputable def kA230 : List aAn := []
set_option maxRecDepth 100000 in
theorem kM230 (sc : List Int32) : nMe sc 9 kC230 := qzCk_ok (dm := 0) (T := []) (As := kA230) (hd := []) (fk := []) (n := 2000000) (List.forall_mem_nil _) (by decide +kernel)
/-- (('FirstLandingModel', 'bits', '(I)I'), (49,)) -/
noncomputable def kC231 : aCt := (166, (([(49, 49)], [], [], (10000000000000000000000000000000000000000, [])), [(166, 0, [(0, (0, [(1, 0)]), 0), (6, (0, []), 0), (6, (0, []), 0)], [])], [(0, 0, 0, (0, []))]), (some (0, 3, 3)), [])
noncomputable def kA231 : List aAn := []
set_option maxRecDepth 100000 in
theorem kM231 (sc : List Int32) : nMe sc 9 kC231 := qzCk_ok (dm := 0) (T := []) (As := kA231) (hd := []) (fk := []) (n := 2000000) (List.forall_mem_nil _) (by decide +kernel)
/-- (('FirstLandingModel', 'bits', '(I)I'), (48,)) -/
noncomputable def kC232 : aCt := (166, (([(48, 48)], [], [], (10000000000000000000000000000000000000000, [])), [(166, 0, [(0, (0, [(1, 0)]), 0), (6, (0, []), 0), (6, (0, []), 0)], [])], [(0, 0, 0, (0, []))]), (some (0, 2, 2)), [])
noncomputable def kA232 : List aAn := []
set_option maxRecDepth 100000 in
theorem kM232 (sc : List Int32) : nMe sc 9 kC232 := qzCk_ok (dm := 0) (T := []) (As := kA232) (hd := []) (fk := []) (n := 2000000) (List.forall_mem_nil _) (by decide +kernel)
/-- (('FirstLandingModel', 'bits', '(I)I'), (47,)) -/
noncomputable def kC233 : aCt := (166, (([(47, 47)], [], [], (10000000000000000000000000000000000000000, [])), [(166, 0, [(0, (0, [(1, 0)]), 0), (6, (0, []), 0), (6, (0, []), 0)], [])], [(0, 0, 0, (0, []))]), (some (0, 5, 5)), [])
noncomputable def kA233 : List aAn := []
set_option maxRecDepth 100000 in
theorem kM233 (sc : List Int32) : nMe sc 9 kC233 := qzCk_ok (dm := 0) (T := []) (As := kA233) (hd := []) (fk := []) (n := 2000000) (List.forall_mem_nil _) (by decide +kernel)
/-- (('FirstLandingModel', 'bits', '(I)I'), (46,)) -/
noncomputable def kC234 : aCt := (166, (([(46, 46)], [], [], (10000000000000000000000000000000000000000, [])), [(166, 0, [(0, (0, [(1, 0)]), 0), (6, (0, []), 0), (6, (0, []), 0)], [])], [(0, 0, 0, (0, []))]), (some (0, 4, 4)), [])
noncomputable def kA234 : List aAn := []
set_option maxRecDepth 100000 in
theorem kM234 (sc : List Int32) : nMe sc 9 kC234 := qzCk_ok (dm := 0) (T := []) (As := kA234) (hd := []) (fk := []) (n := 2000000) (List.forall_mem_nil _) (by decide +kernel)
/-- (('FirstLandingModel', 'bits', '(I)I'), (45,)) -/
noncomputable def kC235 : aCt := (166, (([(45, 45)], [], [], (10000000000000000000000000000000000000000, [])), [(166, 0, [(0, (0, [(1, 0)]), 0), (6, (0, []), 0), (6, (0, []), 0)], [])], [(0, 0, 0, (0, []))]), (some (0, 4, 4)), [])
noncomputable def kA235 : List aAn := []
set_option maxRecDepth 100000 in
theorem kM235 (sc : List Int32) : nMe sc 9 kC235 := qzCk_ok (dm := 0) (T := []) (As := kA235) (hd := []) (fk := []) (n := 2000000) (List.forall_mem_nil _) (by decide +kernel)
/-- (('FirstLandingModel', 'bits', '(I)I'), (44,)) -/
noncomputable def kC236 : aCt := (166, (([(44, 44)], [], [], (10000000000000000000000000000000000000000, [])), [(166, 0, [(0, (0, [(1, 0)]), 0), (6, (0, []), 0), (6, (0, []), 0)], [])], [(0, 0, 0, (0, []))]), (some (0, 3, 3)), [])
noncomputable def kA236 : List aAn := []
set_option maxRecDepth 100000 in
theorem kM236 (sc : List Int32) : nMe sc 9 kC236 := qzCk_ok (dm := 0) (T := []) (As := kA236) (hd := []) (fk := []) (n := 2000000) (List.forall_mem_nil _) (by decide +kernel)
/-- (('FirstLandingModel', 'bits', '(I)I'), (43,)) -/
noncomputable def kC237 : aCt := (166, (([(43, 43)], [], [], (10000000000000000000000000000000000000000, [])), [(166, 0, [(0, (0, [(1, 0)]), 0), (6, (0, []), 0), (6, (0, []), 0)], [])], [(0, 0, 0, (0, []))]), (some (0, 4, 4)), [])
noncomputable def kA237 : List aAn := []
set_option maxRecDepth 100000 in
theorem kM237 (sc : List Int32) : nMe sc 9 kC237 := qzCk_ok (dm := 0) (T := []) (As := kA237) (hd := []) (fk := []) (n := 2000000) (List.forall_mem_nil _) (by decide +kernel)
/-- (('FirstLandingModel', 'bits', '(I)I'), (42,)) -/
noncomputable def kC238 : aCt := (166, (([(42, 42)], [], [], (10000000000000000000000000000000000000000, [])), [(166, 0, [(0, (0, [(1, 0)]), 0), (6, (0, []), 0), (6, (0, []), 0)], [])], [(0, 0, 0, (0, []))]), (some (0, 3, 3)), [])
noncomputable def kA238 : List aAn := []
set_option maxRecDepth 100000 in
theorem kM238 (sc : List Int32) : nMe sc 9 kC238 := qzCk_ok (dm := 0) (T := []) (As := kA238) (hd := []) (fk := []) (n := 2000000) (List.forall_mem_nil _) (by decide +kernel)
/-- (('FirstLandingModel', 'bits', '(I)I'), (41,)) -/
noncomputable def kC239 : aCt := (166, (([(41, 41)], [], [], (10000000000000000000000000000000000000000, [])), [(166, 0, [(0, (0, [(1, 0)]), 0), (6, (0, []), 0), (6, (0, []), 0)], [])], [(0, 0, 0, (0, []))]), (some (0, 3, 3)), [])
noncomputable def kA239 : List aAn := []
set_option maxRecDepth 100000 in
theorem kM239 (sc : List Int32) : nMe sc 9 kC239 := qzCk_ok (dm := 0) (T := []) (As := kA239) (hd := []) (fk := []) (n := 2000000) (List.forall_mem_nil _) (by decide +kernel)
/-- (('FirstLandingModel', 'bits', '(I)I'), (40,)) -/
noncomputable def kC240 : aCt := (166, (([(40, 40)], [], [], (10000000000000000000000000000000000000000, [])), [(166, 0, [(0, (0, [(1, 0)]), 0), (6, (0, []), 0), (6, (0, []), 0)], [])], [(0, 0, 0, (0, []))]), (some (0, 2, 2)), [])
noncomputable def kA240 : List aAn := []
set_option maxRecDepth 100000 in
theorem kM240 (sc : List Int32) : nMe sc 9 kC240 := qzCk_ok (dm := 0) (T := []) (As := kA240) (hd := []) (fk := []) (n := 2000000) (List.forall_mem_nil _) (by decide +kernel)
/-- (('FirstLandingModel', 'bits', '(I)I'), (39,)) -/
noncomputable def kC241 : aCt := (166, (([(39, 39)], [], [], (10000000000000000000000000000000000000000, [])), [(166, 0, [(0, (0, [(1, 0)]), 0), (6, (0, []), 0), (6, (0, []), 0)], [])], [(0, 0, 0, (0, []))]), (some (0, 4, 4)), [])
noncomputable def kA241 : List aAn := []
set_option maxRecDepth 100000 in
theorem kM241 (sc : List Int32) : nMe sc 9 kC241 := qzCk_ok (dm := 0) (T := []) (As := kA241) (hd := []) (fk := []) (n := 2000000) (List.forall_mem_nil _) (by decide +kernel)
/-- (('FirstLandingModel', 'bits', '(I)I'), (38,)) -/
noncomputable def kC242 : aCt := (166, (([(38, 38)], [], [], (10000000000000000000000000000000000000000, [])), [(166, 0, [(0, (0, [(1, 0)]), 0), (6, (0, []), 0), (6, (0, []), 0)], [])], [(0, 0, 0, (0, []))]), (some (0, 3, 3)), [])
noncomputable def kA242 : List aAn := []
set_option maxRecDepth 100000 in
theorem kM242 (sc : List Int32) : nMe sc 9 kC242 := qzCk_ok (dm := 0) (T := []) (As := kA242) (hd := []) (fk := []) (n := 2000000) (List.forall_mem_nil _) (by decide +kernel)
/-- (('FirstLandingModel', 'bits', '(I)I'), (37,)) -/
noncomputable def kC243 : aCt := (166, (([(37, 37)], [], [], (10000000000000000000000000000000000000000, [])), [(166, 0, [(0, (0, [(1, 0)]), 0), (6, (0, []), 0), (6, (0, []), 0)], [])], [(0, 0, 0, (0, []))]), (some (0, 3, 3)), [])
noncomputable def kA243 : List aAn := []
set_option maxRecDepth 100000 in
theorem kM243 (sc : List Int32) : nMe sc 9 kC243 := qzCk_ok (dm := 0) (T := []) (As := kA243) (hd := []) (fk := []) (n := 2000000) (List.forall_mem_nil _) (by decide +kernel)
/-- (('FirstLandingModel', 'bits', '(I)I'), (36,)) -/
noncomputable def kC244 : aCt := (166, (([(36, 36)], [], [], (10000000000000000000000000000000000000000, [])), [(166, 0, [(0, (0, [(1, 0)]), 0), (6, (0, []), 0), (6, (0, []), 0)], [])], [(0, 0, 0, (0, []))]), (some (0, 2, 2)), [])
noncomputable def kA244 : List aAn := []
set_option maxRecDepth 100000 in
theorem kM244 (sc : List Int32) : nMe sc 9 kC244 := qzCk_ok (dm := 0) (T := []) (As := kA244) (hd := []) (fk := []) (n := 2000000) (List.forall_mem_nil _) (by decide +kernel)
/-- (('FirstLandingModel', 'bits', '(I)I'), (35,)) -/
noncomputable def kC245 : aCt := (166, (([(35, 35)], [], [], (10000000000000000000000000000000000000000, [])), [(166, 0, [(0, (0, [(1, 0)]), 0), (6, (0, []), 0), (6, (0, []), 0)], [])], [(0, 0, 0, (0, []))]), (some (0, 3, 3)), [])
noncomputable def kA245 : List aAn := []
set_option maxRecDepth 100000 in
theorem kM245 (sc : List Int32) : nMe sc 9 kC245 := qzCk_ok (dm := 0) (T := []) (As := kA245) (hd := []) (fk := []) (n := 2000000) (List.forall_mem_nil _) (by decide +kernel)
/-- (('FirstLandingModel', 'bits', '(I)I'), (34,)) -/
noncomputable def kC246 : aCt := (166, (([(34, 34)], [], [], (10000000000000000000000000000000000000000, [])), [(166, 0, [(0, (0, [(1, 0)]), 0), (6, (0, []), 0), (6, (0, []), 0)], [])], [(0, 0, 0, (0, []))]), (some (0, 2, 2)), [])
noncomputable def kA246 : List aAn := []
set_option maxRecDepth 100000 in
theorem kM246 (sc : List Int32) : nMe sc 9 kC246 := qzCk_ok (dm := 0) (T := []) (As := kA246) (hd := []) (fk := []) (n := 2000000) (List.forall_mem_nil _) (by decide +kernel)
/-- (('FirstLandingModel', 'bits', '(I)I'), (33,)) -/
noncomputable def kC247 : aCt := (166, (([(33, 33)], [], [], (10000000000000000000000000000000000000000, [])), [(166, 0, [(0, (0, [(1, 0)]), 0), (6, (0, []), 0), (6, (0, []), 0)], [])], [(0, 0, 0, (0, []))]), (some (0, 2, 2)), [])
noncomputable def kA247 : List aAn := []
set_option maxRecDepth 100000 in
theorem kM247 (sc : List Int32) : nMe sc 9 kC247 := qzCk_ok (dm := 0) (T := []) (As := kA247) (hd := []) (fk := []) (n := 2000000) (List.forall_mem_nil _) (by decide +kernel)
/-- (('FirstLandingModel', 'bits', '(I)I'), (32,)) -/
noncomputable def kC248 : aCt := (166, (([(32, 32)], [], [], (10000000000000000000000000000000000000000, [])), [(166, 0, [(0, (0, [(1, 0)]), 0), (6, (0, []), 0), (6, (0, []), 0)], [])], [(0, 0, 0, (0, []))]), (some (0, 1, 1)), [])
noncomputable def kA248 : List aAn := []
set_option maxRecDepth 100000 in
theorem kM248 (sc : List Int32) : nMe sc 9 kC248 := qzCk_ok (dm := 0) (T := []) (As := kA248) (hd := []) (fk := []) (n := 2000000) (List.forall_mem_nil _) (by decide +kernel)
/-- (('FirstLandingModel', 'bits', '(I)I'), (31,)) -/
noncomputable def kC249 : aCt := (166, (([(31, 31)], [], [], (10000000000000000000000000000000000000000, [])), [(166, 0, [(0, (0, [(1, 0)]), 0), (6, (0, []), 0), (6, (0, []), 0)], [])], [(0, 0, 0, (0, []))]), (some (0, 5, 5)), [])
noncomputable def kA249 : List aAn := []
set_option maxRecDepth 100000 in
theorem kM249 (sc : List Int32) : nMe sc 9 kC249 := qzCk_ok (dm := 0) (T := []) (As := kA249) (hd := []) (fk := []) (n := 2000000) (List.forall_mem_nil _) (by decide +kernel)
/-- (('FirstLandingModel', 'bits', '(I)I'), (30,)) -/
noncomputable def kC250 : aCt := (166, (([(30, 30)], [], [], (10000000000000000000000000000000000000000, [])), [(166, 0, [(0, (0, [(1, 0)]), 0), (6, (0, []), 0), (6, (0, []), 0)], [])], [(0, 0, 0, (0, []))]), (some (0, 4, 4)), [])
noncomputable def kA250 : List aAn := []
set_option maxRecDepth 100000 in
theorem kM250 (sc : List Int32) : nMe sc 9 kC250 := qzCk_ok (dm := 0) (T := []) (As := kA250) (hd := []) (fk := []) (n := 2000000) (List.forall_mem_nil _) (by decide +kernel)
/-- (('FirstLandingModel', 'bits', '(I)I'), (29,)) -/
noncomputable def kC251 : aCt := (166, (([(29, 29)], [], [], (10000000000000000000000000000000000000000, [])), [(166, 0, [(0, (0, [(1, 0)]), 0), (6, (0, []), 0), (6, (0, []), 0)], [])], [(0, 0, 0, (0, []))]), (some (0, 4, 4)), [])
noncomputable def kA251 : List aAn := []
set_option maxRecDepth 100000 in
theorem kM251 (sc : List Int32) : nMe sc 9 kC251 := qzCk_ok (dm := 0) (T := []) (As := kA251) (hd := []) (fk := []) (n := 2000000) (List.forall_mem_nil _) (by decide +kernel)
/-- (('FirstLandingModel', 'bits', '(I)I'), (28,)) -/
noncomputable def kC252 : aCt := (166, (([(28, 28)], [], [], (10000000000000000000000000000000000000000, [])), [(166, 0, [(0, (0, [(1, 0)]), 0), (6, (0, []), 0), (6, (0, []), 0)], [])], [(0, 0, 0, (0, []))]), (some (0, 3, 3)), [])
noncomputable def kA252 : List aAn := []
set_option maxRecDepth 100000 in
theorem kM252 (sc : List Int32) : nMe sc 9 kC252 := qzCk_ok (dm := 0) (T := []) (As := kA252) (hd := []) (fk := []) (n := 2000000) (List.forall_mem_nil _) (by decide +kernel)
/-- (('FirstLandingModel', 'bits', '(I)I'), (27,)) -/
noncomputable def kC253 : aCt := (166, (([(27, 27)], [], [], (10000000000000000000000000000000000000000, [])), [(166, 0, [(0, (0, [(1, 0)]), 0), (6, (0, []), 0), (6, (0, []), 0)], [])], [(0, 0, 0, (0, []))]), (some (0, 4, 4)), [])
noncomputable def kA253 : List aAn := []
set_option maxRecDepth 100000 in
theorem kM253 (sc : List Int32) : nMe sc 9 kC253 := qzCk_ok (dm := 0) (T := []) (As := kA253) (hd := []) (fk := []) (n := 2000000) (List.forall_mem_nil _) (by decide +kernel)
/-- (('FirstLandingModel', 'bits', '(I)I'), (26,)) -/
noncomputable def kC254 : aCt := (166, (([(26, 26)], [], [], (10000000000000000000000000000000000000000, [])), [(166, 0, [(0, (0, [(1, 0)]), 0), (6, (0, []), 0), (6, (0, []), 0)], [])], [(0, 0, 0, (0, []))]), (some (0, 3, 3)), [])
noncomputable def kA254 : List aAn := []
set_option maxRecDepth 100000 in
theorem kM254 (sc : List Int32) : nMe sc 9 kC254 := qzCk_ok (dm := 0) (T := []) (As := kA254) (hd := []) (fk := []) (n := 2000000) (List.forall_mem_nil _) (by decide +kernel)
/-- (('FirstLandingModel', 'bits', '(I)I'), (25,)) -/
noncomputable def kC255 : aCt := (166, (([(25, 25)], [], [], (10000000000000000000000000000000000000000, [])), [(166, 0, [(0, (0, [(1, 0)]), 0), (6, (0, []), 0), (6, (0, []), 0)], [])], [(0, 0, 0, (0, []))]), (some (0, 3, 3)), [])
noncomputable def kA255 : List aAn := []
set_option maxRecDepth 100000 in
theorem kM255 (sc : List Int32) : nMe sc 9 kC255 := qzCk_ok (dm := 0) (T := []) (As := kA255) (hd := []) (fk := []) (n := 2000000) (List.forall_mem_nil _) (by decide +kernel)
/-- (('FirstLandingModel', 'bits', '(I)I'), (24,)) -/
noncomputable def kC256 : aCt := (166, (([(24, 24)], [], [], (10000000000000000000000000000000000000000, [])), [(166, 0, [(0, (0, [(1, 0)]), 0), (6, (0, []), 0), (6, (0, []), 0)], [])], [(0, 0, 0, (0, []))]), (some (0, 2, 2)), [])
noncomputable def kA256 : List aAn := []
set_option maxRecDepth 100000 in
theorem kM256 (sc : List Int32) : nMe sc 9 kC256 := qzCk_ok (dm := 0) (T := []) (As := kA256) (hd := []) (fk := []) (n := 2000000) (List.forall_mem_nil _) (by decide +kernel)
/-- (('FirstLandingModel', 'bits', '(I)I'), (23,)) -/
noncomputable def kC257 : aCt := (166, (([(23, 23)], [], [], (10000000000000000000000000000000000000000, [])), [(166, 0, [(0, (0, [(1, 0)]), 0), (6, (0, []), 0), (6, (0, []), 0)], [])], [(0, 0, 0, (0, []))]), (some (0, 4, 4)), [])
noncomputable def kA257 : List aAn := []
set_option maxRecDepth 100000 in
theorem kM257 (sc : List Int32) : nMe sc 9 kC257 := qzCk_ok (dm := 0) (T := []) (As := kA257) (hd := []) (fk := []) (n := 2000000) (List.forall_mem_nil _) (by decide +kernel)
/-- (('FirstLandingModel', 'bits', '(I)I'), (22,)) -/
noncomputable def kC258 : aCt := (166, (([(22, 22)], [], [], (10000000000000000000000000000000000000000, [])), [(166, 0, [(0, (0, [(1, 0)]), 0), (6, (0, []), 0), (6, (0, []), 0)], [])], [(0, 0, 0, (0, []))]), (some (0, 3, 3)), [])
noncomputable def kA258 : List aAn := []
set_option maxRecDepth 100000 in
theorem kM258 (sc : List Int32) : nMe sc 9 kC258 := qzCk_ok (dm := 0) (T := []) (As := kA258) (hd := []) (fk := []) (n := 2000000) (List.forall_mem_nil _) (by decide +kernel)
/-- (('FirstLandingModel', 'bits', '(I)I'), (21,)) -/
noncomputable def kC259 : aCt := (166, (([(21, 21)], [], [], (10000000000000000000000000000000000000000, [])), [(166, 0, [(0, (0, [(1, 0)]), 0), (6, (0, []), 0), (6, (0, []), 0)], [])], [(0, 0, 0, (0, []))]), (some (0, 3, 3)), [])
noncomputable def kA259 : List aAn := []
set_option maxRecDepth 100000 in
theorem kM259 (sc : List Int32) : nMe sc 9 kC259 := qzCk_ok (dm := 0) (T := []) (As := kA259) (hd := []) (fk := []) (n := 2000000) (List.forall_mem_nil _) (by decide +kernel)
/-- (('FirstLandingModel', 'bits', '(I)I'), (20,)) -/
noncomputable def kC260 : aCt := (166, (([(20, 20)], [], [], (10000000000000000000000000000000000000000, [])), [(166, 0, [(0, (0, [(1, 0)]), 0), (6, (0, []), 0), (6, (0, []), 0)], [])], [(0, 0, 0, (0, []))]), (some (0, 2, 2)), [])
noncomputable def kA260 : List aAn := []
set_option maxRecDepth 100000 in
theorem kM260 (sc : List Int32) : nMe sc 9 kC260 := qzCk_ok (dm := 0) (T := []) (As := kA260) (hd := []) (fk := []) (n := 2000000) (List.forall_mem_nil _) (by decide +kernel)
/-- (('FirstLandingModel', 'bits', '(I)I'), (19,)) -/
noncomputable def kC261 : aCt := (166, (([(19, 19)], [], [], (10000000000000000000000000000000000000000, [])), [(166, 0, [(0, (0, [(1, 0)]), 0), (6, (0, []), 0), (6, (0, []), 0)], [])], [(0, 0, 0, (0, []))]), (some (0, 3, 3)), [])
noncomputable def kA261 : List aAn := []
set_option maxRecDepth 100000 in
theorem kM261 (sc : List Int32) : nMe sc 9 kC261 := qzCk_ok (dm := 0) (T := []) (As := kA261) (hd := []) (fk := []) (n := 2000000) (List.forall_mem_nil _) (by decide +kernel)
/-- (('FirstLandingModel', 'bits', '(I)I'), (18,)) -/
noncomputable def kC262 : aCt := (166, (([(18, 18)], [], [], (10000000000000000000000000000000000000000, [])), [(166, 0, [(0, (0, [(1, 0)]), 0), (6, (0, []), 0), (6, (0, []), 0)], [])], [(0, 0, 0, (0, []))]), (some (0, 2, 2)), [])
noncomputable def kA262 : List aAn := []
set_option maxRecDepth 100000 in
theorem kM262 (sc : List Int32) : nMe sc 9 kC262 := qzCk_ok (dm := 0) (T := []) (As := kA262) (hd := []) (fk := []) (n := 2000000) (List.forall_mem_nil _) (by decide +kernel)
/-- (('FirstLandingModel', 'bits', '(I)I'), (17,)) -/
noncomputable def kC263 : aCt := (166, (([(17, 17)], [], [], (10000000000000000000000000000000000000000, [])), [(166, 0, [(0, (0, [(1, 0)]), 0), (6, (0, []), 0), (6, (0, []), 0)], [])], [(0, 0, 0, (0, []))]), (some (0, 2, 2)), [])
noncomputable def kA263 : List aAn := []
set_option maxRecDepth 100000 in
theorem kM263 (sc : List Int32) : nMe sc 9 kC263 := qzCk_ok (dm := 0) (T := []) (As := kA263) (hd := []) (fk := []) (n := 2000000) (List.forall_mem_nil _) (by decide +kernel)
/-- (('FirstLandingModel', 'bits', '(I)I'), (16,)) -/
noncomputable def kC264 : aCt := (166, (([(16, 16)], [], [], (10000000000000000000000000000000000000000, [])), [(166, 0, [(0, (0, [(1, 0)]), 0), (6, (0, []), 0), (6, (0, []), 0)], [])], [(0, 0, 0, (0, []))]), (some (0, 1, 1)), [])
noncomputable def kA264 : List aAn := []
set_option maxRecDepth 100000 in
theorem kM264 (sc : List Int32) : nMe sc 9 kC264 := qzCk_ok (dm := 0) (T := []) (As := kA264) (hd := []) (fk := []) (n := 2000000) (List.forall_mem_nil _) (by decide +kernel)
/-- (('FirstLandingModel', 'bits', '(I)I'), (15,)) -/
noncomputable def kC265 : aCt := (166, (([(15, 15)], [], [], (10000000000000000000000000000000000000000, [])), [(166, 0, [(0, (0, [(1, 0)]), 0), (6, (0, []), 0), (6, (0, []), 0)], [])], [(0, 0, 0, (0, []))]), (some (0, 4, 4)), [])
noncomputable def kA265 : List aAn := []
set_option maxRecDepth 100000 in
theorem kM265 (sc : List Int32) : nMe sc 9 kC265 := qzCk_ok (dm := 0) (T := []) (As := kA265) (hd := []) (fk := []) (n := 2000000) (List.forall_mem_nil _) (by decide +kernel)
/-- (('FirstLandingModel', 'bits', '(I)I'), (14,)) -/
noncomputable def kC266 : aCt := (166, (([(14, 14)], [], [], (10000000000000000000000000000000000000000, [])), [(166, 0, [(0, (0, [(1, 0)]), 0), (6, (0, []), 0), (6, (0, []), 0)], [])], [(0, 0, 0, (0, []))]), (some (0, 3, 3)), [])
noncomputable def kA266 : List aAn := []
set_option maxRecDepth 100000 in
theorem kM266 (sc : List Int32) : nMe sc 9 kC266 := qzCk_ok (dm := 0) (T := []) (As := kA266) (hd := []) (fk := []) (n := 2000000) (List.forall_mem_nil _) (by decide +kernel)
/-- (('FirstLandingModel', 'bits', '(I)I'), (13,)) -/
noncomputable def kC267 : aCt := (166, (([(13, 13)], [], [], (10000000000000000000000000000000000000000, [])), [(166, 0, [(0, (0, [(1, 0)]), 0), (6, (0, []), 0), (6, (0, []), 0)], [])], [(0, 0, 0, (0, []))]), (some (0, 3, 3)), [])
noncomputable def kA267 : List aAn := []
set_option maxRecDepth 100000 in
theorem kM267 (sc : List Int32) : nMe sc 9 kC267 := qzCk_ok (dm := 0) (T := []) (As := kA267) (hd := []) (fk := []) (n := 2000000) (List.forall_mem_nil _) (by decide +kernel)
/-- (('FirstLandingModel', 'bits', '(I)I'), (12,)) -/
noncomputable def kC268 : aCt := (166, (([(12, 12)], [], [], (10000000000000000000000000000000000000000, [])), [(166, 0, [(0, (0, [(1, 0)]), 0), (6, (0, []), 0), (6, (0, []), 0)], [])], [(0, 0, 0, (0, []))]), (some (0, 2, 2)), [])
noncomputable def kA268 : List aAn := []
set_option maxRecDepth 100000 in
theorem kM268 (sc : List Int32) : nMe sc 9 kC268 := qzCk_ok (dm := 0) (T := []) (As := kA268) (hd := []) (fk := []) (n := 2000000) (List.forall_mem_nil _) (by decide +kernel)
/-- (('FirstLandingModel', 'bits', '(I)I'), (11,)) -/
noncomputable def kC269 : aCt := (166, (([(11, 11)], [], [], (10000000000000000000000000000000000000000, [])), [(166, 0, [(0, (0, [(1, 0)]), 0), (6, (0, []), 0), (6, (0, []), 0)], [])], [(0, 0, 0, (0, []))]), (some (0, 3, 3)), [])
noncomputable def kA269 : List aAn := []
set_option maxRecDepth 100000 in
theorem kM269 (sc : List Int32) : nMe sc 9 kC269 := qzCk_ok (dm := 0) (T := []) (As := kA269) (hd := []) (fk := []) (n := 2000000) (List.forall_mem_nil _) (by decide +kernel)
/-- (('FirstLandingModel', 'bits', '(I)I'), (10,)) -/
noncomputable def kC270 : aCt := (166, (([(10, 10)], [], [], (10000000000000000000000000000000000000000, [])), [(166, 0, [(0, (0, [(1, 0)]), 0), (6, (0, []), 0), (6, (0, []), 0)], [])], [(0, 0, 0, (0, []))]), (some (0, 2, 2)), [])
noncomputable def kA270 : List aAn := []
set_option maxRecDepth 100000 in
theorem kM270 (sc : List Int32) : nMe sc 9 kC270 := qzCk_ok (dm := 0) (T := []) (As := kA270) (hd := []) (fk := []) (n := 2000000) (List.forall_mem_nil _) (by decide +kernel)
/-- (('FirstLandingModel', 'bits', '(I)I'), (9,)) -/
noncomputable def kC271 : aCt := (166, (([(9, 9)], [], [], (10000000000000000000000000000000000000000, [])), [(166, 0, [(0, (0, [(1, 0)]), 0), (6, (0, []), 0), (6, (0, []), 0)], [])], [(0, 0, 0, (0, []))]), (some (0, 2, 2)), [])
noncomputable def kA271 : List aAn := []
set_option maxRecDepth 100000 in
theorem kM271 (sc : List Int32) : nMe sc 9 kC271 := qzCk_ok (dm := 0) (T := []) (As := kA271) (hd := []) (fk := []) (n := 2000000) (List.forall_mem_nil _) (by decide +kernel)
/-- (('FirstLandingModel', 'bits', '(I)I'), (8,)) -/
noncomputable def kC272 : aCt := (166, (([(8, 8)], [], [], (10000000000000000000000000000000000000000, [])), [(166, 0, [(0, (0, [(1, 0)]), 0), (6, (0, []), 0), (6, (0, []), 0)], [])], [(0, 0, 0, (0, []))]), (some (0, 1, 1)), [])
noncomputable def kA272 : List aAn := []
set_option maxRecDepth 100000 in
theorem kM272 (sc : List Int32) : nMe sc 9 kC272 := qzCk_ok (dm := 0) (T := []) (As := kA272) (hd := []) (fk := []) (n := 2000000) (List.forall_mem_nil _) (by decide +kernel)
/-- (('FirstLandingModel', 'bits', '(I)I'), (7,)) -/
noncomputable def kC273 : aCt := (166, (([(7, 7)], [], [], (10000000000000000000000000000000000000000, [])), [(166, 0, [(0, (0, [(1, 0)]), 0), (6, (0, []), 0), (6, (0, []), 0)], [])], [(0, 0, 0, (0, []))]), (some (0, 3, 3)), [])
noncomputable def kA273 : List aAn := []
set_option maxRecDepth 100000 in
theorem kM273 (sc : List Int32) : nMe sc 9 kC273 := qzCk_ok (dm := 0) (T := []) (As := kA273) (hd := []) (fk := []) (n := 2000000) (List.forall_mem_nil _) (by decide +kernel)
/-- (('FirstLandingModel', 'bits', '(I)I'), (6,)) -/
noncomputable def kC274 : aCt := (166, (([(6, 6)], [], [], (10000000000000000000000000000000000000000, [])), [(166, 0, [(0, (0, [(1, 0)]), 0), (6, (0, []), 0), (6, (0, []), 0)], [])], [(0, 0, 0, (0, []))]), (some (0, 2, 2)), [])
noncomputable def kA274 : List aAn := []
set_option maxRecDepth 100000 in
theorem kM274 (sc : List Int32) : nMe sc 9 kC274 := qzCk_ok (dm := 0) (T := []) (As := kA274) (hd := []) (fk := []) (n := 2000000) (List.forall_mem_nil _) (by decide +kernel)
/-- (('FirstLandingModel', 'bits', '(I)I'), (5,)) -/
noncomputable def kC275 : aCt := (166, (([(5, 5)], [], [], (10000000000000000000000000000000000000000, [])), [(166, 0, [(0, (0, [(1, 0)]), 0), (6, (0, []), 0), (6, (0, []), 0)], [])], [(0, 0, 0, (0, []))]), (some (0, 2, 2)), [])
noncomputable def kA275 : List aAn := []
set_option maxRecDepth 100000 in
theorem kM275 (sc : List Int32) : nMe sc 9 kC275 := qzCk_ok (dm := 0) (T := []) (As := kA275) (hd := []) (fk := []) (n := 2000000) (List.forall_mem_nil _) (by decide +kernel)
/-- (('FirstLandingModel', 'bits', '(I)I'), (4,)) -/
noncomputable def kC276 : aCt := (166, (([(4, 4)], [], [], (10000000000000000000000000000000000000000, [])), [(166, 0, [(0, (0, [(1, 0)]), 0), (6, (0, []), 0), (6, (0, []), 0)], [])], [(0, 0, 0, (0, []))]), (some (0, 1, 1)), [])
noncomputable def kA276 : List aAn := []
set_option maxRecDepth 100000 in
theorem kM276 (sc : List Int32) : nMe sc 9 kC276 := qzCk_ok (dm := 0) (T := []) (As := kA276) (hd := []) (fk := []) (n := 2000000) (List.forall_mem_nil _) (by decide +kernel)
/-- (('FirstLandingModel', 'bits', '(I)I'), (3,)) -/
noncomputable def kC277 : aCt := (166, (([(3, 3)], [], [], (10000000000000000000000000000000000000000, [])), [(166, 0, [(0, (0, [(1, 0)]), 0), (6, (0, []), 0), (6, (0, []), 0)], [])], [(0, 0, 0, (0, []))]), (some (0, 2, 2)), [])
noncomputable def kA277 : List aAn := []
set_option maxRecDepth 100000 in
theorem kM277 (sc : List Int32) : nMe sc 9 kC277 := qzCk_ok (dm := 0) (T := []) (As := kA277) (hd := []) (fk := []) (n := 2000000) (List.forall_mem_nil _) (by decide +kernel)
/-- (('FirstLandingModel', 'bits', '(I)I'), (2,)) -/
noncomputable def kC278 : aCt := (166, (([(2, 2)], [], [], (10000000000000000000000000000000000000000, [])), [(166, 0, [(0, (0, [(1, 0)]), 0), (6, (0, []), 0), (6, (0, []), 0)], [])], [(0, 0, 0, (0, []))]), (some (0, 1, 1)), [])
noncomputable def kA278 : List aAn := []
set_option maxRecDepth 100000 in
theorem kM278 (sc : List Int32) : nMe sc 9 kC278 := qzCk_ok (dm := 0) (T := []) (As := kA278) (hd := []) (fk := []) (n := 2000000) (List.forall_mem_nil _) (by decide +kernel)
/-- (('FirstLandingModel', 'bits', '(I)I'), (1,)) -/
noncomputable def kC279 : aCt := (166, (([(1, 1)], [], [], (10000000000000000000000000000000000000000, [])), [(166, 0, [(0, (0, [(1, 0)]), 0), (6, (0, []), 0), (6, (0, []), 0)], [])], [(0, 0, 0, (0, []))]), (some (0, 1, 1)), [])
noncomputable def kA279 : List aAn := []
set_option maxRecDepth 100000 in
theorem kM279 (sc : List Int32) : nMe sc 9 kC279 := qzCk_ok (dm := 0) (T := []) (As := kA279) (hd := []) (fk := []) (n := 2000000) (List.forall_mem_nil _) (by decide +kernel)
/-- (('FirstLandingModel', 'fraction', '(JJ)I'), (('r', 53),)) -/
noncomputable def kC280 : aCt := (210, (([(0, 9223372036854775807), (1, 9223372036854775807)], [], [], (10000000000000000000000000000000000000000, [])), [(210, 0, [(2, (0, []), 53), (1, (0, [(1, 0)]), 0), (6, (0, []), 0), (1, (0, [(1, 1)]), 0), (6, (0, []), 0), (6, (0, []), 0), (6, (0, []), 0), (6, (0, []), 0), (6, (0, []), 0), (6, (0, []), 0), (6, (0, []), 0)], [])], [(0, 0, 1, (0, [])), (0, 0, 3, (0, []))]), (some (0, 1, 1)), [(53, 9, 10)])
noncomputable def kA280 : List aAn := [(([(0, 9223372036854775807), (1, 9223372036854775807), (0, 9223372036854775807), (0, 9223372036854775807)], [((-1), [(1, 2), (1, 3)])], [], (0, [(1, 3)])), [(210, 4, [(2, (0, []), 53), (1, (0, [(1, 0)]), 0), (6, (0, []), 0), (1, (0, [(1, 1)]), 0), (6, (0, []), 0), (1, (0, [(1, 2)]), 0), (6, (0, []), 0), (1, (0, [(1, 3)]), 0), (6, (0, []), 0), (6, (0, []), 0), (6, (0, []), 0)], [])], [(0, 0, 1, (0, [])), (0, 0, 3, (0, [])), (0, 0, 5, (0, [])), (0, 0, 7, (0, []))])]
set_option maxRecDepth 100000 in
theorem kM280 (sc : List Int32) : nMe sc 9 kC280 := qzCk_ok (dm := 0) (T := []) (As := kA280) (hd := [(210, 4)]) (fk := []) (n := 2000000) (List.forall_mem_nil _) (by decide +kernel)
/-- (('FirstLandingModel', 'weighed', '(IIZ)I'), (('r', 53),)) -/
noncomputable def kC281 : aCt := (209, (([(0, 5), (0, 12), (0, 1)], [], [], (10000000000000000000000000000000000000000, [])), [(209, 0, [(2, (0, []), 53), (0, (0, [(1, 0)]), 0), (0, (0, [(1, 1)]), 0), (0, (0, [(1, 2)]), 0), (6, (0, []), 0), (6, (0, []), 0), (6, (0, []), 0), (6, (0, []), 0), (6, (0, []), 0), (6, (0, []), 0), (6, (0, []), 0), (6, (0, []), 0), (6, (0, []), 0)], [])], [(0, 0, 1, (0, [])), (0, 0, 2, (0, [])), (0, 0, 3, (0, []))]), (some (0, 1, 1)), [(53, 9, 10)])
noncomputable def kA281 : List aAn := [(([(0, 5), (0, 12), (0, 1), (0, 63), (0, 0), (1, 13194139533312), (0, 0), (0, 63)], [], [(58, (43, []), (0, (0, [(1, 7)]), 0))], (894361928200, [])), [(209, 18, [(2, (0, []), 53), (0, (0, [(1, 0)]), 0), (0, (0, [(1, 1)]), 0), (0, (0, [(1, 2)]), 0), (0, (0, [(1, 3)]), 0), (1, (0, [(1, 4)]), 0), (6, (0, []), 0), (1, (0, [(1, 5)]), 0), (6, (0, []), 0), (0, (0, [(1, 6)]), 0), (6, (0, []), 0), (6, (0, []), 0), (6, (0, []), 0)], [])], [(0, 0, 1, (0, [])), (0, 0, 2, (0, [])), (0, 0, 3, (0, [])), (0, 0, 4, (0, [])), (0, 0, 5, (0, [])), (0, 0, 7, (0, [])), (0, 0, 9, (0, [])), (2, 58, 0, (43, []))]), (([(0, 5), (0, 12), (0, 1), (63, 63), (0, 0), (1, 1), (6, 6), (0, 63)], [], [(58, (43, []), (0, (0, [(1, 7)]), 0))], (6260533497400, [])), [(209, 18, [(2, (0, []), 53), (0, (0, [(1, 0)]), 0), (0, (0, [(1, 1)]), 0), (0, (0, [(1, 2)]), 0), (0, (0, [(1, 3)]), 0), (1, (0, [(1, 4)]), 0), (6, (0, []), 0), (1, (0, [(1, 5)]), 0), (6, (0, []), 0), (0, (0, [(1, 6)]), 0), (6, (0, []), 0), (6, (0, []), 0), (6, (0, []), 0)], [])], [(0, 0, 1, (0, [])), (0, 0, 2, (0, [])), (0, 0, 3, (0, [])), (0, 0, 4, (0, [])), (0, 0, 5, (0, [])), (0, 0, 7, (0, [])), (0, 0, 9, (0, [])), (2, 58, 0, (43, []))]), (([(0, 5), (0, 12), (0, 1), (31, 63), (0, 0), (1, 12), (5, 5), (0, 63)], [], [(58, (43, []), (0, (0, [(1, 7)]), 0))], (5366171569200, [])), [(209, 18, [(2, (0, []), 53), (0, (0, [(1, 0)]), 0), (0, (0, [(1, 1)]), 0), (0, (0, [(1, 2)]), 0), (0, (0, [(1, 3)]), 0), (1, (0, [(1, 4)]), 0), (6, (0, []), 0), (1, (0, [(1, 5)]), 0), (6, (0, []), 0), (0, (0, [(1, 6)]), 0), (6, (0, []), 0), (6, (0, []), 0), (6, (0, []), 0)], [])], [(0, 0, 1, (0, [])), (0, 0, 2, (0, [])), (0, 0, 3, (0, [])), (0, 0, 4, (0, [])), (0, 0, 5, (0, [])), (0, 0, 7, (0, [])), (0, 0, 9, (0, [])), (2, 58, 0, (43, []))]), (([(0, 5), (0, 12), (0, 1), (15, 63), (0, 0), (1, 173), (4, 4), (0, 63)], [], [(58, (43, []), (0, (0, [(1, 7)]), 0))], (4471809641000, [])), [(209, 18, [(2, (0, []), 53), (0, (0, [(1, 0)]), 0), (0, (0, [(1, 1)]), 0), (0, (0, [(1, 2)]), 0), (0, (0, [(1, 3)]), 0), (1, (0, [(1, 4)]), 0), (6, (0, []), 0), (1, (0, [(1, 5)]), 0), (6, (0, []), 0), (0, (0, [(1, 6)]), 0), (6, (0, []), 0), (6, (0, []), 0), (6, (0, []), 0)], [])], [(0, 0, 1, (0, [])), (0, 0, 2, (0, [])), (0, 0, 3, (0, [])), (0, 0, 4, (0, [])), (0, 0, 5, (0, [])), (0, 0, 7, (0, [])), (0, 0, 9, (0, [])), (2, 58, 0, (43, []))]), (([(0, 5), (0, 12), (0, 1), (7, 63), (0, 0), (1, 1000000), (3, 3), (0, 63)], [], [(58, (43, []), (0, (0, [(1, 7)]), 0))], (3577447712800, [])), [(209, 18, [(2, (0, []), 53), (0, (0, [(1, 0)]), 0), (0, (0, [(1, 1)]), 0), (0, (0, [(1, 2)]), 0), (0, (0, [(1, 3)]), 0), (1, (0, [(1, 4)]), 0), (6, (0, []), 0), (1, (0, [(1, 5)]), 0), (6, (0, []), 0), (0, (0, [(1, 6)]), 0), (6, (0, []), 0), (6, (0, []), 0), (6, (0, []), 0)], [])], [(0, 0, 1, (0, [])), (0, 0, 2, (0, [])), (0, 0, 3, (0, [])), (0, 0, 4, (0, [])), (0, 0, 5, (0, [])), (0, 0, 7, (0, [])), (0, 0, 9, (0, [])), (2, 58, 0, (43, []))]), (([(0, 5), (0, 12), (0, 1), (3, 63), (0, 0), (1, 2147483647), (2, 2), (0, 63)], [], [(58, (43, []), (0, (0, [(1, 7)]), 0))], (2683085784600, [])), [(209, 18, [(2, (0, []), 53), (0, (0, [(1, 0)]), 0), (0, (0, [(1, 1)]), 0), (0, (0, [(1, 2)]), 0), (0, (0, [(1, 3)]), 0), (1, (0, [(1, 4)]), 0), (6, (0, []), 0), (1, (0, [(1, 5)]), 0), (6, (0, []), 0), (0, (0, [(1, 6)]), 0), (6, (0, []), 0), (6, (0, []), 0), (6, (0, []), 0)], [])], [(0, 0, 1, (0, [])), (0, 0, 2, (0, [])), (0, 0, 3, (0, [])), (0, 0, 4, (0, [])), (0, 0, 5, (0, [])), (0, 0, 7, (0, [])), (0, 0, 9, (0, [])), (2, 58, 0, (43, []))]), (([(0, 5), (0, 12), (0, 1), (1, 63), (0, 0), (1, 1099511627776), (1, 1), (0, 63)], [], [(58, (43, []), (0, (0, [(1, 7)]), 0))], (1788723856400, [])), [(209, 18, [(2, (0, []), 53), (0, (0, [(1, 0)]), 0), (0, (0, [(1, 1)]), 0), (0, (0, [(1, 2)]), 0), (0, (0, [(1, 3)]), 0), (1, (0, [(1, 4)]), 0), (6, (0, []), 0), (1, (0, [(1, 5)]), 0), (6, (0, []), 0), (0, (0, [(1, 6)]), 0), (6, (0, []), 0), (6, (0, []), 0), (6, (0, []), 0)], [])], [(0, 0, 1, (0, [])), (0, 0, 2, (0, [])), (0, 0, 3, (0, [])), (0, 0, 4, (0, [])), (0, 0, 5, (0, [])), (0, 0, 7, (0, [])), (0, 0, 9, (0, [])), (2, 58, 0, (43, []))]), (([(0, 5), (0, 12), (0, 1), (0, 63), (0, 2147483647), (1, 13194139533312), (0, 64), (0, 63)], [(0, [((-1), 4), (26873856, 6)])], [(58, (43, []), (0, (0, [(1, 7)]), 0))], (894361928199, [((-520), 4), ((-8), 6)])), [(209, 28, [(2, (0, []), 53), (0, (0, [(1, 0)]), 0), (0, (0, [(1, 1)]), 0), (0, (0, [(1, 2)]), 0), (0, (0, [(1, 3)]), 0), (1, (0, [(1, 4)]), 0), (6, (0, []), 0), (1, (0, [(1, 5)]), 0), (6, (0, []), 0), (0, (0, [(1, 6)]), 0), (6, (0, []), 0), (6, (0, []), 0), (6, (0, []), 0)], [])], [(0, 0, 1, (0, [])), (0, 0, 2, (0, [])), (0, 0, 3, (0, [])), (0, 0, 4, (0, [])), (0, 0, 5, (0, [])), (0, 0, 7, (0, [])), (0, 0, 9, (0, [])), (2, 58, 0, (43, []))]), (([(0, 5), (1, 1), (0, 0), (0, 12), (0, 1), (0, 63), (0, 2147483647), (1, 13194139533312), (0, 63), (0, 6), (0, 63)], [(0, [((-1), 6), (26873856, 8)])], [(58, (0, []), (0, (0, [(1, 9)]), 0)), (58, (43, []), (0, (0, [(1, 10)]), 0))], (894361928198, [((-520), 6), ((-8), 8)])), [(209, 46, [(2, (0, []), 53), (0, (0, [(1, 0)]), 0), (0, (0, [(1, 3)]), 0), (0, (0, [(1, 4)]), 0), (0, (0, [(1, 5)]), 0), (1, (0, [(1, 6)]), 0), (6, (0, []), 0), (1, (0, [(1, 7)]), 0), (6, (0, []), 0), (0, (0, [(1, 8)]), 0), (1, (0, [(1, 1)]), 0), (6, (0, []), 0), (0, (0, [(1, 2)]), 0)], [])], [(0, 0, 1, (0, [])), (0, 0, 10, (0, [])), (0, 0, 12, (0, [])), (0, 0, 2, (0, [])), (0, 0, 3, (0, [])), (0, 0, 4, (0, [])), (0, 0, 5, (0, [])), (0, 0, 7, (0, [])), (0, 0, 9, (0, [])), (2, 58, 0, (0, [])), (2, 58, 0, (43, []))]), (([(0, 5), (0, 12), (1, 1), (0, 12), (0, 1), (0, 63), (0, 2147483647), (1, 13194139533312), (0, 63), (1, 6), (0, 63)], [(0, [((-1), 6), (26873856, 8)])], [(58, (0, []), (0, (0, [(1, 9)]), 0)), (58, (43, []), (0, (0, [(1, 10)]), 0))], (894361928197, [((-520), 6), ((-8), 8)])), [(209, 46, [(2, (0, []), 53), (0, (0, [(1, 0)]), 0), (0, (0, [(1, 3)]), 0), (0, (0, [(1, 4)]), 0), (0, (0, [(1, 5)]), 0), (1, (0, [(1, 6)]), 0), (6, (0, []), 0), (1, (0, [(1, 7)]), 0), (6, (0, []), 0), (0, (0, [(1, 8)]), 0), (1, (0, [(1, 1)]), 0), (6, (0, []), 0), (0, (0, [(1, 2)]), 0)], [])], [(0, 0, 1, (0, [])), (0, 0, 10, (0, [])), (0, 0, 12, (0, [])), (0, 0, 2, (0, [])), (0, 0, 3, (0, [])), (0, 0, 4, (0, [])), (0, 0, 5, (0, [])), (0, 0, 7, (0, [])), (0, 0, 9, (0, [])), (2, 58, 0, (0, [])), (2, 58, 0, (43, []))]), (([(0, 5), (0, 144), (2, 2), (0, 12), (0, 1), (0, 63), (0, 2147483647), (1, 13194139533312), (0, 63), (2, 6), (0, 63)], [(0, [((-1), 6), (26873856, 8)])], [(58, (0, []), (0, (0, [(1, 9)]), 0)), (58, (43, []), (0, (0, [(1, 10)]), 0))], (894361928196, [((-520), 6), ((-8), 8)])), [(209, 46, [(2, (0, []), 53), (0, (0, [(1, 0)]), 0), (0, (0, [(1, 3)]), 0), (0, (0, [(1, 4)]), 0), (0, (0, [(1, 5)]), 0), (1, (0, [(1, 6)]), 0), (6, (0, []), 0), (1, (0, [(1, 7)]), 0), (6, (0, []), 0), (0, (0, [(1, 8)]), 0), (1, (0, [(1, 1)]), 0), (6, (0, []), 0), (0, (0, [(1, 2)]), 0)], [])], [(0, 0, 1, (0, [])), (0, 0, 10, (0, [])), (0, 0, 12, (0, [])), (0, 0, 2, (0, [])), (0, 0, 3, (0, [])), (0, 0, 4, (0, [])), (0, 0, 5, (0, [])), (0, 0, 7, (0, [])), (0, 0, 9, (0, [])), (2, 58, 0, (0, [])), (2, 58, 0, (43, []))]), (([(0, 5), (0, 1728), (3, 3), (0, 12), (0, 1), (0, 63), (0, 2147483647), (1, 13194139533312), (0, 63), (3, 6), (0, 63)], [(0, [((-1), 6), (26873856, 8)])], [(58, (0, []), (0, (0, [(1, 9)]), 0)), (58, (43, []), (0, (0, [(1, 10)]), 0))], (894361928195, [((-520), 6), ((-8), 8)])), [(209, 46, [(2, (0, []), 53), (0, (0, [(1, 0)]), 0), (0, (0, [(1, 3)]), 0), (0, (0, [(1, 4)]), 0), (0, (0, [(1, 5)]), 0), (1, (0, [(1, 6)]), 0), (6, (0, []), 0), (1, (0, [(1, 7)]), 0), (6, (0, []), 0), (0, (0, [(1, 8)]), 0), (1, (0, [(1, 1)]), 0), (6, (0, []), 0), (0, (0, [(1, 2)]), 0)], [])], [(0, 0, 1, (0, [])), (0, 0, 10, (0, [])), (0, 0, 12, (0, [])), (0, 0, 2, (0, [])), (0, 0, 3, (0, [])), (0, 0, 4, (0, [])), (0, 0, 5, (0, [])), (0, 0, 7, (0, [])), (0, 0, 9, (0, [])), (2, 58, 0, (0, [])), (2, 58, 0, (43, []))]), (([(0, 5), (0, 20736), (4, 4), (0, 12), (0, 1), (0, 63), (0, 2147483647), (1, 13194139533312), (0, 63), (4, 6), (0, 63)], [(0, [((-1), 6), (26873856, 8)])], [(58, (0, []), (0, (0, [(1, 9)]), 0)), (58, (43, []), (0, (0, [(1, 10)]), 0))], (894361928194, [((-520), 6), ((-8), 8)])), [(209, 46, [(2, (0, []), 53), (0, (0, [(1, 0)]), 0), (0, (0, [(1, 3)]), 0), (0, (0, [(1, 4)]), 0), (0, (0, [(1, 5)]), 0), (1, (0, [(1, 6)]), 0), (6, (0, []), 0), (1, (0, [(1, 7)]), 0), (6, (0, []), 0), (0, (0, [(1, 8)]), 0), (1, (0, [(1, 1)]), 0), (6, (0, []), 0), (0, (0, [(1, 2)]), 0)], [])], [(0, 0, 1, (0, [])), (0, 0, 10, (0, [])), (0, 0, 12, (0, [])), (0, 0, 2, (0, [])), (0, 0, 3, (0, [])), (0, 0, 4, (0, [])), (0, 0, 5, (0, [])), (0, 0, 7, (0, [])), (0, 0, 9, (0, [])), (2, 58, 0, (0, [])), (2, 58, 0, (43, []))]), (([(0, 5), (0, 248832), (5, 5), (0, 12), (0, 1), (0, 63), (0, 2147483647), (1, 13194139533312), (0, 63), (5, 6), (0, 63)], [(0, [((-1), 6), (26873856, 8)])], [(58, (0, []), (0, (0, [(1, 9)]), 0)), (58, (43, []), (0, (0, [(1, 10)]), 0))], (894361928193, [((-520), 6), ((-8), 8)])), [(209, 46, [(2, (0, []), 53), (0, (0, [(1, 0)]), 0), (0, (0, [(1, 3)]), 0), (0, (0, [(1, 4)]), 0), (0, (0, [(1, 5)]), 0), (1, (0, [(1, 6)]), 0), (6, (0, []), 0), (1, (0, [(1, 7)]), 0), (6, (0, []), 0), (0, (0, [(1, 8)]), 0), (1, (0, [(1, 1)]), 0), (6, (0, []), 0), (0, (0, [(1, 2)]), 0)], [])], [(0, 0, 1, (0, [])), (0, 0, 10, (0, [])), (0, 0, 12, (0, [])), (0, 0, 2, (0, [])), (0, 0, 3, (0, [])), (0, 0, 4, (0, [])), (0, 0, 5, (0, [])), (0, 0, 7, (0, [])), (0, 0, 9, (0, [])), (2, 58, 0, (0, [])), (2, 58, 0, (43, []))]), (([(0, 5), (0, 2985984), (6, 6), (0, 12), (0, 1), (0, 63), (0, 2147483647), (1, 13194139533312), (0, 63), (6, 6), (0, 63)], [(0, [((-1), 6), (26873856, 8)])], [(58, (0, []), (0, (0, [(1, 9)]), 0)), (58, (43, []), (0, (0, [(1, 10)]), 0))], (894361928192, [((-520), 6), ((-8), 8)])), [(209, 46, [(2, (0, []), 53), (0, (0, [(1, 0)]), 0), (0, (0, [(1, 3)]), 0), (0, (0, [(1, 4)]), 0), (0, (0, [(1, 5)]), 0), (1, (0, [(1, 6)]), 0), (6, (0, []), 0), (1, (0, [(1, 7)]), 0), (6, (0, []), 0), (0, (0, [(1, 8)]), 0), (1, (0, [(1, 1)]), 0), (6, (0, []), 0), (0, (0, [(1, 2)]), 0)], [])], [(0, 0, 1, (0, [])), (0, 0, 10, (0, [])), (0, 0, 12, (0, [])), (0, 0, 2, (0, [])), (0, 0, 3, (0, [])), (0, 0, 4, (0, [])), (0, 0, 5, (0, [])), (0, 0, 7, (0, [])), (0, 0, 9, (0, [])), (2, 58, 0, (0, [])), (2, 58, 0, (43, []))])]
set_option maxRecDepth 100000 in
theorem kM281 (sc : List Int32) : nMe sc 18 kC281 := qzCk_ok (dm := 9) (T := [kC59, kC216, kC217, kC218, kC219, kC220, kC221, kC222, kC223, kC224, kC225, kC226, kC227, kC228, kC229, kC230, kC231, kC232, kC233, kC234, kC235, kC236, kC237, kC238, kC239, kC240, kC241, kC242, kC243, kC244, kC245, kC246, kC247, kC248, kC249, kC250, kC251, kC252, kC253, kC254, kC255, kC256, kC257, kC258, kC259, kC260, kC261, kC262, kC263, kC264, kC265, kC266, kC267, kC268, kC269, kC270, kC271, kC272, kC273, kC274, kC275, kC276, kC277, kC278, kC279, kC280]) (As := kA281) (hd := [(209, 18), (209, 28), (209, 46)]) (fk := [(209, 16, 1, 0, 0, (0, []))]) (n := 2000000) (List.forall_mem_cons.mpr ⟨(kM59 sc).mono (by decide), List.forall_mem_cons.mpr ⟨(kM216 sc).mono (by decide), List.forall_mem_cons.mpr ⟨(kM217 sc).mono (by decide), List.forall_mem_cons.mpr ⟨(kM218 sc).mono (by decide), List.forall_mem_cons.mpr ⟨(kM219 sc).mono (by decide), List.forall_mem_cons.mpr ⟨(kM220 sc).mono (by decide), List.forall_mem_cons.mpr ⟨(kM221 sc).mono (by decide), List.forall_mem_cons.mpr ⟨(kM222 sc).mono (by decide), List.forall_mem_cons.mpr ⟨(kM223 sc).mono (by decide), List.forall_mem_cons.mpr ⟨(kM224 sc).mono (by decide), List.forall_mem_cons.mpr ⟨(kM225 sc).mono (by decide), List.forall_mem_cons.mpr ⟨(kM226 sc).mono (by decide), List.forall_mem_cons.mpr ⟨(kM227 sc).mono (by decide), List.forall_mem_cons.mpr ⟨(kM228 sc).mono (by decide), List.forall_mem_cons.mpr ⟨(kM229 sc).mono (by decide), List.forall_mem_cons.mpr ⟨(kM230 sc).mono (by decide), List.forall_mem_cons.mpr ⟨(kM231 sc).mono (by decide), List.forall_mem_cons.mpr ⟨(kM232 sc).mono (by decide), List.forall_mem_cons.mpr ⟨(kM233 sc).mono (by decide), List.forall_mem_cons.mpr ⟨(kM234 sc).mono (by decide), List.forall_mem_cons.mpr ⟨(kM235 sc).mono (by decide), List.forall_mem_cons.mpr ⟨(kM236 sc).mono (by decide), List.forall_mem_cons.mpr ⟨(kM237 sc).mono (by decide), List.forall_mem_cons.mpr ⟨(kM238 sc).mono (by decide), List.forall_mem_cons.mpr ⟨(kM239 sc).mono (by decide), List.forall_mem_cons.mpr ⟨(kM240 sc).mono (by decide), List.forall_mem_cons.mpr ⟨(kM241 sc).mono (by decide), List.forall_mem_cons.mpr ⟨(kM242 sc).mono (by decide), List.forall_mem_cons.mpr ⟨(kM243 sc).mono (by decide), List.forall_mem_cons.mpr ⟨(kM244 sc).mono (by decide), List.forall_mem_cons.mpr ⟨(kM245 sc).mono (by decide), List.forall_mem_cons.mpr ⟨(kM246 sc).mono (by decide), List.forall_mem_cons.mpr ⟨(kM247 sc).mono (by decide), List.forall_mem_cons.mpr ⟨(kM248 sc).mono (by decide), List.forall_mem_cons.mpr ⟨(kM249 sc).mono (by decide), List.forall_mem_cons.mpr ⟨(kM250 sc).mono (by decide), List.forall_mem_cons.mpr ⟨(kM251 sc).mono (by decide), List.forall_mem_cons.mpr ⟨(kM252 sc).mono (by decide), List.forall_mem_cons.mpr ⟨(kM253 sc).mono (by decide), List.forall_mem_cons.mpr ⟨(kM254 sc).mono (by decide), List.forall_mem_cons.mpr ⟨(kM255 sc).mono (by decide), List.forall_mem_cons.mpr ⟨(kM256 sc).mono (by decide), List.forall_mem_cons.mpr ⟨(kM257 sc).mono (by decide), List.forall_mem_cons.mpr ⟨(kM258 sc).mono (by decide), List.forall_mem_cons.mpr ⟨(kM259 sc).mono (by decide), List.forall_mem_cons.mpr ⟨(kM260 sc).mono (by decide), List.forall_mem_cons.mpr ⟨(kM261 sc).mono (by decide), List.forall_mem_cons.mpr ⟨(kM262 sc).mono (by decide), List.forall_mem_cons.mpr ⟨(kM263 sc).mono (by decide), List.forall_mem_cons.mpr ⟨(kM264 sc).mono (by decide), List.forall_mem_cons.mpr ⟨(kM265 sc).mono (by decide), List.forall_mem_cons.mpr ⟨(kM266 sc).mono (by decide), List.forall_mem_cons.mpr ⟨(kM267 sc).mono (by decide), List.forall_mem_cons.mpr ⟨(kM268 sc).mono (by decide), List.forall_mem_cons.mpr ⟨(kM269 sc).mono (by decide), List.forall_mem_cons.mpr ⟨(kM270 sc).mono (by decide), List.forall_mem_cons.mpr ⟨(kM271 sc).mono (by decide), List.forall_mem_cons.mpr ⟨(kM272 sc).mono (by decide), List.forall_mem_cons.mpr ⟨(kM273 sc).mono (by decide), List.forall_mem_cons.mpr ⟨(kM274 sc).mono (by decide), List.forall_mem_cons.mpr ⟨(kM275 sc).mono (by decide), List.forall_mem_cons.mpr ⟨(kM276 sc).mono (by decide), List.forall_mem_cons.mpr ⟨(kM277 sc).mono (by decide), List.forall_mem_cons.mpr ⟨(kM278 sc).mono (by decide), List.forall_mem_cons.mpr ⟨(kM279 sc).mono (by decide), List.forall_mem_cons.mpr ⟨(kM280 sc).mono (by decide), List.forall_mem_nil _⟩⟩⟩⟩⟩⟩⟩⟩⟩⟩⟩⟩⟩⟩⟩⟩⟩⟩⟩⟩⟩⟩⟩⟩⟩⟩⟩⟩⟩⟩⟩⟩⟩⟩⟩⟩⟩⟩⟩⟩⟩⟩⟩⟩⟩⟩⟩⟩⟩⟩⟩⟩⟩⟩⟩⟩⟩⟩⟩⟩⟩⟩⟩⟩⟩⟩) (by decide +kernel)
/-- (('FirstLandingModel', 'mid', '(II)I'), (('r', 53),)) -/
noncomputable def kC282 : aCt := (207, (([((-2147483648), 2147483647), ((-2147483648), 2147483647)], [], [], (10000000000000000000000000000000000000000, [])), [(207, 0, [(2, (0, []), 53), (0, (0, [(1, 0)]), 0), (0, (0, [(1, 1)]), 0)], [])], [(0, 0, 1, (0, [])), (0, 0, 2, (0, []))]), (some (0, (-4), 1)), [(53, 9, 10)])
noncomputable def kA282 : List aAn := []
set_option maxRecDepth 100000 in
theorem kM282 (sc : List Int32) : nMe sc 27 kC282 := qzCk_ok (dm := 18) (T := [kC281]) (As := kA282) (hd := []) (fk := []) (n := 2000000) (List.forall_mem_cons.mpr ⟨(kM281 sc).mono (by decide), List.forall_mem_nil _⟩) (by decide +kernel)
/-- (('FirstLanding', 'odds', '(II)I'), (('r', 0),)) -/
noncomputable def kC283 : aCt := (107, (([((-2147483648), 2147483647), ((-2147483648), 2147483647)], [], [], (10000000000000000000000000000000000000000, [])), [(107, 0, [(2, (0, []), 0), (0, (0, [(1, 0)]), 0), (0, (0, [(1, 1)]), 0)], [])], [(0, 0, 1, (0, [])), (0, 0, 2, (0, []))]), (some (0, (-4), 1)), [(0, 10, 11)])
noncomputable def kA283 : List aAn := []
set_option maxRecDepth 100000 in
theorem kM283 (sc : List Int32) : nMe sc 27 kC283 := qzCk_ok (dm := 18) (T := [kC214]) (As := kA283) (hd := []) (fk := []) (n := 2000000) (List.forall_mem_cons.mpr ⟨(kM214 sc).mono (by decide), List.forall_mem_nil _⟩) (by decide +kernel)
/-- (('FirstLandingModel', 'odds', '(II)I'), (('r', 53),)) -/
noncomputable def kC284 : aCt := (211, (([((-2147483648), 2147483647), ((-2147483648), 2147483647)], [], [], (10000000000000000000000000000000000000000, [])), [(211, 0, [(2, (0, []), 53), (0, (0, [(1, 0)]), 0), (0, (0, [(1, 1)]), 0)], [])], [(0, 0, 1, (0, [])), (0, 0, 2, (0, []))]), (some (0, (-4), 1)), [(53, 9, 10)])
noncomputable def kA284 : List aAn := []
set_option maxRecDepth 100000 in
theorem kM284 (sc : List Int32) : nMe sc 27 kC284 := qzCk_ok (dm := 18) (T := [kC281]) (As := kA284) (hd := []) (fk := []) (n := 2000000) (List.forall_mem_cons.mpr ⟨(kM281 sc).mono (by decide), List.forall_mem_nil _⟩) (by decide +kernel)
/-- (('FirstLanding$Embassy', 'doByLot', '(I)V'), (('r', 3),)) -/
noncomputable def kC285 : aCt := (109, (([(0, 2147483647)], [], [], (10000000000000000000000000000000000000000, [])), [(109, 0, [(2, (0, []), 3), (0, (0, [(1, 0)]), 0), (6, (0, []), 0), (6, (0, []), 0)], [])], [(0, 0, 1, (0, []))]), none, [(3, 4, 6), (6, 0, 39)])
noncomputable def kA285 : List aAn := []
set_option maxRecDepth 100000 in
theorem kM285 (sc : List Int32) : nMe sc 27 kC285 := qzCk_ok (dm := 18) (T := [kC73, kC82]) (As := kA285) (hd := []) (fk := []) (n := 2000000) (List.forall_mem_cons.mpr ⟨(kM73 sc).mono (by decide), List.forall_mem_cons.mpr ⟨(kM82 sc).mono (by decide), List.forall_mem_nil _⟩⟩) (by decide +kernel)
/-- (('FirstLanding', 'lots', '(II)I'), (('r', 0),)) -/
noncomputable def kC286 : aCt := (108, (([((-2147483648), 2147483647), ((-2147483648), 2147483647)], [], [], (10000000000000000000000000000000000000000, [])), [(108, 0, [(2, (0, []), 0), (0, (0, [(1, 0)]), 0), (0, (0, [(1, 1)]), 0), (6, (0, []), 0), (6, (0, []), 0), (6, (0, []), 0)], [])], [(0, 0, 1, (0, [])), (0, 0, 2, (0, []))]), (some (0, (-4), 127)), [(3, 4, 6), (6, 0, 39)])
noncomputable def kA286 : List aAn := [(([(1, 20), (1, 2147483646), (0, 2147483646), (0, 20), (1, 6)], [], [(3, (3, []), (0, (0, [(1, 4)]), 0))], (20, [((-1), 3)])), [(108, 36, [(2, (0, []), 0), (0, (0, [(1, 0)]), 0), (0, (0, [(1, 1)]), 0), (1, (0, [(1, 2)]), 0), (6, (0, []), 0), (0, (0, [(1, 3)]), 0)], [])], [(0, 0, 1, (0, [])), (0, 0, 2, (0, [])), (0, 0, 3, (0, [])), (0, 0, 5, (0, [])), (2, 3, 0, (3, []))])]
set_option maxRecDepth 100000 in
theorem kM286 (sc : List Int32) : nMe sc 36 kC286 := qzCk_ok (dm := 27) (T := [kC83, kC285]) (As := kA286) (hd := [(108, 36)]) (fk := []) (n := 2000000) (List.forall_mem_cons.mpr ⟨(kM83 sc).mono (by decide), List.forall_mem_cons.mpr ⟨(kM285 sc).mono (by decide), List.forall_mem_nil _⟩⟩) (by decide +kernel)
/-- (('FirstLandingModel', 'lots', '(II)I'), (('r', 53),)) -/
noncomputable def kC287 : aCt := (212, (([((-2147483648), 2147483647), ((-2147483648), 2147483647)], [], [], (10000000000000000000000000000000000000000, [])), [(212, 0, [(2, (0, []), 53), (0, (0, [(1, 0)]), 0), (0, (0, [(1, 1)]), 0), (6, (0, []), 0), (6, (0, []), 0), (6, (0, []), 0), (6, (0, []), 0), (6, (0, []), 0)], [])], [(0, 0, 1, (0, [])), (0, 0, 2, (0, []))]), (some (0, (-4), 18)), [(58, 43, 200)])
noncomputable def kA287 : List aAn := [(([(1, 20), (1, 2147483646), (0, 2147483646), (0, 20), (1, 6), (0, 40)], [(40, [((-1), 0), (1, 3), ((-1), 5)])], [(58, (0, []), (0, (0, [(1, 4)]), 0)), (58, (80, []), (0, (0, [(1, 5)]), 0))], (40, [((-1), 5)])), [(212, 34, [(2, (0, []), 53), (0, (0, [(1, 0)]), 0), (0, (0, [(1, 1)]), 0), (1, (0, [(1, 2)]), 0), (6, (0, []), 0), (0, (0, [(1, 3)]), 0), (6, (0, []), 0), (6, (0, []), 0)], [])], [(0, 0, 1, (0, [])), (0, 0, 2, (0, [])), (0, 0, 3, (0, [])), (0, 0, 5, (0, [])), (2, 58, 0, (0, [])), (2, 58, 0, (80, []))])]
set_option maxRecDepth 100000 in
theorem kM287 (sc : List Int32) : nMe sc 27 kC287 := qzCk_ok (dm := 18) (T := [kC85, kC86]) (As := kA287) (hd := [(212, 34)]) (fk := []) (n := 2000000) (List.forall_mem_cons.mpr ⟨(kM85 sc).mono (by decide), List.forall_mem_cons.mpr ⟨(kM86 sc).mono (by decide), List.forall_mem_nil _⟩⟩) (by decide +kernel)
/-- (('FirstLanding', 'asked', '()I'), (('r', 0),)) -/
noncomputable def kC288 : aCt := (110, (([], [], [], (10000000000000000000000000000000000000000, [])), [(110, 0, [(2, (0, []), 0)], [])], []), (some (0, (-2147483648), 2147483647)), [])
noncomputable def kA288 : List aAn := []
set_option maxRecDepth 100000 in
theorem kM288 (sc : List Int32) : nMe sc 9 kC288 := qzCk_ok (dm := 0) (T := []) (As := kA288) (hd := []) (fk := []) (n := 2000000) (List.forall_mem_nil _) (by decide +kernel)
/-- (('FirstLandingModel', 'asked', '()I'), (('r', 53),)) -/
noncomputable def kC289 : aCt := (213, (([], [], [], (10000000000000000000000000000000000000000, [])), [(213, 0, [(2, (0, []), 53)], [])], []), (some (0, (-2147483648), 2147483647)), [])
noncomputable def kA289 : List aAn := []
set_option maxRecDepth 100000 in
theorem kM289 (sc : List Int32) : nMe sc 9 kC289 := qzCk_ok (dm := 0) (T := []) (As := kA289) (hd := []) (fk := []) (n := 2000000) (List.forall_mem_nil _) (by decide +kernel)
/-- (('FirstLanding', 'upper', '()J'), (('r', 0),)) -/
noncomputable def kC290 : aCt := (111, (([], [], [], (10000000000000000000000000000000000000000, [])), [(111, 0, [(2, (0, []), 0)], [])], []), (some (1, (-9223372036854775808), 9223372036854775807)), [])
noncomputable def kA290 : List aAn := []
set_option maxRecDepth 100000 in
theorem kM290 (sc : List Int32) : nMe sc 9 kC290 := qzCk_ok (dm := 0) (T := []) (As := kA290) (hd := []) (fk := []) (n := 2000000) (List.forall_mem_nil _) (by decide +kernel)
/-- (('FirstLandingModel', 'upper', '()J'), (('r', 53),)) -/
noncomputable def kC291 : aCt := (214, (([], [], [], (10000000000000000000000000000000000000000, [])), [(214, 0, [(2, (0, []), 53)], [])], []), (some (1, (-9223372036854775808), 9223372036854775807)), [])
noncomputable def kA291 : List aAn := []
set_option maxRecDepth 100000 in
theorem kM291 (sc : List Int32) : nMe sc 9 kC291 := qzCk_ok (dm := 0) (T := []) (As := kA291) (hd := []) (fk := []) (n := 2000000) (List.forall_mem_nil _) (by decide +kernel)
/-- (('FirstLanding', 'lower', '()J'), (('r', 0),)) -/
noncomputable def kC292 : aCt := (112, (([], [], [], (10000000000000000000000000000000000000000, [])), [(112, 0, [(2, (0, []), 0)], [])], []), (some (1, (-9223372036854775808), 9223372036854775807)), [])
noncomputable def kA292 : List aAn := []
set_option maxRecDepth 100000 in
theorem kM292 (sc : List Int32) : nMe sc 9 kC292 := qzCk_ok (dm := 0) (T := []) (As := kA292) (hd := []) (fk := []) (n := 2000000) (List.forall_mem_nil _) (by decide +kernel)
/-- (('FirstLandingModel', 'lower', '()J'), (('r', 53),)) -/
noncomputable def kC293 : aCt := (215, (([], [], [], (10000000000000000000000000000000000000000, [])), [(215, 0, [(2, (0, []), 53)], [])], []), (some (1, (-9223372036854775808), 9223372036854775807)), [])
noncomputable def kA293 : List aAn := []
set_option maxRecDepth 100000 in
theorem kM293 (sc : List Int32) : nMe sc 9 kC293 := qzCk_ok (dm := 0) (T := []) (As := kA293) (hd := []) (fk := []) (n := 2000000) (List.forall_mem_nil _) (by decide +kernel)
/-- (('FirstLanding', 'embassiesKept', '()I'), (('r', 0),)) -/
noncomputable def kC294 : aCt := (117, (([], [], [], (10000000000000000000000000000000000000000, [])), [(117, 0, [(2, (0, []), 0), (6, (0, []), 0), (6, (0, []), 0)], [])], []), (some (0, (-2147483648), 2147483647)), [])
noncomputable def kA294 : List aAn := [(([((-2147483648), 2147483647), (0, 3)], [], [], (3, [((-1), 1)])), [(117, 4, [(2, (0, []), 0), (0, (0, [(1, 0)]), 0), (0, (0, [(1, 1)]), 0)], [])], [(0, 0, 1, (0, [])), (0, 0, 2, (0, []))])]
set_option maxRecDepth 100000 in
theorem kM294 (sc : List Int32) : nMe sc 9 kC294 := qzCk_ok (dm := 0) (T := []) (As := kA294) (hd := [(117, 4)]) (fk := []) (n := 2000000) (List.forall_mem_nil _) (by decide +kernel)
/-- (('FirstLanding', 'textsThere', '()I'), (('r', 0),)) -/
noncomputable def kC295 : aCt := (116, (([], [], [], (10000000000000000000000000000000000000000, [])), [(116, 0, [(2, (0, []), 0), (6, (0, []), 0), (6, (0, []), 0)], [])], []), (some (0, (-2147483648), 2147483647)), [])
noncomputable def kA295 : List aAn := [(([((-2147483648), 2147483647), (0, 4)], [], [], (4, [((-1), 1)])), [(116, 4, [(2, (0, []), 0), (0, (0, [(1, 0)]), 0), (0, (0, [(1, 1)]), 0)], [])], [(0, 0, 1, (0, [])), (0, 0, 2, (0, []))])]
set_option maxRecDepth 100000 in
theorem kM295 (sc : List Int32) : nMe sc 9 kC295 := qzCk_ok (dm := 0) (T := []) (As := kA295) (hd := [(116, 4)]) (fk := []) (n := 2000000) (List.forall_mem_nil _) (by decide +kernel)
/-- (('FirstLanding', 'rowsThere', '()I'), (('r', 0),)) -/
noncomputable def kC296 : aCt := (115, (([], [], [], (10000000000000000000000000000000000000000, [])), [(115, 0, [(2, (0, []), 0), (6, (0, []), 0), (6, (0, []), 0)], [])], []), (some (0, (-2147483648), 2147483647)), [])
noncomputable def kA296 : List aAn := [(([((-2147483648), 2147483647), (0, 6)], [], [], (6, [((-1), 1)])), [(115, 4, [(2, (0, []), 0), (0, (0, [(1, 0)]), 0), (0, (0, [(1, 1)]), 0)], [])], [(0, 0, 1, (0, [])), (0, 0, 2, (0, []))])]
set_option maxRecDepth 100000 in
theorem kM296 (sc : List Int32) : nMe sc 9 kC296 := qzCk_ok (dm := 0) (T := []) (As := kA296) (hd := [(115, 4)]) (fk := []) (n := 2000000) (List.forall_mem_nil _) (by decide +kernel)
/-- (('FirstLanding', 'howMany', '(I)I'), (('r', 0),)) -/
noncomputable def kC297 : aCt := (114, (([(0, 9)], [], [], (10000000000000000000000000000000000000000, [])), [(114, 0, [(2, (0, []), 0), (0, (0, [(1, 0)]), 0)], [])], [(0, 0, 1, (0, []))]), (some (0, (-2147483648), 2147483647)), [])
noncomputable def kA297 : List aAn := []
set_option maxRecDepth 100000 in
theorem kM297 (sc : List Int32) : nMe sc 27 kC297 := qzCk_ok (dm := 18) (T := [kC66, kC78, kC83, kC294, kC295, kC296]) (As := kA297) (hd := []) (fk := []) (n := 2000000) (List.forall_mem_cons.mpr ⟨(kM66 sc).mono (by decide), List.forall_mem_cons.mpr ⟨(kM78 sc).mono (by decide), List.forall_mem_cons.mpr ⟨(kM83 sc).mono (by decide), List.forall_mem_cons.mpr ⟨(kM294 sc).mono (by decide), List.forall_mem_cons.mpr ⟨(kM295 sc).mono (by decide), List.forall_mem_cons.mpr ⟨(kM296 sc).mono (by decide), List.forall_mem_nil _⟩⟩⟩⟩⟩⟩) (by decide +kernel)
/-- (('FirstLanding', 'count', '(I)I'), (('r', 0),)) -/
noncomputable def kC298 : aCt := (113, (([((-2147483648), 2147483647)], [], [], (10000000000000000000000000000000000000000, [])), [(113, 0, [(2, (0, []), 0), (0, (0, [(1, 0)]), 0)], [])], [(0, 0, 1, (0, []))]), (some (0, (-2147483648), 2147483647)), [])
noncomputable def kA298 : List aAn := []
set_option maxRecDepth 100000 in
theorem kM298 (sc : List Int32) : nMe sc 36 kC298 := qzCk_ok (dm := 27) (T := [kC297]) (As := kA298) (hd := []) (fk := []) (n := 2000000) (List.forall_mem_cons.mpr ⟨(kM297 sc).mono (by decide), List.forall_mem_nil _⟩) (by decide +kernel)
/-- (('FirstLandingModel', 'counted', '(I)I'), (('r', 53),)) -/
noncomputable def kC299 : aCt := (217, (([(0, 9)], [], [], (10000000000000000000000000000000000000000, [])), [(217, 0, [(2, (0, []), 53), (0, (0, [(1, 0)]), 0), (6, (0, []), 0), (6, (0, []), 0)], [])], [(0, 0, 1, (0, []))]), (some (0, (-2147483648), 2147483647)), [])
noncomputable def kA299 : List aAn := [(([(0, 9), ((-2147483648), 2147483647), (0, 6)], [], [], (20, [((-1), 2)])), [(217, 4, [(2, (0, []), 53), (0, (0, [(1, 0)]), 0), (0, (0, [(1, 1)]), 0), (0, (0, [(1, 2)]), 0)], [])], [(0, 0, 1, (0, [])), (0, 0, 2, (0, [])), (0, 0, 3, (0, []))]), (([(0, 9), ((-2147483648), 2147483647), (0, 4)], [], [], (11, [((-1), 2)])), [(217, 25, [(2, (0, []), 53), (0, (0, [(1, 0)]), 0), (0, (0, [(1, 1)]), 0), (0, (0, [(1, 2)]), 0)], [])], [(0, 0, 1, (0, [])), (0, 0, 2, (0, [])), (0, 0, 3, (0, []))]), (([(0, 9), ((-2147483648), 2147483647), (0, 3)], [], [], (3, [((-1), 2)])), [(217, 46, [(2, (0, []), 53), (0, (0, [(1, 0)]), 0), (0, (0, [(1, 1)]), 0), (0, (0, [(1, 2)]), 0)], [])], [(0, 0, 1, (0, [])), (0, 0, 2, (0, [])), (0, 0, 3, (0, []))])]
set_option maxRecDepth 100000 in
theorem kM299 (sc : List Int32) : nMe sc 27 kC299 := qzCk_ok (dm := 18) (T := [kC71, kC80, kC86]) (As := kA299) (hd := [(217, 4), (217, 25), (217, 46)]) (fk := []) (n := 2000000) (List.forall_mem_cons.mpr ⟨(kM71 sc).mono (by decide), List.forall_mem_cons.mpr ⟨(kM80 sc).mono (by decide), List.forall_mem_cons.mpr ⟨(kM86 sc).mono (by decide), List.forall_mem_nil _⟩⟩⟩) (by decide +kernel)
/-- (('FirstLandingModel', 'count', '(I)I'), (('r', 53),)) -/
noncomputable def kC300 : aCt := (216, (([((-2147483648), 2147483647)], [], [], (10000000000000000000000000000000000000000, [])), [(216, 0, [(2, (0, []), 53), (0, (0, [(1, 0)]), 0)], [])], [(0, 0, 1, (0, []))]), (some (0, (-2147483648), 2147483647)), [])
noncomputable def kA300 : List aAn := []
set_option maxRecDepth 100000 in
theorem kM300 (sc : List Int32) : nMe sc 36 kC300 := qzCk_ok (dm := 27) (T := [kC299]) (As := kA300) (hd := []) (fk := []) (n := 2000000) (List.forall_mem_cons.mpr ⟨(kM299 sc).mono (by decide), List.forall_mem_nil _⟩) (by decide +kernel)
/-- (('FirstLanding', 'finding', '()I'), (('r', 0),)) -/
noncomputable def kC301 : aCt := (118, (([], [], [], (10000000000000000000000000000000000000000, [])), [(118, 0, [(2, (0, []), 0)], [])], []), (some (0, (-2147483648), 2147483647)), [])
noncomputable def kA301 : List aAn := []
set_option maxRecDepth 100000 in
theorem kM301 (sc : List Int32) : nMe sc 9 kC301 := qzCk_ok (dm := 0) (T := []) (As := kA301) (hd := []) (fk := []) (n := 2000000) (List.forall_mem_nil _) (by decide +kernel)
/-- (('FirstLandingModel', 'finding', '()I'), (('r', 53),)) -/
noncomputable def kC302 : aCt := (218, (([], [], [], (10000000000000000000000000000000000000000, [])), [(218, 0, [(2, (0, []), 53)], [])], []), (some (0, (-2147483648), 2147483647)), [])
noncomputable def kA302 : List aAn := []
set_option maxRecDepth 100000 in
theorem kM302 (sc : List Int32) : nMe sc 9 kC302 := qzCk_ok (dm := 0) (T := []) (As := kA302) (hd := []) (fk := []) (n := 2000000) (List.forall_mem_nil _) (by decide +kernel)
/-- (('FirstLanding', 'findings', '(I)I'), (('r', 0),)) -/
noncomputable def kC303 : aCt := (119, (([((-2147483648), 2147483647)], [], [], (10000000000000000000000000000000000000000, [])), [(119, 0, [(2, (0, []), 0), (0, (0, [(1, 0)]), 0)], [])], [(0, 0, 1, (0, []))]), (some (0, (-2147483648), 2147483647)), [])
noncomputable def kA303 : List aAn := []
set_option maxRecDepth 100000 in
theorem kM303 (sc : List Int32) : nMe sc 9 kC303 := qzCk_ok (dm := 0) (T := []) (As := kA303) (hd := []) (fk := []) (n := 2000000) (List.forall_mem_nil _) (by decide +kernel)
/-- (('FirstLandingModel', 'findings', '(I)I'), (('r', 53),)) -/
noncomputable def kC304 : aCt := (219, (([((-2147483648), 2147483647)], [], [], (10000000000000000000000000000000000000000, [])), [(219, 0, [(2, (0, []), 53), (0, (0, [(1, 0)]), 0)], [])], [(0, 0, 1, (0, []))]), (some (0, (-2147483648), 2147483647)), [])
noncomputable def kA304 : List aAn := []
set_option maxRecDepth 100000 in
theorem kM304 (sc : List Int32) : nMe sc 9 kC304 := qzCk_ok (dm := 0) (T := []) (As := kA304) (hd := []) (fk := []) (n := 2000000) (List.forall_mem_nil _) (by decide +kernel)
/-- (('FirstLanding$Embassy', 'digestedAfter', '(J)J'), (('r', 3),)) -/
noncomputable def kC305 : aCt := (121, (([((-9223372036854775808), 9223372036854775807)], [], [], (10000000000000000000000000000000000000000, [])), [(121, 0, [(2, (0, []), 3), (1, (0, [(1, 0)]), 0), (6, (0, []), 0), (6, (0, []), 0), (6, (0, []), 0), (6, (0, []), 0), (6, (0, []), 0)], [])], [(0, 0, 1, (0, []))]), (some (1, (-9223372036854775808), 9223372036854775807)), [])
noncomputable def kA305 : List aAn := [(([((-9223372036854775808), 9223372036854775807), ((-9223372036854775808), 9223372036854775807), (0, 6)], [], [], (140, [((-21), 2)])), [(121, 4, [(2, (0, []), 3), (1, (0, [(1, 0)]), 0), (6, (0, []), 0), (1, (0, [(1, 1)]), 0), (6, (0, []), 0), (0, (0, [(1, 2)]), 0), (6, (0, []), 0)], [])], [(0, 0, 1, (0, [])), (0, 0, 3, (0, [])), (0, 0, 5, (0, []))]), (([((-9223372036854775808), 9223372036854775807), ((-9223372036854775808), 9223372036854775807), (0, 5), (0, 5), (1, 6)], [], [(3, (3, []), (0, (0, [(1, 4)]), 0))], (138, [((-21), 2), ((-1), 3)])), [(121, 10, [(2, (0, []), 3), (1, (0, [(1, 0)]), 0), (6, (0, []), 0), (1, (0, [(1, 1)]), 0), (6, (0, []), 0), (0, (0, [(1, 2)]), 0), (0, (0, [(1, 3)]), 0)], [])], [(0, 0, 1, (0, [])), (0, 0, 3, (0, [])), (0, 0, 5, (0, [])), (0, 0, 6, (0, [])), (2, 3, 0, (3, []))]), (([((-9223372036854775808), 9223372036854775807), ((-9223372036854775808), 9223372036854775807), (0, 5), (0, 6), (1, 6)], [], [(3, (3, []), (0, (0, [(1, 4)]), 0))], (132, [((-21), 2), ((-1), 3)])), [(121, 27, [(2, (0, []), 3), (1, (0, [(1, 0)]), 0), (6, (0, []), 0), (1, (0, [(1, 1)]), 0), (6, (0, []), 0), (0, (0, [(1, 2)]), 0), (0, (0, [(1, 3)]), 0)], [])], [(0, 0, 1, (0, [])), (0, 0, 3, (0, [])), (0, 0, 5, (0, [])), (0, 0, 6, (0, [])), (2, 3, 0, (3, []))])]
set_option maxRecDepth 100000 in
theorem kM305 (sc : List Int32) : nMe sc 18 kC305 := qzCk_ok (dm := 9) (T := [kC53, kC54, kC55]) (As := kA305) (hd := [(121, 4), (121, 10), (121, 27)]) (fk := []) (n := 2000000) (List.forall_mem_cons.mpr ⟨(kM53 sc).mono (by decide), List.forall_mem_cons.mpr ⟨(kM54 sc).mono (by decide), List.forall_mem_cons.mpr ⟨(kM55 sc).mono (by decide), List.forall_mem_nil _⟩⟩⟩) (by decide +kernel)
/-- (('FirstLanding$Row', 'digestedAfter', '(J)J'), (('r', 21),)) -/
noncomputable def kC306 : aCt := (122, (([((-9223372036854775808), 9223372036854775807)], [], [], (10000000000000000000000000000000000000000, [])), [(122, 0, [(2, (0, []), 21), (1, (0, [(1, 0)]), 0), (6, (0, []), 0), (6, (0, []), 0), (6, (0, []), 0), (6, (0, []), 0)], [])], [(0, 0, 1, (0, []))]), (some (1, (-9223372036854775808), 9223372036854775807)), [])
noncomputable def kA306 : List aAn := [(([((-9223372036854775808), 9223372036854775807), ((-9223372036854775808), 9223372036854775807), (0, 40), ((-1), 40)], [], [(21, (1, []), (0, (0, [(1, 3)]), 0))], (40, [((-1), 2)])), [(122, 10, [(2, (0, []), 21), (1, (0, [(1, 0)]), 0), (6, (0, []), 0), (1, (0, [(1, 1)]), 0), (6, (0, []), 0), (0, (0, [(1, 2)]), 0)], [])], [(0, 0, 1, (0, [])), (0, 0, 3, (0, [])), (0, 0, 5, (0, [])), (2, 21, 0, (1, []))])]
set_option maxRecDepth 100000 in
theorem kM306 (sc : List Int32) : nMe sc 9 kC306 := qzCk_ok (dm := 0) (T := []) (As := kA306) (hd := [(122, 10)]) (fk := []) (n := 2000000) (List.forall_mem_nil _) (by decide +kernel)
/-- (('FirstLanding$Row', 'digestedAfter', '(J)J'), (('r', 23),)) -/
noncomputable def kC307 : aCt := (122, (([((-9223372036854775808), 9223372036854775807)], [], [], (10000000000000000000000000000000000000000, [])), [(122, 0, [(2, (0, []), 23), (1, (0, [(1, 0)]), 0), (6, (0, []), 0), (6, (0, []), 0), (6, (0, []), 0), (6, (0, []), 0)], [])], [(0, 0, 1, (0, []))]), (some (1, (-9223372036854775808), 9223372036854775807)), [])
noncomputable def kA307 : List aAn := [(([((-9223372036854775808), 9223372036854775807), ((-9223372036854775808), 9223372036854775807), (0, 40), ((-1), 40)], [], [(23, (1, []), (0, (0, [(1, 3)]), 0))], (40, [((-1), 2)])), [(122, 10, [(2, (0, []), 23), (1, (0, [(1, 0)]), 0), (6, (0, []), 0), (1, (0, [(1, 1)]), 0), (6, (0, []), 0), (0, (0, [(1, 2)]), 0)], [])], [(0, 0, 1, (0, [])), (0, 0, 3, (0, [])), (0, 0, 5, (0, [])), (2, 23, 0, (1, []))])]
set_option maxRecDepth 100000 in
theorem kM307 (sc : List Int32) : nMe sc 9 kC307 := qzCk_ok (dm := 0) (T := []) (As := kA307) (hd := [(122, 10)]) (fk := []) (n := 2000000) (List.forall_mem_nil _) (by decide +kernel)
/-- (('FirstLanding$Row', 'digestedAfter', '(J)J'), (('r', 25),)) -/
noncomputable def kC308 : aCt := (122, (([((-9223372036854775808), 9223372036854775807)], [], [], (10000000000000000000000000000000000000000, [])), [(122, 0, [(2, (0, []), 25), (1, (0, [(1, 0)]), 0), (6, (0, []), 0), (6, (0, []), 0), (6, (0, []), 0), (6, (0, []), 0)], [])], [(0, 0, 1, (0, []))]), (some (1, (-9223372036854775808), 9223372036854775807)), [])
noncomputable def kA308 : List aAn := [(([((-9223372036854775808), 9223372036854775807), ((-9223372036854775808), 9223372036854775807), (0, 40), ((-1), 40)], [], [(25, (1, []), (0, (0, [(1, 3)]), 0))], (40, [((-1), 2)])), [(122, 10, [(2, (0, []), 25), (1, (0, [(1, 0)]), 0), (6, (0, []), 0), (1, (0, [(1, 1)]), 0), (6, (0, []), 0), (0, (0, [(1, 2)]), 0)], [])], [(0, 0, 1, (0, [])), (0, 0, 3, (0, [])), (0, 0, 5, (0, [])), (2, 25, 0, (1, []))])]
set_option maxRecDepth 100000 in
theorem kM308 (sc : List Int32) : nMe sc 9 kC308 := qzCk_ok (dm := 0) (T := []) (As := kA308) (hd := [(122, 10)]) (fk := []) (n := 2000000) (List.forall_mem_nil _) (by decide +kernel)
/-- (('FirstLanding$Row', 'digestedAfter', '(J)J'), (('r', 27),)) -/
noncomputable def kC309 : aCt := (122, (([((-9223372036854775808), 9223372036854775807)], [], [], (10000000000000000000000000000000000000000, [])), [(122, 0, [(2, (0, []), 27), (1, (0, [(1, 0)]), 0), (6, (0, []), 0), (6, (0, []), 0), (6, (0, []), 0), (6, (0, []), 0)], [])], [(0, 0, 1, (0, []))]), (some (1, (-9223372036854775808), 9223372036854775807)), [])
noncomputable def kA309 : List aAn := [(([((-9223372036854775808), 9223372036854775807), ((-9223372036854775808), 9223372036854775807), (0, 40), ((-1), 40)], [], [(27, (1, []), (0, (0, [(1, 3)]), 0))], (40, [((-1), 2)])), [(122, 10, [(2, (0, []), 27), (1, (0, [(1, 0)]), 0), (6, (0, []), 0), (1, (0, [(1, 1)]), 0), (6, (0, []), 0), (0, (0, [(1, 2)]), 0)], [])], [(0, 0, 1, (0, [])), (0, 0, 3, (0, [])), (0, 0, 5, (0, [])), (2, 27, 0, (1, []))])]
set_option maxRecDepth 100000 in
theorem kM309 (sc : List Int32) : nMe sc 9 kC309 := qzCk_ok (dm := 0) (T := []) (As := kA309) (hd := [(122, 10)]) (fk := []) (n := 2000000) (List.forall_mem_nil _) (by decide +kernel)
/-- (('FirstLanding$Row', 'digestedAfter', '(J)J'), (('r', 29),)) -/
noncomputable def kC310 : aCt := (122, (([((-9223372036854775808), 9223372036854775807)], [], [], (10000000000000000000000000000000000000000, [])), [(122, 0, [(2, (0, []), 29), (1, (0, [(1, 0)]), 0), (6, (0, []), 0), (6, (0, []), 0), (6, (0, []), 0), (6, (0, []), 0)], [])], [(0, 0, 1, (0, []))]), (some (1, (-9223372036854775808), 9223372036854775807)), [])
noncomputable def kA310 : List aAn := [(([((-9223372036854775808), 9223372036854775807), ((-9223372036854775808), 9223372036854775807), (0, 40), ((-1), 40)], [], [(29, (1, []), (0, (0, [(1, 3)]), 0))], (40, [((-1), 2)])), [(122, 10, [(2, (0, []), 29), (1, (0, [(1, 0)]), 0), (6, (0, []), 0), (1, (0, [(1, 1)]), 0), (6, (0, []), 0), (0, (0, [(1, 2)]), 0)], [])], [(0, 0, 1, (0, [])), (0, 0, 3, (0, [])), (0, 0, 5, (0, [])), (2, 29, 0, (1, []))])]
set_option maxRecDepth 100000 in
theorem kM310 (sc : List Int32) : nMe sc 9 kC310 := qzCk_ok (dm := 0) (T := []) (As := kA310) (hd := [(122, 10)]) (fk := []) (n := 2000000) (List.forall_mem_nil _) (by decide +kernel)
/-- (('FirstLanding$Row', 'digestedAfter', '(J)J'), (('r', 31),)) -/
noncomputable def kC311 : aCt := (122, (([((-9223372036854775808), 9223372036854775807)], [], [], (10000000000000000000000000000000000000000, [])), [(122, 0, [(2, (0, []), 31), (1, (0, [(1, 0)]), 0), (6, (0, []), 0), (6, (0, []), 0), (6, (0, []), 0), (6, (0, []), 0)], [])], [(0, 0, 1, (0, []))]), (some (1, (-9223372036854775808), 9223372036854775807)), [])
noncomputable def kA311 : List aAn := [(([((-9223372036854775808), 9223372036854775807), ((-9223372036854775808), 9223372036854775807), (0, 40), ((-1), 40)], [], [(31, (1, []), (0, (0, [(1, 3)]), 0))], (40, [((-1), 2)])), [(122, 10, [(2, (0, []), 31), (1, (0, [(1, 0)]), 0), (6, (0, []), 0), (1, (0, [(1, 1)]), 0), (6, (0, []), 0), (0, (0, [(1, 2)]), 0)], [])], [(0, 0, 1, (0, [])), (0, 0, 3, (0, [])), (0, 0, 5, (0, [])), (2, 31, 0, (1, []))])]
set_option maxRecDepth 100000 in
theorem kM311 (sc : List Int32) : nMe sc 9 kC311 := qzCk_ok (dm := 0) (T := []) (As := kA311) (hd := [(122, 10)]) (fk := []) (n := 2000000) (List.forall_mem_nil _) (by decide +kernel)
/-- (('FirstLanding$Text', 'digestedAfter', '(J)J'), (('r', 33),)) -/
noncomputable def kC312 : aCt := (123, (([((-9223372036854775808), 9223372036854775807)], [], [], (10000000000000000000000000000000000000000, [])), [(123, 0, [(2, (0, []), 33), (1, (0, [(1, 0)]), 0), (6, (0, []), 0), (6, (0, []), 0), (6, (0, []), 0), (6, (0, []), 0)], [])], [(0, 0, 1, (0, []))]), (some (1, (-9223372036854775808), 9223372036854775807)), [])
noncomputable def kA312 : List aAn := [(([((-9223372036854775808), 9223372036854775807), ((-9223372036854775808), 9223372036854775807), (0, 60), ((-1), 60)], [], [(33, (1, []), (0, (0, [(1, 3)]), 0))], (60, [((-1), 2)])), [(123, 10, [(2, (0, []), 33), (1, (0, [(1, 0)]), 0), (6, (0, []), 0), (1, (0, [(1, 1)]), 0), (6, (0, []), 0), (0, (0, [(1, 2)]), 0)], [])], [(0, 0, 1, (0, [])), (0, 0, 3, (0, [])), (0, 0, 5, (0, [])), (2, 33, 0, (1, []))])]
set_option maxRecDepth 100000 in
theorem kM312 (sc : List Int32) : nMe sc 9 kC312 := qzCk_ok (dm := 0) (T := []) (As := kA312) (hd := [(123, 10)]) (fk := []) (n := 2000000) (List.forall_mem_nil _) (by decide +kernel)
/-- (('FirstLanding$Text', 'digestedAfter', '(J)J'), (('r', 35),)) -/
noncomputable def kC313 : aCt := (123, (([((-9223372036854775808), 9223372036854775807)], [], [], (10000000000000000000000000000000000000000, [])), [(123, 0, [(2, (0, []), 35), (1, (0, [(1, 0)]), 0), (6, (0, []), 0), (6, (0, []), 0), (6, (0, []), 0), (6, (0, []), 0)], [])], [(0, 0, 1, (0, []))]), (some (1, (-9223372036854775808), 9223372036854775807)), [])
noncomputable def kA313 : List aAn := [(([((-9223372036854775808), 9223372036854775807), ((-9223372036854775808), 9223372036854775807), (0, 60), ((-1), 60)], [], [(35, (1, []), (0, (0, [(1, 3)]), 0))], (60, [((-1), 2)])), [(123, 10, [(2, (0, []), 35), (1, (0, [(1, 0)]), 0), (6, (0, []), 0), (1, (0, [(1, 1)]), 0), (6, (0, []), 0), (0, (0, [(1, 2)]), 0)], [])], [(0, 0, 1, (0, [])), (0, 0, 3, (0, [])), (0, 0, 5, (0, [])), (2, 35, 0, (1, []))])]
set_option maxRecDepth 100000 in
theorem kM313 (sc : List Int32) : nMe sc 9 kC313 := qzCk_ok (dm := 0) (T := []) (As := kA313) (hd := [(123, 10)]) (fk := []) (n := 2000000) (List.forall_mem_nil _) (by decide +kernel)
/-- (('FirstLanding$Text', 'digestedAfter', '(J)J'), (('r', 37),)) -/
noncomputable def kC314 : aCt := (123, (([((-9223372036854775808), 9223372036854775807)], [], [], (10000000000000000000000000000000000000000, [])), [(123, 0, [(2, (0, []), 37), (1, (0, [(1, 0)]), 0), (6, (0, []), 0), (6, (0, []), 0), (6, (0, []), 0), (6, (0, []), 0)], [])], [(0, 0, 1, (0, []))]), (some (1, (-9223372036854775808), 9223372036854775807)), [])
noncomputable def kA314 : List aAn := [(([((-9223372036854775808), 9223372036854775807), ((-9223372036854775808), 9223372036854775807), (0, 60), ((-1), 60)], [], [(37, (1, []), (0, (0, [(1, 3)]), 0))], (60, [((-1), 2)])), [(123, 10, [(2, (0, []), 37), (1, (0, [(1, 0)]), 0), (6, (0, []), 0), (1, (0, [(1, 1)]), 0), (6, (0, []), 0), (0, (0, [(1, 2)]), 0)], [])], [(0, 0, 1, (0, [])), (0, 0, 3, (0, [])), (0, 0, 5, (0, [])), (2, 37, 0, (1, []))])]
set_option maxRecDepth 100000 in
theorem kM314 (sc : List Int32) : nMe sc 9 kC314 := qzCk_ok (dm := 0) (T := []) (As := kA314) (hd := [(123, 10)]) (fk := []) (n := 2000000) (List.forall_mem_nil _) (by decide +kernel)
/-- (('FirstLanding$Text', 'digestedAfter', '(J)J'), (('r', 39),)) -/
noncomputable def kC315 : aCt := (123, (([((-9223372036854775808), 9223372036854775807)], [], [], (10000000000000000000000000000000000000000, [])), [(123, 0, [(2, (0, []), 39), (1, (0, [(1, 0)]), 0), (6, (0, []), 0), (6, (0, []), 0), (6, (0, []), 0), (6, (0, []), 0)], [])], [(0, 0, 1, (0, []))]), (some (1, (-9223372036854775808), 9223372036854775807)), [])
noncomputable def kA315 : List aAn := [(([((-9223372036854775808), 9223372036854775807), ((-9223372036854775808), 9223372036854775807), (0, 60), ((-1), 60)], [], [(39, (1, []), (0, (0, [(1, 3)]), 0))], (60, [((-1), 2)])), [(123, 10, [(2, (0, []), 39), (1, (0, [(1, 0)]), 0), (6, (0, []), 0), (1, (0, [(1, 1)]), 0), (6, (0, []), 0), (0, (0, [(1, 2)]), 0)], [])], [(0, 0, 1, (0, [])), (0, 0, 3, (0, [])), (0, 0, 5, (0, [])), (2, 39, 0, (1, []))])]
set_option maxRecDepth 100000 in
theorem kM315 (sc : List Int32) : nMe sc 9 kC315 := qzCk_ok (dm := 0) (T := []) (As := kA315) (hd := [(123, 10)]) (fk := []) (n := 2000000) (List.forall_mem_nil _) (by decide +kernel)
/-- (('FirstLanding', 'digest', '()J'), (('r', 0),)) -/
noncomputable def kC316 : aCt := (120, (([], [], [], (10000000000000000000000000000000000000000, [])), [(120, 0, [(2, (0, []), 0), (6, (0, []), 0), (6, (0, []), 0), (6, (0, []), 0)], [])], []), (some (1, (-9223372036854775808), 9223372036854775807)), [])
noncomputable def kA316 : List aAn := [(([((-9223372036854775808), 9223372036854775807), (0, 10)], [], [], (43, [((-1), 1)])), [(120, 4, [(2, (0, []), 0), (1, (0, [(1, 0)]), 0), (6, (0, []), 0), (0, (0, [(1, 1)]), 0)], [])], [(0, 0, 1, (0, [])), (0, 0, 3, (0, []))]), (([((-9223372036854775808), 9223372036854775807), (0, 3)], [], [], (25, [((-1), 1)])), [(120, 25, [(2, (0, []), 0), (1, (0, [(1, 0)]), 0), (6, (0, []), 0), (0, (0, [(1, 1)]), 0)], [])], [(0, 0, 1, (0, [])), (0, 0, 3, (0, []))]), (([((-9223372036854775808), 9223372036854775807), (0, 6)], [], [], (17, [((-1), 1)])), [(120, 51, [(2, (0, []), 0), (1, (0, [(1, 0)]), 0), (6, (0, []), 0), (0, (0, [(1, 1)]), 0)], [])], [(0, 0, 1, (0, [])), (0, 0, 3, (0, []))]), (([((-9223372036854775808), 9223372036854775807), (0, 4)], [], [], (4, [((-1), 1)])), [(120, 65, [(2, (0, []), 0), (1, (0, [(1, 0)]), 0), (6, (0, []), 0), (0, (0, [(1, 1)]), 0)], [])], [(0, 0, 1, (0, [])), (0, 0, 3, (0, []))])]
set_option maxRecDepth 100000 in
theorem kM316 (sc : List Int32) : nMe sc 36 kC316 := qzCk_ok (dm := 27) (T := [kC297, kC305, kC306, kC307, kC308, kC309, kC310, kC311, kC312, kC313, kC314, kC315]) (As := kA316) (hd := [(120, 4), (120, 25), (120, 51), (120, 65)]) (fk := []) (n := 2000000) (List.forall_mem_cons.mpr ⟨(kM297 sc).mono (by decide), List.forall_mem_cons.mpr ⟨(kM305 sc).mono (by decide), List.forall_mem_cons.mpr ⟨(kM306 sc).mono (by decide), List.forall_mem_cons.mpr ⟨(kM307 sc).mono (by decide), List.forall_mem_cons.mpr ⟨(kM308 sc).mono (by decide), List.forall_mem_cons.mpr ⟨(kM309 sc).mono (by decide), List.forall_mem_cons.mpr ⟨(kM310 sc).mono (by decide), List.forall_mem_cons.mpr ⟨(kM311 sc).mono (by decide), List.forall_mem_cons.mpr ⟨(kM312 sc).mono (by decide), List.forall_mem_cons.mpr ⟨(kM313 sc).mono (by decide), List.forall_mem_cons.mpr ⟨(kM314 sc).mono (by decide), List.forall_mem_cons.mpr ⟨(kM315 sc).mono (by decide), List.forall_mem_nil _⟩⟩⟩⟩⟩⟩⟩⟩⟩⟩⟩⟩) (by decide +kernel)
/-- (('FirstLandingModel', 'digest', '()J'), (('r', 53),)) -/
noncomputable def kC317 : aCt := (220, (([], [], [], (10000000000000000000000000000000000000000, [])), [(220, 0, [(2, (0, []), 53), (6, (0, []), 0), (6, (0, []), 0), (6, (0, []), 0), (6, (0, []), 0)], [])], []), (some (1, (-9223372036854775808), 9223372036854775807)), [])
noncomputable def kA317 : List aAn := [(([((-9223372036854775808), 9223372036854775807), (0, 10)], [], [], (2450, [((-1), 1)])), [(220, 4, [(2, (0, []), 53), (1, (0, [(1, 0)]), 0), (6, (0, []), 0), (0, (0, [(1, 1)]), 0), (6, (0, []), 0)], [])], [(0, 0, 1, (0, [])), (0, 0, 3, (0, []))]), (([((-9223372036854775808), 9223372036854775807), (0, 6)], [], [], (1970, [((-21), 1)])), [(220, 20, [(2, (0, []), 53), (1, (0, [(1, 0)]), 0), (6, (0, []), 0), (0, (0, [(1, 1)]), 0), (6, (0, []), 0)], [])], [(0, 0, 1, (0, [])), (0, 0, 3, (0, []))]), (([((-9223372036854775808), 9223372036854775807), (0, 3), (0, 6)], [], [(58, (0, []), (0, (0, [(1, 2)]), 0))], (1223, [((-1), 1)])), [(220, 67, [(2, (0, []), 53), (1, (0, [(1, 0)]), 0), (6, (0, []), 0), (0, (0, [(1, 1)]), 0), (6, (0, []), 0)], [])], [(0, 0, 1, (0, [])), (0, 0, 3, (0, [])), (2, 58, 0, (0, []))]), (([((-9223372036854775808), 9223372036854775807), (0, 5), (0, 5), (1, 6)], [], [(58, (0, []), (0, (0, [(1, 3)]), 0))], (1968, [((-21), 1), ((-1), 2)])), [(220, 28, [(2, (0, []), 53), (1, (0, [(1, 0)]), 0), (6, (0, []), 0), (0, (0, [(1, 1)]), 0), (0, (0, [(1, 2)]), 0)], [])], [(0, 0, 1, (0, [])), (0, 0, 3, (0, [])), (0, 0, 4, (0, [])), (2, 58, 0, (0, []))]), (([((-9223372036854775808), 9223372036854775807), (0, 6), (0, 6)], [], [(58, (0, []), (0, (0, [(1, 2)]), 0))], (1143, [((-82), 1)])), [(220, 95, [(2, (0, []), 53), (1, (0, [(1, 0)]), 0), (6, (0, []), 0), (0, (0, [(1, 1)]), 0), (6, (0, []), 0)], [])], [(0, 0, 1, (0, [])), (0, 0, 3, (0, [])), (2, 58, 0, (0, []))]), (([((-9223372036854775808), 9223372036854775807), (0, 5), (0, 40), (0, 6)], [], [(58, (0, []), (0, (0, [(1, 3)]), 0))], (1142, [((-82), 1), ((-1), 2)])), [(220, 110, [(2, (0, []), 53), (1, (0, [(1, 0)]), 0), (6, (0, []), 0), (0, (0, [(1, 1)]), 0), (0, (0, [(1, 2)]), 0)], [])], [(0, 0, 1, (0, [])), (0, 0, 3, (0, [])), (0, 0, 4, (0, [])), (2, 58, 0, (0, []))]), (([((-9223372036854775808), 9223372036854775807), (0, 5), (0, 6), (1, 6)], [], [(58, (0, []), (0, (0, [(1, 3)]), 0))], (1962, [((-21), 1), ((-1), 2)])), [(220, 45, [(2, (0, []), 53), (1, (0, [(1, 0)]), 0), (6, (0, []), 0), (0, (0, [(1, 1)]), 0), (0, (0, [(1, 2)]), 0)], [])], [(0, 0, 1, (0, [])), (0, 0, 3, (0, [])), (0, 0, 4, (0, [])), (2, 58, 0, (0, []))]), (([((-9223372036854775808), 9223372036854775807), (0, 4), (0, 6)], [], [(58, (0, []), (0, (0, [(1, 2)]), 0))], (549, [((-122), 1)])), [(220, 136, [(2, (0, []), 53), (1, (0, [(1, 0)]), 0), (6, (0, []), 0), (0, (0, [(1, 1)]), 0), (6, (0, []), 0)], [])], [(0, 0, 1, (0, [])), (0, 0, 3, (0, [])), (2, 58, 0, (0, []))]), (([((-9223372036854775808), 9223372036854775807), (0, 3), (0, 60), (0, 6)], [], [(58, (0, []), (0, (0, [(1, 3)]), 0))], (548, [((-122), 1), ((-1), 2)])), [(220, 151, [(2, (0, []), 53), (1, (0, [(1, 0)]), 0), (6, (0, []), 0), (0, (0, [(1, 1)]), 0), (0, (0, [(1, 2)]), 0)], [])], [(0, 0, 1, (0, [])), (0, 0, 3, (0, [])), (0, 0, 4, (0, [])), (2, 58, 0, (0, []))])]
set_option maxRecDepth 100000 in
theorem kM317 (sc : List Int32) : nMe sc 36 kC317 := qzCk_ok (dm := 27) (T := [kC60, kC299]) (As := kA317) (hd := [(220, 4), (220, 20), (220, 28), (220, 45), (220, 67), (220, 95), (220, 110), (220, 136), (220, 151)]) (fk := []) (n := 2000000) (List.forall_mem_cons.mpr ⟨(kM60 sc).mono (by decide), List.forall_mem_cons.mpr ⟨(kM299 sc).mono (by decide), List.forall_mem_nil _⟩⟩) (by decide +kernel)
