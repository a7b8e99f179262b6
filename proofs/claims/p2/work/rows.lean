section
-- ===== PART A: goes FIRST, ahead of the names: the tables' words, and 'selects' of the private methods out of them =====
/-- a private method of a class that the tables say can be made, by its rows of tables_1 -/
def lw_okq (q : MethodName × Nat) : Prop := (q.1.cls ≠ "java/lang/invoke/MethodHandle" ∧ q.1.cls ≠ "java/lang/invoke/VarHandle") ∧ Cond.instantiable q.1.cls q.2 ∈ tables_1 ∧ Cond.privateMethod q.1 ∈ tables_1 ∧ Cond.instanceMethod q.1 ∈ tables_1
theorem lw_p0 : lw_okq (⟨"FirstLanding", "rowAt", "(I)LFirstLanding$Row;"⟩, 12) := ⟨⟨by decide +kernel, by decide +kernel⟩, List.mem_of_getElem? (i := 16) (by decide +kernel), List.mem_of_getElem? (i := 194) (by decide +kernel), List.mem_of_getElem? (i := 195) (by decide +kernel)⟩
theorem lw_p1 : lw_okq (⟨"FirstLanding", "found", "(I)I"⟩, 12) := ⟨⟨by decide +kernel, by decide +kernel⟩, List.mem_of_getElem? (i := 16) (by decide +kernel), List.mem_of_getElem? (i := 198) (by decide +kernel), List.mem_of_getElem? (i := 199) (by decide +kernel)⟩
theorem lw_p2 : lw_okq (⟨"FirstLanding$Row", "begin", "(I)V"⟩, 2) := ⟨⟨by decide +kernel, by decide +kernel⟩, List.mem_of_getElem? (i := 119) (by decide +kernel), List.mem_of_getElem? (i := 202) (by decide +kernel), List.mem_of_getElem? (i := 203) (by decide +kernel)⟩
theorem lw_p3 : lw_okq (⟨"FirstLanding$Row", "holds", "(II)Z"⟩, 2) := ⟨⟨by decide +kernel, by decide +kernel⟩, List.mem_of_getElem? (i := 119) (by decide +kernel), List.mem_of_getElem? (i := 228) (by decide +kernel), List.mem_of_getElem? (i := 229) (by decide +kernel)⟩
theorem lw_p4 : lw_okq (⟨"FirstLanding$Row", "total", "()J"⟩, 2) := ⟨⟨by decide +kernel, by decide +kernel⟩, List.mem_of_getElem? (i := 119) (by decide +kernel), List.mem_of_getElem? (i := 239) (by decide +kernel), List.mem_of_getElem? (i := 240) (by decide +kernel)⟩
theorem lw_p5 : lw_okq (⟨"FirstLanding", "textAt", "(I)LFirstLanding$Text;"⟩, 12) := ⟨⟨by decide +kernel, by decide +kernel⟩, List.mem_of_getElem? (i := 16) (by decide +kernel), List.mem_of_getElem? (i := 247) (by decide +kernel), List.mem_of_getElem? (i := 248) (by decide +kernel)⟩
theorem lw_p6 : lw_okq (⟨"FirstLanding$Text", "begin", "(I)V"⟩, 2) := ⟨⟨by decide +kernel, by decide +kernel⟩, List.mem_of_getElem? (i := 135) (by decide +kernel), List.mem_of_getElem? (i := 251) (by decide +kernel), List.mem_of_getElem? (i := 252) (by decide +kernel)⟩
theorem lw_p7 : lw_okq (⟨"FirstLanding$Reader", "read", "(LFirstLanding$Text;)I"⟩, 2) := ⟨⟨by decide +kernel, by decide +kernel⟩, List.mem_of_getElem? (i := 71) (by decide +kernel), List.mem_of_getElem? (i := 266) (by decide +kernel), List.mem_of_getElem? (i := 267) (by decide +kernel)⟩
theorem lw_p8 : lw_okq (⟨"FirstLanding$Reader", "skipBlanks", "(LFirstLanding$Text;)V"⟩, 2) := ⟨⟨by decide +kernel, by decide +kernel⟩, List.mem_of_getElem? (i := 71) (by decide +kernel), List.mem_of_getElem? (i := 270) (by decide +kernel), List.mem_of_getElem? (i := 271) (by decide +kernel)⟩
theorem lw_p9 : lw_okq (⟨"FirstLanding$Reader", "sign", "(LFirstLanding$Text;)I"⟩, 2) := ⟨⟨by decide +kernel, by decide +kernel⟩, List.mem_of_getElem? (i := 71) (by decide +kernel), List.mem_of_getElem? (i := 274) (by decide +kernel), List.mem_of_getElem? (i := 275) (by decide +kernel)⟩
theorem lw_p10 : lw_okq (⟨"FirstLanding$Embassy", "begin", "(I)V"⟩, 7) := ⟨⟨by decide +kernel, by decide +kernel⟩, List.mem_of_getElem? (i := 28) (by decide +kernel), List.mem_of_getElem? (i := 278) (by decide +kernel), List.mem_of_getElem? (i := 279) (by decide +kernel)⟩
theorem lw_p11 : lw_okq (⟨"FirstLanding$Reader", "readPerson", "(LFirstLanding$Text;I)Z"⟩, 2) := ⟨⟨by decide +kernel, by decide +kernel⟩, List.mem_of_getElem? (i := 71) (by decide +kernel), List.mem_of_getElem? (i := 282) (by decide +kernel), List.mem_of_getElem? (i := 283) (by decide +kernel)⟩
theorem lw_p12 : lw_okq (⟨"FirstLanding$Embassy", "become", "(LFirstLanding$Embassy;)V"⟩, 7) := ⟨⟨by decide +kernel, by decide +kernel⟩, List.mem_of_getElem? (i := 28) (by decide +kernel), List.mem_of_getElem? (i := 295) (by decide +kernel), List.mem_of_getElem? (i := 296) (by decide +kernel)⟩
theorem lw_p13 : lw_okq (⟨"FirstLanding$Embassy", "has", "(I)Z"⟩, 7) := ⟨⟨by decide +kernel, by decide +kernel⟩, List.mem_of_getElem? (i := 28) (by decide +kernel), List.mem_of_getElem? (i := 304) (by decide +kernel), List.mem_of_getElem? (i := 305) (by decide +kernel)⟩
theorem lw_p14 : lw_okq (⟨"FirstLanding$Embassy", "about", "(II)I"⟩, 7) := ⟨⟨by decide +kernel, by decide +kernel⟩, List.mem_of_getElem? (i := 28) (by decide +kernel), List.mem_of_getElem? (i := 308) (by decide +kernel), List.mem_of_getElem? (i := 309) (by decide +kernel)⟩
theorem lw_p15 : lw_okq (⟨"FirstLanding$Embassy", "seeming", "(II)I"⟩, 7) := ⟨⟨by decide +kernel, by decide +kernel⟩, List.mem_of_getElem? (i := 28) (by decide +kernel), List.mem_of_getElem? (i := 312) (by decide +kernel), List.mem_of_getElem? (i := 313) (by decide +kernel)⟩
def lw_privs_1 : List (MethodName × Nat) := [(⟨"FirstLanding", "rowAt", "(I)LFirstLanding$Row;"⟩, 12), (⟨"FirstLanding", "found", "(I)I"⟩, 12), (⟨"FirstLanding$Row", "begin", "(I)V"⟩, 2), (⟨"FirstLanding$Row", "holds", "(II)Z"⟩, 2), (⟨"FirstLanding$Row", "total", "()J"⟩, 2), (⟨"FirstLanding", "textAt", "(I)LFirstLanding$Text;"⟩, 12), (⟨"FirstLanding$Text", "begin", "(I)V"⟩, 2), (⟨"FirstLanding$Reader", "read", "(LFirstLanding$Text;)I"⟩, 2), (⟨"FirstLanding$Reader", "skipBlanks", "(LFirstLanding$Text;)V"⟩, 2), (⟨"FirstLanding$Reader", "sign", "(LFirstLanding$Text;)I"⟩, 2), (⟨"FirstLanding$Embassy", "begin", "(I)V"⟩, 7), (⟨"FirstLanding$Reader", "readPerson", "(LFirstLanding$Text;I)Z"⟩, 2), (⟨"FirstLanding$Embassy", "become", "(LFirstLanding$Embassy;)V"⟩, 7), (⟨"FirstLanding$Embassy", "has", "(I)Z"⟩, 7), (⟨"FirstLanding$Embassy", "about", "(II)I"⟩, 7), (⟨"FirstLanding$Embassy", "seeming", "(II)I"⟩, 7)]
theorem lw_r1 : ∀ q ∈ lw_privs_1, lw_okq q := List.forall_mem_cons.mpr ⟨lw_p0, List.forall_mem_cons.mpr ⟨lw_p1, List.forall_mem_cons.mpr ⟨lw_p2, List.forall_mem_cons.mpr ⟨lw_p3, List.forall_mem_cons.mpr ⟨lw_p4, List.forall_mem_cons.mpr ⟨lw_p5, List.forall_mem_cons.mpr ⟨lw_p6, List.forall_mem_cons.mpr ⟨lw_p7, List.forall_mem_cons.mpr ⟨lw_p8, List.forall_mem_cons.mpr ⟨lw_p9, List.forall_mem_cons.mpr ⟨lw_p10, List.forall_mem_cons.mpr ⟨lw_p11, List.forall_mem_cons.mpr ⟨lw_p12, List.forall_mem_cons.mpr ⟨lw_p13, List.forall_mem_cons.mpr ⟨lw_p14, List.forall_mem_cons.mpr ⟨lw_p15, fun _ h => absurd h List.not_mem_nil⟩⟩⟩⟩⟩⟩⟩⟩⟩⟩⟩⟩⟩⟩⟩⟩
theorem lw_p16 : lw_okq (⟨"FirstLanding$Embassy", "seemingAs", "(III)I"⟩, 7) := ⟨⟨by decide +kernel, by decide +kernel⟩, List.mem_of_getElem? (i := 28) (by decide +kernel), List.mem_of_getElem? (i := 316) (by decide +kernel), List.mem_of_getElem? (i := 317) (by decide +kernel)⟩
theorem lw_p17 : lw_okq (⟨"FirstLanding$Embassy", "look", "(II)I"⟩, 7) := ⟨⟨by decide +kernel, by decide +kernel⟩, List.mem_of_getElem? (i := 28) (by decide +kernel), List.mem_of_getElem? (i := 323) (by decide +kernel), List.mem_of_getElem? (i := 324) (by decide +kernel)⟩
theorem lw_p18 : lw_okq (⟨"FirstLanding$Embassy", "treatiesOf", "(I)I"⟩, 7) := ⟨⟨by decide +kernel, by decide +kernel⟩, List.mem_of_getElem? (i := 28) (by decide +kernel), List.mem_of_getElem? (i := 339) (by decide +kernel), List.mem_of_getElem? (i := 340) (by decide +kernel)⟩
theorem lw_p19 : lw_okq (⟨"FirstLanding$Embassy", "unmadeBy", "(I)I"⟩, 7) := ⟨⟨by decide +kernel, by decide +kernel⟩, List.mem_of_getElem? (i := 28) (by decide +kernel), List.mem_of_getElem? (i := 348) (by decide +kernel), List.mem_of_getElem? (i := 349) (by decide +kernel)⟩
theorem lw_p20 : lw_okq (⟨"FirstLanding$Embassy", "greatestTo", "(I)I"⟩, 7) := ⟨⟨by decide +kernel, by decide +kernel⟩, List.mem_of_getElem? (i := 28) (by decide +kernel), List.mem_of_getElem? (i := 366) (by decide +kernel), List.mem_of_getElem? (i := 367) (by decide +kernel)⟩
theorem lw_p21 : lw_okq (⟨"FirstLanding$Embassy", "leastTo", "(I)I"⟩, 7) := ⟨⟨by decide +kernel, by decide +kernel⟩, List.mem_of_getElem? (i := 28) (by decide +kernel), List.mem_of_getElem? (i := 370) (by decide +kernel), List.mem_of_getElem? (i := 371) (by decide +kernel)⟩
theorem lw_p22 : lw_okq (⟨"FirstLanding$Embassy", "howManyAre", "(I)I"⟩, 7) := ⟨⟨by decide +kernel, by decide +kernel⟩, List.mem_of_getElem? (i := 28) (by decide +kernel), List.mem_of_getElem? (i := 375) (by decide +kernel), List.mem_of_getElem? (i := 376) (by decide +kernel)⟩
theorem lw_p23 : lw_okq (⟨"FirstLanding$Embassy", "unmadeTo", "(I)I"⟩, 7) := ⟨⟨by decide +kernel, by decide +kernel⟩, List.mem_of_getElem? (i := 28) (by decide +kernel), List.mem_of_getElem? (i := 380) (by decide +kernel), List.mem_of_getElem? (i := 381) (by decide +kernel)⟩
theorem lw_p24 : lw_okq (⟨"FirstLanding$Embassy", "move", "(I)V"⟩, 7) := ⟨⟨by decide +kernel, by decide +kernel⟩, List.mem_of_getElem? (i := 28) (by decide +kernel), List.mem_of_getElem? (i := 388) (by decide +kernel), List.mem_of_getElem? (i := 389) (by decide +kernel)⟩
theorem lw_p25 : lw_okq (⟨"FirstLanding$Embassy", "note", "(III)V"⟩, 7) := ⟨⟨by decide +kernel, by decide +kernel⟩, List.mem_of_getElem? (i := 28) (by decide +kernel), List.mem_of_getElem? (i := 392) (by decide +kernel), List.mem_of_getElem? (i := 393) (by decide +kernel)⟩
theorem lw_p26 : lw_okq (⟨"FirstLanding$Embassy", "hasTwo", "(II)Z"⟩, 7) := ⟨⟨by decide +kernel, by decide +kernel⟩, List.mem_of_getElem? (i := 28) (by decide +kernel), List.mem_of_getElem? (i := 406) (by decide +kernel), List.mem_of_getElem? (i := 407) (by decide +kernel)⟩
theorem lw_p27 : lw_okq (⟨"FirstLanding$Embassy", "seeFirst", "(III)V"⟩, 7) := ⟨⟨by decide +kernel, by decide +kernel⟩, List.mem_of_getElem? (i := 28) (by decide +kernel), List.mem_of_getElem? (i := 411) (by decide +kernel), List.mem_of_getElem? (i := 412) (by decide +kernel)⟩
theorem lw_p28 : lw_okq (⟨"FirstLanding$Embassy", "unmade", "()I"⟩, 7) := ⟨⟨by decide +kernel, by decide +kernel⟩, List.mem_of_getElem? (i := 28) (by decide +kernel), List.mem_of_getElem? (i := 415) (by decide +kernel), List.mem_of_getElem? (i := 416) (by decide +kernel)⟩
theorem lw_p29 : lw_okq (⟨"FirstLanding$Embassy", "mayTreat", "(II)Z"⟩, 7) := ⟨⟨by decide +kernel, by decide +kernel⟩, List.mem_of_getElem? (i := 28) (by decide +kernel), List.mem_of_getElem? (i := 423) (by decide +kernel), List.mem_of_getElem? (i := 424) (by decide +kernel)⟩
theorem lw_p30 : lw_okq (⟨"FirstLanding$Embassy", "areAgreed", "(III)Z"⟩, 7) := ⟨⟨by decide +kernel, by decide +kernel⟩, List.mem_of_getElem? (i := 28) (by decide +kernel), List.mem_of_getElem? (i := 427) (by decide +kernel), List.mem_of_getElem? (i := 428) (by decide +kernel)⟩
theorem lw_p31 : lw_okq (⟨"FirstLanding$Embassy", "apart", "(III)I"⟩, 7) := ⟨⟨by decide +kernel, by decide +kernel⟩, List.mem_of_getElem? (i := 28) (by decide +kernel), List.mem_of_getElem? (i := 431) (by decide +kernel), List.mem_of_getElem? (i := 432) (by decide +kernel)⟩
def lw_privs_2 : List (MethodName × Nat) := [(⟨"FirstLanding$Embassy", "seemingAs", "(III)I"⟩, 7), (⟨"FirstLanding$Embassy", "look", "(II)I"⟩, 7), (⟨"FirstLanding$Embassy", "treatiesOf", "(I)I"⟩, 7), (⟨"FirstLanding$Embassy", "unmadeBy", "(I)I"⟩, 7), (⟨"FirstLanding$Embassy", "greatestTo", "(I)I"⟩, 7), (⟨"FirstLanding$Embassy", "leastTo", "(I)I"⟩, 7), (⟨"FirstLanding$Embassy", "howManyAre", "(I)I"⟩, 7), (⟨"FirstLanding$Embassy", "unmadeTo", "(I)I"⟩, 7), (⟨"FirstLanding$Embassy", "move", "(I)V"⟩, 7), (⟨"FirstLanding$Embassy", "note", "(III)V"⟩, 7), (⟨"FirstLanding$Embassy", "hasTwo", "(II)Z"⟩, 7), (⟨"FirstLanding$Embassy", "seeFirst", "(III)V"⟩, 7), (⟨"FirstLanding$Embassy", "unmade", "()I"⟩, 7), (⟨"FirstLanding$Embassy", "mayTreat", "(II)Z"⟩, 7), (⟨"FirstLanding$Embassy", "areAgreed", "(III)Z"⟩, 7), (⟨"FirstLanding$Embassy", "apart", "(III)I"⟩, 7)]
theorem lw_r2 : ∀ q ∈ lw_privs_2, lw_okq q := List.forall_mem_cons.mpr ⟨lw_p16, List.forall_mem_cons.mpr ⟨lw_p17, List.forall_mem_cons.mpr ⟨lw_p18, List.forall_mem_cons.mpr ⟨lw_p19, List.forall_mem_cons.mpr ⟨lw_p20, List.forall_mem_cons.mpr ⟨lw_p21, List.forall_mem_cons.mpr ⟨lw_p22, List.forall_mem_cons.mpr ⟨lw_p23, List.forall_mem_cons.mpr ⟨lw_p24, List.forall_mem_cons.mpr ⟨lw_p25, List.forall_mem_cons.mpr ⟨lw_p26, List.forall_mem_cons.mpr ⟨lw_p27, List.forall_mem_cons.mpr ⟨lw_p28, List.forall_mem_cons.mpr ⟨lw_p29, List.forall_mem_cons.mpr ⟨lw_p30, List.forall_mem_cons.mpr ⟨lw_p31, fun _ h => absurd h List.not_mem_nil⟩⟩⟩⟩⟩⟩⟩⟩⟩⟩⟩⟩⟩⟩⟩⟩
theorem lw_p32 : lw_okq (⟨"FirstLanding$Embassy", "bind", "(II)V"⟩, 7) := ⟨⟨by decide +kernel, by decide +kernel⟩, List.mem_of_getElem? (i := 28) (by decide +kernel), List.mem_of_getElem? (i := 438) (by decide +kernel), List.mem_of_getElem? (i := 439) (by decide +kernel)⟩
theorem lw_p33 : lw_okq (⟨"FirstLanding$Embassy", "backTo", "(I)V"⟩, 7) := ⟨⟨by decide +kernel, by decide +kernel⟩, List.mem_of_getElem? (i := 28) (by decide +kernel), List.mem_of_getElem? (i := 452) (by decide +kernel), List.mem_of_getElem? (i := 453) (by decide +kernel)⟩
theorem lw_p34 : lw_okq (⟨"FirstLanding", "keptAt", "(I)LFirstLanding$Embassy;"⟩, 12) := ⟨⟨by decide +kernel, by decide +kernel⟩, List.mem_of_getElem? (i := 16) (by decide +kernel), List.mem_of_getElem? (i := 461) (by decide +kernel), List.mem_of_getElem? (i := 462) (by decide +kernel)⟩
theorem lw_p35 : lw_okq (⟨"FirstLanding$Embassy", "hasSet", "(I)Z"⟩, 7) := ⟨⟨by decide +kernel, by decide +kernel⟩, List.mem_of_getElem? (i := 28) (by decide +kernel), List.mem_of_getElem? (i := 473) (by decide +kernel), List.mem_of_getElem? (i := 474) (by decide +kernel)⟩
theorem lw_p36 : lw_okq (⟨"FirstLanding$Embassy", "firstAgreeing", "(I)I"⟩, 7) := ⟨⟨by decide +kernel, by decide +kernel⟩, List.mem_of_getElem? (i := 28) (by decide +kernel), List.mem_of_getElem? (i := 487) (by decide +kernel), List.mem_of_getElem? (i := 488) (by decide +kernel)⟩
theorem lw_p37 : lw_okq (⟨"FirstLanding$Embassy", "agreeing", "(I)I"⟩, 7) := ⟨⟨by decide +kernel, by decide +kernel⟩, List.mem_of_getElem? (i := 28) (by decide +kernel), List.mem_of_getElem? (i := 491) (by decide +kernel), List.mem_of_getElem? (i := 492) (by decide +kernel)⟩
theorem lw_p38 : lw_okq (⟨"FirstLanding", "whyNoPairs", "(LFirstLanding$Row;)I"⟩, 12) := ⟨⟨by decide +kernel, by decide +kernel⟩, List.mem_of_getElem? (i := 16) (by decide +kernel), List.mem_of_getElem? (i := 512) (by decide +kernel), List.mem_of_getElem? (i := 513) (by decide +kernel)⟩
theorem lw_p39 : lw_okq (⟨"FirstLanding$Walk", "fewest", "(LFirstLanding$Embassy;LFirstLanding$Row;)I"⟩, 4) := ⟨⟨by decide +kernel, by decide +kernel⟩, List.mem_of_getElem? (i := 87) (by decide +kernel), List.mem_of_getElem? (i := 516) (by decide +kernel), List.mem_of_getElem? (i := 517) (by decide +kernel)⟩
theorem lw_p40 : lw_okq (⟨"FirstLanding$Walk", "learn", "(LFirstLanding$Embassy;LFirstLanding$Row;)V"⟩, 4) := ⟨⟨by decide +kernel, by decide +kernel⟩, List.mem_of_getElem? (i := 87) (by decide +kernel), List.mem_of_getElem? (i := 520) (by decide +kernel), List.mem_of_getElem? (i := 521) (by decide +kernel)⟩
theorem lw_p41 : lw_okq (⟨"FirstLanding$Meetings", "fewest", "(LFirstLanding$Embassy;III)I"⟩, 2) := ⟨⟨by decide +kernel, by decide +kernel⟩, List.mem_of_getElem? (i := 107) (by decide +kernel), List.mem_of_getElem? (i := 530) (by decide +kernel), List.mem_of_getElem? (i := 531) (by decide +kernel)⟩
theorem lw_p42 : lw_okq (⟨"FirstLanding$Meetings", "foldIn", "(IIZ)V"⟩, 2) := ⟨⟨by decide +kernel, by decide +kernel⟩, List.mem_of_getElem? (i := 107) (by decide +kernel), List.mem_of_getElem? (i := 537) (by decide +kernel), List.mem_of_getElem? (i := 538) (by decide +kernel)⟩
theorem lw_p43 : lw_okq (⟨"FirstLanding", "whyNoNotes", "(LFirstLanding$Row;)I"⟩, 12) := ⟨⟨by decide +kernel, by decide +kernel⟩, List.mem_of_getElem? (i := 16) (by decide +kernel), List.mem_of_getElem? (i := 549) (by decide +kernel), List.mem_of_getElem? (i := 550) (by decide +kernel)⟩
theorem lw_p44 : lw_okq (⟨"FirstLanding", "isNoted", "(IILFirstLanding$Row;)Z"⟩, 12) := ⟨⟨by decide +kernel, by decide +kernel⟩, List.mem_of_getElem? (i := 16) (by decide +kernel), List.mem_of_getElem? (i := 553) (by decide +kernel), List.mem_of_getElem? (i := 554) (by decide +kernel)⟩
theorem lw_p45 : lw_okq (⟨"FirstLanding", "sortsByKinds", "(II)I"⟩, 12) := ⟨⟨by decide +kernel, by decide +kernel⟩, List.mem_of_getElem? (i := 16) (by decide +kernel), List.mem_of_getElem? (i := 566) (by decide +kernel), List.mem_of_getElem? (i := 567) (by decide +kernel)⟩
theorem lw_p46 : lw_okq (⟨"FirstLanding$Embassy", "known", "(II)I"⟩, 7) := ⟨⟨by decide +kernel, by decide +kernel⟩, List.mem_of_getElem? (i := 28) (by decide +kernel), List.mem_of_getElem? (i := 574) (by decide +kernel), List.mem_of_getElem? (i := 575) (by decide +kernel)⟩
theorem lw_p47 : lw_okq (⟨"FirstLanding$Embassy", "seenBy", "(I)I"⟩, 7) := ⟨⟨by decide +kernel, by decide +kernel⟩, List.mem_of_getElem? (i := 28) (by decide +kernel), List.mem_of_getElem? (i := 578) (by decide +kernel), List.mem_of_getElem? (i := 579) (by decide +kernel)⟩
def lw_privs_3 : List (MethodName × Nat) := [(⟨"FirstLanding$Embassy", "bind", "(II)V"⟩, 7), (⟨"FirstLanding$Embassy", "backTo", "(I)V"⟩, 7), (⟨"FirstLanding", "keptAt", "(I)LFirstLanding$Embassy;"⟩, 12), (⟨"FirstLanding$Embassy", "hasSet", "(I)Z"⟩, 7), (⟨"FirstLanding$Embassy", "firstAgreeing", "(I)I"⟩, 7), (⟨"FirstLanding$Embassy", "agreeing", "(I)I"⟩, 7), (⟨"FirstLanding", "whyNoPairs", "(LFirstLanding$Row;)I"⟩, 12), (⟨"FirstLanding$Walk", "fewest", "(LFirstLanding$Embassy;LFirstLanding$Row;)I"⟩, 4), (⟨"FirstLanding$Walk", "learn", "(LFirstLanding$Embassy;LFirstLanding$Row;)V"⟩, 4), (⟨"FirstLanding$Meetings", "fewest", "(LFirstLanding$Embassy;III)I"⟩, 2), (⟨"FirstLanding$Meetings", "foldIn", "(IIZ)V"⟩, 2), (⟨"FirstLanding", "whyNoNotes", "(LFirstLanding$Row;)I"⟩, 12), (⟨"FirstLanding", "isNoted", "(IILFirstLanding$Row;)Z"⟩, 12), (⟨"FirstLanding", "sortsByKinds", "(II)I"⟩, 12), (⟨"FirstLanding$Embassy", "known", "(II)I"⟩, 7), (⟨"FirstLanding$Embassy", "seenBy", "(I)I"⟩, 7)]
theorem lw_r3 : ∀ q ∈ lw_privs_3, lw_okq q := List.forall_mem_cons.mpr ⟨lw_p32, List.forall_mem_cons.mpr ⟨lw_p33, List.forall_mem_cons.mpr ⟨lw_p34, List.forall_mem_cons.mpr ⟨lw_p35, List.forall_mem_cons.mpr ⟨lw_p36, List.forall_mem_cons.mpr ⟨lw_p37, List.forall_mem_cons.mpr ⟨lw_p38, List.forall_mem_cons.mpr ⟨lw_p39, List.forall_mem_cons.mpr ⟨lw_p40, List.forall_mem_cons.mpr ⟨lw_p41, List.forall_mem_cons.mpr ⟨lw_p42, List.forall_mem_cons.mpr ⟨lw_p43, List.forall_mem_cons.mpr ⟨lw_p44, List.forall_mem_cons.mpr ⟨lw_p45, List.forall_mem_cons.mpr ⟨lw_p46, List.forall_mem_cons.mpr ⟨lw_p47, fun _ h => absurd h List.not_mem_nil⟩⟩⟩⟩⟩⟩⟩⟩⟩⟩⟩⟩⟩⟩⟩⟩
theorem lw_p48 : lw_okq (⟨"FirstLanding$Embassy", "afterTurns", "(II)I"⟩, 7) := ⟨⟨by decide +kernel, by decide +kernel⟩, List.mem_of_getElem? (i := 28) (by decide +kernel), List.mem_of_getElem? (i := 590) (by decide +kernel), List.mem_of_getElem? (i := 591) (by decide +kernel)⟩
theorem lw_p49 : lw_okq (⟨"FirstLanding", "tellWeighed", "(III)V"⟩, 12) := ⟨⟨by decide +kernel, by decide +kernel⟩, List.mem_of_getElem? (i := 16) (by decide +kernel), List.mem_of_getElem? (i := 600) (by decide +kernel), List.mem_of_getElem? (i := 601) (by decide +kernel)⟩
theorem lw_p50 : lw_okq (⟨"FirstLanding", "tellRatio", "(JJ)V"⟩, 12) := ⟨⟨by decide +kernel, by decide +kernel⟩, List.mem_of_getElem? (i := 16) (by decide +kernel), List.mem_of_getElem? (i := 608) (by decide +kernel), List.mem_of_getElem? (i := 609) (by decide +kernel)⟩
theorem lw_p51 : lw_okq (⟨"FirstLanding$Embassy", "doByLot", "(I)V"⟩, 7) := ⟨⟨by decide +kernel, by decide +kernel⟩, List.mem_of_getElem? (i := 28) (by decide +kernel), List.mem_of_getElem? (i := 622) (by decide +kernel), List.mem_of_getElem? (i := 623) (by decide +kernel)⟩
theorem lw_p52 : lw_okq (⟨"FirstLanding", "howMany", "(I)I"⟩, 12) := ⟨⟨by decide +kernel, by decide +kernel⟩, List.mem_of_getElem? (i := 16) (by decide +kernel), List.mem_of_getElem? (i := 645) (by decide +kernel), List.mem_of_getElem? (i := 646) (by decide +kernel)⟩
theorem lw_p53 : lw_okq (⟨"FirstLanding", "rowsThere", "()I"⟩, 12) := ⟨⟨by decide +kernel, by decide +kernel⟩, List.mem_of_getElem? (i := 16) (by decide +kernel), List.mem_of_getElem? (i := 649) (by decide +kernel), List.mem_of_getElem? (i := 650) (by decide +kernel)⟩
theorem lw_p54 : lw_okq (⟨"FirstLanding", "textsThere", "()I"⟩, 12) := ⟨⟨by decide +kernel, by decide +kernel⟩, List.mem_of_getElem? (i := 16) (by decide +kernel), List.mem_of_getElem? (i := 653) (by decide +kernel), List.mem_of_getElem? (i := 654) (by decide +kernel)⟩
theorem lw_p55 : lw_okq (⟨"FirstLanding", "embassiesKept", "()I"⟩, 12) := ⟨⟨by decide +kernel, by decide +kernel⟩, List.mem_of_getElem? (i := 16) (by decide +kernel), List.mem_of_getElem? (i := 657) (by decide +kernel), List.mem_of_getElem? (i := 658) (by decide +kernel)⟩
theorem lw_p56 : lw_okq (⟨"FirstLanding$Embassy", "digestedAfter", "(J)J"⟩, 7) := ⟨⟨by decide +kernel, by decide +kernel⟩, List.mem_of_getElem? (i := 28) (by decide +kernel), List.mem_of_getElem? (i := 675) (by decide +kernel), List.mem_of_getElem? (i := 676) (by decide +kernel)⟩
theorem lw_p57 : lw_okq (⟨"FirstLanding$Row", "digestedAfter", "(J)J"⟩, 2) := ⟨⟨by decide +kernel, by decide +kernel⟩, List.mem_of_getElem? (i := 119) (by decide +kernel), List.mem_of_getElem? (i := 681) (by decide +kernel), List.mem_of_getElem? (i := 682) (by decide +kernel)⟩
theorem lw_p58 : lw_okq (⟨"FirstLanding$Text", "digestedAfter", "(J)J"⟩, 2) := ⟨⟨by decide +kernel, by decide +kernel⟩, List.mem_of_getElem? (i := 135) (by decide +kernel), List.mem_of_getElem? (i := 686) (by decide +kernel), List.mem_of_getElem? (i := 687) (by decide +kernel)⟩
theorem lw_p59 : lw_okq (⟨"FirstLandingModel", "found", "(I)I"⟩, 21) := ⟨⟨by decide +kernel, by decide +kernel⟩, List.mem_of_getElem? (i := 691) (by decide +kernel), List.mem_of_getElem? (i := 773) (by decide +kernel), List.mem_of_getElem? (i := 774) (by decide +kernel)⟩
theorem lw_p60 : lw_okq (⟨"FirstLandingModel", "tell", "(I)I"⟩, 21) := ⟨⟨by decide +kernel, by decide +kernel⟩, List.mem_of_getElem? (i := 691) (by decide +kernel), List.mem_of_getElem? (i := 781) (by decide +kernel), List.mem_of_getElem? (i := 782) (by decide +kernel)⟩
theorem lw_p61 : lw_okq (⟨"FirstLandingModel", "faultOf", "(I)I"⟩, 21) := ⟨⟨by decide +kernel, by decide +kernel⟩, List.mem_of_getElem? (i := 691) (by decide +kernel), List.mem_of_getElem? (i := 817) (by decide +kernel), List.mem_of_getElem? (i := 818) (by decide +kernel)⟩
theorem lw_p62 : lw_okq (⟨"FirstLandingModel", "blanks", "(I)V"⟩, 21) := ⟨⟨by decide +kernel, by decide +kernel⟩, List.mem_of_getElem? (i := 691) (by decide +kernel), List.mem_of_getElem? (i := 821) (by decide +kernel), List.mem_of_getElem? (i := 822) (by decide +kernel)⟩
theorem lw_p63 : lw_okq (⟨"FirstLandingModel", "here", "(I)I"⟩, 21) := ⟨⟨by decide +kernel, by decide +kernel⟩, List.mem_of_getElem? (i := 691) (by decide +kernel), List.mem_of_getElem? (i := 825) (by decide +kernel), List.mem_of_getElem? (i := 826) (by decide +kernel)⟩
def lw_privs_4 : List (MethodName × Nat) := [(⟨"FirstLanding$Embassy", "afterTurns", "(II)I"⟩, 7), (⟨"FirstLanding", "tellWeighed", "(III)V"⟩, 12), (⟨"FirstLanding", "tellRatio", "(JJ)V"⟩, 12), (⟨"FirstLanding$Embassy", "doByLot", "(I)V"⟩, 7), (⟨"FirstLanding", "howMany", "(I)I"⟩, 12), (⟨"FirstLanding", "rowsThere", "()I"⟩, 12), (⟨"FirstLanding", "textsThere", "()I"⟩, 12), (⟨"FirstLanding", "embassiesKept", "()I"⟩, 12), (⟨"FirstLanding$Embassy", "digestedAfter", "(J)J"⟩, 7), (⟨"FirstLanding$Row", "digestedAfter", "(J)J"⟩, 2), (⟨"FirstLanding$Text", "digestedAfter", "(J)J"⟩, 2), (⟨"FirstLandingModel", "found", "(I)I"⟩, 21), (⟨"FirstLandingModel", "tell", "(I)I"⟩, 21), (⟨"FirstLandingModel", "faultOf", "(I)I"⟩, 21), (⟨"FirstLandingModel", "blanks", "(I)V"⟩, 21), (⟨"FirstLandingModel", "here", "(I)I"⟩, 21)]
theorem lw_r4 : ∀ q ∈ lw_privs_4, lw_okq q := List.forall_mem_cons.mpr ⟨lw_p48, List.forall_mem_cons.mpr ⟨lw_p49, List.forall_mem_cons.mpr ⟨lw_p50, List.forall_mem_cons.mpr ⟨lw_p51, List.forall_mem_cons.mpr ⟨lw_p52, List.forall_mem_cons.mpr ⟨lw_p53, List.forall_mem_cons.mpr ⟨lw_p54, List.forall_mem_cons.mpr ⟨lw_p55, List.forall_mem_cons.mpr ⟨lw_p56, List.forall_mem_cons.mpr ⟨lw_p57, List.forall_mem_cons.mpr ⟨lw_p58, List.forall_mem_cons.mpr ⟨lw_p59, List.forall_mem_cons.mpr ⟨lw_p60, List.forall_mem_cons.mpr ⟨lw_p61, List.forall_mem_cons.mpr ⟨lw_p62, List.forall_mem_cons.mpr ⟨lw_p63, fun _ h => absurd h List.not_mem_nil⟩⟩⟩⟩⟩⟩⟩⟩⟩⟩⟩⟩⟩⟩⟩⟩
theorem lw_p64 : lw_okq (⟨"FirstLandingModel", "isPersonRead", "(II)Z"⟩, 21) := ⟨⟨by decide +kernel, by decide +kernel⟩, List.mem_of_getElem? (i := 691) (by decide +kernel), List.mem_of_getElem? (i := 831) (by decide +kernel), List.mem_of_getElem? (i := 832) (by decide +kernel)⟩
theorem lw_p65 : lw_okq (⟨"FirstLandingModel", "isPerson", "(I)Z"⟩, 21) := ⟨⟨by decide +kernel, by decide +kernel⟩, List.mem_of_getElem? (i := 691) (by decide +kernel), List.mem_of_getElem? (i := 851) (by decide +kernel), List.mem_of_getElem? (i := 852) (by decide +kernel)⟩
theorem lw_p66 : lw_okq (⟨"FirstLandingModel", "told", "(II)I"⟩, 21) := ⟨⟨by decide +kernel, by decide +kernel⟩, List.mem_of_getElem? (i := 691) (by decide +kernel), List.mem_of_getElem? (i := 856) (by decide +kernel), List.mem_of_getElem? (i := 857) (by decide +kernel)⟩
theorem lw_p67 : lw_okq (⟨"FirstLandingModel", "seem", "(II)I"⟩, 21) := ⟨⟨by decide +kernel, by decide +kernel⟩, List.mem_of_getElem? (i := 691) (by decide +kernel), List.mem_of_getElem? (i := 863) (by decide +kernel), List.mem_of_getElem? (i := 864) (by decide +kernel)⟩
theorem lw_p68 : lw_okq (⟨"FirstLandingModel", "seemsAs", "(III)I"⟩, 21) := ⟨⟨by decide +kernel, by decide +kernel⟩, List.mem_of_getElem? (i := 691) (by decide +kernel), List.mem_of_getElem? (i := 867) (by decide +kernel), List.mem_of_getElem? (i := 868) (by decide +kernel)⟩
theorem lw_p69 : lw_okq (⟨"FirstLandingModel", "look", "(II)I"⟩, 21) := ⟨⟨by decide +kernel, by decide +kernel⟩, List.mem_of_getElem? (i := 691) (by decide +kernel), List.mem_of_getElem? (i := 872) (by decide +kernel), List.mem_of_getElem? (i := 873) (by decide +kernel)⟩
theorem lw_p70 : lw_okq (⟨"FirstLandingModel", "treatiesOf", "(I)I"⟩, 21) := ⟨⟨by decide +kernel, by decide +kernel⟩, List.mem_of_getElem? (i := 691) (by decide +kernel), List.mem_of_getElem? (i := 879) (by decide +kernel), List.mem_of_getElem? (i := 880) (by decide +kernel)⟩
theorem lw_p71 : lw_okq (⟨"FirstLandingModel", "unmetBy", "(I)I"⟩, 21) := ⟨⟨by decide +kernel, by decide +kernel⟩, List.mem_of_getElem? (i := 691) (by decide +kernel), List.mem_of_getElem? (i := 883) (by decide +kernel), List.mem_of_getElem? (i := 884) (by decide +kernel)⟩
theorem lw_p72 : lw_okq (⟨"FirstLandingModel", "extreme", "(IZ)I"⟩, 21) := ⟨⟨by decide +kernel, by decide +kernel⟩, List.mem_of_getElem? (i := 691) (by decide +kernel), List.mem_of_getElem? (i := 898) (by decide +kernel), List.mem_of_getElem? (i := 899) (by decide +kernel)⟩
theorem lw_p73 : lw_okq (⟨"FirstLandingModel", "kindsOf", "(I)I"⟩, 21) := ⟨⟨by decide +kernel, by decide +kernel⟩, List.mem_of_getElem? (i := 691) (by decide +kernel), List.mem_of_getElem? (i := 902) (by decide +kernel), List.mem_of_getElem? (i := 903) (by decide +kernel)⟩
theorem lw_p74 : lw_okq (⟨"FirstLandingModel", "unmetTo", "(I)I"⟩, 21) := ⟨⟨by decide +kernel, by decide +kernel⟩, List.mem_of_getElem? (i := 691) (by decide +kernel), List.mem_of_getElem? (i := 906) (by decide +kernel), List.mem_of_getElem? (i := 907) (by decide +kernel)⟩
theorem lw_p75 : lw_okq (⟨"FirstLandingModel", "done", "()I"⟩, 21) := ⟨⟨by decide +kernel, by decide +kernel⟩, List.mem_of_getElem? (i := 691) (by decide +kernel), List.mem_of_getElem? (i := 914) (by decide +kernel), List.mem_of_getElem? (i := 915) (by decide +kernel)⟩
theorem lw_p76 : lw_okq (⟨"FirstLandingModel", "steps0", "(I)V"⟩, 21) := ⟨⟨by decide +kernel, by decide +kernel⟩, List.mem_of_getElem? (i := 691) (by decide +kernel), List.mem_of_getElem? (i := 918) (by decide +kernel), List.mem_of_getElem? (i := 919) (by decide +kernel)⟩
theorem lw_p77 : lw_okq (⟨"FirstLandingModel", "remember", "(III)V"⟩, 21) := ⟨⟨by decide +kernel, by decide +kernel⟩, List.mem_of_getElem? (i := 691) (by decide +kernel), List.mem_of_getElem? (i := 922) (by decide +kernel), List.mem_of_getElem? (i := 923) (by decide +kernel)⟩
theorem lw_p78 : lw_okq (⟨"FirstLandingModel", "unmet", "()I"⟩, 21) := ⟨⟨by decide +kernel, by decide +kernel⟩, List.mem_of_getElem? (i := 691) (by decide +kernel), List.mem_of_getElem? (i := 934) (by decide +kernel), List.mem_of_getElem? (i := 935) (by decide +kernel)⟩
theorem lw_p79 : lw_okq (⟨"FirstLandingModel", "mayTreat", "(II)Z"⟩, 21) := ⟨⟨by decide +kernel, by decide +kernel⟩, List.mem_of_getElem? (i := 691) (by decide +kernel), List.mem_of_getElem? (i := 942) (by decide +kernel), List.mem_of_getElem? (i := 943) (by decide +kernel)⟩
def lw_privs_5 : List (MethodName × Nat) := [(⟨"FirstLandingModel", "isPersonRead", "(II)Z"⟩, 21), (⟨"FirstLandingModel", "isPerson", "(I)Z"⟩, 21), (⟨"FirstLandingModel", "told", "(II)I"⟩, 21), (⟨"FirstLandingModel", "seem", "(II)I"⟩, 21), (⟨"FirstLandingModel", "seemsAs", "(III)I"⟩, 21), (⟨"FirstLandingModel", "look", "(II)I"⟩, 21), (⟨"FirstLandingModel", "treatiesOf", "(I)I"⟩, 21), (⟨"FirstLandingModel", "unmetBy", "(I)I"⟩, 21), (⟨"FirstLandingModel", "extreme", "(IZ)I"⟩, 21), (⟨"FirstLandingModel", "kindsOf", "(I)I"⟩, 21), (⟨"FirstLandingModel", "unmetTo", "(I)I"⟩, 21), (⟨"FirstLandingModel", "done", "()I"⟩, 21), (⟨"FirstLandingModel", "steps0", "(I)V"⟩, 21), (⟨"FirstLandingModel", "remember", "(III)V"⟩, 21), (⟨"FirstLandingModel", "unmet", "()I"⟩, 21), (⟨"FirstLandingModel", "mayTreat", "(II)Z"⟩, 21)]
theorem lw_r5 : ∀ q ∈ lw_privs_5, lw_okq q := List.forall_mem_cons.mpr ⟨lw_p64, List.forall_mem_cons.mpr ⟨lw_p65, List.forall_mem_cons.mpr ⟨lw_p66, List.forall_mem_cons.mpr ⟨lw_p67, List.forall_mem_cons.mpr ⟨lw_p68, List.forall_mem_cons.mpr ⟨lw_p69, List.forall_mem_cons.mpr ⟨lw_p70, List.forall_mem_cons.mpr ⟨lw_p71, List.forall_mem_cons.mpr ⟨lw_p72, List.forall_mem_cons.mpr ⟨lw_p73, List.forall_mem_cons.mpr ⟨lw_p74, List.forall_mem_cons.mpr ⟨lw_p75, List.forall_mem_cons.mpr ⟨lw_p76, List.forall_mem_cons.mpr ⟨lw_p77, List.forall_mem_cons.mpr ⟨lw_p78, List.forall_mem_cons.mpr ⟨lw_p79, fun _ h => absurd h List.not_mem_nil⟩⟩⟩⟩⟩⟩⟩⟩⟩⟩⟩⟩⟩⟩⟩⟩
theorem lw_p80 : lw_okq (⟨"FirstLandingModel", "doAgree", "(III)Z"⟩, 21) := ⟨⟨by decide +kernel, by decide +kernel⟩, List.mem_of_getElem? (i := 691) (by decide +kernel), List.mem_of_getElem? (i := 946) (by decide +kernel), List.mem_of_getElem? (i := 947) (by decide +kernel)⟩
theorem lw_p81 : lw_okq (⟨"FirstLandingModel", "treats", "(II)V"⟩, 21) := ⟨⟨by decide +kernel, by decide +kernel⟩, List.mem_of_getElem? (i := 691) (by decide +kernel), List.mem_of_getElem? (i := 953) (by decide +kernel), List.mem_of_getElem? (i := 954) (by decide +kernel)⟩
theorem lw_p82 : lw_okq (⟨"FirstLandingModel", "signs", "(III)V"⟩, 21) := ⟨⟨by decide +kernel, by decide +kernel⟩, List.mem_of_getElem? (i := 691) (by decide +kernel), List.mem_of_getElem? (i := 957) (by decide +kernel), List.mem_of_getElem? (i := 958) (by decide +kernel)⟩
theorem lw_p83 : lw_okq (⟨"FirstLandingModel", "treaties", "()I"⟩, 21) := ⟨⟨by decide +kernel, by decide +kernel⟩, List.mem_of_getElem? (i := 691) (by decide +kernel), List.mem_of_getElem? (i := 961) (by decide +kernel), List.mem_of_getElem? (i := 962) (by decide +kernel)⟩
theorem lw_p84 : lw_okq (⟨"FirstLandingModel", "undoes", "()V"⟩, 21) := ⟨⟨by decide +kernel, by decide +kernel⟩, List.mem_of_getElem? (i := 691) (by decide +kernel), List.mem_of_getElem? (i := 969) (by decide +kernel), List.mem_of_getElem? (i := 970) (by decide +kernel)⟩
theorem lw_p85 : lw_okq (⟨"FirstLandingModel", "isSet", "(I)Z"⟩, 21) := ⟨⟨by decide +kernel, by decide +kernel⟩, List.mem_of_getElem? (i := 691) (by decide +kernel), List.mem_of_getElem? (i := 986) (by decide +kernel), List.mem_of_getElem? (i := 987) (by decide +kernel)⟩
theorem lw_p86 : lw_okq (⟨"FirstLandingModel", "thereOf", "(I)I"⟩, 21) := ⟨⟨by decide +kernel, by decide +kernel⟩, List.mem_of_getElem? (i := 691) (by decide +kernel), List.mem_of_getElem? (i := 994) (by decide +kernel), List.mem_of_getElem? (i := 995) (by decide +kernel)⟩
theorem lw_p87 : lw_okq (⟨"FirstLandingModel", "pairs", "(I)I"⟩, 21) := ⟨⟨by decide +kernel, by decide +kernel⟩, List.mem_of_getElem? (i := 691) (by decide +kernel), List.mem_of_getElem? (i := 1002) (by decide +kernel), List.mem_of_getElem? (i := 1003) (by decide +kernel)⟩
theorem lw_p88 : lw_okq (⟨"FirstLandingModel", "answer", "(II)I"⟩, 21) := ⟨⟨by decide +kernel, by decide +kernel⟩, List.mem_of_getElem? (i := 691) (by decide +kernel), List.mem_of_getElem? (i := 1006) (by decide +kernel), List.mem_of_getElem? (i := 1007) (by decide +kernel)⟩
theorem lw_p89 : lw_okq (⟨"FirstLandingModel", "arePairs", "(I)Z"⟩, 21) := ⟨⟨by decide +kernel, by decide +kernel⟩, List.mem_of_getElem? (i := 691) (by decide +kernel), List.mem_of_getElem? (i := 1027) (by decide +kernel), List.mem_of_getElem? (i := 1028) (by decide +kernel)⟩
theorem lw_p90 : lw_okq (⟨"FirstLandingModel", "layAgreed", "(II)V"⟩, 21) := ⟨⟨by decide +kernel, by decide +kernel⟩, List.mem_of_getElem? (i := 691) (by decide +kernel), List.mem_of_getElem? (i := 1031) (by decide +kernel), List.mem_of_getElem? (i := 1032) (by decide +kernel)⟩
theorem lw_p91 : lw_okq (⟨"FirstLandingModel", "layFar", "(I)V"⟩, 21) := ⟨⟨by decide +kernel, by decide +kernel⟩, List.mem_of_getElem? (i := 691) (by decide +kernel), List.mem_of_getElem? (i := 1035) (by decide +kernel), List.mem_of_getElem? (i := 1036) (by decide +kernel)⟩
theorem lw_p92 : lw_okq (⟨"FirstLandingModel", "wrongNotes", "(I)I"⟩, 21) := ⟨⟨by decide +kernel, by decide +kernel⟩, List.mem_of_getElem? (i := 691) (by decide +kernel), List.mem_of_getElem? (i := 1047) (by decide +kernel), List.mem_of_getElem? (i := 1048) (by decide +kernel)⟩
theorem lw_p93 : lw_okq (⟨"FirstLandingModel", "isSo", "(III)Z"⟩, 21) := ⟨⟨by decide +kernel, by decide +kernel⟩, List.mem_of_getElem? (i := 691) (by decide +kernel), List.mem_of_getElem? (i := 1051) (by decide +kernel), List.mem_of_getElem? (i := 1052) (by decide +kernel)⟩
theorem lw_p94 : lw_okq (⟨"FirstLandingModel", "knownBy", "(II)I"⟩, 21) := ⟨⟨by decide +kernel, by decide +kernel⟩, List.mem_of_getElem? (i := 691) (by decide +kernel), List.mem_of_getElem? (i := 1067) (by decide +kernel), List.mem_of_getElem? (i := 1068) (by decide +kernel)⟩
theorem lw_p95 : lw_okq (⟨"FirstLandingModel", "beginsStep", "(I)V"⟩, 21) := ⟨⟨by decide +kernel, by decide +kernel⟩, List.mem_of_getElem? (i := 691) (by decide +kernel), List.mem_of_getElem? (i := 1079) (by decide +kernel), List.mem_of_getElem? (i := 1080) (by decide +kernel)⟩
def lw_privs_6 : List (MethodName × Nat) := [(⟨"FirstLandingModel", "doAgree", "(III)Z"⟩, 21), (⟨"FirstLandingModel", "treats", "(II)V"⟩, 21), (⟨"FirstLandingModel", "signs", "(III)V"⟩, 21), (⟨"FirstLandingModel", "treaties", "()I"⟩, 21), (⟨"FirstLandingModel", "undoes", "()V"⟩, 21), (⟨"FirstLandingModel", "isSet", "(I)Z"⟩, 21), (⟨"FirstLandingModel", "thereOf", "(I)I"⟩, 21), (⟨"FirstLandingModel", "pairs", "(I)I"⟩, 21), (⟨"FirstLandingModel", "answer", "(II)I"⟩, 21), (⟨"FirstLandingModel", "arePairs", "(I)Z"⟩, 21), (⟨"FirstLandingModel", "layAgreed", "(II)V"⟩, 21), (⟨"FirstLandingModel", "layFar", "(I)V"⟩, 21), (⟨"FirstLandingModel", "wrongNotes", "(I)I"⟩, 21), (⟨"FirstLandingModel", "isSo", "(III)Z"⟩, 21), (⟨"FirstLandingModel", "knownBy", "(II)I"⟩, 21), (⟨"FirstLandingModel", "beginsStep", "(I)V"⟩, 21)]
theorem lw_r6 : ∀ q ∈ lw_privs_6, lw_okq q := List.forall_mem_cons.mpr ⟨lw_p80, List.forall_mem_cons.mpr ⟨lw_p81, List.forall_mem_cons.mpr ⟨lw_p82, List.forall_mem_cons.mpr ⟨lw_p83, List.forall_mem_cons.mpr ⟨lw_p84, List.forall_mem_cons.mpr ⟨lw_p85, List.forall_mem_cons.mpr ⟨lw_p86, List.forall_mem_cons.mpr ⟨lw_p87, List.forall_mem_cons.mpr ⟨lw_p88, List.forall_mem_cons.mpr ⟨lw_p89, List.forall_mem_cons.mpr ⟨lw_p90, List.forall_mem_cons.mpr ⟨lw_p91, List.forall_mem_cons.mpr ⟨lw_p92, List.forall_mem_cons.mpr ⟨lw_p93, List.forall_mem_cons.mpr ⟨lw_p94, List.forall_mem_cons.mpr ⟨lw_p95, fun _ h => absurd h List.not_mem_nil⟩⟩⟩⟩⟩⟩⟩⟩⟩⟩⟩⟩⟩⟩⟩⟩
theorem lw_p96 : lw_okq (⟨"FirstLandingModel", "weighs", "(II)V"⟩, 21) := ⟨⟨by decide +kernel, by decide +kernel⟩, List.mem_of_getElem? (i := 691) (by decide +kernel), List.mem_of_getElem? (i := 1083) (by decide +kernel), List.mem_of_getElem? (i := 1084) (by decide +kernel)⟩
theorem lw_p97 : lw_okq (⟨"FirstLandingModel", "sends", "(I)Z"⟩, 21) := ⟨⟨by decide +kernel, by decide +kernel⟩, List.mem_of_getElem? (i := 691) (by decide +kernel), List.mem_of_getElem? (i := 1087) (by decide +kernel), List.mem_of_getElem? (i := 1088) (by decide +kernel)⟩
theorem lw_p98 : lw_okq (⟨"FirstLandingModel", "chance", "(IIZ)I"⟩, 21) := ⟨⟨by decide +kernel, by decide +kernel⟩, List.mem_of_getElem? (i := 691) (by decide +kernel), List.mem_of_getElem? (i := 1095) (by decide +kernel), List.mem_of_getElem? (i := 1096) (by decide +kernel)⟩
theorem lw_p99 : lw_okq (⟨"FirstLandingModel", "weighed", "(IIZ)I"⟩, 21) := ⟨⟨by decide +kernel, by decide +kernel⟩, List.mem_of_getElem? (i := 691) (by decide +kernel), List.mem_of_getElem? (i := 1100) (by decide +kernel), List.mem_of_getElem? (i := 1101) (by decide +kernel)⟩
theorem lw_p100 : lw_okq (⟨"FirstLandingModel", "fraction", "(JJ)I"⟩, 21) := ⟨⟨by decide +kernel, by decide +kernel⟩, List.mem_of_getElem? (i := 691) (by decide +kernel), List.mem_of_getElem? (i := 1104) (by decide +kernel), List.mem_of_getElem? (i := 1105) (by decide +kernel)⟩
theorem lw_p101 : lw_okq (⟨"FirstLandingModel", "counted", "(I)I"⟩, 21) := ⟨⟨by decide +kernel, by decide +kernel⟩, List.mem_of_getElem? (i := 691) (by decide +kernel), List.mem_of_getElem? (i := 1137) (by decide +kernel), List.mem_of_getElem? (i := 1138) (by decide +kernel)⟩
def lw_privs_7 : List (MethodName × Nat) := [(⟨"FirstLandingModel", "weighs", "(II)V"⟩, 21), (⟨"FirstLandingModel", "sends", "(I)Z"⟩, 21), (⟨"FirstLandingModel", "chance", "(IIZ)I"⟩, 21), (⟨"FirstLandingModel", "weighed", "(IIZ)I"⟩, 21), (⟨"FirstLandingModel", "fraction", "(JJ)I"⟩, 21), (⟨"FirstLandingModel", "counted", "(I)I"⟩, 21)]
theorem lw_r7 : ∀ q ∈ lw_privs_7, lw_okq q := List.forall_mem_cons.mpr ⟨lw_p96, List.forall_mem_cons.mpr ⟨lw_p97, List.forall_mem_cons.mpr ⟨lw_p98, List.forall_mem_cons.mpr ⟨lw_p99, List.forall_mem_cons.mpr ⟨lw_p100, List.forall_mem_cons.mpr ⟨lw_p101, fun _ h => absurd h List.not_mem_nil⟩⟩⟩⟩⟩⟩
def lw_privs : List (MethodName × Nat) := lw_privs_1 ++ (lw_privs_2 ++ (lw_privs_3 ++ (lw_privs_4 ++ (lw_privs_5 ++ (lw_privs_6 ++ (lw_privs_7))))))
def lw_tbl : List Cond := k2_sels lw_privs ++ tables_1
theorem lw_privs_ok : ∀ q ∈ lw_privs, lw_okq q := by
  show ∀ q ∈ lw_privs_1 ++ (lw_privs_2 ++ (lw_privs_3 ++ (lw_privs_4 ++ (lw_privs_5 ++ (lw_privs_6 ++ (lw_privs_7)))))), lw_okq q
  exact List.forall_mem_append.mpr ⟨lw_r1, List.forall_mem_append.mpr ⟨lw_r2, List.forall_mem_append.mpr ⟨lw_r3, List.forall_mem_append.mpr ⟨lw_r4, List.forall_mem_append.mpr ⟨lw_r5, List.forall_mem_append.mpr ⟨lw_r6, lw_r7⟩⟩⟩⟩⟩⟩
end
section
/-! THE SMALL MACHINE: bytecode over a logical heap (cells in the order in which they were made), as a function with fuel. A value `.ref k` is the k-th cell made since the law began, `.retAddr n` the n-th array that was there before (0 the script, 1 LETTERS, 2 PARENTS). -/
abbrev mC : Type := Nat × List Value
abbrev mH : Type := List mC
abbrev mL : Type := List (Option Value)
abbrev mE : Type := Nat × Instr × Nat × List Int
abbrev mG : Type := Nat × mL × List Value × mH
abbrev mR : Type := Option Value × mH
/-- what a logical value is on the machine -/
def mSh (b : Nat) (x : Nat → Nat) : Value → Value
  | .ref k => .ref (b + k)
  | .retAddr n => .ref (x n)
  | v => v
theorem mSh_cat (b : Nat) (x : Nat → Nat) (v : Value) : (mSh b x v).category = v.category := by cases v <;> rfl
theorem mSh_int (b : Nat) (x : Nat → Nat) (v : Int32) : mSh b x (.int v) = .int v := rfl
theorem mSh_long (b : Nat) (x : Nat → Nat) (v : Int64) : mSh b x (.long v) = .long v := rfl
def mIsI : Value → Bool
  | .int _ => true
  | _ => false
def mIsJ : Value → Bool
  | .long _ => true
  | _ => false
def mIsA : Value → Bool
  | .ref _ => true
  | .null => true
  | .retAddr _ => true
  | _ => false
/-- the locals -/
def mKill (L : mL) (k : Nat) : mL := match k with
  | 0 => L
  | j + 1 => match L[j]? with
    | some (some v) => if v.category = 2 then L.set j none else L
    | _ => L
def mS1 (L : mL) (k : Nat) (v : Value) : mL := (mKill L k).set k (some v)
def mS2 (L : mL) (k : Nat) (v : Value) : mL := ((mKill L k).set k (some v)).set (k + 1) none
def mAs (f : Value → Value) (L : mL) : List (Nat × Value) := L.zipIdx.filterMap (fun q => q.1.map (fun v => (q.2, f v)))
theorem mAs_mem {f : Value → Value} {L : mL} {k : Nat} {w : Value} : (k, w) ∈ mAs f L ↔ ∃ v, L[k]? = some (some v) ∧ f v = w := by
  unfold mAs
  rw [List.mem_filterMap]
  constructor
  · rintro ⟨⟨o, j⟩, h1, h2⟩
    cases o with
    | none => cases h2
    | some v =>
      have h3 : (j, f v) = (k, w) := Option.some.inj h2
      cases h3
      exact ⟨v, List.mem_zipIdx_iff_getElem?.mp h1, rfl⟩
  · rintro ⟨v, h1, rfl⟩
    exact ⟨(some v, k), List.mem_zipIdx_iff_getElem?.mpr h1, rfl⟩
theorem mAs_at {f : Value → Value} {L : mL} {ls : Array Slot} {n k : Nat} {v : Value} (h : lv_has ls n (mAs f L)) (hk : L[k]? = some (some v)) : ls[k]? = some (.val (f v)) := h.2.2 (k, f v) (mAs_mem.mpr ⟨v, hk, rfl⟩)
theorem lv_mono {ls : Array Slot} {n : Nat} {l l' : List (Nat × Value)} (h : lv_has ls n l) (hl : ∀ q ∈ l', q ∈ l) : lv_has ls n l' := ⟨h.1, h.2.1, fun q hq => h.2.2 q (hl q hq)⟩
theorem mKill_len (L : mL) (k : Nat) : (mKill L k).length = L.length := by
  unfold mKill
  cases k with
  | zero => rfl
  | succ j =>
    dsimp only
    split
    · split <;> simp
    · rfl
theorem mS1_len (L : mL) (k : Nat) (v : Value) : (mS1 L k v).length = L.length := by simp [mS1, mKill_len]
theorem mS2_len (L : mL) (k : Nat) (v : Value) : (mS2 L k v).length = L.length := by simp [mS2, mKill_len]
theorem mKill_get {L : mL} {k j : Nat} {v : Value} (h : (mKill L k)[j]? = some (some v)) : L[j]? = some (some v) ∧ ¬ (j + 1 = k ∧ v.category = 2) := by
  unfold mKill at h
  cases k with
  | zero => exact ⟨h, by omega⟩
  | succ i =>
    dsimp only at h
    split at h
    · rename_i w hw
      split at h
      · by_cases hj : j = i
        · subst hj
          rw [List.getElem?_set_self (List.getElem?_eq_some_iff.mp hw).1] at h
          cases h
        · rw [List.getElem?_set_ne (Ne.symm hj)] at h
          exact ⟨h, by omega⟩
      · rename_i hc
        refine ⟨h, ?_⟩
        rintro ⟨e1, e2⟩
        have e3 : j = i := by omega
        subst e3
        rw [h] at hw
        cases hw
        exact hc e2
    · rename_i hn
      refine ⟨h, ?_⟩
      rintro ⟨e1, e2⟩
      have e3 : j = i := by omega
      subst e3
      exact hn v h
theorem mS1_has {f : Value → Value} (hf : ∀ v, (f v).category = v.category) {L : mL} {ls : Array Slot} {n k : Nat} {v : Value} (h : lv_has ls n ((k, f v) :: (mAs f L).filter (fun q => !(q.1 == k) && !(q.1 + 1 == k && q.2.category == 2)))) : lv_has ls n (mAs f (mS1 L k v)) := by
  refine lv_mono h ?_
  rintro ⟨j, w⟩ hq
  obtain ⟨u, h1, rfl⟩ := mAs_mem.mp hq
  unfold mS1 at h1
  by_cases hj : j = k
  · subst hj
    rw [List.getElem?_set] at h1
    simp only [if_true] at h1
    split at h1
    · cases h1
      exact List.mem_cons_self
    · cases h1
  · rw [List.getElem?_set_ne (Ne.symm hj)] at h1
    obtain ⟨h2, h3⟩ := mKill_get h1
    refine List.mem_cons_of_mem _ (List.mem_filter.mpr ⟨mAs_mem.mpr ⟨u, h2, rfl⟩, ?_⟩)
    simp only [hf, Bool.and_eq_true, Bool.not_eq_true', beq_eq_false_iff_ne, Bool.and_eq_false_iff]
    refine ⟨hj, ?_⟩
    by_cases e : j + 1 = k
    · exact Or.inr (fun z => h3 ⟨e, z⟩)
    · exact Or.inl e
theorem mS2_has {f : Value → Value} (hf : ∀ v, (f v).category = v.category) {L : mL} {ls : Array Slot} {n k : Nat} {v : Value} (h : lv_has ls n ((k, f v) :: (mAs f L).filter (fun q => !(q.1 == k) && (!(q.1 == k + 1) && !(q.1 + 1 == k && q.2.category == 2))))) : lv_has ls n (mAs f (mS2 L k v)) := by
  refine lv_mono h ?_
  rintro ⟨j, w⟩ hq
  obtain ⟨u, h1, rfl⟩ := mAs_mem.mp hq
  unfold mS2 at h1
  by_cases hk : j = k + 1
  · subst hk
    rw [List.getElem?_set] at h1
    simp only [if_true] at h1
    split at h1 <;> cases h1
  rw [List.getElem?_set_ne (Ne.symm hk)] at h1
  by_cases hj : j = k
  · subst hj
    rw [List.getElem?_set] at h1
    simp only [if_true] at h1
    split at h1
    · cases h1
      exact List.mem_cons_self
    · cases h1
  · rw [List.getElem?_set_ne (Ne.symm hj)] at h1
    obtain ⟨h2, h3⟩ := mKill_get h1
    refine List.mem_cons_of_mem _ (List.mem_filter.mpr ⟨mAs_mem.mpr ⟨u, h2, rfl⟩, ?_⟩)
    simp only [hf, Bool.and_eq_true, Bool.not_eq_true', beq_eq_false_iff_ne, Bool.and_eq_false_iff]
    refine ⟨hj, hk, ?_⟩
    by_cases e : j + 1 = k
    · exact Or.inr (fun z => h3 ⟨e, z⟩)
    · exact Or.inl e
/-- the locals at a method's entry -/
def mEnt : List Value → mL
  | [] => []
  | v :: r => if v.category = 2 then some v :: none :: mEnt r else some v :: mEnt r
def mEntL (n : Nat) (av : List Value) : mL := mEnt av ++ List.replicate (n - (mEnt av).length) none
theorem mEnt_len (f : Value → Value) (hf : ∀ v, (f v).category = v.category) (av : List Value) : (lg_sl (av.map f)).length = (mEnt av).length := by
  induction av with
  | nil => rfl
  | cons v r ih =>
    unfold lg_sl at ih ⊢
    simp only [List.map_cons, List.flatMap_cons, List.length_append, hf, mEnt]
    rw [ih]
    split <;> simp <;> omega
theorem mEnt_get (f : Value → Value) (hf : ∀ v, (f v).category = v.category) (av : List Value) : ∀ (k : Nat) (v : Value), (mEnt av)[k]? = some (some v) → (lg_sl (av.map f))[k]? = some (.val (f v)) := by
  induction av with
  | nil => intro k v h; simp [mEnt] at h
  | cons u r ih =>
    intro k v h
    unfold lg_sl at ih ⊢
    simp only [List.map_cons, List.flatMap_cons, hf]
    simp only [mEnt] at h
    split at h
    · rename_i hc
      rw [if_pos hc]
      match k, h with
      | 0, h => cases h; rfl
      | 1, h => cases h
      | k + 2, h => exact ih k v h
    · rename_i hc
      rw [if_neg hc]
      match k, h with
      | 0, h => cases h; rfl
      | k + 1, h => exact ih k v h
theorem mEntL_has (f : Value → Value) (hf : ∀ v, (f v).category = v.category) (av : List Value) {n : Nat} (hn : (mEnt av).length ≤ n) : lv_has ((lg_sl (av.map f) ++ List.replicate (n - (lg_sl (av.map f)).length) Slot.unset).toArray) n (mAs f (mEntL n av)) := by
  have h := lv_entry (av.map f) (n := n) (by rw [mEnt_len f hf]; exact hn)
  refine ⟨h.1, h.2.1, ?_⟩
  rintro ⟨k, w⟩ hq
  obtain ⟨v, h1, rfl⟩ := mAs_mem.mp hq
  unfold mEntL at h1
  by_cases hk : k < (mEnt av).length
  · rw [List.getElem?_append_left hk] at h1
    have h2 := mEnt_get f hf av k v h1
    show (_ : List Slot).toArray[k]? = _
    rw [List.getElem?_toArray, List.getElem?_append_left (by rw [mEnt_len f hf]; exact hk)]
    exact h2
  · rw [List.getElem?_append_right (by omega)] at h1
    rw [List.getElem?_replicate] at h1
    split at h1 <;> cases h1
theorem mEntL_len (n : Nat) (av : List Value) (h : (mEnt av).length ≤ n) : (mEntL n av).length = n := by simp [mEntL]; omega
end
section
/-! steps of the small machine that leave the heap as it is, and that the machine follows them -/
def mLen : Instr → Nat
  | .bipush _ => 2
  | .ldc _ => 2
  | .iload _ => 2
  | .lload _ => 2
  | .aload _ => 2
  | .istore _ => 2
  | .lstore _ => 2
  | .astore _ => 2
  | .newarray _ => 2
  | .sipush _ => 3
  | .ldc_w _ => 3
  | .ldc2_w _ => 3
  | .iinc _ _ => 3
  | .goto _ => 3
  | .if_icmp _ _ => 3
  | .ifCond _ _ => 3
  | .ifnull _ => 3
  | .ifnonnull _ => 3
  | .getfield _ => 3
  | .putfield _ => 3
  | .getstatic _ => 3
  | .new _ => 3
  | .anewarray _ => 3
  | .invokevirtual _ => 3
  | .invokestatic _ => 3
  | .invokespecial _ => 3
  | _ => 1
def mLd (g : Value → Bool) (L : mL) (k : Nat) (i : Nat) (st : List Value) (h : mH) : Option mG := match L[k]? with
  | some (some v) => if g v = true then some (i + 1, L, v :: st, h) else none
  | _ => none
def mSt (g : Value → Bool) (L : mL) (k : Nat) (i : Nat) (st : List Value) (h : mH) : Option mG := match st with
  | v :: r => if g v = true ∧ k < L.length then some (i + 1, mS1 L k v, r, h) else none
  | _ => none
def mStJ (L : mL) (k : Nat) (i : Nat) (st : List Value) (h : mH) : Option mG := match st with
  | v :: r => if mIsJ v = true ∧ k + 1 < L.length then some (i + 1, mS2 L k v, r, h) else none
  | _ => none
def mA1 (en : mE) (i : Nat) (L : mL) (st : List Value) (h : mH) : Option mG := match en.2.1 with
  | .aconst_null => some (i + 1, L, .null :: st, h)
  | .iconst n => some (i + 1, L, .int (Int32.ofInt n) :: st, h)
  | .bipush n => some (i + 1, L, .int (Int8.ofInt n).toInt32 :: st, h)
  | .sipush n => some (i + 1, L, .int (Int16.ofInt n).toInt32 :: st, h)
  | .lconst n => some (i + 1, L, .long (Int64.ofNat (n : Nat)) :: st, h)
  | .ldc _ => some (i + 1, L, .int (Int32.ofInt (en.2.2.2.getD 1 0)) :: st, h)
  | .ldc_w _ => some (i + 1, L, .int (Int32.ofInt (en.2.2.2.getD 1 0)) :: st, h)
  | .ldc2_w _ => some (i + 1, L, .long (Int64.ofInt (en.2.2.2.getD 1 0)) :: st, h)
  | .iload k => mLd mIsI L k i st h
  | .iload_n k => mLd mIsI L k i st h
  | .lload k => mLd mIsJ L k i st h
  | .lload_n k => mLd mIsJ L k i st h
  | .aload k => mLd mIsA L k i st h
  | .aload_n k => mLd mIsA L k i st h
  | .istore k => mSt mIsI L k i st h
  | .istore_n k => mSt mIsI L k i st h
  | .lstore k => mStJ L k i st h
  | .lstore_n k => mStJ L k i st h
  | .astore k => mSt mIsA L k i st h
  | .astore_n k => mSt mIsA L k i st h
  | _ => none
def mA2 (en : mE) (i : Nat) (L : mL) (st : List Value) (h : mH) : Option mG := match en.2.1 with
  | .iinc k n => match L[k]? with
    | some (some (.int v)) => if k < L.length then some (i + 1, mS1 L k (.int (v + Int32.ofInt n)), st, h) else none
    | _ => none
  | .dup => match st with
    | v :: r => if v.category = 1 then some (i + 1, L, v :: v :: r, h) else none
    | _ => none
  | .dup2 => match st with
    | v :: u :: r => if v.category = 1 ∧ u.category = 1 then some (i + 1, L, v :: u :: v :: u :: r, h) else none
    | _ => none
  | .pop => match st with
    | v :: r => if v.category = 1 then some (i + 1, L, r, h) else none
    | _ => none
  | .pop2 => match st with
    | v :: r => if v.category = 2 then some (i + 1, L, r, h) else none
    | _ => none
  | _ => none
def mB1 (en : mE) (i : Nat) (L : mL) (st : List Value) (h : mH) : Option mG := match en.2.1 with
  | .iadd => match st with
    | .int y :: .int x :: r => some (i + 1, L, .int (x + y) :: r, h)
    | _ => none
  | .isub => match st with
    | .int y :: .int x :: r => some (i + 1, L, .int (x - y) :: r, h)
    | _ => none
  | .imul => match st with
    | .int y :: .int x :: r => some (i + 1, L, .int (x * y) :: r, h)
    | _ => none
  | .iand => match st with
    | .int y :: .int x :: r => some (i + 1, L, .int (x &&& y) :: r, h)
    | _ => none
  | .ior => match st with
    | .int y :: .int x :: r => some (i + 1, L, .int (x ||| y) :: r, h)
    | _ => none
  | .ixor => match st with
    | .int y :: .int x :: r => some (i + 1, L, .int (x ^^^ y) :: r, h)
    | _ => none
  | .ishl => match st with
    | .int y :: .int x :: r => some (i + 1, L, .int (x <<< (y &&& 31)) :: r, h)
    | _ => none
  | .ishr => match st with
    | .int y :: .int x :: r => some (i + 1, L, .int (x >>> (y &&& 31)) :: r, h)
    | _ => none
  | .iushr => match st with
    | .int y :: .int x :: r => some (i + 1, L, .int ((x.toUInt32 >>> (y.toUInt32 &&& Int32.toUInt32 31)).toInt32) :: r, h)
    | _ => none
  | .idiv => match st with
    | .int y :: .int x :: r => if y = 0 then none else some (i + 1, L, .int (x / y) :: r, h)
    | _ => none
  | .irem => match st with
    | .int y :: .int x :: r => if y = 0 then none else some (i + 1, L, .int (x - x / y * y) :: r, h)
    | _ => none
  | .ineg => match st with
    | .int x :: r => some (i + 1, L, .int (-x) :: r, h)
    | _ => none
  | _ => none
def mB2 (en : mE) (i : Nat) (L : mL) (st : List Value) (h : mH) : Option mG := match en.2.1 with
  | .ladd => match st with
    | .long y :: .long x :: r => some (i + 1, L, .long (x + y) :: r, h)
    | _ => none
  | .lsub => match st with
    | .long y :: .long x :: r => some (i + 1, L, .long (x - y) :: r, h)
    | _ => none
  | .lmul => match st with
    | .long y :: .long x :: r => some (i + 1, L, .long (x * y) :: r, h)
    | _ => none
  | .land => match st with
    | .long y :: .long x :: r => some (i + 1, L, .long (x &&& y) :: r, h)
    | _ => none
  | .lor => match st with
    | .long y :: .long x :: r => some (i + 1, L, .long (x ||| y) :: r, h)
    | _ => none
  | .lxor => match st with
    | .long y :: .long x :: r => some (i + 1, L, .long (x ^^^ y) :: r, h)
    | _ => none
  | .ldiv => match st with
    | .long y :: .long x :: r => if y = 0 then none else some (i + 1, L, .long (x / y) :: r, h)
    | _ => none
  | .lrem => match st with
    | .long y :: .long x :: r => if y = 0 then none else some (i + 1, L, .long (x - x / y * y) :: r, h)
    | _ => none
  | .lshl => match st with
    | .int y :: .long x :: r => some (i + 1, L, .long (x <<< (y.toInt64 &&& 63)) :: r, h)
    | _ => none
  | .lushr => match st with
    | .int y :: .long x :: r => some (i + 1, L, .long ((x.toUInt64 >>> (y.toInt64.toUInt64 &&& Int64.toUInt64 63)).toInt64) :: r, h)
    | _ => none
  | .lcmp => match st with
    | .long y :: .long x :: r => some (i + 1, L, .int (lg_cmp x y) :: r, h)
    | _ => none
  | .i2l => match st with
    | .int x :: r => some (i + 1, L, .long x.toInt64 :: r, h)
    | _ => none
  | .l2i => match st with
    | .long x :: r => some (i + 1, L, .int x.toInt32 :: r, h)
    | _ => none
  | .i2b => match st with
    | .int x :: r => some (i + 1, L, .int x.toInt8.toInt32 :: r, h)
    | _ => none
  | _ => none
def mTgt (en : mE) (k : Nat) : Nat := (en.2.2.2.getD k 0).toNat
def mIf (en : mE) (d : Bool) (i : Nat) (L : mL) (r : List Value) (h : mH) : mG := if d = true then (mTgt en 0, L, r, h) else (i + 1, L, r, h)
def mC2 (q : ClassFile.Cond) (x y : Int32) : Bool := match q with
  | .eq => decide (x = y)
  | .ne => decide (x ≠ y)
  | .lt => decide (x < y)
  | .ge => decide (x ≥ y)
  | .gt => decide (x > y)
  | .le => decide (x ≤ y)
def mLk : List (Int × Int) → Nat → Int → Nat
  | [], _, _ => 0
  | (a, _) :: r, k, z => if z = a then k else mLk r (k + 1) z
def mB3 (en : mE) (i : Nat) (L : mL) (st : List Value) (h : mH) : Option mG := match en.2.1 with
  | .goto _ => some (mTgt en 0, L, st, h)
  | .if_icmp q _ => match st with
    | .int y :: .int x :: r => some (mIf en (mC2 q x y) i L r h)
    | _ => none
  | .ifCond q _ => match st with
    | .int x :: r => some (mIf en (mC2 q x 0) i L r h)
    | _ => none
  | .ifnull _ => match st with
    | .null :: r => some (mTgt en 0, L, r, h)
    | .ref _ :: r => some (i + 1, L, r, h)
    | _ => none
  | .ifnonnull _ => match st with
    | .null :: r => some (i + 1, L, r, h)
    | .ref _ :: r => some (mTgt en 0, L, r, h)
    | _ => none
  | .tableswitch _ lo hi _ => match st with
    | .int x :: r => if x.toInt < lo ∨ hi < x.toInt then some (mTgt en 0, L, r, h) else some (mTgt en (1 + (x.toInt - lo).toNat), L, r, h)
    | _ => none
  | .lookupswitch _ ps => match st with
    | .int x :: r => some (mTgt en (mLk ps.toList 1 x.toInt), L, r, h)
    | _ => none
  | _ => none
end
section
/-! the machine follows the steps that leave the heap as it is -/
def mPcAt (cs : List mE) (k : Nat) : Nat := match cs[k]? with
  | some en => en.1
  | none => 0
def mFol (p : Program) (l : Launch) (e : Env) (R : Room) (s : State) (m : MethodId) (args : Array Value) (below : List Frame) (meth : Method) (c : Code) (cs : List mE) (f : Value → Value) (Q : State → Prop) (H : Heap) (locs : List Loc) (cells slots : Nat) (g : mG) : Prop :=
  ∀ ls : Array Slot, lv_has ls g.2.1.length (mAs f g.2.1) → W p l e R s m args below meth c H locs cells slots Q (F0 m (mPcAt cs g.1) ls (g.2.2.1.map f))
section MSA
variable {p : Program} {l : Launch} {e : Env} {R : Room} {s : State} {m : MethodId} {args : Array Value} {below : List Frame} {meth : Method} {c : Code} {H : Heap} {locs : List Loc} {cells slots : Nat} {Q : State → Prop}
variable {cc : ByteArray} {cs : List mE} {b : Nat} {x : Nat → Nat} {en : mE} {i : Nat} {L : mL} {st : List Value} {h : mH} {g : mG}
theorem mLd_spec {q : Value → Bool} {k : Nat} (hs : mLd q L k i st h = some g) : ∃ v, L[k]? = some (some v) ∧ q v = true ∧ g = (i + 1, L, v :: st, h) := by
  unfold mLd at hs
  split at hs
  · rename_i v hv
    split at hs
    · rename_i hq
      exact ⟨v, hv, hq, (Option.some.inj hs).symm⟩
    · cases hs
  · cases hs
theorem mSt_spec {q : Value → Bool} {k : Nat} (hs : mSt q L k i st h = some g) : ∃ v r, st = v :: r ∧ q v = true ∧ k < L.length ∧ g = (i + 1, mS1 L k v, r, h) := by
  unfold mSt at hs
  split at hs
  · rename_i v r
    split at hs
    · rename_i hq
      exact ⟨v, r, rfl, hq.1, hq.2, (Option.some.inj hs).symm⟩
    · cases hs
  · cases hs
theorem mStJ_spec {k : Nat} (hs : mStJ L k i st h = some g) : ∃ v r, st = v :: r ∧ mIsJ v = true ∧ k + 1 < L.length ∧ g = (i + 1, mS2 L k v, r, h) := by
  unfold mStJ at hs
  split at hs
  · rename_i v r
    split at hs
    · rename_i hq
      exact ⟨v, r, rfl, hq.1, hq.2, (Option.some.inj hs).symm⟩
    · cases hs
  · cases hs
theorem mIsI_spec {v : Value} (h : mIsI v = true) : ∃ z, v = .int z := by cases v <;> first | exact ⟨_, rfl⟩ | cases h
theorem mIsJ_spec {v : Value} (h : mIsJ v = true) : ∃ z, v = .long z := by cases v <;> first | exact ⟨_, rfl⟩ | cases h
theorem mIsA_spec (b : Nat) (x : Nat → Nat) {v : Value} (h : mIsA v = true) : mSh b x v = .null ∨ ∃ a, mSh b x v = .ref a := by cases v <;> first | exact Or.inl rfl | exact Or.inr ⟨_, rfl⟩ | cases h
set_option maxHeartbeats 2000000 in
theorem mA1_sim (hx : p.tables.exec = Jvm.exec) (hb : c.code = cc) (hown : True) (hd : decode cc (mPcAt cs i) = .ok (en.2.1, mLen en.2.1)) (hf : mPcAt cs (i + 1) = mPcAt cs i + mLen en.2.1)
    (hk : ∀ idx : Nat, (en.2.1 = .ldc idx ∨ en.2.1 = .ldc_w idx → ∃ own, s.vm.findClass own = some m.cls ∧ (Jvm.Cond.constant own idx (Int32.ofInt (en.2.2.2.getD 1 0))).before args s = true) ∧ (en.2.1 = .ldc2_w idx → ∃ own, s.vm.findClass own = some m.cls ∧ (Jvm.Cond.constantLong own idx (Int64.ofInt (en.2.2.2.getD 1 0))).before args s = true))
    (hs : mA1 en i L st h = some g) (kk : mFol p l e R s m args below meth c cs (mSh b x) Q H locs cells slots g) : mFol p l e R s m args below meth c cs (mSh b x) Q H locs cells slots (i, L, st, h) ∧ g.2.2.2 = h ∧ g.2.1.length = L.length := by
  unfold mA1 at hs
  split at hs
  · rename_i heq
    cases hs
    refine ⟨fun ls hl => ?_, rfl, rfl⟩
    have k1 := kk ls hl
    dsimp only at k1 ⊢
    rw [hf, heq] at k1
    rw [heq] at hd
    exact lv_null hx hb hd  k1
  · rename_i n heq
    cases hs
    refine ⟨fun ls hl => ?_, rfl, rfl⟩
    have k1 := kk ls hl
    dsimp only at k1 ⊢
    rw [hf, heq] at k1
    rw [heq] at hd
    exact lv_iconst hx hb hd rfl k1
  · rename_i n heq
    cases hs
    refine ⟨fun ls hl => ?_, rfl, rfl⟩
    have k1 := kk ls hl
    dsimp only at k1 ⊢
    rw [hf, heq] at k1
    rw [heq] at hd
    exact lv_bipush hx hb hd rfl k1
  · rename_i n heq
    cases hs
    refine ⟨fun ls hl => ?_, rfl, rfl⟩
    have k1 := kk ls hl
    dsimp only at k1 ⊢
    rw [hf, heq] at k1
    rw [heq] at hd
    exact lv_sipush hx hb hd rfl k1
  · rename_i n heq
    cases hs
    refine ⟨fun ls hl => ?_, rfl, rfl⟩
    have k1 := kk ls hl
    dsimp only at k1 ⊢
    rw [hf, heq] at k1
    rw [heq] at hd
    exact lv_lconst hx hb hd rfl k1
  · rename_i n heq
    cases hs
    obtain ⟨own, ho, hc⟩ := (hk n).1 (Or.inl heq)
    refine ⟨fun ls hl => ?_, rfl, rfl⟩
    have k1 := kk ls hl
    dsimp only at k1 ⊢
    rw [hf, heq] at k1
    rw [heq] at hd
    exact lv_ldc hx hb ho hc hd k1
  · rename_i n heq
    cases hs
    obtain ⟨own, ho, hc⟩ := (hk n).1 (Or.inr heq)
    refine ⟨fun ls hl => ?_, rfl, rfl⟩
    have k1 := kk ls hl
    dsimp only at k1 ⊢
    rw [hf, heq] at k1
    rw [heq] at hd
    exact lv_ldcw hx hb ho hc hd k1
  · rename_i n heq
    cases hs
    obtain ⟨own, ho, hc⟩ := (hk n).2 heq
    refine ⟨fun ls hl => ?_, rfl, rfl⟩
    have k1 := kk ls hl
    dsimp only at k1 ⊢
    rw [hf, heq] at k1
    rw [heq] at hd
    exact lv_ldc2 hx hb ho hc hd k1
  · rename_i k heq
    obtain ⟨v, hv, hq, rfl⟩ := mLd_spec hs
    obtain ⟨z, rfl⟩ := mIsI_spec hq
    refine ⟨fun ls hl => ?_, rfl, rfl⟩
    have k1 := kk ls hl
    dsimp only at k1 hl ⊢
    rw [hf, heq] at k1
    rw [heq] at hd
    exact lv_iload hx hb hd (mAs_at hl hv) k1
  · rename_i k heq
    obtain ⟨v, hv, hq, rfl⟩ := mLd_spec hs
    obtain ⟨z, rfl⟩ := mIsI_spec hq
    refine ⟨fun ls hl => ?_, rfl, rfl⟩
    have k1 := kk ls hl
    dsimp only at k1 hl ⊢
    rw [hf, heq] at k1
    rw [heq] at hd
    exact lv_iload_n hx hb hd rfl (mAs_at hl hv) k1
  · rename_i k heq
    obtain ⟨v, hv, hq, rfl⟩ := mLd_spec hs
    obtain ⟨z, rfl⟩ := mIsJ_spec hq
    refine ⟨fun ls hl => ?_, rfl, rfl⟩
    have k1 := kk ls hl
    dsimp only at k1 hl ⊢
    rw [hf, heq] at k1
    rw [heq] at hd
    exact lv_lload hx hb hd (mAs_at hl hv) k1
  · rename_i k heq
    obtain ⟨v, hv, hq, rfl⟩ := mLd_spec hs
    obtain ⟨z, rfl⟩ := mIsJ_spec hq
    refine ⟨fun ls hl => ?_, rfl, rfl⟩
    have k1 := kk ls hl
    dsimp only at k1 hl ⊢
    rw [hf, heq] at k1
    rw [heq] at hd
    exact lv_lload_n hx hb hd rfl (mAs_at hl hv) k1
  · rename_i k heq
    obtain ⟨v, hv, hq, rfl⟩ := mLd_spec hs
    refine ⟨fun ls hl => ?_, rfl, rfl⟩
    have k1 := kk ls hl
    dsimp only at k1 hl ⊢
    rw [hf, heq] at k1
    rw [heq] at hd
    have h1 := mAs_at hl hv
    rw [List.map_cons] at k1
    rcases mIsA_spec b x hq with e1 | ⟨a, e1⟩
    · rw [e1] at h1 k1
      exact lv_aloadN hx hb hd h1 k1
    · rw [e1] at h1 k1
      exact lv_aload hx hb hd h1 k1
  · rename_i k heq
    obtain ⟨v, hv, hq, rfl⟩ := mLd_spec hs
    refine ⟨fun ls hl => ?_, rfl, rfl⟩
    have k1 := kk ls hl
    dsimp only at k1 hl ⊢
    rw [hf, heq] at k1
    rw [heq] at hd
    have h1 := mAs_at hl hv
    rw [List.map_cons] at k1
    rcases mIsA_spec b x hq with e1 | ⟨a, e1⟩
    · rw [e1] at h1 k1
      exact lv_aload_nN hx hb hd rfl h1 k1
    · rw [e1] at h1 k1
      exact lv_aload_n hx hb hd rfl h1 k1
  · rename_i k heq
    obtain ⟨v, r, rfl, hq, hn, rfl⟩ := mSt_spec hs
    obtain ⟨z, rfl⟩ := mIsI_spec hq
    refine ⟨fun ls hl => ?_, rfl, mS1_len _ _ _⟩
    dsimp only at hl ⊢
    rw [heq] at hd
    refine lv_istore (lv := mAs (mSh b x) L) hx hb hd hl hn rfl fun ls1 h1 => ?_
    have h2 := mS1_has (f := mSh b x) (mSh_cat b x) (v := .int z) h1
    have k1 := kk ls1 (by dsimp only; rw [mS1_len]; exact h2)
    dsimp only at k1
    rw [hf, heq] at k1
    exact k1
  · rename_i k heq
    obtain ⟨v, r, rfl, hq, hn, rfl⟩ := mSt_spec hs
    obtain ⟨z, rfl⟩ := mIsI_spec hq
    refine ⟨fun ls hl => ?_, rfl, mS1_len _ _ _⟩
    dsimp only at hl ⊢
    rw [heq] at hd
    refine lv_istore_n (lv := mAs (mSh b x) L) hx hb hd rfl hl hn rfl fun ls1 h1 => ?_
    have h2 := mS1_has (f := mSh b x) (mSh_cat b x) (v := .int z) h1
    have k1 := kk ls1 (by dsimp only; rw [mS1_len]; exact h2)
    dsimp only at k1
    rw [hf, heq] at k1
    exact k1
  · rename_i k heq
    obtain ⟨v, r, rfl, hq, hn, rfl⟩ := mStJ_spec hs
    obtain ⟨z, rfl⟩ := mIsJ_spec hq
    refine ⟨fun ls hl => ?_, rfl, mS2_len _ _ _⟩
    dsimp only at hl ⊢
    rw [heq] at hd
    refine lv_lstore (lv := mAs (mSh b x) L) hx hb hd hl hn rfl fun ls1 h1 => ?_
    have h2 := mS2_has (f := mSh b x) (mSh_cat b x) (v := .long z) h1
    have k1 := kk ls1 (by dsimp only; rw [mS2_len]; exact h2)
    dsimp only at k1
    rw [hf, heq] at k1
    exact k1
  · rename_i k heq
    obtain ⟨v, r, rfl, hq, hn, rfl⟩ := mStJ_spec hs
    obtain ⟨z, rfl⟩ := mIsJ_spec hq
    refine ⟨fun ls hl => ?_, rfl, mS2_len _ _ _⟩
    dsimp only at hl ⊢
    rw [heq] at hd
    refine lv_lstore_n (lv := mAs (mSh b x) L) hx hb hd rfl hl hn rfl fun ls1 h1 => ?_
    have h2 := mS2_has (f := mSh b x) (mSh_cat b x) (v := .long z) h1
    have k1 := kk ls1 (by dsimp only; rw [mS2_len]; exact h2)
    dsimp only at k1
    rw [hf, heq] at k1
    exact k1
  · rename_i k heq
    obtain ⟨v, r, rfl, hq, hn, rfl⟩ := mSt_spec hs
    refine ⟨fun ls hl => ?_, rfl, mS1_len _ _ _⟩
    dsimp only at hl ⊢
    rw [heq] at hd
    have key : ∀ ls1 : Array Slot, lv_has ls1 L.length ((k, mSh b x v) :: (mAs (mSh b x) L).filter (fun q => !(q.1 == k) && !(q.1 + 1 == k && q.2.category == 2))) → W p l e R s m args below meth c H locs cells slots Q (F0 m (mPcAt cs i + 2) ls1 (r.map (mSh b x))) := by
      intro ls1 h1
      have h2 := mS1_has (mSh_cat b x) h1
      have k1 := kk ls1 (by dsimp only; rw [mS1_len]; exact h2)
      dsimp only at k1
      rw [hf, heq] at k1
      exact k1
    rw [List.map_cons]
    rcases mIsA_spec b x hq with e1 | ⟨a, e1⟩
    · rw [e1] at key ⊢
      exact lv_astoreN (lv := mAs (mSh b x) L) hx hb hd hl hn rfl key
    · rw [e1] at key ⊢
      exact lv_astore (lv := mAs (mSh b x) L) hx hb hd hl hn rfl key
  · rename_i k heq
    obtain ⟨v, r, rfl, hq, hn, rfl⟩ := mSt_spec hs
    refine ⟨fun ls hl => ?_, rfl, mS1_len _ _ _⟩
    dsimp only at hl ⊢
    rw [heq] at hd
    have key : ∀ ls1 : Array Slot, lv_has ls1 L.length (((k : Nat), mSh b x v) :: (mAs (mSh b x) L).filter (fun q => !(q.1 == (k : Nat)) && !(q.1 + 1 == (k : Nat) && q.2.category == 2))) → W p l e R s m args below meth c H locs cells slots Q (F0 m (mPcAt cs i + 1) ls1 (r.map (mSh b x))) := by
      intro ls1 h1
      have h2 := mS1_has (mSh_cat b x) h1
      have k1 := kk ls1 (by dsimp only; rw [mS1_len]; exact h2)
      dsimp only at k1
      rw [hf, heq] at k1
      exact k1
    rw [List.map_cons]
    rcases mIsA_spec b x hq with e1 | ⟨a, e1⟩
    · rw [e1] at key ⊢
      exact lv_astore_nN (lv := mAs (mSh b x) L) hx hb hd rfl hl hn rfl key
    · rw [e1] at key ⊢
      exact lv_astore_n (lv := mAs (mSh b x) L) hx hb hd rfl hl hn rfl key
  · cases hs
set_option maxHeartbeats 2000000 in
theorem mA2_sim (hx : p.tables.exec = Jvm.exec) (hb : c.code = cc) (hd : decode cc (mPcAt cs i) = .ok (en.2.1, mLen en.2.1)) (hf : mPcAt cs (i + 1) = mPcAt cs i + mLen en.2.1)
    (hs : mA2 en i L st h = some g) (kk : mFol p l e R s m args below meth c cs (mSh b x) Q H locs cells slots g) : mFol p l e R s m args below meth c cs (mSh b x) Q H locs cells slots (i, L, st, h) ∧ g.2.2.2 = h ∧ g.2.1.length = L.length := by
  unfold mA2 at hs
  split at hs
  · rename_i k n heq
    split at hs
    · rename_i v hv
      split at hs
      · rename_i hn
        cases hs
        refine ⟨fun ls hl => ?_, rfl, mS1_len _ _ _⟩
        dsimp only at hl ⊢
        rw [heq] at hd
        obtain ⟨j, hj⟩ := List.getElem?_of_mem (mAs_mem.mpr ⟨_, hv, rfl⟩ : (k, mSh b x (.int v)) ∈ mAs (mSh b x) L)
        refine lv_iinc (lv := mAs (mSh b x) L) (k := j) hx hb hd hl hj rfl hn rfl fun ls1 h1 => ?_
        have h2 := mS1_has (f := mSh b x) (mSh_cat b x) (v := .int (v + Int32.ofInt n)) h1
        have k1 := kk ls1 (by dsimp only; rw [mS1_len]; exact h2)
        dsimp only at k1
        rw [hf, heq] at k1
        exact k1
      · cases hs
    · cases hs
  · rename_i heq
    split at hs
    · rename_i v r
      split at hs
      · rename_i hc
        cases hs
        refine ⟨fun ls hl => ?_, rfl, rfl⟩
        have k1 := kk ls hl
        dsimp only [List.map_cons] at k1 ⊢
        rw [hf, heq] at k1
        rw [heq] at hd
        exact lv_dup hx hb hd (by rw [mSh_cat]; exact hc) k1
      · cases hs
    · cases hs
  · rename_i heq
    split at hs
    · rename_i v u r
      split at hs
      · rename_i hc
        cases hs
        refine ⟨fun ls hl => ?_, rfl, rfl⟩
        have k1 := kk ls hl
        dsimp only [List.map_cons] at k1 ⊢
        rw [hf, heq] at k1
        rw [heq] at hd
        exact lv_dup2_11 hx hb hd (by rw [mSh_cat]; exact hc.1) (by rw [mSh_cat]; exact hc.2) k1
      · cases hs
    · cases hs
  · rename_i heq
    split at hs
    · rename_i v r
      split at hs
      · rename_i hc
        cases hs
        refine ⟨fun ls hl => ?_, rfl, rfl⟩
        have k1 := kk ls hl
        dsimp only [List.map_cons] at k1 ⊢
        rw [hf, heq] at k1
        rw [heq] at hd
        exact lv_pop hx hb hd (by rw [mSh_cat]; exact hc) k1
      · cases hs
    · cases hs
  · rename_i heq
    split at hs
    · rename_i v r
      split at hs
      · rename_i hc
        cases hs
        refine ⟨fun ls hl => ?_, rfl, rfl⟩
        have k1 := kk ls hl
        dsimp only [List.map_cons] at k1 ⊢
        rw [hf, heq] at k1
        rw [heq] at hd
        exact lv_pop2_2 hx hb hd (by rw [mSh_cat]; exact hc) k1
      · cases hs
    · cases hs
  · cases hs
set_option maxHeartbeats 2000000 in
theorem mB1_sim (hx : p.tables.exec = Jvm.exec) (hb : c.code = cc) (hd : decode cc (mPcAt cs i) = .ok (en.2.1, mLen en.2.1)) (hf : mPcAt cs (i + 1) = mPcAt cs i + mLen en.2.1)
    (hs : mB1 en i L st h = some g) (kk : mFol p l e R s m args below meth c cs (mSh b x) Q H locs cells slots g) : mFol p l e R s m args below meth c cs (mSh b x) Q H locs cells slots (i, L, st, h) ∧ g.2.2.2 = h ∧ g.2.1.length = L.length := by
  unfold mB1 at hs
  split at hs
  · rename_i heq
    split at hs
    · cases hs
      refine ⟨fun ls hl => ?_, rfl, rfl⟩
      have k1 := kk ls hl
      dsimp only [List.map_cons, mSh] at k1 ⊢
      rw [hf, heq] at k1
      rw [heq] at hd
      exact lv_iadd hx hb hd  k1
    · cases hs
  · rename_i heq
    split at hs
    · cases hs
      refine ⟨fun ls hl => ?_, rfl, rfl⟩
      have k1 := kk ls hl
      dsimp only [List.map_cons, mSh] at k1 ⊢
      rw [hf, heq] at k1
      rw [heq] at hd
      exact lv_isub hx hb hd  k1
    · cases hs
  · rename_i heq
    split at hs
    · cases hs
      refine ⟨fun ls hl => ?_, rfl, rfl⟩
      have k1 := kk ls hl
      dsimp only [List.map_cons, mSh] at k1 ⊢
      rw [hf, heq] at k1
      rw [heq] at hd
      exact lv_imul hx hb hd  k1
    · cases hs
  · rename_i heq
    split at hs
    · cases hs
      refine ⟨fun ls hl => ?_, rfl, rfl⟩
      have k1 := kk ls hl
      dsimp only [List.map_cons, mSh] at k1 ⊢
      rw [hf, heq] at k1
      rw [heq] at hd
      exact lv_iand hx hb hd  k1
    · cases hs
  · rename_i heq
    split at hs
    · cases hs
      refine ⟨fun ls hl => ?_, rfl, rfl⟩
      have k1 := kk ls hl
      dsimp only [List.map_cons, mSh] at k1 ⊢
      rw [hf, heq] at k1
      rw [heq] at hd
      exact lv_ior hx hb hd  k1
    · cases hs
  · rename_i heq
    split at hs
    · cases hs
      refine ⟨fun ls hl => ?_, rfl, rfl⟩
      have k1 := kk ls hl
      dsimp only [List.map_cons, mSh] at k1 ⊢
      rw [hf, heq] at k1
      rw [heq] at hd
      exact lv_ixor hx hb hd  k1
    · cases hs
  · rename_i heq
    split at hs
    · cases hs
      refine ⟨fun ls hl => ?_, rfl, rfl⟩
      have k1 := kk ls hl
      dsimp only [List.map_cons, mSh] at k1 ⊢
      rw [hf, heq] at k1
      rw [heq] at hd
      exact lv_ishl hx hb hd  k1
    · cases hs
  · rename_i heq
    split at hs
    · cases hs
      refine ⟨fun ls hl => ?_, rfl, rfl⟩
      have k1 := kk ls hl
      dsimp only [List.map_cons, mSh] at k1 ⊢
      rw [hf, heq] at k1
      rw [heq] at hd
      exact lv_ishr hx hb hd  k1
    · cases hs
  · rename_i heq
    split at hs
    · cases hs
      refine ⟨fun ls hl => ?_, rfl, rfl⟩
      have k1 := kk ls hl
      dsimp only [List.map_cons, mSh] at k1 ⊢
      rw [hf, heq] at k1
      rw [heq] at hd
      exact lv_iushr hx hb hd rfl k1
    · cases hs
  · rename_i heq
    split at hs
    · split at hs
      · cases hs
      · rename_i hne
        cases hs
        refine ⟨fun ls hl => ?_, rfl, rfl⟩
        have k1 := kk ls hl
        dsimp only [List.map_cons, mSh] at k1 ⊢
        rw [hf, heq] at k1
        rw [heq] at hd
        exact lv_idiv hx hb hd hne k1
    · cases hs
  · rename_i heq
    split at hs
    · split at hs
      · cases hs
      · rename_i hne
        cases hs
        refine ⟨fun ls hl => ?_, rfl, rfl⟩
        have k1 := kk ls hl
        dsimp only [List.map_cons, mSh] at k1 ⊢
        rw [hf, heq] at k1
        rw [heq] at hd
        exact lv_irem hx hb hd hne k1
    · cases hs
  · rename_i heq
    split at hs
    · cases hs
      refine ⟨fun ls hl => ?_, rfl, rfl⟩
      have k1 := kk ls hl
      dsimp only [List.map_cons, mSh] at k1 ⊢
      rw [hf, heq] at k1
      rw [heq] at hd
      exact lv_ineg hx hb hd  k1
    · cases hs
  · cases hs
set_option maxHeartbeats 2000000 in
theorem mB2_sim (hx : p.tables.exec = Jvm.exec) (hb : c.code = cc) (hd : decode cc (mPcAt cs i) = .ok (en.2.1, mLen en.2.1)) (hf : mPcAt cs (i + 1) = mPcAt cs i + mLen en.2.1)
    (hs : mB2 en i L st h = some g) (kk : mFol p l e R s m args below meth c cs (mSh b x) Q H locs cells slots g) : mFol p l e R s m args below meth c cs (mSh b x) Q H locs cells slots (i, L, st, h) ∧ g.2.2.2 = h ∧ g.2.1.length = L.length := by
  unfold mB2 at hs
  split at hs
  · rename_i heq
    split at hs
    · cases hs
      refine ⟨fun ls hl => ?_, rfl, rfl⟩
      have k1 := kk ls hl
      dsimp only [List.map_cons, mSh] at k1 ⊢
      rw [hf, heq] at k1
      rw [heq] at hd
      exact lv_ladd hx hb hd  k1
    · cases hs
  · rename_i heq
    split at hs
    · cases hs
      refine ⟨fun ls hl => ?_, rfl, rfl⟩
      have k1 := kk ls hl
      dsimp only [List.map_cons, mSh] at k1 ⊢
      rw [hf, heq] at k1
      rw [heq] at hd
      exact lv_lsub hx hb hd  k1
    · cases hs
  · rename_i heq
    split at hs
    · cases hs
      refine ⟨fun ls hl => ?_, rfl, rfl⟩
      have k1 := kk ls hl
      dsimp only [List.map_cons, mSh] at k1 ⊢
      rw [hf, heq] at k1
      rw [heq] at hd
      exact lv_lmul hx hb hd  k1
    · cases hs
  · rename_i heq
    split at hs
    · cases hs
      refine ⟨fun ls hl => ?_, rfl, rfl⟩
      have k1 := kk ls hl
      dsimp only [List.map_cons, mSh] at k1 ⊢
      rw [hf, heq] at k1
      rw [heq] at hd
      exact lv_land hx hb hd  k1
    · cases hs
  · rename_i heq
    split at hs
    · cases hs
      refine ⟨fun ls hl => ?_, rfl, rfl⟩
      have k1 := kk ls hl
      dsimp only [List.map_cons, mSh] at k1 ⊢
      rw [hf, heq] at k1
      rw [heq] at hd
      exact lv_lor hx hb hd  k1
    · cases hs
  · rename_i heq
    split at hs
    · cases hs
      refine ⟨fun ls hl => ?_, rfl, rfl⟩
      have k1 := kk ls hl
      dsimp only [List.map_cons, mSh] at k1 ⊢
      rw [hf, heq] at k1
      rw [heq] at hd
      exact lv_lxor hx hb hd  k1
    · cases hs
  · rename_i heq
    split at hs
    · split at hs
      · cases hs
      · rename_i hne
        cases hs
        refine ⟨fun ls hl => ?_, rfl, rfl⟩
        have k1 := kk ls hl
        dsimp only [List.map_cons, mSh] at k1 ⊢
        rw [hf, heq] at k1
        rw [heq] at hd
        exact lv_ldiv hx hb hd hne k1
    · cases hs
  · rename_i heq
    split at hs
    · split at hs
      · cases hs
      · rename_i hne
        cases hs
        refine ⟨fun ls hl => ?_, rfl, rfl⟩
        have k1 := kk ls hl
        dsimp only [List.map_cons, mSh] at k1 ⊢
        rw [hf, heq] at k1
        rw [heq] at hd
        exact lv_lrem hx hb hd hne k1
    · cases hs
  · rename_i heq
    split at hs
    · cases hs
      refine ⟨fun ls hl => ?_, rfl, rfl⟩
      have k1 := kk ls hl
      dsimp only [List.map_cons, mSh] at k1 ⊢
      rw [hf, heq] at k1
      rw [heq] at hd
      exact lv_lshl hx hb hd rfl k1
    · cases hs
  · rename_i heq
    split at hs
    · cases hs
      refine ⟨fun ls hl => ?_, rfl, rfl⟩
      have k1 := kk ls hl
      dsimp only [List.map_cons, mSh] at k1 ⊢
      rw [hf, heq] at k1
      rw [heq] at hd
      exact lv_lushr hx hb hd rfl k1
    · cases hs
  · rename_i heq
    split at hs
    · cases hs
      refine ⟨fun ls hl => ?_, rfl, rfl⟩
      have k1 := kk ls hl
      dsimp only [List.map_cons, mSh] at k1 ⊢
      rw [hf, heq] at k1
      rw [heq] at hd
      exact W.lcmp hx hb hd  k1
    · cases hs
  · rename_i heq
    split at hs
    · cases hs
      refine ⟨fun ls hl => ?_, rfl, rfl⟩
      have k1 := kk ls hl
      dsimp only [List.map_cons, mSh] at k1 ⊢
      rw [hf, heq] at k1
      rw [heq] at hd
      exact lv_i2l hx hb hd rfl k1
    · cases hs
  · rename_i heq
    split at hs
    · cases hs
      refine ⟨fun ls hl => ?_, rfl, rfl⟩
      have k1 := kk ls hl
      dsimp only [List.map_cons, mSh] at k1 ⊢
      rw [hf, heq] at k1
      rw [heq] at hd
      exact lv_l2i hx hb hd rfl k1
    · cases hs
  · rename_i heq
    split at hs
    · cases hs
      refine ⟨fun ls hl => ?_, rfl, rfl⟩
      have k1 := kk ls hl
      dsimp only [List.map_cons, mSh] at k1 ⊢
      rw [hf, heq] at k1
      rw [heq] at hd
      exact lv_i2b hx hb hd rfl k1
    · cases hs
  · cases hs
end MSA
end
section
/-! jumps -/
def mJok (cs : List mE) (i : Nat) (en : mE) : Bool := match en.2.1 with
  | .goto off => decide ((mPcAt cs i : Int) + off = ((mPcAt cs (mTgt en 0) : Nat) : Int))
  | .if_icmp _ off => decide ((mPcAt cs i : Int) + off = ((mPcAt cs (mTgt en 0) : Nat) : Int))
  | .ifCond _ off => decide ((mPcAt cs i : Int) + off = ((mPcAt cs (mTgt en 0) : Nat) : Int))
  | .ifnull off => decide ((mPcAt cs i : Int) + off = ((mPcAt cs (mTgt en 0) : Nat) : Int))
  | .ifnonnull off => decide ((mPcAt cs i : Int) + off = ((mPcAt cs (mTgt en 0) : Nat) : Int))
  | .tableswitch d lo hi offs => decide ((mPcAt cs i : Int) + d = ((mPcAt cs (mTgt en 0) : Nat) : Int)) && (decide ((offs.toList.length : Int) = hi - lo + 1) && (List.range offs.toList.length).all (fun j => decide ((mPcAt cs i : Int) + offs.toList.getD j 0 = ((mPcAt cs (mTgt en (1 + j)) : Nat) : Int))))
  | .lookupswitch d ps => decide ((mPcAt cs i : Int) + d = ((mPcAt cs (mTgt en 0) : Nat) : Int)) && ((ps.toList.zip (ps.toList.drop 1)).all (fun (a, next) => a.1 < next.1) && (List.range ps.toList.length).all (fun j => decide ((mPcAt cs i : Int) + (ps.toList.getD j (0, 0)).2 = ((mPcAt cs (mTgt en (1 + j)) : Nat) : Int))))
  | _ => true
theorem mLk_ok (P : Nat → Int → Prop) (d z : Int) (h0 : P 0 d) : ∀ (ps : List (Int × Int)) (k0 : Nat), (∀ (j : Nat), j < ps.length → P (k0 + j) (ps.getD j (0, 0)).2) → P (mLk ps k0 z) (Op.lookupswitch.offset ps d z) := by
  intro ps
  induction ps with
  | nil => intro k0 _; exact h0
  | cons q r ih =>
    intro k0 h
    obtain ⟨a, o⟩ := q
    rw [Op.lookupswitch.offset_cons]
    unfold mLk
    by_cases hz : z = a
    · rw [if_pos hz]
      first | rw [if_pos hz] | rw [if_pos hz.symm]
      exact h 0 (by simp)
    · rw [if_neg hz]
      first | rw [if_neg hz] | rw [if_neg (Ne.symm hz)]
      refine ih (k0 + 1) fun j hj => ?_
      have h1 := h (j + 1) (by simp; omega)
      rw [show k0 + 1 + j = k0 + (j + 1) by omega]
      exact h1
section MSB
variable {p : Program} {l : Launch} {e : Env} {R : Room} {s : State} {m : MethodId} {args : Array Value} {below : List Frame} {meth : Method} {c : Code} {H : Heap} {locs : List Loc} {cells slots : Nat} {Q : State → Prop}
variable {cc : ByteArray} {cs : List mE} {b : Nat} {x : Nat → Nat} {en : mE} {i : Nat} {L : mL} {st : List Value} {h : mH} {g : mG}
set_option maxHeartbeats 4000000 in
theorem mB3_sim {len : Nat} (hx : p.tables.exec = Jvm.exec) (hb : c.code = cc) (hd : decode cc (mPcAt cs i) = .ok (en.2.1, len)) (hl3 : len = mLen en.2.1 ∨ (∃ a b c d, en.2.1 = .tableswitch a b c d) ∨ ∃ a b, en.2.1 = .lookupswitch a b) (hf : (∃ q o, en.2.1 = .if_icmp q o) ∨ (∃ q o, en.2.1 = .ifCond q o) ∨ (∃ o, en.2.1 = .ifnull o) ∨ (∃ o, en.2.1 = .ifnonnull o) → mPcAt cs (i + 1) = mPcAt cs i + mLen en.2.1) (hj : mJok cs i en = true)
    (hs : mB3 en i L st h = some g) (kk : mFol p l e R s m args below meth c cs (mSh b x) Q H locs cells slots g) : mFol p l e R s m args below meth c cs (mSh b x) Q H locs cells slots (i, L, st, h) ∧ g.2.2.2 = h ∧ g.2.1.length = L.length := by
  unfold mB3 at hs
  unfold mJok at hj
  split at hs
  · rename_i off heq
    cases hs
    rw [heq] at hj hd hl3
    have hlen : len = 3 := by rcases hl3 with h | ⟨_, _, _, _, h⟩ | ⟨_, _, h⟩ <;> first | exact h | cases h
    subst hlen
    refine ⟨fun ls hl => ?_, rfl, rfl⟩
    have k1 := kk ls hl
    dsimp only at k1 ⊢
    exact lv_goto hx hb hd (of_decide_eq_true hj) k1
  · rename_i q off heq
    split at hs
    · rename_i y x0 r
      cases hs
      have hf1 := hf (Or.inl ⟨_, _, heq⟩)
      rw [heq] at hj hd hl3 hf1
      have hlen : len = 3 := by rcases hl3 with h | ⟨_, _, _, _, h⟩ | ⟨_, _, h⟩ <;> first | exact h | cases h
      subst hlen
      have ht := of_decide_eq_true hj
      refine ⟨fun ls hl => ?_, by unfold mIf; split <;> rfl, by unfold mIf; split <;> rfl⟩
      have kt : mC2 q x0 y = true → W p l e R s m args below meth c H locs cells slots Q (F0 m (mPcAt cs (mTgt en 0)) ls (r.map (mSh b x))) := fun hq => by
        have k0 := kk
        unfold mIf at k0
        rw [if_pos hq] at k0
        exact k0 ls hl
      have kf : ¬ mC2 q x0 y = true → W p l e R s m args below meth c H locs cells slots Q (F0 m (mPcAt cs i + 3) ls (r.map (mSh b x))) := fun hq => by
        have k0 := kk
        unfold mIf at k0
        rw [if_neg hq] at k0
        have k1 := k0 ls hl
        dsimp only at k1
        rw [hf1] at k1
        exact k1
      dsimp only [List.map_cons, mSh]
      cases q
      · exact lv_icmp_eq hx hb hd ht (fun hq => kt (decide_eq_true hq)) (fun hq => kf (fun z => hq (of_decide_eq_true z)))
      · exact lv_icmp_ne hx hb hd ht (fun hq => kt (decide_eq_true hq)) (fun hq => kf (fun z => (of_decide_eq_true z) hq))
      · exact lv_icmp_lt hx hb hd ht (fun hq => kt (decide_eq_true hq)) (fun hq => kf (fun z => hq (of_decide_eq_true z)))
      · exact lv_icmp_ge hx hb hd ht (fun hq => kt (decide_eq_true hq)) (fun hq => kf (fun z => hq (of_decide_eq_true z)))
      · exact lv_icmp_gt hx hb hd ht (fun hq => kt (decide_eq_true hq)) (fun hq => kf (fun z => hq (of_decide_eq_true z)))
      · exact lv_icmp_le hx hb hd ht (fun hq => kt (decide_eq_true hq)) (fun hq => kf (fun z => hq (of_decide_eq_true z)))
    · cases hs
  · rename_i q off heq
    split at hs
    · rename_i x0 r
      cases hs
      have hf1 := hf (Or.inr (Or.inl ⟨_, _, heq⟩))
      rw [heq] at hj hd hl3 hf1
      have hlen : len = 3 := by rcases hl3 with h | ⟨_, _, _, _, h⟩ | ⟨_, _, h⟩ <;> first | exact h | cases h
      subst hlen
      have ht := of_decide_eq_true hj
      refine ⟨fun ls hl => ?_, by unfold mIf; split <;> rfl, by unfold mIf; split <;> rfl⟩
      have kt : mC2 q x0 0 = true → W p l e R s m args below meth c H locs cells slots Q (F0 m (mPcAt cs (mTgt en 0)) ls (r.map (mSh b x))) := fun hq => by
        have k0 := kk
        unfold mIf at k0
        rw [if_pos hq] at k0
        exact k0 ls hl
      have kf : ¬ mC2 q x0 0 = true → W p l e R s m args below meth c H locs cells slots Q (F0 m (mPcAt cs i + 3) ls (r.map (mSh b x))) := fun hq => by
        have k0 := kk
        unfold mIf at k0
        rw [if_neg hq] at k0
        have k1 := k0 ls hl
        dsimp only at k1
        rw [hf1] at k1
        exact k1
      dsimp only [List.map_cons, mSh]
      cases q
      · exact lv_if_eq hx hb hd ht (fun hq => kt (decide_eq_true hq)) (fun hq => kf (fun z => hq (of_decide_eq_true z)))
      · exact lv_if_ne hx hb hd ht (fun hq => kt (decide_eq_true hq)) (fun hq => kf (fun z => (of_decide_eq_true z) hq))
      · exact lv_if_lt hx hb hd ht (fun hq => kt (decide_eq_true hq)) (fun hq => kf (fun z => hq (of_decide_eq_true z)))
      · exact lv_if_ge hx hb hd ht (fun hq => kt (decide_eq_true hq)) (fun hq => kf (fun z => hq (of_decide_eq_true z)))
      · exact lv_if_gt hx hb hd ht (fun hq => kt (decide_eq_true hq)) (fun hq => kf (fun z => hq (of_decide_eq_true z)))
      · exact lv_if_le hx hb hd ht (fun hq => kt (decide_eq_true hq)) (fun hq => kf (fun z => hq (of_decide_eq_true z)))
    · cases hs
  · rename_i off heq
    split at hs
    · rename_i r
      cases hs
      have hf1 := hf (Or.inr (Or.inr (Or.inl ⟨_, heq⟩)))
      rw [heq] at hj hd hl3 hf1
      have hlen : len = 3 := by rcases hl3 with h | ⟨_, _, _, _, h⟩ | ⟨_, _, h⟩ <;> first | exact h | cases h
      subst hlen
      have ht := of_decide_eq_true hj
      refine ⟨fun ls hl => ?_, rfl, rfl⟩
      have k1 := kk ls hl
      dsimp only [List.map_cons, mSh] at k1 ⊢
      exact lv_ifnullN hx hb hd ht k1
    · rename_i a r
      cases hs
      have hf1 := hf (Or.inr (Or.inr (Or.inl ⟨_, heq⟩)))
      rw [heq] at hj hd hl3 hf1
      have hlen : len = 3 := by rcases hl3 with h | ⟨_, _, _, _, h⟩ | ⟨_, _, h⟩ <;> first | exact h | cases h
      subst hlen
      have ht := of_decide_eq_true hj
      refine ⟨fun ls hl => ?_, rfl, rfl⟩
      have k1 := kk ls hl
      dsimp only [List.map_cons, mSh] at k1 ⊢
      rw [hf1] at k1
      exact lv_ifnull hx hb hd k1
    · cases hs
  · rename_i off heq
    split at hs
    · rename_i r
      cases hs
      have hf1 := hf (Or.inr (Or.inr (Or.inr ⟨_, heq⟩)))
      rw [heq] at hj hd hl3 hf1
      have hlen : len = 3 := by rcases hl3 with h | ⟨_, _, _, _, h⟩ | ⟨_, _, h⟩ <;> first | exact h | cases h
      subst hlen
      have ht := of_decide_eq_true hj
      refine ⟨fun ls hl => ?_, rfl, rfl⟩
      have k1 := kk ls hl
      dsimp only [List.map_cons, mSh] at k1 ⊢
      rw [hf1] at k1
      exact lv_ifnonnullN hx hb hd k1
    · rename_i a r
      cases hs
      have hf1 := hf (Or.inr (Or.inr (Or.inr ⟨_, heq⟩)))
      rw [heq] at hj hd hl3 hf1
      have hlen : len = 3 := by rcases hl3 with h | ⟨_, _, _, _, h⟩ | ⟨_, _, h⟩ <;> first | exact h | cases h
      subst hlen
      have ht := of_decide_eq_true hj
      refine ⟨fun ls hl => ?_, rfl, rfl⟩
      have k1 := kk ls hl
      dsimp only [List.map_cons, mSh] at k1 ⊢
      exact lv_ifnonnull hx hb hd ht k1
    · cases hs
  · rename_i dflt lo hi offs heq
    split at hs
    · rename_i z r
      rw [heq] at hj hd
      simp only [Bool.and_eq_true, decide_eq_true_eq, List.all_eq_true, List.mem_range] at hj
      obtain ⟨h0, h1, h2⟩ := hj
      split at hs
      · rename_i hz
        cases hs
        refine ⟨fun ls hl => ?_, rfl, rfl⟩
        have k1 := kk ls hl
        dsimp only [List.map_cons, mSh] at k1 ⊢
        exact lv_tableOut hx hb hd hz h0 k1
      · rename_i hz
        cases hs
        refine ⟨fun ls hl => ?_, rfl, rfl⟩
        have k1 := kk ls hl
        dsimp only [List.map_cons, mSh] at k1 ⊢
        have hlt : (z.toInt - lo).toNat < offs.toList.length := by omega
        refine lv_tableIn hx hb hd (fun q => hz (Or.inl q)) (fun q => hz (Or.inr q)) (off := offs.toList.getD (z.toInt - lo).toNat 0) ?_ (h2 _ hlt) k1
        rw [← Array.getElem?_toList, List.getElem?_eq_getElem hlt, List.getD_eq_getElem?_getD, List.getElem?_eq_getElem hlt]
        rfl
    · cases hs
  · rename_i dflt ps heq
    split at hs
    · rename_i z r
      rw [heq] at hj hd
      simp only [Bool.and_eq_true, decide_eq_true_eq] at hj
      obtain ⟨h0, h1, h2⟩ := hj
      simp only [List.all_eq_true, List.mem_range, decide_eq_true_eq] at h2
      cases hs
      refine ⟨fun ls hl => ?_, rfl, rfl⟩
      have k1 := kk ls hl
      dsimp only [List.map_cons, mSh] at k1 ⊢
      exact lv_lookup hx hb hd h1 rfl (mLk_ok (fun k off => (mPcAt cs i : Int) + off = ((mPcAt cs (mTgt en k) : Nat) : Int)) dflt z.toInt h0 ps.toList 1 (fun j hj => h2 j hj)) k1
    · cases hs
  · cases hs
end MSB
end
section
/-! the classes, their fields -/
def mW : List Cond := lw_tbl.filter goodWord
theorem mW_of {w : Cond} (i : Nat) (h : lw_tbl[i]? = some w) (hg : goodWord w = true) : w ∈ mW := List.mem_filter.mpr ⟨List.mem_of_getElem? h, hg⟩
def mT0 : u_T := fun k => match k with
  | 0 => ("FirstLanding", "rows", "[LFirstLanding$Row;", true)
  | 1 => ("FirstLanding", "texts", "[LFirstLanding$Text;", true)
  | 2 => ("FirstLanding", "now", "LFirstLanding$Embassy;", true)
  | 3 => ("FirstLanding", "kept", "[LFirstLanding$Embassy;", true)
  | 4 => ("FirstLanding", "reader", "LFirstLanding$Reader;", true)
  | 5 => ("FirstLanding", "walk", "LFirstLanding$Walk;", true)
  | 6 => ("FirstLanding", "planned", "LFirstLanding$Meetings;", true)
  | 7 => ("FirstLanding", "timesFound", "[I", true)
  | 8 => ("FirstLanding", "lastFinding", "I", false)
  | 9 => ("FirstLanding", "lastAsked", "I", false)
  | 10 => ("FirstLanding", "toldUpper", "J", false)
  | _ => ("FirstLanding", "toldLower", "J", false)
def mTy0 : Nat → FieldType := fun k => match k with
  | 0 => .array (.object "FirstLanding$Row")
  | 1 => .array (.object "FirstLanding$Text")
  | 2 => .object "FirstLanding$Embassy"
  | 3 => .array (.object "FirstLanding$Embassy")
  | 4 => .object "FirstLanding$Reader"
  | 5 => .object "FirstLanding$Walk"
  | 6 => .object "FirstLanding$Meetings"
  | 7 => .array .int
  | 8 => .int
  | 9 => .int
  | 10 => .long
  | _ => .long
def mT1 : u_T := fun k => match k with
  | 0 => ("FirstLanding$Embassy", "kinds", "[I", true)
  | 1 => ("FirstLanding$Embassy", "looks", "[I", true)
  | 2 => ("FirstLanding$Embassy", "deeds", "[I", true)
  | 3 => ("FirstLanding$Embassy", "people", "I", false)
  | 4 => ("FirstLanding$Embassy", "up", "I", false)
  | 5 => ("FirstLanding$Embassy", "done", "I", false)
  | _ => ("FirstLanding$Embassy", "treaties", "J", false)
def mTy1 : Nat → FieldType := fun k => match k with
  | 0 => .array .int
  | 1 => .array .int
  | 2 => .array .int
  | 3 => .int
  | 4 => .int
  | 5 => .int
  | _ => .long
def mT2 : u_T := fun k => match k with
  | 0 => ("FirstLanding$Reader", "draft", "LFirstLanding$Embassy;", true)
  | _ => ("FirstLanding$Reader", "place", "I", false)
def mTy2 : Nat → FieldType := fun k => match k with
  | 0 => .object "FirstLanding$Embassy"
  | _ => .int
def mT3 : u_T := fun k => match k with
  | 0 => ("FirstLanding$Walk", "agreed", "[I", true)
  | 1 => ("FirstLanding$Walk", "queue", "[I", true)
  | 2 => ("FirstLanding$Walk", "reached", "[I", true)
  | _ => ("FirstLanding$Walk", "firstStep", "I", false)
def mTy3 : Nat → FieldType := fun k => match k with
  | 0 => .array .int
  | 1 => .array .int
  | 2 => .array .int
  | _ => .int
def mT4 : u_T := fun k => match k with
  | 0 => ("FirstLanding$Meetings", "least", "[I", true)
  | _ => ("FirstLanding$Meetings", "before", "[I", true)
def mTy4 : Nat → FieldType := fun k => match k with
  | 0 => .array .int
  | _ => .array .int
def mT5 : u_T := fun k => match k with
  | 0 => ("FirstLanding$Row", "places", "[I", true)
  | _ => ("FirstLanding$Row", "size", "I", false)
def mTy5 : Nat → FieldType := fun k => match k with
  | 0 => .array .int
  | _ => .int
def mT6 : u_T := fun k => match k with
  | 0 => ("FirstLanding$Text", "signs", "[B", true)
  | _ => ("FirstLanding$Text", "size", "I", false)
def mTy6 : Nat → FieldType := fun k => match k with
  | 0 => .array .byte
  | _ => .int
def mT7 : u_T := fun k => match k with
  | 0 => ("FirstLandingModel", "rowSizes", "[I", true)
  | 1 => ("FirstLandingModel", "rows", "[I", true)
  | 2 => ("FirstLandingModel", "textSizes", "[I", true)
  | 3 => ("FirstLandingModel", "texts", "[I", true)
  | 4 => ("FirstLandingModel", "now", "[I", true)
  | 5 => ("FirstLandingModel", "read", "[I", true)
  | 6 => ("FirstLandingModel", "keeps", "[I", true)
  | 7 => ("FirstLandingModel", "kept", "[Z", true)
  | 8 => ("FirstLandingModel", "asked", "I", false)
  | 9 => ("FirstLandingModel", "upper", "J", false)
  | 10 => ("FirstLandingModel", "lower", "J", false)
  | 11 => ("FirstLandingModel", "finding", "I", false)
  | 12 => ("FirstLandingModel", "findings", "[I", true)
  | 13 => ("FirstLandingModel", "place", "I", false)
  | 14 => ("FirstLandingModel", "firstPair", "I", false)
  | 15 => ("FirstLandingModel", "far", "[I", true)
  | 16 => ("FirstLandingModel", "agreed", "[I", true)
  | 17 => ("FirstLandingModel", "unmetOnes", "[I", true)
  | 18 => ("FirstLandingModel", "ups", "[I", true)
  | 19 => ("FirstLandingModel", "tried", "[I", true)
  | _ => ("FirstLandingModel", "best", "[I", true)
def mTy7 : Nat → FieldType := fun k => match k with
  | 0 => .array .int
  | 1 => .array .int
  | 2 => .array .int
  | 3 => .array .int
  | 4 => .array .int
  | 5 => .array .int
  | 6 => .array .int
  | 7 => .array .boolean
  | 8 => .int
  | 9 => .long
  | 10 => .long
  | 11 => .int
  | 12 => .array .int
  | 13 => .int
  | 14 => .int
  | 15 => .array .int
  | 16 => .array .int
  | 17 => .array .int
  | 18 => .array .int
  | 19 => .array .int
  | _ => .array .int
def mCl : List vw_C := [("FirstLanding", mT0, 12), ("FirstLanding$Embassy", mT1, 7), ("FirstLanding$Reader", mT2, 2), ("FirstLanding$Walk", mT3, 4), ("FirstLanding$Meetings", mT4, 2), ("FirstLanding$Row", mT5, 2), ("FirstLanding$Text", mT6, 2), ("FirstLandingModel", mT7, 21)]
def mFT : Nat → Nat → FieldType := fun c => match c with
  | 0 => mTy0
  | 1 => mTy1
  | 2 => mTy2
  | 3 => mTy3
  | 4 => mTy4
  | 5 => mTy5
  | 6 => mTy6
  | _ => mTy7
def mTagTy : Nat → FieldType := fun t => match t with
  | 50 => .int
  | 51 => .byte
  | 52 => .boolean
  | 53 => .object "FirstLanding$Row"
  | 54 => .object "FirstLanding$Text"
  | _ => .object "FirstLanding$Embassy"
def mTys (cA : Nat → ClassId) : List (ClassId × FieldType) := [(cA 50, .int), (cA 51, .byte), (cA 52, .boolean), (cA 53, .object "FirstLanding$Row"), (cA 54, .object "FirstLanding$Text"), (cA 55, .object "FirstLanding$Embassy")]
theorem mIn0 : ∀ w ∈ u_ws "FirstLanding" mT0 12, w ∈ mW := by
  intro w hw
  refine List.mem_filter.mpr ⟨?_, ?_⟩
  · exact (show ∀ w ∈ u_ws "FirstLanding" mT0 12, w ∈ lw_tbl by decide +kernel) w hw
  · exact (show ∀ w ∈ u_ws "FirstLanding" mT0 12, goodWord w = true by decide +kernel) w hw
theorem mNm0 : ∀ a, a < 12 → ∀ b, b < 12 → a ≠ b → (mT0 a).2.1 ≠ (mT0 b).2.1 := by decide +kernel
theorem mPf0 : ∀ k, k < 12 → parseFieldDescriptor (mT0 k).2.2.1 = some (mTy0 k) := by decide +kernel
theorem mIn1 : ∀ w ∈ u_ws "FirstLanding$Embassy" mT1 7, w ∈ mW := by
  intro w hw
  refine List.mem_filter.mpr ⟨?_, ?_⟩
  · exact (show ∀ w ∈ u_ws "FirstLanding$Embassy" mT1 7, w ∈ lw_tbl by decide +kernel) w hw
  · exact (show ∀ w ∈ u_ws "FirstLanding$Embassy" mT1 7, goodWord w = true by decide +kernel) w hw
theorem mNm1 : ∀ a, a < 7 → ∀ b, b < 7 → a ≠ b → (mT1 a).2.1 ≠ (mT1 b).2.1 := by decide +kernel
theorem mPf1 : ∀ k, k < 7 → parseFieldDescriptor (mT1 k).2.2.1 = some (mTy1 k) := by decide +kernel
theorem mIn2 : ∀ w ∈ u_ws "FirstLanding$Reader" mT2 2, w ∈ mW := by
  intro w hw
  refine List.mem_filter.mpr ⟨?_, ?_⟩
  · exact (show ∀ w ∈ u_ws "FirstLanding$Reader" mT2 2, w ∈ lw_tbl by decide +kernel) w hw
  · exact (show ∀ w ∈ u_ws "FirstLanding$Reader" mT2 2, goodWord w = true by decide +kernel) w hw
theorem mNm2 : ∀ a, a < 2 → ∀ b, b < 2 → a ≠ b → (mT2 a).2.1 ≠ (mT2 b).2.1 := by decide +kernel
theorem mPf2 : ∀ k, k < 2 → parseFieldDescriptor (mT2 k).2.2.1 = some (mTy2 k) := by decide +kernel
theorem mIn3 : ∀ w ∈ u_ws "FirstLanding$Walk" mT3 4, w ∈ mW := by
  intro w hw
  refine List.mem_filter.mpr ⟨?_, ?_⟩
  · exact (show ∀ w ∈ u_ws "FirstLanding$Walk" mT3 4, w ∈ lw_tbl by decide +kernel) w hw
  · exact (show ∀ w ∈ u_ws "FirstLanding$Walk" mT3 4, goodWord w = true by decide +kernel) w hw
theorem mNm3 : ∀ a, a < 4 → ∀ b, b < 4 → a ≠ b → (mT3 a).2.1 ≠ (mT3 b).2.1 := by decide +kernel
theorem mPf3 : ∀ k, k < 4 → parseFieldDescriptor (mT3 k).2.2.1 = some (mTy3 k) := by decide +kernel
theorem mIn4 : ∀ w ∈ u_ws "FirstLanding$Meetings" mT4 2, w ∈ mW := by
  intro w hw
  refine List.mem_filter.mpr ⟨?_, ?_⟩
  · exact (show ∀ w ∈ u_ws "FirstLanding$Meetings" mT4 2, w ∈ lw_tbl by decide +kernel) w hw
  · exact (show ∀ w ∈ u_ws "FirstLanding$Meetings" mT4 2, goodWord w = true by decide +kernel) w hw
theorem mNm4 : ∀ a, a < 2 → ∀ b, b < 2 → a ≠ b → (mT4 a).2.1 ≠ (mT4 b).2.1 := by decide +kernel
theorem mPf4 : ∀ k, k < 2 → parseFieldDescriptor (mT4 k).2.2.1 = some (mTy4 k) := by decide +kernel
theorem mIn5 : ∀ w ∈ u_ws "FirstLanding$Row" mT5 2, w ∈ mW := by
  intro w hw
  refine List.mem_filter.mpr ⟨?_, ?_⟩
  · exact (show ∀ w ∈ u_ws "FirstLanding$Row" mT5 2, w ∈ lw_tbl by decide +kernel) w hw
  · exact (show ∀ w ∈ u_ws "FirstLanding$Row" mT5 2, goodWord w = true by decide +kernel) w hw
theorem mNm5 : ∀ a, a < 2 → ∀ b, b < 2 → a ≠ b → (mT5 a).2.1 ≠ (mT5 b).2.1 := by decide +kernel
theorem mPf5 : ∀ k, k < 2 → parseFieldDescriptor (mT5 k).2.2.1 = some (mTy5 k) := by decide +kernel
theorem mIn6 : ∀ w ∈ u_ws "FirstLanding$Text" mT6 2, w ∈ mW := by
  intro w hw
  refine List.mem_filter.mpr ⟨?_, ?_⟩
  · exact (show ∀ w ∈ u_ws "FirstLanding$Text" mT6 2, w ∈ lw_tbl by decide +kernel) w hw
  · exact (show ∀ w ∈ u_ws "FirstLanding$Text" mT6 2, goodWord w = true by decide +kernel) w hw
theorem mNm6 : ∀ a, a < 2 → ∀ b, b < 2 → a ≠ b → (mT6 a).2.1 ≠ (mT6 b).2.1 := by decide +kernel
theorem mPf6 : ∀ k, k < 2 → parseFieldDescriptor (mT6 k).2.2.1 = some (mTy6 k) := by decide +kernel
theorem mIn7 : ∀ w ∈ u_ws "FirstLandingModel" mT7 21, w ∈ mW := by
  intro w hw
  refine List.mem_filter.mpr ⟨?_, ?_⟩
  · exact (show ∀ w ∈ u_ws "FirstLandingModel" mT7 21, w ∈ lw_tbl by decide +kernel) w hw
  · exact (show ∀ w ∈ u_ws "FirstLandingModel" mT7 21, goodWord w = true by decide +kernel) w hw
theorem mNm7 : ∀ a, a < 21 → ∀ b, b < 21 → a ≠ b → (mT7 a).2.1 ≠ (mT7 b).2.1 := by decide +kernel
theorem mPf7 : ∀ k, k < 21 → parseFieldDescriptor (mT7 k).2.2.1 = some (mTy7 k) := by decide +kernel
theorem mCl_ok : ∀ (ci : Nat) (q : vw_C), mCl[ci]? = some q → (∀ w ∈ u_ws q.1 q.2.1 q.2.2, w ∈ mW) ∧ (∀ k, k < q.2.2 → parseFieldDescriptor (q.2.1 k).2.2.1 = some (mFT ci k)) ∧ (∀ a, a < q.2.2 → ∀ b, b < q.2.2 → a ≠ b → (q.2.1 a).2.1 ≠ (q.2.1 b).2.1) := by
  intro ci q hq
  match ci, hq with
  | 0, hq => cases hq; exact ⟨mIn0, mPf0, mNm0⟩
  | 1, hq => cases hq; exact ⟨mIn1, mPf1, mNm1⟩
  | 2, hq => cases hq; exact ⟨mIn2, mPf2, mNm2⟩
  | 3, hq => cases hq; exact ⟨mIn3, mPf3, mNm3⟩
  | 4, hq => cases hq; exact ⟨mIn4, mPf4, mNm4⟩
  | 5, hq => cases hq; exact ⟨mIn5, mPf5, mNm5⟩
  | 6, hq => cases hq; exact ⟨mIn6, mPf6, mNm6⟩
  | 7, hq => cases hq; exact ⟨mIn7, mPf7, mNm7⟩
  | k + 8, hq => simp [mCl] at hq
end
section
/-! the heap of the small machine, and the machine's -/
def mOk (D : va_G) (cA : Nat → ClassId) (f : Value → Value) (a : Nat) (q : mC) (H : Heap) : Prop :=
  (q.1 < 50 → ∃ r : vw_C, mCl[q.1]? = some r ∧ q.2.length = r.2.2 ∧ t_OB a (D.1 q.1) r.2.2 (D.2 q.1) H (fun k => f (vp_V q.2 k))) ∧
  (¬ q.1 < 50 → H[a]? = some (arrV (cA q.1) q.2.length (fun j => f (vp_V q.2 j))))
def mRel (D : va_G) (cA : Nat → ClassId) (b : Nat) (x : Nat → Nat) (h : mH) (H : Heap) : Prop := H.size = b + h.length ∧ ∀ (k : Nat) (q : mC), h[k]? = some q → mOk D cA (mSh b x) (b + k) q H
theorem mOk.kept {D : va_G} {cA : Nat → ClassId} {f : Value → Value} {a : Nat} {q : mC} {H H1 : Heap} (h : mOk D cA f a q H) (e : H1[a]? = H[a]?) : mOk D cA f a q H1 := by
  refine ⟨fun hq => ?_, fun hq => ?_⟩
  · obtain ⟨r, h1, h2, h3⟩ := h.1 hq
    exact ⟨r, h1, h2, h3.kept e⟩
  · rw [e]; exact h.2 hq
theorem mRel.set {D : va_G} {cA : Nat → ClassId} {b : Nat} {x : Nat → Nat} {h : mH} {H H1 : Heap} {k : Nat} {q : mC} (hR : mRel D cA b x h H) (z : H1.size = H.size) (o : ∀ j : Nat, j ≠ b + k → H1[j]? = H[j]?) (hk : mOk D cA (mSh b x) (b + k) q H1) : mRel D cA b x (h.set k q) H1 := by
  refine ⟨by rw [z, hR.1, List.length_set], fun j p hj => ?_⟩
  by_cases e : j = k
  · subst e
    rw [List.getElem?_set] at hj
    simp only [if_true] at hj
    split at hj
    · cases hj; exact hk
    · cases hj
  · rw [List.getElem?_set_ne (Ne.symm e)] at hj
    exact (hR.2 j p hj).kept (o _ (by omega))
theorem mRel.push {D : va_G} {cA : Nat → ClassId} {b : Nat} {x : Nat → Nat} {h : mH} {H H1 : Heap} {q : mC} (hR : mRel D cA b x h H) (z : H1.size = H.size + 1) (o : ∀ j : Nat, j < H.size → H1[j]? = H[j]?) (hk : mOk D cA (mSh b x) (b + h.length) q H1) : mRel D cA b x (h ++ [q]) H1 := by
  refine ⟨by rw [z, hR.1]; simp; omega, fun j p hj => ?_⟩
  by_cases e : j < h.length
  · rw [List.getElem?_append_left e] at hj
    exact (hR.2 j p hj).kept (o _ (by rw [hR.1]; omega))
  · rw [List.getElem?_append_right (by omega)] at hj
    have h1 : j - h.length < 1 := (List.getElem?_eq_some_iff.mp hj).1
    have h2 : j = h.length := by omega
    subst h2
    rw [Nat.sub_self] at hj
    cases hj
    exact hk
theorem mV_set {vs : List Value} {k : Nat} (hk : k < vs.length) (f : Value → Value) (v : Value) (j : Nat) : updV (fun i => f (vp_V vs i)) k (f v) j = f (vp_V (vs.set k v) j) := by
  unfold updV vp_V
  by_cases e : j = k
  · subst e
    simp [hk]
  · simp [e, List.getElem?_set_ne (Ne.symm e)]
theorem mV_map {vs : List Value} {f : Value → Value} {k : Nat} (hk : k < vs.length) : f (vp_V vs k) = vp_V (vs.map f) k := by
  unfold vp_V
  simp [hk]
def mFit (ty : FieldType) (v : Value) : Bool := match ty with
  | .int => mIsI v
  | .long => mIsJ v
  | .object _ => mIsA v
  | .array _ => mIsA v
  | _ => false
theorem mFit_ok {ty : FieldType} {v : Value} (b : Nat) (x : Nat → Nat) (h : mFit ty v = true) : narrow ty (mSh b x v) = mSh b x v ∧ fits ty (mSh b x v) = true := by
  cases ty <;> cases v <;> first | exact ⟨rfl, rfl⟩ | cases h
def mHas (wi : Nat) (w : Cond) : Bool := decide (lw_tbl[wi]? = some w) && goodWord w
theorem mHas_ok {wi : Nat} {w : Cond} (h : mHas wi w = true) : w ∈ mW := by
  unfold mHas at h
  rw [Bool.and_eq_true] at h
  exact mW_of wi (of_decide_eq_true h.1) h.2
def mNest : Cond → Bool
  | .fieldLinkNest .. => true
  | .methodLinkNest .. => true
  | _ => false
/-- words on nest mates: carried beside the others -/
def mWN : List Cond := lw_tbl.filter mNest
def mHasN (wi : Nat) (w : Cond) : Bool := decide (lw_tbl[wi]? = some w) && mNest w
theorem mHasN_ok {wi : Nat} {w : Cond} (h : mHasN wi w = true) : w ∈ mWN := by
  unfold mHasN at h
  rw [Bool.and_eq_true] at h
  exact List.mem_filter.mpr ⟨List.mem_of_getElem? (of_decide_eq_true h.1), h.2⟩
theorem mWN_warm {s U : State} (hW : s.WarmedH U.vm) (h : ∀ w ∈ mWN, va_Nw w s) : ∀ w ∈ mWN, va_Nw w U := by
  intro w hw
  have h1 := h w hw
  have h2 := (List.mem_filter.mp hw).2
  cases w <;> first | exact va_Nw.warmF hW h1 | exact va_Nw.warmM hW h1 | cases h2
theorem mWN_same {s U : State} (hv : s.vm = U.vm) (h : ∀ w ∈ mWN, va_Nw w s) : ∀ w ∈ mWN, va_Nw w U := by
  intro w hw
  have h1 := h w hw
  have h2 := (List.mem_filter.mp hw).2
  cases w <;> first | exact va_tabs rfl hv h1 | cases h2
/-- fields -/
def mF1 (en : mE) (i : Nat) (L : mL) (st : List Value) (h : mH) : Option mG := match en.2.1 with
  | .getfield _ => match st with
    | .ref a :: r => match h[a]? with
      | some q => if q.1 = mTgt en 1 then (match q.2[mTgt en 2]? with
        | some v => some (i + 1, L, v :: r, h)
        | none => none) else none
      | none => none
    | _ => none
  | .putfield _ => match st with
    | v :: .ref a :: r => match h[a]? with
      | some q => if q.1 = mTgt en 1 ∧ mTgt en 2 < q.2.length ∧ mFit (mFT q.1 (mTgt en 2)) v = true then some (i + 1, L, r, h.set a (q.1, q.2.set (mTgt en 2) v)) else none
      | none => none
    | _ => none
  | _ => none
def mLnkF (own : String) (ini : Bool) (en : mE) : Bool := match en.2.1 with
  | .getfield idx => match mCl[mTgt en 1]? with
    | some r => decide (mTgt en 1 < 50) && (decide (mTgt en 2 < r.2.2) && (decide ((r.2.1 (mTgt en 2)).1 = r.1) && (if mTgt en 3 = 0 then mHas (mTgt en 4) (.fieldLink own idx r.1 (r.2.1 (mTgt en 2)).2.1 (r.2.1 (mTgt en 2)).2.2.1) else mHasN (mTgt en 4) (.fieldLinkNest own idx r.1 (r.2.1 (mTgt en 2)).2.1 (r.2.1 (mTgt en 2)).2.2.1 "FirstLanding"))))
    | none => false
  | .putfield idx => match mCl[mTgt en 1]? with
    | some r => decide (mTgt en 1 < 50) && (decide (mTgt en 2 < r.2.2) && (decide ((r.2.1 (mTgt en 2)).1 = r.1) && (if (r.2.1 (mTgt en 2)).2.2.2 = true then decide (ini = true ∧ r.1 = own) && mHas (mTgt en 4) (.fieldLink own idx r.1 (r.2.1 (mTgt en 2)).2.1 (r.2.1 (mTgt en 2)).2.2.1) else if mTgt en 3 = 0 then mHas (mTgt en 4) (.fieldLink own idx r.1 (r.2.1 (mTgt en 2)).2.1 (r.2.1 (mTgt en 2)).2.2.1) else mHasN (mTgt en 4) (.fieldLinkNest own idx r.1 (r.2.1 (mTgt en 2)).2.1 (r.2.1 (mTgt en 2)).2.2.1 "FirstLanding"))))
    | none => false
  | _ => true
section MSF
variable {p : Program} {l : Launch} {e : Env} {R : Room} {s : State} {m : MethodId} {args : Array Value} {below : List Frame} {meth : Method} {c : Code} {H : Heap} {locs : List Loc} {cells slots : Nat} {Q : State → Prop}
variable {cc : ByteArray} {cs : List mE} {b : Nat} {x : Nat → Nat} {en : mE} {i : Nat} {L : mL} {st : List Value} {h : mH} {g : mG} {D : va_G} {cA : Nat → ClassId} {own : String} {ini : Bool}
set_option maxHeartbeats 4000000 in
theorem mF1_sim (hx : p.tables.exec = Jvm.exec) (hb : c.code = cc) (hown : s.vm.findClass own = some m.cls) (hin : ini = true → meth.name = "<init>") (hts : ∀ w ∈ mW, w.before args s = true) (hK : va_K D mCl (mTys cA) s) (hN : ∀ w ∈ mWN, va_Nw w s) (hR : mRel D cA b x h H) (hS : va_S (fun q => b ≤ q) s.heap H locs)
    (hd : decode cc (mPcAt cs i) = .ok (en.2.1, mLen en.2.1)) (hf : mPcAt cs (i + 1) = mPcAt cs i + mLen en.2.1) (hlk : mLnkF own ini en = true)
    (hs : mF1 en i L st h = some g) (kk : ∀ (H1 : Heap) (locs1 : List Loc), mRel D cA b x g.2.2.2 H1 → va_S (fun q => b ≤ q) s.heap H1 locs1 → mFol p l e R s m args below meth c cs (mSh b x) Q H1 locs1 cells slots g) : mFol p l e R s m args below meth c cs (mSh b x) Q H locs cells slots (i, L, st, h) ∧ g.2.2.2.length = h.length ∧ g.2.1.length = L.length := by
  unfold mF1 at hs
  split at hs
  · rename_i idx heq
    split at hs
    · rename_i a r
      split at hs
      · rename_i q hq
        split at hs
        · rename_i hc
          split at hs
          · rename_i v hv
            cases hs
            refine ⟨fun ls hl => ?_, rfl, rfl⟩
            have k1 := kk H locs hR hS ls hl
            dsimp only [List.map_cons, mSh] at k1 ⊢
            unfold mLnkF at hlk
            rw [heq] at hlk hd hf
            dsimp only at hlk
            rw [hf] at k1
            split at hlk
            · rename_i rr hrr
              simp only [Bool.and_eq_true, decide_eq_true_eq] at hlk
              obtain ⟨l0, l1, l2, l3⟩ := hlk
              obtain ⟨C, T, N⟩ := rr
              dsimp only at l1 l2 l3
              rw [← hc] at hrr l0
              obtain ⟨r1, g1, g2, g3⟩ := (hR.2 a q hq).1 l0
              cases hrr.symm.trans g1
              dsimp only at g2 g3
              have hk : mTgt en 2 < q.2.length := by rw [g2]; exact l1
              have hP : va_P D mCl [(b + a, .inr (q.1, q.2.map (mSh b x)))] H := by
                intro k z hz
                have hz1 : k < 1 := (List.getElem?_eq_some_iff.mp hz).1
                have hz2 : k = 0 := by omega
                subst hz2
                cases hz
                exact ⟨_, g1, g3.to (fun j hj => mV_map (by rw [g2]; exact hj))⟩
              have hvv : (q.2.map (mSh b x))[mTgt en 2]? = some (mSh b x v) := by rw [List.getElem?_map, hv]; rfl
              split at l3
              · refine va_get (own := own) (ref := C) (C := C) (T := T) (N := N) (ci := q.1) hx hb hts (mCl_ok _ _ g1).1 hown hK hP 0 rfl g1 (mTgt en 2) l1 (hts _ (mHas_ok l3)) (fun z hz => by rw [← hz, l2]) hvv hd ?_
                exact k1
              · refine va_getN (own := own) (ref := C) (C := C) (T := T) (N := N) (ci := q.1) hx hb hts (mCl_ok _ _ g1).1 hown hK hP 0 rfl g1 (mTgt en 2) l1 (va_Nw.use rfl (hN _ (mHasN_ok l3))) (fun z hz => by rw [← hz, l2]) hvv hd ?_
                exact k1
            · cases hlk
          · cases hs
        · cases hs
      · cases hs
    · cases hs
  · rename_i idx heq
    split at hs
    · rename_i v a r
      split at hs
      · rename_i q hq
        split at hs
        · rename_i hc
          obtain ⟨hc, hkl, hft⟩ := hc
          cases hs
          refine ⟨fun ls hl => ?_, by simp, rfl⟩
          dsimp only at kk hl ⊢
          show W p l e R s m args below meth c H locs cells slots Q (F0 m (mPcAt cs i) ls (mSh b x v :: .ref (b + a) :: r.map (mSh b x)))
          unfold mLnkF at hlk
          rw [heq] at hlk hd hf
          dsimp only at hlk
          split at hlk
          · rename_i rr hrr
            simp only [Bool.and_eq_true, decide_eq_true_eq] at hlk
            obtain ⟨l0, l1, l2, l3⟩ := hlk
            obtain ⟨C, T, N⟩ := rr
            dsimp only at l1 l2 l3
            rw [← hc] at hrr l0
            obtain ⟨r1, g1, g2, cell, q1, q2, q3, q4⟩ := (hR.2 a q hq).1 l0
            cases hrr.symm.trans g1
            dsimp only at g2 q4
            obtain ⟨o1, o2, o3⟩ := mCl_ok _ _ g1
            dsimp only at o1 o2 o3
            have hap := va_apart (own := own) hts o1 (mFT q.1) o2 o3 hK g1
            obtain ⟨hS1, hfc, kC, hkC, hkind⟩ := hK.1 q.1 _ g1
            obtain ⟨cf, kf, fi, fd, hi, hsl⟩ := hS1 (mTgt en 2) l1
            have hst := (u_facts hfc hkC (u_lays hts o1 l1) hi).1
            obtain ⟨n1, n2⟩ := mFit_ok b x hft
            have hi2 : s.fieldFound? C (T (mTgt en 2)).2.1 (T (mTgt en 2)).2.2.1 = some (cf, kf, fi, fd) := by rw [← l2]; exact hi
            have fin : ∀ H1 : Heap, H1[b + a]? = some (cell.setSlot fd.slot (mSh b x v)) → H1.size = H.size → (∀ j : Nat, j ≠ b + a → H1[j]? = H[j]?) → W p l e R s m args below meth c H1 (locs ++ [⟨b + a, fd.slot⟩]) cells slots Q (F0 m (mPcAt cs i + 3) ls (r.map (mSh b x))) := by
              intro H1 e1 e2 e3
              have k1 := kk H1 (locs ++ [⟨b + a, fd.slot⟩]) (hR.set e2 e3 ⟨fun _ => ⟨_, g1, by simp [g2], by
                refine t_OB.to (V := updV (fun k => mSh b x (vp_V q.2 k)) (mTgt en 2) (mSh b x v)) ⟨_, e1, q2, q3, ?_⟩ (fun j _ => mV_set hkl (mSh b x) v j)
                rw [hsl]
                exact t_set q4 hap l1 (mSh b x v)⟩, fun z => absurd l0 z⟩) (hS.put e2 e3 (Nat.le_add_right _ _)) ls hl
              dsimp only at k1
              rw [hf] at k1
              exact k1
            have hlt : fd.slot < cell.slots.size := by rw [hsl]; exact k2_hasslot (q4 (mTgt en 2) l1)
            split at l3
            · rename_i hfin
              rw [Bool.and_eq_true, decide_eq_true_eq] at l3
              obtain ⟨⟨l4, l5⟩, l6⟩ := l3
              have hlay := hts _ (o1 _ (u_in_lay l1))
              unfold u_lay at hlay
              rw [if_pos hfin] at hlay
              have hcf : m.cls = cf := by
                obtain ⟨_, _, c', _, _, _, -, -, hf', -, -, -, hown2, -⟩ := Cond.laysFinal_spec hlay
                have e1 : c' = cf := by have := hi.symm.trans hf'; simp at this; exact this.1.symm
                rw [l2, l5] at hown2
                rw [← e1]; exact Option.some.inj (hown.symm.trans hown2)
              have h6 := u_fits hfc hkC hkind (Or.inr hlay) hi (o2 _ l1) n1 n2
              exact W.putFinK hx hb hown (hts _ (mHas_ok l6)) hi2 hst hcf (hin l4) (by rw [q2]; exact h6) q1 q3 hlt rfl rfl hd fin
            · rename_i hfin
              have hlay := hts _ (o1 _ (u_in_lay l1))
              unfold u_lay at hlay
              rw [if_neg hfin] at hlay
              have h6 := u_store hfc hkC hkind hlay hi (o2 _ l1) n1 n2
              split at l3
              · exact W.putK hx hb (f := fd) ⟨hown, hts _ (mHas_ok l3), ⟨_, _, _, hi2⟩, hst⟩ (by rw [q2]; exact h6) q1 q3 hlt rfl rfl hd fin
              · exact va_WputK hx hb (f := fd) hown (va_Nw.use rfl (hN _ (mHasN_ok l3))) hi2 hst (by rw [q2]; exact h6) q1 q3 hlt rfl rfl hd fin
          · cases hlk
        · cases hs
      · cases hs
    · cases hs
  · cases hs
end MSF
end
section
/-! arrays -/
def mEv (D : va_G) (cA : Nat → ClassId) (b : Nat) (x : Nat → Nat) (xs : Nat → List Int32) (U : State) : Prop :=
  va_K D mCl (mTys cA) U ∧ (∀ n, n < 3 → va_T .int (x n) (xs n).length (fun j => .int ((xs n).getD j 0)) (fun q => b ≤ q) U U.heap) ∧
  va_Z "FirstLanding$Kind" "LETTERS" "[I" (.ref (x 1)) (fun q => b ≤ q) U U.heap ∧ va_Z "FirstLanding$Kind" "PARENTS" "[I" (.ref (x 2)) (fun q => b ≤ q) U U.heap ∧
  (∀ w ∈ mWN, va_Nw w U) ∧ (va_AO "FirstLanding$Row" U ∧ va_AO "FirstLanding$Text" U ∧ va_AO "FirstLanding$Embassy" U)
theorem mEv.to {D : va_G} {cA : Nat → ClassId} {b : Nat} {x : Nat → Nat} {xs : Nat → List Int32} {s U : State} (h : mEv D cA b x xs s) (hN : ∀ w ∈ mWN, va_Nw w U) (hA : s.vm.Alike U.vm) (hh : ∀ a : Nat, a < s.heap.size → ¬ (fun q => b ≤ q) a → U.heap[a]? = s.heap[a]?) : mEv D cA b x xs U :=
  ⟨h.1.moved hA, fun n hn => ((h.2.1 n hn).moved hA).kept hh, (h.2.2.1.moved hA).kept hh, (h.2.2.2.1.moved hA).kept hh, hN, h.2.2.2.2.2.1.moved hA, h.2.2.2.2.2.2.1.moved hA, h.2.2.2.2.2.2.2.moved hA⟩
def mIx (j : Int32) (n : Nat) : Bool := decide (¬ (j < 0 ∨ n ≤ j.toNatClampNeg))
def mF2 (xs : Nat → List Int32) (en : mE) (i : Nat) (L : mL) (st : List Value) (h : mH) : Option mG := match en.2.1 with
  | .getstatic _ => if mTgt en 1 = 1 ∨ mTgt en 1 = 2 then some (i + 1, L, .retAddr (mTgt en 1) :: st, h) else none
  | .arraylength => match st with
    | .ref a :: r => match h[a]? with
      | some q => if 50 ≤ q.1 ∧ q.1 < 56 then some (i + 1, L, .int (Int32.ofNat q.2.length) :: r, h) else none
      | none => none
    | .retAddr n :: r => if n < 3 then some (i + 1, L, .int (Int32.ofNat (xs n).length) :: r, h) else none
    | _ => none
  | .iaload => match st with
    | .int j :: .ref a :: r => match h[a]? with
      | some q => if q.1 = 50 ∧ mIx j q.2.length = true then (match q.2[j.toNatClampNeg]? with
        | some v => some (i + 1, L, v :: r, h)
        | none => none) else none
      | none => none
    | .int j :: .retAddr n :: r => if n < 3 ∧ mIx j (xs n).length = true then some (i + 1, L, .int ((xs n).getD j.toNatClampNeg 0) :: r, h) else none
    | _ => none
  | .baload => match st with
    | .int j :: .ref a :: r => match h[a]? with
      | some q => if (q.1 = 51 ∨ q.1 = 52) ∧ mIx j q.2.length = true then (match q.2[j.toNatClampNeg]? with
        | some v => some (i + 1, L, v :: r, h)
        | none => none) else none
      | none => none
    | _ => none
  | .aaload => match st with
    | .int j :: .ref a :: r => match h[a]? with
      | some q => if (53 ≤ q.1 ∧ q.1 < 56) ∧ mIx j q.2.length = true then (match q.2[j.toNatClampNeg]? with
        | some v => some (i + 1, L, v :: r, h)
        | none => none) else none
      | none => none
    | _ => none
  | _ => none
def mElC (t : Nat) : Nat := if t = 53 then 5 else if t = 54 then 6 else 1
def mF3 (en : mE) (i : Nat) (L : mL) (st : List Value) (h : mH) : Option mG := match en.2.1 with
  | .iastore => match st with
    | .int v :: .int j :: .ref a :: r => match h[a]? with
      | some q => if q.1 = 50 ∧ mIx j q.2.length = true then some (i + 1, L, r, h.set a (q.1, q.2.set j.toNatClampNeg (.int v))) else none
      | none => none
    | _ => none
  | .bastore => match st with
    | .int v :: .int j :: .ref a :: r => match h[a]? with
      | some q => if q.1 = 51 ∧ mIx j q.2.length = true then some (i + 1, L, r, h.set a (q.1, q.2.set j.toNatClampNeg (.int v.toInt8.toInt32))) else if q.1 = 52 ∧ mIx j q.2.length = true then some (i + 1, L, r, h.set a (q.1, q.2.set j.toNatClampNeg (.int (v &&& 1)))) else none
      | none => none
    | _ => none
  | .aastore => match st with
    | .ref w :: .int j :: .ref a :: r => match h[a]? with
      | some q => match h[w]? with
        | some q2 => if (53 ≤ q.1 ∧ q.1 < 56) ∧ mIx j q.2.length = true ∧ q2.1 = mElC q.1 then some (i + 1, L, r, h.set a (q.1, q.2.set j.toNatClampNeg (.ref w))) else none
        | none => none
      | none => none
    | _ => none
  | _ => none
theorem mTy_at (cA : Nat → ClassId) {t : Nat} (h1 : 50 ≤ t) (h2 : t < 56) : (mTys cA)[t - 50]? = some (cA t, mTagTy t) := by
  rcases (show t = 50 ∨ t = 51 ∨ t = 52 ∨ t = 53 ∨ t = 54 ∨ t = 55 by omega) with rfl | rfl | rfl | rfl | rfl | rfl <;> rfl
theorem mRel.arr {D : va_G} {cA : Nat → ClassId} {b : Nat} {x : Nat → Nat} {h : mH} {H : Heap} (hR : mRel D cA b x h H) {a : Nat} {q : mC} (hq : h[a]? = some q) (h1 : 50 ≤ q.1) : H[b + a]? = some (arrV (cA q.1) q.2.length (fun j => mSh b x (vp_V q.2 j))) := (hR.2 a q hq).2 (by omega)
theorem mRel.put {D : va_G} {cA : Nat → ClassId} {b : Nat} {x : Nat → Nat} {h : mH} {H H1 : Heap} (hR : mRel D cA b x h H) {a k : Nat} {q : mC} {v : Value} (h1 : 50 ≤ q.1) (hk : k < q.2.length) (e : H1[b + a]? = some ((arrV (cA q.1) q.2.length (fun j => mSh b x (vp_V q.2 j))).setSlot k (mSh b x v))) (z : H1.size = H.size) (o : ∀ j : Nat, j ≠ b + a → H1[j]? = H[j]?) : mRel D cA b x (h.set a (q.1, q.2.set k v)) H1 := by
  refine hR.set z o ⟨fun q0 => absurd q0 (by dsimp only; omega), fun _ => ?_⟩
  rw [e, arrV_store]
  dsimp only
  rw [List.length_set]
  congr 2
  funext j
  exact mV_set hk (mSh b x) v j
theorem mIx_ok {j : Int32} {n : Nat} (h : mIx j n = true) : ¬ (j < 0 ∨ n ≤ j.toNatClampNeg) := of_decide_eq_true h
theorem mIx_lt {j : Int32} {n : Nat} (h : mIx j n = true) : j.toNatClampNeg < n := Nat.not_le.mp fun q => (mIx_ok h) (Or.inr q)
def mLnkS (own : String) (en : mE) : Bool := match en.2.1 with
  | .getstatic idx => mHas (mTgt en 4) (.fieldLink own idx "FirstLanding$Kind" (if mTgt en 1 = 1 then "LETTERS" else "PARENTS") "[I")
  | _ => true
section MSR
variable {p : Program} {l : Launch} {e : Env} {R : Room} {s : State} {m : MethodId} {args : Array Value} {below : List Frame} {meth : Method} {c : Code} {H : Heap} {locs : List Loc} {cells slots : Nat} {Q : State → Prop}
variable {cc : ByteArray} {cs : List mE} {b : Nat} {x : Nat → Nat} {xs : Nat → List Int32} {en : mE} {i : Nat} {L : mL} {st : List Value} {h : mH} {g : mG} {D : va_G} {cA : Nat → ClassId} {own : String} {ini : Bool}
theorem mArr_in {q : mC} {j : Int32} (f : Nat → Value) (ca : ClassId) (h : mIx j q.2.length = true) : ¬ (j < 0 ∨ (arrV ca q.2.length f).slots.size ≤ j.toNatClampNeg) := by rw [arrV_size]; exact mIx_ok h
theorem mArr_rd {q : mC} {j : Int32} {v : Value} (f : Value → Value) (ca : ClassId) (hv : q.2[j.toNatClampNeg]? = some v) : (arrV ca q.2.length (fun k => f (vp_V q.2 k))).slots[j.toNatClampNeg]? = some (f v) := by
  rw [arrV_read _ _ (List.getElem?_eq_some_iff.mp hv).1]
  unfold vp_V
  rw [List.getD_eq_getElem?_getD, hv]
  rfl
set_option maxHeartbeats 4000000 in
theorem mF2_sim (hx : p.tables.exec = Jvm.exec) (hb : c.code = cc) (hown : s.vm.findClass own = some m.cls) (hts : ∀ w ∈ mW, w.before args s = true) (hE : mEv D cA b x xs s) (hR : mRel D cA b x h H) (hS : va_S (fun q => b ≤ q) s.heap H locs)
    (hd : decode cc (mPcAt cs i) = .ok (en.2.1, mLen en.2.1)) (hf : mPcAt cs (i + 1) = mPcAt cs i + mLen en.2.1) (hlk : mLnkS own en = true)
    (hs : mF2 xs en i L st h = some g) (kk : mFol p l e R s m args below meth c cs (mSh b x) Q H locs cells slots g) : mFol p l e R s m args below meth c cs (mSh b x) Q H locs cells slots (i, L, st, h) ∧ g.2.2.2 = h ∧ g.2.1.length = L.length := by
  obtain ⟨hK, hT, hZ1, hZ2, -, -⟩ := hE
  unfold mF2 at hs
  split at hs
  · rename_i idx heq
    split at hs
    · rename_i hc
      cases hs
      refine ⟨fun ls hl => ?_, rfl, rfl⟩
      have k1 := kk ls hl
      unfold mLnkS at hlk
      rw [heq] at hlk hd hf
      dsimp only [List.map_cons] at k1 hlk ⊢
      rw [hf] at k1
      rcases hc with hc | hc
      · rw [hc] at hlk k1
        exact va_gets hx hb hZ1 hS hown (hts _ (mHas_ok hlk)) (fun z hz => hz) hd k1
      · rw [hc] at hlk k1
        exact va_gets hx hb hZ2 hS hown (hts _ (mHas_ok hlk)) (fun z hz => hz) hd k1
    · cases hs
  · rename_i heq
    rw [heq] at hd hf
    split at hs
    · rename_i a r
      split at hs
      · rename_i q hq
        split at hs
        · rename_i hc
          cases hs
          refine ⟨fun ls hl => ?_, rfl, rfl⟩
          have k1 := kk ls hl
          dsimp only [List.map_cons, mSh] at k1 ⊢
          rw [hf] at k1
          exact W.alen hx hb (hR.arr hq hc.1) ((hK.2 _ _ (mTy_at cA hc.1 hc.2)).1 _ _) (by rw [arrV_size]) rfl rfl hd k1
        · cases hs
      · cases hs
    · rename_i n r
      split at hs
      · rename_i hn
        cases hs
        refine ⟨fun ls hl => ?_, rfl, rfl⟩
        have k1 := kk ls hl
        dsimp only [List.map_cons, mSh] at k1 ⊢
        rw [hf] at k1
        exact va_tlen hx hb (hT n hn) hS rfl hd k1
      · cases hs
    · cases hs
  · rename_i heq
    rw [heq] at hd hf
    split at hs
    · rename_i j a r
      split at hs
      · rename_i q hq
        split at hs
        · rename_i hc
          split at hs
          · rename_i v hv
            cases hs
            refine ⟨fun ls hl => ?_, rfl, rfl⟩
            have k1 := kk ls hl
            dsimp only [List.map_cons] at k1 ⊢
            rw [hf] at k1
            have hty := (hK.2 _ _ (mTy_at cA (t := q.1) (by omega) (by omega))).1 q.2.length (fun j => mSh b x (vp_V q.2 j))
            dsimp only at hty
            rw [show mTagTy q.1 = .int by rw [hc.1]; rfl] at hty
            exact W.iald hx hb (hR.arr hq (by omega)) hty (fun z => by cases z) (mArr_in _ _ hc.2) (mArr_rd (mSh b x) _ hv) rfl rfl hd k1
          · cases hs
        · cases hs
      · cases hs
    · rename_i j n r
      split at hs
      · rename_i hn
        cases hs
        refine ⟨fun ls hl => ?_, rfl, rfl⟩
        have k1 := kk ls hl
        dsimp only [List.map_cons, mSh] at k1 ⊢
        rw [hf] at k1
        exact va_ti hx hb (hT n hn.1) hS (mIx_ok hn.2) rfl hd k1
      · cases hs
    · cases hs
  · rename_i heq
    rw [heq] at hd hf
    split at hs
    · rename_i j a r
      split at hs
      · rename_i q hq
        split at hs
        · rename_i hc
          split at hs
          · rename_i v hv
            cases hs
            refine ⟨fun ls hl => ?_, rfl, rfl⟩
            have k1 := kk ls hl
            dsimp only [List.map_cons] at k1 ⊢
            rw [hf] at k1
            have hty := (hK.2 _ _ (mTy_at cA (t := q.1) (by omega) (by omega))).1 q.2.length (fun j => mSh b x (vp_V q.2 j))
            dsimp only at hty
            rcases hc.1 with e1 | e1
            · rw [show mTagTy q.1 = .byte by rw [e1]; rfl] at hty
              exact W.bald hx hb (hR.arr hq (by omega)) hty (fun z => by cases z) (mArr_in _ _ hc.2) (mArr_rd (mSh b x) _ hv) rfl rfl hd k1
            · rw [show mTagTy q.1 = .boolean by rw [e1]; rfl] at hty
              exact W.zald hx hb (hR.arr hq (by omega)) hty (fun z => by cases z) (mArr_in _ _ hc.2) (mArr_rd (mSh b x) _ hv) rfl rfl hd k1
          · cases hs
        · cases hs
      · cases hs
    · cases hs
  · rename_i heq
    rw [heq] at hd hf
    split at hs
    · rename_i j a r
      split at hs
      · rename_i q hq
        split at hs
        · rename_i hc
          split at hs
          · rename_i v hv
            cases hs
            refine ⟨fun ls hl => ?_, rfl, rfl⟩
            have k1 := kk ls hl
            dsimp only [List.map_cons] at k1 ⊢
            rw [hf] at k1
            have hty := (hK.2 _ _ (mTy_at cA (t := q.1) (by omega) (by omega))).1 q.2.length (fun j => mSh b x (vp_V q.2 j))
            dsimp only at hty
            have href : (mTagTy q.1).isReference = true := by
              rcases (show q.1 = 53 ∨ q.1 = 54 ∨ q.1 = 55 by omega) with e1 | e1 | e1 <;> rw [e1] <;> rfl
            exact W.aald hx hb (hR.arr hq (by omega)) hty href (fun z => by cases z) (mArr_in _ _ hc.2) (mArr_rd (mSh b x) _ hv) rfl rfl hd k1
          · cases hs
        · cases hs
      · cases hs
    · cases hs
  · cases hs
set_option maxHeartbeats 4000000 in
theorem mF3_sim (hx : p.tables.exec = Jvm.exec) (hb : c.code = cc) (hK : va_K D mCl (mTys cA) s) (hR : mRel D cA b x h H) (hS : va_S (fun q => b ≤ q) s.heap H locs)
    (hd : decode cc (mPcAt cs i) = .ok (en.2.1, mLen en.2.1)) (hf : mPcAt cs (i + 1) = mPcAt cs i + mLen en.2.1)
    (hs : mF3 en i L st h = some g) (kk : ∀ (H1 : Heap) (locs1 : List Loc), mRel D cA b x g.2.2.2 H1 → va_S (fun q => b ≤ q) s.heap H1 locs1 → mFol p l e R s m args below meth c cs (mSh b x) Q H1 locs1 cells slots g) : mFol p l e R s m args below meth c cs (mSh b x) Q H locs cells slots (i, L, st, h) ∧ g.2.2.2.length = h.length ∧ g.2.1.length = L.length := by
  unfold mF3 at hs
  split at hs
  · rename_i heq
    rw [heq] at hd hf
    split at hs
    · rename_i v j a r
      split at hs
      · rename_i q hq
        split at hs
        · rename_i hc
          cases hs
          refine ⟨fun ls hl => ?_, by simp, rfl⟩
          dsimp only at kk hl ⊢
          have hty := (hK.2 _ _ (mTy_at cA (t := q.1) (by omega) (by omega))).1 q.2.length (fun j => mSh b x (vp_V q.2 j))
          dsimp only at hty
          rw [show mTagTy q.1 = .int by rw [hc.1]; rfl] at hty
          refine W.iast hx hb (hR.arr hq (by omega)) hty (fun z => by cases z) (mArr_in _ _ hc.2) rfl rfl hd fun H1 e1 e2 e3 => ?_
          have k1 := kk H1 _ (hR.put (by omega) (mIx_lt hc.2) (v := .int v) e1 e2 e3) (hS.put (k := j.toNatClampNeg) e2 e3 (Nat.le_add_right _ _)) ls hl
          dsimp only at k1
          rw [hf] at k1
          exact k1
        · cases hs
      · cases hs
    · cases hs
  · rename_i heq
    rw [heq] at hd hf
    split at hs
    · rename_i v j a r
      split at hs
      · rename_i q hq
        split at hs
        · rename_i hc
          cases hs
          refine ⟨fun ls hl => ?_, by simp, rfl⟩
          dsimp only at kk hl ⊢
          have hty := (hK.2 _ _ (mTy_at cA (t := q.1) (by omega) (by omega))).1 q.2.length (fun j => mSh b x (vp_V q.2 j))
          dsimp only at hty
          rw [show mTagTy q.1 = .byte by rw [hc.1]; rfl] at hty
          refine W.bast hx hb (hR.arr hq (by omega)) hty (fun z => by cases z) (mArr_in _ _ hc.2) rfl rfl hd fun H1 e1 e2 e3 => ?_
          have k1 := kk H1 _ (hR.put (by omega) (mIx_lt hc.2) (v := .int v.toInt8.toInt32) e1 e2 e3) (hS.put (k := j.toNatClampNeg) e2 e3 (Nat.le_add_right _ _)) ls hl
          dsimp only at k1
          rw [hf] at k1
          exact k1
        · split at hs
          · rename_i hc
            cases hs
            refine ⟨fun ls hl => ?_, by simp, rfl⟩
            dsimp only at kk hl ⊢
            have hty := (hK.2 _ _ (mTy_at cA (t := q.1) (by omega) (by omega))).1 q.2.length (fun j => mSh b x (vp_V q.2 j))
            dsimp only at hty
            rw [show mTagTy q.1 = .boolean by rw [hc.1]; rfl] at hty
            refine W.zast hx hb (hR.arr hq (by omega)) hty (fun z => by cases z) (mArr_in _ _ hc.2) rfl rfl hd fun H1 e1 e2 e3 => ?_
            have k1 := kk H1 _ (hR.put (by omega) (mIx_lt hc.2) (v := .int (v &&& 1)) e1 e2 e3) (hS.put (k := j.toNatClampNeg) e2 e3 (Nat.le_add_right _ _)) ls hl
            dsimp only at k1
            rw [hf] at k1
            exact k1
          · cases hs
      · cases hs
    · cases hs
  · rename_i heq
    rw [heq] at hd hf
    split at hs
    · rename_i w j a r
      split at hs
      · rename_i q hq
        split at hs
        · rename_i q2 hq2
          split at hs
          · rename_i hc
            obtain ⟨h1, h2, h3⟩ := hc
            cases hs
            refine ⟨fun ls hl => ?_, by simp, rfl⟩
            dsimp only at kk hl ⊢
            have hlt50 : q2.1 < 50 := by rw [h3]; unfold mElC; split <;> (try split) <;> omega
            obtain ⟨rr, g1, g2, cellV, c1, c2, c3, -⟩ := (hR.2 w q2 hq2).1 hlt50
            have hcls := (hK.1 q2.1 rr g1).2
            have hra := (hK.2 _ _ (mTy_at cA (t := q.1) (by omega) (by omega))).2
            have hobj : mTagTy q.1 = .object rr.1 := by
              rcases (show q.1 = 53 ∨ q.1 = 54 ∨ q.1 = 55 by omega) with e1 | e1 | e1 <;> rw [h3, e1] at g1 <;> cases g1 <;> rw [e1] <;> rfl
            dsimp only at hra
            rw [hobj] at hra
            obtain ⟨kA, comp, k1, k2, k3, -⟩ := hra
            have hcomp : comp = D.1 q2.1 := Option.some.inj (k3.symm.trans hcls.1)
            subst hcomp
            obtain ⟨kC, hkC, -⟩ := hcls.2
            refine W.aast hx hb (hR.arr hq (by omega)) (fun z z2 => by cases z2) (fun z => by cases z) k1 k2 rfl hkC ⟨fun z => mIx_ok h2 (Or.inl z), by rw [arrV_size]; exact mIx_lt h2⟩ c1 (fun z z2 => by rw [c3] at z2; cases z2) (by rw [c2]; exact hkC) (by rw [c2]; exact va_assign hcls) rfl rfl hd fun H1 e1 e2 e3 => ?_
            have k1 := kk H1 _ (hR.put (by omega) (mIx_lt h2) (v := .ref w) e1 e2 e3) (hS.put (k := j.toNatClampNeg) e2 e3 (Nat.le_add_right _ _)) ls hl
            dsimp only at k1
            rw [hf] at k1
            exact k1
          · cases hs
        · cases hs
      · cases hs
    · cases hs
  · cases hs
end MSR
end
section
/-! making cells -/
def mSl (h : mH) : Nat := (h.map (fun q => q.2.length)).sum
theorem mSl_app (h : mH) (q : mC) : mSl (h ++ [q]) = mSl h + q.2.length := by simp [mSl]
def mAt : ArrayType → Option Nat
  | .int => some 50
  | .byte => some 51
  | .boolean => some 52
  | _ => none
def mN1 (en : mE) (i : Nat) (L : mL) (st : List Value) (h : mH) : Option mG := match en.2.1 with
  | .newarray aty => match st with
    | .int n :: r => match mAt aty with
      | some t => if ¬ n < 0 ∧ n.toNatClampNeg ≤ 100000 then some (i + 1, L, .ref h.length :: r, h ++ [(t, List.replicate n.toNatClampNeg (.int 0))]) else none
      | none => none
    | _ => none
  | .anewarray _ => match st with
    | .int n :: r => if (¬ n < 0 ∧ n.toNatClampNeg ≤ 100000) ∧ 53 ≤ mTgt en 1 ∧ mTgt en 1 < 56 then some (i + 1, L, .ref h.length :: r, h ++ [(mTgt en 1, List.replicate n.toNatClampNeg .null)]) else none
    | _ => none
  | .new _ => match mCl[mTgt en 1]? with
    | some r0 => if mTgt en 1 < 50 then some (i + 1, L, .ref h.length :: st, h ++ [(mTgt en 1, (List.range r0.2.2).map (fun k => defaultValue (mFT (mTgt en 1) k)))]) else none
    | none => none
  | _ => none
def mElN (t : Nat) : String := if t = 53 then "FirstLanding$Row" else if t = 54 then "FirstLanding$Text" else "FirstLanding$Embassy"
def mLnkN (own : String) (en : mE) : Bool := match en.2.1 with
  | .newarray aty => mHas (mTgt en 4) (.arrayClass (newarray.typeOf aty))
  | .anewarray idx => mHas (mTgt en 4) (.classLink own idx (mElN (mTgt en 1)))
  | .new idx => match mCl[mTgt en 1]? with
    | some r => mHas (mTgt en 4) (.classLink own idx r.1) && (mHas (mTgt en 5) (.instantiable r.1 r.2.2) && mHas (mTgt en 6) (.initialized r.1))
    | none => false
  | _ => true
theorem mRep {n : Nat} {v : Value} (f : Value → Value) (hf : f .null = .null) (j : Nat) (hj : j < n) : f (vp_V (List.replicate n v) j) = f v := by
  unfold vp_V
  simp [hj]
section MSN
variable {p : Program} {l : Launch} {e : Env} {R : Room} {s : State} {m : MethodId} {args : Array Value} {below : List Frame} {meth : Method} {c : Code} {H : Heap} {locs : List Loc} {cells slots : Nat} {Q : State → Prop}
variable {cc : ByteArray} {cs : List mE} {b : Nat} {x : Nat → Nat} {xs : Nat → List Int32} {en : mE} {i : Nat} {L : mL} {st : List Value} {h : mH} {g : mG} {D : va_G} {cA : Nat → ClassId} {own : String} {ini : Bool}
theorem arrV_congr (ca : ClassId) (n : Nat) (f k : Nat → Value) (hfk : ∀ j, j < n → f j = k j) : arrV ca n f = arrV ca n k := by
  unfold arrV
  congr 1
  apply Array.ext
  · simp
  · intro j h1 h2
    simp at h1 ⊢
    exact hfk j h1
set_option maxHeartbeats 4000000 in
theorem mN1_sim (hx : p.tables.exec = Jvm.exec) (hb : c.code = cc) (hown : s.vm.findClass own = some m.cls) (hts : ∀ w ∈ mW, w.before args s = true) (hE : mEv D cA b x xs s) (hbs : b ≤ s.heap.size) (hR : mRel D cA b x h H) (hS : va_S (fun q => b ≤ q) s.heap H locs)
    (hd : decode cc (mPcAt cs i) = .ok (en.2.1, mLen en.2.1)) (hf : mPcAt cs (i + 1) = mPcAt cs i + mLen en.2.1) (hlk : mLnkN own en = true)
    (hs : mN1 en i L st h = some g) (hrc : cells + 1 ≤ R.cells) (hrs : slots + (mSl g.2.2.2 - mSl h) ≤ R.slots)
    (kk : ∀ (H1 : Heap), mRel D cA b x g.2.2.2 H1 → va_S (fun q => b ≤ q) s.heap H1 locs → mFol p l e R s m args below meth c cs (mSh b x) Q H1 locs (cells + 1) (slots + (mSl g.2.2.2 - mSl h)) g) : mFol p l e R s m args below meth c cs (mSh b x) Q H locs cells slots (i, L, st, h) ∧ g.2.2.2.length = h.length + 1 ∧ g.2.1.length = L.length ∧ mSl h ≤ mSl g.2.2.2 := by
  obtain ⟨hK, hT, hZ1, hZ2, hN, hAO⟩ := hE
  have fr : ∀ H1 : Heap, H1.size = H.size + 1 → (∀ q : Nat, q < H.size → H1[q]? = H[q]?) → va_S (fun q => b ≤ q) s.heap H1 locs := fun H1 z o => ⟨Nat.le_trans hS.1 (by omega), fun q h1 h2 => (o q (Nat.lt_of_lt_of_le h1 hS.1)).trans (hS.2.1 q h1 h2), hS.2.2⟩
  unfold mN1 at hs
  unfold mLnkN at hlk
  split at hs
  · rename_i aty heq
    rw [heq] at hd hf hlk
    split at hs
    · rename_i n r
      split at hs
      · rename_i t ht
        split at hs
        · rename_i hn
          cases hs
          dsimp only at hrs kk ⊢
          rw [mSl_app] at hrs kk ⊢
          simp only [List.length_replicate] at hrs kk ⊢
          rw [show mSl h + n.toNatClampNeg - mSl h = n.toNatClampNeg by omega] at hrs kk
          refine ⟨fun ls hl => ?_, by simp, by simp, by omega⟩
          dsimp only [List.map_cons, mSh] at hl ⊢
          have hcb : componentBytes (newarray.typeOf aty) ≤ 8 := by cases aty <;> decide
          refine va_newaK (n := n) (N := n.toNatClampNeg) hx hb (hts _ (mHas_ok hlk)) rfl hd rfl hn.1 rfl (Nat.le_trans (Nat.mul_le_mul hn.2 hcb) (by decide)) hrc hrs (h := b + h.length) hR.1 fun H1 ca e1 e2 e3 e4 e5 => ?_
          have ht50 : 50 ≤ t ∧ t < 56 ∧ mTagTy t = newarray.typeOf aty := by cases aty <;> cases ht <;> exact ⟨by decide, by decide, rfl⟩
          have hra := (hK.2 _ _ (mTy_at cA ht50.1 ht50.2.1)).2
          dsimp only at hra
          rw [ht50.2.2] at hra
          have hca : cA t = ca := by
            have hz : s.vm.findClass ("[" ++ (newarray.typeOf aty).toString) = some (cA t) := by cases aty <;> first | exact hra | cases ht
            exact Option.some.inj (hz.symm.trans e5)
          have z1 : H1.size = H.size + 1 := by rw [e2, hR.1]
          have o1 : ∀ q : Nat, q < H.size → H1[q]? = H[q]? := fun q hq => e3 q (by rw [← hR.1]; exact hq)
          have k1 := kk H1 (hR.push z1 o1 ⟨fun z => absurd z (by dsimp only; omega), fun _ => by
            rw [e1]
            dsimp only
            rw [List.length_replicate, hca]
            refine congrArg some (arrV_congr _ _ _ _ fun j hj => ?_)
            rw [mRep (mSh b x) rfl j hj]
            cases aty <;> first | rfl | cases ht⟩) (fr H1 z1 o1) ls hl
          dsimp only [List.map_cons, mSh] at k1
          rw [hf] at k1
          exact k1
        · cases hs
      · cases hs
    · cases hs
  · rename_i idx heq
    rw [heq] at hd hf hlk
    split at hs
    · rename_i n r
      split at hs
      · rename_i hn
        obtain ⟨hn, ht1, ht2⟩ := hn
        cases hs
        dsimp only at hrs kk ⊢
        rw [mSl_app] at hrs kk ⊢
        simp only [List.length_replicate] at hrs kk ⊢
        rw [show mSl h + n.toNatClampNeg - mSl h = n.toNatClampNeg by omega] at hrs kk
        refine ⟨fun ls hl => ?_, by simp, by simp, by omega⟩
        dsimp only [List.map_cons, mSh] at hl ⊢
        have hel : va_AO (mElN (mTgt en 1)) s ∧ mTagTy (mTgt en 1) = .object (mElN (mTgt en 1)) := by
          rcases (show mTgt en 1 = 53 ∨ mTgt en 1 = 54 ∨ mTgt en 1 = 55 by omega) with e1 | e1 | e1 <;> rw [e1]
          · exact ⟨hAO.1, rfl⟩
          · exact ⟨hAO.2.1, rfl⟩
          · exact ⟨hAO.2.2, rfl⟩
        refine W.anew (n := n) hx hb hown (hts _ (mHas_ok hlk)) (va_AO.use hel.1) rfl hd rfl hn.1 (Nat.le_trans (Nat.mul_le_mul_right 4 hn.2) (by decide)) hrc hrs fun ca kA comp f1 f2 f3 f4 => ?_
        generalize hH1 : H.push ({ cls := ca, slots := Array.replicate n.toNatClampNeg .null, vm := .none } : Cell) = H1
        have z1 : H1.size = H.size + 1 := by rw [← hH1, Array.size_push]
        have e1 : H1[H.size]? = some (arrV ca n.toNatClampNeg (fun _ => .null)) := by rw [← hH1, Array.getElem?_push_size, ← arrV_new]
        have o1 : ∀ q : Nat, q < H.size → H1[q]? = H[q]? := fun q hq => by rw [← hH1, Array.getElem?_push, if_neg (Nat.ne_of_lt hq)]
        have hra := (hK.2 _ _ (mTy_at cA (t := mTgt en 1) (by omega) (by omega))).2
        dsimp only at hra
        rw [hel.2] at hra
        obtain ⟨kA2, comp2, -, -, -, e5⟩ := hra
        have hca : cA (mTgt en 1) = ca := Option.some.inj (e5.symm.trans f1)
        rw [hR.1] at e1
        have k1 := kk H1 (hR.push z1 o1 ⟨fun z => absurd z (by dsimp only; omega), fun _ => by
          rw [e1]
          dsimp only
          rw [List.length_replicate, hca]
          refine congrArg some (arrV_congr _ _ _ _ fun j hj => ?_)
          rw [mRep (mSh b x) rfl j hj]
          rfl⟩) (fr H1 z1 o1) ls hl
        dsimp only [List.map_cons, mSh] at k1
        rw [hf] at k1
        rw [hR.1]
        exact k1
      · cases hs
    · cases hs
  · rename_i idx heq
    rw [heq] at hd hf hlk
    split at hs
    · rename_i r0 hr0
      split at hs
      · rename_i ht
        cases hs
        dsimp only at hrs kk ⊢
        rw [mSl_app] at hrs kk ⊢
        simp only [List.length_map, List.length_range] at hrs kk ⊢
        rw [show mSl h + r0.2.2 - mSl h = r0.2.2 by omega] at hrs kk
        refine ⟨fun ls hl => ?_, by simp, by simp, by omega⟩
        dsimp only at hl hlk ⊢
        rw [hr0] at hlk
        dsimp only at hlk
        simp only [Bool.and_eq_true] at hlk
        obtain ⟨l1, l2, l3⟩ := hlk
        obtain ⟨o1, o2, o3⟩ := mCl_ok _ _ hr0
        obtain ⟨hS1, hfc, kC0, hkC0, hkind⟩ := hK.1 (mTgt en 1) _ hr0
        refine W.newcK hx hb hown (hts _ (mHas_ok l1)) (hts _ (mHas_ok l2)) (hts _ (mHas_ok l3)) rfl hd hrc hrs hfc (h := b + h.length) hR.1 fun H1 kC hkC e1 e2 e3 => ?_
        have z1 : H1.size = H.size + 1 := by rw [e2, hR.1]
        have q1 : ∀ q : Nat, q < H.size → H1[q]? = H[q]? := fun q hq => e3 q (by rw [← hR.1]; exact hq)
        have hborn := u_born (mFT (mTgt en 1)) hts o1 (hK.1 (mTgt en 1) _ hr0) hkC e1 o2
        have k1 := kk H1 (hR.push z1 q1 ⟨fun _ => ⟨r0, hr0, by simp, hborn.to (fun j hj => by
          unfold vp_V
          rw [List.getD_eq_getElem?_getD, List.getElem?_map, List.getElem?_range hj]
          show defaultValue (mFT (mTgt en 1) j) = mSh b x (defaultValue (mFT (mTgt en 1) j))
          cases mFT (mTgt en 1) j <;> rfl)⟩, fun z => absurd ht z⟩) (fr H1 z1 q1) ls hl
        dsimp only [List.map_cons, mSh] at k1
        rw [hf] at k1
        exact k1
      · cases hs
    · cases hs
  · cases hs
end MSN
end
section
/-! calls -/
/-- a method: its name, bytes, locals, what it returns, its sort (0 static, 1 of an object, 2 a constructor), its arguments, where its words stand, its code -/
abbrev mM : Type := MethodName × ByteArray × Nat × Option FieldType × Nat × Nat × List Nat × List mE
def mMY (t : mM) : MethodName := t.1
def mMB (t : mM) : ByteArray := t.2.1
def mMX (t : mM) : Nat := t.2.2.1
def mMT (t : mM) : Option FieldType := t.2.2.2.1
def mMK (t : mM) : Nat := t.2.2.2.2.1
def mMN (t : mM) : Nat := t.2.2.2.2.2.1
def mMW (t : mM) : List Nat := t.2.2.2.2.2.2.1
def mMC (t : mM) : List mE := t.2.2.2.2.2.2.2
def mCnt (t : mM) : Nat := if mMK t = 0 then mMN t else mMN t + 1
def mRcv (t : mM) (av : List Value) (h : mH) : Bool := if mMK t = 0 then true else match av with
  | .ref a :: _ => if mMK t = 2 then true else (match h[a]? with
    | some q => decide (q.1 < 50) && (match mCl[q.1]? with
      | some r => decide (r.1 = (mMY t).cls)
      | none => false)
    | none => false)
  | _ => false
def mInv : Instr → Bool
  | .invokevirtual _ => true
  | .invokestatic _ => true
  | .invokespecial _ => true
  | _ => false
def mG1 (tab : List mM) (call : Nat → List Value → mH → Option mR) (en : mE) (i : Nat) (L : mL) (st : List Value) (h : mH) : Option mG :=
  if mInv en.2.1 = true ∧ mTgt en 2 = 0 then
    match tab[mTgt en 1]? with
    | some t => if mCnt t ≤ st.length ∧ ((st.drop (mCnt t)).map (fun v => v.category)).sum ≤ 8 ∧ mRcv t ((st.take (mCnt t)).reverse) h = true ∧ (mEnt ((st.take (mCnt t)).reverse)).length ≤ mMX t then
        (match call (mTgt en 1) ((st.take (mCnt t)).reverse) h with
        | some r => some (i + 1, L, r.1.toList ++ st.drop (mCnt t), r.2)
        | none => none) else none
    | none => none
  else none
def mCpy (us vs : List Value) (sp dp n : Nat) : List Value := (List.range vs.length).map (fun k => va_cpy (vp_V us) (vp_V vs) sp dp n k)
def mG2 (en : mE) (i : Nat) (L : mL) (st : List Value) (h : mH) : Option mG := match en.2.1 with
  | .invokespecial _ => match st with
    | .ref _ :: r => if mTgt en 2 = 1 ∧ (r.map (fun v => v.category)).sum ≤ 8 then some (i + 1, L, r, h) else none
    | _ => none
  | .invokestatic _ => match st with
    | .int n :: .int dp :: .ref a1 :: .int sp :: .ref a0 :: r => match h[a0]? with
      | some q0 => match h[a1]? with
        | some q1 => if mTgt en 2 = 2 ∧ (r.map (fun v => v.category)).sum ≤ 8 ∧ q0.1 = 50 ∧ q1.1 = 50 ∧ ¬ sp < 0 ∧ ¬ dp < 0 ∧ ¬ n < 0 ∧ sp.toNatClampNeg + n.toNatClampNeg ≤ q0.2.length ∧ dp.toNatClampNeg + n.toNatClampNeg ≤ q1.2.length ∧ q0.2.all mIsI = true then some (i + 1, L, r, h.set a1 (q1.1, mCpy q0.2 q1.2 sp.toNatClampNeg dp.toNatClampNeg n.toNatClampNeg)) else none
        | none => none
      | none => none
    | _ => none
  | _ => none
/-- what a method's own words must be -/
def mMok (t : mM) : Bool := mHas ((mMW t).getD 0 0) (.code (mMY t) (mMB t) (mMX t) (mMT t)) && (mHas ((mMW t).getD 1 0) (.initialized (mMY t).cls) && (decide ((mMY t).cls ≠ "java/lang/invoke/MethodHandle" ∧ (mMY t).cls ≠ "java/lang/invoke/VarHandle" ∧ (parseMethodDescriptor (mMY t).desc).map (fun d => d.parameters.length) = some (mMN t) ∧ mMX t ≤ 41) &&
  (if mMK t = 0 then mHas ((mMW t).getD 2 0) (.static (mMY t)) else if mMK t = 1 then mHas ((mMW t).getD 2 0) (.instanceMethod (mMY t)) && mHas ((mMW t).getD 3 0) (.selects (mMY t).cls (mMY t) (mMY t)) else mHas ((mMW t).getD 2 0) (.instanceMethod (mMY t)) && decide ((mMY t).name = "<init>" ∧ mMT t = none ∧ mMK t = 2))))
/-- what a place of a call must be -/
def mLnkC (tab : List mM) (own : String) (en : mE) : Bool := match en.2.1 with
  | .invokevirtual idx => mTgt en 2 = 0 ∧ (match tab[mTgt en 1]? with
    | some t => decide (mMK t = 1) && (if mTgt en 3 = 0 then mHas (mTgt en 4) (.methodLink own idx (mMY t)) else mHasN (mTgt en 4) (.methodLinkNest own idx (mMY t) "FirstLanding"))
    | none => false) = true
  | .invokestatic idx => if mTgt en 2 = 0 then (match tab[mTgt en 1]? with
    | some t => decide (mMK t = 0) && (if mTgt en 3 = 0 then mHas (mTgt en 4) (.methodLink own idx (mMY t)) else mHasN (mTgt en 4) (.methodLinkNest own idx (mMY t) "FirstLanding"))
    | none => false) else mHas (mTgt en 4) (.methodLink own idx arraycopyName) && (mHas (mTgt en 5) (.native arraycopyName) && (mHas (mTgt en 6) (.static arraycopyName) && mHas (mTgt en 7) (.initialized "java/lang/System")))
  | .invokespecial idx => if mTgt en 2 = 0 then (match tab[mTgt en 1]? with
    | some t => decide (mMK t = 2) && (if mTgt en 3 = 0 then mHas (mTgt en 4) (.methodLink own idx (mMY t)) else mHasN (mTgt en 4) (.methodLinkNest own idx (mMY t) "FirstLanding"))
    | none => false) else mHas (mTgt en 4) (.methodLink own idx Lib.objectInit) && (mHas (mTgt en 5) (.instanceMethod Lib.objectInit) && mHas (mTgt en 6) (.code Lib.objectInit ⟨#[0xb1]⟩ 1 none))
  | _ => true
def mWs (t : mM) : List Cond := Cond.code (mMY t) (mMB t) (mMX t) (mMT t) :: mW
theorem mGood {w : Cond} (h : w ∈ mW) : GoodIn mW (w :: mW) := by
  intro z hz
  have h1 : z ∈ mW := by
    rcases List.mem_cons.mp hz with e | e
    · rw [e]; exact h
    · exact e
  exact ⟨h1, good_of_word (List.mem_filter.mp h1).2⟩
def mRm (d mc ms : Nat) : Room := { frames := d, cells := mc, slots := ms, locals := 60 * d }
def mPc (D : va_G) (cA : Nat → ClassId) (b : Nat) (x : Nat → Nat) (xs : Nat → List Int32) (av : List Value) (h : mH) : Array Value → State → Prop := fun a U => a = (av.map (mSh b x)).toArray ∧ mRel D cA b x h U.heap ∧ mEv D cA b x xs U
def mQc (D : va_G) (cA : Nat → ClassId) (b : Nat) (x : Nat → Nat) (r : mR) : Array Value → State → Outcome → State → Prop := fun _ st o t => o = .returned (r.1.map (mSh b x)) ∧ mRel D cA b x r.2 t.heap ∧ va_F (fun q => b ≤ q) st t
def mMet (l : Launch) (D : va_G) (cA : Nat → ClassId) (b : Nat) (x : Nat → Nat) (xs : Nat → List Int32) (d : Nat) (t : mM) (av : List Value) (h : mH) (r : mR) : Prop :=
  Met l (mMY t) (mWs t) (mRm d (r.2.length - h.length) (mSl r.2 - mSl h)) (mPc D cA b x xs av h) (mQc D cA b x r) (r.2.length - h.length) (mSl r.2 - mSl h) (fun q => b ≤ q)
theorem mPc_blind (D : va_G) (cA : Nat → ClassId) (b : Nat) (x : Nat → Nat) (xs : Nat → List Int32) (av : List Value) (h : mH) : FrameBlind (mPc D cA b x xs av h) := by
  intro a U g mk hp
  exact ⟨hp.1, hp.2.1, hp.2.2.to (mWN_same (s := U) (U := U.calling g mk a) rfl hp.2.2.2.2.2.2.1) (Vm.Alike.refl U.vm) (fun _ _ _ => rfl)⟩
section MSC
variable {p : Program} {l : Launch} {e : Env} {R : Room} {s : State} {m : MethodId} {args : Array Value} {below : List Frame} {meth : Method} {c : Code} {H : Heap} {locs : List Loc} {cells slots : Nat} {Q : State → Prop}
variable {cc : ByteArray} {cs : List mE} {b : Nat} {x : Nat → Nat} {xs : Nat → List Int32} {en : mE} {i : Nat} {L : mL} {st : List Value} {h : mH} {g : mG} {D : va_G} {cA : Nat → ClassId} {own : String} {ini : Bool} {tab : List mM} {call : Nat → List Value → mH → Option mR} {d : Nat}
theorem mPc_at (hE : mEv D cA b x xs s) (hR : mRel D cA b x h H) (hS : va_S (fun q => b ≤ q) s.heap H locs) (av : List Value) : ∀ U : State, U.heap = H → s.WarmedH U.vm → mPc D cA b x xs av h (av.map (mSh b x)).toArray U := by
  intro U hU hW
  refine ⟨rfl, by rw [hU]; exact hR, hE.to (mWN_warm hW hE.2.2.2.2.1) hW.alike (fun a h1 h2 => ?_)⟩
  rw [hU]
  exact hS.2.1 a h1 h2
/-- behind a call -/
theorem mBack {mc ms : Nat} {ls : Array Slot} {pc : Nat} {st0 rest : List Value} {a : Array Value} {r : mR} (hr : va_Run p l e R s m args below meth c H locs cells slots mc ms (F0 m pc ls st0) rest (mQc D cA b x r a) (fun q => b ≤ q)) (hS : va_S (fun q => b ≤ q) s.heap H locs)
    (kk : ∀ (H1 : Heap) (locs1 : List Loc), mRel D cA b x r.2 H1 → va_S (fun q => b ≤ q) s.heap H1 locs1 → W p l e R s m args below meth c H1 locs1 (cells + mc) (slots + ms) Q (F0 m (pc + 3) ls ((r.1.map (mSh b x)).toList ++ rest))) : W p l e R s m args below meth c H locs cells slots Q (F0 m pc ls st0) := by
  intro T hT X
  obtain ⟨v, st₀, t, T', L1, h0, X', hL, e1, e2, ⟨hv, hrel, hz, hk⟩, st1⟩ := hr T hT X
  cases hv
  rw [h0] at hz hk
  obtain ⟨t2, a1, b1⟩ := kk T'.heap (locs ++ L1) (by rw [e1]; exact hrel)
    ⟨Nat.le_trans hS.1 (by rw [e1]; exact hz), fun q h1 h2 => by rw [e1, hk q (Nat.lt_of_lt_of_le h1 hS.1) h2]; exact hS.2.1 q h1 h2, fun q hq => by
      rcases List.mem_append.mp hq with h | h
      · exact hS.2.2 q h
      · exact hL q h⟩ T' rfl X'
  exact ⟨t2, st1 t2 a1, b1⟩
theorem mRoom0 {pc : Nat} {ls : Array Slot} {st0 rest : List Value} (h : (rest.map (fun v => v.category)).sum ≤ 8) : 2 * (F0 m pc ls st0).monitorRoom + ((rest.map (mSh b x)).map fun v => v.category).sum ≤ 8 := by
  have h1 : ((rest.map (mSh b x)).map fun v => v.category) = rest.map (fun v => v.category) := by
    rw [List.map_map]
    exact List.map_congr_left (fun v _ => mSh_cat b x v)
  rw [h1]
  exact lv_room h
set_option maxHeartbeats 4000000 in
theorem mG1_sim (hx : p.tables.exec = Jvm.exec) (hb : c.code = cc) (hml : c.maxLocals = L.length) (hown : s.vm.findClass own = some m.cls) (hts : ∀ w ∈ mW, w.before args s = true) (hE : mEv D cA b x xs s) (hR : mRel D cA b x h H) (hS : va_S (fun q => b ≤ q) s.heap H locs)
    (hd : decode cc (mPcAt cs i) = .ok (en.2.1, mLen en.2.1)) (hf : mPcAt cs (i + 1) = mPcAt cs i + mLen en.2.1) (hlk : mLnkC tab own en = true) (htab : ∀ (k : Nat) (t : mM), tab[k]? = some t → mMok t = true)
    (hcall : ∀ (k : Nat) (t : mM) (av : List Value) (h0 : mH) (r : mR), tab[k]? = some t → (mEnt av).length ≤ mMX t → call k av h0 = some r → mMet l D cA b x xs d t av h0 r ∧ h0.length ≤ r.2.length ∧ mSl h0 ≤ mSl r.2)
    (hRf : d + 1 ≤ R.frames ∧ 60 * (d + 1) ≤ R.locals)
    (hs : mG1 tab call en i L st h = some g) (hrc : cells + (g.2.2.2.length - h.length) ≤ R.cells) (hrs : slots + (mSl g.2.2.2 - mSl h) ≤ R.slots)
    (kk : ∀ (H1 : Heap) (locs1 : List Loc), mRel D cA b x g.2.2.2 H1 → va_S (fun q => b ≤ q) s.heap H1 locs1 → mFol p l e R s m args below meth c cs (mSh b x) Q H1 locs1 (cells + (g.2.2.2.length - h.length)) (slots + (mSl g.2.2.2 - mSl h)) g) : mFol p l e R s m args below meth c cs (mSh b x) Q H locs cells slots (i, L, st, h) ∧ h.length ≤ g.2.2.2.length ∧ g.2.1.length = L.length ∧ mSl h ≤ mSl g.2.2.2 := by
  unfold mG1 at hs
  split at hs
  · rename_i hm
    obtain ⟨hm1, hm2⟩ := hm
    split at hs
    · rename_i t ht
      split at hs
      · rename_i hc
        obtain ⟨c1, c2, c3, c4⟩ := hc
        split at hs
        · rename_i r hr
          cases hs
          obtain ⟨hM, g1, g2⟩ := hcall _ t _ _ r ht c4 hr
          refine ⟨fun ls hl => ?_, g1, rfl, g2⟩
          dsimp only at hl hrc hrs kk ⊢
          have htk := htab _ t ht
          unfold mMok at htk
          simp only [Bool.and_eq_true] at htk
          obtain ⟨w0, w1, w2, w3⟩ := htk
          obtain ⟨w4, w5, w6, w7⟩ := of_decide_eq_true w2
          have hG := mGood (mHas_ok w0)
          have hini := hts _ (mHas_ok w1)
          have hRR : (mRm d (r.2.length - h.length) (mSl r.2 - mSl h)).frames + 1 ≤ R.frames ∧ 8 + (mMX t + 11) + (mRm d (r.2.length - h.length) (mSl r.2 - mSl h)).locals ≤ R.locals := ⟨hRf.1, by
            show 8 + (mMX t + 11) + 60 * d ≤ R.locals
            have := hRf.2
            omega⟩
          have hS0 : CallFix p m c cc L.length s args mW own := ⟨hx, hb, hml, hown, hts⟩
          have hst : st = (st.take (mCnt t)).reverse.reverse ++ st.drop (mCnt t) := by rw [List.reverse_reverse]; exact (List.take_append_drop _ _).symm
          have hsz : (F0 m (mPcAt cs i) ls (st.map (mSh b x))).locals.size = L.length := hl.1
          have hlen : ((st.take (mCnt t)).reverse).length = mCnt t := by simp; omega
          generalize hav : (st.take (mCnt t)).reverse = av at *
          generalize hrest : st.drop (mCnt t) = rest at *
          have hpre := mPc_at (h := h) hE hR hS av
          have hbl := mPc_blind D cA b x xs av h
          have fin : ∀ (H1 : Heap) (locs1 : List Loc), mRel D cA b x r.2 H1 → va_S (fun q => b ≤ q) s.heap H1 locs1 → W p l e R s m args below meth c H1 locs1 (cells + (r.2.length - h.length)) (slots + (mSl r.2 - mSl h)) Q (F0 m (mPcAt cs i + 3) ls ((r.1.map (mSh b x)).toList ++ rest.map (mSh b x))) := by
            intro H1 locs1 q1 q2
            have k1 := kk H1 locs1 q1 q2 ls hl
            dsimp only at k1
            rw [hf] at k1
            have e1 : mLen en.2.1 = 3 := by
              cases hi : en.2.1 <;> rw [hi] at hm1 <;> first | rfl | cases hm1
            rw [e1, List.map_append] at k1
            have e2 : r.1.toList.map (mSh b x) = (r.1.map (mSh b x)).toList := by cases r.1 <;> rfl
            rw [e2] at k1
            exact k1
          unfold mLnkC at hlk
          split at hlk
          · rename_i idx heq
            rw [heq] at hd
            have hlk2 := (of_decide_eq_true hlk).2
            rw [ht] at hlk2
            dsimp only at hlk2
            rw [Bool.and_eq_true, decide_eq_true_eq] at hlk2
            obtain ⟨hk1, l3⟩ := hlk2
            rw [if_neg (by omega), if_pos hk1, Bool.and_eq_true] at w3
            have hin := hts _ (mHas_ok w3.1)
            have hse := hts _ (mHas_ok w3.2)
            unfold mRcv at c3
            rw [if_neg (by omega)] at c3
            have hcn : mCnt t = mMN t + 1 := by unfold mCnt; rw [if_neg (by omega)]
            match av, c3 with
            | .ref a :: As, c3 =>
              dsimp only at c3
              rw [if_neg (by omega)] at c3
              split at c3
              · rename_i q hq
                rw [Bool.and_eq_true, decide_eq_true_eq] at c3
                obtain ⟨hq50, hq2⟩ := c3
                split at hq2
                · rename_i rr hrr
                  have hcl := of_decide_eq_true hq2
                  obtain ⟨r1, o1, o2, cellB, o3, o4, o5, -⟩ := (hR.2 a q hq).1 hq50
                  cases hrr.symm.trans o1
                  have hrv : ∃ cellB : Cell, H[b + a]? = some cellB ∧ cellB.vm.isStatics = false ∧ s.vm.findClass (mMY t).cls = some cellB.cls := ⟨cellB, o3, by rw [o5]; rfl, by rw [o4, ← hcl]; exact (hE.1.1 q.1 _ o1).2.1⟩
                  have hstk : st.map (mSh b x) = (As.map (mSh b x)).reverse ++ .ref (b + a) :: rest.map (mSh b x) := by
                    rw [hst, List.reverse_cons, List.append_assoc, List.map_append, List.map_reverse]
                    rfl
                  have hnn : (As.map (mSh b x)).length = mMN t := by
                    rw [List.length_map]
                    have := hlen
                    rw [List.length_cons] at this
                    omega
                  split at l3
                  · refine mBack (r := r) (va_runV (As := As.map (mSh b x)) (rest := rest.map (mSh b x)) hS0 hM ⟨callB_of (mMN t) hts hG rfl rfl rfl hini (hts _ (mHas_ok l3)) ⟨w4, w5, w6⟩ hRR, hin, hse⟩ ⟨hbl, hrv, hpre⟩ rfl hnn hsz hstk (mRoom0 c2) hd ⟨hrc, hrs⟩) hS fin
                  · refine mBack (r := r) (va_runVN (As := As.map (mSh b x)) (rest := rest.map (mSh b x)) hS0 hM ⟨va_cnB (mMN t) hts hG rfl rfl rfl (hE.2.2.2.2.1 _ (mHasN_ok l3)) hini ⟨w4, w5, w6⟩ hRR, hin, hse⟩ ⟨hbl, hrv, hpre⟩ rfl hnn hsz hstk (mRoom0 c2) hd ⟨hrc, hrs⟩) hS fin
                · cases hq2
              · cases c3
          · rename_i idx heq
            rw [heq] at hd
            rw [if_pos hm2, ht] at hlk
            dsimp only at hlk
            rw [Bool.and_eq_true, decide_eq_true_eq] at hlk
            obtain ⟨hk1, l3⟩ := hlk
            rw [if_pos hk1] at w3
            have hsta := hts _ (mHas_ok w3)
            have hcn : mCnt t = mMN t := by unfold mCnt; rw [if_pos hk1]
            have hstk : st.map (mSh b x) = (av.map (mSh b x)).reverse ++ rest.map (mSh b x) := by
              rw [hst, List.map_append, List.map_reverse]
            have hnn : (av.map (mSh b x)).length = mMN t := by rw [List.length_map]; omega
            split at l3
            · refine mBack (r := r) (va_runS (As := av.map (mSh b x)) (rest := rest.map (mSh b x)) hS0 hM ⟨callB_of (mMN t) hts hG rfl rfl rfl hini (hts _ (mHas_ok l3)) ⟨w4, w5, w6⟩ hRR, hsta⟩ ⟨hbl, hpre⟩ rfl hnn hsz hstk (mRoom0 c2) hd ⟨hrc, hrs⟩) hS fin
            · refine mBack (r := r) (va_runSN (As := av.map (mSh b x)) (rest := rest.map (mSh b x)) hS0 hM ⟨va_cnB (mMN t) hts hG rfl rfl rfl (hE.2.2.2.2.1 _ (mHasN_ok l3)) hini ⟨w4, w5, w6⟩ hRR, hsta, trivial⟩ ⟨hbl, hpre⟩ rfl hnn hsz hstk (mRoom0 c2) hd ⟨hrc, hrs⟩) hS fin
          · rename_i idx heq
            rw [heq] at hd
            rw [if_pos hm2, ht] at hlk
            dsimp only at hlk
            rw [Bool.and_eq_true, decide_eq_true_eq] at hlk
            obtain ⟨hk1, l3⟩ := hlk
            rw [if_neg (by omega), if_neg (by omega), Bool.and_eq_true] at w3
            have hin := hts _ (mHas_ok w3.1)
            obtain ⟨hy1, hrt, -⟩ := of_decide_eq_true w3.2
            unfold mRcv at c3
            rw [if_neg (by omega)] at c3
            have hcn : mCnt t = mMN t + 1 := by unfold mCnt; rw [if_neg (by omega)]
            match av, c3 with
            | .ref a :: As, c3 =>
              have hstk : st.map (mSh b x) = (As.map (mSh b x)).reverse ++ .ref (b + a) :: rest.map (mSh b x) := by
                rw [hst, List.reverse_cons, List.append_assoc, List.map_append, List.map_reverse]
                rfl
              have hnn : (As.map (mSh b x)).length = mMN t := by
                rw [List.length_map]
                have := hlen
                rw [List.length_cons] at this
                omega
              have hw0 : mWs t = Cond.code (mMY t) (mMB t) (mMX t) none :: mW := by unfold mWs; rw [hrt]
              have hG2 : GoodIn mW (mWs t) := hG
              split at l3
              · refine mBack (r := r) (va_runI (As := As.map (mSh b x)) (rest := rest.map (mSh b x)) hS0 hM ⟨callB_of (mMN t) hts hG2 hw0 rfl rfl hini (hts _ (mHas_ok l3)) ⟨w4, w5, w6⟩ hRR, hy1, hin⟩ ⟨hbl, hpre⟩ rfl hnn hsz hstk (mRoom0 c2) hd ⟨hrc, hrs⟩) hS fin
              · refine mBack (r := r) (va_runIN (As := As.map (mSh b x)) (rest := rest.map (mSh b x)) hS0 hM ⟨va_cnB (mMN t) hts hG2 hw0 rfl rfl (hE.2.2.2.2.1 _ (mHasN_ok l3)) hini ⟨w4, w5, w6⟩ hRR, hy1, hin⟩ ⟨hbl, hpre⟩ rfl hnn hsz hstk (mRoom0 c2) hd ⟨hrc, hrs⟩) hS fin
          · rename_i h1 h2 h3
            exfalso
            cases hi : en.2.1 <;> rw [hi] at hm1 <;> first | exact h1 _ hi | exact h2 _ hi | exact h3 _ hi | cases hm1
        · cases hs
      · cases hs
    · cases hs
  · cases hs
end MSC
end
section
/-! the run of a body -/
section MSG
variable {p : Program} {l : Launch} {e : Env} {R : Room} {s : State} {m : MethodId} {args : Array Value} {below : List Frame} {meth : Method} {c : Code} {H : Heap} {locs : List Loc} {cells slots : Nat} {Q : State → Prop}
variable {cc : ByteArray} {cs : List mE} {b : Nat} {x : Nat → Nat} {xs : Nat → List Int32} {en : mE} {i : Nat} {L : mL} {st : List Value} {h : mH} {g : mG} {D : va_G} {cA : Nat → ClassId} {own : String} {ini : Bool} {tab : List mM} {call : Nat → List Value → mH → Option mR} {d : Nat}
theorem mCat_sum (rest : List Value) : ((rest.map (mSh b x)).map fun v => v.category).sum = (rest.map (fun v => v.category)).sum := by
  rw [List.map_map]
  congr 1
  exact List.map_congr_left (fun v _ => mSh_cat b x v)
set_option maxHeartbeats 4000000 in
theorem mG2_sim (hx : p.tables.exec = Jvm.exec) (hb : c.code = cc) (hml : c.maxLocals = L.length) (hown : s.vm.findClass own = some m.cls) (hts : ∀ w ∈ mW, w.before args s = true) (hE : mEv D cA b x xs s) (hR : mRel D cA b x h H) (hS : va_S (fun q => b ≤ q) s.heap H locs)
    (hd : decode cc (mPcAt cs i) = .ok (en.2.1, mLen en.2.1)) (hf : mPcAt cs (i + 1) = mPcAt cs i + mLen en.2.1) (hlk : mLnkC tab own en = true)
    (hRf : d + 1 ≤ R.frames ∧ 60 * (d + 1) ≤ R.locals)
    (hs : mG2 en i L st h = some g)
    (kk : ∀ (H1 : Heap) (locs1 : List Loc), mRel D cA b x g.2.2.2 H1 → va_S (fun q => b ≤ q) s.heap H1 locs1 → mFol p l e R s m args below meth c cs (mSh b x) Q H1 locs1 cells slots g) : mFol p l e R s m args below meth c cs (mSh b x) Q H locs cells slots (i, L, st, h) ∧ g.2.2.2.length = h.length ∧ g.2.1.length = L.length ∧ mSl g.2.2.2 = mSl h := by
  unfold mG2 at hs
  split at hs
  · rename_i idx heq
    rw [heq] at hd hf
    split at hs
    · rename_i a r
      split at hs
      · rename_i hc
        cases hs
        refine ⟨fun ls hl => ?_, rfl, rfl, rfl⟩
        have k1 := kk H locs hR hS ls hl
        dsimp only [List.map_cons, mSh] at k1 hl ⊢
        rw [hf] at k1
        unfold mLnkC at hlk
        rw [heq] at hlk
        dsimp only at hlk
        rw [if_neg (by omega)] at hlk
        simp only [Bool.and_eq_true] at hlk
        obtain ⟨l1, l2, l3⟩ := hlk
        refine W.objInit hx hb hown (hts _ (mHas_ok l1)) (hts _ (mHas_ok l2)) (hts _ (mHas_ok l3)) rfl (by rw [hml]; exact hl.1) rfl hd (by omega) ?_ k1
        show 2 * 0 + ((r.map (mSh b x)).map fun v => v.category).sum + 12 ≤ R.locals
        rw [mCat_sum]
        omega
      · cases hs
    · cases hs
  · rename_i idx heq
    rw [heq] at hd hf
    split at hs
    · rename_i n dp a1 sp a0 r
      split at hs
      · rename_i q0 hq0
        split at hs
        · rename_i q1 hq1
          split at hs
          · rename_i hc
            obtain ⟨m2, c2, t0, t1, h1, h2, h3, h4, h5, hI⟩ := hc
            cases hs
            have hcl : (mCpy q0.2 q1.2 sp.toNatClampNeg dp.toNatClampNeg n.toNatClampNeg).length = q1.2.length := by simp [mCpy]
            have hsl : mSl (h.set a1 (q1.1, mCpy q0.2 q1.2 sp.toNatClampNeg dp.toNatClampNeg n.toNatClampNeg)) = mSl h := by
              unfold mSl
              congr 1
              rw [List.map_set]
              apply List.ext_getElem?
              intro k
              by_cases hk : k = a1
              · subst hk
                rw [List.getElem?_set]
                simp only [if_true, List.length_map]
                rw [List.getElem?_map, hq1, if_pos (List.getElem?_eq_some_iff.mp hq1).1]
                simp [hcl]
              · rw [List.getElem?_set_ne (Ne.symm hk)]
            refine ⟨fun ls hl => ?_, by simp, rfl, hsl⟩
            dsimp only at hl kk ⊢
            unfold mLnkC at hlk
            rw [heq] at hlk
            dsimp only at hlk
            rw [if_neg (by omega)] at hlk
            simp only [Bool.and_eq_true] at hlk
            obtain ⟨l1, l2, l3, l4⟩ := hlk
            have nn : ∀ z : Int32, ¬ z < 0 → z.toInt = (z.toNatClampNeg : Int) := by
              intro z hz
              have hz0 : (0 : Int) ≤ z.toInt := by
                have := Int32.not_lt.mp hz
                simpa using Int32.le_iff_toInt_le.mp this
              show z.toInt = ((z.toInt.toNat : Nat) : Int)
              omega
            intro T hT X
            have hc0 := hR.arr hq0 (by omega)
            have hc1 := hR.arr hq1 (by omega)
            rw [t0] at hc0
            rw [t1] at hc1
            have hAr := (hE.1.2 0 (cA 50, .int) rfl).1
            obtain ⟨-, k0, hk0, cm0, hkk0⟩ := hAr q0.2.length (fun j => mSh b x (vp_V q0.2 j))
            obtain ⟨-, k1, hk1, cm1, hkk1⟩ := hAr q1.2.length (fun j => mSh b x (vp_V q1.2 j))
            obtain ⟨vm', X', step⟩ := X.arraycopy hx hown (hts _ (mHas_ok l1)) (hts _ (mHas_ok l2)) (hts _ (mHas_ok l3)) (hts _ (mHas_ok l4)) (src := b + a0) (dst := b + a1) (srcPos := sp) (destPos := dp) (n := n) (by rw [hT]; exact hc0) (by rw [hT]; exact hc1)
              (fun _ h => by cases h) (fun _ h => by cases h) (fun h => by cases h) (fun h => by cases h) hk0 hk1 hkk0 hkk1 rfl h1 h2 h3
              (by rw [nn sp h1, nn n h3, arrV_size]; omega)
              (by rw [nn dp h2, nn n h3, arrV_size]; omega)
              (fun vm₁ _ i hi => by
                have hlt : sp.toNatClampNeg + i < q0.2.length := by omega
                have e : (arrV (cA 50) q0.2.length (fun j => mSh b x (vp_V q0.2 j))).slots.getD (sp.toNatClampNeg + i) .null = mSh b x (vp_V q0.2 (sp.toNatClampNeg + i)) := by
                  rw [Array.getD_eq_getD_getElem?, arrV_read _ _ hlt]
                  rfl
                obtain ⟨z, hz⟩ : ∃ z, vp_V q0.2 (sp.toNatClampNeg + i) = .int z := by
                  have hm : vp_V q0.2 (sp.toNatClampNeg + i) ∈ q0.2 := by
                    unfold vp_V
                    rw [List.getD_eq_getElem?_getD, List.getElem?_eq_getElem hlt]
                    exact List.getElem_mem hlt
                  exact mIsI_spec (List.all_eq_true.mp hI _ hm)
                rw [e, hz]
                exact ⟨rfl, trivial⟩)
              (g := F0 m (mPcAt cs i) ls ((Value.int n :: .int dp :: .ref a1 :: .int sp :: .ref a0 :: r).map (mSh b x))) rfl (by rw [hml]; exact hl.1) (rest := r.map (mSh b x)) rfl (by rw [hb]; exact hd) (by omega) (by
                show 2 * 0 + ((r.map (mSh b x)).map fun v => v.category).sum + (nativeFrameWords "java/lang/System" "arraycopy" 5 + 11) ≤ R.locals
                rw [mCat_sum]
                have : nativeFrameWords "java/lang/System" "arraycopy" 5 = 7 := by decide
                omega)
            have e1 : copied (arrV (cA 50) q0.2.length (fun j => mSh b x (vp_V q0.2 j))) (arrV (cA 50) q1.2.length (fun j => mSh b x (vp_V q1.2 j))) sp dp n = arrV (cA 50) q1.2.length (fun j => mSh b x (va_cpy (vp_V q0.2) (vp_V q1.2) sp.toNatClampNeg dp.toNatClampNeg n.toNatClampNeg j)) := va_copied (mSh b x) (cA 50) (cA 50) (vp_V q0.2) (vp_V q1.2) h4
            rw [e1] at X' step
            have hlt : b + a1 < H.size := (Array.getElem?_eq_some_iff.mp hc1).1
            generalize hcell : arrV (cA 50) q1.2.length (fun j => mSh b x (va_cpy (vp_V q0.2) (vp_V q1.2) sp.toNatClampNeg dp.toNatClampNeg n.toNatClampNeg j)) = cell at X' step
            have hheap : ((T.setVm vm').setCell (b + a1) cell).heap = H.setIfInBounds (b + a1) cell := by rw [← hT]; rfl
            have oq : ∀ q : Nat, q ≠ b + a1 → (H.setIfInBounds (b + a1) cell)[q]? = H[q]? := fun q hq => by simp [Array.getElem?_setIfInBounds, Ne.symm hq]
            have hrel : mRel D cA b x (h.set a1 (q1.1, mCpy q0.2 q1.2 sp.toNatClampNeg dp.toNatClampNeg n.toNatClampNeg)) (H.setIfInBounds (b + a1) cell) := by
              refine hR.set (by simp) oq ⟨fun z => absurd z (by show ¬ q1.1 < 50; omega), fun _ => ?_⟩
              dsimp only
              rw [hcl, t1]
              rw [show (H.setIfInBounds (b + a1) cell)[b + a1]? = some cell by simp [Array.getElem?_setIfInBounds, hlt], ← hcell]
              refine congrArg some (arrV_congr _ _ _ _ fun j hj => ?_)
              congr 1
              unfold mCpy
              rw [show vp_V ((List.range q1.2.length).map (fun k => va_cpy (vp_V q0.2) (vp_V q1.2) sp.toNatClampNeg dp.toNatClampNeg n.toNatClampNeg k)) j = va_cpy (vp_V q0.2) (vp_V q1.2) sp.toNatClampNeg dp.toNatClampNeg n.toNatClampNeg j by
                rw [show ∀ l : List Value, vp_V l j = l.getD j .null from fun _ => rfl, List.getD_eq_getElem?_getD, List.getElem?_map, List.getElem?_range hj]
                rfl]
            have fr : ∀ LL : List Loc, (∀ q ∈ LL, b ≤ q.base) → va_S (fun q => b ≤ q) s.heap (H.setIfInBounds (b + a1) cell) (locs ++ LL) := fun LL hLL => ⟨by simp; exact hS.1, fun q g1 g2 => by
                rw [oq q (fun e => g2 (by show b ≤ q; omega))]
                exact hS.2.1 q g1 g2, fun q hq => by
                rcases List.mem_append.mp hq with h | h
                · exact hS.2.2 q h
                · exact hLL q h⟩
            obtain ⟨t, u1, u2⟩ := kk _ _ hrel (fr _ (fun q hq => by
              obtain ⟨z, -, hz⟩ := List.mem_map.mp hq
              rw [← hz]
              exact Nat.le_add_right _ _)) ls hl _ hheap X'
            dsimp only at u1
            rw [hf] at u1
            exact ⟨t, step t u1, u2⟩
          · cases hs
        · cases hs
      · cases hs
    · cases hs
  · cases hs
end MSG
end
section
/-! the small machine, and that the machine follows it -/
def mStep (tab : List mM) (xs : Nat → List Int32) (call : Nat → List Value → mH → Option mR) (en : mE) (g : mG) : Option mG :=
  (mA1 en g.1 g.2.1 g.2.2.1 g.2.2.2).or ((mB1 en g.1 g.2.1 g.2.2.1 g.2.2.2).or ((mB3 en g.1 g.2.1 g.2.2.1 g.2.2.2).or ((mF1 en g.1 g.2.1 g.2.2.1 g.2.2.2).or ((mG1 tab call en g.1 g.2.1 g.2.2.1 g.2.2.2).or ((mF2 xs en g.1 g.2.1 g.2.2.1 g.2.2.2).or ((mF3 en g.1 g.2.1 g.2.2.1 g.2.2.2).or ((mA2 en g.1 g.2.1 g.2.2.1 g.2.2.2).or ((mB2 en g.1 g.2.1 g.2.2.1 g.2.2.2).or ((mN1 en g.1 g.2.1 g.2.2.1 g.2.2.2).or (mG2 en g.1 g.2.1 g.2.2.1 g.2.2.2))))))))))
def mRt (rt : Option FieldType) (en : mE) (st : List Value) (h : mH) : Option mR := match en.2.1 with
  | .ireturn => match st with
    | [.int v] => match rt with
      | some ty => if narrow ty (.int v) = .int v then some (some (.int v), h) else none
      | none => none
    | _ => none
  | .lreturn => match st with
    | [.long v] => if rt = some .long then some (some (.long v), h) else none
    | _ => none
  | .areturn => match st with
    | [v] => match rt with
      | some (.object _) => if mIsA v = true then some (some v, h) else none
      | _ => none
    | _ => none
  | .return_ => match st with
    | [] => if rt = none then some (none, h) else none
    | _ => none
  | _ => none
def mRun (tab : List mM) (xs : Nat → List Int32) (call : Nat → List Value → mH → Option mR) (rt : Option FieldType) (cs : List mE) : Nat → mG → Option mR
  | 0, _ => none
  | n + 1, g => match cs[g.1]? with
    | none => none
    | some en => match mRt rt en g.2.2.1 g.2.2.2 with
      | some r => some r
      | none => match mStep tab xs call en g with
        | some g1 => mRun tab xs call rt cs n g1
        | none => none
def mEval (tab : List mM) (xs : Nat → List Int32) : Nat → Nat → Nat → List Value → mH → Option mR
  | 0, _, _, _, _ => none
  | d + 1, n, k, av, h => match tab[k]? with
    | some t => mRun tab xs (mEval tab xs d n) (mMT t) (mMC t) n (0, mEntL (mMX t) av, [], h)
    | none => none
/-- cells are never lost -/
def mUp (h h1 : mH) : Prop := h.length ≤ h1.length ∧ mSl h ≤ mSl h1
theorem mUp.rf (h : mH) : mUp h h := ⟨Nat.le_refl _, Nat.le_refl _⟩
theorem mUp.tr {a b c : mH} (h1 : mUp a b) (h2 : mUp b c) : mUp a c := ⟨Nat.le_trans h1.1 h2.1, Nat.le_trans h1.2 h2.2⟩
theorem mSl_set {h : mH} {a : Nat} {q q1 : mC} (hq : h[a]? = some q) (he : q1.2.length = q.2.length) : mSl (h.set a q1) = mSl h := by
  unfold mSl
  congr 1
  rw [List.map_set]
  apply List.ext_getElem?
  intro k
  by_cases hk : k = a
  · subst hk
    rw [List.getElem?_set]
    simp only [if_true, List.length_map]
    rw [List.getElem?_map, hq, if_pos (List.getElem?_eq_some_iff.mp hq).1]
    simp [he]
  · rw [List.getElem?_set_ne (Ne.symm hk)]
theorem mUp.set {h : mH} {a : Nat} {q q1 : mC} (hq : h[a]? = some q) (he : q1.2.length = q.2.length) : mUp h (h.set a q1) := ⟨by simp, by rw [mSl_set hq he]; exact Nat.le_refl _⟩
theorem mUp.push (h : mH) (q : mC) : mUp h (h ++ [q]) := ⟨by simp, by rw [mSl_app]; omega⟩
section MUP
variable {en : mE} {i : Nat} {L : mL} {st : List Value} {h : mH} {g : mG} {tab : List mM} {xs : Nat → List Int32} {call : Nat → List Value → mH → Option mR}
set_option maxHeartbeats 4000000 in
theorem mA1_up (hs : mA1 en i L st h = some g) : mUp h g.2.2.2 := by
  unfold mA1 mLd mSt mStJ at hs
  (repeat' split at hs) <;> first | (cases hs; exact mUp.rf _) | cases hs
theorem mA2_up (hs : mA2 en i L st h = some g) : mUp h g.2.2.2 := by
  unfold mA2 at hs
  (repeat' split at hs) <;> first | (cases hs; exact mUp.rf _) | cases hs
theorem mB1_up (hs : mB1 en i L st h = some g) : mUp h g.2.2.2 := by
  unfold mB1 at hs
  (repeat' split at hs) <;> first | (cases hs; exact mUp.rf _) | cases hs
theorem mB2_up (hs : mB2 en i L st h = some g) : mUp h g.2.2.2 := by
  unfold mB2 at hs
  (repeat' split at hs) <;> first | (cases hs; exact mUp.rf _) | cases hs
theorem mB3_up (hs : mB3 en i L st h = some g) : mUp h g.2.2.2 := by
  unfold mB3 mIf at hs
  (repeat' split at hs) <;> first | (cases hs; exact mUp.rf _) | (cases hs; split <;> exact mUp.rf _) | cases hs
theorem mF1_up (hs : mF1 en i L st h = some g) : mUp h g.2.2.2 := by
  unfold mF1 at hs
  (repeat' split at hs) <;> first | (cases hs; exact mUp.rf _) | (rename_i hq _; cases hs; exact mUp.set hq (by simp)) | cases hs
theorem mF2_up (hs : mF2 xs en i L st h = some g) : mUp h g.2.2.2 := by
  unfold mF2 at hs
  (repeat' split at hs) <;> first | (cases hs; exact mUp.rf _) | cases hs
theorem mF3_up (hs : mF3 en i L st h = some g) : mUp h g.2.2.2 := by
  unfold mF3 at hs
  (repeat' split at hs) <;> first | (rename_i hq _; cases hs; exact mUp.set hq (by simp)) | (rename_i hq _ _; cases hs; exact mUp.set hq (by simp)) | (rename_i hq _ _ _; cases hs; exact mUp.set hq (by simp)) | (rename_i hq _ _ _ _; cases hs; exact mUp.set hq (by simp)) | cases hs
theorem mN1_up (hs : mN1 en i L st h = some g) : mUp h g.2.2.2 := by
  unfold mN1 at hs
  (repeat' split at hs) <;> first | (cases hs; exact mUp.push _ _) | cases hs
theorem mG1_up (hc : ∀ k av h0 r, call k av h0 = some r → mUp h0 r.2) (hs : mG1 tab call en i L st h = some g) : mUp h g.2.2.2 := by
  unfold mG1 at hs
  split at hs
  · split at hs
    · split at hs
      · split at hs
        · rename_i r hr
          cases hs
          exact hc _ _ _ _ hr
        · cases hs
      · cases hs
    · cases hs
  · cases hs
theorem mG2_up (hs : mG2 en i L st h = some g) : mUp h g.2.2.2 := by
  unfold mG2 at hs
  (repeat' split at hs) <;> first | (cases hs; exact mUp.rf _) | (rename_i hq _ _; cases hs; exact mUp.set hq (by simp [mCpy])) | (rename_i hq _; cases hs; exact mUp.set hq (by simp [mCpy])) | cases hs
theorem mA1_eqs (hs : mA1 en i L st h = some g) : g.2.2.2 = h ∧ g.2.1.length = L.length := by
  unfold mA1 mLd mSt mStJ at hs
  (repeat' split at hs) <;> first | (cases hs; exact ⟨rfl, rfl⟩) | (cases hs; exact ⟨rfl, mS1_len _ _ _⟩) | (cases hs; exact ⟨rfl, mS2_len _ _ _⟩) | cases hs
theorem mA2_eqs (hs : mA2 en i L st h = some g) : g.2.2.2 = h ∧ g.2.1.length = L.length := by
  unfold mA2 at hs
  (repeat' split at hs) <;> first | (cases hs; exact ⟨rfl, rfl⟩) | (cases hs; exact ⟨rfl, mS1_len _ _ _⟩) | cases hs
theorem mB1_eqs (hs : mB1 en i L st h = some g) : g.2.2.2 = h ∧ g.2.1.length = L.length := by
  unfold mB1 at hs
  (repeat' split at hs) <;> first | (cases hs; exact ⟨rfl, rfl⟩) | cases hs
theorem mB2_eqs (hs : mB2 en i L st h = some g) : g.2.2.2 = h ∧ g.2.1.length = L.length := by
  unfold mB2 at hs
  (repeat' split at hs) <;> first | (cases hs; exact ⟨rfl, rfl⟩) | cases hs
theorem mB3_eqs (hs : mB3 en i L st h = some g) : g.2.2.2 = h ∧ g.2.1.length = L.length := by
  unfold mB3 mIf at hs
  (repeat' split at hs) <;> first | (cases hs; exact ⟨rfl, rfl⟩) | (cases hs; split <;> exact ⟨rfl, rfl⟩) | cases hs
theorem mF2_eqs (hs : mF2 xs en i L st h = some g) : g.2.2.2 = h ∧ g.2.1.length = L.length := by
  unfold mF2 at hs
  (repeat' split at hs) <;> first | (cases hs; exact ⟨rfl, rfl⟩) | cases hs
theorem mF1_eqs (hs : mF1 en i L st h = some g) : (g.2.2.2.length = h.length ∧ mSl g.2.2.2 = mSl h) ∧ g.2.1.length = L.length := by
  unfold mF1 at hs
  (repeat' split at hs) <;> first | (cases hs; exact ⟨⟨rfl, rfl⟩, rfl⟩) | (rename_i hq _; cases hs; exact ⟨⟨by simp, mSl_set hq (by simp)⟩, rfl⟩) | cases hs
theorem mF3_eqs (hs : mF3 en i L st h = some g) : (g.2.2.2.length = h.length ∧ mSl g.2.2.2 = mSl h) ∧ g.2.1.length = L.length := by
  unfold mF3 at hs
  (repeat' split at hs) <;> first | (rename_i hq _; cases hs; exact ⟨⟨by simp, mSl_set hq (by simp)⟩, rfl⟩) | (rename_i hq _ _; cases hs; exact ⟨⟨by simp, mSl_set hq (by simp)⟩, rfl⟩) | (rename_i hq _ _ _; cases hs; exact ⟨⟨by simp, mSl_set hq (by simp)⟩, rfl⟩) | (rename_i hq _ _ _ _; cases hs; exact ⟨⟨by simp, mSl_set hq (by simp)⟩, rfl⟩) | cases hs
theorem mG2_eqs (hs : mG2 en i L st h = some g) : (g.2.2.2.length = h.length ∧ mSl g.2.2.2 = mSl h) ∧ g.2.1.length = L.length := by
  unfold mG2 at hs
  (repeat' split at hs) <;> first | (cases hs; exact ⟨⟨rfl, rfl⟩, rfl⟩) | (rename_i hq _ _; cases hs; exact ⟨⟨by simp, mSl_set hq (by simp [mCpy])⟩, rfl⟩) | (rename_i hq _; cases hs; exact ⟨⟨by simp, mSl_set hq (by simp [mCpy])⟩, rfl⟩) | cases hs
theorem mN1_eqs (hs : mN1 en i L st h = some g) : g.2.2.2.length = h.length + 1 ∧ g.2.1.length = L.length := by
  unfold mN1 at hs
  (repeat' split at hs) <;> first | (cases hs; exact ⟨by simp, rfl⟩) | cases hs
theorem mG1_eqs (hs : mG1 tab call en i L st h = some g) : g.2.1.length = L.length := by
  unfold mG1 at hs
  split at hs
  · split at hs
    · split at hs
      · split at hs
        · cases hs; rfl
        · cases hs
      · cases hs
    · cases hs
  · cases hs
theorem mStep_up (hc : ∀ k av h0 r, call k av h0 = some r → mUp h0 r.2) {g0 : mG} (hs : mStep tab xs call en g0 = some g) : mUp g0.2.2.2 g.2.2.2 := by
  unfold mStep at hs
  simp only [Option.or_eq_some_iff] at hs
  rcases hs with h | ⟨-, h | ⟨-, h | ⟨-, h | ⟨-, h | ⟨-, h | ⟨-, h | ⟨-, h | ⟨-, h | ⟨-, h | ⟨-, h⟩⟩⟩⟩⟩⟩⟩⟩⟩⟩
  · exact mA1_up h
  · exact mB1_up h
  · exact mB3_up h
  · exact mF1_up h
  · exact mG1_up hc h
  · exact mF2_up h
  · exact mF3_up h
  · exact mA2_up h
  · exact mB2_up h
  · exact mN1_up h
  · exact mG2_up h
theorem mRt_h {rt : Option FieldType} {r : mR} (hs : mRt rt en st h = some r) : r.2 = h := by
  unfold mRt at hs
  (repeat' split at hs) <;> first | (cases hs; rfl) | cases hs
theorem mRun_up (hc : ∀ k av h0 r, call k av h0 = some r → mUp h0 r.2) {rt : Option FieldType} {cs : List mE} : ∀ (n : Nat) (g : mG) (r : mR), mRun tab xs call rt cs n g = some r → mUp g.2.2.2 r.2 := by
  intro n
  induction n with
  | zero => intro g r h; cases h
  | succ n ih =>
    intro g r hs
    unfold mRun at hs
    split at hs
    · cases hs
    · split at hs
      · rename_i hr
        cases hs
        rw [mRt_h hr]
        exact mUp.rf _
      · split at hs
        · rename_i g1 hg
          exact (mStep_up hc hg).tr (ih g1 r hs)
        · cases hs
theorem mEval_up : ∀ (d n k : Nat) (av : List Value) (h0 : mH) (r : mR), mEval tab xs d n k av h0 = some r → mUp h0 r.2 := by
  intro d
  induction d with
  | zero => intro n k av h0 r h; cases h
  | succ d ih =>
    intro n k av h0 r hs
    unfold mEval at hs
    split at hs
    · exact mRun_up (fun k av h0 r h => ih n k av h0 r h) n _ r hs
    · cases hs
end MUP
/-- what a place of a method's code must be -/
def mSwi : Instr → Bool
  | .tableswitch .. => true
  | .lookupswitch .. => true
  | _ => false
def mFal : Instr → Bool
  | .tableswitch .. => false
  | .lookupswitch .. => false
  | .goto _ => false
  | .ireturn => false
  | .lreturn => false
  | .areturn => false
  | .return_ => false
  | _ => true
def mLnkK (own : String) (en : mE) : Bool := match en.2.1 with
  | .ldc idx => mHas (mTgt en 4) (.constant own idx (Int32.ofInt (en.2.2.2.getD 1 0)))
  | .ldc_w idx => mHas (mTgt en 4) (.constant own idx (Int32.ofInt (en.2.2.2.getD 1 0)))
  | .ldc2_w idx => mHas (mTgt en 4) (.constantLong own idx (Int64.ofInt (en.2.2.2.getD 1 0)))
  | _ => true
def mEok (tab : List mM) (own : String) (ini : Bool) (bs : ByteArray) (cs : List mE) (i : Nat) (en : mE) : Bool :=
  decide (decode bs en.1 = .ok (en.2.1, en.2.2.1)) && ((mSwi en.2.1 || decide (en.2.2.1 = mLen en.2.1)) && ((!mFal en.2.1 || decide (mPcAt cs (i + 1) = en.1 + mLen en.2.1)) && (mJok cs i en && (mLnkF own ini en && (mLnkS own en && (mLnkN own en && (mLnkC tab own en && mLnkK own en)))))))
def mCok (tab : List mM) (own : String) (ini : Bool) (bs : ByteArray) (cs : List mE) : Bool := cs.zipIdx.all (fun q => mEok tab own ini bs cs q.2 q.1)
theorem mCok_at {tab : List mM} {own : String} {ini : Bool} {bs : ByteArray} {cs : List mE} (h : mCok tab own ini bs cs = true) {i : Nat} {en : mE} (he : cs[i]? = some en) : mEok tab own ini bs cs i en = true :=
  List.all_eq_true.mp h (en, i) (List.mem_zipIdx_iff_getElem?.mpr he)
/-- how a method may end -/
def mEnd (rt : Option FieldType) (v : Option Value) (ins : Instr) : Prop := match ins with
  | .ireturn => ∃ z ty, v = some (.int z) ∧ rt = some ty ∧ narrow ty (.int z) = .int z
  | .lreturn => ∃ z, v = some (.long z) ∧ rt = some .long
  | .areturn => ∃ z C, v = some z ∧ rt = some (.object C) ∧ mIsA z = true
  | .return_ => v = none ∧ rt = none
  | _ => False
theorem mRt_end {rt : Option FieldType} {en : mE} {st : List Value} {h : mH} {r : mR} (hs : mRt rt en st h = some r) : mEnd rt r.1 en.2.1 ∧ st = r.1.toList := by
  unfold mRt at hs
  split at hs
  · rename_i heq
    split at hs
    · rename_i v
      split at hs
      · rename_i ty
        split at hs
        · rename_i hn
          cases hs
          rw [heq]
          exact ⟨⟨v, ty, rfl, rfl, hn⟩, rfl⟩
        · cases hs
      · cases hs
    · cases hs
  · rename_i heq
    split at hs
    · rename_i v
      split at hs
      · rename_i hn
        cases hs
        rw [heq]
        exact ⟨⟨v, rfl, hn⟩, rfl⟩
      · cases hs
    · cases hs
  · rename_i heq
    split at hs
    · rename_i v
      split at hs
      · rename_i C
        split at hs
        · rename_i hn
          cases hs
          rw [heq]
          exact ⟨⟨v, C, rfl, rfl, hn⟩, rfl⟩
        · cases hs
      · cases hs
    · cases hs
  · rename_i heq
    split at hs
    · split at hs
      · rename_i hn
        cases hs
        rw [heq]
        exact ⟨⟨rfl, hn⟩, rfl⟩
      · cases hs
    · cases hs
  · cases hs
section MSIM
variable {p : Program} {l : Launch} {e : Env} {R : Room} {s : State} {m : MethodId} {args : Array Value} {below : List Frame} {meth : Method} {c : Code} {Q : State → Prop}
variable {cc : ByteArray} {cs : List mE} {b : Nat} {x : Nat → Nat} {xs : Nat → List Int32} {D : va_G} {cA : Nat → ClassId} {own : String} {ini : Bool} {tab : List mM} {call : Nat → List Value → mH → Option mR} {d : Nat} {rt : Option FieldType} {nL : Nat}
set_option maxHeartbeats 4000000 in
theorem mRun_sim (hx : p.tables.exec = Jvm.exec) (hb : c.code = cc) (hml : c.maxLocals = nL) (hown : s.vm.findClass own = some m.cls) (hin : ini = true → meth.name = "<init>") (hts : ∀ w ∈ mW, w.before args s = true) (hE : mEv D cA b x xs s) (hbs : b ≤ s.heap.size)
    (hcs : mCok tab own ini cc cs = true) (htab : ∀ (k : Nat) (t : mM), tab[k]? = some t → mMok t = true)
    (hcall : ∀ (k : Nat) (t : mM) (av : List Value) (h0 : mH) (r : mR), tab[k]? = some t → (mEnt av).length ≤ mMX t → call k av h0 = some r → mMet l D cA b x xs d t av h0 r) (hcu : ∀ k av h0 r, call k av h0 = some r → mUp h0 r.2)
    (hRf : d + 1 ≤ R.frames ∧ 60 * (d + 1) ≤ R.locals) (h0 : mH) (r : mR) (hRc : r.2.length - h0.length ≤ R.cells) (hRs : mSl r.2 - mSl h0 ≤ R.slots)
    (hret : ∀ (H1 : Heap) (locs1 : List Loc) (pc : Nat) (ls : Array Slot) (ins : Instr), mRel D cA b x r.2 H1 → va_S (fun q => b ≤ q) s.heap H1 locs1 → decode cc pc = .ok (ins, 1) → mEnd rt r.1 ins → W p l e R s m args below meth c H1 locs1 (r.2.length - h0.length) (mSl r.2 - mSl h0) Q (F0 m pc ls ((r.1.map (mSh b x)).toList))) :
    ∀ (n : Nat) (g : mG), mRun tab xs call rt cs n g = some r → g.2.1.length = nL → mUp h0 g.2.2.2 → ∀ (H : Heap) (locs : List Loc), mRel D cA b x g.2.2.2 H → va_S (fun q => b ≤ q) s.heap H locs → mFol p l e R s m args below meth c cs (mSh b x) Q H locs (g.2.2.2.length - h0.length) (mSl g.2.2.2 - mSl h0) g := by
  intro n
  induction n with
  | zero => intro g h; cases h
  | succ n ih =>
    intro g hs hL hu H locs hR hS
    have hs0 := hs
    unfold mRun at hs
    split at hs
    · cases hs
    · rename_i en hen
      have hok := mCok_at hcs hen
      unfold mEok at hok
      simp only [Bool.and_eq_true, Bool.or_eq_true, decide_eq_true_eq] at hok
      obtain ⟨k1, k2, k3, k4, k5, k6, k7, k8, k9⟩ := hok
      have hpc : mPcAt cs g.1 = en.1 := by unfold mPcAt; rw [hen]
      rw [← hpc] at k1 k3
      split at hs
      · rename_i r0 hr
        cases hs
        obtain ⟨e1, e2⟩ := mRt_end hr
        have e3 := mRt_h hr
        have hins : en.2.2.1 = 1 := by
          rcases k2 with k2 | k2
          · exfalso
            cases hi : en.2.1 <;> rw [hi] at k2 e1 <;> first | exact e1 | cases k2
          · rw [k2]
            cases hi : en.2.1 <;> rw [hi] at e1 <;> first | rfl | exact e1.elim
        rw [hins] at k1
        intro ls hl
        rw [e2, show r.1.toList.map (mSh b x) = (r.1.map (mSh b x)).toList by cases r.1 <;> rfl, ← e3]
        rw [← e3] at hR
        exact hret H locs _ ls _ hR hS k1 e1
      · split at hs
        · rename_i g1 hg
          have hup := mStep_up hcu hg
          have hup2 := mRun_up hcu n g1 r hs
          have hu1 := hu.tr hup
          obtain ⟨u1, u2⟩ := hu
          obtain ⟨u3, u4⟩ := hup
          obtain ⟨u5, u6⟩ := hup2
          have ih1 := ih g1 hs
          obtain ⟨i, L, st, h⟩ := g
          dsimp only at hL u1 u2 u3 u4 hR hpc k1 k3 k4 hg ⊢
          have fal : mFal en.2.1 = true → mPcAt cs (i + 1) = mPcAt cs i + mLen en.2.1 := fun hq => by
            rcases k3 with k3 | k3
            · rw [hq] at k3; cases k3
            · exact k3
          have nsw : mSwi en.2.1 = false → decode cc (mPcAt cs i) = .ok (en.2.1, mLen en.2.1) := fun hq => by
            rcases k2 with k2 | k2
            · rw [hq] at k2; cases k2
            · rw [← k2]; exact k1
          unfold mStep at hg
          simp only [Option.or_eq_some_iff] at hg
          rcases hg with hg | ⟨-, hg | ⟨-, hg | ⟨-, hg | ⟨-, hg | ⟨-, hg | ⟨-, hg | ⟨-, hg | ⟨-, hg | ⟨-, hg | ⟨-, hg⟩⟩⟩⟩⟩⟩⟩⟩⟩⟩
          · have hf : mFal en.2.1 = true ∧ mSwi en.2.1 = false := by
              unfold mA1 at hg
              split at hg <;> first | (rename_i heq; rw [heq]; exact ⟨rfl, rfl⟩) | cases hg
            have hh := mA1_eqs hg
            have ih2 := ih1 (hh.2.trans hL) hu1 H locs (by rw [hh.1]; exact hR) hS
            rw [hh.1] at ih2
            exact (mA1_sim (p := p) (l := l) (e := e) (R := R) (s := s) (m := m) (args := args) (below := below) (meth := meth) (c := c) (H := H) (locs := locs) (cells := h.length - h0.length) (slots := mSl h - mSl h0) (Q := Q) (b := b) (x := x) (cs := cs) hx hb trivial (nsw hf.2) (fal hf.1) (fun idx => ⟨fun hi => ⟨own, hown, by
              unfold mLnkK at k9
              rcases hi with hi | hi <;> rw [hi] at k9 <;> exact hts _ (mHas_ok k9)⟩, fun hi => ⟨own, hown, by
              unfold mLnkK at k9
              rw [hi] at k9
              exact hts _ (mHas_ok k9)⟩⟩) hg ih2).1
          · have hf : mFal en.2.1 = true ∧ mSwi en.2.1 = false := by
              unfold mB1 at hg
              split at hg <;> first | (rename_i heq; rw [heq]; exact ⟨rfl, rfl⟩) | cases hg
            have hh := mB1_eqs hg
            have ih2 := ih1 (hh.2.trans hL) hu1 H locs (by rw [hh.1]; exact hR) hS
            rw [hh.1] at ih2
            exact (mB1_sim (p := p) (l := l) (e := e) (R := R) (s := s) (m := m) (args := args) (below := below) (meth := meth) (c := c) (H := H) (locs := locs) (cells := h.length - h0.length) (slots := mSl h - mSl h0) (Q := Q) (b := b) (x := x) (cs := cs) hx hb (nsw hf.2) (fal hf.1) hg ih2).1
          · have hh := mB3_eqs hg
            have ih2 := ih1 (hh.2.trans hL) hu1 H locs (by rw [hh.1]; exact hR) hS
            rw [hh.1] at ih2
            refine (mB3_sim (p := p) (l := l) (e := e) (R := R) (s := s) (m := m) (args := args) (below := below) (meth := meth) (c := c) (H := H) (locs := locs) (cells := h.length - h0.length) (slots := mSl h - mSl h0) (Q := Q) (b := b) (x := x) (cs := cs) hx hb k1 ?_ ?_ k4 hg ih2).1
            · rcases k2 with k2 | k2
              · refine Or.inr ?_
                cases hi : en.2.1 <;> rw [hi] at k2 <;> first | exact Or.inl ⟨_, _, _, _, rfl⟩ | exact Or.inr ⟨_, _, rfl⟩ | cases k2
              · exact Or.inl k2
            · intro hq
              refine fal ?_
              rcases hq with ⟨_, _, hq⟩ | ⟨_, _, hq⟩ | ⟨_, hq⟩ | ⟨_, hq⟩ <;> rw [hq] <;> rfl
          · have hf : mFal en.2.1 = true ∧ mSwi en.2.1 = false := by
              unfold mF1 at hg
              split at hg <;> first | (rename_i heq; rw [heq]; exact ⟨rfl, rfl⟩) | cases hg
            have hh := mF1_eqs hg
            refine (mF1_sim (p := p) (l := l) (e := e) (R := R) (s := s) (m := m) (args := args) (below := below) (meth := meth) (c := c) (H := H) (locs := locs) (cells := h.length - h0.length) (slots := mSl h - mSl h0) (Q := Q) (b := b) (x := x) (cs := cs) (ini := ini) hx hb hown hin hts hE.1 hE.2.2.2.2.1 hR hS (nsw hf.2) (fal hf.1) k5 hg fun H1 locs1 q1 q2 => ?_).1
            have ih2 := ih1 (hh.2.trans hL) hu1 H1 locs1 q1 q2
            rw [hh.1.1, hh.1.2] at ih2
            exact ih2
          · have hf : mFal en.2.1 = true ∧ mSwi en.2.1 = false := by
              unfold mG1 at hg
              split at hg
              · rename_i hq
                cases hi : en.2.1 <;> rw [hi] at hq <;> first | exact ⟨rfl, rfl⟩ | cases hq.1
              · cases hg
            have hh := mG1_eqs hg
            refine (mG1_sim (p := p) (l := l) (e := e) (R := R) (s := s) (m := m) (args := args) (below := below) (meth := meth) (c := c) (H := H) (locs := locs) (cells := h.length - h0.length) (slots := mSl h - mSl h0) (Q := Q) (b := b) (x := x) (cs := cs) (xs := xs) hx hb (hml.trans hL.symm) hown hts hE hR hS (nsw hf.2) (fal hf.1) k8 htab (fun k t av h1 r1 e1 e2 e3 => ⟨hcall k t av h1 r1 e1 e2 e3, hcu k av h1 r1 e3⟩) hRf hg (by omega) (by omega) fun H1 locs1 q1 q2 => ?_).1
            have ih2 := ih1 (hh.trans hL) hu1 H1 locs1 q1 q2
            rw [show h.length - h0.length + (g1.2.2.2.length - h.length) = g1.2.2.2.length - h0.length by omega, show mSl h - mSl h0 + (mSl g1.2.2.2 - mSl h) = mSl g1.2.2.2 - mSl h0 by omega]
            exact ih2
          · have hf : mFal en.2.1 = true ∧ mSwi en.2.1 = false := by
              unfold mF2 at hg
              split at hg <;> first | (rename_i heq; rw [heq]; exact ⟨rfl, rfl⟩) | cases hg
            have hh := mF2_eqs hg
            have ih2 := ih1 (hh.2.trans hL) hu1 H locs (by rw [hh.1]; exact hR) hS
            rw [hh.1] at ih2
            exact (mF2_sim (p := p) (l := l) (e := e) (R := R) (s := s) (m := m) (args := args) (below := below) (meth := meth) (c := c) (H := H) (locs := locs) (cells := h.length - h0.length) (slots := mSl h - mSl h0) (Q := Q) (b := b) (x := x) (cs := cs) (xs := xs) hx hb hown hts hE hR hS (nsw hf.2) (fal hf.1) k6 hg ih2).1
          · have hf : mFal en.2.1 = true ∧ mSwi en.2.1 = false := by
              unfold mF3 at hg
              split at hg <;> first | (rename_i heq; rw [heq]; exact ⟨rfl, rfl⟩) | cases hg
            have hh := mF3_eqs hg
            refine (mF3_sim (p := p) (l := l) (e := e) (R := R) (s := s) (m := m) (args := args) (below := below) (meth := meth) (c := c) (H := H) (locs := locs) (cells := h.length - h0.length) (slots := mSl h - mSl h0) (Q := Q) (b := b) (x := x) (cs := cs) hx hb hE.1 hR hS (nsw hf.2) (fal hf.1) hg fun H1 locs1 q1 q2 => ?_).1
            have ih2 := ih1 (hh.2.trans hL) hu1 H1 locs1 q1 q2
            rw [hh.1.1, hh.1.2] at ih2
            exact ih2
          · have hf : mFal en.2.1 = true ∧ mSwi en.2.1 = false := by
              unfold mA2 at hg
              split at hg <;> first | (rename_i heq; rw [heq]; exact ⟨rfl, rfl⟩) | cases hg
            have hh := mA2_eqs hg
            have ih2 := ih1 (hh.2.trans hL) hu1 H locs (by rw [hh.1]; exact hR) hS
            rw [hh.1] at ih2
            exact (mA2_sim (p := p) (l := l) (e := e) (R := R) (s := s) (m := m) (args := args) (below := below) (meth := meth) (c := c) (H := H) (locs := locs) (cells := h.length - h0.length) (slots := mSl h - mSl h0) (Q := Q) (b := b) (x := x) (cs := cs) hx hb (nsw hf.2) (fal hf.1) hg ih2).1
          · have hf : mFal en.2.1 = true ∧ mSwi en.2.1 = false := by
              unfold mB2 at hg
              split at hg <;> first | (rename_i heq; rw [heq]; exact ⟨rfl, rfl⟩) | cases hg
            have hh := mB2_eqs hg
            have ih2 := ih1 (hh.2.trans hL) hu1 H locs (by rw [hh.1]; exact hR) hS
            rw [hh.1] at ih2
            exact (mB2_sim (p := p) (l := l) (e := e) (R := R) (s := s) (m := m) (args := args) (below := below) (meth := meth) (c := c) (H := H) (locs := locs) (cells := h.length - h0.length) (slots := mSl h - mSl h0) (Q := Q) (b := b) (x := x) (cs := cs) hx hb (nsw hf.2) (fal hf.1) hg ih2).1
          · have hf : mFal en.2.1 = true ∧ mSwi en.2.1 = false := by
              unfold mN1 at hg
              split at hg <;> first | (rename_i heq; rw [heq]; exact ⟨rfl, rfl⟩) | cases hg
            have hh := mN1_eqs hg
            refine (mN1_sim (p := p) (l := l) (e := e) (R := R) (s := s) (m := m) (args := args) (below := below) (meth := meth) (c := c) (H := H) (locs := locs) (cells := h.length - h0.length) (slots := mSl h - mSl h0) (Q := Q) (b := b) (x := x) (cs := cs) (xs := xs) hx hb hown hts hE hbs hR hS (nsw hf.2) (fal hf.1) k7 hg (by omega) (by omega) fun H1 q1 q2 => ?_).1
            have ih2 := ih1 (hh.2.trans hL) hu1 H1 locs q1 q2
            rw [show h.length - h0.length + 1 = g1.2.2.2.length - h0.length by omega, show mSl h - mSl h0 + (mSl g1.2.2.2 - mSl h) = mSl g1.2.2.2 - mSl h0 by omega]
            exact ih2
          · have hf : mFal en.2.1 = true ∧ mSwi en.2.1 = false := by
              unfold mG2 at hg
              split at hg <;> first | (rename_i heq; rw [heq]; exact ⟨rfl, rfl⟩) | cases hg
            have hh := mG2_eqs hg
            refine (mG2_sim (p := p) (l := l) (e := e) (R := R) (s := s) (m := m) (args := args) (below := below) (meth := meth) (c := c) (H := H) (locs := locs) (cells := h.length - h0.length) (slots := mSl h - mSl h0) (Q := Q) (b := b) (x := x) (cs := cs) (xs := xs) (tab := tab) hx hb (hml.trans hL.symm) hown hts hE hR hS (nsw hf.2) (fal hf.1) k8 hRf hg fun H1 locs1 q1 q2 => ?_).1
            have ih2 := ih1 (hh.2.trans hL) hu1 H1 locs1 q1 q2
            rw [hh.1.1, hh.1.2] at ih2
            exact ih2
        · cases hs
end MSIM
end
section
/-! each method of the table, as a contract -/
def mTok (tab : List mM) (t : mM) : Bool := mMok t && (mCok tab (mMY t).cls (decide ((mMY t).name = "<init>")) (mMB t) (mMC t) && (plainFor (mMY t) && decide (mPcAt (mMC t) 0 = 0)))
section MMET
variable {b : Nat} {x : Nat → Nat} {xs : Nat → List Int32} {D : va_G} {cA : Nat → ClassId} {tab : List mM}
set_option maxHeartbeats 4000000 in
theorem mEval_met (l : Launch) (htab : ∀ (k : Nat) (t : mM), tab[k]? = some t → mTok tab t = true) : ∀ (d n k : Nat) (t : mM) (av : List Value) (h : mH) (r : mR), tab[k]? = some t → (mEnt av).length ≤ mMX t → mEval tab xs d n k av h = some r → mMet l D cA b x xs d t av h r := by
  intro d
  induction d with
  | zero => intro n k t av h r _ _ hs; cases hs
  | succ d ih =>
    intro n k t av h r ht hen hs
    have hup := mEval_up _ _ _ _ _ _ hs
    unfold mEval at hs
    rw [ht] at hs
    dsimp only at hs
    have htk := htab k t ht
    unfold mTok at htk
    simp only [Bool.and_eq_true] at htk
    obtain ⟨-, hcs, hpl, hp0⟩ := htk
    have hp0 := of_decide_eq_true hp0
    refine va_MetF (cc := mMB t) (maxL := mMX t) (ret := mMT t) hpl rfl ?_
    intro p e s m args below meth c s₁ B hml hv
    obtain ⟨rfl, hR, hE⟩ := hv
    have hx := B.exec
    have hb := B.bytes
    have hr := B.returns
    have hts0 := atoms_spec (ws := mWs t) B.pre
    have hts : ∀ w ∈ mW, w.before (av.map (mSh b x)).toArray s = true := fun w hw => hts0 w (List.mem_cons_of_mem _ hw)
    have hown : s.vm.findClass (mMY t).cls = some m.cls := findClass_of_methodNamed B.named
    have hlocks := B.notSynchronized
    have hnm : meth.name = (mMY t).name := (name_of_methodNamed B.named B.method).1
    have hbs : b ≤ s.heap.size := by rw [hR.1]; exact Nat.le_add_right _ _
    have hkey := mRun_sim (p := p) (l := l) (e := e) (R := mRm (d + 1) (r.2.length - h.length) (mSl r.2 - mSl h)) (s := s) (m := m) (args := (av.map (mSh b x)).toArray) (below := below) (meth := meth) (c := c) (Q := MQ below (mQc D cA b x r) (av.map (mSh b x)).toArray s (r.2.length - h.length) (mSl r.2 - mSl h) (fun q => b ≤ q)) (cs := mMC t) (own := (mMY t).cls) (ini := decide ((mMY t).name = "<init>")) (tab := tab) (call := mEval tab xs d n) (d := d) (rt := mMT t) (nL := mMX t) (D := D) (cA := cA)
      hx hb hml hown (fun hq => hnm.trans (of_decide_eq_true hq)) hts hE hbs hcs (fun k1 t1 h1 => by
        have h2 := htab k1 t1 h1
        unfold mTok at h2
        simp only [Bool.and_eq_true] at h2
        exact h2.1) (fun k1 t1 av1 h1 r1 e1 e2 e3 => ih n k1 t1 av1 h1 r1 e1 e2 e3) (fun k1 av1 h1 r1 e1 => mEval_up _ _ _ _ _ _ e1) ⟨Nat.le_refl _, Nat.le_refl _⟩ h r (Nat.le_refl _) (Nat.le_refl _)
      (fun H1 locs1 pc ls ins q1 q2 q3 q4 => by
        have hq : ∀ (v : Option Value), v = r.1.map (mSh b x) → ∀ t1 : State, t1.heap = H1 → s.WarmedH t1.vm → mQc D cA b x r (av.map (mSh b x)).toArray s (.returned v) t1 := fun v hv t1 ht1 _ => ⟨by rw [hv], by rw [ht1]; exact q1, q2.F ht1⟩
        cases ins <;> first | exact q4.elim | skip
        · obtain ⟨z, C, e1, e2, e3⟩ := q4
          rw [e1] at hq ⊢
          have h4 := mIsA_spec b x e3
          exact W.aret hx hb (hr.trans e2) (Or.inl ⟨C, rfl⟩) h4 (hq _ rfl) q2.2.2 q3
        · obtain ⟨z, ty, e1, e2, e3⟩ := q4
          rw [e1] at hq ⊢
          exact W.zret hx hb (hr.trans e2) e3 (hq _ rfl) q2.2.2 q3
        · obtain ⟨z, e1, e2⟩ := q4
          rw [e1] at hq ⊢
          exact W.lret hx hb (hr.trans e2) (hq _ rfl) q2.2.2 q3
        · obtain ⟨e1, e2⟩ := q4
          rw [e1] at hq ⊢
          exact W.vret hx hb (hr.trans e2) (hq _ rfl) q2.2.2 q3)
      n (0, mEntL (mMX t) av, [], h) hs (mEntL_len _ _ hen) (mUp.rf h) s.heap [] hR va_S.rf
    rw [lg_entry_eq]
    have h1 := hkey _ (by
      dsimp only
      rw [mEntL_len _ _ hen]
      exact mEntL_has (mSh b x) (mSh_cat b x) av hen)
    dsimp only [List.map_nil] at h1
    rw [hp0, Nat.sub_self, Nat.sub_self] at h1
    exact h1
end MMET
end
