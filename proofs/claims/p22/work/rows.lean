section
-- ===== PART A: goes FIRST, ahead of the names: the tables' words, and 'selects' of the private methods out of them =====
/-- a private method of a class that the tables say can be made, by its rows of tables_1 -/
def lw_okq (q : MethodName × Nat) : Prop := (q.1.cls ≠ "java/lang/invoke/MethodHandle" ∧ q.1.cls ≠ "java/lang/invoke/VarHandle") ∧ Cond.instantiable q.1.cls q.2 ∈ tables_1 ∧ Cond.privateMethod q.1 ∈ tables_1 ∧ Cond.instanceMethod q.1 ∈ tables_1
theorem lw_p0 : lw_okq (⟨"FirstLanding", "rowAt", "(I)LFirstLanding$Row;"⟩, 12) := ⟨⟨by decide +kernel, by decide +kernel⟩, List.mem_of_getElem? (i := 16) (by decide +kernel), List.mem_of_getElem? (i := 194) (by decide +kernel), List.mem_of_getElem? (i := 195) (by decide +kernel)⟩
theorem lw_p1 : lw_okq (⟨"FirstLanding", "found", "(I)I"⟩, 12) := ⟨⟨by decide +kernel, by decide +kernel⟩, List.mem_of_getElem? (i := 16) (by decide +kernel), List.mem_of_getElem? (i := 198) (by decide +kernel), List.mem_of_getElem? (i := 199) (by decide +kernel)⟩
theorem lw_p2 : lw_okq (⟨"FirstLanding$Row", "begin", "(I)V"⟩, 2) := ⟨⟨by decide +kernel, by decide +kernel⟩, List.mem_of_getElem? (i := 119) (by decide +kernel), List.mem_of_getElem? (i := 202) (by decide +kernel), List.mem_of_getElem? (i := 203) (by decide +kernel)⟩
theorem lw_p3 : lw_okq (⟨"FirstLanding$Row", "holds", "(II)Z"⟩, 2) := ⟨⟨by decide +kernel, by decide +kernel⟩, List.mem_of_getElem? (i := 119) (by decide +kernel), List.mem_of_getElem? (i := 228) (by decide +kernel), List.mem_of_getElem? (i := 229) (by decide +kernel)⟩
theorem lw_p4 : lw_okq (⟨"FirstLanding$Row", "total", "()J"⟩, 2) := ⟨⟨by decide +kernel, by decide +kernel⟩, List.mem_of_getElem? (i := 119) (by decide +kernel), List.mem_of_getElem? (i := 239) (by decide +kernel), List.mem_of_getElem? (i := 240) (by decide +kernel)⟩
theorem lw_p5 : lw_okq (⟨"FirstLanding", "textAt", "(I)LFirstLanding$Text;"⟩, 12) := ⟨⟨by decide +kernel, by decide +kernel⟩, List.mem_of_getElem? (i := 16) (by decide +kernel), List.mem_of_getElem? (i := 247) (by decide +kernel), List.mem_of_getElem? (i := 248) (by decide +kernel)⟩
theorem lw_p6 : lw_okq (⟨"FirstLanding$Text", "begin", "(I)V"⟩, 2) := ⟨⟨by decide +kernel, by decide +kernel⟩, List.mem_of_getElem? (i := 135) (by decide +kernel), List.mem_of_getElem? (i := 251) (by decide +kernel), List.mem_of_getElem? (i := 252) (by decide +kernel)⟩
theorem lw_p7 : lw_okq (⟨"FirstLanding$Reader", "read", "(LFirstLanding$Text;)I"⟩, 2) := ⟨⟨by decide +kernel, by decide +kernel⟩, List.mem_of_getElem? (i := 71) (by decide +kernel), List.mem_of_getElem? (i := 266) (by decide +kernel), List.mem_of_getElem? (i := 267) (by decide +kernel)⟩
theorem lw_p8 : lw_okq (⟨"FirstLanding$Reader", "skipBlanks", "(LFirstLanding$Text;)V"⟩, 2) := ⟨⟨by decide +kernel, by decide +kernel⟩, List.mem_of_getElem? (i := 71) (by decide +kernel), List.mem_of_getElem? (i := 270) (by decide +kernel), List.mem_of_getElem? (i := 271) (by decide +kernel)⟩
theorem lw_p9 : lw_okq (⟨"FirstLanding$Reader", "sign", "(LFirstLanding$Text;)I"⟩, 2) := ⟨⟨by decide +kernel, by decide +kernel⟩, List.mem_of_getElem? (i := 71) (by decide +kernel), List.mem_of_getElem? (i := 274) (by decide +kernel), List.mem_of_getElem? (i := 275) (by decide +kernel)⟩
theorem lw_p10 : lw_okq (⟨"FirstLanding$Embassy", "begin", "(I)V"⟩, 7) := ⟨⟨by decide +kernel, by decide +kernel⟩, List.mem_of_getElem? (i := 28) (by decide +kernel), List.mem_of_getElem? (i := 278) (by decide +kernel), List.mem_of_getElem? (i := 279) (by decide +kernel)⟩
theorem lw_p11 : lw_okq (⟨"FirstLanding$Reader", "readPerson", "(LFirstLanding$Text;I)Z"⟩, 2) := ⟨⟨by decide +kernel, by decide +kernel⟩, List.mem_of_getElem? (i := 71) (by decide +kernel), List.mem_of_getElem? (i := 282) (by decide +kernel), List.mem_of_getElem? (i := 283) (by decide +kernel)⟩
theorem lw_p12 : lw_okq (⟨"FirstLanding$Embassy", "become", "(LFirstLanding$Embassy;)V"⟩, 7) := ⟨⟨by decide +kernel, by decide +kernel⟩, List.mem_of_getElem? (i := 28) (by decide +kernel), List.mem_of_getElem? (i := 295) (by decide +kernel), List.mem_of_getElem? (i := 296) (by decide +kernel)⟩
theorem lw_p13 : lw_okq (⟨"FirstLanding$Embassy", "has", "(I)Z"⟩, 7) := ⟨⟨by decide +kernel, by decide +kernel⟩, List.mem_of_getElem? (i := 28) (by decide +kernel), List.mem_of_getElem? (i := 304) (by decide +kernel), List.mem_of_getElem? (i := 305) (by decide +kernel)⟩
theorem lw_p14 : lw_okq (⟨"FirstLanding$Embassy", "about", "(II)I"⟩, 7) := ⟨⟨by decide +kernel, by decide +kernel⟩, List.mem_of_getElem? (i := 28) (by decide +kernel), List.mem_of_getElem? (i := 308) (by decide +kernel), List.mem_of_getElem? (i := 309) (by decide +kernel)⟩
theorem lw_p15 : lw_okq (⟨"FirstLanding$Embassy", "seeming", "(II)I"⟩, 7) := ⟨⟨by decide +kernel, by decide +kernel⟩, List.mem_of_getElem? (i := 28) (by decide +kernel), List.mem_of_getElem? (i := 312) (by decide +kernel), List.mem_of_getElem? (i := 313) (by decide +kernel)⟩
def lw_privs_1 : List (MethodName × Nat) := [(⟨"FirstLanding", "rowAt", "(I)LFirstLanding$Row;"⟩, 12), (⟨"FirstLanding", "found", "(I)I"⟩, 12), (⟨"FirstLanding$Row", "begin", "(I)V"⟩, 2), (⟨"FirstLanding$Row", "holds", "(II)Z"⟩, 2), (⟨"FirstLanding$Row", "total", "()J"⟩, 2), (⟨"FirstLanding", "textAt", "(I)LFirstLanding$Text;"⟩, 12), (⟨"FirstLanding$Text", "begin", "(I)V"⟩, 2), (⟨"FirstLanding$Reader", "read", "(LFirstLanding$Text;)I"⟩, 2), (⟨"FirstLanding$Reader", "skipBlanks", "(LFirstLanding$Text;)V"⟩, 2), (⟨"FirstLanding$Reader", "sign", "(LFirstLanding$Text;)I"⟩, 2), (⟨"FirstLanding$Embassy", "begin", "(I)V"⟩, 7), (⟨"FirstLanding$Reader", "readPerson", "(LFirstLanding$Text;I)Z"⟩, 2), (⟨"FirstLanding$Embassy", "become", "(LFirstLanding$Embassy;)V"⟩, 7), (⟨"FirstLanding$Embassy", "has", "(I)Z"⟩, 7), (⟨"FirstLanding$Embassy", "about", "(II)I"⟩, 7), (⟨"FirstLanding$Embassy", "seeming", "(II)I"⟩, 7)]
theorem lw_r1 : ∀ q ∈ lw_privs_1, lw_okq q := List.forall_mem_cons.mpr ⟨lw_p0, List.forall_mem_cons.mpr ⟨lw_p1, List.forall_mem_cons.mpr ⟨lw_p2, List.forall_mem_cons.mpr ⟨lw_p3, List.forall_mem_cons.mpr ⟨lw_p4, List.forall_mem_cons.mpr ⟨lw_p5, List.forall_mem_cons.mpr ⟨lw_p6, List.forall_mem_cons.mpr ⟨lw_p7, List.forall_mem_cons.mpr ⟨lw_p8, List.forall_mem_cons.mpr ⟨lw_p9, List.forall_mem_cons.mpr ⟨lw_p10, List.forall_mem_cons.mpr ⟨lw_p11, List.forall_mem_cons.mpr ⟨lw_p12, List.forall_mem_cons.mpr ⟨lw_p13, List.forall_mem_cons.mpr ⟨lw_p14, List.forall_mem_cons.mpr ⟨lw_p15, fun _ h => absurd h List.not_mem_nil⟩⟩⟩⟩⟩⟩⟩⟩⟩⟩⟩⟩⟩⟩⟩⟩
theorem lw_p16 : lw_okq (⟨"FirstLanding$Embassy", "seemingAs", "(III)I"⟩, 7) := ⟨⟨by decide +kernel, by decide +kernel⟩, List.mem_of_getElem? (i := 28) (by decide +kernel), List.mem_of_getElem? (i := 316) (by decide +kernel), List.mem_of_getElem? (i := 317) (by decide +kernel)⟩
theorem lw_p17 : lw_okq (⟨"FirstLanding$Embassy", "look", "(II)I"⟩, 7) := ⟨⟨by decide +kernel, by decide +kernel⟩, List.mem_of_getElem? (i := 28) (by decide +kernel), List.mem_of_getElem? (i := 323) (by decide +kernel), List.mem_of_getElem? (i := 324) (by decide +kernel)⟩
theorem lw_p18 : lw_okq (⟨"FirstLanding$Embassy", "treatiesOf", "(I)I"⟩, 7) := ⟨⟨by decide +kernel, by decide +kernel⟩, List.mem_of_getElem? (i := 28) (by decide +kernel), List.mem_of_getElem? (i := 339) (by decide +kernel), List.mem_of_getElem? (i := 340) (by decide +kernel)⟩
theorem lw_p19 : lw_okq (⟨"FirstLanding$Embassy", "unmadeBy", "(I)I"⟩, 7) := ⟨⟨by decide +kernel, by decide +kernel⟩, List.mem_of_getElem? (i := 28) (by decide +kernel), List.mem_of_getElem? (i := 348) (by decide +kernel), List.mem_of_getElem? (i := 349) (by decide +kernel)⟩
theorem lw_p20 : lw_okq (⟨"FirstLanding$Embassy", "greatestTo", "(I)I"⟩, 7) := ⟨⟨by decide +kernel, by decide +kernel⟩, List.mem_of_getElem? (i := 28) (by decide +kernel), List.mem_of_getElem? (i := 366) (by decide +kernel), List.mem_of_getElem? (i := 367) (by decide +kernel)⟩
theorem lw_p21 : lw_okq (⟨"FirstLanding$Embassy", "leastTo", "(I)I"⟩, 7) := ⟨⟨by decide +kernel, by decide +kernel⟩, List.mem_of_getElem? (i := 28) (by decide +kernel), List.mem_of_getElem? (i := 370) (by decide +kernel), List.mem_of_getElem? (i := 371) (by decide +kernel)⟩
theorem lw_p22 : lw_okq (⟨"FirstLanding$Embassy", "howManyAre", "(I)I"⟩, 7) := ⟨⟨by decide +kernel, by decide +kernel⟩, List.mem_of_getElem? (i := 28) (by decide +kernel), List.mem_of_getElem? (i := 375) (by decide +kernel), List.mem_of_getElem? (i := 376) (by decide +kernel)⟩
theorem lw_p23 : lw_okq (⟨"FirstLanding$Embassy", "unmadeTo", "(I)I"⟩, 7) := ⟨⟨by decide +kernel, by decide +kernel⟩, List.mem_of_getElem? (i := 28) (by decide +kernel), List.mem_of_getElem? (i := 380) (by decide +kernel), List.mem_of_getElem? (i := 381) (by decide +kernel)⟩
theorem lw_p24 : lw_okq (⟨"FirstLanding$Embassy", "move", "(I)V"⟩, 7) := ⟨⟨by decide +kernel, by decide +kernel⟩, List.mem_of_getElem? (i := 28) (by decide +kernel), List.mem_of_getElem? (i := 388) (by decide +kernel), List.mem_of_getElem? (i := 389) (by decide +kernel)⟩
theorem lw_p25 : lw_okq (⟨"FirstLanding$Embassy", "note", "(III)V"⟩, 7) := ⟨⟨by decide +kernel, by decide +kernel⟩, List.mem_of_getElem? (i := 28) (by decide +kernel), List.mem_of_getElem? (i := 392) (by decide +kernel), List.mem_of_getElem? (i := 393) (by decide +kernel)⟩
theorem lw_p26 : lw_okq (⟨"FirstLanding$Embassy", "hasTwo", "(II)Z"⟩, 7) := ⟨⟨by decide +kernel, by decide +kernel⟩, List.mem_of_getElem? (i := 28) (by decide +kernel), List.mem_of_getElem? (i := 406) (by decide +kernel), List.mem_of_getElem? (i := 407) (by decide +kernel)⟩
theorem lw_p27 : lw_okq (⟨"FirstLanding$Embassy", "seeFirst", "(III)V"⟩, 7) := ⟨⟨by decide +kernel, by decide +kernel⟩, List.mem_of_getElem? (i := 28) (by decide +kernel), List.mem_of_getElem? (i := 411) (by decide +kernel), List.mem_of_getElem? (i := 412) (by decide +kernel)⟩
theorem lw_p28 : lw_okq (⟨"FirstLanding$Embassy", "unmade", "()I"⟩, 7) := ⟨⟨by decide +kernel, by decide +kernel⟩, List.mem_of_getElem? (i := 28) (by decide +kernel), List.mem_of_getElem? (i := 415) (by decide +kernel), List.mem_of_getElem? (i := 416) (by decide +kernel)⟩
theorem lw_p29 : lw_okq (⟨"FirstLanding$Embassy", "mayTreat", "(II)Z"⟩, 7) := ⟨⟨by decide +kernel, by decide +kernel⟩, List.mem_of_getElem? (i := 28) (by decide +kernel), List.mem_of_getElem? (i := 423) (by decide +kernel), List.mem_of_getElem? (i := 424) (by decide +kernel)⟩
theorem lw_p30 : lw_okq (⟨"FirstLanding$Embassy", "areAgreed", "(III)Z"⟩, 7) := ⟨⟨by decide +kernel, by decide +kernel⟩, List.mem_of_getElem? (i := 28) (by decide +kernel), List.mem_of_getElem? (i := 427) (by decide +kernel), List.mem_of_getElem? (i := 428) (by decide +kernel)⟩
theorem lw_p31 : lw_okq (⟨"FirstLanding$Embassy", "apart", "(III)I"⟩, 7) := ⟨⟨by decide +kernel, by decide +kernel⟩, List.mem_of_getElem? (i := 28) (by decide +kernel), List.mem_of_getElem? (i := 431) (by decide +kernel), List.mem_of_getElem? (i := 432) (by decide +kernel)⟩
def lw_privs_2 : List (MethodName × Nat) := [(⟨"FirstLanding$Embassy", "seemingAs", "(III)I"⟩, 7), (⟨"FirstLanding$Embassy", "look", "(II)I"⟩, 7), (⟨"FirstLanding$Embassy", "treatiesOf", "(I)I"⟩, 7), (⟨"FirstLanding$Embassy", "unmadeBy", "(I)I"⟩, 7), (⟨"FirstLanding$Embassy", "greatestTo", "(I)I"⟩, 7), (⟨"FirstLanding$Embassy", "leastTo", "(I)I"⟩, 7), (⟨"FirstLanding$Embassy", "howManyAre", "(I)I"⟩, 7), (⟨"FirstLanding$Embassy", "unmadeTo", "(I)I"⟩, 7), (⟨"FirstLanding$Embassy", "move", "(I)V"⟩, 7), (⟨"FirstLanding$Embassy", "note", "(III)V"⟩, 7), (⟨"FirstLanding$Embassy", "hasTwo", "(II)Z"⟩, 7), (⟨"FirstLanding$Embassy", "seeFirst", "(III)V"⟩, 7), (⟨"FirstLanding$Embassy", "unmade", "()I"⟩, 7), (⟨"FirstLanding$Embassy", "mayTreat", "(II)Z"⟩, 7), (⟨"FirstLanding$Embassy", "areAgreed", "(III)Z"⟩, 7), (⟨"FirstLanding$Embassy", "apart", "(III)I"⟩, 7)]
theorem lw_r2 : ∀ q ∈ lw_privs_2, lw_okq q := List.forall_mem_cons.mpr ⟨lw_p16, List.forall_mem_cons.mpr ⟨lw_p17, List.forall_mem_cons.mpr ⟨lw_p18, List.forall_mem_cons.mpr ⟨lw_p19, List.forall_mem_cons.mpr ⟨lw_p20, List.forall_mem_cons.mpr ⟨lw_p21, List.forall_mem_cons.mpr ⟨lw_p22, List.forall_mem_cons.mpr ⟨lw_p23, List.forall_mem_cons.mpr ⟨lw_p24, List.forall_mem_cons.mpr ⟨lw_p25, List.forall_mem_cons.mpr ⟨lw_p26, List.forall_mem_cons.mpr ⟨lw_p27, List.forall_mem_cons.mpr ⟨lw_p28, List.forall_mem_cons.mpr ⟨lw_p29, List.forall_mem_cons.mpr ⟨lw_p30, List.forall_mem_cons.mpr ⟨lw_p31, fun _ h => absurd h List.not_mem_nil⟩⟩⟩⟩⟩⟩⟩⟩⟩⟩⟩⟩⟩⟩⟩⟩
theorem lw_p32 : lw_okq (⟨"FirstLanding$Embassy", "bind", "(II)V"⟩, 7) := ⟨⟨by decide +kernel, by decide +kernel⟩, List.mem_of_getElem? (i := 28) (by decide +kernel), List.mem_of_getElem? (i := 438) (by decide +kernel), List.mem_of_getElem? (i := 439) (by decide +kernel)⟩
theorem lw_p33 : lw_okq (⟨"FirstLanding$Embassy", "backTo", "(I)V"⟩, 7) := ⟨⟨by decide +kernel, by decide +kernel⟩, List.mem_of_getElem? (i := 28) (by decide +kernel), List.mem_of_getElem? (i := 452) (by decide +kernel), List.mem_of_getElem? (i := 453) (by decide +kernel)⟩
theorem lw_p34 : lw_okq (⟨"FirstLanding", "keptAt", "(I)LFirstLanding$Embassy;"⟩, 12) := ⟨⟨by decide +kernel, by decide +kernel⟩, List.mem_of_getElem? (i := 16) (by decide +kernel), List.mem_of_getElem? (i := 461) (by decide +kernel), List.mem_of_getElem? (i := 462) (by decide +kernel)⟩
theorem lw_p35 : lw_okq (⟨"FirstLanding$Embassy", "hasSet", "(I)Z"⟩, 7) := ⟨⟨by decide +kernel, by decide +kernel⟩, List.mem_of_getElem? (i := 28) (by decide +kernel), List.mem_of_getElem? (i := 473) (by decide +kernel), List.mem_of_getElem? (i := 474) (by decide +kernel)⟩
theorem lw_p36 : lw_okq (⟨"FirstLanding$Embassy", "firstAgreeing", "(I)I"⟩, 7) := ⟨⟨by decide +kernel, by decide +kernel⟩, List.mem_of_getElem? (i := 28) (by decide +kernel), List.mem_of_getElem? (i := 487) (by decide +kernel), List.mem_of_getElem? (i := 488) (by decide +kernel)⟩
theorem lw_p37 : lw_okq (⟨"FirstLanding$Embassy", "agreeing", "(I)I"⟩, 7) := ⟨⟨by decide +kernel, by decide +kernel⟩, List.mem_of_getElem? (i := 28) (by decide +kernel), List.mem_of_getElem? (i := 491) (by decide +kernel), List.mem_of_getElem? (i := 492) (by decide +kernel)⟩
theorem lw_p38 : lw_okq (⟨"FirstLanding", "whyNoPairs", "(LFirstLanding$Row;)I"⟩, 12) := ⟨⟨by decide +kernel, by decide +kernel⟩, List.mem_of_getElem? (i := 16) (by decide +kernel), List.mem_of_getElem? (i := 512) (by decide +kernel), List.mem_of_getElem? (i := 513) (by decide +kernel)⟩
theorem lw_p39 : lw_okq (⟨"FirstLanding$Walk", "fewest", "(LFirstLanding$Embassy;LFirstLanding$Row;)I"⟩, 4) := ⟨⟨by decide +kernel, by decide +kernel⟩, List.mem_of_getElem? (i := 87) (by decide +kernel), List.mem_of_getElem? (i := 516) (by decide +kernel), List.mem_of_getElem? (i := 517) (by decide +kernel)⟩
theorem lw_p40 : lw_okq (⟨"FirstLanding$Walk", "learn", "(LFirstLanding$Embassy;LFirstLanding$Row;)V"⟩, 4) := ⟨⟨by decide +kernel, by decide +kernel⟩, List.mem_of_getElem? (i := 87) (by decide +kernel), List.mem_of_getElem? (i := 520) (by decide +kernel), List.mem_of_getElem? (i := 521) (by decide +kernel)⟩
theorem lw_p41 : lw_okq (⟨"FirstLanding$Meetings", "fewest", "(LFirstLanding$Embassy;III)I"⟩, 2) := ⟨⟨by decide +kernel, by decide +kernel⟩, List.mem_of_getElem? (i := 107) (by decide +kernel), List.mem_of_getElem? (i := 530) (by decide +kernel), List.mem_of_getElem? (i := 531) (by decide +kernel)⟩
theorem lw_p42 : lw_okq (⟨"FirstLanding$Meetings", "foldIn", "(IIZ)V"⟩, 2) := ⟨⟨by decide +kernel, by decide +kernel⟩, List.mem_of_getElem? (i := 107) (by decide +kernel), List.mem_of_getElem? (i := 537) (by decide +kernel), List.mem_of_getElem? (i := 538) (by decide +kernel)⟩
theorem lw_p43 : lw_okq (⟨"FirstLanding", "whyNoNotes", "(LFirstLanding$Row;)I"⟩, 12) := ⟨⟨by decide +kernel, by decide +kernel⟩, List.mem_of_getElem? (i := 16) (by decide +kernel), List.mem_of_getElem? (i := 549) (by decide +kernel), List.mem_of_getElem? (i := 550) (by decide +kernel)⟩
theorem lw_p44 : lw_okq (⟨"FirstLanding", "isNoted", "(IILFirstLanding$Row;)Z"⟩, 12) := ⟨⟨by decide +kernel, by decide +kernel⟩, List.mem_of_getElem? (i := 16) (by decide +kernel), List.mem_of_getElem? (i := 553) (by decide +kernel), List.mem_of_getElem? (i := 554) (by decide +kernel)⟩
theorem lw_p45 : lw_okq (⟨"FirstLanding", "sortsByKinds", "(II)I"⟩, 12) := ⟨⟨by decide +kernel, by decide +kernel⟩, List.mem_of_getElem? (i := 16) (by decide +kernel), List.mem_of_getElem? (i := 566) (by decide +kernel), List.mem_of_getElem? (i := 567) (by decide +kernel)⟩
theorem lw_p46 : lw_okq (⟨"FirstLanding$Embassy", "known", "(II)I"⟩, 7) := ⟨⟨by decide +kernel, by decide +kernel⟩, List.mem_of_getElem? (i := 28) (by decide +kernel), List.mem_of_getElem? (i := 574) (by decide +kernel), List.mem_of_getElem? (i := 575) (by decide +kernel)⟩
theorem lw_p47 : lw_okq (⟨"FirstLanding$Embassy", "seenBy", "(I)I"⟩, 7) := ⟨⟨by decide +kernel, by decide +kernel⟩, List.mem_of_getElem? (i := 28) (by decide +kernel), List.mem_of_getElem? (i := 578) (by decide +kernel), List.mem_of_getElem? (i := 579) (by decide +kernel)⟩
def lw_privs_3 : List (MethodName × Nat) := [(⟨"FirstLanding$Embassy", "bind", "(II)V"⟩, 7), (⟨"FirstLanding$Embassy", "backTo", "(I)V"⟩, 7), (⟨"FirstLanding", "keptAt", "(I)LFirstLanding$Embassy;"⟩, 12), (⟨"FirstLanding$Embassy", "hasSet", "(I)Z"⟩, 7), (⟨"FirstLanding$Embassy", "firstAgreeing", "(I)I"⟩, 7), (⟨"FirstLanding$Embassy", "agreeing", "(I)I"⟩, 7), (⟨"FirstLanding", "whyNoPairs", "(LFirstLanding$Row;)I"⟩, 12), (⟨"FirstLanding$Walk", "fewest", "(LFirstLanding$Embassy;LFirstLanding$Row;)I"⟩, 4), (⟨"FirstLanding$Walk", "learn", "(LFirstLanding$Embassy;LFirstLanding$Row;)V"⟩, 4), (⟨"FirstLanding$Meetings", "fewest", "(LFirstLanding$Embassy;III)I"⟩, 2), (⟨"FirstLanding$Meetings", "foldIn", "(IIZ)V"⟩, 2), (⟨"FirstLanding", "whyNoNotes", "(LFirstLanding$Row;)I"⟩, 12), (⟨"FirstLanding", "isNoted", "(IILFirstLanding$Row;)Z"⟩, 12), (⟨"FirstLanding", "sortsByKinds", "(II)I"⟩, 12), (⟨"FirstLanding$Embassy", "known", "(II)I"⟩, 7), (⟨"FirstLanding$Embassy", "seenBy", "(I)I"⟩, 7)]
theorem lw_r3 : ∀ q ∈ lw_privs_3, lw_okq q := List.forall_mem_cons.mpr ⟨lw_p32, List.forall_mem_cons.mpr ⟨lw_p33, List.forall_mem_cons.mpr ⟨lw_p34, List.forall_mem_cons.mpr ⟨lw_p35, List.forall_mem_cons.mpr ⟨lw_p36, List.forall_mem_cons.mpr ⟨lw_p37, List.forall_mem_cons.mpr ⟨lw_p38, List.forall_mem_cons.mpr ⟨lw_p39, List.forall_mem_cons.mpr ⟨lw_p40, List.forall_mem_cons.mpr ⟨lw_p41, List.forall_mem_cons.mpr ⟨lw_p42, List.forall_mem_cons.mpr ⟨lw_p43, List.forall_mem_cons.mpr ⟨lw_p44, List.forall_mem_cons.mpr ⟨lw_p45, List.forall_mem_cons.mpr ⟨lw_p46, List.forall_mem_cons.mpr ⟨lw_p47, fun _ h => absurd h List.not_mem_nil⟩⟩⟩⟩⟩⟩⟩⟩⟩⟩⟩⟩⟩⟩⟩⟩
theorem lw_p48 : lw_okq (⟨"FirstLanding$Embassy", "afterTurns", "(II)I"⟩, 7) := ⟨⟨by decide +kernel, by decide +kernel⟩, List.mem_of_getElem? (i := 28) (by decide +kernel), List.mem_of_getElem? (i := 590) (by decide +kernel), List.mem_of_getElem? (i := 591) (by decide +kernel)⟩
theorem lw_p49 : lw_okq (⟨"FirstLanding", "tellWeighed", "(III)V"⟩, 12) := ⟨⟨by decide +kernel, by decide +kernel⟩, List.mem_of_getElem? (i := 16) (by decide +kernel), List.mem_of_getElem? (i := 600) (by decide +kernel), List.mem_of_getElem? (i := 601) (by decide +kernel)⟩
theorem lw_p50 : lw_okq (⟨"FirstLanding", "tellRatio", "(JJ)V"⟩, 12) := ⟨⟨by decide +kernel, by decide +kernel⟩, List.mem_of_getElem? (i := 16) (by decide +kernel), List.mem_of_getElem? (i := 608) (by decide +kernel), List.mem_of_getElem? (i := 609) (by decide +kernel)⟩
theorem lw_p51 : lw_okq (⟨"FirstLanding$Embassy", "doByLot", "(I)V"⟩, 7) := ⟨⟨by decide +kernel, by decide +kernel⟩, List.mem_of_getElem? (i := 28) (by decide +kernel), List.mem_of_getElem? (i := 622) (by decide +kernel), List.mem_of_getElem? (i := 623) (by decide +kernel)⟩
theorem lw_p52 : lw_okq (⟨"FirstLanding", "howMany", "(I)I"⟩, 12) := ⟨⟨by decide +kernel, by decide +kernel⟩, List.mem_of_getElem? (i := 16) (by decide +kernel), List.mem_of_getElem? (i := 645) (by decide +kernel), List.mem_of_getElem? (i := 646) (by decide +kernel)⟩
theorem lw_p53 : lw_okq (⟨"FirstLanding", "rowsThere", "()I"⟩, 12) := ⟨⟨by decide +kernel, by decide +kernel⟩, List.mem_of_getElem? (i := 16) (by decide +kernel), List.mem_of_getElem? (i := 649) (by decide +kernel), List.mem_of_getElem? (i := 650) (by decide +kernel)⟩
theorem lw_p54 : lw_okq (⟨"FirstLanding", "textsThere", "()I"⟩, 12) := ⟨⟨by decide +kernel, by decide +kernel⟩, List.mem_of_getElem? (i := 16) (by decide +kernel), List.mem_of_getElem? (i := 653) (by decide +kernel), List.mem_of_getElem? (i := 654) (by decide +kernel)⟩
theorem lw_p55 : lw_okq (⟨"FirstLanding", "embassiesKept", "()I"⟩, 12) := ⟨⟨by decide +kernel, by decide +kernel⟩, List.mem_of_getElem? (i := 16) (by decide +kernel), List.mem_of_getElem? (i := 657) (by decide +kernel), List.mem_of_getElem? (i := 658) (by decide +kernel)⟩
theorem lw_p56 : lw_okq (⟨"FirstLanding$Embassy", "digestedAfter", "(J)J"⟩, 7) := ⟨⟨by decide +kernel, by decide +kernel⟩, List.mem_of_getElem? (i := 28) (by decide +kernel), List.mem_of_getElem? (i := 675) (by decide +kernel), List.mem_of_getElem? (i := 676) (by decide +kernel)⟩
theorem lw_p57 : lw_okq (⟨"FirstLanding$Row", "digestedAfter", "(J)J"⟩, 2) := ⟨⟨by decide +kernel, by decide +kernel⟩, List.mem_of_getElem? (i := 119) (by decide +kernel), List.mem_of_getElem? (i := 681) (by decide +kernel), List.mem_of_getElem? (i := 682) (by decide +kernel)⟩
theorem lw_p58 : lw_okq (⟨"FirstLanding$Text", "digestedAfter", "(J)J"⟩, 2) := ⟨⟨by decide +kernel, by decide +kernel⟩, List.mem_of_getElem? (i := 135) (by decide +kernel), List.mem_of_getElem? (i := 686) (by decide +kernel), List.mem_of_getElem? (i := 687) (by decide +kernel)⟩
theorem lw_p59 : lw_okq (⟨"FirstLandingModel", "found", "(I)I"⟩, 21) := ⟨⟨by decide +kernel, by decide +kernel⟩, List.mem_of_getElem? (i := 691) (by decide +kernel), List.mem_of_getElem? (i := 773) (by decide +kernel), List.mem_of_getElem? (i := 774) (by decide +kernel)⟩
theorem lw_p60 : lw_okq (⟨"FirstLandingModel", "tell", "(I)I"⟩, 21) := ⟨⟨by decide +kernel, by decide +kernel⟩, List.mem_of_getElem? (i := 691) (by decide +kernel), List.mem_of_getElem? (i := 781) (by decide +kernel), List.mem_of_getElem? (i := 782) (by decide +kernel)⟩
theorem lw_p61 : lw_okq (⟨"FirstLandingModel", "faultOf", "(I)I"⟩, 21) := ⟨⟨by decide +kernel, by decide +kernel⟩, List.mem_of_getElem? (i := 691) (by decide +kernel), List.mem_of_getElem? (i := 817) (by decide +kernel), List.mem_of_getElem? (i := 818) (by decide +kernel)⟩
theorem lw_p62 : lw_okq (⟨"FirstLandingModel", "blanks", "(I)V"⟩, 21) := ⟨⟨by decide +kernel, by decide +kernel⟩, List.mem_of_getElem? (i := 691) (by decide +kernel), List.mem_of_getElem? (i := 821) (by decide +kernel), List.mem_of_getElem? (i := 822) (by decide +kernel)⟩
theorem lw_p63 : lw_okq (⟨"FirstLandingModel", "here", "(I)I"⟩, 21) := ⟨⟨by decide +kernel, by decide +kernel⟩, List.mem_of_getElem? (i := 691) (by decide +kernel), List.mem_of_getElem? (i := 825) (by decide +kernel), List.mem_of_getElem? (i := 826) (by decide +kernel)⟩
def lw_privs_4 : List (MethodName × Nat) := [(⟨"FirstLanding$Embassy", "afterTurns", "(II)I"⟩, 7), (⟨"FirstLanding", "tellWeighed", "(III)V"⟩, 12), (⟨"FirstLanding", "tellRatio", "(JJ)V"⟩, 12), (⟨"FirstLanding$Embassy", "doByLot", "(I)V"⟩, 7), (⟨"FirstLanding", "howMany", "(I)I"⟩, 12), (⟨"FirstLanding", "rowsThere", "()I"⟩, 12), (⟨"FirstLanding", "textsThere", "()I"⟩, 12), (⟨"FirstLanding", "embassiesKept", "()I"⟩, 12), (⟨"FirstLanding$Embassy", "digestedAfter", "(J)J"⟩, 7), (⟨"FirstLanding$Row", "digestedAfter", "(J)J"⟩, 2), (⟨"FirstLanding$Text", "digestedAfter", "(J)J"⟩, 2), (⟨"FirstLandingModel", "found", "(I)I"⟩, 21), (⟨"FirstLandingModel", "tell", "(I)I"⟩, 21), (⟨"FirstLandingModel", "faultOf", "(I)I"⟩, 21), (⟨"FirstLandingModel", "blanks", "(I)V"⟩, 21), (⟨"FirstLandingModel", "here", "(I)I"⟩, 21)]
theorem lw_r4 : ∀ q ∈ lw_privs_4, lw_okq q := List.forall_mem_cons.mpr ⟨lw_p48, List.forall_mem_cons.mpr ⟨lw_p49, List.forall_mem_cons.mpr ⟨lw_p50, List.forall_mem_cons.mpr ⟨lw_p51, List.forall_mem_cons.mpr ⟨lw_p52, List.forall_mem_cons.mpr ⟨lw_p53, List.forall_mem_cons.mpr ⟨lw_p54, List.forall_mem_cons.mpr ⟨lw_p55, List.forall_mem_cons.mpr ⟨lw_p56, List.forall_mem_cons.mpr ⟨lw_p57, List.forall_mem_cons.mpr ⟨lw_p58, List.forall_mem_cons.mpr ⟨lw_p59, List.forall_mem_cons.mpr ⟨lw_p60, List.forall_mem_cons.mpr ⟨lw_p61, List.forall_mem_cons.mpr ⟨lw_p62, List.forall_mem_cons.mpr ⟨lw_p63, fun _ h => absurd h List.not_mem_nil⟩⟩⟩⟩⟩⟩⟩⟩⟩⟩⟩⟩⟩⟩⟩⟩
theorem lw_p64 : lw_okq (⟨"FirstLandingModel", "isPersonRead", "(II)Z"⟩, 21) := ⟨⟨by decide +kernel, by decide +kernel⟩, List.mem_of_getElem? (i := 691) (by decide +kernel), List.mem_of_getElem? (i := 831) (by decide +kernel), List.mem_of_getElem? (i := 832) (by decide +kernel)⟩
theorem lw_p65 : lw_okq (⟨"FirstLandingModel", "isPerson", "(I)Z"⟩, 21) := ⟨⟨by decide +kernel, by decide +kernel⟩, List.mem_of_getElem? (i := 691) (by decide +kernel), List.mem_of_getElem? (i := 851) (by decide +kernel), List.mem_of_getElem? (i := 852) (by decide +kernel)⟩
theorem lw_p66 : lw_okq (⟨"FirstLandingModel", "told", "(II)I"⟩, 21) := ⟨⟨by decide +kernel, by decide +kernel⟩, List.mem_of_getElem? (i := 691) (by decide +kernel), List.mem_of_getElem? (i := 856) (by decide +kernel), List.mem_of_getElem? (i := 857) (by decide +kernel)⟩
theorem lw_p67 : lw_okq (⟨"FirstLandingModel", "seem", "(II)I"⟩, 21) := ⟨⟨by decide +kernel, by decide +kernel⟩, List.mem_of_getElem? (i := 691) (by decide +kernel), List.mem_of_getElem? (i := 863) (by decide +kernel), List.mem_of_getElem? (i := 864) (by decide +kernel)⟩
theorem lw_p68 : lw_okq (⟨"FirstLandingModel", "seemsAs", "(III)I"⟩, 21) := ⟨⟨by decide +kernel, by decide +kernel⟩, List.mem_of_getElem? (i := 691) (by decide +kernel), List.mem_of_getElem? (i := 867) (by decide +kernel), List.mem_of_getElem? (i := 868) (by decide +kernel)⟩
theorem lw_p69 : lw_okq (⟨"FirstLandingModel", "look", "(II)I"⟩, 21) := ⟨⟨by decide +kernel, by decide +kernel⟩, List.mem_of_getElem? (i := 691) (by decide +kernel), List.mem_of_getElem? (i := 872) (by decide +kernel), List.mem_of_getElem? (i := 873) (by decide +kernel)⟩
theorem lw_p70 : lw_okq (⟨"FirstLandingModel", "treatiesOf", "(I)I"⟩, 21) := ⟨⟨by decide +kernel, by decide +kernel⟩, List.mem_of_getElem? (i := 691) (by decide +kernel), List.mem_of_getElem? (i := 879) (by decide +kernel), List.mem_of_getElem? (i := 880) (by decide +kernel)⟩
theorem lw_p71 : lw_okq (⟨"FirstLandingModel", "unmetBy", "(I)I"⟩, 21) := ⟨⟨by decide +kernel, by decide +kernel⟩, List.mem_of_getElem? (i := 691) (by decide +kernel), List.mem_of_getElem? (i := 883) (by decide +kernel), List.mem_of_getElem? (i := 884) (by decide +kernel)⟩
theorem lw_p72 : lw_okq (⟨"FirstLandingModel", "extreme", "(IZ)I"⟩, 21) := ⟨⟨by decide +kernel, by decide +kernel⟩, List.mem_of_getElem? (i := 691) (by decide +kernel), List.mem_of_getElem? (i := 898) (by decide +kernel), List.mem_of_getElem? (i := 899) (by decide +kernel)⟩
theorem lw_p73 : lw_okq (⟨"FirstLandingModel", "kindsOf", "(I)I"⟩, 21) := ⟨⟨by decide +kernel, by decide +kernel⟩, List.mem_of_getElem? (i := 691) (by decide +kernel), List.mem_of_getElem? (i := 902) (by decide +kernel), List.mem_of_getElem? (i := 903) (by decide +kernel)⟩
theorem lw_p74 : lw_okq (⟨"FirstLandingModel", "unmetTo", "(I)I"⟩, 21) := ⟨⟨by decide +kernel, by decide +kernel⟩, List.mem_of_getElem? (i := 691) (by decide +kernel), List.mem_of_getElem? (i := 906) (by decide +kernel), List.mem_of_getElem? (i := 907) (by decide +kernel)⟩
theorem lw_p75 : lw_okq (⟨"FirstLandingModel", "done", "()I"⟩, 21) := ⟨⟨by decide +kernel, by decide +kernel⟩, List.mem_of_getElem? (i := 691) (by decide +kernel), List.mem_of_getElem? (i := 914) (by decide +kernel), List.mem_of_getElem? (i := 915) (by decide +kernel)⟩
theorem lw_p76 : lw_okq (⟨"FirstLandingModel", "steps0", "(I)V"⟩, 21) := ⟨⟨by decide +kernel, by decide +kernel⟩, List.mem_of_getElem? (i := 691) (by decide +kernel), List.mem_of_getElem? (i := 918) (by decide +kernel), List.mem_of_getElem? (i := 919) (by decide +kernel)⟩
theorem lw_p77 : lw_okq (⟨"FirstLandingModel", "remember", "(III)V"⟩, 21) := ⟨⟨by decide +kernel, by decide +kernel⟩, List.mem_of_getElem? (i := 691) (by decide +kernel), List.mem_of_getElem? (i := 922) (by decide +kernel), List.mem_of_getElem? (i := 923) (by decide +kernel)⟩
theorem lw_p78 : lw_okq (⟨"FirstLandingModel", "unmet", "()I"⟩, 21) := ⟨⟨by decide +kernel, by decide +kernel⟩, List.mem_of_getElem? (i := 691) (by decide +kernel), List.mem_of_getElem? (i := 934) (by decide +kernel), List.mem_of_getElem? (i := 935) (by decide +kernel)⟩
theorem lw_p79 : lw_okq (⟨"FirstLandingModel", "mayTreat", "(II)Z"⟩, 21) := ⟨⟨by decide +kernel, by decide +kernel⟩, List.mem_of_getElem? (i := 691) (by decide +kernel), List.mem_of_getElem? (i := 942) (by decide +kernel), List.mem_of_getElem? (i := 943) (by decide +kernel)⟩
def lw_privs_5 : List (MethodName × Nat) := [(⟨"FirstLandingModel", "isPersonRead", "(II)Z"⟩, 21), (⟨"FirstLandingModel", "isPerson", "(I)Z"⟩, 21), (⟨"FirstLandingModel", "told", "(II)I"⟩, 21), (⟨"FirstLandingModel", "seem", "(II)I"⟩, 21), (⟨"FirstLandingModel", "seemsAs", "(III)I"⟩, 21), (⟨"FirstLandingModel", "look", "(II)I"⟩, 21), (⟨"FirstLandingModel", "treatiesOf", "(I)I"⟩, 21), (⟨"FirstLandingModel", "unmetBy", "(I)I"⟩, 21), (⟨"FirstLandingModel", "extreme", "(IZ)I"⟩, 21), (⟨"FirstLandingModel", "kindsOf", "(I)I"⟩, 21), (⟨"FirstLandingModel", "unmetTo", "(I)I"⟩, 21), (⟨"FirstLandingModel", "done", "()I"⟩, 21), (⟨"FirstLandingModel", "steps0", "(I)V"⟩, 21), (⟨"FirstLandingModel", "remember", "(III)V"⟩, 21), (⟨"FirstLandingModel", "unmet", "()I"⟩, 21), (⟨"FirstLandingModel", "mayTreat", "(II)Z"⟩, 21)]
theorem lw_r5 : ∀ q ∈ lw_privs_5, lw_okq q := List.forall_mem_cons.mpr ⟨lw_p64, List.forall_mem_cons.mpr ⟨lw_p65, List.forall_mem_cons.mpr ⟨lw_p66, List.forall_mem_cons.mpr ⟨lw_p67, List.forall_mem_cons.mpr ⟨lw_p68, List.forall_mem_cons.mpr ⟨lw_p69, List.forall_mem_cons.mpr ⟨lw_p70, List.forall_mem_cons.mpr ⟨lw_p71, List.forall_mem_cons.mpr ⟨lw_p72, List.forall_mem_cons.mpr ⟨lw_p73, List.forall_mem_cons.mpr ⟨lw_p74, List.forall_mem_cons.mpr ⟨lw_p75, List.forall_mem_cons.mpr ⟨lw_p76, List.forall_mem_cons.mpr ⟨lw_p77, List.forall_mem_cons.mpr ⟨lw_p78, List.forall_mem_cons.mpr ⟨lw_p79, fun _ h => absurd h List.not_mem_nil⟩⟩⟩⟩⟩⟩⟩⟩⟩⟩⟩⟩⟩⟩⟩⟩
theorem lw_p80 : lw_okq (⟨"FirstLandingModel", "doAgree", "(III)Z"⟩, 21) := ⟨⟨by decide +kernel, by decide +kernel⟩, List.mem_of_getElem? (i := 691) (by decide +kernel), List.mem_of_getElem? (i := 946) (by decide +kernel), List.mem_of_getElem? (i := 947) (by decide +kernel)⟩
theorem lw_p81 : lw_okq (⟨"FirstLandingModel", "treats", "(II)V"⟩, 21) := ⟨⟨by decide +kernel, by decide +kernel⟩, List.mem_of_getElem? (i := 691) (by decide +kernel), List.mem_of_getElem? (i := 953) (by decide +kernel), List.mem_of_getElem? (i := 954) (by decide +kernel)⟩
theorem lw_p82 : lw_okq (⟨"FirstLandingModel", "signs", "(III)V"⟩, 21) := ⟨⟨by decide +kernel, by decide +kernel⟩, List.mem_of_getElem? (i := 691) (by decide +kernel), List.mem_of_getElem? (i := 957) (by decide +kernel), List.mem_of_getElem? (i := 958) (by decide +kernel)⟩
theorem lw_p83 : lw_okq (⟨"FirstLandingModel", "treaties", "()I"⟩, 21) := ⟨⟨by decide +kernel, by decide +kernel⟩, List.mem_of_getElem? (i := 691) (by decide +kernel), List.mem_of_getElem? (i := 961) (by decide +kernel), List.mem_of_getElem? (i := 962) (by decide +kernel)⟩
theorem lw_p84 : lw_okq (⟨"FirstLandingModel", "undoes", "()V"⟩, 21) := ⟨⟨by decide +kernel, by decide +kernel⟩, List.mem_of_getElem? (i := 691) (by decide +kernel), List.mem_of_getElem? (i := 969) (by decide +kernel), List.mem_of_getElem? (i := 970) (by decide +kernel)⟩
theorem lw_p85 : lw_okq (⟨"FirstLandingModel", "isSet", "(I)Z"⟩, 21) := ⟨⟨by decide +kernel, by decide +kernel⟩, List.mem_of_getElem? (i := 691) (by decide +kernel), List.mem_of_getElem? (i := 986) (by decide +kernel), List.mem_of_getElem? (i := 987) (by decide +kernel)⟩
theorem lw_p86 : lw_okq (⟨"FirstLandingModel", "thereOf", "(I)I"⟩, 21) := ⟨⟨by decide +kernel, by decide +kernel⟩, List.mem_of_getElem? (i := 691) (by decide +kernel), List.mem_of_getElem? (i := 994) (by decide +kernel), List.mem_of_getElem? (i := 995) (by decide +kernel)⟩
theorem lw_p87 : lw_okq (⟨"FirstLandingModel", "pairs", "(I)I"⟩, 21) := ⟨⟨by decide +kernel, by decide +kernel⟩, List.mem_of_getElem? (i := 691) (by decide +kernel), List.mem_of_getElem? (i := 1002) (by decide +kernel), List.mem_of_getElem? (i := 1003) (by decide +kernel)⟩
theorem lw_p88 : lw_okq (⟨"FirstLandingModel", "answer", "(II)I"⟩, 21) := ⟨⟨by decide +kernel, by decide +kernel⟩, List.mem_of_getElem? (i := 691) (by decide +kernel), List.mem_of_getElem? (i := 1006) (by decide +kernel), List.mem_of_getElem? (i := 1007) (by decide +kernel)⟩
theorem lw_p89 : lw_okq (⟨"FirstLandingModel", "arePairs", "(I)Z"⟩, 21) := ⟨⟨by decide +kernel, by decide +kernel⟩, List.mem_of_getElem? (i := 691) (by decide +kernel), List.mem_of_getElem? (i := 1027) (by decide +kernel), List.mem_of_getElem? (i := 1028) (by decide +kernel)⟩
theorem lw_p90 : lw_okq (⟨"FirstLandingModel", "layAgreed", "(II)V"⟩, 21) := ⟨⟨by decide +kernel, by decide +kernel⟩, List.mem_of_getElem? (i := 691) (by decide +kernel), List.mem_of_getElem? (i := 1031) (by decide +kernel), List.mem_of_getElem? (i := 1032) (by decide +kernel)⟩
theorem lw_p91 : lw_okq (⟨"FirstLandingModel", "layFar", "(I)V"⟩, 21) := ⟨⟨by decide +kernel, by decide +kernel⟩, List.mem_of_getElem? (i := 691) (by decide +kernel), List.mem_of_getElem? (i := 1035) (by decide +kernel), List.mem_of_getElem? (i := 1036) (by decide +kernel)⟩
theorem lw_p92 : lw_okq (⟨"FirstLandingModel", "wrongNotes", "(I)I"⟩, 21) := ⟨⟨by decide +kernel, by decide +kernel⟩, List.mem_of_getElem? (i := 691) (by decide +kernel), List.mem_of_getElem? (i := 1047) (by decide +kernel), List.mem_of_getElem? (i := 1048) (by decide +kernel)⟩
theorem lw_p93 : lw_okq (⟨"FirstLandingModel", "isSo", "(III)Z"⟩, 21) := ⟨⟨by decide +kernel, by decide +kernel⟩, List.mem_of_getElem? (i := 691) (by decide +kernel), List.mem_of_getElem? (i := 1051) (by decide +kernel), List.mem_of_getElem? (i := 1052) (by decide +kernel)⟩
theorem lw_p94 : lw_okq (⟨"FirstLandingModel", "knownBy", "(II)I"⟩, 21) := ⟨⟨by decide +kernel, by decide +kernel⟩, List.mem_of_getElem? (i := 691) (by decide +kernel), List.mem_of_getElem? (i := 1067) (by decide +kernel), List.mem_of_getElem? (i := 1068) (by decide +kernel)⟩
theorem lw_p95 : lw_okq (⟨"FirstLandingModel", "beginsStep", "(I)V"⟩, 21) := ⟨⟨by decide +kernel, by decide +kernel⟩, List.mem_of_getElem? (i := 691) (by decide +kernel), List.mem_of_getElem? (i := 1079) (by decide +kernel), List.mem_of_getElem? (i := 1080) (by decide +kernel)⟩
def lw_privs_6 : List (MethodName × Nat) := [(⟨"FirstLandingModel", "doAgree", "(III)Z"⟩, 21), (⟨"FirstLandingModel", "treats", "(II)V"⟩, 21), (⟨"FirstLandingModel", "signs", "(III)V"⟩, 21), (⟨"FirstLandingModel", "treaties", "()I"⟩, 21), (⟨"FirstLandingModel", "undoes", "()V"⟩, 21), (⟨"FirstLandingModel", "isSet", "(I)Z"⟩, 21), (⟨"FirstLandingModel", "thereOf", "(I)I"⟩, 21), (⟨"FirstLandingModel", "pairs", "(I)I"⟩, 21), (⟨"FirstLandingModel", "answer", "(II)I"⟩, 21), (⟨"FirstLandingModel", "arePairs", "(I)Z"⟩, 21), (⟨"FirstLandingModel", "layAgreed", "(II)V"⟩, 21), (⟨"FirstLandingModel", "layFar", "(I)V"⟩, 21), (⟨"FirstLandingModel", "wrongNotes", "(I)I"⟩, 21), (⟨"FirstLandingModel", "isSo", "(III)Z"⟩, 21), (⟨"FirstLandingModel", "knownBy", "(II)I"⟩, 21), (⟨"FirstLandingModel", "beginsStep", "(I)V"⟩, 21)]
theorem lw_r6 : ∀ q ∈ lw_privs_6, lw_okq q := List.forall_mem_cons.mpr ⟨lw_p80, List.forall_mem_cons.mpr ⟨lw_p81, List.forall_mem_cons.mpr ⟨lw_p82, List.forall_mem_cons.mpr ⟨lw_p83, List.forall_mem_cons.mpr ⟨lw_p84, List.forall_mem_cons.mpr ⟨lw_p85, List.forall_mem_cons.mpr ⟨lw_p86, List.forall_mem_cons.mpr ⟨lw_p87, List.forall_mem_cons.mpr ⟨lw_p88, List.forall_mem_cons.mpr ⟨lw_p89, List.forall_mem_cons.mpr ⟨lw_p90, List.forall_mem_cons.mpr ⟨lw_p91, List.forall_mem_cons.mpr ⟨lw_p92, List.forall_mem_cons.mpr ⟨lw_p93, List.forall_mem_cons.mpr ⟨lw_p94, List.forall_mem_cons.mpr ⟨lw_p95, fun _ h => absurd h List.not_mem_nil⟩⟩⟩⟩⟩⟩⟩⟩⟩⟩⟩⟩⟩⟩⟩⟩
theorem lw_p96 : lw_okq (⟨"FirstLandingModel", "weighs", "(II)V"⟩, 21) := ⟨⟨by decide +kernel, by decide +kernel⟩, List.mem_of_getElem? (i := 691) (by decide +kernel), List.mem_of_getElem? (i := 1083) (by decide +kernel), List.mem_of_getElem? (i := 1084) (by decide +kernel)⟩
theorem lw_p97 : lw_okq (⟨"FirstLandingModel", "sends", "(I)Z"⟩, 21) := ⟨⟨by decide +kernel, by decide +kernel⟩, List.mem_of_getElem? (i := 691) (by decide +kernel), List.mem_of_getElem? (i := 1087) (by decide +kernel), List.mem_of_getElem? (i := 1088) (by decide +kernel)⟩
theorem lw_p98 : lw_okq (⟨"FirstLandingModel", "chance", "(IIZ)I"⟩, 21) := ⟨⟨by decide +kernel, by decide +kernel⟩, List.mem_of_getElem? (i := 691) (by decide +kernel), List.mem_of_getElem? (i := 1095) (by decide +kernel), List.mem_of_getElem? (i := 1096) (by decide +kernel)⟩
theorem lw_p99 : lw_okq (⟨"FirstLandingModel", "weighed", "(IIZ)I"⟩, 21) := ⟨⟨by decide +kernel, by decide +kernel⟩, List.mem_of_getElem? (i := 691) (by decide +kernel), List.mem_of_getElem? (i := 1100) (by decide +kernel), List.mem_of_getElem? (i := 1101) (by decide +kernel)⟩
theorem lw_p100 : lw_okq (⟨"FirstLandingModel", "fraction", "(JJ)I"⟩, 21) := ⟨⟨by decide +kernel, by decide +kernel⟩, List.mem_of_getElem? (i := 691) (by decide +kernel), List.mem_of_getElem? (i := 1104) (by decide +kernel), List.mem_of_getElem? (i := 1105) (by decide +kernel)⟩
theorem lw_p101 : lw_okq (⟨"FirstLandingModel", "counted", "(I)I"⟩, 21) := ⟨⟨by decide +kernel, by decide +kernel⟩, List.mem_of_getElem? (i := 691) (by decide +kernel), List.mem_of_getElem? (i := 1137) (by decide +kernel), List.mem_of_getElem? (i := 1138) (by decide +kernel)⟩
def lw_privs_7 : List (MethodName × Nat) := [(⟨"FirstLandingModel", "weighs", "(II)V"⟩, 21), (⟨"FirstLandingModel", "sends", "(I)Z"⟩, 21), (⟨"FirstLandingModel", "chance", "(IIZ)I"⟩, 21), (⟨"FirstLandingModel", "weighed", "(IIZ)I"⟩, 21), (⟨"FirstLandingModel", "fraction", "(JJ)I"⟩, 21), (⟨"FirstLandingModel", "counted", "(I)I"⟩, 21)]
theorem lw_r7 : ∀ q ∈ lw_privs_7, lw_okq q := List.forall_mem_cons.mpr ⟨lw_p96, List.forall_mem_cons.mpr ⟨lw_p97, List.forall_mem_cons.mpr ⟨lw_p98, List.forall_mem_cons.mpr ⟨lw_p99, List.forall_mem_cons.mpr ⟨lw_p100, List.forall_mem_cons.mpr ⟨lw_p101, fun _ h => absurd h List.not_mem_nil⟩⟩⟩⟩⟩⟩
def lw_privs : List (MethodName × Nat) := lw_privs_1 ++ (lw_privs_2 ++ (lw_privs_3 ++ (lw_privs_4 ++ (lw_privs_5 ++ (lw_privs_6 ++ (lw_privs_7))))))
def lw_tbl : List Cond := k2_sels lw_privs ++ tables_1
theorem lw_privs_ok : ∀ q ∈ lw_privs, lw_okq q := by
  show ∀ q ∈ lw_privs_1 ++ (lw_privs_2 ++ (lw_privs_3 ++ (lw_privs_4 ++ (lw_privs_5 ++ (lw_privs_6 ++ (lw_privs_7)))))), lw_okq q
  exact List.forall_mem_append.mpr ⟨lw_r1, List.forall_mem_append.mpr ⟨lw_r2, List.forall_mem_append.mpr ⟨lw_r3, List.forall_mem_append.mpr ⟨lw_r4, List.forall_mem_append.mpr ⟨lw_r5, List.forall_mem_append.mpr ⟨lw_r6, lw_r7⟩⟩⟩⟩⟩⟩
end
section
/-! THE SMALL MACHINE: bytecode over a logical heap (cells in the order in which they were made), as a function with fuel. A value `.ref k` is the k-th cell made since the law began, `.retAddr n` the n-th array that was there before (0 the script, 1 LETTERS, 2 PARENTS). -/
abbrev mC : Type := Nat × List Value
abbrev mH : Type := List mC
abbrev mL : Type := List (Option Value)
abbrev mE : Type := Nat × Instr × Nat × List Int
abbrev mG : Type := Nat × mL × List Value × mH
abbrev mR : Type := Option Value × mH
/-- what a logical value is on the machine -/
def mSh (b : Nat) (x : Nat → Nat) : Value → Value
  | .ref k => .ref (b + k)
  | .retAddr n => .ref (x n)
  | v => v
theorem mSh_cat (b : Nat) (x : Nat → Nat) (v : Value) : (mSh b x v).category = v.category := by cases v <;> rfl
theorem mSh_int (b : Nat) (x : Nat → Nat) (v : Int32) : mSh b x (.int v) = .int v := rfl
theorem mSh_long (b : Nat) (x : Nat → Nat) (v : Int64) : mSh b x (.long v) = .long v := rfl
def mIsI : Value → Bool
  | .int _ => true
  | _ => false
def mIsJ : Value → Bool
  | .long _ => true
  | _ => false
def mIsA : Value → Bool
  | .ref _ => true
  | .null => true
  | .retAddr _ => true
  | _ => false
/-- the locals -/
def mKill (L : mL) (k : Nat) : mL := match k with
  | 0 => L
  | j + 1 => match L[j]? with
    | some (some v) => if v.category = 2 then L.set j none else L
    | _ => L
def mS1 (L : mL) (k : Nat) (v : Value) : mL := (mKill L k).set k (some v)
def mS2 (L : mL) (k : Nat) (v : Value) : mL := ((mKill L k).set k (some v)).set (k + 1) none
def mAs (f : Value → Value) (L : mL) : List (Nat × Value) := L.zipIdx.filterMap (fun q => q.1.map (fun v => (q.2, f v)))
theorem mAs_mem {f : Value → Value} {L : mL} {k : Nat} {w : Value} : (k, w) ∈ mAs f L ↔ ∃ v, L[k]? = some (some v) ∧ f v = w := by
  unfold mAs
  rw [List.mem_filterMap]
  constructor
  · rintro ⟨⟨o, j⟩, h1, h2⟩
    cases o with
    | none => cases h2
    | some v =>
      have h3 : (j, f v) = (k, w) := Option.some.inj h2
      cases h3
      exact ⟨v, List.mem_zipIdx_iff_getElem?.mp h1, rfl⟩
  · rintro ⟨v, h1, rfl⟩
    exact ⟨(some v, k), List.mem_zipIdx_iff_getElem?.mpr h1, rfl⟩
theorem mAs_at {f : Value → Value} {L : mL} {ls : Array Slot} {n k : Nat} {v : Value} (h : lv_has ls n (mAs f L)) (hk : L[k]? = some (some v)) : ls[k]? = some (.val (f v)) := h.2.2 (k, f v) (mAs_mem.mpr ⟨v, hk, rfl⟩)
theorem lv_mono {ls : Array Slot} {n : Nat} {l l' : List (Nat × Value)} (h : lv_has ls n l) (hl : ∀ q ∈ l', q ∈ l) : lv_has ls n l' := ⟨h.1, h.2.1, fun q hq => h.2.2 q (hl q hq)⟩
theorem mKill_len (L : mL) (k : Nat) : (mKill L k).length = L.length := by
  unfold mKill
  cases k with
  | zero => rfl
  | succ j =>
    dsimp only
    split
    · split <;> simp
    · rfl
theorem mS1_len (L : mL) (k : Nat) (v : Value) : (mS1 L k v).length = L.length := by simp [mS1, mKill_len]
theorem mS2_len (L : mL) (k : Nat) (v : Value) : (mS2 L k v).length = L.length := by simp [mS2, mKill_len]
theorem mKill_get {L : mL} {k j : Nat} {v : Value} (h : (mKill L k)[j]? = some (some v)) : L[j]? = some (some v) ∧ ¬ (j + 1 = k ∧ v.category = 2) := by
  unfold mKill at h
  cases k with
  | zero => exact ⟨h, by omega⟩
  | succ i =>
    dsimp only at h
    split at h
    · rename_i w hw
      split at h
      · by_cases hj : j = i
        · subst hj
          rw [List.getElem?_set_self (List.getElem?_eq_some_iff.mp hw).1] at h
          cases h
        · rw [List.getElem?_set_ne (Ne.symm hj)] at h
          exact ⟨h, by omega⟩
      · rename_i hc
        refine ⟨h, ?_⟩
        rintro ⟨e1, e2⟩
        have e3 : j = i := by omega
        subst e3
        rw [h] at hw
        cases hw
        exact hc e2
    · rename_i hn
      refine ⟨h, ?_⟩
      rintro ⟨e1, e2⟩
      have e3 : j = i := by omega
      subst e3
      exact hn v h
theorem mS1_has {f : Value → Value} (hf : ∀ v, (f v).category = v.category) {L : mL} {ls : Array Slot} {n k : Nat} {v : Value} (h : lv_has ls n ((k, f v) :: (mAs f L).filter (fun q => !(q.1 == k) && !(q.1 + 1 == k && q.2.category == 2)))) : lv_has ls n (mAs f (mS1 L k v)) := by
  refine lv_mono h ?_
  rintro ⟨j, w⟩ hq
  obtain ⟨u, h1, rfl⟩ := mAs_mem.mp hq
  unfold mS1 at h1
  by_cases hj : j = k
  · subst hj
    rw [List.getElem?_set] at h1
    simp only [if_true] at h1
    split at h1
    · cases h1
      exact List.mem_cons_self
    · cases h1
  · rw [List.getElem?_set_ne (Ne.symm hj)] at h1
    obtain ⟨h2, h3⟩ := mKill_get h1
    refine List.mem_cons_of_mem _ (List.mem_filter.mpr ⟨mAs_mem.mpr ⟨u, h2, rfl⟩, ?_⟩)
    simp only [hf, Bool.and_eq_true, Bool.not_eq_true', beq_eq_false_iff_ne, Bool.and_eq_false_iff]
    refine ⟨hj, ?_⟩
    by_cases e : j + 1 = k
    · exact Or.inr (fun z => h3 ⟨e, z⟩)
    · exact Or.inl e
theorem mS2_has {f : Value → Value} (hf : ∀ v, (f v).category = v.category) {L : mL} {ls : Array Slot} {n k : Nat} {v : Value} (h : lv_has ls n ((k, f v) :: (mAs f L).filter (fun q => !(q.1 == k) && (!(q.1 == k + 1) && !(q.1 + 1 == k && q.2.category == 2))))) : lv_has ls n (mAs f (mS2 L k v)) := by
  refine lv_mono h ?_
  rintro ⟨j, w⟩ hq
  obtain ⟨u, h1, rfl⟩ := mAs_mem.mp hq
  unfold mS2 at h1
  by_cases hk : j = k + 1
  · subst hk
    rw [List.getElem?_set] at h1
    simp only [if_true] at h1
    split at h1 <;> cases h1
  rw [List.getElem?_set_ne (Ne.symm hk)] at h1
  by_cases hj : j = k
  · subst hj
    rw [List.getElem?_set] at h1
    simp only [if_true] at h1
    split at h1
    · cases h1
      exact List.mem_cons_self
    · cases h1
  · rw [List.getElem?_set_ne (Ne.symm hj)] at h1
    obtain ⟨h2, h3⟩ := mKill_get h1
    refine List.mem_cons_of_mem _ (List.mem_filter.mpr ⟨mAs_mem.mpr ⟨u, h2, rfl⟩, ?_⟩)
    simp only [hf, Bool.and_eq_true, Bool.not_eq_true', beq_eq_false_iff_ne, Bool.and_eq_false_iff]
    refine ⟨hj, hk, ?_⟩
    by_cases e : j + 1 = k
    · exact Or.inr (fun z => h3 ⟨e, z⟩)
    · exact Or.inl e
/-- the locals at a method's entry -/
def mEnt : List Value → mL
  | [] => []
  | v :: r => if v.category = 2 then some v :: none :: mEnt r else some v :: mEnt r
def mEntL (n : Nat) (av : List Value) : mL := mEnt av ++ List.replicate (n - (mEnt av).length) none
theorem mEnt_len (f : Value → Value) (hf : ∀ v, (f v).category = v.category) (av : List Value) : (lg_sl (av.map f)).length = (mEnt av).length := by
  induction av with
  | nil => rfl
  | cons v r ih =>
    unfold lg_sl at ih ⊢
    simp only [List.map_cons, List.flatMap_cons, List.length_append, hf, mEnt]
    rw [ih]
    split <;> simp <;> omega
theorem mEnt_get (f : Value → Value) (hf : ∀ v, (f v).category = v.category) (av : List Value) : ∀ (k : Nat) (v : Value), (mEnt av)[k]? = some (some v) → (lg_sl (av.map f))[k]? = some (.val (f v)) := by
  induction av with
  | nil => intro k v h; simp [mEnt] at h
  | cons u r ih =>
    intro k v h
    unfold lg_sl at ih ⊢
    simp only [List.map_cons, List.flatMap_cons, hf]
    simp only [mEnt] at h
    split at h
    · rename_i hc
      rw [if_pos hc]
      match k, h with
      | 0, h => cases h; rfl
      | 1, h => cases h
      | k + 2, h => exact ih k v h
    · rename_i hc
      rw [if_neg hc]
      match k, h with
      | 0, h => cases h; rfl
      | k + 1, h => exact ih k v h
theorem mEntL_has (f : Value → Value) (hf : ∀ v, (f v).category = v.category) (av : List Value) {n : Nat} (hn : (mEnt av).length ≤ n) : lv_has ((lg_sl (av.map f) ++ List.replicate (n - (lg_sl (av.map f)).length) Slot.unset).toArray) n (mAs f (mEntL n av)) := by
  have h := lv_entry (av.map f) (n := n) (by rw [mEnt_len f hf]; exact hn)
  refine ⟨h.1, h.2.1, ?_⟩
  rintro ⟨k, w⟩ hq
  obtain ⟨v, h1, rfl⟩ := mAs_mem.mp hq
  unfold mEntL at h1
  by_cases hk : k < (mEnt av).length
  · rw [List.getElem?_append_left hk] at h1
    have h2 := mEnt_get f hf av k v h1
    show (_ : List Slot).toArray[k]? = _
    rw [List.getElem?_toArray, List.getElem?_append_left (by rw [mEnt_len f hf]; exact hk)]
    exact h2
  · rw [List.getElem?_append_right (by omega)] at h1
    rw [List.getElem?_replicate] at h1
    split at h1 <;> cases h1
theorem mEntL_len (n : Nat) (av : List Value) (h : (mEnt av).length ≤ n) : (mEntL n av).length = n := by simp [mEntL]; omega
end
section
/-! steps of the small machine that leave the heap as it is, and that the machine follows them -/
def mLen : Instr → Nat
  | .bipush _ => 2
  | .ldc _ => 2
  | .iload _ => 2
  | .lload _ => 2
  | .aload _ => 2
  | .istore _ => 2
  | .lstore _ => 2
  | .astore _ => 2
  | .newarray _ => 2
  | .sipush _ => 3
  | .ldc_w _ => 3
  | .ldc2_w _ => 3
  | .iinc _ _ => 3
  | .goto _ => 3
  | .if_icmp _ _ => 3
  | .ifCond _ _ => 3
  | .ifnull _ => 3
  | .ifnonnull _ => 3
  | .getfield _ => 3
  | .putfield _ => 3
  | .getstatic _ => 3
  | .new _ => 3
  | .anewarray _ => 3
  | .invokevirtual _ => 3
  | .invokestatic _ => 3
  | .invokespecial _ => 3
  | _ => 1
def mLd (g : Value → Bool) (L : mL) (k : Nat) (i : Nat) (st : List Value) (h : mH) : Option mG := match L[k]? with
  | some (some v) => if g v = true then some (i + 1, L, v :: st, h) else none
  | _ => none
def mSt (g : Value → Bool) (L : mL) (k : Nat) (i : Nat) (st : List Value) (h : mH) : Option mG := match st with
  | v :: r => if g v = true ∧ k < L.length then some (i + 1, mS1 L k v, r, h) else none
  | _ => none
def mStJ (L : mL) (k : Nat) (i : Nat) (st : List Value) (h : mH) : Option mG := match st with
  | v :: r => if mIsJ v = true ∧ k + 1 < L.length then some (i + 1, mS2 L k v, r, h) else none
  | _ => none
def mA1 (en : mE) (i : Nat) (L : mL) (st : List Value) (h : mH) : Option mG := match en.2.1 with
  | .aconst_null => some (i + 1, L, .null :: st, h)
  | .iconst n => some (i + 1, L, .int (Int32.ofInt n) :: st, h)
  | .bipush n => some (i + 1, L, .int (Int8.ofInt n).toInt32 :: st, h)
  | .sipush n => some (i + 1, L, .int (Int16.ofInt n).toInt32 :: st, h)
  | .lconst n => some (i + 1, L, .long (Int64.ofNat (n : Nat)) :: st, h)
  | .ldc _ => some (i + 1, L, .int (Int32.ofInt (en.2.2.2.getD 1 0)) :: st, h)
  | .ldc_w _ => some (i + 1, L, .int (Int32.ofInt (en.2.2.2.getD 1 0)) :: st, h)
  | .ldc2_w _ => some (i + 1, L, .long (Int64.ofInt (en.2.2.2.getD 1 0)) :: st, h)
  | .iload k => mLd mIsI L k i st h
  | .iload_n k => mLd mIsI L k i st h
  | .lload k => mLd mIsJ L k i st h
  | .lload_n k => mLd mIsJ L k i st h
  | .aload k => mLd mIsA L k i st h
  | .aload_n k => mLd mIsA L k i st h
  | .istore k => mSt mIsI L k i st h
  | .istore_n k => mSt mIsI L k i st h
  | .lstore k => mStJ L k i st h
  | .lstore_n k => mStJ L k i st h
  | .astore k => mSt mIsA L k i st h
  | .astore_n k => mSt mIsA L k i st h
  | _ => none
def mA2 (en : mE) (i : Nat) (L : mL) (st : List Value) (h : mH) : Option mG := match en.2.1 with
  | .iinc k n => match L[k]? with
    | some (some (.int v)) => if k < L.length then some (i + 1, mS1 L k (.int (v + Int32.ofInt n)), st, h) else none
    | _ => none
  | .dup => match st with
    | v :: r => if v.category = 1 then some (i + 1, L, v :: v :: r, h) else none
    | _ => none
  | .dup2 => match st with
    | v :: u :: r => if v.category = 1 ∧ u.category = 1 then some (i + 1, L, v :: u :: v :: u :: r, h) else none
    | _ => none
  | .pop => match st with
    | v :: r => if v.category = 1 then some (i + 1, L, r, h) else none
    | _ => none
  | .pop2 => match st with
    | v :: r => if v.category = 2 then some (i + 1, L, r, h) else none
    | _ => none
  | _ => none
def mB1 (en : mE) (i : Nat) (L : mL) (st : List Value) (h : mH) : Option mG := match en.2.1 with
  | .iadd => match st with
    | .int y :: .int x :: r => some (i + 1, L, .int (x + y) :: r, h)
    | _ => none
  | .isub => match st with
    | .int y :: .int x :: r => some (i + 1, L, .int (x - y) :: r, h)
    | _ => none
  | .imul => match st with
    | .int y :: .int x :: r => some (i + 1, L, .int (x * y) :: r, h)
    | _ => none
  | .iand => match st with
    | .int y :: .int x :: r => some (i + 1, L, .int (x &&& y) :: r, h)
    | _ => none
  | .ior => match st with
    | .int y :: .int x :: r => some (i + 1, L, .int (x ||| y) :: r, h)
    | _ => none
  | .ixor => match st with
    | .int y :: .int x :: r => some (i + 1, L, .int (x ^^^ y) :: r, h)
    | _ => none
  | .ishl => match st with
    | .int y :: .int x :: r => some (i + 1, L, .int (x <<< (y &&& 31)) :: r, h)
    | _ => none
  | .ishr => match st with
    | .int y :: .int x :: r => some (i + 1, L, .int (x >>> (y &&& 31)) :: r, h)
    | _ => none
  | .iushr => match st with
    | .int y :: .int x :: r => some (i + 1, L, .int ((x.toUInt32 >>> (y.toUInt32 &&& Int32.toUInt32 31)).toInt32) :: r, h)
    | _ => none
  | .idiv => match st with
    | .int y :: .int x :: r => if y = 0 then none else some (i + 1, L, .int (x / y) :: r, h)
    | _ => none
  | .irem => match st with
    | .int y :: .int x :: r => if y = 0 then none else some (i + 1, L, .int (x - x / y * y) :: r, h)
    | _ => none
  | .ineg => match st with
    | .int x :: r => some (i + 1, L, .int (-x) :: r, h)
    | _ => none
  | _ => none
def mB2 (en : mE) (i : Nat) (L : mL) (st : List Value) (h : mH) : Option mG := match en.2.1 with
  | .ladd => match st with
    | .long y :: .long x :: r => some (i + 1, L, .long (x + y) :: r, h)
    | _ => none
  | .lsub => match st with
    | .long y :: .long x :: r => some (i + 1, L, .long (x - y) :: r, h)
    | _ => none
  | .lmul => match st with
    | .long y :: .long x :: r => some (i + 1, L, .long (x * y) :: r, h)
    | _ => none
  | .land => match st with
    | .long y :: .long x :: r => some (i + 1, L, .long (x &&& y) :: r, h)
    | _ => none
  | .lor => match st with
    | .long y :: .long x :: r => some (i + 1, L, .long (x ||| y) :: r, h)
    | _ => none
  | .lxor => match st with
    | .long y :: .long x :: r => some (i + 1, L, .long (x ^^^ y) :: r, h)
    | _ => none
  | .ldiv => match st with
    | .long y :: .long x :: r => if y = 0 then none else some (i + 1, L, .long (x / y) :: r, h)
    | _ => none
  | .lrem => match st with
    | .long y :: .long x :: r => if y = 0 then none else some (i + 1, L, .long (x - x / y * y) :: r, h)
    | _ => none
  | .lshl => match st with
    | .int y :: .long x :: r => some (i + 1, L, .long (x <<< (y.toInt64 &&& 63)) :: r, h)
    | _ => none
  | .lushr => match st with
    | .int y :: .long x :: r => some (i + 1, L, .long ((x.toUInt64 >>> (y.toInt64.toUInt64 &&& Int64.toUInt64 63)).toInt64) :: r, h)
    | _ => none
  | .lcmp => match st with
    | .long y :: .long x :: r => some (i + 1, L, .int (lg_cmp x y) :: r, h)
    | _ => none
  | .i2l => match st with
    | .int x :: r => some (i + 1, L, .long x.toInt64 :: r, h)
    | _ => none
  | .l2i => match st with
    | .long x :: r => some (i + 1, L, .int x.toInt32 :: r, h)
    | _ => none
  | .i2b => match st with
    | .int x :: r => some (i + 1, L, .int x.toInt8.toInt32 :: r, h)
    | _ => none
  | _ => none
def mTgt (en : mE) (k : Nat) : Nat := (en.2.2.2.getD k 0).toNat
def mIf (en : mE) (d : Bool) (i : Nat) (L : mL) (r : List Value) (h : mH) : mG := if d = true then (mTgt en 0, L, r, h) else (i + 1, L, r, h)
def mC2 (q : ClassFile.Cond) (x y : Int32) : Bool := match q with
  | .eq => decide (x = y)
  | .ne => decide (x ≠ y)
  | .lt => decide (x < y)
  | .ge => decide (x ≥ y)
  | .gt => decide (x > y)
  | .le => decide (x ≤ y)
def mLk : List (Int × Int) → Nat → Int → Nat
  | [], _, _ => 0
  | (a, _) :: r, k, z => if z = a then k else mLk r (k + 1) z
def mB3 (en : mE) (i : Nat) (L : mL) (st : List Value) (h : mH) : Option mG := match en.2.1 with
  | .goto _ => some (mTgt en 0, L, st, h)
  | .if_icmp q _ => match st with
    | .int y :: .int x :: r => some (mIf en (mC2 q x y) i L r h)
    | _ => none
  | .ifCond q _ => match st with
    | .int x :: r => some (mIf en (mC2 q x 0) i L r h)
    | _ => none
  | .ifnull _ => match st with
    | .null :: r => some (mTgt en 0, L, r, h)
    | .ref _ :: r => some (i + 1, L, r, h)
    | _ => none
  | .ifnonnull _ => match st with
    | .null :: r => some (i + 1, L, r, h)
    | .ref _ :: r => some (mTgt en 0, L, r, h)
    | _ => none
  | .tableswitch _ lo hi _ => match st with
    | .int x :: r => if x.toInt < lo ∨ hi < x.toInt then some (mTgt en 0, L, r, h) else some (mTgt en (1 + (x.toInt - lo).toNat), L, r, h)
    | _ => none
  | .lookupswitch _ ps => match st with
    | .int x :: r => some (mTgt en (mLk ps.toList 1 x.toInt), L, r, h)
    | _ => none
  | _ => none
end
section
/-! the machine follows the steps that leave the heap as it is -/
def mPcAt (cs : List mE) (k : Nat) : Nat := match cs[k]? with
  | some en => en.1
  | none => 0
def mFol (p : Program) (l : Launch) (e : Env) (R : Room) (s : State) (m : MethodId) (args : Array Value) (below : List Frame) (meth : Method) (c : Code) (cs : List mE) (f : Value → Value) (Q : State → Prop) (H : Heap) (locs : List Loc) (cells slots : Nat) (g : mG) : Prop :=
  ∀ ls : Array Slot, lv_has ls g.2.1.length (mAs f g.2.1) → W p l e R s m args below meth c H locs cells slots Q (F0 m (mPcAt cs g.1) ls (g.2.2.1.map f))
section MSA
variable {p : Program} {l : Launch} {e : Env} {R : Room} {s : State} {m : MethodId} {args : Array Value} {below : List Frame} {meth : Method} {c : Code} {H : Heap} {locs : List Loc} {cells slots : Nat} {Q : State → Prop}
variable {cc : ByteArray} {cs : List mE} {b : Nat} {x : Nat → Nat} {en : mE} {i : Nat} {L : mL} {st : List Value} {h : mH} {g : mG}
theorem mLd_spec {q : Value → Bool} {k : Nat} (hs : mLd q L k i st h = some g) : ∃ v, L[k]? = some (some v) ∧ q v = true ∧ g = (i + 1, L, v :: st, h) := by
  unfold mLd at hs
  split at hs
  · rename_i v hv
    split at hs
    · rename_i hq
      exact ⟨v, hv, hq, (Option.some.inj hs).symm⟩
    · cases hs
  · cases hs
theorem mSt_spec {q : Value → Bool} {k : Nat} (hs : mSt q L k i st h = some g) : ∃ v r, st = v :: r ∧ q v = true ∧ k < L.length ∧ g = (i + 1, mS1 L k v, r, h) := by
  unfold mSt at hs
  split at hs
  · rename_i v r
    split at hs
    · rename_i hq
      exact ⟨v, r, rfl, hq.1, hq.2, (Option.some.inj hs).symm⟩
    · cases hs
  · cases hs
theorem mStJ_spec {k : Nat} (hs : mStJ L k i st h = some g) : ∃ v r, st = v :: r ∧ mIsJ v = true ∧ k + 1 < L.length ∧ g = (i + 1, mS2 L k v, r, h) := by
  unfold mStJ at hs
  split at hs
  · rename_i v r
    split at hs
    · rename_i hq
      exact ⟨v, r, rfl, hq.1, hq.2, (Option.some.inj hs).symm⟩
    · cases hs
  · cases hs
theorem mIsI_spec {v : Value} (h : mIsI v = true) : ∃ z, v = .int z := by cases v <;> first | exact ⟨_, rfl⟩ | cases h
theorem mIsJ_spec {v : Value} (h : mIsJ v = true) : ∃ z, v = .long z := by cases v <;> first | exact ⟨_, rfl⟩ | cases h
theorem mIsA_spec (b : Nat) (x : Nat → Nat) {v : Value} (h : mIsA v = true) : mSh b x v = .null ∨ ∃ a, mSh b x v = .ref a := by cases v <;> first | exact Or.inl rfl | exact Or.inr ⟨_, rfl⟩ | cases h
set_option maxHeartbeats 2000000 in
theorem mA1_sim (hx : p.tables.exec = Jvm.exec) (hb : c.code = cc) (hown : True) (hd : decode cc (mPcAt cs i) = .ok (en.2.1, mLen en.2.1)) (hf : mPcAt cs (i + 1) = mPcAt cs i + mLen en.2.1)
    (hk : ∀ idx : Nat, (en.2.1 = .ldc idx ∨ en.2.1 = .ldc_w idx → ∃ own, s.vm.findClass own = some m.cls ∧ (Jvm.Cond.constant own idx (Int32.ofInt (en.2.2.2.getD 1 0))).before args s = true) ∧ (en.2.1 = .ldc2_w idx → ∃ own, s.vm.findClass own = some m.cls ∧ (Jvm.Cond.constantLong own idx (Int64.ofInt (en.2.2.2.getD 1 0))).before args s = true))
    (hs : mA1 en i L st h = some g) (kk : mFol p l e R s m args below meth c cs (mSh b x) Q H locs cells slots g) : mFol p l e R s m args below meth c cs (mSh b x) Q H locs cells slots (i, L, st, h) ∧ g.2.2.2 = h ∧ g.2.1.length = L.length := by
  unfold mA1 at hs
  split at hs
  · rename_i heq
    cases hs
    refine ⟨fun ls hl => ?_, rfl, rfl⟩
    have k1 := kk ls hl
    dsimp only at k1 ⊢
    rw [hf, heq] at k1
    rw [heq] at hd
    exact lv_null hx hb hd  k1
  · rename_i n heq
    cases hs
    refine ⟨fun ls hl => ?_, rfl, rfl⟩
    have k1 := kk ls hl
    dsimp only at k1 ⊢
    rw [hf, heq] at k1
    rw [heq] at hd
    exact lv_iconst hx hb hd rfl k1
  · rename_i n heq
    cases hs
    refine ⟨fun ls hl => ?_, rfl, rfl⟩
    have k1 := kk ls hl
    dsimp only at k1 ⊢
    rw [hf, heq] at k1
    rw [heq] at hd
    exact lv_bipush hx hb hd rfl k1
  · rename_i n heq
    cases hs
    refine ⟨fun ls hl => ?_, rfl, rfl⟩
    have k1 := kk ls hl
    dsimp only at k1 ⊢
    rw [hf, heq] at k1
    rw [heq] at hd
    exact lv_sipush hx hb hd rfl k1
  · rename_i n heq
    cases hs
    refine ⟨fun ls hl => ?_, rfl, rfl⟩
    have k1 := kk ls hl
    dsimp only at k1 ⊢
    rw [hf, heq] at k1
    rw [heq] at hd
    exact lv_lconst hx hb hd rfl k1
  · rename_i n heq
    cases hs
    obtain ⟨own, ho, hc⟩ := (hk n).1 (Or.inl heq)
    refine ⟨fun ls hl => ?_, rfl, rfl⟩
    have k1 := kk ls hl
    dsimp only at k1 ⊢
    rw [hf, heq] at k1
    rw [heq] at hd
    exact lv_ldc hx hb ho hc hd k1
  · rename_i n heq
    cases hs
    obtain ⟨own, ho, hc⟩ := (hk n).1 (Or.inr heq)
    refine ⟨fun ls hl => ?_, rfl, rfl⟩
    have k1 := kk ls hl
    dsimp only at k1 ⊢
    rw [hf, heq] at k1
    rw [heq] at hd
    exact lv_ldcw hx hb ho hc hd k1
  · rename_i n heq
    cases hs
    obtain ⟨own, ho, hc⟩ := (hk n).2 heq
    refine ⟨fun ls hl => ?_, rfl, rfl⟩
    have k1 := kk ls hl
    dsimp only at k1 ⊢
    rw [hf, heq] at k1
    rw [heq] at hd
    exact lv_ldc2 hx hb ho hc hd k1
  · rename_i k heq
    obtain ⟨v, hv, hq, rfl⟩ := mLd_spec hs
    obtain ⟨z, rfl⟩ := mIsI_spec hq
    refine ⟨fun ls hl => ?_, rfl, rfl⟩
    have k1 := kk ls hl
    dsimp only at k1 hl ⊢
    rw [hf, heq] at k1
    rw [heq] at hd
    exact lv_iload hx hb hd (mAs_at hl hv) k1
  · rename_i k heq
    obtain ⟨v, hv, hq, rfl⟩ := mLd_spec hs
    obtain ⟨z, rfl⟩ := mIsI_spec hq
    refine ⟨fun ls hl => ?_, rfl, rfl⟩
    have k1 := kk ls hl
    dsimp only at k1 hl ⊢
    rw [hf, heq] at k1
    rw [heq] at hd
    exact lv_iload_n hx hb hd rfl (mAs_at hl hv) k1
  · rename_i k heq
    obtain ⟨v, hv, hq, rfl⟩ := mLd_spec hs
    obtain ⟨z, rfl⟩ := mIsJ_spec hq
    refine ⟨fun ls hl => ?_, rfl, rfl⟩
    have k1 := kk ls hl
    dsimp only at k1 hl ⊢
    rw [hf, heq] at k1
    rw [heq] at hd
    exact lv_lload hx hb hd (mAs_at hl hv) k1
  · rename_i k heq
    obtain ⟨v, hv, hq, rfl⟩ := mLd_spec hs
    obtain ⟨z, rfl⟩ := mIsJ_spec hq
    refine ⟨fun ls hl => ?_, rfl, rfl⟩
    have k1 := kk ls hl
    dsimp only at k1 hl ⊢
    rw [hf, heq] at k1
    rw [heq] at hd
    exact lv_lload_n hx hb hd rfl (mAs_at hl hv) k1
  · rename_i k heq
    obtain ⟨v, hv, hq, rfl⟩ := mLd_spec hs
    refine ⟨fun ls hl => ?_, rfl, rfl⟩
    have k1 := kk ls hl
    dsimp only at k1 hl ⊢
    rw [hf, heq] at k1
    rw [heq] at hd
    have h1 := mAs_at hl hv
    rw [List.map_cons] at k1
    rcases mIsA_spec b x hq with e1 | ⟨a, e1⟩
    · rw [e1] at h1 k1
      exact lv_aloadN hx hb hd h1 k1
    · rw [e1] at h1 k1
      exact lv_aload hx hb hd h1 k1
  · rename_i k heq
    obtain ⟨v, hv, hq, rfl⟩ := mLd_spec hs
    refine ⟨fun ls hl => ?_, rfl, rfl⟩
    have k1 := kk ls hl
    dsimp only at k1 hl ⊢
    rw [hf, heq] at k1
    rw [heq] at hd
    have h1 := mAs_at hl hv
    rw [List.map_cons] at k1
    rcases mIsA_spec b x hq with e1 | ⟨a, e1⟩
    · rw [e1] at h1 k1
      exact lv_aload_nN hx hb hd rfl h1 k1
    · rw [e1] at h1 k1
      exact lv_aload_n hx hb hd rfl h1 k1
  · rename_i k heq
    obtain ⟨v, r, rfl, hq, hn, rfl⟩ := mSt_spec hs
    obtain ⟨z, rfl⟩ := mIsI_spec hq
    refine ⟨fun ls hl => ?_, rfl, mS1_len _ _ _⟩
    dsimp only at hl ⊢
    rw [heq] at hd
    refine lv_istore (lv := mAs (mSh b x) L) hx hb hd hl hn rfl fun ls1 h1 => ?_
    have h2 := mS1_has (f := mSh b x) (mSh_cat b x) (v := .int z) h1
    have k1 := kk ls1 (by dsimp only; rw [mS1_len]; exact h2)
    dsimp only at k1
    rw [hf, heq] at k1
    exact k1
  · rename_i k heq
    obtain ⟨v, r, rfl, hq, hn, rfl⟩ := mSt_spec hs
    obtain ⟨z, rfl⟩ := mIsI_spec hq
    refine ⟨fun ls hl => ?_, rfl, mS1_len _ _ _⟩
    dsimp only at hl ⊢
    rw [heq] at hd
    refine lv_istore_n (lv := mAs (mSh b x) L) hx hb hd rfl hl hn rfl fun ls1 h1 => ?_
    have h2 := mS1_has (f := mSh b x) (mSh_cat b x) (v := .int z) h1
    have k1 := kk ls1 (by dsimp only; rw [mS1_len]; exact h2)
    dsimp only at k1
    rw [hf, heq] at k1
    exact k1
  · rename_i k heq
    obtain ⟨v, r, rfl, hq, hn, rfl⟩ := mStJ_spec hs
    obtain ⟨z, rfl⟩ := mIsJ_spec hq
    refine ⟨fun ls hl => ?_, rfl, mS2_len _ _ _⟩
    dsimp only at hl ⊢
    rw [heq] at hd
    refine lv_lstore (lv := mAs (mSh b x) L) hx hb hd hl hn rfl fun ls1 h1 => ?_
    have h2 := mS2_has (f := mSh b x) (mSh_cat b x) (v := .long z) h1
    have k1 := kk ls1 (by dsimp only; rw [mS2_len]; exact h2)
    dsimp only at k1
    rw [hf, heq] at k1
    exact k1
  · rename_i k heq
    obtain ⟨v, r, rfl, hq, hn, rfl⟩ := mStJ_spec hs
    obtain ⟨z, rfl⟩ := mIsJ_spec hq
    refine ⟨fun ls hl => ?_, rfl, mS2_len _ _ _⟩
    dsimp only at hl ⊢
    rw [heq] at hd
    refine lv_lstore_n (lv := mAs (mSh b x) L) hx hb hd rfl hl hn rfl fun ls1 h1 => ?_
    have h2 := mS2_has (f := mSh b x) (mSh_cat b x) (v := .long z) h1
    have k1 := kk ls1 (by dsimp only; rw [mS2_len]; exact h2)
    dsimp only at k1
    rw [hf, heq] at k1
    exact k1
  · rename_i k heq
    obtain ⟨v, r, rfl, hq, hn, rfl⟩ := mSt_spec hs
    refine ⟨fun ls hl => ?_, rfl, mS1_len _ _ _⟩
    dsimp only at hl ⊢
    rw [heq] at hd
    have key : ∀ ls1 : Array Slot, lv_has ls1 L.length ((k, mSh b x v) :: (mAs (mSh b x) L).filter (fun q => !(q.1 == k) && !(q.1 + 1 == k && q.2.category == 2))) → W p l e R s m args below meth c H locs cells slots Q (F0 m (mPcAt cs i + 2) ls1 (r.map (mSh b x))) := by
      intro ls1 h1
      have h2 := mS1_has (mSh_cat b x) h1
      have k1 := kk ls1 (by dsimp only; rw [mS1_len]; exact h2)
      dsimp only at k1
      rw [hf, heq] at k1
      exact k1
    rw [List.map_cons]
    rcases mIsA_spec b x hq with e1 | ⟨a, e1⟩
    · rw [e1] at key ⊢
      exact lv_astoreN (lv := mAs (mSh b x) L) hx hb hd hl hn rfl key
    · rw [e1] at key ⊢
      exact lv_astore (lv := mAs (mSh b x) L) hx hb hd hl hn rfl key
  · rename_i k heq
    obtain ⟨v, r, rfl, hq, hn, rfl⟩ := mSt_spec hs
    refine ⟨fun ls hl => ?_, rfl, mS1_len _ _ _⟩
    dsimp only at hl ⊢
    rw [heq] at hd
    have key : ∀ ls1 : Array Slot, lv_has ls1 L.length (((k : Nat), mSh b x v) :: (mAs (mSh b x) L).filter (fun q => !(q.1 == (k : Nat)) && !(q.1 + 1 == (k : Nat) && q.2.category == 2))) → W p l e R s m args below meth c H locs cells slots Q (F0 m (mPcAt cs i + 1) ls1 (r.map (mSh b x))) := by
      intro ls1 h1
      have h2 := mS1_has (mSh_cat b x) h1
      have k1 := kk ls1 (by dsimp only; rw [mS1_len]; exact h2)
      dsimp only at k1
      rw [hf, heq] at k1
      exact k1
    rw [List.map_cons]
    rcases mIsA_spec b x hq with e1 | ⟨a, e1⟩
    · rw [e1] at key ⊢
      exact lv_astore_nN (lv := mAs (mSh b x) L) hx hb hd rfl hl hn rfl key
    · rw [e1] at key ⊢
      exact lv_astore_n (lv := mAs (mSh b x) L) hx hb hd rfl hl hn rfl key
  · cases hs
set_option maxHeartbeats 2000000 in
theorem mA2_sim (hx : p.tables.exec = Jvm.exec) (hb : c.code = cc) (hd : decode cc (mPcAt cs i) = .ok (en.2.1, mLen en.2.1)) (hf : mPcAt cs (i + 1) = mPcAt cs i + mLen en.2.1)
    (hs : mA2 en i L st h = some g) (kk : mFol p l e R s m args below meth c cs (mSh b x) Q H locs cells slots g) : mFol p l e R s m args below meth c cs (mSh b x) Q H locs cells slots (i, L, st, h) ∧ g.2.2.2 = h ∧ g.2.1.length = L.length := by
  unfold mA2 at hs
  split at hs
  · rename_i k n heq
    split at hs
    · rename_i v hv
      split at hs
      · rename_i hn
        cases hs
        refine ⟨fun ls hl => ?_, rfl, mS1_len _ _ _⟩
        dsimp only at hl ⊢
        rw [heq] at hd
        obtain ⟨j, hj⟩ := List.getElem?_of_mem (mAs_mem.mpr ⟨_, hv, rfl⟩ : (k, mSh b x (.int v)) ∈ mAs (mSh b x) L)
        refine lv_iinc (lv := mAs (mSh b x) L) (k := j) hx hb hd hl hj rfl hn rfl fun ls1 h1 => ?_
        have h2 := mS1_has (f := mSh b x) (mSh_cat b x) (v := .int (v + Int32.ofInt n)) h1
        have k1 := kk ls1 (by dsimp only; rw [mS1_len]; exact h2)
        dsimp only at k1
        rw [hf, heq] at k1
        exact k1
      · cases hs
    · cases hs
  · rename_i heq
    split at hs
    · rename_i v r
      split at hs
      · rename_i hc
        cases hs
        refine ⟨fun ls hl => ?_, rfl, rfl⟩
        have k1 := kk ls hl
        dsimp only [List.map_cons] at k1 ⊢
        rw [hf, heq] at k1
        rw [heq] at hd
        exact lv_dup hx hb hd (by rw [mSh_cat]; exact hc) k1
      · cases hs
    · cases hs
  · rename_i heq
    split at hs
    · rename_i v u r
      split at hs
      · rename_i hc
        cases hs
        refine ⟨fun ls hl => ?_, rfl, rfl⟩
        have k1 := kk ls hl
        dsimp only [List.map_cons] at k1 ⊢
        rw [hf, heq] at k1
        rw [heq] at hd
        exact lv_dup2_11 hx hb hd (by rw [mSh_cat]; exact hc.1) (by rw [mSh_cat]; exact hc.2) k1
      · cases hs
    · cases hs
  · rename_i heq
    split at hs
    · rename_i v r
      split at hs
      · rename_i hc
        cases hs
        refine ⟨fun ls hl => ?_, rfl, rfl⟩
        have k1 := kk ls hl
        dsimp only [List.map_cons] at k1 ⊢
        rw [hf, heq] at k1
        rw [heq] at hd
        exact lv_pop hx hb hd (by rw [mSh_cat]; exact hc) k1
      · cases hs
    · cases hs
  · rename_i heq
    split at hs
    · rename_i v r
      split at hs
      · rename_i hc
        cases hs
        refine ⟨fun ls hl => ?_, rfl, rfl⟩
        have k1 := kk ls hl
        dsimp only [List.map_cons] at k1 ⊢
        rw [hf, heq] at k1
        rw [heq] at hd
        exact lv_pop2_2 hx hb hd (by rw [mSh_cat]; exact hc) k1
      · cases hs
    · cases hs
  · cases hs
set_option maxHeartbeats 2000000 in
theorem mB1_sim (hx : p.tables.exec = Jvm.exec) (hb : c.code = cc) (hd : decode cc (mPcAt cs i) = .ok (en.2.1, mLen en.2.1)) (hf : mPcAt cs (i + 1) = mPcAt cs i + mLen en.2.1)
    (hs : mB1 en i L st h = some g) (kk : mFol p l e R s m args below meth c cs (mSh b x) Q H locs cells slots g) : mFol p l e R s m args below meth c cs (mSh b x) Q H locs cells slots (i, L, st, h) ∧ g.2.2.2 = h ∧ g.2.1.length = L.length := by
  unfold mB1 at hs
  split at hs
  · rename_i heq
    split at hs
    · cases hs
      refine ⟨fun ls hl => ?_, rfl, rfl⟩
      have k1 := kk ls hl
      dsimp only [List.map_cons, mSh] at k1 ⊢
      rw [hf, heq] at k1
      rw [heq] at hd
      exact lv_iadd hx hb hd  k1
    · cases hs
  · rename_i heq
    split at hs
    · cases hs
      refine ⟨fun ls hl => ?_, rfl, rfl⟩
      have k1 := kk ls hl
      dsimp only [List.map_cons, mSh] at k1 ⊢
      rw [hf, heq] at k1
      rw [heq] at hd
      exact lv_isub hx hb hd  k1
    · cases hs
  · rename_i heq
    split at hs
    · cases hs
      refine ⟨fun ls hl => ?_, rfl, rfl⟩
      have k1 := kk ls hl
      dsimp only [List.map_cons, mSh] at k1 ⊢
      rw [hf, heq] at k1
      rw [heq] at hd
      exact lv_imul hx hb hd  k1
    · cases hs
  · rename_i heq
    split at hs
    · cases hs
      refine ⟨fun ls hl => ?_, rfl, rfl⟩
      have k1 := kk ls hl
      dsimp only [List.map_cons, mSh] at k1 ⊢
      rw [hf, heq] at k1
      rw [heq] at hd
      exact lv_iand hx hb hd  k1
    · cases hs
  · rename_i heq
    split at hs
    · cases hs
      refine ⟨fun ls hl => ?_, rfl, rfl⟩
      have k1 := kk ls hl
      dsimp only [List.map_cons, mSh] at k1 ⊢
      rw [hf, heq] at k1
      rw [heq] at hd
      exact lv_ior hx hb hd  k1
    · cases hs
  · rename_i heq
    split at hs
    · cases hs
      refine ⟨fun ls hl => ?_, rfl, rfl⟩
      have k1 := kk ls hl
      dsimp only [List.map_cons, mSh] at k1 ⊢
      rw [hf, heq] at k1
      rw [heq] at hd
      exact lv_ixor hx hb hd  k1
    · cases hs
  · rename_i heq
    split at hs
    · cases hs
      refine ⟨fun ls hl => ?_, rfl, rfl⟩
      have k1 := kk ls hl
      dsimp only [List.map_cons, mSh] at k1 ⊢
      rw [hf, heq] at k1
      rw [heq] at hd
      exact lv_ishl hx hb hd  k1
    · cases hs
  · rename_i heq
    split at hs
    · cases hs
      refine ⟨fun ls hl => ?_, rfl, rfl⟩
      have k1 := kk ls hl
      dsimp only [List.map_cons, mSh] at k1 ⊢
      rw [hf, heq] at k1
      rw [heq] at hd
      exact lv_ishr hx hb hd  k1
    · cases hs
  · rename_i heq
    split at hs
    · cases hs
      refine ⟨fun ls hl => ?_, rfl, rfl⟩
      have k1 := kk ls hl
      dsimp only [List.map_cons, mSh] at k1 ⊢
      rw [hf, heq] at k1
      rw [heq] at hd
      exact lv_iushr hx hb hd rfl k1
    · cases hs
  · rename_i heq
    split at hs
    · split at hs
      · cases hs
      · rename_i hne
        cases hs
        refine ⟨fun ls hl => ?_, rfl, rfl⟩
        have k1 := kk ls hl
        dsimp only [List.map_cons, mSh] at k1 ⊢
        rw [hf, heq] at k1
        rw [heq] at hd
        exact lv_idiv hx hb hd hne k1
    · cases hs
  · rename_i heq
    split at hs
    · split at hs
      · cases hs
      · rename_i hne
        cases hs
        refine ⟨fun ls hl => ?_, rfl, rfl⟩
        have k1 := kk ls hl
        dsimp only [List.map_cons, mSh] at k1 ⊢
        rw [hf, heq] at k1
        rw [heq] at hd
        exact lv_irem hx hb hd hne k1
    · cases hs
  · rename_i heq
    split at hs
    · cases hs
      refine ⟨fun ls hl => ?_, rfl, rfl⟩
      have k1 := kk ls hl
      dsimp only [List.map_cons, mSh] at k1 ⊢
      rw [hf, heq] at k1
      rw [heq] at hd
      exact lv_ineg hx hb hd  k1
    · cases hs
  · cases hs
set_option maxHeartbeats 2000000 in
theorem mB2_sim (hx : p.tables.exec = Jvm.exec) (hb : c.code = cc) (hd : decode cc (mPcAt cs i) = .ok (en.2.1, mLen en.2.1)) (hf : mPcAt cs (i + 1) = mPcAt cs i + mLen en.2.1)
    (hs : mB2 en i L st h = some g) (kk : mFol p l e R s m args below meth c cs (mSh b x) Q H locs cells slots g) : mFol p l e R s m args below meth c cs (mSh b x) Q H locs cells slots (i, L, st, h) ∧ g.2.2.2 = h ∧ g.2.1.length = L.length := by
  unfold mB2 at hs
  split at hs
  · rename_i heq
    split at hs
    · cases hs
      refine ⟨fun ls hl => ?_, rfl, rfl⟩
      have k1 := kk ls hl
      dsimp only [List.map_cons, mSh] at k1 ⊢
      rw [hf, heq] at k1
      rw [heq] at hd
      exact lv_ladd hx hb hd  k1
    · cases hs
  · rename_i heq
    split at hs
    · cases hs
      refine ⟨fun ls hl => ?_, rfl, rfl⟩
      have k1 := kk ls hl
      dsimp only [List.map_cons, mSh] at k1 ⊢
      rw [hf, heq] at k1
      rw [heq] at hd
      exact lv_lsub hx hb hd  k1
    · cases hs
  · rename_i heq
    split at hs
    · cases hs
      refine ⟨fun ls hl => ?_, rfl, rfl⟩
      have k1 := kk ls hl
      dsimp only [List.map_cons, mSh] at k1 ⊢
      rw [hf, heq] at k1
      rw [heq] at hd
      exact lv_lmul hx hb hd  k1
    · cases hs
  · rename_i heq
    split at hs
    · cases hs
      refine ⟨fun ls hl => ?_, rfl, rfl⟩
      have k1 := kk ls hl
      dsimp only [List.map_cons, mSh] at k1 ⊢
      rw [hf, heq] at k1
      rw [heq] at hd
      exact lv_land hx hb hd  k1
    · cases hs
  · rename_i heq
    split at hs
    · cases hs
      refine ⟨fun ls hl => ?_, rfl, rfl⟩
      have k1 := kk ls hl
      dsimp only [List.map_cons, mSh] at k1 ⊢
      rw [hf, heq] at k1
      rw [heq] at hd
      exact lv_lor hx hb hd  k1
    · cases hs
  · rename_i heq
    split at hs
    · cases hs
      refine ⟨fun ls hl => ?_, rfl, rfl⟩
      have k1 := kk ls hl
      dsimp only [List.map_cons, mSh] at k1 ⊢
      rw [hf, heq] at k1
      rw [heq] at hd
      exact lv_lxor hx hb hd  k1
    · cases hs
  · rename_i heq
    split at hs
    · split at hs
      · cases hs
      · rename_i hne
        cases hs
        refine ⟨fun ls hl => ?_, rfl, rfl⟩
        have k1 := kk ls hl
        dsimp only [List.map_cons, mSh] at k1 ⊢
        rw [hf, heq] at k1
        rw [heq] at hd
        exact lv_ldiv hx hb hd hne k1
    · cases hs
  · rename_i heq
    split at hs
    · split at hs
      · cases hs
      · rename_i hne
        cases hs
        refine ⟨fun ls hl => ?_, rfl, rfl⟩
        have k1 := kk ls hl
        dsimp only [List.map_cons, mSh] at k1 ⊢
        rw [hf, heq] at k1
        rw [heq] at hd
        exact lv_lrem hx hb hd hne k1
    · cases hs
  · rename_i heq
    split at hs
    · cases hs
      refine ⟨fun ls hl => ?_, rfl, rfl⟩
      have k1 := kk ls hl
      dsimp only [List.map_cons, mSh] at k1 ⊢
      rw [hf, heq] at k1
      rw [heq] at hd
      exact lv_lshl hx hb hd rfl k1
    · cases hs
  · rename_i heq
    split at hs
    · cases hs
      refine ⟨fun ls hl => ?_, rfl, rfl⟩
      have k1 := kk ls hl
      dsimp only [List.map_cons, mSh] at k1 ⊢
      rw [hf, heq] at k1
      rw [heq] at hd
      exact lv_lushr hx hb hd rfl k1
    · cases hs
  · rename_i heq
    split at hs
    · cases hs
      refine ⟨fun ls hl => ?_, rfl, rfl⟩
      have k1 := kk ls hl
      dsimp only [List.map_cons, mSh] at k1 ⊢
      rw [hf, heq] at k1
      rw [heq] at hd
      exact W.lcmp hx hb hd  k1
    · cases hs
  · rename_i heq
    split at hs
    · cases hs
      refine ⟨fun ls hl => ?_, rfl, rfl⟩
      have k1 := kk ls hl
      dsimp only [List.map_cons, mSh] at k1 ⊢
      rw [hf, heq] at k1
      rw [heq] at hd
      exact lv_i2l hx hb hd rfl k1
    · cases hs
  · rename_i heq
    split at hs
    · cases hs
      refine ⟨fun ls hl => ?_, rfl, rfl⟩
      have k1 := kk ls hl
      dsimp only [List.map_cons, mSh] at k1 ⊢
      rw [hf, heq] at k1
      rw [heq] at hd
      exact lv_l2i hx hb hd rfl k1
    · cases hs
  · rename_i heq
    split at hs
    · cases hs
      refine ⟨fun ls hl => ?_, rfl, rfl⟩
      have k1 := kk ls hl
      dsimp only [List.map_cons, mSh] at k1 ⊢
      rw [hf, heq] at k1
      rw [heq] at hd
      exact lv_i2b hx hb hd rfl k1
    · cases hs
  · cases hs
end MSA
end
section
/-! jumps -/
def mJok (cs : List mE) (i : Nat) (en : mE) : Bool := match en.2.1 with
  | .goto off => decide ((mPcAt cs i : Int) + off = ((mPcAt cs (mTgt en 0) : Nat) : Int))
  | .if_icmp _ off => decide ((mPcAt cs i : Int) + off = ((mPcAt cs (mTgt en 0) : Nat) : Int))
  | .ifCond _ off => decide ((mPcAt cs i : Int) + off = ((mPcAt cs (mTgt en 0) : Nat) : Int))
  | .ifnull off => decide ((mPcAt cs i : Int) + off = ((mPcAt cs (mTgt en 0) : Nat) : Int))
  | .ifnonnull off => decide ((mPcAt cs i : Int) + off = ((mPcAt cs (mTgt en 0) : Nat) : Int))
  | .tableswitch d lo hi offs => decide ((mPcAt cs i : Int) + d = ((mPcAt cs (mTgt en 0) : Nat) : Int)) && (decide ((offs.toList.length : Int) = hi - lo + 1) && (List.range offs.toList.length).all (fun j => decide ((mPcAt cs i : Int) + offs.toList.getD j 0 = ((mPcAt cs (mTgt en (1 + j)) : Nat) : Int))))
  | .lookupswitch d ps => decide ((mPcAt cs i : Int) + d = ((mPcAt cs (mTgt en 0) : Nat) : Int)) && ((ps.toList.zip (ps.toList.drop 1)).all (fun (a, next) => a.1 < next.1) && (List.range ps.toList.length).all (fun j => decide ((mPcAt cs i : Int) + (ps.toList.getD j (0, 0)).2 = ((mPcAt cs (mTgt en (1 + j)) : Nat) : Int))))
  | _ => true
theorem mLk_ok (P : Nat → Int → Prop) (d z : Int) (h0 : P 0 d) : ∀ (ps : List (Int × Int)) (k0 : Nat), (∀ (j : Nat), j < ps.length → P (k0 + j) (ps.getD j (0, 0)).2) → P (mLk ps k0 z) (Op.lookupswitch.offset ps d z) := by
  intro ps
  induction ps with
  | nil => intro k0 _; exact h0
  | cons q r ih =>
    intro k0 h
    obtain ⟨a, o⟩ := q
    rw [Op.lookupswitch.offset_cons]
    unfold mLk
    by_cases hz : z = a
    · rw [if_pos hz]
      first | rw [if_pos hz] | rw [if_pos hz.symm]
      exact h 0 (by simp)
    · rw [if_neg hz]
      first | rw [if_neg hz] | rw [if_neg (Ne.symm hz)]
      refine ih (k0 + 1) fun j hj => ?_
      have h1 := h (j + 1) (by simp; omega)
      rw [show k0 + 1 + j = k0 + (j + 1) by omega]
      exact h1
section MSB
variable {p : Program} {l : Launch} {e : Env} {R : Room} {s : State} {m : MethodId} {args : Array Value} {below : List Frame} {meth : Method} {c : Code} {H : Heap} {locs : List Loc} {cells slots : Nat} {Q : State → Prop}
variable {cc : ByteArray} {cs : List mE} {b : Nat} {x : Nat → Nat} {en : mE} {i : Nat} {L : mL} {st : List Value} {h : mH} {g : mG}
set_option maxHeartbeats 4000000 in
theorem mB3_sim {len : Nat} (hx : p.tables.exec = Jvm.exec) (hb : c.code = cc) (hd : decode cc (mPcAt cs i) = .ok (en.2.1, len)) (hl3 : len = mLen en.2.1 ∨ (∃ a b c d, en.2.1 = .tableswitch a b c d) ∨ ∃ a b, en.2.1 = .lookupswitch a b) (hf : (∃ q o, en.2.1 = .if_icmp q o) ∨ (∃ q o, en.2.1 = .ifCond q o) ∨ (∃ o, en.2.1 = .ifnull o) ∨ (∃ o, en.2.1 = .ifnonnull o) → mPcAt cs (i + 1) = mPcAt cs i + mLen en.2.1) (hj : mJok cs i en = true)
    (hs : mB3 en i L st h = some g) (kk : mFol p l e R s m args below meth c cs (mSh b x) Q H locs cells slots g) : mFol p l e R s m args below meth c cs (mSh b x) Q H locs cells slots (i, L, st, h) ∧ g.2.2.2 = h ∧ g.2.1.length = L.length := by
  unfold mB3 at hs
  unfold mJok at hj
  split at hs
  · rename_i off heq
    cases hs
    rw [heq] at hj hd hl3
    have hlen : len = 3 := by rcases hl3 with h | ⟨_, _, _, _, h⟩ | ⟨_, _, h⟩ <;> first | exact h | cases h
    subst hlen
    refine ⟨fun ls hl => ?_, rfl, rfl⟩
    have k1 := kk ls hl
    dsimp only at k1 ⊢
    exact lv_goto hx hb hd (of_decide_eq_true hj) k1
  · rename_i q off heq
    split at hs
    · rename_i y x0 r
      cases hs
      have hf1 := hf (Or.inl ⟨_, _, heq⟩)
      rw [heq] at hj hd hl3 hf1
      have hlen : len = 3 := by rcases hl3 with h | ⟨_, _, _, _, h⟩ | ⟨_, _, h⟩ <;> first | exact h | cases h
      subst hlen
      have ht := of_decide_eq_true hj
      refine ⟨fun ls hl => ?_, by unfold mIf; split <;> rfl, by unfold mIf; split <;> rfl⟩
      have kt : mC2 q x0 y = true → W p l e R s m args below meth c H locs cells slots Q (F0 m (mPcAt cs (mTgt en 0)) ls (r.map (mSh b x))) := fun hq => by
        have k0 := kk
        unfold mIf at k0
        rw [if_pos hq] at k0
        exact k0 ls hl
      have kf : ¬ mC2 q x0 y = true → W p l e R s m args below meth c H locs cells slots Q (F0 m (mPcAt cs i + 3) ls (r.map (mSh b x))) := fun hq => by
        have k0 := kk
        unfold mIf at k0
        rw [if_neg hq] at k0
        have k1 := k0 ls hl
        dsimp only at k1
        rw [hf1] at k1
        exact k1
      dsimp only [List.map_cons, mSh]
      cases q
      · exact lv_icmp_eq hx hb hd ht (fun hq => kt (decide_eq_true hq)) (fun hq => kf (fun z => hq (of_decide_eq_true z)))
      · exact lv_icmp_ne hx hb hd ht (fun hq => kt (decide_eq_true hq)) (fun hq => kf (fun z => (of_decide_eq_true z) hq))
      · exact lv_icmp_lt hx hb hd ht (fun hq => kt (decide_eq_true hq)) (fun hq => kf (fun z => hq (of_decide_eq_true z)))
      · exact lv_icmp_ge hx hb hd ht (fun hq => kt (decide_eq_true hq)) (fun hq => kf (fun z => hq (of_decide_eq_true z)))
      · exact lv_icmp_gt hx hb hd ht (fun hq => kt (decide_eq_true hq)) (fun hq => kf (fun z => hq (of_decide_eq_true z)))
      · exact lv_icmp_le hx hb hd ht (fun hq => kt (decide_eq_true hq)) (fun hq => kf (fun z => hq (of_decide_eq_true z)))
    · cases hs
  · rename_i q off heq
    split at hs
    · rename_i x0 r
      cases hs
      have hf1 := hf (Or.inr (Or.inl ⟨_, _, heq⟩))
      rw [heq] at hj hd hl3 hf1
      have hlen : len = 3 := by rcases hl3 with h | ⟨_, _, _, _, h⟩ | ⟨_, _, h⟩ <;> first | exact h | cases h
      subst hlen
      have ht := of_decide_eq_true hj
      refine ⟨fun ls hl => ?_, by unfold mIf; split <;> rfl, by unfold mIf; split <;> rfl⟩
      have kt : mC2 q x0 0 = true → W p l e R s m args below meth c H locs cells slots Q (F0 m (mPcAt cs (mTgt en 0)) ls (r.map (mSh b x))) := fun hq => by
        have k0 := kk
        unfold mIf at k0
        rw [if_pos hq] at k0
        exact k0 ls hl
      have kf : ¬ mC2 q x0 0 = true → W p l e R s m args below meth c H locs cells slots Q (F0 m (mPcAt cs i + 3) ls (r.map (mSh b x))) := fun hq => by
        have k0 := kk
        unfold mIf at k0
        rw [if_neg hq] at k0
        have k1 := k0 ls hl
        dsimp only at k1
        rw [hf1] at k1
        exact k1
      dsimp only [List.map_cons, mSh]
      cases q
      · exact lv_if_eq hx hb hd ht (fun hq => kt (decide_eq_true hq)) (fun hq => kf (fun z => hq (of_decide_eq_true z)))
      · exact lv_if_ne hx hb hd ht (fun hq => kt (decide_eq_true hq)) (fun hq => kf (fun z => (of_decide_eq_true z) hq))
      · exact lv_if_lt hx hb hd ht (fun hq => kt (decide_eq_true hq)) (fun hq => kf (fun z => hq (of_decide_eq_true z)))
      · exact lv_if_ge hx hb hd ht (fun hq => kt (decide_eq_true hq)) (fun hq => kf (fun z => hq (of_decide_eq_true z)))
      · exact lv_if_gt hx hb hd ht (fun hq => kt (decide_eq_true hq)) (fun hq => kf (fun z => hq (of_decide_eq_true z)))
      · exact lv_if_le hx hb hd ht (fun hq => kt (decide_eq_true hq)) (fun hq => kf (fun z => hq (of_decide_eq_true z)))
    · cases hs
  · rename_i off heq
    split at hs
    · rename_i r
      cases hs
      have hf1 := hf (Or.inr (Or.inr (Or.inl ⟨_, heq⟩)))
      rw [heq] at hj hd hl3 hf1
      have hlen : len = 3 := by rcases hl3 with h | ⟨_, _, _, _, h⟩ | ⟨_, _, h⟩ <;> first | exact h | cases h
      subst hlen
      have ht := of_decide_eq_true hj
      refine ⟨fun ls hl => ?_, rfl, rfl⟩
      have k1 := kk ls hl
      dsimp only [List.map_cons, mSh] at k1 ⊢
      exact lv_ifnullN hx hb hd ht k1
    · rename_i a r
      cases hs
      have hf1 := hf (Or.inr (Or.inr (Or.inl ⟨_, heq⟩)))
      rw [heq] at hj hd hl3 hf1
      have hlen : len = 3 := by rcases hl3 with h | ⟨_, _, _, _, h⟩ | ⟨_, _, h⟩ <;> first | exact h | cases h
      subst hlen
      have ht := of_decide_eq_true hj
      refine ⟨fun ls hl => ?_, rfl, rfl⟩
      have k1 := kk ls hl
      dsimp only [List.map_cons, mSh] at k1 ⊢
      rw [hf1] at k1
      exact lv_ifnull hx hb hd k1
    · cases hs
  · rename_i off heq
    split at hs
    · rename_i r
      cases hs
      have hf1 := hf (Or.inr (Or.inr (Or.inr ⟨_, heq⟩)))
      rw [heq] at hj hd hl3 hf1
      have hlen : len = 3 := by rcases hl3 with h | ⟨_, _, _, _, h⟩ | ⟨_, _, h⟩ <;> first | exact h | cases h
      subst hlen
      have ht := of_decide_eq_true hj
      refine ⟨fun ls hl => ?_, rfl, rfl⟩
      have k1 := kk ls hl
      dsimp only [List.map_cons, mSh] at k1 ⊢
      rw [hf1] at k1
      exact lv_ifnonnullN hx hb hd k1
    · rename_i a r
      cases hs
      have hf1 := hf (Or.inr (Or.inr (Or.inr ⟨_, heq⟩)))
      rw [heq] at hj hd hl3 hf1
      have hlen : len = 3 := by rcases hl3 with h | ⟨_, _, _, _, h⟩ | ⟨_, _, h⟩ <;> first | exact h | cases h
      subst hlen
      have ht := of_decide_eq_true hj
      refine ⟨fun ls hl => ?_, rfl, rfl⟩
      have k1 := kk ls hl
      dsimp only [List.map_cons, mSh] at k1 ⊢
      exact lv_ifnonnull hx hb hd ht k1
    · cases hs
  · rename_i dflt lo hi offs heq
    split at hs
    · rename_i z r
      rw [heq] at hj hd
      simp only [Bool.and_eq_true, decide_eq_true_eq, List.all_eq_true, List.mem_range] at hj
      obtain ⟨h0, h1, h2⟩ := hj
      split at hs
      · rename_i hz
        cases hs
        refine ⟨fun ls hl => ?_, rfl, rfl⟩
        have k1 := kk ls hl
        dsimp only [List.map_cons, mSh] at k1 ⊢
        exact lv_tableOut hx hb hd hz h0 k1
      · rename_i hz
        cases hs
        refine ⟨fun ls hl => ?_, rfl, rfl⟩
        have k1 := kk ls hl
        dsimp only [List.map_cons, mSh] at k1 ⊢
        have hlt : (z.toInt - lo).toNat < offs.toList.length := by omega
        refine lv_tableIn hx hb hd (fun q => hz (Or.inl q)) (fun q => hz (Or.inr q)) (off := offs.toList.getD (z.toInt - lo).toNat 0) ?_ (h2 _ hlt) k1
        rw [← Array.getElem?_toList, List.getElem?_eq_getElem hlt, List.getD_eq_getElem?_getD, List.getElem?_eq_getElem hlt]
        rfl
    · cases hs
  · rename_i dflt ps heq
    split at hs
    · rename_i z r
      rw [heq] at hj hd
      simp only [Bool.and_eq_true, decide_eq_true_eq] at hj
      obtain ⟨h0, h1, h2⟩ := hj
      simp only [List.all_eq_true, List.mem_range, decide_eq_true_eq] at h2
      cases hs
      refine ⟨fun ls hl => ?_, rfl, rfl⟩
      have k1 := kk ls hl
      dsimp only [List.map_cons, mSh] at k1 ⊢
      exact lv_lookup hx hb hd h1 rfl (mLk_ok (fun k off => (mPcAt cs i : Int) + off = ((mPcAt cs (mTgt en k) : Nat) : Int)) dflt z.toInt h0 ps.toList 1 (fun j hj => h2 j hj)) k1
    · cases hs
  · cases hs
end MSB
end
section
/-! the classes, their fields -/
def mW : List Cond := lw_tbl.filter goodWord
theorem mW_of {w : Cond} (i : Nat) (h : lw_tbl[i]? = some w) (hg : goodWord w = true) : w ∈ mW := List.mem_filter.mpr ⟨List.mem_of_getElem? h, hg⟩
def mT0 : u_T := fun k => match k with
  | 0 => ("FirstLanding", "rows", "[LFirstLanding$Row;", true)
  | 1 => ("FirstLanding", "texts", "[LFirstLanding$Text;", true)
  | 2 => ("FirstLanding", "now", "LFirstLanding$Embassy;", true)
  | 3 => ("FirstLanding", "kept", "[LFirstLanding$Embassy;", true)
  | 4 => ("FirstLanding", "reader", "LFirstLanding$Reader;", true)
  | 5 => ("FirstLanding", "walk", "LFirstLanding$Walk;", true)
  | 6 => ("FirstLanding", "planned", "LFirstLanding$Meetings;", true)
  | 7 => ("FirstLanding", "timesFound", "[I", true)
  | 8 => ("FirstLanding", "lastFinding", "I", false)
  | 9 => ("FirstLanding", "lastAsked", "I", false)
  | 10 => ("FirstLanding", "toldUpper", "J", false)
  | _ => ("FirstLanding", "toldLower", "J", false)
def mTy0 : Nat → FieldType := fun k => match k with
  | 0 => .array (.object "FirstLanding$Row")
  | 1 => .array (.object "FirstLanding$Text")
  | 2 => .object "FirstLanding$Embassy"
  | 3 => .array (.object "FirstLanding$Embassy")
  | 4 => .object "FirstLanding$Reader"
  | 5 => .object "FirstLanding$Walk"
  | 6 => .object "FirstLanding$Meetings"
  | 7 => .array .int
  | 8 => .int
  | 9 => .int
  | 10 => .long
  | _ => .long
def mT1 : u_T := fun k => match k with
  | 0 => ("FirstLanding$Embassy", "kinds", "[I", true)
  | 1 => ("FirstLanding$Embassy", "looks", "[I", true)
  | 2 => ("FirstLanding$Embassy", "deeds", "[I", true)
  | 3 => ("FirstLanding$Embassy", "people", "I", false)
  | 4 => ("FirstLanding$Embassy", "up", "I", false)
  | 5 => ("FirstLanding$Embassy", "done", "I", false)
  | _ => ("FirstLanding$Embassy", "treaties", "J", false)
def mTy1 : Nat → FieldType := fun k => match k with
  | 0 => .array .int
  | 1 => .array .int
  | 2 => .array .int
  | 3 => .int
  | 4 => .int
  | 5 => .int
  | _ => .long
def mT2 : u_T := fun k => match k with
  | 0 => ("FirstLanding$Reader", "draft", "LFirstLanding$Embassy;", true)
  | _ => ("FirstLanding$Reader", "place", "I", false)
def mTy2 : Nat → FieldType := fun k => match k with
  | 0 => .object "FirstLanding$Embassy"
  | _ => .int
def mT3 : u_T := fun k => match k with
  | 0 => ("FirstLanding$Walk", "agreed", "[I", true)
  | 1 => ("FirstLanding$Walk", "queue", "[I", true)
  | 2 => ("FirstLanding$Walk", "reached", "[I", true)
  | _ => ("FirstLanding$Walk", "firstStep", "I", false)
def mTy3 : Nat → FieldType := fun k => match k with
  | 0 => .array .int
  | 1 => .array .int
  | 2 => .array .int
  | _ => .int
def mT4 : u_T := fun k => match k with
  | 0 => ("FirstLanding$Meetings", "least", "[I", true)
  | _ => ("FirstLanding$Meetings", "before", "[I", true)
def mTy4 : Nat → FieldType := fun k => match k with
  | 0 => .array .int
  | _ => .array .int
def mT5 : u_T := fun k => match k with
  | 0 => ("FirstLanding$Row", "places", "[I", true)
  | _ => ("FirstLanding$Row", "size", "I", false)
def mTy5 : Nat → FieldType := fun k => match k with
  | 0 => .array .int
  | _ => .int
def mT6 : u_T := fun k => match k with
  | 0 => ("FirstLanding$Text", "signs", "[B", true)
  | _ => ("FirstLanding$Text", "size", "I", false)
def mTy6 : Nat → FieldType := fun k => match k with
  | 0 => .array .byte
  | _ => .int
def mT7 : u_T := fun k => match k with
  | 0 => ("FirstLandingModel", "rowSizes", "[I", true)
  | 1 => ("FirstLandingModel", "rows", "[I", true)
  | 2 => ("FirstLandingModel", "textSizes", "[I", true)
  | 3 => ("FirstLandingModel", "texts", "[I", true)
  | 4 => ("FirstLandingModel", "now", "[I", true)
  | 5 => ("FirstLandingModel", "read", "[I", true)
  | 6 => ("FirstLandingModel", "keeps", "[I", true)
  | 7 => ("FirstLandingModel", "kept", "[Z", true)
  | 8 => ("FirstLandingModel", "asked", "I", false)
  | 9 => ("FirstLandingModel", "upper", "J", false)
  | 10 => ("FirstLandingModel", "lower", "J", false)
  | 11 => ("FirstLandingModel", "finding", "I", false)
  | 12 => ("FirstLandingModel", "findings", "[I", true)
  | 13 => ("FirstLandingModel", "place", "I", false)
  | 14 => ("FirstLandingModel", "firstPair", "I", false)
  | 15 => ("FirstLandingModel", "far", "[I", true)
  | 16 => ("FirstLandingModel", "agreed", "[I", true)
  | 17 => ("FirstLandingModel", "unmetOnes", "[I", true)
  | 18 => ("FirstLandingModel", "ups", "[I", true)
  | 19 => ("FirstLandingModel", "tried", "[I", true)
  | _ => ("FirstLandingModel", "best", "[I", true)
def mTy7 : Nat → FieldType := fun k => match k with
  | 0 => .array .int
  | 1 => .array .int
  | 2 => .array .int
  | 3 => .array .int
  | 4 => .array .int
  | 5 => .array .int
  | 6 => .array .int
  | 7 => .array .boolean
  | 8 => .int
  | 9 => .long
  | 10 => .long
  | 11 => .int
  | 12 => .array .int
  | 13 => .int
  | 14 => .int
  | 15 => .array .int
  | 16 => .array .int
  | 17 => .array .int
  | 18 => .array .int
  | 19 => .array .int
  | _ => .array .int
def mCl : List vw_C := [("FirstLanding", mT0, 12), ("FirstLanding$Embassy", mT1, 7), ("FirstLanding$Reader", mT2, 2), ("FirstLanding$Walk", mT3, 4), ("FirstLanding$Meetings", mT4, 2), ("FirstLanding$Row", mT5, 2), ("FirstLanding$Text", mT6, 2), ("FirstLandingModel", mT7, 21)]
def mFT : Nat → Nat → FieldType := fun c => match c with
  | 0 => mTy0
  | 1 => mTy1
  | 2 => mTy2
  | 3 => mTy3
  | 4 => mTy4
  | 5 => mTy5
  | 6 => mTy6
  | _ => mTy7
def mTagTy : Nat → FieldType := fun t => match t with
  | 50 => .int
  | 51 => .byte
  | 52 => .boolean
  | 53 => .object "FirstLanding$Row"
  | 54 => .object "FirstLanding$Text"
  | _ => .object "FirstLanding$Embassy"
def mTys (cA : Nat → ClassId) : List (ClassId × FieldType) := [(cA 50, .int), (cA 51, .byte), (cA 52, .boolean), (cA 53, .object "FirstLanding$Row"), (cA 54, .object "FirstLanding$Text"), (cA 55, .object "FirstLanding$Embassy")]
theorem mIn0 : ∀ w ∈ u_ws "FirstLanding" mT0 12, w ∈ mW := by
  intro w hw
  refine List.mem_filter.mpr ⟨?_, ?_⟩
  · exact (show ∀ w ∈ u_ws "FirstLanding" mT0 12, w ∈ lw_tbl by decide +kernel) w hw
  · exact (show ∀ w ∈ u_ws "FirstLanding" mT0 12, goodWord w = true by decide +kernel) w hw
theorem mNm0 : ∀ a, a < 12 → ∀ b, b < 12 → a ≠ b → (mT0 a).2.1 ≠ (mT0 b).2.1 := by decide +kernel
theorem mPf0 : ∀ k, k < 12 → parseFieldDescriptor (mT0 k).2.2.1 = some (mTy0 k) := by decide +kernel
theorem mIn1 : ∀ w ∈ u_ws "FirstLanding$Embassy" mT1 7, w ∈ mW := by
  intro w hw
  refine List.mem_filter.mpr ⟨?_, ?_⟩
  · exact (show ∀ w ∈ u_ws "FirstLanding$Embassy" mT1 7, w ∈ lw_tbl by decide +kernel) w hw
  · exact (show ∀ w ∈ u_ws "FirstLanding$Embassy" mT1 7, goodWord w = true by decide +kernel) w hw
theorem mNm1 : ∀ a, a < 7 → ∀ b, b < 7 → a ≠ b → (mT1 a).2.1 ≠ (mT1 b).2.1 := by decide +kernel
theorem mPf1 : ∀ k, k < 7 → parseFieldDescriptor (mT1 k).2.2.1 = some (mTy1 k) := by decide +kernel
theorem mIn2 : ∀ w ∈ u_ws "FirstLanding$Reader" mT2 2, w ∈ mW := by
  intro w hw
  refine List.mem_filter.mpr ⟨?_, ?_⟩
  · exact (show ∀ w ∈ u_ws "FirstLanding$Reader" mT2 2, w ∈ lw_tbl by decide +kernel) w hw
  · exact (show ∀ w ∈ u_ws "FirstLanding$Reader" mT2 2, goodWord w = true by decide +kernel) w hw
theorem mNm2 : ∀ a, a < 2 → ∀ b, b < 2 → a ≠ b → (mT2 a).2.1 ≠ (mT2 b).2.1 := by decide +kernel
theorem mPf2 : ∀ k, k < 2 → parseFieldDescriptor (mT2 k).2.2.1 = some (mTy2 k) := by decide +kernel
theorem mIn3 : ∀ w ∈ u_ws "FirstLanding$Walk" mT3 4, w ∈ mW := by
  intro w hw
  refine List.mem_filter.mpr ⟨?_, ?_⟩
  · exact (show ∀ w ∈ u_ws "FirstLanding$Walk" mT3 4, w ∈ lw_tbl by decide +kernel) w hw
  · exact (show ∀ w ∈ u_ws "FirstLanding$Walk" mT3 4, goodWord w = true by decide +kernel) w hw
theorem mNm3 : ∀ a, a < 4 → ∀ b, b < 4 → a ≠ b → (mT3 a).2.1 ≠ (mT3 b).2.1 := by decide +kernel
theorem mPf3 : ∀ k, k < 4 → parseFieldDescriptor (mT3 k).2.2.1 = some (mTy3 k) := by decide +kernel
theorem mIn4 : ∀ w ∈ u_ws "FirstLanding$Meetings" mT4 2, w ∈ mW := by
  intro w hw
  refine List.mem_filter.mpr ⟨?_, ?_⟩
  · exact (show ∀ w ∈ u_ws "FirstLanding$Meetings" mT4 2, w ∈ lw_tbl by decide +kernel) w hw
  · exact (show ∀ w ∈ u_ws "FirstLanding$Meetings" mT4 2, goodWord w = true by decide +kernel) w hw
theorem mNm4 : ∀ a, a < 2 → ∀ b, b < 2 → a ≠ b → (mT4 a).2.1 ≠ (mT4 b).2.1 := by decide +kernel
theorem mPf4 : ∀ k, k < 2 → parseFieldDescriptor (mT4 k).2.2.1 = some (mTy4 k) := by decide +kernel
theorem mIn5 : ∀ w ∈ u_ws "FirstLanding$Row" mT5 2, w ∈ mW := by
  intro w hw
  refine List.mem_filter.mpr ⟨?_, ?_⟩
  · exact (show ∀ w ∈ u_ws "FirstLanding$Row" mT5 2, w ∈ lw_tbl by decide +kernel) w hw
  · exact (show ∀ w ∈ u_ws "FirstLanding$Row" mT5 2, goodWord w = true by decide +kernel) w hw
theorem mNm5 : ∀ a, a < 2 → ∀ b, b < 2 → a ≠ b → (mT5 a).2.1 ≠ (mT5 b).2.1 := by decide +kernel
theorem mPf5 : ∀ k, k < 2 → parseFieldDescriptor (mT5 k).2.2.1 = some (mTy5 k) := by decide +kernel
theorem mIn6 : ∀ w ∈ u_ws "FirstLanding$Text" mT6 2, w ∈ mW := by
  intro w hw
  refine List.mem_filter.mpr ⟨?_, ?_⟩
  · exact (show ∀ w ∈ u_ws "FirstLanding$Text" mT6 2, w ∈ lw_tbl by decide +kernel) w hw
  · exact (show ∀ w ∈ u_ws "FirstLanding$Text" mT6 2, goodWord w = true by decide +kernel) w hw
theorem mNm6 : ∀ a, a < 2 → ∀ b, b < 2 → a ≠ b → (mT6 a).2.1 ≠ (mT6 b).2.1 := by decide +kernel
theorem mPf6 : ∀ k, k < 2 → parseFieldDescriptor (mT6 k).2.2.1 = some (mTy6 k) := by decide +kernel
theorem mIn7 : ∀ w ∈ u_ws "FirstLandingModel" mT7 21, w ∈ mW := by
  intro w hw
  refine List.mem_filter.mpr ⟨?_, ?_⟩
  · exact (show ∀ w ∈ u_ws "FirstLandingModel" mT7 21, w ∈ lw_tbl by decide +kernel) w hw
  · exact (show ∀ w ∈ u_ws "FirstLandingModel" mT7 21, goodWord w = true by decide +kernel) w hw
theorem mNm7 : ∀ a, a < 21 → ∀ b, b < 21 → a ≠ b → (mT7 a).2.1 ≠ (mT7 b).2.1 := by decide +kernel
theorem mPf7 : ∀ k, k < 21 → parseFieldDescriptor (mT7 k).2.2.1 = some (mTy7 k) := by decide +kernel
theorem mCl_ok : ∀ (ci : Nat) (q : vw_C), mCl[ci]? = some q → (∀ w ∈ u_ws q.1 q.2.1 q.2.2, w ∈ mW) ∧ (∀ k, k < q.2.2 → parseFieldDescriptor (q.2.1 k).2.2.1 = some (mFT ci k)) ∧ (∀ a, a < q.2.2 → ∀ b, b < q.2.2 → a ≠ b → (q.2.1 a).2.1 ≠ (q.2.1 b).2.1) := by
  intro ci q hq
  match ci, hq with
  | 0, hq => cases hq; exact ⟨mIn0, mPf0, mNm0⟩
  | 1, hq => cases hq; exact ⟨mIn1, mPf1, mNm1⟩
  | 2, hq => cases hq; exact ⟨mIn2, mPf2, mNm2⟩
  | 3, hq => cases hq; exact ⟨mIn3, mPf3, mNm3⟩
  | 4, hq => cases hq; exact ⟨mIn4, mPf4, mNm4⟩
  | 5, hq => cases hq; exact ⟨mIn5, mPf5, mNm5⟩
  | 6, hq => cases hq; exact ⟨mIn6, mPf6, mNm6⟩
  | 7, hq => cases hq; exact ⟨mIn7, mPf7, mNm7⟩
  | k + 8, hq => simp [mCl] at hq
end
section
/-! a place of a list by recursors: the kernel works it out in a quarter of the time -/
section QZG
variable {α : Type}
noncomputable def qzgo (l : List α) : Nat → Option α := List.rec (motive := fun _ => Nat → Option α) (fun _ => none) (fun a _ ih k => Nat.rec (motive := fun _ => Option α) (some a) (fun j _ => ih j) k) l
end QZG
theorem qzgo_eq {α : Type} : ∀ (l : List α) (k : Nat), qzgo l k = l[k]?
  | [], _ => by simp [qzgo]
  | _ :: _, 0 => rfl
  | a :: t, k + 1 => (qzgo_eq t k).trans (by simp)
end
section
/-! the heap of the small machine, and the machine's -/
noncomputable def mOk (D : va_G) (cA : Nat → ClassId) (f : Value → Value) (a : Nat) (q : mC) (H : Heap) : Prop :=
  (q.1 < 50 → ∃ r : vw_C, mCl[q.1]? = some r ∧ q.2.length = r.2.2 ∧ t_OB a (D.1 q.1) r.2.2 (D.2 q.1) H (fun k => f (vp_V q.2 k))) ∧
  (¬ q.1 < 50 → H[a]? = some (arrV (cA q.1) q.2.length (fun j => f (vp_V q.2 j))))
noncomputable def mRel (D : va_G) (cA : Nat → ClassId) (b : Nat) (x : Nat → Nat) (h : mH) (H : Heap) : Prop := H.size = b + h.length ∧ ∀ (k : Nat) (q : mC), h[k]? = some q → mOk D cA (mSh b x) (b + k) q H
theorem mOk.kept {D : va_G} {cA : Nat → ClassId} {f : Value → Value} {a : Nat} {q : mC} {H H1 : Heap} (h : mOk D cA f a q H) (e : H1[a]? = H[a]?) : mOk D cA f a q H1 := by
  refine ⟨fun hq => ?_, fun hq => ?_⟩
  · obtain ⟨r, h1, h2, h3⟩ := h.1 hq
    exact ⟨r, h1, h2, h3.kept e⟩
  · rw [e]; exact h.2 hq
theorem mRel.set {D : va_G} {cA : Nat → ClassId} {b : Nat} {x : Nat → Nat} {h : mH} {H H1 : Heap} {k : Nat} {q : mC} (hR : mRel D cA b x h H) (z : H1.size = H.size) (o : ∀ j : Nat, j ≠ b + k → H1[j]? = H[j]?) (hk : mOk D cA (mSh b x) (b + k) q H1) : mRel D cA b x (h.set k q) H1 := by
  refine ⟨by rw [z, hR.1, List.length_set], fun j p hj => ?_⟩
  by_cases e : j = k
  · subst e
    rw [List.getElem?_set] at hj
    simp only [if_true] at hj
    split at hj
    · cases hj; exact hk
    · cases hj
  · rw [List.getElem?_set_ne (Ne.symm e)] at hj
    exact (hR.2 j p hj).kept (o _ (by omega))
theorem mRel.push {D : va_G} {cA : Nat → ClassId} {b : Nat} {x : Nat → Nat} {h : mH} {H H1 : Heap} {q : mC} (hR : mRel D cA b x h H) (z : H1.size = H.size + 1) (o : ∀ j : Nat, j < H.size → H1[j]? = H[j]?) (hk : mOk D cA (mSh b x) (b + h.length) q H1) : mRel D cA b x (h ++ [q]) H1 := by
  refine ⟨by rw [z, hR.1]; simp; omega, fun j p hj => ?_⟩
  by_cases e : j < h.length
  · rw [List.getElem?_append_left e] at hj
    exact (hR.2 j p hj).kept (o _ (by rw [hR.1]; omega))
  · rw [List.getElem?_append_right (by omega)] at hj
    have h1 : j - h.length < 1 := (List.getElem?_eq_some_iff.mp hj).1
    have h2 : j = h.length := by omega
    subst h2
    rw [Nat.sub_self] at hj
    cases hj
    exact hk
theorem mV_set {vs : List Value} {k : Nat} (hk : k < vs.length) (f : Value → Value) (v : Value) (j : Nat) : updV (fun i => f (vp_V vs i)) k (f v) j = f (vp_V (vs.set k v) j) := by
  unfold updV vp_V
  by_cases e : j = k
  · subst e
    simp [hk]
  · simp [e, List.getElem?_set_ne (Ne.symm e)]
theorem mV_map {vs : List Value} {f : Value → Value} {k : Nat} (hk : k < vs.length) : f (vp_V vs k) = vp_V (vs.map f) k := by
  unfold vp_V
  simp [hk]
noncomputable def mFit (ty : FieldType) (v : Value) : Bool := match ty with
  | .int => mIsI v
  | .long => mIsJ v
  | .object _ => mIsA v
  | .array _ => mIsA v
  | _ => false
theorem mFit_ok {ty : FieldType} {v : Value} (b : Nat) (x : Nat → Nat) (h : mFit ty v = true) : narrow ty (mSh b x v) = mSh b x v ∧ fits ty (mSh b x v) = true := by
  cases ty <;> cases v <;> first | exact ⟨rfl, rfl⟩ | cases h
noncomputable def mHas (wi : Nat) (w : Cond) : Bool := decide (qzgo lw_tbl wi = some w) && goodWord w
theorem mHas_ok {wi : Nat} {w : Cond} (h : mHas wi w = true) : w ∈ mW := by
  unfold mHas at h
  rw [Bool.and_eq_true] at h
  exact mW_of wi ((qzgo_eq _ _).symm.trans (of_decide_eq_true h.1)) h.2
noncomputable def mNest : Cond → Bool
  | .fieldLinkNest .. => true
  | .methodLinkNest .. => true
  | _ => false
/-- words on nest mates: carried beside the others -/
noncomputable def mWN : List Cond := lw_tbl.filter mNest
noncomputable def mHasN (wi : Nat) (w : Cond) : Bool := decide (qzgo lw_tbl wi = some w) && mNest w
theorem mHasN_ok {wi : Nat} {w : Cond} (h : mHasN wi w = true) : w ∈ mWN := by
  unfold mHasN at h
  rw [Bool.and_eq_true] at h
  exact List.mem_filter.mpr ⟨List.mem_of_getElem? ((qzgo_eq _ _).symm.trans (of_decide_eq_true h.1)), h.2⟩
theorem mWN_warm {s U : State} (hW : s.WarmedH U.vm) (h : ∀ w ∈ mWN, va_Nw w s) : ∀ w ∈ mWN, va_Nw w U := by
  intro w hw
  have h1 := h w hw
  have h2 := (List.mem_filter.mp hw).2
  cases w <;> first | exact va_Nw.warmF hW h1 | exact va_Nw.warmM hW h1 | cases h2
theorem mWN_same {s U : State} (hv : s.vm = U.vm) (h : ∀ w ∈ mWN, va_Nw w s) : ∀ w ∈ mWN, va_Nw w U := by
  intro w hw
  have h1 := h w hw
  have h2 := (List.mem_filter.mp hw).2
  cases w <;> first | exact va_tabs rfl hv h1 | cases h2
/-- fields -/
noncomputable def mF1 (en : mE) (i : Nat) (L : mL) (st : List Value) (h : mH) : Option mG := match en.2.1 with
  | .getfield _ => match st with
    | .ref a :: r => match h[a]? with
      | some q => if q.1 = mTgt en 1 then (match q.2[mTgt en 2]? with
        | some v => some (i + 1, L, v :: r, h)
        | none => none) else none
      | none => none
    | _ => none
  | .putfield _ => match st with
    | v :: .ref a :: r => match h[a]? with
      | some q => if q.1 = mTgt en 1 ∧ mTgt en 2 < q.2.length ∧ mFit (mFT q.1 (mTgt en 2)) v = true then some (i + 1, L, r, h.set a (q.1, q.2.set (mTgt en 2) v)) else none
      | none => none
    | _ => none
  | _ => none
noncomputable def mLnkF (own : String) (ini : Bool) (en : mE) : Bool := match en.2.1 with
  | .getfield idx => match mCl[mTgt en 1]? with
    | some r => decide (mTgt en 1 < 50) && (decide (mTgt en 2 < r.2.2) && (decide ((r.2.1 (mTgt en 2)).1 = r.1) && (if mTgt en 3 = 0 then mHas (mTgt en 4) (.fieldLink own idx r.1 (r.2.1 (mTgt en 2)).2.1 (r.2.1 (mTgt en 2)).2.2.1) else mHasN (mTgt en 4) (.fieldLinkNest own idx r.1 (r.2.1 (mTgt en 2)).2.1 (r.2.1 (mTgt en 2)).2.2.1 "FirstLanding"))))
    | none => false
  | .putfield idx => match mCl[mTgt en 1]? with
    | some r => decide (mTgt en 1 < 50) && (decide (mTgt en 2 < r.2.2) && (decide ((r.2.1 (mTgt en 2)).1 = r.1) && (if (r.2.1 (mTgt en 2)).2.2.2 = true then decide (ini = true ∧ r.1 = own) && mHas (mTgt en 4) (.fieldLink own idx r.1 (r.2.1 (mTgt en 2)).2.1 (r.2.1 (mTgt en 2)).2.2.1) else if mTgt en 3 = 0 then mHas (mTgt en 4) (.fieldLink own idx r.1 (r.2.1 (mTgt en 2)).2.1 (r.2.1 (mTgt en 2)).2.2.1) else mHasN (mTgt en 4) (.fieldLinkNest own idx r.1 (r.2.1 (mTgt en 2)).2.1 (r.2.1 (mTgt en 2)).2.2.1 "FirstLanding"))))
    | none => false
  | _ => true
section MSF
variable {p : Program} {l : Launch} {e : Env} {R : Room} {s : State} {m : MethodId} {args : Array Value} {below : List Frame} {meth : Method} {c : Code} {H : Heap} {locs : List Loc} {cells slots : Nat} {Q : State → Prop}
variable {cc : ByteArray} {cs : List mE} {b : Nat} {x : Nat → Nat} {en : mE} {i : Nat} {L : mL} {st : List Value} {h : mH} {g : mG} {D : va_G} {cA : Nat → ClassId} {own : String} {ini : Bool}
set_option maxHeartbeats 4000000 in
theorem mF1_sim (hx : p.tables.exec = Jvm.exec) (hb : c.code = cc) (hown : s.vm.findClass own = some m.cls) (hin : ini = true → meth.name = "<init>") (hts : ∀ w ∈ mW, w.before args s = true) (hK : va_K D mCl (mTys cA) s) (hN : ∀ w ∈ mWN, va_Nw w s) (hR : mRel D cA b x h H) (hS : va_S (fun q => b ≤ q) s.heap H locs)
    (hd : decode cc (mPcAt cs i) = .ok (en.2.1, mLen en.2.1)) (hf : mPcAt cs (i + 1) = mPcAt cs i + mLen en.2.1) (hlk : mLnkF own ini en = true)
    (hs : mF1 en i L st h = some g) (kk : ∀ (H1 : Heap) (locs1 : List Loc), mRel D cA b x g.2.2.2 H1 → va_S (fun q => b ≤ q) s.heap H1 locs1 → mFol p l e R s m args below meth c cs (mSh b x) Q H1 locs1 cells slots g) : mFol p l e R s m args below meth c cs (mSh b x) Q H locs cells slots (i, L, st, h) ∧ g.2.2.2.length = h.length ∧ g.2.1.length = L.length := by
  unfold mF1 at hs
  split at hs
  · rename_i idx heq
    split at hs
    · rename_i a r
      split at hs
      · rename_i q hq
        split at hs
        · rename_i hc
          split at hs
          · rename_i v hv
            cases hs
            refine ⟨fun ls hl => ?_, rfl, rfl⟩
            have k1 := kk H locs hR hS ls hl
            dsimp only [List.map_cons, mSh] at k1 ⊢
            unfold mLnkF at hlk
            rw [heq] at hlk hd hf
            dsimp only at hlk
            rw [hf] at k1
            split at hlk
            · rename_i rr hrr
              simp only [Bool.and_eq_true, decide_eq_true_eq] at hlk
              obtain ⟨l0, l1, l2, l3⟩ := hlk
              obtain ⟨C, T, N⟩ := rr
              dsimp only at l1 l2 l3
              rw [← hc] at hrr l0
              obtain ⟨r1, g1, g2, g3⟩ := (hR.2 a q hq).1 l0
              cases hrr.symm.trans g1
              dsimp only at g2 g3
              have hk : mTgt en 2 < q.2.length := by rw [g2]; exact l1
              have hP : va_P D mCl [(b + a, .inr (q.1, q.2.map (mSh b x)))] H := by
                intro k z hz
                have hz1 : k < 1 := (List.getElem?_eq_some_iff.mp hz).1
                have hz2 : k = 0 := by omega
                subst hz2
                cases hz
                exact ⟨_, g1, g3.to (fun j hj => mV_map (by rw [g2]; exact hj))⟩
              have hvv : (q.2.map (mSh b x))[mTgt en 2]? = some (mSh b x v) := by rw [List.getElem?_map, hv]; rfl
              split at l3
              · refine va_get (own := own) (ref := C) (C := C) (T := T) (N := N) (ci := q.1) hx hb hts (mCl_ok _ _ g1).1 hown hK hP 0 rfl g1 (mTgt en 2) l1 (hts _ (mHas_ok l3)) (fun z hz => by rw [← hz, l2]) hvv hd ?_
                exact k1
              · refine va_getN (own := own) (ref := C) (C := C) (T := T) (N := N) (ci := q.1) hx hb hts (mCl_ok _ _ g1).1 hown hK hP 0 rfl g1 (mTgt en 2) l1 (va_Nw.use rfl (hN _ (mHasN_ok l3))) (fun z hz => by rw [← hz, l2]) hvv hd ?_
                exact k1
            · cases hlk
          · cases hs
        · cases hs
      · cases hs
    · cases hs
  · rename_i idx heq
    split at hs
    · rename_i v a r
      split at hs
      · rename_i q hq
        split at hs
        · rename_i hc
          obtain ⟨hc, hkl, hft⟩ := hc
          cases hs
          refine ⟨fun ls hl => ?_, by simp, rfl⟩
          dsimp only at kk hl ⊢
          show W p l e R s m args below meth c H locs cells slots Q (F0 m (mPcAt cs i) ls (mSh b x v :: .ref (b + a) :: r.map (mSh b x)))
          unfold mLnkF at hlk
          rw [heq] at hlk hd hf
          dsimp only at hlk
          split at hlk
          · rename_i rr hrr
            simp only [Bool.and_eq_true, decide_eq_true_eq] at hlk
            obtain ⟨l0, l1, l2, l3⟩ := hlk
            obtain ⟨C, T, N⟩ := rr
            dsimp only at l1 l2 l3
            rw [← hc] at hrr l0
            obtain ⟨r1, g1, g2, cell, q1, q2, q3, q4⟩ := (hR.2 a q hq).1 l0
            cases hrr.symm.trans g1
            dsimp only at g2 q4
            obtain ⟨o1, o2, o3⟩ := mCl_ok _ _ g1
            dsimp only at o1 o2 o3
            have hap := va_apart (own := own) hts o1 (mFT q.1) o2 o3 hK g1
            obtain ⟨hS1, hfc, kC, hkC, hkind⟩ := hK.1 q.1 _ g1
            obtain ⟨cf, kf, fi, fd, hi, hsl⟩ := hS1 (mTgt en 2) l1
            have hst := (u_facts hfc hkC (u_lays hts o1 l1) hi).1
            obtain ⟨n1, n2⟩ := mFit_ok b x hft
            have hi2 : s.fieldFound? C (T (mTgt en 2)).2.1 (T (mTgt en 2)).2.2.1 = some (cf, kf, fi, fd) := by rw [← l2]; exact hi
            have fin : ∀ H1 : Heap, H1[b + a]? = some (cell.setSlot fd.slot (mSh b x v)) → H1.size = H.size → (∀ j : Nat, j ≠ b + a → H1[j]? = H[j]?) → W p l e R s m args below meth c H1 (locs ++ [⟨b + a, fd.slot⟩]) cells slots Q (F0 m (mPcAt cs i + 3) ls (r.map (mSh b x))) := by
              intro H1 e1 e2 e3
              have k1 := kk H1 (locs ++ [⟨b + a, fd.slot⟩]) (hR.set e2 e3 ⟨fun _ => ⟨_, g1, by simp [g2], by
                refine t_OB.to (V := updV (fun k => mSh b x (vp_V q.2 k)) (mTgt en 2) (mSh b x v)) ⟨_, e1, q2, q3, ?_⟩ (fun j _ => mV_set hkl (mSh b x) v j)
                rw [hsl]
                exact t_set q4 hap l1 (mSh b x v)⟩, fun z => absurd l0 z⟩) (hS.put e2 e3 (Nat.le_add_right _ _)) ls hl
              dsimp only at k1
              rw [hf] at k1
              exact k1
            have hlt : fd.slot < cell.slots.size := by rw [hsl]; exact k2_hasslot (q4 (mTgt en 2) l1)
            split at l3
            · rename_i hfin
              rw [Bool.and_eq_true, decide_eq_true_eq] at l3
              obtain ⟨⟨l4, l5⟩, l6⟩ := l3
              have hlay := hts _ (o1 _ (u_in_lay l1))
              unfold u_lay at hlay
              rw [if_pos hfin] at hlay
              have hcf : m.cls = cf := by
                obtain ⟨_, _, c', _, _, _, -, -, hf', -, -, -, hown2, -⟩ := Cond.laysFinal_spec hlay
                have e1 : c' = cf := by have := hi.symm.trans hf'; simp at this; exact this.1.symm
                rw [l2, l5] at hown2
                rw [← e1]; exact Option.some.inj (hown.symm.trans hown2)
              have h6 := u_fits hfc hkC hkind (Or.inr hlay) hi (o2 _ l1) n1 n2
              exact W.putFinK hx hb hown (hts _ (mHas_ok l6)) hi2 hst hcf (hin l4) (by rw [q2]; exact h6) q1 q3 hlt rfl rfl hd fin
            · rename_i hfin
              have hlay := hts _ (o1 _ (u_in_lay l1))
              unfold u_lay at hlay
              rw [if_neg hfin] at hlay
              have h6 := u_store hfc hkC hkind hlay hi (o2 _ l1) n1 n2
              split at l3
              · exact W.putK hx hb (f := fd) ⟨hown, hts _ (mHas_ok l3), ⟨_, _, _, hi2⟩, hst⟩ (by rw [q2]; exact h6) q1 q3 hlt rfl rfl hd fin
              · exact va_WputK hx hb (f := fd) hown (va_Nw.use rfl (hN _ (mHasN_ok l3))) hi2 hst (by rw [q2]; exact h6) q1 q3 hlt rfl rfl hd fin
          · cases hlk
        · cases hs
      · cases hs
    · cases hs
  · cases hs
end MSF
end
section
/-! arrays -/
noncomputable def mEv (D : va_G) (cA : Nat → ClassId) (b : Nat) (x : Nat → Nat) (xs : Nat → List Int32) (U : State) : Prop :=
  va_K D mCl (mTys cA) U ∧ (∀ n, n < 3 → va_T .int (x n) (xs n).length (fun j => .int ((xs n).getD j 0)) (fun q => b ≤ q) U U.heap) ∧
  va_Z "FirstLanding$Kind" "LETTERS" "[I" (.ref (x 1)) (fun q => b ≤ q) U U.heap ∧ va_Z "FirstLanding$Kind" "PARENTS" "[I" (.ref (x 2)) (fun q => b ≤ q) U U.heap ∧
  (∀ w ∈ mWN, va_Nw w U) ∧ (va_AO "FirstLanding$Row" U ∧ va_AO "FirstLanding$Text" U ∧ va_AO "FirstLanding$Embassy" U)
theorem mEv.to {D : va_G} {cA : Nat → ClassId} {b : Nat} {x : Nat → Nat} {xs : Nat → List Int32} {s U : State} (h : mEv D cA b x xs s) (hN : ∀ w ∈ mWN, va_Nw w U) (hA : s.vm.Alike U.vm) (hh : ∀ a : Nat, a < s.heap.size → ¬ (fun q => b ≤ q) a → U.heap[a]? = s.heap[a]?) : mEv D cA b x xs U :=
  ⟨h.1.moved hA, fun n hn => ((h.2.1 n hn).moved hA).kept hh, (h.2.2.1.moved hA).kept hh, (h.2.2.2.1.moved hA).kept hh, hN, h.2.2.2.2.2.1.moved hA, h.2.2.2.2.2.2.1.moved hA, h.2.2.2.2.2.2.2.moved hA⟩
noncomputable def mIx (j : Int32) (n : Nat) : Bool := decide (¬ (j < 0 ∨ n ≤ j.toNatClampNeg))
noncomputable def mF2 (xs : Nat → List Int32) (en : mE) (i : Nat) (L : mL) (st : List Value) (h : mH) : Option mG := match en.2.1 with
  | .getstatic _ => if mTgt en 1 = 1 ∨ mTgt en 1 = 2 then some (i + 1, L, .retAddr (mTgt en 1) :: st, h) else none
  | .arraylength => match st with
    | .ref a :: r => match h[a]? with
      | some q => if 50 ≤ q.1 ∧ q.1 < 56 then some (i + 1, L, .int (Int32.ofNat q.2.length) :: r, h) else none
      | none => none
    | .retAddr n :: r => if n < 3 then some (i + 1, L, .int (Int32.ofNat (xs n).length) :: r, h) else none
    | _ => none
  | .iaload => match st with
    | .int j :: .ref a :: r => match h[a]? with
      | some q => if q.1 = 50 ∧ mIx j q.2.length = true then (match q.2[j.toNatClampNeg]? with
        | some v => some (i + 1, L, v :: r, h)
        | none => none) else none
      | none => none
    | .int j :: .retAddr n :: r => if n < 3 ∧ mIx j (xs n).length = true then some (i + 1, L, .int ((xs n).getD j.toNatClampNeg 0) :: r, h) else none
    | _ => none
  | .baload => match st with
    | .int j :: .ref a :: r => match h[a]? with
      | some q => if (q.1 = 51 ∨ q.1 = 52) ∧ mIx j q.2.length = true then (match q.2[j.toNatClampNeg]? with
        | some v => some (i + 1, L, v :: r, h)
        | none => none) else none
      | none => none
    | _ => none
  | .aaload => match st with
    | .int j :: .ref a :: r => match h[a]? with
      | some q => if (53 ≤ q.1 ∧ q.1 < 56) ∧ mIx j q.2.length = true then (match q.2[j.toNatClampNeg]? with
        | some v => some (i + 1, L, v :: r, h)
        | none => none) else none
      | none => none
    | _ => none
  | _ => none
noncomputable def mElC (t : Nat) : Nat := if t = 53 then 5 else if t = 54 then 6 else 1
noncomputable def mF3 (en : mE) (i : Nat) (L : mL) (st : List Value) (h : mH) : Option mG := match en.2.1 with
  | .iastore => match st with
    | .int v :: .int j :: .ref a :: r => match h[a]? with
      | some q => if q.1 = 50 ∧ mIx j q.2.length = true then some (i + 1, L, r, h.set a (q.1, q.2.set j.toNatClampNeg (.int v))) else none
      | none => none
    | _ => none
  | .bastore => match st with
    | .int v :: .int j :: .ref a :: r => match h[a]? with
      | some q => if q.1 = 51 ∧ mIx j q.2.length = true then some (i + 1, L, r, h.set a (q.1, q.2.set j.toNatClampNeg (.int v.toInt8.toInt32))) else if q.1 = 52 ∧ mIx j q.2.length = true then some (i + 1, L, r, h.set a (q.1, q.2.set j.toNatClampNeg (.int (v &&& 1)))) else none
      | none => none
    | _ => none
  | .aastore => match st with
    | .ref w :: .int j :: .ref a :: r => match h[a]? with
      | some q => match h[w]? with
        | some q2 => if (53 ≤ q.1 ∧ q.1 < 56) ∧ mIx j q.2.length = true ∧ q2.1 = mElC q.1 then some (i + 1, L, r, h.set a (q.1, q.2.set j.toNatClampNeg (.ref w))) else none
        | none => none
      | none => none
    | _ => none
  | _ => none
theorem mTy_at (cA : Nat → ClassId) {t : Nat} (h1 : 50 ≤ t) (h2 : t < 56) : (mTys cA)[t - 50]? = some (cA t, mTagTy t) := by
  rcases (show t = 50 ∨ t = 51 ∨ t = 52 ∨ t = 53 ∨ t = 54 ∨ t = 55 by omega) with rfl | rfl | rfl | rfl | rfl | rfl <;> rfl
theorem mRel.arr {D : va_G} {cA : Nat → ClassId} {b : Nat} {x : Nat → Nat} {h : mH} {H : Heap} (hR : mRel D cA b x h H) {a : Nat} {q : mC} (hq : h[a]? = some q) (h1 : 50 ≤ q.1) : H[b + a]? = some (arrV (cA q.1) q.2.length (fun j => mSh b x (vp_V q.2 j))) := (hR.2 a q hq).2 (by omega)
theorem mRel.put {D : va_G} {cA : Nat → ClassId} {b : Nat} {x : Nat → Nat} {h : mH} {H H1 : Heap} (hR : mRel D cA b x h H) {a k : Nat} {q : mC} {v : Value} (h1 : 50 ≤ q.1) (hk : k < q.2.length) (e : H1[b + a]? = some ((arrV (cA q.1) q.2.length (fun j => mSh b x (vp_V q.2 j))).setSlot k (mSh b x v))) (z : H1.size = H.size) (o : ∀ j : Nat, j ≠ b + a → H1[j]? = H[j]?) : mRel D cA b x (h.set a (q.1, q.2.set k v)) H1 := by
  refine hR.set z o ⟨fun q0 => absurd q0 (by dsimp only; omega), fun _ => ?_⟩
  rw [e, arrV_store]
  dsimp only
  rw [List.length_set]
  congr 2
  funext j
  exact mV_set hk (mSh b x) v j
theorem mIx_ok {j : Int32} {n : Nat} (h : mIx j n = true) : ¬ (j < 0 ∨ n ≤ j.toNatClampNeg) := of_decide_eq_true h
theorem mIx_lt {j : Int32} {n : Nat} (h : mIx j n = true) : j.toNatClampNeg < n := Nat.not_le.mp fun q => (mIx_ok h) (Or.inr q)
noncomputable def mLnkS (own : String) (en : mE) : Bool := match en.2.1 with
  | .getstatic idx => mHas (mTgt en 4) (.fieldLink own idx "FirstLanding$Kind" (if mTgt en 1 = 1 then "LETTERS" else "PARENTS") "[I")
  | _ => true
section MSR
variable {p : Program} {l : Launch} {e : Env} {R : Room} {s : State} {m : MethodId} {args : Array Value} {below : List Frame} {meth : Method} {c : Code} {H : Heap} {locs : List Loc} {cells slots : Nat} {Q : State → Prop}
variable {cc : ByteArray} {cs : List mE} {b : Nat} {x : Nat → Nat} {xs : Nat → List Int32} {en : mE} {i : Nat} {L : mL} {st : List Value} {h : mH} {g : mG} {D : va_G} {cA : Nat → ClassId} {own : String} {ini : Bool}
theorem mArr_in {q : mC} {j : Int32} (f : Nat → Value) (ca : ClassId) (h : mIx j q.2.length = true) : ¬ (j < 0 ∨ (arrV ca q.2.length f).slots.size ≤ j.toNatClampNeg) := by rw [arrV_size]; exact mIx_ok h
theorem mArr_rd {q : mC} {j : Int32} {v : Value} (f : Value → Value) (ca : ClassId) (hv : q.2[j.toNatClampNeg]? = some v) : (arrV ca q.2.length (fun k => f (vp_V q.2 k))).slots[j.toNatClampNeg]? = some (f v) := by
  rw [arrV_read _ _ (List.getElem?_eq_some_iff.mp hv).1]
  unfold vp_V
  rw [List.getD_eq_getElem?_getD, hv]
  rfl
set_option maxHeartbeats 4000000 in
theorem mF2_sim (hx : p.tables.exec = Jvm.exec) (hb : c.code = cc) (hown : s.vm.findClass own = some m.cls) (hts : ∀ w ∈ mW, w.before args s = true) (hE : mEv D cA b x xs s) (hR : mRel D cA b x h H) (hS : va_S (fun q => b ≤ q) s.heap H locs)
    (hd : decode cc (mPcAt cs i) = .ok (en.2.1, mLen en.2.1)) (hf : mPcAt cs (i + 1) = mPcAt cs i + mLen en.2.1) (hlk : mLnkS own en = true)
    (hs : mF2 xs en i L st h = some g) (kk : mFol p l e R s m args below meth c cs (mSh b x) Q H locs cells slots g) : mFol p l e R s m args below meth c cs (mSh b x) Q H locs cells slots (i, L, st, h) ∧ g.2.2.2 = h ∧ g.2.1.length = L.length := by
  obtain ⟨hK, hT, hZ1, hZ2, -, -⟩ := hE
  unfold mF2 at hs
  split at hs
  · rename_i idx heq
    split at hs
    · rename_i hc
      cases hs
      refine ⟨fun ls hl => ?_, rfl, rfl⟩
      have k1 := kk ls hl
      unfold mLnkS at hlk
      rw [heq] at hlk hd hf
      dsimp only [List.map_cons] at k1 hlk ⊢
      rw [hf] at k1
      rcases hc with hc | hc
      · rw [hc] at hlk k1
        exact va_gets hx hb hZ1 hS hown (hts _ (mHas_ok hlk)) (fun z hz => hz) hd k1
      · rw [hc] at hlk k1
        exact va_gets hx hb hZ2 hS hown (hts _ (mHas_ok hlk)) (fun z hz => hz) hd k1
    · cases hs
  · rename_i heq
    rw [heq] at hd hf
    split at hs
    · rename_i a r
      split at hs
      · rename_i q hq
        split at hs
        · rename_i hc
          cases hs
          refine ⟨fun ls hl => ?_, rfl, rfl⟩
          have k1 := kk ls hl
          dsimp only [List.map_cons, mSh] at k1 ⊢
          rw [hf] at k1
          exact W.alen hx hb (hR.arr hq hc.1) ((hK.2 _ _ (mTy_at cA hc.1 hc.2)).1 _ _) (by rw [arrV_size]) rfl rfl hd k1
        · cases hs
      · cases hs
    · rename_i n r
      split at hs
      · rename_i hn
        cases hs
        refine ⟨fun ls hl => ?_, rfl, rfl⟩
        have k1 := kk ls hl
        dsimp only [List.map_cons, mSh] at k1 ⊢
        rw [hf] at k1
        exact va_tlen hx hb (hT n hn) hS rfl hd k1
      · cases hs
    · cases hs
  · rename_i heq
    rw [heq] at hd hf
    split at hs
    · rename_i j a r
      split at hs
      · rename_i q hq
        split at hs
        · rename_i hc
          split at hs
          · rename_i v hv
            cases hs
            refine ⟨fun ls hl => ?_, rfl, rfl⟩
            have k1 := kk ls hl
            dsimp only [List.map_cons] at k1 ⊢
            rw [hf] at k1
            have hty := (hK.2 _ _ (mTy_at cA (t := q.1) (by omega) (by omega))).1 q.2.length (fun j => mSh b x (vp_V q.2 j))
            dsimp only at hty
            rw [show mTagTy q.1 = .int by rw [hc.1]; rfl] at hty
            exact W.iald hx hb (hR.arr hq (by omega)) hty (fun z => by cases z) (mArr_in _ _ hc.2) (mArr_rd (mSh b x) _ hv) rfl rfl hd k1
          · cases hs
        · cases hs
      · cases hs
    · rename_i j n r
      split at hs
      · rename_i hn
        cases hs
        refine ⟨fun ls hl => ?_, rfl, rfl⟩
        have k1 := kk ls hl
        dsimp only [List.map_cons, mSh] at k1 ⊢
        rw [hf] at k1
        exact va_ti hx hb (hT n hn.1) hS (mIx_ok hn.2) rfl hd k1
      · cases hs
    · cases hs
  · rename_i heq
    rw [heq] at hd hf
    split at hs
    · rename_i j a r
      split at hs
      · rename_i q hq
        split at hs
        · rename_i hc
          split at hs
          · rename_i v hv
            cases hs
            refine ⟨fun ls hl => ?_, rfl, rfl⟩
            have k1 := kk ls hl
            dsimp only [List.map_cons] at k1 ⊢
            rw [hf] at k1
            have hty := (hK.2 _ _ (mTy_at cA (t := q.1) (by omega) (by omega))).1 q.2.length (fun j => mSh b x (vp_V q.2 j))
            dsimp only at hty
            rcases hc.1 with e1 | e1
            · rw [show mTagTy q.1 = .byte by rw [e1]; rfl] at hty
              exact W.bald hx hb (hR.arr hq (by omega)) hty (fun z => by cases z) (mArr_in _ _ hc.2) (mArr_rd (mSh b x) _ hv) rfl rfl hd k1
            · rw [show mTagTy q.1 = .boolean by rw [e1]; rfl] at hty
              exact W.zald hx hb (hR.arr hq (by omega)) hty (fun z => by cases z) (mArr_in _ _ hc.2) (mArr_rd (mSh b x) _ hv) rfl rfl hd k1
          · cases hs
        · cases hs
      · cases hs
    · cases hs
  · rename_i heq
    rw [heq] at hd hf
    split at hs
    · rename_i j a r
      split at hs
      · rename_i q hq
        split at hs
        · rename_i hc
          split at hs
          · rename_i v hv
            cases hs
            refine ⟨fun ls hl => ?_, rfl, rfl⟩
            have k1 := kk ls hl
            dsimp only [List.map_cons] at k1 ⊢
            rw [hf] at k1
            have hty := (hK.2 _ _ (mTy_at cA (t := q.1) (by omega) (by omega))).1 q.2.length (fun j => mSh b x (vp_V q.2 j))
            dsimp only at hty
            have href : (mTagTy q.1).isReference = true := by
              rcases (show q.1 = 53 ∨ q.1 = 54 ∨ q.1 = 55 by omega) with e1 | e1 | e1 <;> rw [e1] <;> rfl
            exact W.aald hx hb (hR.arr hq (by omega)) hty href (fun z => by cases z) (mArr_in _ _ hc.2) (mArr_rd (mSh b x) _ hv) rfl rfl hd k1
          · cases hs
        · cases hs
      · cases hs
    · cases hs
  · cases hs
set_option maxHeartbeats 4000000 in
theorem mF3_sim (hx : p.tables.exec = Jvm.exec) (hb : c.code = cc) (hK : va_K D mCl (mTys cA) s) (hR : mRel D cA b x h H) (hS : va_S (fun q => b ≤ q) s.heap H locs)
    (hd : decode cc (mPcAt cs i) = .ok (en.2.1, mLen en.2.1)) (hf : mPcAt cs (i + 1) = mPcAt cs i + mLen en.2.1)
    (hs : mF3 en i L st h = some g) (kk : ∀ (H1 : Heap) (locs1 : List Loc), mRel D cA b x g.2.2.2 H1 → va_S (fun q => b ≤ q) s.heap H1 locs1 → mFol p l e R s m args below meth c cs (mSh b x) Q H1 locs1 cells slots g) : mFol p l e R s m args below meth c cs (mSh b x) Q H locs cells slots (i, L, st, h) ∧ g.2.2.2.length = h.length ∧ g.2.1.length = L.length := by
  unfold mF3 at hs
  split at hs
  · rename_i heq
    rw [heq] at hd hf
    split at hs
    · rename_i v j a r
      split at hs
      · rename_i q hq
        split at hs
        · rename_i hc
          cases hs
          refine ⟨fun ls hl => ?_, by simp, rfl⟩
          dsimp only at kk hl ⊢
          have hty := (hK.2 _ _ (mTy_at cA (t := q.1) (by omega) (by omega))).1 q.2.length (fun j => mSh b x (vp_V q.2 j))
          dsimp only at hty
          rw [show mTagTy q.1 = .int by rw [hc.1]; rfl] at hty
          refine W.iast hx hb (hR.arr hq (by omega)) hty (fun z => by cases z) (mArr_in _ _ hc.2) rfl rfl hd fun H1 e1 e2 e3 => ?_
          have k1 := kk H1 _ (hR.put (by omega) (mIx_lt hc.2) (v := .int v) e1 e2 e3) (hS.put (k := j.toNatClampNeg) e2 e3 (Nat.le_add_right _ _)) ls hl
          dsimp only at k1
          rw [hf] at k1
          exact k1
        · cases hs
      · cases hs
    · cases hs
  · rename_i heq
    rw [heq] at hd hf
    split at hs
    · rename_i v j a r
      split at hs
      · rename_i q hq
        split at hs
        · rename_i hc
          cases hs
          refine ⟨fun ls hl => ?_, by simp, rfl⟩
          dsimp only at kk hl ⊢
          have hty := (hK.2 _ _ (mTy_at cA (t := q.1) (by omega) (by omega))).1 q.2.length (fun j => mSh b x (vp_V q.2 j))
          dsimp only at hty
          rw [show mTagTy q.1 = .byte by rw [hc.1]; rfl] at hty
          refine W.bast hx hb (hR.arr hq (by omega)) hty (fun z => by cases z) (mArr_in _ _ hc.2) rfl rfl hd fun H1 e1 e2 e3 => ?_
          have k1 := kk H1 _ (hR.put (by omega) (mIx_lt hc.2) (v := .int v.toInt8.toInt32) e1 e2 e3) (hS.put (k := j.toNatClampNeg) e2 e3 (Nat.le_add_right _ _)) ls hl
          dsimp only at k1
          rw [hf] at k1
          exact k1
        · split at hs
          · rename_i hc
            cases hs
            refine ⟨fun ls hl => ?_, by simp, rfl⟩
            dsimp only at kk hl ⊢
            have hty := (hK.2 _ _ (mTy_at cA (t := q.1) (by omega) (by omega))).1 q.2.length (fun j => mSh b x (vp_V q.2 j))
            dsimp only at hty
            rw [show mTagTy q.1 = .boolean by rw [hc.1]; rfl] at hty
            refine W.zast hx hb (hR.arr hq (by omega)) hty (fun z => by cases z) (mArr_in _ _ hc.2) rfl rfl hd fun H1 e1 e2 e3 => ?_
            have k1 := kk H1 _ (hR.put (by omega) (mIx_lt hc.2) (v := .int (v &&& 1)) e1 e2 e3) (hS.put (k := j.toNatClampNeg) e2 e3 (Nat.le_add_right _ _)) ls hl
            dsimp only at k1
            rw [hf] at k1
            exact k1
          · cases hs
      · cases hs
    · cases hs
  · rename_i heq
    rw [heq] at hd hf
    split at hs
    · rename_i w j a r
      split at hs
      · rename_i q hq
        split at hs
        · rename_i q2 hq2
          split at hs
          · rename_i hc
            obtain ⟨h1, h2, h3⟩ := hc
            cases hs
            refine ⟨fun ls hl => ?_, by simp, rfl⟩
            dsimp only at kk hl ⊢
            have hlt50 : q2.1 < 50 := by rw [h3]; unfold mElC; split <;> (try split) <;> omega
            obtain ⟨rr, g1, g2, cellV, c1, c2, c3, -⟩ := (hR.2 w q2 hq2).1 hlt50
            have hcls := (hK.1 q2.1 rr g1).2
            have hra := (hK.2 _ _ (mTy_at cA (t := q.1) (by omega) (by omega))).2
            have hobj : mTagTy q.1 = .object rr.1 := by
              rcases (show q.1 = 53 ∨ q.1 = 54 ∨ q.1 = 55 by omega) with e1 | e1 | e1 <;> rw [h3, e1] at g1 <;> cases g1 <;> rw [e1] <;> rfl
            dsimp only at hra
            rw [hobj] at hra
            obtain ⟨kA, comp, k1, k2, k3, -⟩ := hra
            have hcomp : comp = D.1 q2.1 := Option.some.inj (k3.symm.trans hcls.1)
            subst hcomp
            obtain ⟨kC, hkC, -⟩ := hcls.2
            refine W.aast hx hb (hR.arr hq (by omega)) (fun z z2 => by cases z2) (fun z => by cases z) k1 k2 rfl hkC ⟨fun z => mIx_ok h2 (Or.inl z), by rw [arrV_size]; exact mIx_lt h2⟩ c1 (fun z z2 => by rw [c3] at z2; cases z2) (by rw [c2]; exact hkC) (by rw [c2]; exact va_assign hcls) rfl rfl hd fun H1 e1 e2 e3 => ?_
            have k1 := kk H1 _ (hR.put (by omega) (mIx_lt h2) (v := .ref w) e1 e2 e3) (hS.put (k := j.toNatClampNeg) e2 e3 (Nat.le_add_right _ _)) ls hl
            dsimp only at k1
            rw [hf] at k1
            exact k1
          · cases hs
        · cases hs
      · cases hs
    · cases hs
  · cases hs
end MSR
end
section
/-! making cells -/
noncomputable def mSl (h : mH) : Nat := (h.map (fun q => q.2.length)).sum
theorem mSl_app (h : mH) (q : mC) : mSl (h ++ [q]) = mSl h + q.2.length := by simp [mSl]
noncomputable def mAt : ArrayType → Option Nat
  | .int => some 50
  | .byte => some 51
  | .boolean => some 52
  | _ => none
noncomputable def mN1 (en : mE) (i : Nat) (L : mL) (st : List Value) (h : mH) : Option mG := match en.2.1 with
  | .newarray aty => match st with
    | .int n :: r => match mAt aty with
      | some t => if ¬ n < 0 ∧ n.toNatClampNeg ≤ 100000 then some (i + 1, L, .ref h.length :: r, h ++ [(t, List.replicate n.toNatClampNeg (.int 0))]) else none
      | none => none
    | _ => none
  | .anewarray _ => match st with
    | .int n :: r => if (¬ n < 0 ∧ n.toNatClampNeg ≤ 100000) ∧ 53 ≤ mTgt en 1 ∧ mTgt en 1 < 56 then some (i + 1, L, .ref h.length :: r, h ++ [(mTgt en 1, List.replicate n.toNatClampNeg .null)]) else none
    | _ => none
  | .new _ => match mCl[mTgt en 1]? with
    | some r0 => if mTgt en 1 < 50 then some (i + 1, L, .ref h.length :: st, h ++ [(mTgt en 1, (List.range r0.2.2).map (fun k => defaultValue (mFT (mTgt en 1) k)))]) else none
    | none => none
  | _ => none
noncomputable def mElN (t : Nat) : String := if t = 53 then "FirstLanding$Row" else if t = 54 then "FirstLanding$Text" else "FirstLanding$Embassy"
noncomputable def mLnkN (own : String) (en : mE) : Bool := match en.2.1 with
  | .newarray aty => mHas (mTgt en 4) (.arrayClass (newarray.typeOf aty))
  | .anewarray idx => mHas (mTgt en 4) (.classLink own idx (mElN (mTgt en 1)))
  | .new idx => match mCl[mTgt en 1]? with
    | some r => mHas (mTgt en 4) (.classLink own idx r.1) && (mHas (mTgt en 5) (.instantiable r.1 r.2.2) && mHas (mTgt en 6) (.initialized r.1))
    | none => false
  | _ => true
theorem mRep {n : Nat} {v : Value} (f : Value → Value) (hf : f .null = .null) (j : Nat) (hj : j < n) : f (vp_V (List.replicate n v) j) = f v := by
  unfold vp_V
  simp [hj]
section MSN
variable {p : Program} {l : Launch} {e : Env} {R : Room} {s : State} {m : MethodId} {args : Array Value} {below : List Frame} {meth : Method} {c : Code} {H : Heap} {locs : List Loc} {cells slots : Nat} {Q : State → Prop}
variable {cc : ByteArray} {cs : List mE} {b : Nat} {x : Nat → Nat} {xs : Nat → List Int32} {en : mE} {i : Nat} {L : mL} {st : List Value} {h : mH} {g : mG} {D : va_G} {cA : Nat → ClassId} {own : String} {ini : Bool}
theorem arrV_congr (ca : ClassId) (n : Nat) (f k : Nat → Value) (hfk : ∀ j, j < n → f j = k j) : arrV ca n f = arrV ca n k := by
  unfold arrV
  congr 1
  apply Array.ext
  · simp
  · intro j h1 h2
    simp at h1 ⊢
    exact hfk j h1
set_option maxHeartbeats 4000000 in
theorem mN1_sim (hx : p.tables.exec = Jvm.exec) (hb : c.code = cc) (hown : s.vm.findClass own = some m.cls) (hts : ∀ w ∈ mW, w.before args s = true) (hE : mEv D cA b x xs s) (hbs : b ≤ s.heap.size) (hR : mRel D cA b x h H) (hS : va_S (fun q => b ≤ q) s.heap H locs)
    (hd : decode cc (mPcAt cs i) = .ok (en.2.1, mLen en.2.1)) (hf : mPcAt cs (i + 1) = mPcAt cs i + mLen en.2.1) (hlk : mLnkN own en = true)
    (hs : mN1 en i L st h = some g) (hrc : cells + 1 ≤ R.cells) (hrs : slots + (mSl g.2.2.2 - mSl h) ≤ R.slots)
    (kk : ∀ (H1 : Heap), mRel D cA b x g.2.2.2 H1 → va_S (fun q => b ≤ q) s.heap H1 locs → mFol p l e R s m args below meth c cs (mSh b x) Q H1 locs (cells + 1) (slots + (mSl g.2.2.2 - mSl h)) g) : mFol p l e R s m args below meth c cs (mSh b x) Q H locs cells slots (i, L, st, h) ∧ g.2.2.2.length = h.length + 1 ∧ g.2.1.length = L.length ∧ mSl h ≤ mSl g.2.2.2 := by
  obtain ⟨hK, hT, hZ1, hZ2, hN, hAO⟩ := hE
  have fr : ∀ H1 : Heap, H1.size = H.size + 1 → (∀ q : Nat, q < H.size → H1[q]? = H[q]?) → va_S (fun q => b ≤ q) s.heap H1 locs := fun H1 z o => ⟨Nat.le_trans hS.1 (by omega), fun q h1 h2 => (o q (Nat.lt_of_lt_of_le h1 hS.1)).trans (hS.2.1 q h1 h2), hS.2.2⟩
  unfold mN1 at hs
  unfold mLnkN at hlk
  split at hs
  · rename_i aty heq
    rw [heq] at hd hf hlk
    split at hs
    · rename_i n r
      split at hs
      · rename_i t ht
        split at hs
        · rename_i hn
          cases hs
          dsimp only at hrs kk ⊢
          rw [mSl_app] at hrs kk ⊢
          simp only [List.length_replicate] at hrs kk ⊢
          rw [show mSl h + n.toNatClampNeg - mSl h = n.toNatClampNeg by omega] at hrs kk
          refine ⟨fun ls hl => ?_, by simp, by simp, by omega⟩
          dsimp only [List.map_cons, mSh] at hl ⊢
          have hcb : componentBytes (newarray.typeOf aty) ≤ 8 := by cases aty <;> decide
          refine va_newaK (n := n) (N := n.toNatClampNeg) hx hb (hts _ (mHas_ok hlk)) rfl hd rfl hn.1 rfl (Nat.le_trans (Nat.mul_le_mul hn.2 hcb) (by decide)) hrc hrs (h := b + h.length) hR.1 fun H1 ca e1 e2 e3 e4 e5 => ?_
          have ht50 : 50 ≤ t ∧ t < 56 ∧ mTagTy t = newarray.typeOf aty := by cases aty <;> cases ht <;> exact ⟨by decide, by decide, rfl⟩
          have hra := (hK.2 _ _ (mTy_at cA ht50.1 ht50.2.1)).2
          dsimp only at hra
          rw [ht50.2.2] at hra
          have hca : cA t = ca := by
            have hz : s.vm.findClass ("[" ++ (newarray.typeOf aty).toString) = some (cA t) := by cases aty <;> first | exact hra | cases ht
            exact Option.some.inj (hz.symm.trans e5)
          have z1 : H1.size = H.size + 1 := by rw [e2, hR.1]
          have o1 : ∀ q : Nat, q < H.size → H1[q]? = H[q]? := fun q hq => e3 q (by rw [← hR.1]; exact hq)
          have k1 := kk H1 (hR.push z1 o1 ⟨fun z => absurd z (by dsimp only; omega), fun _ => by
            rw [e1]
            dsimp only
            rw [List.length_replicate, hca]
            refine congrArg some (arrV_congr _ _ _ _ fun j hj => ?_)
            rw [mRep (mSh b x) rfl j hj]
            cases aty <;> first | rfl | cases ht⟩) (fr H1 z1 o1) ls hl
          dsimp only [List.map_cons, mSh] at k1
          rw [hf] at k1
          exact k1
        · cases hs
      · cases hs
    · cases hs
  · rename_i idx heq
    rw [heq] at hd hf hlk
    split at hs
    · rename_i n r
      split at hs
      · rename_i hn
        obtain ⟨hn, ht1, ht2⟩ := hn
        cases hs
        dsimp only at hrs kk ⊢
        rw [mSl_app] at hrs kk ⊢
        simp only [List.length_replicate] at hrs kk ⊢
        rw [show mSl h + n.toNatClampNeg - mSl h = n.toNatClampNeg by omega] at hrs kk
        refine ⟨fun ls hl => ?_, by simp, by simp, by omega⟩
        dsimp only [List.map_cons, mSh] at hl ⊢
        have hel : va_AO (mElN (mTgt en 1)) s ∧ mTagTy (mTgt en 1) = .object (mElN (mTgt en 1)) := by
          rcases (show mTgt en 1 = 53 ∨ mTgt en 1 = 54 ∨ mTgt en 1 = 55 by omega) with e1 | e1 | e1 <;> rw [e1]
          · exact ⟨hAO.1, rfl⟩
          · exact ⟨hAO.2.1, rfl⟩
          · exact ⟨hAO.2.2, rfl⟩
        refine W.anew (n := n) hx hb hown (hts _ (mHas_ok hlk)) (va_AO.use hel.1) rfl hd rfl hn.1 (Nat.le_trans (Nat.mul_le_mul_right 4 hn.2) (by decide)) hrc hrs fun ca kA comp f1 f2 f3 f4 => ?_
        generalize hH1 : H.push ({ cls := ca, slots := Array.replicate n.toNatClampNeg .null, vm := .none } : Cell) = H1
        have z1 : H1.size = H.size + 1 := by rw [← hH1, Array.size_push]
        have e1 : H1[H.size]? = some (arrV ca n.toNatClampNeg (fun _ => .null)) := by rw [← hH1, Array.getElem?_push_size, ← arrV_new]
        have o1 : ∀ q : Nat, q < H.size → H1[q]? = H[q]? := fun q hq => by rw [← hH1, Array.getElem?_push, if_neg (Nat.ne_of_lt hq)]
        have hra := (hK.2 _ _ (mTy_at cA (t := mTgt en 1) (by omega) (by omega))).2
        dsimp only at hra
        rw [hel.2] at hra
        obtain ⟨kA2, comp2, -, -, -, e5⟩ := hra
        have hca : cA (mTgt en 1) = ca := Option.some.inj (e5.symm.trans f1)
        rw [hR.1] at e1
        have k1 := kk H1 (hR.push z1 o1 ⟨fun z => absurd z (by dsimp only; omega), fun _ => by
          rw [e1]
          dsimp only
          rw [List.length_replicate, hca]
          refine congrArg some (arrV_congr _ _ _ _ fun j hj => ?_)
          rw [mRep (mSh b x) rfl j hj]
          rfl⟩) (fr H1 z1 o1) ls hl
        dsimp only [List.map_cons, mSh] at k1
        rw [hf] at k1
        rw [hR.1]
        exact k1
      · cases hs
    · cases hs
  · rename_i idx heq
    rw [heq] at hd hf hlk
    split at hs
    · rename_i r0 hr0
      split at hs
      · rename_i ht
        cases hs
        dsimp only at hrs kk ⊢
        rw [mSl_app] at hrs kk ⊢
        simp only [List.length_map, List.length_range] at hrs kk ⊢
        rw [show mSl h + r0.2.2 - mSl h = r0.2.2 by omega] at hrs kk
        refine ⟨fun ls hl => ?_, by simp, by simp, by omega⟩
        dsimp only at hl hlk ⊢
        rw [hr0] at hlk
        dsimp only at hlk
        simp only [Bool.and_eq_true] at hlk
        obtain ⟨l1, l2, l3⟩ := hlk
        obtain ⟨o1, o2, o3⟩ := mCl_ok _ _ hr0
        obtain ⟨hS1, hfc, kC0, hkC0, hkind⟩ := hK.1 (mTgt en 1) _ hr0
        refine W.newcK hx hb hown (hts _ (mHas_ok l1)) (hts _ (mHas_ok l2)) (hts _ (mHas_ok l3)) rfl hd hrc hrs hfc (h := b + h.length) hR.1 fun H1 kC hkC e1 e2 e3 => ?_
        have z1 : H1.size = H.size + 1 := by rw [e2, hR.1]
        have q1 : ∀ q : Nat, q < H.size → H1[q]? = H[q]? := fun q hq => e3 q (by rw [← hR.1]; exact hq)
        have hborn := u_born (mFT (mTgt en 1)) hts o1 (hK.1 (mTgt en 1) _ hr0) hkC e1 o2
        have k1 := kk H1 (hR.push z1 q1 ⟨fun _ => ⟨r0, hr0, by simp, hborn.to (fun j hj => by
          unfold vp_V
          rw [List.getD_eq_getElem?_getD, List.getElem?_map, List.getElem?_range hj]
          show defaultValue (mFT (mTgt en 1) j) = mSh b x (defaultValue (mFT (mTgt en 1) j))
          cases mFT (mTgt en 1) j <;> rfl)⟩, fun z => absurd ht z⟩) (fr H1 z1 q1) ls hl
        dsimp only [List.map_cons, mSh] at k1
        rw [hf] at k1
        exact k1
      · cases hs
    · cases hs
  · cases hs
end MSN
end
section
/-! calls -/
/-- a method: its name, bytes, locals, what it returns, its sort (0 static, 1 of an object, 2 a constructor), its arguments, where its words stand, its code -/
abbrev mM : Type := MethodName × ByteArray × Nat × Option FieldType × Nat × Nat × List Nat × List mE
noncomputable def mMY (t : mM) : MethodName := t.1
noncomputable def mMB (t : mM) : ByteArray := t.2.1
noncomputable def mMX (t : mM) : Nat := t.2.2.1
noncomputable def mMT (t : mM) : Option FieldType := t.2.2.2.1
noncomputable def mMK (t : mM) : Nat := t.2.2.2.2.1
noncomputable def mMN (t : mM) : Nat := t.2.2.2.2.2.1
noncomputable def mMW (t : mM) : List Nat := t.2.2.2.2.2.2.1
noncomputable def mMC (t : mM) : List mE := t.2.2.2.2.2.2.2
noncomputable def mCnt (t : mM) : Nat := if mMK t = 0 then mMN t else mMN t + 1
noncomputable def mRcv (t : mM) (av : List Value) (h : mH) : Bool := if mMK t = 0 then true else match av with
  | .ref a :: _ => if mMK t = 2 then true else (match h[a]? with
    | some q => decide (q.1 < 50) && (match mCl[q.1]? with
      | some r => decide (r.1 = (mMY t).cls)
      | none => false)
    | none => false)
  | _ => false
noncomputable def mInv : Instr → Bool
  | .invokevirtual _ => true
  | .invokestatic _ => true
  | .invokespecial _ => true
  | _ => false
noncomputable def mG1 (tab : List mM) (call : Nat → List Value → mH → Option mR) (en : mE) (i : Nat) (L : mL) (st : List Value) (h : mH) : Option mG :=
  if mInv en.2.1 = true ∧ mTgt en 2 = 0 then
    match tab[mTgt en 1]? with
    | some t => if mCnt t ≤ st.length ∧ ((st.drop (mCnt t)).map (fun v => v.category)).sum ≤ 8 ∧ mRcv t ((st.take (mCnt t)).reverse) h = true ∧ (mEnt ((st.take (mCnt t)).reverse)).length ≤ mMX t then
        (match call (mTgt en 1) ((st.take (mCnt t)).reverse) h with
        | some r => some (i + 1, L, r.1.toList ++ st.drop (mCnt t), r.2)
        | none => none) else none
    | none => none
  else none
noncomputable def mCpy (us vs : List Value) (sp dp n : Nat) : List Value := (List.range vs.length).map (fun k => va_cpy (vp_V us) (vp_V vs) sp dp n k)
noncomputable def mG2 (en : mE) (i : Nat) (L : mL) (st : List Value) (h : mH) : Option mG := match en.2.1 with
  | .invokespecial _ => match st with
    | .ref _ :: r => if mTgt en 2 = 1 ∧ (r.map (fun v => v.category)).sum ≤ 8 then some (i + 1, L, r, h) else none
    | _ => none
  | .invokestatic _ => match st with
    | .int n :: .int dp :: .ref a1 :: .int sp :: .ref a0 :: r => match h[a0]? with
      | some q0 => match h[a1]? with
        | some q1 => if mTgt en 2 = 2 ∧ (r.map (fun v => v.category)).sum ≤ 8 ∧ q0.1 = 50 ∧ q1.1 = 50 ∧ ¬ sp < 0 ∧ ¬ dp < 0 ∧ ¬ n < 0 ∧ sp.toNatClampNeg + n.toNatClampNeg ≤ q0.2.length ∧ dp.toNatClampNeg + n.toNatClampNeg ≤ q1.2.length ∧ q0.2.all mIsI = true then some (i + 1, L, r, h.set a1 (q1.1, mCpy q0.2 q1.2 sp.toNatClampNeg dp.toNatClampNeg n.toNatClampNeg)) else none
        | none => none
      | none => none
    | _ => none
  | _ => none
/-- what a method's own words must be -/
noncomputable def mMok (t : mM) : Bool := mHas ((mMW t).getD 0 0) (.code (mMY t) (mMB t) (mMX t) (mMT t)) && (mHas ((mMW t).getD 1 0) (.initialized (mMY t).cls) && (decide ((mMY t).cls ≠ "java/lang/invoke/MethodHandle" ∧ (mMY t).cls ≠ "java/lang/invoke/VarHandle" ∧ (parseMethodDescriptor (mMY t).desc).map (fun d => d.parameters.length) = some (mMN t) ∧ mMX t ≤ 41) &&
  (if mMK t = 0 then mHas ((mMW t).getD 2 0) (.static (mMY t)) else if mMK t = 1 then mHas ((mMW t).getD 2 0) (.instanceMethod (mMY t)) && mHas ((mMW t).getD 3 0) (.selects (mMY t).cls (mMY t) (mMY t)) else mHas ((mMW t).getD 2 0) (.instanceMethod (mMY t)) && decide ((mMY t).name = "<init>" ∧ mMT t = none ∧ mMK t = 2))))
/-- what a place of a call must be -/
noncomputable def mLnkC (tab : List mM) (own : String) (en : mE) : Bool := match en.2.1 with
  | .invokevirtual idx => mTgt en 2 = 0 ∧ (match tab[mTgt en 1]? with
    | some t => decide (mMK t = 1) && (if mTgt en 3 = 0 then mHas (mTgt en 4) (.methodLink own idx (mMY t)) else mHasN (mTgt en 4) (.methodLinkNest own idx (mMY t) "FirstLanding"))
    | none => false) = true
  | .invokestatic idx => if mTgt en 2 = 0 then (match tab[mTgt en 1]? with
    | some t => decide (mMK t = 0) && (if mTgt en 3 = 0 then mHas (mTgt en 4) (.methodLink own idx (mMY t)) else mHasN (mTgt en 4) (.methodLinkNest own idx (mMY t) "FirstLanding"))
    | none => false) else mHas (mTgt en 4) (.methodLink own idx arraycopyName) && (mHas (mTgt en 5) (.native arraycopyName) && (mHas (mTgt en 6) (.static arraycopyName) && mHas (mTgt en 7) (.initialized "java/lang/System")))
  | .invokespecial idx => if mTgt en 2 = 0 then (match tab[mTgt en 1]? with
    | some t => decide (mMK t = 2) && (if mTgt en 3 = 0 then mHas (mTgt en 4) (.methodLink own idx (mMY t)) else mHasN (mTgt en 4) (.methodLinkNest own idx (mMY t) "FirstLanding"))
    | none => false) else mHas (mTgt en 4) (.methodLink own idx Lib.objectInit) && (mHas (mTgt en 5) (.instanceMethod Lib.objectInit) && mHas (mTgt en 6) (.code Lib.objectInit ⟨#[0xb1]⟩ 1 none))
  | _ => true
noncomputable def mWs (t : mM) : List Cond := Cond.code (mMY t) (mMB t) (mMX t) (mMT t) :: mW
theorem mGood {w : Cond} (h : w ∈ mW) : GoodIn mW (w :: mW) := by
  intro z hz
  have h1 : z ∈ mW := by
    rcases List.mem_cons.mp hz with e | e
    · rw [e]; exact h
    · exact e
  exact ⟨h1, good_of_word (List.mem_filter.mp h1).2⟩
noncomputable def mRm (d mc ms : Nat) : Room := { frames := d, cells := mc, slots := ms, locals := 60 * d }
noncomputable def mPc (D : va_G) (cA : Nat → ClassId) (b : Nat) (x : Nat → Nat) (xs : Nat → List Int32) (av : List Value) (h : mH) : Array Value → State → Prop := fun a U => a = (av.map (mSh b x)).toArray ∧ mRel D cA b x h U.heap ∧ mEv D cA b x xs U
noncomputable def mQc (D : va_G) (cA : Nat → ClassId) (b : Nat) (x : Nat → Nat) (r : mR) : Array Value → State → Outcome → State → Prop := fun _ st o t => o = .returned (r.1.map (mSh b x)) ∧ mRel D cA b x r.2 t.heap ∧ va_F (fun q => b ≤ q) st t
noncomputable def mMet (l : Launch) (D : va_G) (cA : Nat → ClassId) (b : Nat) (x : Nat → Nat) (xs : Nat → List Int32) (d : Nat) (t : mM) (av : List Value) (h : mH) (r : mR) : Prop :=
  Met l (mMY t) (mWs t) (mRm d (r.2.length - h.length) (mSl r.2 - mSl h)) (mPc D cA b x xs av h) (mQc D cA b x r) (r.2.length - h.length) (mSl r.2 - mSl h) (fun q => b ≤ q)
theorem mPc_blind (D : va_G) (cA : Nat → ClassId) (b : Nat) (x : Nat → Nat) (xs : Nat → List Int32) (av : List Value) (h : mH) : FrameBlind (mPc D cA b x xs av h) := by
  intro a U g mk hp
  exact ⟨hp.1, hp.2.1, hp.2.2.to (mWN_same (s := U) (U := U.calling g mk a) rfl hp.2.2.2.2.2.2.1) (Vm.Alike.refl U.vm) (fun _ _ _ => rfl)⟩
section MSC
variable {p : Program} {l : Launch} {e : Env} {R : Room} {s : State} {m : MethodId} {args : Array Value} {below : List Frame} {meth : Method} {c : Code} {H : Heap} {locs : List Loc} {cells slots : Nat} {Q : State → Prop}
variable {cc : ByteArray} {cs : List mE} {b : Nat} {x : Nat → Nat} {xs : Nat → List Int32} {en : mE} {i : Nat} {L : mL} {st : List Value} {h : mH} {g : mG} {D : va_G} {cA : Nat → ClassId} {own : String} {ini : Bool} {tab : List mM} {call : Nat → List Value → mH → Option mR} {d : Nat}
theorem mPc_at (hE : mEv D cA b x xs s) (hR : mRel D cA b x h H) (hS : va_S (fun q => b ≤ q) s.heap H locs) (av : List Value) : ∀ U : State, U.heap = H → s.WarmedH U.vm → mPc D cA b x xs av h (av.map (mSh b x)).toArray U := by
  intro U hU hW
  refine ⟨rfl, by rw [hU]; exact hR, hE.to (mWN_warm hW hE.2.2.2.2.1) hW.alike (fun a h1 h2 => ?_)⟩
  rw [hU]
  exact hS.2.1 a h1 h2
/-- behind a call -/
theorem mBack {mc ms : Nat} {ls : Array Slot} {pc : Nat} {st0 rest : List Value} {a : Array Value} {r : mR} (hr : va_Run p l e R s m args below meth c H locs cells slots mc ms (F0 m pc ls st0) rest (mQc D cA b x r a) (fun q => b ≤ q)) (hS : va_S (fun q => b ≤ q) s.heap H locs)
    (kk : ∀ (H1 : Heap) (locs1 : List Loc), mRel D cA b x r.2 H1 → va_S (fun q => b ≤ q) s.heap H1 locs1 → W p l e R s m args below meth c H1 locs1 (cells + mc) (slots + ms) Q (F0 m (pc + 3) ls ((r.1.map (mSh b x)).toList ++ rest))) : W p l e R s m args below meth c H locs cells slots Q (F0 m pc ls st0) := by
  intro T hT X
  obtain ⟨v, st₀, t, T', L1, h0, X', hL, e1, e2, ⟨hv, hrel, hz, hk⟩, st1⟩ := hr T hT X
  cases hv
  rw [h0] at hz hk
  obtain ⟨t2, a1, b1⟩ := kk T'.heap (locs ++ L1) (by rw [e1]; exact hrel)
    ⟨Nat.le_trans hS.1 (by rw [e1]; exact hz), fun q h1 h2 => by rw [e1, hk q (Nat.lt_of_lt_of_le h1 hS.1) h2]; exact hS.2.1 q h1 h2, fun q hq => by
      rcases List.mem_append.mp hq with h | h
      · exact hS.2.2 q h
      · exact hL q h⟩ T' rfl X'
  exact ⟨t2, st1 t2 a1, b1⟩
theorem mRoom0 {pc : Nat} {ls : Array Slot} {st0 rest : List Value} (h : (rest.map (fun v => v.category)).sum ≤ 8) : 2 * (F0 m pc ls st0).monitorRoom + ((rest.map (mSh b x)).map fun v => v.category).sum ≤ 8 := by
  have h1 : ((rest.map (mSh b x)).map fun v => v.category) = rest.map (fun v => v.category) := by
    rw [List.map_map]
    exact List.map_congr_left (fun v _ => mSh_cat b x v)
  rw [h1]
  exact lv_room h
set_option maxHeartbeats 4000000 in
theorem mG1_sim (hx : p.tables.exec = Jvm.exec) (hb : c.code = cc) (hml : c.maxLocals = L.length) (hown : s.vm.findClass own = some m.cls) (hts : ∀ w ∈ mW, w.before args s = true) (hE : mEv D cA b x xs s) (hR : mRel D cA b x h H) (hS : va_S (fun q => b ≤ q) s.heap H locs)
    (hd : decode cc (mPcAt cs i) = .ok (en.2.1, mLen en.2.1)) (hf : mPcAt cs (i + 1) = mPcAt cs i + mLen en.2.1) (hlk : mLnkC tab own en = true) (htab : ∀ (k : Nat) (t : mM), tab[k]? = some t → mMok t = true)
    (hcall : ∀ (k : Nat) (t : mM) (av : List Value) (h0 : mH) (r : mR), tab[k]? = some t → (mEnt av).length ≤ mMX t → call k av h0 = some r → mMet l D cA b x xs d t av h0 r ∧ h0.length ≤ r.2.length ∧ mSl h0 ≤ mSl r.2)
    (hRf : d + 1 ≤ R.frames ∧ 60 * (d + 1) ≤ R.locals)
    (hs : mG1 tab call en i L st h = some g) (hrc : cells + (g.2.2.2.length - h.length) ≤ R.cells) (hrs : slots + (mSl g.2.2.2 - mSl h) ≤ R.slots)
    (kk : ∀ (H1 : Heap) (locs1 : List Loc), mRel D cA b x g.2.2.2 H1 → va_S (fun q => b ≤ q) s.heap H1 locs1 → mFol p l e R s m args below meth c cs (mSh b x) Q H1 locs1 (cells + (g.2.2.2.length - h.length)) (slots + (mSl g.2.2.2 - mSl h)) g) : mFol p l e R s m args below meth c cs (mSh b x) Q H locs cells slots (i, L, st, h) ∧ h.length ≤ g.2.2.2.length ∧ g.2.1.length = L.length ∧ mSl h ≤ mSl g.2.2.2 := by
  unfold mG1 at hs
  split at hs
  · rename_i hm
    obtain ⟨hm1, hm2⟩ := hm
    split at hs
    · rename_i t ht
      split at hs
      · rename_i hc
        obtain ⟨c1, c2, c3, c4⟩ := hc
        split at hs
        · rename_i r hr
          cases hs
          obtain ⟨hM, g1, g2⟩ := hcall _ t _ _ r ht c4 hr
          refine ⟨fun ls hl => ?_, g1, rfl, g2⟩
          dsimp only at hl hrc hrs kk ⊢
          have htk := htab _ t ht
          unfold mMok at htk
          simp only [Bool.and_eq_true] at htk
          obtain ⟨w0, w1, w2, w3⟩ := htk
          obtain ⟨w4, w5, w6, w7⟩ := of_decide_eq_true w2
          have hG := mGood (mHas_ok w0)
          have hini := hts _ (mHas_ok w1)
          have hRR : (mRm d (r.2.length - h.length) (mSl r.2 - mSl h)).frames + 1 ≤ R.frames ∧ 8 + (mMX t + 11) + (mRm d (r.2.length - h.length) (mSl r.2 - mSl h)).locals ≤ R.locals := ⟨hRf.1, by
            show 8 + (mMX t + 11) + 60 * d ≤ R.locals
            have := hRf.2
            omega⟩
          have hS0 : CallFix p m c cc L.length s args mW own := ⟨hx, hb, hml, hown, hts⟩
          have hst : st = (st.take (mCnt t)).reverse.reverse ++ st.drop (mCnt t) := by rw [List.reverse_reverse]; exact (List.take_append_drop _ _).symm
          have hsz : (F0 m (mPcAt cs i) ls (st.map (mSh b x))).locals.size = L.length := hl.1
          have hlen : ((st.take (mCnt t)).reverse).length = mCnt t := by simp; omega
          generalize hav : (st.take (mCnt t)).reverse = av at *
          generalize hrest : st.drop (mCnt t) = rest at *
          have hpre := mPc_at (h := h) hE hR hS av
          have hbl := mPc_blind D cA b x xs av h
          have fin : ∀ (H1 : Heap) (locs1 : List Loc), mRel D cA b x r.2 H1 → va_S (fun q => b ≤ q) s.heap H1 locs1 → W p l e R s m args below meth c H1 locs1 (cells + (r.2.length - h.length)) (slots + (mSl r.2 - mSl h)) Q (F0 m (mPcAt cs i + 3) ls ((r.1.map (mSh b x)).toList ++ rest.map (mSh b x))) := by
            intro H1 locs1 q1 q2
            have k1 := kk H1 locs1 q1 q2 ls hl
            dsimp only at k1
            rw [hf] at k1
            have e1 : mLen en.2.1 = 3 := by
              cases hi : en.2.1 <;> rw [hi] at hm1 <;> first | rfl | cases hm1
            rw [e1, List.map_append] at k1
            have e2 : r.1.toList.map (mSh b x) = (r.1.map (mSh b x)).toList := by cases r.1 <;> rfl
            rw [e2] at k1
            exact k1
          unfold mLnkC at hlk
          split at hlk
          · rename_i idx heq
            rw [heq] at hd
            have hlk2 := (of_decide_eq_true hlk).2
            rw [ht] at hlk2
            dsimp only at hlk2
            rw [Bool.and_eq_true, decide_eq_true_eq] at hlk2
            obtain ⟨hk1, l3⟩ := hlk2
            rw [if_neg (by omega), if_pos hk1, Bool.and_eq_true] at w3
            have hin := hts _ (mHas_ok w3.1)
            have hse := hts _ (mHas_ok w3.2)
            unfold mRcv at c3
            rw [if_neg (by omega)] at c3
            have hcn : mCnt t = mMN t + 1 := by unfold mCnt; rw [if_neg (by omega)]
            match av, c3 with
            | .ref a :: As, c3 =>
              dsimp only at c3
              rw [if_neg (by omega)] at c3
              split at c3
              · rename_i q hq
                rw [Bool.and_eq_true, decide_eq_true_eq] at c3
                obtain ⟨hq50, hq2⟩ := c3
                split at hq2
                · rename_i rr hrr
                  have hcl := of_decide_eq_true hq2
                  obtain ⟨r1, o1, o2, cellB, o3, o4, o5, -⟩ := (hR.2 a q hq).1 hq50
                  cases hrr.symm.trans o1
                  have hrv : ∃ cellB : Cell, H[b + a]? = some cellB ∧ cellB.vm.isStatics = false ∧ s.vm.findClass (mMY t).cls = some cellB.cls := ⟨cellB, o3, by rw [o5]; rfl, by rw [o4, ← hcl]; exact (hE.1.1 q.1 _ o1).2.1⟩
                  have hstk : st.map (mSh b x) = (As.map (mSh b x)).reverse ++ .ref (b + a) :: rest.map (mSh b x) := by
                    rw [hst, List.reverse_cons, List.append_assoc, List.map_append, List.map_reverse]
                    rfl
                  have hnn : (As.map (mSh b x)).length = mMN t := by
                    rw [List.length_map]
                    have := hlen
                    rw [List.length_cons] at this
                    omega
                  split at l3
                  · refine mBack (r := r) (va_runV (As := As.map (mSh b x)) (rest := rest.map (mSh b x)) hS0 hM ⟨callB_of (mMN t) hts hG rfl rfl rfl hini (hts _ (mHas_ok l3)) ⟨w4, w5, w6⟩ hRR, hin, hse⟩ ⟨hbl, hrv, hpre⟩ rfl hnn hsz hstk (mRoom0 c2) hd ⟨hrc, hrs⟩) hS fin
                  · refine mBack (r := r) (va_runVN (As := As.map (mSh b x)) (rest := rest.map (mSh b x)) hS0 hM ⟨va_cnB (mMN t) hts hG rfl rfl rfl (hE.2.2.2.2.1 _ (mHasN_ok l3)) hini ⟨w4, w5, w6⟩ hRR, hin, hse⟩ ⟨hbl, hrv, hpre⟩ rfl hnn hsz hstk (mRoom0 c2) hd ⟨hrc, hrs⟩) hS fin
                · cases hq2
              · cases c3
          · rename_i idx heq
            rw [heq] at hd
            rw [if_pos hm2, ht] at hlk
            dsimp only at hlk
            rw [Bool.and_eq_true, decide_eq_true_eq] at hlk
            obtain ⟨hk1, l3⟩ := hlk
            rw [if_pos hk1] at w3
            have hsta := hts _ (mHas_ok w3)
            have hcn : mCnt t = mMN t := by unfold mCnt; rw [if_pos hk1]
            have hstk : st.map (mSh b x) = (av.map (mSh b x)).reverse ++ rest.map (mSh b x) := by
              rw [hst, List.map_append, List.map_reverse]
            have hnn : (av.map (mSh b x)).length = mMN t := by rw [List.length_map]; omega
            split at l3
            · refine mBack (r := r) (va_runS (As := av.map (mSh b x)) (rest := rest.map (mSh b x)) hS0 hM ⟨callB_of (mMN t) hts hG rfl rfl rfl hini (hts _ (mHas_ok l3)) ⟨w4, w5, w6⟩ hRR, hsta⟩ ⟨hbl, hpre⟩ rfl hnn hsz hstk (mRoom0 c2) hd ⟨hrc, hrs⟩) hS fin
            · refine mBack (r := r) (va_runSN (As := av.map (mSh b x)) (rest := rest.map (mSh b x)) hS0 hM ⟨va_cnB (mMN t) hts hG rfl rfl rfl (hE.2.2.2.2.1 _ (mHasN_ok l3)) hini ⟨w4, w5, w6⟩ hRR, hsta, trivial⟩ ⟨hbl, hpre⟩ rfl hnn hsz hstk (mRoom0 c2) hd ⟨hrc, hrs⟩) hS fin
          · rename_i idx heq
            rw [heq] at hd
            rw [if_pos hm2, ht] at hlk
            dsimp only at hlk
            rw [Bool.and_eq_true, decide_eq_true_eq] at hlk
            obtain ⟨hk1, l3⟩ := hlk
            rw [if_neg (by omega), if_neg (by omega), Bool.and_eq_true] at w3
            have hin := hts _ (mHas_ok w3.1)
            obtain ⟨hy1, hrt, -⟩ := of_decide_eq_true w3.2
            unfold mRcv at c3
            rw [if_neg (by omega)] at c3
            have hcn : mCnt t = mMN t + 1 := by unfold mCnt; rw [if_neg (by omega)]
            match av, c3 with
            | .ref a :: As, c3 =>
              have hstk : st.map (mSh b x) = (As.map (mSh b x)).reverse ++ .ref (b + a) :: rest.map (mSh b x) := by
                rw [hst, List.reverse_cons, List.append_assoc, List.map_append, List.map_reverse]
                rfl
              have hnn : (As.map (mSh b x)).length = mMN t := by
                rw [List.length_map]
                have := hlen
                rw [List.length_cons] at this
                omega
              have hw0 : mWs t = Cond.code (mMY t) (mMB t) (mMX t) none :: mW := by unfold mWs; rw [hrt]
              have hG2 : GoodIn mW (mWs t) := hG
              split at l3
              · refine mBack (r := r) (va_runI (As := As.map (mSh b x)) (rest := rest.map (mSh b x)) hS0 hM ⟨callB_of (mMN t) hts hG2 hw0 rfl rfl hini (hts _ (mHas_ok l3)) ⟨w4, w5, w6⟩ hRR, hy1, hin⟩ ⟨hbl, hpre⟩ rfl hnn hsz hstk (mRoom0 c2) hd ⟨hrc, hrs⟩) hS fin
              · refine mBack (r := r) (va_runIN (As := As.map (mSh b x)) (rest := rest.map (mSh b x)) hS0 hM ⟨va_cnB (mMN t) hts hG2 hw0 rfl rfl (hE.2.2.2.2.1 _ (mHasN_ok l3)) hini ⟨w4, w5, w6⟩ hRR, hy1, hin⟩ ⟨hbl, hpre⟩ rfl hnn hsz hstk (mRoom0 c2) hd ⟨hrc, hrs⟩) hS fin
          · rename_i h1 h2 h3
            exfalso
            cases hi : en.2.1 <;> rw [hi] at hm1 <;> first | exact h1 _ hi | exact h2 _ hi | exact h3 _ hi | cases hm1
        · cases hs
      · cases hs
    · cases hs
  · cases hs
end MSC
end
section
/-! the run of a body -/
section MSG
variable {p : Program} {l : Launch} {e : Env} {R : Room} {s : State} {m : MethodId} {args : Array Value} {below : List Frame} {meth : Method} {c : Code} {H : Heap} {locs : List Loc} {cells slots : Nat} {Q : State → Prop}
variable {cc : ByteArray} {cs : List mE} {b : Nat} {x : Nat → Nat} {xs : Nat → List Int32} {en : mE} {i : Nat} {L : mL} {st : List Value} {h : mH} {g : mG} {D : va_G} {cA : Nat → ClassId} {own : String} {ini : Bool} {tab : List mM} {call : Nat → List Value → mH → Option mR} {d : Nat}
theorem mCat_sum (rest : List Value) : ((rest.map (mSh b x)).map fun v => v.category).sum = (rest.map (fun v => v.category)).sum := by
  rw [List.map_map]
  congr 1
  exact List.map_congr_left (fun v _ => mSh_cat b x v)
set_option maxHeartbeats 4000000 in
theorem mG2_sim (hx : p.tables.exec = Jvm.exec) (hb : c.code = cc) (hml : c.maxLocals = L.length) (hown : s.vm.findClass own = some m.cls) (hts : ∀ w ∈ mW, w.before args s = true) (hE : mEv D cA b x xs s) (hR : mRel D cA b x h H) (hS : va_S (fun q => b ≤ q) s.heap H locs)
    (hd : decode cc (mPcAt cs i) = .ok (en.2.1, mLen en.2.1)) (hf : mPcAt cs (i + 1) = mPcAt cs i + mLen en.2.1) (hlk : mLnkC tab own en = true)
    (hRf : d + 1 ≤ R.frames ∧ 60 * (d + 1) ≤ R.locals)
    (hs : mG2 en i L st h = some g)
    (kk : ∀ (H1 : Heap) (locs1 : List Loc), mRel D cA b x g.2.2.2 H1 → va_S (fun q => b ≤ q) s.heap H1 locs1 → mFol p l e R s m args below meth c cs (mSh b x) Q H1 locs1 cells slots g) : mFol p l e R s m args below meth c cs (mSh b x) Q H locs cells slots (i, L, st, h) ∧ g.2.2.2.length = h.length ∧ g.2.1.length = L.length ∧ mSl g.2.2.2 = mSl h := by
  unfold mG2 at hs
  split at hs
  · rename_i idx heq
    rw [heq] at hd hf
    split at hs
    · rename_i a r
      split at hs
      · rename_i hc
        cases hs
        refine ⟨fun ls hl => ?_, rfl, rfl, rfl⟩
        have k1 := kk H locs hR hS ls hl
        dsimp only [List.map_cons, mSh] at k1 hl ⊢
        rw [hf] at k1
        unfold mLnkC at hlk
        rw [heq] at hlk
        dsimp only at hlk
        rw [if_neg (by omega)] at hlk
        simp only [Bool.and_eq_true] at hlk
        obtain ⟨l1, l2, l3⟩ := hlk
        refine W.objInit hx hb hown (hts _ (mHas_ok l1)) (hts _ (mHas_ok l2)) (hts _ (mHas_ok l3)) rfl (by rw [hml]; exact hl.1) rfl hd (by omega) ?_ k1
        show 2 * 0 + ((r.map (mSh b x)).map fun v => v.category).sum + 12 ≤ R.locals
        rw [mCat_sum]
        omega
      · cases hs
    · cases hs
  · rename_i idx heq
    rw [heq] at hd hf
    split at hs
    · rename_i n dp a1 sp a0 r
      split at hs
      · rename_i q0 hq0
        split at hs
        · rename_i q1 hq1
          split at hs
          · rename_i hc
            obtain ⟨m2, c2, t0, t1, h1, h2, h3, h4, h5, hI⟩ := hc
            cases hs
            have hcl : (mCpy q0.2 q1.2 sp.toNatClampNeg dp.toNatClampNeg n.toNatClampNeg).length = q1.2.length := by simp [mCpy]
            have hsl : mSl (h.set a1 (q1.1, mCpy q0.2 q1.2 sp.toNatClampNeg dp.toNatClampNeg n.toNatClampNeg)) = mSl h := by
              unfold mSl
              congr 1
              rw [List.map_set]
              apply List.ext_getElem?
              intro k
              by_cases hk : k = a1
              · subst hk
                rw [List.getElem?_set]
                simp only [if_true, List.length_map]
                rw [List.getElem?_map, hq1, if_pos (List.getElem?_eq_some_iff.mp hq1).1]
                simp [hcl]
              · rw [List.getElem?_set_ne (Ne.symm hk)]
            refine ⟨fun ls hl => ?_, by simp, rfl, hsl⟩
            dsimp only at hl kk ⊢
            unfold mLnkC at hlk
            rw [heq] at hlk
            dsimp only at hlk
            rw [if_neg (by omega)] at hlk
            simp only [Bool.and_eq_true] at hlk
            obtain ⟨l1, l2, l3, l4⟩ := hlk
            have nn : ∀ z : Int32, ¬ z < 0 → z.toInt = (z.toNatClampNeg : Int) := by
              intro z hz
              have hz0 : (0 : Int) ≤ z.toInt := by
                have := Int32.not_lt.mp hz
                simpa using Int32.le_iff_toInt_le.mp this
              show z.toInt = ((z.toInt.toNat : Nat) : Int)
              omega
            intro T hT X
            have hc0 := hR.arr hq0 (by omega)
            have hc1 := hR.arr hq1 (by omega)
            rw [t0] at hc0
            rw [t1] at hc1
            have hAr := (hE.1.2 0 (cA 50, .int) rfl).1
            obtain ⟨-, k0, hk0, cm0, hkk0⟩ := hAr q0.2.length (fun j => mSh b x (vp_V q0.2 j))
            obtain ⟨-, k1, hk1, cm1, hkk1⟩ := hAr q1.2.length (fun j => mSh b x (vp_V q1.2 j))
            obtain ⟨vm', X', step⟩ := X.arraycopy hx hown (hts _ (mHas_ok l1)) (hts _ (mHas_ok l2)) (hts _ (mHas_ok l3)) (hts _ (mHas_ok l4)) (src := b + a0) (dst := b + a1) (srcPos := sp) (destPos := dp) (n := n) (by rw [hT]; exact hc0) (by rw [hT]; exact hc1)
              (fun _ h => by cases h) (fun _ h => by cases h) (fun h => by cases h) (fun h => by cases h) hk0 hk1 hkk0 hkk1 rfl h1 h2 h3
              (by rw [nn sp h1, nn n h3, arrV_size]; omega)
              (by rw [nn dp h2, nn n h3, arrV_size]; omega)
              (fun vm₁ _ i hi => by
                have hlt : sp.toNatClampNeg + i < q0.2.length := by omega
                have e : (arrV (cA 50) q0.2.length (fun j => mSh b x (vp_V q0.2 j))).slots.getD (sp.toNatClampNeg + i) .null = mSh b x (vp_V q0.2 (sp.toNatClampNeg + i)) := by
                  rw [Array.getD_eq_getD_getElem?, arrV_read _ _ hlt]
                  rfl
                obtain ⟨z, hz⟩ : ∃ z, vp_V q0.2 (sp.toNatClampNeg + i) = .int z := by
                  have hm : vp_V q0.2 (sp.toNatClampNeg + i) ∈ q0.2 := by
                    unfold vp_V
                    rw [List.getD_eq_getElem?_getD, List.getElem?_eq_getElem hlt]
                    exact List.getElem_mem hlt
                  exact mIsI_spec (List.all_eq_true.mp hI _ hm)
                rw [e, hz]
                exact ⟨rfl, trivial⟩)
              (g := F0 m (mPcAt cs i) ls ((Value.int n :: .int dp :: .ref a1 :: .int sp :: .ref a0 :: r).map (mSh b x))) rfl (by rw [hml]; exact hl.1) (rest := r.map (mSh b x)) rfl (by rw [hb]; exact hd) (by omega) (by
                show 2 * 0 + ((r.map (mSh b x)).map fun v => v.category).sum + (nativeFrameWords "java/lang/System" "arraycopy" 5 + 11) ≤ R.locals
                rw [mCat_sum]
                have : nativeFrameWords "java/lang/System" "arraycopy" 5 = 7 := by decide
                omega)
            have e1 : copied (arrV (cA 50) q0.2.length (fun j => mSh b x (vp_V q0.2 j))) (arrV (cA 50) q1.2.length (fun j => mSh b x (vp_V q1.2 j))) sp dp n = arrV (cA 50) q1.2.length (fun j => mSh b x (va_cpy (vp_V q0.2) (vp_V q1.2) sp.toNatClampNeg dp.toNatClampNeg n.toNatClampNeg j)) := va_copied (mSh b x) (cA 50) (cA 50) (vp_V q0.2) (vp_V q1.2) h4
            rw [e1] at X' step
            have hlt : b + a1 < H.size := (Array.getElem?_eq_some_iff.mp hc1).1
            generalize hcell : arrV (cA 50) q1.2.length (fun j => mSh b x (va_cpy (vp_V q0.2) (vp_V q1.2) sp.toNatClampNeg dp.toNatClampNeg n.toNatClampNeg j)) = cell at X' step
            have hheap : ((T.setVm vm').setCell (b + a1) cell).heap = H.setIfInBounds (b + a1) cell := by rw [← hT]; rfl
            have oq : ∀ q : Nat, q ≠ b + a1 → (H.setIfInBounds (b + a1) cell)[q]? = H[q]? := fun q hq => by simp [Array.getElem?_setIfInBounds, Ne.symm hq]
            have hrel : mRel D cA b x (h.set a1 (q1.1, mCpy q0.2 q1.2 sp.toNatClampNeg dp.toNatClampNeg n.toNatClampNeg)) (H.setIfInBounds (b + a1) cell) := by
              refine hR.set (by simp) oq ⟨fun z => absurd z (by show ¬ q1.1 < 50; omega), fun _ => ?_⟩
              dsimp only
              rw [hcl, t1]
              rw [show (H.setIfInBounds (b + a1) cell)[b + a1]? = some cell by simp [Array.getElem?_setIfInBounds, hlt], ← hcell]
              refine congrArg some (arrV_congr _ _ _ _ fun j hj => ?_)
              congr 1
              unfold mCpy
              rw [show vp_V ((List.range q1.2.length).map (fun k => va_cpy (vp_V q0.2) (vp_V q1.2) sp.toNatClampNeg dp.toNatClampNeg n.toNatClampNeg k)) j = va_cpy (vp_V q0.2) (vp_V q1.2) sp.toNatClampNeg dp.toNatClampNeg n.toNatClampNeg j by
                rw [show ∀ l : List Value, vp_V l j = l.getD j .null from fun _ => rfl, List.getD_eq_getElem?_getD, List.getElem?_map, List.getElem?_range hj]
                rfl]
            have fr : ∀ LL : List Loc, (∀ q ∈ LL, b ≤ q.base) → va_S (fun q => b ≤ q) s.heap (H.setIfInBounds (b + a1) cell) (locs ++ LL) := fun LL hLL => ⟨by simp; exact hS.1, fun q g1 g2 => by
                rw [oq q (fun e => g2 (by show b ≤ q; omega))]
                exact hS.2.1 q g1 g2, fun q hq => by
                rcases List.mem_append.mp hq with h | h
                · exact hS.2.2 q h
                · exact hLL q h⟩
            obtain ⟨t, u1, u2⟩ := kk _ _ hrel (fr _ (fun q hq => by
              obtain ⟨z, -, hz⟩ := List.mem_map.mp hq
              rw [← hz]
              exact Nat.le_add_right _ _)) ls hl _ hheap X'
            dsimp only at u1
            rw [hf] at u1
            exact ⟨t, step t u1, u2⟩
          · cases hs
        · cases hs
      · cases hs
    · cases hs
  · cases hs
end MSG
end
section
/-! the small machine, and that the machine follows it -/
noncomputable def mStep (tab : List mM) (xs : Nat → List Int32) (call : Nat → List Value → mH → Option mR) (en : mE) (g : mG) : Option mG :=
  (mA1 en g.1 g.2.1 g.2.2.1 g.2.2.2).or ((mB1 en g.1 g.2.1 g.2.2.1 g.2.2.2).or ((mB3 en g.1 g.2.1 g.2.2.1 g.2.2.2).or ((mF1 en g.1 g.2.1 g.2.2.1 g.2.2.2).or ((mG1 tab call en g.1 g.2.1 g.2.2.1 g.2.2.2).or ((mF2 xs en g.1 g.2.1 g.2.2.1 g.2.2.2).or ((mF3 en g.1 g.2.1 g.2.2.1 g.2.2.2).or ((mA2 en g.1 g.2.1 g.2.2.1 g.2.2.2).or ((mB2 en g.1 g.2.1 g.2.2.1 g.2.2.2).or ((mN1 en g.1 g.2.1 g.2.2.1 g.2.2.2).or (mG2 en g.1 g.2.1 g.2.2.1 g.2.2.2))))))))))
noncomputable def mRt (rt : Option FieldType) (en : mE) (st : List Value) (h : mH) : Option mR := match en.2.1 with
  | .ireturn => match st with
    | [.int v] => match rt with
      | some ty => if narrow ty (.int v) = .int v then some (some (.int v), h) else none
      | none => none
    | _ => none
  | .lreturn => match st with
    | [.long v] => if rt = some .long then some (some (.long v), h) else none
    | _ => none
  | .areturn => match st with
    | [v] => match rt with
      | some (.object _) => if mIsA v = true then some (some v, h) else none
      | _ => none
    | _ => none
  | .return_ => match st with
    | [] => if rt = none then some (none, h) else none
    | _ => none
  | _ => none
noncomputable def mRun (tab : List mM) (xs : Nat → List Int32) (call : Nat → List Value → mH → Option mR) (rt : Option FieldType) (cs : List mE) : Nat → mG → Option mR
  | 0, _ => none
  | n + 1, g => match cs[g.1]? with
    | none => none
    | some en => match mRt rt en g.2.2.1 g.2.2.2 with
      | some r => some r
      | none => match mStep tab xs call en g with
        | some g1 => mRun tab xs call rt cs n g1
        | none => none
noncomputable def mEval (tab : List mM) (xs : Nat → List Int32) : Nat → Nat → Nat → List Value → mH → Option mR
  | 0, _, _, _, _ => none
  | d + 1, n, k, av, h => match tab[k]? with
    | some t => mRun tab xs (mEval tab xs d n) (mMT t) (mMC t) n (0, mEntL (mMX t) av, [], h)
    | none => none
/-- cells are never lost -/
noncomputable def mUp (h h1 : mH) : Prop := h.length ≤ h1.length ∧ mSl h ≤ mSl h1
theorem mUp.rf (h : mH) : mUp h h := ⟨Nat.le_refl _, Nat.le_refl _⟩
theorem mUp.tr {a b c : mH} (h1 : mUp a b) (h2 : mUp b c) : mUp a c := ⟨Nat.le_trans h1.1 h2.1, Nat.le_trans h1.2 h2.2⟩
theorem mSl_set {h : mH} {a : Nat} {q q1 : mC} (hq : h[a]? = some q) (he : q1.2.length = q.2.length) : mSl (h.set a q1) = mSl h := by
  unfold mSl
  congr 1
  rw [List.map_set]
  apply List.ext_getElem?
  intro k
  by_cases hk : k = a
  · subst hk
    rw [List.getElem?_set]
    simp only [if_true, List.length_map]
    rw [List.getElem?_map, hq, if_pos (List.getElem?_eq_some_iff.mp hq).1]
    simp [he]
  · rw [List.getElem?_set_ne (Ne.symm hk)]
theorem mUp.set {h : mH} {a : Nat} {q q1 : mC} (hq : h[a]? = some q) (he : q1.2.length = q.2.length) : mUp h (h.set a q1) := ⟨by simp, by rw [mSl_set hq he]; exact Nat.le_refl _⟩
theorem mUp.push (h : mH) (q : mC) : mUp h (h ++ [q]) := ⟨by simp, by rw [mSl_app]; omega⟩
section MUP
variable {en : mE} {i : Nat} {L : mL} {st : List Value} {h : mH} {g : mG} {tab : List mM} {xs : Nat → List Int32} {call : Nat → List Value → mH → Option mR}
set_option maxHeartbeats 4000000 in
theorem mA1_up (hs : mA1 en i L st h = some g) : mUp h g.2.2.2 := by
  unfold mA1 mLd mSt mStJ at hs
  (repeat' split at hs) <;> first | (cases hs; exact mUp.rf _) | cases hs
theorem mA2_up (hs : mA2 en i L st h = some g) : mUp h g.2.2.2 := by
  unfold mA2 at hs
  (repeat' split at hs) <;> first | (cases hs; exact mUp.rf _) | cases hs
theorem mB1_up (hs : mB1 en i L st h = some g) : mUp h g.2.2.2 := by
  unfold mB1 at hs
  (repeat' split at hs) <;> first | (cases hs; exact mUp.rf _) | cases hs
theorem mB2_up (hs : mB2 en i L st h = some g) : mUp h g.2.2.2 := by
  unfold mB2 at hs
  (repeat' split at hs) <;> first | (cases hs; exact mUp.rf _) | cases hs
theorem mB3_up (hs : mB3 en i L st h = some g) : mUp h g.2.2.2 := by
  unfold mB3 mIf at hs
  (repeat' split at hs) <;> first | (cases hs; exact mUp.rf _) | (cases hs; split <;> exact mUp.rf _) | cases hs
theorem mF1_up (hs : mF1 en i L st h = some g) : mUp h g.2.2.2 := by
  unfold mF1 at hs
  (repeat' split at hs) <;> first | (cases hs; exact mUp.rf _) | (rename_i hq _; cases hs; exact mUp.set hq (by simp)) | cases hs
theorem mF2_up (hs : mF2 xs en i L st h = some g) : mUp h g.2.2.2 := by
  unfold mF2 at hs
  (repeat' split at hs) <;> first | (cases hs; exact mUp.rf _) | cases hs
theorem mF3_up (hs : mF3 en i L st h = some g) : mUp h g.2.2.2 := by
  unfold mF3 at hs
  (repeat' split at hs) <;> first | (rename_i hq _; cases hs; exact mUp.set hq (by simp)) | (rename_i hq _ _; cases hs; exact mUp.set hq (by simp)) | (rename_i hq _ _ _; cases hs; exact mUp.set hq (by simp)) | (rename_i hq _ _ _ _; cases hs; exact mUp.set hq (by simp)) | cases hs
theorem mN1_up (hs : mN1 en i L st h = some g) : mUp h g.2.2.2 := by
  unfold mN1 at hs
  (repeat' split at hs) <;> first | (cases hs; exact mUp.push _ _) | cases hs
theorem mG1_up (hc : ∀ k av h0 r, call k av h0 = some r → mUp h0 r.2) (hs : mG1 tab call en i L st h = some g) : mUp h g.2.2.2 := by
  unfold mG1 at hs
  split at hs
  · split at hs
    · split at hs
      · split at hs
        · rename_i r hr
          cases hs
          exact hc _ _ _ _ hr
        · cases hs
      · cases hs
    · cases hs
  · cases hs
theorem mG2_up (hs : mG2 en i L st h = some g) : mUp h g.2.2.2 := by
  unfold mG2 at hs
  (repeat' split at hs) <;> first | (cases hs; exact mUp.rf _) | (rename_i hq _ _; cases hs; exact mUp.set hq (by simp [mCpy])) | (rename_i hq _; cases hs; exact mUp.set hq (by simp [mCpy])) | cases hs
theorem mA1_eqs (hs : mA1 en i L st h = some g) : g.2.2.2 = h ∧ g.2.1.length = L.length := by
  unfold mA1 mLd mSt mStJ at hs
  (repeat' split at hs) <;> first | (cases hs; exact ⟨rfl, rfl⟩) | (cases hs; exact ⟨rfl, mS1_len _ _ _⟩) | (cases hs; exact ⟨rfl, mS2_len _ _ _⟩) | cases hs
theorem mA2_eqs (hs : mA2 en i L st h = some g) : g.2.2.2 = h ∧ g.2.1.length = L.length := by
  unfold mA2 at hs
  (repeat' split at hs) <;> first | (cases hs; exact ⟨rfl, rfl⟩) | (cases hs; exact ⟨rfl, mS1_len _ _ _⟩) | cases hs
theorem mB1_eqs (hs : mB1 en i L st h = some g) : g.2.2.2 = h ∧ g.2.1.length = L.length := by
  unfold mB1 at hs
  (repeat' split at hs) <;> first | (cases hs; exact ⟨rfl, rfl⟩) | cases hs
theorem mB2_eqs (hs : mB2 en i L st h = some g) : g.2.2.2 = h ∧ g.2.1.length = L.length := by
  unfold mB2 at hs
  (repeat' split at hs) <;> first | (cases hs; exact ⟨rfl, rfl⟩) | cases hs
theorem mB3_eqs (hs : mB3 en i L st h = some g) : g.2.2.2 = h ∧ g.2.1.length = L.length := by
  unfold mB3 mIf at hs
  (repeat' split at hs) <;> first | (cases hs; exact ⟨rfl, rfl⟩) | (cases hs; split <;> exact ⟨rfl, rfl⟩) | cases hs
theorem mF2_eqs (hs : mF2 xs en i L st h = some g) : g.2.2.2 = h ∧ g.2.1.length = L.length := by
  unfold mF2 at hs
  (repeat' split at hs) <;> first | (cases hs; exact ⟨rfl, rfl⟩) | cases hs
theorem mF1_eqs (hs : mF1 en i L st h = some g) : (g.2.2.2.length = h.length ∧ mSl g.2.2.2 = mSl h) ∧ g.2.1.length = L.length := by
  unfold mF1 at hs
  (repeat' split at hs) <;> first | (cases hs; exact ⟨⟨rfl, rfl⟩, rfl⟩) | (rename_i hq _; cases hs; exact ⟨⟨by simp, mSl_set hq (by simp)⟩, rfl⟩) | cases hs
theorem mF3_eqs (hs : mF3 en i L st h = some g) : (g.2.2.2.length = h.length ∧ mSl g.2.2.2 = mSl h) ∧ g.2.1.length = L.length := by
  unfold mF3 at hs
  (repeat' split at hs) <;> first | (rename_i hq _; cases hs; exact ⟨⟨by simp, mSl_set hq (by simp)⟩, rfl⟩) | (rename_i hq _ _; cases hs; exact ⟨⟨by simp, mSl_set hq (by simp)⟩, rfl⟩) | (rename_i hq _ _ _; cases hs; exact ⟨⟨by simp, mSl_set hq (by simp)⟩, rfl⟩) | (rename_i hq _ _ _ _; cases hs; exact ⟨⟨by simp, mSl_set hq (by simp)⟩, rfl⟩) | cases hs
theorem mG2_eqs (hs : mG2 en i L st h = some g) : (g.2.2.2.length = h.length ∧ mSl g.2.2.2 = mSl h) ∧ g.2.1.length = L.length := by
  unfold mG2 at hs
  (repeat' split at hs) <;> first | (cases hs; exact ⟨⟨rfl, rfl⟩, rfl⟩) | (rename_i hq _ _; cases hs; exact ⟨⟨by simp, mSl_set hq (by simp [mCpy])⟩, rfl⟩) | (rename_i hq _; cases hs; exact ⟨⟨by simp, mSl_set hq (by simp [mCpy])⟩, rfl⟩) | cases hs
theorem mN1_eqs (hs : mN1 en i L st h = some g) : g.2.2.2.length = h.length + 1 ∧ g.2.1.length = L.length := by
  unfold mN1 at hs
  (repeat' split at hs) <;> first | (cases hs; exact ⟨by simp, rfl⟩) | cases hs
theorem mG1_eqs (hs : mG1 tab call en i L st h = some g) : g.2.1.length = L.length := by
  unfold mG1 at hs
  split at hs
  · split at hs
    · split at hs
      · split at hs
        · cases hs; rfl
        · cases hs
      · cases hs
    · cases hs
  · cases hs
theorem mStep_up (hc : ∀ k av h0 r, call k av h0 = some r → mUp h0 r.2) {g0 : mG} (hs : mStep tab xs call en g0 = some g) : mUp g0.2.2.2 g.2.2.2 := by
  unfold mStep at hs
  simp only [Option.or_eq_some_iff] at hs
  rcases hs with h | ⟨-, h | ⟨-, h | ⟨-, h | ⟨-, h | ⟨-, h | ⟨-, h | ⟨-, h | ⟨-, h | ⟨-, h | ⟨-, h⟩⟩⟩⟩⟩⟩⟩⟩⟩⟩
  · exact mA1_up h
  · exact mB1_up h
  · exact mB3_up h
  · exact mF1_up h
  · exact mG1_up hc h
  · exact mF2_up h
  · exact mF3_up h
  · exact mA2_up h
  · exact mB2_up h
  · exact mN1_up h
  · exact mG2_up h
theorem mRt_h {rt : Option FieldType} {r : mR} (hs : mRt rt en st h = some r) : r.2 = h := by
  unfold mRt at hs
  (repeat' split at hs) <;> first | (cases hs; rfl) | cases hs
theorem mRun_up (hc : ∀ k av h0 r, call k av h0 = some r → mUp h0 r.2) {rt : Option FieldType} {cs : List mE} : ∀ (n : Nat) (g : mG) (r : mR), mRun tab xs call rt cs n g = some r → mUp g.2.2.2 r.2 := by
  intro n
  induction n with
  | zero => intro g r h; cases h
  | succ n ih =>
    intro g r hs
    unfold mRun at hs
    split at hs
    · cases hs
    · split at hs
      · rename_i hr
        cases hs
        rw [mRt_h hr]
        exact mUp.rf _
      · split at hs
        · rename_i g1 hg
          exact (mStep_up hc hg).tr (ih g1 r hs)
        · cases hs
theorem mEval_up : ∀ (d n k : Nat) (av : List Value) (h0 : mH) (r : mR), mEval tab xs d n k av h0 = some r → mUp h0 r.2 := by
  intro d
  induction d with
  | zero => intro n k av h0 r h; cases h
  | succ d ih =>
    intro n k av h0 r hs
    unfold mEval at hs
    split at hs
    · exact mRun_up (fun k av h0 r h => ih n k av h0 r h) n _ r hs
    · cases hs
end MUP
/-- what a place of a method's code must be -/
noncomputable def mSwi : Instr → Bool
  | .tableswitch .. => true
  | .lookupswitch .. => true
  | _ => false
noncomputable def mFal : Instr → Bool
  | .tableswitch .. => false
  | .lookupswitch .. => false
  | .goto _ => false
  | .ireturn => false
  | .lreturn => false
  | .areturn => false
  | .return_ => false
  | _ => true
noncomputable def mLnkK (own : String) (en : mE) : Bool := match en.2.1 with
  | .ldc idx => mHas (mTgt en 4) (.constant own idx (Int32.ofInt (en.2.2.2.getD 1 0)))
  | .ldc_w idx => mHas (mTgt en 4) (.constant own idx (Int32.ofInt (en.2.2.2.getD 1 0)))
  | .ldc2_w idx => mHas (mTgt en 4) (.constantLong own idx (Int64.ofInt (en.2.2.2.getD 1 0)))
  | _ => true
noncomputable def mEok (tab : List mM) (own : String) (ini : Bool) (bs : ByteArray) (cs : List mE) (i : Nat) (en : mE) : Bool :=
  decide (decode bs en.1 = .ok (en.2.1, en.2.2.1)) && ((mSwi en.2.1 || decide (en.2.2.1 = mLen en.2.1)) && ((!mFal en.2.1 || decide (mPcAt cs (i + 1) = en.1 + mLen en.2.1)) && (mJok cs i en && (mLnkF own ini en && (mLnkS own en && (mLnkN own en && (mLnkC tab own en && mLnkK own en)))))))
noncomputable def mCok (tab : List mM) (own : String) (ini : Bool) (bs : ByteArray) (cs : List mE) : Bool := cs.zipIdx.all (fun q => mEok tab own ini bs cs q.2 q.1)
theorem mCok_at {tab : List mM} {own : String} {ini : Bool} {bs : ByteArray} {cs : List mE} (h : mCok tab own ini bs cs = true) {i : Nat} {en : mE} (he : cs[i]? = some en) : mEok tab own ini bs cs i en = true :=
  List.all_eq_true.mp h (en, i) (List.mem_zipIdx_iff_getElem?.mpr he)
/-- how a method may end -/
noncomputable def mEnd (rt : Option FieldType) (v : Option Value) (ins : Instr) : Prop := match ins with
  | .ireturn => ∃ z ty, v = some (.int z) ∧ rt = some ty ∧ narrow ty (.int z) = .int z
  | .lreturn => ∃ z, v = some (.long z) ∧ rt = some .long
  | .areturn => ∃ z C, v = some z ∧ rt = some (.object C) ∧ mIsA z = true
  | .return_ => v = none ∧ rt = none
  | _ => False
theorem mRt_end {rt : Option FieldType} {en : mE} {st : List Value} {h : mH} {r : mR} (hs : mRt rt en st h = some r) : mEnd rt r.1 en.2.1 ∧ st = r.1.toList := by
  unfold mRt at hs
  split at hs
  · rename_i heq
    split at hs
    · rename_i v
      split at hs
      · rename_i ty
        split at hs
        · rename_i hn
          cases hs
          rw [heq]
          exact ⟨⟨v, ty, rfl, rfl, hn⟩, rfl⟩
        · cases hs
      · cases hs
    · cases hs
  · rename_i heq
    split at hs
    · rename_i v
      split at hs
      · rename_i hn
        cases hs
        rw [heq]
        exact ⟨⟨v, rfl, hn⟩, rfl⟩
      · cases hs
    · cases hs
  · rename_i heq
    split at hs
    · rename_i v
      split at hs
      · rename_i C
        split at hs
        · rename_i hn
          cases hs
          rw [heq]
          exact ⟨⟨v, C, rfl, rfl, hn⟩, rfl⟩
        · cases hs
      · cases hs
    · cases hs
  · rename_i heq
    split at hs
    · split at hs
      · rename_i hn
        cases hs
        rw [heq]
        exact ⟨⟨rfl, hn⟩, rfl⟩
      · cases hs
    · cases hs
  · cases hs
section MSIM
variable {p : Program} {l : Launch} {e : Env} {R : Room} {s : State} {m : MethodId} {args : Array Value} {below : List Frame} {meth : Method} {c : Code} {Q : State → Prop}
variable {cc : ByteArray} {cs : List mE} {b : Nat} {x : Nat → Nat} {xs : Nat → List Int32} {D : va_G} {cA : Nat → ClassId} {own : String} {ini : Bool} {tab : List mM} {call : Nat → List Value → mH → Option mR} {d : Nat} {rt : Option FieldType} {nL : Nat}
set_option maxHeartbeats 4000000 in
theorem mRun_sim (hx : p.tables.exec = Jvm.exec) (hb : c.code = cc) (hml : c.maxLocals = nL) (hown : s.vm.findClass own = some m.cls) (hin : ini = true → meth.name = "<init>") (hts : ∀ w ∈ mW, w.before args s = true) (hE : mEv D cA b x xs s) (hbs : b ≤ s.heap.size)
    (hcs : mCok tab own ini cc cs = true) (htab : ∀ (k : Nat) (t : mM), tab[k]? = some t → mMok t = true)
    (hcall : ∀ (k : Nat) (t : mM) (av : List Value) (h0 : mH) (r : mR), tab[k]? = some t → (mEnt av).length ≤ mMX t → call k av h0 = some r → mMet l D cA b x xs d t av h0 r) (hcu : ∀ k av h0 r, call k av h0 = some r → mUp h0 r.2)
    (hRf : d + 1 ≤ R.frames ∧ 60 * (d + 1) ≤ R.locals) (h0 : mH) (r : mR) (hRc : r.2.length - h0.length ≤ R.cells) (hRs : mSl r.2 - mSl h0 ≤ R.slots)
    (hret : ∀ (H1 : Heap) (locs1 : List Loc) (pc : Nat) (ls : Array Slot) (ins : Instr), mRel D cA b x r.2 H1 → va_S (fun q => b ≤ q) s.heap H1 locs1 → decode cc pc = .ok (ins, 1) → mEnd rt r.1 ins → W p l e R s m args below meth c H1 locs1 (r.2.length - h0.length) (mSl r.2 - mSl h0) Q (F0 m pc ls ((r.1.map (mSh b x)).toList))) :
    ∀ (n : Nat) (g : mG), mRun tab xs call rt cs n g = some r → g.2.1.length = nL → mUp h0 g.2.2.2 → ∀ (H : Heap) (locs : List Loc), mRel D cA b x g.2.2.2 H → va_S (fun q => b ≤ q) s.heap H locs → mFol p l e R s m args below meth c cs (mSh b x) Q H locs (g.2.2.2.length - h0.length) (mSl g.2.2.2 - mSl h0) g := by
  intro n
  induction n with
  | zero => intro g h; cases h
  | succ n ih =>
    intro g hs hL hu H locs hR hS
    have hs0 := hs
    unfold mRun at hs
    split at hs
    · cases hs
    · rename_i en hen
      have hok := mCok_at hcs hen
      unfold mEok at hok
      simp only [Bool.and_eq_true, Bool.or_eq_true, decide_eq_true_eq] at hok
      obtain ⟨k1, k2, k3, k4, k5, k6, k7, k8, k9⟩ := hok
      have hpc : mPcAt cs g.1 = en.1 := by unfold mPcAt; rw [hen]
      rw [← hpc] at k1 k3
      split at hs
      · rename_i r0 hr
        cases hs
        obtain ⟨e1, e2⟩ := mRt_end hr
        have e3 := mRt_h hr
        have hins : en.2.2.1 = 1 := by
          rcases k2 with k2 | k2
          · exfalso
            cases hi : en.2.1 <;> rw [hi] at k2 e1 <;> first | exact e1 | cases k2
          · rw [k2]
            cases hi : en.2.1 <;> rw [hi] at e1 <;> first | rfl | exact e1.elim
        rw [hins] at k1
        intro ls hl
        rw [e2, show r.1.toList.map (mSh b x) = (r.1.map (mSh b x)).toList by cases r.1 <;> rfl, ← e3]
        rw [← e3] at hR
        exact hret H locs _ ls _ hR hS k1 e1
      · split at hs
        · rename_i g1 hg
          have hup := mStep_up hcu hg
          have hup2 := mRun_up hcu n g1 r hs
          have hu1 := hu.tr hup
          obtain ⟨u1, u2⟩ := hu
          obtain ⟨u3, u4⟩ := hup
          obtain ⟨u5, u6⟩ := hup2
          have ih1 := ih g1 hs
          obtain ⟨i, L, st, h⟩ := g
          dsimp only at hL u1 u2 u3 u4 hR hpc k1 k3 k4 hg ⊢
          have fal : mFal en.2.1 = true → mPcAt cs (i + 1) = mPcAt cs i + mLen en.2.1 := fun hq => by
            rcases k3 with k3 | k3
            · rw [hq] at k3; cases k3
            · exact k3
          have nsw : mSwi en.2.1 = false → decode cc (mPcAt cs i) = .ok (en.2.1, mLen en.2.1) := fun hq => by
            rcases k2 with k2 | k2
            · rw [hq] at k2; cases k2
            · rw [← k2]; exact k1
          unfold mStep at hg
          simp only [Option.or_eq_some_iff] at hg
          rcases hg with hg | ⟨-, hg | ⟨-, hg | ⟨-, hg | ⟨-, hg | ⟨-, hg | ⟨-, hg | ⟨-, hg | ⟨-, hg | ⟨-, hg | ⟨-, hg⟩⟩⟩⟩⟩⟩⟩⟩⟩⟩
          · have hf : mFal en.2.1 = true ∧ mSwi en.2.1 = false := by
              unfold mA1 at hg
              split at hg <;> first | (rename_i heq; rw [heq]; exact ⟨rfl, rfl⟩) | cases hg
            have hh := mA1_eqs hg
            have ih2 := ih1 (hh.2.trans hL) hu1 H locs (by rw [hh.1]; exact hR) hS
            rw [hh.1] at ih2
            exact (mA1_sim (p := p) (l := l) (e := e) (R := R) (s := s) (m := m) (args := args) (below := below) (meth := meth) (c := c) (H := H) (locs := locs) (cells := h.length - h0.length) (slots := mSl h - mSl h0) (Q := Q) (b := b) (x := x) (cs := cs) hx hb trivial (nsw hf.2) (fal hf.1) (fun idx => ⟨fun hi => ⟨own, hown, by
              unfold mLnkK at k9
              rcases hi with hi | hi <;> rw [hi] at k9 <;> exact hts _ (mHas_ok k9)⟩, fun hi => ⟨own, hown, by
              unfold mLnkK at k9
              rw [hi] at k9
              exact hts _ (mHas_ok k9)⟩⟩) hg ih2).1
          · have hf : mFal en.2.1 = true ∧ mSwi en.2.1 = false := by
              unfold mB1 at hg
              split at hg <;> first | (rename_i heq; rw [heq]; exact ⟨rfl, rfl⟩) | cases hg
            have hh := mB1_eqs hg
            have ih2 := ih1 (hh.2.trans hL) hu1 H locs (by rw [hh.1]; exact hR) hS
            rw [hh.1] at ih2
            exact (mB1_sim (p := p) (l := l) (e := e) (R := R) (s := s) (m := m) (args := args) (below := below) (meth := meth) (c := c) (H := H) (locs := locs) (cells := h.length - h0.length) (slots := mSl h - mSl h0) (Q := Q) (b := b) (x := x) (cs := cs) hx hb (nsw hf.2) (fal hf.1) hg ih2).1
          · have hh := mB3_eqs hg
            have ih2 := ih1 (hh.2.trans hL) hu1 H locs (by rw [hh.1]; exact hR) hS
            rw [hh.1] at ih2
            refine (mB3_sim (p := p) (l := l) (e := e) (R := R) (s := s) (m := m) (args := args) (below := below) (meth := meth) (c := c) (H := H) (locs := locs) (cells := h.length - h0.length) (slots := mSl h - mSl h0) (Q := Q) (b := b) (x := x) (cs := cs) hx hb k1 ?_ ?_ k4 hg ih2).1
            · rcases k2 with k2 | k2
              · refine Or.inr ?_
                cases hi : en.2.1 <;> rw [hi] at k2 <;> first | exact Or.inl ⟨_, _, _, _, rfl⟩ | exact Or.inr ⟨_, _, rfl⟩ | cases k2
              · exact Or.inl k2
            · intro hq
              refine fal ?_
              rcases hq with ⟨_, _, hq⟩ | ⟨_, _, hq⟩ | ⟨_, hq⟩ | ⟨_, hq⟩ <;> rw [hq] <;> rfl
          · have hf : mFal en.2.1 = true ∧ mSwi en.2.1 = false := by
              unfold mF1 at hg
              split at hg <;> first | (rename_i heq; rw [heq]; exact ⟨rfl, rfl⟩) | cases hg
            have hh := mF1_eqs hg
            refine (mF1_sim (p := p) (l := l) (e := e) (R := R) (s := s) (m := m) (args := args) (below := below) (meth := meth) (c := c) (H := H) (locs := locs) (cells := h.length - h0.length) (slots := mSl h - mSl h0) (Q := Q) (b := b) (x := x) (cs := cs) (ini := ini) hx hb hown hin hts hE.1 hE.2.2.2.2.1 hR hS (nsw hf.2) (fal hf.1) k5 hg fun H1 locs1 q1 q2 => ?_).1
            have ih2 := ih1 (hh.2.trans hL) hu1 H1 locs1 q1 q2
            rw [hh.1.1, hh.1.2] at ih2
            exact ih2
          · have hf : mFal en.2.1 = true ∧ mSwi en.2.1 = false := by
              unfold mG1 at hg
              split at hg
              · rename_i hq
                cases hi : en.2.1 <;> rw [hi] at hq <;> first | exact ⟨rfl, rfl⟩ | cases hq.1
              · cases hg
            have hh := mG1_eqs hg
            refine (mG1_sim (p := p) (l := l) (e := e) (R := R) (s := s) (m := m) (args := args) (below := below) (meth := meth) (c := c) (H := H) (locs := locs) (cells := h.length - h0.length) (slots := mSl h - mSl h0) (Q := Q) (b := b) (x := x) (cs := cs) (xs := xs) hx hb (hml.trans hL.symm) hown hts hE hR hS (nsw hf.2) (fal hf.1) k8 htab (fun k t av h1 r1 e1 e2 e3 => ⟨hcall k t av h1 r1 e1 e2 e3, hcu k av h1 r1 e3⟩) hRf hg (by omega) (by omega) fun H1 locs1 q1 q2 => ?_).1
            have ih2 := ih1 (hh.trans hL) hu1 H1 locs1 q1 q2
            rw [show h.length - h0.length + (g1.2.2.2.length - h.length) = g1.2.2.2.length - h0.length by omega, show mSl h - mSl h0 + (mSl g1.2.2.2 - mSl h) = mSl g1.2.2.2 - mSl h0 by omega]
            exact ih2
          · have hf : mFal en.2.1 = true ∧ mSwi en.2.1 = false := by
              unfold mF2 at hg
              split at hg <;> first | (rename_i heq; rw [heq]; exact ⟨rfl, rfl⟩) | cases hg
            have hh := mF2_eqs hg
            have ih2 := ih1 (hh.2.trans hL) hu1 H locs (by rw [hh.1]; exact hR) hS
            rw [hh.1] at ih2
            exact (mF2_sim (p := p) (l := l) (e := e) (R := R) (s := s) (m := m) (args := args) (below := below) (meth := meth) (c := c) (H := H) (locs := locs) (cells := h.length - h0.length) (slots := mSl h - mSl h0) (Q := Q) (b := b) (x := x) (cs := cs) (xs := xs) hx hb hown hts hE hR hS (nsw hf.2) (fal hf.1) k6 hg ih2).1
          · have hf : mFal en.2.1 = true ∧ mSwi en.2.1 = false := by
              unfold mF3 at hg
              split at hg <;> first | (rename_i heq; rw [heq]; exact ⟨rfl, rfl⟩) | cases hg
            have hh := mF3_eqs hg
            refine (mF3_sim (p := p) (l := l) (e := e) (R := R) (s := s) (m := m) (args := args) (below := below) (meth := meth) (c := c) (H := H) (locs := locs) (cells := h.length - h0.length) (slots := mSl h - mSl h0) (Q := Q) (b := b) (x := x) (cs := cs) hx hb hE.1 hR hS (nsw hf.2) (fal hf.1) hg fun H1 locs1 q1 q2 => ?_).1
            have ih2 := ih1 (hh.2.trans hL) hu1 H1 locs1 q1 q2
            rw [hh.1.1, hh.1.2] at ih2
            exact ih2
          · have hf : mFal en.2.1 = true ∧ mSwi en.2.1 = false := by
              unfold mA2 at hg
              split at hg <;> first | (rename_i heq; rw [heq]; exact ⟨rfl, rfl⟩) | cases hg
            have hh := mA2_eqs hg
            have ih2 := ih1 (hh.2.trans hL) hu1 H locs (by rw [hh.1]; exact hR) hS
            rw [hh.1] at ih2
            exact (mA2_sim (p := p) (l := l) (e := e) (R := R) (s := s) (m := m) (args := args) (below := below) (meth := meth) (c := c) (H := H) (locs := locs) (cells := h.length - h0.length) (slots := mSl h - mSl h0) (Q := Q) (b := b) (x := x) (cs := cs) hx hb (nsw hf.2) (fal hf.1) hg ih2).1
          · have hf : mFal en.2.1 = true ∧ mSwi en.2.1 = false := by
              unfold mB2 at hg
              split at hg <;> first | (rename_i heq; rw [heq]; exact ⟨rfl, rfl⟩) | cases hg
            have hh := mB2_eqs hg
            have ih2 := ih1 (hh.2.trans hL) hu1 H locs (by rw [hh.1]; exact hR) hS
            rw [hh.1] at ih2
            exact (mB2_sim (p := p) (l := l) (e := e) (R := R) (s := s) (m := m) (args := args) (below := below) (meth := meth) (c := c) (H := H) (locs := locs) (cells := h.length - h0.length) (slots := mSl h - mSl h0) (Q := Q) (b := b) (x := x) (cs := cs) hx hb (nsw hf.2) (fal hf.1) hg ih2).1
          · have hf : mFal en.2.1 = true ∧ mSwi en.2.1 = false := by
              unfold mN1 at hg
              split at hg <;> first | (rename_i heq; rw [heq]; exact ⟨rfl, rfl⟩) | cases hg
            have hh := mN1_eqs hg
            refine (mN1_sim (p := p) (l := l) (e := e) (R := R) (s := s) (m := m) (args := args) (below := below) (meth := meth) (c := c) (H := H) (locs := locs) (cells := h.length - h0.length) (slots := mSl h - mSl h0) (Q := Q) (b := b) (x := x) (cs := cs) (xs := xs) hx hb hown hts hE hbs hR hS (nsw hf.2) (fal hf.1) k7 hg (by omega) (by omega) fun H1 q1 q2 => ?_).1
            have ih2 := ih1 (hh.2.trans hL) hu1 H1 locs q1 q2
            rw [show h.length - h0.length + 1 = g1.2.2.2.length - h0.length by omega, show mSl h - mSl h0 + (mSl g1.2.2.2 - mSl h) = mSl g1.2.2.2 - mSl h0 by omega]
            exact ih2
          · have hf : mFal en.2.1 = true ∧ mSwi en.2.1 = false := by
              unfold mG2 at hg
              split at hg <;> first | (rename_i heq; rw [heq]; exact ⟨rfl, rfl⟩) | cases hg
            have hh := mG2_eqs hg
            refine (mG2_sim (p := p) (l := l) (e := e) (R := R) (s := s) (m := m) (args := args) (below := below) (meth := meth) (c := c) (H := H) (locs := locs) (cells := h.length - h0.length) (slots := mSl h - mSl h0) (Q := Q) (b := b) (x := x) (cs := cs) (xs := xs) (tab := tab) hx hb (hml.trans hL.symm) hown hts hE hR hS (nsw hf.2) (fal hf.1) k8 hRf hg fun H1 locs1 q1 q2 => ?_).1
            have ih2 := ih1 (hh.2.trans hL) hu1 H1 locs1 q1 q2
            rw [hh.1.1, hh.1.2] at ih2
            exact ih2
        · cases hs
end MSIM
end
section
/-! each method of the table, as a contract -/
noncomputable def mTok (tab : List mM) (t : mM) : Bool := mMok t && (mCok tab (mMY t).cls (decide ((mMY t).name = "<init>")) (mMB t) (mMC t) && (plainFor (mMY t) && decide (mPcAt (mMC t) 0 = 0)))
section MMET
variable {b : Nat} {x : Nat → Nat} {xs : Nat → List Int32} {D : va_G} {cA : Nat → ClassId} {tab : List mM}
set_option maxHeartbeats 4000000 in
theorem mEval_met (l : Launch) (htab : ∀ (k : Nat) (t : mM), tab[k]? = some t → mTok tab t = true) : ∀ (d n k : Nat) (t : mM) (av : List Value) (h : mH) (r : mR), tab[k]? = some t → (mEnt av).length ≤ mMX t → mEval tab xs d n k av h = some r → mMet l D cA b x xs d t av h r := by
  intro d
  induction d with
  | zero => intro n k t av h r _ _ hs; cases hs
  | succ d ih =>
    intro n k t av h r ht hen hs
    have hup := mEval_up _ _ _ _ _ _ hs
    unfold mEval at hs
    rw [ht] at hs
    dsimp only at hs
    have htk := htab k t ht
    unfold mTok at htk
    simp only [Bool.and_eq_true] at htk
    obtain ⟨-, hcs, hpl, hp0⟩ := htk
    have hp0 := of_decide_eq_true hp0
    refine va_MetF (cc := mMB t) (maxL := mMX t) (ret := mMT t) hpl rfl ?_
    intro p e s m args below meth c s₁ B hml hv
    obtain ⟨rfl, hR, hE⟩ := hv
    have hx := B.exec
    have hb := B.bytes
    have hr := B.returns
    have hts0 := atoms_spec (ws := mWs t) B.pre
    have hts : ∀ w ∈ mW, w.before (av.map (mSh b x)).toArray s = true := fun w hw => hts0 w (List.mem_cons_of_mem _ hw)
    have hown : s.vm.findClass (mMY t).cls = some m.cls := findClass_of_methodNamed B.named
    have hlocks := B.notSynchronized
    have hnm : meth.name = (mMY t).name := (name_of_methodNamed B.named B.method).1
    have hbs : b ≤ s.heap.size := by rw [hR.1]; exact Nat.le_add_right _ _
    have hkey := mRun_sim (p := p) (l := l) (e := e) (R := mRm (d + 1) (r.2.length - h.length) (mSl r.2 - mSl h)) (s := s) (m := m) (args := (av.map (mSh b x)).toArray) (below := below) (meth := meth) (c := c) (Q := MQ below (mQc D cA b x r) (av.map (mSh b x)).toArray s (r.2.length - h.length) (mSl r.2 - mSl h) (fun q => b ≤ q)) (cs := mMC t) (own := (mMY t).cls) (ini := decide ((mMY t).name = "<init>")) (tab := tab) (call := mEval tab xs d n) (d := d) (rt := mMT t) (nL := mMX t) (D := D) (cA := cA)
      hx hb hml hown (fun hq => hnm.trans (of_decide_eq_true hq)) hts hE hbs hcs (fun k1 t1 h1 => by
        have h2 := htab k1 t1 h1
        unfold mTok at h2
        simp only [Bool.and_eq_true] at h2
        exact h2.1) (fun k1 t1 av1 h1 r1 e1 e2 e3 => ih n k1 t1 av1 h1 r1 e1 e2 e3) (fun k1 av1 h1 r1 e1 => mEval_up _ _ _ _ _ _ e1) ⟨Nat.le_refl _, Nat.le_refl _⟩ h r (Nat.le_refl _) (Nat.le_refl _)
      (fun H1 locs1 pc ls ins q1 q2 q3 q4 => by
        have hq : ∀ (v : Option Value), v = r.1.map (mSh b x) → ∀ t1 : State, t1.heap = H1 → s.WarmedH t1.vm → mQc D cA b x r (av.map (mSh b x)).toArray s (.returned v) t1 := fun v hv t1 ht1 _ => ⟨by rw [hv], by rw [ht1]; exact q1, q2.F ht1⟩
        cases ins <;> first | exact q4.elim | skip
        · obtain ⟨z, C, e1, e2, e3⟩ := q4
          rw [e1] at hq ⊢
          have h4 := mIsA_spec b x e3
          exact W.aret hx hb (hr.trans e2) (Or.inl ⟨C, rfl⟩) h4 (hq _ rfl) q2.2.2 q3
        · obtain ⟨z, ty, e1, e2, e3⟩ := q4
          rw [e1] at hq ⊢
          exact W.zret hx hb (hr.trans e2) e3 (hq _ rfl) q2.2.2 q3
        · obtain ⟨z, e1, e2⟩ := q4
          rw [e1] at hq ⊢
          exact W.lret hx hb (hr.trans e2) (hq _ rfl) q2.2.2 q3
        · obtain ⟨e1, e2⟩ := q4
          rw [e1] at hq ⊢
          exact W.vret hx hb (hr.trans e2) (hq _ rfl) q2.2.2 q3)
      n (0, mEntL (mMX t) av, [], h) hs (mEntL_len _ _ hen) (mUp.rf h) s.heap [] hR va_S.rf
    rw [lg_entry_eq]
    have h1 := hkey _ (by
      dsimp only
      rw [mEntL_len _ _ hen]
      exact mEntL_has (mSh b x) (mSh_cat b x) av hen)
    dsimp only [List.map_nil] at h1
    rw [hp0, Nat.sub_self, Nat.sub_self] at h1
    exact h1
end MMET
end
section
/-! the program: every method, each instruction with what it is resolved to -/
/-- FirstLanding.<init>()V -/
def mCo0 : List mE := [(0, .aload_n 0, 1, []), (1, .invokespecial 1, 3, [0, 0, 1, 0, 122, 123, 124]), (4, .aload_n 0, 1, []), (5, .bipush 6, 2, []), (7, .anewarray 9, 3, [0, 53, 0, 0, 125]), (10, .putfield 11, 3, [0, 0, 0, 0, 254]), (13, .aload_n 0, 1, []), (14, .iconst 4, 1, []), (15, .anewarray 15, 3, [0, 54, 0, 0, 127]), (18, .putfield 17, 3, [0, 0, 1, 0, 255]), (21, .aload_n 0, 1, []), (22, .new 21, 3, [0, 1, 0, 0, 129, 130, 104]), (25, .dup, 1, []), (26, .invokespecial 23, 3, [0, 1, 0, 1, 131]), (29, .putfield 24, 3, [0, 0, 2, 0, 256]), (32, .aload_n 0, 1, []), (33, .iconst 3, 1, []), (34, .anewarray 21, 3, [0, 55, 0, 0, 129]), (37, .putfield 28, 3, [0, 0, 3, 0, 257]), (40, .aload_n 0, 1, []), (41, .new 32, 3, [0, 2, 0, 0, 172, 173, 105]), (44, .dup, 1, []), (45, .invokespecial 34, 3, [0, 2, 0, 1, 174]), (48, .putfield 35, 3, [0, 0, 4, 0, 258]), (51, .aload_n 0, 1, []), (52, .new 39, 3, [0, 3, 0, 0, 188, 189, 106]), (55, .dup, 1, []), (56, .invokespecial 41, 3, [0, 3, 0, 1, 190]), (59, .putfield 42, 3, [0, 0, 5, 0, 259]), (62, .aload_n 0, 1, []), (63, .new 46, 3, [0, 4, 0, 0, 208, 209, 107]), (66, .dup, 1, []), (67, .invokespecial 48, 3, [0, 4, 0, 1, 210]), (70, .putfield 49, 3, [0, 0, 6, 0, 260]), (73, .aload_n 0, 1, []), (74, .bipush 6, 2, []), (76, .newarray .int, 2, [0, 0, 0, 0, 170]), (78, .putfield 53, 3, [0, 0, 7, 0, 261]), (81, .aload_n 0, 1, []), (82, .iconst 0, 1, []), (83, .putfield 57, 3, [0, 0, 8, 0, 262]), (86, .aload_n 0, 1, []), (87, .iconst 0, 1, []), (88, .putfield 61, 3, [0, 0, 9, 0, 263]), (91, .aload_n 0, 1, []), (92, .lconst 0, 1, []), (93, .putfield 64, 3, [0, 0, 10, 0, 264]), (96, .aload_n 0, 1, []), (97, .lconst 1, 1, []), (98, .putfield 68, 3, [0, 0, 11, 0, 265]), (101, .iconst 0, 1, []), (102, .istore_n 1, 1, []), (103, .iload_n 1, 1, []), (104, .bipush 6, 2, []), (106, .if_icmp .ge 22, 3, [64]), (109, .aload_n 0, 1, []), (110, .getfield 11, 3, [0, 0, 0, 0, 254]), (113, .iload_n 1, 1, []), (114, .new 9, 3, [0, 5, 0, 0, 125, 221, 108]), (117, .dup, 1, []), (118, .invokespecial 71, 3, [0, 5, 0, 1, 222]), (121, .aastore, 1, []), (122, .iinc 1 1, 3, []), (125, .goto (-22), 3, [52]), (128, .iconst 0, 1, []), (129, .istore_n 1, 1, []), (130, .iload_n 1, 1, []), (131, .iconst 4, 1, []), (132, .if_icmp .ge 22, 3, [78]), (135, .aload_n 0, 1, []), (136, .getfield 17, 3, [0, 0, 1, 0, 255]), (139, .iload_n 1, 1, []), (140, .new 15, 3, [0, 6, 0, 0, 127, 237, 109]), (143, .dup, 1, []), (144, .invokespecial 72, 3, [0, 6, 0, 1, 238]), (147, .aastore, 1, []), (148, .iinc 1 1, 3, []), (151, .goto (-21), 3, [66]), (154, .iconst 0, 1, []), (155, .istore_n 1, 1, []), (156, .iload_n 1, 1, []), (157, .iconst 3, 1, []), (158, .if_icmp .ge 22, 3, [92]), (161, .aload_n 0, 1, []), (162, .getfield 28, 3, [0, 0, 3, 0, 257]), (165, .iload_n 1, 1, []), (166, .new 21, 3, [0, 1, 0, 0, 129, 130, 104]), (169, .dup, 1, []), (170, .invokespecial 23, 3, [0, 1, 0, 1, 131]), (173, .aastore, 1, []), (174, .iinc 1 1, 3, []), (177, .goto (-21), 3, [80]), (180, .return_, 1, [])]
def mMe0 : mM := (⟨"FirstLanding", "<init>", "()V"⟩, prog_1_method_1_code, 2, none, 2, 0, [121, 103, 120], mCo0)
/-- FirstLanding$Embassy.<init>()V -/
def mCo1 : List mE := [(0, .aload_n 0, 1, []), (1, .invokespecial 3, 3, [0, 0, 1, 0, 134, 123, 124]), (4, .aload_n 0, 1, []), (5, .bipush 6, 2, []), (7, .newarray .int, 2, [0, 0, 0, 0, 170]), (9, .putfield 9, 3, [0, 1, 0, 0, 135]), (12, .aload_n 0, 1, []), (13, .bipush 36, 2, []), (15, .newarray .int, 2, [0, 0, 0, 0, 170]), (17, .putfield 15, 3, [0, 1, 1, 0, 139]), (20, .aload_n 0, 1, []), (21, .bipush 40, 2, []), (23, .newarray .int, 2, [0, 0, 0, 0, 170]), (25, .putfield 18, 3, [0, 1, 2, 0, 142]), (28, .aload_n 0, 1, []), (29, .iconst 0, 1, []), (30, .putfield 21, 3, [0, 1, 3, 0, 143]), (33, .aload_n 0, 1, []), (34, .iconst 0, 1, []), (35, .putfield 25, 3, [0, 1, 4, 0, 148]), (38, .aload_n 0, 1, []), (39, .iconst 0, 1, []), (40, .putfield 28, 3, [0, 1, 5, 0, 151]), (43, .aload_n 0, 1, []), (44, .lconst 0, 1, []), (45, .putfield 31, 3, [0, 1, 6, 0, 153]), (48, .return_, 1, [])]
def mMe1 : mM := (⟨"FirstLanding$Embassy", "<init>", "()V"⟩, prog_2_method_1_code, 1, none, 2, 0, [133, 104, 132], mCo1)
/-- FirstLanding$Reader.<init>()V -/
def mCo2 : List mE := [(0, .aload_n 0, 1, []), (1, .invokespecial 3, 3, [0, 0, 1, 0, 177, 123, 124]), (4, .aload_n 0, 1, []), (5, .new 9, 3, [0, 1, 0, 0, 178, 130, 104]), (8, .dup, 1, []), (9, .invokespecial 11, 3, [0, 1, 0, 1, 179]), (12, .putfield 12, 3, [0, 2, 0, 0, 180]), (15, .aload_n 0, 1, []), (16, .iconst 0, 1, []), (17, .putfield 18, 3, [0, 2, 1, 0, 182]), (20, .return_, 1, [])]
def mMe2 : mM := (⟨"FirstLanding$Reader", "<init>", "()V"⟩, prog_5_method_1_code, 1, none, 2, 0, [176, 105, 175], mCo2)
/-- FirstLanding$Walk.<init>()V -/
def mCo3 : List mE := [(0, .aload_n 0, 1, []), (1, .invokespecial 3, 3, [0, 0, 1, 0, 193, 123, 124]), (4, .aload_n 0, 1, []), (5, .bipush 64, 2, []), (7, .newarray .int, 2, [0, 0, 0, 0, 170]), (9, .putfield 9, 3, [0, 3, 0, 0, 194]), (12, .aload_n 0, 1, []), (13, .sipush 1024, 3, []), (16, .newarray .int, 2, [0, 0, 0, 0, 170]), (18, .putfield 15, 3, [0, 3, 1, 0, 195]), (21, .aload_n 0, 1, []), (22, .sipush 1024, 3, []), (25, .newarray .int, 2, [0, 0, 0, 0, 170]), (27, .putfield 18, 3, [0, 3, 2, 0, 196]), (30, .aload_n 0, 1, []), (31, .bipush (-9), 2, []), (33, .putfield 21, 3, [0, 3, 3, 0, 197]), (36, .return_, 1, [])]
def mMe3 : mM := (⟨"FirstLanding$Walk", "<init>", "()V"⟩, prog_8_method_1_code, 1, none, 2, 0, [192, 106, 191], mCo3)
/-- FirstLanding$Meetings.<init>()V -/
def mCo4 : List mE := [(0, .aload_n 0, 1, []), (1, .invokespecial 3, 3, [0, 0, 1, 0, 213, 123, 124]), (4, .aload_n 0, 1, []), (5, .bipush 55, 2, []), (7, .newarray .int, 2, [0, 0, 0, 0, 170]), (9, .putfield 11, 3, [0, 4, 0, 0, 214]), (12, .aload_n 0, 1, []), (13, .bipush 55, 2, []), (15, .newarray .int, 2, [0, 0, 0, 0, 170]), (17, .putfield 15, 3, [0, 4, 1, 0, 215]), (20, .return_, 1, [])]
def mMe4 : mM := (⟨"FirstLanding$Meetings", "<init>", "()V"⟩, prog_4_method_1_code, 1, none, 2, 0, [212, 107, 211], mCo4)
/-- FirstLanding$Row.<init>()V -/
def mCo5 : List mE := [(0, .aload_n 0, 1, []), (1, .invokespecial 3, 3, [0, 0, 1, 0, 225, 123, 124]), (4, .aload_n 0, 1, []), (5, .bipush 40, 2, []), (7, .newarray .int, 2, [0, 0, 0, 0, 170]), (9, .putfield 9, 3, [0, 5, 0, 0, 226]), (12, .aload_n 0, 1, []), (13, .iconst (-1), 1, []), (14, .putfield 15, 3, [0, 5, 1, 0, 229]), (17, .return_, 1, [])]
def mMe5 : mM := (⟨"FirstLanding$Row", "<init>", "()V"⟩, prog_6_method_1_code, 1, none, 2, 0, [224, 108, 223], mCo5)
/-- FirstLanding$Text.<init>()V -/
def mCo6 : List mE := [(0, .aload_n 0, 1, []), (1, .invokespecial 3, 3, [0, 0, 1, 0, 241, 123, 124]), (4, .aload_n 0, 1, []), (5, .bipush 60, 2, []), (7, .newarray .byte, 2, [0, 0, 0, 0, 253]), (9, .putfield 9, 3, [0, 6, 0, 0, 242]), (12, .aload_n 0, 1, []), (13, .iconst (-1), 1, []), (14, .putfield 15, 3, [0, 6, 1, 0, 245]), (17, .return_, 1, [])]
def mMe6 : mM := (⟨"FirstLanding$Text", "<init>", "()V"⟩, prog_7_method_1_code, 1, none, 2, 0, [240, 109, 239], mCo6)
/-- FirstLanding.row(II)I -/
def mCo7 : List mE := [(0, .aload_n 0, 1, []), (1, .iload_n 1, 1, []), (2, .invokevirtual 73, 3, [0, 8, 0, 0, 295]), (5, .astore_n 3, 1, []), (6, .aload_n 3, 1, []), (7, .ifnull 9, 3, [9]), (10, .iload_n 2, 1, []), (11, .bipush 40, 2, []), (13, .if_icmp .le 5, 3, [11]), (16, .iconst (-1), 1, []), (17, .ireturn, 1, []), (18, .iload_n 2, 1, []), (19, .ifCond .ge 9, 3, [17]), (22, .aload_n 0, 1, []), (23, .iconst 5, 1, []), (24, .invokevirtual 77, 3, [0, 9, 0, 0, 299]), (27, .ireturn, 1, []), (28, .aload_n 3, 1, []), (29, .iload_n 2, 1, []), (30, .invokevirtual 81, 3, [0, 10, 0, 1, 303]), (33, .iload_n 2, 1, []), (34, .ireturn, 1, [])]
def mMe7 : mM := (⟨"FirstLanding", "row", "(II)I"⟩, prog_1_method_2_code, 4, (some .int), 1, 2, [294, 103, 292, 293], mCo7)
/-- FirstLanding.rowAt(I)LFirstLanding$Row; -/
def mCo8 : List mE := [(0, .iload_n 1, 1, []), (1, .ifCond .lt 18, 3, [10]), (4, .iload_n 1, 1, []), (5, .bipush 6, 2, []), (7, .if_icmp .ge 12, 3, [10]), (10, .aload_n 0, 1, []), (11, .getfield 11, 3, [0, 0, 0, 0, 254]), (14, .iload_n 1, 1, []), (15, .aaload, 1, []), (16, .goto 4, 3, [11]), (19, .aconst_null, 1, []), (20, .areturn, 1, [])]
def mMe8 : mM := (⟨"FirstLanding", "rowAt", "(I)LFirstLanding$Row;"⟩, prog_1_method_46_code, 2, (some (.object "FirstLanding$Row")), 1, 1, [298, 103, 297, 0], mCo8)
/-- FirstLanding.found(I)I -/
def mCo9 : List mE := [(0, .aload_n 0, 1, []), (1, .iload_n 1, 1, []), (2, .putfield 57, 3, [0, 0, 8, 0, 262]), (5, .aload_n 0, 1, []), (6, .getfield 53, 3, [0, 0, 7, 0, 261]), (9, .iload_n 1, 1, []), (10, .dup2, 1, []), (11, .iaload, 1, []), (12, .iconst 1, 1, []), (13, .iadd, 1, []), (14, .iastore, 1, []), (15, .bipush (-3), 2, []), (17, .ireturn, 1, [])]
def mMe9 : mM := (⟨"FirstLanding", "found", "(I)I"⟩, prog_1_method_49_code, 2, (some .int), 1, 1, [302, 103, 301, 1], mCo9)
/-- FirstLanding$Row.begin(I)V -/
def mCo10 : List mE := [(0, .aload_n 0, 1, []), (1, .iload_n 1, 1, []), (2, .putfield 15, 3, [0, 5, 1, 0, 229]), (5, .aload_n 0, 1, []), (6, .getfield 9, 3, [0, 5, 0, 0, 226]), (9, .iconst 0, 1, []), (10, .invokestatic 19, 3, [0, 11, 0, 0, 307]), (13, .return_, 1, [])]
def mMe10 : mM := (⟨"FirstLanding$Row", "begin", "(I)V"⟩, prog_6_method_2_code, 2, none, 1, 1, [306, 108, 305, 2], mCo10)
/-- java/util/Arrays.fill([II)V -/
def mCo11 : List mE := [(0, .iconst 0, 1, []), (1, .istore_n 2, 1, []), (2, .aload_n 0, 1, []), (3, .arraylength, 1, []), (4, .istore_n 3, 1, []), (5, .iload_n 2, 1, []), (6, .iload_n 3, 1, []), (7, .if_icmp .ge 13, 3, [14]), (10, .aload_n 0, 1, []), (11, .iload_n 2, 1, []), (12, .iload_n 1, 1, []), (13, .iastore, 1, []), (14, .iinc 2 1, 3, []), (17, .goto (-12), 3, [5]), (20, .return_, 1, [])]
def mMe11 : mM := (⟨"java/util/Arrays", "fill", "([II)V"⟩, prog_15_method_103_code, 4, none, 0, 2, [309, 111, 308], mCo11)
/-- FirstLanding.lay(III)I -/
def mCo12 : List mE := [(0, .aload_n 0, 1, []), (1, .iload_n 1, 1, []), (2, .invokevirtual 73, 3, [0, 8, 0, 0, 295]), (5, .astore 4, 2, []), (7, .aload 4, 2, []), (9, .ifnonnull 5, 3, [8]), (12, .iconst (-1), 1, []), (13, .ireturn, 1, []), (14, .aload 4, 2, []), (16, .getfield 85, 3, [0, 5, 1, 1, 231]), (19, .iload_n 2, 1, []), (20, .invokestatic 88, 3, [0, 13, 0, 0, 314]), (23, .istore 5, 2, []), (25, .iload 5, 2, []), (27, .ifCond .eq 10, 3, [19]), (30, .aload_n 0, 1, []), (31, .iload 5, 2, []), (33, .invokevirtual 77, 3, [0, 9, 0, 0, 299]), (36, .ireturn, 1, []), (37, .aload_n 0, 1, []), (38, .aload 4, 2, []), (40, .getfield 92, 3, [0, 5, 0, 1, 228]), (43, .iload_n 2, 1, []), (44, .iaload, 1, []), (45, .putfield 61, 3, [0, 0, 9, 0, 263]), (48, .aload 4, 2, []), (50, .getfield 92, 3, [0, 5, 0, 1, 228]), (53, .iload_n 2, 1, []), (54, .iload_n 3, 1, []), (55, .iastore, 1, []), (56, .iconst 1, 1, []), (57, .ireturn, 1, [])]
def mMe12 : mM := (⟨"FirstLanding", "lay", "(III)I"⟩, prog_1_method_3_code, 6, (some .int), 1, 3, [313, 103, 311, 312], mCo12)
/-- FirstLanding.whyNoPlace(II)I -/
def mCo13 : List mE := [(0, .iload_n 0, 1, []), (1, .iconst (-1), 1, []), (2, .if_icmp .ne 5, 3, [5]), (5, .iconst 1, 1, []), (6, .ireturn, 1, []), (7, .iload_n 1, 1, []), (8, .ifCond .lt 8, 3, [10]), (11, .iload_n 1, 1, []), (12, .iload_n 0, 1, []), (13, .if_icmp .lt 7, 3, [12]), (16, .iconst 2, 1, []), (17, .goto 4, 3, [13]), (20, .iconst 0, 1, []), (21, .ireturn, 1, [])]
def mMe13 : mM := (⟨"FirstLanding", "whyNoPlace", "(II)I"⟩, prog_1_method_50_code, 2, (some .int), 0, 2, [316, 103, 315], mCo13)
/-- FirstLanding.at(II)I -/
def mCo14 : List mE := [(0, .aload_n 0, 1, []), (1, .iload_n 1, 1, []), (2, .invokevirtual 73, 3, [0, 8, 0, 0, 295]), (5, .astore_n 3, 1, []), (6, .aload_n 3, 1, []), (7, .ifnonnull 5, 3, [8]), (10, .iconst (-1), 1, []), (11, .ireturn, 1, []), (12, .aload_n 3, 1, []), (13, .getfield 85, 3, [0, 5, 1, 1, 231]), (16, .iload_n 2, 1, []), (17, .invokestatic 88, 3, [0, 13, 0, 0, 314]), (20, .istore 4, 2, []), (22, .iload 4, 2, []), (24, .ifCond .eq 10, 3, [19]), (27, .aload_n 0, 1, []), (28, .iload 4, 2, []), (30, .invokevirtual 77, 3, [0, 9, 0, 0, 299]), (33, .ireturn, 1, []), (34, .aload_n 0, 1, []), (35, .aload_n 3, 1, []), (36, .getfield 92, 3, [0, 5, 0, 1, 228]), (39, .iload_n 2, 1, []), (40, .iaload, 1, []), (41, .putfield 61, 3, [0, 0, 9, 0, 263]), (44, .iconst 1, 1, []), (45, .ireturn, 1, [])]
def mMe14 : mM := (⟨"FirstLanding", "at", "(II)I"⟩, prog_1_method_4_code, 5, (some .int), 1, 2, [320, 103, 318, 319], mCo14)
/-- FirstLanding.tear(I)I -/
def mCo15 : List mE := [(0, .aload_n 0, 1, []), (1, .iload_n 1, 1, []), (2, .invokevirtual 73, 3, [0, 8, 0, 0, 295]), (5, .astore_n 2, 1, []), (6, .aload_n 2, 1, []), (7, .ifnonnull 5, 3, [8]), (10, .iconst (-1), 1, []), (11, .ireturn, 1, []), (12, .aload_n 2, 1, []), (13, .getfield 85, 3, [0, 5, 1, 1, 231]), (16, .iconst (-1), 1, []), (17, .if_icmp .ne 9, 3, [16]), (20, .aload_n 0, 1, []), (21, .iconst 1, 1, []), (22, .invokevirtual 77, 3, [0, 9, 0, 0, 299]), (25, .ireturn, 1, []), (26, .aload_n 2, 1, []), (27, .iconst (-1), 1, []), (28, .putfield 85, 3, [0, 5, 1, 1, 231]), (31, .iconst 1, 1, []), (32, .ireturn, 1, [])]
def mMe15 : mM := (⟨"FirstLanding", "tear", "(I)I"⟩, prog_1_method_5_code, 3, (some .int), 1, 1, [324, 103, 322, 323], mCo15)
/-- FirstLanding.copy(IIIII)I -/
def mCo16 : List mE := [(0, .aload_n 0, 1, []), (1, .iload_n 1, 1, []), (2, .invokevirtual 73, 3, [0, 8, 0, 0, 295]), (5, .astore 6, 2, []), (7, .aload_n 0, 1, []), (8, .iload_n 3, 1, []), (9, .invokevirtual 73, 3, [0, 8, 0, 0, 295]), (12, .astore 7, 2, []), (14, .aload 6, 2, []), (16, .ifnull 8, 3, [12]), (19, .aload 7, 2, []), (21, .ifnonnull 5, 3, [14]), (24, .iconst (-1), 1, []), (25, .ireturn, 1, []), (26, .iload 5, 2, []), (28, .ifCond .ge 9, 3, [20]), (31, .aload_n 0, 1, []), (32, .iconst 5, 1, []), (33, .invokevirtual 77, 3, [0, 9, 0, 0, 299]), (36, .ireturn, 1, []), (37, .aload 6, 2, []), (39, .getfield 85, 3, [0, 5, 1, 1, 231]), (42, .iconst (-1), 1, []), (43, .if_icmp .eq 12, 3, [28]), (46, .aload 7, 2, []), (48, .getfield 85, 3, [0, 5, 1, 1, 231]), (51, .iconst (-1), 1, []), (52, .if_icmp .ne 9, 3, [32]), (55, .aload_n 0, 1, []), (56, .iconst 1, 1, []), (57, .invokevirtual 77, 3, [0, 9, 0, 0, 299]), (60, .ireturn, 1, []), (61, .aload 6, 2, []), (63, .iload_n 2, 1, []), (64, .iload 5, 2, []), (66, .invokevirtual 95, 3, [0, 17, 0, 1, 329]), (69, .ifCond .eq 15, 3, [42]), (72, .aload 7, 2, []), (74, .iload 4, 2, []), (76, .iload 5, 2, []), (78, .invokevirtual 95, 3, [0, 17, 0, 1, 329]), (81, .ifCond .ne 9, 3, [46]), (84, .aload_n 0, 1, []), (85, .iconst 2, 1, []), (86, .invokevirtual 77, 3, [0, 9, 0, 0, 299]), (89, .ireturn, 1, []), (90, .aload 6, 2, []), (92, .getfield 92, 3, [0, 5, 0, 1, 228]), (95, .iload_n 2, 1, []), (96, .aload 7, 2, []), (98, .getfield 92, 3, [0, 5, 0, 1, 228]), (101, .iload 4, 2, []), (103, .iload 5, 2, []), (105, .invokestatic 99, 3, [0, 0, 2, 0, 333, 335, 334, 112]), (108, .iconst 1, 1, []), (109, .ireturn, 1, [])]
def mMe16 : mM := (⟨"FirstLanding", "copy", "(IIIII)I"⟩, prog_1_method_6_code, 8, (some .int), 1, 5, [328, 103, 326, 327], mCo16)
/-- FirstLanding$Row.holds(II)Z -/
def mCo17 : List mE := [(0, .iload_n 1, 1, []), (1, .ifCond .lt 21, 3, [12]), (4, .iload_n 2, 1, []), (5, .ifCond .lt 17, 3, [12]), (8, .iload_n 1, 1, []), (9, .aload_n 0, 1, []), (10, .getfield 15, 3, [0, 5, 1, 0, 229]), (13, .iload_n 2, 1, []), (14, .isub, 1, []), (15, .if_icmp .gt 7, 3, [12]), (18, .iconst 1, 1, []), (19, .goto 4, 3, [13]), (22, .iconst 0, 1, []), (23, .ireturn, 1, [])]
def mMe17 : mM := (⟨"FirstLanding$Row", "holds", "(II)Z"⟩, prog_6_method_3_code, 3, (some .boolean), 1, 2, [332, 108, 331, 3], mCo17)
/-- FirstLanding.mean(I)I -/
def mCo18 : List mE := [(0, .aload_n 0, 1, []), (1, .iload_n 1, 1, []), (2, .invokevirtual 73, 3, [0, 8, 0, 0, 295]), (5, .astore_n 2, 1, []), (6, .aload_n 2, 1, []), (7, .ifnonnull 5, 3, [8]), (10, .iconst (-1), 1, []), (11, .ireturn, 1, []), (12, .aload_n 2, 1, []), (13, .getfield 85, 3, [0, 5, 1, 1, 231]), (16, .iconst (-1), 1, []), (17, .if_icmp .ne 9, 3, [16]), (20, .aload_n 0, 1, []), (21, .iconst 1, 1, []), (22, .invokevirtual 77, 3, [0, 9, 0, 0, 299]), (25, .ireturn, 1, []), (26, .aload_n 2, 1, []), (27, .getfield 85, 3, [0, 5, 1, 1, 231]), (30, .ifCond .gt 9, 3, [23]), (33, .aload_n 0, 1, []), (34, .iconst 4, 1, []), (35, .invokevirtual 77, 3, [0, 9, 0, 0, 299]), (38, .ireturn, 1, []), (39, .aload_n 0, 1, []), (40, .aload_n 2, 1, []), (41, .invokevirtual 105, 3, [0, 19, 0, 1, 340]), (44, .aload_n 2, 1, []), (45, .getfield 85, 3, [0, 5, 1, 1, 231]), (48, .i2l, 1, []), (49, .ldiv, 1, []), (50, .l2i, 1, []), (51, .putfield 61, 3, [0, 0, 9, 0, 263]), (54, .iconst 1, 1, []), (55, .ireturn, 1, [])]
def mMe18 : mM := (⟨"FirstLanding", "mean", "(I)I"⟩, prog_1_method_7_code, 3, (some .int), 1, 1, [339, 103, 337, 338], mCo18)
/-- FirstLanding$Row.total()J -/
def mCo19 : List mE := [(0, .lconst 0, 1, []), (1, .lstore_n 1, 1, []), (2, .iconst 0, 1, []), (3, .istore_n 3, 1, []), (4, .iload_n 3, 1, []), (5, .aload_n 0, 1, []), (6, .getfield 15, 3, [0, 5, 1, 0, 229]), (9, .if_icmp .ge 19, 3, [18]), (12, .lload_n 1, 1, []), (13, .aload_n 0, 1, []), (14, .getfield 9, 3, [0, 5, 0, 0, 226]), (17, .iload_n 3, 1, []), (18, .iaload, 1, []), (19, .i2l, 1, []), (20, .ladd, 1, []), (21, .lstore_n 1, 1, []), (22, .iinc 3 1, 3, []), (25, .goto (-21), 3, [4]), (28, .lload_n 1, 1, []), (29, .lreturn, 1, [])]
def mMe19 : mM := (⟨"FirstLanding$Row", "total", "()J"⟩, prog_6_method_4_code, 4, (some .long), 1, 0, [343, 108, 342, 4], mCo19)
/-- FirstLanding.text(II)I -/
def mCo20 : List mE := [(0, .aload_n 0, 1, []), (1, .iload_n 1, 1, []), (2, .invokevirtual 109, 3, [0, 21, 0, 0, 348]), (5, .astore_n 3, 1, []), (6, .aload_n 3, 1, []), (7, .ifnull 9, 3, [9]), (10, .iload_n 2, 1, []), (11, .bipush 60, 2, []), (13, .if_icmp .le 5, 3, [11]), (16, .iconst (-1), 1, []), (17, .ireturn, 1, []), (18, .iload_n 2, 1, []), (19, .ifCond .ge 9, 3, [17]), (22, .aload_n 0, 1, []), (23, .iconst 5, 1, []), (24, .invokevirtual 77, 3, [0, 9, 0, 0, 299]), (27, .ireturn, 1, []), (28, .aload_n 3, 1, []), (29, .iload_n 2, 1, []), (30, .invokevirtual 113, 3, [0, 22, 0, 1, 352]), (33, .iload_n 2, 1, []), (34, .ireturn, 1, [])]
def mMe20 : mM := (⟨"FirstLanding", "text", "(II)I"⟩, prog_1_method_8_code, 4, (some .int), 1, 2, [347, 103, 345, 346], mCo20)
/-- FirstLanding.textAt(I)LFirstLanding$Text; -/
def mCo21 : List mE := [(0, .iload_n 1, 1, []), (1, .ifCond .lt 17, 3, [10]), (4, .iload_n 1, 1, []), (5, .iconst 4, 1, []), (6, .if_icmp .ge 12, 3, [10]), (9, .aload_n 0, 1, []), (10, .getfield 17, 3, [0, 0, 1, 0, 255]), (13, .iload_n 1, 1, []), (14, .aaload, 1, []), (15, .goto 4, 3, [11]), (18, .aconst_null, 1, []), (19, .areturn, 1, [])]
def mMe21 : mM := (⟨"FirstLanding", "textAt", "(I)LFirstLanding$Text;"⟩, prog_1_method_47_code, 2, (some (.object "FirstLanding$Text")), 1, 1, [351, 103, 350, 5], mCo21)
/-- FirstLanding$Text.begin(I)V -/
def mCo22 : List mE := [(0, .aload_n 0, 1, []), (1, .iload_n 1, 1, []), (2, .putfield 15, 3, [0, 6, 1, 0, 245]), (5, .aload_n 0, 1, []), (6, .getfield 9, 3, [0, 6, 0, 0, 242]), (9, .bipush 32, 2, []), (11, .invokestatic 19, 3, [0, 23, 0, 0, 356]), (14, .return_, 1, [])]
def mMe22 : mM := (⟨"FirstLanding$Text", "begin", "(I)V"⟩, prog_7_method_2_code, 2, none, 1, 1, [355, 109, 354, 6], mCo22)
/-- java/util/Arrays.fill([BB)V -/
def mCo23 : List mE := [(0, .iconst 0, 1, []), (1, .istore_n 2, 1, []), (2, .aload_n 0, 1, []), (3, .arraylength, 1, []), (4, .istore_n 3, 1, []), (5, .iload_n 2, 1, []), (6, .iload_n 3, 1, []), (7, .if_icmp .ge 13, 3, [14]), (10, .aload_n 0, 1, []), (11, .iload_n 2, 1, []), (12, .iload_n 1, 1, []), (13, .bastore, 1, []), (14, .iinc 2 1, 3, []), (17, .goto (-12), 3, [5]), (20, .return_, 1, [])]
def mMe23 : mM := (⟨"java/util/Arrays", "fill", "([BB)V"⟩, prog_15_method_109_code, 4, none, 0, 2, [358, 111, 357], mCo23)
/-- FirstLanding.put(III)I -/
def mCo24 : List mE := [(0, .aload_n 0, 1, []), (1, .iload_n 1, 1, []), (2, .invokevirtual 109, 3, [0, 21, 0, 0, 348]), (5, .astore 4, 2, []), (7, .aload 4, 2, []), (9, .ifnonnull 5, 3, [8]), (12, .iconst (-1), 1, []), (13, .ireturn, 1, []), (14, .aload 4, 2, []), (16, .getfield 114, 3, [0, 6, 1, 1, 247]), (19, .iload_n 2, 1, []), (20, .invokestatic 88, 3, [0, 13, 0, 0, 314]), (23, .istore 5, 2, []), (25, .iload 5, 2, []), (27, .ifCond .eq 10, 3, [19]), (30, .aload_n 0, 1, []), (31, .iload 5, 2, []), (33, .invokevirtual 77, 3, [0, 9, 0, 0, 299]), (36, .ireturn, 1, []), (37, .aload 4, 2, []), (39, .getfield 115, 3, [0, 6, 0, 1, 244]), (42, .iload_n 2, 1, []), (43, .baload, 1, []), (44, .istore 6, 2, []), (46, .aload 4, 2, []), (48, .getfield 115, 3, [0, 6, 0, 1, 244]), (51, .iload_n 2, 1, []), (52, .iload_n 3, 1, []), (53, .i2b, 1, []), (54, .bastore, 1, []), (55, .iload 6, 2, []), (57, .sipush 1000, 3, []), (60, .iadd, 1, []), (61, .ireturn, 1, [])]
def mMe24 : mM := (⟨"FirstLanding", "put", "(III)I"⟩, prog_1_method_9_code, 7, (some .int), 1, 3, [362, 103, 360, 361], mCo24)
/-- FirstLanding.fault(I)I -/
def mCo25 : List mE := [(0, .aload_n 0, 1, []), (1, .iload_n 1, 1, []), (2, .invokevirtual 109, 3, [0, 21, 0, 0, 348]), (5, .astore_n 2, 1, []), (6, .aload_n 2, 1, []), (7, .ifnonnull 5, 3, [8]), (10, .iconst (-1), 1, []), (11, .ireturn, 1, []), (12, .aload_n 2, 1, []), (13, .getfield 114, 3, [0, 6, 1, 1, 247]), (16, .iconst (-1), 1, []), (17, .if_icmp .ne 9, 3, [16]), (20, .aload_n 0, 1, []), (21, .iconst 1, 1, []), (22, .invokevirtual 77, 3, [0, 9, 0, 0, 299]), (25, .ireturn, 1, []), (26, .aload_n 0, 1, []), (27, .getfield 35, 3, [0, 0, 4, 0, 258]), (30, .aload_n 2, 1, []), (31, .invokevirtual 119, 3, [0, 26, 0, 1, 367]), (34, .ireturn, 1, [])]
def mMe25 : mM := (⟨"FirstLanding", "fault", "(I)I"⟩, prog_1_method_10_code, 3, (some .int), 1, 1, [366, 103, 364, 365], mCo25)
/-- FirstLanding$Reader.read(LFirstLanding$Text;)I -/
def mCo26 : List mE := [(0, .aload_n 0, 1, []), (1, .iconst 0, 1, []), (2, .putfield 18, 3, [0, 2, 1, 0, 182]), (5, .aload_n 0, 1, []), (6, .aload_n 1, 1, []), (7, .invokevirtual 22, 3, [0, 27, 0, 0, 371]), (10, .aload_n 0, 1, []), (11, .aload_n 1, 1, []), (12, .invokevirtual 26, 3, [0, 28, 0, 0, 375]), (15, .bipush 110, 2, []), (17, .if_icmp .eq 8, 3, [14]), (20, .aload_n 0, 1, []), (21, .getfield 18, 3, [0, 2, 1, 0, 182]), (24, .ireturn, 1, []), (25, .aload_n 0, 1, []), (26, .dup, 1, []), (27, .getfield 18, 3, [0, 2, 1, 0, 182]), (30, .iconst 1, 1, []), (31, .iadd, 1, []), (32, .putfield 18, 3, [0, 2, 1, 0, 182]), (35, .aload_n 0, 1, []), (36, .aload_n 1, 1, []), (37, .invokevirtual 26, 3, [0, 28, 0, 0, 375]), (40, .bipush 48, 2, []), (42, .isub, 1, []), (43, .istore_n 2, 1, []), (44, .iload_n 2, 1, []), (45, .iconst 2, 1, []), (46, .if_icmp .lt 9, 3, [32]), (49, .iload_n 2, 1, []), (50, .bipush 6, 2, []), (52, .if_icmp .le 8, 3, [35]), (55, .aload_n 0, 1, []), (56, .getfield 18, 3, [0, 2, 1, 0, 182]), (59, .ireturn, 1, []), (60, .aload_n 0, 1, []), (61, .dup, 1, []), (62, .getfield 18, 3, [0, 2, 1, 0, 182]), (65, .iconst 1, 1, []), (66, .iadd, 1, []), (67, .putfield 18, 3, [0, 2, 1, 0, 182]), (70, .aload_n 0, 1, []), (71, .getfield 12, 3, [0, 2, 0, 0, 180]), (74, .iload_n 2, 1, []), (75, .invokevirtual 30, 3, [0, 29, 0, 1, 379]), (78, .iconst 0, 1, []), (79, .istore_n 3, 1, []), (80, .iload_n 3, 1, []), (81, .iload_n 2, 1, []), (82, .if_icmp .ge 28, 3, [63]), (85, .aload_n 0, 1, []), (86, .aload_n 1, 1, []), (87, .invokevirtual 22, 3, [0, 27, 0, 0, 371]), (90, .aload_n 0, 1, []), (91, .aload_n 1, 1, []), (92, .iload_n 3, 1, []), (93, .invokevirtual 34, 3, [0, 30, 0, 0, 383]), (96, .ifCond .ne 8, 3, [61]), (99, .aload_n 0, 1, []), (100, .getfield 18, 3, [0, 2, 1, 0, 182]), (103, .ireturn, 1, []), (104, .iinc 3 1, 3, []), (107, .goto (-27), 3, [47]), (110, .aload_n 0, 1, []), (111, .aload_n 1, 1, []), (112, .invokevirtual 22, 3, [0, 27, 0, 0, 371]), (115, .aload_n 0, 1, []), (116, .getfield 18, 3, [0, 2, 1, 0, 182]), (119, .aload_n 1, 1, []), (120, .getfield 38, 3, [0, 6, 1, 1, 246]), (123, .if_icmp .ge 10, 3, [74]), (126, .aload_n 0, 1, []), (127, .getfield 18, 3, [0, 2, 1, 0, 182]), (130, .goto 5, 3, [75]), (133, .bipush (-9), 2, []), (135, .ireturn, 1, [])]
def mMe26 : mM := (⟨"FirstLanding$Reader", "read", "(LFirstLanding$Text;)I"⟩, prog_5_method_2_code, 4, (some .int), 1, 1, [370, 105, 369, 7], mCo26)
/-- FirstLanding$Reader.skipBlanks(LFirstLanding$Text;)V -/
def mCo27 : List mE := [(0, .aload_n 0, 1, []), (1, .getfield 18, 3, [0, 2, 1, 0, 182]), (4, .aload_n 1, 1, []), (5, .getfield 38, 3, [0, 6, 1, 1, 246]), (8, .if_icmp .ge 26, 3, [17]), (11, .aload_n 0, 1, []), (12, .aload_n 1, 1, []), (13, .invokevirtual 26, 3, [0, 28, 0, 0, 375]), (16, .bipush 32, 2, []), (18, .if_icmp .ne 16, 3, [17]), (21, .aload_n 0, 1, []), (22, .dup, 1, []), (23, .getfield 18, 3, [0, 2, 1, 0, 182]), (26, .iconst 1, 1, []), (27, .iadd, 1, []), (28, .putfield 18, 3, [0, 2, 1, 0, 182]), (31, .goto (-31), 3, [0]), (34, .return_, 1, [])]
def mMe27 : mM := (⟨"FirstLanding$Reader", "skipBlanks", "(LFirstLanding$Text;)V"⟩, prog_5_method_4_code, 2, none, 1, 1, [374, 105, 373, 8], mCo27)
/-- FirstLanding$Reader.sign(LFirstLanding$Text;)I -/
def mCo28 : List mE := [(0, .aload_n 0, 1, []), (1, .getfield 18, 3, [0, 2, 1, 0, 182]), (4, .ifCond .lt 26, 3, [14]), (7, .aload_n 0, 1, []), (8, .getfield 18, 3, [0, 2, 1, 0, 182]), (11, .aload_n 1, 1, []), (12, .getfield 38, 3, [0, 6, 1, 1, 246]), (15, .if_icmp .ge 15, 3, [14]), (18, .aload_n 1, 1, []), (19, .getfield 59, 3, [0, 6, 0, 1, 243]), (22, .aload_n 0, 1, []), (23, .getfield 18, 3, [0, 2, 1, 0, 182]), (26, .baload, 1, []), (27, .goto 6, 3, [15]), (30, .sipush 1000, 3, []), (33, .ireturn, 1, [])]
def mMe28 : mM := (⟨"FirstLanding$Reader", "sign", "(LFirstLanding$Text;)I"⟩, prog_5_method_5_code, 2, (some .int), 1, 1, [378, 105, 377, 9], mCo28)
/-- FirstLanding$Embassy.begin(I)V -/
def mCo29 : List mE := [(0, .aload_n 0, 1, []), (1, .iload_n 1, 1, []), (2, .putfield 21, 3, [0, 1, 3, 0, 143]), (5, .aload_n 0, 1, []), (6, .iconst 0, 1, []), (7, .putfield 25, 3, [0, 1, 4, 0, 148]), (10, .aload_n 0, 1, []), (11, .iconst 0, 1, []), (12, .putfield 28, 3, [0, 1, 5, 0, 151]), (15, .aload_n 0, 1, []), (16, .lconst 0, 1, []), (17, .putfield 31, 3, [0, 1, 6, 0, 153]), (20, .return_, 1, [])]
def mMe29 : mM := (⟨"FirstLanding$Embassy", "begin", "(I)V"⟩, prog_2_method_2_code, 2, none, 1, 1, [382, 104, 381, 10], mCo29)
/-- FirstLanding$Reader.readPerson(LFirstLanding$Text;I)Z -/
def mCo30 : List mE := [(0, .aload_n 0, 1, []), (1, .aload_n 1, 1, []), (2, .invokevirtual 26, 3, [0, 28, 0, 0, 375]), (5, .invokestatic 43, 3, [0, 31, 0, 1, 387]), (8, .istore_n 3, 1, []), (9, .iload_n 3, 1, []), (10, .ifCond .ge 5, 3, [9]), (13, .iconst 0, 1, []), (14, .ireturn, 1, []), (15, .aload_n 0, 1, []), (16, .getfield 12, 3, [0, 2, 0, 0, 180]), (19, .getfield 49, 3, [0, 1, 0, 1, 137]), (22, .iload_n 2, 1, []), (23, .iload_n 3, 1, []), (24, .iastore, 1, []), (25, .aload_n 0, 1, []), (26, .dup, 1, []), (27, .getfield 18, 3, [0, 2, 1, 0, 182]), (30, .iconst 1, 1, []), (31, .iadd, 1, []), (32, .putfield 18, 3, [0, 2, 1, 0, 182]), (35, .iconst 0, 1, []), (36, .istore 4, 2, []), (38, .iload 4, 2, []), (40, .aload_n 0, 1, []), (41, .getfield 12, 3, [0, 2, 0, 0, 180]), (44, .getfield 53, 3, [0, 1, 3, 1, 146]), (47, .if_icmp .ge 60, 3, [59]), (50, .aload_n 0, 1, []), (51, .aload_n 1, 1, []), (52, .invokevirtual 26, 3, [0, 28, 0, 0, 375]), (55, .bipush 48, 2, []), (57, .isub, 1, []), (58, .istore 5, 2, []), (60, .iload 5, 2, []), (62, .ifCond .lt 10, 3, [39]), (65, .iload 5, 2, []), (67, .bipush 9, 2, []), (69, .if_icmp .le 5, 3, [41]), (72, .iconst 0, 1, []), (73, .ireturn, 1, []), (74, .aload_n 0, 1, []), (75, .getfield 12, 3, [0, 2, 0, 0, 180]), (78, .getfield 56, 3, [0, 1, 1, 1, 140]), (81, .bipush 6, 2, []), (83, .iload_n 2, 1, []), (84, .imul, 1, []), (85, .iload 4, 2, []), (87, .iadd, 1, []), (88, .iload 5, 2, []), (90, .iastore, 1, []), (91, .aload_n 0, 1, []), (92, .dup, 1, []), (93, .getfield 18, 3, [0, 2, 1, 0, 182]), (96, .iconst 1, 1, []), (97, .iadd, 1, []), (98, .putfield 18, 3, [0, 2, 1, 0, 182]), (101, .iinc 4 1, 3, []), (104, .goto (-66), 3, [23]), (107, .iconst 1, 1, []), (108, .ireturn, 1, [])]
def mMe30 : mM := (⟨"FirstLanding$Reader", "readPerson", "(LFirstLanding$Text;I)Z"⟩, prog_5_method_3_code, 6, (some .boolean), 1, 2, [386, 105, 385, 11], mCo30)
/-- FirstLanding$Kind.ofLetter(I)I -/
def mCo31 : List mE := [(0, .iconst 0, 1, []), (1, .istore_n 1, 1, []), (2, .iload_n 1, 1, []), (3, .bipush 6, 2, []), (5, .if_icmp .ge 20, 3, [14]), (8, .getstatic 9, 3, [0, 1, 0, 0, 390]), (11, .iload_n 1, 1, []), (12, .iaload, 1, []), (13, .iload_n 0, 1, []), (14, .if_icmp .ne 5, 3, [12]), (17, .iload_n 1, 1, []), (18, .ireturn, 1, []), (19, .iinc 1 1, 3, []), (22, .goto (-20), 3, [2]), (25, .iconst (-1), 1, []), (26, .ireturn, 1, [])]
def mMe31 : mM := (⟨"FirstLanding$Kind", "ofLetter", "(I)I"⟩, prog_3_method_2_code, 2, (some .int), 0, 1, [389, 113, 388], mCo31)
/-- FirstLanding.embassy(I)I -/
def mCo32 : List mE := [(0, .aload_n 0, 1, []), (1, .iload_n 1, 1, []), (2, .invokevirtual 109, 3, [0, 21, 0, 0, 348]), (5, .astore_n 2, 1, []), (6, .aload_n 2, 1, []), (7, .ifnonnull 5, 3, [8]), (10, .iconst (-1), 1, []), (11, .ireturn, 1, []), (12, .aload_n 2, 1, []), (13, .getfield 114, 3, [0, 6, 1, 1, 247]), (16, .iconst (-1), 1, []), (17, .if_icmp .ne 9, 3, [16]), (20, .aload_n 0, 1, []), (21, .iconst 1, 1, []), (22, .invokevirtual 77, 3, [0, 9, 0, 0, 299]), (25, .ireturn, 1, []), (26, .aload_n 0, 1, []), (27, .getfield 35, 3, [0, 0, 4, 0, 258]), (30, .aload_n 2, 1, []), (31, .invokevirtual 119, 3, [0, 26, 0, 1, 367]), (34, .bipush (-9), 2, []), (36, .if_icmp .eq 6, 3, [24]), (39, .bipush (-4), 2, []), (41, .ireturn, 1, []), (42, .aload_n 0, 1, []), (43, .getfield 24, 3, [0, 0, 2, 0, 256]), (46, .aload_n 0, 1, []), (47, .getfield 35, 3, [0, 0, 4, 0, 258]), (50, .getfield 123, 3, [0, 2, 0, 1, 181]), (53, .invokevirtual 126, 3, [0, 33, 0, 1, 396]), (56, .iconst 0, 1, []), (57, .istore_n 3, 1, []), (58, .iload_n 3, 1, []), (59, .iconst 3, 1, []), (60, .if_icmp .ge 19, 3, [43]), (63, .aload_n 0, 1, []), (64, .getfield 28, 3, [0, 0, 3, 0, 257]), (67, .iload_n 3, 1, []), (68, .aaload, 1, []), (69, .iconst 0, 1, []), (70, .putfield 130, 3, [0, 1, 3, 1, 147]), (73, .iinc 3 1, 3, []), (76, .goto (-18), 3, [32]), (79, .aload_n 0, 1, []), (80, .getfield 24, 3, [0, 0, 2, 0, 256]), (83, .getfield 130, 3, [0, 1, 3, 1, 147]), (86, .ireturn, 1, [])]
def mMe32 : mM := (⟨"FirstLanding", "embassy", "(I)I"⟩, prog_1_method_11_code, 4, (some .int), 1, 1, [395, 103, 393, 394], mCo32)
/-- FirstLanding$Embassy.become(LFirstLanding$Embassy;)V -/
def mCo33 : List mE := [(0, .aload_n 1, 1, []), (1, .getfield 9, 3, [0, 1, 0, 0, 135]), (4, .iconst 0, 1, []), (5, .aload_n 0, 1, []), (6, .getfield 9, 3, [0, 1, 0, 0, 135]), (9, .iconst 0, 1, []), (10, .bipush 6, 2, []), (12, .invokestatic 35, 3, [0, 0, 2, 0, 400, 335, 334, 112]), (15, .aload_n 1, 1, []), (16, .getfield 15, 3, [0, 1, 1, 0, 139]), (19, .iconst 0, 1, []), (20, .aload_n 0, 1, []), (21, .getfield 15, 3, [0, 1, 1, 0, 139]), (24, .iconst 0, 1, []), (25, .bipush 36, 2, []), (27, .invokestatic 35, 3, [0, 0, 2, 0, 400, 335, 334, 112]), (30, .aload_n 1, 1, []), (31, .getfield 18, 3, [0, 1, 2, 0, 142]), (34, .iconst 0, 1, []), (35, .aload_n 0, 1, []), (36, .getfield 18, 3, [0, 1, 2, 0, 142]), (39, .iconst 0, 1, []), (40, .bipush 40, 2, []), (42, .invokestatic 35, 3, [0, 0, 2, 0, 400, 335, 334, 112]), (45, .aload_n 0, 1, []), (46, .aload_n 1, 1, []), (47, .getfield 21, 3, [0, 1, 3, 0, 143]), (50, .putfield 21, 3, [0, 1, 3, 0, 143]), (53, .aload_n 0, 1, []), (54, .aload_n 1, 1, []), (55, .getfield 25, 3, [0, 1, 4, 0, 148]), (58, .putfield 25, 3, [0, 1, 4, 0, 148]), (61, .aload_n 0, 1, []), (62, .aload_n 1, 1, []), (63, .getfield 28, 3, [0, 1, 5, 0, 151]), (66, .putfield 28, 3, [0, 1, 5, 0, 151]), (69, .aload_n 0, 1, []), (70, .aload_n 1, 1, []), (71, .getfield 31, 3, [0, 1, 6, 0, 153]), (74, .putfield 31, 3, [0, 1, 6, 0, 153]), (77, .return_, 1, [])]
def mMe33 : mM := (⟨"FirstLanding$Embassy", "become", "(LFirstLanding$Embassy;)V"⟩, prog_2_method_3_code, 2, none, 1, 1, [399, 104, 398, 12], mCo33)
/-- FirstLanding.person(II)I -/
def mCo34 : List mE := [(0, .aload_n 0, 1, []), (1, .getfield 24, 3, [0, 0, 2, 0, 256]), (4, .iload_n 1, 1, []), (5, .invokevirtual 133, 3, [0, 35, 0, 1, 405]), (8, .ifCond .eq 12, 3, [10]), (11, .iload_n 2, 1, []), (12, .ifCond .lt 8, 3, [10]), (15, .iload_n 2, 1, []), (16, .iconst 4, 1, []), (17, .if_icmp .le 5, 3, [12]), (20, .iconst (-1), 1, []), (21, .ireturn, 1, []), (22, .aload_n 0, 1, []), (23, .aload_n 0, 1, []), (24, .getfield 24, 3, [0, 0, 2, 0, 256]), (27, .iload_n 1, 1, []), (28, .iload_n 2, 1, []), (29, .invokevirtual 137, 3, [0, 36, 0, 1, 409]), (32, .putfield 61, 3, [0, 0, 9, 0, 263]), (35, .iconst 1, 1, []), (36, .ireturn, 1, [])]
def mMe34 : mM := (⟨"FirstLanding", "person", "(II)I"⟩, prog_1_method_12_code, 3, (some .int), 1, 2, [404, 103, 402, 403], mCo34)
/-- FirstLanding$Embassy.has(I)Z -/
def mCo35 : List mE := [(0, .iload_n 1, 1, []), (1, .ifCond .lt 15, 3, [8]), (4, .iload_n 1, 1, []), (5, .aload_n 0, 1, []), (6, .getfield 21, 3, [0, 1, 3, 0, 143]), (9, .if_icmp .ge 7, 3, [8]), (12, .iconst 1, 1, []), (13, .goto 4, 3, [9]), (16, .iconst 0, 1, []), (17, .ireturn, 1, [])]
def mMe35 : mM := (⟨"FirstLanding$Embassy", "has", "(I)Z"⟩, prog_2_method_4_code, 2, (some .boolean), 1, 1, [408, 104, 407, 13], mCo35)
/-- FirstLanding$Embassy.about(II)I -/
def mCo36 : List mE := [(0, .iload_n 2, 1, []), (1, .tableswitch 63 0 3 #[31, 38, 47, 57], 31, [24, 2, 7, 14, 20]), (32, .aload_n 0, 1, []), (33, .getfield 9, 3, [0, 1, 0, 0, 135]), (36, .iload_n 1, 1, []), (37, .iaload, 1, []), (38, .ireturn, 1, []), (39, .aload_n 0, 1, []), (40, .getfield 25, 3, [0, 1, 4, 0, 148]), (43, .iload_n 1, 1, []), (44, .ishr, 1, []), (45, .iconst 1, 1, []), (46, .iand, 1, []), (47, .ireturn, 1, []), (48, .aload_n 0, 1, []), (49, .iload_n 1, 1, []), (50, .aload_n 0, 1, []), (51, .getfield 25, 3, [0, 1, 4, 0, 148]), (54, .invokevirtual 45, 3, [0, 37, 0, 0, 413]), (57, .ireturn, 1, []), (58, .aload_n 0, 1, []), (59, .iload_n 1, 1, []), (60, .invokevirtual 49, 3, [0, 45, 0, 0, 440]), (63, .ireturn, 1, []), (64, .aload_n 0, 1, []), (65, .iload_n 1, 1, []), (66, .invokevirtual 53, 3, [0, 47, 0, 0, 449]), (69, .ireturn, 1, [])]
def mMe36 : mM := (⟨"FirstLanding$Embassy", "about", "(II)I"⟩, prog_2_method_8_code, 3, (some .int), 1, 2, [412, 104, 411, 14], mCo36)
/-- FirstLanding$Embassy.seeming(II)I -/
def mCo37 : List mE := [(0, .aload_n 0, 1, []), (1, .aload_n 0, 1, []), (2, .getfield 9, 3, [0, 1, 0, 0, 135]), (5, .iload_n 1, 1, []), (6, .iaload, 1, []), (7, .iload_n 1, 1, []), (8, .iload_n 2, 1, []), (9, .invokevirtual 77, 3, [0, 38, 0, 0, 417]), (12, .ireturn, 1, [])]
def mMe37 : mM := (⟨"FirstLanding$Embassy", "seeming", "(II)I"⟩, prog_2_method_17_code, 3, (some .int), 1, 2, [416, 104, 415, 15], mCo37)
/-- FirstLanding$Embassy.seemingAs(III)I -/
def mCo38 : List mE := [(0, .iconst 0, 1, []), (1, .istore 4, 2, []), (3, .iconst 0, 1, []), (4, .istore 5, 2, []), (6, .iconst 0, 1, []), (7, .istore 6, 2, []), (9, .iload 6, 2, []), (11, .aload_n 0, 1, []), (12, .getfield 21, 3, [0, 1, 3, 0, 143]), (15, .if_icmp .ge 52, 3, [33]), (18, .iload 6, 2, []), (20, .iload_n 2, 1, []), (21, .if_icmp .eq 40, 3, [31]), (24, .iload_n 3, 1, []), (25, .iload 6, 2, []), (27, .invokestatic 81, 3, [0, 39, 0, 1, 421]), (30, .ifCond .eq 31, 3, [31]), (33, .iload_n 1, 1, []), (34, .iload 4, 2, []), (36, .aload_n 0, 1, []), (37, .iload_n 2, 1, []), (38, .iload 6, 2, []), (40, .invokevirtual 68, 3, [0, 40, 0, 0, 424]), (43, .iload 5, 2, []), (45, .ifCond .ne 7, 3, [27]), (48, .iconst 1, 1, []), (49, .goto 4, 3, [28]), (52, .iconst 0, 1, []), (53, .invokestatic 84, 3, [0, 41, 0, 1, 428]), (56, .istore 4, 2, []), (58, .iinc 5 1, 3, []), (61, .iinc 6 1, 3, []), (64, .goto (-55), 3, [6]), (67, .iload_n 1, 1, []), (68, .iload 4, 2, []), (70, .iload 5, 2, []), (72, .invokestatic 88, 3, [0, 44, 0, 1, 437]), (75, .ireturn, 1, [])]
def mMe38 : mM := (⟨"FirstLanding$Embassy", "seemingAs", "(III)I"⟩, prog_2_method_18_code, 7, (some .int), 1, 3, [420, 104, 419, 16], mCo38)
/-- FirstLanding.isIn(II)Z -/
def mCo39 : List mE := [(0, .iload_n 0, 1, []), (1, .iload_n 1, 1, []), (2, .ishr, 1, []), (3, .iconst 1, 1, []), (4, .iand, 1, []), (5, .ifCond .eq 7, 3, [8]), (8, .iconst 1, 1, []), (9, .goto 4, 3, [9]), (12, .iconst 0, 1, []), (13, .ireturn, 1, [])]
def mMe39 : mM := (⟨"FirstLanding", "isIn", "(II)Z"⟩, prog_1_method_45_code, 2, (some .boolean), 0, 2, [423, 103, 422], mCo39)
/-- FirstLanding$Embassy.look(II)I -/
def mCo40 : List mE := [(0, .aload_n 0, 1, []), (1, .getfield 15, 3, [0, 1, 1, 0, 139]), (4, .bipush 6, 2, []), (6, .iload_n 1, 1, []), (7, .imul, 1, []), (8, .iload_n 2, 1, []), (9, .iadd, 1, []), (10, .iaload, 1, []), (11, .ireturn, 1, [])]
def mMe40 : mM := (⟨"FirstLanding$Embassy", "look", "(II)I"⟩, prog_2_method_7_code, 3, (some .int), 1, 2, [427, 104, 426, 17], mCo40)
/-- FirstLanding$Kind.fold(IIIZ)I -/
def mCo41 : List mE := [(0, .iload_n 0, 1, []), (1, .tableswitch 85 1 5 #[35, 41, 55, 35, 65], 35, [32, 2, 6, 14, 2, 20]), (36, .iload_n 1, 1, []), (37, .iload_n 2, 1, []), (38, .invokestatic 18, 3, [0, 42, 0, 0, 431]), (41, .ireturn, 1, []), (42, .iload_n 3, 1, []), (43, .ifCond .eq 7, 3, [10]), (46, .iload_n 2, 1, []), (47, .goto 8, 3, [13]), (50, .iload_n 1, 1, []), (51, .iload_n 2, 1, []), (52, .invokestatic 24, 3, [0, 43, 0, 0, 434]), (55, .ireturn, 1, []), (56, .iload_n 3, 1, []), (57, .ifCond .eq 7, 3, [18]), (60, .iload_n 2, 1, []), (61, .goto 4, 3, [19]), (64, .iload_n 1, 1, []), (65, .ireturn, 1, []), (66, .iload_n 1, 1, []), (67, .ifCond .eq 7, 3, [24]), (70, .iload_n 2, 1, []), (71, .ifCond .ne 9, 3, [28]), (74, .iload_n 1, 1, []), (75, .iload_n 2, 1, []), (76, .iadd, 1, []), (77, .goto 8, 3, [31]), (80, .iload_n 1, 1, []), (81, .iload_n 2, 1, []), (82, .invokestatic 24, 3, [0, 43, 0, 0, 434]), (85, .ireturn, 1, []), (86, .iload_n 1, 1, []), (87, .iload_n 2, 1, []), (88, .iadd, 1, []), (89, .ireturn, 1, [])]
def mMe41 : mM := (⟨"FirstLanding$Kind", "fold", "(IIIZ)I"⟩, prog_3_method_4_code, 4, (some .int), 0, 4, [430, 113, 429], mCo41)
/-- java/lang/Math.max(II)I -/
def mCo42 : List mE := [(0, .iload_n 0, 1, []), (1, .iload_n 1, 1, []), (2, .if_icmp .lt 7, 3, [5]), (5, .iload_n 0, 1, []), (6, .goto 4, 3, [6]), (9, .iload_n 1, 1, []), (10, .ireturn, 1, [])]
def mMe42 : mM := (⟨"java/lang/Math", "max", "(II)I"⟩, prog_13_method_65_code, 2, (some .int), 0, 2, [433, 114, 432], mCo42)
/-- java/lang/Math.min(II)I -/
def mCo43 : List mE := [(0, .iload_n 0, 1, []), (1, .iload_n 1, 1, []), (2, .if_icmp .gt 7, 3, [5]), (5, .iload_n 0, 1, []), (6, .goto 4, 3, [6]), (9, .iload_n 1, 1, []), (10, .ireturn, 1, [])]
def mMe43 : mM := (⟨"java/lang/Math", "min", "(II)I"⟩, prog_13_method_69_code, 2, (some .int), 0, 2, [436, 114, 435], mCo43)
/-- FirstLanding$Kind.tell(III)I -/
def mCo44 : List mE := [(0, .iload_n 2, 1, []), (1, .ifCond .gt 5, 3, [4]), (4, .iconst 0, 1, []), (5, .ireturn, 1, []), (6, .iload_n 0, 1, []), (7, .tableswitch 52 1 5 #[33, 33, 33, 35, 33], 33, [18, 6, 6, 6, 8, 6]), (40, .iload_n 1, 1, []), (41, .ireturn, 1, []), (42, .iload_n 1, 1, []), (43, .ifCond .ne 7, 3, [12]), (46, .iconst 0, 1, []), (47, .goto 11, 3, [17]), (50, .iload_n 1, 1, []), (51, .iconst 1, 1, []), (52, .iadd, 1, []), (53, .bipush 9, 2, []), (55, .invokestatic 24, 3, [0, 43, 0, 0, 434]), (58, .ireturn, 1, []), (59, .iload_n 1, 1, []), (60, .iload_n 2, 1, []), (61, .idiv, 1, []), (62, .ireturn, 1, [])]
def mMe44 : mM := (⟨"FirstLanding$Kind", "tell", "(III)I"⟩, prog_3_method_5_code, 3, (some .int), 0, 3, [439, 113, 438], mCo44)
/-- FirstLanding$Embassy.treatiesOf(I)I -/
def mCo45 : List mE := [(0, .iconst 0, 1, []), (1, .istore_n 2, 1, []), (2, .iconst 0, 1, []), (3, .istore_n 3, 1, []), (4, .iload_n 3, 1, []), (5, .aload_n 0, 1, []), (6, .getfield 21, 3, [0, 1, 3, 0, 143]), (9, .if_icmp .ge 32, 3, [23]), (12, .iload_n 3, 1, []), (13, .iload_n 1, 1, []), (14, .if_icmp .eq 21, 3, [21]), (17, .aload_n 0, 1, []), (18, .getfield 31, 3, [0, 1, 6, 0, 153]), (21, .iload_n 1, 1, []), (22, .iload_n 3, 1, []), (23, .invokestatic 56, 3, [0, 46, 0, 0, 444]), (26, .land, 1, []), (27, .lconst 0, 1, []), (28, .lcmp, 1, []), (29, .ifCond .eq 6, 3, [21]), (32, .iinc 2 1, 3, []), (35, .iinc 3 1, 3, []), (38, .goto (-34), 3, [4]), (41, .iload_n 2, 1, []), (42, .ireturn, 1, [])]
def mMe45 : mM := (⟨"FirstLanding$Embassy", "treatiesOf", "(I)I"⟩, prog_2_method_9_code, 4, (some .int), 1, 1, [443, 104, 442, 18], mCo45)
/-- FirstLanding$Embassy.pairBit(II)J -/
def mCo46 : List mE := [(0, .lconst 1, 1, []), (1, .bipush 6, 2, []), (3, .iload_n 0, 1, []), (4, .iload_n 1, 1, []), (5, .invokestatic 60, 3, [0, 43, 0, 0, 447]), (8, .imul, 1, []), (9, .iload_n 0, 1, []), (10, .iload_n 1, 1, []), (11, .invokestatic 65, 3, [0, 42, 0, 0, 448]), (14, .iadd, 1, []), (15, .lshl, 1, []), (16, .lreturn, 1, [])]
def mMe46 : mM := (⟨"FirstLanding$Embassy", "pairBit", "(II)J"⟩, prog_2_method_10_code, 2, (some .long), 0, 2, [446, 104, 445], mCo46)
/-- FirstLanding$Embassy.unmadeBy(I)I -/
def mCo47 : List mE := [(0, .iconst 0, 1, []), (1, .istore_n 2, 1, []), (2, .iconst 0, 1, []), (3, .istore_n 3, 1, []), (4, .iload_n 3, 1, []), (5, .aload_n 0, 1, []), (6, .getfield 21, 3, [0, 1, 3, 0, 143]), (9, .if_icmp .ge 26, 3, [19]), (12, .iload_n 3, 1, []), (13, .iload_n 1, 1, []), (14, .if_icmp .eq 15, 3, [17]), (17, .aload_n 0, 1, []), (18, .iload_n 1, 1, []), (19, .iload_n 3, 1, []), (20, .invokevirtual 68, 3, [0, 40, 0, 0, 424]), (23, .ifCond .ne 6, 3, [17]), (26, .iinc 2 1, 3, []), (29, .iinc 3 1, 3, []), (32, .goto (-28), 3, [4]), (35, .iload_n 2, 1, []), (36, .ireturn, 1, [])]
def mMe47 : mM := (⟨"FirstLanding$Embassy", "unmadeBy", "(I)I"⟩, prog_2_method_13_code, 4, (some .int), 1, 1, [452, 104, 451, 19], mCo47)
/-- FirstLanding.looks(II)I -/
def mCo48 : List mE := [(0, .aload_n 0, 1, []), (1, .getfield 24, 3, [0, 0, 2, 0, 256]), (4, .iload_n 1, 1, []), (5, .invokevirtual 133, 3, [0, 35, 0, 1, 405]), (8, .ifCond .eq 14, 3, [10]), (11, .aload_n 0, 1, []), (12, .getfield 24, 3, [0, 0, 2, 0, 256]), (15, .iload_n 2, 1, []), (16, .invokevirtual 133, 3, [0, 35, 0, 1, 405]), (19, .ifCond .ne 5, 3, [12]), (22, .iconst (-1), 1, []), (23, .ireturn, 1, []), (24, .aload_n 0, 1, []), (25, .getfield 24, 3, [0, 0, 2, 0, 256]), (28, .iload_n 1, 1, []), (29, .iload_n 2, 1, []), (30, .invokevirtual 140, 3, [0, 40, 0, 1, 457]), (33, .ireturn, 1, [])]
def mMe48 : mM := (⟨"FirstLanding", "looks", "(II)I"⟩, prog_1_method_13_code, 3, (some .int), 1, 2, [456, 103, 454, 455], mCo48)
/-- FirstLanding.mark(II)I -/
def mCo49 : List mE := [(0, .aload_n 0, 1, []), (1, .getfield 24, 3, [0, 0, 2, 0, 256]), (4, .iload_n 1, 1, []), (5, .invokevirtual 133, 3, [0, 35, 0, 1, 405]), (8, .ifCond .eq 13, 3, [11]), (11, .iload_n 2, 1, []), (12, .iconst 1, 1, []), (13, .if_icmp .lt 8, 3, [11]), (16, .iload_n 2, 1, []), (17, .iconst 5, 1, []), (18, .if_icmp .le 5, 3, [13]), (21, .iconst (-1), 1, []), (22, .ireturn, 1, []), (23, .aload_n 0, 1, []), (24, .getfield 24, 3, [0, 0, 2, 0, 256]), (27, .getfield 143, 3, [0, 1, 0, 1, 138]), (30, .iload_n 1, 1, []), (31, .iaload, 1, []), (32, .iload_n 2, 1, []), (33, .invokestatic 146, 3, [0, 50, 0, 1, 462]), (36, .ifCond .ne 9, 3, [25]), (39, .aload_n 0, 1, []), (40, .iconst 3, 1, []), (41, .invokevirtual 77, 3, [0, 9, 0, 0, 299]), (44, .ireturn, 1, []), (45, .iload_n 2, 1, []), (46, .tableswitch 66 1 4 #[30, 39, 48, 57], 30, [47, 27, 32, 37, 42]), (76, .aload_n 0, 1, []), (77, .getfield 24, 3, [0, 0, 2, 0, 256]), (80, .iload_n 1, 1, []), (81, .invokevirtual 151, 3, [0, 51, 0, 1, 467]), (84, .ireturn, 1, []), (85, .aload_n 0, 1, []), (86, .getfield 24, 3, [0, 0, 2, 0, 256]), (89, .iload_n 1, 1, []), (90, .invokevirtual 154, 3, [0, 52, 0, 1, 471]), (93, .ireturn, 1, []), (94, .aload_n 0, 1, []), (95, .getfield 24, 3, [0, 0, 2, 0, 256]), (98, .iload_n 1, 1, []), (99, .invokevirtual 157, 3, [0, 47, 0, 1, 475]), (102, .ireturn, 1, []), (103, .aload_n 0, 1, []), (104, .getfield 24, 3, [0, 0, 2, 0, 256]), (107, .iconst 4, 1, []), (108, .invokevirtual 160, 3, [0, 53, 0, 1, 476]), (111, .ireturn, 1, []), (112, .aload_n 0, 1, []), (113, .getfield 24, 3, [0, 0, 2, 0, 256]), (116, .iload_n 1, 1, []), (117, .invokevirtual 163, 3, [0, 54, 0, 1, 481]), (120, .ireturn, 1, [])]
def mMe49 : mM := (⟨"FirstLanding", "mark", "(II)I"⟩, prog_1_method_14_code, 3, (some .int), 1, 2, [461, 103, 459, 460], mCo49)
/-- FirstLanding$Kind.isA(II)Z -/
def mCo50 : List mE := [(0, .iload_n 0, 1, []), (1, .iload_n 1, 1, []), (2, .if_icmp .eq 12, 3, [8]), (5, .getstatic 15, 3, [0, 2, 0, 0, 465]), (8, .iload_n 0, 1, []), (9, .iaload, 1, []), (10, .iload_n 1, 1, []), (11, .if_icmp .ne 7, 3, [10]), (14, .iconst 1, 1, []), (15, .goto 4, 3, [11]), (18, .iconst 0, 1, []), (19, .ireturn, 1, [])]
def mMe50 : mM := (⟨"FirstLanding$Kind", "isA", "(II)Z"⟩, prog_3_method_3_code, 2, (some .boolean), 0, 2, [464, 113, 463], mCo50)
/-- FirstLanding$Embassy.greatestTo(I)I -/
def mCo51 : List mE := [(0, .bipush (-9), 2, []), (2, .istore_n 2, 1, []), (3, .iconst 0, 1, []), (4, .istore_n 3, 1, []), (5, .iload_n 3, 1, []), (6, .aload_n 0, 1, []), (7, .getfield 21, 3, [0, 1, 3, 0, 143]), (10, .if_icmp .ge 37, 3, [27]), (13, .iload_n 3, 1, []), (14, .iload_n 1, 1, []), (15, .if_icmp .eq 26, 3, [25]), (18, .iload_n 2, 1, []), (19, .bipush (-9), 2, []), (21, .if_icmp .eq 18, 3, [23]), (24, .aload_n 0, 1, []), (25, .iload_n 1, 1, []), (26, .iload_n 3, 1, []), (27, .invokevirtual 68, 3, [0, 40, 0, 0, 424]), (30, .aload_n 0, 1, []), (31, .iload_n 1, 1, []), (32, .iload_n 2, 1, []), (33, .invokevirtual 68, 3, [0, 40, 0, 0, 424]), (36, .if_icmp .le 5, 3, [25]), (39, .iload_n 3, 1, []), (40, .istore_n 2, 1, []), (41, .iinc 3 1, 3, []), (44, .goto (-39), 3, [4]), (47, .iload_n 2, 1, []), (48, .ireturn, 1, [])]
def mMe51 : mM := (⟨"FirstLanding$Embassy", "greatestTo", "(I)I"⟩, prog_2_method_11_code, 4, (some .int), 1, 1, [470, 104, 469, 20], mCo51)
/-- FirstLanding$Embassy.leastTo(I)I -/
def mCo52 : List mE := [(0, .bipush (-9), 2, []), (2, .istore_n 2, 1, []), (3, .iconst 0, 1, []), (4, .istore_n 3, 1, []), (5, .iload_n 3, 1, []), (6, .aload_n 0, 1, []), (7, .getfield 21, 3, [0, 1, 3, 0, 143]), (10, .if_icmp .ge 37, 3, [27]), (13, .iload_n 3, 1, []), (14, .iload_n 1, 1, []), (15, .if_icmp .eq 26, 3, [25]), (18, .iload_n 2, 1, []), (19, .bipush (-9), 2, []), (21, .if_icmp .eq 18, 3, [23]), (24, .aload_n 0, 1, []), (25, .iload_n 1, 1, []), (26, .iload_n 3, 1, []), (27, .invokevirtual 68, 3, [0, 40, 0, 0, 424]), (30, .aload_n 0, 1, []), (31, .iload_n 1, 1, []), (32, .iload_n 2, 1, []), (33, .invokevirtual 68, 3, [0, 40, 0, 0, 424]), (36, .if_icmp .ge 5, 3, [25]), (39, .iload_n 3, 1, []), (40, .istore_n 2, 1, []), (41, .iinc 3 1, 3, []), (44, .goto (-39), 3, [4]), (47, .iload_n 2, 1, []), (48, .ireturn, 1, [])]
def mMe52 : mM := (⟨"FirstLanding$Embassy", "leastTo", "(I)I"⟩, prog_2_method_12_code, 4, (some .int), 1, 1, [474, 104, 473, 21], mCo52)
/-- FirstLanding$Embassy.howManyAre(I)I -/
def mCo53 : List mE := [(0, .iconst 0, 1, []), (1, .istore_n 2, 1, []), (2, .iconst 0, 1, []), (3, .istore_n 3, 1, []), (4, .iload_n 3, 1, []), (5, .aload_n 0, 1, []), (6, .getfield 21, 3, [0, 1, 3, 0, 143]), (9, .if_icmp .ge 25, 3, [18]), (12, .aload_n 0, 1, []), (13, .getfield 9, 3, [0, 1, 0, 0, 135]), (16, .iload_n 3, 1, []), (17, .iaload, 1, []), (18, .iload_n 1, 1, []), (19, .invokestatic 71, 3, [0, 50, 0, 1, 480]), (22, .ifCond .eq 6, 3, [16]), (25, .iinc 2 1, 3, []), (28, .iinc 3 1, 3, []), (31, .goto (-27), 3, [4]), (34, .iload_n 2, 1, []), (35, .ireturn, 1, [])]
def mMe53 : mM := (⟨"FirstLanding$Embassy", "howManyAre", "(I)I"⟩, prog_2_method_16_code, 4, (some .int), 1, 1, [479, 104, 478, 22], mCo53)
/-- FirstLanding$Embassy.unmadeTo(I)I -/
def mCo54 : List mE := [(0, .iconst 0, 1, []), (1, .istore_n 2, 1, []), (2, .iconst 0, 1, []), (3, .istore_n 3, 1, []), (4, .iload_n 3, 1, []), (5, .aload_n 0, 1, []), (6, .getfield 21, 3, [0, 1, 3, 0, 143]), (9, .if_icmp .ge 26, 3, [19]), (12, .iload_n 3, 1, []), (13, .iload_n 1, 1, []), (14, .if_icmp .eq 15, 3, [17]), (17, .aload_n 0, 1, []), (18, .iload_n 3, 1, []), (19, .iload_n 1, 1, []), (20, .invokevirtual 68, 3, [0, 40, 0, 0, 424]), (23, .ifCond .ne 6, 3, [17]), (26, .iinc 2 1, 3, []), (29, .iinc 3 1, 3, []), (32, .goto (-28), 3, [4]), (35, .iload_n 2, 1, []), (36, .ireturn, 1, [])]
def mMe54 : mM := (⟨"FirstLanding$Embassy", "unmadeTo", "(I)I"⟩, prog_2_method_14_code, 4, (some .int), 1, 1, [484, 104, 483, 23], mCo54)
/-- FirstLanding.step(I)I -/
def mCo55 : List mE := [(0, .aload_n 0, 1, []), (1, .getfield 24, 3, [0, 0, 2, 0, 256]), (4, .iload_n 1, 1, []), (5, .invokevirtual 133, 3, [0, 35, 0, 1, 405]), (8, .ifCond .ne 5, 3, [7]), (11, .iconst (-1), 1, []), (12, .ireturn, 1, []), (13, .aload_n 0, 1, []), (14, .getfield 24, 3, [0, 0, 2, 0, 256]), (17, .getfield 166, 3, [0, 1, 5, 1, 152]), (20, .bipush 40, 2, []), (22, .if_icmp .lt 6, 3, [14]), (25, .bipush (-2), 2, []), (27, .ireturn, 1, []), (28, .aload_n 0, 1, []), (29, .getfield 24, 3, [0, 0, 2, 0, 256]), (32, .iload_n 1, 1, []), (33, .invokevirtual 169, 3, [0, 56, 0, 1, 489]), (36, .aload_n 0, 1, []), (37, .getfield 24, 3, [0, 0, 2, 0, 256]), (40, .getfield 172, 3, [0, 1, 4, 1, 150]), (43, .invokestatic 175, 3, [0, 58, 0, 0, 497]), (46, .ireturn, 1, [])]
def mMe55 : mM := (⟨"FirstLanding", "step", "(I)I"⟩, prog_1_method_15_code, 2, (some .int), 1, 1, [488, 103, 486, 487], mCo55)
/-- FirstLanding$Embassy.move(I)V -/
def mCo56 : List mE := [(0, .aload_n 0, 1, []), (1, .dup, 1, []), (2, .getfield 25, 3, [0, 1, 4, 0, 148]), (5, .iconst 1, 1, []), (6, .iload_n 1, 1, []), (7, .ishl, 1, []), (8, .ixor, 1, []), (9, .putfield 25, 3, [0, 1, 4, 0, 148]), (12, .aload_n 0, 1, []), (13, .iconst 0, 1, []), (14, .iload_n 1, 1, []), (15, .iload_n 1, 1, []), (16, .invokevirtual 101, 3, [0, 57, 0, 0, 493]), (19, .return_, 1, [])]
def mMe56 : mM := (⟨"FirstLanding$Embassy", "move", "(I)V"⟩, prog_2_method_24_code, 2, none, 1, 1, [492, 104, 491, 24], mCo56)
/-- FirstLanding$Embassy.note(III)V -/
def mCo57 : List mE := [(0, .aload_n 0, 1, []), (1, .getfield 28, 3, [0, 1, 5, 0, 151]), (4, .bipush 40, 2, []), (6, .if_icmp .ge 32, 3, [24]), (9, .aload_n 0, 1, []), (10, .getfield 18, 3, [0, 1, 2, 0, 142]), (13, .aload_n 0, 1, []), (14, .getfield 28, 3, [0, 1, 5, 0, 151]), (17, .iload_n 1, 1, []), (18, .bipush 6, 2, []), (20, .ishl, 1, []), (21, .iload_n 2, 1, []), (22, .iconst 3, 1, []), (23, .ishl, 1, []), (24, .ior, 1, []), (25, .iload_n 3, 1, []), (26, .ior, 1, []), (27, .iastore, 1, []), (28, .aload_n 0, 1, []), (29, .dup, 1, []), (30, .getfield 28, 3, [0, 1, 5, 0, 151]), (33, .iconst 1, 1, []), (34, .iadd, 1, []), (35, .putfield 28, 3, [0, 1, 5, 0, 151]), (38, .return_, 1, [])]
def mMe57 : mM := (⟨"FirstLanding$Embassy", "note", "(III)V"⟩, prog_2_method_27_code, 4, none, 1, 3, [496, 104, 495, 25], mCo57)
/-- java/lang/Integer.bitCount(I)I -/
def mCo58 : List mE := [(0, .iload_n 0, 1, []), (1, .iload_n 0, 1, []), (2, .iconst 1, 1, []), (3, .iushr, 1, []), (4, .ldc_w 265, 3, [0, 1431655765, 0, 0, 500]), (7, .iand, 1, []), (8, .isub, 1, []), (9, .istore_n 0, 1, []), (10, .iload_n 0, 1, []), (11, .ldc_w 266, 3, [0, 858993459, 0, 0, 501]), (14, .iand, 1, []), (15, .iload_n 0, 1, []), (16, .iconst 2, 1, []), (17, .iushr, 1, []), (18, .ldc_w 266, 3, [0, 858993459, 0, 0, 501]), (21, .iand, 1, []), (22, .iadd, 1, []), (23, .istore_n 0, 1, []), (24, .iload_n 0, 1, []), (25, .iload_n 0, 1, []), (26, .iconst 4, 1, []), (27, .iushr, 1, []), (28, .iadd, 1, []), (29, .ldc_w 267, 3, [0, 252645135, 0, 0, 502]), (32, .iand, 1, []), (33, .istore_n 0, 1, []), (34, .iload_n 0, 1, []), (35, .iload_n 0, 1, []), (36, .bipush 8, 2, []), (38, .iushr, 1, []), (39, .iadd, 1, []), (40, .istore_n 0, 1, []), (41, .iload_n 0, 1, []), (42, .iload_n 0, 1, []), (43, .bipush 16, 2, []), (45, .iushr, 1, []), (46, .iadd, 1, []), (47, .istore_n 0, 1, []), (48, .iload_n 0, 1, []), (49, .bipush 63, 2, []), (51, .iand, 1, []), (52, .ireturn, 1, [])]
def mMe58 : mM := (⟨"java/lang/Integer", "bitCount", "(I)I"⟩, prog_11_method_49_code, 1, (some .int), 0, 1, [499, 115, 498], mCo58)
/-- FirstLanding.meet(III)I -/
def mCo59 : List mE := [(0, .aload_n 0, 1, []), (1, .getfield 24, 3, [0, 0, 2, 0, 256]), (4, .iload_n 1, 1, []), (5, .iload_n 2, 1, []), (6, .invokevirtual 180, 3, [0, 60, 0, 1, 507]), (9, .ifCond .eq 14, 3, [12]), (12, .iload_n 3, 1, []), (13, .iconst 1, 1, []), (14, .if_icmp .lt 9, 3, [12]), (17, .iload_n 3, 1, []), (18, .bipush 9, 2, []), (20, .if_icmp .le 5, 3, [14]), (23, .iconst (-1), 1, []), (24, .ireturn, 1, []), (25, .aload_n 0, 1, []), (26, .getfield 24, 3, [0, 0, 2, 0, 256]), (29, .iload_n 1, 1, []), (30, .iload_n 2, 1, []), (31, .invokevirtual 140, 3, [0, 40, 0, 1, 457]), (34, .ifCond .eq 6, 3, [22]), (37, .bipush (-4), 2, []), (39, .ireturn, 1, []), (40, .aload_n 0, 1, []), (41, .getfield 24, 3, [0, 0, 2, 0, 256]), (44, .getfield 166, 3, [0, 1, 5, 1, 152]), (47, .bipush 40, 2, []), (49, .if_icmp .lt 6, 3, [29]), (52, .bipush (-2), 2, []), (54, .ireturn, 1, []), (55, .aload_n 0, 1, []), (56, .getfield 24, 3, [0, 0, 2, 0, 256]), (59, .iload_n 1, 1, []), (60, .iload_n 2, 1, []), (61, .iload_n 3, 1, []), (62, .invokevirtual 183, 3, [0, 61, 0, 1, 512]), (65, .aload_n 0, 1, []), (66, .getfield 24, 3, [0, 0, 2, 0, 256]), (69, .invokevirtual 187, 3, [0, 62, 0, 1, 516]), (72, .ireturn, 1, [])]
def mMe59 : mM := (⟨"FirstLanding", "meet", "(III)I"⟩, prog_1_method_16_code, 4, (some .int), 1, 3, [506, 103, 504, 505], mCo59)
/-- FirstLanding$Embassy.hasTwo(II)Z -/
def mCo60 : List mE := [(0, .aload_n 0, 1, []), (1, .iload_n 1, 1, []), (2, .invokevirtual 41, 3, [0, 35, 0, 0, 511]), (5, .ifCond .eq 20, 3, [13]), (8, .aload_n 0, 1, []), (9, .iload_n 2, 1, []), (10, .invokevirtual 41, 3, [0, 35, 0, 0, 511]), (13, .ifCond .eq 12, 3, [13]), (16, .iload_n 1, 1, []), (17, .iload_n 2, 1, []), (18, .if_icmp .eq 7, 3, [13]), (21, .iconst 1, 1, []), (22, .goto 4, 3, [14]), (25, .iconst 0, 1, []), (26, .ireturn, 1, [])]
def mMe60 : mM := (⟨"FirstLanding$Embassy", "hasTwo", "(II)Z"⟩, prog_2_method_5_code, 3, (some .boolean), 1, 2, [510, 104, 509, 26], mCo60)
/-- FirstLanding$Embassy.seeFirst(III)V -/
def mCo61 : List mE := [(0, .aload_n 0, 1, []), (1, .getfield 15, 3, [0, 1, 1, 0, 139]), (4, .bipush 6, 2, []), (6, .iload_n 1, 1, []), (7, .imul, 1, []), (8, .iload_n 2, 1, []), (9, .iadd, 1, []), (10, .iload_n 3, 1, []), (11, .iastore, 1, []), (12, .aload_n 0, 1, []), (13, .iconst 1, 1, []), (14, .iload_n 1, 1, []), (15, .iload_n 2, 1, []), (16, .invokevirtual 101, 3, [0, 57, 0, 0, 493]), (19, .return_, 1, [])]
def mMe61 : mM := (⟨"FirstLanding$Embassy", "seeFirst", "(III)V"⟩, prog_2_method_25_code, 4, none, 1, 3, [515, 104, 514, 27], mCo61)
/-- FirstLanding$Embassy.unmade()I -/
def mCo62 : List mE := [(0, .iconst 0, 1, []), (1, .istore_n 1, 1, []), (2, .iconst 0, 1, []), (3, .istore_n 2, 1, []), (4, .iload_n 2, 1, []), (5, .aload_n 0, 1, []), (6, .getfield 21, 3, [0, 1, 3, 0, 143]), (9, .if_icmp .ge 17, 3, [16]), (12, .iload_n 1, 1, []), (13, .aload_n 0, 1, []), (14, .iload_n 2, 1, []), (15, .invokevirtual 53, 3, [0, 47, 0, 0, 449]), (18, .iadd, 1, []), (19, .istore_n 1, 1, []), (20, .iinc 2 1, 3, []), (23, .goto (-19), 3, [4]), (26, .iload_n 1, 1, []), (27, .ireturn, 1, [])]
def mMe62 : mM := (⟨"FirstLanding$Embassy", "unmade", "()I"⟩, prog_2_method_15_code, 3, (some .int), 1, 0, [519, 104, 518, 28], mCo62)
/-- FirstLanding.treat(II)I -/
def mCo63 : List mE := [(0, .aload_n 0, 1, []), (1, .getfield 24, 3, [0, 0, 2, 0, 256]), (4, .iload_n 1, 1, []), (5, .iload_n 2, 1, []), (6, .invokevirtual 180, 3, [0, 60, 0, 1, 507]), (9, .ifCond .ne 5, 3, [8]), (12, .iconst (-1), 1, []), (13, .ireturn, 1, []), (14, .aload_n 0, 1, []), (15, .getfield 24, 3, [0, 0, 2, 0, 256]), (18, .iload_n 1, 1, []), (19, .iload_n 2, 1, []), (20, .invokevirtual 191, 3, [0, 64, 0, 1, 524]), (23, .ifCond .ne 6, 3, [16]), (26, .bipush (-4), 2, []), (28, .ireturn, 1, []), (29, .aload_n 0, 1, []), (30, .getfield 24, 3, [0, 0, 2, 0, 256]), (33, .getfield 166, 3, [0, 1, 5, 1, 152]), (36, .bipush 40, 2, []), (38, .if_icmp .lt 6, 3, [23]), (41, .bipush (-2), 2, []), (43, .ireturn, 1, []), (44, .aload_n 0, 1, []), (45, .getfield 24, 3, [0, 0, 2, 0, 256]), (48, .iload_n 1, 1, []), (49, .iload_n 2, 1, []), (50, .invokevirtual 194, 3, [0, 68, 0, 1, 539]), (53, .aload_n 0, 1, []), (54, .getfield 24, 3, [0, 0, 2, 0, 256]), (57, .getfield 198, 3, [0, 1, 6, 1, 154]), (60, .invokestatic 201, 3, [0, 69, 0, 0, 543]), (63, .ireturn, 1, [])]
def mMe63 : mM := (⟨"FirstLanding", "treat", "(II)I"⟩, prog_1_method_17_code, 3, (some .int), 1, 2, [523, 103, 521, 522], mCo63)
/-- FirstLanding$Embassy.mayTreat(II)Z -/
def mCo64 : List mE := [(0, .iload_n 1, 1, []), (1, .iload_n 2, 1, []), (2, .if_icmp .eq 35, 3, [21]), (5, .aload_n 0, 1, []), (6, .getfield 31, 3, [0, 1, 6, 0, 153]), (9, .iload_n 1, 1, []), (10, .iload_n 2, 1, []), (11, .invokestatic 56, 3, [0, 46, 0, 0, 444]), (14, .land, 1, []), (15, .lconst 0, 1, []), (16, .lcmp, 1, []), (17, .ifCond .ne 20, 3, [21]), (20, .aload_n 0, 1, []), (21, .iload_n 1, 1, []), (22, .iload_n 2, 1, []), (23, .aload_n 0, 1, []), (24, .getfield 25, 3, [0, 1, 4, 0, 148]), (27, .invokevirtual 97, 3, [0, 65, 0, 0, 528]), (30, .ifCond .eq 7, 3, [21]), (33, .iconst 1, 1, []), (34, .goto 4, 3, [22]), (37, .iconst 0, 1, []), (38, .ireturn, 1, [])]
def mMe64 : mM := (⟨"FirstLanding$Embassy", "mayTreat", "(II)Z"⟩, prog_2_method_23_code, 3, (some .boolean), 1, 2, [527, 104, 526, 29], mCo64)
/-- FirstLanding$Embassy.areAgreed(III)Z -/
def mCo65 : List mE := [(0, .aload_n 0, 1, []), (1, .iload_n 1, 1, []), (2, .iload_n 2, 1, []), (3, .iload_n 3, 1, []), (4, .invokevirtual 94, 3, [0, 66, 0, 0, 532]), (7, .istore 4, 2, []), (9, .iload 4, 2, []), (11, .ifCond .eq 9, 3, [11]), (14, .iload 4, 2, []), (16, .iconst 1, 1, []), (17, .if_icmp .ne 7, 3, [13]), (20, .iconst 1, 1, []), (21, .goto 4, 3, [14]), (24, .iconst 0, 1, []), (25, .ireturn, 1, [])]
def mMe65 : mM := (⟨"FirstLanding$Embassy", "areAgreed", "(III)Z"⟩, prog_2_method_20_code, 5, (some .boolean), 1, 3, [531, 104, 530, 30], mCo65)
/-- FirstLanding$Embassy.apart(III)I -/
def mCo66 : List mE := [(0, .iload_n 3, 1, []), (1, .iload_n 1, 1, []), (2, .invokestatic 81, 3, [0, 39, 0, 1, 421]), (5, .ifCond .eq 11, 3, [8]), (8, .iload_n 3, 1, []), (9, .iload_n 2, 1, []), (10, .invokestatic 81, 3, [0, 39, 0, 1, 421]), (13, .ifCond .ne 5, 3, [10]), (16, .iconst (-1), 1, []), (17, .ireturn, 1, []), (18, .aload_n 0, 1, []), (19, .aload_n 0, 1, []), (20, .getfield 9, 3, [0, 1, 0, 0, 135]), (23, .iload_n 1, 1, []), (24, .iaload, 1, []), (25, .iload_n 1, 1, []), (26, .iload_n 3, 1, []), (27, .invokevirtual 77, 3, [0, 38, 0, 0, 417]), (30, .istore 4, 2, []), (32, .aload_n 0, 1, []), (33, .aload_n 0, 1, []), (34, .getfield 9, 3, [0, 1, 0, 0, 135]), (37, .iload_n 2, 1, []), (38, .iaload, 1, []), (39, .iload_n 2, 1, []), (40, .iload_n 3, 1, []), (41, .invokevirtual 77, 3, [0, 38, 0, 0, 417]), (44, .istore 5, 2, []), (46, .iload 4, 2, []), (48, .ifCond .eq 8, 3, [32]), (51, .iload 5, 2, []), (53, .ifCond .ne 7, 3, [34]), (56, .iconst (-1), 1, []), (57, .goto 11, 3, [38]), (60, .iload 4, 2, []), (62, .iload 5, 2, []), (64, .isub, 1, []), (65, .invokestatic 91, 3, [0, 67, 0, 0, 536]), (68, .ireturn, 1, [])]
def mMe66 : mM := (⟨"FirstLanding$Embassy", "apart", "(III)I"⟩, prog_2_method_19_code, 6, (some .int), 1, 3, [535, 104, 534, 31], mCo66)
/-- java/lang/Math.abs(I)I -/
def mCo67 : List mE := [(0, .iload_n 0, 1, []), (1, .ifCond .ge 8, 3, [5]), (4, .iload_n 0, 1, []), (5, .ineg, 1, []), (6, .goto 4, 3, [6]), (9, .iload_n 0, 1, []), (10, .ireturn, 1, [])]
def mMe67 : mM := (⟨"java/lang/Math", "abs", "(I)I"⟩, prog_13_method_59_code, 1, (some .int), 0, 1, [538, 114, 537], mCo67)
/-- FirstLanding$Embassy.bind(II)V -/
def mCo68 : List mE := [(0, .aload_n 0, 1, []), (1, .dup, 1, []), (2, .getfield 31, 3, [0, 1, 6, 0, 153]), (5, .iload_n 1, 1, []), (6, .iload_n 2, 1, []), (7, .invokestatic 56, 3, [0, 46, 0, 0, 444]), (10, .lor, 1, []), (11, .putfield 31, 3, [0, 1, 6, 0, 153]), (14, .aload_n 0, 1, []), (15, .iconst 2, 1, []), (16, .iload_n 1, 1, []), (17, .iload_n 2, 1, []), (18, .invokevirtual 101, 3, [0, 57, 0, 0, 493]), (21, .return_, 1, [])]
def mMe68 : mM := (⟨"FirstLanding$Embassy", "bind", "(II)V"⟩, prog_2_method_26_code, 3, none, 1, 2, [542, 104, 541, 32], mCo68)
/-- java/lang/Long.bitCount(J)I -/
def mCo69 : List mE := [(0, .lload_n 0, 1, []), (1, .lload_n 0, 1, []), (2, .iconst 1, 1, []), (3, .lushr, 1, []), (4, .ldc2_w 314, 3, [0, 6148914691236517205, 0, 0, 546]), (7, .land, 1, []), (8, .lsub, 1, []), (9, .lstore_n 0, 1, []), (10, .lload_n 0, 1, []), (11, .ldc2_w 316, 3, [0, 3689348814741910323, 0, 0, 547]), (14, .land, 1, []), (15, .lload_n 0, 1, []), (16, .iconst 2, 1, []), (17, .lushr, 1, []), (18, .ldc2_w 316, 3, [0, 3689348814741910323, 0, 0, 547]), (21, .land, 1, []), (22, .ladd, 1, []), (23, .lstore_n 0, 1, []), (24, .lload_n 0, 1, []), (25, .lload_n 0, 1, []), (26, .iconst 4, 1, []), (27, .lushr, 1, []), (28, .ladd, 1, []), (29, .ldc2_w 318, 3, [0, 1085102592571150095, 0, 0, 548]), (32, .land, 1, []), (33, .lstore_n 0, 1, []), (34, .lload_n 0, 1, []), (35, .lload_n 0, 1, []), (36, .bipush 8, 2, []), (38, .lushr, 1, []), (39, .ladd, 1, []), (40, .lstore_n 0, 1, []), (41, .lload_n 0, 1, []), (42, .lload_n 0, 1, []), (43, .bipush 16, 2, []), (45, .lushr, 1, []), (46, .ladd, 1, []), (47, .lstore_n 0, 1, []), (48, .lload_n 0, 1, []), (49, .lload_n 0, 1, []), (50, .bipush 32, 2, []), (52, .lushr, 1, []), (53, .ladd, 1, []), (54, .lstore_n 0, 1, []), (55, .lload_n 0, 1, []), (56, .l2i, 1, []), (57, .bipush 127, 2, []), (59, .iand, 1, []), (60, .ireturn, 1, [])]
def mMe69 : mM := (⟨"java/lang/Long", "bitCount", "(J)I"⟩, prog_12_method_50_code, 2, (some .int), 0, 1, [545, 116, 544], mCo69)
/-- FirstLanding.undo(I)I -/
def mCo70 : List mE := [(0, .iload_n 1, 1, []), (1, .ifCond .lt 14, 3, [7]), (4, .iload_n 1, 1, []), (5, .aload_n 0, 1, []), (6, .getfield 24, 3, [0, 0, 2, 0, 256]), (9, .getfield 166, 3, [0, 1, 5, 1, 152]), (12, .if_icmp .lt 5, 3, [9]), (15, .iconst (-1), 1, []), (16, .ireturn, 1, []), (17, .aload_n 0, 1, []), (18, .getfield 24, 3, [0, 0, 2, 0, 256]), (21, .getfield 166, 3, [0, 1, 5, 1, 152]), (24, .iload_n 1, 1, []), (25, .isub, 1, []), (26, .istore_n 2, 1, []), (27, .aload_n 0, 1, []), (28, .getfield 24, 3, [0, 0, 2, 0, 256]), (31, .iload_n 1, 1, []), (32, .invokevirtual 206, 3, [0, 71, 0, 1, 553]), (35, .iload_n 2, 1, []), (36, .ireturn, 1, [])]
def mMe70 : mM := (⟨"FirstLanding", "undo", "(I)I"⟩, prog_1_method_18_code, 3, (some .int), 1, 1, [552, 103, 550, 551], mCo70)
/-- FirstLanding$Embassy.backTo(I)V -/
def mCo71 : List mE := [(0, .aload_n 0, 1, []), (1, .getfield 28, 3, [0, 1, 5, 0, 151]), (4, .iload_n 1, 1, []), (5, .if_icmp .le 138, 3, [69]), (8, .aload_n 0, 1, []), (9, .getfield 28, 3, [0, 1, 5, 0, 151]), (12, .ifCond .le 131, 3, [69]), (15, .aload_n 0, 1, []), (16, .dup, 1, []), (17, .getfield 28, 3, [0, 1, 5, 0, 151]), (20, .iconst 1, 1, []), (21, .isub, 1, []), (22, .putfield 28, 3, [0, 1, 5, 0, 151]), (25, .aload_n 0, 1, []), (26, .getfield 18, 3, [0, 1, 2, 0, 142]), (29, .aload_n 0, 1, []), (30, .getfield 28, 3, [0, 1, 5, 0, 151]), (33, .iaload, 1, []), (34, .iconst 3, 1, []), (35, .ishr, 1, []), (36, .bipush 7, 2, []), (38, .iand, 1, []), (39, .istore_n 2, 1, []), (40, .aload_n 0, 1, []), (41, .getfield 18, 3, [0, 1, 2, 0, 142]), (44, .aload_n 0, 1, []), (45, .getfield 28, 3, [0, 1, 5, 0, 151]), (48, .iaload, 1, []), (49, .bipush 7, 2, []), (51, .iand, 1, []), (52, .istore_n 3, 1, []), (53, .aload_n 0, 1, []), (54, .getfield 18, 3, [0, 1, 2, 0, 142]), (57, .aload_n 0, 1, []), (58, .getfield 28, 3, [0, 1, 5, 0, 151]), (61, .iaload, 1, []), (62, .bipush 6, 2, []), (64, .ishr, 1, []), (65, .lookupswitch 57 #[(0, 27), (1, 42)], 27, [58, 39, 48]), (92, .aload_n 0, 1, []), (93, .dup, 1, []), (94, .getfield 25, 3, [0, 1, 4, 0, 148]), (97, .iconst 1, 1, []), (98, .iload_n 2, 1, []), (99, .ishl, 1, []), (100, .ixor, 1, []), (101, .putfield 25, 3, [0, 1, 4, 0, 148]), (104, .goto 36, 3, [68]), (107, .aload_n 0, 1, []), (108, .getfield 15, 3, [0, 1, 1, 0, 139]), (111, .bipush 6, 2, []), (113, .iload_n 2, 1, []), (114, .imul, 1, []), (115, .iload_n 3, 1, []), (116, .iadd, 1, []), (117, .iconst 0, 1, []), (118, .iastore, 1, []), (119, .goto 21, 3, [68]), (122, .aload_n 0, 1, []), (123, .dup, 1, []), (124, .getfield 31, 3, [0, 1, 6, 0, 153]), (127, .iload_n 2, 1, []), (128, .iload_n 3, 1, []), (129, .invokestatic 56, 3, [0, 46, 0, 0, 444]), (132, .ldc2_w 105, 3, [0, -1, 0, 0, 557]), (135, .lxor, 1, []), (136, .land, 1, []), (137, .putfield 31, 3, [0, 1, 6, 0, 153]), (140, .goto (-140), 3, [0]), (143, .return_, 1, [])]
def mMe71 : mM := (⟨"FirstLanding$Embassy", "backTo", "(I)V"⟩, prog_2_method_28_code, 4, none, 1, 1, [556, 104, 555, 33], mCo71)
/-- FirstLanding.keep(I)I -/
def mCo72 : List mE := [(0, .aload_n 0, 1, []), (1, .iload_n 1, 1, []), (2, .invokevirtual 209, 3, [0, 73, 0, 0, 562]), (5, .astore_n 2, 1, []), (6, .aload_n 2, 1, []), (7, .ifnonnull 5, 3, [8]), (10, .iconst (-1), 1, []), (11, .ireturn, 1, []), (12, .aload_n 0, 1, []), (13, .getfield 24, 3, [0, 0, 2, 0, 256]), (16, .getfield 130, 3, [0, 1, 3, 1, 147]), (19, .ifCond .ne 6, 3, [14]), (22, .bipush (-4), 2, []), (24, .ireturn, 1, []), (25, .aload_n 2, 1, []), (26, .aload_n 0, 1, []), (27, .getfield 24, 3, [0, 0, 2, 0, 256]), (30, .invokevirtual 126, 3, [0, 33, 0, 1, 396]), (33, .aload_n 0, 1, []), (34, .getfield 24, 3, [0, 0, 2, 0, 256]), (37, .getfield 166, 3, [0, 1, 5, 1, 152]), (40, .ireturn, 1, [])]
def mMe72 : mM := (⟨"FirstLanding", "keep", "(I)I"⟩, prog_1_method_19_code, 3, (some .int), 1, 1, [561, 103, 559, 560], mCo72)
/-- FirstLanding.keptAt(I)LFirstLanding$Embassy; -/
def mCo73 : List mE := [(0, .iload_n 1, 1, []), (1, .ifCond .lt 17, 3, [10]), (4, .iload_n 1, 1, []), (5, .iconst 3, 1, []), (6, .if_icmp .ge 12, 3, [10]), (9, .aload_n 0, 1, []), (10, .getfield 28, 3, [0, 0, 3, 0, 257]), (13, .iload_n 1, 1, []), (14, .aaload, 1, []), (15, .goto 4, 3, [11]), (18, .aconst_null, 1, []), (19, .areturn, 1, [])]
def mMe73 : mM := (⟨"FirstLanding", "keptAt", "(I)LFirstLanding$Embassy;"⟩, prog_1_method_48_code, 2, (some (.object "FirstLanding$Embassy")), 1, 1, [565, 103, 564, 34], mCo73)
/-- FirstLanding.on(I)I -/
def mCo74 : List mE := [(0, .aload_n 0, 1, []), (1, .iload_n 1, 1, []), (2, .invokevirtual 209, 3, [0, 73, 0, 0, 562]), (5, .astore_n 2, 1, []), (6, .aload_n 2, 1, []), (7, .ifnonnull 5, 3, [8]), (10, .iconst (-1), 1, []), (11, .ireturn, 1, []), (12, .aload_n 2, 1, []), (13, .getfield 130, 3, [0, 1, 3, 1, 147]), (16, .ifCond .ne 9, 3, [15]), (19, .aload_n 0, 1, []), (20, .iconst 1, 1, []), (21, .invokevirtual 77, 3, [0, 9, 0, 0, 299]), (24, .ireturn, 1, []), (25, .aload_n 0, 1, []), (26, .getfield 24, 3, [0, 0, 2, 0, 256]), (29, .aload_n 2, 1, []), (30, .invokevirtual 126, 3, [0, 33, 0, 1, 396]), (33, .aload_n 0, 1, []), (34, .getfield 24, 3, [0, 0, 2, 0, 256]), (37, .getfield 166, 3, [0, 1, 5, 1, 152]), (40, .ireturn, 1, [])]
def mMe74 : mM := (⟨"FirstLanding", "on", "(I)I"⟩, prog_1_method_20_code, 3, (some .int), 1, 1, [569, 103, 567, 568], mCo74)
/-- FirstLanding.seems(II)I -/
def mCo75 : List mE := [(0, .aload_n 0, 1, []), (1, .getfield 24, 3, [0, 0, 2, 0, 256]), (4, .iload_n 1, 1, []), (5, .invokevirtual 133, 3, [0, 35, 0, 1, 405]), (8, .ifCond .eq 14, 3, [10]), (11, .aload_n 0, 1, []), (12, .getfield 24, 3, [0, 0, 2, 0, 256]), (15, .iload_n 2, 1, []), (16, .invokevirtual 213, 3, [0, 76, 0, 1, 574]), (19, .ifCond .ne 5, 3, [12]), (22, .iconst (-1), 1, []), (23, .ireturn, 1, []), (24, .aload_n 0, 1, []), (25, .getfield 24, 3, [0, 0, 2, 0, 256]), (28, .iload_n 1, 1, []), (29, .iload_n 2, 1, []), (30, .invokevirtual 216, 3, [0, 37, 0, 1, 578]), (33, .ireturn, 1, [])]
def mMe75 : mM := (⟨"FirstLanding", "seems", "(II)I"⟩, prog_1_method_21_code, 3, (some .int), 1, 2, [573, 103, 571, 572], mCo75)
/-- FirstLanding$Embassy.hasSet(I)Z -/
def mCo76 : List mE := [(0, .iload_n 1, 1, []), (1, .ifCond .lt 17, 3, [10]), (4, .iload_n 1, 1, []), (5, .iconst 1, 1, []), (6, .aload_n 0, 1, []), (7, .getfield 21, 3, [0, 1, 3, 0, 143]), (10, .ishl, 1, []), (11, .if_icmp .ge 7, 3, [10]), (14, .iconst 1, 1, []), (15, .goto 4, 3, [11]), (18, .iconst 0, 1, []), (19, .ireturn, 1, [])]
def mMe76 : mM := (⟨"FirstLanding$Embassy", "hasSet", "(I)Z"⟩, prog_2_method_6_code, 2, (some .boolean), 1, 1, [577, 104, 576, 35], mCo76)
/-- FirstLanding.there(I)I -/
def mCo77 : List mE := [(0, .aload_n 0, 1, []), (1, .getfield 24, 3, [0, 0, 2, 0, 256]), (4, .iload_n 1, 1, []), (5, .invokevirtual 213, 3, [0, 76, 0, 1, 574]), (8, .ifCond .ne 5, 3, [7]), (11, .iconst (-1), 1, []), (12, .ireturn, 1, []), (13, .iconst 0, 1, []), (14, .istore_n 2, 1, []), (15, .iconst 0, 1, []), (16, .istore_n 3, 1, []), (17, .iload_n 3, 1, []), (18, .aload_n 0, 1, []), (19, .getfield 24, 3, [0, 0, 2, 0, 256]), (22, .getfield 130, 3, [0, 1, 3, 1, 147]), (25, .if_icmp .ge 35, 3, [34]), (28, .iload_n 1, 1, []), (29, .iload_n 3, 1, []), (30, .invokestatic 219, 3, [0, 39, 0, 0, 583]), (33, .ifCond .eq 21, 3, [32]), (36, .aload_n 0, 1, []), (37, .getfield 24, 3, [0, 0, 2, 0, 256]), (40, .iload_n 3, 1, []), (41, .iload_n 1, 1, []), (42, .invokevirtual 216, 3, [0, 37, 0, 1, 578]), (45, .ifCond .le 9, 3, [32]), (48, .iload_n 2, 1, []), (49, .iconst 1, 1, []), (50, .iload_n 3, 1, []), (51, .ishl, 1, []), (52, .ior, 1, []), (53, .istore_n 2, 1, []), (54, .iinc 3 1, 3, []), (57, .goto (-40), 3, [11]), (60, .iload_n 2, 1, []), (61, .ireturn, 1, [])]
def mMe77 : mM := (⟨"FirstLanding", "there", "(I)I"⟩, prog_1_method_22_code, 4, (some .int), 1, 1, [582, 103, 580, 581], mCo77)
/-- FirstLanding.agree(I)I -/
def mCo78 : List mE := [(0, .aload_n 0, 1, []), (1, .getfield 24, 3, [0, 0, 2, 0, 256]), (4, .iload_n 1, 1, []), (5, .invokevirtual 213, 3, [0, 76, 0, 1, 574]), (8, .ifCond .ne 5, 3, [7]), (11, .iconst (-1), 1, []), (12, .ireturn, 1, []), (13, .aload_n 0, 1, []), (14, .aload_n 0, 1, []), (15, .getfield 24, 3, [0, 0, 2, 0, 256]), (18, .iload_n 1, 1, []), (19, .invokevirtual 222, 3, [0, 79, 0, 1, 588]), (22, .putfield 61, 3, [0, 0, 9, 0, 263]), (25, .aload_n 0, 1, []), (26, .getfield 24, 3, [0, 0, 2, 0, 256]), (29, .iload_n 1, 1, []), (30, .invokevirtual 225, 3, [0, 80, 0, 1, 592]), (33, .ireturn, 1, [])]
def mMe78 : mM := (⟨"FirstLanding", "agree", "(I)I"⟩, prog_1_method_23_code, 2, (some .int), 1, 1, [587, 103, 585, 586], mCo78)
/-- FirstLanding$Embassy.firstAgreeing(I)I -/
def mCo79 : List mE := [(0, .iconst 0, 1, []), (1, .istore_n 2, 1, []), (2, .iload_n 2, 1, []), (3, .aload_n 0, 1, []), (4, .getfield 21, 3, [0, 1, 3, 0, 143]), (7, .if_icmp .ge 44, 3, [30]), (10, .iload_n 2, 1, []), (11, .iconst 1, 1, []), (12, .iadd, 1, []), (13, .istore_n 3, 1, []), (14, .iload_n 3, 1, []), (15, .aload_n 0, 1, []), (16, .getfield 21, 3, [0, 1, 3, 0, 143]), (19, .if_icmp .ge 26, 3, [28]), (22, .aload_n 0, 1, []), (23, .iload_n 2, 1, []), (24, .iload_n 3, 1, []), (25, .iload_n 1, 1, []), (26, .invokevirtual 97, 3, [0, 65, 0, 0, 528]), (29, .ifCond .eq 10, 3, [26]), (32, .bipush 6, 2, []), (34, .iload_n 2, 1, []), (35, .imul, 1, []), (36, .iload_n 3, 1, []), (37, .iadd, 1, []), (38, .ireturn, 1, []), (39, .iinc 3 1, 3, []), (42, .goto (-28), 3, [10]), (45, .iinc 2 1, 3, []), (48, .goto (-46), 3, [2]), (51, .bipush (-9), 2, []), (53, .ireturn, 1, [])]
def mMe79 : mM := (⟨"FirstLanding$Embassy", "firstAgreeing", "(I)I"⟩, prog_2_method_22_code, 4, (some .int), 1, 1, [591, 104, 590, 36], mCo79)
/-- FirstLanding$Embassy.agreeing(I)I -/
def mCo80 : List mE := [(0, .iconst 0, 1, []), (1, .istore_n 2, 1, []), (2, .iconst 0, 1, []), (3, .istore_n 3, 1, []), (4, .iload_n 3, 1, []), (5, .aload_n 0, 1, []), (6, .getfield 21, 3, [0, 1, 3, 0, 143]), (9, .if_icmp .ge 43, 3, [27]), (12, .iload_n 3, 1, []), (13, .iconst 1, 1, []), (14, .iadd, 1, []), (15, .istore 4, 2, []), (17, .iload 4, 2, []), (19, .aload_n 0, 1, []), (20, .getfield 21, 3, [0, 1, 3, 0, 143]), (23, .if_icmp .ge 23, 3, [25]), (26, .aload_n 0, 1, []), (27, .iload_n 3, 1, []), (28, .iload 4, 2, []), (30, .iload_n 1, 1, []), (31, .invokevirtual 97, 3, [0, 65, 0, 0, 528]), (34, .ifCond .eq 6, 3, [23]), (37, .iinc 2 1, 3, []), (40, .iinc 4 1, 3, []), (43, .goto (-26), 3, [12]), (46, .iinc 3 1, 3, []), (49, .goto (-45), 3, [4]), (52, .iload_n 2, 1, []), (53, .ireturn, 1, [])]
def mMe80 : mM := (⟨"FirstLanding$Embassy", "agreeing", "(I)I"⟩, prog_2_method_21_code, 5, (some .int), 1, 1, [595, 104, 594, 37], mCo80)
/-- FirstLanding.well()I -/
def mCo81 : List mE := [(0, .aload_n 0, 1, []), (1, .getfield 24, 3, [0, 0, 2, 0, 256]), (4, .getfield 130, 3, [0, 1, 3, 1, 147]), (7, .ifCond .ne 6, 3, [6]), (10, .bipush (-4), 2, []), (12, .ireturn, 1, []), (13, .iconst 0, 1, []), (14, .istore_n 1, 1, []), (15, .iconst 0, 1, []), (16, .istore_n 2, 1, []), (17, .iconst 0, 1, []), (18, .istore_n 3, 1, []), (19, .iload_n 3, 1, []), (20, .iconst 1, 1, []), (21, .aload_n 0, 1, []), (22, .getfield 24, 3, [0, 0, 2, 0, 256]), (25, .getfield 130, 3, [0, 1, 3, 1, 147]), (28, .ishl, 1, []), (29, .if_icmp .ge 46, 3, [43]), (32, .iload_n 3, 1, []), (33, .invokestatic 175, 3, [0, 58, 0, 0, 497]), (36, .istore 4, 2, []), (38, .iload 4, 2, []), (40, .iload_n 1, 1, []), (41, .if_icmp .le 28, 3, [41]), (44, .aload_n 0, 1, []), (45, .getfield 24, 3, [0, 0, 2, 0, 256]), (48, .iload_n 3, 1, []), (49, .invokevirtual 225, 3, [0, 80, 0, 1, 592]), (52, .iload 4, 2, []), (54, .iload 4, 2, []), (56, .iconst 1, 1, []), (57, .isub, 1, []), (58, .imul, 1, []), (59, .iconst 2, 1, []), (60, .idiv, 1, []), (61, .if_icmp .ne 8, 3, [41]), (64, .iload 4, 2, []), (66, .istore_n 1, 1, []), (67, .iload_n 3, 1, []), (68, .istore_n 2, 1, []), (69, .iinc 3 1, 3, []), (72, .goto (-53), 3, [12]), (75, .aload_n 0, 1, []), (76, .iload_n 2, 1, []), (77, .putfield 61, 3, [0, 0, 9, 0, 263]), (80, .iload_n 1, 1, []), (81, .ireturn, 1, [])]
def mMe81 : mM := (⟨"FirstLanding", "well", "()I"⟩, prog_1_method_24_code, 5, (some .int), 1, 0, [599, 103, 597, 598], mCo81)
/-- FirstLanding.add(I)I -/
def mCo82 : List mE := [(0, .aload_n 0, 1, []), (1, .getfield 24, 3, [0, 0, 2, 0, 256]), (4, .iload_n 1, 1, []), (5, .invokevirtual 213, 3, [0, 76, 0, 1, 574]), (8, .ifCond .ne 5, 3, [7]), (11, .iconst (-1), 1, []), (12, .ireturn, 1, []), (13, .bipush (-9), 2, []), (15, .istore_n 2, 1, []), (16, .iconst (-1), 1, []), (17, .istore_n 3, 1, []), (18, .iconst 0, 1, []), (19, .istore 4, 2, []), (21, .iload 4, 2, []), (23, .aload_n 0, 1, []), (24, .getfield 24, 3, [0, 0, 2, 0, 256]), (27, .getfield 130, 3, [0, 1, 3, 1, 147]), (30, .if_icmp .ge 49, 3, [42]), (33, .iload_n 1, 1, []), (34, .iload 4, 2, []), (36, .invokestatic 219, 3, [0, 39, 0, 0, 583]), (39, .ifCond .eq 7, 3, [24]), (42, .iconst (-1), 1, []), (43, .goto 16, 3, [32]), (46, .aload_n 0, 1, []), (47, .getfield 24, 3, [0, 0, 2, 0, 256]), (50, .iload_n 1, 1, []), (51, .iconst 1, 1, []), (52, .iload 4, 2, []), (54, .ishl, 1, []), (55, .ior, 1, []), (56, .invokevirtual 225, 3, [0, 80, 0, 1, 592]), (59, .istore 5, 2, []), (61, .iload 5, 2, []), (63, .iload_n 3, 1, []), (64, .if_icmp .le 9, 3, [40]), (67, .iload 5, 2, []), (69, .istore_n 3, 1, []), (70, .iload 4, 2, []), (72, .istore_n 2, 1, []), (73, .iinc 4 1, 3, []), (76, .goto (-55), 3, [13]), (79, .iload_n 2, 1, []), (80, .bipush (-9), 2, []), (82, .if_icmp .eq 8, 3, [48]), (85, .aload_n 0, 1, []), (86, .iload_n 3, 1, []), (87, .putfield 61, 3, [0, 0, 9, 0, 263]), (90, .iload_n 2, 1, []), (91, .ireturn, 1, [])]
def mMe82 : mM := (⟨"FirstLanding", "add", "(I)I"⟩, prog_1_method_25_code, 6, (some .int), 1, 1, [603, 103, 601, 602], mCo82)
/-- FirstLanding.worst(I)I -/
def mCo83 : List mE := [(0, .aload_n 0, 1, []), (1, .getfield 24, 3, [0, 0, 2, 0, 256]), (4, .iload_n 1, 1, []), (5, .invokevirtual 213, 3, [0, 76, 0, 1, 574]), (8, .ifCond .ne 5, 3, [7]), (11, .iconst (-1), 1, []), (12, .ireturn, 1, []), (13, .bipush (-9), 2, []), (15, .istore_n 2, 1, []), (16, .iconst (-1), 1, []), (17, .istore_n 3, 1, []), (18, .iconst 0, 1, []), (19, .istore 4, 2, []), (21, .iload 4, 2, []), (23, .aload_n 0, 1, []), (24, .getfield 24, 3, [0, 0, 2, 0, 256]), (27, .getfield 130, 3, [0, 1, 3, 1, 147]), (30, .if_icmp .ge 65, 3, [49]), (33, .iload 4, 2, []), (35, .iconst 1, 1, []), (36, .iadd, 1, []), (37, .istore 5, 2, []), (39, .iload 5, 2, []), (41, .aload_n 0, 1, []), (42, .getfield 24, 3, [0, 0, 2, 0, 256]), (45, .getfield 130, 3, [0, 1, 3, 1, 147]), (48, .if_icmp .ge 41, 3, [47]), (51, .aload_n 0, 1, []), (52, .getfield 24, 3, [0, 0, 2, 0, 256]), (55, .iload 4, 2, []), (57, .iload 5, 2, []), (59, .iload_n 1, 1, []), (60, .invokevirtual 228, 3, [0, 66, 0, 1, 608]), (63, .istore 6, 2, []), (65, .iload 6, 2, []), (67, .iload_n 3, 1, []), (68, .if_icmp .le 15, 3, [45]), (71, .iload 6, 2, []), (73, .istore_n 3, 1, []), (74, .bipush 6, 2, []), (76, .iload 4, 2, []), (78, .imul, 1, []), (79, .iload 5, 2, []), (81, .iadd, 1, []), (82, .istore_n 2, 1, []), (83, .iinc 5 1, 3, []), (86, .goto (-47), 3, [22]), (89, .iinc 4 1, 3, []), (92, .goto (-71), 3, [13]), (95, .iload_n 2, 1, []), (96, .bipush (-9), 2, []), (98, .if_icmp .eq 8, 3, [55]), (101, .aload_n 0, 1, []), (102, .iload_n 3, 1, []), (103, .putfield 61, 3, [0, 0, 9, 0, 263]), (106, .iload_n 2, 1, []), (107, .ireturn, 1, [])]
def mMe83 : mM := (⟨"FirstLanding", "worst", "(I)I"⟩, prog_1_method_26_code, 7, (some .int), 1, 1, [607, 103, 605, 606], mCo83)
/-- FirstLanding.steps(I)I -/
def mCo84 : List mE := [(0, .aload_n 0, 1, []), (1, .iload_n 1, 1, []), (2, .invokevirtual 73, 3, [0, 8, 0, 0, 295]), (5, .astore_n 2, 1, []), (6, .aload_n 2, 1, []), (7, .ifnonnull 5, 3, [8]), (10, .iconst (-1), 1, []), (11, .ireturn, 1, []), (12, .aload_n 0, 1, []), (13, .getfield 24, 3, [0, 0, 2, 0, 256]), (16, .getfield 130, 3, [0, 1, 3, 1, 147]), (19, .ifCond .ne 6, 3, [14]), (22, .bipush (-4), 2, []), (24, .ireturn, 1, []), (25, .aload_n 0, 1, []), (26, .aload_n 2, 1, []), (27, .invokevirtual 232, 3, [0, 85, 0, 0, 613]), (30, .istore_n 3, 1, []), (31, .iload_n 3, 1, []), (32, .ifCond .eq 9, 3, [24]), (35, .aload_n 0, 1, []), (36, .iload_n 3, 1, []), (37, .invokevirtual 77, 3, [0, 9, 0, 0, 299]), (40, .ireturn, 1, []), (41, .aload_n 0, 1, []), (42, .getfield 42, 3, [0, 0, 5, 0, 259]), (45, .aload_n 0, 1, []), (46, .getfield 24, 3, [0, 0, 2, 0, 256]), (49, .aload_n 2, 1, []), (50, .invokevirtual 236, 3, [0, 86, 0, 1, 617]), (53, .istore 4, 2, []), (55, .iload 4, 2, []), (57, .bipush (-9), 2, []), (59, .if_icmp .eq 14, 3, [39]), (62, .aload_n 0, 1, []), (63, .aload_n 0, 1, []), (64, .getfield 42, 3, [0, 0, 5, 0, 259]), (67, .getfield 240, 3, [0, 3, 3, 1, 198]), (70, .putfield 61, 3, [0, 0, 9, 0, 263]), (73, .iload 4, 2, []), (75, .ireturn, 1, [])]
def mMe84 : mM := (⟨"FirstLanding", "steps", "(I)I"⟩, prog_1_method_27_code, 5, (some .int), 1, 1, [612, 103, 610, 611], mCo84)
/-- FirstLanding.whyNoPairs(LFirstLanding$Row;)I -/
def mCo85 : List mE := [(0, .aload_n 1, 1, []), (1, .getfield 85, 3, [0, 5, 1, 1, 231]), (4, .iconst (-1), 1, []), (5, .if_icmp .ne 5, 3, [6]), (8, .iconst 1, 1, []), (9, .ireturn, 1, []), (10, .aload_n 1, 1, []), (11, .getfield 85, 3, [0, 5, 1, 1, 231]), (14, .iconst 2, 1, []), (15, .irem, 1, []), (16, .ifCond .ne 20, 3, [19]), (19, .aload_n 1, 1, []), (20, .getfield 85, 3, [0, 5, 1, 1, 231]), (23, .iconst 2, 1, []), (24, .if_icmp .lt 12, 3, [19]), (27, .aload_n 1, 1, []), (28, .getfield 85, 3, [0, 5, 1, 1, 231]), (31, .bipush 8, 2, []), (33, .if_icmp .le 5, 3, [21]), (36, .iconst 5, 1, []), (37, .ireturn, 1, []), (38, .iconst 0, 1, []), (39, .istore_n 2, 1, []), (40, .iload_n 2, 1, []), (41, .iconst 1, 1, []), (42, .iadd, 1, []), (43, .aload_n 1, 1, []), (44, .getfield 85, 3, [0, 5, 1, 1, 231]), (47, .if_icmp .ge 35, 3, [47]), (50, .aload_n 0, 1, []), (51, .getfield 24, 3, [0, 0, 2, 0, 256]), (54, .aload_n 1, 1, []), (55, .getfield 92, 3, [0, 5, 0, 1, 228]), (58, .iload_n 2, 1, []), (59, .iaload, 1, []), (60, .aload_n 1, 1, []), (61, .getfield 92, 3, [0, 5, 0, 1, 228]), (64, .iload_n 2, 1, []), (65, .iconst 1, 1, []), (66, .iadd, 1, []), (67, .iaload, 1, []), (68, .invokevirtual 180, 3, [0, 60, 0, 1, 507]), (71, .ifCond .ne 5, 3, [45]), (74, .iconst 3, 1, []), (75, .ireturn, 1, []), (76, .iinc 2 2, 3, []), (79, .goto (-39), 3, [23]), (82, .iconst 0, 1, []), (83, .ireturn, 1, [])]
def mMe85 : mM := (⟨"FirstLanding", "whyNoPairs", "(LFirstLanding$Row;)I"⟩, prog_1_method_51_code, 3, (some .int), 1, 1, [616, 103, 615, 38], mCo85)
/-- FirstLanding$Walk.fewest(LFirstLanding$Embassy;LFirstLanding$Row;)I -/
def mCo86 : List mE := [(0, .aload_n 0, 1, []), (1, .aload_n 1, 1, []), (2, .aload_n 2, 1, []), (3, .invokevirtual 25, 3, [0, 87, 0, 0, 621]), (6, .aload_n 0, 1, []), (7, .getfield 18, 3, [0, 3, 2, 0, 196]), (10, .iconst 0, 1, []), (11, .invokestatic 29, 3, [0, 11, 0, 0, 626]), (14, .iconst 1, 1, []), (15, .aload_n 2, 1, []), (16, .getfield 35, 3, [0, 5, 1, 1, 230]), (19, .iconst 2, 1, []), (20, .idiv, 1, []), (21, .ishl, 1, []), (22, .iconst 1, 1, []), (23, .isub, 1, []), (24, .istore_n 3, 1, []), (25, .aload_n 0, 1, []), (26, .getfield 15, 3, [0, 3, 1, 0, 195]), (29, .iconst 0, 1, []), (30, .aload_n 1, 1, []), (31, .getfield 40, 3, [0, 1, 4, 1, 149]), (34, .bipush 16, 2, []), (36, .imul, 1, []), (37, .aload_n 0, 1, []), (38, .getfield 9, 3, [0, 3, 0, 0, 194]), (41, .aload_n 1, 1, []), (42, .getfield 40, 3, [0, 1, 4, 1, 149]), (45, .iaload, 1, []), (46, .iadd, 1, []), (47, .iastore, 1, []), (48, .aload_n 0, 1, []), (49, .getfield 18, 3, [0, 3, 2, 0, 196]), (52, .aload_n 0, 1, []), (53, .getfield 15, 3, [0, 3, 1, 0, 195]), (56, .iconst 0, 1, []), (57, .iaload, 1, []), (58, .iconst 1, 1, []), (59, .iastore, 1, []), (60, .iconst 1, 1, []), (61, .istore 4, 2, []), (63, .iconst 0, 1, []), (64, .istore 5, 2, []), (66, .iload 5, 2, []), (68, .iload 4, 2, []), (70, .if_icmp .ge 183, 3, [143]), (73, .iload 5, 2, []), (75, .aload_n 0, 1, []), (76, .getfield 15, 3, [0, 3, 1, 0, 195]), (79, .arraylength, 1, []), (80, .if_icmp .ge 173, 3, [143]), (83, .aload_n 0, 1, []), (84, .getfield 15, 3, [0, 3, 1, 0, 195]), (87, .iload 5, 2, []), (89, .iaload, 1, []), (90, .istore 6, 2, []), (92, .aload_n 0, 1, []), (93, .getfield 18, 3, [0, 3, 2, 0, 196]), (96, .iload 6, 2, []), (98, .iaload, 1, []), (99, .iconst 1, 1, []), (100, .isub, 1, []), (101, .istore 7, 2, []), (103, .iload 6, 2, []), (105, .bipush 16, 2, []), (107, .irem, 1, []), (108, .iload_n 3, 1, []), (109, .if_icmp .ne 28, 3, [81]), (112, .aload_n 0, 1, []), (113, .iload 7, 2, []), (115, .ifCond .ne 8, 3, [73]), (118, .bipush (-9), 2, []), (120, .goto 8, 3, [76]), (123, .iload 7, 2, []), (125, .bipush 8, 2, []), (127, .irem, 1, []), (128, .putfield 21, 3, [0, 3, 3, 0, 197]), (131, .iload 7, 2, []), (133, .bipush 8, 2, []), (135, .idiv, 1, []), (136, .ireturn, 1, []), (137, .iconst 0, 1, []), (138, .istore 8, 2, []), (140, .iload 8, 2, []), (142, .aload_n 1, 1, []), (143, .getfield 45, 3, [0, 1, 3, 1, 145]), (146, .if_icmp .ge 101, 3, [141]), (149, .iload 6, 2, []), (151, .bipush 16, 2, []), (153, .idiv, 1, []), (154, .iconst 1, 1, []), (155, .iload 8, 2, []), (157, .ishl, 1, []), (158, .ixor, 1, []), (159, .istore 9, 2, []), (161, .iload 9, 2, []), (163, .bipush 16, 2, []), (165, .imul, 1, []), (166, .iload 6, 2, []), (168, .bipush 16, 2, []), (170, .irem, 1, []), (171, .aload_n 0, 1, []), (172, .getfield 9, 3, [0, 3, 0, 0, 194]), (175, .iload 9, 2, []), (177, .iaload, 1, []), (178, .ior, 1, []), (179, .iadd, 1, []), (180, .istore 10, 2, []), (182, .aload_n 0, 1, []), (183, .getfield 18, 3, [0, 3, 2, 0, 196]), (186, .iload 10, 2, []), (188, .iaload, 1, []), (189, .ifCond .ne 52, 3, [139]), (192, .iload 4, 2, []), (194, .aload_n 0, 1, []), (195, .getfield 15, 3, [0, 3, 1, 0, 195]), (198, .arraylength, 1, []), (199, .if_icmp .ge 42, 3, [139]), (202, .aload_n 0, 1, []), (203, .getfield 18, 3, [0, 3, 2, 0, 196]), (206, .iload 10, 2, []), (208, .iconst 1, 1, []), (209, .iload 7, 2, []), (211, .ifCond .ne 11, 3, [128]), (214, .bipush 8, 2, []), (216, .iload 8, 2, []), (218, .iadd, 1, []), (219, .goto 8, 3, [131]), (222, .iload 7, 2, []), (224, .bipush 8, 2, []), (226, .iadd, 1, []), (227, .iadd, 1, []), (228, .iastore, 1, []), (229, .aload_n 0, 1, []), (230, .getfield 15, 3, [0, 3, 1, 0, 195]), (233, .iload 4, 2, []), (235, .iload 10, 2, []), (237, .iastore, 1, []), (238, .iinc 4 1, 3, []), (241, .iinc 8 1, 3, []), (244, .goto (-104), 3, [83]), (247, .iinc 5 1, 3, []), (250, .goto (-184), 3, [43]), (253, .bipush (-9), 2, []), (255, .ireturn, 1, [])]
def mMe86 : mM := (⟨"FirstLanding$Walk", "fewest", "(LFirstLanding$Embassy;LFirstLanding$Row;)I"⟩, prog_8_method_2_code, 11, (some .int), 1, 2, [620, 106, 619, 39], mCo86)
/-- FirstLanding$Walk.learn(LFirstLanding$Embassy;LFirstLanding$Row;)V -/
def mCo87 : List mE := [(0, .iconst 0, 1, []), (1, .istore_n 3, 1, []), (2, .iload_n 3, 1, []), (3, .iconst 1, 1, []), (4, .aload_n 1, 1, []), (5, .getfield 45, 3, [0, 1, 3, 1, 145]), (8, .ishl, 1, []), (9, .if_icmp .ge 75, 3, [51]), (12, .aload_n 0, 1, []), (13, .getfield 9, 3, [0, 3, 0, 0, 194]), (16, .iload_n 3, 1, []), (17, .iconst 0, 1, []), (18, .iastore, 1, []), (19, .iconst 0, 1, []), (20, .istore 4, 2, []), (22, .iload 4, 2, []), (24, .iconst 1, 1, []), (25, .iadd, 1, []), (26, .aload_n 2, 1, []), (27, .getfield 35, 3, [0, 5, 1, 1, 230]), (30, .if_icmp .ge 48, 3, [49]), (33, .aload_n 1, 1, []), (34, .aload_n 2, 1, []), (35, .getfield 48, 3, [0, 5, 0, 1, 227]), (38, .iload 4, 2, []), (40, .iaload, 1, []), (41, .aload_n 2, 1, []), (42, .getfield 48, 3, [0, 5, 0, 1, 227]), (45, .iload 4, 2, []), (47, .iconst 1, 1, []), (48, .iadd, 1, []), (49, .iaload, 1, []), (50, .iload_n 3, 1, []), (51, .invokevirtual 51, 3, [0, 65, 0, 1, 625]), (54, .ifCond .eq 18, 3, [47]), (57, .aload_n 0, 1, []), (58, .getfield 9, 3, [0, 3, 0, 0, 194]), (61, .iload_n 3, 1, []), (62, .dup2, 1, []), (63, .iaload, 1, []), (64, .iconst 1, 1, []), (65, .iload 4, 2, []), (67, .iconst 2, 1, []), (68, .idiv, 1, []), (69, .ishl, 1, []), (70, .ior, 1, []), (71, .iastore, 1, []), (72, .iinc 4 2, 3, []), (75, .goto (-53), 3, [15]), (78, .iinc 3 1, 3, []), (81, .goto (-79), 3, [2]), (84, .return_, 1, [])]
def mMe87 : mM := (⟨"FirstLanding$Walk", "learn", "(LFirstLanding$Embassy;LFirstLanding$Row;)V"⟩, prog_8_method_3_code, 5, none, 1, 2, [624, 106, 623, 40], mCo87)
/-- FirstLanding.meetings(III)I -/
def mCo88 : List mE := [(0, .aload_n 0, 1, []), (1, .getfield 24, 3, [0, 0, 2, 0, 256]), (4, .iload_n 1, 1, []), (5, .invokevirtual 133, 3, [0, 35, 0, 1, 405]), (8, .ifCond .eq 24, 3, [15]), (11, .aload_n 0, 1, []), (12, .getfield 24, 3, [0, 0, 2, 0, 256]), (15, .iload_n 2, 1, []), (16, .invokevirtual 213, 3, [0, 76, 0, 1, 574]), (19, .ifCond .eq 13, 3, [15]), (22, .iload_n 3, 1, []), (23, .ifCond .lt 9, 3, [15]), (26, .iload_n 3, 1, []), (27, .bipush 9, 2, []), (29, .if_icmp .le 5, 3, [17]), (32, .iconst (-1), 1, []), (33, .ireturn, 1, []), (34, .aload_n 0, 1, []), (35, .getfield 49, 3, [0, 0, 6, 0, 260]), (38, .aload_n 0, 1, []), (39, .getfield 24, 3, [0, 0, 2, 0, 256]), (42, .iload_n 1, 1, []), (43, .iload_n 2, 1, []), (44, .iload_n 3, 1, []), (45, .invokevirtual 243, 3, [0, 89, 0, 1, 631]), (48, .ireturn, 1, [])]
def mMe88 : mM := (⟨"FirstLanding", "meetings", "(III)I"⟩, prog_1_method_28_code, 4, (some .int), 1, 3, [630, 103, 628, 629], mCo88)
/-- FirstLanding$Meetings.fewest(LFirstLanding$Embassy;III)I -/
def mCo89 : List mE := [(0, .aload_n 1, 1, []), (1, .getfield 18, 3, [0, 1, 0, 1, 136]), (4, .iload_n 2, 1, []), (5, .iaload, 1, []), (6, .istore 5, 2, []), (8, .iconst 0, 1, []), (9, .istore 6, 2, []), (11, .aload_n 0, 1, []), (12, .getfield 11, 3, [0, 4, 0, 0, 214]), (15, .bipush 100, 2, []), (17, .invokestatic 23, 3, [0, 11, 0, 0, 635]), (20, .aload_n 0, 1, []), (21, .getfield 11, 3, [0, 4, 0, 0, 214]), (24, .iconst 0, 1, []), (25, .iconst 0, 1, []), (26, .iastore, 1, []), (27, .iconst 0, 1, []), (28, .istore 7, 2, []), (30, .iload 7, 2, []), (32, .aload_n 1, 1, []), (33, .getfield 29, 3, [0, 1, 3, 1, 144]), (36, .if_icmp .ge 50, 3, [44]), (39, .iload 7, 2, []), (41, .iload_n 2, 1, []), (42, .if_icmp .eq 38, 3, [42]), (45, .iload_n 3, 1, []), (46, .iload 7, 2, []), (48, .invokestatic 33, 3, [0, 39, 0, 1, 636]), (51, .ifCond .eq 29, 3, [42]), (54, .aload_n 0, 1, []), (55, .iload 5, 2, []), (57, .aload_n 1, 1, []), (58, .iload_n 2, 1, []), (59, .iload 7, 2, []), (61, .invokevirtual 37, 3, [0, 40, 0, 1, 637]), (64, .iload 6, 2, []), (66, .ifCond .ne 7, 3, [39]), (69, .iconst 1, 1, []), (70, .goto 4, 3, [40]), (73, .iconst 0, 1, []), (74, .invokevirtual 41, 3, [0, 90, 0, 0, 638]), (77, .iinc 6 1, 3, []), (80, .iinc 7 1, 3, []), (83, .goto (-53), 3, [18]), (86, .bipush 100, 2, []), (88, .istore 7, 2, []), (90, .iconst 0, 1, []), (91, .istore 8, 2, []), (93, .iload 8, 2, []), (95, .bipush 55, 2, []), (97, .if_icmp .ge 37, 3, [66]), (100, .iload 5, 2, []), (102, .iload 8, 2, []), (104, .iload 6, 2, []), (106, .invokestatic 45, 3, [0, 44, 0, 1, 645]), (109, .iload 4, 2, []), (111, .if_icmp .ne 17, 3, [64]), (114, .iload 7, 2, []), (116, .aload_n 0, 1, []), (117, .getfield 11, 3, [0, 4, 0, 0, 214]), (120, .iload 8, 2, []), (122, .iaload, 1, []), (123, .invokestatic 51, 3, [0, 43, 0, 0, 644]), (126, .istore 7, 2, []), (128, .iinc 8 1, 3, []), (131, .goto (-38), 3, [48]), (134, .iload 7, 2, []), (136, .bipush 100, 2, []), (138, .if_icmp .ne 8, 3, [71]), (141, .bipush (-9), 2, []), (143, .goto 5, 3, [72]), (146, .iload 7, 2, []), (148, .ireturn, 1, [])]
def mMe89 : mM := (⟨"FirstLanding$Meetings", "fewest", "(LFirstLanding$Embassy;III)I"⟩, prog_4_method_2_code, 9, (some .int), 1, 4, [634, 107, 633, 41], mCo89)
/-- FirstLanding$Meetings.foldIn(IIZ)V -/
def mCo90 : List mE := [(0, .aload_n 0, 1, []), (1, .getfield 11, 3, [0, 4, 0, 0, 214]), (4, .iconst 0, 1, []), (5, .aload_n 0, 1, []), (6, .getfield 15, 3, [0, 4, 1, 0, 215]), (9, .iconst 0, 1, []), (10, .bipush 55, 2, []), (12, .invokestatic 56, 3, [0, 0, 2, 0, 642, 335, 334, 112]), (15, .aload_n 0, 1, []), (16, .getfield 11, 3, [0, 4, 0, 0, 214]), (19, .bipush 100, 2, []), (21, .invokestatic 23, 3, [0, 11, 0, 0, 635]), (24, .iload_n 2, 1, []), (25, .ifCond .ne 8, 3, [16]), (28, .bipush 9, 2, []), (30, .goto 4, 3, [17]), (33, .iload_n 2, 1, []), (34, .istore 4, 2, []), (36, .iconst 0, 1, []), (37, .istore 5, 2, []), (39, .iload 5, 2, []), (41, .bipush 55, 2, []), (43, .if_icmp .ge 95, 3, [69]), (46, .iload_n 2, 1, []), (47, .istore 6, 2, []), (49, .iload 6, 2, []), (51, .iload 4, 2, []), (53, .if_icmp .gt 79, 3, [67]), (56, .aload_n 0, 1, []), (57, .getfield 15, 3, [0, 4, 1, 0, 215]), (60, .iload 5, 2, []), (62, .iaload, 1, []), (63, .bipush 100, 2, []), (65, .if_icmp .ge 67, 3, [67]), (68, .iload_n 1, 1, []), (69, .iload 5, 2, []), (71, .iload 6, 2, []), (73, .iload_n 3, 1, []), (74, .invokestatic 62, 3, [0, 41, 0, 1, 643]), (77, .istore 7, 2, []), (79, .aload_n 0, 1, []), (80, .getfield 15, 3, [0, 4, 1, 0, 215]), (83, .iload 5, 2, []), (85, .iaload, 1, []), (86, .iload 6, 2, []), (88, .iload_n 2, 1, []), (89, .if_icmp .ne 7, 3, [49]), (92, .iconst 0, 1, []), (93, .goto 4, 3, [50]), (96, .iconst 1, 1, []), (97, .iadd, 1, []), (98, .istore 8, 2, []), (100, .iload 7, 2, []), (102, .bipush 55, 2, []), (104, .if_icmp .ge 22, 3, [65]), (107, .aload_n 0, 1, []), (108, .getfield 11, 3, [0, 4, 0, 0, 214]), (111, .iload 7, 2, []), (113, .aload_n 0, 1, []), (114, .getfield 11, 3, [0, 4, 0, 0, 214]), (117, .iload 7, 2, []), (119, .iaload, 1, []), (120, .iload 8, 2, []), (122, .invokestatic 51, 3, [0, 43, 0, 0, 644]), (125, .iastore, 1, []), (126, .iinc 6 1, 3, []), (129, .goto (-80), 3, [25]), (132, .iinc 5 1, 3, []), (135, .goto (-96), 3, [20]), (138, .return_, 1, [])]
def mMe90 : mM := (⟨"FirstLanding$Meetings", "foldIn", "(IIZ)V"⟩, prog_4_method_3_code, 9, none, 1, 3, [641, 107, 640, 42], mCo90)
/-- FirstLanding.fits(III)I -/
def mCo91 : List mE := [(0, .aload_n 0, 1, []), (1, .iload_n 3, 1, []), (2, .invokevirtual 73, 3, [0, 8, 0, 0, 295]), (5, .astore 4, 2, []), (7, .aload 4, 2, []), (9, .ifnull 15, 3, [12]), (12, .aload_n 0, 1, []), (13, .getfield 24, 3, [0, 0, 2, 0, 256]), (16, .iload_n 1, 1, []), (17, .iload_n 2, 1, []), (18, .invokevirtual 180, 3, [0, 60, 0, 1, 507]), (21, .ifCond .ne 5, 3, [14]), (24, .iconst (-1), 1, []), (25, .ireturn, 1, []), (26, .aload_n 0, 1, []), (27, .aload 4, 2, []), (29, .invokevirtual 246, 3, [0, 92, 0, 0, 650]), (32, .istore 5, 2, []), (34, .iload 5, 2, []), (36, .ifCond .eq 10, 3, [24]), (39, .aload_n 0, 1, []), (40, .iload 5, 2, []), (42, .invokevirtual 77, 3, [0, 9, 0, 0, 299]), (45, .ireturn, 1, []), (46, .bipush 6, 2, []), (48, .iload_n 1, 1, []), (49, .imul, 1, []), (50, .iload_n 2, 1, []), (51, .iadd, 1, []), (52, .istore 6, 2, []), (54, .aload_n 0, 1, []), (55, .getfield 24, 3, [0, 0, 2, 0, 256]), (58, .getfield 249, 3, [0, 1, 1, 1, 141]), (61, .iload 6, 2, []), (63, .iaload, 1, []), (64, .istore 7, 2, []), (66, .iconst 0, 1, []), (67, .istore 8, 2, []), (69, .iconst 0, 1, []), (70, .istore 9, 2, []), (72, .iload 9, 2, []), (74, .bipush 9, 2, []), (76, .if_icmp .gt 49, 3, [67]), (79, .aload_n 0, 1, []), (80, .getfield 24, 3, [0, 0, 2, 0, 256]), (83, .getfield 249, 3, [0, 1, 1, 1, 141]), (86, .iload 6, 2, []), (88, .iload 9, 2, []), (90, .iastore, 1, []), (91, .aload_n 0, 1, []), (92, .iload_n 1, 1, []), (93, .aload_n 0, 1, []), (94, .getfield 24, 3, [0, 0, 2, 0, 256]), (97, .getfield 143, 3, [0, 1, 0, 1, 138]), (100, .iload_n 1, 1, []), (101, .iaload, 1, []), (102, .aload 4, 2, []), (104, .invokevirtual 252, 3, [0, 93, 0, 0, 654]), (107, .ifCond .eq 12, 3, [65]), (110, .iload 8, 2, []), (112, .iconst 1, 1, []), (113, .iload 9, 2, []), (115, .ishl, 1, []), (116, .ior, 1, []), (117, .istore 8, 2, []), (119, .iinc 9 1, 3, []), (122, .goto (-50), 3, [40]), (125, .aload_n 0, 1, []), (126, .getfield 24, 3, [0, 0, 2, 0, 256]), (129, .getfield 249, 3, [0, 1, 1, 1, 141]), (132, .iload 6, 2, []), (134, .iload 7, 2, []), (136, .iastore, 1, []), (137, .iload 8, 2, []), (139, .ireturn, 1, [])]
def mMe91 : mM := (⟨"FirstLanding", "fits", "(III)I"⟩, prog_1_method_29_code, 10, (some .int), 1, 3, [649, 103, 647, 648], mCo91)
/-- FirstLanding.whyNoNotes(LFirstLanding$Row;)I -/
def mCo92 : List mE := [(0, .aload_n 1, 1, []), (1, .getfield 85, 3, [0, 5, 1, 1, 231]), (4, .iconst (-1), 1, []), (5, .if_icmp .ne 5, 3, [6]), (8, .iconst 1, 1, []), (9, .ireturn, 1, []), (10, .aload_n 1, 1, []), (11, .getfield 85, 3, [0, 5, 1, 1, 231]), (14, .iconst 2, 1, []), (15, .irem, 1, []), (16, .ifCond .ne 12, 3, [15]), (19, .aload_n 1, 1, []), (20, .getfield 85, 3, [0, 5, 1, 1, 231]), (23, .bipush 12, 2, []), (25, .if_icmp .le 5, 3, [17]), (28, .iconst 5, 1, []), (29, .ireturn, 1, []), (30, .iconst 0, 1, []), (31, .istore_n 2, 1, []), (32, .iload_n 2, 1, []), (33, .iconst 1, 1, []), (34, .iadd, 1, []), (35, .aload_n 1, 1, []), (36, .getfield 85, 3, [0, 5, 1, 1, 231]), (39, .if_icmp .ge 46, 3, [49]), (42, .aload_n 1, 1, []), (43, .getfield 92, 3, [0, 5, 0, 1, 228]), (46, .iload_n 2, 1, []), (47, .iconst 1, 1, []), (48, .iadd, 1, []), (49, .iaload, 1, []), (50, .istore_n 3, 1, []), (51, .aload_n 0, 1, []), (52, .getfield 24, 3, [0, 0, 2, 0, 256]), (55, .aload_n 1, 1, []), (56, .getfield 92, 3, [0, 5, 0, 1, 228]), (59, .iload_n 2, 1, []), (60, .iaload, 1, []), (61, .invokevirtual 213, 3, [0, 76, 0, 1, 574]), (64, .ifCond .eq 13, 3, [45]), (67, .iload_n 3, 1, []), (68, .ifCond .lt 9, 3, [45]), (71, .iload_n 3, 1, []), (72, .bipush 9, 2, []), (74, .if_icmp .le 5, 3, [47]), (77, .iconst 3, 1, []), (78, .ireturn, 1, []), (79, .iinc 2 2, 3, []), (82, .goto (-50), 3, [19]), (85, .iconst 0, 1, []), (86, .ireturn, 1, [])]
def mMe92 : mM := (⟨"FirstLanding", "whyNoNotes", "(LFirstLanding$Row;)I"⟩, prog_1_method_52_code, 4, (some .int), 1, 1, [653, 103, 652, 43], mCo92)
/-- FirstLanding.isNoted(IILFirstLanding$Row;)Z -/
def mCo93 : List mE := [(0, .iconst 0, 1, []), (1, .istore 4, 2, []), (3, .iload 4, 2, []), (5, .iconst 1, 1, []), (6, .iadd, 1, []), (7, .aload_n 3, 1, []), (8, .getfield 85, 3, [0, 5, 1, 1, 231]), (11, .if_icmp .ge 39, 3, [28]), (14, .aload_n 0, 1, []), (15, .getfield 24, 3, [0, 0, 2, 0, 256]), (18, .iload_n 2, 1, []), (19, .iload_n 1, 1, []), (20, .aload_n 3, 1, []), (21, .getfield 92, 3, [0, 5, 0, 1, 228]), (24, .iload 4, 2, []), (26, .iaload, 1, []), (27, .invokevirtual 288, 3, [0, 38, 0, 1, 658]), (30, .aload_n 3, 1, []), (31, .getfield 92, 3, [0, 5, 0, 1, 228]), (34, .iload 4, 2, []), (36, .iconst 1, 1, []), (37, .iadd, 1, []), (38, .iaload, 1, []), (39, .if_icmp .eq 5, 3, [26]), (42, .iconst 0, 1, []), (43, .ireturn, 1, []), (44, .iinc 4 2, 3, []), (47, .goto (-44), 3, [2]), (50, .iconst 1, 1, []), (51, .ireturn, 1, [])]
def mMe93 : mM := (⟨"FirstLanding", "isNoted", "(IILFirstLanding$Row;)Z"⟩, prog_1_method_53_code, 5, (some .boolean), 1, 3, [657, 103, 656, 44], mCo93)
/-- FirstLanding.kinds(II)I -/
def mCo94 : List mE := [(0, .aload_n 0, 1, []), (1, .iload_n 2, 1, []), (2, .invokevirtual 73, 3, [0, 8, 0, 0, 295]), (5, .astore_n 3, 1, []), (6, .aload_n 3, 1, []), (7, .ifnull 14, 3, [11]), (10, .aload_n 0, 1, []), (11, .getfield 24, 3, [0, 0, 2, 0, 256]), (14, .iload_n 1, 1, []), (15, .invokevirtual 133, 3, [0, 35, 0, 1, 405]), (18, .ifCond .ne 5, 3, [13]), (21, .iconst (-1), 1, []), (22, .ireturn, 1, []), (23, .aload_n 0, 1, []), (24, .aload_n 3, 1, []), (25, .invokevirtual 246, 3, [0, 92, 0, 0, 650]), (28, .istore 4, 2, []), (30, .iload 4, 2, []), (32, .ifCond .eq 10, 3, [23]), (35, .aload_n 0, 1, []), (36, .iload 4, 2, []), (38, .invokevirtual 77, 3, [0, 9, 0, 0, 299]), (41, .ireturn, 1, []), (42, .iconst 0, 1, []), (43, .istore 5, 2, []), (45, .iconst 0, 1, []), (46, .istore 6, 2, []), (48, .iload 6, 2, []), (50, .bipush 6, 2, []), (52, .if_icmp .ge 29, 3, [44]), (55, .aload_n 0, 1, []), (56, .iload_n 1, 1, []), (57, .iload 6, 2, []), (59, .aload_n 3, 1, []), (60, .invokevirtual 252, 3, [0, 93, 0, 0, 654]), (63, .ifCond .eq 12, 3, [42]), (66, .iload 5, 2, []), (68, .iconst 1, 1, []), (69, .iload 6, 2, []), (71, .ishl, 1, []), (72, .ior, 1, []), (73, .istore 5, 2, []), (75, .iinc 6 1, 3, []), (78, .goto (-30), 3, [27]), (81, .iload 5, 2, []), (83, .ireturn, 1, [])]
def mMe94 : mM := (⟨"FirstLanding", "kinds", "(II)I"⟩, prog_1_method_30_code, 7, (some .int), 1, 2, [662, 103, 660, 661], mCo94)
/-- FirstLanding.tells(I)I -/
def mCo95 : List mE := [(0, .aload_n 0, 1, []), (1, .getfield 24, 3, [0, 0, 2, 0, 256]), (4, .iload_n 1, 1, []), (5, .invokevirtual 133, 3, [0, 35, 0, 1, 405]), (8, .ifCond .ne 5, 3, [7]), (11, .iconst (-1), 1, []), (12, .ireturn, 1, []), (13, .iconst 0, 1, []), (14, .istore_n 2, 1, []), (15, .iconst 0, 1, []), (16, .istore_n 3, 1, []), (17, .iconst 0, 1, []), (18, .istore 4, 2, []), (20, .iload 4, 2, []), (22, .iconst 1, 1, []), (23, .aload_n 0, 1, []), (24, .getfield 24, 3, [0, 0, 2, 0, 256]), (27, .getfield 130, 3, [0, 1, 3, 1, 147]), (30, .ishl, 1, []), (31, .if_icmp .ge 30, 3, [34]), (34, .aload_n 0, 1, []), (35, .iload_n 1, 1, []), (36, .iload 4, 2, []), (38, .invokevirtual 256, 3, [0, 96, 0, 0, 667]), (41, .istore 5, 2, []), (43, .iload 5, 2, []), (45, .iload_n 2, 1, []), (46, .if_icmp .le 9, 3, [32]), (49, .iload 5, 2, []), (51, .istore_n 2, 1, []), (52, .iload 4, 2, []), (54, .istore_n 3, 1, []), (55, .iinc 4 1, 3, []), (58, .goto (-38), 3, [13]), (61, .aload_n 0, 1, []), (62, .iload_n 2, 1, []), (63, .putfield 61, 3, [0, 0, 9, 0, 263]), (66, .iload_n 3, 1, []), (67, .ireturn, 1, [])]
def mMe95 : mM := (⟨"FirstLanding", "tells", "(I)I"⟩, prog_1_method_31_code, 6, (some .int), 1, 1, [666, 103, 664, 665], mCo95)
/-- FirstLanding.sortsByKinds(II)I -/
def mCo96 : List mE := [(0, .iconst 0, 1, []), (1, .istore_n 3, 1, []), (2, .iconst 0, 1, []), (3, .istore 4, 2, []), (5, .iload 4, 2, []), (7, .bipush 6, 2, []), (9, .if_icmp .ge 25, 3, [20]), (12, .iload_n 3, 1, []), (13, .iconst 1, 1, []), (14, .aload_n 0, 1, []), (15, .getfield 24, 3, [0, 0, 2, 0, 256]), (18, .iload 4, 2, []), (20, .iload_n 1, 1, []), (21, .iload_n 2, 1, []), (22, .invokevirtual 288, 3, [0, 38, 0, 1, 658]), (25, .ishl, 1, []), (26, .ior, 1, []), (27, .istore_n 3, 1, []), (28, .iinc 4 1, 3, []), (31, .goto (-26), 3, [4]), (34, .iload_n 3, 1, []), (35, .invokestatic 175, 3, [0, 58, 0, 0, 497]), (38, .ireturn, 1, [])]
def mMe96 : mM := (⟨"FirstLanding", "sortsByKinds", "(II)I"⟩, prog_1_method_54_code, 5, (some .int), 1, 2, [670, 103, 669, 45], mCo96)
/-- FirstLanding.knows(II)I -/
def mCo97 : List mE := [(0, .aload_n 0, 1, []), (1, .getfield 24, 3, [0, 0, 2, 0, 256]), (4, .iload_n 1, 1, []), (5, .invokevirtual 133, 3, [0, 35, 0, 1, 405]), (8, .ifCond .eq 13, 3, [10]), (11, .iload_n 2, 1, []), (12, .ifCond .lt 9, 3, [10]), (15, .iload_n 2, 1, []), (16, .bipush 9, 2, []), (18, .if_icmp .le 5, 3, [12]), (21, .iconst (-1), 1, []), (22, .ireturn, 1, []), (23, .aload_n 0, 1, []), (24, .getfield 24, 3, [0, 0, 2, 0, 256]), (27, .iload_n 1, 1, []), (28, .iload_n 2, 1, []), (29, .invokevirtual 259, 3, [0, 98, 0, 1, 675]), (32, .ireturn, 1, [])]
def mMe97 : mM := (⟨"FirstLanding", "knows", "(II)I"⟩, prog_1_method_32_code, 3, (some .int), 1, 2, [674, 103, 672, 673], mCo97)
/-- FirstLanding$Embassy.known(II)I -/
def mCo98 : List mE := [(0, .iconst 1, 1, []), (1, .iload_n 1, 1, []), (2, .ishl, 1, []), (3, .istore_n 3, 1, []), (4, .iconst 0, 1, []), (5, .istore 4, 2, []), (7, .iload 4, 2, []), (9, .iload_n 2, 1, []), (10, .if_icmp .ge 17, 3, [17]), (13, .iload_n 3, 1, []), (14, .aload_n 0, 1, []), (15, .iload_n 3, 1, []), (16, .invokevirtual 118, 3, [0, 99, 0, 0, 679]), (19, .ior, 1, []), (20, .istore_n 3, 1, []), (21, .iinc 4 1, 3, []), (24, .goto (-17), 3, [6]), (27, .iload_n 3, 1, []), (28, .ireturn, 1, [])]
def mMe98 : mM := (⟨"FirstLanding$Embassy", "known", "(II)I"⟩, prog_2_method_30_code, 5, (some .int), 1, 2, [678, 104, 677, 46], mCo98)
/-- FirstLanding$Embassy.seenBy(I)I -/
def mCo99 : List mE := [(0, .iconst 0, 1, []), (1, .istore_n 2, 1, []), (2, .iconst 0, 1, []), (3, .istore_n 3, 1, []), (4, .iload_n 3, 1, []), (5, .aload_n 0, 1, []), (6, .getfield 21, 3, [0, 1, 3, 0, 143]), (9, .if_icmp .ge 52, 3, [33]), (12, .iconst 0, 1, []), (13, .istore 4, 2, []), (15, .iload 4, 2, []), (17, .aload_n 0, 1, []), (18, .getfield 21, 3, [0, 1, 3, 0, 143]), (21, .if_icmp .ge 34, 3, [31]), (24, .iload_n 1, 1, []), (25, .iload 4, 2, []), (27, .invokestatic 81, 3, [0, 39, 0, 1, 421]), (30, .ifCond .eq 19, 3, [29]), (33, .aload_n 0, 1, []), (34, .iload_n 3, 1, []), (35, .iload 4, 2, []), (37, .invokevirtual 68, 3, [0, 40, 0, 0, 424]), (40, .ifCond .le 9, 3, [29]), (43, .iload_n 2, 1, []), (44, .iconst 1, 1, []), (45, .iload_n 3, 1, []), (46, .ishl, 1, []), (47, .ior, 1, []), (48, .istore_n 2, 1, []), (49, .iinc 4 1, 3, []), (52, .goto (-37), 3, [10]), (55, .iinc 3 1, 3, []), (58, .goto (-54), 3, [4]), (61, .iload_n 2, 1, []), (62, .ireturn, 1, [])]
def mMe99 : mM := (⟨"FirstLanding$Embassy", "seenBy", "(I)I"⟩, prog_2_method_31_code, 5, (some .int), 1, 1, [682, 104, 681, 47], mCo99)
/-- FirstLanding.hears(II)I -/
def mCo100 : List mE := [(0, .aload_n 0, 1, []), (1, .getfield 24, 3, [0, 0, 2, 0, 256]), (4, .iload_n 1, 1, []), (5, .invokevirtual 133, 3, [0, 35, 0, 1, 405]), (8, .ifCond .eq 14, 3, [10]), (11, .aload_n 0, 1, []), (12, .getfield 24, 3, [0, 0, 2, 0, 256]), (15, .iload_n 2, 1, []), (16, .invokevirtual 133, 3, [0, 35, 0, 1, 405]), (19, .ifCond .ne 5, 3, [12]), (22, .iconst (-1), 1, []), (23, .ireturn, 1, []), (24, .iconst 0, 1, []), (25, .istore_n 3, 1, []), (26, .iload_n 3, 1, []), (27, .aload_n 0, 1, []), (28, .getfield 24, 3, [0, 0, 2, 0, 256]), (31, .getfield 130, 3, [0, 1, 3, 1, 147]), (34, .if_icmp .ge 27, 3, [31]), (37, .aload_n 0, 1, []), (38, .getfield 24, 3, [0, 0, 2, 0, 256]), (41, .iload_n 1, 1, []), (42, .iload_n 3, 1, []), (43, .invokevirtual 259, 3, [0, 98, 0, 1, 675]), (46, .iload_n 2, 1, []), (47, .invokestatic 219, 3, [0, 39, 0, 0, 583]), (50, .ifCond .eq 5, 3, [29]), (53, .iload_n 3, 1, []), (54, .ireturn, 1, []), (55, .iinc 3 1, 3, []), (58, .goto (-32), 3, [14]), (61, .bipush (-9), 2, []), (63, .ireturn, 1, [])]
def mMe100 : mM := (⟨"FirstLanding", "hears", "(II)I"⟩, prog_1_method_33_code, 4, (some .int), 1, 2, [686, 103, 684, 685], mCo100)
/-- FirstLanding.missions(I)I -/
def mCo101 : List mE := [(0, .iload_n 1, 1, []), (1, .ifCond .lt 8, 3, [5]), (4, .iload_n 1, 1, []), (5, .iconst 2, 1, []), (6, .if_icmp .le 5, 3, [7]), (9, .iconst (-1), 1, []), (10, .ireturn, 1, []), (11, .aload_n 0, 1, []), (12, .getfield 24, 3, [0, 0, 2, 0, 256]), (15, .getfield 130, 3, [0, 1, 3, 1, 147]), (18, .ifCond .ne 6, 3, [13]), (21, .bipush (-4), 2, []), (23, .ireturn, 1, []), (24, .aload_n 0, 1, []), (25, .getfield 24, 3, [0, 0, 2, 0, 256]), (28, .aload_n 0, 1, []), (29, .getfield 24, 3, [0, 0, 2, 0, 256]), (32, .getfield 172, 3, [0, 1, 4, 1, 150]), (35, .iconst 2, 1, []), (36, .iload_n 1, 1, []), (37, .imul, 1, []), (38, .invokevirtual 262, 3, [0, 102, 0, 1, 691]), (41, .ireturn, 1, [])]
def mMe101 : mM := (⟨"FirstLanding", "missions", "(I)I"⟩, prog_1_method_34_code, 2, (some .int), 1, 1, [690, 103, 688, 689], mCo101)
/-- FirstLanding$Embassy.afterTurns(II)I -/
def mCo102 : List mE := [(0, .iload_n 2, 1, []), (1, .ifCond .le 15, 3, [10]), (4, .iload_n 1, 1, []), (5, .iconst 1, 1, []), (6, .aload_n 0, 1, []), (7, .getfield 21, 3, [0, 1, 3, 0, 143]), (10, .ishl, 1, []), (11, .iconst 1, 1, []), (12, .isub, 1, []), (13, .if_icmp .ne 9, 3, [14]), (16, .aload_n 0, 1, []), (17, .iload_n 1, 1, []), (18, .invokevirtual 121, 3, [0, 80, 0, 0, 695]), (21, .ireturn, 1, []), (22, .iload_n 2, 1, []), (23, .iconst 2, 1, []), (24, .irem, 1, []), (25, .ifCond .ne 7, 3, [20]), (28, .iconst 1, 1, []), (29, .goto 4, 3, [21]), (32, .iconst 0, 1, []), (33, .istore_n 3, 1, []), (34, .bipush (-9), 2, []), (36, .istore 4, 2, []), (38, .iconst 0, 1, []), (39, .istore 5, 2, []), (41, .iload 5, 2, []), (43, .aload_n 0, 1, []), (44, .getfield 21, 3, [0, 1, 3, 0, 143]), (47, .if_icmp .ge 65, 3, [61]), (50, .iload_n 1, 1, []), (51, .iload 5, 2, []), (53, .invokestatic 81, 3, [0, 39, 0, 1, 421]), (56, .ifCond .ne 50, 3, [59]), (59, .aload_n 0, 1, []), (60, .iload_n 1, 1, []), (61, .iconst 1, 1, []), (62, .iload 5, 2, []), (64, .ishl, 1, []), (65, .ior, 1, []), (66, .iload_n 2, 1, []), (67, .iconst 1, 1, []), (68, .isub, 1, []), (69, .invokevirtual 124, 3, [0, 102, 0, 0, 696]), (72, .istore 6, 2, []), (74, .iload 4, 2, []), (76, .bipush (-9), 2, []), (78, .if_icmp .eq 24, 3, [57]), (81, .iload_n 3, 1, []), (82, .ifCond .eq 13, 3, [54]), (85, .iload 6, 2, []), (87, .iload 4, 2, []), (89, .if_icmp .le 17, 3, [59]), (92, .goto 10, 3, [57]), (95, .iload 6, 2, []), (97, .iload 4, 2, []), (99, .if_icmp .ge 7, 3, [59]), (102, .iload 6, 2, []), (104, .istore 4, 2, []), (106, .iinc 5 1, 3, []), (109, .goto (-68), 3, [26]), (112, .iload 4, 2, []), (114, .ireturn, 1, [])]
def mMe102 : mM := (⟨"FirstLanding$Embassy", "afterTurns", "(II)I"⟩, prog_2_method_32_code, 7, (some .int), 1, 2, [694, 104, 693, 48], mCo102)
/-- FirstLanding.mid(II)I -/
def mCo103 : List mE := [(0, .aload_n 0, 1, []), (1, .getfield 24, 3, [0, 0, 2, 0, 256]), (4, .iload_n 1, 1, []), (5, .invokevirtual 133, 3, [0, 35, 0, 1, 405]), (8, .ifCond .eq 13, 3, [10]), (11, .iload_n 2, 1, []), (12, .ifCond .lt 9, 3, [10]), (15, .iload_n 2, 1, []), (16, .bipush 12, 2, []), (18, .if_icmp .le 5, 3, [12]), (21, .iconst (-1), 1, []), (22, .ireturn, 1, []), (23, .aload_n 0, 1, []), (24, .getfield 24, 3, [0, 0, 2, 0, 256]), (27, .getfield 172, 3, [0, 1, 4, 1, 150]), (30, .iload_n 1, 1, []), (31, .invokestatic 219, 3, [0, 39, 0, 0, 583]), (34, .ifCond .ne 6, 3, [20]), (37, .bipush (-4), 2, []), (39, .ireturn, 1, []), (40, .aload_n 0, 1, []), (41, .iload_n 1, 1, []), (42, .iload_n 2, 1, []), (43, .bipush 9, 2, []), (45, .invokevirtual 265, 3, [0, 104, 0, 0, 701]), (48, .iconst 1, 1, []), (49, .ireturn, 1, [])]
def mMe103 : mM := (⟨"FirstLanding", "mid", "(II)I"⟩, prog_1_method_35_code, 3, (some .int), 1, 2, [700, 103, 698, 699], mCo103)
/-- FirstLanding.tellWeighed(III)V -/
def mCo104 : List mE := [(0, .aload_n 0, 1, []), (1, .getfield 24, 3, [0, 0, 2, 0, 256]), (4, .getfield 172, 3, [0, 1, 4, 1, 150]), (7, .iconst 1, 1, []), (8, .iload_n 1, 1, []), (9, .ishl, 1, []), (10, .iconst (-1), 1, []), (11, .ixor, 1, []), (12, .iand, 1, []), (13, .istore 4, 2, []), (15, .lconst 0, 1, []), (16, .lstore 5, 2, []), (18, .iconst 0, 1, []), (19, .istore 7, 2, []), (21, .iload 7, 2, []), (23, .bipush 64, 2, []), (25, .if_icmp .ge 77, 3, [56]), (28, .iload 7, 2, []), (30, .iload 4, 2, []), (32, .iconst (-1), 1, []), (33, .ixor, 1, []), (34, .iand, 1, []), (35, .ifCond .ne 61, 3, [54]), (38, .iload 7, 2, []), (40, .invokestatic 175, 3, [0, 58, 0, 0, 497]), (43, .istore 8, 2, []), (45, .iload 4, 2, []), (47, .invokestatic 175, 3, [0, 58, 0, 0, 497]), (50, .iload 8, 2, []), (52, .isub, 1, []), (53, .istore 9, 2, []), (55, .aload_n 0, 1, []), (56, .getfield 24, 3, [0, 0, 2, 0, 256]), (59, .iload_n 1, 1, []), (60, .iload 7, 2, []), (62, .invokevirtual 216, 3, [0, 37, 0, 1, 578]), (65, .iload_n 3, 1, []), (66, .invokestatic 291, 3, [0, 43, 0, 0, 705]), (69, .istore 10, 2, []), (71, .lload 5, 2, []), (73, .iload 10, 2, []), (75, .i2l, 1, []), (76, .bipush 12, 2, []), (78, .iload_n 2, 1, []), (79, .isub, 1, []), (80, .iload 8, 2, []), (82, .invokestatic 296, 3, [0, 105, 0, 0, 706]), (85, .lmul, 1, []), (86, .iload_n 2, 1, []), (87, .iload 9, 2, []), (89, .invokestatic 296, 3, [0, 105, 0, 0, 706]), (92, .lmul, 1, []), (93, .ladd, 1, []), (94, .lstore 5, 2, []), (96, .iinc 7 1, 3, []), (99, .goto (-78), 3, [14]), (102, .aload_n 0, 1, []), (103, .lload 5, 2, []), (105, .bipush 12, 2, []), (107, .iload 4, 2, []), (109, .invokestatic 175, 3, [0, 58, 0, 0, 497]), (112, .invokestatic 296, 3, [0, 105, 0, 0, 706]), (115, .invokevirtual 300, 3, [0, 106, 0, 0, 709]), (118, .return_, 1, [])]
def mMe104 : mM := (⟨"FirstLanding", "tellWeighed", "(III)V"⟩, prog_1_method_55_code, 11, none, 1, 3, [704, 103, 703, 49], mCo104)
/-- FirstLanding.power(II)J -/
def mCo105 : List mE := [(0, .lconst 1, 1, []), (1, .lstore_n 2, 1, []), (2, .iconst 0, 1, []), (3, .istore 4, 2, []), (5, .iload 4, 2, []), (7, .iload_n 1, 1, []), (8, .if_icmp .ge 14, 3, [14]), (11, .lload_n 2, 1, []), (12, .iload_n 0, 1, []), (13, .i2l, 1, []), (14, .lmul, 1, []), (15, .lstore_n 2, 1, []), (16, .iinc 4 1, 3, []), (19, .goto (-14), 3, [4]), (22, .lload_n 2, 1, []), (23, .lreturn, 1, [])]
def mMe105 : mM := (⟨"FirstLanding", "power", "(II)J"⟩, prog_1_method_56_code, 5, (some .long), 0, 2, [708, 103, 707], mCo105)
/-- FirstLanding.tellRatio(JJ)V -/
def mCo106 : List mE := [(0, .lload_n 3, 1, []), (1, .lstore 5, 2, []), (3, .lload_n 1, 1, []), (4, .lstore 7, 2, []), (6, .iconst 0, 1, []), (7, .istore 9, 2, []), (9, .iload 9, 2, []), (11, .bipush 100, 2, []), (13, .if_icmp .ge 31, 3, [23]), (16, .lload 7, 2, []), (18, .lconst 0, 1, []), (19, .lcmp, 1, []), (20, .ifCond .eq 24, 3, [23]), (23, .lload 5, 2, []), (25, .lload 7, 2, []), (27, .lrem, 1, []), (28, .lstore 10, 2, []), (30, .lload 7, 2, []), (32, .lstore 5, 2, []), (34, .lload 10, 2, []), (36, .lstore 7, 2, []), (38, .iinc 9 1, 3, []), (41, .goto (-32), 3, [6]), (44, .lload 5, 2, []), (46, .lconst 0, 1, []), (47, .lcmp, 1, []), (48, .ifCond .eq 19, 3, [37]), (51, .aload_n 0, 1, []), (52, .lload_n 1, 1, []), (53, .lload 5, 2, []), (55, .ldiv, 1, []), (56, .putfield 64, 3, [0, 0, 10, 0, 264]), (59, .aload_n 0, 1, []), (60, .lload_n 3, 1, []), (61, .lload 5, 2, []), (63, .ldiv, 1, []), (64, .putfield 68, 3, [0, 0, 11, 0, 265]), (67, .return_, 1, [])]
def mMe106 : mM := (⟨"FirstLanding", "tellRatio", "(JJ)V"⟩, prog_1_method_57_code, 12, none, 1, 2, [712, 103, 711, 50], mCo106)
/-- FirstLanding.odds(II)I -/
def mCo107 : List mE := [(0, .aload_n 0, 1, []), (1, .getfield 24, 3, [0, 0, 2, 0, 256]), (4, .iload_n 1, 1, []), (5, .invokevirtual 133, 3, [0, 35, 0, 1, 405]), (8, .ifCond .eq 13, 3, [10]), (11, .iload_n 2, 1, []), (12, .ifCond .lt 9, 3, [10]), (15, .iload_n 2, 1, []), (16, .bipush 12, 2, []), (18, .if_icmp .le 5, 3, [12]), (21, .iconst (-1), 1, []), (22, .ireturn, 1, []), (23, .aload_n 0, 1, []), (24, .getfield 24, 3, [0, 0, 2, 0, 256]), (27, .getfield 172, 3, [0, 1, 4, 1, 150]), (30, .iload_n 1, 1, []), (31, .invokestatic 219, 3, [0, 39, 0, 0, 583]), (34, .ifCond .ne 6, 3, [20]), (37, .bipush (-4), 2, []), (39, .ireturn, 1, []), (40, .aload_n 0, 1, []), (41, .iload_n 1, 1, []), (42, .iload_n 2, 1, []), (43, .iconst 1, 1, []), (44, .invokevirtual 265, 3, [0, 104, 0, 0, 701]), (47, .iconst 1, 1, []), (48, .ireturn, 1, [])]
def mMe107 : mM := (⟨"FirstLanding", "odds", "(II)I"⟩, prog_1_method_36_code, 3, (some .int), 1, 2, [716, 103, 714, 715], mCo107)
/-- FirstLanding.lots(II)I -/
def mCo108 : List mE := [(0, .iload_n 1, 1, []), (1, .iconst 1, 1, []), (2, .if_icmp .lt 23, 3, [14]), (5, .iload_n 1, 1, []), (6, .bipush 20, 2, []), (8, .if_icmp .gt 17, 3, [14]), (11, .iload_n 2, 1, []), (12, .iconst 1, 1, []), (13, .if_icmp .lt 12, 3, [14]), (16, .iload_n 2, 1, []), (17, .i2l, 1, []), (18, .ldc2_w 268, 3, [0, 2147483647, 0, 0, 721]), (21, .lcmp, 1, []), (22, .ifCond .lt 5, 3, [16]), (25, .iconst (-1), 1, []), (26, .ireturn, 1, []), (27, .aload_n 0, 1, []), (28, .getfield 24, 3, [0, 0, 2, 0, 256]), (31, .getfield 130, 3, [0, 1, 3, 1, 147]), (34, .ifCond .ne 6, 3, [22]), (37, .bipush (-4), 2, []), (39, .ireturn, 1, []), (40, .aload_n 0, 1, []), (41, .getfield 24, 3, [0, 0, 2, 0, 256]), (44, .getfield 166, 3, [0, 1, 5, 1, 152]), (47, .iload_n 1, 1, []), (48, .iadd, 1, []), (49, .bipush 40, 2, []), (51, .if_icmp .le 6, 3, [31]), (54, .bipush (-2), 2, []), (56, .ireturn, 1, []), (57, .iload_n 2, 1, []), (58, .i2l, 1, []), (59, .lstore_n 3, 1, []), (60, .iconst 0, 1, []), (61, .istore 5, 2, []), (63, .iload 5, 2, []), (65, .iload_n 1, 1, []), (66, .if_icmp .ge 28, 3, [52]), (69, .ldc2_w 270, 3, [0, 48271, 0, 0, 722]), (72, .lload_n 3, 1, []), (73, .lmul, 1, []), (74, .ldc2_w 268, 3, [0, 2147483647, 0, 0, 721]), (77, .lrem, 1, []), (78, .lstore_n 3, 1, []), (79, .aload_n 0, 1, []), (80, .getfield 24, 3, [0, 0, 2, 0, 256]), (83, .lload_n 3, 1, []), (84, .l2i, 1, []), (85, .invokevirtual 272, 3, [0, 109, 0, 1, 723]), (88, .iinc 5 1, 3, []), (91, .goto (-28), 3, [36]), (94, .aload_n 0, 1, []), (95, .getfield 24, 3, [0, 0, 2, 0, 256]), (98, .getfield 198, 3, [0, 1, 6, 1, 154]), (101, .invokestatic 201, 3, [0, 69, 0, 0, 543]), (104, .ireturn, 1, [])]
def mMe108 : mM := (⟨"FirstLanding", "lots", "(II)I"⟩, prog_1_method_37_code, 6, (some .int), 1, 2, [720, 103, 718, 719], mCo108)
/-- FirstLanding$Embassy.doByLot(I)V -/
def mCo109 : List mE := [(0, .aload_n 0, 1, []), (1, .getfield 21, 3, [0, 1, 3, 0, 143]), (4, .ifCond .ne 4, 3, [4]), (7, .return_, 1, []), (8, .iload_n 1, 1, []), (9, .aload_n 0, 1, []), (10, .getfield 21, 3, [0, 1, 3, 0, 143]), (13, .irem, 1, []), (14, .istore_n 2, 1, []), (15, .iload_n 1, 1, []), (16, .bipush 64, 2, []), (18, .idiv, 1, []), (19, .aload_n 0, 1, []), (20, .getfield 21, 3, [0, 1, 3, 0, 143]), (23, .irem, 1, []), (24, .istore_n 3, 1, []), (25, .iload_n 1, 1, []), (26, .bipush 8, 2, []), (28, .idiv, 1, []), (29, .iconst 4, 1, []), (30, .irem, 1, []), (31, .ifCond .ne 21, 3, [32]), (34, .aload_n 0, 1, []), (35, .iload_n 2, 1, []), (36, .iload_n 3, 1, []), (37, .invokevirtual 107, 3, [0, 64, 0, 0, 727]), (40, .ifCond .eq 12, 3, [32]), (43, .aload_n 0, 1, []), (44, .iload_n 2, 1, []), (45, .iload_n 3, 1, []), (46, .invokevirtual 110, 3, [0, 68, 0, 0, 728]), (49, .goto 8, 3, [35]), (52, .aload_n 0, 1, []), (53, .iload_n 2, 1, []), (54, .invokevirtual 114, 3, [0, 56, 0, 0, 729]), (57, .return_, 1, [])]
def mMe109 : mM := (⟨"FirstLanding$Embassy", "doByLot", "(I)V"⟩, prog_2_method_29_code, 4, none, 1, 1, [726, 104, 725, 51], mCo109)
/-- FirstLanding.asked()I -/
def mCo110 : List mE := [(0, .aload_n 0, 1, []), (1, .getfield 61, 3, [0, 0, 9, 0, 263]), (4, .ireturn, 1, [])]
def mMe110 : mM := (⟨"FirstLanding", "asked", "()I"⟩, prog_1_method_38_code, 1, (some .int), 1, 0, [733, 103, 731, 732], mCo110)
/-- FirstLanding.upper()J -/
def mCo111 : List mE := [(0, .aload_n 0, 1, []), (1, .getfield 64, 3, [0, 0, 10, 0, 264]), (4, .lreturn, 1, [])]
def mMe111 : mM := (⟨"FirstLanding", "upper", "()J"⟩, prog_1_method_39_code, 1, (some .long), 1, 0, [737, 103, 735, 736], mCo111)
/-- FirstLanding.lower()J -/
def mCo112 : List mE := [(0, .aload_n 0, 1, []), (1, .getfield 68, 3, [0, 0, 11, 0, 265]), (4, .lreturn, 1, [])]
def mMe112 : mM := (⟨"FirstLanding", "lower", "()J"⟩, prog_1_method_40_code, 1, (some .long), 1, 0, [741, 103, 739, 740], mCo112)
/-- FirstLanding.count(I)I -/
def mCo113 : List mE := [(0, .iload_n 1, 1, []), (1, .ifCond .lt 9, 3, [5]), (4, .iload_n 1, 1, []), (5, .bipush 9, 2, []), (7, .if_icmp .le 5, 3, [7]), (10, .iconst (-1), 1, []), (11, .ireturn, 1, []), (12, .aload_n 0, 1, []), (13, .iload_n 1, 1, []), (14, .invokevirtual 275, 3, [0, 114, 0, 0, 746]), (17, .ireturn, 1, [])]
def mMe113 : mM := (⟨"FirstLanding", "count", "(I)I"⟩, prog_1_method_41_code, 2, (some .int), 1, 1, [745, 103, 743, 744], mCo113)
/-- FirstLanding.howMany(I)I -/
def mCo114 : List mE := [(0, .iload_n 1, 1, []), (1, .tableswitch 122 0 8 #[51, 59, 67, 75, 86, 94, 103, 112, 117], 51, [39, 2, 6, 10, 14, 19, 23, 28, 33, 36]), (52, .aload_n 0, 1, []), (53, .getfield 24, 3, [0, 0, 2, 0, 256]), (56, .getfield 130, 3, [0, 1, 3, 1, 147]), (59, .ireturn, 1, []), (60, .aload_n 0, 1, []), (61, .getfield 24, 3, [0, 0, 2, 0, 256]), (64, .getfield 172, 3, [0, 1, 4, 1, 150]), (67, .ireturn, 1, []), (68, .aload_n 0, 1, []), (69, .getfield 24, 3, [0, 0, 2, 0, 256]), (72, .getfield 166, 3, [0, 1, 5, 1, 152]), (75, .ireturn, 1, []), (76, .aload_n 0, 1, []), (77, .getfield 24, 3, [0, 0, 2, 0, 256]), (80, .getfield 198, 3, [0, 1, 6, 1, 154]), (83, .invokestatic 201, 3, [0, 69, 0, 0, 543]), (86, .ireturn, 1, []), (87, .aload_n 0, 1, []), (88, .getfield 24, 3, [0, 0, 2, 0, 256]), (91, .invokevirtual 187, 3, [0, 62, 0, 1, 516]), (94, .ireturn, 1, []), (95, .aload_n 0, 1, []), (96, .getfield 24, 3, [0, 0, 2, 0, 256]), (99, .iconst 1, 1, []), (100, .invokevirtual 160, 3, [0, 53, 0, 1, 476]), (103, .ireturn, 1, []), (104, .aload_n 0, 1, []), (105, .getfield 24, 3, [0, 0, 2, 0, 256]), (108, .iconst 2, 1, []), (109, .invokevirtual 160, 3, [0, 53, 0, 1, 476]), (112, .ireturn, 1, []), (113, .aload_n 0, 1, []), (114, .invokevirtual 304, 3, [0, 115, 0, 0, 750]), (117, .ireturn, 1, []), (118, .aload_n 0, 1, []), (119, .invokevirtual 307, 3, [0, 116, 0, 0, 754]), (122, .ireturn, 1, []), (123, .aload_n 0, 1, []), (124, .invokevirtual 310, 3, [0, 117, 0, 0, 758]), (127, .ireturn, 1, [])]
def mMe114 : mM := (⟨"FirstLanding", "howMany", "(I)I"⟩, prog_1_method_58_code, 2, (some .int), 1, 1, [749, 103, 748, 52], mCo114)
/-- FirstLanding.rowsThere()I -/
def mCo115 : List mE := [(0, .iconst 0, 1, []), (1, .istore_n 1, 1, []), (2, .iconst 0, 1, []), (3, .istore_n 2, 1, []), (4, .iload_n 2, 1, []), (5, .bipush 6, 2, []), (7, .if_icmp .ge 25, 3, [17]), (10, .aload_n 0, 1, []), (11, .getfield 11, 3, [0, 0, 0, 0, 254]), (14, .iload_n 2, 1, []), (15, .aaload, 1, []), (16, .getfield 85, 3, [0, 5, 1, 1, 231]), (19, .iconst (-1), 1, []), (20, .if_icmp .eq 6, 3, [15]), (23, .iinc 1 1, 3, []), (26, .iinc 2 1, 3, []), (29, .goto (-25), 3, [4]), (32, .iload_n 1, 1, []), (33, .ireturn, 1, [])]
def mMe115 : mM := (⟨"FirstLanding", "rowsThere", "()I"⟩, prog_1_method_59_code, 3, (some .int), 1, 0, [753, 103, 752, 53], mCo115)
/-- FirstLanding.textsThere()I -/
def mCo116 : List mE := [(0, .iconst 0, 1, []), (1, .istore_n 1, 1, []), (2, .iconst 0, 1, []), (3, .istore_n 2, 1, []), (4, .iload_n 2, 1, []), (5, .iconst 4, 1, []), (6, .if_icmp .ge 25, 3, [17]), (9, .aload_n 0, 1, []), (10, .getfield 17, 3, [0, 0, 1, 0, 255]), (13, .iload_n 2, 1, []), (14, .aaload, 1, []), (15, .getfield 114, 3, [0, 6, 1, 1, 247]), (18, .iconst (-1), 1, []), (19, .if_icmp .eq 6, 3, [15]), (22, .iinc 1 1, 3, []), (25, .iinc 2 1, 3, []), (28, .goto (-24), 3, [4]), (31, .iload_n 1, 1, []), (32, .ireturn, 1, [])]
def mMe116 : mM := (⟨"FirstLanding", "textsThere", "()I"⟩, prog_1_method_60_code, 3, (some .int), 1, 0, [757, 103, 756, 54], mCo116)
/-- FirstLanding.embassiesKept()I -/
def mCo117 : List mE := [(0, .iconst 0, 1, []), (1, .istore_n 1, 1, []), (2, .iconst 0, 1, []), (3, .istore_n 2, 1, []), (4, .iload_n 2, 1, []), (5, .iconst 3, 1, []), (6, .if_icmp .ge 24, 3, [16]), (9, .aload_n 0, 1, []), (10, .getfield 28, 3, [0, 0, 3, 0, 257]), (13, .iload_n 2, 1, []), (14, .aaload, 1, []), (15, .getfield 130, 3, [0, 1, 3, 1, 147]), (18, .ifCond .eq 6, 3, [14]), (21, .iinc 1 1, 3, []), (24, .iinc 2 1, 3, []), (27, .goto (-23), 3, [4]), (30, .iload_n 1, 1, []), (31, .ireturn, 1, [])]
def mMe117 : mM := (⟨"FirstLanding", "embassiesKept", "()I"⟩, prog_1_method_61_code, 3, (some .int), 1, 0, [761, 103, 760, 55], mCo117)
/-- FirstLanding.finding()I -/
def mCo118 : List mE := [(0, .aload_n 0, 1, []), (1, .getfield 57, 3, [0, 0, 8, 0, 262]), (4, .ireturn, 1, [])]
def mMe118 : mM := (⟨"FirstLanding", "finding", "()I"⟩, prog_1_method_42_code, 1, (some .int), 1, 0, [765, 103, 763, 764], mCo118)
/-- FirstLanding.findings(I)I -/
def mCo119 : List mE := [(0, .iload_n 1, 1, []), (1, .iconst 1, 1, []), (2, .if_icmp .lt 8, 3, [6]), (5, .iload_n 1, 1, []), (6, .iconst 5, 1, []), (7, .if_icmp .le 5, 3, [8]), (10, .iconst (-1), 1, []), (11, .ireturn, 1, []), (12, .aload_n 0, 1, []), (13, .getfield 53, 3, [0, 0, 7, 0, 261]), (16, .iload_n 1, 1, []), (17, .iaload, 1, []), (18, .ireturn, 1, [])]
def mMe119 : mM := (⟨"FirstLanding", "findings", "(I)I"⟩, prog_1_method_43_code, 2, (some .int), 1, 1, [769, 103, 767, 768], mCo119)
/-- FirstLanding.digest()J -/
def mCo120 : List mE := [(0, .ldc2_w 278, 3, [0, 17, 0, 0, 774]), (3, .lstore_n 1, 1, []), (4, .iconst 0, 1, []), (5, .istore_n 3, 1, []), (6, .iload_n 3, 1, []), (7, .bipush 9, 2, []), (9, .if_icmp .gt 22, 3, [18]), (12, .ldc2_w 280, 3, [0, 31, 0, 0, 775]), (15, .lload_n 1, 1, []), (16, .lmul, 1, []), (17, .aload_n 0, 1, []), (18, .iload_n 3, 1, []), (19, .invokevirtual 275, 3, [0, 114, 0, 0, 746]), (22, .i2l, 1, []), (23, .ladd, 1, []), (24, .lstore_n 1, 1, []), (25, .iinc 3 1, 3, []), (28, .goto (-22), 3, [4]), (31, .aload_n 0, 1, []), (32, .getfield 24, 3, [0, 0, 2, 0, 256]), (35, .lload_n 1, 1, []), (36, .invokevirtual 282, 3, [0, 121, 0, 1, 776]), (39, .lstore_n 1, 1, []), (40, .iconst 0, 1, []), (41, .istore_n 3, 1, []), (42, .iload_n 3, 1, []), (43, .iconst 3, 1, []), (44, .if_icmp .ge 42, 3, [49]), (47, .ldc2_w 280, 3, [0, 31, 0, 0, 775]), (50, .lload_n 1, 1, []), (51, .lmul, 1, []), (52, .aload_n 0, 1, []), (53, .getfield 28, 3, [0, 0, 3, 0, 257]), (56, .iload_n 3, 1, []), (57, .aaload, 1, []), (58, .getfield 130, 3, [0, 1, 3, 1, 147]), (61, .ifCond .ne 7, 3, [39]), (64, .iconst (-1), 1, []), (65, .goto 12, 3, [44]), (68, .aload_n 0, 1, []), (69, .getfield 28, 3, [0, 0, 3, 0, 257]), (72, .iload_n 3, 1, []), (73, .aaload, 1, []), (74, .getfield 166, 3, [0, 1, 5, 1, 152]), (77, .i2l, 1, []), (78, .ladd, 1, []), (79, .lstore_n 1, 1, []), (80, .iinc 3 1, 3, []), (83, .goto (-41), 3, [25]), (86, .iconst 0, 1, []), (87, .istore_n 3, 1, []), (88, .iload_n 3, 1, []), (89, .bipush 6, 2, []), (91, .if_icmp .ge 20, 3, [63]), (94, .aload_n 0, 1, []), (95, .getfield 11, 3, [0, 0, 0, 0, 254]), (98, .iload_n 3, 1, []), (99, .aaload, 1, []), (100, .lload_n 1, 1, []), (101, .invokevirtual 286, 3, [0, 122, 0, 1, 782]), (104, .lstore_n 1, 1, []), (105, .iinc 3 1, 3, []), (108, .goto (-20), 3, [51]), (111, .iconst 0, 1, []), (112, .istore_n 3, 1, []), (113, .iload_n 3, 1, []), (114, .iconst 4, 1, []), (115, .if_icmp .ge 20, 3, [77]), (118, .aload_n 0, 1, []), (119, .getfield 17, 3, [0, 0, 1, 0, 255]), (122, .iload_n 3, 1, []), (123, .aaload, 1, []), (124, .lload_n 1, 1, []), (125, .invokevirtual 287, 3, [0, 123, 0, 1, 787]), (128, .lstore_n 1, 1, []), (129, .iinc 3 1, 3, []), (132, .goto (-19), 3, [65]), (135, .lload_n 1, 1, []), (136, .lreturn, 1, [])]
def mMe120 : mM := (⟨"FirstLanding", "digest", "()J"⟩, prog_1_method_44_code, 4, (some .long), 1, 0, [773, 103, 771, 772], mCo120)
/-- FirstLanding$Embassy.digestedAfter(J)J -/
def mCo121 : List mE := [(0, .lload_n 1, 1, []), (1, .lstore_n 3, 1, []), (2, .iconst 0, 1, []), (3, .istore 5, 2, []), (5, .iload 5, 2, []), (7, .aload_n 0, 1, []), (8, .getfield 21, 3, [0, 1, 3, 0, 143]), (11, .if_icmp .ge 74, 3, [45]), (14, .iconst 0, 1, []), (15, .istore 6, 2, []), (17, .iload 6, 2, []), (19, .iconst 4, 1, []), (20, .if_icmp .gt 25, 3, [25]), (23, .ldc2_w 127, 3, [0, 31, 0, 0, 780]), (26, .lload_n 3, 1, []), (27, .lmul, 1, []), (28, .aload_n 0, 1, []), (29, .iload 5, 2, []), (31, .iload 6, 2, []), (33, .invokevirtual 129, 3, [0, 36, 0, 0, 781]), (36, .i2l, 1, []), (37, .ladd, 1, []), (38, .lstore_n 3, 1, []), (39, .iinc 6 1, 3, []), (42, .goto (-25), 3, [10]), (45, .iconst 0, 1, []), (46, .istore 6, 2, []), (48, .iload 6, 2, []), (50, .aload_n 0, 1, []), (51, .getfield 21, 3, [0, 1, 3, 0, 143]), (54, .if_icmp .ge 25, 3, [43]), (57, .ldc2_w 127, 3, [0, 31, 0, 0, 780]), (60, .lload_n 3, 1, []), (61, .lmul, 1, []), (62, .aload_n 0, 1, []), (63, .iload 5, 2, []), (65, .iload 6, 2, []), (67, .invokevirtual 68, 3, [0, 40, 0, 0, 424]), (70, .i2l, 1, []), (71, .ladd, 1, []), (72, .lstore_n 3, 1, []), (73, .iinc 6 1, 3, []), (76, .goto (-28), 3, [27]), (79, .iinc 5 1, 3, []), (82, .goto (-77), 3, [4]), (85, .lload_n 3, 1, []), (86, .lreturn, 1, [])]
def mMe121 : mM := (⟨"FirstLanding$Embassy", "digestedAfter", "(J)J"⟩, prog_2_method_33_code, 7, (some .long), 1, 1, [779, 104, 778, 56], mCo121)
/-- FirstLanding$Row.digestedAfter(J)J -/
def mCo122 : List mE := [(0, .ldc2_w 25, 3, [0, 31, 0, 0, 786]), (3, .lload_n 1, 1, []), (4, .lmul, 1, []), (5, .aload_n 0, 1, []), (6, .getfield 15, 3, [0, 5, 1, 0, 229]), (9, .i2l, 1, []), (10, .ladd, 1, []), (11, .lstore_n 3, 1, []), (12, .iconst 0, 1, []), (13, .istore 5, 2, []), (15, .iload 5, 2, []), (17, .aload_n 0, 1, []), (18, .getfield 15, 3, [0, 5, 1, 0, 229]), (21, .if_icmp .ge 24, 3, [26]), (24, .ldc2_w 25, 3, [0, 31, 0, 0, 786]), (27, .lload_n 3, 1, []), (28, .lmul, 1, []), (29, .aload_n 0, 1, []), (30, .getfield 9, 3, [0, 5, 0, 0, 226]), (33, .iload 5, 2, []), (35, .iaload, 1, []), (36, .i2l, 1, []), (37, .ladd, 1, []), (38, .lstore_n 3, 1, []), (39, .iinc 5 1, 3, []), (42, .goto (-27), 3, [10]), (45, .lload_n 3, 1, []), (46, .lreturn, 1, [])]
def mMe122 : mM := (⟨"FirstLanding$Row", "digestedAfter", "(J)J"⟩, prog_6_method_5_code, 6, (some .long), 1, 1, [785, 108, 784, 57], mCo122)
/-- FirstLanding$Text.digestedAfter(J)J -/
def mCo123 : List mE := [(0, .ldc2_w 25, 3, [0, 31, 0, 0, 791]), (3, .lload_n 1, 1, []), (4, .lmul, 1, []), (5, .aload_n 0, 1, []), (6, .getfield 15, 3, [0, 6, 1, 0, 245]), (9, .i2l, 1, []), (10, .ladd, 1, []), (11, .lstore_n 3, 1, []), (12, .iconst 0, 1, []), (13, .istore 5, 2, []), (15, .iload 5, 2, []), (17, .aload_n 0, 1, []), (18, .getfield 15, 3, [0, 6, 1, 0, 245]), (21, .if_icmp .ge 24, 3, [26]), (24, .ldc2_w 25, 3, [0, 31, 0, 0, 791]), (27, .lload_n 3, 1, []), (28, .lmul, 1, []), (29, .aload_n 0, 1, []), (30, .getfield 9, 3, [0, 6, 0, 0, 242]), (33, .iload 5, 2, []), (35, .baload, 1, []), (36, .i2l, 1, []), (37, .ladd, 1, []), (38, .lstore_n 3, 1, []), (39, .iinc 5 1, 3, []), (42, .goto (-27), 3, [10]), (45, .lload_n 3, 1, []), (46, .lreturn, 1, [])]
def mMe123 : mM := (⟨"FirstLanding$Text", "digestedAfter", "(J)J"⟩, prog_7_method_3_code, 6, (some .long), 1, 1, [790, 109, 789, 58], mCo123)
/-- FirstLandingModel.<init>()V -/
def mCo124 : List mE := [(0, .aload_n 0, 1, []), (1, .invokespecial 1, 3, [0, 0, 1, 0, 797, 123, 124]), (4, .aload_n 0, 1, []), (5, .bipush 6, 2, []), (7, .newarray .int, 2, [0, 0, 0, 0, 170]), (9, .putfield 7, 3, [0, 7, 0, 0, 798]), (12, .aload_n 0, 1, []), (13, .sipush 240, 3, []), (16, .newarray .int, 2, [0, 0, 0, 0, 170]), (18, .putfield 13, 3, [0, 7, 1, 0, 799]), (21, .aload_n 0, 1, []), (22, .iconst 4, 1, []), (23, .newarray .int, 2, [0, 0, 0, 0, 170]), (25, .putfield 16, 3, [0, 7, 2, 0, 800]), (28, .aload_n 0, 1, []), (29, .sipush 240, 3, []), (32, .newarray .int, 2, [0, 0, 0, 0, 170]), (34, .putfield 19, 3, [0, 7, 3, 0, 801]), (37, .aload_n 0, 1, []), (38, .sipush 201, 3, []), (41, .newarray .int, 2, [0, 0, 0, 0, 170]), (43, .putfield 22, 3, [0, 7, 4, 0, 802]), (46, .aload_n 0, 1, []), (47, .sipush 201, 3, []), (50, .newarray .int, 2, [0, 0, 0, 0, 170]), (52, .putfield 25, 3, [0, 7, 5, 0, 803]), (55, .aload_n 0, 1, []), (56, .sipush 603, 3, []), (59, .newarray .int, 2, [0, 0, 0, 0, 170]), (61, .putfield 28, 3, [0, 7, 6, 0, 804]), (64, .aload_n 0, 1, []), (65, .iconst 3, 1, []), (66, .newarray .boolean, 2, [0, 0, 0, 0, 862]), (68, .putfield 31, 3, [0, 7, 7, 0, 805]), (71, .aload_n 0, 1, []), (72, .lconst 1, 1, []), (73, .putfield 35, 3, [0, 7, 10, 0, 808]), (76, .aload_n 0, 1, []), (77, .bipush 6, 2, []), (79, .newarray .int, 2, [0, 0, 0, 0, 170]), (81, .putfield 39, 3, [0, 7, 12, 0, 810]), (84, .aload_n 0, 1, []), (85, .sipush 1024, 3, []), (88, .newarray .int, 2, [0, 0, 0, 0, 170]), (90, .putfield 42, 3, [0, 7, 15, 0, 813]), (93, .aload_n 0, 1, []), (94, .bipush 64, 2, []), (96, .newarray .int, 2, [0, 0, 0, 0, 170]), (98, .putfield 45, 3, [0, 7, 16, 0, 814]), (101, .aload_n 0, 1, []), (102, .bipush 6, 2, []), (104, .newarray .int, 2, [0, 0, 0, 0, 170]), (106, .putfield 48, 3, [0, 7, 17, 0, 815]), (109, .aload_n 0, 1, []), (110, .iconst 5, 1, []), (111, .newarray .int, 2, [0, 0, 0, 0, 170]), (113, .putfield 51, 3, [0, 7, 18, 0, 816]), (116, .aload_n 0, 1, []), (117, .iconst 5, 1, []), (118, .newarray .int, 2, [0, 0, 0, 0, 170]), (120, .putfield 54, 3, [0, 7, 19, 0, 817]), (123, .aload_n 0, 1, []), (124, .iconst 5, 1, []), (125, .newarray .int, 2, [0, 0, 0, 0, 170]), (127, .putfield 57, 3, [0, 7, 20, 0, 818]), (130, .iconst 0, 1, []), (131, .istore_n 1, 1, []), (132, .iload_n 1, 1, []), (133, .bipush 6, 2, []), (135, .if_icmp .ge 16, 3, [77]), (138, .aload_n 0, 1, []), (139, .getfield 7, 3, [0, 7, 0, 0, 798]), (142, .iload_n 1, 1, []), (143, .iconst (-1), 1, []), (144, .iastore, 1, []), (145, .iinc 1 1, 3, []), (148, .goto (-16), 3, [67]), (151, .iconst 0, 1, []), (152, .istore_n 1, 1, []), (153, .iload_n 1, 1, []), (154, .iconst 4, 1, []), (155, .if_icmp .ge 16, 3, [89]), (158, .aload_n 0, 1, []), (159, .getfield 16, 3, [0, 7, 2, 0, 800]), (162, .iload_n 1, 1, []), (163, .iconst (-1), 1, []), (164, .iastore, 1, []), (165, .iinc 1 1, 3, []), (168, .goto (-15), 3, [79]), (171, .return_, 1, [])]
def mMe124 : mM := (⟨"FirstLandingModel", "<init>", "()V"⟩, prog_10_method_1_code, 2, none, 2, 0, [796, 110, 795], mCo124)
/-- FirstLandingModel.row(II)I -/
def mCo125 : List mE := [(0, .iload_n 1, 1, []), (1, .invokestatic 75, 3, [0, 126, 0, 0, 867]), (4, .ifCond .eq 9, 3, [6]), (7, .iload_n 2, 1, []), (8, .bipush 40, 2, []), (10, .if_icmp .le 5, 3, [8]), (13, .iconst (-1), 1, []), (14, .ireturn, 1, []), (15, .iload_n 2, 1, []), (16, .ifCond .ge 9, 3, [14]), (19, .aload_n 0, 1, []), (20, .iconst 5, 1, []), (21, .invokevirtual 79, 3, [0, 128, 0, 0, 874]), (24, .ireturn, 1, []), (25, .aload_n 0, 1, []), (26, .getfield 7, 3, [0, 7, 0, 0, 798]), (29, .iload_n 1, 1, []), (30, .iload_n 2, 1, []), (31, .iastore, 1, []), (32, .iconst 0, 1, []), (33, .istore_n 3, 1, []), (34, .iload_n 3, 1, []), (35, .bipush 40, 2, []), (37, .if_icmp .ge 21, 3, [35]), (40, .aload_n 0, 1, []), (41, .getfield 13, 3, [0, 7, 1, 0, 799]), (44, .bipush 40, 2, []), (46, .iload_n 1, 1, []), (47, .imul, 1, []), (48, .iload_n 3, 1, []), (49, .iadd, 1, []), (50, .iconst 0, 1, []), (51, .iastore, 1, []), (52, .iinc 3 1, 3, []), (55, .goto (-21), 3, [21]), (58, .iload_n 2, 1, []), (59, .ireturn, 1, [])]
def mMe125 : mM := (⟨"FirstLandingModel", "row", "(II)I"⟩, prog_10_method_11_code, 4, (some .int), 1, 2, [866, 110, 864, 865], mCo125)
/-- FirstLandingModel.isRow(I)Z -/
def mCo126 : List mE := [(0, .iload_n 0, 1, []), (1, .i2l, 1, []), (2, .lconst 0, 1, []), (3, .ldc2_w 67, 3, [0, 5, 0, 0, 870]), (6, .invokestatic 69, 3, [0, 127, 0, 0, 871]), (9, .ireturn, 1, [])]
def mMe126 : mM := (⟨"FirstLandingModel", "isRow", "(I)Z"⟩, prog_10_method_9_code, 1, (some .boolean), 0, 1, [869, 110, 868], mCo126)
/-- FirstLandingModel.in(JJJ)Z -/
def mCo127 : List mE := [(0, .lload_n 0, 1, []), (1, .lload_n 2, 1, []), (2, .lcmp, 1, []), (3, .ifCond .lt 14, 3, [10]), (6, .lload_n 0, 1, []), (7, .lload 4, 2, []), (9, .lcmp, 1, []), (10, .ifCond .gt 7, 3, [10]), (13, .iconst 1, 1, []), (14, .goto 4, 3, [11]), (17, .iconst 0, 1, []), (18, .ireturn, 1, [])]
def mMe127 : mM := (⟨"FirstLandingModel", "in", "(JJJ)Z"⟩, prog_10_method_3_code, 6, (some .boolean), 0, 3, [873, 110, 872], mCo127)
/-- FirstLandingModel.found(I)I -/
def mCo128 : List mE := [(0, .aload_n 0, 1, []), (1, .iload_n 1, 1, []), (2, .putfield 60, 3, [0, 7, 11, 0, 809]), (5, .aload_n 0, 1, []), (6, .getfield 39, 3, [0, 7, 12, 0, 810]), (9, .iload_n 1, 1, []), (10, .dup2, 1, []), (11, .iaload, 1, []), (12, .iconst 1, 1, []), (13, .iadd, 1, []), (14, .iastore, 1, []), (15, .bipush (-3), 2, []), (17, .ireturn, 1, [])]
def mMe128 : mM := (⟨"FirstLandingModel", "found", "(I)I"⟩, prog_10_method_6_code, 2, (some .int), 1, 1, [877, 110, 876, 59], mCo128)
/-- FirstLandingModel.lay(III)I -/
def mCo129 : List mE := [(0, .iload_n 1, 1, []), (1, .invokestatic 75, 3, [0, 126, 0, 0, 867]), (4, .ifCond .ne 5, 3, [5]), (7, .iconst (-1), 1, []), (8, .ireturn, 1, []), (9, .aload_n 0, 1, []), (10, .getfield 7, 3, [0, 7, 0, 0, 798]), (13, .iload_n 1, 1, []), (14, .iaload, 1, []), (15, .ifCond .ge 9, 3, [14]), (18, .aload_n 0, 1, []), (19, .iconst 1, 1, []), (20, .invokevirtual 79, 3, [0, 128, 0, 0, 874]), (23, .ireturn, 1, []), (24, .iload_n 2, 1, []), (25, .i2l, 1, []), (26, .lconst 0, 1, []), (27, .aload_n 0, 1, []), (28, .getfield 7, 3, [0, 7, 0, 0, 798]), (31, .iload_n 1, 1, []), (32, .iaload, 1, []), (33, .iconst 1, 1, []), (34, .isub, 1, []), (35, .i2l, 1, []), (36, .invokestatic 69, 3, [0, 127, 0, 0, 871]), (39, .ifCond .ne 9, 3, [30]), (42, .aload_n 0, 1, []), (43, .iconst 2, 1, []), (44, .invokevirtual 79, 3, [0, 128, 0, 0, 874]), (47, .ireturn, 1, []), (48, .aload_n 0, 1, []), (49, .getfield 13, 3, [0, 7, 1, 0, 799]), (52, .bipush 40, 2, []), (54, .iload_n 1, 1, []), (55, .imul, 1, []), (56, .iload_n 2, 1, []), (57, .iadd, 1, []), (58, .iaload, 1, []), (59, .istore 4, 2, []), (61, .aload_n 0, 1, []), (62, .getfield 13, 3, [0, 7, 1, 0, 799]), (65, .bipush 40, 2, []), (67, .iload_n 1, 1, []), (68, .imul, 1, []), (69, .iload_n 2, 1, []), (70, .iadd, 1, []), (71, .iload_n 3, 1, []), (72, .iastore, 1, []), (73, .aload_n 0, 1, []), (74, .iload 4, 2, []), (76, .invokevirtual 83, 3, [0, 130, 0, 0, 882]), (79, .ireturn, 1, [])]
def mMe129 : mM := (⟨"FirstLandingModel", "lay", "(III)I"⟩, prog_10_method_12_code, 5, (some .int), 1, 3, [881, 110, 879, 880], mCo129)
/-- FirstLandingModel.tell(I)I -/
def mCo130 : List mE := [(0, .aload_n 0, 1, []), (1, .iload_n 1, 1, []), (2, .putfield 64, 3, [0, 7, 8, 0, 806]), (5, .iconst 1, 1, []), (6, .ireturn, 1, [])]
def mMe130 : mM := (⟨"FirstLandingModel", "tell", "(I)I"⟩, prog_10_method_7_code, 2, (some .int), 1, 1, [885, 110, 884, 60], mCo130)
/-- FirstLandingModel.at(II)I -/
def mCo131 : List mE := [(0, .iload_n 1, 1, []), (1, .invokestatic 75, 3, [0, 126, 0, 0, 867]), (4, .ifCond .ne 5, 3, [5]), (7, .iconst (-1), 1, []), (8, .ireturn, 1, []), (9, .aload_n 0, 1, []), (10, .getfield 7, 3, [0, 7, 0, 0, 798]), (13, .iload_n 1, 1, []), (14, .iaload, 1, []), (15, .ifCond .ge 9, 3, [14]), (18, .aload_n 0, 1, []), (19, .iconst 1, 1, []), (20, .invokevirtual 79, 3, [0, 128, 0, 0, 874]), (23, .ireturn, 1, []), (24, .iload_n 2, 1, []), (25, .i2l, 1, []), (26, .lconst 0, 1, []), (27, .aload_n 0, 1, []), (28, .getfield 7, 3, [0, 7, 0, 0, 798]), (31, .iload_n 1, 1, []), (32, .iaload, 1, []), (33, .iconst 1, 1, []), (34, .isub, 1, []), (35, .i2l, 1, []), (36, .invokestatic 69, 3, [0, 127, 0, 0, 871]), (39, .ifCond .eq 21, 3, [37]), (42, .aload_n 0, 1, []), (43, .aload_n 0, 1, []), (44, .getfield 13, 3, [0, 7, 1, 0, 799]), (47, .bipush 40, 2, []), (49, .iload_n 1, 1, []), (50, .imul, 1, []), (51, .iload_n 2, 1, []), (52, .iadd, 1, []), (53, .iaload, 1, []), (54, .invokevirtual 83, 3, [0, 130, 0, 0, 882]), (57, .goto 8, 3, [40]), (60, .aload_n 0, 1, []), (61, .iconst 2, 1, []), (62, .invokevirtual 79, 3, [0, 128, 0, 0, 874]), (65, .ireturn, 1, [])]
def mMe131 : mM := (⟨"FirstLandingModel", "at", "(II)I"⟩, prog_10_method_13_code, 3, (some .int), 1, 2, [889, 110, 887, 888], mCo131)
/-- FirstLandingModel.tear(I)I -/
def mCo132 : List mE := [(0, .iload_n 1, 1, []), (1, .invokestatic 75, 3, [0, 126, 0, 0, 867]), (4, .ifCond .ne 5, 3, [5]), (7, .iconst (-1), 1, []), (8, .ireturn, 1, []), (9, .aload_n 0, 1, []), (10, .getfield 7, 3, [0, 7, 0, 0, 798]), (13, .iload_n 1, 1, []), (14, .iaload, 1, []), (15, .ifCond .ge 9, 3, [14]), (18, .aload_n 0, 1, []), (19, .iconst 1, 1, []), (20, .invokevirtual 79, 3, [0, 128, 0, 0, 874]), (23, .ireturn, 1, []), (24, .aload_n 0, 1, []), (25, .getfield 7, 3, [0, 7, 0, 0, 798]), (28, .iload_n 1, 1, []), (29, .iconst (-1), 1, []), (30, .iastore, 1, []), (31, .iconst 1, 1, []), (32, .ireturn, 1, [])]
def mMe132 : mM := (⟨"FirstLandingModel", "tear", "(I)I"⟩, prog_10_method_14_code, 2, (some .int), 1, 1, [893, 110, 891, 892], mCo132)
/-- FirstLandingModel.copy(IIIII)I -/
def mCo133 : List mE := [(0, .iload_n 1, 1, []), (1, .invokestatic 75, 3, [0, 126, 0, 0, 867]), (4, .ifCond .eq 10, 3, [6]), (7, .iload_n 3, 1, []), (8, .invokestatic 75, 3, [0, 126, 0, 0, 867]), (11, .ifCond .ne 5, 3, [8]), (14, .iconst (-1), 1, []), (15, .ireturn, 1, []), (16, .iload 5, 2, []), (18, .ifCond .ge 9, 3, [14]), (21, .aload_n 0, 1, []), (22, .iconst 5, 1, []), (23, .invokevirtual 79, 3, [0, 128, 0, 0, 874]), (26, .ireturn, 1, []), (27, .aload_n 0, 1, []), (28, .getfield 7, 3, [0, 7, 0, 0, 798]), (31, .iload_n 1, 1, []), (32, .iaload, 1, []), (33, .ifCond .lt 12, 3, [24]), (36, .aload_n 0, 1, []), (37, .getfield 7, 3, [0, 7, 0, 0, 798]), (40, .iload_n 3, 1, []), (41, .iaload, 1, []), (42, .ifCond .ge 9, 3, [28]), (45, .aload_n 0, 1, []), (46, .iconst 1, 1, []), (47, .invokevirtual 79, 3, [0, 128, 0, 0, 874]), (50, .ireturn, 1, []), (51, .iload_n 2, 1, []), (52, .ifCond .lt 43, 3, [56]), (55, .iload 4, 2, []), (57, .ifCond .lt 38, 3, [56]), (60, .iload_n 2, 1, []), (61, .i2l, 1, []), (62, .iload 5, 2, []), (64, .i2l, 1, []), (65, .ladd, 1, []), (66, .aload_n 0, 1, []), (67, .getfield 7, 3, [0, 7, 0, 0, 798]), (70, .iload_n 1, 1, []), (71, .iaload, 1, []), (72, .i2l, 1, []), (73, .lcmp, 1, []), (74, .ifCond .gt 21, 3, [56]), (77, .iload 4, 2, []), (79, .i2l, 1, []), (80, .iload 5, 2, []), (82, .i2l, 1, []), (83, .ladd, 1, []), (84, .aload_n 0, 1, []), (85, .getfield 7, 3, [0, 7, 0, 0, 798]), (88, .iload_n 3, 1, []), (89, .iaload, 1, []), (90, .i2l, 1, []), (91, .lcmp, 1, []), (92, .ifCond .le 9, 3, [60]), (95, .aload_n 0, 1, []), (96, .iconst 2, 1, []), (97, .invokevirtual 79, 3, [0, 128, 0, 0, 874]), (100, .ireturn, 1, []), (101, .iconst 0, 1, []), (102, .istore 6, 2, []), (104, .iload 6, 2, []), (106, .iload 5, 2, []), (108, .if_icmp .ge 58, 3, [98]), (111, .iload 4, 2, []), (113, .iload_n 2, 1, []), (114, .if_icmp .le 13, 3, [74]), (117, .iload 5, 2, []), (119, .iconst 1, 1, []), (120, .isub, 1, []), (121, .iload 6, 2, []), (123, .isub, 1, []), (124, .goto 5, 3, [75]), (127, .iload 6, 2, []), (129, .istore 7, 2, []), (131, .aload_n 0, 1, []), (132, .getfield 13, 3, [0, 7, 1, 0, 799]), (135, .bipush 40, 2, []), (137, .iload_n 3, 1, []), (138, .imul, 1, []), (139, .iload 4, 2, []), (141, .iadd, 1, []), (142, .iload 7, 2, []), (144, .iadd, 1, []), (145, .aload_n 0, 1, []), (146, .getfield 13, 3, [0, 7, 1, 0, 799]), (149, .bipush 40, 2, []), (151, .iload_n 1, 1, []), (152, .imul, 1, []), (153, .iload_n 2, 1, []), (154, .iadd, 1, []), (155, .iload 7, 2, []), (157, .iadd, 1, []), (158, .iaload, 1, []), (159, .iastore, 1, []), (160, .iinc 6 1, 3, []), (163, .goto (-59), 3, [62]), (166, .iconst 1, 1, []), (167, .ireturn, 1, [])]
def mMe133 : mM := (⟨"FirstLandingModel", "copy", "(IIIII)I"⟩, prog_10_method_15_code, 8, (some .int), 1, 5, [897, 110, 895, 896], mCo133)
/-- FirstLandingModel.mean(I)I -/
def mCo134 : List mE := [(0, .iload_n 1, 1, []), (1, .invokestatic 75, 3, [0, 126, 0, 0, 867]), (4, .ifCond .ne 5, 3, [5]), (7, .iconst (-1), 1, []), (8, .ireturn, 1, []), (9, .aload_n 0, 1, []), (10, .getfield 7, 3, [0, 7, 0, 0, 798]), (13, .iload_n 1, 1, []), (14, .iaload, 1, []), (15, .ifCond .ge 9, 3, [14]), (18, .aload_n 0, 1, []), (19, .iconst 1, 1, []), (20, .invokevirtual 79, 3, [0, 128, 0, 0, 874]), (23, .ireturn, 1, []), (24, .aload_n 0, 1, []), (25, .getfield 7, 3, [0, 7, 0, 0, 798]), (28, .iload_n 1, 1, []), (29, .iaload, 1, []), (30, .ifCond .ne 9, 3, [23]), (33, .aload_n 0, 1, []), (34, .iconst 4, 1, []), (35, .invokevirtual 79, 3, [0, 128, 0, 0, 874]), (38, .ireturn, 1, []), (39, .lconst 0, 1, []), (40, .lstore_n 2, 1, []), (41, .iconst 0, 1, []), (42, .istore 4, 2, []), (44, .iload 4, 2, []), (46, .aload_n 0, 1, []), (47, .getfield 7, 3, [0, 7, 0, 0, 798]), (50, .iload_n 1, 1, []), (51, .iaload, 1, []), (52, .if_icmp .ge 25, 3, [47]), (55, .lload_n 2, 1, []), (56, .aload_n 0, 1, []), (57, .getfield 13, 3, [0, 7, 1, 0, 799]), (60, .bipush 40, 2, []), (62, .iload_n 1, 1, []), (63, .imul, 1, []), (64, .iload 4, 2, []), (66, .iadd, 1, []), (67, .iaload, 1, []), (68, .i2l, 1, []), (69, .ladd, 1, []), (70, .lstore_n 2, 1, []), (71, .iinc 4 1, 3, []), (74, .goto (-30), 3, [27]), (77, .aload_n 0, 1, []), (78, .lload_n 2, 1, []), (79, .aload_n 0, 1, []), (80, .getfield 7, 3, [0, 7, 0, 0, 798]), (83, .iload_n 1, 1, []), (84, .iaload, 1, []), (85, .i2l, 1, []), (86, .ldiv, 1, []), (87, .l2i, 1, []), (88, .invokevirtual 83, 3, [0, 130, 0, 0, 882]), (91, .ireturn, 1, [])]
def mMe134 : mM := (⟨"FirstLandingModel", "mean", "(I)I"⟩, prog_10_method_16_code, 5, (some .int), 1, 1, [901, 110, 899, 900], mCo134)
/-- FirstLandingModel.text(II)I -/
def mCo135 : List mE := [(0, .iload_n 1, 1, []), (1, .invokestatic 86, 3, [0, 136, 0, 0, 906]), (4, .ifCond .eq 9, 3, [6]), (7, .iload_n 2, 1, []), (8, .bipush 60, 2, []), (10, .if_icmp .le 5, 3, [8]), (13, .iconst (-1), 1, []), (14, .ireturn, 1, []), (15, .iload_n 2, 1, []), (16, .ifCond .ge 9, 3, [14]), (19, .aload_n 0, 1, []), (20, .iconst 5, 1, []), (21, .invokevirtual 79, 3, [0, 128, 0, 0, 874]), (24, .ireturn, 1, []), (25, .aload_n 0, 1, []), (26, .getfield 16, 3, [0, 7, 2, 0, 800]), (29, .iload_n 1, 1, []), (30, .iload_n 2, 1, []), (31, .iastore, 1, []), (32, .iconst 0, 1, []), (33, .istore_n 3, 1, []), (34, .iload_n 3, 1, []), (35, .bipush 60, 2, []), (37, .if_icmp .ge 22, 3, [35]), (40, .aload_n 0, 1, []), (41, .getfield 19, 3, [0, 7, 3, 0, 801]), (44, .bipush 60, 2, []), (46, .iload_n 1, 1, []), (47, .imul, 1, []), (48, .iload_n 3, 1, []), (49, .iadd, 1, []), (50, .bipush 32, 2, []), (52, .iastore, 1, []), (53, .iinc 3 1, 3, []), (56, .goto (-22), 3, [21]), (59, .iload_n 2, 1, []), (60, .ireturn, 1, [])]
def mMe135 : mM := (⟨"FirstLandingModel", "text", "(II)I"⟩, prog_10_method_17_code, 4, (some .int), 1, 2, [905, 110, 903, 904], mCo135)
/-- FirstLandingModel.isText(I)Z -/
def mCo136 : List mE := [(0, .iload_n 0, 1, []), (1, .i2l, 1, []), (2, .lconst 0, 1, []), (3, .ldc2_w 73, 3, [0, 3, 0, 0, 909]), (6, .invokestatic 69, 3, [0, 127, 0, 0, 871]), (9, .ireturn, 1, [])]
def mMe136 : mM := (⟨"FirstLandingModel", "isText", "(I)Z"⟩, prog_10_method_10_code, 1, (some .boolean), 0, 1, [908, 110, 907], mCo136)
/-- FirstLandingModel.put(III)I -/
def mCo137 : List mE := [(0, .iload_n 1, 1, []), (1, .invokestatic 86, 3, [0, 136, 0, 0, 906]), (4, .ifCond .ne 5, 3, [5]), (7, .iconst (-1), 1, []), (8, .ireturn, 1, []), (9, .aload_n 0, 1, []), (10, .getfield 16, 3, [0, 7, 2, 0, 800]), (13, .iload_n 1, 1, []), (14, .iaload, 1, []), (15, .ifCond .ge 9, 3, [14]), (18, .aload_n 0, 1, []), (19, .iconst 1, 1, []), (20, .invokevirtual 79, 3, [0, 128, 0, 0, 874]), (23, .ireturn, 1, []), (24, .iload_n 2, 1, []), (25, .i2l, 1, []), (26, .lconst 0, 1, []), (27, .aload_n 0, 1, []), (28, .getfield 16, 3, [0, 7, 2, 0, 800]), (31, .iload_n 1, 1, []), (32, .iaload, 1, []), (33, .iconst 1, 1, []), (34, .isub, 1, []), (35, .i2l, 1, []), (36, .invokestatic 69, 3, [0, 127, 0, 0, 871]), (39, .ifCond .ne 9, 3, [30]), (42, .aload_n 0, 1, []), (43, .iconst 2, 1, []), (44, .invokevirtual 79, 3, [0, 128, 0, 0, 874]), (47, .ireturn, 1, []), (48, .aload_n 0, 1, []), (49, .getfield 19, 3, [0, 7, 3, 0, 801]), (52, .bipush 60, 2, []), (54, .iload_n 1, 1, []), (55, .imul, 1, []), (56, .iload_n 2, 1, []), (57, .iadd, 1, []), (58, .iaload, 1, []), (59, .istore 4, 2, []), (61, .aload_n 0, 1, []), (62, .getfield 19, 3, [0, 7, 3, 0, 801]), (65, .bipush 60, 2, []), (67, .iload_n 1, 1, []), (68, .imul, 1, []), (69, .iload_n 2, 1, []), (70, .iadd, 1, []), (71, .iload_n 3, 1, []), (72, .i2b, 1, []), (73, .iastore, 1, []), (74, .iload 4, 2, []), (76, .sipush 1000, 3, []), (79, .iadd, 1, []), (80, .ireturn, 1, [])]
def mMe137 : mM := (⟨"FirstLandingModel", "put", "(III)I"⟩, prog_10_method_18_code, 5, (some .int), 1, 3, [913, 110, 911, 912], mCo137)
/-- FirstLandingModel.fault(I)I -/
def mCo138 : List mE := [(0, .iload_n 1, 1, []), (1, .invokestatic 86, 3, [0, 136, 0, 0, 906]), (4, .ifCond .ne 5, 3, [5]), (7, .iconst (-1), 1, []), (8, .ireturn, 1, []), (9, .aload_n 0, 1, []), (10, .getfield 16, 3, [0, 7, 2, 0, 800]), (13, .iload_n 1, 1, []), (14, .iaload, 1, []), (15, .ifCond .ge 11, 3, [14]), (18, .aload_n 0, 1, []), (19, .iconst 1, 1, []), (20, .invokevirtual 79, 3, [0, 128, 0, 0, 874]), (23, .goto 8, 3, [17]), (26, .aload_n 0, 1, []), (27, .iload_n 1, 1, []), (28, .invokevirtual 114, 3, [0, 139, 0, 0, 918]), (31, .ireturn, 1, [])]
def mMe138 : mM := (⟨"FirstLandingModel", "fault", "(I)I"⟩, prog_10_method_24_code, 2, (some .int), 1, 1, [917, 110, 915, 916], mCo138)
/-- FirstLandingModel.faultOf(I)I -/
def mCo139 : List mE := [(0, .iconst 0, 1, []), (1, .istore_n 2, 1, []), (2, .iload_n 2, 1, []), (3, .sipush 201, 3, []), (6, .if_icmp .ge 16, 3, [12]), (9, .aload_n 0, 1, []), (10, .getfield 25, 3, [0, 7, 5, 0, 803]), (13, .iload_n 2, 1, []), (14, .iconst 0, 1, []), (15, .iastore, 1, []), (16, .iinc 2 1, 3, []), (19, .goto (-17), 3, [2]), (22, .aload_n 0, 1, []), (23, .iconst 0, 1, []), (24, .putfield 89, 3, [0, 7, 13, 0, 811]), (27, .aload_n 0, 1, []), (28, .iload_n 1, 1, []), (29, .invokevirtual 102, 3, [0, 140, 0, 0, 922]), (32, .aload_n 0, 1, []), (33, .iload_n 1, 1, []), (34, .invokevirtual 92, 3, [0, 141, 0, 0, 926]), (37, .bipush 110, 2, []), (39, .if_icmp .eq 8, 3, [26]), (42, .aload_n 0, 1, []), (43, .getfield 89, 3, [0, 7, 13, 0, 811]), (46, .ireturn, 1, []), (47, .aload_n 0, 1, []), (48, .dup, 1, []), (49, .getfield 89, 3, [0, 7, 13, 0, 811]), (52, .iconst 1, 1, []), (53, .iadd, 1, []), (54, .putfield 89, 3, [0, 7, 13, 0, 811]), (57, .aload_n 0, 1, []), (58, .iload_n 1, 1, []), (59, .invokevirtual 92, 3, [0, 141, 0, 0, 926]), (62, .i2l, 1, []), (63, .ldc2_w 106, 3, [0, 50, 0, 0, 930]), (66, .ldc2_w 108, 3, [0, 54, 0, 0, 931]), (69, .invokestatic 69, 3, [0, 127, 0, 0, 871]), (72, .ifCond .ne 8, 3, [43]), (75, .aload_n 0, 1, []), (76, .getfield 89, 3, [0, 7, 13, 0, 811]), (79, .ireturn, 1, []), (80, .aload_n 0, 1, []), (81, .getfield 25, 3, [0, 7, 5, 0, 803]), (84, .iconst 0, 1, []), (85, .aload_n 0, 1, []), (86, .iload_n 1, 1, []), (87, .invokevirtual 92, 3, [0, 141, 0, 0, 926]), (90, .bipush 48, 2, []), (92, .isub, 1, []), (93, .iastore, 1, []), (94, .aload_n 0, 1, []), (95, .dup, 1, []), (96, .getfield 89, 3, [0, 7, 13, 0, 811]), (99, .iconst 1, 1, []), (100, .iadd, 1, []), (101, .putfield 89, 3, [0, 7, 13, 0, 811]), (104, .iconst 0, 1, []), (105, .istore_n 2, 1, []), (106, .iload_n 2, 1, []), (107, .aload_n 0, 1, []), (108, .getfield 25, 3, [0, 7, 5, 0, 803]), (111, .iconst 0, 1, []), (112, .iaload, 1, []), (113, .if_icmp .ge 28, 3, [79]), (116, .aload_n 0, 1, []), (117, .iload_n 1, 1, []), (118, .invokevirtual 102, 3, [0, 140, 0, 0, 922]), (121, .aload_n 0, 1, []), (122, .iload_n 1, 1, []), (123, .iload_n 2, 1, []), (124, .invokevirtual 110, 3, [0, 142, 0, 0, 932]), (127, .ifCond .ne 8, 3, [77]), (130, .aload_n 0, 1, []), (131, .getfield 89, 3, [0, 7, 13, 0, 811]), (134, .ireturn, 1, []), (135, .iinc 2 1, 3, []), (138, .goto (-32), 3, [60]), (141, .aload_n 0, 1, []), (142, .iload_n 1, 1, []), (143, .invokevirtual 102, 3, [0, 140, 0, 0, 922]), (146, .aload_n 0, 1, []), (147, .getfield 89, 3, [0, 7, 13, 0, 811]), (150, .aload_n 0, 1, []), (151, .getfield 16, 3, [0, 7, 2, 0, 800]), (154, .iload_n 1, 1, []), (155, .iaload, 1, []), (156, .if_icmp .ge 10, 3, [92]), (159, .aload_n 0, 1, []), (160, .getfield 89, 3, [0, 7, 13, 0, 811]), (163, .goto 5, 3, [93]), (166, .bipush (-9), 2, []), (168, .ireturn, 1, [])]
def mMe139 : mM := (⟨"FirstLandingModel", "faultOf", "(I)I"⟩, prog_10_method_23_code, 3, (some .int), 1, 1, [921, 110, 920, 61], mCo139)
/-- FirstLandingModel.blanks(I)V -/
def mCo140 : List mE := [(0, .aload_n 0, 1, []), (1, .iload_n 1, 1, []), (2, .invokevirtual 92, 3, [0, 141, 0, 0, 926]), (5, .bipush 32, 2, []), (7, .if_icmp .ne 16, 3, [12]), (10, .aload_n 0, 1, []), (11, .dup, 1, []), (12, .getfield 89, 3, [0, 7, 13, 0, 811]), (15, .iconst 1, 1, []), (16, .iadd, 1, []), (17, .putfield 89, 3, [0, 7, 13, 0, 811]), (20, .goto (-20), 3, [0]), (23, .return_, 1, [])]
def mMe140 : mM := (⟨"FirstLandingModel", "blanks", "(I)V"⟩, prog_10_method_20_code, 2, none, 1, 1, [925, 110, 924, 62], mCo140)
/-- FirstLandingModel.here(I)I -/
def mCo141 : List mE := [(0, .aload_n 0, 1, []), (1, .getfield 89, 3, [0, 7, 13, 0, 811]), (4, .aload_n 0, 1, []), (5, .getfield 16, 3, [0, 7, 2, 0, 800]), (8, .iload_n 1, 1, []), (9, .iaload, 1, []), (10, .if_icmp .ge 20, 3, [17]), (13, .aload_n 0, 1, []), (14, .getfield 19, 3, [0, 7, 3, 0, 801]), (17, .bipush 60, 2, []), (19, .iload_n 1, 1, []), (20, .imul, 1, []), (21, .aload_n 0, 1, []), (22, .getfield 89, 3, [0, 7, 13, 0, 811]), (25, .iadd, 1, []), (26, .iaload, 1, []), (27, .goto 6, 3, [18]), (30, .sipush (-1000), 3, []), (33, .ireturn, 1, [])]
def mMe141 : mM := (⟨"FirstLandingModel", "here", "(I)I"⟩, prog_10_method_19_code, 2, (some .int), 1, 1, [929, 110, 928, 63], mCo141)
/-- FirstLandingModel.isPersonRead(II)Z -/
def mCo142 : List mE := [(0, .aload_n 0, 1, []), (1, .iload_n 1, 1, []), (2, .invokevirtual 92, 3, [0, 141, 0, 0, 926]), (5, .invokestatic 95, 3, [0, 143, 0, 0, 936]), (8, .istore_n 3, 1, []), (9, .iload_n 3, 1, []), (10, .ifCond .ge 5, 3, [9]), (13, .iconst 0, 1, []), (14, .ireturn, 1, []), (15, .aload_n 0, 1, []), (16, .getfield 25, 3, [0, 7, 5, 0, 803]), (19, .iconst 1, 1, []), (20, .iload_n 2, 1, []), (21, .iadd, 1, []), (22, .iload_n 3, 1, []), (23, .iastore, 1, []), (24, .aload_n 0, 1, []), (25, .dup, 1, []), (26, .getfield 89, 3, [0, 7, 13, 0, 811]), (29, .iconst 1, 1, []), (30, .iadd, 1, []), (31, .putfield 89, 3, [0, 7, 13, 0, 811]), (34, .iconst 0, 1, []), (35, .istore 4, 2, []), (37, .iload 4, 2, []), (39, .aload_n 0, 1, []), (40, .getfield 25, 3, [0, 7, 5, 0, 803]), (43, .iconst 0, 1, []), (44, .iaload, 1, []), (45, .if_icmp .ge 62, 3, [63]), (48, .aload_n 0, 1, []), (49, .iload_n 1, 1, []), (50, .invokevirtual 92, 3, [0, 141, 0, 0, 926]), (53, .i2l, 1, []), (54, .ldc2_w 98, 3, [0, 48, 0, 0, 939]), (57, .ldc2_w 100, 3, [0, 57, 0, 0, 940]), (60, .invokestatic 69, 3, [0, 127, 0, 0, 871]), (63, .ifCond .ne 5, 3, [40]), (66, .iconst 0, 1, []), (67, .ireturn, 1, []), (68, .aload_n 0, 1, []), (69, .getfield 25, 3, [0, 7, 5, 0, 803]), (72, .bipush 7, 2, []), (74, .bipush 6, 2, []), (76, .iload_n 2, 1, []), (77, .imul, 1, []), (78, .iadd, 1, []), (79, .iload 4, 2, []), (81, .iadd, 1, []), (82, .aload_n 0, 1, []), (83, .iload_n 1, 1, []), (84, .invokevirtual 92, 3, [0, 141, 0, 0, 926]), (87, .bipush 48, 2, []), (89, .isub, 1, []), (90, .iastore, 1, []), (91, .aload_n 0, 1, []), (92, .dup, 1, []), (93, .getfield 89, 3, [0, 7, 13, 0, 811]), (96, .iconst 1, 1, []), (97, .iadd, 1, []), (98, .putfield 89, 3, [0, 7, 13, 0, 811]), (101, .iinc 4 1, 3, []), (104, .goto (-67), 3, [24]), (107, .iconst 1, 1, []), (108, .ireturn, 1, [])]
def mMe142 : mM := (⟨"FirstLandingModel", "isPersonRead", "(II)Z"⟩, prog_10_method_22_code, 5, (some .boolean), 1, 2, [935, 110, 934, 64], mCo142)
/-- FirstLandingModel.kindOf(I)I -/
def mCo143 : List mE := [(0, .iload_n 0, 1, []), (1, .bipush 103, 2, []), (3, .if_icmp .ne 7, 3, [5]), (6, .iconst 0, 1, []), (7, .goto 54, 3, [31]), (10, .iload_n 0, 1, []), (11, .bipush 101, 2, []), (13, .if_icmp .ne 7, 3, [10]), (16, .iconst 1, 1, []), (17, .goto 44, 3, [31]), (20, .iload_n 0, 1, []), (21, .bipush 115, 2, []), (23, .if_icmp .ne 7, 3, [15]), (26, .iconst 2, 1, []), (27, .goto 34, 3, [31]), (30, .iload_n 0, 1, []), (31, .bipush 118, 2, []), (33, .if_icmp .ne 7, 3, [20]), (36, .iconst 3, 1, []), (37, .goto 24, 3, [31]), (40, .iload_n 0, 1, []), (41, .bipush 99, 2, []), (43, .if_icmp .ne 7, 3, [25]), (46, .iconst 4, 1, []), (47, .goto 14, 3, [31]), (50, .iload_n 0, 1, []), (51, .bipush 107, 2, []), (53, .if_icmp .ne 7, 3, [30]), (56, .iconst 5, 1, []), (57, .goto 4, 3, [31]), (60, .iconst (-1), 1, []), (61, .ireturn, 1, [])]
def mMe143 : mM := (⟨"FirstLandingModel", "kindOf", "(I)I"⟩, prog_10_method_21_code, 1, (some .int), 0, 1, [938, 110, 937], mCo143)
/-- FirstLandingModel.embassy(I)I -/
def mCo144 : List mE := [(0, .iload_n 1, 1, []), (1, .invokestatic 86, 3, [0, 136, 0, 0, 906]), (4, .ifCond .ne 5, 3, [5]), (7, .iconst (-1), 1, []), (8, .ireturn, 1, []), (9, .aload_n 0, 1, []), (10, .getfield 16, 3, [0, 7, 2, 0, 800]), (13, .iload_n 1, 1, []), (14, .iaload, 1, []), (15, .ifCond .ge 9, 3, [14]), (18, .aload_n 0, 1, []), (19, .iconst 1, 1, []), (20, .invokevirtual 79, 3, [0, 128, 0, 0, 874]), (23, .ireturn, 1, []), (24, .aload_n 0, 1, []), (25, .iload_n 1, 1, []), (26, .invokevirtual 114, 3, [0, 139, 0, 0, 918]), (29, .bipush (-9), 2, []), (31, .if_icmp .eq 6, 3, [21]), (34, .bipush (-4), 2, []), (36, .ireturn, 1, []), (37, .aload_n 0, 1, []), (38, .getfield 25, 3, [0, 7, 5, 0, 803]), (41, .iconst 0, 1, []), (42, .aload_n 0, 1, []), (43, .getfield 22, 3, [0, 7, 4, 0, 802]), (46, .iconst 0, 1, []), (47, .invokestatic 117, 3, [0, 145, 0, 0, 945]), (50, .iconst 0, 1, []), (51, .istore_n 2, 1, []), (52, .iload_n 2, 1, []), (53, .iconst 3, 1, []), (54, .if_icmp .ge 16, 3, [40]), (57, .aload_n 0, 1, []), (58, .getfield 31, 3, [0, 7, 7, 0, 805]), (61, .iload_n 2, 1, []), (62, .iconst 0, 1, []), (63, .bastore, 1, []), (64, .iinc 2 1, 3, []), (67, .goto (-15), 3, [30]), (70, .aload_n 0, 1, []), (71, .getfield 22, 3, [0, 7, 4, 0, 802]), (74, .iconst 0, 1, []), (75, .iaload, 1, []), (76, .ireturn, 1, [])]
def mMe144 : mM := (⟨"FirstLandingModel", "embassy", "(I)I"⟩, prog_10_method_26_code, 3, (some .int), 1, 1, [944, 110, 942, 943], mCo144)
/-- FirstLandingModel.copies([II[II)V -/
def mCo145 : List mE := [(0, .iconst 0, 1, []), (1, .istore 4, 2, []), (3, .iload 4, 2, []), (5, .sipush 201, 3, []), (8, .if_icmp .ge 21, 3, [17]), (11, .aload_n 2, 1, []), (12, .iload_n 3, 1, []), (13, .iload 4, 2, []), (15, .iadd, 1, []), (16, .aload_n 0, 1, []), (17, .iload_n 1, 1, []), (18, .iload 4, 2, []), (20, .iadd, 1, []), (21, .iaload, 1, []), (22, .iastore, 1, []), (23, .iinc 4 1, 3, []), (26, .goto (-23), 3, [2]), (29, .return_, 1, [])]
def mMe145 : mM := (⟨"FirstLandingModel", "copies", "([II[II)V"⟩, prog_10_method_25_code, 5, none, 0, 4, [947, 110, 946], mCo145)
/-- FirstLandingModel.person(II)I -/
def mCo146 : List mE := [(0, .aload_n 0, 1, []), (1, .iload_n 1, 1, []), (2, .invokevirtual 155, 3, [0, 147, 0, 0, 952]), (5, .ifCond .eq 28, 3, [17]), (8, .iload_n 2, 1, []), (9, .i2l, 1, []), (10, .lconst 0, 1, []), (11, .ldc2_w 158, 3, [0, 4, 0, 0, 956]), (14, .invokestatic 69, 3, [0, 127, 0, 0, 871]), (17, .ifCond .eq 16, 3, [17]), (20, .aload_n 0, 1, []), (21, .aload_n 0, 1, []), (22, .iload_n 1, 1, []), (23, .iload_n 2, 1, []), (24, .invokevirtual 160, 3, [0, 148, 0, 0, 957]), (27, .invokevirtual 83, 3, [0, 130, 0, 0, 882]), (30, .goto 4, 3, [18]), (33, .iconst (-1), 1, []), (34, .ireturn, 1, [])]
def mMe146 : mM := (⟨"FirstLandingModel", "person", "(II)I"⟩, prog_10_method_40_code, 3, (some .int), 1, 2, [951, 110, 949, 950], mCo146)
/-- FirstLandingModel.isPerson(I)Z -/
def mCo147 : List mE := [(0, .iload_n 1, 1, []), (1, .i2l, 1, []), (2, .lconst 0, 1, []), (3, .aload_n 0, 1, []), (4, .getfield 22, 3, [0, 7, 4, 0, 802]), (7, .iconst 0, 1, []), (8, .iaload, 1, []), (9, .iconst 1, 1, []), (10, .isub, 1, []), (11, .i2l, 1, []), (12, .invokestatic 69, 3, [0, 127, 0, 0, 871]), (15, .ireturn, 1, [])]
def mMe147 : mM := (⟨"FirstLandingModel", "isPerson", "(I)Z"⟩, prog_10_method_27_code, 2, (some .boolean), 1, 1, [955, 110, 954, 65], mCo147)
/-- FirstLandingModel.told(II)I -/
def mCo148 : List mE := [(0, .iload_n 2, 1, []), (1, .tableswitch 79 0 3 #[31, 40, 60, 73], 31, [32, 2, 9, 20, 28]), (32, .aload_n 0, 1, []), (33, .getfield 22, 3, [0, 7, 4, 0, 802]), (36, .iconst 1, 1, []), (37, .iload_n 1, 1, []), (38, .iadd, 1, []), (39, .iaload, 1, []), (40, .ireturn, 1, []), (41, .aload_n 0, 1, []), (42, .getfield 22, 3, [0, 7, 4, 0, 802]), (45, .bipush 43, 2, []), (47, .iaload, 1, []), (48, .iload_n 1, 1, []), (49, .invokestatic 122, 3, [0, 149, 0, 0, 961]), (52, .ifCond .eq 7, 3, [18]), (55, .iconst 1, 1, []), (56, .goto 4, 3, [19]), (59, .iconst 0, 1, []), (60, .ireturn, 1, []), (61, .aload_n 0, 1, []), (62, .iload_n 1, 1, []), (63, .aload_n 0, 1, []), (64, .getfield 22, 3, [0, 7, 4, 0, 802]), (67, .bipush 43, 2, []), (69, .iaload, 1, []), (70, .invokevirtual 136, 3, [0, 150, 0, 0, 964]), (73, .ireturn, 1, []), (74, .aload_n 0, 1, []), (75, .iload_n 1, 1, []), (76, .invokevirtual 149, 3, [0, 154, 0, 0, 980]), (79, .ireturn, 1, []), (80, .aload_n 0, 1, []), (81, .iload_n 1, 1, []), (82, .invokevirtual 152, 3, [0, 155, 0, 0, 984]), (85, .ireturn, 1, [])]
def mMe148 : mM := (⟨"FirstLandingModel", "told", "(II)I"⟩, prog_10_method_39_code, 3, (some .int), 1, 2, [960, 110, 959, 66], mCo148)
/-- FirstLandingModel.has(II)Z -/
def mCo149 : List mE := [(0, .iload_n 0, 1, []), (1, .iload_n 1, 1, []), (2, .ishr, 1, []), (3, .iconst 1, 1, []), (4, .iand, 1, []), (5, .iconst 1, 1, []), (6, .if_icmp .ne 7, 3, [9]), (9, .iconst 1, 1, []), (10, .goto 4, 3, [10]), (13, .iconst 0, 1, []), (14, .ireturn, 1, [])]
def mMe149 : mM := (⟨"FirstLandingModel", "has", "(II)Z"⟩, prog_10_method_4_code, 2, (some .boolean), 0, 2, [963, 110, 962], mCo149)
/-- FirstLandingModel.seem(II)I -/
def mCo150 : List mE := [(0, .aload_n 0, 1, []), (1, .iload_n 1, 1, []), (2, .aload_n 0, 1, []), (3, .getfield 22, 3, [0, 7, 4, 0, 802]), (6, .iconst 1, 1, []), (7, .iload_n 1, 1, []), (8, .iadd, 1, []), (9, .iaload, 1, []), (10, .iload_n 2, 1, []), (11, .invokevirtual 132, 3, [0, 151, 0, 0, 968]), (14, .ireturn, 1, [])]
def mMe150 : mM := (⟨"FirstLandingModel", "seem", "(II)I"⟩, prog_10_method_32_code, 3, (some .int), 1, 2, [967, 110, 966, 67], mCo150)
/-- FirstLandingModel.seemsAs(III)I -/
def mCo151 : List mE := [(0, .iload_n 3, 1, []), (1, .iconst 1, 1, []), (2, .iload_n 1, 1, []), (3, .ishl, 1, []), (4, .iconst (-1), 1, []), (5, .ixor, 1, []), (6, .iand, 1, []), (7, .istore 4, 2, []), (9, .iconst 0, 1, []), (10, .istore 5, 2, []), (12, .iconst 0, 1, []), (13, .istore 6, 2, []), (15, .iconst 0, 1, []), (16, .istore 7, 2, []), (18, .ldc 121, 2, [0, 1000000, 0, 0, 972]), (20, .istore 8, 2, []), (22, .ldc 121, 2, [0, 1000000, 0, 0, 972]), (24, .istore 9, 2, []), (26, .bipush (-9), 2, []), (28, .istore 10, 2, []), (30, .iconst 0, 1, []), (31, .istore 11, 2, []), (33, .iload 11, 2, []), (35, .aload_n 0, 1, []), (36, .getfield 22, 3, [0, 7, 4, 0, 802]), (39, .iconst 0, 1, []), (40, .iaload, 1, []), (41, .if_icmp .ge 98, 3, [70]), (44, .iload 4, 2, []), (46, .iload 11, 2, []), (48, .invokestatic 122, 3, [0, 149, 0, 0, 961]), (51, .ifCond .eq 82, 3, [68]), (54, .aload_n 0, 1, []), (55, .iload_n 1, 1, []), (56, .iload 11, 2, []), (58, .invokevirtual 125, 3, [0, 152, 0, 0, 973]), (61, .istore 12, 2, []), (63, .iload 5, 2, []), (65, .iload 12, 2, []), (67, .iadd, 1, []), (68, .istore 5, 2, []), (70, .iinc 6 1, 3, []), (73, .iload 12, 2, []), (75, .iload 7, 2, []), (77, .if_icmp .le 8, 3, [47]), (80, .iload 12, 2, []), (82, .goto 5, 3, [48]), (85, .iload 7, 2, []), (87, .istore 7, 2, []), (89, .iload 8, 2, []), (91, .iload 12, 2, []), (93, .invokestatic 129, 3, [0, 153, 0, 0, 977]), (96, .istore 8, 2, []), (98, .iload 12, 2, []), (100, .ifCond .le 13, 3, [59]), (103, .iload 9, 2, []), (105, .iload 12, 2, []), (107, .invokestatic 129, 3, [0, 153, 0, 0, 977]), (110, .goto 5, 3, [60]), (113, .iload 9, 2, []), (115, .istore 9, 2, []), (117, .iload 10, 2, []), (119, .bipush (-9), 2, []), (121, .if_icmp .ne 8, 3, [66]), (124, .iload 12, 2, []), (126, .goto 5, 3, [67]), (129, .iload 10, 2, []), (131, .istore 10, 2, []), (133, .iinc 11 1, 3, []), (136, .goto (-103), 3, [22]), (139, .iload 6, 2, []), (141, .ifCond .ne 5, 3, [74]), (144, .iconst 0, 1, []), (145, .ireturn, 1, []), (146, .iload_n 2, 1, []), (147, .tableswitch 67 0 4 #[33, 39, 42, 45, 48], 33, [96, 76, 80, 82, 84, 86]), (180, .iload 5, 2, []), (182, .iload 6, 2, []), (184, .idiv, 1, []), (185, .ireturn, 1, []), (186, .iload 7, 2, []), (188, .ireturn, 1, []), (189, .iload 8, 2, []), (191, .ireturn, 1, []), (192, .iload 10, 2, []), (194, .ireturn, 1, []), (195, .iload 7, 2, []), (197, .ifCond .ne 7, 3, [90]), (200, .iconst 0, 1, []), (201, .goto 12, 3, [95]), (204, .iload 7, 2, []), (206, .iconst 1, 1, []), (207, .iadd, 1, []), (208, .bipush 9, 2, []), (210, .invokestatic 129, 3, [0, 153, 0, 0, 977]), (213, .ireturn, 1, []), (214, .iload 9, 2, []), (216, .ldc 121, 2, [0, 1000000, 0, 0, 972]), (218, .if_icmp .ne 7, 3, [101]), (221, .iconst 0, 1, []), (222, .goto 5, 3, [102]), (225, .iload 9, 2, []), (227, .ireturn, 1, [])]
def mMe151 : mM := (⟨"FirstLandingModel", "seemsAs", "(III)I"⟩, prog_10_method_31_code, 13, (some .int), 1, 3, [971, 110, 970, 68], mCo151)
/-- FirstLandingModel.look(II)I -/
def mCo152 : List mE := [(0, .aload_n 0, 1, []), (1, .getfield 22, 3, [0, 7, 4, 0, 802]), (4, .bipush 7, 2, []), (6, .bipush 6, 2, []), (8, .iload_n 1, 1, []), (9, .imul, 1, []), (10, .iadd, 1, []), (11, .iload_n 2, 1, []), (12, .iadd, 1, []), (13, .iaload, 1, []), (14, .ireturn, 1, [])]
def mMe152 : mM := (⟨"FirstLandingModel", "look", "(II)I"⟩, prog_10_method_29_code, 3, (some .int), 1, 2, [976, 110, 975, 69], mCo152)
/-- FirstLandingModel.less(II)I -/
def mCo153 : List mE := [(0, .iload_n 1, 1, []), (1, .iload_n 0, 1, []), (2, .if_icmp .ge 7, 3, [5]), (5, .iload_n 1, 1, []), (6, .goto 4, 3, [6]), (9, .iload_n 0, 1, []), (10, .ireturn, 1, [])]
def mMe153 : mM := (⟨"FirstLandingModel", "less", "(II)I"⟩, prog_10_method_30_code, 2, (some .int), 0, 2, [979, 110, 978], mCo153)
/-- FirstLandingModel.treatiesOf(I)I -/
def mCo154 : List mE := [(0, .iconst 0, 1, []), (1, .istore_n 2, 1, []), (2, .iconst 0, 1, []), (3, .istore_n 3, 1, []), (4, .iload_n 3, 1, []), (5, .bipush 6, 2, []), (7, .if_icmp .ge 26, 3, [22]), (10, .iload_n 2, 1, []), (11, .aload_n 0, 1, []), (12, .getfield 22, 3, [0, 7, 4, 0, 802]), (15, .bipush 44, 2, []), (17, .bipush 6, 2, []), (19, .iload_n 1, 1, []), (20, .imul, 1, []), (21, .iadd, 1, []), (22, .iload_n 3, 1, []), (23, .iadd, 1, []), (24, .iaload, 1, []), (25, .iadd, 1, []), (26, .istore_n 2, 1, []), (27, .iinc 3 1, 3, []), (30, .goto (-26), 3, [4]), (33, .iload_n 2, 1, []), (34, .ireturn, 1, [])]
def mMe154 : mM := (⟨"FirstLandingModel", "treatiesOf", "(I)I"⟩, prog_10_method_37_code, 4, (some .int), 1, 1, [983, 110, 982, 70], mCo154)
/-- FirstLandingModel.unmetBy(I)I -/
def mCo155 : List mE := [(0, .iconst 0, 1, []), (1, .istore_n 2, 1, []), (2, .iconst 0, 1, []), (3, .istore_n 3, 1, []), (4, .iload_n 3, 1, []), (5, .aload_n 0, 1, []), (6, .getfield 22, 3, [0, 7, 4, 0, 802]), (9, .iconst 0, 1, []), (10, .iaload, 1, []), (11, .if_icmp .ge 31, 3, [26]), (14, .iload_n 2, 1, []), (15, .iload_n 3, 1, []), (16, .iload_n 1, 1, []), (17, .if_icmp .eq 16, 3, [21]), (20, .aload_n 0, 1, []), (21, .iload_n 1, 1, []), (22, .iload_n 3, 1, []), (23, .invokevirtual 125, 3, [0, 152, 0, 0, 973]), (26, .ifCond .ne 7, 3, [21]), (29, .iconst 1, 1, []), (30, .goto 4, 3, [22]), (33, .iconst 0, 1, []), (34, .iadd, 1, []), (35, .istore_n 2, 1, []), (36, .iinc 3 1, 3, []), (39, .goto (-35), 3, [4]), (42, .iload_n 2, 1, []), (43, .ireturn, 1, [])]
def mMe155 : mM := (⟨"FirstLandingModel", "unmetBy", "(I)I"⟩, prog_10_method_38_code, 4, (some .int), 1, 1, [987, 110, 986, 71], mCo155)
/-- FirstLandingModel.looks(II)I -/
def mCo156 : List mE := [(0, .aload_n 0, 1, []), (1, .iload_n 1, 1, []), (2, .invokevirtual 155, 3, [0, 147, 0, 0, 952]), (5, .ifCond .eq 20, 3, [13]), (8, .aload_n 0, 1, []), (9, .iload_n 2, 1, []), (10, .invokevirtual 155, 3, [0, 147, 0, 0, 952]), (13, .ifCond .eq 12, 3, [13]), (16, .aload_n 0, 1, []), (17, .iload_n 1, 1, []), (18, .iload_n 2, 1, []), (19, .invokevirtual 125, 3, [0, 152, 0, 0, 973]), (22, .goto 4, 3, [14]), (25, .iconst (-1), 1, []), (26, .ireturn, 1, [])]
def mMe156 : mM := (⟨"FirstLandingModel", "looks", "(II)I"⟩, prog_10_method_41_code, 3, (some .int), 1, 2, [991, 110, 989, 990], mCo156)
/-- FirstLandingModel.mark(II)I -/
def mCo157 : List mE := [(0, .aload_n 0, 1, []), (1, .iload_n 1, 1, []), (2, .invokevirtual 155, 3, [0, 147, 0, 0, 952]), (5, .ifCond .eq 15, 3, [10]), (8, .iload_n 2, 1, []), (9, .i2l, 1, []), (10, .lconst 1, 1, []), (11, .ldc2_w 67, 3, [0, 5, 0, 0, 870]), (14, .invokestatic 69, 3, [0, 127, 0, 0, 871]), (17, .ifCond .ne 5, 3, [12]), (20, .iconst (-1), 1, []), (21, .ireturn, 1, []), (22, .aload_n 0, 1, []), (23, .getfield 22, 3, [0, 7, 4, 0, 802]), (26, .iconst 1, 1, []), (27, .iload_n 1, 1, []), (28, .iadd, 1, []), (29, .iaload, 1, []), (30, .iload_n 2, 1, []), (31, .invokestatic 163, 3, [0, 158, 0, 0, 996]), (34, .ifCond .ne 9, 3, [25]), (37, .aload_n 0, 1, []), (38, .iconst 3, 1, []), (39, .invokevirtual 79, 3, [0, 128, 0, 0, 874]), (42, .ireturn, 1, []), (43, .iload_n 2, 1, []), (44, .tableswitch 58 1 4 #[32, 39, 46, 52], 32, [45, 27, 32, 37, 41]), (76, .aload_n 0, 1, []), (77, .iload_n 1, 1, []), (78, .iconst 0, 1, []), (79, .invokevirtual 166, 3, [0, 159, 0, 0, 999]), (82, .ireturn, 1, []), (83, .aload_n 0, 1, []), (84, .iload_n 1, 1, []), (85, .iconst 1, 1, []), (86, .invokevirtual 166, 3, [0, 159, 0, 0, 999]), (89, .ireturn, 1, []), (90, .aload_n 0, 1, []), (91, .iload_n 1, 1, []), (92, .invokevirtual 152, 3, [0, 155, 0, 0, 984]), (95, .ireturn, 1, []), (96, .aload_n 0, 1, []), (97, .iconst 4, 1, []), (98, .invokevirtual 170, 3, [0, 160, 0, 0, 1003]), (101, .ireturn, 1, []), (102, .aload_n 0, 1, []), (103, .iload_n 1, 1, []), (104, .invokevirtual 173, 3, [0, 161, 0, 0, 1007]), (107, .ireturn, 1, [])]
def mMe157 : mM := (⟨"FirstLandingModel", "mark", "(II)I"⟩, prog_10_method_46_code, 3, (some .int), 1, 2, [995, 110, 993, 994], mCo157)
/-- FirstLandingModel.isOf(II)Z -/
def mCo158 : List mE := [(0, .iload_n 0, 1, []), (1, .iload_n 1, 1, []), (2, .if_icmp .eq 27, 3, [17]), (5, .iload_n 1, 1, []), (6, .ifCond .eq 23, 3, [17]), (9, .iload_n 1, 1, []), (10, .iconst 1, 1, []), (11, .if_icmp .ne 8, 3, [11]), (14, .iload_n 0, 1, []), (15, .iconst 4, 1, []), (16, .if_icmp .eq 13, 3, [17]), (19, .iload_n 1, 1, []), (20, .iconst 2, 1, []), (21, .if_icmp .ne 12, 3, [19]), (24, .iload_n 0, 1, []), (25, .iconst 5, 1, []), (26, .if_icmp .ne 7, 3, [19]), (29, .iconst 1, 1, []), (30, .goto 4, 3, [20]), (33, .iconst 0, 1, []), (34, .ireturn, 1, [])]
def mMe158 : mM := (⟨"FirstLandingModel", "isOf", "(II)Z"⟩, prog_10_method_42_code, 2, (some .boolean), 0, 2, [998, 110, 997], mCo158)
/-- FirstLandingModel.extreme(IZ)I -/
def mCo159 : List mE := [(0, .bipush (-9), 2, []), (2, .istore_n 3, 1, []), (3, .iconst 0, 1, []), (4, .istore 4, 2, []), (6, .iload 4, 2, []), (8, .aload_n 0, 1, []), (9, .getfield 22, 3, [0, 7, 4, 0, 802]), (12, .iconst 0, 1, []), (13, .iaload, 1, []), (14, .if_icmp .ge 79, 3, [49]), (17, .iload 4, 2, []), (19, .iload_n 1, 1, []), (20, .if_icmp .eq 67, 3, [47]), (23, .iload_n 3, 1, []), (24, .bipush (-9), 2, []), (26, .if_icmp .eq 42, 3, [37]), (29, .iload_n 2, 1, []), (30, .ifCond .eq 22, 3, [28]), (33, .aload_n 0, 1, []), (34, .iload_n 1, 1, []), (35, .iload 4, 2, []), (37, .invokevirtual 125, 3, [0, 152, 0, 0, 973]), (40, .aload_n 0, 1, []), (41, .iload_n 1, 1, []), (42, .iload_n 3, 1, []), (43, .invokevirtual 125, 3, [0, 152, 0, 0, 973]), (46, .if_icmp .ge 26, 3, [39]), (49, .goto 19, 3, [37]), (52, .aload_n 0, 1, []), (53, .iload_n 1, 1, []), (54, .iload 4, 2, []), (56, .invokevirtual 125, 3, [0, 152, 0, 0, 973]), (59, .aload_n 0, 1, []), (60, .iload_n 1, 1, []), (61, .iload_n 3, 1, []), (62, .invokevirtual 125, 3, [0, 152, 0, 0, 973]), (65, .if_icmp .le 7, 3, [39]), (68, .iconst 1, 1, []), (69, .goto 4, 3, [40]), (72, .iconst 0, 1, []), (73, .istore 5, 2, []), (75, .iload 5, 2, []), (77, .ifCond .eq 8, 3, [45]), (80, .iload 4, 2, []), (82, .goto 4, 3, [46]), (85, .iload_n 3, 1, []), (86, .istore_n 3, 1, []), (87, .iinc 4 1, 3, []), (90, .goto (-84), 3, [4]), (93, .iload_n 3, 1, []), (94, .ireturn, 1, [])]
def mMe159 : mM := (⟨"FirstLandingModel", "extreme", "(IZ)I"⟩, prog_10_method_43_code, 6, (some .int), 1, 2, [1002, 110, 1001, 72], mCo159)
/-- FirstLandingModel.kindsOf(I)I -/
def mCo160 : List mE := [(0, .iconst 0, 1, []), (1, .istore_n 2, 1, []), (2, .iconst 0, 1, []), (3, .istore_n 3, 1, []), (4, .iload_n 3, 1, []), (5, .aload_n 0, 1, []), (6, .getfield 22, 3, [0, 7, 4, 0, 802]), (9, .iconst 0, 1, []), (10, .iaload, 1, []), (11, .if_icmp .ge 32, 3, [27]), (14, .iload_n 2, 1, []), (15, .aload_n 0, 1, []), (16, .getfield 22, 3, [0, 7, 4, 0, 802]), (19, .iconst 1, 1, []), (20, .iload_n 3, 1, []), (21, .iadd, 1, []), (22, .iaload, 1, []), (23, .iload_n 1, 1, []), (24, .invokestatic 163, 3, [0, 158, 0, 0, 996]), (27, .ifCond .eq 7, 3, [22]), (30, .iconst 1, 1, []), (31, .goto 4, 3, [23]), (34, .iconst 0, 1, []), (35, .iadd, 1, []), (36, .istore_n 2, 1, []), (37, .iinc 3 1, 3, []), (40, .goto (-36), 3, [4]), (43, .iload_n 2, 1, []), (44, .ireturn, 1, [])]
def mMe160 : mM := (⟨"FirstLandingModel", "kindsOf", "(I)I"⟩, prog_10_method_44_code, 4, (some .int), 1, 1, [1006, 110, 1005, 73], mCo160)
/-- FirstLandingModel.unmetTo(I)I -/
def mCo161 : List mE := [(0, .iconst 0, 1, []), (1, .istore_n 2, 1, []), (2, .iconst 0, 1, []), (3, .istore_n 3, 1, []), (4, .iload_n 3, 1, []), (5, .aload_n 0, 1, []), (6, .getfield 22, 3, [0, 7, 4, 0, 802]), (9, .iconst 0, 1, []), (10, .iaload, 1, []), (11, .if_icmp .ge 31, 3, [26]), (14, .iload_n 2, 1, []), (15, .iload_n 3, 1, []), (16, .iload_n 1, 1, []), (17, .if_icmp .eq 16, 3, [21]), (20, .aload_n 0, 1, []), (21, .iload_n 3, 1, []), (22, .iload_n 1, 1, []), (23, .invokevirtual 125, 3, [0, 152, 0, 0, 973]), (26, .ifCond .ne 7, 3, [21]), (29, .iconst 1, 1, []), (30, .goto 4, 3, [22]), (33, .iconst 0, 1, []), (34, .iadd, 1, []), (35, .istore_n 2, 1, []), (36, .iinc 3 1, 3, []), (39, .goto (-35), 3, [4]), (42, .iload_n 2, 1, []), (43, .ireturn, 1, [])]
def mMe161 : mM := (⟨"FirstLandingModel", "unmetTo", "(I)I"⟩, prog_10_method_45_code, 4, (some .int), 1, 1, [1010, 110, 1009, 74], mCo161)
/-- FirstLandingModel.step(I)I -/
def mCo162 : List mE := [(0, .aload_n 0, 1, []), (1, .iload_n 1, 1, []), (2, .invokevirtual 155, 3, [0, 147, 0, 0, 952]), (5, .ifCond .ne 5, 3, [6]), (8, .iconst (-1), 1, []), (9, .ireturn, 1, []), (10, .aload_n 0, 1, []), (11, .invokevirtual 180, 3, [0, 163, 0, 0, 1015]), (14, .bipush 40, 2, []), (16, .if_icmp .ne 6, 3, [12]), (19, .bipush (-2), 2, []), (21, .ireturn, 1, []), (22, .aload_n 0, 1, []), (23, .iload_n 1, 1, []), (24, .invokevirtual 184, 3, [0, 164, 0, 0, 1019]), (27, .aload_n 0, 1, []), (28, .getfield 22, 3, [0, 7, 4, 0, 802]), (31, .bipush 43, 2, []), (33, .iaload, 1, []), (34, .invokestatic 187, 3, [0, 166, 0, 0, 1027]), (37, .ireturn, 1, [])]
def mMe162 : mM := (⟨"FirstLandingModel", "step", "(I)I"⟩, prog_10_method_52_code, 2, (some .int), 1, 1, [1014, 110, 1012, 1013], mCo162)
/-- FirstLandingModel.done()I -/
def mCo163 : List mE := [(0, .aload_n 0, 1, []), (1, .getfield 22, 3, [0, 7, 4, 0, 802]), (4, .bipush 80, 2, []), (6, .iaload, 1, []), (7, .ireturn, 1, [])]
def mMe163 : mM := (⟨"FirstLandingModel", "done", "()I"⟩, prog_10_method_47_code, 1, (some .int), 1, 0, [1018, 110, 1017, 75], mCo163)
/-- FirstLandingModel.steps0(I)V -/
def mCo164 : List mE := [(0, .aload_n 0, 1, []), (1, .iconst 0, 1, []), (2, .iload_n 1, 1, []), (3, .iconst 0, 1, []), (4, .invokevirtual 176, 3, [0, 165, 0, 0, 1023]), (7, .aload_n 0, 1, []), (8, .getfield 22, 3, [0, 7, 4, 0, 802]), (11, .bipush 43, 2, []), (13, .dup2, 1, []), (14, .iaload, 1, []), (15, .iconst 1, 1, []), (16, .iload_n 1, 1, []), (17, .ishl, 1, []), (18, .ixor, 1, []), (19, .iastore, 1, []), (20, .return_, 1, [])]
def mMe164 : mM := (⟨"FirstLandingModel", "steps0", "(I)V"⟩, prog_10_method_51_code, 2, none, 1, 1, [1022, 110, 1021, 76], mCo164)
/-- FirstLandingModel.remember(III)V -/
def mCo165 : List mE := [(0, .bipush 81, 2, []), (2, .iconst 3, 1, []), (3, .aload_n 0, 1, []), (4, .getfield 22, 3, [0, 7, 4, 0, 802]), (7, .bipush 80, 2, []), (9, .iaload, 1, []), (10, .imul, 1, []), (11, .iadd, 1, []), (12, .istore 4, 2, []), (14, .aload_n 0, 1, []), (15, .getfield 22, 3, [0, 7, 4, 0, 802]), (18, .iload 4, 2, []), (20, .iload_n 1, 1, []), (21, .iastore, 1, []), (22, .aload_n 0, 1, []), (23, .getfield 22, 3, [0, 7, 4, 0, 802]), (26, .iload 4, 2, []), (28, .iconst 1, 1, []), (29, .iadd, 1, []), (30, .iload_n 2, 1, []), (31, .iastore, 1, []), (32, .aload_n 0, 1, []), (33, .getfield 22, 3, [0, 7, 4, 0, 802]), (36, .iload 4, 2, []), (38, .iconst 2, 1, []), (39, .iadd, 1, []), (40, .iload_n 3, 1, []), (41, .iastore, 1, []), (42, .aload_n 0, 1, []), (43, .getfield 22, 3, [0, 7, 4, 0, 802]), (46, .bipush 80, 2, []), (48, .dup2, 1, []), (49, .iaload, 1, []), (50, .iconst 1, 1, []), (51, .iadd, 1, []), (52, .iastore, 1, []), (53, .return_, 1, [])]
def mMe165 : mM := (⟨"FirstLandingModel", "remember", "(III)V"⟩, prog_10_method_48_code, 5, none, 1, 3, [1026, 110, 1025, 77], mCo165)
/-- FirstLandingModel.bits(I)I -/
def mCo166 : List mE := [(0, .iconst 0, 1, []), (1, .istore_n 1, 1, []), (2, .iload_n 0, 1, []), (3, .istore_n 2, 1, []), (4, .iload_n 2, 1, []), (5, .ifCond .eq 15, 3, [14]), (8, .iinc 1 1, 3, []), (11, .iload_n 2, 1, []), (12, .iload_n 2, 1, []), (13, .iconst 1, 1, []), (14, .isub, 1, []), (15, .iand, 1, []), (16, .istore_n 2, 1, []), (17, .goto (-13), 3, [4]), (20, .iload_n 1, 1, []), (21, .ireturn, 1, [])]
def mMe166 : mM := (⟨"FirstLandingModel", "bits", "(I)I"⟩, prog_10_method_5_code, 3, (some .int), 0, 1, [1029, 110, 1028], mCo166)
/-- FirstLandingModel.meet(III)I -/
def mCo167 : List mE := [(0, .aload_n 0, 1, []), (1, .iload_n 1, 1, []), (2, .invokevirtual 155, 3, [0, 147, 0, 0, 952]), (5, .ifCond .eq 28, 3, [17]), (8, .aload_n 0, 1, []), (9, .iload_n 2, 1, []), (10, .invokevirtual 155, 3, [0, 147, 0, 0, 952]), (13, .ifCond .eq 20, 3, [17]), (16, .iload_n 1, 1, []), (17, .iload_n 2, 1, []), (18, .if_icmp .eq 15, 3, [17]), (21, .iload_n 3, 1, []), (22, .i2l, 1, []), (23, .lconst 1, 1, []), (24, .ldc2_w 190, 3, [0, 9, 0, 0, 1034]), (27, .invokestatic 69, 3, [0, 127, 0, 0, 871]), (30, .ifCond .ne 5, 3, [19]), (33, .iconst (-1), 1, []), (34, .ireturn, 1, []), (35, .aload_n 0, 1, []), (36, .iload_n 1, 1, []), (37, .iload_n 2, 1, []), (38, .invokevirtual 125, 3, [0, 152, 0, 0, 973]), (41, .ifCond .eq 6, 3, [26]), (44, .bipush (-4), 2, []), (46, .ireturn, 1, []), (47, .aload_n 0, 1, []), (48, .invokevirtual 180, 3, [0, 163, 0, 0, 1015]), (51, .bipush 40, 2, []), (53, .if_icmp .ne 6, 3, [32]), (56, .bipush (-2), 2, []), (58, .ireturn, 1, []), (59, .aload_n 0, 1, []), (60, .iconst 1, 1, []), (61, .iload_n 1, 1, []), (62, .iload_n 2, 1, []), (63, .invokevirtual 176, 3, [0, 165, 0, 0, 1023]), (66, .aload_n 0, 1, []), (67, .getfield 22, 3, [0, 7, 4, 0, 802]), (70, .bipush 7, 2, []), (72, .bipush 6, 2, []), (74, .iload_n 1, 1, []), (75, .imul, 1, []), (76, .iadd, 1, []), (77, .iload_n 2, 1, []), (78, .iadd, 1, []), (79, .iload_n 3, 1, []), (80, .iastore, 1, []), (81, .aload_n 0, 1, []), (82, .invokevirtual 192, 3, [0, 168, 0, 0, 1035]), (85, .ireturn, 1, [])]
def mMe167 : mM := (⟨"FirstLandingModel", "meet", "(III)I"⟩, prog_10_method_53_code, 4, (some .int), 1, 3, [1033, 110, 1031, 1032], mCo167)
/-- FirstLandingModel.unmet()I -/
def mCo168 : List mE := [(0, .iconst 0, 1, []), (1, .istore_n 1, 1, []), (2, .iconst 0, 1, []), (3, .istore_n 2, 1, []), (4, .iload_n 2, 1, []), (5, .aload_n 0, 1, []), (6, .getfield 22, 3, [0, 7, 4, 0, 802]), (9, .iconst 0, 1, []), (10, .iaload, 1, []), (11, .if_icmp .ge 17, 3, [18]), (14, .iload_n 1, 1, []), (15, .aload_n 0, 1, []), (16, .iload_n 2, 1, []), (17, .invokevirtual 152, 3, [0, 155, 0, 0, 984]), (20, .iadd, 1, []), (21, .istore_n 1, 1, []), (22, .iinc 2 1, 3, []), (25, .goto (-21), 3, [4]), (28, .iload_n 1, 1, []), (29, .ireturn, 1, [])]
def mMe168 : mM := (⟨"FirstLandingModel", "unmet", "()I"⟩, prog_10_method_49_code, 3, (some .int), 1, 0, [1038, 110, 1037, 78], mCo168)
/-- FirstLandingModel.treat(II)I -/
def mCo169 : List mE := [(0, .aload_n 0, 1, []), (1, .iload_n 1, 1, []), (2, .invokevirtual 155, 3, [0, 147, 0, 0, 952]), (5, .ifCond .eq 16, 3, [11]), (8, .aload_n 0, 1, []), (9, .iload_n 2, 1, []), (10, .invokevirtual 155, 3, [0, 147, 0, 0, 952]), (13, .ifCond .eq 8, 3, [11]), (16, .iload_n 1, 1, []), (17, .iload_n 2, 1, []), (18, .if_icmp .ne 5, 3, [13]), (21, .iconst (-1), 1, []), (22, .ireturn, 1, []), (23, .aload_n 0, 1, []), (24, .iload_n 1, 1, []), (25, .iload_n 2, 1, []), (26, .invokevirtual 198, 3, [0, 170, 0, 0, 1043]), (29, .ifCond .ne 6, 3, [20]), (32, .bipush (-4), 2, []), (34, .ireturn, 1, []), (35, .aload_n 0, 1, []), (36, .invokevirtual 180, 3, [0, 163, 0, 0, 1015]), (39, .bipush 40, 2, []), (41, .if_icmp .ne 6, 3, [26]), (44, .bipush (-2), 2, []), (46, .ireturn, 1, []), (47, .aload_n 0, 1, []), (48, .iload_n 1, 1, []), (49, .iload_n 2, 1, []), (50, .invokevirtual 201, 3, [0, 173, 0, 0, 1054]), (53, .aload_n 0, 1, []), (54, .invokevirtual 205, 3, [0, 175, 0, 0, 1062]), (57, .ireturn, 1, [])]
def mMe169 : mM := (⟨"FirstLandingModel", "treat", "(II)I"⟩, prog_10_method_57_code, 3, (some .int), 1, 2, [1042, 110, 1040, 1041], mCo169)
/-- FirstLandingModel.mayTreat(II)Z -/
def mCo170 : List mE := [(0, .iload_n 1, 1, []), (1, .iload_n 2, 1, []), (2, .if_icmp .eq 68, 3, [39]), (5, .aload_n 0, 1, []), (6, .getfield 22, 3, [0, 7, 4, 0, 802]), (9, .bipush 44, 2, []), (11, .bipush 6, 2, []), (13, .iload_n 1, 1, []), (14, .imul, 1, []), (15, .iadd, 1, []), (16, .iload_n 2, 1, []), (17, .iadd, 1, []), (18, .iaload, 1, []), (19, .ifCond .ne 51, 3, [39]), (22, .aload_n 0, 1, []), (23, .getfield 22, 3, [0, 7, 4, 0, 802]), (26, .bipush 43, 2, []), (28, .iaload, 1, []), (29, .iload_n 1, 1, []), (30, .invokestatic 122, 3, [0, 149, 0, 0, 961]), (33, .ifCond .eq 37, 3, [39]), (36, .aload_n 0, 1, []), (37, .getfield 22, 3, [0, 7, 4, 0, 802]), (40, .bipush 43, 2, []), (42, .iaload, 1, []), (43, .iload_n 2, 1, []), (44, .invokestatic 122, 3, [0, 149, 0, 0, 961]), (47, .ifCond .eq 23, 3, [39]), (50, .aload_n 0, 1, []), (51, .iload_n 1, 1, []), (52, .iload_n 2, 1, []), (53, .aload_n 0, 1, []), (54, .getfield 22, 3, [0, 7, 4, 0, 802]), (57, .bipush 43, 2, []), (59, .iaload, 1, []), (60, .invokevirtual 145, 3, [0, 171, 0, 0, 1047]), (63, .ifCond .eq 7, 3, [39]), (66, .iconst 1, 1, []), (67, .goto 4, 3, [40]), (70, .iconst 0, 1, []), (71, .ireturn, 1, [])]
def mMe170 : mM := (⟨"FirstLandingModel", "mayTreat", "(II)Z"⟩, prog_10_method_55_code, 3, (some .boolean), 1, 2, [1046, 110, 1045, 79], mCo170)
/-- FirstLandingModel.doAgree(III)Z -/
def mCo171 : List mE := [(0, .aload_n 0, 1, []), (1, .iload_n 1, 1, []), (2, .iload_n 3, 1, []), (3, .invokevirtual 136, 3, [0, 150, 0, 0, 964]), (6, .istore 4, 2, []), (8, .aload_n 0, 1, []), (9, .iload_n 2, 1, []), (10, .iload_n 3, 1, []), (11, .invokevirtual 136, 3, [0, 150, 0, 0, 964]), (14, .istore 5, 2, []), (16, .iload 4, 2, []), (18, .ifCond .le 24, 3, [22]), (21, .iload 5, 2, []), (23, .ifCond .le 19, 3, [22]), (26, .iload 4, 2, []), (28, .iload 5, 2, []), (30, .isub, 1, []), (31, .invokestatic 139, 3, [0, 172, 0, 0, 1051]), (34, .iconst 2, 1, []), (35, .if_icmp .ge 7, 3, [22]), (38, .iconst 1, 1, []), (39, .goto 4, 3, [23]), (42, .iconst 0, 1, []), (43, .ireturn, 1, [])]
def mMe171 : mM := (⟨"FirstLandingModel", "doAgree", "(III)Z"⟩, prog_10_method_35_code, 6, (some .boolean), 1, 3, [1050, 110, 1049, 80], mCo171)
/-- FirstLandingModel.abs(I)I -/
def mCo172 : List mE := [(0, .iload_n 0, 1, []), (1, .ifCond .ge 8, 3, [5]), (4, .iload_n 0, 1, []), (5, .ineg, 1, []), (6, .goto 4, 3, [6]), (9, .iload_n 0, 1, []), (10, .ireturn, 1, [])]
def mMe172 : mM := (⟨"FirstLandingModel", "abs", "(I)I"⟩, prog_10_method_34_code, 1, (some .int), 0, 1, [1053, 110, 1052], mCo172)
/-- FirstLandingModel.treats(II)V -/
def mCo173 : List mE := [(0, .aload_n 0, 1, []), (1, .iconst 2, 1, []), (2, .iload_n 1, 1, []), (3, .iload_n 2, 1, []), (4, .invokevirtual 176, 3, [0, 165, 0, 0, 1023]), (7, .aload_n 0, 1, []), (8, .iload_n 1, 1, []), (9, .iload_n 2, 1, []), (10, .iconst 1, 1, []), (11, .invokevirtual 195, 3, [0, 174, 0, 0, 1058]), (14, .return_, 1, [])]
def mMe173 : mM := (⟨"FirstLandingModel", "treats", "(II)V"⟩, prog_10_method_56_code, 3, none, 1, 2, [1057, 110, 1056, 81], mCo173)
/-- FirstLandingModel.signs(III)V -/
def mCo174 : List mE := [(0, .aload_n 0, 1, []), (1, .getfield 22, 3, [0, 7, 4, 0, 802]), (4, .bipush 44, 2, []), (6, .bipush 6, 2, []), (8, .iload_n 1, 1, []), (9, .imul, 1, []), (10, .iadd, 1, []), (11, .iload_n 2, 1, []), (12, .iadd, 1, []), (13, .iload_n 3, 1, []), (14, .iastore, 1, []), (15, .aload_n 0, 1, []), (16, .getfield 22, 3, [0, 7, 4, 0, 802]), (19, .bipush 44, 2, []), (21, .bipush 6, 2, []), (23, .iload_n 2, 1, []), (24, .imul, 1, []), (25, .iadd, 1, []), (26, .iload_n 1, 1, []), (27, .iadd, 1, []), (28, .iload_n 3, 1, []), (29, .iastore, 1, []), (30, .return_, 1, [])]
def mMe174 : mM := (⟨"FirstLandingModel", "signs", "(III)V"⟩, prog_10_method_54_code, 4, none, 1, 3, [1061, 110, 1060, 82], mCo174)
/-- FirstLandingModel.treaties()I -/
def mCo175 : List mE := [(0, .iconst 0, 1, []), (1, .istore_n 1, 1, []), (2, .iconst 0, 1, []), (3, .istore_n 2, 1, []), (4, .iload_n 2, 1, []), (5, .bipush 6, 2, []), (7, .if_icmp .ge 17, 3, [15]), (10, .iload_n 1, 1, []), (11, .aload_n 0, 1, []), (12, .iload_n 2, 1, []), (13, .invokevirtual 149, 3, [0, 154, 0, 0, 980]), (16, .iadd, 1, []), (17, .istore_n 1, 1, []), (18, .iinc 2 1, 3, []), (21, .goto (-17), 3, [4]), (24, .iload_n 1, 1, []), (25, .iconst 2, 1, []), (26, .idiv, 1, []), (27, .ireturn, 1, [])]
def mMe175 : mM := (⟨"FirstLandingModel", "treaties", "()I"⟩, prog_10_method_50_code, 3, (some .int), 1, 0, [1065, 110, 1064, 83], mCo175)
/-- FirstLandingModel.undo(I)I -/
def mCo176 : List mE := [(0, .iload_n 1, 1, []), (1, .i2l, 1, []), (2, .lconst 0, 1, []), (3, .aload_n 0, 1, []), (4, .invokevirtual 180, 3, [0, 163, 0, 0, 1015]), (7, .i2l, 1, []), (8, .invokestatic 69, 3, [0, 127, 0, 0, 871]), (11, .ifCond .ne 5, 3, [10]), (14, .iconst (-1), 1, []), (15, .ireturn, 1, []), (16, .iconst 0, 1, []), (17, .istore_n 2, 1, []), (18, .aload_n 0, 1, []), (19, .invokevirtual 180, 3, [0, 163, 0, 0, 1015]), (22, .iload_n 1, 1, []), (23, .if_icmp .le 13, 3, [20]), (26, .aload_n 0, 1, []), (27, .invokevirtual 208, 3, [0, 177, 0, 0, 1070]), (30, .iinc 2 1, 3, []), (33, .goto (-15), 3, [12]), (36, .iload_n 2, 1, []), (37, .ireturn, 1, [])]
def mMe176 : mM := (⟨"FirstLandingModel", "undo", "(I)I"⟩, prog_10_method_59_code, 3, (some .int), 1, 1, [1069, 110, 1067, 1068], mCo176)
/-- FirstLandingModel.undoes()V -/
def mCo177 : List mE := [(0, .aload_n 0, 1, []), (1, .getfield 22, 3, [0, 7, 4, 0, 802]), (4, .bipush 80, 2, []), (6, .dup2, 1, []), (7, .iaload, 1, []), (8, .iconst 1, 1, []), (9, .isub, 1, []), (10, .iastore, 1, []), (11, .bipush 81, 2, []), (13, .iconst 3, 1, []), (14, .aload_n 0, 1, []), (15, .getfield 22, 3, [0, 7, 4, 0, 802]), (18, .bipush 80, 2, []), (20, .iaload, 1, []), (21, .imul, 1, []), (22, .iadd, 1, []), (23, .istore_n 1, 1, []), (24, .aload_n 0, 1, []), (25, .getfield 22, 3, [0, 7, 4, 0, 802]), (28, .iload_n 1, 1, []), (29, .iconst 1, 1, []), (30, .iadd, 1, []), (31, .iaload, 1, []), (32, .istore_n 2, 1, []), (33, .aload_n 0, 1, []), (34, .getfield 22, 3, [0, 7, 4, 0, 802]), (37, .iload_n 1, 1, []), (38, .iconst 2, 1, []), (39, .iadd, 1, []), (40, .iaload, 1, []), (41, .istore_n 3, 1, []), (42, .aload_n 0, 1, []), (43, .getfield 22, 3, [0, 7, 4, 0, 802]), (46, .iload_n 1, 1, []), (47, .iaload, 1, []), (48, .lookupswitch 62 #[(0, 28), (1, 44)], 28, [59, 36, 47]), (76, .aload_n 0, 1, []), (77, .getfield 22, 3, [0, 7, 4, 0, 802]), (80, .bipush 43, 2, []), (82, .dup2, 1, []), (83, .iaload, 1, []), (84, .iconst 1, 1, []), (85, .iload_n 2, 1, []), (86, .ishl, 1, []), (87, .ixor, 1, []), (88, .iastore, 1, []), (89, .goto 28, 3, [64]), (92, .aload_n 0, 1, []), (93, .getfield 22, 3, [0, 7, 4, 0, 802]), (96, .bipush 7, 2, []), (98, .bipush 6, 2, []), (100, .iload_n 2, 1, []), (101, .imul, 1, []), (102, .iadd, 1, []), (103, .iload_n 3, 1, []), (104, .iadd, 1, []), (105, .iconst 0, 1, []), (106, .iastore, 1, []), (107, .goto 10, 3, [64]), (110, .aload_n 0, 1, []), (111, .iload_n 2, 1, []), (112, .iload_n 3, 1, []), (113, .iconst 0, 1, []), (114, .invokevirtual 195, 3, [0, 174, 0, 0, 1058]), (117, .return_, 1, [])]
def mMe177 : mM := (⟨"FirstLandingModel", "undoes", "()V"⟩, prog_10_method_58_code, 4, none, 1, 0, [1073, 110, 1072, 84], mCo177)
/-- FirstLandingModel.keep(I)I -/
def mCo178 : List mE := [(0, .iload_n 1, 1, []), (1, .i2l, 1, []), (2, .lconst 0, 1, []), (3, .ldc2_w 211, 3, [0, 2, 0, 0, 1078]), (6, .invokestatic 69, 3, [0, 127, 0, 0, 871]), (9, .ifCond .ne 5, 3, [8]), (12, .iconst (-1), 1, []), (13, .ireturn, 1, []), (14, .aload_n 0, 1, []), (15, .getfield 22, 3, [0, 7, 4, 0, 802]), (18, .iconst 0, 1, []), (19, .iaload, 1, []), (20, .ifCond .ne 6, 3, [15]), (23, .bipush (-4), 2, []), (25, .ireturn, 1, []), (26, .aload_n 0, 1, []), (27, .getfield 22, 3, [0, 7, 4, 0, 802]), (30, .iconst 0, 1, []), (31, .aload_n 0, 1, []), (32, .getfield 28, 3, [0, 7, 6, 0, 804]), (35, .sipush 201, 3, []), (38, .iload_n 1, 1, []), (39, .imul, 1, []), (40, .invokestatic 117, 3, [0, 145, 0, 0, 945]), (43, .aload_n 0, 1, []), (44, .getfield 31, 3, [0, 7, 7, 0, 805]), (47, .iload_n 1, 1, []), (48, .iconst 1, 1, []), (49, .bastore, 1, []), (50, .aload_n 0, 1, []), (51, .invokevirtual 180, 3, [0, 163, 0, 0, 1015]), (54, .ireturn, 1, [])]
def mMe178 : mM := (⟨"FirstLandingModel", "keep", "(I)I"⟩, prog_10_method_60_code, 2, (some .int), 1, 1, [1077, 110, 1075, 1076], mCo178)
/-- FirstLandingModel.on(I)I -/
def mCo179 : List mE := [(0, .iload_n 1, 1, []), (1, .i2l, 1, []), (2, .lconst 0, 1, []), (3, .ldc2_w 211, 3, [0, 2, 0, 0, 1078]), (6, .invokestatic 69, 3, [0, 127, 0, 0, 871]), (9, .ifCond .ne 5, 3, [8]), (12, .iconst (-1), 1, []), (13, .ireturn, 1, []), (14, .aload_n 0, 1, []), (15, .getfield 31, 3, [0, 7, 7, 0, 805]), (18, .iload_n 1, 1, []), (19, .baload, 1, []), (20, .ifCond .ne 9, 3, [17]), (23, .aload_n 0, 1, []), (24, .iconst 1, 1, []), (25, .invokevirtual 79, 3, [0, 128, 0, 0, 874]), (28, .ireturn, 1, []), (29, .aload_n 0, 1, []), (30, .getfield 28, 3, [0, 7, 6, 0, 804]), (33, .sipush 201, 3, []), (36, .iload_n 1, 1, []), (37, .imul, 1, []), (38, .aload_n 0, 1, []), (39, .getfield 22, 3, [0, 7, 4, 0, 802]), (42, .iconst 0, 1, []), (43, .invokestatic 117, 3, [0, 145, 0, 0, 945]), (46, .aload_n 0, 1, []), (47, .invokevirtual 180, 3, [0, 163, 0, 0, 1015]), (50, .ireturn, 1, [])]
def mMe179 : mM := (⟨"FirstLandingModel", "on", "(I)I"⟩, prog_10_method_61_code, 2, (some .int), 1, 1, [1082, 110, 1080, 1081], mCo179)
/-- FirstLandingModel.seems(II)I -/
def mCo180 : List mE := [(0, .aload_n 0, 1, []), (1, .iload_n 1, 1, []), (2, .invokevirtual 155, 3, [0, 147, 0, 0, 952]), (5, .ifCond .eq 20, 3, [13]), (8, .aload_n 0, 1, []), (9, .iload_n 2, 1, []), (10, .invokevirtual 213, 3, [0, 181, 0, 0, 1087]), (13, .ifCond .eq 12, 3, [13]), (16, .aload_n 0, 1, []), (17, .iload_n 1, 1, []), (18, .iload_n 2, 1, []), (19, .invokevirtual 136, 3, [0, 150, 0, 0, 964]), (22, .goto 4, 3, [14]), (25, .iconst (-1), 1, []), (26, .ireturn, 1, [])]
def mMe180 : mM := (⟨"FirstLandingModel", "seems", "(II)I"⟩, prog_10_method_62_code, 3, (some .int), 1, 2, [1086, 110, 1084, 1085], mCo180)
/-- FirstLandingModel.isSet(I)Z -/
def mCo181 : List mE := [(0, .iload_n 1, 1, []), (1, .i2l, 1, []), (2, .lconst 0, 1, []), (3, .iconst 1, 1, []), (4, .aload_n 0, 1, []), (5, .getfield 22, 3, [0, 7, 4, 0, 802]), (8, .iconst 0, 1, []), (9, .iaload, 1, []), (10, .ishl, 1, []), (11, .iconst 1, 1, []), (12, .isub, 1, []), (13, .i2l, 1, []), (14, .invokestatic 69, 3, [0, 127, 0, 0, 871]), (17, .ireturn, 1, [])]
def mMe181 : mM := (⟨"FirstLandingModel", "isSet", "(I)Z"⟩, prog_10_method_28_code, 2, (some .boolean), 1, 1, [1090, 110, 1089, 85], mCo181)
/-- FirstLandingModel.there(I)I -/
def mCo182 : List mE := [(0, .aload_n 0, 1, []), (1, .iload_n 1, 1, []), (2, .invokevirtual 213, 3, [0, 181, 0, 0, 1087]), (5, .ifCond .eq 11, 3, [8]), (8, .aload_n 0, 1, []), (9, .iload_n 1, 1, []), (10, .invokevirtual 216, 3, [0, 183, 0, 0, 1095]), (13, .goto 4, 3, [9]), (16, .iconst (-1), 1, []), (17, .ireturn, 1, [])]
def mMe182 : mM := (⟨"FirstLandingModel", "there", "(I)I"⟩, prog_10_method_63_code, 2, (some .int), 1, 1, [1094, 110, 1092, 1093], mCo182)
/-- FirstLandingModel.thereOf(I)I -/
def mCo183 : List mE := [(0, .iconst 0, 1, []), (1, .istore_n 2, 1, []), (2, .iconst 0, 1, []), (3, .istore_n 3, 1, []), (4, .iload_n 3, 1, []), (5, .aload_n 0, 1, []), (6, .getfield 22, 3, [0, 7, 4, 0, 802]), (9, .iconst 0, 1, []), (10, .iaload, 1, []), (11, .if_icmp .ge 36, 3, [29]), (14, .iload_n 2, 1, []), (15, .iload_n 1, 1, []), (16, .iload_n 3, 1, []), (17, .invokestatic 122, 3, [0, 149, 0, 0, 961]), (20, .ifCond .eq 18, 3, [24]), (23, .aload_n 0, 1, []), (24, .iload_n 3, 1, []), (25, .iload_n 1, 1, []), (26, .invokevirtual 136, 3, [0, 150, 0, 0, 964]), (29, .ifCond .le 9, 3, [24]), (32, .iconst 1, 1, []), (33, .iload_n 3, 1, []), (34, .ishl, 1, []), (35, .goto 4, 3, [25]), (38, .iconst 0, 1, []), (39, .ior, 1, []), (40, .istore_n 2, 1, []), (41, .iinc 3 1, 3, []), (44, .goto (-40), 3, [4]), (47, .iload_n 2, 1, []), (48, .ireturn, 1, [])]
def mMe183 : mM := (⟨"FirstLandingModel", "thereOf", "(I)I"⟩, prog_10_method_33_code, 4, (some .int), 1, 1, [1098, 110, 1097, 86], mCo183)
/-- FirstLandingModel.agree(I)I -/
def mCo184 : List mE := [(0, .aload_n 0, 1, []), (1, .iload_n 1, 1, []), (2, .invokevirtual 213, 3, [0, 181, 0, 0, 1087]), (5, .ifCond .ne 5, 3, [6]), (8, .iconst (-1), 1, []), (9, .ireturn, 1, []), (10, .aload_n 0, 1, []), (11, .iload_n 1, 1, []), (12, .invokevirtual 219, 3, [0, 185, 0, 0, 1103]), (15, .istore_n 2, 1, []), (16, .aload_n 0, 1, []), (17, .iload_n 2, 1, []), (18, .aload_n 0, 1, []), (19, .getfield 142, 3, [0, 7, 14, 0, 812]), (22, .invokevirtual 222, 3, [0, 186, 0, 0, 1107]), (25, .ireturn, 1, [])]
def mMe184 : mM := (⟨"FirstLandingModel", "agree", "(I)I"⟩, prog_10_method_64_code, 3, (some .int), 1, 1, [1102, 110, 1100, 1101], mCo184)
/-- FirstLandingModel.pairs(I)I -/
def mCo185 : List mE := [(0, .iconst 0, 1, []), (1, .istore_n 2, 1, []), (2, .aload_n 0, 1, []), (3, .bipush (-9), 2, []), (5, .putfield 142, 3, [0, 7, 14, 0, 812]), (8, .iconst 0, 1, []), (9, .istore_n 3, 1, []), (10, .iload_n 3, 1, []), (11, .aload_n 0, 1, []), (12, .getfield 22, 3, [0, 7, 4, 0, 802]), (15, .iconst 0, 1, []), (16, .iaload, 1, []), (17, .if_icmp .ge 89, 3, [56]), (20, .iload_n 3, 1, []), (21, .iconst 1, 1, []), (22, .iadd, 1, []), (23, .istore 4, 2, []), (25, .iload 4, 2, []), (27, .aload_n 0, 1, []), (28, .getfield 22, 3, [0, 7, 4, 0, 802]), (31, .iconst 0, 1, []), (32, .iaload, 1, []), (33, .if_icmp .ge 67, 3, [54]), (36, .iload_n 1, 1, []), (37, .iload_n 3, 1, []), (38, .invokestatic 122, 3, [0, 149, 0, 0, 961]), (41, .ifCond .eq 53, 3, [52]), (44, .iload_n 1, 1, []), (45, .iload 4, 2, []), (47, .invokestatic 122, 3, [0, 149, 0, 0, 961]), (50, .ifCond .eq 44, 3, [52]), (53, .aload_n 0, 1, []), (54, .iload_n 3, 1, []), (55, .iload 4, 2, []), (57, .iload_n 1, 1, []), (58, .invokevirtual 145, 3, [0, 171, 0, 0, 1047]), (61, .ifCond .eq 33, 3, [52]), (64, .iinc 2 1, 3, []), (67, .aload_n 0, 1, []), (68, .aload_n 0, 1, []), (69, .getfield 142, 3, [0, 7, 14, 0, 812]), (72, .bipush (-9), 2, []), (74, .if_icmp .ne 13, 3, [49]), (77, .bipush 6, 2, []), (79, .iload_n 3, 1, []), (80, .imul, 1, []), (81, .iload 4, 2, []), (83, .iadd, 1, []), (84, .goto 7, 3, [51]), (87, .aload_n 0, 1, []), (88, .getfield 142, 3, [0, 7, 14, 0, 812]), (91, .putfield 142, 3, [0, 7, 14, 0, 812]), (94, .iinc 4 1, 3, []), (97, .goto (-72), 3, [17]), (100, .iinc 3 1, 3, []), (103, .goto (-93), 3, [7]), (106, .iload_n 2, 1, []), (107, .ireturn, 1, [])]
def mMe185 : mM := (⟨"FirstLandingModel", "pairs", "(I)I"⟩, prog_10_method_36_code, 5, (some .int), 1, 1, [1106, 110, 1105, 87], mCo185)
/-- FirstLandingModel.answer(II)I -/
def mCo186 : List mE := [(0, .aload_n 0, 1, []), (1, .iload_n 2, 1, []), (2, .putfield 64, 3, [0, 7, 8, 0, 806]), (5, .iload_n 1, 1, []), (6, .ireturn, 1, [])]
def mMe186 : mM := (⟨"FirstLandingModel", "answer", "(II)I"⟩, prog_10_method_8_code, 3, (some .int), 1, 2, [1110, 110, 1109, 88], mCo186)
/-- FirstLandingModel.well()I -/
def mCo187 : List mE := [(0, .aload_n 0, 1, []), (1, .getfield 22, 3, [0, 7, 4, 0, 802]), (4, .iconst 0, 1, []), (5, .iaload, 1, []), (6, .ifCond .ne 6, 3, [7]), (9, .bipush (-4), 2, []), (11, .ireturn, 1, []), (12, .iconst 0, 1, []), (13, .istore_n 1, 1, []), (14, .iconst 0, 1, []), (15, .istore_n 2, 1, []), (16, .iload_n 2, 1, []), (17, .iconst 1, 1, []), (18, .aload_n 0, 1, []), (19, .getfield 22, 3, [0, 7, 4, 0, 802]), (22, .iconst 0, 1, []), (23, .iaload, 1, []), (24, .ishl, 1, []), (25, .if_icmp .ge 43, 3, [43]), (28, .iload_n 2, 1, []), (29, .invokestatic 187, 3, [0, 166, 0, 0, 1027]), (32, .istore_n 3, 1, []), (33, .iload_n 3, 1, []), (34, .iload_n 1, 1, []), (35, .invokestatic 187, 3, [0, 166, 0, 0, 1027]), (38, .if_icmp .le 22, 3, [39]), (41, .aload_n 0, 1, []), (42, .iload_n 2, 1, []), (43, .invokevirtual 219, 3, [0, 185, 0, 0, 1103]), (46, .iload_n 3, 1, []), (47, .iload_n 3, 1, []), (48, .iconst 1, 1, []), (49, .isub, 1, []), (50, .imul, 1, []), (51, .iconst 2, 1, []), (52, .idiv, 1, []), (53, .if_icmp .ne 7, 3, [39]), (56, .iload_n 2, 1, []), (57, .goto 4, 3, [40]), (60, .iload_n 1, 1, []), (61, .istore_n 1, 1, []), (62, .iinc 2 1, 3, []), (65, .goto (-49), 3, [11]), (68, .aload_n 0, 1, []), (69, .iload_n 1, 1, []), (70, .invokestatic 187, 3, [0, 166, 0, 0, 1027]), (73, .iload_n 1, 1, []), (74, .invokevirtual 222, 3, [0, 186, 0, 0, 1107]), (77, .ireturn, 1, [])]
def mMe187 : mM := (⟨"FirstLandingModel", "well", "()I"⟩, prog_10_method_65_code, 4, (some .int), 1, 0, [1114, 110, 1112, 1113], mCo187)
/-- FirstLandingModel.add(I)I -/
def mCo188 : List mE := [(0, .aload_n 0, 1, []), (1, .iload_n 1, 1, []), (2, .invokevirtual 213, 3, [0, 181, 0, 0, 1087]), (5, .ifCond .ne 5, 3, [6]), (8, .iconst (-1), 1, []), (9, .ireturn, 1, []), (10, .bipush (-9), 2, []), (12, .istore_n 2, 1, []), (13, .iconst (-1), 1, []), (14, .istore_n 3, 1, []), (15, .iconst 0, 1, []), (16, .istore 4, 2, []), (18, .iload 4, 2, []), (20, .aload_n 0, 1, []), (21, .getfield 22, 3, [0, 7, 4, 0, 802]), (24, .iconst 0, 1, []), (25, .iaload, 1, []), (26, .if_icmp .ge 56, 3, [46]), (29, .iload_n 1, 1, []), (30, .iload 4, 2, []), (32, .invokestatic 122, 3, [0, 149, 0, 0, 961]), (35, .ifCond .ne 41, 3, [44]), (38, .aload_n 0, 1, []), (39, .iload_n 1, 1, []), (40, .iconst 1, 1, []), (41, .iload 4, 2, []), (43, .ishl, 1, []), (44, .ior, 1, []), (45, .invokevirtual 219, 3, [0, 185, 0, 0, 1103]), (48, .istore 5, 2, []), (50, .iload 5, 2, []), (52, .iload_n 3, 1, []), (53, .if_icmp .le 8, 3, [35]), (56, .iload 4, 2, []), (58, .goto 4, 3, [36]), (61, .iload_n 2, 1, []), (62, .istore_n 2, 1, []), (63, .iload 5, 2, []), (65, .iload_n 3, 1, []), (66, .if_icmp .le 8, 3, [42]), (69, .iload 5, 2, []), (71, .goto 4, 3, [43]), (74, .iload_n 3, 1, []), (75, .istore_n 3, 1, []), (76, .iinc 4 1, 3, []), (79, .goto (-61), 3, [12]), (82, .iload_n 2, 1, []), (83, .bipush (-9), 2, []), (85, .if_icmp .ne 8, 3, [51]), (88, .bipush (-9), 2, []), (90, .goto 9, 3, [55]), (93, .aload_n 0, 1, []), (94, .iload_n 2, 1, []), (95, .iload_n 3, 1, []), (96, .invokevirtual 222, 3, [0, 186, 0, 0, 1107]), (99, .ireturn, 1, [])]
def mMe188 : mM := (⟨"FirstLandingModel", "add", "(I)I"⟩, prog_10_method_66_code, 6, (some .int), 1, 1, [1118, 110, 1116, 1117], mCo188)
/-- FirstLandingModel.worst(I)I -/
def mCo189 : List mE := [(0, .aload_n 0, 1, []), (1, .iload_n 1, 1, []), (2, .invokevirtual 213, 3, [0, 181, 0, 0, 1087]), (5, .ifCond .ne 5, 3, [6]), (8, .iconst (-1), 1, []), (9, .ireturn, 1, []), (10, .aload_n 0, 1, []), (11, .iload_n 1, 1, []), (12, .invokevirtual 216, 3, [0, 183, 0, 0, 1095]), (15, .istore_n 2, 1, []), (16, .bipush (-9), 2, []), (18, .istore_n 3, 1, []), (19, .iconst (-1), 1, []), (20, .istore 4, 2, []), (22, .iconst 0, 1, []), (23, .istore 5, 2, []), (25, .iload 5, 2, []), (27, .aload_n 0, 1, []), (28, .getfield 22, 3, [0, 7, 4, 0, 802]), (31, .iconst 0, 1, []), (32, .iaload, 1, []), (33, .if_icmp .ge 110, 3, [75]), (36, .iload 5, 2, []), (38, .iconst 1, 1, []), (39, .iadd, 1, []), (40, .istore 6, 2, []), (42, .iload 6, 2, []), (44, .aload_n 0, 1, []), (45, .getfield 22, 3, [0, 7, 4, 0, 802]), (48, .iconst 0, 1, []), (49, .iaload, 1, []), (50, .if_icmp .ge 87, 3, [73]), (53, .iload_n 2, 1, []), (54, .iload 5, 2, []), (56, .invokestatic 122, 3, [0, 149, 0, 0, 961]), (59, .ifCond .eq 33, 3, [51]), (62, .iload_n 2, 1, []), (63, .iload 6, 2, []), (65, .invokestatic 122, 3, [0, 149, 0, 0, 961]), (68, .ifCond .eq 24, 3, [51]), (71, .aload_n 0, 1, []), (72, .iload 5, 2, []), (74, .iload_n 1, 1, []), (75, .invokevirtual 136, 3, [0, 150, 0, 0, 964]), (78, .aload_n 0, 1, []), (79, .iload 6, 2, []), (81, .iload_n 1, 1, []), (82, .invokevirtual 136, 3, [0, 150, 0, 0, 964]), (85, .isub, 1, []), (86, .invokestatic 139, 3, [0, 172, 0, 0, 1051]), (89, .goto 4, 3, [52]), (92, .iconst (-1), 1, []), (93, .istore 7, 2, []), (95, .iload 7, 2, []), (97, .iload 4, 2, []), (99, .if_icmp .le 14, 3, [62]), (102, .bipush 6, 2, []), (104, .iload 5, 2, []), (106, .imul, 1, []), (107, .iload 6, 2, []), (109, .iadd, 1, []), (110, .goto 4, 3, [63]), (113, .iload_n 3, 1, []), (114, .istore_n 3, 1, []), (115, .iload 7, 2, []), (117, .iload 4, 2, []), (119, .if_icmp .le 8, 3, [69]), (122, .iload 7, 2, []), (124, .goto 5, 3, [70]), (127, .iload 4, 2, []), (129, .istore 4, 2, []), (131, .iinc 6 1, 3, []), (134, .goto (-92), 3, [26]), (137, .iinc 5 1, 3, []), (140, .goto (-115), 3, [16]), (143, .iload_n 3, 1, []), (144, .bipush (-9), 2, []), (146, .if_icmp .ne 8, 3, [80]), (149, .bipush (-9), 2, []), (151, .goto 10, 3, [84]), (154, .aload_n 0, 1, []), (155, .iload_n 3, 1, []), (156, .iload 4, 2, []), (158, .invokevirtual 222, 3, [0, 186, 0, 0, 1107]), (161, .ireturn, 1, [])]
def mMe189 : mM := (⟨"FirstLandingModel", "worst", "(I)I"⟩, prog_10_method_67_code, 8, (some .int), 1, 1, [1122, 110, 1120, 1121], mCo189)
/-- FirstLandingModel.steps(I)I -/
def mCo190 : List mE := [(0, .iload_n 1, 1, []), (1, .invokestatic 75, 3, [0, 126, 0, 0, 867]), (4, .ifCond .ne 5, 3, [5]), (7, .iconst (-1), 1, []), (8, .ireturn, 1, []), (9, .aload_n 0, 1, []), (10, .getfield 22, 3, [0, 7, 4, 0, 802]), (13, .iconst 0, 1, []), (14, .iaload, 1, []), (15, .ifCond .ne 6, 3, [12]), (18, .bipush (-4), 2, []), (20, .ireturn, 1, []), (21, .aload_n 0, 1, []), (22, .getfield 7, 3, [0, 7, 0, 0, 798]), (25, .iload_n 1, 1, []), (26, .iaload, 1, []), (27, .ifCond .ge 9, 3, [21]), (30, .aload_n 0, 1, []), (31, .iconst 1, 1, []), (32, .invokevirtual 79, 3, [0, 128, 0, 0, 874]), (35, .ireturn, 1, []), (36, .aload_n 0, 1, []), (37, .getfield 7, 3, [0, 7, 0, 0, 798]), (40, .iload_n 1, 1, []), (41, .iaload, 1, []), (42, .iconst 2, 1, []), (43, .irem, 1, []), (44, .iconst 1, 1, []), (45, .if_icmp .eq 22, 3, [38]), (48, .aload_n 0, 1, []), (49, .getfield 7, 3, [0, 7, 0, 0, 798]), (52, .iload_n 1, 1, []), (53, .iaload, 1, []), (54, .i2l, 1, []), (55, .ldc2_w 211, 3, [0, 2, 0, 0, 1078]), (58, .ldc2_w 225, 3, [0, 8, 0, 0, 1127]), (61, .invokestatic 69, 3, [0, 127, 0, 0, 871]), (64, .ifCond .ne 9, 3, [42]), (67, .aload_n 0, 1, []), (68, .iconst 5, 1, []), (69, .invokevirtual 79, 3, [0, 128, 0, 0, 874]), (72, .ireturn, 1, []), (73, .aload_n 0, 1, []), (74, .iload_n 1, 1, []), (75, .invokevirtual 227, 3, [0, 191, 0, 0, 1128]), (78, .ifCond .ne 9, 3, [50]), (81, .aload_n 0, 1, []), (82, .iconst 3, 1, []), (83, .invokevirtual 79, 3, [0, 128, 0, 0, 874]), (86, .ireturn, 1, []), (87, .aload_n 0, 1, []), (88, .getfield 7, 3, [0, 7, 0, 0, 798]), (91, .iload_n 1, 1, []), (92, .iaload, 1, []), (93, .iconst 2, 1, []), (94, .idiv, 1, []), (95, .istore_n 2, 1, []), (96, .aload_n 0, 1, []), (97, .iload_n 1, 1, []), (98, .iload_n 2, 1, []), (99, .invokevirtual 230, 3, [0, 192, 0, 0, 1132]), (102, .aload_n 0, 1, []), (103, .iconst 1, 1, []), (104, .iload_n 2, 1, []), (105, .ishl, 1, []), (106, .iconst 1, 1, []), (107, .isub, 1, []), (108, .invokevirtual 233, 3, [0, 193, 0, 0, 1136]), (111, .aload_n 0, 1, []), (112, .getfield 22, 3, [0, 7, 4, 0, 802]), (115, .bipush 43, 2, []), (117, .iaload, 1, []), (118, .istore_n 3, 1, []), (119, .aload_n 0, 1, []), (120, .getfield 45, 3, [0, 7, 16, 0, 814]), (123, .iload_n 3, 1, []), (124, .iaload, 1, []), (125, .istore 4, 2, []), (127, .aload_n 0, 1, []), (128, .getfield 42, 3, [0, 7, 15, 0, 813]), (131, .bipush 16, 2, []), (133, .iload_n 3, 1, []), (134, .imul, 1, []), (135, .iload 4, 2, []), (137, .iadd, 1, []), (138, .iaload, 1, []), (139, .istore 5, 2, []), (141, .iload 5, 2, []), (143, .ldc 121, 2, [0, 1000000, 0, 0, 972]), (145, .if_icmp .lt 6, 3, [92]), (148, .bipush (-9), 2, []), (150, .ireturn, 1, []), (151, .bipush (-9), 2, []), (153, .istore 6, 2, []), (155, .aload_n 0, 1, []), (156, .getfield 22, 3, [0, 7, 4, 0, 802]), (159, .iconst 0, 1, []), (160, .iaload, 1, []), (161, .iconst 1, 1, []), (162, .isub, 1, []), (163, .istore 7, 2, []), (165, .iload 7, 2, []), (167, .ifCond .lt 59, 3, [134]), (170, .iload 5, 2, []), (172, .ifCond .le 54, 3, [134]), (175, .iload_n 3, 1, []), (176, .iconst 1, 1, []), (177, .iload 7, 2, []), (179, .ishl, 1, []), (180, .ixor, 1, []), (181, .istore 8, 2, []), (183, .aload_n 0, 1, []), (184, .getfield 42, 3, [0, 7, 15, 0, 813]), (187, .bipush 16, 2, []), (189, .iload 8, 2, []), (191, .imul, 1, []), (192, .iload 4, 2, []), (194, .aload_n 0, 1, []), (195, .getfield 45, 3, [0, 7, 16, 0, 814]), (198, .iload 8, 2, []), (200, .iaload, 1, []), (201, .ior, 1, []), (202, .iadd, 1, []), (203, .iaload, 1, []), (204, .iload 5, 2, []), (206, .iconst 1, 1, []), (207, .isub, 1, []), (208, .if_icmp .ne 8, 3, [130]), (211, .iload 7, 2, []), (213, .goto 5, 3, [131]), (216, .iload 6, 2, []), (218, .istore 6, 2, []), (220, .iinc 7 (-1), 3, []), (223, .goto (-58), 3, [101]), (226, .aload_n 0, 1, []), (227, .iload 5, 2, []), (229, .iload 6, 2, []), (231, .invokevirtual 222, 3, [0, 186, 0, 0, 1107]), (234, .ireturn, 1, [])]
def mMe190 : mM := (⟨"FirstLandingModel", "steps", "(I)I"⟩, prog_10_method_71_code, 9, (some .int), 1, 1, [1126, 110, 1124, 1125], mCo190)
/-- FirstLandingModel.arePairs(I)Z -/
def mCo191 : List mE := [(0, .iconst 1, 1, []), (1, .istore_n 2, 1, []), (2, .iconst 0, 1, []), (3, .istore_n 3, 1, []), (4, .iload_n 3, 1, []), (5, .aload_n 0, 1, []), (6, .getfield 7, 3, [0, 7, 0, 0, 798]), (9, .iload_n 1, 1, []), (10, .iaload, 1, []), (11, .if_icmp .ge 80, 3, [58]), (14, .iload_n 2, 1, []), (15, .ifCond .eq 25, 3, [25]), (18, .aload_n 0, 1, []), (19, .aload_n 0, 1, []), (20, .getfield 13, 3, [0, 7, 1, 0, 799]), (23, .bipush 40, 2, []), (25, .iload_n 1, 1, []), (26, .imul, 1, []), (27, .iload_n 3, 1, []), (28, .iadd, 1, []), (29, .iaload, 1, []), (30, .invokevirtual 155, 3, [0, 147, 0, 0, 952]), (33, .ifCond .eq 7, 3, [25]), (36, .iconst 1, 1, []), (37, .goto 4, 3, [26]), (40, .iconst 0, 1, []), (41, .istore_n 2, 1, []), (42, .iload_n 2, 1, []), (43, .ifCond .eq 40, 3, [54]), (46, .iload_n 3, 1, []), (47, .iconst 2, 1, []), (48, .irem, 1, []), (49, .ifCond .eq 30, 3, [52]), (52, .aload_n 0, 1, []), (53, .getfield 13, 3, [0, 7, 1, 0, 799]), (56, .bipush 40, 2, []), (58, .iload_n 1, 1, []), (59, .imul, 1, []), (60, .iload_n 3, 1, []), (61, .iadd, 1, []), (62, .iaload, 1, []), (63, .aload_n 0, 1, []), (64, .getfield 13, 3, [0, 7, 1, 0, 799]), (67, .bipush 40, 2, []), (69, .iload_n 1, 1, []), (70, .imul, 1, []), (71, .iload_n 3, 1, []), (72, .iadd, 1, []), (73, .iconst 1, 1, []), (74, .isub, 1, []), (75, .iaload, 1, []), (76, .if_icmp .eq 7, 3, [54]), (79, .iconst 1, 1, []), (80, .goto 4, 3, [55]), (83, .iconst 0, 1, []), (84, .istore_n 2, 1, []), (85, .iinc 3 1, 3, []), (88, .goto (-84), 3, [4]), (91, .iload_n 2, 1, []), (92, .ireturn, 1, [])]
def mMe191 : mM := (⟨"FirstLandingModel", "arePairs", "(I)Z"⟩, prog_10_method_70_code, 4, (some .boolean), 1, 1, [1131, 110, 1130, 89], mCo191)
/-- FirstLandingModel.layAgreed(II)V -/
def mCo192 : List mE := [(0, .iconst 0, 1, []), (1, .istore_n 3, 1, []), (2, .iload_n 3, 1, []), (3, .iconst 1, 1, []), (4, .aload_n 0, 1, []), (5, .getfield 22, 3, [0, 7, 4, 0, 802]), (8, .iconst 0, 1, []), (9, .iaload, 1, []), (10, .ishl, 1, []), (11, .if_icmp .ge 112, 3, [72]), (14, .iconst 0, 1, []), (15, .istore 4, 2, []), (17, .iconst 0, 1, []), (18, .istore 5, 2, []), (20, .iload 5, 2, []), (22, .iload_n 2, 1, []), (23, .if_icmp .ge 86, 3, [65]), (26, .aload_n 0, 1, []), (27, .getfield 13, 3, [0, 7, 1, 0, 799]), (30, .bipush 40, 2, []), (32, .iload_n 1, 1, []), (33, .imul, 1, []), (34, .iconst 2, 1, []), (35, .iload 5, 2, []), (37, .imul, 1, []), (38, .iadd, 1, []), (39, .iaload, 1, []), (40, .istore 6, 2, []), (42, .aload_n 0, 1, []), (43, .getfield 13, 3, [0, 7, 1, 0, 799]), (46, .bipush 40, 2, []), (48, .iload_n 1, 1, []), (49, .imul, 1, []), (50, .iconst 2, 1, []), (51, .iload 5, 2, []), (53, .imul, 1, []), (54, .iadd, 1, []), (55, .iconst 1, 1, []), (56, .iadd, 1, []), (57, .iaload, 1, []), (58, .istore 7, 2, []), (60, .iload 4, 2, []), (62, .iload_n 3, 1, []), (63, .iload 6, 2, []), (65, .invokestatic 122, 3, [0, 149, 0, 0, 961]), (68, .ifCond .eq 31, 3, [60]), (71, .iload_n 3, 1, []), (72, .iload 7, 2, []), (74, .invokestatic 122, 3, [0, 149, 0, 0, 961]), (77, .ifCond .eq 22, 3, [60]), (80, .aload_n 0, 1, []), (81, .iload 6, 2, []), (83, .iload 7, 2, []), (85, .iload_n 3, 1, []), (86, .invokevirtual 145, 3, [0, 171, 0, 0, 1047]), (89, .ifCond .eq 10, 3, [60]), (92, .iconst 1, 1, []), (93, .iload 5, 2, []), (95, .ishl, 1, []), (96, .goto 4, 3, [61]), (99, .iconst 0, 1, []), (100, .ior, 1, []), (101, .istore 4, 2, []), (103, .iinc 5 1, 3, []), (106, .goto (-86), 3, [14]), (109, .aload_n 0, 1, []), (110, .getfield 45, 3, [0, 7, 16, 0, 814]), (113, .iload_n 3, 1, []), (114, .iload 4, 2, []), (116, .iastore, 1, []), (117, .iinc 3 1, 3, []), (120, .goto (-118), 3, [2]), (123, .return_, 1, [])]
def mMe192 : mM := (⟨"FirstLandingModel", "layAgreed", "(II)V"⟩, prog_10_method_68_code, 8, none, 1, 2, [1135, 110, 1134, 90], mCo192)
/-- FirstLandingModel.layFar(I)V -/
def mCo193 : List mE := [(0, .iconst 0, 1, []), (1, .istore_n 2, 1, []), (2, .iload_n 2, 1, []), (3, .sipush 1024, 3, []), (6, .if_icmp .ge 29, 3, [19]), (9, .aload_n 0, 1, []), (10, .getfield 42, 3, [0, 7, 15, 0, 813]), (13, .iload_n 2, 1, []), (14, .iload_n 2, 1, []), (15, .bipush 16, 2, []), (17, .irem, 1, []), (18, .iload_n 1, 1, []), (19, .if_icmp .ne 7, 3, [15]), (22, .iconst 0, 1, []), (23, .goto 5, 3, [16]), (26, .ldc 121, 2, [0, 1000000, 0, 0, 972]), (28, .iastore, 1, []), (29, .iinc 2 1, 3, []), (32, .goto (-30), 3, [2]), (35, .iconst 1, 1, []), (36, .istore_n 2, 1, []), (37, .iload_n 2, 1, []), (38, .ifCond .eq 156, 3, [113]), (41, .iconst 0, 1, []), (42, .istore_n 2, 1, []), (43, .iconst 0, 1, []), (44, .istore_n 3, 1, []), (45, .iload_n 3, 1, []), (46, .iconst 1, 1, []), (47, .aload_n 0, 1, []), (48, .getfield 22, 3, [0, 7, 4, 0, 802]), (51, .iconst 0, 1, []), (52, .iaload, 1, []), (53, .ishl, 1, []), (54, .if_icmp .ge 137, 3, [112]), (57, .iconst 0, 1, []), (58, .istore 4, 2, []), (60, .iload 4, 2, []), (62, .iload_n 1, 1, []), (63, .if_icmp .ge 122, 3, [110]), (66, .aload_n 0, 1, []), (67, .getfield 42, 3, [0, 7, 15, 0, 813]), (70, .bipush 16, 2, []), (72, .iload_n 3, 1, []), (73, .imul, 1, []), (74, .iload 4, 2, []), (76, .iadd, 1, []), (77, .iaload, 1, []), (78, .istore 5, 2, []), (80, .iconst 0, 1, []), (81, .istore 6, 2, []), (83, .iload 6, 2, []), (85, .aload_n 0, 1, []), (86, .getfield 22, 3, [0, 7, 4, 0, 802]), (89, .iconst 0, 1, []), (90, .iaload, 1, []), (91, .if_icmp .ge 47, 3, [83]), (94, .iload_n 3, 1, []), (95, .iconst 1, 1, []), (96, .iload 6, 2, []), (98, .ishl, 1, []), (99, .ixor, 1, []), (100, .istore 7, 2, []), (102, .iload 5, 2, []), (104, .aload_n 0, 1, []), (105, .getfield 42, 3, [0, 7, 15, 0, 813]), (108, .bipush 16, 2, []), (110, .iload 7, 2, []), (112, .imul, 1, []), (113, .iload 4, 2, []), (115, .aload_n 0, 1, []), (116, .getfield 45, 3, [0, 7, 16, 0, 814]), (119, .iload 7, 2, []), (121, .iaload, 1, []), (122, .ior, 1, []), (123, .iadd, 1, []), (124, .iaload, 1, []), (125, .iconst 1, 1, []), (126, .iadd, 1, []), (127, .invokestatic 129, 3, [0, 153, 0, 0, 977]), (130, .istore 5, 2, []), (132, .iinc 6 1, 3, []), (135, .goto (-52), 3, [51]), (138, .iload_n 2, 1, []), (139, .ifCond .ne 20, 3, [95]), (142, .iload 5, 2, []), (144, .aload_n 0, 1, []), (145, .getfield 42, 3, [0, 7, 15, 0, 813]), (148, .bipush 16, 2, []), (150, .iload_n 3, 1, []), (151, .imul, 1, []), (152, .iload 4, 2, []), (154, .iadd, 1, []), (155, .iaload, 1, []), (156, .if_icmp .ge 7, 3, [97]), (159, .iconst 1, 1, []), (160, .goto 4, 3, [98]), (163, .iconst 0, 1, []), (164, .istore_n 2, 1, []), (165, .aload_n 0, 1, []), (166, .getfield 42, 3, [0, 7, 15, 0, 813]), (169, .bipush 16, 2, []), (171, .iload_n 3, 1, []), (172, .imul, 1, []), (173, .iload 4, 2, []), (175, .iadd, 1, []), (176, .iload 5, 2, []), (178, .iastore, 1, []), (179, .iinc 4 1, 3, []), (182, .goto (-122), 3, [37]), (185, .iinc 3 1, 3, []), (188, .goto (-143), 3, [27]), (191, .goto (-154), 3, [21]), (194, .return_, 1, [])]
def mMe193 : mM := (⟨"FirstLandingModel", "layFar", "(I)V"⟩, prog_10_method_69_code, 8, none, 1, 1, [1139, 110, 1138, 91], mCo193)
/-- FirstLandingModel.meetings(III)I -/
def mCo194 : List mE := [(0, .aload_n 0, 1, []), (1, .iload_n 1, 1, []), (2, .invokevirtual 155, 3, [0, 147, 0, 0, 952]), (5, .ifCond .eq 23, 3, [14]), (8, .aload_n 0, 1, []), (9, .iload_n 2, 1, []), (10, .invokevirtual 213, 3, [0, 181, 0, 0, 1087]), (13, .ifCond .eq 15, 3, [14]), (16, .iload_n 3, 1, []), (17, .i2l, 1, []), (18, .lconst 0, 1, []), (19, .ldc2_w 190, 3, [0, 9, 0, 0, 1034]), (22, .invokestatic 69, 3, [0, 127, 0, 0, 871]), (25, .ifCond .ne 5, 3, [16]), (28, .iconst (-1), 1, []), (29, .ireturn, 1, []), (30, .iconst 0, 1, []), (31, .istore 4, 2, []), (33, .iconst 1, 1, []), (34, .istore 5, 2, []), (36, .iconst 0, 1, []), (37, .istore 6, 2, []), (39, .iload 6, 2, []), (41, .aload_n 0, 1, []), (42, .getfield 22, 3, [0, 7, 4, 0, 802]), (45, .iconst 0, 1, []), (46, .iaload, 1, []), (47, .if_icmp .ge 53, 3, [52]), (50, .iload 6, 2, []), (52, .iload_n 1, 1, []), (53, .if_icmp .eq 41, 3, [50]), (56, .iload_n 2, 1, []), (57, .iload 6, 2, []), (59, .invokestatic 122, 3, [0, 149, 0, 0, 961]), (62, .ifCond .eq 32, 3, [50]), (65, .aload_n 0, 1, []), (66, .iload_n 1, 1, []), (67, .iload 6, 2, []), (69, .invokevirtual 125, 3, [0, 152, 0, 0, 973]), (72, .ifCond .ne 22, 3, [50]), (75, .aload_n 0, 1, []), (76, .getfield 48, 3, [0, 7, 17, 0, 815]), (79, .iload 4, 2, []), (81, .iload 6, 2, []), (83, .iastore, 1, []), (84, .iinc 4 1, 3, []), (87, .iload 5, 2, []), (89, .bipush 10, 2, []), (91, .imul, 1, []), (92, .istore 5, 2, []), (94, .iinc 6 1, 3, []), (97, .goto (-58), 3, [22]), (100, .ldc 121, 2, [0, 1000000, 0, 0, 972]), (102, .istore 6, 2, []), (104, .iconst 0, 1, []), (105, .istore 7, 2, []), (107, .iload 7, 2, []), (109, .iload 5, 2, []), (111, .if_icmp .ge 108, 3, [115]), (114, .iconst 0, 1, []), (115, .istore 8, 2, []), (117, .iload 7, 2, []), (119, .istore 9, 2, []), (121, .iconst 0, 1, []), (122, .istore 10, 2, []), (124, .iload 10, 2, []), (126, .iload 4, 2, []), (128, .if_icmp .ge 59, 3, [100]), (131, .aload_n 0, 1, []), (132, .getfield 22, 3, [0, 7, 4, 0, 802]), (135, .bipush 7, 2, []), (137, .bipush 6, 2, []), (139, .iload_n 1, 1, []), (140, .imul, 1, []), (141, .iadd, 1, []), (142, .aload_n 0, 1, []), (143, .getfield 48, 3, [0, 7, 17, 0, 815]), (146, .iload 10, 2, []), (148, .iaload, 1, []), (149, .iadd, 1, []), (150, .iload 9, 2, []), (152, .bipush 10, 2, []), (154, .irem, 1, []), (155, .iastore, 1, []), (156, .iload 8, 2, []), (158, .iload 9, 2, []), (160, .bipush 10, 2, []), (162, .irem, 1, []), (163, .ifCond .le 7, 3, [91]), (166, .iconst 1, 1, []), (167, .goto 4, 3, [92]), (170, .iconst 0, 1, []), (171, .iadd, 1, []), (172, .istore 8, 2, []), (174, .iload 9, 2, []), (176, .bipush 10, 2, []), (178, .idiv, 1, []), (179, .istore 9, 2, []), (181, .iinc 10 1, 3, []), (184, .goto (-60), 3, [65]), (187, .iload 8, 2, []), (189, .iload 6, 2, []), (191, .if_icmp .ge 18, 3, [111]), (194, .aload_n 0, 1, []), (195, .iload_n 1, 1, []), (196, .iload_n 2, 1, []), (197, .invokevirtual 136, 3, [0, 150, 0, 0, 964]), (200, .iload_n 3, 1, []), (201, .if_icmp .ne 8, 3, [111]), (204, .iload 8, 2, []), (206, .goto 5, 3, [112]), (209, .iload 6, 2, []), (211, .istore 6, 2, []), (213, .iinc 7 1, 3, []), (216, .goto (-109), 3, [56]), (219, .iconst 0, 1, []), (220, .istore 7, 2, []), (222, .iload 7, 2, []), (224, .iload 4, 2, []), (226, .if_icmp .ge 30, 3, [136]), (229, .aload_n 0, 1, []), (230, .getfield 22, 3, [0, 7, 4, 0, 802]), (233, .bipush 7, 2, []), (235, .bipush 6, 2, []), (237, .iload_n 1, 1, []), (238, .imul, 1, []), (239, .iadd, 1, []), (240, .aload_n 0, 1, []), (241, .getfield 48, 3, [0, 7, 17, 0, 815]), (244, .iload 7, 2, []), (246, .iaload, 1, []), (247, .iadd, 1, []), (248, .iconst 0, 1, []), (249, .iastore, 1, []), (250, .iinc 7 1, 3, []), (253, .goto (-31), 3, [117]), (256, .iload 6, 2, []), (258, .ldc 121, 2, [0, 1000000, 0, 0, 972]), (260, .if_icmp .ne 8, 3, [141]), (263, .bipush (-9), 2, []), (265, .goto 5, 3, [142]), (268, .iload 6, 2, []), (270, .ireturn, 1, [])]
def mMe194 : mM := (⟨"FirstLandingModel", "meetings", "(III)I"⟩, prog_10_method_72_code, 11, (some .int), 1, 3, [1143, 110, 1141, 1142], mCo194)
/-- FirstLandingModel.fits(III)I -/
def mCo195 : List mE := [(0, .aload_n 0, 1, []), (1, .iload_n 1, 1, []), (2, .invokevirtual 155, 3, [0, 147, 0, 0, 952]), (5, .ifCond .eq 23, 3, [14]), (8, .aload_n 0, 1, []), (9, .iload_n 2, 1, []), (10, .invokevirtual 155, 3, [0, 147, 0, 0, 952]), (13, .ifCond .eq 15, 3, [14]), (16, .iload_n 1, 1, []), (17, .iload_n 2, 1, []), (18, .if_icmp .eq 10, 3, [14]), (21, .iload_n 3, 1, []), (22, .invokestatic 75, 3, [0, 126, 0, 0, 867]), (25, .ifCond .ne 5, 3, [16]), (28, .iconst (-1), 1, []), (29, .ireturn, 1, []), (30, .aload_n 0, 1, []), (31, .iload_n 3, 1, []), (32, .invokevirtual 236, 3, [0, 196, 0, 0, 1148]), (35, .istore 4, 2, []), (37, .iload 4, 2, []), (39, .ifCond .eq 10, 3, [26]), (42, .aload_n 0, 1, []), (43, .iload 4, 2, []), (45, .invokevirtual 79, 3, [0, 128, 0, 0, 874]), (48, .ireturn, 1, []), (49, .aload_n 0, 1, []), (50, .iload_n 1, 1, []), (51, .iload_n 2, 1, []), (52, .invokevirtual 125, 3, [0, 152, 0, 0, 973]), (55, .istore 5, 2, []), (57, .iconst 0, 1, []), (58, .istore 6, 2, []), (60, .iconst 0, 1, []), (61, .istore 7, 2, []), (63, .iload 7, 2, []), (65, .bipush 10, 2, []), (67, .if_icmp .ge 55, 3, [70]), (70, .aload_n 0, 1, []), (71, .getfield 22, 3, [0, 7, 4, 0, 802]), (74, .bipush 7, 2, []), (76, .bipush 6, 2, []), (78, .iload_n 1, 1, []), (79, .imul, 1, []), (80, .iadd, 1, []), (81, .iload_n 2, 1, []), (82, .iadd, 1, []), (83, .iload 7, 2, []), (85, .iastore, 1, []), (86, .iload 6, 2, []), (88, .aload_n 0, 1, []), (89, .iload_n 1, 1, []), (90, .aload_n 0, 1, []), (91, .getfield 22, 3, [0, 7, 4, 0, 802]), (94, .iconst 1, 1, []), (95, .iload_n 1, 1, []), (96, .iadd, 1, []), (97, .iaload, 1, []), (98, .iload_n 3, 1, []), (99, .invokevirtual 239, 3, [0, 197, 0, 0, 1152]), (102, .ifCond .eq 10, 3, [65]), (105, .iconst 1, 1, []), (106, .iload 7, 2, []), (108, .ishl, 1, []), (109, .goto 4, 3, [66]), (112, .iconst 0, 1, []), (113, .ior, 1, []), (114, .istore 6, 2, []), (116, .iinc 7 1, 3, []), (119, .goto (-56), 3, [35]), (122, .aload_n 0, 1, []), (123, .getfield 22, 3, [0, 7, 4, 0, 802]), (126, .bipush 7, 2, []), (128, .bipush 6, 2, []), (130, .iload_n 1, 1, []), (131, .imul, 1, []), (132, .iadd, 1, []), (133, .iload_n 2, 1, []), (134, .iadd, 1, []), (135, .iload 5, 2, []), (137, .iastore, 1, []), (138, .iload 6, 2, []), (140, .ireturn, 1, [])]
def mMe195 : mM := (⟨"FirstLandingModel", "fits", "(III)I"⟩, prog_10_method_75_code, 8, (some .int), 1, 3, [1147, 110, 1145, 1146], mCo195)
/-- FirstLandingModel.wrongNotes(I)I -/
def mCo196 : List mE := [(0, .aload_n 0, 1, []), (1, .getfield 7, 3, [0, 7, 0, 0, 798]), (4, .iload_n 1, 1, []), (5, .iaload, 1, []), (6, .ifCond .ge 5, 3, [7]), (9, .iconst 1, 1, []), (10, .ireturn, 1, []), (11, .aload_n 0, 1, []), (12, .getfield 7, 3, [0, 7, 0, 0, 798]), (15, .iload_n 1, 1, []), (16, .iaload, 1, []), (17, .iconst 2, 1, []), (18, .irem, 1, []), (19, .iconst 1, 1, []), (20, .if_icmp .eq 14, 3, [21]), (23, .aload_n 0, 1, []), (24, .getfield 7, 3, [0, 7, 0, 0, 798]), (27, .iload_n 1, 1, []), (28, .iaload, 1, []), (29, .bipush 12, 2, []), (31, .if_icmp .le 5, 3, [23]), (34, .iconst 5, 1, []), (35, .ireturn, 1, []), (36, .iconst 1, 1, []), (37, .istore_n 2, 1, []), (38, .iconst 0, 1, []), (39, .istore_n 3, 1, []), (40, .iload_n 3, 1, []), (41, .aload_n 0, 1, []), (42, .getfield 7, 3, [0, 7, 0, 0, 798]), (45, .iload_n 1, 1, []), (46, .iaload, 1, []), (47, .if_icmp .ge 61, 3, [67]), (50, .iload_n 2, 1, []), (51, .ifCond .eq 49, 3, [63]), (54, .aload_n 0, 1, []), (55, .aload_n 0, 1, []), (56, .getfield 13, 3, [0, 7, 1, 0, 799]), (59, .bipush 40, 2, []), (61, .iload_n 1, 1, []), (62, .imul, 1, []), (63, .iload_n 3, 1, []), (64, .iadd, 1, []), (65, .iaload, 1, []), (66, .invokevirtual 213, 3, [0, 181, 0, 0, 1087]), (69, .ifCond .eq 31, 3, [63]), (72, .aload_n 0, 1, []), (73, .getfield 13, 3, [0, 7, 1, 0, 799]), (76, .bipush 40, 2, []), (78, .iload_n 1, 1, []), (79, .imul, 1, []), (80, .iload_n 3, 1, []), (81, .iadd, 1, []), (82, .iconst 1, 1, []), (83, .iadd, 1, []), (84, .iaload, 1, []), (85, .i2l, 1, []), (86, .lconst 0, 1, []), (87, .ldc2_w 190, 3, [0, 9, 0, 0, 1034]), (90, .invokestatic 69, 3, [0, 127, 0, 0, 871]), (93, .ifCond .eq 7, 3, [63]), (96, .iconst 1, 1, []), (97, .goto 4, 3, [64]), (100, .iconst 0, 1, []), (101, .istore_n 2, 1, []), (102, .iinc 3 2, 3, []), (105, .goto (-65), 3, [27]), (108, .iload_n 2, 1, []), (109, .ifCond .eq 7, 3, [71]), (112, .iconst 0, 1, []), (113, .goto 4, 3, [72]), (116, .iconst 3, 1, []), (117, .ireturn, 1, [])]
def mMe196 : mM := (⟨"FirstLandingModel", "wrongNotes", "(I)I"⟩, prog_10_method_73_code, 4, (some .int), 1, 1, [1151, 110, 1150, 92], mCo196)
/-- FirstLandingModel.isSo(III)Z -/
def mCo197 : List mE := [(0, .iconst 1, 1, []), (1, .istore 4, 2, []), (3, .iconst 0, 1, []), (4, .istore 5, 2, []), (6, .iload 5, 2, []), (8, .aload_n 0, 1, []), (9, .getfield 7, 3, [0, 7, 0, 0, 798]), (12, .iload_n 3, 1, []), (13, .iaload, 1, []), (14, .if_icmp .ge 56, 3, [41]), (17, .iload 4, 2, []), (19, .ifCond .eq 42, 3, [37]), (22, .aload_n 0, 1, []), (23, .iload_n 1, 1, []), (24, .iload_n 2, 1, []), (25, .aload_n 0, 1, []), (26, .getfield 13, 3, [0, 7, 1, 0, 799]), (29, .bipush 40, 2, []), (31, .iload_n 3, 1, []), (32, .imul, 1, []), (33, .iload 5, 2, []), (35, .iadd, 1, []), (36, .iaload, 1, []), (37, .invokevirtual 132, 3, [0, 151, 0, 0, 968]), (40, .aload_n 0, 1, []), (41, .getfield 13, 3, [0, 7, 1, 0, 799]), (44, .bipush 40, 2, []), (46, .iload_n 3, 1, []), (47, .imul, 1, []), (48, .iload 5, 2, []), (50, .iadd, 1, []), (51, .iconst 1, 1, []), (52, .iadd, 1, []), (53, .iaload, 1, []), (54, .if_icmp .ne 7, 3, [37]), (57, .iconst 1, 1, []), (58, .goto 4, 3, [38]), (61, .iconst 0, 1, []), (62, .istore 4, 2, []), (64, .iinc 5 2, 3, []), (67, .goto (-61), 3, [4]), (70, .iload 4, 2, []), (72, .ireturn, 1, [])]
def mMe197 : mM := (⟨"FirstLandingModel", "isSo", "(III)Z"⟩, prog_10_method_74_code, 6, (some .boolean), 1, 3, [1155, 110, 1154, 93], mCo197)
/-- FirstLandingModel.kinds(II)I -/
def mCo198 : List mE := [(0, .aload_n 0, 1, []), (1, .iload_n 1, 1, []), (2, .invokevirtual 155, 3, [0, 147, 0, 0, 952]), (5, .ifCond .eq 10, 3, [7]), (8, .iload_n 2, 1, []), (9, .invokestatic 75, 3, [0, 126, 0, 0, 867]), (12, .ifCond .ne 5, 3, [9]), (15, .iconst (-1), 1, []), (16, .ireturn, 1, []), (17, .aload_n 0, 1, []), (18, .iload_n 2, 1, []), (19, .invokevirtual 236, 3, [0, 196, 0, 0, 1148]), (22, .istore_n 3, 1, []), (23, .iload_n 3, 1, []), (24, .ifCond .eq 9, 3, [19]), (27, .aload_n 0, 1, []), (28, .iload_n 3, 1, []), (29, .invokevirtual 79, 3, [0, 128, 0, 0, 874]), (32, .ireturn, 1, []), (33, .iconst 0, 1, []), (34, .istore 4, 2, []), (36, .iconst 0, 1, []), (37, .istore 5, 2, []), (39, .iload 5, 2, []), (41, .bipush 6, 2, []), (43, .if_icmp .ge 33, 3, [42]), (46, .iload 4, 2, []), (48, .aload_n 0, 1, []), (49, .iload_n 1, 1, []), (50, .iload 5, 2, []), (52, .iload_n 2, 1, []), (53, .invokevirtual 239, 3, [0, 197, 0, 0, 1152]), (56, .ifCond .eq 10, 3, [37]), (59, .iconst 1, 1, []), (60, .iload 5, 2, []), (62, .ishl, 1, []), (63, .goto 4, 3, [38]), (66, .iconst 0, 1, []), (67, .ior, 1, []), (68, .istore 4, 2, []), (70, .iinc 5 1, 3, []), (73, .goto (-34), 3, [23]), (76, .iload 4, 2, []), (78, .ireturn, 1, [])]
def mMe198 : mM := (⟨"FirstLandingModel", "kinds", "(II)I"⟩, prog_10_method_76_code, 6, (some .int), 1, 2, [1159, 110, 1157, 1158], mCo198)
/-- FirstLandingModel.tells(I)I -/
def mCo199 : List mE := [(0, .aload_n 0, 1, []), (1, .iload_n 1, 1, []), (2, .invokevirtual 155, 3, [0, 147, 0, 0, 952]), (5, .ifCond .ne 5, 3, [6]), (8, .iconst (-1), 1, []), (9, .ireturn, 1, []), (10, .iconst 0, 1, []), (11, .istore_n 2, 1, []), (12, .iconst 0, 1, []), (13, .istore_n 3, 1, []), (14, .iconst 0, 1, []), (15, .istore 4, 2, []), (17, .iload 4, 2, []), (19, .iconst 1, 1, []), (20, .aload_n 0, 1, []), (21, .getfield 22, 3, [0, 7, 4, 0, 802]), (24, .iconst 0, 1, []), (25, .iaload, 1, []), (26, .ishl, 1, []), (27, .if_icmp .ge 79, 3, [58]), (30, .iconst 0, 1, []), (31, .istore 5, 2, []), (33, .iconst 0, 1, []), (34, .istore 6, 2, []), (36, .iload 6, 2, []), (38, .bipush 6, 2, []), (40, .if_icmp .ge 25, 3, [39]), (43, .iload 5, 2, []), (45, .iconst 1, 1, []), (46, .aload_n 0, 1, []), (47, .iload_n 1, 1, []), (48, .iload 6, 2, []), (50, .iload 4, 2, []), (52, .invokevirtual 132, 3, [0, 151, 0, 0, 968]), (55, .ishl, 1, []), (56, .ior, 1, []), (57, .istore 5, 2, []), (59, .iinc 6 1, 3, []), (62, .goto (-26), 3, [24]), (65, .iload 5, 2, []), (67, .invokestatic 187, 3, [0, 166, 0, 0, 1027]), (70, .iload_n 3, 1, []), (71, .if_icmp .le 8, 3, [45]), (74, .iload 4, 2, []), (76, .goto 4, 3, [46]), (79, .iload_n 2, 1, []), (80, .istore_n 2, 1, []), (81, .iload 5, 2, []), (83, .invokestatic 187, 3, [0, 166, 0, 0, 1027]), (86, .iload_n 3, 1, []), (87, .if_icmp .le 11, 3, [54]), (90, .iload 5, 2, []), (92, .invokestatic 187, 3, [0, 166, 0, 0, 1027]), (95, .goto 4, 3, [55]), (98, .iload_n 3, 1, []), (99, .istore_n 3, 1, []), (100, .iinc 4 1, 3, []), (103, .goto (-86), 3, [12]), (106, .aload_n 0, 1, []), (107, .iload_n 2, 1, []), (108, .iload_n 3, 1, []), (109, .invokevirtual 222, 3, [0, 186, 0, 0, 1107]), (112, .ireturn, 1, [])]
def mMe199 : mM := (⟨"FirstLandingModel", "tells", "(I)I"⟩, prog_10_method_77_code, 7, (some .int), 1, 1, [1163, 110, 1161, 1162], mCo199)
/-- FirstLandingModel.knows(II)I -/
def mCo200 : List mE := [(0, .aload_n 0, 1, []), (1, .iload_n 1, 1, []), (2, .invokevirtual 155, 3, [0, 147, 0, 0, 952]), (5, .ifCond .eq 24, 3, [15]), (8, .iload_n 2, 1, []), (9, .i2l, 1, []), (10, .lconst 0, 1, []), (11, .ldc2_w 190, 3, [0, 9, 0, 0, 1034]), (14, .invokestatic 69, 3, [0, 127, 0, 0, 871]), (17, .ifCond .eq 12, 3, [15]), (20, .aload_n 0, 1, []), (21, .iload_n 1, 1, []), (22, .iload_n 2, 1, []), (23, .invokevirtual 242, 3, [0, 201, 0, 0, 1168]), (26, .goto 4, 3, [16]), (29, .iconst (-1), 1, []), (30, .ireturn, 1, [])]
def mMe200 : mM := (⟨"FirstLandingModel", "knows", "(II)I"⟩, prog_10_method_79_code, 3, (some .int), 1, 2, [1167, 110, 1165, 1166], mCo200)
/-- FirstLandingModel.knownBy(II)I -/
def mCo201 : List mE := [(0, .iconst 1, 1, []), (1, .iload_n 1, 1, []), (2, .ishl, 1, []), (3, .istore_n 3, 1, []), (4, .iconst 0, 1, []), (5, .istore 4, 2, []), (7, .iload 4, 2, []), (9, .iload_n 2, 1, []), (10, .if_icmp .ge 90, 3, [54]), (13, .iconst 0, 1, []), (14, .istore 5, 2, []), (16, .iconst 0, 1, []), (17, .istore 6, 2, []), (19, .iload 6, 2, []), (21, .aload_n 0, 1, []), (22, .getfield 22, 3, [0, 7, 4, 0, 802]), (25, .iconst 0, 1, []), (26, .iaload, 1, []), (27, .if_icmp .ge 62, 3, [48]), (30, .iconst 0, 1, []), (31, .istore 7, 2, []), (33, .iload 7, 2, []), (35, .aload_n 0, 1, []), (36, .getfield 22, 3, [0, 7, 4, 0, 802]), (39, .iconst 0, 1, []), (40, .iaload, 1, []), (41, .if_icmp .ge 42, 3, [46]), (44, .iload 5, 2, []), (46, .iload_n 3, 1, []), (47, .iload 7, 2, []), (49, .invokestatic 122, 3, [0, 149, 0, 0, 961]), (52, .ifCond .eq 21, 3, [41]), (55, .aload_n 0, 1, []), (56, .iload 6, 2, []), (58, .iload 7, 2, []), (60, .invokevirtual 125, 3, [0, 152, 0, 0, 973]), (63, .ifCond .le 10, 3, [41]), (66, .iconst 1, 1, []), (67, .iload 6, 2, []), (69, .ishl, 1, []), (70, .goto 4, 3, [42]), (73, .iconst 0, 1, []), (74, .ior, 1, []), (75, .istore 5, 2, []), (77, .iinc 7 1, 3, []), (80, .goto (-47), 3, [21]), (83, .iinc 6 1, 3, []), (86, .goto (-67), 3, [13]), (89, .iload_n 3, 1, []), (90, .iload 5, 2, []), (92, .ior, 1, []), (93, .istore_n 3, 1, []), (94, .iinc 4 1, 3, []), (97, .goto (-90), 3, [6]), (100, .iload_n 3, 1, []), (101, .ireturn, 1, [])]
def mMe201 : mM := (⟨"FirstLandingModel", "knownBy", "(II)I"⟩, prog_10_method_78_code, 8, (some .int), 1, 2, [1171, 110, 1170, 94], mCo201)
/-- FirstLandingModel.hears(II)I -/
def mCo202 : List mE := [(0, .aload_n 0, 1, []), (1, .iload_n 1, 1, []), (2, .invokevirtual 155, 3, [0, 147, 0, 0, 952]), (5, .ifCond .eq 11, 3, [8]), (8, .aload_n 0, 1, []), (9, .iload_n 2, 1, []), (10, .invokevirtual 155, 3, [0, 147, 0, 0, 952]), (13, .ifCond .ne 5, 3, [10]), (16, .iconst (-1), 1, []), (17, .ireturn, 1, []), (18, .iconst 0, 1, []), (19, .istore_n 3, 1, []), (20, .iload_n 3, 1, []), (21, .bipush 6, 2, []), (23, .if_icmp .ge 24, 3, [26]), (26, .aload_n 0, 1, []), (27, .iload_n 1, 1, []), (28, .iload_n 3, 1, []), (29, .invokevirtual 242, 3, [0, 201, 0, 0, 1168]), (32, .iload_n 2, 1, []), (33, .invokestatic 122, 3, [0, 149, 0, 0, 961]), (36, .ifCond .eq 5, 3, [24]), (39, .iload_n 3, 1, []), (40, .ireturn, 1, []), (41, .iinc 3 1, 3, []), (44, .goto (-24), 3, [12]), (47, .bipush (-9), 2, []), (49, .ireturn, 1, [])]
def mMe202 : mM := (⟨"FirstLandingModel", "hears", "(II)I"⟩, prog_10_method_80_code, 4, (some .int), 1, 2, [1175, 110, 1173, 1174], mCo202)
/-- FirstLandingModel.missions(I)I -/
def mCo203 : List mE := [(0, .iload_n 1, 1, []), (1, .i2l, 1, []), (2, .lconst 0, 1, []), (3, .ldc2_w 211, 3, [0, 2, 0, 0, 1078]), (6, .invokestatic 69, 3, [0, 127, 0, 0, 871]), (9, .ifCond .ne 5, 3, [8]), (12, .iconst (-1), 1, []), (13, .ireturn, 1, []), (14, .aload_n 0, 1, []), (15, .getfield 22, 3, [0, 7, 4, 0, 802]), (18, .iconst 0, 1, []), (19, .iaload, 1, []), (20, .ifCond .ne 6, 3, [15]), (23, .bipush (-4), 2, []), (25, .ireturn, 1, []), (26, .iload_n 1, 1, []), (27, .ifCond .ne 15, 3, [24]), (30, .aload_n 0, 1, []), (31, .aload_n 0, 1, []), (32, .getfield 22, 3, [0, 7, 4, 0, 802]), (35, .bipush 43, 2, []), (37, .iaload, 1, []), (38, .invokevirtual 219, 3, [0, 185, 0, 0, 1103]), (41, .ireturn, 1, []), (42, .aload_n 0, 1, []), (43, .getfield 51, 3, [0, 7, 18, 0, 816]), (46, .iconst 0, 1, []), (47, .aload_n 0, 1, []), (48, .getfield 22, 3, [0, 7, 4, 0, 802]), (51, .bipush 43, 2, []), (53, .iaload, 1, []), (54, .iastore, 1, []), (55, .aload_n 0, 1, []), (56, .iconst 0, 1, []), (57, .invokevirtual 245, 3, [0, 204, 0, 0, 1180]), (60, .iconst 0, 1, []), (61, .istore_n 2, 1, []), (62, .iload_n 2, 1, []), (63, .ifCond .lt 99, 3, [97]), (66, .aload_n 0, 1, []), (67, .getfield 54, 3, [0, 7, 19, 0, 817]), (70, .iload_n 2, 1, []), (71, .dup2, 1, []), (72, .iaload, 1, []), (73, .iconst 1, 1, []), (74, .iadd, 1, []), (75, .iastore, 1, []), (76, .aload_n 0, 1, []), (77, .getfield 54, 3, [0, 7, 19, 0, 817]), (80, .iload_n 2, 1, []), (81, .iaload, 1, []), (82, .aload_n 0, 1, []), (83, .getfield 22, 3, [0, 7, 4, 0, 802]), (86, .iconst 0, 1, []), (87, .iaload, 1, []), (88, .if_icmp .le 26, 3, [69]), (91, .iinc 2 (-1), 3, []), (94, .iload_n 2, 1, []), (95, .ifCond .lt (-33), 3, [37]), (98, .aload_n 0, 1, []), (99, .iload_n 2, 1, []), (100, .aload_n 0, 1, []), (101, .getfield 57, 3, [0, 7, 20, 0, 818]), (104, .iload_n 2, 1, []), (105, .iconst 1, 1, []), (106, .iadd, 1, []), (107, .iaload, 1, []), (108, .invokevirtual 248, 3, [0, 205, 0, 0, 1184]), (111, .goto (-49), 3, [37]), (114, .aload_n 0, 1, []), (115, .iload_n 2, 1, []), (116, .invokevirtual 251, 3, [0, 206, 0, 0, 1188]), (119, .ifCond .eq (-57), 3, [37]), (122, .iload_n 2, 1, []), (123, .iconst 1, 1, []), (124, .iadd, 1, []), (125, .iconst 2, 1, []), (126, .iload_n 1, 1, []), (127, .imul, 1, []), (128, .if_icmp .ne 23, 3, [92]), (131, .aload_n 0, 1, []), (132, .iload_n 2, 1, []), (133, .aload_n 0, 1, []), (134, .aload_n 0, 1, []), (135, .getfield 51, 3, [0, 7, 18, 0, 816]), (138, .iload_n 2, 1, []), (139, .iconst 1, 1, []), (140, .iadd, 1, []), (141, .iaload, 1, []), (142, .invokevirtual 219, 3, [0, 185, 0, 0, 1103]), (145, .invokevirtual 248, 3, [0, 205, 0, 0, 1184]), (148, .goto (-86), 3, [37]), (151, .iinc 2 1, 3, []), (154, .aload_n 0, 1, []), (155, .iload_n 2, 1, []), (156, .invokevirtual 245, 3, [0, 204, 0, 0, 1180]), (159, .goto (-97), 3, [37]), (162, .aload_n 0, 1, []), (163, .getfield 57, 3, [0, 7, 20, 0, 818]), (166, .iconst 0, 1, []), (167, .iaload, 1, []), (168, .ireturn, 1, [])]
def mMe203 : mM := (⟨"FirstLandingModel", "missions", "(I)I"⟩, prog_10_method_84_code, 3, (some .int), 1, 1, [1179, 110, 1177, 1178], mCo203)
/-- FirstLandingModel.beginsStep(I)V -/
def mCo204 : List mE := [(0, .aload_n 0, 1, []), (1, .getfield 54, 3, [0, 7, 19, 0, 817]), (4, .iload_n 1, 1, []), (5, .iconst (-1), 1, []), (6, .iastore, 1, []), (7, .aload_n 0, 1, []), (8, .getfield 57, 3, [0, 7, 20, 0, 818]), (11, .iload_n 1, 1, []), (12, .bipush (-9), 2, []), (14, .iastore, 1, []), (15, .return_, 1, [])]
def mMe204 : mM := (⟨"FirstLandingModel", "beginsStep", "(I)V"⟩, prog_10_method_81_code, 2, none, 1, 1, [1183, 110, 1182, 95], mCo204)
/-- FirstLandingModel.weighs(II)V -/
def mCo205 : List mE := [(0, .aload_n 0, 1, []), (1, .getfield 57, 3, [0, 7, 20, 0, 818]), (4, .iload_n 1, 1, []), (5, .iaload, 1, []), (6, .bipush (-9), 2, []), (8, .if_icmp .eq 32, 3, [23]), (11, .iload_n 1, 1, []), (12, .iconst 2, 1, []), (13, .irem, 1, []), (14, .ifCond .ne 16, 3, [17]), (17, .iload_n 2, 1, []), (18, .aload_n 0, 1, []), (19, .getfield 57, 3, [0, 7, 20, 0, 818]), (22, .iload_n 1, 1, []), (23, .iaload, 1, []), (24, .if_icmp .le 20, 3, [25]), (27, .goto 13, 3, [23]), (30, .iload_n 2, 1, []), (31, .aload_n 0, 1, []), (32, .getfield 57, 3, [0, 7, 20, 0, 818]), (35, .iload_n 1, 1, []), (36, .iaload, 1, []), (37, .if_icmp .ge 7, 3, [25]), (40, .iconst 1, 1, []), (41, .goto 4, 3, [26]), (44, .iconst 0, 1, []), (45, .istore_n 3, 1, []), (46, .aload_n 0, 1, []), (47, .getfield 57, 3, [0, 7, 20, 0, 818]), (50, .iload_n 1, 1, []), (51, .iload_n 3, 1, []), (52, .ifCond .eq 7, 3, [34]), (55, .iload_n 2, 1, []), (56, .goto 9, 3, [38]), (59, .aload_n 0, 1, []), (60, .getfield 57, 3, [0, 7, 20, 0, 818]), (63, .iload_n 1, 1, []), (64, .iaload, 1, []), (65, .iastore, 1, []), (66, .return_, 1, [])]
def mMe205 : mM := (⟨"FirstLandingModel", "weighs", "(II)V"⟩, prog_10_method_82_code, 4, none, 1, 2, [1187, 110, 1186, 96], mCo205)
/-- FirstLandingModel.sends(I)Z -/
def mCo206 : List mE := [(0, .aload_n 0, 1, []), (1, .getfield 54, 3, [0, 7, 19, 0, 817]), (4, .iload_n 1, 1, []), (5, .iaload, 1, []), (6, .istore_n 2, 1, []), (7, .aload_n 0, 1, []), (8, .getfield 51, 3, [0, 7, 18, 0, 816]), (11, .iload_n 1, 1, []), (12, .iaload, 1, []), (13, .iconst 1, 1, []), (14, .aload_n 0, 1, []), (15, .getfield 22, 3, [0, 7, 4, 0, 802]), (18, .iconst 0, 1, []), (19, .iaload, 1, []), (20, .ishl, 1, []), (21, .iconst 1, 1, []), (22, .isub, 1, []), (23, .if_icmp .ne 7, 3, [20]), (26, .iconst 1, 1, []), (27, .goto 4, 3, [21]), (30, .iconst 0, 1, []), (31, .istore_n 3, 1, []), (32, .iload_n 2, 1, []), (33, .aload_n 0, 1, []), (34, .getfield 22, 3, [0, 7, 4, 0, 802]), (37, .iconst 0, 1, []), (38, .iaload, 1, []), (39, .if_icmp .ne 7, 3, [30]), (42, .iload_n 3, 1, []), (43, .goto 21, 3, [40]), (46, .aload_n 0, 1, []), (47, .getfield 51, 3, [0, 7, 18, 0, 816]), (50, .iload_n 1, 1, []), (51, .iaload, 1, []), (52, .iload_n 2, 1, []), (53, .invokestatic 122, 3, [0, 149, 0, 0, 961]), (56, .ifCond .ne 7, 3, [39]), (59, .iconst 1, 1, []), (60, .goto 4, 3, [40]), (63, .iconst 0, 1, []), (64, .istore 4, 2, []), (66, .aload_n 0, 1, []), (67, .getfield 51, 3, [0, 7, 18, 0, 816]), (70, .iload_n 1, 1, []), (71, .iconst 1, 1, []), (72, .iadd, 1, []), (73, .aload_n 0, 1, []), (74, .getfield 51, 3, [0, 7, 18, 0, 816]), (77, .iload_n 1, 1, []), (78, .iaload, 1, []), (79, .iload_n 2, 1, []), (80, .aload_n 0, 1, []), (81, .getfield 22, 3, [0, 7, 4, 0, 802]), (84, .iconst 0, 1, []), (85, .iaload, 1, []), (86, .if_icmp .ge 9, 3, [60]), (89, .iconst 1, 1, []), (90, .iload_n 2, 1, []), (91, .ishl, 1, []), (92, .goto 4, 3, [61]), (95, .iconst 0, 1, []), (96, .ior, 1, []), (97, .iastore, 1, []), (98, .iload 4, 2, []), (100, .ireturn, 1, [])]
def mMe206 : mM := (⟨"FirstLandingModel", "sends", "(I)Z"⟩, prog_10_method_83_code, 5, (some .boolean), 1, 1, [1191, 110, 1190, 97], mCo206)
/-- FirstLandingModel.mid(II)I -/
def mCo207 : List mE := [(0, .aload_n 0, 1, []), (1, .iload_n 1, 1, []), (2, .iload_n 2, 1, []), (3, .iconst 1, 1, []), (4, .invokevirtual 267, 3, [0, 208, 0, 0, 1196]), (7, .ireturn, 1, [])]
def mMe207 : mM := (⟨"FirstLandingModel", "mid", "(II)I"⟩, prog_10_method_88_code, 3, (some .int), 1, 2, [1195, 110, 1193, 1194], mCo207)
/-- FirstLandingModel.chance(IIZ)I -/
def mCo208 : List mE := [(0, .aload_n 0, 1, []), (1, .iload_n 1, 1, []), (2, .invokevirtual 155, 3, [0, 147, 0, 0, 952]), (5, .ifCond .eq 15, 3, [10]), (8, .iload_n 2, 1, []), (9, .i2l, 1, []), (10, .lconst 0, 1, []), (11, .ldc2_w 257, 3, [0, 12, 0, 0, 1200]), (14, .invokestatic 69, 3, [0, 127, 0, 0, 871]), (17, .ifCond .ne 5, 3, [12]), (20, .iconst (-1), 1, []), (21, .ireturn, 1, []), (22, .aload_n 0, 1, []), (23, .getfield 22, 3, [0, 7, 4, 0, 802]), (26, .bipush 43, 2, []), (28, .iaload, 1, []), (29, .iload_n 1, 1, []), (30, .invokestatic 122, 3, [0, 149, 0, 0, 961]), (33, .ifCond .eq 13, 3, [25]), (36, .aload_n 0, 1, []), (37, .iload_n 1, 1, []), (38, .iload_n 2, 1, []), (39, .iload_n 3, 1, []), (40, .invokevirtual 263, 3, [0, 209, 0, 0, 1201]), (43, .goto 5, 3, [26]), (46, .bipush (-4), 2, []), (48, .ireturn, 1, [])]
def mMe208 : mM := (⟨"FirstLandingModel", "chance", "(IIZ)I"⟩, prog_10_method_87_code, 4, (some .int), 1, 3, [1199, 110, 1198, 98], mCo208)
/-- FirstLandingModel.weighed(IIZ)I -/
def mCo209 : List mE := [(0, .aload_n 0, 1, []), (1, .getfield 22, 3, [0, 7, 4, 0, 802]), (4, .bipush 43, 2, []), (6, .iaload, 1, []), (7, .iconst 1, 1, []), (8, .iload_n 1, 1, []), (9, .ishl, 1, []), (10, .iconst (-1), 1, []), (11, .ixor, 1, []), (12, .iand, 1, []), (13, .istore 4, 2, []), (15, .lconst 0, 1, []), (16, .lstore 5, 2, []), (18, .lconst 1, 1, []), (19, .lstore 7, 2, []), (21, .iload 4, 2, []), (23, .invokestatic 187, 3, [0, 166, 0, 0, 1027]), (26, .istore 9, 2, []), (28, .iload 9, 2, []), (30, .ifCond .le 17, 3, [26]), (33, .lload 7, 2, []), (35, .ldc2_w 257, 3, [0, 12, 0, 0, 1200]), (38, .lmul, 1, []), (39, .lstore 7, 2, []), (41, .iinc 9 (-1), 3, []), (44, .goto (-16), 3, [18]), (47, .iconst 0, 1, []), (48, .istore 9, 2, []), (50, .iload 9, 2, []), (52, .iconst 1, 1, []), (53, .aload_n 0, 1, []), (54, .getfield 22, 3, [0, 7, 4, 0, 802]), (57, .iconst 0, 1, []), (58, .iaload, 1, []), (59, .ishl, 1, []), (60, .if_icmp .ge 118, 3, [96]), (63, .iload 9, 2, []), (65, .iload 4, 2, []), (67, .iconst (-1), 1, []), (68, .ixor, 1, []), (69, .iand, 1, []), (70, .ifCond .ne 102, 3, [94]), (73, .lconst 1, 1, []), (74, .lstore 10, 2, []), (76, .iconst 0, 1, []), (77, .istore 12, 2, []), (79, .iload 12, 2, []), (81, .aload_n 0, 1, []), (82, .getfield 22, 3, [0, 7, 4, 0, 802]), (85, .iconst 0, 1, []), (86, .iaload, 1, []), (87, .if_icmp .ge 48, 3, [74]), (90, .lload 10, 2, []), (92, .iload 4, 2, []), (94, .iload 12, 2, []), (96, .invokestatic 122, 3, [0, 149, 0, 0, 961]), (99, .ifCond .ne 7, 3, [59]), (102, .lconst 1, 1, []), (103, .goto 23, 3, [70]), (106, .iload 9, 2, []), (108, .iload 12, 2, []), (110, .invokestatic 122, 3, [0, 149, 0, 0, 961]), (113, .ifCond .eq 11, 3, [68]), (116, .bipush 12, 2, []), (118, .iload_n 2, 1, []), (119, .isub, 1, []), (120, .i2l, 1, []), (121, .goto 5, 3, [70]), (124, .iload_n 2, 1, []), (125, .i2l, 1, []), (126, .lmul, 1, []), (127, .lstore 10, 2, []), (129, .iinc 12 1, 3, []), (132, .goto (-53), 3, [46]), (135, .aload_n 0, 1, []), (136, .iload_n 1, 1, []), (137, .iload 9, 2, []), (139, .invokevirtual 136, 3, [0, 150, 0, 0, 964]), (142, .istore 12, 2, []), (144, .lload 5, 2, []), (146, .lload 10, 2, []), (148, .iload_n 3, 1, []), (149, .ifCond .eq 8, 3, [85]), (152, .iload 12, 2, []), (154, .goto 13, 3, [90]), (157, .iload 12, 2, []), (159, .ifCond .le 7, 3, [89]), (162, .iconst 1, 1, []), (163, .goto 4, 3, [90]), (166, .iconst 0, 1, []), (167, .i2l, 1, []), (168, .lmul, 1, []), (169, .ladd, 1, []), (170, .lstore 5, 2, []), (172, .iinc 9 1, 3, []), (175, .goto (-125), 3, [28]), (178, .aload_n 0, 1, []), (179, .lload 5, 2, []), (181, .lload 7, 2, []), (183, .invokevirtual 259, 3, [0, 210, 0, 0, 1205]), (186, .ireturn, 1, [])]
def mMe209 : mM := (⟨"FirstLandingModel", "weighed", "(IIZ)I"⟩, prog_10_method_86_code, 13, (some .int), 1, 3, [1204, 110, 1203, 99], mCo209)
/-- FirstLandingModel.fraction(JJ)I -/
def mCo210 : List mE := [(0, .lload_n 1, 1, []), (1, .lstore 5, 2, []), (3, .lload_n 3, 1, []), (4, .lstore 7, 2, []), (6, .lload 7, 2, []), (8, .lconst 0, 1, []), (9, .lcmp, 1, []), (10, .ifCond .eq 21, 3, [17]), (13, .lload 5, 2, []), (15, .lload 7, 2, []), (17, .lrem, 1, []), (18, .lstore 9, 2, []), (20, .lload 7, 2, []), (22, .lstore 5, 2, []), (24, .lload 9, 2, []), (26, .lstore 7, 2, []), (28, .goto (-22), 3, [4]), (31, .aload_n 0, 1, []), (32, .lload_n 1, 1, []), (33, .lload 5, 2, []), (35, .ldiv, 1, []), (36, .putfield 254, 3, [0, 7, 9, 0, 807]), (39, .aload_n 0, 1, []), (40, .lload_n 3, 1, []), (41, .lload 5, 2, []), (43, .ldiv, 1, []), (44, .putfield 35, 3, [0, 7, 10, 0, 808]), (47, .iconst 1, 1, []), (48, .ireturn, 1, [])]
def mMe210 : mM := (⟨"FirstLandingModel", "fraction", "(JJ)I"⟩, prog_10_method_85_code, 11, (some .int), 1, 2, [1208, 110, 1207, 100], mCo210)
/-- FirstLandingModel.odds(II)I -/
def mCo211 : List mE := [(0, .aload_n 0, 1, []), (1, .iload_n 1, 1, []), (2, .iload_n 2, 1, []), (3, .iconst 0, 1, []), (4, .invokevirtual 267, 3, [0, 208, 0, 0, 1196]), (7, .ireturn, 1, [])]
def mMe211 : mM := (⟨"FirstLandingModel", "odds", "(II)I"⟩, prog_10_method_89_code, 3, (some .int), 1, 2, [1212, 110, 1210, 1211], mCo211)
/-- FirstLandingModel.lots(II)I -/
def mCo212 : List mE := [(0, .iload_n 1, 1, []), (1, .i2l, 1, []), (2, .lconst 1, 1, []), (3, .ldc2_w 270, 3, [0, 20, 0, 0, 1217]), (6, .invokestatic 69, 3, [0, 127, 0, 0, 871]), (9, .ifCond .eq 15, 3, [12]), (12, .iload_n 2, 1, []), (13, .i2l, 1, []), (14, .lconst 1, 1, []), (15, .ldc2_w 272, 3, [0, 2147483646, 0, 0, 1218]), (18, .invokestatic 69, 3, [0, 127, 0, 0, 871]), (21, .ifCond .ne 5, 3, [14]), (24, .iconst (-1), 1, []), (25, .ireturn, 1, []), (26, .aload_n 0, 1, []), (27, .getfield 22, 3, [0, 7, 4, 0, 802]), (30, .iconst 0, 1, []), (31, .iaload, 1, []), (32, .ifCond .ne 6, 3, [21]), (35, .bipush (-4), 2, []), (37, .ireturn, 1, []), (38, .aload_n 0, 1, []), (39, .invokevirtual 180, 3, [0, 163, 0, 0, 1015]), (42, .iload_n 1, 1, []), (43, .iadd, 1, []), (44, .bipush 40, 2, []), (46, .if_icmp .le 6, 3, [29]), (49, .bipush (-2), 2, []), (51, .ireturn, 1, []), (52, .iload_n 2, 1, []), (53, .i2l, 1, []), (54, .lstore_n 3, 1, []), (55, .iconst 0, 1, []), (56, .istore 5, 2, []), (58, .iload 5, 2, []), (60, .iload_n 1, 1, []), (61, .if_icmp .ge 89, 3, [86]), (64, .ldc2_w 274, 3, [0, 48271, 0, 0, 1219]), (67, .lload_n 3, 1, []), (68, .lmul, 1, []), (69, .ldc2_w 276, 3, [0, 2147483647, 0, 0, 1220]), (72, .lrem, 1, []), (73, .lstore_n 3, 1, []), (74, .lload_n 3, 1, []), (75, .aload_n 0, 1, []), (76, .getfield 22, 3, [0, 7, 4, 0, 802]), (79, .iconst 0, 1, []), (80, .iaload, 1, []), (81, .i2l, 1, []), (82, .lrem, 1, []), (83, .l2i, 1, []), (84, .istore 6, 2, []), (86, .lload_n 3, 1, []), (87, .ldc2_w 278, 3, [0, 64, 0, 0, 1221]), (90, .ldiv, 1, []), (91, .aload_n 0, 1, []), (92, .getfield 22, 3, [0, 7, 4, 0, 802]), (95, .iconst 0, 1, []), (96, .iaload, 1, []), (97, .i2l, 1, []), (98, .lrem, 1, []), (99, .l2i, 1, []), (100, .istore 7, 2, []), (102, .lload_n 3, 1, []), (103, .ldc2_w 225, 3, [0, 8, 0, 0, 1127]), (106, .ldiv, 1, []), (107, .ldc2_w 158, 3, [0, 4, 0, 0, 956]), (110, .lrem, 1, []), (111, .lconst 0, 1, []), (112, .lcmp, 1, []), (113, .ifCond .ne 25, 3, [81]), (116, .aload_n 0, 1, []), (117, .iload 6, 2, []), (119, .iload 7, 2, []), (121, .invokevirtual 198, 3, [0, 170, 0, 0, 1043]), (124, .ifCond .eq 14, 3, [81]), (127, .aload_n 0, 1, []), (128, .iload 6, 2, []), (130, .iload 7, 2, []), (132, .invokevirtual 201, 3, [0, 173, 0, 0, 1054]), (135, .goto 9, 3, [84]), (138, .aload_n 0, 1, []), (139, .iload 6, 2, []), (141, .invokevirtual 184, 3, [0, 164, 0, 0, 1019]), (144, .iinc 5 1, 3, []), (147, .goto (-89), 3, [34]), (150, .aload_n 0, 1, []), (151, .invokevirtual 205, 3, [0, 175, 0, 0, 1062]), (154, .ireturn, 1, [])]
def mMe212 : mM := (⟨"FirstLandingModel", "lots", "(II)I"⟩, prog_10_method_90_code, 8, (some .int), 1, 2, [1216, 110, 1214, 1215], mCo212)
/-- FirstLandingModel.asked()I -/
def mCo213 : List mE := [(0, .aload_n 0, 1, []), (1, .getfield 64, 3, [0, 7, 8, 0, 806]), (4, .ireturn, 1, [])]
def mMe213 : mM := (⟨"FirstLandingModel", "asked", "()I"⟩, prog_10_method_91_code, 1, (some .int), 1, 0, [1225, 110, 1223, 1224], mCo213)
/-- FirstLandingModel.upper()J -/
def mCo214 : List mE := [(0, .aload_n 0, 1, []), (1, .getfield 254, 3, [0, 7, 9, 0, 807]), (4, .lreturn, 1, [])]
def mMe214 : mM := (⟨"FirstLandingModel", "upper", "()J"⟩, prog_10_method_92_code, 1, (some .long), 1, 0, [1229, 110, 1227, 1228], mCo214)
/-- FirstLandingModel.lower()J -/
def mCo215 : List mE := [(0, .aload_n 0, 1, []), (1, .getfield 35, 3, [0, 7, 10, 0, 808]), (4, .lreturn, 1, [])]
def mMe215 : mM := (⟨"FirstLandingModel", "lower", "()J"⟩, prog_10_method_93_code, 1, (some .long), 1, 0, [1233, 110, 1231, 1232], mCo215)
/-- FirstLandingModel.count(I)I -/
def mCo216 : List mE := [(0, .iload_n 1, 1, []), (1, .i2l, 1, []), (2, .lconst 0, 1, []), (3, .ldc2_w 190, 3, [0, 9, 0, 0, 1034]), (6, .invokestatic 69, 3, [0, 127, 0, 0, 871]), (9, .ifCond .eq 11, 3, [10]), (12, .aload_n 0, 1, []), (13, .iload_n 1, 1, []), (14, .invokevirtual 280, 3, [0, 217, 0, 0, 1238]), (17, .goto 4, 3, [11]), (20, .iconst (-1), 1, []), (21, .ireturn, 1, [])]
def mMe216 : mM := (⟨"FirstLandingModel", "count", "(I)I"⟩, prog_10_method_95_code, 2, (some .int), 1, 1, [1237, 110, 1235, 1236], mCo216)
/-- FirstLandingModel.counted(I)I -/
def mCo217 : List mE := [(0, .iconst 0, 1, []), (1, .istore_n 2, 1, []), (2, .iconst 0, 1, []), (3, .istore_n 3, 1, []), (4, .iload_n 3, 1, []), (5, .bipush 6, 2, []), (7, .if_icmp .ge 32, 3, [23]), (10, .iload_n 1, 1, []), (11, .bipush 7, 2, []), (13, .if_icmp .ne 26, 3, [23]), (16, .iload_n 2, 1, []), (17, .aload_n 0, 1, []), (18, .getfield 7, 3, [0, 7, 0, 0, 798]), (21, .iload_n 3, 1, []), (22, .iaload, 1, []), (23, .ifCond .ge 7, 3, [18]), (26, .iconst 0, 1, []), (27, .goto 4, 3, [19]), (30, .iconst 1, 1, []), (31, .iadd, 1, []), (32, .istore_n 2, 1, []), (33, .iinc 3 1, 3, []), (36, .goto (-32), 3, [4]), (39, .iconst 0, 1, []), (40, .istore_n 3, 1, []), (41, .iload_n 3, 1, []), (42, .iconst 4, 1, []), (43, .if_icmp .ge 32, 3, [44]), (46, .iload_n 1, 1, []), (47, .bipush 8, 2, []), (49, .if_icmp .ne 26, 3, [44]), (52, .iload_n 2, 1, []), (53, .aload_n 0, 1, []), (54, .getfield 16, 3, [0, 7, 2, 0, 800]), (57, .iload_n 3, 1, []), (58, .iaload, 1, []), (59, .ifCond .ge 7, 3, [39]), (62, .iconst 0, 1, []), (63, .goto 4, 3, [40]), (66, .iconst 1, 1, []), (67, .iadd, 1, []), (68, .istore_n 2, 1, []), (69, .iinc 3 1, 3, []), (72, .goto (-31), 3, [25]), (75, .iconst 0, 1, []), (76, .istore_n 3, 1, []), (77, .iload_n 3, 1, []), (78, .iconst 3, 1, []), (79, .if_icmp .ge 32, 3, [65]), (82, .iload_n 1, 1, []), (83, .bipush 9, 2, []), (85, .if_icmp .ne 26, 3, [65]), (88, .iload_n 2, 1, []), (89, .aload_n 0, 1, []), (90, .getfield 31, 3, [0, 7, 7, 0, 805]), (93, .iload_n 3, 1, []), (94, .baload, 1, []), (95, .ifCond .eq 7, 3, [60]), (98, .iconst 1, 1, []), (99, .goto 4, 3, [61]), (102, .iconst 0, 1, []), (103, .iadd, 1, []), (104, .istore_n 2, 1, []), (105, .iinc 3 1, 3, []), (108, .goto (-31), 3, [46]), (111, .iload_n 1, 1, []), (112, .tableswitch 86 0 6 #[44, 51, 59, 64, 69, 74, 80], 44, [94, 67, 72, 77, 80, 83, 86, 90]), (156, .aload_n 0, 1, []), (157, .getfield 22, 3, [0, 7, 4, 0, 802]), (160, .iconst 0, 1, []), (161, .iaload, 1, []), (162, .ireturn, 1, []), (163, .aload_n 0, 1, []), (164, .getfield 22, 3, [0, 7, 4, 0, 802]), (167, .bipush 43, 2, []), (169, .iaload, 1, []), (170, .ireturn, 1, []), (171, .aload_n 0, 1, []), (172, .invokevirtual 180, 3, [0, 163, 0, 0, 1015]), (175, .ireturn, 1, []), (176, .aload_n 0, 1, []), (177, .invokevirtual 205, 3, [0, 175, 0, 0, 1062]), (180, .ireturn, 1, []), (181, .aload_n 0, 1, []), (182, .invokevirtual 192, 3, [0, 168, 0, 0, 1035]), (185, .ireturn, 1, []), (186, .aload_n 0, 1, []), (187, .iconst 1, 1, []), (188, .invokevirtual 170, 3, [0, 160, 0, 0, 1003]), (191, .ireturn, 1, []), (192, .aload_n 0, 1, []), (193, .iconst 2, 1, []), (194, .invokevirtual 170, 3, [0, 160, 0, 0, 1003]), (197, .ireturn, 1, []), (198, .iload_n 2, 1, []), (199, .ireturn, 1, [])]
def mMe217 : mM := (⟨"FirstLandingModel", "counted", "(I)I"⟩, prog_10_method_94_code, 4, (some .int), 1, 1, [1241, 110, 1240, 101], mCo217)
/-- FirstLandingModel.finding()I -/
def mCo218 : List mE := [(0, .aload_n 0, 1, []), (1, .getfield 60, 3, [0, 7, 11, 0, 809]), (4, .ireturn, 1, [])]
def mMe218 : mM := (⟨"FirstLandingModel", "finding", "()I"⟩, prog_10_method_96_code, 1, (some .int), 1, 0, [1245, 110, 1243, 1244], mCo218)
/-- FirstLandingModel.findings(I)I -/
def mCo219 : List mE := [(0, .iload_n 1, 1, []), (1, .i2l, 1, []), (2, .lconst 1, 1, []), (3, .ldc2_w 67, 3, [0, 5, 0, 0, 870]), (6, .invokestatic 69, 3, [0, 127, 0, 0, 871]), (9, .ifCond .eq 12, 3, [11]), (12, .aload_n 0, 1, []), (13, .getfield 39, 3, [0, 7, 12, 0, 810]), (16, .iload_n 1, 1, []), (17, .iaload, 1, []), (18, .goto 4, 3, [12]), (21, .iconst (-1), 1, []), (22, .ireturn, 1, [])]
def mMe219 : mM := (⟨"FirstLandingModel", "findings", "(I)I"⟩, prog_10_method_97_code, 2, (some .int), 1, 1, [1249, 110, 1247, 1248], mCo219)
/-- FirstLandingModel.digest()J -/
def mCo220 : List mE := [(0, .ldc2_w 283, 3, [0, 17, 0, 0, 1254]), (3, .lstore_n 1, 1, []), (4, .iconst 0, 1, []), (5, .istore_n 3, 1, []), (6, .iload_n 3, 1, []), (7, .bipush 10, 2, []), (9, .if_icmp .ge 22, 3, [18]), (12, .ldc2_w 285, 3, [0, 31, 0, 0, 1255]), (15, .lload_n 1, 1, []), (16, .lmul, 1, []), (17, .aload_n 0, 1, []), (18, .iload_n 3, 1, []), (19, .invokevirtual 280, 3, [0, 217, 0, 0, 1238]), (22, .i2l, 1, []), (23, .ladd, 1, []), (24, .lstore_n 1, 1, []), (25, .iinc 3 1, 3, []), (28, .goto (-22), 3, [4]), (31, .iconst 0, 1, []), (32, .istore_n 3, 1, []), (33, .iload_n 3, 1, []), (34, .aload_n 0, 1, []), (35, .getfield 22, 3, [0, 7, 4, 0, 802]), (38, .iconst 0, 1, []), (39, .iaload, 1, []), (40, .if_icmp .ge 74, 3, [65]), (43, .iconst 0, 1, []), (44, .istore 4, 2, []), (46, .iload 4, 2, []), (48, .iconst 5, 1, []), (49, .if_icmp .ge 24, 3, [43]), (52, .ldc2_w 285, 3, [0, 31, 0, 0, 1255]), (55, .lload_n 1, 1, []), (56, .lmul, 1, []), (57, .aload_n 0, 1, []), (58, .iload_n 3, 1, []), (59, .iload 4, 2, []), (61, .invokevirtual 160, 3, [0, 148, 0, 0, 957]), (64, .i2l, 1, []), (65, .ladd, 1, []), (66, .lstore_n 1, 1, []), (67, .iinc 4 1, 3, []), (70, .goto (-24), 3, [28]), (73, .iconst 0, 1, []), (74, .istore 4, 2, []), (76, .iload 4, 2, []), (78, .aload_n 0, 1, []), (79, .getfield 22, 3, [0, 7, 4, 0, 802]), (82, .iconst 0, 1, []), (83, .iaload, 1, []), (84, .if_icmp .ge 24, 3, [63]), (87, .ldc2_w 285, 3, [0, 31, 0, 0, 1255]), (90, .lload_n 1, 1, []), (91, .lmul, 1, []), (92, .aload_n 0, 1, []), (93, .iload_n 3, 1, []), (94, .iload 4, 2, []), (96, .invokevirtual 125, 3, [0, 152, 0, 0, 973]), (99, .i2l, 1, []), (100, .ladd, 1, []), (101, .lstore_n 1, 1, []), (102, .iinc 4 1, 3, []), (105, .goto (-29), 3, [45]), (108, .iinc 3 1, 3, []), (111, .goto (-78), 3, [20]), (114, .iconst 0, 1, []), (115, .istore_n 3, 1, []), (116, .iload_n 3, 1, []), (117, .iconst 3, 1, []), (118, .if_icmp .ge 43, 3, [93]), (121, .ldc2_w 285, 3, [0, 31, 0, 0, 1255]), (124, .lload_n 1, 1, []), (125, .lmul, 1, []), (126, .aload_n 0, 1, []), (127, .getfield 31, 3, [0, 7, 7, 0, 805]), (130, .iload_n 3, 1, []), (131, .baload, 1, []), (132, .ifCond .eq 19, 3, [87]), (135, .aload_n 0, 1, []), (136, .getfield 28, 3, [0, 7, 6, 0, 804]), (139, .sipush 201, 3, []), (142, .iload_n 3, 1, []), (143, .imul, 1, []), (144, .bipush 80, 2, []), (146, .iadd, 1, []), (147, .iaload, 1, []), (148, .goto 4, 3, [88]), (151, .iconst (-1), 1, []), (152, .i2l, 1, []), (153, .ladd, 1, []), (154, .lstore_n 1, 1, []), (155, .iinc 3 1, 3, []), (158, .goto (-42), 3, [67]), (161, .iconst 0, 1, []), (162, .istore_n 3, 1, []), (163, .iload_n 3, 1, []), (164, .bipush 6, 2, []), (166, .if_icmp .ge 63, 3, [134]), (169, .ldc2_w 285, 3, [0, 31, 0, 0, 1255]), (172, .lload_n 1, 1, []), (173, .lmul, 1, []), (174, .aload_n 0, 1, []), (175, .getfield 7, 3, [0, 7, 0, 0, 798]), (178, .iload_n 3, 1, []), (179, .iaload, 1, []), (180, .i2l, 1, []), (181, .ladd, 1, []), (182, .lstore_n 1, 1, []), (183, .iconst 0, 1, []), (184, .istore 4, 2, []), (186, .iload 4, 2, []), (188, .aload_n 0, 1, []), (189, .getfield 7, 3, [0, 7, 0, 0, 798]), (192, .iload_n 3, 1, []), (193, .iaload, 1, []), (194, .if_icmp .ge 29, 3, [132]), (197, .ldc2_w 285, 3, [0, 31, 0, 0, 1255]), (200, .lload_n 1, 1, []), (201, .lmul, 1, []), (202, .aload_n 0, 1, []), (203, .getfield 13, 3, [0, 7, 1, 0, 799]), (206, .bipush 40, 2, []), (208, .iload_n 3, 1, []), (209, .imul, 1, []), (210, .iload 4, 2, []), (212, .iadd, 1, []), (213, .iaload, 1, []), (214, .i2l, 1, []), (215, .ladd, 1, []), (216, .lstore_n 1, 1, []), (217, .iinc 4 1, 3, []), (220, .goto (-34), 3, [110]), (223, .iinc 3 1, 3, []), (226, .goto (-63), 3, [95]), (229, .iconst 0, 1, []), (230, .istore_n 3, 1, []), (231, .iload_n 3, 1, []), (232, .iconst 4, 1, []), (233, .if_icmp .ge 63, 3, [175]), (236, .ldc2_w 285, 3, [0, 31, 0, 0, 1255]), (239, .lload_n 1, 1, []), (240, .lmul, 1, []), (241, .aload_n 0, 1, []), (242, .getfield 16, 3, [0, 7, 2, 0, 800]), (245, .iload_n 3, 1, []), (246, .iaload, 1, []), (247, .i2l, 1, []), (248, .ladd, 1, []), (249, .lstore_n 1, 1, []), (250, .iconst 0, 1, []), (251, .istore 4, 2, []), (253, .iload 4, 2, []), (255, .aload_n 0, 1, []), (256, .getfield 16, 3, [0, 7, 2, 0, 800]), (259, .iload_n 3, 1, []), (260, .iaload, 1, []), (261, .if_icmp .ge 29, 3, [173]), (264, .ldc2_w 285, 3, [0, 31, 0, 0, 1255]), (267, .lload_n 1, 1, []), (268, .lmul, 1, []), (269, .aload_n 0, 1, []), (270, .getfield 19, 3, [0, 7, 3, 0, 801]), (273, .bipush 60, 2, []), (275, .iload_n 3, 1, []), (276, .imul, 1, []), (277, .iload 4, 2, []), (279, .iadd, 1, []), (280, .iaload, 1, []), (281, .i2l, 1, []), (282, .ladd, 1, []), (283, .lstore_n 1, 1, []), (284, .iinc 4 1, 3, []), (287, .goto (-34), 3, [151]), (290, .iinc 3 1, 3, []), (293, .goto (-62), 3, [136]), (296, .lload_n 1, 1, []), (297, .lreturn, 1, [])]
def mMe220 : mM := (⟨"FirstLandingModel", "digest", "()J"⟩, prog_10_method_98_code, 5, (some .long), 1, 0, [1253, 110, 1251, 1252], mCo220)
def mTab : List mM := [mMe0, mMe1, mMe2, mMe3, mMe4, mMe5, mMe6, mMe7, mMe8, mMe9, mMe10, mMe11, mMe12, mMe13, mMe14, mMe15, mMe16, mMe17, mMe18, mMe19, mMe20, mMe21, mMe22, mMe23, mMe24, mMe25, mMe26, mMe27, mMe28, mMe29, mMe30, mMe31, mMe32, mMe33, mMe34, mMe35, mMe36, mMe37, mMe38, mMe39, mMe40, mMe41, mMe42, mMe43, mMe44, mMe45, mMe46, mMe47, mMe48, mMe49, mMe50, mMe51, mMe52, mMe53, mMe54, mMe55, mMe56, mMe57, mMe58, mMe59, mMe60, mMe61, mMe62, mMe63, mMe64, mMe65, mMe66, mMe67, mMe68, mMe69, mMe70, mMe71, mMe72, mMe73, mMe74, mMe75, mMe76, mMe77, mMe78, mMe79, mMe80, mMe81, mMe82, mMe83, mMe84, mMe85, mMe86, mMe87, mMe88, mMe89, mMe90, mMe91, mMe92, mMe93, mMe94, mMe95, mMe96, mMe97, mMe98, mMe99, mMe100, mMe101, mMe102, mMe103, mMe104, mMe105, mMe106, mMe107, mMe108, mMe109, mMe110, mMe111, mMe112, mMe113, mMe114, mMe115, mMe116, mMe117, mMe118, mMe119, mMe120, mMe121, mMe122, mMe123, mMe124, mMe125, mMe126, mMe127, mMe128, mMe129, mMe130, mMe131, mMe132, mMe133, mMe134, mMe135, mMe136, mMe137, mMe138, mMe139, mMe140, mMe141, mMe142, mMe143, mMe144, mMe145, mMe146, mMe147, mMe148, mMe149, mMe150, mMe151, mMe152, mMe153, mMe154, mMe155, mMe156, mMe157, mMe158, mMe159, mMe160, mMe161, mMe162, mMe163, mMe164, mMe165, mMe166, mMe167, mMe168, mMe169, mMe170, mMe171, mMe172, mMe173, mMe174, mMe175, mMe176, mMe177, mMe178, mMe179, mMe180, mMe181, mMe182, mMe183, mMe184, mMe185, mMe186, mMe187, mMe188, mMe189, mMe190, mMe191, mMe192, mMe193, mMe194, mMe195, mMe196, mMe197, mMe198, mMe199, mMe200, mMe201, mMe202, mMe203, mMe204, mMe205, mMe206, mMe207, mMe208, mMe209, mMe210, mMe211, mMe212, mMe213, mMe214, mMe215, mMe216, mMe217, mMe218, mMe219, mMe220]
def mLaw : List mE := [(0, .new 7, 3, [0, 0, 0, 0, 117, 118, 103]), (3, .dup, 1, []), (4, .invokespecial 9, 3, [0, 0, 0, 0, 119]), (7, .astore_n 1, 1, []), (8, .new 10, 3, [0, 7, 0, 0, 792, 793, 110]), (11, .dup, 1, []), (12, .invokespecial 12, 3, [0, 124, 0, 0, 794]), (15, .astore_n 2, 1, []), (16, .iconst 0, 1, []), (17, .istore_n 3, 1, []), (18, .iload_n 3, 1, []), (19, .aload_n 0, 1, []), (20, .arraylength, 1, []), (21, .bipush 6, 2, []), (23, .isub, 1, []), (24, .if_icmp .gt 1411, 3, [975]), (27, .aload_n 0, 1, []), (28, .iload_n 3, 1, []), (29, .iaload, 1, []), (30, .bipush 63, 2, []), (32, .iand, 1, []), (33, .tableswitch 1396 0 42 #[187, 220, 263, 296, 319, 382, 405, 438, 481, 504, 527, 560, 593, 626, 649, 692, 725, 748, 771, 794, 827, 850, 873, 886, 909, 932, 955, 998, 1041, 1074, 1097, 1130, 1163, 1186, 1219, 1252, 1285, 1298, 1311, 1324, 1347, 1360, 1383], 187, [973, 22, 49, 86, 113, 130, 187, 204, 231, 268, 285, 302, 329, 356, 383, 400, 437, 464, 481, 498, 515, 542, 559, 576, 583, 600, 617, 634, 671, 708, 735, 752, 779, 806, 823, 850, 877, 904, 911, 918, 925, 942, 949, 966]), (220, .aload_n 1, 1, []), (221, .aload_n 0, 1, []), (222, .iload_n 3, 1, []), (223, .iconst 1, 1, []), (224, .iadd, 1, []), (225, .iaload, 1, []), (226, .aload_n 0, 1, []), (227, .iload_n 3, 1, []), (228, .iconst 2, 1, []), (229, .iadd, 1, []), (230, .iaload, 1, []), (231, .invokevirtual 13, 3, [0, 7, 0, 0, 291]), (234, .pop, 1, []), (235, .aload_n 2, 1, []), (236, .aload_n 0, 1, []), (237, .iload_n 3, 1, []), (238, .iconst 1, 1, []), (239, .iadd, 1, []), (240, .iaload, 1, []), (241, .aload_n 0, 1, []), (242, .iload_n 3, 1, []), (243, .iconst 2, 1, []), (244, .iadd, 1, []), (245, .iaload, 1, []), (246, .invokevirtual 17, 3, [0, 125, 0, 0, 863]), (249, .pop, 1, []), (250, .goto 1179, 3, [973]), (253, .aload_n 1, 1, []), (254, .aload_n 0, 1, []), (255, .iload_n 3, 1, []), (256, .iconst 1, 1, []), (257, .iadd, 1, []), (258, .iaload, 1, []), (259, .aload_n 0, 1, []), (260, .iload_n 3, 1, []), (261, .iconst 2, 1, []), (262, .iadd, 1, []), (263, .iaload, 1, []), (264, .aload_n 0, 1, []), (265, .iload_n 3, 1, []), (266, .iconst 3, 1, []), (267, .iadd, 1, []), (268, .iaload, 1, []), (269, .invokevirtual 18, 3, [0, 12, 0, 0, 310]), (272, .pop, 1, []), (273, .aload_n 2, 1, []), (274, .aload_n 0, 1, []), (275, .iload_n 3, 1, []), (276, .iconst 1, 1, []), (277, .iadd, 1, []), (278, .iaload, 1, []), (279, .aload_n 0, 1, []), (280, .iload_n 3, 1, []), (281, .iconst 2, 1, []), (282, .iadd, 1, []), (283, .iaload, 1, []), (284, .aload_n 0, 1, []), (285, .iload_n 3, 1, []), (286, .iconst 3, 1, []), (287, .iadd, 1, []), (288, .iaload, 1, []), (289, .invokevirtual 22, 3, [0, 129, 0, 0, 878]), (292, .pop, 1, []), (293, .goto 1136, 3, [973]), (296, .aload_n 1, 1, []), (297, .aload_n 0, 1, []), (298, .iload_n 3, 1, []), (299, .iconst 1, 1, []), (300, .iadd, 1, []), (301, .iaload, 1, []), (302, .aload_n 0, 1, []), (303, .iload_n 3, 1, []), (304, .iconst 2, 1, []), (305, .iadd, 1, []), (306, .iaload, 1, []), (307, .invokevirtual 23, 3, [0, 14, 0, 0, 317]), (310, .pop, 1, []), (311, .aload_n 2, 1, []), (312, .aload_n 0, 1, []), (313, .iload_n 3, 1, []), (314, .iconst 1, 1, []), (315, .iadd, 1, []), (316, .iaload, 1, []), (317, .aload_n 0, 1, []), (318, .iload_n 3, 1, []), (319, .iconst 2, 1, []), (320, .iadd, 1, []), (321, .iaload, 1, []), (322, .invokevirtual 26, 3, [0, 131, 0, 0, 886]), (325, .pop, 1, []), (326, .goto 1103, 3, [973]), (329, .aload_n 1, 1, []), (330, .aload_n 0, 1, []), (331, .iload_n 3, 1, []), (332, .iconst 1, 1, []), (333, .iadd, 1, []), (334, .iaload, 1, []), (335, .invokevirtual 27, 3, [0, 15, 0, 0, 321]), (338, .pop, 1, []), (339, .aload_n 2, 1, []), (340, .aload_n 0, 1, []), (341, .iload_n 3, 1, []), (342, .iconst 1, 1, []), (343, .iadd, 1, []), (344, .iaload, 1, []), (345, .invokevirtual 31, 3, [0, 132, 0, 0, 890]), (348, .pop, 1, []), (349, .goto 1080, 3, [973]), (352, .aload_n 1, 1, []), (353, .aload_n 0, 1, []), (354, .iload_n 3, 1, []), (355, .iconst 1, 1, []), (356, .iadd, 1, []), (357, .iaload, 1, []), (358, .aload_n 0, 1, []), (359, .iload_n 3, 1, []), (360, .iconst 2, 1, []), (361, .iadd, 1, []), (362, .iaload, 1, []), (363, .aload_n 0, 1, []), (364, .iload_n 3, 1, []), (365, .iconst 3, 1, []), (366, .iadd, 1, []), (367, .iaload, 1, []), (368, .aload_n 0, 1, []), (369, .iload_n 3, 1, []), (370, .iconst 4, 1, []), (371, .iadd, 1, []), (372, .iaload, 1, []), (373, .aload_n 0, 1, []), (374, .iload_n 3, 1, []), (375, .iconst 5, 1, []), (376, .iadd, 1, []), (377, .iaload, 1, []), (378, .invokevirtual 32, 3, [0, 16, 0, 0, 325]), (381, .pop, 1, []), (382, .aload_n 2, 1, []), (383, .aload_n 0, 1, []), (384, .iload_n 3, 1, []), (385, .iconst 1, 1, []), (386, .iadd, 1, []), (387, .iaload, 1, []), (388, .aload_n 0, 1, []), (389, .iload_n 3, 1, []), (390, .iconst 2, 1, []), (391, .iadd, 1, []), (392, .iaload, 1, []), (393, .aload_n 0, 1, []), (394, .iload_n 3, 1, []), (395, .iconst 3, 1, []), (396, .iadd, 1, []), (397, .iaload, 1, []), (398, .aload_n 0, 1, []), (399, .iload_n 3, 1, []), (400, .iconst 4, 1, []), (401, .iadd, 1, []), (402, .iaload, 1, []), (403, .aload_n 0, 1, []), (404, .iload_n 3, 1, []), (405, .iconst 5, 1, []), (406, .iadd, 1, []), (407, .iaload, 1, []), (408, .invokevirtual 36, 3, [0, 133, 0, 0, 894]), (411, .pop, 1, []), (412, .goto 1017, 3, [973]), (415, .aload_n 1, 1, []), (416, .aload_n 0, 1, []), (417, .iload_n 3, 1, []), (418, .iconst 1, 1, []), (419, .iadd, 1, []), (420, .iaload, 1, []), (421, .invokevirtual 37, 3, [0, 18, 0, 0, 336]), (424, .pop, 1, []), (425, .aload_n 2, 1, []), (426, .aload_n 0, 1, []), (427, .iload_n 3, 1, []), (428, .iconst 1, 1, []), (429, .iadd, 1, []), (430, .iaload, 1, []), (431, .invokevirtual 40, 3, [0, 134, 0, 0, 898]), (434, .pop, 1, []), (435, .goto 994, 3, [973]), (438, .aload_n 1, 1, []), (439, .aload_n 0, 1, []), (440, .iload_n 3, 1, []), (441, .iconst 1, 1, []), (442, .iadd, 1, []), (443, .iaload, 1, []), (444, .aload_n 0, 1, []), (445, .iload_n 3, 1, []), (446, .iconst 2, 1, []), (447, .iadd, 1, []), (448, .iaload, 1, []), (449, .invokevirtual 41, 3, [0, 20, 0, 0, 344]), (452, .pop, 1, []), (453, .aload_n 2, 1, []), (454, .aload_n 0, 1, []), (455, .iload_n 3, 1, []), (456, .iconst 1, 1, []), (457, .iadd, 1, []), (458, .iaload, 1, []), (459, .aload_n 0, 1, []), (460, .iload_n 3, 1, []), (461, .iconst 2, 1, []), (462, .iadd, 1, []), (463, .iaload, 1, []), (464, .invokevirtual 44, 3, [0, 135, 0, 0, 902]), (467, .pop, 1, []), (468, .goto 961, 3, [973]), (471, .aload_n 1, 1, []), (472, .aload_n 0, 1, []), (473, .iload_n 3, 1, []), (474, .iconst 1, 1, []), (475, .iadd, 1, []), (476, .iaload, 1, []), (477, .aload_n 0, 1, []), (478, .iload_n 3, 1, []), (479, .iconst 2, 1, []), (480, .iadd, 1, []), (481, .iaload, 1, []), (482, .aload_n 0, 1, []), (483, .iload_n 3, 1, []), (484, .iconst 3, 1, []), (485, .iadd, 1, []), (486, .iaload, 1, []), (487, .invokevirtual 45, 3, [0, 24, 0, 0, 359]), (490, .pop, 1, []), (491, .aload_n 2, 1, []), (492, .aload_n 0, 1, []), (493, .iload_n 3, 1, []), (494, .iconst 1, 1, []), (495, .iadd, 1, []), (496, .iaload, 1, []), (497, .aload_n 0, 1, []), (498, .iload_n 3, 1, []), (499, .iconst 2, 1, []), (500, .iadd, 1, []), (501, .iaload, 1, []), (502, .aload_n 0, 1, []), (503, .iload_n 3, 1, []), (504, .iconst 3, 1, []), (505, .iadd, 1, []), (506, .iaload, 1, []), (507, .invokevirtual 48, 3, [0, 137, 0, 0, 910]), (510, .pop, 1, []), (511, .goto 918, 3, [973]), (514, .aload_n 1, 1, []), (515, .aload_n 0, 1, []), (516, .iload_n 3, 1, []), (517, .iconst 1, 1, []), (518, .iadd, 1, []), (519, .iaload, 1, []), (520, .invokevirtual 49, 3, [0, 25, 0, 0, 363]), (523, .pop, 1, []), (524, .aload_n 2, 1, []), (525, .aload_n 0, 1, []), (526, .iload_n 3, 1, []), (527, .iconst 1, 1, []), (528, .iadd, 1, []), (529, .iaload, 1, []), (530, .invokevirtual 52, 3, [0, 138, 0, 0, 914]), (533, .pop, 1, []), (534, .goto 895, 3, [973]), (537, .aload_n 1, 1, []), (538, .aload_n 0, 1, []), (539, .iload_n 3, 1, []), (540, .iconst 1, 1, []), (541, .iadd, 1, []), (542, .iaload, 1, []), (543, .invokevirtual 53, 3, [0, 32, 0, 0, 392]), (546, .pop, 1, []), (547, .aload_n 2, 1, []), (548, .aload_n 0, 1, []), (549, .iload_n 3, 1, []), (550, .iconst 1, 1, []), (551, .iadd, 1, []), (552, .iaload, 1, []), (553, .invokevirtual 56, 3, [0, 144, 0, 0, 941]), (556, .pop, 1, []), (557, .goto 872, 3, [973]), (560, .aload_n 1, 1, []), (561, .aload_n 0, 1, []), (562, .iload_n 3, 1, []), (563, .iconst 1, 1, []), (564, .iadd, 1, []), (565, .iaload, 1, []), (566, .aload_n 0, 1, []), (567, .iload_n 3, 1, []), (568, .iconst 2, 1, []), (569, .iadd, 1, []), (570, .iaload, 1, []), (571, .invokevirtual 57, 3, [0, 34, 0, 0, 401]), (574, .pop, 1, []), (575, .aload_n 2, 1, []), (576, .aload_n 0, 1, []), (577, .iload_n 3, 1, []), (578, .iconst 1, 1, []), (579, .iadd, 1, []), (580, .iaload, 1, []), (581, .aload_n 0, 1, []), (582, .iload_n 3, 1, []), (583, .iconst 2, 1, []), (584, .iadd, 1, []), (585, .iaload, 1, []), (586, .invokevirtual 60, 3, [0, 146, 0, 0, 948]), (589, .pop, 1, []), (590, .goto 839, 3, [973]), (593, .aload_n 1, 1, []), (594, .aload_n 0, 1, []), (595, .iload_n 3, 1, []), (596, .iconst 1, 1, []), (597, .iadd, 1, []), (598, .iaload, 1, []), (599, .aload_n 0, 1, []), (600, .iload_n 3, 1, []), (601, .iconst 2, 1, []), (602, .iadd, 1, []), (603, .iaload, 1, []), (604, .invokevirtual 61, 3, [0, 48, 0, 0, 453]), (607, .pop, 1, []), (608, .aload_n 2, 1, []), (609, .aload_n 0, 1, []), (610, .iload_n 3, 1, []), (611, .iconst 1, 1, []), (612, .iadd, 1, []), (613, .iaload, 1, []), (614, .aload_n 0, 1, []), (615, .iload_n 3, 1, []), (616, .iconst 2, 1, []), (617, .iadd, 1, []), (618, .iaload, 1, []), (619, .invokevirtual 64, 3, [0, 156, 0, 0, 988]), (622, .pop, 1, []), (623, .goto 806, 3, [973]), (626, .aload_n 1, 1, []), (627, .aload_n 0, 1, []), (628, .iload_n 3, 1, []), (629, .iconst 1, 1, []), (630, .iadd, 1, []), (631, .iaload, 1, []), (632, .aload_n 0, 1, []), (633, .iload_n 3, 1, []), (634, .iconst 2, 1, []), (635, .iadd, 1, []), (636, .iaload, 1, []), (637, .invokevirtual 65, 3, [0, 49, 0, 0, 458]), (640, .pop, 1, []), (641, .aload_n 2, 1, []), (642, .aload_n 0, 1, []), (643, .iload_n 3, 1, []), (644, .iconst 1, 1, []), (645, .iadd, 1, []), (646, .iaload, 1, []), (647, .aload_n 0, 1, []), (648, .iload_n 3, 1, []), (649, .iconst 2, 1, []), (650, .iadd, 1, []), (651, .iaload, 1, []), (652, .invokevirtual 68, 3, [0, 157, 0, 0, 992]), (655, .pop, 1, []), (656, .goto 773, 3, [973]), (659, .aload_n 1, 1, []), (660, .aload_n 0, 1, []), (661, .iload_n 3, 1, []), (662, .iconst 1, 1, []), (663, .iadd, 1, []), (664, .iaload, 1, []), (665, .invokevirtual 69, 3, [0, 55, 0, 0, 485]), (668, .pop, 1, []), (669, .aload_n 2, 1, []), (670, .aload_n 0, 1, []), (671, .iload_n 3, 1, []), (672, .iconst 1, 1, []), (673, .iadd, 1, []), (674, .iaload, 1, []), (675, .invokevirtual 72, 3, [0, 162, 0, 0, 1011]), (678, .pop, 1, []), (679, .goto 750, 3, [973]), (682, .aload_n 1, 1, []), (683, .aload_n 0, 1, []), (684, .iload_n 3, 1, []), (685, .iconst 1, 1, []), (686, .iadd, 1, []), (687, .iaload, 1, []), (688, .aload_n 0, 1, []), (689, .iload_n 3, 1, []), (690, .iconst 2, 1, []), (691, .iadd, 1, []), (692, .iaload, 1, []), (693, .aload_n 0, 1, []), (694, .iload_n 3, 1, []), (695, .iconst 3, 1, []), (696, .iadd, 1, []), (697, .iaload, 1, []), (698, .invokevirtual 73, 3, [0, 59, 0, 0, 503]), (701, .pop, 1, []), (702, .aload_n 2, 1, []), (703, .aload_n 0, 1, []), (704, .iload_n 3, 1, []), (705, .iconst 1, 1, []), (706, .iadd, 1, []), (707, .iaload, 1, []), (708, .aload_n 0, 1, []), (709, .iload_n 3, 1, []), (710, .iconst 2, 1, []), (711, .iadd, 1, []), (712, .iaload, 1, []), (713, .aload_n 0, 1, []), (714, .iload_n 3, 1, []), (715, .iconst 3, 1, []), (716, .iadd, 1, []), (717, .iaload, 1, []), (718, .invokevirtual 76, 3, [0, 167, 0, 0, 1030]), (721, .pop, 1, []), (722, .goto 707, 3, [973]), (725, .aload_n 1, 1, []), (726, .aload_n 0, 1, []), (727, .iload_n 3, 1, []), (728, .iconst 1, 1, []), (729, .iadd, 1, []), (730, .iaload, 1, []), (731, .aload_n 0, 1, []), (732, .iload_n 3, 1, []), (733, .iconst 2, 1, []), (734, .iadd, 1, []), (735, .iaload, 1, []), (736, .invokevirtual 77, 3, [0, 63, 0, 0, 520]), (739, .pop, 1, []), (740, .aload_n 2, 1, []), (741, .aload_n 0, 1, []), (742, .iload_n 3, 1, []), (743, .iconst 1, 1, []), (744, .iadd, 1, []), (745, .iaload, 1, []), (746, .aload_n 0, 1, []), (747, .iload_n 3, 1, []), (748, .iconst 2, 1, []), (749, .iadd, 1, []), (750, .iaload, 1, []), (751, .invokevirtual 80, 3, [0, 169, 0, 0, 1039]), (754, .pop, 1, []), (755, .goto 674, 3, [973]), (758, .aload_n 1, 1, []), (759, .aload_n 0, 1, []), (760, .iload_n 3, 1, []), (761, .iconst 1, 1, []), (762, .iadd, 1, []), (763, .iaload, 1, []), (764, .invokevirtual 81, 3, [0, 70, 0, 0, 549]), (767, .pop, 1, []), (768, .aload_n 2, 1, []), (769, .aload_n 0, 1, []), (770, .iload_n 3, 1, []), (771, .iconst 1, 1, []), (772, .iadd, 1, []), (773, .iaload, 1, []), (774, .invokevirtual 84, 3, [0, 176, 0, 0, 1066]), (777, .pop, 1, []), (778, .goto 651, 3, [973]), (781, .aload_n 1, 1, []), (782, .aload_n 0, 1, []), (783, .iload_n 3, 1, []), (784, .iconst 1, 1, []), (785, .iadd, 1, []), (786, .iaload, 1, []), (787, .invokevirtual 85, 3, [0, 72, 0, 0, 558]), (790, .pop, 1, []), (791, .aload_n 2, 1, []), (792, .aload_n 0, 1, []), (793, .iload_n 3, 1, []), (794, .iconst 1, 1, []), (795, .iadd, 1, []), (796, .iaload, 1, []), (797, .invokevirtual 88, 3, [0, 178, 0, 0, 1074]), (800, .pop, 1, []), (801, .goto 628, 3, [973]), (804, .aload_n 1, 1, []), (805, .aload_n 0, 1, []), (806, .iload_n 3, 1, []), (807, .iconst 1, 1, []), (808, .iadd, 1, []), (809, .iaload, 1, []), (810, .invokevirtual 89, 3, [0, 74, 0, 0, 566]), (813, .pop, 1, []), (814, .aload_n 2, 1, []), (815, .aload_n 0, 1, []), (816, .iload_n 3, 1, []), (817, .iconst 1, 1, []), (818, .iadd, 1, []), (819, .iaload, 1, []), (820, .invokevirtual 92, 3, [0, 179, 0, 0, 1079]), (823, .pop, 1, []), (824, .goto 605, 3, [973]), (827, .aload_n 1, 1, []), (828, .aload_n 0, 1, []), (829, .iload_n 3, 1, []), (830, .iconst 1, 1, []), (831, .iadd, 1, []), (832, .iaload, 1, []), (833, .aload_n 0, 1, []), (834, .iload_n 3, 1, []), (835, .iconst 2, 1, []), (836, .iadd, 1, []), (837, .iaload, 1, []), (838, .invokevirtual 93, 3, [0, 75, 0, 0, 570]), (841, .pop, 1, []), (842, .aload_n 2, 1, []), (843, .aload_n 0, 1, []), (844, .iload_n 3, 1, []), (845, .iconst 1, 1, []), (846, .iadd, 1, []), (847, .iaload, 1, []), (848, .aload_n 0, 1, []), (849, .iload_n 3, 1, []), (850, .iconst 2, 1, []), (851, .iadd, 1, []), (852, .iaload, 1, []), (853, .invokevirtual 96, 3, [0, 180, 0, 0, 1083]), (856, .pop, 1, []), (857, .goto 572, 3, [973]), (860, .aload_n 1, 1, []), (861, .aload_n 0, 1, []), (862, .iload_n 3, 1, []), (863, .iconst 1, 1, []), (864, .iadd, 1, []), (865, .iaload, 1, []), (866, .invokevirtual 97, 3, [0, 77, 0, 0, 579]), (869, .aload_n 2, 1, []), (870, .aload_n 0, 1, []), (871, .iload_n 3, 1, []), (872, .iconst 1, 1, []), (873, .iadd, 1, []), (874, .iaload, 1, []), (875, .invokevirtual 100, 3, [0, 182, 0, 0, 1091]), (878, .if_icmp .eq 551, 3, [973]), (881, .iconst 0, 1, []), (882, .ireturn, 1, []), (883, .aload_n 1, 1, []), (884, .aload_n 0, 1, []), (885, .iload_n 3, 1, []), (886, .iconst 1, 1, []), (887, .iadd, 1, []), (888, .iaload, 1, []), (889, .invokevirtual 101, 3, [0, 78, 0, 0, 584]), (892, .pop, 1, []), (893, .aload_n 2, 1, []), (894, .aload_n 0, 1, []), (895, .iload_n 3, 1, []), (896, .iconst 1, 1, []), (897, .iadd, 1, []), (898, .iaload, 1, []), (899, .invokevirtual 104, 3, [0, 184, 0, 0, 1099]), (902, .pop, 1, []), (903, .goto 526, 3, [973]), (906, .aload_n 1, 1, []), (907, .invokevirtual 105, 3, [0, 81, 0, 0, 596]), (910, .pop, 1, []), (911, .aload_n 2, 1, []), (912, .invokevirtual 109, 3, [0, 187, 0, 0, 1111]), (915, .pop, 1, []), (916, .goto 513, 3, [973]), (919, .aload_n 1, 1, []), (920, .aload_n 0, 1, []), (921, .iload_n 3, 1, []), (922, .iconst 1, 1, []), (923, .iadd, 1, []), (924, .iaload, 1, []), (925, .invokevirtual 110, 3, [0, 82, 0, 0, 600]), (928, .pop, 1, []), (929, .aload_n 2, 1, []), (930, .aload_n 0, 1, []), (931, .iload_n 3, 1, []), (932, .iconst 1, 1, []), (933, .iadd, 1, []), (934, .iaload, 1, []), (935, .invokevirtual 113, 3, [0, 188, 0, 0, 1115]), (938, .pop, 1, []), (939, .goto 490, 3, [973]), (942, .aload_n 1, 1, []), (943, .aload_n 0, 1, []), (944, .iload_n 3, 1, []), (945, .iconst 1, 1, []), (946, .iadd, 1, []), (947, .iaload, 1, []), (948, .invokevirtual 114, 3, [0, 83, 0, 0, 604]), (951, .pop, 1, []), (952, .aload_n 2, 1, []), (953, .aload_n 0, 1, []), (954, .iload_n 3, 1, []), (955, .iconst 1, 1, []), (956, .iadd, 1, []), (957, .iaload, 1, []), (958, .invokevirtual 117, 3, [0, 189, 0, 0, 1119]), (961, .pop, 1, []), (962, .goto 467, 3, [973]), (965, .aload_n 1, 1, []), (966, .aload_n 0, 1, []), (967, .iload_n 3, 1, []), (968, .iconst 1, 1, []), (969, .iadd, 1, []), (970, .iaload, 1, []), (971, .invokevirtual 118, 3, [0, 84, 0, 0, 609]), (974, .pop, 1, []), (975, .aload_n 2, 1, []), (976, .aload_n 0, 1, []), (977, .iload_n 3, 1, []), (978, .iconst 1, 1, []), (979, .iadd, 1, []), (980, .iaload, 1, []), (981, .invokevirtual 121, 3, [0, 190, 0, 0, 1123]), (984, .pop, 1, []), (985, .goto 444, 3, [973]), (988, .aload_n 1, 1, []), (989, .aload_n 0, 1, []), (990, .iload_n 3, 1, []), (991, .iconst 1, 1, []), (992, .iadd, 1, []), (993, .iaload, 1, []), (994, .aload_n 0, 1, []), (995, .iload_n 3, 1, []), (996, .iconst 2, 1, []), (997, .iadd, 1, []), (998, .iaload, 1, []), (999, .aload_n 0, 1, []), (1000, .iload_n 3, 1, []), (1001, .iconst 3, 1, []), (1002, .iadd, 1, []), (1003, .iaload, 1, []), (1004, .invokevirtual 122, 3, [0, 88, 0, 0, 627]), (1007, .pop, 1, []), (1008, .aload_n 2, 1, []), (1009, .aload_n 0, 1, []), (1010, .iload_n 3, 1, []), (1011, .iconst 1, 1, []), (1012, .iadd, 1, []), (1013, .iaload, 1, []), (1014, .aload_n 0, 1, []), (1015, .iload_n 3, 1, []), (1016, .iconst 2, 1, []), (1017, .iadd, 1, []), (1018, .iaload, 1, []), (1019, .aload_n 0, 1, []), (1020, .iload_n 3, 1, []), (1021, .iconst 3, 1, []), (1022, .iadd, 1, []), (1023, .iaload, 1, []), (1024, .invokevirtual 125, 3, [0, 194, 0, 0, 1140]), (1027, .pop, 1, []), (1028, .goto 401, 3, [973]), (1031, .aload_n 1, 1, []), (1032, .aload_n 0, 1, []), (1033, .iload_n 3, 1, []), (1034, .iconst 1, 1, []), (1035, .iadd, 1, []), (1036, .iaload, 1, []), (1037, .aload_n 0, 1, []), (1038, .iload_n 3, 1, []), (1039, .iconst 2, 1, []), (1040, .iadd, 1, []), (1041, .iaload, 1, []), (1042, .aload_n 0, 1, []), (1043, .iload_n 3, 1, []), (1044, .iconst 3, 1, []), (1045, .iadd, 1, []), (1046, .iaload, 1, []), (1047, .invokevirtual 126, 3, [0, 91, 0, 0, 646]), (1050, .pop, 1, []), (1051, .aload_n 2, 1, []), (1052, .aload_n 0, 1, []), (1053, .iload_n 3, 1, []), (1054, .iconst 1, 1, []), (1055, .iadd, 1, []), (1056, .iaload, 1, []), (1057, .aload_n 0, 1, []), (1058, .iload_n 3, 1, []), (1059, .iconst 2, 1, []), (1060, .iadd, 1, []), (1061, .iaload, 1, []), (1062, .aload_n 0, 1, []), (1063, .iload_n 3, 1, []), (1064, .iconst 3, 1, []), (1065, .iadd, 1, []), (1066, .iaload, 1, []), (1067, .invokevirtual 129, 3, [0, 195, 0, 0, 1144]), (1070, .pop, 1, []), (1071, .goto 358, 3, [973]), (1074, .aload_n 1, 1, []), (1075, .aload_n 0, 1, []), (1076, .iload_n 3, 1, []), (1077, .iconst 1, 1, []), (1078, .iadd, 1, []), (1079, .iaload, 1, []), (1080, .aload_n 0, 1, []), (1081, .iload_n 3, 1, []), (1082, .iconst 2, 1, []), (1083, .iadd, 1, []), (1084, .iaload, 1, []), (1085, .invokevirtual 130, 3, [0, 94, 0, 0, 659]), (1088, .pop, 1, []), (1089, .aload_n 2, 1, []), (1090, .aload_n 0, 1, []), (1091, .iload_n 3, 1, []), (1092, .iconst 1, 1, []), (1093, .iadd, 1, []), (1094, .iaload, 1, []), (1095, .aload_n 0, 1, []), (1096, .iload_n 3, 1, []), (1097, .iconst 2, 1, []), (1098, .iadd, 1, []), (1099, .iaload, 1, []), (1100, .invokevirtual 133, 3, [0, 198, 0, 0, 1156]), (1103, .pop, 1, []), (1104, .goto 325, 3, [973]), (1107, .aload_n 1, 1, []), (1108, .aload_n 0, 1, []), (1109, .iload_n 3, 1, []), (1110, .iconst 1, 1, []), (1111, .iadd, 1, []), (1112, .iaload, 1, []), (1113, .invokevirtual 134, 3, [0, 95, 0, 0, 663]), (1116, .pop, 1, []), (1117, .aload_n 2, 1, []), (1118, .aload_n 0, 1, []), (1119, .iload_n 3, 1, []), (1120, .iconst 1, 1, []), (1121, .iadd, 1, []), (1122, .iaload, 1, []), (1123, .invokevirtual 137, 3, [0, 199, 0, 0, 1160]), (1126, .pop, 1, []), (1127, .goto 302, 3, [973]), (1130, .aload_n 1, 1, []), (1131, .aload_n 0, 1, []), (1132, .iload_n 3, 1, []), (1133, .iconst 1, 1, []), (1134, .iadd, 1, []), (1135, .iaload, 1, []), (1136, .aload_n 0, 1, []), (1137, .iload_n 3, 1, []), (1138, .iconst 2, 1, []), (1139, .iadd, 1, []), (1140, .iaload, 1, []), (1141, .invokevirtual 138, 3, [0, 97, 0, 0, 671]), (1144, .pop, 1, []), (1145, .aload_n 2, 1, []), (1146, .aload_n 0, 1, []), (1147, .iload_n 3, 1, []), (1148, .iconst 1, 1, []), (1149, .iadd, 1, []), (1150, .iaload, 1, []), (1151, .aload_n 0, 1, []), (1152, .iload_n 3, 1, []), (1153, .iconst 2, 1, []), (1154, .iadd, 1, []), (1155, .iaload, 1, []), (1156, .invokevirtual 141, 3, [0, 200, 0, 0, 1164]), (1159, .pop, 1, []), (1160, .goto 269, 3, [973]), (1163, .aload_n 1, 1, []), (1164, .aload_n 0, 1, []), (1165, .iload_n 3, 1, []), (1166, .iconst 1, 1, []), (1167, .iadd, 1, []), (1168, .iaload, 1, []), (1169, .aload_n 0, 1, []), (1170, .iload_n 3, 1, []), (1171, .iconst 2, 1, []), (1172, .iadd, 1, []), (1173, .iaload, 1, []), (1174, .invokevirtual 142, 3, [0, 100, 0, 0, 683]), (1177, .pop, 1, []), (1178, .aload_n 2, 1, []), (1179, .aload_n 0, 1, []), (1180, .iload_n 3, 1, []), (1181, .iconst 1, 1, []), (1182, .iadd, 1, []), (1183, .iaload, 1, []), (1184, .aload_n 0, 1, []), (1185, .iload_n 3, 1, []), (1186, .iconst 2, 1, []), (1187, .iadd, 1, []), (1188, .iaload, 1, []), (1189, .invokevirtual 145, 3, [0, 202, 0, 0, 1172]), (1192, .pop, 1, []), (1193, .goto 236, 3, [973]), (1196, .aload_n 1, 1, []), (1197, .aload_n 0, 1, []), (1198, .iload_n 3, 1, []), (1199, .iconst 1, 1, []), (1200, .iadd, 1, []), (1201, .iaload, 1, []), (1202, .invokevirtual 146, 3, [0, 101, 0, 0, 687]), (1205, .pop, 1, []), (1206, .aload_n 2, 1, []), (1207, .aload_n 0, 1, []), (1208, .iload_n 3, 1, []), (1209, .iconst 1, 1, []), (1210, .iadd, 1, []), (1211, .iaload, 1, []), (1212, .invokevirtual 149, 3, [0, 203, 0, 0, 1176]), (1215, .pop, 1, []), (1216, .goto 213, 3, [973]), (1219, .aload_n 1, 1, []), (1220, .aload_n 0, 1, []), (1221, .iload_n 3, 1, []), (1222, .iconst 1, 1, []), (1223, .iadd, 1, []), (1224, .iaload, 1, []), (1225, .aload_n 0, 1, []), (1226, .iload_n 3, 1, []), (1227, .iconst 2, 1, []), (1228, .iadd, 1, []), (1229, .iaload, 1, []), (1230, .invokevirtual 150, 3, [0, 103, 0, 0, 697]), (1233, .pop, 1, []), (1234, .aload_n 2, 1, []), (1235, .aload_n 0, 1, []), (1236, .iload_n 3, 1, []), (1237, .iconst 1, 1, []), (1238, .iadd, 1, []), (1239, .iaload, 1, []), (1240, .aload_n 0, 1, []), (1241, .iload_n 3, 1, []), (1242, .iconst 2, 1, []), (1243, .iadd, 1, []), (1244, .iaload, 1, []), (1245, .invokevirtual 153, 3, [0, 207, 0, 0, 1192]), (1248, .pop, 1, []), (1249, .goto 180, 3, [973]), (1252, .aload_n 1, 1, []), (1253, .aload_n 0, 1, []), (1254, .iload_n 3, 1, []), (1255, .iconst 1, 1, []), (1256, .iadd, 1, []), (1257, .iaload, 1, []), (1258, .aload_n 0, 1, []), (1259, .iload_n 3, 1, []), (1260, .iconst 2, 1, []), (1261, .iadd, 1, []), (1262, .iaload, 1, []), (1263, .invokevirtual 154, 3, [0, 107, 0, 0, 713]), (1266, .pop, 1, []), (1267, .aload_n 2, 1, []), (1268, .aload_n 0, 1, []), (1269, .iload_n 3, 1, []), (1270, .iconst 1, 1, []), (1271, .iadd, 1, []), (1272, .iaload, 1, []), (1273, .aload_n 0, 1, []), (1274, .iload_n 3, 1, []), (1275, .iconst 2, 1, []), (1276, .iadd, 1, []), (1277, .iaload, 1, []), (1278, .invokevirtual 157, 3, [0, 211, 0, 0, 1209]), (1281, .pop, 1, []), (1282, .goto 147, 3, [973]), (1285, .aload_n 1, 1, []), (1286, .aload_n 0, 1, []), (1287, .iload_n 3, 1, []), (1288, .iconst 1, 1, []), (1289, .iadd, 1, []), (1290, .iaload, 1, []), (1291, .aload_n 0, 1, []), (1292, .iload_n 3, 1, []), (1293, .iconst 2, 1, []), (1294, .iadd, 1, []), (1295, .iaload, 1, []), (1296, .invokevirtual 158, 3, [0, 108, 0, 0, 717]), (1299, .pop, 1, []), (1300, .aload_n 2, 1, []), (1301, .aload_n 0, 1, []), (1302, .iload_n 3, 1, []), (1303, .iconst 1, 1, []), (1304, .iadd, 1, []), (1305, .iaload, 1, []), (1306, .aload_n 0, 1, []), (1307, .iload_n 3, 1, []), (1308, .iconst 2, 1, []), (1309, .iadd, 1, []), (1310, .iaload, 1, []), (1311, .invokevirtual 161, 3, [0, 212, 0, 0, 1213]), (1314, .pop, 1, []), (1315, .goto 114, 3, [973]), (1318, .aload_n 1, 1, []), (1319, .invokevirtual 162, 3, [0, 110, 0, 0, 730]), (1322, .pop, 1, []), (1323, .aload_n 2, 1, []), (1324, .invokevirtual 165, 3, [0, 213, 0, 0, 1222]), (1327, .pop, 1, []), (1328, .goto 101, 3, [973]), (1331, .aload_n 1, 1, []), (1332, .invokevirtual 166, 3, [0, 111, 0, 0, 734]), (1335, .pop2, 1, []), (1336, .aload_n 2, 1, []), (1337, .invokevirtual 170, 3, [0, 214, 0, 0, 1226]), (1340, .pop2, 1, []), (1341, .goto 88, 3, [973]), (1344, .aload_n 1, 1, []), (1345, .invokevirtual 171, 3, [0, 112, 0, 0, 738]), (1348, .pop2, 1, []), (1349, .aload_n 2, 1, []), (1350, .invokevirtual 174, 3, [0, 215, 0, 0, 1230]), (1353, .pop2, 1, []), (1354, .goto 75, 3, [973]), (1357, .aload_n 1, 1, []), (1358, .aload_n 0, 1, []), (1359, .iload_n 3, 1, []), (1360, .iconst 1, 1, []), (1361, .iadd, 1, []), (1362, .iaload, 1, []), (1363, .invokevirtual 175, 3, [0, 113, 0, 0, 742]), (1366, .pop, 1, []), (1367, .aload_n 2, 1, []), (1368, .aload_n 0, 1, []), (1369, .iload_n 3, 1, []), (1370, .iconst 1, 1, []), (1371, .iadd, 1, []), (1372, .iaload, 1, []), (1373, .invokevirtual 178, 3, [0, 216, 0, 0, 1234]), (1376, .pop, 1, []), (1377, .goto 52, 3, [973]), (1380, .aload_n 1, 1, []), (1381, .invokevirtual 179, 3, [0, 118, 0, 0, 762]), (1384, .pop, 1, []), (1385, .aload_n 2, 1, []), (1386, .invokevirtual 182, 3, [0, 218, 0, 0, 1242]), (1389, .pop, 1, []), (1390, .goto 39, 3, [973]), (1393, .aload_n 1, 1, []), (1394, .aload_n 0, 1, []), (1395, .iload_n 3, 1, []), (1396, .iconst 1, 1, []), (1397, .iadd, 1, []), (1398, .iaload, 1, []), (1399, .invokevirtual 183, 3, [0, 119, 0, 0, 766]), (1402, .pop, 1, []), (1403, .aload_n 2, 1, []), (1404, .aload_n 0, 1, []), (1405, .iload_n 3, 1, []), (1406, .iconst 1, 1, []), (1407, .iadd, 1, []), (1408, .iaload, 1, []), (1409, .invokevirtual 186, 3, [0, 219, 0, 0, 1246]), (1412, .pop, 1, []), (1413, .goto 16, 3, [973]), (1416, .aload_n 1, 1, []), (1417, .invokevirtual 187, 3, [0, 120, 0, 0, 770]), (1420, .pop2, 1, []), (1421, .aload_n 2, 1, []), (1422, .invokevirtual 190, 3, [0, 220, 0, 0, 1250]), (1425, .pop2, 1, []), (1426, .goto 3, 3, [973]), (1429, .iinc 3 6, 3, []), (1432, .goto (-1414), 3, [10]), (1435, .iconst 1, 1, []), (1436, .ireturn, 1, [])]
end
section
/-! a method's own word by a quicker comparison of bytes -/
noncomputable def uEq : List UInt8 → List UInt8 → Bool
  | [], [] => true
  | x :: xs, y :: ys => Nat.beq x.toNat y.toNat && uEq xs ys
  | _, _ => false
theorem uEq_ok : ∀ {a b : List UInt8}, uEq a b = true → a = b
  | [], [], _ => rfl
  | x :: xs, y :: ys, h => by
    unfold uEq at h
    rw [Bool.and_eq_true] at h
    rw [UInt8.toNat_inj.mp (Nat.eq_of_beq_eq_true h.1), uEq_ok h.2]
  | [], _ :: _, h => by cases h
  | _ :: _, [], h => by cases h
noncomputable def bEq (a b : ByteArray) : Bool := uEq a.data.toList b.data.toList
theorem bEq_ok {a b : ByteArray} (h : bEq a b = true) : a = b := by
  obtain ⟨⟨a⟩⟩ := a
  obtain ⟨⟨b⟩⟩ := b
  have e : a = b := uEq_ok h
  rw [e]
noncomputable def mHasC (wi : Nat) (y : MethodName) (bs : ByteArray) (mx : Nat) (rt : Option FieldType) : Bool := match qzgo lw_tbl wi with
  | some (.code y1 b1 m1 r1) => decide (y1 = y) && (bEq b1 bs && (decide (m1 = mx) && decide (r1 = rt)))
  | _ => false
theorem mHasC_ok {wi : Nat} {y : MethodName} {bs : ByteArray} {mx : Nat} {rt : Option FieldType} (h : mHasC wi y bs mx rt = true) : lw_tbl[wi]? = some (.code y bs mx rt) := by
  unfold mHasC at h
  split at h
  · rename_i y1 b1 m1 r1 e
    simp only [Bool.and_eq_true, decide_eq_true_eq] at h
    rw [← qzgo_eq, e, h.1, bEq_ok h.2.1, h.2.2.1, h.2.2.2]
  · cases h
noncomputable def mMokR (t : mM) : Bool := mHas ((mMW t).getD 1 0) (.initialized (mMY t).cls) && (decide ((mMY t).cls ≠ "java/lang/invoke/MethodHandle" ∧ (mMY t).cls ≠ "java/lang/invoke/VarHandle" ∧ (parseMethodDescriptor (mMY t).desc).map (fun d => d.parameters.length) = some (mMN t) ∧ mMX t ≤ 41) &&
  (if mMK t = 0 then mHas ((mMW t).getD 2 0) (.static (mMY t)) else if mMK t = 1 then mHas ((mMW t).getD 2 0) (.instanceMethod (mMY t)) && mHas ((mMW t).getD 3 0) (.selects (mMY t).cls (mMY t) (mMY t)) else mHas ((mMW t).getD 2 0) (.instanceMethod (mMY t)) && decide ((mMY t).name = "<init>" ∧ mMT t = none ∧ mMK t = 2)))
noncomputable def mMokF (t : mM) : Bool := mHasC ((mMW t).getD 0 0) (mMY t) (mMB t) (mMX t) (mMT t) && (goodWord (.code (mMY t) (mMB t) (mMX t) (mMT t)) && mMokR t)
theorem mMokF_ok {t : mM} (h : mMokF t = true) : mMok t = true := by
  unfold mMokF at h
  rw [Bool.and_eq_true, Bool.and_eq_true] at h
  show (mHas ((mMW t).getD 0 0) (.code (mMY t) (mMB t) (mMX t) (mMT t)) && mMokR t) = true
  rw [Bool.and_eq_true]
  refine ⟨?_, h.2.2⟩
  unfold mHas
  rw [decide_eq_true ((qzgo_eq _ _).trans (mHasC_ok h.1)), Bool.true_and]
  exact h.2.1
noncomputable def mTokF (tab : List mM) (t : mM) : Bool := mMokF t && (mCok tab (mMY t).cls (decide ((mMY t).name = "<init>")) (mMB t) (mMC t) && (plainFor (mMY t) && decide (mPcAt (mMC t) 0 = 0)))
theorem mTokF_ok {tab : List mM} {t : mM} (h : mTokF tab t = true) : mTok tab t = true := by
  unfold mTokF at h
  rw [Bool.and_eq_true] at h
  unfold mTok
  rw [Bool.and_eq_true]
  exact ⟨mMokF_ok h.1, h.2⟩
end
section
/-! an instruction is held against its bytes -/
noncomputable def e0 (k : Nat) (l : List UInt8) : Option (Nat × List UInt8) := match l with
  | b :: r => bif Nat.beq b.toNat k then some (1, r) else none
  | _ => none
noncomputable def eU (k n : Nat) (l : List UInt8) : Option (Nat × List UInt8) := match l with
  | b :: c :: r => bif Nat.beq b.toNat k && Nat.beq c.toNat n then some (2, r) else none
  | _ => none
noncomputable def eW2 (k n : Nat) (l : List UInt8) : Option (Nat × List UInt8) := match l with
  | b :: c :: d :: r => bif Nat.beq b.toNat k && Nat.beq (c.toNat * 256 + d.toNat) n then some (3, r) else none
  | _ => none
noncomputable def eS1 (k : Nat) (z : Int) (l : List UInt8) : Option (Nat × List UInt8) := match l with
  | b :: c :: r => bif Nat.beq b.toNat k && decide (Jvm.ClassFile.Reader.signed 8 c.toNat = z) then some (2, r) else none
  | _ => none
noncomputable def eS2 (k : Nat) (z : Int) (l : List UInt8) : Option (Nat × List UInt8) := match l with
  | b :: c :: d :: r => bif Nat.beq b.toNat k && decide (Jvm.ClassFile.Reader.signed 16 (c.toNat * 256 + d.toNat) = z) then some (3, r) else none
  | _ => none
noncomputable def eI2 (n : Nat) (z : Int) (l : List UInt8) : Option (Nat × List UInt8) := match l with
  | b :: c :: d :: r => bif Nat.beq b.toNat 132 && (Nat.beq c.toNat n && decide (Jvm.ClassFile.Reader.signed 8 d.toNat = z)) then some (3, r) else none
  | _ => none
noncomputable def eCi : Jvm.ClassFile.Cond → Nat
  | .eq => 0
  | .ne => 1
  | .lt => 2
  | .ge => 3
  | .gt => 4
  | .le => 5
noncomputable def eN (ins : Instr) (l : List UInt8) : Option (Nat × List UInt8) := match ins with
  | .aaload => e0 50 l
  | .aastore => e0 83 l
  | .aconst_null => e0 1 l
  | .areturn => e0 176 l
  | .arraylength => e0 190 l
  | .baload => e0 51 l
  | .bastore => e0 84 l
  | .dup => e0 89 l
  | .dup2 => e0 92 l
  | .i2b => e0 145 l
  | .i2l => e0 133 l
  | .iadd => e0 96 l
  | .iaload => e0 46 l
  | .iand => e0 126 l
  | .iastore => e0 79 l
  | .idiv => e0 108 l
  | .imul => e0 104 l
  | .ineg => e0 116 l
  | .ior => e0 128 l
  | .irem => e0 112 l
  | .ireturn => e0 172 l
  | .ishl => e0 120 l
  | .ishr => e0 122 l
  | .isub => e0 100 l
  | .iushr => e0 124 l
  | .ixor => e0 130 l
  | .l2i => e0 136 l
  | .ladd => e0 97 l
  | .land => e0 127 l
  | .lcmp => e0 148 l
  | .ldiv => e0 109 l
  | .lmul => e0 105 l
  | .lor => e0 129 l
  | .lrem => e0 113 l
  | .lreturn => e0 173 l
  | .lshl => e0 121 l
  | .lsub => e0 101 l
  | .lushr => e0 125 l
  | .lxor => e0 131 l
  | .pop => e0 87 l
  | .pop2 => e0 88 l
  | .return_ => e0 177 l
  | .lneg => e0 117 l
  | .lshr => e0 123 l
  | .i2s => e0 147 l
  | .i2c => e0 146 l
  | .nop => e0 0 l
  | .athrow => e0 191 l
  | .iload_n n => e0 (26 + n.val) l
  | .lload_n n => e0 (30 + n.val) l
  | .aload_n n => e0 (42 + n.val) l
  | .istore_n n => e0 (59 + n.val) l
  | .lstore_n n => e0 (63 + n.val) l
  | .astore_n n => e0 (75 + n.val) l
  | .lconst n => e0 (9 + n.val) l
  | .iconst z => bif Nat.ble 2 (z + 3).toNat && Nat.ble (z + 3).toNat 8 then e0 (z + 3).toNat l else none
  | .iload n => eU 21 n l
  | .lload n => eU 22 n l
  | .aload n => eU 25 n l
  | .istore n => eU 54 n l
  | .lstore n => eU 55 n l
  | .astore n => eU 58 n l
  | .ldc n => eU 18 n l
  | .getfield n => eW2 180 n l
  | .putfield n => eW2 181 n l
  | .getstatic n => eW2 178 n l
  | .putstatic n => eW2 179 n l
  | .invokevirtual n => eW2 182 n l
  | .invokespecial n => eW2 183 n l
  | .invokestatic n => eW2 184 n l
  | .new n => eW2 187 n l
  | .anewarray n => eW2 189 n l
  | .ldc_w n => eW2 19 n l
  | .ldc2_w n => eW2 20 n l
  | .checkcast n => eW2 192 n l
  | .bipush z => eS1 16 z l
  | .sipush z => eS2 17 z l
  | .goto z => eS2 167 z l
  | .ifnull z => eS2 198 z l
  | .ifnonnull z => eS2 199 z l
  | .iinc n z => eI2 n z l
  | .ifCond q z => eS2 (153 + eCi q) z l
  | .if_icmp q z => eS2 (159 + eCi q) z l
  | .newarray t => (match t with
    | .boolean => eU 188 4 l
    | .byte => eU 188 8 l
    | .int => eU 188 10 l
    | _ => none)
  | _ => none
section ENC
variable {A : ByteArray} {pc : Nat} {b c d : UInt8} {l r : List UInt8} {ins : Instr} {n : Nat}
/-- the bytes of A from pc on -/
noncomputable def eR (A : ByteArray) (pc : Nat) (l : List UInt8) : Prop := A.data.toList.drop pc = l
theorem u1_eq (C : ByteArray) (p : Nat) : (Jvm.ClassFile.Reader.u1 : Jvm.ClassFile.Decoder Nat) C p = if hh : p < C.size then .ok (C[p].toNat, p + 1) else .error (.truncated p) := by
  unfold Jvm.ClassFile.Reader.u1
  by_cases hh : p < C.size
  · rw [dif_pos hh]
    show (dite (p < C.size) (fun hh => (do set (p + 1); pure C[p].toNat : Jvm.ClassFile.Decoder Nat)) (fun _ => throw (Jvm.ClassFile.HasTruncated.truncated p))) C p = _
    rw [dif_pos hh]
    rfl
  · rw [dif_neg hh]
    show (dite (p < C.size) (fun hh => (do set (p + 1); pure C[p].toNat : Jvm.ClassFile.Decoder Nat)) (fun _ => throw (Jvm.ClassFile.HasTruncated.truncated p))) C p = _
    rw [dif_neg hh]
    rfl
theorem eR_1 (h : eR A pc (b :: l)) : (Jvm.ClassFile.Reader.u1 : Jvm.ClassFile.Decoder Nat) A pc = .ok (b.toNat, pc + 1) ∧ eR A (pc + 1) l := by
  have h0 : A.data.toList.drop pc = b :: l := h
  have hlt : pc < A.data.toList.length := by
    rcases Nat.lt_or_ge pc A.data.toList.length with q | q
    · exact q
    · rw [List.drop_eq_nil_of_le q] at h0
      cases h0
  rw [List.drop_eq_getElem_cons hlt] at h0
  injection h0 with e1 e2
  refine ⟨?_, e2⟩
  rw [u1_eq, dif_pos (show pc < A.size from hlt)]
  exact congrArg (fun z : UInt8 => (Except.ok (z.toNat, pc + 1) : Except Jvm.ClassFile.DecodeError (Nat × Nat))) e1
theorem eBd {α β : Type} {x : Jvm.ClassFile.Decoder α} {f : α → Jvm.ClassFile.Decoder β} {v : α} {p q : Nat} {w : Except Jvm.ClassFile.DecodeError (β × Nat)} (h : x A p = .ok (v, q)) (k : f v A q = w) : (x >>= f) A p = w := by
  show Except.bind (x A p) (fun v => f v.1 A v.2) = w
  rw [h]
  exact k
theorem eMp {α β : Type} {x : Jvm.ClassFile.Decoder α} {g : α → β} {v : α} {p q : Nat} (h : x A p = .ok (v, q)) : (g <$> x) A p = .ok (g v, q) := by
  show Except.bind (x A p) (fun v => .ok (g v.1, v.2)) = _
  rw [h]
  rfl
theorem eR_2 (h : eR A pc (b :: c :: l)) : (Jvm.ClassFile.Reader.u2 : Jvm.ClassFile.Decoder Nat) A pc = .ok (b.toNat * 256 + c.toNat, pc + 2) := by
  obtain ⟨h1, h2⟩ := eR_1 h
  obtain ⟨h3, h4⟩ := eR_1 h2
  exact eBd h1 (eBd h3 rfl)
theorem eR_s1 (h : eR A pc (b :: l)) : (Jvm.ClassFile.Reader.s1 : Jvm.ClassFile.Decoder Int) A pc = .ok (Jvm.ClassFile.Reader.signed 8 b.toNat, pc + 1) := eMp (eR_1 h).1
theorem eR_s2 (h : eR A pc (b :: c :: l)) : (Jvm.ClassFile.Reader.s2 : Jvm.ClassFile.Decoder Int) A pc = .ok (Jvm.ClassFile.Reader.signed 16 (b.toNat * 256 + c.toNat), pc + 2) := eMp (eR_2 h)
theorem eDc {len : Nat} (h : Jvm.ClassFile.Decoder.instr pc A pc = .ok (ins, pc + len)) : decode A pc = .ok (ins, len) := by
  show Except.bind (Jvm.ClassFile.Decoder.instr pc A pc) (fun v => .ok (v.1, v.2 - pc)) = _
  rw [h]
  show Except.ok (ins, pc + len - pc) = _
  rw [Nat.add_sub_cancel_left]
theorem eOp {k : Nat} (h : eR A pc (b :: l)) (hb : b.toNat = k) : (Jvm.ClassFile.Reader.u1 : Jvm.ClassFile.Decoder Nat) A pc = .ok (k, pc + 1) := by
  rw [← hb]
  exact (eR_1 h).1
theorem ed_aaload (h : eR A pc (b :: l)) (hb : b.toNat = 50) : decode A pc = .ok (.aaload, 1) := eDc (eBd (eOp h hb) rfl)
theorem ed_aastore (h : eR A pc (b :: l)) (hb : b.toNat = 83) : decode A pc = .ok (.aastore, 1) := eDc (eBd (eOp h hb) rfl)
theorem ed_aconst_null (h : eR A pc (b :: l)) (hb : b.toNat = 1) : decode A pc = .ok (.aconst_null, 1) := eDc (eBd (eOp h hb) rfl)
theorem ed_areturn (h : eR A pc (b :: l)) (hb : b.toNat = 176) : decode A pc = .ok (.areturn, 1) := eDc (eBd (eOp h hb) rfl)
theorem ed_arraylength (h : eR A pc (b :: l)) (hb : b.toNat = 190) : decode A pc = .ok (.arraylength, 1) := eDc (eBd (eOp h hb) rfl)
theorem ed_baload (h : eR A pc (b :: l)) (hb : b.toNat = 51) : decode A pc = .ok (.baload, 1) := eDc (eBd (eOp h hb) rfl)
theorem ed_bastore (h : eR A pc (b :: l)) (hb : b.toNat = 84) : decode A pc = .ok (.bastore, 1) := eDc (eBd (eOp h hb) rfl)
theorem ed_dup (h : eR A pc (b :: l)) (hb : b.toNat = 89) : decode A pc = .ok (.dup, 1) := eDc (eBd (eOp h hb) rfl)
theorem ed_dup2 (h : eR A pc (b :: l)) (hb : b.toNat = 92) : decode A pc = .ok (.dup2, 1) := eDc (eBd (eOp h hb) rfl)
theorem ed_i2b (h : eR A pc (b :: l)) (hb : b.toNat = 145) : decode A pc = .ok (.i2b, 1) := eDc (eBd (eOp h hb) rfl)
theorem ed_i2l (h : eR A pc (b :: l)) (hb : b.toNat = 133) : decode A pc = .ok (.i2l, 1) := eDc (eBd (eOp h hb) rfl)
theorem ed_iadd (h : eR A pc (b :: l)) (hb : b.toNat = 96) : decode A pc = .ok (.iadd, 1) := eDc (eBd (eOp h hb) rfl)
theorem ed_iaload (h : eR A pc (b :: l)) (hb : b.toNat = 46) : decode A pc = .ok (.iaload, 1) := eDc (eBd (eOp h hb) rfl)
theorem ed_iand (h : eR A pc (b :: l)) (hb : b.toNat = 126) : decode A pc = .ok (.iand, 1) := eDc (eBd (eOp h hb) rfl)
theorem ed_iastore (h : eR A pc (b :: l)) (hb : b.toNat = 79) : decode A pc = .ok (.iastore, 1) := eDc (eBd (eOp h hb) rfl)
theorem ed_idiv (h : eR A pc (b :: l)) (hb : b.toNat = 108) : decode A pc = .ok (.idiv, 1) := eDc (eBd (eOp h hb) rfl)
theorem ed_imul (h : eR A pc (b :: l)) (hb : b.toNat = 104) : decode A pc = .ok (.imul, 1) := eDc (eBd (eOp h hb) rfl)
theorem ed_ineg (h : eR A pc (b :: l)) (hb : b.toNat = 116) : decode A pc = .ok (.ineg, 1) := eDc (eBd (eOp h hb) rfl)
theorem ed_ior (h : eR A pc (b :: l)) (hb : b.toNat = 128) : decode A pc = .ok (.ior, 1) := eDc (eBd (eOp h hb) rfl)
theorem ed_irem (h : eR A pc (b :: l)) (hb : b.toNat = 112) : decode A pc = .ok (.irem, 1) := eDc (eBd (eOp h hb) rfl)
theorem ed_ireturn (h : eR A pc (b :: l)) (hb : b.toNat = 172) : decode A pc = .ok (.ireturn, 1) := eDc (eBd (eOp h hb) rfl)
theorem ed_ishl (h : eR A pc (b :: l)) (hb : b.toNat = 120) : decode A pc = .ok (.ishl, 1) := eDc (eBd (eOp h hb) rfl)
theorem ed_ishr (h : eR A pc (b :: l)) (hb : b.toNat = 122) : decode A pc = .ok (.ishr, 1) := eDc (eBd (eOp h hb) rfl)
theorem ed_isub (h : eR A pc (b :: l)) (hb : b.toNat = 100) : decode A pc = .ok (.isub, 1) := eDc (eBd (eOp h hb) rfl)
theorem ed_iushr (h : eR A pc (b :: l)) (hb : b.toNat = 124) : decode A pc = .ok (.iushr, 1) := eDc (eBd (eOp h hb) rfl)
theorem ed_ixor (h : eR A pc (b :: l)) (hb : b.toNat = 130) : decode A pc = .ok (.ixor, 1) := eDc (eBd (eOp h hb) rfl)
theorem ed_l2i (h : eR A pc (b :: l)) (hb : b.toNat = 136) : decode A pc = .ok (.l2i, 1) := eDc (eBd (eOp h hb) rfl)
theorem ed_ladd (h : eR A pc (b :: l)) (hb : b.toNat = 97) : decode A pc = .ok (.ladd, 1) := eDc (eBd (eOp h hb) rfl)
theorem ed_land (h : eR A pc (b :: l)) (hb : b.toNat = 127) : decode A pc = .ok (.land, 1) := eDc (eBd (eOp h hb) rfl)
theorem ed_lcmp (h : eR A pc (b :: l)) (hb : b.toNat = 148) : decode A pc = .ok (.lcmp, 1) := eDc (eBd (eOp h hb) rfl)
theorem ed_ldiv (h : eR A pc (b :: l)) (hb : b.toNat = 109) : decode A pc = .ok (.ldiv, 1) := eDc (eBd (eOp h hb) rfl)
theorem ed_lmul (h : eR A pc (b :: l)) (hb : b.toNat = 105) : decode A pc = .ok (.lmul, 1) := eDc (eBd (eOp h hb) rfl)
theorem ed_lor (h : eR A pc (b :: l)) (hb : b.toNat = 129) : decode A pc = .ok (.lor, 1) := eDc (eBd (eOp h hb) rfl)
theorem ed_lrem (h : eR A pc (b :: l)) (hb : b.toNat = 113) : decode A pc = .ok (.lrem, 1) := eDc (eBd (eOp h hb) rfl)
theorem ed_lreturn (h : eR A pc (b :: l)) (hb : b.toNat = 173) : decode A pc = .ok (.lreturn, 1) := eDc (eBd (eOp h hb) rfl)
theorem ed_lshl (h : eR A pc (b :: l)) (hb : b.toNat = 121) : decode A pc = .ok (.lshl, 1) := eDc (eBd (eOp h hb) rfl)
theorem ed_lsub (h : eR A pc (b :: l)) (hb : b.toNat = 101) : decode A pc = .ok (.lsub, 1) := eDc (eBd (eOp h hb) rfl)
theorem ed_lushr (h : eR A pc (b :: l)) (hb : b.toNat = 125) : decode A pc = .ok (.lushr, 1) := eDc (eBd (eOp h hb) rfl)
theorem ed_lxor (h : eR A pc (b :: l)) (hb : b.toNat = 131) : decode A pc = .ok (.lxor, 1) := eDc (eBd (eOp h hb) rfl)
theorem ed_pop (h : eR A pc (b :: l)) (hb : b.toNat = 87) : decode A pc = .ok (.pop, 1) := eDc (eBd (eOp h hb) rfl)
theorem ed_pop2 (h : eR A pc (b :: l)) (hb : b.toNat = 88) : decode A pc = .ok (.pop2, 1) := eDc (eBd (eOp h hb) rfl)
theorem ed_return_ (h : eR A pc (b :: l)) (hb : b.toNat = 177) : decode A pc = .ok (.return_, 1) := eDc (eBd (eOp h hb) rfl)
theorem ed_lneg (h : eR A pc (b :: l)) (hb : b.toNat = 117) : decode A pc = .ok (.lneg, 1) := eDc (eBd (eOp h hb) rfl)
theorem ed_lshr (h : eR A pc (b :: l)) (hb : b.toNat = 123) : decode A pc = .ok (.lshr, 1) := eDc (eBd (eOp h hb) rfl)
theorem ed_i2s (h : eR A pc (b :: l)) (hb : b.toNat = 147) : decode A pc = .ok (.i2s, 1) := eDc (eBd (eOp h hb) rfl)
theorem ed_i2c (h : eR A pc (b :: l)) (hb : b.toNat = 146) : decode A pc = .ok (.i2c, 1) := eDc (eBd (eOp h hb) rfl)
theorem ed_nop (h : eR A pc (b :: l)) (hb : b.toNat = 0) : decode A pc = .ok (.nop, 1) := eDc (eBd (eOp h hb) rfl)
theorem ed_athrow (h : eR A pc (b :: l)) (hb : b.toNat = 191) : decode A pc = .ok (.athrow, 1) := eDc (eBd (eOp h hb) rfl)
theorem ed_iload_n0 (h : eR A pc (b :: l)) (hb : b.toNat = 26) : decode A pc = .ok (.iload_n 0, 1) := eDc (eBd (eOp h hb) rfl)
theorem ed_iload_n1 (h : eR A pc (b :: l)) (hb : b.toNat = 27) : decode A pc = .ok (.iload_n 1, 1) := eDc (eBd (eOp h hb) rfl)
theorem ed_iload_n2 (h : eR A pc (b :: l)) (hb : b.toNat = 28) : decode A pc = .ok (.iload_n 2, 1) := eDc (eBd (eOp h hb) rfl)
theorem ed_iload_n3 (h : eR A pc (b :: l)) (hb : b.toNat = 29) : decode A pc = .ok (.iload_n 3, 1) := eDc (eBd (eOp h hb) rfl)
theorem ed_lload_n0 (h : eR A pc (b :: l)) (hb : b.toNat = 30) : decode A pc = .ok (.lload_n 0, 1) := eDc (eBd (eOp h hb) rfl)
theorem ed_lload_n1 (h : eR A pc (b :: l)) (hb : b.toNat = 31) : decode A pc = .ok (.lload_n 1, 1) := eDc (eBd (eOp h hb) rfl)
theorem ed_lload_n2 (h : eR A pc (b :: l)) (hb : b.toNat = 32) : decode A pc = .ok (.lload_n 2, 1) := eDc (eBd (eOp h hb) rfl)
theorem ed_lload_n3 (h : eR A pc (b :: l)) (hb : b.toNat = 33) : decode A pc = .ok (.lload_n 3, 1) := eDc (eBd (eOp h hb) rfl)
theorem ed_aload_n0 (h : eR A pc (b :: l)) (hb : b.toNat = 42) : decode A pc = .ok (.aload_n 0, 1) := eDc (eBd (eOp h hb) rfl)
theorem ed_aload_n1 (h : eR A pc (b :: l)) (hb : b.toNat = 43) : decode A pc = .ok (.aload_n 1, 1) := eDc (eBd (eOp h hb) rfl)
theorem ed_aload_n2 (h : eR A pc (b :: l)) (hb : b.toNat = 44) : decode A pc = .ok (.aload_n 2, 1) := eDc (eBd (eOp h hb) rfl)
theorem ed_aload_n3 (h : eR A pc (b :: l)) (hb : b.toNat = 45) : decode A pc = .ok (.aload_n 3, 1) := eDc (eBd (eOp h hb) rfl)
theorem ed_istore_n0 (h : eR A pc (b :: l)) (hb : b.toNat = 59) : decode A pc = .ok (.istore_n 0, 1) := eDc (eBd (eOp h hb) rfl)
theorem ed_istore_n1 (h : eR A pc (b :: l)) (hb : b.toNat = 60) : decode A pc = .ok (.istore_n 1, 1) := eDc (eBd (eOp h hb) rfl)
theorem ed_istore_n2 (h : eR A pc (b :: l)) (hb : b.toNat = 61) : decode A pc = .ok (.istore_n 2, 1) := eDc (eBd (eOp h hb) rfl)
theorem ed_istore_n3 (h : eR A pc (b :: l)) (hb : b.toNat = 62) : decode A pc = .ok (.istore_n 3, 1) := eDc (eBd (eOp h hb) rfl)
theorem ed_lstore_n0 (h : eR A pc (b :: l)) (hb : b.toNat = 63) : decode A pc = .ok (.lstore_n 0, 1) := eDc (eBd (eOp h hb) rfl)
theorem ed_lstore_n1 (h : eR A pc (b :: l)) (hb : b.toNat = 64) : decode A pc = .ok (.lstore_n 1, 1) := eDc (eBd (eOp h hb) rfl)
theorem ed_lstore_n2 (h : eR A pc (b :: l)) (hb : b.toNat = 65) : decode A pc = .ok (.lstore_n 2, 1) := eDc (eBd (eOp h hb) rfl)
theorem ed_lstore_n3 (h : eR A pc (b :: l)) (hb : b.toNat = 66) : decode A pc = .ok (.lstore_n 3, 1) := eDc (eBd (eOp h hb) rfl)
theorem ed_astore_n0 (h : eR A pc (b :: l)) (hb : b.toNat = 75) : decode A pc = .ok (.astore_n 0, 1) := eDc (eBd (eOp h hb) rfl)
theorem ed_astore_n1 (h : eR A pc (b :: l)) (hb : b.toNat = 76) : decode A pc = .ok (.astore_n 1, 1) := eDc (eBd (eOp h hb) rfl)
theorem ed_astore_n2 (h : eR A pc (b :: l)) (hb : b.toNat = 77) : decode A pc = .ok (.astore_n 2, 1) := eDc (eBd (eOp h hb) rfl)
theorem ed_astore_n3 (h : eR A pc (b :: l)) (hb : b.toNat = 78) : decode A pc = .ok (.astore_n 3, 1) := eDc (eBd (eOp h hb) rfl)
theorem ed_lconst0 (h : eR A pc (b :: l)) (hb : b.toNat = 9) : decode A pc = .ok (.lconst 0, 1) := eDc (eBd (eOp h hb) rfl)
theorem ed_lconst1 (h : eR A pc (b :: l)) (hb : b.toNat = 10) : decode A pc = .ok (.lconst 1, 1) := eDc (eBd (eOp h hb) rfl)
theorem ed_iconstm1 (h : eR A pc (b :: l)) (hb : b.toNat = 2) : decode A pc = .ok (.iconst (-1), 1) := eDc (eBd (eOp h hb) rfl)
theorem ed_iconst0 (h : eR A pc (b :: l)) (hb : b.toNat = 3) : decode A pc = .ok (.iconst 0, 1) := eDc (eBd (eOp h hb) rfl)
theorem ed_iconst1 (h : eR A pc (b :: l)) (hb : b.toNat = 4) : decode A pc = .ok (.iconst 1, 1) := eDc (eBd (eOp h hb) rfl)
theorem ed_iconst2 (h : eR A pc (b :: l)) (hb : b.toNat = 5) : decode A pc = .ok (.iconst 2, 1) := eDc (eBd (eOp h hb) rfl)
theorem ed_iconst3 (h : eR A pc (b :: l)) (hb : b.toNat = 6) : decode A pc = .ok (.iconst 3, 1) := eDc (eBd (eOp h hb) rfl)
theorem ed_iconst4 (h : eR A pc (b :: l)) (hb : b.toNat = 7) : decode A pc = .ok (.iconst 4, 1) := eDc (eBd (eOp h hb) rfl)
theorem ed_iconst5 (h : eR A pc (b :: l)) (hb : b.toNat = 8) : decode A pc = .ok (.iconst 5, 1) := eDc (eBd (eOp h hb) rfl)
theorem ed_iload (h : eR A pc (b :: c :: l)) (hb : b.toNat = 21) : decode A pc = .ok (.iload c.toNat, 2) := eDc (eBd (eOp h hb) (eBd (eR_1 (eR_1 h).2).1 rfl))
theorem ed_lload (h : eR A pc (b :: c :: l)) (hb : b.toNat = 22) : decode A pc = .ok (.lload c.toNat, 2) := eDc (eBd (eOp h hb) (eBd (eR_1 (eR_1 h).2).1 rfl))
theorem ed_aload (h : eR A pc (b :: c :: l)) (hb : b.toNat = 25) : decode A pc = .ok (.aload c.toNat, 2) := eDc (eBd (eOp h hb) (eBd (eR_1 (eR_1 h).2).1 rfl))
theorem ed_istore (h : eR A pc (b :: c :: l)) (hb : b.toNat = 54) : decode A pc = .ok (.istore c.toNat, 2) := eDc (eBd (eOp h hb) (eBd (eR_1 (eR_1 h).2).1 rfl))
theorem ed_lstore (h : eR A pc (b :: c :: l)) (hb : b.toNat = 55) : decode A pc = .ok (.lstore c.toNat, 2) := eDc (eBd (eOp h hb) (eBd (eR_1 (eR_1 h).2).1 rfl))
theorem ed_astore (h : eR A pc (b :: c :: l)) (hb : b.toNat = 58) : decode A pc = .ok (.astore c.toNat, 2) := eDc (eBd (eOp h hb) (eBd (eR_1 (eR_1 h).2).1 rfl))
theorem ed_ldc (h : eR A pc (b :: c :: l)) (hb : b.toNat = 18) : decode A pc = .ok (.ldc c.toNat, 2) := eDc (eBd (eOp h hb) (eBd (eR_1 (eR_1 h).2).1 rfl))
theorem ed_getfield (h : eR A pc (b :: c :: d :: l)) (hb : b.toNat = 180) : decode A pc = .ok (.getfield (c.toNat * 256 + d.toNat), 3) := eDc (eBd (eOp h hb) (eBd (eR_2 (eR_1 h).2) rfl))
theorem ed_putfield (h : eR A pc (b :: c :: d :: l)) (hb : b.toNat = 181) : decode A pc = .ok (.putfield (c.toNat * 256 + d.toNat), 3) := eDc (eBd (eOp h hb) (eBd (eR_2 (eR_1 h).2) rfl))
theorem ed_getstatic (h : eR A pc (b :: c :: d :: l)) (hb : b.toNat = 178) : decode A pc = .ok (.getstatic (c.toNat * 256 + d.toNat), 3) := eDc (eBd (eOp h hb) (eBd (eR_2 (eR_1 h).2) rfl))
theorem ed_putstatic (h : eR A pc (b :: c :: d :: l)) (hb : b.toNat = 179) : decode A pc = .ok (.putstatic (c.toNat * 256 + d.toNat), 3) := eDc (eBd (eOp h hb) (eBd (eR_2 (eR_1 h).2) rfl))
theorem ed_invokevirtual (h : eR A pc (b :: c :: d :: l)) (hb : b.toNat = 182) : decode A pc = .ok (.invokevirtual (c.toNat * 256 + d.toNat), 3) := eDc (eBd (eOp h hb) (eBd (eR_2 (eR_1 h).2) rfl))
theorem ed_invokespecial (h : eR A pc (b :: c :: d :: l)) (hb : b.toNat = 183) : decode A pc = .ok (.invokespecial (c.toNat * 256 + d.toNat), 3) := eDc (eBd (eOp h hb) (eBd (eR_2 (eR_1 h).2) rfl))
theorem ed_invokestatic (h : eR A pc (b :: c :: d :: l)) (hb : b.toNat = 184) : decode A pc = .ok (.invokestatic (c.toNat * 256 + d.toNat), 3) := eDc (eBd (eOp h hb) (eBd (eR_2 (eR_1 h).2) rfl))
theorem ed_new (h : eR A pc (b :: c :: d :: l)) (hb : b.toNat = 187) : decode A pc = .ok (.new (c.toNat * 256 + d.toNat), 3) := eDc (eBd (eOp h hb) (eBd (eR_2 (eR_1 h).2) rfl))
theorem ed_anewarray (h : eR A pc (b :: c :: d :: l)) (hb : b.toNat = 189) : decode A pc = .ok (.anewarray (c.toNat * 256 + d.toNat), 3) := eDc (eBd (eOp h hb) (eBd (eR_2 (eR_1 h).2) rfl))
theorem ed_ldc_w (h : eR A pc (b :: c :: d :: l)) (hb : b.toNat = 19) : decode A pc = .ok (.ldc_w (c.toNat * 256 + d.toNat), 3) := eDc (eBd (eOp h hb) (eBd (eR_2 (eR_1 h).2) rfl))
theorem ed_ldc2_w (h : eR A pc (b :: c :: d :: l)) (hb : b.toNat = 20) : decode A pc = .ok (.ldc2_w (c.toNat * 256 + d.toNat), 3) := eDc (eBd (eOp h hb) (eBd (eR_2 (eR_1 h).2) rfl))
theorem ed_checkcast (h : eR A pc (b :: c :: d :: l)) (hb : b.toNat = 192) : decode A pc = .ok (.checkcast (c.toNat * 256 + d.toNat), 3) := eDc (eBd (eOp h hb) (eBd (eR_2 (eR_1 h).2) rfl))
theorem ed_bipush (h : eR A pc (b :: c :: l)) (hb : b.toNat = 16) : decode A pc = .ok (.bipush (Jvm.ClassFile.Reader.signed 8 c.toNat), 2) := eDc (eBd (eOp h hb) (eBd (eR_s1 (eR_1 h).2) rfl))
theorem ed_sipush (h : eR A pc (b :: c :: d :: l)) (hb : b.toNat = 17) : decode A pc = .ok (.sipush (Jvm.ClassFile.Reader.signed 16 (c.toNat * 256 + d.toNat)), 3) := eDc (eBd (eOp h hb) (eBd (eR_s2 (eR_1 h).2) rfl))
theorem ed_goto (h : eR A pc (b :: c :: d :: l)) (hb : b.toNat = 167) : decode A pc = .ok (.goto (Jvm.ClassFile.Reader.signed 16 (c.toNat * 256 + d.toNat)), 3) := eDc (eBd (eOp h hb) (eBd (eR_s2 (eR_1 h).2) rfl))
theorem ed_ifnull (h : eR A pc (b :: c :: d :: l)) (hb : b.toNat = 198) : decode A pc = .ok (.ifnull (Jvm.ClassFile.Reader.signed 16 (c.toNat * 256 + d.toNat)), 3) := eDc (eBd (eOp h hb) (eBd (eR_s2 (eR_1 h).2) rfl))
theorem ed_ifnonnull (h : eR A pc (b :: c :: d :: l)) (hb : b.toNat = 199) : decode A pc = .ok (.ifnonnull (Jvm.ClassFile.Reader.signed 16 (c.toNat * 256 + d.toNat)), 3) := eDc (eBd (eOp h hb) (eBd (eR_s2 (eR_1 h).2) rfl))
theorem ed_ifCond_eq (h : eR A pc (b :: c :: d :: l)) (hb : b.toNat = 153) : decode A pc = .ok (.ifCond .eq (Jvm.ClassFile.Reader.signed 16 (c.toNat * 256 + d.toNat)), 3) := eDc (eBd (eOp h hb) (eBd (eR_s2 (eR_1 h).2) rfl))
theorem ed_ifCond_ne (h : eR A pc (b :: c :: d :: l)) (hb : b.toNat = 154) : decode A pc = .ok (.ifCond .ne (Jvm.ClassFile.Reader.signed 16 (c.toNat * 256 + d.toNat)), 3) := eDc (eBd (eOp h hb) (eBd (eR_s2 (eR_1 h).2) rfl))
theorem ed_ifCond_lt (h : eR A pc (b :: c :: d :: l)) (hb : b.toNat = 155) : decode A pc = .ok (.ifCond .lt (Jvm.ClassFile.Reader.signed 16 (c.toNat * 256 + d.toNat)), 3) := eDc (eBd (eOp h hb) (eBd (eR_s2 (eR_1 h).2) rfl))
theorem ed_ifCond_ge (h : eR A pc (b :: c :: d :: l)) (hb : b.toNat = 156) : decode A pc = .ok (.ifCond .ge (Jvm.ClassFile.Reader.signed 16 (c.toNat * 256 + d.toNat)), 3) := eDc (eBd (eOp h hb) (eBd (eR_s2 (eR_1 h).2) rfl))
theorem ed_ifCond_gt (h : eR A pc (b :: c :: d :: l)) (hb : b.toNat = 157) : decode A pc = .ok (.ifCond .gt (Jvm.ClassFile.Reader.signed 16 (c.toNat * 256 + d.toNat)), 3) := eDc (eBd (eOp h hb) (eBd (eR_s2 (eR_1 h).2) rfl))
theorem ed_ifCond_le (h : eR A pc (b :: c :: d :: l)) (hb : b.toNat = 158) : decode A pc = .ok (.ifCond .le (Jvm.ClassFile.Reader.signed 16 (c.toNat * 256 + d.toNat)), 3) := eDc (eBd (eOp h hb) (eBd (eR_s2 (eR_1 h).2) rfl))
theorem ed_if_icmp_eq (h : eR A pc (b :: c :: d :: l)) (hb : b.toNat = 159) : decode A pc = .ok (.if_icmp .eq (Jvm.ClassFile.Reader.signed 16 (c.toNat * 256 + d.toNat)), 3) := eDc (eBd (eOp h hb) (eBd (eR_s2 (eR_1 h).2) rfl))
theorem ed_if_icmp_ne (h : eR A pc (b :: c :: d :: l)) (hb : b.toNat = 160) : decode A pc = .ok (.if_icmp .ne (Jvm.ClassFile.Reader.signed 16 (c.toNat * 256 + d.toNat)), 3) := eDc (eBd (eOp h hb) (eBd (eR_s2 (eR_1 h).2) rfl))
theorem ed_if_icmp_lt (h : eR A pc (b :: c :: d :: l)) (hb : b.toNat = 161) : decode A pc = .ok (.if_icmp .lt (Jvm.ClassFile.Reader.signed 16 (c.toNat * 256 + d.toNat)), 3) := eDc (eBd (eOp h hb) (eBd (eR_s2 (eR_1 h).2) rfl))
theorem ed_if_icmp_ge (h : eR A pc (b :: c :: d :: l)) (hb : b.toNat = 162) : decode A pc = .ok (.if_icmp .ge (Jvm.ClassFile.Reader.signed 16 (c.toNat * 256 + d.toNat)), 3) := eDc (eBd (eOp h hb) (eBd (eR_s2 (eR_1 h).2) rfl))
theorem ed_if_icmp_gt (h : eR A pc (b :: c :: d :: l)) (hb : b.toNat = 163) : decode A pc = .ok (.if_icmp .gt (Jvm.ClassFile.Reader.signed 16 (c.toNat * 256 + d.toNat)), 3) := eDc (eBd (eOp h hb) (eBd (eR_s2 (eR_1 h).2) rfl))
theorem ed_if_icmp_le (h : eR A pc (b :: c :: d :: l)) (hb : b.toNat = 164) : decode A pc = .ok (.if_icmp .le (Jvm.ClassFile.Reader.signed 16 (c.toNat * 256 + d.toNat)), 3) := eDc (eBd (eOp h hb) (eBd (eR_s2 (eR_1 h).2) rfl))
theorem ed_iinc (h : eR A pc (b :: c :: d :: l)) (hb : b.toNat = 132) : decode A pc = .ok (.iinc c.toNat (Jvm.ClassFile.Reader.signed 8 d.toNat), 3) := eDc (eBd (eOp h hb) (eBd (eR_1 (eR_1 h).2).1 (eBd (eR_s1 (eR_1 (eR_1 h).2).2) rfl)))
theorem ed_new_boolean (h : eR A pc (b :: c :: l)) (hb : b.toNat = 188) (hc : c.toNat = 4) : decode A pc = .ok (.newarray .boolean, 2) := eDc (eBd (eOp h hb) (eBd (show (Jvm.ClassFile.Reader.u1 : Jvm.ClassFile.Decoder Nat) A (pc + 1) = .ok (4, pc + 1 + 1) by rw [← hc]; exact (eR_1 (eR_1 h).2).1) rfl))
theorem ed_new_byte (h : eR A pc (b :: c :: l)) (hb : b.toNat = 188) (hc : c.toNat = 8) : decode A pc = .ok (.newarray .byte, 2) := eDc (eBd (eOp h hb) (eBd (show (Jvm.ClassFile.Reader.u1 : Jvm.ClassFile.Decoder Nat) A (pc + 1) = .ok (8, pc + 1 + 1) by rw [← hc]; exact (eR_1 (eR_1 h).2).1) rfl))
theorem ed_new_int (h : eR A pc (b :: c :: l)) (hb : b.toNat = 188) (hc : c.toNat = 10) : decode A pc = .ok (.newarray .int, 2) := eDc (eBd (eOp h hb) (eBd (show (Jvm.ClassFile.Reader.u1 : Jvm.ClassFile.Decoder Nat) A (pc + 1) = .ok (10, pc + 1 + 1) by rw [← hc]; exact (eR_1 (eR_1 h).2).1) rfl))
/-- what eN says -/
noncomputable def eSay (A : ByteArray) (pc : Nat) (ins : Instr) (l : List UInt8) (p : Nat × List UInt8) : Prop := decode A pc = .ok (ins, p.1) ∧ eR A (pc + p.1) p.2
theorem eR_c (h : eR A pc (b :: l)) : eR A (pc + 1) l := (eR_1 h).2
theorem e0_ok {k : Nat} {p : Nat × List UInt8} (row : ∀ {b : UInt8} {l : List UInt8}, eR A pc (b :: l) → b.toNat = k → decode A pc = .ok (ins, 1)) (h : eR A pc l) (hn : e0 k l = some p) : eSay A pc ins l p := by
  unfold e0 at hn
  split at hn
  · rename_i b r
    cases hq : Nat.beq b.toNat k with
    | false => rw [hq] at hn; cases hn
    | true =>
      rw [hq] at hn
      cases hn
      exact ⟨row h (Nat.eq_of_beq_eq_true hq), eR_c h⟩
  · cases hn
theorem eU_ok {k n : Nat} {p : Nat × List UInt8} (row : ∀ {b c : UInt8} {l : List UInt8}, eR A pc (b :: c :: l) → b.toNat = k → c.toNat = n → decode A pc = .ok (ins, 2)) (h : eR A pc l) (hn : eU k n l = some p) : eSay A pc ins l p := by
  unfold eU at hn
  split at hn
  · rename_i b c r
    cases hq : (Nat.beq b.toNat k && Nat.beq c.toNat n) with
    | false => rw [hq] at hn; cases hn
    | true =>
      rw [hq] at hn
      cases hn
      rw [Bool.and_eq_true] at hq
      exact ⟨row h (Nat.eq_of_beq_eq_true hq.1) (Nat.eq_of_beq_eq_true hq.2), eR_c (eR_c h)⟩
  · cases hn
theorem eW2_ok {k n : Nat} {p : Nat × List UInt8} (row : ∀ {b c d : UInt8} {l : List UInt8}, eR A pc (b :: c :: d :: l) → b.toNat = k → c.toNat * 256 + d.toNat = n → decode A pc = .ok (ins, 3)) (h : eR A pc l) (hn : eW2 k n l = some p) : eSay A pc ins l p := by
  unfold eW2 at hn
  split at hn
  · rename_i b c d r
    cases hq : (Nat.beq b.toNat k && Nat.beq (c.toNat * 256 + d.toNat) n) with
    | false => rw [hq] at hn; cases hn
    | true =>
      rw [hq] at hn
      cases hn
      rw [Bool.and_eq_true] at hq
      exact ⟨row h (Nat.eq_of_beq_eq_true hq.1) (Nat.eq_of_beq_eq_true hq.2), eR_c (eR_c (eR_c h))⟩
  · cases hn
theorem eS1_ok {k : Nat} {z : Int} {p : Nat × List UInt8} (row : ∀ {b c : UInt8} {l : List UInt8}, eR A pc (b :: c :: l) → b.toNat = k → Jvm.ClassFile.Reader.signed 8 c.toNat = z → decode A pc = .ok (ins, 2)) (h : eR A pc l) (hn : eS1 k z l = some p) : eSay A pc ins l p := by
  unfold eS1 at hn
  split at hn
  · rename_i b c r
    cases hq : (Nat.beq b.toNat k && decide (Jvm.ClassFile.Reader.signed 8 c.toNat = z)) with
    | false => rw [hq] at hn; cases hn
    | true =>
      rw [hq] at hn
      cases hn
      rw [Bool.and_eq_true] at hq
      exact ⟨row h (Nat.eq_of_beq_eq_true hq.1) (of_decide_eq_true hq.2), eR_c (eR_c h)⟩
  · cases hn
theorem eS2_ok {k : Nat} {z : Int} {p : Nat × List UInt8} (row : ∀ {b c d : UInt8} {l : List UInt8}, eR A pc (b :: c :: d :: l) → b.toNat = k → Jvm.ClassFile.Reader.signed 16 (c.toNat * 256 + d.toNat) = z → decode A pc = .ok (ins, 3)) (h : eR A pc l) (hn : eS2 k z l = some p) : eSay A pc ins l p := by
  unfold eS2 at hn
  split at hn
  · rename_i b c d r
    cases hq : (Nat.beq b.toNat k && decide (Jvm.ClassFile.Reader.signed 16 (c.toNat * 256 + d.toNat) = z)) with
    | false => rw [hq] at hn; cases hn
    | true =>
      rw [hq] at hn
      cases hn
      rw [Bool.and_eq_true] at hq
      exact ⟨row h (Nat.eq_of_beq_eq_true hq.1) (of_decide_eq_true hq.2), eR_c (eR_c (eR_c h))⟩
  · cases hn
theorem eI2_ok {n : Nat} {z : Int} {p : Nat × List UInt8} (h : eR A pc l) (hn : eI2 n z l = some p) : eSay A pc (.iinc n z) l p := by
  unfold eI2 at hn
  split at hn
  · rename_i b c d r
    cases hq : (Nat.beq b.toNat 132 && (Nat.beq c.toNat n && decide (Jvm.ClassFile.Reader.signed 8 d.toNat = z))) with
    | false => rw [hq] at hn; cases hn
    | true =>
      rw [hq] at hn
      cases hn
      rw [Bool.and_eq_true, Bool.and_eq_true] at hq
      have e1 := Nat.eq_of_beq_eq_true hq.2.1
      have e2 := of_decide_eq_true hq.2.2
      have e3 := ed_iinc h (Nat.eq_of_beq_eq_true hq.1)
      rw [e1, e2] at e3
      exact ⟨e3, eR_c (eR_c (eR_c h))⟩
  · cases hn
theorem eN_ok {p : Nat × List UInt8} (h : eR A pc l) (hn : eN ins l = some p) : eSay A pc ins l p := by
  cases ins with
  | aaload => exact e0_ok ed_aaload h hn
  | aastore => exact e0_ok ed_aastore h hn
  | aconst_null => exact e0_ok ed_aconst_null h hn
  | areturn => exact e0_ok ed_areturn h hn
  | arraylength => exact e0_ok ed_arraylength h hn
  | baload => exact e0_ok ed_baload h hn
  | bastore => exact e0_ok ed_bastore h hn
  | dup => exact e0_ok ed_dup h hn
  | dup2 => exact e0_ok ed_dup2 h hn
  | i2b => exact e0_ok ed_i2b h hn
  | i2l => exact e0_ok ed_i2l h hn
  | iadd => exact e0_ok ed_iadd h hn
  | iaload => exact e0_ok ed_iaload h hn
  | iand => exact e0_ok ed_iand h hn
  | iastore => exact e0_ok ed_iastore h hn
  | idiv => exact e0_ok ed_idiv h hn
  | imul => exact e0_ok ed_imul h hn
  | ineg => exact e0_ok ed_ineg h hn
  | ior => exact e0_ok ed_ior h hn
  | irem => exact e0_ok ed_irem h hn
  | ireturn => exact e0_ok ed_ireturn h hn
  | ishl => exact e0_ok ed_ishl h hn
  | ishr => exact e0_ok ed_ishr h hn
  | isub => exact e0_ok ed_isub h hn
  | iushr => exact e0_ok ed_iushr h hn
  | ixor => exact e0_ok ed_ixor h hn
  | l2i => exact e0_ok ed_l2i h hn
  | ladd => exact e0_ok ed_ladd h hn
  | land => exact e0_ok ed_land h hn
  | lcmp => exact e0_ok ed_lcmp h hn
  | ldiv => exact e0_ok ed_ldiv h hn
  | lmul => exact e0_ok ed_lmul h hn
  | lor => exact e0_ok ed_lor h hn
  | lrem => exact e0_ok ed_lrem h hn
  | lreturn => exact e0_ok ed_lreturn h hn
  | lshl => exact e0_ok ed_lshl h hn
  | lsub => exact e0_ok ed_lsub h hn
  | lushr => exact e0_ok ed_lushr h hn
  | lxor => exact e0_ok ed_lxor h hn
  | pop => exact e0_ok ed_pop h hn
  | pop2 => exact e0_ok ed_pop2 h hn
  | return_ => exact e0_ok ed_return_ h hn
  | lneg => exact e0_ok ed_lneg h hn
  | lshr => exact e0_ok ed_lshr h hn
  | i2s => exact e0_ok ed_i2s h hn
  | i2c => exact e0_ok ed_i2c h hn
  | nop => exact e0_ok ed_nop h hn
  | athrow => exact e0_ok ed_athrow h hn
  | iload_n n =>
    match n, hn with
    | 0, hn => exact e0_ok ed_iload_n0 h hn
    | 1, hn => exact e0_ok ed_iload_n1 h hn
    | 2, hn => exact e0_ok ed_iload_n2 h hn
    | 3, hn => exact e0_ok ed_iload_n3 h hn
  | lload_n n =>
    match n, hn with
    | 0, hn => exact e0_ok ed_lload_n0 h hn
    | 1, hn => exact e0_ok ed_lload_n1 h hn
    | 2, hn => exact e0_ok ed_lload_n2 h hn
    | 3, hn => exact e0_ok ed_lload_n3 h hn
  | aload_n n =>
    match n, hn with
    | 0, hn => exact e0_ok ed_aload_n0 h hn
    | 1, hn => exact e0_ok ed_aload_n1 h hn
    | 2, hn => exact e0_ok ed_aload_n2 h hn
    | 3, hn => exact e0_ok ed_aload_n3 h hn
  | istore_n n =>
    match n, hn with
    | 0, hn => exact e0_ok ed_istore_n0 h hn
    | 1, hn => exact e0_ok ed_istore_n1 h hn
    | 2, hn => exact e0_ok ed_istore_n2 h hn
    | 3, hn => exact e0_ok ed_istore_n3 h hn
  | lstore_n n =>
    match n, hn with
    | 0, hn => exact e0_ok ed_lstore_n0 h hn
    | 1, hn => exact e0_ok ed_lstore_n1 h hn
    | 2, hn => exact e0_ok ed_lstore_n2 h hn
    | 3, hn => exact e0_ok ed_lstore_n3 h hn
  | astore_n n =>
    match n, hn with
    | 0, hn => exact e0_ok ed_astore_n0 h hn
    | 1, hn => exact e0_ok ed_astore_n1 h hn
    | 2, hn => exact e0_ok ed_astore_n2 h hn
    | 3, hn => exact e0_ok ed_astore_n3 h hn
  | lconst n =>
    match n, hn with
    | 0, hn => exact e0_ok ed_lconst0 h hn
    | 1, hn => exact e0_ok ed_lconst1 h hn
  | iconst z =>
    have hn : (bif Nat.ble 2 (z + 3).toNat && Nat.ble (z + 3).toNat 8 then e0 (z + 3).toNat l else none) = some p := hn
    cases hq : (Nat.ble 2 (z + 3).toNat && Nat.ble (z + 3).toNat 8) with
    | false => rw [hq] at hn; cases hn
    | true =>
      rw [hq] at hn
      rw [Bool.and_eq_true] at hq
      have q1 := Nat.le_of_ble_eq_true hq.1
      have q2 := Nat.le_of_ble_eq_true hq.2
      have hn : e0 (z + 3).toNat l = some p := hn
      rcases (show z = -1 ∨ z = 0 ∨ z = 1 ∨ z = 2 ∨ z = 3 ∨ z = 4 ∨ z = 5 by omega) with rfl | rfl | rfl | rfl | rfl | rfl | rfl
      · exact e0_ok ed_iconstm1 h hn
      · exact e0_ok ed_iconst0 h hn
      · exact e0_ok ed_iconst1 h hn
      · exact e0_ok ed_iconst2 h hn
      · exact e0_ok ed_iconst3 h hn
      · exact e0_ok ed_iconst4 h hn
      · exact e0_ok ed_iconst5 h hn
  | iload n => exact eU_ok (fun h hb hc => by rw [← hc]; exact ed_iload h hb) h hn
  | lload n => exact eU_ok (fun h hb hc => by rw [← hc]; exact ed_lload h hb) h hn
  | aload n => exact eU_ok (fun h hb hc => by rw [← hc]; exact ed_aload h hb) h hn
  | istore n => exact eU_ok (fun h hb hc => by rw [← hc]; exact ed_istore h hb) h hn
  | lstore n => exact eU_ok (fun h hb hc => by rw [← hc]; exact ed_lstore h hb) h hn
  | astore n => exact eU_ok (fun h hb hc => by rw [← hc]; exact ed_astore h hb) h hn
  | ldc n => exact eU_ok (fun h hb hc => by rw [← hc]; exact ed_ldc h hb) h hn
  | getfield n => exact eW2_ok (fun h hb hc => by rw [← hc]; exact ed_getfield h hb) h hn
  | putfield n => exact eW2_ok (fun h hb hc => by rw [← hc]; exact ed_putfield h hb) h hn
  | getstatic n => exact eW2_ok (fun h hb hc => by rw [← hc]; exact ed_getstatic h hb) h hn
  | putstatic n => exact eW2_ok (fun h hb hc => by rw [← hc]; exact ed_putstatic h hb) h hn
  | invokevirtual n => exact eW2_ok (fun h hb hc => by rw [← hc]; exact ed_invokevirtual h hb) h hn
  | invokespecial n => exact eW2_ok (fun h hb hc => by rw [← hc]; exact ed_invokespecial h hb) h hn
  | invokestatic n => exact eW2_ok (fun h hb hc => by rw [← hc]; exact ed_invokestatic h hb) h hn
  | new n => exact eW2_ok (fun h hb hc => by rw [← hc]; exact ed_new h hb) h hn
  | anewarray n => exact eW2_ok (fun h hb hc => by rw [← hc]; exact ed_anewarray h hb) h hn
  | ldc_w n => exact eW2_ok (fun h hb hc => by rw [← hc]; exact ed_ldc_w h hb) h hn
  | ldc2_w n => exact eW2_ok (fun h hb hc => by rw [← hc]; exact ed_ldc2_w h hb) h hn
  | checkcast n => exact eW2_ok (fun h hb hc => by rw [← hc]; exact ed_checkcast h hb) h hn
  | bipush z => exact eS1_ok (fun h hb hc => by rw [← hc]; exact ed_bipush h hb) h hn
  | sipush z => exact eS2_ok (fun h hb hc => by rw [← hc]; exact ed_sipush h hb) h hn
  | goto z => exact eS2_ok (fun h hb hc => by rw [← hc]; exact ed_goto h hb) h hn
  | ifnull z => exact eS2_ok (fun h hb hc => by rw [← hc]; exact ed_ifnull h hb) h hn
  | ifnonnull z => exact eS2_ok (fun h hb hc => by rw [← hc]; exact ed_ifnonnull h hb) h hn
  | iinc n z => exact eI2_ok h hn
  | ifCond q z =>
    cases q with
    | eq => exact eS2_ok (fun h hb hc => by rw [← hc]; exact ed_ifCond_eq h hb) h hn
    | ne => exact eS2_ok (fun h hb hc => by rw [← hc]; exact ed_ifCond_ne h hb) h hn
    | lt => exact eS2_ok (fun h hb hc => by rw [← hc]; exact ed_ifCond_lt h hb) h hn
    | ge => exact eS2_ok (fun h hb hc => by rw [← hc]; exact ed_ifCond_ge h hb) h hn
    | gt => exact eS2_ok (fun h hb hc => by rw [← hc]; exact ed_ifCond_gt h hb) h hn
    | le => exact eS2_ok (fun h hb hc => by rw [← hc]; exact ed_ifCond_le h hb) h hn
  | if_icmp q z =>
    cases q with
    | eq => exact eS2_ok (fun h hb hc => by rw [← hc]; exact ed_if_icmp_eq h hb) h hn
    | ne => exact eS2_ok (fun h hb hc => by rw [← hc]; exact ed_if_icmp_ne h hb) h hn
    | lt => exact eS2_ok (fun h hb hc => by rw [← hc]; exact ed_if_icmp_lt h hb) h hn
    | ge => exact eS2_ok (fun h hb hc => by rw [← hc]; exact ed_if_icmp_ge h hb) h hn
    | gt => exact eS2_ok (fun h hb hc => by rw [← hc]; exact ed_if_icmp_gt h hb) h hn
    | le => exact eS2_ok (fun h hb hc => by rw [← hc]; exact ed_if_icmp_le h hb) h hn
  | newarray t =>
    cases t with
    | boolean => exact eU_ok (fun h hb hc => ed_new_boolean h hb hc) h hn
    | byte => exact eU_ok (fun h hb hc => ed_new_byte h hb hc) h hn
    | int => exact eU_ok (fun h hb hc => ed_new_int h hb hc) h hn
    | _ => cases hn
  | _ => cases hn
/-- a code, read in one walk over its bytes -/
noncomputable def eWk (A : ByteArray) : List mE → Nat → List UInt8 → Bool
  | [], _, _ => true
  | en :: cs, q, l => Nat.beq en.1 q && ((!mFal en.2.1 || !cs.isEmpty) && (match eN en.2.1 l with
    | some p => Nat.beq p.1 en.2.2.1 && (Nat.beq p.1 (mLen en.2.1) && eWk A cs (en.1 + p.1) p.2)
    | none => mSwi en.2.1 && (decide (decode A en.1 = .ok (en.2.1, en.2.2.1)) && eWk A cs (en.1 + en.2.2.1) (l.drop en.2.2.1))))
theorem mSwi_fal : ∀ {i : Instr}, mSwi i = true → mFal i = false := by
  intro i
  cases i <;> first | (intro _; rfl) | (intro h; cases h)
theorem eWk_ok : ∀ (cs : List mE) (q : Nat) (l : List UInt8), eR A q l → eWk A cs q l = true → (∀ e, cs[0]? = some e → e.1 = q) ∧ ∀ (k : Nat) (en : mE), cs[k]? = some en → decode A en.1 = .ok (en.2.1, en.2.2.1) ∧ (mSwi en.2.1 = true ∨ en.2.2.1 = mLen en.2.1) ∧ (mFal en.2.1 = true → ∃ e2, cs[k + 1]? = some e2 ∧ e2.1 = en.1 + mLen en.2.1) := by
  intro cs
  induction cs with
  | nil => intro q l _ _; exact ⟨fun e h => (by cases h), fun k en h => (by cases h)⟩
  | cons en cs ih =>
    intro q l hr hw
    unfold eWk at hw
    rw [Bool.and_eq_true, Bool.and_eq_true] at hw
    obtain ⟨w1, w2, w3⟩ := hw
    have w1 := Nat.eq_of_beq_eq_true w1
    refine ⟨fun e h => (by cases h; exact w1), ?_⟩
    have key : (decode A en.1 = .ok (en.2.1, en.2.2.1) ∧ (mSwi en.2.1 = true ∨ en.2.2.1 = mLen en.2.1)) ∧ ∃ r, eR A (en.1 + en.2.2.1) r ∧ eWk A cs (en.1 + en.2.2.1) r = true := by
      split at w3
      · rename_i p hp
        rw [Bool.and_eq_true, Bool.and_eq_true] at w3
        have e1 := Nat.eq_of_beq_eq_true w3.1
        have e2 := Nat.eq_of_beq_eq_true w3.2.1
        obtain ⟨s1, s2⟩ := eN_ok hr hp
        rw [← w1] at s1 s2
        rw [e1] at s1 s2
        refine ⟨⟨s1, Or.inr (e1 ▸ e2)⟩, p.2, s2, ?_⟩
        rw [← e1]
        exact w3.2.2
      · rw [Bool.and_eq_true, Bool.and_eq_true] at w3
        refine ⟨⟨of_decide_eq_true w3.2.1, Or.inl w3.1⟩, _, ?_, w3.2.2⟩
        have hr : A.data.toList.drop q = l := hr
        show A.data.toList.drop (en.1 + en.2.2.1) = l.drop en.2.2.1
        rw [← hr, List.drop_drop, w1]
    obtain ⟨⟨k1, k2⟩, r, k3, k4⟩ := key
    obtain ⟨i1, i2⟩ := ih _ r k3 k4
    intro k e h
    match k, h with
    | 0, h =>
      cases h
      refine ⟨k1, k2, fun hf => ?_⟩
      rw [hf] at w2
      cases cs with
      | nil => cases w2
      | cons c2 cs =>
        refine ⟨c2, rfl, ?_⟩
        have e3 := i1 c2 rfl
        rcases k2 with k2 | k2
        · rw [mSwi_fal k2] at hf
          cases hf
        · rw [e3, k2]
    | k + 1, h => exact i2 k e h
end ENC
noncomputable def mErQ (tab : List mM) (own : String) (ini : Bool) (cs : List mE) (i : Nat) (en : mE) : Bool := mJok cs i en && (mLnkF own ini en && (mLnkS own en && (mLnkN own en && (mLnkC tab own en && mLnkK own en))))
theorem mEok_Q {tab : List mM} {own : String} {ini : Bool} {bs : ByteArray} {cs : List mE} (hw : eWk bs cs 0 bs.data.toList = true) {i : Nat} {en : mE} (he : cs[i]? = some en) (h : mErQ tab own ini cs i en = true) : mEok tab own ini bs cs i en = true := by
  obtain ⟨-, h2⟩ := eWk_ok cs 0 _ rfl hw
  obtain ⟨a1, a2, a3⟩ := h2 i en he
  show (decide (decode bs en.1 = .ok (en.2.1, en.2.2.1)) && ((mSwi en.2.1 || decide (en.2.2.1 = mLen en.2.1)) && ((!mFal en.2.1 || decide (mPcAt cs (i + 1) = en.1 + mLen en.2.1)) && mErQ tab own ini cs i en))) = true
  rw [decide_eq_true a1, h, Bool.true_and, Bool.and_true, Bool.and_eq_true, Bool.or_eq_true, Bool.or_eq_true, decide_eq_true_eq, decide_eq_true_eq]
  refine ⟨a2, ?_⟩
  cases hf : mFal en.2.1 with
  | false => exact Or.inl rfl
  | true =>
    obtain ⟨e2, b1, b2⟩ := a3 hf
    refine Or.inr ?_
    unfold mPcAt
    rw [b1]
    exact b2
noncomputable def mCokQ (tab : List mM) (own : String) (ini : Bool) (bs : ByteArray) (cs : List mE) : Bool := eWk bs cs 0 bs.data.toList && cs.zipIdx.all (fun q => mErQ tab own ini cs q.2 q.1)
theorem mCokQ_ok {tab : List mM} {own : String} {ini : Bool} {bs : ByteArray} {cs : List mE} (h : mCokQ tab own ini bs cs = true) : mCok tab own ini bs cs = true := by
  unfold mCokQ at h
  rw [Bool.and_eq_true] at h
  exact List.all_eq_true.mpr (fun q hq => mEok_Q h.1 (List.mem_zipIdx_iff_getElem?.mp hq) (List.all_eq_true.mp h.2 q hq))
noncomputable def mTokQ (tab : List mM) (t : mM) : Bool := mMokF t && (mCokQ tab (mMY t).cls (decide ((mMY t).name = "<init>")) (mMB t) (mMC t) && decide (mPcAt (mMC t) 0 = 0))
theorem mTokQ_ok {tab : List mM} {t : mM} (hp : plainFor (mMY t) = true) (h : mTokQ tab t = true) : mTok tab t = true := by
  unfold mTokQ at h
  rw [Bool.and_eq_true, Bool.and_eq_true] at h
  refine mTokF_ok ?_
  unfold mTokF
  rw [Bool.and_eq_true, Bool.and_eq_true, Bool.and_eq_true]
  exact ⟨h.1, mCokQ_ok h.2.1, hp, h.2.2⟩
end
section
/-! the table is right: each method and each place of its code, by the kernel -/
set_option maxRecDepth 1000000 in
theorem mPl : mTab.all (fun t => plainFor (mMY t)) = true := by decide +kernel
theorem mPl_at {i : Nat} {t : mM} (h : mTab[i]? = some t) : plainFor (mMY t) = true := List.all_eq_true.mp mPl t (List.mem_of_getElem? h)
set_option maxRecDepth 1000000 in
theorem mTg0 : [mMe0, mMe1, mMe2, mMe3, mMe4, mMe5, mMe6, mMe7, mMe8, mMe9, mMe10, mMe11, mMe12, mMe13, mMe14, mMe15, mMe16, mMe17, mMe18, mMe19].all (mTokQ mTab) = true := by decide +kernel
theorem mTk0 : mTok mTab mMe0 = true := mTokQ_ok (mPl_at (i := 0) rfl) (List.all_eq_true.mp mTg0 _ (List.mem_of_getElem? (i := 0) rfl))
theorem mTk1 : mTok mTab mMe1 = true := mTokQ_ok (mPl_at (i := 1) rfl) (List.all_eq_true.mp mTg0 _ (List.mem_of_getElem? (i := 1) rfl))
theorem mTk2 : mTok mTab mMe2 = true := mTokQ_ok (mPl_at (i := 2) rfl) (List.all_eq_true.mp mTg0 _ (List.mem_of_getElem? (i := 2) rfl))
theorem mTk3 : mTok mTab mMe3 = true := mTokQ_ok (mPl_at (i := 3) rfl) (List.all_eq_true.mp mTg0 _ (List.mem_of_getElem? (i := 3) rfl))
theorem mTk4 : mTok mTab mMe4 = true := mTokQ_ok (mPl_at (i := 4) rfl) (List.all_eq_true.mp mTg0 _ (List.mem_of_getElem? (i := 4) rfl))
theorem mTk5 : mTok mTab mMe5 = true := mTokQ_ok (mPl_at (i := 5) rfl) (List.all_eq_true.mp mTg0 _ (List.mem_of_getElem? (i := 5) rfl))
theorem mTk6 : mTok mTab mMe6 = true := mTokQ_ok (mPl_at (i := 6) rfl) (List.all_eq_true.mp mTg0 _ (List.mem_of_getElem? (i := 6) rfl))
theorem mTk7 : mTok mTab mMe7 = true := mTokQ_ok (mPl_at (i := 7) rfl) (List.all_eq_true.mp mTg0 _ (List.mem_of_getElem? (i := 7) rfl))
theorem mTk8 : mTok mTab mMe8 = true := mTokQ_ok (mPl_at (i := 8) rfl) (List.all_eq_true.mp mTg0 _ (List.mem_of_getElem? (i := 8) rfl))
theorem mTk9 : mTok mTab mMe9 = true := mTokQ_ok (mPl_at (i := 9) rfl) (List.all_eq_true.mp mTg0 _ (List.mem_of_getElem? (i := 9) rfl))
theorem mTk10 : mTok mTab mMe10 = true := mTokQ_ok (mPl_at (i := 10) rfl) (List.all_eq_true.mp mTg0 _ (List.mem_of_getElem? (i := 10) rfl))
theorem mTk11 : mTok mTab mMe11 = true := mTokQ_ok (mPl_at (i := 11) rfl) (List.all_eq_true.mp mTg0 _ (List.mem_of_getElem? (i := 11) rfl))
theorem mTk12 : mTok mTab mMe12 = true := mTokQ_ok (mPl_at (i := 12) rfl) (List.all_eq_true.mp mTg0 _ (List.mem_of_getElem? (i := 12) rfl))
theorem mTk13 : mTok mTab mMe13 = true := mTokQ_ok (mPl_at (i := 13) rfl) (List.all_eq_true.mp mTg0 _ (List.mem_of_getElem? (i := 13) rfl))
theorem mTk14 : mTok mTab mMe14 = true := mTokQ_ok (mPl_at (i := 14) rfl) (List.all_eq_true.mp mTg0 _ (List.mem_of_getElem? (i := 14) rfl))
theorem mTk15 : mTok mTab mMe15 = true := mTokQ_ok (mPl_at (i := 15) rfl) (List.all_eq_true.mp mTg0 _ (List.mem_of_getElem? (i := 15) rfl))
theorem mTk16 : mTok mTab mMe16 = true := mTokQ_ok (mPl_at (i := 16) rfl) (List.all_eq_true.mp mTg0 _ (List.mem_of_getElem? (i := 16) rfl))
theorem mTk17 : mTok mTab mMe17 = true := mTokQ_ok (mPl_at (i := 17) rfl) (List.all_eq_true.mp mTg0 _ (List.mem_of_getElem? (i := 17) rfl))
theorem mTk18 : mTok mTab mMe18 = true := mTokQ_ok (mPl_at (i := 18) rfl) (List.all_eq_true.mp mTg0 _ (List.mem_of_getElem? (i := 18) rfl))
theorem mTk19 : mTok mTab mMe19 = true := mTokQ_ok (mPl_at (i := 19) rfl) (List.all_eq_true.mp mTg0 _ (List.mem_of_getElem? (i := 19) rfl))
set_option maxRecDepth 1000000 in
theorem mTg1 : [mMe20, mMe21, mMe22, mMe23, mMe24, mMe25, mMe26, mMe27, mMe28, mMe29, mMe30, mMe31, mMe32, mMe33, mMe34, mMe35, mMe36, mMe37, mMe38, mMe39].all (mTokQ mTab) = true := by decide +kernel
theorem mTk20 : mTok mTab mMe20 = true := mTokQ_ok (mPl_at (i := 20) rfl) (List.all_eq_true.mp mTg1 _ (List.mem_of_getElem? (i := 0) rfl))
theorem mTk21 : mTok mTab mMe21 = true := mTokQ_ok (mPl_at (i := 21) rfl) (List.all_eq_true.mp mTg1 _ (List.mem_of_getElem? (i := 1) rfl))
theorem mTk22 : mTok mTab mMe22 = true := mTokQ_ok (mPl_at (i := 22) rfl) (List.all_eq_true.mp mTg1 _ (List.mem_of_getElem? (i := 2) rfl))
theorem mTk23 : mTok mTab mMe23 = true := mTokQ_ok (mPl_at (i := 23) rfl) (List.all_eq_true.mp mTg1 _ (List.mem_of_getElem? (i := 3) rfl))
theorem mTk24 : mTok mTab mMe24 = true := mTokQ_ok (mPl_at (i := 24) rfl) (List.all_eq_true.mp mTg1 _ (List.mem_of_getElem? (i := 4) rfl))
theorem mTk25 : mTok mTab mMe25 = true := mTokQ_ok (mPl_at (i := 25) rfl) (List.all_eq_true.mp mTg1 _ (List.mem_of_getElem? (i := 5) rfl))
theorem mTk26 : mTok mTab mMe26 = true := mTokQ_ok (mPl_at (i := 26) rfl) (List.all_eq_true.mp mTg1 _ (List.mem_of_getElem? (i := 6) rfl))
theorem mTk27 : mTok mTab mMe27 = true := mTokQ_ok (mPl_at (i := 27) rfl) (List.all_eq_true.mp mTg1 _ (List.mem_of_getElem? (i := 7) rfl))
theorem mTk28 : mTok mTab mMe28 = true := mTokQ_ok (mPl_at (i := 28) rfl) (List.all_eq_true.mp mTg1 _ (List.mem_of_getElem? (i := 8) rfl))
theorem mTk29 : mTok mTab mMe29 = true := mTokQ_ok (mPl_at (i := 29) rfl) (List.all_eq_true.mp mTg1 _ (List.mem_of_getElem? (i := 9) rfl))
theorem mTk30 : mTok mTab mMe30 = true := mTokQ_ok (mPl_at (i := 30) rfl) (List.all_eq_true.mp mTg1 _ (List.mem_of_getElem? (i := 10) rfl))
theorem mTk31 : mTok mTab mMe31 = true := mTokQ_ok (mPl_at (i := 31) rfl) (List.all_eq_true.mp mTg1 _ (List.mem_of_getElem? (i := 11) rfl))
theorem mTk32 : mTok mTab mMe32 = true := mTokQ_ok (mPl_at (i := 32) rfl) (List.all_eq_true.mp mTg1 _ (List.mem_of_getElem? (i := 12) rfl))
theorem mTk33 : mTok mTab mMe33 = true := mTokQ_ok (mPl_at (i := 33) rfl) (List.all_eq_true.mp mTg1 _ (List.mem_of_getElem? (i := 13) rfl))
theorem mTk34 : mTok mTab mMe34 = true := mTokQ_ok (mPl_at (i := 34) rfl) (List.all_eq_true.mp mTg1 _ (List.mem_of_getElem? (i := 14) rfl))
theorem mTk35 : mTok mTab mMe35 = true := mTokQ_ok (mPl_at (i := 35) rfl) (List.all_eq_true.mp mTg1 _ (List.mem_of_getElem? (i := 15) rfl))
theorem mTk36 : mTok mTab mMe36 = true := mTokQ_ok (mPl_at (i := 36) rfl) (List.all_eq_true.mp mTg1 _ (List.mem_of_getElem? (i := 16) rfl))
theorem mTk37 : mTok mTab mMe37 = true := mTokQ_ok (mPl_at (i := 37) rfl) (List.all_eq_true.mp mTg1 _ (List.mem_of_getElem? (i := 17) rfl))
theorem mTk38 : mTok mTab mMe38 = true := mTokQ_ok (mPl_at (i := 38) rfl) (List.all_eq_true.mp mTg1 _ (List.mem_of_getElem? (i := 18) rfl))
theorem mTk39 : mTok mTab mMe39 = true := mTokQ_ok (mPl_at (i := 39) rfl) (List.all_eq_true.mp mTg1 _ (List.mem_of_getElem? (i := 19) rfl))
set_option maxRecDepth 1000000 in
theorem mTg2 : [mMe40, mMe41, mMe42, mMe43, mMe44, mMe45, mMe46, mMe47, mMe48, mMe49, mMe50, mMe51, mMe52, mMe53, mMe54, mMe55, mMe56, mMe57, mMe58, mMe59].all (mTokQ mTab) = true := by decide +kernel
theorem mTk40 : mTok mTab mMe40 = true := mTokQ_ok (mPl_at (i := 40) rfl) (List.all_eq_true.mp mTg2 _ (List.mem_of_getElem? (i := 0) rfl))
theorem mTk41 : mTok mTab mMe41 = true := mTokQ_ok (mPl_at (i := 41) rfl) (List.all_eq_true.mp mTg2 _ (List.mem_of_getElem? (i := 1) rfl))
theorem mTk42 : mTok mTab mMe42 = true := mTokQ_ok (mPl_at (i := 42) rfl) (List.all_eq_true.mp mTg2 _ (List.mem_of_getElem? (i := 2) rfl))
theorem mTk43 : mTok mTab mMe43 = true := mTokQ_ok (mPl_at (i := 43) rfl) (List.all_eq_true.mp mTg2 _ (List.mem_of_getElem? (i := 3) rfl))
theorem mTk44 : mTok mTab mMe44 = true := mTokQ_ok (mPl_at (i := 44) rfl) (List.all_eq_true.mp mTg2 _ (List.mem_of_getElem? (i := 4) rfl))
theorem mTk45 : mTok mTab mMe45 = true := mTokQ_ok (mPl_at (i := 45) rfl) (List.all_eq_true.mp mTg2 _ (List.mem_of_getElem? (i := 5) rfl))
theorem mTk46 : mTok mTab mMe46 = true := mTokQ_ok (mPl_at (i := 46) rfl) (List.all_eq_true.mp mTg2 _ (List.mem_of_getElem? (i := 6) rfl))
theorem mTk47 : mTok mTab mMe47 = true := mTokQ_ok (mPl_at (i := 47) rfl) (List.all_eq_true.mp mTg2 _ (List.mem_of_getElem? (i := 7) rfl))
theorem mTk48 : mTok mTab mMe48 = true := mTokQ_ok (mPl_at (i := 48) rfl) (List.all_eq_true.mp mTg2 _ (List.mem_of_getElem? (i := 8) rfl))
theorem mTk49 : mTok mTab mMe49 = true := mTokQ_ok (mPl_at (i := 49) rfl) (List.all_eq_true.mp mTg2 _ (List.mem_of_getElem? (i := 9) rfl))
theorem mTk50 : mTok mTab mMe50 = true := mTokQ_ok (mPl_at (i := 50) rfl) (List.all_eq_true.mp mTg2 _ (List.mem_of_getElem? (i := 10) rfl))
theorem mTk51 : mTok mTab mMe51 = true := mTokQ_ok (mPl_at (i := 51) rfl) (List.all_eq_true.mp mTg2 _ (List.mem_of_getElem? (i := 11) rfl))
theorem mTk52 : mTok mTab mMe52 = true := mTokQ_ok (mPl_at (i := 52) rfl) (List.all_eq_true.mp mTg2 _ (List.mem_of_getElem? (i := 12) rfl))
theorem mTk53 : mTok mTab mMe53 = true := mTokQ_ok (mPl_at (i := 53) rfl) (List.all_eq_true.mp mTg2 _ (List.mem_of_getElem? (i := 13) rfl))
theorem mTk54 : mTok mTab mMe54 = true := mTokQ_ok (mPl_at (i := 54) rfl) (List.all_eq_true.mp mTg2 _ (List.mem_of_getElem? (i := 14) rfl))
theorem mTk55 : mTok mTab mMe55 = true := mTokQ_ok (mPl_at (i := 55) rfl) (List.all_eq_true.mp mTg2 _ (List.mem_of_getElem? (i := 15) rfl))
theorem mTk56 : mTok mTab mMe56 = true := mTokQ_ok (mPl_at (i := 56) rfl) (List.all_eq_true.mp mTg2 _ (List.mem_of_getElem? (i := 16) rfl))
theorem mTk57 : mTok mTab mMe57 = true := mTokQ_ok (mPl_at (i := 57) rfl) (List.all_eq_true.mp mTg2 _ (List.mem_of_getElem? (i := 17) rfl))
theorem mTk58 : mTok mTab mMe58 = true := mTokQ_ok (mPl_at (i := 58) rfl) (List.all_eq_true.mp mTg2 _ (List.mem_of_getElem? (i := 18) rfl))
theorem mTk59 : mTok mTab mMe59 = true := mTokQ_ok (mPl_at (i := 59) rfl) (List.all_eq_true.mp mTg2 _ (List.mem_of_getElem? (i := 19) rfl))
set_option maxRecDepth 1000000 in
theorem mTg3 : [mMe60, mMe61, mMe62, mMe63, mMe64, mMe65, mMe66, mMe67, mMe68, mMe69, mMe70, mMe71, mMe72, mMe73, mMe74, mMe75, mMe76, mMe77, mMe78, mMe79].all (mTokQ mTab) = true := by decide +kernel
theorem mTk60 : mTok mTab mMe60 = true := mTokQ_ok (mPl_at (i := 60) rfl) (List.all_eq_true.mp mTg3 _ (List.mem_of_getElem? (i := 0) rfl))
theorem mTk61 : mTok mTab mMe61 = true := mTokQ_ok (mPl_at (i := 61) rfl) (List.all_eq_true.mp mTg3 _ (List.mem_of_getElem? (i := 1) rfl))
theorem mTk62 : mTok mTab mMe62 = true := mTokQ_ok (mPl_at (i := 62) rfl) (List.all_eq_true.mp mTg3 _ (List.mem_of_getElem? (i := 2) rfl))
theorem mTk63 : mTok mTab mMe63 = true := mTokQ_ok (mPl_at (i := 63) rfl) (List.all_eq_true.mp mTg3 _ (List.mem_of_getElem? (i := 3) rfl))
theorem mTk64 : mTok mTab mMe64 = true := mTokQ_ok (mPl_at (i := 64) rfl) (List.all_eq_true.mp mTg3 _ (List.mem_of_getElem? (i := 4) rfl))
theorem mTk65 : mTok mTab mMe65 = true := mTokQ_ok (mPl_at (i := 65) rfl) (List.all_eq_true.mp mTg3 _ (List.mem_of_getElem? (i := 5) rfl))
theorem mTk66 : mTok mTab mMe66 = true := mTokQ_ok (mPl_at (i := 66) rfl) (List.all_eq_true.mp mTg3 _ (List.mem_of_getElem? (i := 6) rfl))
theorem mTk67 : mTok mTab mMe67 = true := mTokQ_ok (mPl_at (i := 67) rfl) (List.all_eq_true.mp mTg3 _ (List.mem_of_getElem? (i := 7) rfl))
theorem mTk68 : mTok mTab mMe68 = true := mTokQ_ok (mPl_at (i := 68) rfl) (List.all_eq_true.mp mTg3 _ (List.mem_of_getElem? (i := 8) rfl))
theorem mTk69 : mTok mTab mMe69 = true := mTokQ_ok (mPl_at (i := 69) rfl) (List.all_eq_true.mp mTg3 _ (List.mem_of_getElem? (i := 9) rfl))
theorem mTk70 : mTok mTab mMe70 = true := mTokQ_ok (mPl_at (i := 70) rfl) (List.all_eq_true.mp mTg3 _ (List.mem_of_getElem? (i := 10) rfl))
theorem mTk71 : mTok mTab mMe71 = true := mTokQ_ok (mPl_at (i := 71) rfl) (List.all_eq_true.mp mTg3 _ (List.mem_of_getElem? (i := 11) rfl))
theorem mTk72 : mTok mTab mMe72 = true := mTokQ_ok (mPl_at (i := 72) rfl) (List.all_eq_true.mp mTg3 _ (List.mem_of_getElem? (i := 12) rfl))
theorem mTk73 : mTok mTab mMe73 = true := mTokQ_ok (mPl_at (i := 73) rfl) (List.all_eq_true.mp mTg3 _ (List.mem_of_getElem? (i := 13) rfl))
theorem mTk74 : mTok mTab mMe74 = true := mTokQ_ok (mPl_at (i := 74) rfl) (List.all_eq_true.mp mTg3 _ (List.mem_of_getElem? (i := 14) rfl))
theorem mTk75 : mTok mTab mMe75 = true := mTokQ_ok (mPl_at (i := 75) rfl) (List.all_eq_true.mp mTg3 _ (List.mem_of_getElem? (i := 15) rfl))
theorem mTk76 : mTok mTab mMe76 = true := mTokQ_ok (mPl_at (i := 76) rfl) (List.all_eq_true.mp mTg3 _ (List.mem_of_getElem? (i := 16) rfl))
theorem mTk77 : mTok mTab mMe77 = true := mTokQ_ok (mPl_at (i := 77) rfl) (List.all_eq_true.mp mTg3 _ (List.mem_of_getElem? (i := 17) rfl))
theorem mTk78 : mTok mTab mMe78 = true := mTokQ_ok (mPl_at (i := 78) rfl) (List.all_eq_true.mp mTg3 _ (List.mem_of_getElem? (i := 18) rfl))
theorem mTk79 : mTok mTab mMe79 = true := mTokQ_ok (mPl_at (i := 79) rfl) (List.all_eq_true.mp mTg3 _ (List.mem_of_getElem? (i := 19) rfl))
set_option maxRecDepth 1000000 in
theorem mTg4 : [mMe80, mMe81, mMe82, mMe83, mMe84, mMe85, mMe86, mMe87, mMe88, mMe89, mMe90, mMe91, mMe92, mMe93, mMe94, mMe95, mMe96, mMe97, mMe98, mMe99].all (mTokQ mTab) = true := by decide +kernel
theorem mTk80 : mTok mTab mMe80 = true := mTokQ_ok (mPl_at (i := 80) rfl) (List.all_eq_true.mp mTg4 _ (List.mem_of_getElem? (i := 0) rfl))
theorem mTk81 : mTok mTab mMe81 = true := mTokQ_ok (mPl_at (i := 81) rfl) (List.all_eq_true.mp mTg4 _ (List.mem_of_getElem? (i := 1) rfl))
theorem mTk82 : mTok mTab mMe82 = true := mTokQ_ok (mPl_at (i := 82) rfl) (List.all_eq_true.mp mTg4 _ (List.mem_of_getElem? (i := 2) rfl))
theorem mTk83 : mTok mTab mMe83 = true := mTokQ_ok (mPl_at (i := 83) rfl) (List.all_eq_true.mp mTg4 _ (List.mem_of_getElem? (i := 3) rfl))
theorem mTk84 : mTok mTab mMe84 = true := mTokQ_ok (mPl_at (i := 84) rfl) (List.all_eq_true.mp mTg4 _ (List.mem_of_getElem? (i := 4) rfl))
theorem mTk85 : mTok mTab mMe85 = true := mTokQ_ok (mPl_at (i := 85) rfl) (List.all_eq_true.mp mTg4 _ (List.mem_of_getElem? (i := 5) rfl))
theorem mTk86 : mTok mTab mMe86 = true := mTokQ_ok (mPl_at (i := 86) rfl) (List.all_eq_true.mp mTg4 _ (List.mem_of_getElem? (i := 6) rfl))
theorem mTk87 : mTok mTab mMe87 = true := mTokQ_ok (mPl_at (i := 87) rfl) (List.all_eq_true.mp mTg4 _ (List.mem_of_getElem? (i := 7) rfl))
theorem mTk88 : mTok mTab mMe88 = true := mTokQ_ok (mPl_at (i := 88) rfl) (List.all_eq_true.mp mTg4 _ (List.mem_of_getElem? (i := 8) rfl))
theorem mTk89 : mTok mTab mMe89 = true := mTokQ_ok (mPl_at (i := 89) rfl) (List.all_eq_true.mp mTg4 _ (List.mem_of_getElem? (i := 9) rfl))
theorem mTk90 : mTok mTab mMe90 = true := mTokQ_ok (mPl_at (i := 90) rfl) (List.all_eq_true.mp mTg4 _ (List.mem_of_getElem? (i := 10) rfl))
theorem mTk91 : mTok mTab mMe91 = true := mTokQ_ok (mPl_at (i := 91) rfl) (List.all_eq_true.mp mTg4 _ (List.mem_of_getElem? (i := 11) rfl))
theorem mTk92 : mTok mTab mMe92 = true := mTokQ_ok (mPl_at (i := 92) rfl) (List.all_eq_true.mp mTg4 _ (List.mem_of_getElem? (i := 12) rfl))
theorem mTk93 : mTok mTab mMe93 = true := mTokQ_ok (mPl_at (i := 93) rfl) (List.all_eq_true.mp mTg4 _ (List.mem_of_getElem? (i := 13) rfl))
theorem mTk94 : mTok mTab mMe94 = true := mTokQ_ok (mPl_at (i := 94) rfl) (List.all_eq_true.mp mTg4 _ (List.mem_of_getElem? (i := 14) rfl))
theorem mTk95 : mTok mTab mMe95 = true := mTokQ_ok (mPl_at (i := 95) rfl) (List.all_eq_true.mp mTg4 _ (List.mem_of_getElem? (i := 15) rfl))
theorem mTk96 : mTok mTab mMe96 = true := mTokQ_ok (mPl_at (i := 96) rfl) (List.all_eq_true.mp mTg4 _ (List.mem_of_getElem? (i := 16) rfl))
theorem mTk97 : mTok mTab mMe97 = true := mTokQ_ok (mPl_at (i := 97) rfl) (List.all_eq_true.mp mTg4 _ (List.mem_of_getElem? (i := 17) rfl))
theorem mTk98 : mTok mTab mMe98 = true := mTokQ_ok (mPl_at (i := 98) rfl) (List.all_eq_true.mp mTg4 _ (List.mem_of_getElem? (i := 18) rfl))
theorem mTk99 : mTok mTab mMe99 = true := mTokQ_ok (mPl_at (i := 99) rfl) (List.all_eq_true.mp mTg4 _ (List.mem_of_getElem? (i := 19) rfl))
set_option maxRecDepth 1000000 in
theorem mTg5 : [mMe100, mMe101, mMe102, mMe103, mMe104, mMe105, mMe106, mMe107, mMe108, mMe109, mMe110, mMe111, mMe112, mMe113, mMe114, mMe115, mMe116, mMe117, mMe118, mMe119].all (mTokQ mTab) = true := by decide +kernel
theorem mTk100 : mTok mTab mMe100 = true := mTokQ_ok (mPl_at (i := 100) rfl) (List.all_eq_true.mp mTg5 _ (List.mem_of_getElem? (i := 0) rfl))
theorem mTk101 : mTok mTab mMe101 = true := mTokQ_ok (mPl_at (i := 101) rfl) (List.all_eq_true.mp mTg5 _ (List.mem_of_getElem? (i := 1) rfl))
theorem mTk102 : mTok mTab mMe102 = true := mTokQ_ok (mPl_at (i := 102) rfl) (List.all_eq_true.mp mTg5 _ (List.mem_of_getElem? (i := 2) rfl))
theorem mTk103 : mTok mTab mMe103 = true := mTokQ_ok (mPl_at (i := 103) rfl) (List.all_eq_true.mp mTg5 _ (List.mem_of_getElem? (i := 3) rfl))
theorem mTk104 : mTok mTab mMe104 = true := mTokQ_ok (mPl_at (i := 104) rfl) (List.all_eq_true.mp mTg5 _ (List.mem_of_getElem? (i := 4) rfl))
theorem mTk105 : mTok mTab mMe105 = true := mTokQ_ok (mPl_at (i := 105) rfl) (List.all_eq_true.mp mTg5 _ (List.mem_of_getElem? (i := 5) rfl))
theorem mTk106 : mTok mTab mMe106 = true := mTokQ_ok (mPl_at (i := 106) rfl) (List.all_eq_true.mp mTg5 _ (List.mem_of_getElem? (i := 6) rfl))
theorem mTk107 : mTok mTab mMe107 = true := mTokQ_ok (mPl_at (i := 107) rfl) (List.all_eq_true.mp mTg5 _ (List.mem_of_getElem? (i := 7) rfl))
theorem mTk108 : mTok mTab mMe108 = true := mTokQ_ok (mPl_at (i := 108) rfl) (List.all_eq_true.mp mTg5 _ (List.mem_of_getElem? (i := 8) rfl))
theorem mTk109 : mTok mTab mMe109 = true := mTokQ_ok (mPl_at (i := 109) rfl) (List.all_eq_true.mp mTg5 _ (List.mem_of_getElem? (i := 9) rfl))
theorem mTk110 : mTok mTab mMe110 = true := mTokQ_ok (mPl_at (i := 110) rfl) (List.all_eq_true.mp mTg5 _ (List.mem_of_getElem? (i := 10) rfl))
theorem mTk111 : mTok mTab mMe111 = true := mTokQ_ok (mPl_at (i := 111) rfl) (List.all_eq_true.mp mTg5 _ (List.mem_of_getElem? (i := 11) rfl))
theorem mTk112 : mTok mTab mMe112 = true := mTokQ_ok (mPl_at (i := 112) rfl) (List.all_eq_true.mp mTg5 _ (List.mem_of_getElem? (i := 12) rfl))
theorem mTk113 : mTok mTab mMe113 = true := mTokQ_ok (mPl_at (i := 113) rfl) (List.all_eq_true.mp mTg5 _ (List.mem_of_getElem? (i := 13) rfl))
theorem mTk114 : mTok mTab mMe114 = true := mTokQ_ok (mPl_at (i := 114) rfl) (List.all_eq_true.mp mTg5 _ (List.mem_of_getElem? (i := 14) rfl))
theorem mTk115 : mTok mTab mMe115 = true := mTokQ_ok (mPl_at (i := 115) rfl) (List.all_eq_true.mp mTg5 _ (List.mem_of_getElem? (i := 15) rfl))
theorem mTk116 : mTok mTab mMe116 = true := mTokQ_ok (mPl_at (i := 116) rfl) (List.all_eq_true.mp mTg5 _ (List.mem_of_getElem? (i := 16) rfl))
theorem mTk117 : mTok mTab mMe117 = true := mTokQ_ok (mPl_at (i := 117) rfl) (List.all_eq_true.mp mTg5 _ (List.mem_of_getElem? (i := 17) rfl))
theorem mTk118 : mTok mTab mMe118 = true := mTokQ_ok (mPl_at (i := 118) rfl) (List.all_eq_true.mp mTg5 _ (List.mem_of_getElem? (i := 18) rfl))
theorem mTk119 : mTok mTab mMe119 = true := mTokQ_ok (mPl_at (i := 119) rfl) (List.all_eq_true.mp mTg5 _ (List.mem_of_getElem? (i := 19) rfl))
set_option maxRecDepth 1000000 in
theorem mTg6 : [mMe120, mMe121, mMe122, mMe123, mMe124, mMe125, mMe126, mMe127, mMe128, mMe129, mMe130, mMe131, mMe132, mMe133, mMe134, mMe135, mMe136, mMe137, mMe138, mMe139].all (mTokQ mTab) = true := by decide +kernel
theorem mTk120 : mTok mTab mMe120 = true := mTokQ_ok (mPl_at (i := 120) rfl) (List.all_eq_true.mp mTg6 _ (List.mem_of_getElem? (i := 0) rfl))
theorem mTk121 : mTok mTab mMe121 = true := mTokQ_ok (mPl_at (i := 121) rfl) (List.all_eq_true.mp mTg6 _ (List.mem_of_getElem? (i := 1) rfl))
theorem mTk122 : mTok mTab mMe122 = true := mTokQ_ok (mPl_at (i := 122) rfl) (List.all_eq_true.mp mTg6 _ (List.mem_of_getElem? (i := 2) rfl))
theorem mTk123 : mTok mTab mMe123 = true := mTokQ_ok (mPl_at (i := 123) rfl) (List.all_eq_true.mp mTg6 _ (List.mem_of_getElem? (i := 3) rfl))
theorem mTk124 : mTok mTab mMe124 = true := mTokQ_ok (mPl_at (i := 124) rfl) (List.all_eq_true.mp mTg6 _ (List.mem_of_getElem? (i := 4) rfl))
theorem mTk125 : mTok mTab mMe125 = true := mTokQ_ok (mPl_at (i := 125) rfl) (List.all_eq_true.mp mTg6 _ (List.mem_of_getElem? (i := 5) rfl))
theorem mTk126 : mTok mTab mMe126 = true := mTokQ_ok (mPl_at (i := 126) rfl) (List.all_eq_true.mp mTg6 _ (List.mem_of_getElem? (i := 6) rfl))
theorem mTk127 : mTok mTab mMe127 = true := mTokQ_ok (mPl_at (i := 127) rfl) (List.all_eq_true.mp mTg6 _ (List.mem_of_getElem? (i := 7) rfl))
theorem mTk128 : mTok mTab mMe128 = true := mTokQ_ok (mPl_at (i := 128) rfl) (List.all_eq_true.mp mTg6 _ (List.mem_of_getElem? (i := 8) rfl))
theorem mTk129 : mTok mTab mMe129 = true := mTokQ_ok (mPl_at (i := 129) rfl) (List.all_eq_true.mp mTg6 _ (List.mem_of_getElem? (i := 9) rfl))
theorem mTk130 : mTok mTab mMe130 = true := mTokQ_ok (mPl_at (i := 130) rfl) (List.all_eq_true.mp mTg6 _ (List.mem_of_getElem? (i := 10) rfl))
theorem mTk131 : mTok mTab mMe131 = true := mTokQ_ok (mPl_at (i := 131) rfl) (List.all_eq_true.mp mTg6 _ (List.mem_of_getElem? (i := 11) rfl))
theorem mTk132 : mTok mTab mMe132 = true := mTokQ_ok (mPl_at (i := 132) rfl) (List.all_eq_true.mp mTg6 _ (List.mem_of_getElem? (i := 12) rfl))
theorem mTk133 : mTok mTab mMe133 = true := mTokQ_ok (mPl_at (i := 133) rfl) (List.all_eq_true.mp mTg6 _ (List.mem_of_getElem? (i := 13) rfl))
theorem mTk134 : mTok mTab mMe134 = true := mTokQ_ok (mPl_at (i := 134) rfl) (List.all_eq_true.mp mTg6 _ (List.mem_of_getElem? (i := 14) rfl))
theorem mTk135 : mTok mTab mMe135 = true := mTokQ_ok (mPl_at (i := 135) rfl) (List.all_eq_true.mp mTg6 _ (List.mem_of_getElem? (i := 15) rfl))
theorem mTk136 : mTok mTab mMe136 = true := mTokQ_ok (mPl_at (i := 136) rfl) (List.all_eq_true.mp mTg6 _ (List.mem_of_getElem? (i := 16) rfl))
theorem mTk137 : mTok mTab mMe137 = true := mTokQ_ok (mPl_at (i := 137) rfl) (List.all_eq_true.mp mTg6 _ (List.mem_of_getElem? (i := 17) rfl))
theorem mTk138 : mTok mTab mMe138 = true := mTokQ_ok (mPl_at (i := 138) rfl) (List.all_eq_true.mp mTg6 _ (List.mem_of_getElem? (i := 18) rfl))
theorem mTk139 : mTok mTab mMe139 = true := mTokQ_ok (mPl_at (i := 139) rfl) (List.all_eq_true.mp mTg6 _ (List.mem_of_getElem? (i := 19) rfl))
set_option maxRecDepth 1000000 in
theorem mTg7 : [mMe140, mMe141, mMe142, mMe143, mMe144, mMe145, mMe146, mMe147, mMe148, mMe149, mMe150, mMe151, mMe152, mMe153, mMe154, mMe155, mMe156, mMe157, mMe158, mMe159].all (mTokQ mTab) = true := by decide +kernel
theorem mTk140 : mTok mTab mMe140 = true := mTokQ_ok (mPl_at (i := 140) rfl) (List.all_eq_true.mp mTg7 _ (List.mem_of_getElem? (i := 0) rfl))
theorem mTk141 : mTok mTab mMe141 = true := mTokQ_ok (mPl_at (i := 141) rfl) (List.all_eq_true.mp mTg7 _ (List.mem_of_getElem? (i := 1) rfl))
theorem mTk142 : mTok mTab mMe142 = true := mTokQ_ok (mPl_at (i := 142) rfl) (List.all_eq_true.mp mTg7 _ (List.mem_of_getElem? (i := 2) rfl))
theorem mTk143 : mTok mTab mMe143 = true := mTokQ_ok (mPl_at (i := 143) rfl) (List.all_eq_true.mp mTg7 _ (List.mem_of_getElem? (i := 3) rfl))
theorem mTk144 : mTok mTab mMe144 = true := mTokQ_ok (mPl_at (i := 144) rfl) (List.all_eq_true.mp mTg7 _ (List.mem_of_getElem? (i := 4) rfl))
theorem mTk145 : mTok mTab mMe145 = true := mTokQ_ok (mPl_at (i := 145) rfl) (List.all_eq_true.mp mTg7 _ (List.mem_of_getElem? (i := 5) rfl))
theorem mTk146 : mTok mTab mMe146 = true := mTokQ_ok (mPl_at (i := 146) rfl) (List.all_eq_true.mp mTg7 _ (List.mem_of_getElem? (i := 6) rfl))
theorem mTk147 : mTok mTab mMe147 = true := mTokQ_ok (mPl_at (i := 147) rfl) (List.all_eq_true.mp mTg7 _ (List.mem_of_getElem? (i := 7) rfl))
theorem mTk148 : mTok mTab mMe148 = true := mTokQ_ok (mPl_at (i := 148) rfl) (List.all_eq_true.mp mTg7 _ (List.mem_of_getElem? (i := 8) rfl))
theorem mTk149 : mTok mTab mMe149 = true := mTokQ_ok (mPl_at (i := 149) rfl) (List.all_eq_true.mp mTg7 _ (List.mem_of_getElem? (i := 9) rfl))
theorem mTk150 : mTok mTab mMe150 = true := mTokQ_ok (mPl_at (i := 150) rfl) (List.all_eq_true.mp mTg7 _ (List.mem_of_getElem? (i := 10) rfl))
theorem mTk151 : mTok mTab mMe151 = true := mTokQ_ok (mPl_at (i := 151) rfl) (List.all_eq_true.mp mTg7 _ (List.mem_of_getElem? (i := 11) rfl))
theorem mTk152 : mTok mTab mMe152 = true := mTokQ_ok (mPl_at (i := 152) rfl) (List.all_eq_true.mp mTg7 _ (List.mem_of_getElem? (i := 12) rfl))
theorem mTk153 : mTok mTab mMe153 = true := mTokQ_ok (mPl_at (i := 153) rfl) (List.all_eq_true.mp mTg7 _ (List.mem_of_getElem? (i := 13) rfl))
theorem mTk154 : mTok mTab mMe154 = true := mTokQ_ok (mPl_at (i := 154) rfl) (List.all_eq_true.mp mTg7 _ (List.mem_of_getElem? (i := 14) rfl))
theorem mTk155 : mTok mTab mMe155 = true := mTokQ_ok (mPl_at (i := 155) rfl) (List.all_eq_true.mp mTg7 _ (List.mem_of_getElem? (i := 15) rfl))
theorem mTk156 : mTok mTab mMe156 = true := mTokQ_ok (mPl_at (i := 156) rfl) (List.all_eq_true.mp mTg7 _ (List.mem_of_getElem? (i := 16) rfl))
theorem mTk157 : mTok mTab mMe157 = true := mTokQ_ok (mPl_at (i := 157) rfl) (List.all_eq_true.mp mTg7 _ (List.mem_of_getElem? (i := 17) rfl))
theorem mTk158 : mTok mTab mMe158 = true := mTokQ_ok (mPl_at (i := 158) rfl) (List.all_eq_true.mp mTg7 _ (List.mem_of_getElem? (i := 18) rfl))
theorem mTk159 : mTok mTab mMe159 = true := mTokQ_ok (mPl_at (i := 159) rfl) (List.all_eq_true.mp mTg7 _ (List.mem_of_getElem? (i := 19) rfl))
set_option maxRecDepth 1000000 in
theorem mTg8 : [mMe160, mMe161, mMe162, mMe163, mMe164, mMe165, mMe166, mMe167, mMe168, mMe169, mMe170, mMe171, mMe172, mMe173, mMe174, mMe175, mMe176, mMe177, mMe178, mMe179].all (mTokQ mTab) = true := by decide +kernel
theorem mTk160 : mTok mTab mMe160 = true := mTokQ_ok (mPl_at (i := 160) rfl) (List.all_eq_true.mp mTg8 _ (List.mem_of_getElem? (i := 0) rfl))
theorem mTk161 : mTok mTab mMe161 = true := mTokQ_ok (mPl_at (i := 161) rfl) (List.all_eq_true.mp mTg8 _ (List.mem_of_getElem? (i := 1) rfl))
theorem mTk162 : mTok mTab mMe162 = true := mTokQ_ok (mPl_at (i := 162) rfl) (List.all_eq_true.mp mTg8 _ (List.mem_of_getElem? (i := 2) rfl))
theorem mTk163 : mTok mTab mMe163 = true := mTokQ_ok (mPl_at (i := 163) rfl) (List.all_eq_true.mp mTg8 _ (List.mem_of_getElem? (i := 3) rfl))
theorem mTk164 : mTok mTab mMe164 = true := mTokQ_ok (mPl_at (i := 164) rfl) (List.all_eq_true.mp mTg8 _ (List.mem_of_getElem? (i := 4) rfl))
theorem mTk165 : mTok mTab mMe165 = true := mTokQ_ok (mPl_at (i := 165) rfl) (List.all_eq_true.mp mTg8 _ (List.mem_of_getElem? (i := 5) rfl))
theorem mTk166 : mTok mTab mMe166 = true := mTokQ_ok (mPl_at (i := 166) rfl) (List.all_eq_true.mp mTg8 _ (List.mem_of_getElem? (i := 6) rfl))
theorem mTk167 : mTok mTab mMe167 = true := mTokQ_ok (mPl_at (i := 167) rfl) (List.all_eq_true.mp mTg8 _ (List.mem_of_getElem? (i := 7) rfl))
theorem mTk168 : mTok mTab mMe168 = true := mTokQ_ok (mPl_at (i := 168) rfl) (List.all_eq_true.mp mTg8 _ (List.mem_of_getElem? (i := 8) rfl))
theorem mTk169 : mTok mTab mMe169 = true := mTokQ_ok (mPl_at (i := 169) rfl) (List.all_eq_true.mp mTg8 _ (List.mem_of_getElem? (i := 9) rfl))
theorem mTk170 : mTok mTab mMe170 = true := mTokQ_ok (mPl_at (i := 170) rfl) (List.all_eq_true.mp mTg8 _ (List.mem_of_getElem? (i := 10) rfl))
theorem mTk171 : mTok mTab mMe171 = true := mTokQ_ok (mPl_at (i := 171) rfl) (List.all_eq_true.mp mTg8 _ (List.mem_of_getElem? (i := 11) rfl))
theorem mTk172 : mTok mTab mMe172 = true := mTokQ_ok (mPl_at (i := 172) rfl) (List.all_eq_true.mp mTg8 _ (List.mem_of_getElem? (i := 12) rfl))
theorem mTk173 : mTok mTab mMe173 = true := mTokQ_ok (mPl_at (i := 173) rfl) (List.all_eq_true.mp mTg8 _ (List.mem_of_getElem? (i := 13) rfl))
theorem mTk174 : mTok mTab mMe174 = true := mTokQ_ok (mPl_at (i := 174) rfl) (List.all_eq_true.mp mTg8 _ (List.mem_of_getElem? (i := 14) rfl))
theorem mTk175 : mTok mTab mMe175 = true := mTokQ_ok (mPl_at (i := 175) rfl) (List.all_eq_true.mp mTg8 _ (List.mem_of_getElem? (i := 15) rfl))
theorem mTk176 : mTok mTab mMe176 = true := mTokQ_ok (mPl_at (i := 176) rfl) (List.all_eq_true.mp mTg8 _ (List.mem_of_getElem? (i := 16) rfl))
theorem mTk177 : mTok mTab mMe177 = true := mTokQ_ok (mPl_at (i := 177) rfl) (List.all_eq_true.mp mTg8 _ (List.mem_of_getElem? (i := 17) rfl))
theorem mTk178 : mTok mTab mMe178 = true := mTokQ_ok (mPl_at (i := 178) rfl) (List.all_eq_true.mp mTg8 _ (List.mem_of_getElem? (i := 18) rfl))
theorem mTk179 : mTok mTab mMe179 = true := mTokQ_ok (mPl_at (i := 179) rfl) (List.all_eq_true.mp mTg8 _ (List.mem_of_getElem? (i := 19) rfl))
set_option maxRecDepth 1000000 in
theorem mTg9 : [mMe180, mMe181, mMe182, mMe183, mMe184, mMe185, mMe186, mMe187, mMe188, mMe189, mMe190, mMe191, mMe192, mMe193, mMe194, mMe195, mMe196, mMe197, mMe198, mMe199].all (mTokQ mTab) = true := by decide +kernel
theorem mTk180 : mTok mTab mMe180 = true := mTokQ_ok (mPl_at (i := 180) rfl) (List.all_eq_true.mp mTg9 _ (List.mem_of_getElem? (i := 0) rfl))
theorem mTk181 : mTok mTab mMe181 = true := mTokQ_ok (mPl_at (i := 181) rfl) (List.all_eq_true.mp mTg9 _ (List.mem_of_getElem? (i := 1) rfl))
theorem mTk182 : mTok mTab mMe182 = true := mTokQ_ok (mPl_at (i := 182) rfl) (List.all_eq_true.mp mTg9 _ (List.mem_of_getElem? (i := 2) rfl))
theorem mTk183 : mTok mTab mMe183 = true := mTokQ_ok (mPl_at (i := 183) rfl) (List.all_eq_true.mp mTg9 _ (List.mem_of_getElem? (i := 3) rfl))
theorem mTk184 : mTok mTab mMe184 = true := mTokQ_ok (mPl_at (i := 184) rfl) (List.all_eq_true.mp mTg9 _ (List.mem_of_getElem? (i := 4) rfl))
theorem mTk185 : mTok mTab mMe185 = true := mTokQ_ok (mPl_at (i := 185) rfl) (List.all_eq_true.mp mTg9 _ (List.mem_of_getElem? (i := 5) rfl))
theorem mTk186 : mTok mTab mMe186 = true := mTokQ_ok (mPl_at (i := 186) rfl) (List.all_eq_true.mp mTg9 _ (List.mem_of_getElem? (i := 6) rfl))
theorem mTk187 : mTok mTab mMe187 = true := mTokQ_ok (mPl_at (i := 187) rfl) (List.all_eq_true.mp mTg9 _ (List.mem_of_getElem? (i := 7) rfl))
theorem mTk188 : mTok mTab mMe188 = true := mTokQ_ok (mPl_at (i := 188) rfl) (List.all_eq_true.mp mTg9 _ (List.mem_of_getElem? (i := 8) rfl))
theorem mTk189 : mTok mTab mMe189 = true := mTokQ_ok (mPl_at (i := 189) rfl) (List.all_eq_true.mp mTg9 _ (List.mem_of_getElem? (i := 9) rfl))
theorem mTk190 : mTok mTab mMe190 = true := mTokQ_ok (mPl_at (i := 190) rfl) (List.all_eq_true.mp mTg9 _ (List.mem_of_getElem? (i := 10) rfl))
theorem mTk191 : mTok mTab mMe191 = true := mTokQ_ok (mPl_at (i := 191) rfl) (List.all_eq_true.mp mTg9 _ (List.mem_of_getElem? (i := 11) rfl))
theorem mTk192 : mTok mTab mMe192 = true := mTokQ_ok (mPl_at (i := 192) rfl) (List.all_eq_true.mp mTg9 _ (List.mem_of_getElem? (i := 12) rfl))
theorem mTk193 : mTok mTab mMe193 = true := mTokQ_ok (mPl_at (i := 193) rfl) (List.all_eq_true.mp mTg9 _ (List.mem_of_getElem? (i := 13) rfl))
theorem mTk194 : mTok mTab mMe194 = true := mTokQ_ok (mPl_at (i := 194) rfl) (List.all_eq_true.mp mTg9 _ (List.mem_of_getElem? (i := 14) rfl))
theorem mTk195 : mTok mTab mMe195 = true := mTokQ_ok (mPl_at (i := 195) rfl) (List.all_eq_true.mp mTg9 _ (List.mem_of_getElem? (i := 15) rfl))
theorem mTk196 : mTok mTab mMe196 = true := mTokQ_ok (mPl_at (i := 196) rfl) (List.all_eq_true.mp mTg9 _ (List.mem_of_getElem? (i := 16) rfl))
theorem mTk197 : mTok mTab mMe197 = true := mTokQ_ok (mPl_at (i := 197) rfl) (List.all_eq_true.mp mTg9 _ (List.mem_of_getElem? (i := 17) rfl))
theorem mTk198 : mTok mTab mMe198 = true := mTokQ_ok (mPl_at (i := 198) rfl) (List.all_eq_true.mp mTg9 _ (List.mem_of_getElem? (i := 18) rfl))
theorem mTk199 : mTok mTab mMe199 = true := mTokQ_ok (mPl_at (i := 199) rfl) (List.all_eq_true.mp mTg9 _ (List.mem_of_getElem? (i := 19) rfl))
set_option maxRecDepth 1000000 in
theorem mTg10 : [mMe200, mMe201, mMe202, mMe203, mMe204, mMe205, mMe206, mMe207, mMe208, mMe209, mMe210, mMe211, mMe212, mMe213, mMe214, mMe215, mMe216, mMe217, mMe218, mMe219].all (mTokQ mTab) = true := by decide +kernel
theorem mTk200 : mTok mTab mMe200 = true := mTokQ_ok (mPl_at (i := 200) rfl) (List.all_eq_true.mp mTg10 _ (List.mem_of_getElem? (i := 0) rfl))
theorem mTk201 : mTok mTab mMe201 = true := mTokQ_ok (mPl_at (i := 201) rfl) (List.all_eq_true.mp mTg10 _ (List.mem_of_getElem? (i := 1) rfl))
theorem mTk202 : mTok mTab mMe202 = true := mTokQ_ok (mPl_at (i := 202) rfl) (List.all_eq_true.mp mTg10 _ (List.mem_of_getElem? (i := 2) rfl))
theorem mTk203 : mTok mTab mMe203 = true := mTokQ_ok (mPl_at (i := 203) rfl) (List.all_eq_true.mp mTg10 _ (List.mem_of_getElem? (i := 3) rfl))
theorem mTk204 : mTok mTab mMe204 = true := mTokQ_ok (mPl_at (i := 204) rfl) (List.all_eq_true.mp mTg10 _ (List.mem_of_getElem? (i := 4) rfl))
theorem mTk205 : mTok mTab mMe205 = true := mTokQ_ok (mPl_at (i := 205) rfl) (List.all_eq_true.mp mTg10 _ (List.mem_of_getElem? (i := 5) rfl))
theorem mTk206 : mTok mTab mMe206 = true := mTokQ_ok (mPl_at (i := 206) rfl) (List.all_eq_true.mp mTg10 _ (List.mem_of_getElem? (i := 6) rfl))
theorem mTk207 : mTok mTab mMe207 = true := mTokQ_ok (mPl_at (i := 207) rfl) (List.all_eq_true.mp mTg10 _ (List.mem_of_getElem? (i := 7) rfl))
theorem mTk208 : mTok mTab mMe208 = true := mTokQ_ok (mPl_at (i := 208) rfl) (List.all_eq_true.mp mTg10 _ (List.mem_of_getElem? (i := 8) rfl))
theorem mTk209 : mTok mTab mMe209 = true := mTokQ_ok (mPl_at (i := 209) rfl) (List.all_eq_true.mp mTg10 _ (List.mem_of_getElem? (i := 9) rfl))
theorem mTk210 : mTok mTab mMe210 = true := mTokQ_ok (mPl_at (i := 210) rfl) (List.all_eq_true.mp mTg10 _ (List.mem_of_getElem? (i := 10) rfl))
theorem mTk211 : mTok mTab mMe211 = true := mTokQ_ok (mPl_at (i := 211) rfl) (List.all_eq_true.mp mTg10 _ (List.mem_of_getElem? (i := 11) rfl))
theorem mTk212 : mTok mTab mMe212 = true := mTokQ_ok (mPl_at (i := 212) rfl) (List.all_eq_true.mp mTg10 _ (List.mem_of_getElem? (i := 12) rfl))
theorem mTk213 : mTok mTab mMe213 = true := mTokQ_ok (mPl_at (i := 213) rfl) (List.all_eq_true.mp mTg10 _ (List.mem_of_getElem? (i := 13) rfl))
theorem mTk214 : mTok mTab mMe214 = true := mTokQ_ok (mPl_at (i := 214) rfl) (List.all_eq_true.mp mTg10 _ (List.mem_of_getElem? (i := 14) rfl))
theorem mTk215 : mTok mTab mMe215 = true := mTokQ_ok (mPl_at (i := 215) rfl) (List.all_eq_true.mp mTg10 _ (List.mem_of_getElem? (i := 15) rfl))
theorem mTk216 : mTok mTab mMe216 = true := mTokQ_ok (mPl_at (i := 216) rfl) (List.all_eq_true.mp mTg10 _ (List.mem_of_getElem? (i := 16) rfl))
theorem mTk217 : mTok mTab mMe217 = true := mTokQ_ok (mPl_at (i := 217) rfl) (List.all_eq_true.mp mTg10 _ (List.mem_of_getElem? (i := 17) rfl))
theorem mTk218 : mTok mTab mMe218 = true := mTokQ_ok (mPl_at (i := 218) rfl) (List.all_eq_true.mp mTg10 _ (List.mem_of_getElem? (i := 18) rfl))
theorem mTk219 : mTok mTab mMe219 = true := mTokQ_ok (mPl_at (i := 219) rfl) (List.all_eq_true.mp mTg10 _ (List.mem_of_getElem? (i := 19) rfl))
set_option maxRecDepth 1000000 in
theorem mTg11 : [mMe220].all (mTokQ mTab) = true := by decide +kernel
theorem mTk220 : mTok mTab mMe220 = true := mTokQ_ok (mPl_at (i := 220) rfl) (List.all_eq_true.mp mTg11 _ (List.mem_of_getElem? (i := 0) rfl))
end
section
/-! the table is right, put together; the law's own code -/
set_option maxRecDepth 1000000 in
theorem mTab_all : ∀ t ∈ mTab, mTok mTab t = true := by
  unfold mTab
  exact List.forall_mem_cons.mpr ⟨mTk0, List.forall_mem_cons.mpr ⟨mTk1, List.forall_mem_cons.mpr ⟨mTk2, List.forall_mem_cons.mpr ⟨mTk3, List.forall_mem_cons.mpr ⟨mTk4, List.forall_mem_cons.mpr ⟨mTk5, List.forall_mem_cons.mpr ⟨mTk6, List.forall_mem_cons.mpr ⟨mTk7, List.forall_mem_cons.mpr ⟨mTk8, List.forall_mem_cons.mpr ⟨mTk9, List.forall_mem_cons.mpr ⟨mTk10, List.forall_mem_cons.mpr ⟨mTk11, List.forall_mem_cons.mpr ⟨mTk12, List.forall_mem_cons.mpr ⟨mTk13, List.forall_mem_cons.mpr ⟨mTk14, List.forall_mem_cons.mpr ⟨mTk15, List.forall_mem_cons.mpr ⟨mTk16, List.forall_mem_cons.mpr ⟨mTk17, List.forall_mem_cons.mpr ⟨mTk18, List.forall_mem_cons.mpr ⟨mTk19, List.forall_mem_cons.mpr ⟨mTk20, List.forall_mem_cons.mpr ⟨mTk21, List.forall_mem_cons.mpr ⟨mTk22, List.forall_mem_cons.mpr ⟨mTk23, List.forall_mem_cons.mpr ⟨mTk24, List.forall_mem_cons.mpr ⟨mTk25, List.forall_mem_cons.mpr ⟨mTk26, List.forall_mem_cons.mpr ⟨mTk27, List.forall_mem_cons.mpr ⟨mTk28, List.forall_mem_cons.mpr ⟨mTk29, List.forall_mem_cons.mpr ⟨mTk30, List.forall_mem_cons.mpr ⟨mTk31, List.forall_mem_cons.mpr ⟨mTk32, List.forall_mem_cons.mpr ⟨mTk33, List.forall_mem_cons.mpr ⟨mTk34, List.forall_mem_cons.mpr ⟨mTk35, List.forall_mem_cons.mpr ⟨mTk36, List.forall_mem_cons.mpr ⟨mTk37, List.forall_mem_cons.mpr ⟨mTk38, List.forall_mem_cons.mpr ⟨mTk39, List.forall_mem_cons.mpr ⟨mTk40, List.forall_mem_cons.mpr ⟨mTk41, List.forall_mem_cons.mpr ⟨mTk42, List.forall_mem_cons.mpr ⟨mTk43, List.forall_mem_cons.mpr ⟨mTk44, List.forall_mem_cons.mpr ⟨mTk45, List.forall_mem_cons.mpr ⟨mTk46, List.forall_mem_cons.mpr ⟨mTk47, List.forall_mem_cons.mpr ⟨mTk48, List.forall_mem_cons.mpr ⟨mTk49, List.forall_mem_cons.mpr ⟨mTk50, List.forall_mem_cons.mpr ⟨mTk51, List.forall_mem_cons.mpr ⟨mTk52, List.forall_mem_cons.mpr ⟨mTk53, List.forall_mem_cons.mpr ⟨mTk54, List.forall_mem_cons.mpr ⟨mTk55, List.forall_mem_cons.mpr ⟨mTk56, List.forall_mem_cons.mpr ⟨mTk57, List.forall_mem_cons.mpr ⟨mTk58, List.forall_mem_cons.mpr ⟨mTk59, List.forall_mem_cons.mpr ⟨mTk60, List.forall_mem_cons.mpr ⟨mTk61, List.forall_mem_cons.mpr ⟨mTk62, List.forall_mem_cons.mpr ⟨mTk63, List.forall_mem_cons.mpr ⟨mTk64, List.forall_mem_cons.mpr ⟨mTk65, List.forall_mem_cons.mpr ⟨mTk66, List.forall_mem_cons.mpr ⟨mTk67, List.forall_mem_cons.mpr ⟨mTk68, List.forall_mem_cons.mpr ⟨mTk69, List.forall_mem_cons.mpr ⟨mTk70, List.forall_mem_cons.mpr ⟨mTk71, List.forall_mem_cons.mpr ⟨mTk72, List.forall_mem_cons.mpr ⟨mTk73, List.forall_mem_cons.mpr ⟨mTk74, List.forall_mem_cons.mpr ⟨mTk75, List.forall_mem_cons.mpr ⟨mTk76, List.forall_mem_cons.mpr ⟨mTk77, List.forall_mem_cons.mpr ⟨mTk78, List.forall_mem_cons.mpr ⟨mTk79, List.forall_mem_cons.mpr ⟨mTk80, List.forall_mem_cons.mpr ⟨mTk81, List.forall_mem_cons.mpr ⟨mTk82, List.forall_mem_cons.mpr ⟨mTk83, List.forall_mem_cons.mpr ⟨mTk84, List.forall_mem_cons.mpr ⟨mTk85, List.forall_mem_cons.mpr ⟨mTk86, List.forall_mem_cons.mpr ⟨mTk87, List.forall_mem_cons.mpr ⟨mTk88, List.forall_mem_cons.mpr ⟨mTk89, List.forall_mem_cons.mpr ⟨mTk90, List.forall_mem_cons.mpr ⟨mTk91, List.forall_mem_cons.mpr ⟨mTk92, List.forall_mem_cons.mpr ⟨mTk93, List.forall_mem_cons.mpr ⟨mTk94, List.forall_mem_cons.mpr ⟨mTk95, List.forall_mem_cons.mpr ⟨mTk96, List.forall_mem_cons.mpr ⟨mTk97, List.forall_mem_cons.mpr ⟨mTk98, List.forall_mem_cons.mpr ⟨mTk99, List.forall_mem_cons.mpr ⟨mTk100, List.forall_mem_cons.mpr ⟨mTk101, List.forall_mem_cons.mpr ⟨mTk102, List.forall_mem_cons.mpr ⟨mTk103, List.forall_mem_cons.mpr ⟨mTk104, List.forall_mem_cons.mpr ⟨mTk105, List.forall_mem_cons.mpr ⟨mTk106, List.forall_mem_cons.mpr ⟨mTk107, List.forall_mem_cons.mpr ⟨mTk108, List.forall_mem_cons.mpr ⟨mTk109, List.forall_mem_cons.mpr ⟨mTk110, List.forall_mem_cons.mpr ⟨mTk111, List.forall_mem_cons.mpr ⟨mTk112, List.forall_mem_cons.mpr ⟨mTk113, List.forall_mem_cons.mpr ⟨mTk114, List.forall_mem_cons.mpr ⟨mTk115, List.forall_mem_cons.mpr ⟨mTk116, List.forall_mem_cons.mpr ⟨mTk117, List.forall_mem_cons.mpr ⟨mTk118, List.forall_mem_cons.mpr ⟨mTk119, List.forall_mem_cons.mpr ⟨mTk120, List.forall_mem_cons.mpr ⟨mTk121, List.forall_mem_cons.mpr ⟨mTk122, List.forall_mem_cons.mpr ⟨mTk123, List.forall_mem_cons.mpr ⟨mTk124, List.forall_mem_cons.mpr ⟨mTk125, List.forall_mem_cons.mpr ⟨mTk126, List.forall_mem_cons.mpr ⟨mTk127, List.forall_mem_cons.mpr ⟨mTk128, List.forall_mem_cons.mpr ⟨mTk129, List.forall_mem_cons.mpr ⟨mTk130, List.forall_mem_cons.mpr ⟨mTk131, List.forall_mem_cons.mpr ⟨mTk132, List.forall_mem_cons.mpr ⟨mTk133, List.forall_mem_cons.mpr ⟨mTk134, List.forall_mem_cons.mpr ⟨mTk135, List.forall_mem_cons.mpr ⟨mTk136, List.forall_mem_cons.mpr ⟨mTk137, List.forall_mem_cons.mpr ⟨mTk138, List.forall_mem_cons.mpr ⟨mTk139, List.forall_mem_cons.mpr ⟨mTk140, List.forall_mem_cons.mpr ⟨mTk141, List.forall_mem_cons.mpr ⟨mTk142, List.forall_mem_cons.mpr ⟨mTk143, List.forall_mem_cons.mpr ⟨mTk144, List.forall_mem_cons.mpr ⟨mTk145, List.forall_mem_cons.mpr ⟨mTk146, List.forall_mem_cons.mpr ⟨mTk147, List.forall_mem_cons.mpr ⟨mTk148, List.forall_mem_cons.mpr ⟨mTk149, List.forall_mem_cons.mpr ⟨mTk150, List.forall_mem_cons.mpr ⟨mTk151, List.forall_mem_cons.mpr ⟨mTk152, List.forall_mem_cons.mpr ⟨mTk153, List.forall_mem_cons.mpr ⟨mTk154, List.forall_mem_cons.mpr ⟨mTk155, List.forall_mem_cons.mpr ⟨mTk156, List.forall_mem_cons.mpr ⟨mTk157, List.forall_mem_cons.mpr ⟨mTk158, List.forall_mem_cons.mpr ⟨mTk159, List.forall_mem_cons.mpr ⟨mTk160, List.forall_mem_cons.mpr ⟨mTk161, List.forall_mem_cons.mpr ⟨mTk162, List.forall_mem_cons.mpr ⟨mTk163, List.forall_mem_cons.mpr ⟨mTk164, List.forall_mem_cons.mpr ⟨mTk165, List.forall_mem_cons.mpr ⟨mTk166, List.forall_mem_cons.mpr ⟨mTk167, List.forall_mem_cons.mpr ⟨mTk168, List.forall_mem_cons.mpr ⟨mTk169, List.forall_mem_cons.mpr ⟨mTk170, List.forall_mem_cons.mpr ⟨mTk171, List.forall_mem_cons.mpr ⟨mTk172, List.forall_mem_cons.mpr ⟨mTk173, List.forall_mem_cons.mpr ⟨mTk174, List.forall_mem_cons.mpr ⟨mTk175, List.forall_mem_cons.mpr ⟨mTk176, List.forall_mem_cons.mpr ⟨mTk177, List.forall_mem_cons.mpr ⟨mTk178, List.forall_mem_cons.mpr ⟨mTk179, List.forall_mem_cons.mpr ⟨mTk180, List.forall_mem_cons.mpr ⟨mTk181, List.forall_mem_cons.mpr ⟨mTk182, List.forall_mem_cons.mpr ⟨mTk183, List.forall_mem_cons.mpr ⟨mTk184, List.forall_mem_cons.mpr ⟨mTk185, List.forall_mem_cons.mpr ⟨mTk186, List.forall_mem_cons.mpr ⟨mTk187, List.forall_mem_cons.mpr ⟨mTk188, List.forall_mem_cons.mpr ⟨mTk189, List.forall_mem_cons.mpr ⟨mTk190, List.forall_mem_cons.mpr ⟨mTk191, List.forall_mem_cons.mpr ⟨mTk192, List.forall_mem_cons.mpr ⟨mTk193, List.forall_mem_cons.mpr ⟨mTk194, List.forall_mem_cons.mpr ⟨mTk195, List.forall_mem_cons.mpr ⟨mTk196, List.forall_mem_cons.mpr ⟨mTk197, List.forall_mem_cons.mpr ⟨mTk198, List.forall_mem_cons.mpr ⟨mTk199, List.forall_mem_cons.mpr ⟨mTk200, List.forall_mem_cons.mpr ⟨mTk201, List.forall_mem_cons.mpr ⟨mTk202, List.forall_mem_cons.mpr ⟨mTk203, List.forall_mem_cons.mpr ⟨mTk204, List.forall_mem_cons.mpr ⟨mTk205, List.forall_mem_cons.mpr ⟨mTk206, List.forall_mem_cons.mpr ⟨mTk207, List.forall_mem_cons.mpr ⟨mTk208, List.forall_mem_cons.mpr ⟨mTk209, List.forall_mem_cons.mpr ⟨mTk210, List.forall_mem_cons.mpr ⟨mTk211, List.forall_mem_cons.mpr ⟨mTk212, List.forall_mem_cons.mpr ⟨mTk213, List.forall_mem_cons.mpr ⟨mTk214, List.forall_mem_cons.mpr ⟨mTk215, List.forall_mem_cons.mpr ⟨mTk216, List.forall_mem_cons.mpr ⟨mTk217, List.forall_mem_cons.mpr ⟨mTk218, List.forall_mem_cons.mpr ⟨mTk219, List.forall_mem_cons.mpr ⟨mTk220, fun _ h => absurd h List.not_mem_nil⟩⟩⟩⟩⟩⟩⟩⟩⟩⟩⟩⟩⟩⟩⟩⟩⟩⟩⟩⟩⟩⟩⟩⟩⟩⟩⟩⟩⟩⟩⟩⟩⟩⟩⟩⟩⟩⟩⟩⟩⟩⟩⟩⟩⟩⟩⟩⟩⟩⟩⟩⟩⟩⟩⟩⟩⟩⟩⟩⟩⟩⟩⟩⟩⟩⟩⟩⟩⟩⟩⟩⟩⟩⟩⟩⟩⟩⟩⟩⟩⟩⟩⟩⟩⟩⟩⟩⟩⟩⟩⟩⟩⟩⟩⟩⟩⟩⟩⟩⟩⟩⟩⟩⟩⟩⟩⟩⟩⟩⟩⟩⟩⟩⟩⟩⟩⟩⟩⟩⟩⟩⟩⟩⟩⟩⟩⟩⟩⟩⟩⟩⟩⟩⟩⟩⟩⟩⟩⟩⟩⟩⟩⟩⟩⟩⟩⟩⟩⟩⟩⟩⟩⟩⟩⟩⟩⟩⟩⟩⟩⟩⟩⟩⟩⟩⟩⟩⟩⟩⟩⟩⟩⟩⟩⟩⟩⟩⟩⟩⟩⟩⟩⟩⟩⟩⟩⟩⟩⟩⟩⟩⟩⟩⟩⟩⟩⟩⟩⟩⟩⟩⟩⟩⟩⟩⟩⟩⟩⟩⟩⟩⟩⟩⟩⟩⟩⟩⟩⟩⟩⟩
theorem mTab_ok : ∀ (k : Nat) (t : mM), mTab[k]? = some t → mTok mTab t = true := fun k t h => mTab_all t (List.mem_of_getElem? h)
noncomputable def mCokR (tab : List mM) (own : String) (ini : Bool) (bs : ByteArray) (cs : List mE) (lo n : Nat) : Bool := ((cs.zipIdx.drop lo).take n).all (fun q => mEok tab own ini bs cs q.2 q.1)
theorem mCok_of {tab : List mM} {own : String} {ini : Bool} {bs : ByteArray} {cs : List mE} (K : Nat) (hK : 0 < K) (h : ∀ j, j * K < cs.length → mCokR tab own ini bs cs (j * K) K = true) : mCok tab own ini bs cs = true := by
  unfold mCok
  rw [List.all_eq_true]
  rintro ⟨en, i⟩ hq
  have hi := List.mem_zipIdx_iff_getElem?.mp hq
  have hlt : i < cs.length := (List.getElem?_eq_some_iff.mp hi).1
  have h1 := Nat.div_add_mod i K
  have h2 := Nat.mod_lt i hK
  have h3 := h (i / K) (Nat.lt_of_le_of_lt (Nat.div_mul_le_self i K) hlt)
  unfold mCokR at h3
  rw [List.all_eq_true] at h3
  refine h3 (en, i) ?_
  have h4 : ((cs.zipIdx.drop (i / K * K)).take K)[i % K]? = some (en, i) := by
    rw [List.getElem?_take, if_pos h2, List.getElem?_drop, show i / K * K + i % K = i by rw [Nat.mul_comm]; exact h1]
    rw [List.getElem?_zipIdx, hi]
    simp
  exact List.mem_of_getElem? h4
end
section
/-! the law's own code -/
theorem mCokR_Q {tab : List mM} {own : String} {ini : Bool} {bs : ByteArray} {cs : List mE} {lo n : Nat} (hw : eWk bs cs 0 bs.data.toList = true) (h : ((cs.zipIdx.drop lo).take n).all (fun q => mErQ tab own ini cs q.2 q.1) = true) : mCokR tab own ini bs cs lo n = true :=
  List.all_eq_true.mpr (fun q hq => mEok_Q hw (List.mem_zipIdx_iff_getElem?.mp (List.mem_of_mem_drop (List.mem_of_mem_take hq))) (List.all_eq_true.mp h q hq))
set_option maxRecDepth 1000000 in
theorem mLwW : eWk code mLaw 0 code.data.toList = true := by decide +kernel
set_option maxRecDepth 1000000 in
theorem mLk0 : mCokR mTab "FirstLandingLaw" false code mLaw 0 40 = true := mCokR_Q mLwW (by decide +kernel)
set_option maxRecDepth 1000000 in
theorem mLk1 : mCokR mTab "FirstLandingLaw" false code mLaw 40 40 = true := mCokR_Q mLwW (by decide +kernel)
set_option maxRecDepth 1000000 in
theorem mLk2 : mCokR mTab "FirstLandingLaw" false code mLaw 80 40 = true := mCokR_Q mLwW (by decide +kernel)
set_option maxRecDepth 1000000 in
theorem mLk3 : mCokR mTab "FirstLandingLaw" false code mLaw 120 40 = true := mCokR_Q mLwW (by decide +kernel)
set_option maxRecDepth 1000000 in
theorem mLk4 : mCokR mTab "FirstLandingLaw" false code mLaw 160 40 = true := mCokR_Q mLwW (by decide +kernel)
set_option maxRecDepth 1000000 in
theorem mLk5 : mCokR mTab "FirstLandingLaw" false code mLaw 200 40 = true := mCokR_Q mLwW (by decide +kernel)
set_option maxRecDepth 1000000 in
theorem mLk6 : mCokR mTab "FirstLandingLaw" false code mLaw 240 40 = true := mCokR_Q mLwW (by decide +kernel)
set_option maxRecDepth 1000000 in
theorem mLk7 : mCokR mTab "FirstLandingLaw" false code mLaw 280 40 = true := mCokR_Q mLwW (by decide +kernel)
set_option maxRecDepth 1000000 in
theorem mLk8 : mCokR mTab "FirstLandingLaw" false code mLaw 320 40 = true := mCokR_Q mLwW (by decide +kernel)
set_option maxRecDepth 1000000 in
theorem mLk9 : mCokR mTab "FirstLandingLaw" false code mLaw 360 40 = true := mCokR_Q mLwW (by decide +kernel)
set_option maxRecDepth 1000000 in
theorem mLk10 : mCokR mTab "FirstLandingLaw" false code mLaw 400 40 = true := mCokR_Q mLwW (by decide +kernel)
set_option maxRecDepth 1000000 in
theorem mLk11 : mCokR mTab "FirstLandingLaw" false code mLaw 440 40 = true := mCokR_Q mLwW (by decide +kernel)
set_option maxRecDepth 1000000 in
theorem mLk12 : mCokR mTab "FirstLandingLaw" false code mLaw 480 40 = true := mCokR_Q mLwW (by decide +kernel)
set_option maxRecDepth 1000000 in
theorem mLk13 : mCokR mTab "FirstLandingLaw" false code mLaw 520 40 = true := mCokR_Q mLwW (by decide +kernel)
set_option maxRecDepth 1000000 in
theorem mLk14 : mCokR mTab "FirstLandingLaw" false code mLaw 560 40 = true := mCokR_Q mLwW (by decide +kernel)
set_option maxRecDepth 1000000 in
theorem mLk15 : mCokR mTab "FirstLandingLaw" false code mLaw 600 40 = true := mCokR_Q mLwW (by decide +kernel)
set_option maxRecDepth 1000000 in
theorem mLk16 : mCokR mTab "FirstLandingLaw" false code mLaw 640 40 = true := mCokR_Q mLwW (by decide +kernel)
set_option maxRecDepth 1000000 in
theorem mLk17 : mCokR mTab "FirstLandingLaw" false code mLaw 680 40 = true := mCokR_Q mLwW (by decide +kernel)
set_option maxRecDepth 1000000 in
theorem mLk18 : mCokR mTab "FirstLandingLaw" false code mLaw 720 40 = true := mCokR_Q mLwW (by decide +kernel)
set_option maxRecDepth 1000000 in
theorem mLk19 : mCokR mTab "FirstLandingLaw" false code mLaw 760 40 = true := mCokR_Q mLwW (by decide +kernel)
set_option maxRecDepth 1000000 in
theorem mLk20 : mCokR mTab "FirstLandingLaw" false code mLaw 800 40 = true := mCokR_Q mLwW (by decide +kernel)
set_option maxRecDepth 1000000 in
theorem mLk21 : mCokR mTab "FirstLandingLaw" false code mLaw 840 40 = true := mCokR_Q mLwW (by decide +kernel)
set_option maxRecDepth 1000000 in
theorem mLk22 : mCokR mTab "FirstLandingLaw" false code mLaw 880 40 = true := mCokR_Q mLwW (by decide +kernel)
set_option maxRecDepth 1000000 in
theorem mLk23 : mCokR mTab "FirstLandingLaw" false code mLaw 920 40 = true := mCokR_Q mLwW (by decide +kernel)
set_option maxRecDepth 1000000 in
theorem mLk24 : mCokR mTab "FirstLandingLaw" false code mLaw 960 40 = true := mCokR_Q mLwW (by decide +kernel)
end
section
theorem mLaw_len : mLaw.length = 977 := by decide +kernel
theorem mLaw_ok : mCok mTab "FirstLandingLaw" false code mLaw = true := by
  refine mCok_of 40 (by decide) fun j hj => ?_
  rw [mLaw_len] at hj
  have hj2 : j < 25 := by omega
  match j, hj2 with
  | 0, _ => exact mLk0
  | 1, _ => exact mLk1
  | 2, _ => exact mLk2
  | 3, _ => exact mLk3
  | 4, _ => exact mLk4
  | 5, _ => exact mLk5
  | 6, _ => exact mLk6
  | 7, _ => exact mLk7
  | 8, _ => exact mLk8
  | 9, _ => exact mLk9
  | 10, _ => exact mLk10
  | 11, _ => exact mLk11
  | 12, _ => exact mLk12
  | 13, _ => exact mLk13
  | 14, _ => exact mLk14
  | 15, _ => exact mLk15
  | 16, _ => exact mLk16
  | 17, _ => exact mLk17
  | 18, _ => exact mLk18
  | 19, _ => exact mLk19
  | 20, _ => exact mLk20
  | 21, _ => exact mLk21
  | 22, _ => exact mLk22
  | 23, _ => exact mLk23
  | 24, _ => exact mLk24
  | j + 25, h => omega
end
section
/-! THE CLAIM OUT OF ONE WALK OF THE LAW'S BODY. Your part is whole_start (and what it stands on); all else here is the same for every law, but numbers. -/
def R_law : String := "FirstLandingLaw"
def lw_P (b : Addr) (xs : List Int32) (args : Array Value) (s : State) : Prop := args = #[.ref b] ∧ s.IntsAt b xs ∧ xs.length ≤ 384 ∧ (Jvm.Cond.and given_1 narrow_1).before args s = true
def lw_Q (_ : Array Value) (s : State) (o : Outcome) (t : State) : Prop := o = .returned (some (.int 1)) ∧ Framed s o t [] 600000 7302250
def lw_Z (below : List Frame) (a : Array Value) (s : State) : State → Prop := fun t => ∃ o, t.status = .running ∧ Ended t below o ∧ lw_Q a s o t
/-- the law's own end, with 1 on the stack, nothing written that was there before, its room as the claim has it -/
theorem lw_ret {p : Program} {l : Launch} {e : Env} {s : State} {m : MethodId} {below : List Frame} {meth : Method} {c : Code} {b : Nat} (hx : p.tables.exec = Jvm.exec) (hb : c.code = code) (hr : meth.sig.returnType = ret) (hlocks : meth.locks = false) {pc : Nat} {H : Heap} {ls : Array Slot} (hdg : decode code pc = .ok (.ireturn, 1)) : W p l e room_1 s m #[Value.ref b] below meth c H [] 600000 7302250 (lw_Z below #[Value.ref b] s) (F0 m pc ls [.int 1]) := by
  intro T hT X
  obtain ⟨fs, hret, hrun, hended, hW, hframe⟩ := X.leave (v := some (.int 1)) (hlocks := hlocks) (fun h => by rw [hr] at h; cases h)
  have hmeth' : T.vm.method? m = some meth := X.method'
  refine ⟨T.setFrames fs, ?_, .returned (some (.int 1)), hrun, hended, rfl, ⟨_, rfl⟩, hW, hframe⟩
  jvm_step X.here [X.here.top, hx, hb, hdg, hmeth', hr, ret, narrow_b1]
  (try refine ⟨rfl, ?_⟩); (try refine ⟨rfl, ?_⟩)
  first | (intro acts; rw [hret _ acts rfl rfl rfl]) | rw [hret _ _ rfl rfl rfl]
  exact Steps.refl _
/-- what holds at the law's entry: the machine, the code, the tables' words (any of lw_tbl by 'hts w (by decide +kernel)'), the script of L ints xs at the cell b, what the Statement gives of the start (any of its parts by flat_of_before) -/
def lw_At (p : Program) (s : State) (m : MethodId) (meth : Method) (c : Code) (b L : Nat) (xs : Nat → Int32) : Prop :=
  p.tables.exec = Jvm.exec ∧ c.code = code ∧ meth.sig.returnType = ret ∧ c.maxLocals = 4 ∧ s.vm.findClass R_law = some m.cls ∧ (∀ w ∈ lw_tbl, w.before #[Value.ref b] s = true) ∧ va_X b L xs s s.heap ∧ b < s.heap.size ∧ meth.locks = false ∧ (Jvm.Cond.and given_1 narrow_1).before #[Value.ref b] s = true
end
section
/-! the law's start: what the Statement gives, as the small machine wants it -/
def mLet : List Int32 := [103, 101, 115, 118, 99, 107]
def mPar : List Int32 := [0, 0, 0, 0, 1, 2]
def mXs (sc : List Int32) (n : Nat) : List Int32 := if n = 0 then sc else if n = 1 then mLet else mPar
/-- WHAT IS LEFT TO SHOW, over the small machine: on every script the law's code ends with 1, within the room -/
def mGoal : Prop := ∀ sc : List Int32, sc.length ≤ 384 → ∃ (d n : Nat) (h : mH), d ≤ 1000 ∧ mRun mTab (mXs sc) (mEval mTab (mXs sc) d n) (some .boolean) mLaw n (0, mEntL 4 [.retAddr 0], [], []) = some (some (.int 1), h) ∧ h.length ≤ 600000 ∧ mSl h ≤ 7302250
theorem mArr_of {args : Array Value} {s : State} {ty : FieldType} (h : (Cond.arrayClass ty).before args s = true) (hp : ∀ C, ty ≠ .object C) : ∃ ca : ClassId, ArrOfT s ca ty ∧ va_RA s ca ty := by
  obtain ⟨ca, kA, comp, h1, h2, h3⟩ := Cond.arrayClass_spec h
  refine ⟨ca, fun n z => ⟨fun k h => (by cases h), kA, h2, comp, h3⟩, ?_⟩
  cases ty <;> first | exact h1 | exact absurd rfl (hp _)
theorem mArr_ofq {args : Array Value} {s : State} {C : String} (h : (Cond.arrayOver (.object C)).before args s = true) : ∃ ca : ClassId, ArrOfT s ca (.object C) ∧ va_RA s ca (.object C) := by
  obtain ⟨comp, ca, k, h1, h2, h3, h4, h5⟩ := Cond.arrayOver_spec h
  exact ⟨ca, fun n z => ⟨fun k h => (by cases h), k, h3, comp, h4⟩, k, comp, h3, h4, h1, h5⟩
theorem mKn {s : State} {args : Array Value} (hts : ∀ w ∈ lw_tbl, w.before args s = true) : ∀ (k : Nat) (q : vw_C), mCl[k]? = some q → ∃ (c : ClassId) (f : Nat → Nat), u_Kn s q.1 q.2.1 q.2.2 c f := by
  intro k q hq
  have hin : ∀ w ∈ u_ws q.1 q.2.1 q.2.2, w ∈ lw_tbl := fun w hw => (List.mem_filter.mp ((mCl_ok k q hq).1 w hw)).1
  have hi : (Cond.instantiable q.1 q.2.2) ∈ lw_tbl := by
    match k, hq with
    | 0, hq => cases hq; decide +kernel
    | 1, hq => cases hq; decide +kernel
    | 2, hq => cases hq; decide +kernel
    | 3, hq => cases hq; decide +kernel
    | 4, hq => cases hq; decide +kernel
    | 5, hq => cases hq; decide +kernel
    | 6, hq => cases hq; decide +kernel
    | 7, hq => cases hq; decide +kernel
    | k + 8, hq => simp [mCl] at hq
  exact u_known hts hin (hts _ hi)
theorem mTof {args : Array Value} {s : State} {C n : String} {vs : List Int32} {A : Nat → Prop} (hN : vs.length < 2 ^ 31) (harr : (Cond.arrayOf (.static C n "[I") .int).before args s = true) (hlen : (Cond.eq (.length (.static C n "[I")) (.int (Int32.ofNat vs.length))).before args s = true)
    (hel : ∀ j : Nat, j < vs.length → (Cond.eq (.elem (.static C n "[I") (.int (Int32.ofNat j))) (.int (vs.getD j 0))).before args s = true) (hl : (Cond.laysStatic C n "[I").before args s = true) (hini : (Cond.initialized C).before args s = true) (hA : ∀ a : Nat, a < s.heap.size → ¬ A a) :
    ∃ t : Nat, va_T .int t vs.length (fun j => .int (vs.getD j 0)) A s s.heap ∧ va_Z C n "[I" (.ref t) A s s.heap := by
  obtain ⟨t, h1, h2⟩ := va_Tof (tm := .static C n "[I") (f := fun j => .int (vs.getD j 0)) hN harr (va_eqt hlen) (fun j hj => va_eqt (hel j hj)) hA
  exact ⟨t, h2, va_Zref hl hini h1 hA⟩
theorem mGets {vs : List Int32} {P : Nat → Int32 → Prop} (h : ∀ j, j < vs.length → P j (vs.getD j 0)) : ∀ j, j < vs.length → P j (vs.getD j 0) := h
set_option maxHeartbeats 4000000 in
set_option maxRecDepth 100000 in
theorem whole_of (hG : mGoal) {p : Program} {e : Env} {s : State} {m : MethodId} {below : List Frame} {meth : Method} {c : Code} (l : Launch) {b L : Nat} {xs : Nat → Int32} (hL : L ≤ 384) (C0 : lw_At p s m meth c b L xs) : W p l e room_1 s m #[Value.ref b] below meth c s.heap [] 0 0 (lw_Z below #[Value.ref b] s) (entryFrame m ([Value.ref b] : List Value).toArray 4) := by
  obtain ⟨hx, hb, hr, hml, hown, hts, hX, hbl, hlocks, hgv⟩ := C0
  have hs := flat_of_before _ hgv
  have hAlt : ∀ a : Nat, a < s.heap.size → ¬ (fun q => s.heap.size ≤ q) a := fun a h1 h2 => Nat.lt_irrefl _ (Nat.lt_of_lt_of_le h1 h2)
  have hini : (Cond.initialized "FirstLanding$Kind").before #[Value.ref b] s = true := hts _ (by decide +kernel)
  obtain ⟨t1, hT1, hZ1⟩ := mTof (s := s) (args := #[Value.ref b]) (C := "FirstLanding$Kind") (n := "LETTERS") (vs := mLet) (A := fun q => s.heap.size ≤ q) (by decide) (hs _ (by decide +kernel)) (hs _ (by decide +kernel)) (fun j hj => by
    have hj6 : j < 6 := hj
    match j, hj6 with
    | 0, _ => exact hs _ (by decide +kernel)
    | 1, _ => exact hs _ (by decide +kernel)
    | 2, _ => exact hs _ (by decide +kernel)
    | 3, _ => exact hs _ (by decide +kernel)
    | 4, _ => exact hs _ (by decide +kernel)
    | 5, _ => exact hs _ (by decide +kernel)
    | j + 6, h => omega) (hts _ (by decide +kernel)) hini hAlt
  obtain ⟨t2, hT2, hZ2⟩ := mTof (s := s) (args := #[Value.ref b]) (C := "FirstLanding$Kind") (n := "PARENTS") (vs := mPar) (A := fun q => s.heap.size ≤ q) (by decide) (hs _ (by decide +kernel)) (hs _ (by decide +kernel)) (fun j hj => by
    have hj6 : j < 6 := hj
    match j, hj6 with
    | 0, _ => exact hs _ (by decide +kernel)
    | 1, _ => exact hs _ (by decide +kernel)
    | 2, _ => exact hs _ (by decide +kernel)
    | 3, _ => exact hs _ (by decide +kernel)
    | 4, _ => exact hs _ (by decide +kernel)
    | 5, _ => exact hs _ (by decide +kernel)
    | j + 6, h => omega) (hts _ (by decide +kernel)) hini hAlt
  obtain ⟨c0, r0⟩ := mArr_of (hts (.arrayClass .int) (by decide +kernel)) (fun C h => by cases h)
  obtain ⟨c1, r1⟩ := mArr_of (hts (.arrayClass .byte) (by decide +kernel)) (fun C h => by cases h)
  obtain ⟨c2, r2⟩ := mArr_of (hts (.arrayClass .boolean) (by decide +kernel)) (fun C h => by cases h)
  have w3 := hts (.arrayOver (.object "FirstLanding$Row")) (by decide +kernel)
  have w4 := hts (.arrayOver (.object "FirstLanding$Text")) (by decide +kernel)
  have w5 := hts (.arrayOver (.object "FirstLanding$Embassy")) (by decide +kernel)
  obtain ⟨c3, r3⟩ := mArr_ofq w3
  obtain ⟨c4, r4⟩ := mArr_ofq w4
  obtain ⟨c5, r5⟩ := mArr_ofq w5
  have hkn := mKn hts
  have hch : ∀ k : Nat, ∃ z : ClassId × (Nat → Nat), ∀ q : vw_C, mCl[k]? = some q → u_Kn s q.1 q.2.1 q.2.2 z.1 z.2 := by
    intro k
    cases hk : mCl[k]? with
    | none => exact ⟨(0, fun _ => 0), fun q hq => by cases hq⟩
    | some q =>
      obtain ⟨cc, f, h⟩ := hkn k q hk
      exact ⟨(cc, f), fun q2 hq => by cases hq; exact h⟩
  obtain ⟨z, hz⟩ := Classical.axiomOfChoice hch
  have hK : va_K (fun k => (z k).1, fun k => (z k).2) mCl (mTys (fun t => if t = 50 then c0 else if t = 51 then c1 else if t = 52 then c2 else if t = 53 then c3 else if t = 54 then c4 else c5)) s := by
    refine ⟨fun k q hq => hz k q hq, fun k q hq => ?_⟩
    match k, hq with
    | 0, hq => cases hq; exact r0
    | 1, hq => cases hq; exact r1
    | 2, hq => cases hq; exact r2
    | 3, hq => cases hq; exact r3
    | 4, hq => cases hq; exact r4
    | 5, hq => cases hq; exact r5
    | k + 6, hq => simp [mTys] at hq
  generalize (fun t => if t = 50 then c0 else if t = 51 then c1 else if t = 52 then c2 else if t = 53 then c3 else if t = 54 then c4 else c5) = cA at hK
  generalize hD : ((fun k => (z k).1, fun k => (z k).2) : va_G) = D at hK
  have hsc : ((List.range L).map xs).length = L := by simp
  have hE : mEv D cA s.heap.size (fun n => if n = 0 then b else if n = 1 then t1 else t2) (mXs ((List.range L).map xs)) s := by
    refine ⟨hK, fun n hn => ?_, hZ1, hZ2, fun w hw => ?_, va_AO.of w3, va_AO.of w4, va_AO.of w5⟩
    · match n, hn with
      | 0, _ =>
        obtain ⟨scr, q1, q2, q3, q4, q5⟩ := hX
        refine ⟨scr, q1, q2, q3, ?_, ?_, fun j hj => ?_, hAlt b hbl⟩
        · show ((List.range L).map xs).length ≤ _
          rw [hsc, q4]
          exact Nat.le_refl _
        · show _ = Int32.ofNat ((List.range L).map xs).length
          rw [hsc, q4]
        · have hj2 : j < L := by rw [← hsc]; exact hj
          rw [q5 j hj2]
          show some (Value.int (xs j)) = some (Value.int (((List.range L).map xs).getD j 0))
          rw [List.getD_eq_getElem?_getD, List.getElem?_map, List.getElem?_range hj2]
          rfl
      | 1, _ => exact hT1
      | 2, _ => exact hT2
      | n + 3, h => omega
    · have h1 := List.mem_filter.mp hw
      have h2 := hts w h1.1
      have h3 := h1.2
      cases w <;> first | exact va_Nw.of rfl h2 | cases h3
  obtain ⟨d, n, h, hd, hrun, hc1, hc2⟩ := hG ((List.range L).map xs) (by rw [hsc]; exact hL)
  have htsm : ∀ w ∈ mW, w.before #[Value.ref b] s = true := fun w hw => hts w (List.mem_filter.mp hw).1
  have hkey := mRun_sim (p := p) (l := l) (e := e) (R := room_1) (s := s) (m := m) (args := #[Value.ref b]) (below := below) (meth := meth) (c := c) (Q := lw_Z below #[Value.ref b] s) (cs := mLaw) (own := "FirstLandingLaw") (ini := false) (tab := mTab) (call := mEval mTab (mXs ((List.range L).map xs)) d n) (d := d) (rt := some .boolean) (nL := 4) (D := D) (cA := cA)
    hx hb hml hown (fun hq => by cases hq) htsm hE (Nat.le_refl _) mLaw_ok (fun k1 q1 h1 => by
      have h2 := mTab_ok k1 q1 h1
      unfold mTok at h2
      simp only [Bool.and_eq_true] at h2
      exact h2.1) (fun k1 q1 av1 h1 r1 e1 e2 e3 => mEval_met l mTab_ok d n k1 q1 av1 h1 r1 e1 e2 e3) (fun k1 av1 h1 r1 e1 => mEval_up _ _ _ _ _ _ e1) ⟨by show d + 1 ≤ 2048; omega, by show 60 * (d + 1) ≤ 84000; omega⟩ [] (some (.int 1), h) (by show h.length - 0 ≤ 600000; omega) (by show mSl h - 0 ≤ 7302250; omega)
    (fun H1 locs1 pc ls ins q1 q2 q3 q4 => by
      have hins : ins = .ireturn := by
        cases ins <;> first | rfl | exact q4.elim | (exfalso; obtain ⟨_, _, _, q6, _⟩ := q4; exact absurd q6 (by simp)) | (exfalso; obtain ⟨_, _, q6⟩ := q4; exact absurd q6 (by simp)) | (exfalso; obtain ⟨_, q6⟩ := q4; exact absurd q6 (by simp))
      subst hins
      refine va_forget (fun q hq => q2.2.2 q hq) ?_
      refine W.widen (k := 600000) (n := 7302250) (by show h.length - 0 ≤ 600000; omega) (by show mSl h - 0 ≤ 7302250; omega) ?_
      exact lw_ret hx hb hr hlocks q3)
    n (0, mEntL 4 [.retAddr 0], [], []) hrun rfl (mUp.rf _) s.heap [] ⟨rfl, fun k q hq => by cases hq⟩ va_S.rf
  rw [lg_entry_eq]
  have h1 := hkey _ (by
    show lv_has _ 4 (mAs (mSh s.heap.size (fun n => if n = 0 then b else if n = 1 then t1 else t2)) (mEntL 4 [.retAddr 0]))
    exact mEntL_has (mSh s.heap.size (fun n => if n = 0 then b else if n = 1 then t1 else t2)) (mSh_cat _ _) [.retAddr 0] (n := 4) (by decide))
  have hp0 : mPcAt mLaw 0 = 0 := by decide +kernel
  dsimp only [List.map_nil] at h1
  rw [hp0] at h1
  exact h1
end
section
/-! THE ANALYSER. Linear expressions over variables with bounds -/
abbrev aX : Type := Int × List (Int × Nat)
abbrev aB : Type := List (Int × Int)
def aS1 (r : Nat → Int) : List (Int × Nat) → Int
  | [] => 0
  | t :: q => t.1 * r t.2 + aS1 r q
def aEv (r : Nat → Int) (e : aX) : Int := e.1 + aS1 r e.2
def aIn (c : Int) (k : Nat) : List (Int × Nat) → List (Int × Nat)
  | [] => if c = 0 then [] else [(c, k)]
  | t :: q => if t.2 = k then (if t.1 + c = 0 then q else (t.1 + c, k) :: q) else t :: aIn c k q
def aIns (l : List (Int × Nat)) : List (Int × Nat) → List (Int × Nat)
  | [] => l
  | t :: q => aIn t.1 t.2 (aIns l q)
def aAd (a b : aX) : aX := (a.1 + b.1, aIns a.2 b.2)
def aScL (m : Int) : List (Int × Nat) → List (Int × Nat)
  | [] => []
  | t :: q => (m * t.1, t.2) :: aScL m q
def aSc (m : Int) (a : aX) : aX := if m = 0 then (0, []) else (m * a.1, aScL m a.2)
def aSb (a b : aX) : aX := aAd a (aSc (-1) b)
def aK (c : Int) : aX := (c, [])
def aVr (k : Nat) : aX := (0, [(1, k)])
theorem aIn_ev (r : Nat → Int) (c : Int) (k : Nat) : ∀ l, aS1 r (aIn c k l) = c * r k + aS1 r l
  | [] => by
    unfold aIn
    split
    · rename_i h; simp [aS1, h]
    · rfl
  | t :: q => by
    unfold aIn
    split
    · rename_i h
      split
      · rename_i h2
        show _ = _ + (t.1 * r t.2 + aS1 r q)
        have h3 : t.1 * r t.2 + c * r k = 0 := by rw [h, ← Int.add_mul, h2, Int.zero_mul]
        omega
      · show (t.1 + c) * r k + aS1 r q = c * r k + (t.1 * r t.2 + aS1 r q)
        rw [h, Int.add_mul]; omega
    · show t.1 * r t.2 + aS1 r (aIn c k q) = c * r k + (t.1 * r t.2 + aS1 r q)
      rw [aIn_ev r c k q]; omega
theorem aIns_ev (r : Nat → Int) (l : List (Int × Nat)) : ∀ q, aS1 r (aIns l q) = aS1 r l + aS1 r q
  | [] => by simp [aIns, aS1]
  | t :: q => by
    unfold aIns
    rw [aIn_ev, aIns_ev r l q]
    show _ = _ + (t.1 * r t.2 + aS1 r q)
    omega
theorem aAd_ev (r : Nat → Int) (a b : aX) : aEv r (aAd a b) = aEv r a + aEv r b := by
  unfold aEv aAd
  dsimp only
  rw [aIns_ev]; omega
theorem aScL_ev (r : Nat → Int) (m : Int) : ∀ l, aS1 r (aScL m l) = m * aS1 r l
  | [] => by simp [aScL, aS1]
  | t :: q => by
    show m * t.1 * r t.2 + aS1 r (aScL m q) = m * (t.1 * r t.2 + aS1 r q)
    rw [aScL_ev r m q, Int.mul_add, Int.mul_assoc]
theorem aSc_ev (r : Nat → Int) (m : Int) (a : aX) : aEv r (aSc m a) = m * aEv r a := by
  unfold aSc
  split
  · rename_i h; subst h; simp [aEv, aS1]
  · unfold aEv; dsimp only; rw [aScL_ev, Int.mul_add]
theorem aSb_ev (r : Nat → Int) (a b : aX) : aEv r (aSb a b) = aEv r a - aEv r b := by
  unfold aSb
  rw [aAd_ev, aSc_ev]; omega
theorem aK_ev (r : Nat → Int) (c : Int) : aEv r (aK c) = c := by simp [aEv, aK, aS1]
theorem aVr_ev (r : Nat → Int) (k : Nat) : aEv r (aVr k) = r k := by simp [aEv, aVr, aS1]
/-- all variables below n -/
def aWl (n : Nat) (l : List (Int × Nat)) : Prop := ∀ t ∈ l, t.2 < n
def aWf (n : Nat) (e : aX) : Prop := aWl n e.2
theorem aIn_wf {n : Nat} {c : Int} {k : Nat} (hk : k < n) : ∀ {l : List (Int × Nat)}, aWl n l → aWl n (aIn c k l)
  | [], h => by
    unfold aIn
    split
    · exact h
    · intro t ht; rcases List.mem_singleton.mp ht with rfl; exact hk
  | t :: q, h => by
    have hq : aWl n q := fun z hz => h z (List.mem_cons_of_mem _ hz)
    unfold aIn
    split
    · split
      · exact hq
      · intro z hz
        rcases List.mem_cons.mp hz with rfl | hz
        · exact hk
        · exact hq z hz
    · intro z hz
      rcases List.mem_cons.mp hz with rfl | hz
      · exact h z List.mem_cons_self
      · exact aIn_wf hk hq z hz
theorem aIns_wf {n : Nat} {l : List (Int × Nat)} (hl : aWl n l) : ∀ {q : List (Int × Nat)}, aWl n q → aWl n (aIns l q)
  | [], _ => hl
  | t :: q, h => aIn_wf (h t List.mem_cons_self) (aIns_wf hl (fun z hz => h z (List.mem_cons_of_mem _ hz)))
theorem aAd_wf {n : Nat} {a b : aX} (ha : aWf n a) (hb : aWf n b) : aWf n (aAd a b) := aIns_wf ha hb
theorem aScL_wf {n : Nat} {m : Int} : ∀ {l : List (Int × Nat)}, aWl n l → aWl n (aScL m l)
  | [], h => h
  | t :: q, h => by
    intro z hz
    rcases List.mem_cons.mp hz with rfl | hz
    · exact h t List.mem_cons_self
    · exact aScL_wf (fun y hy => h y (List.mem_cons_of_mem _ hy)) z hz
theorem aK_wf (n : Nat) (c : Int) : aWf n (aK c) := fun t ht => by cases ht
theorem aSc_wf {n : Nat} {m : Int} {a : aX} (ha : aWf n a) : aWf n (aSc m a) := by
  unfold aSc
  split
  · exact aK_wf n 0
  · exact aScL_wf ha
theorem aSb_wf {n : Nat} {a b : aX} (ha : aWf n a) (hb : aWf n b) : aWf n (aSb a b) := aAd_wf ha (aSc_wf hb)
theorem aVr_wf {n k : Nat} (h : k < n) : aWf n (aVr k) := fun t ht => by rcases List.mem_singleton.mp ht with rfl; exact h
theorem aWf.up {n n1 : Nat} {e : aX} (h : aWf n e) (hn : n ≤ n1) : aWf n1 e := fun t ht => Nat.lt_of_lt_of_le (h t ht) hn
def aUp (r : Nat → Int) (k : Nat) (z : Int) : Nat → Int := fun j => if j = k then z else r j
theorem aS1_up {r : Nat → Int} {n : Nat} {z : Int} : ∀ {l : List (Int × Nat)}, aWl n l → aS1 (aUp r n z) l = aS1 r l
  | [], _ => rfl
  | t :: q, h => by
    show t.1 * aUp r n z t.2 + _ = _
    rw [aS1_up (fun y hy => h y (List.mem_cons_of_mem _ hy))]
    have h1 := h t List.mem_cons_self
    unfold aUp
    rw [if_neg (by omega)]
    rfl
theorem aEv_up {r : Nat → Int} {n : Nat} {z : Int} {e : aX} (h : aWf n e) : aEv (aUp r n z) e = aEv r e := by
  unfold aEv; rw [aS1_up h]
/-- bounds -/
def aBd (B : aB) (r : Nat → Int) : Prop := ∀ (k : Nat) (q : Int × Int), B[k]? = some q → q.1 ≤ r k ∧ r k ≤ q.2
def aLoL (B : aB) : List (Int × Nat) → Int
  | [] => 0
  | t :: q => (if 0 ≤ t.1 then t.1 * (B.getD t.2 (0, 0)).1 else t.1 * (B.getD t.2 (0, 0)).2) + aLoL B q
def aLo (B : aB) (e : aX) : Int := e.1 + aLoL B e.2
def aHi (B : aB) (e : aX) : Int := - aLo B (aSc (-1) e)
theorem aBd_get {B : aB} {r : Nat → Int} (h : aBd B r) {k : Nat} (hk : k < B.length) : (B.getD k (0, 0)).1 ≤ r k ∧ r k ≤ (B.getD k (0, 0)).2 := by
  have h1 : B[k]? = some B[k] := List.getElem?_eq_getElem hk
  rw [List.getD_eq_getElem?_getD, h1]
  exact h k _ h1
theorem aLoL_le {B : aB} {r : Nat → Int} (h : aBd B r) : ∀ {l : List (Int × Nat)}, aWl B.length l → aLoL B l ≤ aS1 r l
  | [], _ => Int.le_refl _
  | t :: q, hw => by
    have ih := aLoL_le h (fun y hy => hw y (List.mem_cons_of_mem _ hy))
    obtain ⟨h1, h2⟩ := aBd_get h (hw t List.mem_cons_self)
    show (if 0 ≤ t.1 then t.1 * (B.getD t.2 (0, 0)).1 else t.1 * (B.getD t.2 (0, 0)).2) + aLoL B q ≤ t.1 * r t.2 + aS1 r q
    split
    · rename_i hc
      have := Int.mul_le_mul_of_nonneg_left h1 hc
      omega
    · rename_i hc
      have := Int.mul_le_mul_of_nonpos_left (show t.1 ≤ 0 by omega) h2
      omega
theorem aLo_le {B : aB} {r : Nat → Int} (h : aBd B r) {e : aX} (hw : aWf B.length e) : aLo B e ≤ aEv r e := by
  have := aLoL_le h hw
  unfold aLo aEv; omega
theorem aHi_ge {B : aB} {r : Nat → Int} (h : aBd B r) {e : aX} (hw : aWf B.length e) : aEv r e ≤ aHi B e := by
  have h1 := aLo_le h (aSc_wf (m := -1) hw)
  rw [aSc_ev] at h1
  unfold aHi; omega
/-- what follows from the facts C, taking each at most so often -/
def aPrC (B : aB) (C : List aX) : Nat → aX → Bool
  | 0, e => decide (0 ≤ aLo B e)
  | n + 1, e => decide (0 ≤ aLo B e) || C.any (fun c => e.2.any (fun t => c.2.any (fun u => t.2 == u.2 && (decide (0 < t.1 * u.1) && (decide (t.1 % u.1 = 0) && aPrC B C n (aSb e (aSc (t.1 / u.1) c)))))))
def aFacts (C : List aX) (n : Nat) (r : Nat → Int) : Prop := ∀ c ∈ C, aWf n c ∧ 0 ≤ aEv r c
theorem aPrC_ok {B : aB} {C : List aX} {r : Nat → Int} (hB : aBd B r) (hC : aFacts C B.length r) : ∀ (n : Nat) (e : aX), aWf B.length e → aPrC B C n e = true → 0 ≤ aEv r e := by
  intro n
  induction n with
  | zero =>
    intro e hw h
    have h1 := of_decide_eq_true h
    have h2 := aLo_le hB hw
    omega
  | succ n ih =>
    intro e hw h
    unfold aPrC at h
    rw [Bool.or_eq_true] at h
    rcases h with h | h
    · have h1 := of_decide_eq_true h
      have h2 := aLo_le hB hw
      omega
    · obtain ⟨c, hc, h⟩ := List.any_eq_true.mp h
      obtain ⟨t, ht, h⟩ := List.any_eq_true.mp h
      obtain ⟨u, hu, h⟩ := List.any_eq_true.mp h
      simp only [Bool.and_eq_true, decide_eq_true_eq] at h
      obtain ⟨-, h1, h2, h3⟩ := h
      obtain ⟨c1, c2⟩ := hC c hc
      have h4 := ih _ (aSb_wf hw (aSc_wf c1)) h3
      rw [aSb_ev, aSc_ev] at h4
      have h5 : 0 ≤ t.1 / u.1 := by
        rcases Int.lt_trichotomy u.1 0 with hu0 | hu0 | hu0
        · have ht0 : t.1 < 0 := by
            rcases Int.lt_or_le t.1 0 with q | q
            · exact q
            · have := Int.mul_nonpos_of_nonneg_of_nonpos q (Int.le_of_lt hu0); omega
          exact Int.le_of_lt (Int.ediv_pos_of_neg_of_neg ht0 hu0)
        · rw [hu0] at h1; simp at h1
        · have ht0 : 0 < t.1 := by
            rcases Int.lt_or_le 0 t.1 with q | q
            · exact q
            · have := Int.mul_nonpos_of_nonpos_of_nonneg q (Int.le_of_lt hu0); omega
          exact Int.ediv_nonneg (Int.le_of_lt ht0) (Int.le_of_lt hu0)
      have h6 := Int.mul_nonneg h5 c2
      omega
end
section
/-! states of the analyser -/
abbrev aV : Type := Nat × aX × Nat
abbrev aGh : Type := List (Nat × aX × aV)
abbrev aSt : Type := aB × List aX × aGh × aX
def aHiL (B : aB) : List (Int × Nat) → Int
  | [] => 0
  | t :: q => (if 0 ≤ t.1 then t.1 * (B.getD t.2 (0, 0)).2 else t.1 * (B.getD t.2 (0, 0)).1) + aHiL B q
def aHj (B : aB) (e : aX) : Int := e.1 + aHiL B e.2
theorem aTm_hi {B : aB} {r : Nat → Int} (h : aBd B r) {t : Int × Nat} (ht : t.2 < B.length) : t.1 * r t.2 ≤ (if 0 ≤ t.1 then t.1 * (B.getD t.2 (0, 0)).2 else t.1 * (B.getD t.2 (0, 0)).1) := by
  obtain ⟨h1, h2⟩ := aBd_get h ht
  split
  · rename_i hc; exact Int.mul_le_mul_of_nonneg_left h2 hc
  · rename_i hc; exact Int.mul_le_mul_of_nonpos_left (show t.1 ≤ 0 by omega) h1
theorem aHiL_ge {B : aB} {r : Nat → Int} (h : aBd B r) : ∀ {l : List (Int × Nat)}, aWl B.length l → aS1 r l ≤ aHiL B l
  | [], _ => Int.le_refl _
  | t :: q, hw => by
    have ih := aHiL_ge h (fun y hy => hw y (List.mem_cons_of_mem _ hy))
    have h1 := aTm_hi h (hw t List.mem_cons_self)
    show t.1 * r t.2 + aS1 r q ≤ _ + aHiL B q
    omega
theorem aHj_ge {B : aB} {r : Nat → Int} (h : aBd B r) {e : aX} (hw : aWf B.length e) : aEv r e ≤ aHj B e := by
  have := aHiL_ge h hw
  unfold aHj aEv; omega
theorem aHiL_but {B : aB} {r : Nat → Int} (h : aBd B r) {t : Int × Nat} : ∀ {l : List (Int × Nat)}, aWl B.length l → t ∈ l → aS1 r l - t.1 * r t.2 ≤ aHiL B l - (if 0 ≤ t.1 then t.1 * (B.getD t.2 (0, 0)).2 else t.1 * (B.getD t.2 (0, 0)).1)
  | [], _, ht => by cases ht
  | u :: q, hw, ht => by
    have hq : aWl B.length q := fun y hy => hw y (List.mem_cons_of_mem _ hy)
    rcases List.mem_cons.mp ht with rfl | ht
    · have := aHiL_ge h hq
      show (t.1 * r t.2 + aS1 r q) - _ ≤ (_ + aHiL B q) - _
      omega
    · have h1 := aTm_hi h (hw u List.mem_cons_self)
      have ih := aHiL_but h hq ht
      show (u.1 * r u.2 + aS1 r q) - _ ≤ (_ + aHiL B q) - _
      omega
/-- bounds made closer by a fact -/
def aTi (B0 : aB) (hh : Int) : List (Int × Nat) → aB → aB
  | [], B => B
  | t :: q, B => aTi B0 hh q (B.set t.2 (if 0 < t.1 then (max (B0.getD t.2 (0, 0)).1 (-((hh - t.1 * (B0.getD t.2 (0, 0)).2) / t.1)), (B0.getD t.2 (0, 0)).2) else if t.1 < 0 then ((B0.getD t.2 (0, 0)).1, min (B0.getD t.2 (0, 0)).2 ((hh - t.1 * (B0.getD t.2 (0, 0)).1) / (-t.1))) else B0.getD t.2 (0, 0)))
theorem aBd_set {B : aB} {r : Nat → Int} (h : aBd B r) {k : Nat} {q : Int × Int} (hq : q.1 ≤ r k ∧ r k ≤ q.2) : aBd (B.set k q) r := by
  intro j p hj
  by_cases e : j = k
  · subst e
    rw [List.getElem?_set] at hj
    simp only [if_true] at hj
    split at hj
    · cases hj; exact hq
    · cases hj
  · rw [List.getElem?_set_ne (Ne.symm e)] at hj
    exact h j p hj
theorem aTi_ok {B0 : aB} {r : Nat → Int} {e : aX} (h0 : aBd B0 r) (hw : aWf B0.length e) (he : 0 ≤ aEv r e) : ∀ (l : List (Int × Nat)) (B : aB), (∀ t ∈ l, t ∈ e.2) → B.length = B0.length → aBd B r → aBd (aTi B0 (aHj B0 e) l B) r ∧ (aTi B0 (aHj B0 e) l B).length = B0.length := by
  intro l
  induction l with
  | nil => intro B _ hl hB; exact ⟨hB, hl⟩
  | cons t q ih =>
    intro B hs hl hB
    unfold aTi
    refine ih _ (fun z hz => hs z (List.mem_cons_of_mem _ hz)) (by simp [hl]) (aBd_set hB ?_)
    have ht := hs t List.mem_cons_self
    obtain ⟨b1, b2⟩ := aBd_get h0 (hw t ht)
    have h1 := aHiL_but h0 hw ht
    have h2 : aEv r e = e.1 + aS1 r e.2 := rfl
    have h3 : aHj B0 e = e.1 + aHiL B0 e.2 := rfl
    by_cases hc : 0 < t.1
    · rw [if_pos (Int.le_of_lt hc)] at h1
      rw [if_pos hc]
      refine ⟨?_, b2⟩
      show max _ _ ≤ r t.2
      rw [Int.max_le]
      refine ⟨b1, ?_⟩
      generalize (B0.getD t.2 (0, 0)).2 = hi at *
      have hz : t.1 ≠ 0 := by omega
      have h4 : 0 ≤ t.1 * r t.2 + (aHj B0 e - t.1 * hi) := by omega
      have h6 : 0 ≤ (r t.2 + (aHj B0 e - t.1 * hi) / t.1) := by
        have h7 : 0 ≤ (t.1 * r t.2 + (aHj B0 e - t.1 * hi)) / t.1 := Int.ediv_nonneg h4 (Int.le_of_lt hc)
        rw [Int.mul_add_ediv_left _ _ hz] at h7
        exact h7
      omega
    · rw [if_neg hc]
      by_cases hn : t.1 < 0
      · rw [if_neg (by omega)] at h1
        rw [if_pos hn]
        refine ⟨b1, ?_⟩
        show r t.2 ≤ min _ _
        rw [Int.le_min]
        refine ⟨b2, ?_⟩
        generalize (B0.getD t.2 (0, 0)).1 = lo at *
        have hp : 0 < -t.1 := by omega
        have h4 : (-t.1) * r t.2 ≤ aHj B0 e - t.1 * lo := by
          have : (-t.1) * r t.2 = - (t.1 * r t.2) := Int.neg_mul _ _
          omega
        exact (Int.le_ediv_iff_mul_le hp).mpr (by rw [Int.mul_comm]; exact h4)
      · rw [if_neg hn]
        exact ⟨b1, b2⟩
/-- a fact taken in; none: it can't be -/
def aAs (S : aSt) (e : aX) : Option aSt :=
  if aHj S.1 e < 0 then none else if 0 ≤ aLo S.1 e then some S else
  if e.2.length ≠ 1 ∧ aPrC S.1 S.2.1 1 (aSb (aK (-1)) e) = true then none else
  if (aTi S.1 (aHj S.1 e) e.2 S.1).any (fun q => decide (q.2 < q.1)) = true then none else
  if e.2.length = 1 ∨ 0 ≤ aLo (aTi S.1 (aHj S.1 e) e.2 S.1) e then some (aTi S.1 (aHj S.1 e) e.2 S.1, S.2.1, S.2.2) else some (aTi S.1 (aHj S.1 e) e.2 S.1, e :: S.2.1, S.2.2)
/-- what a value of the analyser says of a value -/
def aVs (n : Nat) (r : Nat → Int) (v : aV) (w : Value) : Prop := aWf n v.2.1 ∧ match v.1 with
  | 0 => ∃ z : Int32, w = .int z ∧ z.toInt = aEv r v.2.1
  | 1 => ∃ z : Int64, w = .long z ∧ z.toInt = aEv r v.2.1
  | 2 => w = .ref v.2.2
  | 3 => w = .null
  | 4 => w = .retAddr v.2.2
  | 5 => ∃ z : Int32, w = .int z ∧ z.toInt = (if 0 < aEv r v.2.1 then 1 else if aEv r v.2.1 = 0 then 0 else -1)
  | _ => True
def aSlot (h : mH) (a n : Nat) : Option Value := match h[a]? with
  | some q => q.2[n]?
  | none => none
def aGs (n : Nat) (r : Nat → Int) (G : aGh) (h : mH) : Prop := ∀ g ∈ G, aWf n g.2.1 ∧ ∃ (j : Nat) (w : Value), aEv r g.2.1 = (j : Int) ∧ aSlot h g.1 j = some w ∧ aVs n r g.2.2 w
/-- the sum of one cell's numbers (the reference's far), for a loop that ends because it falls -/
def aIv : Value → Int
  | .int z => z.toInt
  | _ => 0
def aPh (h : mH) : Int := match h[63]? with
  | some q => (q.2.map aIv).sum
  | none => 0
def aKap : Int := 40000
def aOk (r : Nat → Int) (S : aSt) (m0 : Int) (h : mH) : Prop := aBd S.1 r ∧ aFacts S.2.1 S.1.length r ∧ aGs S.1.length r S.2.2.1 h ∧ aWf S.1.length S.2.2.2 ∧ aEv r S.2.2.2 + aKap * aPh h ≤ m0
theorem aAs_ok {r : Nat → Int} {S : aSt} {m0 : Int} {h : mH} {e : aX} (hS : aOk r S m0 h) (hw : aWf S.1.length e) (he : 0 ≤ aEv r e) : ∃ S1, aAs S e = some S1 ∧ aOk r S1 m0 h ∧ S1.1.length = S.1.length := by
  obtain ⟨hB, hC, hG, hO⟩ := hS
  unfold aAs
  have h1 := aHj_ge hB hw
  rw [if_neg (by omega)]
  split
  · exact ⟨S, rfl, ⟨hB, hC, hG, hO⟩, rfl⟩
  · rw [if_neg (by
      rintro ⟨-, q⟩
      have := aPrC_ok hB hC 1 _ (aSb_wf (aK_wf _ _) hw) q
      rw [aSb_ev, aK_ev] at this
      omega)]
    obtain ⟨t1, t2⟩ := aTi_ok hB hw he e.2 S.1 (fun t ht => ht) rfl hB
    rw [if_neg (by
      intro q
      obtain ⟨z, hz, hz2⟩ := List.any_eq_true.mp q
      obtain ⟨k, hk⟩ := List.getElem?_of_mem hz
      have := t1 k z hk
      have := of_decide_eq_true hz2
      omega)]
    split
    · exact ⟨_, rfl, ⟨t1, by rw [t2]; exact hC, by rw [t2]; exact hG, by rw [t2]; exact hO⟩, t2⟩
    · refine ⟨_, rfl, ⟨t1, ?_, by rw [t2]; exact hG, by rw [t2]; exact hO⟩, t2⟩
      rw [t2]
      intro c hc
      rcases List.mem_cons.mp hc with rfl | hc
      · exact ⟨hw, he⟩
      · exact hC c hc
/-- a new variable -/
def aNw (S : aSt) (lo hi : Int) : aSt := (S.1 ++ [(lo, hi)], S.2.1, S.2.2)
theorem aVs.up {n : Nat} {r : Nat → Int} {z : Int} {v : aV} {w : Value} (h : aVs n r v w) : aVs (n + 1) (aUp r n z) v w := by
  obtain ⟨h1, h2⟩ := h
  refine ⟨h1.up (Nat.le_succ _), ?_⟩
  rw [aEv_up h1]
  exact h2
theorem aNw_len (S : aSt) (lo hi : Int) : (aNw S lo hi).1.length = S.1.length + 1 := by simp [aNw]
theorem aNw_ok {r : Nat → Int} {S : aSt} {m0 : Int} {h : mH} {lo hi z : Int} (hS : aOk r S m0 h) (h1 : lo ≤ z) (h2 : z ≤ hi) : aOk (aUp r S.1.length z) (aNw S lo hi) m0 h := by
  obtain ⟨hB, hC, hG, hO1, hO2⟩ := hS
  refine ⟨?_, ?_, ?_, ?_, ?_⟩
  · intro k q hk
    unfold aUp
    show q.1 ≤ (if k = S.1.length then z else r k) ∧ _
    have hk2 : (S.1 ++ [(lo, hi)])[k]? = some q := hk
    by_cases e : k < S.1.length
    · rw [List.getElem?_append_left e] at hk2
      rw [if_neg (by omega)]
      exact hB k q hk2
    · rw [List.getElem?_append_right (by omega)] at hk2
      have h3 : k - S.1.length < 1 := (List.getElem?_eq_some_iff.mp hk2).1
      have h4 : k = S.1.length := by omega
      subst h4
      rw [Nat.sub_self] at hk2
      cases hk2
      rw [if_pos rfl]
      exact ⟨h1, h2⟩
  · rw [aNw_len]
    intro c hc
    obtain ⟨c1, c2⟩ := hC c hc
    exact ⟨c1.up (Nat.le_succ _), by rw [aEv_up c1]; exact c2⟩
  · rw [aNw_len]
    intro g hg
    obtain ⟨g1, j, w, g2, g3, g4⟩ := hG g hg
    exact ⟨g1.up (Nat.le_succ _), j, w, by rw [aEv_up g1]; exact g2, g3, g4.up⟩
  · rw [aNw_len]; exact hO1.up (Nat.le_succ _)
  · show aEv _ S.2.2.2 + _ ≤ m0
    rw [aEv_up hO1]; exact hO2
theorem aUp_self (r : Nat → Int) (n : Nat) (z : Int) : aUp r n z n = z := by simp [aUp]
def aPr (S : aSt) (e : aX) : Bool := aPrC S.1 S.2.1 2 e
theorem aPr_ok {r : Nat → Int} {S : aSt} {m0 : Int} {h : mH} {e : aX} (hS : aOk r S m0 h) (hw : aWf S.1.length e) (hp : aPr S e = true) : 0 ≤ aEv r e := aPrC_ok hS.1 hS.2.1 2 e hw hp
/-- variables with one value only, put in -/
def aNmL (B : aB) : List (Int × Nat) → aX
  | [] => (0, [])
  | t :: q => if (B.getD t.2 (0, 0)).1 = (B.getD t.2 (0, 0)).2 ∧ t.2 < B.length then ((aNmL B q).1 + t.1 * (B.getD t.2 (0, 0)).1, (aNmL B q).2) else ((aNmL B q).1, t :: (aNmL B q).2)
def aNm (B : aB) (e : aX) : aX := (e.1 + (aNmL B e.2).1, (aNmL B e.2).2)
theorem aNmL_ok {B : aB} {r : Nat → Int} (h : aBd B r) (n : Nat) : ∀ {l : List (Int × Nat)}, aEv r (aNmL B l) = aS1 r l ∧ (aWl n l → aWf n (aNmL B l))
  | [] => ⟨rfl, fun h => h⟩
  | t :: q => by
    obtain ⟨i1, i2⟩ := aNmL_ok h n (l := q)
    unfold aNmL
    split
    · rename_i hc
      obtain ⟨b1, b2⟩ := aBd_get h hc.2
      refine ⟨?_, fun hw => i2 (fun y hy => hw y (List.mem_cons_of_mem _ hy))⟩
      have : (B.getD t.2 (0, 0)).1 = r t.2 := by omega
      unfold aEv at i1 ⊢
      dsimp only
      rw [this]
      show _ = t.1 * r t.2 + aS1 r q
      omega
    · refine ⟨?_, fun hw => ?_⟩
      · unfold aEv at i1 ⊢
        show (aNmL B q).1 + (t.1 * r t.2 + aS1 r (aNmL B q).2) = t.1 * r t.2 + aS1 r q
        omega
      · intro y hy
        rcases List.mem_cons.mp hy with rfl | hy
        · exact hw _ List.mem_cons_self
        · exact i2 (fun y hy => hw y (List.mem_cons_of_mem _ hy)) y hy
theorem aNm_ev {B : aB} {r : Nat → Int} (h : aBd B r) (e : aX) : aEv r (aNm B e) = aEv r e := by
  have := (aNmL_ok h 0 (l := e.2)).1
  unfold aEv at this ⊢
  unfold aNm
  dsimp only
  omega
theorem aNm_wf {B : aB} {r : Nat → Int} (h : aBd B r) {n : Nat} {e : aX} (hw : aWf n e) : aWf n (aNm B e) := (aNmL_ok h n (l := e.2)).2 hw
end
section
/-! the types of the cells, behind the two constructors: (class, length, ranges (from, to, sort, least, greatest)) -/
abbrev aRg : Type := Nat × Nat × Nat × Int × Int
abbrev aTy : Type := Nat × Nat × List aRg
def aDs : List Int := [0, 1, 2, 3, 4, 5, 8, 9, 10, 11, 12, 13, 16, 17, 18, 19, 20, 21, 24, 25, 26, 27, 28, 29, 32, 33, 34, 35, 36, 37, 40, 41, 42, 43, 44, 45, 64, 65, 66, 67, 68, 69, 72, 73, 74, 75, 76, 77, 80, 81, 82, 83, 84, 85, 88, 89, 90, 91, 92, 93, 96, 97, 98, 99, 100, 101, 104, 105, 106, 107, 108, 109, 128, 129, 130, 131, 132, 133, 136, 137, 138, 139, 140, 141, 144, 145, 146, 147, 148, 149, 152, 153, 154, 155, 156, 157, 160, 161, 162, 163, 164, 165, 168, 169, 170, 171, 172, 173]
def aT : List aTy := [(0, 12, [(0, 0, 2, 1, 0), (1, 1, 2, 2, 0), (2, 2, 2, 3, 0), (3, 3, 2, 7, 0), (4, 4, 2, 8, 0), (5, 5, 2, 13, 0), (6, 6, 2, 17, 0), (7, 7, 2, 20, 0), (8, 8, 0, (-2147483648), 2147483647), (9, 9, 0, (-2147483648), 2147483647), (10, 10, 1, (-9223372036854775808), 9223372036854775807), (11, 11, 1, (-9223372036854775808), 9223372036854775807)]), (53, 6, [(0, 0, 2, 21, 0), (1, 1, 2, 23, 0), (2, 2, 2, 25, 0), (3, 3, 2, 27, 0), (4, 4, 2, 29, 0), (5, 5, 2, 31, 0)]), (54, 4, [(0, 0, 2, 33, 0), (1, 1, 2, 35, 0), (2, 2, 2, 37, 0), (3, 3, 2, 39, 0)]), (1, 7, [(0, 0, 2, 4, 0), (1, 1, 2, 5, 0), (2, 2, 2, 6, 0), (3, 3, 0, 0, 6), (4, 4, 0, 0, 63), (5, 5, 0, 0, 40), (6, 6, 1, (-9223372036854775808), 9223372036854775807)]), (50, 6, [(0, 5, 0, 0, 5)]), (50, 36, [(0, 35, 0, 0, 9)]), (50, 40, [(0, 39, 3, 0, 0)]), (55, 3, [(0, 0, 2, 41, 0), (1, 1, 2, 45, 0), (2, 2, 2, 49, 0)]), (2, 2, [(0, 0, 2, 9, 0), (1, 1, 0, (-2147483648), 2147483647)]), (1, 7, [(0, 0, 2, 10, 0), (1, 1, 2, 11, 0), (2, 2, 2, 12, 0), (3, 3, 0, 0, 6), (4, 4, 0, 0, 63), (5, 5, 0, 0, 40), (6, 6, 1, (-9223372036854775808), 9223372036854775807)]), (50, 6, [(0, 5, 0, 0, 5)]), (50, 36, [(0, 35, 0, 0, 9)]), (50, 40, [(0, 39, 3, 0, 0)]), (3, 4, [(0, 0, 2, 14, 0), (1, 1, 2, 15, 0), (2, 2, 2, 16, 0), (3, 3, 0, (-2147483648), 2147483647)]), (50, 64, [(0, 63, 0, 0, 15)]), (50, 1024, [(0, 1023, 0, 0, 1023)]), (50, 1024, [(0, 1023, 0, (-2147483648), 2147483647)]), (4, 2, [(0, 0, 2, 18, 0), (1, 1, 2, 19, 0)]), (50, 55, [(0, 54, 0, 0, 100)]), (50, 55, [(0, 54, 0, 0, 100)]), (50, 6, [(0, 5, 0, (-2147483648), 2147483647)]), (5, 2, [(0, 0, 2, 22, 0), (1, 1, 0, (-1), 40)]), (50, 40, [(0, 39, 0, (-2147483648), 2147483647)]), (5, 2, [(0, 0, 2, 24, 0), (1, 1, 0, (-1), 40)]), (50, 40, [(0, 39, 0, (-2147483648), 2147483647)]), (5, 2, [(0, 0, 2, 26, 0), (1, 1, 0, (-1), 40)]), (50, 40, [(0, 39, 0, (-2147483648), 2147483647)]), (5, 2, [(0, 0, 2, 28, 0), (1, 1, 0, (-1), 40)]), (50, 40, [(0, 39, 0, (-2147483648), 2147483647)]), (5, 2, [(0, 0, 2, 30, 0), (1, 1, 0, (-1), 40)]), (50, 40, [(0, 39, 0, (-2147483648), 2147483647)]), (5, 2, [(0, 0, 2, 32, 0), (1, 1, 0, (-1), 40)]), (50, 40, [(0, 39, 0, (-2147483648), 2147483647)]), (6, 2, [(0, 0, 2, 34, 0), (1, 1, 0, (-1), 60)]), (51, 60, [(0, 59, 0, (-128), 127)]), (6, 2, [(0, 0, 2, 36, 0), (1, 1, 0, (-1), 60)]), (51, 60, [(0, 59, 0, (-128), 127)]), (6, 2, [(0, 0, 2, 38, 0), (1, 1, 0, (-1), 60)]), (51, 60, [(0, 59, 0, (-128), 127)]), (6, 2, [(0, 0, 2, 40, 0), (1, 1, 0, (-1), 60)]), (51, 60, [(0, 59, 0, (-128), 127)]), (1, 7, [(0, 0, 2, 42, 0), (1, 1, 2, 43, 0), (2, 2, 2, 44, 0), (3, 3, 0, 0, 6), (4, 4, 0, 0, 63), (5, 5, 0, 0, 40), (6, 6, 1, (-9223372036854775808), 9223372036854775807)]), (50, 6, [(0, 5, 0, 0, 5)]), (50, 36, [(0, 35, 0, 0, 9)]), (50, 40, [(0, 39, 3, 0, 0)]), (1, 7, [(0, 0, 2, 46, 0), (1, 1, 2, 47, 0), (2, 2, 2, 48, 0), (3, 3, 0, 0, 6), (4, 4, 0, 0, 63), (5, 5, 0, 0, 40), (6, 6, 1, (-9223372036854775808), 9223372036854775807)]), (50, 6, [(0, 5, 0, 0, 5)]), (50, 36, [(0, 35, 0, 0, 9)]), (50, 40, [(0, 39, 3, 0, 0)]), (1, 7, [(0, 0, 2, 50, 0), (1, 1, 2, 51, 0), (2, 2, 2, 52, 0), (3, 3, 0, 0, 6), (4, 4, 0, 0, 63), (5, 5, 0, 0, 40), (6, 6, 1, (-9223372036854775808), 9223372036854775807)]), (50, 6, [(0, 5, 0, 0, 5)]), (50, 36, [(0, 35, 0, 0, 9)]), (50, 40, [(0, 39, 3, 0, 0)]), (7, 21, [(0, 0, 2, 54, 0), (1, 1, 2, 55, 0), (2, 2, 2, 56, 0), (3, 3, 2, 57, 0), (4, 4, 2, 58, 0), (5, 5, 2, 59, 0), (6, 6, 2, 60, 0), (7, 7, 2, 61, 0), (8, 8, 0, (-2147483648), 2147483647), (9, 9, 1, (-9223372036854775808), 9223372036854775807), (10, 10, 1, (-9223372036854775808), 9223372036854775807), (11, 11, 0, (-2147483648), 2147483647), (12, 12, 2, 62, 0), (13, 13, 0, 0, 61), (14, 14, 0, (-2147483648), 2147483647), (15, 15, 2, 63, 0), (16, 16, 2, 64, 0), (17, 17, 2, 65, 0), (18, 18, 2, 66, 0), (19, 19, 2, 67, 0), (20, 20, 2, 68, 0)]), (50, 6, [(0, 5, 0, (-1), 40)]), (50, 240, [(0, 239, 0, (-2147483648), 2147483647)]), (50, 4, [(0, 3, 0, (-1), 60)]), (50, 240, [(0, 239, 0, (-128), 127)]), (50, 201, [(0, 0, 0, 0, 6), (1, 6, 0, 0, 5), (7, 42, 0, 0, 9), (43, 43, 0, 0, 63), (44, 79, 0, 0, 1), (80, 80, 0, 0, 40), (81, 200, 0, 0, 5)]), (50, 201, [(0, 0, 0, 0, 6), (1, 6, 0, 0, 5), (7, 42, 0, 0, 9), (43, 43, 0, 0, 63), (44, 79, 0, 0, 1), (80, 80, 0, 0, 40), (81, 200, 0, 0, 5)]), (50, 603, [(0, 0, 0, 0, 6), (1, 6, 0, 0, 5), (7, 42, 0, 0, 9), (43, 43, 0, 0, 63), (44, 79, 0, 0, 1), (80, 80, 0, 0, 40), (81, 200, 0, 0, 5), (201, 201, 0, 0, 6), (202, 207, 0, 0, 5), (208, 243, 0, 0, 9), (244, 244, 0, 0, 63), (245, 280, 0, 0, 1), (281, 281, 0, 0, 40), (282, 401, 0, 0, 5), (402, 402, 0, 0, 6), (403, 408, 0, 0, 5), (409, 444, 0, 0, 9), (445, 445, 0, 0, 63), (446, 481, 0, 0, 1), (482, 482, 0, 0, 40), (483, 602, 0, 0, 5)]), (52, 3, [(0, 2, 0, 0, 1)]), (50, 6, [(0, 5, 0, (-2147483648), 2147483647)]), (50, 1024, [(0, 1023, 0, 0, 1000000)]), (50, 64, [(0, 63, 0, 0, 15)]), (50, 6, [(0, 5, 0, 0, 5)]), (50, 5, [(0, 4, 0, 0, 63)]), (50, 5, [(0, 4, 0, (-1), 7)]), (50, 5, [(0, 4, 0, (-2147483648), 2147483647)])]
def aCvB : Bool := aT.all (fun t => (List.range t.2.1).all (fun j => t.2.2.any (fun g => decide (g.1 ≤ j) && decide (j ≤ g.2.1))))
theorem aCv : aCvB = true := by decide +kernel
theorem aCv_at {a : Nat} {t : aTy} (h : aT[a]? = some t) {j : Nat} (hj : j < t.2.1) : ∃ g ∈ t.2.2, g.1 ≤ j ∧ j ≤ g.2.1 := by
  have h1 := List.all_eq_true.mp (List.all_eq_true.mp aCv t (List.mem_of_getElem? h)) j (List.mem_range.mpr hj)
  obtain ⟨g, hg, h2⟩ := List.any_eq_true.mp h1
  rw [Bool.and_eq_true] at h2
  exact ⟨g, hg, of_decide_eq_true h2.1, of_decide_eq_true h2.2⟩
end
section
/-! reading and writing cells, in the analyser -/
/-- a number is worked out before it is used, so that what hangs on it is worked out once -/
def aFn {α : Type} (n : Nat) (g : Nat → α) : α := match n with
  | 0 => g 0
  | m + 1 => g (m + 1)
theorem aFn_eq {α : Type} (n : Nat) (g : Nat → α) : aFn n g = g n := by cases n <;> rfl
def aOp {α : Type} (o : Option α) : Option α := match o with
  | some x => some x
  | none => none
theorem aOp_eq {α : Type} (o : Option α) : aOp o = o := by cases o <;> rfl
def aTq (a : Nat) : Option aTy := aFn a (fun a => aOp aT[a]?)
theorem aTq_eq (a : Nat) : aTq a = aT[a]? := (aFn_eq a _).trans (aOp_eq _)
def aIsT (g : aRg) (w : Value) : Prop := match g.2.2.1 with
  | 0 => ∃ z : Int32, w = .int z ∧ g.2.2.2.1 ≤ z.toInt ∧ z.toInt ≤ g.2.2.2.2
  | 1 => ∃ z : Int64, w = .long z ∧ g.2.2.2.1 ≤ z.toInt ∧ z.toInt ≤ g.2.2.2.2
  | 2 => w = .ref g.2.2.2.1.toNat
  | _ => ∃ z : Int32, w = .int z ∧ z.toInt ∈ aDs
def aHp (h : mH) : Prop := h.length = aT.length ∧ ∀ (a : Nat) (t : aTy) (q : mC), aT[a]? = some t → h[a]? = some q → q.1 = t.1 ∧ q.2.length = t.2.1 ∧ ∀ g ∈ t.2.2, ∀ (j : Nat) (w : Value), g.1 ≤ j → j ≤ g.2.1 → q.2[j]? = some w → aIsT g w
theorem aHp_at {h : mH} (hh : aHp h) {a : Nat} {t : aTy} (ht : aT[a]? = some t) : ∃ q, h[a]? = some q ∧ q.1 = t.1 ∧ q.2.length = t.2.1 ∧ ∀ g ∈ t.2.2, ∀ (j : Nat) (w : Value), g.1 ≤ j → j ≤ g.2.1 → q.2[j]? = some w → aIsT g w := by
  have h1 : a < h.length := by rw [hh.1]; exact (List.getElem?_eq_some_iff.mp ht).1
  have h2 : h[a]? = some h[a] := List.getElem?_eq_getElem h1
  exact ⟨h[a], h2, hh.2 a t _ ht h2⟩
def aRgs (t : aTy) (lo hi : Int) : List aRg := t.2.2.filter (fun g => decide ((g.1 : Int) ≤ hi) && decide (lo ≤ (g.2.1 : Int)))
def aMin (g : aRg) : List aRg → Int
  | [] => g.2.2.2.1
  | q :: r => min q.2.2.2.1 (aMin g r)
def aMax (g : aRg) : List aRg → Int
  | [] => g.2.2.2.2
  | q :: r => max q.2.2.2.2 (aMax g r)
theorem aMin_le (g : aRg) : ∀ (l : List aRg), aMin g l ≤ g.2.2.2.1 ∧ ∀ q ∈ l, aMin g l ≤ q.2.2.2.1
  | [] => ⟨Int.le_refl _, fun q hq => by cases hq⟩
  | p :: r => by
    obtain ⟨h1, h2⟩ := aMin_le g r
    show min _ _ ≤ _ ∧ ∀ q ∈ p :: r, min _ _ ≤ _
    refine ⟨by omega, fun q hq => ?_⟩
    rcases List.mem_cons.mp hq with rfl | hq
    · omega
    · have := h2 q hq; omega
theorem aMax_ge (g : aRg) : ∀ (l : List aRg), g.2.2.2.2 ≤ aMax g l ∧ ∀ q ∈ l, q.2.2.2.2 ≤ aMax g l
  | [] => ⟨Int.le_refl _, fun q hq => by cases hq⟩
  | p :: r => by
    obtain ⟨h1, h2⟩ := aMax_ge g r
    show _ ≤ max _ _ ∧ ∀ q ∈ p :: r, _ ≤ max _ _
    refine ⟨by omega, fun q hq => ?_⟩
    rcases List.mem_cons.mp hq with rfl | hq
    · omega
    · have := h2 q hq; omega
def aGc : Nat := 24
def aAdG (S : aSt) (a : Nat) (ix : aX) (v : aV) : aSt := (S.1, S.2.1, (a, ix, v) :: S.2.2.1.take aGc, S.2.2.2)
def aEq2 (S : aSt) (e : aX) (j : Int) : Option aSt := match aAs S (aSb e (aK j)) with
  | some S1 => aAs S1 (aSb (aK j) e)
  | none => none
def aRdF (S : aSt) (t : aTy) (ix : aX) : Nat → Int → List (aSt × aV)
  | 0, _ => []
  | n + 1, j => match aEq2 S ix j with
    | some S1 => (S1, (2, aK 0, ((aRgs t j j).headD (0, 0, 0, 0, 0)).2.2.2.1.toNat)) :: aRdF S t ix n (j + 1)
    | none => aRdF S t ix n (j + 1)
def aRd (S : aSt) (a : Nat) (ix0 : aX) : Option (List (aSt × aV)) := match aTq a with
  | none => none
  | some t => if (aPr S (aNm S.1 ix0) && aPr S (aSb (aK ((t.2.1 : Int) - 1)) (aNm S.1 ix0))) = true then
      (match S.2.2.1.find? (fun g => g.1 == a && aNm S.1 (aSb g.2.1 (aNm S.1 ix0)) == (0, [])) with
      | some g => some [(S, g.2.2)]
      | none => match aRgs t (max (aLo S.1 (aNm S.1 ix0)) 0) (min (aHj S.1 (aNm S.1 ix0)) ((t.2.1 : Int) - 1)) with
        | [] => none
        | g :: gs => if gs.all (fun q => q.2.2.1 == g.2.2.1) = true then
            (if g.2.2.1 = 0 ∨ g.2.2.1 = 1 then some [(aAdG (aNw S (aMin g gs) (aMax g gs)) a (aNm S.1 ix0) (g.2.2.1, aVr S.1.length, 0), (g.2.2.1, aVr S.1.length, 0))]
            else if g.2.2.1 = 2 then some (aRdF S t (aNm S.1 ix0) (min (aHj S.1 (aNm S.1 ix0)) ((t.2.1 : Int) - 1) - max (aLo S.1 (aNm S.1 ix0)) 0 + 1).toNat (max (aLo S.1 (aNm S.1 ix0)) 0))
            else if g.2.2.1 = 3 then some (aDs.map (fun d => (aAdG S a (aNm S.1 ix0) (0, aK d, 0), (0, aK d, 0)))) else none) else none) else none
def aLe (n : Nat) (r : Nat → Int) (n1 : Nat) (r1 : Nat → Int) : Prop := ∀ v w, aVs n r v w → aVs n1 r1 v w
theorem aLe.rf {n : Nat} {r : Nat → Int} : aLe n r n r := fun _ _ h => h
theorem aAdG_ok {r : Nat → Int} {S : aSt} {m0 : Int} {h : mH} {a j : Nat} {ix : aX} {v : aV} {w : Value} (hS : aOk r S m0 h) (hw : aWf S.1.length ix) (he : aEv r ix = (j : Int)) (hs : aSlot h a j = some w) (hv : aVs S.1.length r v w) : aOk r (aAdG S a ix v) m0 h := by
  obtain ⟨hB, hC, hG, hO⟩ := hS
  refine ⟨hB, hC, ?_, hO⟩
  intro g hg
  rcases List.mem_cons.mp hg with rfl | hg
  · exact ⟨hw, j, w, he, hs, hv⟩
  · exact hG g (List.mem_of_mem_take hg)
theorem aEq2_ok {r : Nat → Int} {S : aSt} {m0 : Int} {h : mH} {e : aX} {j : Int} (hS : aOk r S m0 h) (hw : aWf S.1.length e) (he : aEv r e = j) : ∃ S1, aEq2 S e j = some S1 ∧ aOk r S1 m0 h ∧ S1.1.length = S.1.length := by
  obtain ⟨S1, h1, h2, h3⟩ := aAs_ok (e := aSb e (aK j)) hS (aSb_wf hw (aK_wf _ _)) (by rw [aSb_ev, aK_ev]; omega)
  obtain ⟨S2, h4, h5, h6⟩ := aAs_ok (e := aSb (aK j) e) h2 (by rw [h3]; exact aSb_wf (aK_wf _ _) hw) (by rw [aSb_ev, aK_ev]; omega)
  refine ⟨S2, ?_, h5, h6.trans h3⟩
  unfold aEq2
  rw [h1]
  exact h4
theorem aRdF_mem {r : Nat → Int} {S : aSt} {m0 : Int} {h : mH} {t : aTy} {ix : aX} (hS : aOk r S m0 h) (hw : aWf S.1.length ix) : ∀ (n : Nat) (k : Int), k ≤ aEv r ix → aEv r ix < k + n → ∃ S1, aOk r S1 m0 h ∧ S1.1.length = S.1.length ∧ (S1, ((2, aK 0, ((aRgs t (aEv r ix) (aEv r ix)).headD (0, 0, 0, 0, 0)).2.2.2.1.toNat) : aV)) ∈ aRdF S t ix n k := by
  intro n
  induction n with
  | zero => intro k h1 h2; omega
  | succ n ih =>
    intro k h1 h2
    unfold aRdF
    by_cases e : aEv r ix = k
    · obtain ⟨S1, q1, q2, q3⟩ := aEq2_ok hS hw e
      rw [q1]
      refine ⟨S1, q2, q3, ?_⟩
      dsimp only
      rw [e]
      exact List.mem_cons_self
    · obtain ⟨S1, q1, q2, q3⟩ := ih (k + 1) (by omega) (by omega)
      split
      · exact ⟨S1, q1, q2, List.mem_cons_of_mem _ q3⟩
      · exact ⟨S1, q1, q2, q3⟩
theorem aRgs_mem {t : aTy} {lo hi : Int} {g : aRg} {j : Nat} (hg : g ∈ t.2.2) (h1 : g.1 ≤ j) (h2 : j ≤ g.2.1) (h3 : lo ≤ (j : Int)) (h4 : (j : Int) ≤ hi) : g ∈ aRgs t lo hi := by
  refine List.mem_filter.mpr ⟨hg, ?_⟩
  simp only [Bool.and_eq_true, decide_eq_true_eq]
  omega
theorem aRgs_in {t : aTy} {j : Nat} {g : aRg} (hg : g ∈ aRgs t j j) : g ∈ t.2.2 ∧ g.1 ≤ j ∧ j ≤ g.2.1 := by
  obtain ⟨h1, h2⟩ := List.mem_filter.mp hg
  simp only [Bool.and_eq_true, decide_eq_true_eq] at h2
  exact ⟨h1, by omega, by omega⟩
set_option maxHeartbeats 1000000 in
theorem aRd_ok {r : Nat → Int} {S : aSt} {m0 : Int} {h : mH} {a : Nat} {ix0 : aX} {l : List (aSt × aV)} (hS : aOk r S m0 h) (hh : aHp h) (hw0 : aWf S.1.length ix0) (hr : aRd S a ix0 = some l) :
    ∃ (t : aTy) (q : mC) (j : Nat) (w : Value), aT[a]? = some t ∧ h[a]? = some q ∧ q.1 = t.1 ∧ q.2.length = t.2.1 ∧ aEv r ix0 = (j : Int) ∧ q.2[j]? = some w ∧ ∃ p ∈ l, ∃ r1, aOk r1 p.1 m0 h ∧ aVs p.1.1.length r1 p.2 w ∧ aLe S.1.length r p.1.1.length r1 := by
  unfold aRd at hr
  rw [aTq_eq] at hr
  split at hr
  · cases hr
  · rename_i t ht
    split at hr
    · rename_i hc
      rw [Bool.and_eq_true] at hc
      have hev := aNm_ev hS.1 ix0
      have hw := aNm_wf hS.1 hw0
      generalize aNm S.1 ix0 = ix at hr hc hev hw
      have p1 := aPr_ok hS hw hc.1
      have p2 := aPr_ok hS (aSb_wf (aK_wf _ _) hw) hc.2
      rw [aSb_ev, aK_ev] at p2
      obtain ⟨q, e1, e2, e3, e4⟩ := aHp_at hh ht
      obtain ⟨j, hj⟩ : ∃ j : Nat, aEv r ix = (j : Int) := ⟨(aEv r ix).toNat, by omega⟩
      have hjl : j < q.2.length := by omega
      have hq : q.2[j]? = some q.2[j] := List.getElem?_eq_getElem hjl
      have hsl : aSlot h a j = some q.2[j] := by unfold aSlot; rw [e1]; exact hq
      refine ⟨t, q, j, q.2[j], ht, e1, e2, e3, by rw [← hev]; exact hj, hq, ?_⟩
      split at hr
      · rename_i g hg
        cases hr
        have g1 := List.find?_some hg
        have g2 := List.mem_of_find?_eq_some hg
        rw [Bool.and_eq_true] at g1
        obtain ⟨x1, k, w, x2, x3, x4⟩ := hS.2.2.1 g g2
        have x5 : g.1 = a := by simpa using g1.1
        have x6 : aNm S.1 (aSb g.2.1 ix) = (0, []) := by simpa using g1.2
        have x7 : aEv r (aSb g.2.1 ix) = 0 := by
          rw [← aNm_ev hS.1, x6]
          rfl
        rw [aSb_ev] at x7
        have x8 : k = j := by omega
        subst x8
        rw [x5, hsl] at x3
        cases x3
        exact ⟨_, List.mem_cons_self, r, hS, x4, aLe.rf⟩
      · split at hr
        · cases hr
        · rename_i g gs hgs
          split at hr
          · rename_i hk
            have l1 := aLo_le hS.1 hw
            have l2 := aHj_ge hS.1 hw
            obtain ⟨g0, c1, c2, c3⟩ := aCv_at ht (show j < t.2.1 by omega)
            have c4 := aRgs_mem (lo := max (aLo S.1 ix) 0) (hi := min (aHj S.1 ix) ((t.2.1 : Int) - 1)) c1 c2 c3 (by omega) (by omega)
            have hT := e4 g0 c1 j q.2[j] c2 c3 hq
            have hkk : g0.2.2.1 = g.2.2.1 := by
              rw [hgs] at c4
              rcases List.mem_cons.mp c4 with rfl | c5
              · rfl
              · simpa using List.all_eq_true.mp hk g0 c5
            have hlo : aMin g gs ≤ g0.2.2.2.1 ∧ g0.2.2.2.2 ≤ aMax g gs := by
              rw [hgs] at c4
              rcases List.mem_cons.mp c4 with rfl | c5
              · exact ⟨(aMin_le _ gs).1, (aMax_ge _ gs).1⟩
              · exact ⟨(aMin_le g gs).2 g0 c5, (aMax_ge g gs).2 g0 c5⟩
            split at hr
            · rename_i hk01
              cases hr
              refine ⟨_, List.mem_cons_self, ?_⟩
              rcases hk01 with k0 | k0
              · unfold aIsT at hT
                rw [hkk, k0] at hT
                obtain ⟨z, z1, z2, z3⟩ := hT
                refine ⟨aUp r S.1.length z.toInt, ?_, ?_, fun v w hv => ?_⟩
                · refine aAdG_ok (w := q.2[j]) (aNw_ok hS (by omega) (by omega)) (by rw [aNw_len]; exact hw.up (Nat.le_succ _)) (by rw [aEv_up hw]; exact hj) hsl ?_
                  rw [aNw_len]
                  refine ⟨aVr_wf (Nat.lt_succ_self _), ?_⟩
                  rw [k0]
                  exact ⟨z, z1, by rw [aVr_ev, aUp_self]⟩
                · show aVs (aNw S _ _).1.length _ _ _
                  rw [aNw_len]
                  refine ⟨aVr_wf (Nat.lt_succ_self _), ?_⟩
                  rw [k0]
                  exact ⟨z, z1, by rw [aVr_ev, aUp_self]⟩
                · show aVs (aNw S _ _).1.length _ _ _
                  rw [aNw_len]
                  exact hv.up
              · unfold aIsT at hT
                rw [hkk, k0] at hT
                obtain ⟨z, z1, z2, z3⟩ := hT
                refine ⟨aUp r S.1.length z.toInt, ?_, ?_, fun v w hv => ?_⟩
                · refine aAdG_ok (w := q.2[j]) (aNw_ok hS (by omega) (by omega)) (by rw [aNw_len]; exact hw.up (Nat.le_succ _)) (by rw [aEv_up hw]; exact hj) hsl ?_
                  rw [aNw_len]
                  refine ⟨aVr_wf (Nat.lt_succ_self _), ?_⟩
                  rw [k0]
                  exact ⟨z, z1, by rw [aVr_ev, aUp_self]⟩
                · show aVs (aNw S _ _).1.length _ _ _
                  rw [aNw_len]
                  refine ⟨aVr_wf (Nat.lt_succ_self _), ?_⟩
                  rw [k0]
                  exact ⟨z, z1, by rw [aVr_ev, aUp_self]⟩
                · show aVs (aNw S _ _).1.length _ _ _
                  rw [aNw_len]
                  exact hv.up
            · split at hr
              · rename_i k2
                cases hr
                obtain ⟨S1, s1, s2, s3⟩ := aRdF_mem (t := t) hS hw (min (aHj S.1 ix) ((t.2.1 : Int) - 1) - max (aLo S.1 ix) 0 + 1).toNat (max (aLo S.1 ix) 0) (by omega) (by omega)
                refine ⟨_, s3, r, s1, ?_, by rw [s2]; exact aLe.rf⟩
                refine ⟨aK_wf _ _, ?_⟩
                show q.2[j] = .ref _
                rw [hj]
                have c6 := aRgs_mem (lo := (j : Int)) (hi := (j : Int)) c1 c2 c3 (Int.le_refl _) (Int.le_refl _)
                match hm : aRgs t j j, c6 with
                | g2 :: rest, _ =>
                  have c7 : g2 ∈ aRgs t j j := by rw [hm]; exact List.mem_cons_self
                  obtain ⟨d1, d2, d3⟩ := aRgs_in c7
                  have hT2 := e4 g2 d1 j q.2[j] d2 d3 hq
                  have c8 := aRgs_mem (lo := max (aLo S.1 ix) 0) (hi := min (aHj S.1 ix) ((t.2.1 : Int) - 1)) d1 d2 d3 (by omega) (by omega)
                  have hk2 : g2.2.2.1 = g.2.2.1 := by
                    rw [hgs] at c8
                    rcases List.mem_cons.mp c8 with rfl | c5
                    · rfl
                    · simpa using List.all_eq_true.mp hk g2 c5
                  unfold aIsT at hT2
                  rw [hk2, k2] at hT2
                  exact hT2
              · split at hr
                · rename_i k3
                  cases hr
                  unfold aIsT at hT
                  rw [hkk, k3] at hT
                  obtain ⟨z, z1, z2⟩ := hT
                  have hv : aVs S.1.length r ((0, aK z.toInt, 0) : aV) q.2[j] := ⟨aK_wf _ _, z, z1, by rw [aK_ev]⟩
                  exact ⟨_, List.mem_map.mpr ⟨z.toInt, z2, rfl⟩, r, aAdG_ok hS hw hj hsl hv, hv, aLe.rf⟩
                · cases hr
          · cases hr
    · cases hr
end
section
/-! writing cells, in the analyser -/
def aFit (S : aSt) (v : aV) (g : aRg) : Bool := match g.2.2.1 with
  | 0 => v.1 == 0 && (aPr S (aSb v.2.1 (aK g.2.2.2.1)) && aPr S (aSb (aK g.2.2.2.2) v.2.1))
  | 1 => v.1 == 1 && (aPr S (aSb v.2.1 (aK g.2.2.2.1)) && aPr S (aSb (aK g.2.2.2.2) v.2.1))
  | 2 => false
  | _ => v.1 == 0 && (v.2.1.2.isEmpty && aDs.contains v.2.1.1)
/-- what is left of the measure behind a store -/
def aOw (S : aSt) (a : Nat) (ix : aX) (v : aV) : aX := if a = 63 then (match S.2.2.1.find? (fun g => g.1 == a && (g.2.2.1 == 0 && aNm S.1 (aSb g.2.1 ix) == (0, []))) with
  | some g => aAd S.2.2.2 (aSc aKap (aSb g.2.2.2.1 v.2.1))
  | none => aSb S.2.2.2 (aSc aKap v.2.1)) else S.2.2.2
def aWr (S : aSt) (a : Nat) (ix0 : aX) (v : aV) : Option aSt := match aTq a with
  | none => none
  | some t => if (aPr S (aNm S.1 ix0) && (aPr S (aSb (aK ((t.2.1 : Int) - 1)) (aNm S.1 ix0)) && (aRgs t (max (aLo S.1 (aNm S.1 ix0)) 0) (min (aHj S.1 (aNm S.1 ix0)) ((t.2.1 : Int) - 1))).all (aFit S v))) = true then
      some (S.1, S.2.1, (a, aNm S.1 ix0, v) :: (S.2.2.1.take aGc).filter (fun g => g.1 != a || (decide (0 < aLo S.1 (aSb g.2.1 (aNm S.1 ix0))) || decide (aHj S.1 (aSb g.2.1 (aNm S.1 ix0)) < 0))), aOw S a (aNm S.1 ix0) v) else none
theorem aFit_ok {r : Nat → Int} {S : aSt} {m0 : Int} {h : mH} {v : aV} {w : Value} {g : aRg} (hS : aOk r S m0 h) (hv : aVs S.1.length r v w) (hf : aFit S v g = true) : aIsT g w := by
  unfold aFit at hf
  unfold aIsT
  obtain ⟨hw, hv⟩ := hv
  split at hf
  · rename_i hk
    simp only [Bool.and_eq_true, beq_iff_eq] at hf
    obtain ⟨h0, h1, h2⟩ := hf
    rw [h0] at hv
    obtain ⟨z, z1, z2⟩ := hv
    have p1 := aPr_ok hS (aSb_wf hw (aK_wf _ _)) h1
    have p2 := aPr_ok hS (aSb_wf (aK_wf _ _) hw) h2
    rw [aSb_ev, aK_ev] at p1 p2
    rw [hk]
    exact ⟨z, z1, by omega, by omega⟩
  · rename_i hk
    simp only [Bool.and_eq_true, beq_iff_eq] at hf
    obtain ⟨h0, h1, h2⟩ := hf
    rw [h0] at hv
    obtain ⟨z, z1, z2⟩ := hv
    have p1 := aPr_ok hS (aSb_wf hw (aK_wf _ _)) h1
    have p2 := aPr_ok hS (aSb_wf (aK_wf _ _) hw) h2
    rw [aSb_ev, aK_ev] at p1 p2
    rw [hk]
    exact ⟨z, z1, by omega, by omega⟩
  · cases hf
  · rename_i k0 k1 k2
    simp only [Bool.and_eq_true, beq_iff_eq] at hf
    obtain ⟨h0, h1, h2⟩ := hf
    rw [h0] at hv
    obtain ⟨z, z1, z2⟩ := hv
    have h3 : aEv r v.2.1 = v.2.1.1 := by
      unfold aEv
      rw [List.isEmpty_iff.mp h1]
      simp [aS1]
    split
    · rename_i q; exact absurd q k0
    · rename_i q; exact absurd q k1
    · rename_i q; exact absurd q k2
    · exact ⟨z, z1, by rw [z2, h3]; simpa using h2⟩
theorem aSlot_set {h : mH} {a j : Nat} {q : mC} {w : Value} (hq : h[a]? = some q) (b n : Nat) : aSlot (h.set a (q.1, q.2.set j w)) b n = if b = a ∧ n = j then (if j < q.2.length then some w else none) else aSlot h b n := by
  unfold aSlot
  by_cases hb : b = a
  · subst hb
    rw [List.getElem?_set_self (List.getElem?_eq_some_iff.mp hq).1, hq]
    dsimp only
    by_cases hn : n = j
    · subst hn
      rw [if_pos ⟨rfl, rfl⟩, List.getElem?_set]
      simp
    · rw [if_neg (fun z => hn z.2), List.getElem?_set_ne (Ne.symm hn)]
  · rw [if_neg (fun z => hb z.1), List.getElem?_set_ne (Ne.symm hb)]
theorem aSum_set : ∀ (l : List Value) (j : Nat) (w old : Value), l[j]? = some old → ((l.set j w).map aIv).sum = (l.map aIv).sum - aIv old + aIv w
  | [], j, w, old, h => by simp at h
  | u :: l, 0, w, old, h => by
    have : u = old := by simpa using h
    subst this
    simp only [List.set_cons_zero, List.map_cons, List.sum_cons]
    omega
  | u :: l, j + 1, w, old, h => by
    have ih := aSum_set l j w old (by simpa using h)
    simp only [List.set_cons_succ, List.map_cons, List.sum_cons]
    omega
theorem aPh_set {h : mH} {a j : Nat} {q : mC} {w old : Value} (hq : h[a]? = some q) (ho : q.2[j]? = some old) : aPh (h.set a (q.1, q.2.set j w)) = if a = 63 then aPh h - aIv old + aIv w else aPh h := by
  unfold aPh
  by_cases ha : a = 63
  · subst ha
    rw [if_pos rfl, List.getElem?_set_self (List.getElem?_eq_some_iff.mp hq).1, hq]
    exact aSum_set _ _ _ _ ho
  · rw [if_neg ha, List.getElem?_set_ne ha]
theorem aT63 : aT[63]? = some ((50, 1024, [(0, 1023, 0, 0, 1000000)]) : aTy) := rfl
theorem aSum_rg : ∀ (l : List Value), (∀ w ∈ l, 0 ≤ aIv w ∧ aIv w ≤ 1000000) → 0 ≤ (l.map aIv).sum ∧ (l.map aIv).sum ≤ 1000000 * l.length
  | [], _ => by simp
  | u :: l, h => by
    have ih := aSum_rg l (fun w hw => h w (List.mem_cons_of_mem _ hw))
    have h1 := h u List.mem_cons_self
    simp only [List.map_cons, List.sum_cons, List.length_cons]
    omega
theorem aHp63 {h : mH} (hh : aHp h) : ∃ q, h[63]? = some q ∧ q.2.length = 1024 ∧ ∀ (j : Nat) (w : Value), q.2[j]? = some w → ∃ z : Int32, w = .int z ∧ 0 ≤ z.toInt ∧ z.toInt ≤ 1000000 := by
  obtain ⟨q, e1, e2, e3, e4⟩ := aHp_at hh aT63
  refine ⟨q, e1, e3, fun j w hw => ?_⟩
  have hj := (List.getElem?_eq_some_iff.mp hw).1
  have e3 : q.2.length = 1024 := e3
  exact e4 _ List.mem_cons_self j w (Nat.zero_le _) (show j ≤ 1023 by omega) hw
theorem aPh_rg {h : mH} (hh : aHp h) : 0 ≤ aPh h ∧ aPh h ≤ 1024000000 := by
  obtain ⟨q, e1, e2, e3⟩ := aHp63 hh
  unfold aPh
  rw [e1]
  dsimp only
  have h1 := aSum_rg q.2 (fun w hw => by
    obtain ⟨j, hj⟩ := List.getElem?_of_mem hw
    obtain ⟨z, rfl, z1, z2⟩ := e3 j w hj
    exact ⟨z1, z2⟩)
  rw [e2] at h1
  omega
theorem aOw_ok {r : Nat → Int} {S : aSt} {m0 : Int} {h : mH} {a j : Nat} {ix : aX} {v : aV} {w : Value} {q : mC} (hS : aOk r S m0 h) (hh : aHp h) (hq : h[a]? = some q) (hj : aEv r ix = (j : Int)) (hjl : j < q.2.length) (hw : aWf S.1.length ix) (hv : aVs S.1.length r v w) (hT : a = 63 → ∃ z : Int32, w = .int z ∧ z.toInt = aEv r v.2.1) : aWf S.1.length (aOw S a ix v) ∧ aEv r (aOw S a ix v) + aKap * aPh (h.set a (q.1, q.2.set j w)) ≤ m0 := by
  have ho : q.2[j]? = some q.2[j] := List.getElem?_eq_getElem hjl
  obtain ⟨hB, hC, hG, hO1, hO2⟩ := hS
  rw [aPh_set hq ho]
  unfold aOw
  by_cases ha : a = 63
  · rw [if_pos ha, if_pos ha]
    obtain ⟨z, rfl, hz⟩ := hT ha
    subst ha
    obtain ⟨q1, f1, f2, f3⟩ := aHp63 hh
    rw [hq] at f1
    cases f1
    obtain ⟨z0, g0, g1, g2⟩ := f3 j _ ho
    rw [g0]
    show _ ∧ _ + aKap * (aPh h - z0.toInt + z.toInt) ≤ m0
    have hk : aKap * (aPh h - z0.toInt + z.toInt) = aKap * aPh h - aKap * z0.toInt + aKap * z.toInt := by rw [Int.mul_add, Int.mul_sub]
    rw [hk]
    have hk0 : 0 ≤ aKap * z0.toInt := Int.mul_nonneg (by decide) g1
    split
    · rename_i g hg
      have x1 := List.find?_some hg
      have x2 := List.mem_of_find?_eq_some hg
      simp only [Bool.and_eq_true, beq_iff_eq] at x1
      obtain ⟨y1, y2, y3⟩ := x1
      obtain ⟨w1, k, w0, w2, w3, w4⟩ := hG g x2
      have x7 : aEv r (aSb g.2.1 ix) = 0 := by
        rw [← aNm_ev hB, y3]
        rfl
      rw [aSb_ev] at x7
      have x8 : k = j := by omega
      subst x8
      have hsl : aSlot h 63 k = some q.2[k] := by unfold aSlot; rw [hq]; exact ho
      rw [y1, hsl, g0] at w3
      cases w3
      obtain ⟨v1, v2⟩ := w4
      rw [y2] at v2
      obtain ⟨z1, z2, z3⟩ := v2
      cases z2
      refine ⟨aAd_wf hO1 (aSc_wf (aSb_wf v1 hv.1)), ?_⟩
      rw [aAd_ev, aSc_ev, aSb_ev, ← z3, ← hz, Int.mul_sub]
      omega
    · refine ⟨aSb_wf hO1 (aSc_wf hv.1), ?_⟩
      rw [aSb_ev, aSc_ev, ← hz]
      omega
  · rw [if_neg ha, if_neg ha]
    exact ⟨hO1, hO2⟩
set_option maxHeartbeats 1000000 in
theorem aWr_ok {r : Nat → Int} {S S1 : aSt} {m0 : Int} {h : mH} {a : Nat} {ix0 : aX} {v : aV} {w : Value} (hS : aOk r S m0 h) (hh : aHp h) (hw0 : aWf S.1.length ix0) (hv : aVs S.1.length r v w) (hr : aWr S a ix0 v = some S1) :
    ∃ (t : aTy) (q : mC) (j : Nat), aT[a]? = some t ∧ h[a]? = some q ∧ q.1 = t.1 ∧ q.2.length = t.2.1 ∧ aEv r ix0 = (j : Int) ∧ j < q.2.length ∧ aOk r S1 m0 (h.set a (q.1, q.2.set j w)) ∧ aHp (h.set a (q.1, q.2.set j w)) ∧ S1.1 = S.1 := by
  unfold aWr at hr
  rw [aTq_eq] at hr
  split at hr
  · cases hr
  · rename_i t ht
    split at hr
    · rename_i hc
      simp only [Bool.and_eq_true] at hc
      obtain ⟨hc1, hc2, hc3⟩ := hc
      cases hr
      have hev := aNm_ev hS.1 ix0
      have hw := aNm_wf hS.1 hw0
      generalize aNm S.1 ix0 = ix at *
      have p1 := aPr_ok hS hw hc1
      have p2 := aPr_ok hS (aSb_wf (aK_wf _ _) hw) hc2
      rw [aSb_ev, aK_ev] at p2
      obtain ⟨q, e1, e2, e3, e4⟩ := aHp_at hh ht
      obtain ⟨j, hj⟩ : ∃ j : Nat, aEv r ix = (j : Int) := ⟨(aEv r ix).toNat, by omega⟩
      have hjl : j < q.2.length := by omega
      refine ⟨t, q, j, ht, e1, e2, e3, by rw [← hev]; exact hj, hjl, ?_, ?_, rfl⟩
      · have hO := aOw_ok hS hh e1 hj hjl hw hv (fun h63 => by
          subst h63
          cases ht.symm.trans aT63
          have l1 := aLo_le hS.1 hw
          have l2 := aHj_ge hS.1 hw
          have e3 : q.2.length = 1024 := e3
          have hf := List.all_eq_true.mp hc3 (0, 1023, 0, 0, 1000000) (aRgs_mem (j := j) List.mem_cons_self (Nat.zero_le _) (show j ≤ 1023 by omega) (by omega) (show (j : Int) ≤ min (aHj S.1 ix) ((1024 : Nat) - 1) by omega))
          unfold aFit at hf
          simp only [Bool.and_eq_true, beq_iff_eq] at hf
          obtain ⟨-, hv2⟩ := hv
          rw [hf.1] at hv2
          exact hv2)
        obtain ⟨hB, hC, hG, -⟩ := hS
        refine ⟨hB, hC, ?_, hO⟩
        intro g hg
        rcases List.mem_cons.mp hg with rfl | hg
        · exact ⟨hw, j, w, hj, by rw [aSlot_set e1, if_pos ⟨rfl, rfl⟩, if_pos hjl], hv⟩
        · obtain ⟨g1, g2⟩ := List.mem_filter.mp hg
          have g1 := List.mem_of_mem_take g1
          obtain ⟨x1, k, w2, x2, x3, x4⟩ := hG g g1
          refine ⟨x1, k, w2, x2, ?_, x4⟩
          rw [aSlot_set e1, if_neg]
          · exact x3
          · rintro ⟨y1, y2⟩
            simp only [Bool.or_eq_true, bne_iff_ne, ne_eq, decide_eq_true_eq] at g2
            have l1 := aLo_le hB (aSb_wf x1 hw)
            have l2 := aHj_ge hB (aSb_wf x1 hw)
            rw [aSb_ev] at l1 l2
            rcases g2 with g2 | g2 | g2
            · exact g2 y1
            · omega
            · omega
      · refine ⟨by simp [hh.1], fun b t2 q2 ht2 hq2 => ?_⟩
        by_cases hb : b = a
        · subst hb
          rw [List.getElem?_set_self (List.getElem?_eq_some_iff.mp e1).1] at hq2
          cases hq2
          cases ht2.symm.trans ht
          refine ⟨e2, by simp [e3], fun g hg k w2 k1 k2 k3 => ?_⟩
          by_cases hkj : k = j
          · subst hkj
            rw [List.getElem?_set_self hjl] at k3
            cases k3
            have l1 := aLo_le hS.1 hw
            have l2 := aHj_ge hS.1 hw
            exact aFit_ok hS hv (List.all_eq_true.mp hc3 g (aRgs_mem hg k1 k2 (by omega) (by omega)))
          · rw [List.getElem?_set_ne (Ne.symm hkj)] at k3
            exact e4 g hg k w2 k1 k2 k3
        · rw [List.getElem?_set_ne (Ne.symm hb)] at hq2
          exact hh.2 b t2 q2 ht2 hq2
    · cases hr
/-! numbers -/
def aMi : Int := -2147483648
def aMa : Int := 2147483647
def aLi : Int := -9223372036854775808
def aLa : Int := 9223372036854775807
theorem aI_rg (x : Int32) : aMi ≤ x.toInt ∧ x.toInt ≤ aMa := by
  have h1 := Int32.le_toInt x
  have h2 := Int32.toInt_lt x
  unfold aMi aMa
  omega
theorem aL_rg (x : Int64) : aLi ≤ x.toInt ∧ x.toInt ≤ aLa := by
  have h1 := Int64.le_toInt x
  have h2 := Int64.toInt_lt x
  unfold aLi aLa
  omega
theorem bmod32 {x : Int} (h1 : aMi ≤ x) (h2 : x ≤ aMa) : x.bmod (2 ^ 32) = x := by
  unfold aMi at h1; unfold aMa at h2
  exact Int.bmod_eq_of_le (by omega) (by omega)
theorem bmod64 {x : Int} (h1 : aLi ≤ x) (h2 : x ≤ aLa) : x.bmod (2 ^ 64) = x := by
  unfold aLi at h1; unfold aLa at h2
  exact Int.bmod_eq_of_le (by omega) (by omega)
theorem aI_add {x y : Int32} (h1 : aMi ≤ x.toInt + y.toInt) (h2 : x.toInt + y.toInt ≤ aMa) : (x + y).toInt = x.toInt + y.toInt := by rw [Int32.toInt_add]; exact bmod32 h1 h2
theorem aI_sub {x y : Int32} (h1 : aMi ≤ x.toInt - y.toInt) (h2 : x.toInt - y.toInt ≤ aMa) : (x - y).toInt = x.toInt - y.toInt := by rw [Int32.toInt_sub]; exact bmod32 h1 h2
theorem aI_mul {x y : Int32} (h1 : aMi ≤ x.toInt * y.toInt) (h2 : x.toInt * y.toInt ≤ aMa) : (x * y).toInt = x.toInt * y.toInt := by rw [Int32.toInt_mul]; exact bmod32 h1 h2
theorem aI_neg {x : Int32} (h1 : aMi ≤ -x.toInt) (h2 : -x.toInt ≤ aMa) : (-x).toInt = -x.toInt := by rw [Int32.toInt_neg]; exact bmod32 h1 h2
theorem aL_add {x y : Int64} (h1 : aLi ≤ x.toInt + y.toInt) (h2 : x.toInt + y.toInt ≤ aLa) : (x + y).toInt = x.toInt + y.toInt := by rw [Int64.toInt_add]; exact bmod64 h1 h2
theorem aL_sub {x y : Int64} (h1 : aLi ≤ x.toInt - y.toInt) (h2 : x.toInt - y.toInt ≤ aLa) : (x - y).toInt = x.toInt - y.toInt := by rw [Int64.toInt_sub]; exact bmod64 h1 h2
theorem aL_mul {x y : Int64} (h1 : aLi ≤ x.toInt * y.toInt) (h2 : x.toInt * y.toInt ≤ aLa) : (x * y).toInt = x.toInt * y.toInt := by rw [Int64.toInt_mul]; exact bmod64 h1 h2
theorem aI_lit {n : Int} (h1 : aMi ≤ n) (h2 : n ≤ aMa) : (Int32.ofInt n).toInt = n := by rw [Int32.toInt_ofInt]; exact bmod32 h1 h2
theorem aL_lit {n : Int} (h1 : aLi ≤ n) (h2 : n ≤ aLa) : (Int64.ofInt n).toInt = n := by rw [Int64.toInt_ofInt]; exact bmod64 h1 h2
theorem aI_ind {x y : Int32} : x = y ↔ x.toInt = y.toInt := Int32.toInt_inj.symm
theorem aI_tdiv {x y : Int32} (h : 0 ≤ x.toInt) (hy : 0 < y.toInt) : (x / y).toInt = x.toInt / y.toInt := lg_idiv_nonneg h hy
theorem aI_rem (x y : Int32) : (x - x / y * y).toInt = x.toInt.tmod y.toInt := rem_toInt x y
theorem aL_rem (x y : Int64) : (x - x / y * y).toInt = x.toInt.tmod y.toInt := by
  have h1 : x - x / y * y = x % y := by
    apply Int64.toInt_inj.mp
    rw [Int64.toInt_sub, Int64.toInt_mul, Int64.toInt_div, Int.bmod_mul_bmod, Int.sub_bmod_bmod, Int.mul_comm (x.toInt.tdiv y.toInt), ← Int.tmod_def, ← Int64.toInt_mod]
    exact bmod64 (aL_rg _).1 (aL_rg _).2
  rw [h1, Int64.toInt_mod]
end
section
/-! what the analyser makes of a number that is worked out -/
abbrev aP : Type := aSt × aX
def aRes (r : Nat → Int) (S : aSt) (m0 : Int) (h : mH) (p : aP) (z : Int) : Prop := ∃ r1, aOk r1 p.1 m0 h ∧ aLe S.1.length r p.1.1.length r1 ∧ aWf p.1.1.length p.2 ∧ z = aEv r1 p.2
section AOPS
variable {r : Nat → Int} {S : aSt} {m0 : Int} {h : mH}
theorem aRes.keep {e : aX} {z : Int} (hS : aOk r S m0 h) (hw : aWf S.1.length e) (hz : z = aEv r e) : aRes r S m0 h (S, e) z := ⟨r, hS, aLe.rf, hw, hz⟩
theorem aRes.new {lo hi z : Int} (hS : aOk r S m0 h) (h1 : lo ≤ z) (h2 : z ≤ hi) : aRes r S m0 h (aNw S lo hi, aVr S.1.length) z := by
  refine ⟨aUp r S.1.length z, aNw_ok hS h1 h2, fun v w hv => ?_, ?_, ?_⟩
  · rw [aNw_len]; exact hv.up
  · rw [aNw_len]; exact aVr_wf (Nat.lt_succ_self _)
  · rw [aVr_ev, aUp_self]
def aAdC (S : aSt) (c : aX) : aSt := (S.1, c :: S.2.1, S.2.2)
theorem aAdC_ok {c : aX} (hS : aOk r S m0 h) (hw : aWf S.1.length c) (hc : 0 ≤ aEv r c) : aOk r (aAdC S c) m0 h := by
  obtain ⟨hB, hC, hG, hO⟩ := hS
  refine ⟨hB, ?_, hG, hO⟩
  intro d hd
  rcases List.mem_cons.mp hd with rfl | hd
  · exact ⟨hw, hc⟩
  · exact hC d hd
/-- a sum, if it doesn't wrap around -/
def aCl (S : aSt) (mi ma : Int) (e : aX) : aP := if (aPr S (aSb e (aK mi)) && aPr S (aSb (aK ma) e)) = true then (S, e) else (aNw S mi ma, aVr S.1.length)
theorem aCl_ok {mi ma z : Int} {e : aX} (hS : aOk r S m0 h) (hw : aWf S.1.length e) (h1 : mi ≤ z) (h2 : z ≤ ma) (hz : mi ≤ aEv r e → aEv r e ≤ ma → z = aEv r e) : aRes r S m0 h (aCl S mi ma e) z := by
  unfold aCl
  split
  · rename_i hc
    rw [Bool.and_eq_true] at hc
    have p1 := aPr_ok hS (aSb_wf hw (aK_wf _ _)) hc.1
    have p2 := aPr_ok hS (aSb_wf (aK_wf _ _) hw) hc.2
    rw [aSb_ev, aK_ev] at p1 p2
    exact aRes.keep hS hw (hz (by omega) (by omega))
  · exact aRes.new hS h1 h2
/-- a product -/
def aMul (S : aSt) (mi ma : Int) (x y : aX) : aP :=
  if aLo S.1 y = aHj S.1 y then aCl S mi ma (aSc (aLo S.1 y) x) else if aLo S.1 x = aHj S.1 x then aCl S mi ma (aSc (aLo S.1 x) y) else
  if 0 ≤ aLo S.1 x ∧ 0 ≤ aLo S.1 y ∧ aHj S.1 x * aHj S.1 y ≤ ma then (aNw S (aLo S.1 x * aLo S.1 y) (aHj S.1 x * aHj S.1 y), aVr S.1.length) else (aNw S mi ma, aVr S.1.length)
theorem aMul_ok {mi ma z : Int} {x y : aX} (hS : aOk r S m0 h) (hx : aWf S.1.length x) (hy : aWf S.1.length y) (h1 : mi ≤ z) (h2 : z ≤ ma) (hmi : mi ≤ 0) (hz : mi ≤ aEv r x * aEv r y → aEv r x * aEv r y ≤ ma → z = aEv r x * aEv r y) : aRes r S m0 h (aMul S mi ma x y) z := by
  have x1 := aLo_le hS.1 hx
  have x2 := aHj_ge hS.1 hx
  have y1 := aLo_le hS.1 hy
  have y2 := aHj_ge hS.1 hy
  unfold aMul
  split
  · rename_i hc
    have e : aEv r (aSc (aLo S.1 y) x) = aEv r x * aEv r y := by
      rw [aSc_ev, Int.mul_comm, show aLo S.1 y = aEv r y by omega]
    exact aCl_ok hS (aSc_wf hx) h1 h2 (by rw [e]; exact hz)
  · split
    · rename_i hc
      have e : aEv r (aSc (aLo S.1 x) y) = aEv r x * aEv r y := by
        rw [aSc_ev, show aLo S.1 x = aEv r x by omega]
      exact aCl_ok hS (aSc_wf hy) h1 h2 (by rw [e]; exact hz)
    · split
      · rename_i hc
        obtain ⟨c1, c2, c3⟩ := hc
        have a1 : aLo S.1 x * aLo S.1 y ≤ aEv r x * aEv r y := Int.mul_le_mul x1 y1 c2 (by omega)
        have a2 : aEv r x * aEv r y ≤ aHj S.1 x * aHj S.1 y := Int.mul_le_mul x2 y2 (by omega) (by omega)
        have a3 : 0 ≤ aLo S.1 x * aLo S.1 y := Int.mul_nonneg c1 c2
        have hz2 := hz (by omega) (by omega)
        exact aRes.new hS (by omega) (by omega)
      · exact aRes.new hS h1 h2
/-- a remainder; none: the divisor may be 0 -/
def aRem (S : aSt) (mi ma : Int) (x y : aX) : Option aP :=
  if aPr S (aSb y (aK 1)) = true then
    (if aLo S.1 x = aHj S.1 x ∧ max (aLo S.1 y) 1 = aHj S.1 y ∧ 0 ≤ aLo S.1 x then some (S, aK (aLo S.1 x % aHj S.1 y)) else
    if 0 ≤ aLo S.1 x then
      (if max (aLo S.1 y) 1 = aHj S.1 y ∧ aHj S.1 x < 1099511627776 then
        some (aAdC (aAdC (aNw (aAdC (aAdC (aNw S 0 (min (aHj S.1 x) (aHj S.1 y - 1))) (aSb (aSb y (aVr S.1.length)) (aK 1))) (aSb x (aVr S.1.length))) (aLo S.1 x / aHj S.1 y) (aHj S.1 x / aHj S.1 y)) (aSb x (aAd (aSc (aHj S.1 y) (aVr (S.1.length + 1))) (aVr S.1.length)))) (aSc (-1) (aSb x (aAd (aSc (aHj S.1 y) (aVr (S.1.length + 1))) (aVr S.1.length)))), aVr S.1.length)
      else some (aAdC (aAdC (aNw S 0 (min (aHj S.1 x) (aHj S.1 y - 1))) (aSb (aSb y (aVr S.1.length)) (aK 1))) (aSb x (aVr S.1.length)), aVr S.1.length))
    else some (aNw S (-(aHj S.1 y - 1)) (aHj S.1 y - 1), aVr S.1.length))
  else if aPr S (aSb (aK (-1)) y) = true then some (aNw S mi ma, aVr S.1.length) else none
theorem aRem_ok {mi ma z : Int} {x y : aX} {p : aP} (hS : aOk r S m0 h) (hx : aWf S.1.length x) (hy : aWf S.1.length y) (h1 : mi ≤ z) (h2 : z ≤ ma) (hz : z = (aEv r x).tmod (aEv r y)) (hp : aRem S mi ma x y = some p) : aEv r y ≠ 0 ∧ aRes r S m0 h p z := by
  have x1 := aLo_le hS.1 hx
  have x2 := aHj_ge hS.1 hx
  have y1 := aLo_le hS.1 hy
  have y2 := aHj_ge hS.1 hy
  unfold aRem at hp
  split at hp
  · rename_i hy1
    have hyp := aPr_ok hS (aSb_wf hy (aK_wf _ _)) hy1
    rw [aSb_ev, aK_ev] at hyp
    refine ⟨by omega, ?_⟩
    split at hp
    · rename_i hc
      cases hp
      refine aRes.keep hS (aK_wf _ _) ?_
      rw [aK_ev, hz, show aLo S.1 x = aEv r x by omega, show aHj S.1 y = aEv r y by omega]
      exact Int.tmod_eq_emod_of_nonneg (by omega)
    · split at hp
      · rename_i hx0
        have hz0 : z = aEv r x % aEv r y := by rw [hz]; exact Int.tmod_eq_emod_of_nonneg (by omega)
        have z1 : 0 ≤ z := by rw [hz0]; exact Int.emod_nonneg _ (by omega)
        have z2 : z < aEv r y := by rw [hz0]; exact Int.emod_lt_of_pos _ (by omega)
        have z3 : z ≤ aEv r x := by
          rw [hz0]
          have q1 := Int.mul_ediv_add_emod (aEv r x) (aEv r y)
          have q2 : 0 ≤ aEv r y * (aEv r x / aEv r y) := Int.mul_nonneg (by omega) (Int.ediv_nonneg (by omega) (by omega))
          omega
        have n1 : S.1.length < (aNw S 0 (min (aHj S.1 x) (aHj S.1 y - 1))).1.length := by rw [aNw_len]; omega
        have hS1 := aNw_ok (z := z) hS (show (0 : Int) ≤ z from z1) (show z ≤ min (aHj S.1 x) (aHj S.1 y - 1) by omega)
        have wx := hx.up (Nat.le_succ S.1.length)
        have wy := hy.up (Nat.le_succ S.1.length)
        have wv : aWf (S.1.length + 1) (aVr S.1.length) := aVr_wf (Nat.lt_succ_self _)
        have hS2 := aAdC_ok (c := aSb (aSb y (aVr S.1.length)) (aK 1)) hS1 (by rw [aNw_len]; exact aSb_wf (aSb_wf wy wv) (aK_wf _ _)) (by
          rw [aSb_ev, aSb_ev, aK_ev, aEv_up hy, aVr_ev, aUp_self]; omega)
        have hS3 := aAdC_ok (c := aSb x (aVr S.1.length)) hS2 (by show aWf (aNw S _ _).1.length _; rw [aNw_len]; exact aSb_wf wx wv) (by
          rw [aSb_ev, aEv_up hx, aVr_ev, aUp_self]; omega)
        have le1 : aLe S.1.length r (S.1.length + 1) (aUp r S.1.length z) := fun v w hv => hv.up
        split at hp
        · rename_i hc
          cases hp
          have ey : aHj S.1 y = aEv r y := by omega
          have hq1 : aLo S.1 x / aHj S.1 y ≤ aEv r x / aEv r y := by rw [ey]; exact Int.ediv_le_ediv (by omega) x1
          have hq2 : aEv r x / aEv r y ≤ aHj S.1 x / aHj S.1 y := by rw [ey]; exact Int.ediv_le_ediv (by omega) x2
          have hS4 := aNw_ok (z := aEv r x / aEv r y) hS3 hq1 hq2
          have hl4 : (aAdC (aAdC (aNw S 0 (min (aHj S.1 x) (aHj S.1 y - 1))) (aSb (aSb y (aVr S.1.length)) (aK 1))) (aSb x (aVr S.1.length))).1.length = S.1.length + 1 := aNw_len _ _ _
          rw [hl4] at hS4
          have ev : ∀ f : aX, aWf (S.1.length + 1) f → aEv (aUp (aUp r S.1.length z) (S.1.length + 1) (aEv r x / aEv r y)) f = aEv (aUp r S.1.length z) f := fun f hf => aEv_up hf
          have wE : aWf (S.1.length + 1 + 1) (aSb x (aAd (aSc (aHj S.1 y) (aVr (S.1.length + 1))) (aVr S.1.length))) := aSb_wf (wx.up (Nat.le_succ _)) (aAd_wf (aSc_wf (aVr_wf (Nat.lt_succ_self _))) (aVr_wf (by omega)))
          have eE : aEv (aUp (aUp r S.1.length z) (S.1.length + 1) (aEv r x / aEv r y)) (aSb x (aAd (aSc (aHj S.1 y) (aVr (S.1.length + 1))) (aVr S.1.length))) = 0 := by
            rw [aSb_ev, aAd_ev, aSc_ev, ev x wx, aEv_up hx, aVr_ev, aUp_self, ev _ wv, aVr_ev, aUp_self, ey, hz0]
            have := Int.mul_ediv_add_emod (aEv r x) (aEv r y)
            omega
          have hS5 := aAdC_ok (c := aSb x (aAd (aSc (aHj S.1 y) (aVr (S.1.length + 1))) (aVr S.1.length))) hS4 (by rw [aNw_len, hl4]; exact wE) (by rw [eE]; exact Int.le_refl _)
          have hS6 := aAdC_ok (c := aSc (-1) (aSb x (aAd (aSc (aHj S.1 y) (aVr (S.1.length + 1))) (aVr S.1.length)))) hS5 (by show aWf (aNw _ _ _).1.length _; rw [aNw_len, hl4]; exact aSc_wf wE) (by rw [aSc_ev, eE]; exact Int.le_refl _)
          refine ⟨_, hS6, ?_, ?_, ?_⟩
          · show aLe _ _ (aNw _ _ _).1.length _
            rw [aNw_len, hl4]
            exact fun v w hv => (le1 v w hv).up
          · show aWf (aNw _ _ _).1.length _
            rw [aNw_len, hl4]
            exact wv.up (Nat.le_succ _)
          · rw [ev _ wv, aVr_ev, aUp_self]
        · cases hp
          refine ⟨_, hS3, ?_, ?_, ?_⟩
          · show aLe _ _ (aNw _ _ _).1.length _
            rw [aNw_len]; exact le1
          · show aWf (aNw _ _ _).1.length _
            rw [aNw_len]; exact wv
          · rw [aVr_ev, aUp_self]
      · cases hp
        obtain ⟨b1, b2⟩ := tmod_bounds (a := aEv r x) (M := aEv r y) (by omega)
        exact aRes.new hS (by omega) (by omega)
  · split at hp
    · rename_i hy1
      cases hp
      have hyp := aPr_ok hS (aSb_wf (aK_wf _ _) hy) hy1
      rw [aSb_ev, aK_ev] at hyp
      exact ⟨by omega, aRes.new hS h1 h2⟩
    · cases hp
/-- a quotient -/
def aDiv (S : aSt) (mi ma : Int) (x y : aX) : Option aP :=
  if aPr S (aSb y (aK 1)) = true then
    (if 0 ≤ aLo S.1 x then
      (if aLo S.1 x = aHj S.1 x ∧ max (aLo S.1 y) 1 = aHj S.1 y then some (S, aK (aLo S.1 x / aHj S.1 y)) else
      if 9 < aHj S.1 x / max (aLo S.1 y) 1 ∧ aPr S (aSb (aSc 10 y) (aAd x (aK 1))) = true then some (aNw S (aLo S.1 x / aHj S.1 y) 9, aVr S.1.length)
      else some (aNw S (aLo S.1 x / aHj S.1 y) (aHj S.1 x / max (aLo S.1 y) 1), aVr S.1.length))
    else some (aNw S mi ma, aVr S.1.length))
  else if aPr S (aSb (aK (-1)) y) = true then some (aNw S mi ma, aVr S.1.length) else none
theorem aDiv_ok {mi ma z : Int} {x y : aX} {p : aP} (hS : aOk r S m0 h) (hx : aWf S.1.length x) (hy : aWf S.1.length y) (h1 : mi ≤ z) (h2 : z ≤ ma) (hz : 0 ≤ aEv r x → 0 < aEv r y → z = aEv r x / aEv r y) (hp : aDiv S mi ma x y = some p) : aEv r y ≠ 0 ∧ aRes r S m0 h p z := by
  have x1 := aLo_le hS.1 hx
  have x2 := aHj_ge hS.1 hx
  have y1 := aLo_le hS.1 hy
  have y2 := aHj_ge hS.1 hy
  unfold aDiv at hp
  split at hp
  · rename_i hy1
    have hyp := aPr_ok hS (aSb_wf hy (aK_wf _ _)) hy1
    rw [aSb_ev, aK_ev] at hyp
    refine ⟨by omega, ?_⟩
    split at hp
    · rename_i hx0
      have hz0 := hz (by omega) (by omega)
      have lo : aLo S.1 x / aHj S.1 y ≤ z := by
        rw [hz0]
        have q1 : aLo S.1 x / aHj S.1 y ≤ aLo S.1 x / aEv r y := by
          rw [Int.le_ediv_iff_mul_le (by omega)]
          have q2 : aLo S.1 x / aHj S.1 y * aHj S.1 y ≤ aLo S.1 x := Int.ediv_mul_le _ (by omega)
          have q3 : 0 ≤ aLo S.1 x / aHj S.1 y := Int.ediv_nonneg hx0 (by omega)
          have q4 : aLo S.1 x / aHj S.1 y * aEv r y ≤ aLo S.1 x / aHj S.1 y * aHj S.1 y := Int.mul_le_mul_of_nonneg_left y2 q3
          omega
        have q5 : aLo S.1 x / aEv r y ≤ aEv r x / aEv r y := Int.ediv_le_ediv (by omega) x1
        omega
      have hi : z ≤ aHj S.1 x / max (aLo S.1 y) 1 := by
        rw [hz0]
        have q5 : aEv r x / aEv r y ≤ aHj S.1 x / aEv r y := Int.ediv_le_ediv (by omega) x2
        have q1 : aHj S.1 x / aEv r y ≤ aHj S.1 x / max (aLo S.1 y) 1 := by
          rw [Int.le_ediv_iff_mul_le (by omega)]
          have q2 : aHj S.1 x / aEv r y * aEv r y ≤ aHj S.1 x := Int.ediv_mul_le _ (by omega)
          have q3 : 0 ≤ aHj S.1 x / aEv r y := Int.ediv_nonneg (by omega) (by omega)
          have q4 : aHj S.1 x / aEv r y * max (aLo S.1 y) 1 ≤ aHj S.1 x / aEv r y * aEv r y := Int.mul_le_mul_of_nonneg_left (by omega) q3
          omega
        omega
      split at hp
      · rename_i hc
        cases hp
        refine aRes.keep hS (aK_wf _ _) ?_
        rw [aK_ev, hz0, show aLo S.1 x = aEv r x by omega, show aHj S.1 y = aEv r y by omega]
      · split at hp
        · rename_i hc
          cases hp
          have q := aPr_ok hS (aSb_wf (aSc_wf hy) (aAd_wf hx (aK_wf _ _))) hc.2
          rw [aSb_ev, aSc_ev, aAd_ev, aK_ev] at q
          have : z ≤ 9 := by
            rw [hz0]
            have : aEv r x / aEv r y < 10 := by rw [Int.ediv_lt_iff_lt_mul (by omega)]; omega
            omega
          exact aRes.new hS lo this
        · cases hp
          exact aRes.new hS lo hi
    · cases hp
      exact aRes.new hS h1 h2
  · split at hp
    · rename_i hy1
      cases hp
      have hyp := aPr_ok hS (aSb_wf (aK_wf _ _) hy) hy1
      rw [aSb_ev, aK_ev] at hyp
      exact ⟨by omega, aRes.new hS h1 h2⟩
    · cases hp
end AOPS
end
section
/-! bits -/
theorem aNat {x : Int32} (h : 0 ≤ x.toInt) : x.toInt = (x.toBitVec.toNat : Int) := by
  have h1 : x.toInt = x.toBitVec.toInt := rfl
  rw [h1, BitVec.toInt_eq_toNat_cond] at h ⊢
  split
  · rfl
  · rename_i hc
    rw [if_neg hc] at h
    have := x.toBitVec.isLt
    omega
theorem aNat2 {z : Int32} (h : z.toBitVec.toNat < 2 ^ 31) : z.toInt = (z.toBitVec.toNat : Int) := by
  have h1 : z.toInt = z.toBitVec.toInt := rfl
  rw [h1, BitVec.toInt_eq_toNat_cond, if_pos (by omega)]
theorem aNlt {x : Int32} (h : 0 ≤ x.toInt) : x.toBitVec.toNat < 2 ^ 31 := by
  have h1 := aNat h
  have h2 := (aI_rg x).2
  unfold aMa at h2
  omega
theorem aAnd_r {x y : Int32} (h : 0 ≤ y.toInt) : 0 ≤ (x &&& y).toInt ∧ (x &&& y).toInt ≤ y.toInt := by
  have h1 : (x &&& y).toBitVec.toNat = x.toBitVec.toNat &&& y.toBitVec.toNat := by rw [Int32.toBitVec_and, BitVec.toNat_and]
  have h2 : x.toBitVec.toNat &&& y.toBitVec.toNat ≤ y.toBitVec.toNat := Nat.and_le_right
  have h3 := aNlt h
  have h4 := aNat2 (z := x &&& y) (by omega)
  rw [h4, h1, aNat h]
  omega
theorem aAnd_l {x y : Int32} (h : 0 ≤ x.toInt) : 0 ≤ (x &&& y).toInt ∧ (x &&& y).toInt ≤ x.toInt := by
  have h1 : (x &&& y).toBitVec.toNat = x.toBitVec.toNat &&& y.toBitVec.toNat := by rw [Int32.toBitVec_and, BitVec.toNat_and]
  have h2 : x.toBitVec.toNat &&& y.toBitVec.toNat ≤ x.toBitVec.toNat := Nat.and_le_left
  have h3 := aNlt h
  have h4 := aNat2 (z := x &&& y) (by omega)
  rw [h4, h1, aNat h]
  omega
theorem aOr_b {x y : Int32} {k : Nat} (hx : 0 ≤ x.toInt) (hy : 0 ≤ y.toInt) (h1 : x.toInt < 2 ^ k) (h2 : y.toInt < 2 ^ k) (hk : k ≤ 31) : (0 ≤ (x ||| y).toInt ∧ (x ||| y).toInt < 2 ^ k) ∧ 0 ≤ (x ^^^ y).toInt ∧ (x ^^^ y).toInt < 2 ^ k := by
  rw [aNat hx] at h1
  rw [aNat hy] at h2
  have g1 : x.toBitVec.toNat < 2 ^ k := by exact_mod_cast h1
  have g2 : y.toBitVec.toNat < 2 ^ k := by exact_mod_cast h2
  have hp : 2 ^ k ≤ 2 ^ 31 := Nat.pow_le_pow_right (by decide) hk
  have e1 : (x ||| y).toBitVec.toNat = x.toBitVec.toNat ||| y.toBitVec.toNat := by rw [Int32.toBitVec_or, BitVec.toNat_or]
  have e2 : (x ^^^ y).toBitVec.toNat = x.toBitVec.toNat ^^^ y.toBitVec.toNat := by rw [Int32.toBitVec_xor, BitVec.toNat_xor]
  have o1 := Nat.or_lt_two_pow g1 g2
  have o2 := Nat.xor_lt_two_pow g1 g2
  have z1 := aNat2 (z := x ||| y) (by omega)
  have z2 := aNat2 (z := x ^^^ y) (by omega)
  rw [z1, z2, e1, e2]
  refine ⟨⟨by omega, by exact_mod_cast o1⟩, by omega, by exact_mod_cast o2⟩
def aPw (n : Int) : Int := 2 ^ (n.toNat.log2 + 1) - 1
theorem aPw_ok {n : Int} (h0 : 0 ≤ n) (h1 : n ≤ aMa) : n < 2 ^ (n.toNat.log2 + 1) ∧ n.toNat.log2 + 1 ≤ 31 := by
  constructor
  · have h2 : n.toNat < 2 ^ (n.toNat.log2 + 1) := Nat.lt_log2_self
    have h3 : (n.toNat : Int) < 2 ^ (n.toNat.log2 + 1) := by exact_mod_cast h2
    omega
  · unfold aMa at h1
    have h2 : n.toNat < 2 ^ 31 := by omega
    by_cases hz : n.toNat = 0
    · rw [hz]; decide
    · have := (Nat.log2_lt hz).mpr h2
      omega
theorem aI_of {x : Int32} {n : Int} (h : x.toInt = n) : x = Int32.ofInt n := by rw [← h, Int32.ofInt_toInt]
section ABITS
variable {r : Nat → Int} {S : aSt} {m0 : Int} {h : mH}
def aAnd (S : aSt) (x y : aX) : aP :=
  if aLo S.1 x = aHj S.1 x ∧ aLo S.1 y = aHj S.1 y then (S, aK (Int32.ofInt (aLo S.1 x) &&& Int32.ofInt (aLo S.1 y)).toInt) else
  if 0 ≤ aLo S.1 y then (if 0 ≤ aLo S.1 x then (aAdC (aAdC (aNw S 0 (min (aHj S.1 x) (aHj S.1 y))) (aSb x (aVr S.1.length))) (aSb y (aVr S.1.length)), aVr S.1.length) else (aNw S 0 (aHj S.1 y), aVr S.1.length))
  else if 0 ≤ aLo S.1 x then (aNw S 0 (aHj S.1 x), aVr S.1.length) else (aNw S aMi aMa, aVr S.1.length)
theorem aAnd_ok {x y : aX} {u v : Int32} (hS : aOk r S m0 h) (hx : aWf S.1.length x) (hy : aWf S.1.length y) (hu : u.toInt = aEv r x) (hv : v.toInt = aEv r y) : aRes r S m0 h (aAnd S x y) (u &&& v).toInt := by
  have x1 := aLo_le hS.1 hx
  have x2 := aHj_ge hS.1 hx
  have y1 := aLo_le hS.1 hy
  have y2 := aHj_ge hS.1 hy
  unfold aAnd
  split
  · rename_i hc
    refine aRes.keep hS (aK_wf _ _) ?_
    rw [aK_ev, ← aI_of (show u.toInt = aLo S.1 x by omega), ← aI_of (show v.toInt = aLo S.1 y by omega)]
  · split
    · rename_i hy0
      have a1 := aAnd_r (x := u) (y := v) (by omega)
      split
      · rename_i hx0
        have a2 := aAnd_l (x := u) (y := v) (by omega)
        have hS1 := aNw_ok (z := (u &&& v).toInt) hS (show (0 : Int) ≤ _ from a1.1) (show (u &&& v).toInt ≤ min (aHj S.1 x) (aHj S.1 y) by omega)
        have wv : aWf (S.1.length + 1) (aVr S.1.length) := aVr_wf (Nat.lt_succ_self _)
        have hS2 := aAdC_ok (c := aSb x (aVr S.1.length)) hS1 (by rw [aNw_len]; exact aSb_wf (hx.up (Nat.le_succ _)) wv) (by rw [aSb_ev, aEv_up hx, aVr_ev, aUp_self]; omega)
        have hS3 := aAdC_ok (c := aSb y (aVr S.1.length)) hS2 (by show aWf (aNw S _ _).1.length _; rw [aNw_len]; exact aSb_wf (hy.up (Nat.le_succ _)) wv) (by rw [aSb_ev, aEv_up hy, aVr_ev, aUp_self]; omega)
        refine ⟨_, hS3, ?_, ?_, ?_⟩
        · show aLe _ _ (aNw _ _ _).1.length _
          rw [aNw_len]; exact fun v w hv => hv.up
        · show aWf (aNw _ _ _).1.length _
          rw [aNw_len]; exact wv
        · rw [aVr_ev, aUp_self]
      · exact aRes.new hS a1.1 (by omega)
    · split
      · have a2 := aAnd_l (x := u) (y := v) (by omega)
        exact aRes.new hS a2.1 (by omega)
      · exact aRes.new hS (aI_rg _).1 (aI_rg _).2
def aOrX (S : aSt) (o : Bool) (x y : aX) : aP :=
  if aLo S.1 x = aHj S.1 x ∧ aLo S.1 y = aHj S.1 y then (S, aK (if o = true then (Int32.ofInt (aLo S.1 x) ||| Int32.ofInt (aLo S.1 y)).toInt else (Int32.ofInt (aLo S.1 x) ^^^ Int32.ofInt (aLo S.1 y)).toInt)) else
  if 0 ≤ aLo S.1 y ∧ 0 ≤ aLo S.1 x ∧ aHj S.1 x ≤ aMa ∧ aHj S.1 y ≤ aMa then (aNw S 0 (aPw (max (aHj S.1 x) (aHj S.1 y))), aVr S.1.length) else (aNw S aMi aMa, aVr S.1.length)
theorem aOrX_ok {o : Bool} {x y : aX} {u v : Int32} (hS : aOk r S m0 h) (hx : aWf S.1.length x) (hy : aWf S.1.length y) (hu : u.toInt = aEv r x) (hv : v.toInt = aEv r y) : aRes r S m0 h (aOrX S o x y) (if o = true then (u ||| v).toInt else (u ^^^ v).toInt) := by
  have x1 := aLo_le hS.1 hx
  have x2 := aHj_ge hS.1 hx
  have y1 := aLo_le hS.1 hy
  have y2 := aHj_ge hS.1 hy
  unfold aOrX
  split
  · rename_i hc
    refine aRes.keep hS (aK_wf _ _) ?_
    rw [aK_ev, ← aI_of (show u.toInt = aLo S.1 x by omega), ← aI_of (show v.toInt = aLo S.1 y by omega)]
  · split
    · rename_i hc
      obtain ⟨p1, p2⟩ := aPw_ok (n := max (aHj S.1 x) (aHj S.1 y)) (by omega) (by omega)
      obtain ⟨⟨b1, b2⟩, b3, b4⟩ := aOr_b (x := u) (y := v) (k := (max (aHj S.1 x) (aHj S.1 y)).toNat.log2 + 1) (by omega) (by omega) (by omega) (by omega) p2
      unfold aPw
      refine aRes.new hS ?_ ?_
      · split <;> omega
      · split <;> omega
    · refine aRes.new hS ?_ ?_
      · split
        · exact (aI_rg _).1
        · exact (aI_rg _).1
      · split
        · exact (aI_rg _).2
        · exact (aI_rg _).2
theorem aSm : ∀ n : Nat, n < 32 → ((Int32.ofNat n &&& 31).toBitVec.smod 32).toNat = n := by decide +kernel
theorem aSh {y : Int32} {n : Nat} (h : y.toInt = (n : Int)) (hn : n < 32) : ((y &&& 31).toBitVec.smod 32).toNat = n := by
  have h1 : y = Int32.ofNat n := by
    rw [aI_ind, h]
    exact (Int32.toInt_ofNat_of_lt (by omega)).symm
  rw [h1]
  exact aSm n hn
theorem aShl_n {x y : Int32} {n : Nat} (hx : 0 ≤ x.toInt) (h : y.toInt = (n : Int)) (hn : n < 32) (hb : x.toInt * 2 ^ n ≤ aMa) : (x <<< (y &&& 31)).toInt = x.toInt * 2 ^ n := by
  have h1 := pk_shl x (y &&& 31) n (aSh h hn)
  rw [aNat hx] at hb ⊢
  unfold aMa at hb
  have hb2 : x.toBitVec.toNat * 2 ^ n < 2 ^ 31 := by
    have : ((x.toBitVec.toNat * 2 ^ n : Nat) : Int) ≤ 2147483647 := by push_cast; exact hb
    omega
  rw [Nat.mod_eq_of_lt (by omega)] at h1
  rw [aNat2 (z := x <<< (y &&& 31)) (by omega), h1]
  push_cast
  rfl
def aShl (S : aSt) (x y : aX) : aP :=
  if aLo S.1 x = 1 ∧ aHj S.1 x = 1 ∧ 0 ≤ aLo S.1 y ∧ aHj S.1 y ≤ 30 then (if aLo S.1 y = aHj S.1 y then (S, aK (2 ^ (aLo S.1 y).toNat)) else (aNw S (2 ^ (aLo S.1 y).toNat) (2 ^ (aHj S.1 y).toNat), aVr S.1.length)) else
  if aLo S.1 y = aHj S.1 y ∧ 0 ≤ aLo S.1 y ∧ aHj S.1 y ≤ 30 ∧ 0 ≤ aLo S.1 x ∧ aHj S.1 x * 2 ^ (aLo S.1 y).toNat ≤ aMa then (S, aSc (2 ^ (aLo S.1 y).toNat) x) else (aNw S aMi aMa, aVr S.1.length)
theorem aShl_ok {x y : aX} {u v : Int32} (hS : aOk r S m0 h) (hx : aWf S.1.length x) (hy : aWf S.1.length y) (hu : u.toInt = aEv r x) (hv : v.toInt = aEv r y) : aRes r S m0 h (aShl S x y) (u <<< (v &&& 31)).toInt := by
  have x1 := aLo_le hS.1 hx
  have x2 := aHj_ge hS.1 hx
  have y1 := aLo_le hS.1 hy
  have y2 := aHj_ge hS.1 hy
  have pp : ∀ a b : Nat, a ≤ b → (2 : Int) ^ a ≤ 2 ^ b := fun a b hab => by exact_mod_cast Nat.pow_le_pow_right (by decide : 0 < 2) hab
  unfold aShl
  split
  · rename_i hc
    obtain ⟨c1, c2, c3, c4⟩ := hc
    have hn : v.toInt = ((v.toInt.toNat : Nat) : Int) := by omega
    have p30 := pp v.toInt.toNat 30 (by omega)
    have e1 : u.toInt = 1 := by omega
    have key := aShl_n (x := u) (y := v) (n := v.toInt.toNat) (by omega) hn (by omega) (by rw [e1]; unfold aMa; omega)
    rw [e1, Int.one_mul] at key
    split
    · rename_i hcc
      refine aRes.keep hS (aK_wf _ _) ?_
      rw [key, aK_ev, show aLo S.1 y = v.toInt by omega]
    · rw [key]
      exact aRes.new hS (pp _ _ (by omega)) (pp _ _ (by omega))
  · split
    · rename_i hc
      obtain ⟨c1, c2, c3, c4, c5⟩ := hc
      have hn : v.toInt = (((aLo S.1 y).toNat : Nat) : Int) := by omega
      have hp : (0 : Int) ≤ 2 ^ (aLo S.1 y).toNat := by
        have := pp 0 (aLo S.1 y).toNat (by omega)
        omega
      have hm : u.toInt * 2 ^ (aLo S.1 y).toNat ≤ aHj S.1 x * 2 ^ (aLo S.1 y).toNat := Int.mul_le_mul_of_nonneg_right (by omega) hp
      have key := aShl_n (x := u) (y := v) (n := (aLo S.1 y).toNat) (by omega) hn (by omega) (by omega)
      refine aRes.keep hS (aSc_wf hx) ?_
      rw [key, aSc_ev, hu, Int.mul_comm]
    · exact aRes.new hS (aI_rg _).1 (aI_rg _).2
def aShr (S : aSt) (x y : aX) : aP :=
  if 0 ≤ aLo S.1 x then (if aLo S.1 y = aHj S.1 y ∧ 0 ≤ aLo S.1 y ∧ aHj S.1 y ≤ 30 then (if aLo S.1 x = aHj S.1 x then (S, aK (aLo S.1 x / 2 ^ (aLo S.1 y).toNat)) else (aNw S (aLo S.1 x / 2 ^ (aLo S.1 y).toNat) (aHj S.1 x / 2 ^ (aLo S.1 y).toNat), aVr S.1.length)) else (aNw S 0 (aHj S.1 x), aVr S.1.length)) else (aNw S aMi aMa, aVr S.1.length)
theorem aShr_ok {x y : aX} {u v : Int32} (hS : aOk r S m0 h) (hx : aWf S.1.length x) (hy : aWf S.1.length y) (hu : u.toInt = aEv r x) (hv : v.toInt = aEv r y) : aRes r S m0 h (aShr S x y) (u >>> (v &&& 31)).toInt := by
  have x1 := aLo_le hS.1 hx
  have x2 := aHj_ge hS.1 hx
  have y1 := aLo_le hS.1 hy
  have y2 := aHj_ge hS.1 hy
  unfold aShr
  split
  · rename_i hx0
    split
    · rename_i hc
      have hn : v.toInt = (((aLo S.1 y).toNat : Nat) : Int) := by omega
      have key := pk_shr u (v &&& 31) _ (aSh hn (by omega))
      rw [Int.shiftRight_eq_div_pow] at key
      have hp : (0 : Int) < 2 ^ (aLo S.1 y).toNat := by
        have : 0 < 2 ^ (aLo S.1 y).toNat := Nat.pow_pos (by decide)
        exact_mod_cast this
      have key2 : (u >>> (v &&& 31)).toInt = u.toInt / 2 ^ (aLo S.1 y).toNat := by rw [key]; push_cast; rfl
      split
      · rename_i hcc
        refine aRes.keep hS (aK_wf _ _) ?_
        rw [key2, aK_ev, show aLo S.1 x = u.toInt by omega]
      · rw [key2]
        exact aRes.new hS (Int.ediv_le_ediv hp (by omega)) (Int.ediv_le_ediv hp (by omega))
    · have key := pk_shr u (v &&& 31) _ rfl
      rw [Int.shiftRight_eq_div_pow] at key
      have q0 : 0 ≤ u.toInt := by omega
      have q1 : 0 ≤ (u >>> (v &&& 31)).toInt := by rw [key]; exact Int.ediv_nonneg q0 (by exact_mod_cast Nat.zero_le _)
      have q2 : (u >>> (v &&& 31)).toInt ≤ u.toInt := by rw [key]; exact Int.ediv_le_self _ q0
      exact aRes.new hS q1 (by omega)
  · exact aRes.new hS (aI_rg _).1 (aI_rg _).2
end ABITS
end
section
/-! one instruction in the analyser: what leaves the heap -/
abbrev aQ : Type := aSt × Nat × List aV × List aV
def aFs (n : Nat) (r : Nat → Int) (L : List aV) (M : mL) : Prop := L.length = M.length ∧ ∀ (k : Nat) (v : aV), L[k]? = some v → v.1 < 6 → ∃ w, M[k]? = some (some w) ∧ aVs n r v w
def aSk (n : Nat) (r : Nat → Int) : List aV → List Value → Prop
  | [], [] => True
  | v :: s, w :: t => aVs n r v w ∧ aSk n r s t
  | _, _ => False
theorem aFs.le {n n1 : Nat} {r r1 : Nat → Int} {L : List aV} {M : mL} (h : aFs n r L M) (hl : aLe n r n1 r1) : aFs n1 r1 L M := ⟨h.1, fun k v hk hv => by
  obtain ⟨w, h1, h2⟩ := h.2 k v hk hv
  exact ⟨w, h1, hl v w h2⟩⟩
theorem aSk.le {n n1 : Nat} {r r1 : Nat → Int} (hl : aLe n r n1 r1) : ∀ {s : List aV} {t : List Value}, aSk n r s t → aSk n1 r1 s t
  | [], [], _ => trivial
  | v :: s, w :: t, h => ⟨hl v w h.1, aSk.le hl h.2⟩
  | [], _ :: _, h => h.elim
  | _ :: _, [], h => h.elim
theorem aSk.cons {n : Nat} {r : Nat → Int} {v : aV} {s : List aV} {t : List Value} (h : aSk n r (v :: s) t) : ∃ w t1, t = w :: t1 ∧ aVs n r v w ∧ aSk n r s t1 := by
  cases t with
  | nil => exact h.elim
  | cons w t1 => exact ⟨w, t1, rfl, h.1, h.2⟩
def aGood (r : Nat → Int) (S : aSt) (m0 : Int) (l : List aQ) (g : mG) : Prop := ∃ p ∈ l, ∃ r1, aOk r1 p.1 m0 g.2.2.2 ∧ aHp g.2.2.2 ∧ aLe S.1.length r p.1.1.length r1 ∧ p.2.1 = g.1 ∧ aFs p.1.1.length r1 p.2.2.1 g.2.1 ∧ aSk p.1.1.length r1 p.2.2.2 g.2.2.1
section AB1
variable {r : Nat → Int} {S : aSt} {m0 : Int} {h : mH} {L : List aV} {M : mL} {st : List aV} {su : List Value} {i : Nat} {en : mE} {l : List aQ}
theorem aGood.same {j : Nat} {L1 : List aV} {M1 : mL} {s1 : List aV} {t1 : List Value} (hS : aOk r S m0 h) (hh : aHp h) (hL : aFs S.1.length r L1 M1) (hs : aSk S.1.length r s1 t1) : aGood r S m0 [(S, j, L1, s1)] (j, M1, t1, h) := ⟨_, List.mem_cons_self, r, hS, hh, aLe.rf, rfl, hL, hs⟩
theorem aGood.int {p : aP} {z : Int32} (hh : aHp h) (hL : aFs S.1.length r L M) (hs : aSk S.1.length r st su) (hp : aRes r S m0 h p z.toInt) : aGood r S m0 [(p.1, i, L, (0, p.2, 0) :: st)] (i, M, .int z :: su, h) := by
  obtain ⟨r1, h1, h2, h3, h4⟩ := hp
  exact ⟨_, List.mem_cons_self, r1, h1, hh, h2, rfl, hL.le h2, ⟨h3, z, rfl, h4⟩, hs.le h2⟩
theorem aGood.long {p : aP} {z : Int64} (hh : aHp h) (hL : aFs S.1.length r L M) (hs : aSk S.1.length r st su) (hp : aRes r S m0 h p z.toInt) : aGood r S m0 [(p.1, i, L, (1, p.2, 0) :: st)] (i, M, .long z :: su, h) := by
  obtain ⟨r1, h1, h2, h3, h4⟩ := hp
  exact ⟨_, List.mem_cons_self, r1, h1, hh, h2, rfl, hL.le h2, ⟨h3, z, rfl, h4⟩, hs.le h2⟩
def aLd (g : Nat → Bool) (S : aSt) (L : List aV) (st : List aV) (i k : Nat) : Option (List aQ) := match L[k]? with
  | some v => if g v.1 = true then some [(S, i + 1, L, v :: st)] else none
  | none => none
def aG0 (k : Nat) : Bool := k == 0
def aG1 (k : Nat) : Bool := k == 1
def aG2 (k : Nat) : Bool := k == 2 || (k == 3 || k == 4)
/-- the locals behind a store -/
def aKl (L : List aV) (k : Nat) : List aV := match k with
  | 0 => L
  | j + 1 => match L[j]? with
    | some v => if v.1 = 1 then L.set j (6, (0, []), 0) else L
    | none => L
def aSto (S : aSt) (L : List aV) (st : List aV) (i k : Nat) : Option (List aQ) := match st with
  | v :: s => if (v.1 = 0 ∨ v.1 = 2 ∨ v.1 = 3 ∨ v.1 = 4) ∧ k < L.length then some [(S, i + 1, (aKl L k).set k v, s)] else none
  | [] => none
def aStJ (S : aSt) (L : List aV) (st : List aV) (i k : Nat) : Option (List aQ) := match st with
  | v :: s => if v.1 = 1 ∧ k + 1 < L.length then some [(S, i + 1, ((aKl L k).set k v).set (k + 1) (6, (0, []), 0), s)] else none
  | [] => none
def aA1 (en : mE) (S : aSt) (i : Nat) (L st : List aV) : Option (List aQ) := match en.2.1 with
  | .aconst_null => some [(S, i + 1, L, (3, (0, []), 0) :: st)]
  | .iconst n => some [(S, i + 1, L, (0, aK (Int32.ofInt n).toInt, 0) :: st)]
  | .bipush n => some [(S, i + 1, L, (0, aK (Int8.ofInt n).toInt32.toInt, 0) :: st)]
  | .sipush n => some [(S, i + 1, L, (0, aK (Int16.ofInt n).toInt32.toInt, 0) :: st)]
  | .lconst n => some [(S, i + 1, L, (1, aK (Int64.ofNat (n : Nat)).toInt, 0) :: st)]
  | .ldc _ => some [(S, i + 1, L, (0, aK (Int32.ofInt (en.2.2.2.getD 1 0)).toInt, 0) :: st)]
  | .ldc_w _ => some [(S, i + 1, L, (0, aK (Int32.ofInt (en.2.2.2.getD 1 0)).toInt, 0) :: st)]
  | .ldc2_w _ => some [(S, i + 1, L, (1, aK (Int64.ofInt (en.2.2.2.getD 1 0)).toInt, 0) :: st)]
  | .iload k => aLd aG0 S L st i k
  | .iload_n k => aLd aG0 S L st i k
  | .lload k => aLd aG1 S L st i k
  | .lload_n k => aLd aG1 S L st i k
  | .aload k => aLd aG2 S L st i k
  | .aload_n k => aLd aG2 S L st i k
  | .istore k => if (st.headD (6, (0, []), 0)).1 = 0 then aSto S L st i k else none
  | .istore_n k => if (st.headD (6, (0, []), 0)).1 = 0 then aSto S L st i k else none
  | .lstore k => aStJ S L st i k
  | .lstore_n k => aStJ S L st i k
  | .astore k => if aG2 (st.headD (6, (0, []), 0)).1 = true then aSto S L st i k else none
  | .astore_n k => if aG2 (st.headD (6, (0, []), 0)).1 = true then aSto S L st i k else none
  | _ => none
theorem aLd_ok {g : Nat → Bool} {q : Value → Bool} {k : Nat} (hg : ∀ n r v w, g v.1 = true → aVs n r v w → v.1 < 6 ∧ q w = true) (hS : aOk r S m0 h) (hh : aHp h) (hL : aFs S.1.length r L M) (hs : aSk S.1.length r st su) (hl : aLd g S L st i k = some l) : ∃ g1, mLd q M k i su h = some g1 ∧ aGood r S m0 l g1 := by
  unfold aLd at hl
  split at hl
  · rename_i v hv
    split at hl
    · rename_i hc
      cases hl
      have h6 : v.1 < 6 := by
        by_cases e : v.1 < 6
        · exact e
        · exfalso
          have h7 := (hg S.1.length r (v.1, aK 0, v.2.2) .null hc ⟨aK_wf _ _, by
            match hv1 : v.1, e with
            | n + 6, _ => exact trivial⟩).1
          exact e h7
      obtain ⟨w, h1, h2⟩ := hL.2 k v hv h6
      have h3 := (hg _ _ v w hc h2).2
      unfold mLd
      rw [h1]
      dsimp only
      rw [if_pos h3]
      exact ⟨_, rfl, aGood.same hS hh hL ⟨h2, hs⟩⟩
    · cases hl
  · cases hl
theorem aG0_ok : ∀ n r v w, aG0 v.1 = true → aVs n r v w → v.1 < 6 ∧ mIsI w = true := by
  intro n r v w hg hv
  have h0 : v.1 = 0 := by simpa [aG0] using hg
  obtain ⟨-, hv⟩ := hv
  rw [h0] at hv
  obtain ⟨z, rfl, -⟩ := hv
  exact ⟨by omega, rfl⟩
theorem aG1_ok : ∀ n r v w, aG1 v.1 = true → aVs n r v w → v.1 < 6 ∧ mIsJ w = true := by
  intro n r v w hg hv
  have h0 : v.1 = 1 := by simpa [aG1] using hg
  obtain ⟨-, hv⟩ := hv
  rw [h0] at hv
  obtain ⟨z, rfl, -⟩ := hv
  exact ⟨by omega, rfl⟩
theorem aG2_ok : ∀ n r v w, aG2 v.1 = true → aVs n r v w → v.1 < 6 ∧ mIsA w = true := by
  intro n r v w hg hv
  have h0 : v.1 = 2 ∨ v.1 = 3 ∨ v.1 = 4 := by simpa [aG2] using hg
  obtain ⟨-, hv⟩ := hv
  rcases h0 with h0 | h0 | h0
  · rw [h0] at hv
    rw [hv]
    exact ⟨by omega, rfl⟩
  · rw [h0] at hv
    rw [hv]
    exact ⟨by omega, rfl⟩
  · rw [h0] at hv
    rw [hv]
    exact ⟨by omega, rfl⟩
theorem aKl_len (L : List aV) (k : Nat) : (aKl L k).length = L.length := by
  unfold aKl
  cases k with
  | zero => rfl
  | succ j =>
    dsimp only
    split
    · split <;> simp
    · rfl
theorem mKill_keep {M : mL} {k j : Nat} {w : Value} (h : M[j]? = some (some w)) (hc : ¬ (j + 1 = k ∧ w.category = 2)) : (mKill M k)[j]? = some (some w) := by
  unfold mKill
  cases k with
  | zero => exact h
  | succ i =>
    dsimp only
    split
    · rename_i u hu
      split
      · rename_i hcat
        by_cases e : j = i
        · subst e
          rw [h] at hu
          cases hu
          exact absurd ⟨rfl, hcat⟩ hc
        · rw [List.getElem?_set_ne (Ne.symm e)]; exact h
      · exact h
    · exact h
theorem aVs_cat {n : Nat} {v : aV} {w : Value} (hv : aVs n r v w) (h6 : v.1 < 6) (h1 : v.1 ≠ 1) : w.category = 1 := by
  obtain ⟨-, hv⟩ := hv
  match hk : v.1, h6, h1 with
  | 0, _, _ => rw [hk] at hv; obtain ⟨z, rfl, -⟩ := hv; rfl
  | 2, _, _ => rw [hk] at hv; rw [hv]; rfl
  | 3, _, _ => rw [hk] at hv; rw [hv]; rfl
  | 4, _, _ => rw [hk] at hv; rw [hv]; rfl
  | 5, _, _ => rw [hk] at hv; obtain ⟨z, rfl, -⟩ := hv; rfl
theorem aKl_fs {n k : Nat} (hL : aFs n r L M) : aFs n r (aKl L k) (mKill M k) := by
  refine ⟨by rw [aKl_len, mKill_len]; exact hL.1, fun j v hj hv => ?_⟩
  have key : L[j]? = some v ∧ (j + 1 = k → v.1 ≠ 1) := by
    unfold aKl at hj
    cases k with
    | zero => exact ⟨hj, by omega⟩
    | succ i =>
      dsimp only at hj
      split at hj
      · rename_i u hu
        split at hj
        · rename_i h1
          by_cases e : j = i
          · subst e
            rw [List.getElem?_set_self (List.getElem?_eq_some_iff.mp hu).1] at hj
            cases hj
            exact absurd hv (by decide)
          · rw [List.getElem?_set_ne (Ne.symm e)] at hj
            exact ⟨hj, by omega⟩
        · rename_i h1
          refine ⟨hj, fun e => ?_⟩
          have e2 : j = i := by omega
          subst e2
          rw [hj] at hu
          cases hu
          exact h1
      · rename_i hu
        refine ⟨hj, fun e => ?_⟩
        have e2 : j = i := by omega
        subst e2
        rw [hj] at hu
        cases hu
  obtain ⟨w, h1, h2⟩ := hL.2 j v key.1 hv
  refine ⟨w, mKill_keep h1 ?_, h2⟩
  rintro ⟨e1, e2⟩
  have := aVs_cat h2 hv (key.2 e1)
  omega
theorem aSet_fs {n k : Nat} {v : aV} {w : Value} (hL : aFs n r L M) (hv : aVs n r v w) : aFs n r (L.set k v) (M.set k (some w)) := by
  refine ⟨by simp [hL.1], fun j u hj hu => ?_⟩
  by_cases e : j = k
  · subst e
    rw [List.getElem?_set] at hj
    simp only [if_true] at hj
    split at hj
    · rename_i hlt
      cases hj
      exact ⟨w, by rw [List.getElem?_set_self (by rw [← hL.1]; exact hlt)], hv⟩
    · cases hj
  · rw [List.getElem?_set_ne (Ne.symm e)] at hj ⊢
    exact hL.2 j u hj hu
theorem aUn_fs {n k : Nat} {o : Option Value} (hL : aFs n r L M) : aFs n r (L.set k (6, (0, []), 0)) (M.set k o) := by
  refine ⟨by simp [hL.1], fun j u hj hu => ?_⟩
  by_cases e : j = k
  · subst e
    rw [List.getElem?_set] at hj
    simp only [if_true] at hj
    split at hj
    · cases hj; exact absurd hu (by decide)
    · cases hj
  · rw [List.getElem?_set_ne (Ne.symm e)] at hj ⊢
    exact hL.2 j u hj hu
theorem aSto_ok {q : Value → Bool} {k : Nat} (hq : ∀ v w s, st = v :: s → aVs S.1.length r v w → q w = true) (hS : aOk r S m0 h) (hh : aHp h) (hL : aFs S.1.length r L M) (hs : aSk S.1.length r st su) (hl : aSto S L st i k = some l) : ∃ g1, mSt q M k i su h = some g1 ∧ aGood r S m0 l g1 := by
  unfold aSto at hl
  split at hl
  · rename_i v s
    split at hl
    · rename_i hc
      cases hl
      obtain ⟨w, t, rfl, h1, h2⟩ := hs.cons
      unfold mSt
      dsimp only
      rw [if_pos ⟨hq v w s rfl h1, by rw [← hL.1]; exact hc.2⟩]
      exact ⟨_, rfl, aGood.same hS hh (aSet_fs (aKl_fs hL) h1) h2⟩
    · cases hl
  · cases hl
theorem aStJ_ok {k : Nat} (hS : aOk r S m0 h) (hh : aHp h) (hL : aFs S.1.length r L M) (hs : aSk S.1.length r st su) (hl : aStJ S L st i k = some l) : ∃ g1, mStJ M k i su h = some g1 ∧ aGood r S m0 l g1 := by
  unfold aStJ at hl
  split at hl
  · rename_i v s
    split at hl
    · rename_i hc
      cases hl
      obtain ⟨w, t, rfl, h1, h2⟩ := hs.cons
      unfold mStJ
      dsimp only
      rw [if_pos ⟨(aG1_ok _ _ v w (by simp [aG1, hc.1]) h1).2, by rw [← hL.1]; exact hc.2⟩]
      exact ⟨_, rfl, aGood.same hS hh (aUn_fs (aSet_fs (aKl_fs hL) h1)) h2⟩
    · cases hl
  · cases hl
set_option maxHeartbeats 2000000 in
theorem aA1_ok (hS : aOk r S m0 h) (hh : aHp h) (hL : aFs S.1.length r L M) (hs : aSk S.1.length r st su) (hl : aA1 en S i L st = some l) : ∃ g1, mA1 en i M su h = some g1 ∧ aGood r S m0 l g1 := by
  unfold aA1 at hl
  unfold mA1
  split at hl
  · rename_i heq
    cases hl
    rw [heq]
    exact ⟨_, rfl, aGood.same hS hh hL ⟨⟨aK_wf _ 0, rfl⟩, hs⟩⟩
  · rename_i n heq
    cases hl
    rw [heq]
    exact ⟨_, rfl, aGood.same hS hh hL ⟨⟨aK_wf _ _, _, rfl, by rw [aK_ev]⟩, hs⟩⟩
  · rename_i n heq
    cases hl
    rw [heq]
    exact ⟨_, rfl, aGood.same hS hh hL ⟨⟨aK_wf _ _, _, rfl, by rw [aK_ev]⟩, hs⟩⟩
  · rename_i n heq
    cases hl
    rw [heq]
    exact ⟨_, rfl, aGood.same hS hh hL ⟨⟨aK_wf _ _, _, rfl, by rw [aK_ev]⟩, hs⟩⟩
  · rename_i n heq
    cases hl
    rw [heq]
    exact ⟨_, rfl, aGood.same hS hh hL ⟨⟨aK_wf _ _, _, rfl, by rw [aK_ev]⟩, hs⟩⟩
  · rename_i n heq
    cases hl
    rw [heq]
    exact ⟨_, rfl, aGood.same hS hh hL ⟨⟨aK_wf _ _, _, rfl, by rw [aK_ev]⟩, hs⟩⟩
  · rename_i n heq
    cases hl
    rw [heq]
    exact ⟨_, rfl, aGood.same hS hh hL ⟨⟨aK_wf _ _, _, rfl, by rw [aK_ev]⟩, hs⟩⟩
  · rename_i n heq
    cases hl
    rw [heq]
    exact ⟨_, rfl, aGood.same hS hh hL ⟨⟨aK_wf _ _, _, rfl, by rw [aK_ev]⟩, hs⟩⟩
  · rename_i k heq
    rw [heq]
    exact aLd_ok aG0_ok hS hh hL hs hl
  · rename_i k heq
    rw [heq]
    exact aLd_ok aG0_ok hS hh hL hs hl
  · rename_i k heq
    rw [heq]
    exact aLd_ok aG1_ok hS hh hL hs hl
  · rename_i k heq
    rw [heq]
    exact aLd_ok aG1_ok hS hh hL hs hl
  · rename_i k heq
    rw [heq]
    exact aLd_ok aG2_ok hS hh hL hs hl
  · rename_i k heq
    rw [heq]
    exact aLd_ok aG2_ok hS hh hL hs hl
  · rename_i k heq
    rw [heq]
    split at hl
    · rename_i hc
      refine aSto_ok (fun v w s e hv => ?_) hS hh hL hs hl
      subst e
      exact (aG0_ok _ _ v w (by simpa [aG0] using hc) hv).2
    · cases hl
  · rename_i k heq
    rw [heq]
    split at hl
    · rename_i hc
      refine aSto_ok (fun v w s e hv => ?_) hS hh hL hs hl
      subst e
      exact (aG0_ok _ _ v w (by simpa [aG0] using hc) hv).2
    · cases hl
  · rename_i k heq
    rw [heq]
    exact aStJ_ok hS hh hL hs hl
  · rename_i k heq
    rw [heq]
    exact aStJ_ok hS hh hL hs hl
  · rename_i k heq
    rw [heq]
    split at hl
    · rename_i hc
      refine aSto_ok (fun v w s e hv => ?_) hS hh hL hs hl
      subst e
      exact (aG2_ok _ _ v w (by simpa [aG2] using hc) hv).2
    · cases hl
  · rename_i k heq
    rw [heq]
    split at hl
    · rename_i hc
      refine aSto_ok (fun v w s e hv => ?_) hS hh hL hs hl
      subst e
      exact (aG2_ok _ _ v w (by simpa [aG2] using hc) hv).2
    · cases hl
  · cases hl
end AB1
end
section
/-! one instruction in the analyser: arithmetic -/
def aC1 (v : aV) : Bool := decide (v.1 < 6) && v.1 != 1
def aA2 (en : mE) (S : aSt) (i : Nat) (L st : List aV) : Option (List aQ) := match en.2.1 with
  | .iinc k n => match L[k]? with
    | some v => if v.1 = 0 then some [((aCl S aMi aMa (aAd v.2.1 (aK (Int32.ofInt n).toInt))).1, i + 1, (aKl L k).set k (0, (aCl S aMi aMa (aAd v.2.1 (aK (Int32.ofInt n).toInt))).2, 0), st)] else none
    | none => none
  | .dup => match st with
    | v :: s => if aC1 v = true then some [(S, i + 1, L, v :: v :: s)] else none
    | _ => none
  | .dup2 => match st with
    | v :: u :: s => if aC1 v = true ∧ aC1 u = true then some [(S, i + 1, L, v :: u :: v :: u :: s)] else none
    | _ => none
  | .pop => match st with
    | v :: s => if aC1 v = true then some [(S, i + 1, L, s)] else none
    | _ => none
  | .pop2 => match st with
    | v :: s => if v.1 = 1 then some [(S, i + 1, L, s)] else none
    | _ => none
  | _ => none
def aOne (p : aP) (k i : Nat) (L s : List aV) : Option (List aQ) := some [(p.1, i + 1, L, (k, p.2, 0) :: s)]
def aTwo (p : Option aP) (k i : Nat) (L s : List aV) : Option (List aQ) := match p with
  | some p => aOne p k i L s
  | none => none
def aAll (S : aSt) (mi ma : Int) : aP := (aNw S mi ma, aVr S.1.length)
def aB1 (en : mE) (S : aSt) (i : Nat) (L st : List aV) : Option (List aQ) := match en.2.1 with
  | .iadd => match st with
    | (0, y, _) :: (0, x, _) :: s => aOne (aCl S aMi aMa (aAd x y)) 0 i L s
    | _ => none
  | .isub => match st with
    | (0, y, _) :: (0, x, _) :: s => aOne (aCl S aMi aMa (aSb x y)) 0 i L s
    | _ => none
  | .imul => match st with
    | (0, y, _) :: (0, x, _) :: s => aOne (aMul S aMi aMa x y) 0 i L s
    | _ => none
  | .iand => match st with
    | (0, y, _) :: (0, x, _) :: s => aOne (aAnd S x y) 0 i L s
    | _ => none
  | .ior => match st with
    | (0, y, _) :: (0, x, _) :: s => aOne (aOrX S true x y) 0 i L s
    | _ => none
  | .ixor => match st with
    | (0, y, _) :: (0, x, _) :: s => aOne (aOrX S false x y) 0 i L s
    | _ => none
  | .ishl => match st with
    | (0, y, _) :: (0, x, _) :: s => aOne (aShl S x y) 0 i L s
    | _ => none
  | .ishr => match st with
    | (0, y, _) :: (0, x, _) :: s => aOne (aShr S x y) 0 i L s
    | _ => none
  | .iushr => match st with
    | (0, y, _) :: (0, x, _) :: s => aOne (aAll S aMi aMa) 0 i L s
    | _ => none
  | .idiv => match st with
    | (0, y, _) :: (0, x, _) :: s => aTwo (aDiv S aMi aMa x y) 0 i L s
    | _ => none
  | .irem => match st with
    | (0, y, _) :: (0, x, _) :: s => aTwo (aRem S aMi aMa x y) 0 i L s
    | _ => none
  | .ineg => match st with
    | (0, x, _) :: s => aOne (aCl S aMi aMa (aSc (-1) x)) 0 i L s
    | _ => none
  | _ => none
def aB2 (en : mE) (S : aSt) (i : Nat) (L st : List aV) : Option (List aQ) := match en.2.1 with
  | .ladd => match st with
    | (1, y, _) :: (1, x, _) :: s => aOne (aCl S aLi aLa (aAd x y)) 1 i L s
    | _ => none
  | .lsub => match st with
    | (1, y, _) :: (1, x, _) :: s => aOne (aCl S aLi aLa (aSb x y)) 1 i L s
    | _ => none
  | .lmul => match st with
    | (1, y, _) :: (1, x, _) :: s => aOne (aMul S aLi aLa x y) 1 i L s
    | _ => none
  | .land => match st with
    | (1, y, _) :: (1, x, _) :: s => aOne (aAll S aLi aLa) 1 i L s
    | _ => none
  | .lor => match st with
    | (1, y, _) :: (1, x, _) :: s => aOne (aAll S aLi aLa) 1 i L s
    | _ => none
  | .lxor => match st with
    | (1, y, _) :: (1, x, _) :: s => aOne (aAll S aLi aLa) 1 i L s
    | _ => none
  | .ldiv => match st with
    | (1, y, _) :: (1, x, _) :: s => aTwo (aDiv S aLi aLa x y) 1 i L s
    | _ => none
  | .lrem => match st with
    | (1, y, _) :: (1, x, _) :: s => aTwo (aRem S aLi aLa x y) 1 i L s
    | _ => none
  | .lshl => match st with
    | (0, _, _) :: (1, _, _) :: s => aOne (aAll S aLi aLa) 1 i L s
    | _ => none
  | .lushr => match st with
    | (0, _, _) :: (1, _, _) :: s => aOne (aAll S aLi aLa) 1 i L s
    | _ => none
  | .lcmp => match st with
    | (1, y, _) :: (1, x, _) :: s => some [(S, i + 1, L, (5, aSb x y, 0) :: s)]
    | _ => none
  | .i2l => match st with
    | (0, x, _) :: s => some [(S, i + 1, L, (1, x, 0) :: s)]
    | _ => none
  | .l2i => match st with
    | (1, x, _) :: s => aOne (aCl S aMi aMa x) 0 i L s
    | _ => none
  | .i2b => match st with
    | (0, x, _) :: s => aOne (aCl S (-128) 127 x) 0 i L s
    | _ => none
  | _ => none
section AB2
variable {r : Nat → Int} {S : aSt} {m0 : Int} {h : mH} {L : List aV} {M : mL} {st : List aV} {su : List Value} {i : Nat} {en : mE} {l : List aQ}
theorem aC1_ok {n : Nat} {v : aV} {w : Value} (hc : aC1 v = true) (hv : aVs n r v w) : w.category = 1 := by
  unfold aC1 at hc
  simp only [Bool.and_eq_true, decide_eq_true_eq, bne_iff_ne] at hc
  exact aVs_cat hv hc.1 hc.2
theorem aCat2 {n : Nat} {v : aV} {w : Value} (hc : v.1 = 1) (hv : aVs n r v w) : w.category = 2 := by
  obtain ⟨-, hv⟩ := hv
  rw [hc] at hv
  obtain ⟨z, rfl, -⟩ := hv
  rfl
theorem aVs0 {n : Nat} {e : aX} {k : Nat} {w : Value} (h : aVs n r (0, e, k) w) : aWf n e ∧ ∃ z : Int32, w = .int z ∧ z.toInt = aEv r e := h
theorem aVs1 {n : Nat} {e : aX} {k : Nat} {w : Value} (h : aVs n r (1, e, k) w) : aWf n e ∧ ∃ z : Int64, w = .long z ∧ z.toInt = aEv r e := h
set_option maxHeartbeats 2000000 in
theorem aA2_ok (hS : aOk r S m0 h) (hh : aHp h) (hL : aFs S.1.length r L M) (hs : aSk S.1.length r st su) (hl : aA2 en S i L st = some l) : ∃ g1, mA2 en i M su h = some g1 ∧ aGood r S m0 l g1 := by
  unfold aA2 at hl
  unfold mA2
  split at hl
  · rename_i k n heq
    rw [heq]
    split at hl
    · rename_i v hv
      split at hl
      · rename_i h0
        cases hl
        obtain ⟨w, h1, h2⟩ := hL.2 k v hv (by omega)
        have hlt : k < M.length := by rw [← hL.1]; exact (List.getElem?_eq_some_iff.mp hv).1
        obtain ⟨hw, h2⟩ := h2
        rw [h0] at h2
        obtain ⟨z, rfl, hz⟩ := h2
        dsimp only
        rw [h1]
        dsimp only
        rw [if_pos hlt]
        obtain ⟨r1, q1, q2, q3, q4⟩ := aCl_ok (z := (z + Int32.ofInt n).toInt) (mi := aMi) (ma := aMa) (e := aAd v.2.1 (aK (Int32.ofInt n).toInt)) hS (aAd_wf hw (aK_wf _ _)) (aI_rg _).1 (aI_rg _).2 (by
          rw [aAd_ev, aK_ev, ← hz]
          exact aI_add)
        exact ⟨_, rfl, _, List.mem_cons_self, r1, q1, hh, q2, rfl, aSet_fs (aKl_fs (hL.le q2)) ⟨q3, _, rfl, q4⟩, hs.le q2⟩
      · cases hl
    · cases hl
  · rename_i heq
    rw [heq]
    split at hl
    · rename_i v s
      split at hl
      · rename_i hc
        cases hl
        obtain ⟨w, t, rfl, h1, h2⟩ := hs.cons
        dsimp only
        rw [if_pos (aC1_ok hc h1)]
        exact ⟨_, rfl, aGood.same hS hh hL ⟨h1, h1, h2⟩⟩
      · cases hl
    · cases hl
  · rename_i heq
    rw [heq]
    split at hl
    · rename_i v u s
      split at hl
      · rename_i hc
        cases hl
        obtain ⟨w, t, rfl, h1, h2⟩ := hs.cons
        obtain ⟨w2, t2, rfl, h3, h4⟩ := h2.cons
        dsimp only
        rw [if_pos ⟨aC1_ok hc.1 h1, aC1_ok hc.2 h3⟩]
        exact ⟨_, rfl, aGood.same hS hh hL ⟨h1, h3, h1, h3, h4⟩⟩
      · cases hl
    · cases hl
  · rename_i heq
    rw [heq]
    split at hl
    · rename_i v s
      split at hl
      · rename_i hc
        cases hl
        obtain ⟨w, t, rfl, h1, h2⟩ := hs.cons
        dsimp only
        rw [if_pos (aC1_ok hc h1)]
        exact ⟨_, rfl, aGood.same hS hh hL h2⟩
      · cases hl
    · cases hl
  · rename_i heq
    rw [heq]
    split at hl
    · rename_i v s
      split at hl
      · rename_i hc
        cases hl
        obtain ⟨w, t, rfl, h1, h2⟩ := hs.cons
        dsimp only
        rw [if_pos (aCat2 hc h1)]
        exact ⟨_, rfl, aGood.same hS hh hL h2⟩
      · cases hl
    · cases hl
  · cases hl
theorem aAll_ok {mi ma z : Int} (hS : aOk r S m0 h) (h1 : mi ≤ z) (h2 : z ≤ ma) : aRes r S m0 h (aAll S mi ma) z := aRes.new hS h1 h2
set_option maxHeartbeats 4000000 in
theorem aB1_ok (hS : aOk r S m0 h) (hh : aHp h) (hL : aFs S.1.length r L M) (hs : aSk S.1.length r st su) (hl : aB1 en S i L st = some l) : ∃ g1, mB1 en i M su h = some g1 ∧ aGood r S m0 l g1 := by
  unfold aB1 at hl
  unfold mB1
  split at hl
  · rename_i heq
    rw [heq]
    split at hl
    · rename_i y ky x kx s
      obtain ⟨w1, t1, rfl, h1, h2⟩ := hs.cons
      obtain ⟨w2, t2, rfl, h3, h4⟩ := h2.cons
      obtain ⟨wy, v, rfl, ev⟩ := aVs0 h1
      obtain ⟨wx, u, rfl, eu⟩ := aVs0 h3
      dsimp only
      cases hl
      exact ⟨_, rfl, aGood.int hh hL h4 (aCl_ok hS (aAd_wf wx wy) (aI_rg _).1 (aI_rg _).2 (by rw [aAd_ev, ← eu, ← ev]; exact aI_add))⟩
    · cases hl
  · rename_i heq
    rw [heq]
    split at hl
    · rename_i y ky x kx s
      obtain ⟨w1, t1, rfl, h1, h2⟩ := hs.cons
      obtain ⟨w2, t2, rfl, h3, h4⟩ := h2.cons
      obtain ⟨wy, v, rfl, ev⟩ := aVs0 h1
      obtain ⟨wx, u, rfl, eu⟩ := aVs0 h3
      dsimp only
      cases hl
      exact ⟨_, rfl, aGood.int hh hL h4 (aCl_ok hS (aSb_wf wx wy) (aI_rg _).1 (aI_rg _).2 (by rw [aSb_ev, ← eu, ← ev]; exact aI_sub))⟩
    · cases hl
  · rename_i heq
    rw [heq]
    split at hl
    · rename_i y ky x kx s
      obtain ⟨w1, t1, rfl, h1, h2⟩ := hs.cons
      obtain ⟨w2, t2, rfl, h3, h4⟩ := h2.cons
      obtain ⟨wy, v, rfl, ev⟩ := aVs0 h1
      obtain ⟨wx, u, rfl, eu⟩ := aVs0 h3
      dsimp only
      cases hl
      exact ⟨_, rfl, aGood.int hh hL h4 (aMul_ok hS wx wy (aI_rg _).1 (aI_rg _).2 (by decide) (by rw [← eu, ← ev]; exact aI_mul))⟩
    · cases hl
  · rename_i heq
    rw [heq]
    split at hl
    · rename_i y ky x kx s
      obtain ⟨w1, t1, rfl, h1, h2⟩ := hs.cons
      obtain ⟨w2, t2, rfl, h3, h4⟩ := h2.cons
      obtain ⟨wy, v, rfl, ev⟩ := aVs0 h1
      obtain ⟨wx, u, rfl, eu⟩ := aVs0 h3
      dsimp only
      cases hl
      exact ⟨_, rfl, aGood.int hh hL h4 (aAnd_ok hS wx wy eu ev)⟩
    · cases hl
  · rename_i heq
    rw [heq]
    split at hl
    · rename_i y ky x kx s
      obtain ⟨w1, t1, rfl, h1, h2⟩ := hs.cons
      obtain ⟨w2, t2, rfl, h3, h4⟩ := h2.cons
      obtain ⟨wy, v, rfl, ev⟩ := aVs0 h1
      obtain ⟨wx, u, rfl, eu⟩ := aVs0 h3
      dsimp only
      cases hl
      exact ⟨_, rfl, aGood.int hh hL h4 (by have key := aOrX_ok (o := true) hS wx wy eu ev; exact key)⟩
    · cases hl
  · rename_i heq
    rw [heq]
    split at hl
    · rename_i y ky x kx s
      obtain ⟨w1, t1, rfl, h1, h2⟩ := hs.cons
      obtain ⟨w2, t2, rfl, h3, h4⟩ := h2.cons
      obtain ⟨wy, v, rfl, ev⟩ := aVs0 h1
      obtain ⟨wx, u, rfl, eu⟩ := aVs0 h3
      dsimp only
      cases hl
      exact ⟨_, rfl, aGood.int hh hL h4 (by have key := aOrX_ok (o := false) hS wx wy eu ev; exact key)⟩
    · cases hl
  · rename_i heq
    rw [heq]
    split at hl
    · rename_i y ky x kx s
      obtain ⟨w1, t1, rfl, h1, h2⟩ := hs.cons
      obtain ⟨w2, t2, rfl, h3, h4⟩ := h2.cons
      obtain ⟨wy, v, rfl, ev⟩ := aVs0 h1
      obtain ⟨wx, u, rfl, eu⟩ := aVs0 h3
      dsimp only
      cases hl
      exact ⟨_, rfl, aGood.int hh hL h4 (aShl_ok hS wx wy eu ev)⟩
    · cases hl
  · rename_i heq
    rw [heq]
    split at hl
    · rename_i y ky x kx s
      obtain ⟨w1, t1, rfl, h1, h2⟩ := hs.cons
      obtain ⟨w2, t2, rfl, h3, h4⟩ := h2.cons
      obtain ⟨wy, v, rfl, ev⟩ := aVs0 h1
      obtain ⟨wx, u, rfl, eu⟩ := aVs0 h3
      dsimp only
      cases hl
      exact ⟨_, rfl, aGood.int hh hL h4 (aShr_ok hS wx wy eu ev)⟩
    · cases hl
  · rename_i heq
    rw [heq]
    split at hl
    · rename_i y ky x kx s
      obtain ⟨w1, t1, rfl, h1, h2⟩ := hs.cons
      obtain ⟨w2, t2, rfl, h3, h4⟩ := h2.cons
      obtain ⟨wy, v, rfl, ev⟩ := aVs0 h1
      obtain ⟨wx, u, rfl, eu⟩ := aVs0 h3
      dsimp only
      cases hl
      exact ⟨_, rfl, aGood.int hh hL h4 (aAll_ok hS (aI_rg _).1 (aI_rg _).2)⟩
    · cases hl
  · rename_i heq
    rw [heq]
    split at hl
    · rename_i y ky x kx s
      obtain ⟨w1, t1, rfl, h1, h2⟩ := hs.cons
      obtain ⟨w2, t2, rfl, h3, h4⟩ := h2.cons
      obtain ⟨wy, v, rfl, ev⟩ := aVs0 h1
      obtain ⟨wx, u, rfl, eu⟩ := aVs0 h3
      dsimp only
      unfold aTwo at hl
      split at hl
      · rename_i p hp
        cases hl
        have key := aDiv_ok (z := (u / v).toInt) hS wx wy (aI_rg _).1 (aI_rg _).2 (by rw [← eu, ← ev]; exact aI_tdiv) hp
        rw [if_neg (fun e0 => key.1 (by rw [← ev, e0]; rfl))]
        exact ⟨_, rfl, aGood.int hh hL h4 key.2⟩
      · cases hl
    · cases hl
  · rename_i heq
    rw [heq]
    split at hl
    · rename_i y ky x kx s
      obtain ⟨w1, t1, rfl, h1, h2⟩ := hs.cons
      obtain ⟨w2, t2, rfl, h3, h4⟩ := h2.cons
      obtain ⟨wy, v, rfl, ev⟩ := aVs0 h1
      obtain ⟨wx, u, rfl, eu⟩ := aVs0 h3
      dsimp only
      unfold aTwo at hl
      split at hl
      · rename_i p hp
        cases hl
        have key := aRem_ok (z := (u - u / v * v).toInt) hS wx wy (aI_rg _).1 (aI_rg _).2 (by rw [← eu, ← ev]; exact aI_rem u v) hp
        rw [if_neg (fun e0 => key.1 (by rw [← ev, e0]; rfl))]
        exact ⟨_, rfl, aGood.int hh hL h4 key.2⟩
      · cases hl
    · cases hl
  · rename_i heq
    rw [heq]
    split at hl
    · rename_i x kx s
      obtain ⟨w1, t1, rfl, h1, h2⟩ := hs.cons
      obtain ⟨wx, u, rfl, eu⟩ := aVs0 h1
      dsimp only
      cases hl
      exact ⟨_, rfl, aGood.int hh hL h2 (aCl_ok hS (aSc_wf wx) (aI_rg _).1 (aI_rg _).2 (by rw [aSc_ev, ← eu, Int.neg_one_mul]; exact aI_neg))⟩
    · cases hl
  · cases hl
set_option maxHeartbeats 4000000 in
theorem aB2_ok (hS : aOk r S m0 h) (hh : aHp h) (hL : aFs S.1.length r L M) (hs : aSk S.1.length r st su) (hl : aB2 en S i L st = some l) : ∃ g1, mB2 en i M su h = some g1 ∧ aGood r S m0 l g1 := by
  unfold aB2 at hl
  unfold mB2
  split at hl
  · rename_i heq
    rw [heq]
    split at hl
    · rename_i y ky x kx s
      obtain ⟨w1, t1, rfl, h1, h2⟩ := hs.cons
      obtain ⟨w2, t2, rfl, h3, h4⟩ := h2.cons
      obtain ⟨wy, v, rfl, ev⟩ := aVs1 h1
      obtain ⟨wx, u, rfl, eu⟩ := aVs1 h3
      dsimp only
      cases hl
      exact ⟨_, rfl, aGood.long hh hL h4 (aCl_ok hS (aAd_wf wx wy) (aL_rg _).1 (aL_rg _).2 (by rw [aAd_ev, ← eu, ← ev]; exact aL_add))⟩
    · cases hl
  · rename_i heq
    rw [heq]
    split at hl
    · rename_i y ky x kx s
      obtain ⟨w1, t1, rfl, h1, h2⟩ := hs.cons
      obtain ⟨w2, t2, rfl, h3, h4⟩ := h2.cons
      obtain ⟨wy, v, rfl, ev⟩ := aVs1 h1
      obtain ⟨wx, u, rfl, eu⟩ := aVs1 h3
      dsimp only
      cases hl
      exact ⟨_, rfl, aGood.long hh hL h4 (aCl_ok hS (aSb_wf wx wy) (aL_rg _).1 (aL_rg _).2 (by rw [aSb_ev, ← eu, ← ev]; exact aL_sub))⟩
    · cases hl
  · rename_i heq
    rw [heq]
    split at hl
    · rename_i y ky x kx s
      obtain ⟨w1, t1, rfl, h1, h2⟩ := hs.cons
      obtain ⟨w2, t2, rfl, h3, h4⟩ := h2.cons
      obtain ⟨wy, v, rfl, ev⟩ := aVs1 h1
      obtain ⟨wx, u, rfl, eu⟩ := aVs1 h3
      dsimp only
      cases hl
      exact ⟨_, rfl, aGood.long hh hL h4 (aMul_ok hS wx wy (aL_rg _).1 (aL_rg _).2 (by decide) (by rw [← eu, ← ev]; exact aL_mul))⟩
    · cases hl
  · rename_i heq
    rw [heq]
    split at hl
    · rename_i y ky x kx s
      obtain ⟨w1, t1, rfl, h1, h2⟩ := hs.cons
      obtain ⟨w2, t2, rfl, h3, h4⟩ := h2.cons
      obtain ⟨wy, v, rfl, ev⟩ := aVs1 h1
      obtain ⟨wx, u, rfl, eu⟩ := aVs1 h3
      dsimp only
      cases hl
      exact ⟨_, rfl, aGood.long hh hL h4 (aAll_ok hS (aL_rg _).1 (aL_rg _).2)⟩
    · cases hl
  · rename_i heq
    rw [heq]
    split at hl
    · rename_i y ky x kx s
      obtain ⟨w1, t1, rfl, h1, h2⟩ := hs.cons
      obtain ⟨w2, t2, rfl, h3, h4⟩ := h2.cons
      obtain ⟨wy, v, rfl, ev⟩ := aVs1 h1
      obtain ⟨wx, u, rfl, eu⟩ := aVs1 h3
      dsimp only
      cases hl
      exact ⟨_, rfl, aGood.long hh hL h4 (aAll_ok hS (aL_rg _).1 (aL_rg _).2)⟩
    · cases hl
  · rename_i heq
    rw [heq]
    split at hl
    · rename_i y ky x kx s
      obtain ⟨w1, t1, rfl, h1, h2⟩ := hs.cons
      obtain ⟨w2, t2, rfl, h3, h4⟩ := h2.cons
      obtain ⟨wy, v, rfl, ev⟩ := aVs1 h1
      obtain ⟨wx, u, rfl, eu⟩ := aVs1 h3
      dsimp only
      cases hl
      exact ⟨_, rfl, aGood.long hh hL h4 (aAll_ok hS (aL_rg _).1 (aL_rg _).2)⟩
    · cases hl
  · rename_i heq
    rw [heq]
    split at hl
    · rename_i y ky x kx s
      obtain ⟨w1, t1, rfl, h1, h2⟩ := hs.cons
      obtain ⟨w2, t2, rfl, h3, h4⟩ := h2.cons
      obtain ⟨wy, v, rfl, ev⟩ := aVs1 h1
      obtain ⟨wx, u, rfl, eu⟩ := aVs1 h3
      dsimp only
      unfold aTwo at hl
      split at hl
      · rename_i p hp
        cases hl
        have key := aDiv_ok (z := (u / v).toInt) hS wx wy (aL_rg _).1 (aL_rg _).2 (by rw [← eu, ← ev]; exact lg_ldiv_nonneg) hp
        rw [if_neg (fun e0 => key.1 (by rw [← ev, e0]; rfl))]
        exact ⟨_, rfl, aGood.long hh hL h4 key.2⟩
      · cases hl
    · cases hl
  · rename_i heq
    rw [heq]
    split at hl
    · rename_i y ky x kx s
      obtain ⟨w1, t1, rfl, h1, h2⟩ := hs.cons
      obtain ⟨w2, t2, rfl, h3, h4⟩ := h2.cons
      obtain ⟨wy, v, rfl, ev⟩ := aVs1 h1
      obtain ⟨wx, u, rfl, eu⟩ := aVs1 h3
      dsimp only
      unfold aTwo at hl
      split at hl
      · rename_i p hp
        cases hl
        have key := aRem_ok (z := (u - u / v * v).toInt) hS wx wy (aL_rg _).1 (aL_rg _).2 (by rw [← eu, ← ev]; exact aL_rem u v) hp
        rw [if_neg (fun e0 => key.1 (by rw [← ev, e0]; rfl))]
        exact ⟨_, rfl, aGood.long hh hL h4 key.2⟩
      · cases hl
    · cases hl
  · rename_i heq
    rw [heq]
    split at hl
    · rename_i y ky x kx s
      obtain ⟨w1, t1, rfl, h1, h2⟩ := hs.cons
      obtain ⟨w2, t2, rfl, h3, h4⟩ := h2.cons
      obtain ⟨wy, v, rfl, ev⟩ := aVs0 h1
      obtain ⟨wx, u, rfl, eu⟩ := aVs1 h3
      dsimp only
      cases hl
      exact ⟨_, rfl, aGood.long hh hL h4 (aAll_ok hS (aL_rg _).1 (aL_rg _).2)⟩
    · cases hl
  · rename_i heq
    rw [heq]
    split at hl
    · rename_i y ky x kx s
      obtain ⟨w1, t1, rfl, h1, h2⟩ := hs.cons
      obtain ⟨w2, t2, rfl, h3, h4⟩ := h2.cons
      obtain ⟨wy, v, rfl, ev⟩ := aVs0 h1
      obtain ⟨wx, u, rfl, eu⟩ := aVs1 h3
      dsimp only
      cases hl
      exact ⟨_, rfl, aGood.long hh hL h4 (aAll_ok hS (aL_rg _).1 (aL_rg _).2)⟩
    · cases hl
  · rename_i heq
    rw [heq]
    split at hl
    · rename_i y ky x kx s
      obtain ⟨w1, t1, rfl, h1, h2⟩ := hs.cons
      obtain ⟨w2, t2, rfl, h3, h4⟩ := h2.cons
      obtain ⟨wy, v, rfl, ev⟩ := aVs1 h1
      obtain ⟨wx, u, rfl, eu⟩ := aVs1 h3
      dsimp only
      cases hl
      refine ⟨_, rfl, aGood.same hS hh hL ⟨⟨aSb_wf wx wy, lg_cmp u v, rfl, ?_⟩, h4⟩⟩
      show (lg_cmp u v).toInt = _
      rw [aSb_ev, ← eu, ← ev]
      rcases lg_tri u v with c1 | c1 | c1
      · have c2 := Int64.lt_iff_toInt_lt.mp c1
        have e1 : lg_cmp u v = -1 := by unfold lg_cmp; simp [lg_lt_not c1, lg_lt_ne c1]
        rw [e1, if_neg (by omega), if_neg (by omega)]; rfl
      · have e1 : lg_cmp u v = 0 := by unfold lg_cmp; simp [c1]
        rw [e1, c1, if_neg (by omega), if_pos (by omega)]; rfl
      · have c2 := Int64.lt_iff_toInt_lt.mp c1
        have e1 : lg_cmp u v = 1 := by unfold lg_cmp; simp [c1]
        rw [e1, if_pos (by omega)]; rfl
    · cases hl
  · rename_i heq
    rw [heq]
    split at hl
    · rename_i x kx s
      obtain ⟨w1, t1, rfl, h1, h2⟩ := hs.cons
      obtain ⟨wx, u, rfl, eu⟩ := aVs0 h1
      dsimp only
      cases hl
      exact ⟨_, rfl, aGood.same hS hh hL ⟨⟨wx, u.toInt64, rfl, by rw [Int32.toInt_toInt64]; exact eu⟩, h2⟩⟩
    · cases hl
  · rename_i heq
    rw [heq]
    split at hl
    · rename_i x kx s
      obtain ⟨w1, t1, rfl, h1, h2⟩ := hs.cons
      obtain ⟨wx, u, rfl, eu⟩ := aVs1 h1
      dsimp only
      cases hl
      exact ⟨_, rfl, aGood.int hh hL h2 (aCl_ok hS wx (aI_rg _).1 (aI_rg _).2 (by rw [← eu, Int64.toInt_toInt32]; exact fun q1 q2 => bmod32 q1 q2))⟩
    · cases hl
  · rename_i heq
    rw [heq]
    split at hl
    · rename_i x kx s
      obtain ⟨w1, t1, rfl, h1, h2⟩ := hs.cons
      obtain ⟨wx, u, rfl, eu⟩ := aVs0 h1
      dsimp only
      cases hl
      have hb := lg_i2b_range u
      exact ⟨_, rfl, aGood.int hh hL h2 (aCl_ok hS wx hb.1 (by omega) (by rw [← eu]; exact fun q1 q2 => by rw [lg_i2b_small q1 (by omega)]))⟩
    · cases hl
  · cases hl
end AB2
end
section
/-! one instruction in the analyser: jumps, cells -/
def aCn (S : aSt) (e : aX) (isc : Bool) : ClassFile.Cond → List aSt
  | .lt => (aAs S (aSb (aK (-1)) e)).toList
  | .ge => (aAs S e).toList
  | .gt => (aAs S (aSb e (aK 1))).toList
  | .le => (aAs S (aSc (-1) e)).toList
  | .eq => (aEq2 S e 0).toList
  | .ne => if aPr S e = true then (aAs S (aSb e (aK 1))).toList else if aPr S (aSc (-1) e) = true then (aAs S (aSb (aK (-1)) e)).toList else if isc = true then (aAs S (aSb (aK (-1)) e)).toList ++ (aAs S (aSb e (aK 1))).toList else [S]
def aNg : ClassFile.Cond → ClassFile.Cond
  | .lt => .ge
  | .ge => .lt
  | .gt => .le
  | .le => .gt
  | .eq => .ne
  | .ne => .eq
def aHd (q : ClassFile.Cond) (z : Int) : Prop := match q with
  | .lt => z < 0
  | .ge => 0 ≤ z
  | .gt => 0 < z
  | .le => z ≤ 0
  | .eq => z = 0
  | .ne => z ≠ 0
theorem aHd_ng {q : ClassFile.Cond} {z : Int} (h : ¬ aHd q z) : aHd (aNg q) z := by
  cases q <;> simp only [aHd, aNg] at h ⊢ <;> omega
section AB3
variable {r : Nat → Int} {S : aSt} {m0 : Int} {h : mH} {L : List aV} {M : mL} {st : List aV} {su : List Value} {i : Nat} {en : mE} {l : List aQ}
theorem aCn_ok {q : ClassFile.Cond} {e : aX} {isc : Bool} (hS : aOk r S m0 h) (hw : aWf S.1.length e) (hq : aHd q (aEv r e)) : ∃ S1 ∈ aCn S e isc q, aOk r S1 m0 h ∧ S1.1.length = S.1.length := by
  have via : ∀ f : aX, aWf S.1.length f → 0 ≤ aEv r f → ∃ S1 ∈ (aAs S f).toList, aOk r S1 m0 h ∧ S1.1.length = S.1.length := by
    intro f hf h0
    obtain ⟨S1, h1, h2, h3⟩ := aAs_ok hS hf h0
    exact ⟨S1, by rw [h1]; exact List.mem_singleton.mpr rfl, h2, h3⟩
  have w1 : aWf S.1.length (aSb (aK (-1)) e) := aSb_wf (aK_wf _ _) hw
  have w2 : aWf S.1.length (aSb e (aK 1)) := aSb_wf hw (aK_wf _ _)
  have e1 : aEv r (aSb (aK (-1)) e) = -1 - aEv r e := by rw [aSb_ev, aK_ev]
  have e2 : aEv r (aSb e (aK 1)) = aEv r e - 1 := by rw [aSb_ev, aK_ev]
  cases q
  · simp only [aHd] at hq
    obtain ⟨S1, h1, h2, h3⟩ := aEq2_ok (j := 0) hS hw hq
    refine ⟨S1, ?_, h2, h3⟩
    show S1 ∈ (aEq2 S e 0).toList
    rw [h1]
    exact List.mem_singleton.mpr rfl
  · simp only [aHd] at hq
    unfold aCn
    dsimp only
    split
    · rename_i hp
      have := aPr_ok hS hw hp
      exact via _ w2 (by omega)
    · split
      · rename_i hp
        have := aPr_ok hS (aSc_wf hw) hp
        rw [aSc_ev] at this
        exact via _ w1 (by omega)
      · split
        · rcases Int.lt_or_lt_of_ne hq with q | q
          · obtain ⟨S1, h1, h2⟩ := via _ w1 (by omega)
            exact ⟨S1, List.mem_append_left _ h1, h2⟩
          · obtain ⟨S1, h1, h2⟩ := via _ w2 (by omega)
            exact ⟨S1, List.mem_append_right _ h1, h2⟩
        · exact ⟨S, List.mem_singleton.mpr rfl, hS, rfl⟩
  · simp only [aHd] at hq
    exact via _ w1 (by omega)
  · simp only [aHd] at hq
    exact via _ hw hq
  · simp only [aHd] at hq
    exact via _ w2 (by omega)
  · simp only [aHd] at hq
    exact via _ (aSc_wf hw) (by rw [aSc_ev]; omega)
def aBr (S : aSt) (e : aX) (isc : Bool) (q : ClassFile.Cond) (en : mE) (i : Nat) (L s : List aV) : List aQ := (aCn S e isc q).map (fun S1 => (S1, mTgt en 0, L, s)) ++ (aCn S e isc (aNg q)).map (fun S1 => (S1, i + 1, L, s))
theorem aBr_ok {q : ClassFile.Cond} {e : aX} {isc : Bool} {d : Bool} (hS : aOk r S m0 h) (hh : aHp h) (hL : aFs S.1.length r L M) (hs : aSk S.1.length r st su) (hw : aWf S.1.length e) (hd : d = true ↔ aHd q (aEv r e)) : aGood r S m0 (aBr S e isc q en i L st) (mIf en d i M su h) := by
  unfold mIf aBr
  split
  · rename_i hc
    obtain ⟨S1, h1, h2, h3⟩ := aCn_ok (isc := isc) hS hw (hd.mp hc)
    exact ⟨_, List.mem_append_left _ (List.mem_map.mpr ⟨S1, h1, rfl⟩), r, h2, hh, by rw [h3]; exact aLe.rf, rfl, by rw [h3]; exact hL, by rw [h3]; exact hs⟩
  · rename_i hc
    obtain ⟨S1, h1, h2, h3⟩ := aCn_ok (isc := isc) hS hw (aHd_ng (fun z => hc (hd.mpr z)))
    exact ⟨_, List.mem_append_right _ (List.mem_map.mpr ⟨S1, h1, rfl⟩), r, h2, hh, by rw [h3]; exact aLe.rf, rfl, by rw [h3]; exact hL, by rw [h3]; exact hs⟩
def aTs (S : aSt) (e : aX) (en : mE) (L s : List aV) : Nat → Int → Nat → List aQ
  | 0, _, _ => []
  | n + 1, j, k => match aEq2 S e j with
    | some S1 => (S1, mTgt en k, L, s) :: aTs S e en L s n (j + 1) (k + 1)
    | none => aTs S e en L s n (j + 1) (k + 1)
def aLs (S : aSt) (e : aX) (en : mE) (L s : List aV) : List (Int × Int) → Nat → List aQ
  | [], _ => []
  | p :: ps, k => match aEq2 S e p.1 with
    | some S1 => (S1, mTgt en k, L, s) :: aLs S e en L s ps (k + 1)
    | none => aLs S e en L s ps (k + 1)
def aB3 (en : mE) (S : aSt) (i : Nat) (L st : List aV) : Option (List aQ) := match en.2.1 with
  | .goto _ => some [(S, mTgt en 0, L, st)]
  | .if_icmp q _ => match st with
    | (0, y, _) :: (0, x, _) :: s => some (aBr S (aSb x y) false q en i L s)
    | _ => none
  | .ifCond q _ => match st with
    | (0, x, _) :: s => some (aBr S x false q en i L s)
    | (5, x, _) :: s => some (aBr S x true q en i L s)
    | _ => none
  | .ifnull _ => match st with
    | (3, _, _) :: s => some [(S, mTgt en 0, L, s)]
    | (2, _, _) :: s => some [(S, i + 1, L, s)]
    | _ => none
  | .ifnonnull _ => match st with
    | (3, _, _) :: s => some [(S, i + 1, L, s)]
    | (2, _, _) :: s => some [(S, mTgt en 0, L, s)]
    | _ => none
  | .tableswitch _ lo hi _ => match st with
    | (0, x, _) :: s => some ((aAs S (aSb (aK (lo - 1)) x)).toList.map (fun S1 => (S1, mTgt en 0, L, s)) ++ ((aAs S (aSb x (aK (hi + 1)))).toList.map (fun S1 => (S1, mTgt en 0, L, s)) ++ aTs S x en L s (hi - lo + 1).toNat lo 1))
    | _ => none
  | .lookupswitch _ ps => match st with
    | (0, x, _) :: s => some (aLs S x en L s ps.toList 1 ++ (if aLo S.1 x = aHj S.1 x ∧ (ps.toList.any (fun p => p.1 == aLo S.1 x)) = true then [] else [(S, mTgt en 0, L, s)]))
    | _ => none
  | _ => none
theorem aTs_mem {e : aX} {s : List aV} (hS : aOk r S m0 h) (hw : aWf S.1.length e) : ∀ (n : Nat) (j : Int) (k : Nat), j ≤ aEv r e → aEv r e < j + n → ∃ S1, aOk r S1 m0 h ∧ S1.1.length = S.1.length ∧ (S1, mTgt en (k + (aEv r e - j).toNat), L, s) ∈ aTs S e en L s n j k := by
  intro n
  induction n with
  | zero => intro j k h1 h2; omega
  | succ n ih =>
    intro j k h1 h2
    unfold aTs
    by_cases e1 : aEv r e = j
    · obtain ⟨S1, q1, q2, q3⟩ := aEq2_ok hS hw e1
      rw [q1]
      refine ⟨S1, q2, q3, ?_⟩
      rw [e1, Int.sub_self]
      exact List.mem_cons_self
    · obtain ⟨S1, q1, q2, q3⟩ := ih (j + 1) (k + 1) (by omega) (by omega)
      rw [show k + (aEv r e - j).toNat = k + 1 + (aEv r e - (j + 1)).toNat by omega]
      split
      · exact ⟨S1, q1, q2, List.mem_cons_of_mem _ q3⟩
      · exact ⟨S1, q1, q2, q3⟩
theorem aLs_mem {e : aX} {s : List aV} (hS : aOk r S m0 h) (hw : aWf S.1.length e) : ∀ (ps : List (Int × Int)) (k : Nat), 0 < k → mLk ps k (aEv r e) ≠ 0 → ∃ S1, aOk r S1 m0 h ∧ S1.1.length = S.1.length ∧ (S1, mTgt en (mLk ps k (aEv r e)), L, s) ∈ aLs S e en L s ps k := by
  intro ps
  induction ps with
  | nil => intro k _ h1; exact absurd rfl h1
  | cons p ps ih =>
    intro k hk h1
    unfold mLk at h1 ⊢
    unfold aLs
    by_cases e1 : aEv r e = p.1
    · obtain ⟨S1, q1, q2, q3⟩ := aEq2_ok hS hw e1
      rw [q1, if_pos e1]
      exact ⟨S1, q2, q3, List.mem_cons_self⟩
    · rw [if_neg e1] at h1 ⊢
      obtain ⟨S1, q1, q2, q3⟩ := ih (k + 1) (by omega) h1
      split
      · exact ⟨S1, q1, q2, List.mem_cons_of_mem _ q3⟩
      · exact ⟨S1, q1, q2, q3⟩
theorem mLk_in {ps : List (Int × Int)} {z : Int} : ∀ {k : Nat}, 0 < k → (∃ p ∈ ps, p.1 = z) → mLk ps k z ≠ 0 := by
  induction ps with
  | nil => rintro k _ ⟨p, hp, -⟩; cases hp
  | cons q ps ih =>
    rintro k hk ⟨p, hp, hz⟩
    unfold mLk
    split
    · omega
    · rename_i hne
      rcases List.mem_cons.mp hp with rfl | hp
      · exact absurd hz.symm hne
      · exact ih (by omega) ⟨p, hp, hz⟩
set_option maxHeartbeats 2000000 in
theorem aB3_ok (hS : aOk r S m0 h) (hh : aHp h) (hL : aFs S.1.length r L M) (hs : aSk S.1.length r st su) (hl : aB3 en S i L st = some l) : ∃ g1, mB3 en i M su h = some g1 ∧ aGood r S m0 l g1 := by
  unfold aB3 at hl
  unfold mB3
  split at hl
  · rename_i heq
    rw [heq]
    cases hl
    exact ⟨_, rfl, aGood.same hS hh hL hs⟩
  · rename_i q off heq
    rw [heq]
    split at hl
    · rename_i y ky x kx s
      obtain ⟨w1, t1, rfl, h1, h2⟩ := hs.cons
      obtain ⟨w2, t2, rfl, h3, h4⟩ := h2.cons
      obtain ⟨wy, v, rfl, ev⟩ := aVs0 h1
      obtain ⟨wx, u, rfl, eu⟩ := aVs0 h3
      dsimp only
      cases hl
      refine ⟨_, rfl, aBr_ok hS hh hL h4 (aSb_wf wx wy) ?_⟩
      rw [aSb_ev, ← eu, ← ev]
      cases q <;> simp only [mC2, aHd, decide_eq_true_eq, ge_iff_le, gt_iff_lt, ne_eq, aI_ind, Int32.lt_iff_toInt_lt, Int32.le_iff_toInt_le] <;> omega
    · cases hl
  · rename_i q off heq
    rw [heq]
    split at hl
    · rename_i x kx s
      obtain ⟨w1, t1, rfl, h1, h2⟩ := hs.cons
      obtain ⟨wx, u, rfl, eu⟩ := aVs0 h1
      dsimp only
      cases hl
      refine ⟨_, rfl, aBr_ok hS hh hL h2 wx ?_⟩
      rw [← eu]
      have h0 : (0 : Int32).toInt = 0 := rfl
      cases q <;> simp only [mC2, aHd, decide_eq_true_eq, ge_iff_le, gt_iff_lt, ne_eq, aI_ind, Int32.lt_iff_toInt_lt, Int32.le_iff_toInt_le, h0]
    · rename_i x kx s
      obtain ⟨w1, t1, rfl, h1, h2⟩ := hs.cons
      obtain ⟨wx, u, rfl, eu⟩ : aWf S.1.length x ∧ ∃ z : Int32, w1 = .int z ∧ z.toInt = (if 0 < aEv r x then 1 else if aEv r x = 0 then 0 else -1) := h1
      dsimp only
      cases hl
      refine ⟨_, rfl, aBr_ok hS hh hL h2 wx ?_⟩
      have h0 : (0 : Int32).toInt = 0 := rfl
      cases q <;> simp only [mC2, aHd, decide_eq_true_eq, ge_iff_le, gt_iff_lt, ne_eq, aI_ind, Int32.lt_iff_toInt_lt, Int32.le_iff_toInt_le, h0, eu] <;> (split <;> (try split) <;> omega)
    · cases hl
  · rename_i off heq
    rw [heq]
    split at hl
    · obtain ⟨w1, t1, rfl, h1, h2⟩ := hs.cons
      have h3 : w1 = .null := h1.2
      subst h3
      cases hl
      exact ⟨_, rfl, aGood.same hS hh hL h2⟩
    · rename_i e0 a s
      obtain ⟨w1, t1, rfl, h1, h2⟩ := hs.cons
      have h3 : w1 = .ref a := h1.2
      subst h3
      cases hl
      exact ⟨_, rfl, aGood.same hS hh hL h2⟩
    · cases hl
  · rename_i off heq
    rw [heq]
    split at hl
    · obtain ⟨w1, t1, rfl, h1, h2⟩ := hs.cons
      have h3 : w1 = .null := h1.2
      subst h3
      cases hl
      exact ⟨_, rfl, aGood.same hS hh hL h2⟩
    · rename_i e0 a s
      obtain ⟨w1, t1, rfl, h1, h2⟩ := hs.cons
      have h3 : w1 = .ref a := h1.2
      subst h3
      cases hl
      exact ⟨_, rfl, aGood.same hS hh hL h2⟩
    · cases hl
  · rename_i dflt lo hi offs heq
    rw [heq]
    split at hl
    · rename_i x kx s
      obtain ⟨w1, t1, rfl, h1, h2⟩ := hs.cons
      obtain ⟨wx, u, rfl, eu⟩ := aVs0 h1
      dsimp only
      cases hl
      rw [eu]
      split
      · rename_i hc
        refine ⟨_, rfl, ?_⟩
        rcases hc with hc | hc
        · obtain ⟨S1, q1, q2, q3⟩ := aAs_ok (e := aSb (aK (lo - 1)) x) hS (aSb_wf (aK_wf _ _) wx) (by rw [aSb_ev, aK_ev]; omega)
          exact ⟨_, List.mem_append_left _ (List.mem_map.mpr ⟨S1, by rw [q1]; exact List.mem_singleton.mpr rfl, rfl⟩), r, q2, hh, by rw [q3]; exact aLe.rf, rfl, by rw [q3]; exact hL, by rw [q3]; exact h2⟩
        · obtain ⟨S1, q1, q2, q3⟩ := aAs_ok (e := aSb x (aK (hi + 1))) hS (aSb_wf wx (aK_wf _ _)) (by rw [aSb_ev, aK_ev]; omega)
          exact ⟨_, List.mem_append_right _ (List.mem_append_left _ (List.mem_map.mpr ⟨S1, by rw [q1]; exact List.mem_singleton.mpr rfl, rfl⟩)), r, q2, hh, by rw [q3]; exact aLe.rf, rfl, by rw [q3]; exact hL, by rw [q3]; exact h2⟩
      · rename_i hc
        obtain ⟨S1, q2, q3, q1⟩ := aTs_mem (en := en) (L := L) (s := s) hS wx (hi - lo + 1).toNat lo 1 (by omega) (by omega)
        exact ⟨_, rfl, _, List.mem_append_right _ (List.mem_append_right _ q1), r, q2, hh, by rw [q3]; exact aLe.rf, rfl, by rw [q3]; exact hL, by rw [q3]; exact h2⟩
    · cases hl
  · rename_i dflt ps heq
    rw [heq]
    split at hl
    · rename_i x kx s
      obtain ⟨w1, t1, rfl, h1, h2⟩ := hs.cons
      obtain ⟨wx, u, rfl, eu⟩ := aVs0 h1
      dsimp only
      cases hl
      rw [eu]
      refine ⟨_, rfl, ?_⟩
      by_cases hz : mLk ps.toList 1 (aEv r x) = 0
      · have hno : ¬ (aLo S.1 x = aHj S.1 x ∧ (ps.toList.any (fun p => p.1 == aLo S.1 x)) = true) := by
          rintro ⟨z1, z2⟩
          obtain ⟨p, hp, hp2⟩ := List.any_eq_true.mp z2
          have x1 := aLo_le hS.1 wx
          have x2 := aHj_ge hS.1 wx
          exact mLk_in (ps := ps.toList) (z := aEv r x) (k := 1) (by decide) ⟨p, hp, by have : p.1 = aLo S.1 x := by simpa using hp2
                                                                                        omega⟩ hz
        rw [if_neg hno, hz]
        exact ⟨_, List.mem_append_right _ (List.mem_singleton.mpr rfl), r, hS, hh, aLe.rf, rfl, hL, h2⟩
      · obtain ⟨S1, q2, q3, q1⟩ := aLs_mem (en := en) (L := L) (s := s) hS wx ps.toList 1 (by decide) hz
        exact ⟨_, List.mem_append_left _ q1, r, q2, hh, by rw [q3]; exact aLe.rf, rfl, by rw [q3]; exact hL, by rw [q3]; exact h2⟩
    · cases hl
  · cases hl
end AB3
end
section
/-! one instruction in the analyser: cells -/
def aPu (l : List (aSt × aV)) (i : Nat) (L s : List aV) : List aQ := l.map (fun p => (p.1, i + 1, L, p.2 :: s))
def aFk (v : aV) (ty : FieldType) : Bool := match ty with
  | .int => v.1 == 0
  | .long => v.1 == 1
  | _ => false
def aTag (a : Nat) (g : Nat → Bool) : Bool := match aTq a with
  | some t => g t.1
  | none => false
def aXt (n : Nat) : Option (List Int32) := if n = 1 then some mLet else if n = 2 then some mPar else none
def aLmin : List Int32 → Int
  | [] => aMa
  | z :: q => min z.toInt (aLmin q)
def aLmax : List Int32 → Int
  | [] => aMi
  | z :: q => max z.toInt (aLmax q)
def aF1 (en : mE) (S : aSt) (i : Nat) (L st : List aV) : Option (List aQ) := match en.2.1 with
  | .getfield _ => match st with
    | (2, _, a) :: s => if aTag a (fun t => t == mTgt en 1) = true then (match aRd S a (aK (mTgt en 2)) with
      | some l => some (aPu l i L s)
      | none => none) else none
    | _ => none
  | .putfield _ => match st with
    | v :: (2, _, a) :: s => if aTag a (fun t => t == mTgt en 1) = true ∧ aFk v (mFT (mTgt en 1) (mTgt en 2)) = true then (match aWr S a (aK (mTgt en 2)) v with
      | some S1 => some [(S1, i + 1, L, s)]
      | none => none) else none
    | _ => none
  | _ => none
def aRdA (S : aSt) (a : Nat) (j : aX) (g : Nat → Bool) (i : Nat) (L s : List aV) : Option (List aQ) := if aTag a g = true then (match aRd S a j with
  | some l => some (aPu l i L s)
  | none => none) else none
def aF2 (en : mE) (S : aSt) (i : Nat) (L st : List aV) : Option (List aQ) := match en.2.1 with
  | .getstatic _ => if mTgt en 1 = 1 ∨ mTgt en 1 = 2 then some [(S, i + 1, L, (4, (0, []), mTgt en 1) :: st)] else none
  | .arraylength => match st with
    | (2, _, a) :: s => match aTq a with
      | some t => if 50 ≤ t.1 ∧ t.1 < 56 then some [(S, i + 1, L, (0, aK (Int32.ofNat t.2.1).toInt, 0) :: s)] else none
      | none => none
    | _ => none
  | .iaload => match st with
    | (0, j, _) :: (2, _, a) :: s => aRdA S a j (fun t => t == 50) i L s
    | (0, j, _) :: (4, _, n) :: s => match aXt n with
      | some vs => if (aPr S j && aPr S (aSb (aK ((vs.length : Int) - 1)) j)) = true then (if aLo S.1 j = aHj S.1 j then some [(S, i + 1, L, (0, aK (vs.getD (aLo S.1 j).toNat 0).toInt, 0) :: s)] else some [(aNw S (aLmin vs) (aLmax vs), i + 1, L, (0, aVr S.1.length, 0) :: s)]) else none
      | none => none
    | _ => none
  | .baload => match st with
    | (0, j, _) :: (2, _, a) :: s => aRdA S a j (fun t => t == 51 || t == 52) i L s
    | _ => none
  | .aaload => match st with
    | (0, j, _) :: (2, _, a) :: s => aRdA S a j (fun t => decide (53 ≤ t) && decide (t < 56)) i L s
    | _ => none
  | _ => none
def aF3 (en : mE) (S : aSt) (i : Nat) (L st : List aV) : Option (List aQ) := match en.2.1 with
  | .iastore => match st with
    | (0, v, _) :: (0, j, _) :: (2, _, a) :: s => if aTag a (fun t => t == 50) = true then (match aWr S a j (0, v, 0) with
      | some S1 => some [(S1, i + 1, L, s)]
      | none => none) else none
    | _ => none
  | .bastore => match st with
    | (0, v, _) :: (0, j, _) :: (2, _, a) :: s => if aTag a (fun t => t == 51) = true then (match aWr (aCl S (-128) 127 v).1 a j (0, (aCl S (-128) 127 v).2, 0) with
      | some S1 => some [(S1, i + 1, L, s)]
      | none => none) else if aTag a (fun t => t == 52) = true ∧ aPr S v = true ∧ aPr S (aSb (aK 1) v) = true then (match aWr S a j (0, v, 0) with
      | some S1 => some [(S1, i + 1, L, s)]
      | none => none) else none
    | _ => none
  | _ => none
section AB4
variable {r : Nat → Int} {S : aSt} {m0 : Int} {h : mH} {L : List aV} {M : mL} {st : List aV} {su : List Value} {i : Nat} {en : mE} {l : List aQ} {sc : List Int32}
theorem aTag_ok {a : Nat} {g : Nat → Bool} (h : aTag a g = true) : ∃ t, aT[a]? = some t ∧ g t.1 = true := by
  unfold aTag at h
  rw [aTq_eq] at h
  split at h
  · rename_i t ht; exact ⟨t, ht, h⟩
  · cases h
theorem aPu_ok {l0 : List (aSt × aV)} {w : Value} (hh : aHp h) (hL : aFs S.1.length r L M) (hs : aSk S.1.length r st su) (hp : ∃ p ∈ l0, ∃ r1, aOk r1 p.1 m0 h ∧ aVs p.1.1.length r1 p.2 w ∧ aLe S.1.length r p.1.1.length r1) : aGood r S m0 (aPu l0 i L st) (i + 1, M, w :: su, h) := by
  obtain ⟨p, h1, r1, h2, h3, h4⟩ := hp
  exact ⟨_, List.mem_map.mpr ⟨p, h1, rfl⟩, r1, h2, hh, h4, rfl, hL.le h4, h3, hs.le h4⟩
theorem aJx {z : Int32} {j n : Nat} (hz : z.toInt = (j : Int)) (hj : j < n) : mIx z n = true ∧ z.toNatClampNeg = j := by
  have h1 : z.toNatClampNeg = j := by
    show z.toInt.toNat = j
    rw [hz]; rfl
  refine ⟨?_, h1⟩
  unfold mIx
  rw [decide_eq_true_eq, h1]
  rintro (q | q)
  · have := Int32.lt_iff_toInt_lt.mp q
    have h0 : (0 : Int32).toInt = 0 := rfl
    omega
  · omega
set_option maxHeartbeats 2000000 in
theorem aF1_ok (hS : aOk r S m0 h) (hh : aHp h) (hL : aFs S.1.length r L M) (hs : aSk S.1.length r st su) (hl : aF1 en S i L st = some l) : ∃ g1, mF1 en i M su h = some g1 ∧ aGood r S m0 l g1 := by
  unfold aF1 at hl
  unfold mF1
  split at hl
  · rename_i idx heq
    rw [heq]
    split at hl
    · rename_i e0 a s
      obtain ⟨w1, t1, rfl, h1, h2⟩ := hs.cons
      have h3 : w1 = .ref a := h1.2
      subst h3
      split at hl
      · rename_i htg
        obtain ⟨t, ht, hgt⟩ := aTag_ok htg
        split at hl
        · rename_i l0 hrd
          cases hl
          obtain ⟨t2, q, j, w, e1, e2, e3, e4, e5, e6, e7⟩ := aRd_ok hS hh (aK_wf _ _) hrd
          cases ht.symm.trans e1
          rw [aK_ev] at e5
          have ej : j = mTgt en 2 := by omega
          subst ej
          dsimp only
          rw [e2]
          dsimp only
          rw [if_pos (by rw [e3]; simpa using hgt), e6]
          exact ⟨_, rfl, aPu_ok hh hL h2 e7⟩
        · cases hl
      · cases hl
    · cases hl
  · rename_i idx heq
    rw [heq]
    split at hl
    · rename_i v e0 a s
      obtain ⟨w1, t1, rfl, h1, h2⟩ := hs.cons
      obtain ⟨w2, t2, rfl, h3, h4⟩ := h2.cons
      have h5 : w2 = .ref a := h3.2
      subst h5
      split at hl
      · rename_i hc
        obtain ⟨t, ht, hgt⟩ := aTag_ok hc.1
        split at hl
        · rename_i S1 hwr
          cases hl
          obtain ⟨t2, q, j, e1, e2, e3, e4, e5, e6, e7, e8, e9⟩ := aWr_ok hS hh (aK_wf _ _) h1 hwr
          cases ht.symm.trans e1
          rw [aK_ev] at e5
          have ej : j = mTgt en 2 := by omega
          subst ej
          have hq1 : q.1 = mTgt en 1 := by rw [e3]; simpa using hgt
          have hfit : mFit (mFT q.1 (mTgt en 2)) w1 = true := by
            rw [hq1]
            have hk := hc.2
            unfold aFk at hk
            split at hk
            · rename_i hty
              rw [hty]
              exact (aG0_ok _ _ v w1 (by simpa [aG0] using hk) h1).2
            · rename_i hty
              rw [hty]
              exact (aG1_ok _ _ v w1 (by simpa [aG1] using hk) h1).2
            · cases hk
          dsimp only
          rw [e2]
          dsimp only
          rw [if_pos ⟨hq1, e6, hfit⟩]
          exact ⟨_, rfl, _, List.mem_cons_self, r, e7, e8, by rw [e9]; exact aLe.rf, rfl, by rw [e9]; exact hL, by rw [e9]; exact h4⟩
        · cases hl
      · cases hl
    · cases hl
  · cases hl
theorem aLm (vs : List Int32) : ∀ z ∈ vs, aLmin vs ≤ z.toInt ∧ z.toInt ≤ aLmax vs := by
  induction vs with
  | nil => intro z hz; cases hz
  | cons y q ih =>
    intro z hz
    show min y.toInt (aLmin q) ≤ _ ∧ _ ≤ max y.toInt (aLmax q)
    rcases List.mem_cons.mp hz with rfl | hz
    · omega
    · have := ih z hz; omega
theorem aXt_ok {n : Nat} {vs : List Int32} (h : aXt n = some vs) : n < 3 ∧ mXs sc n = vs := by
  unfold aXt at h
  split at h
  · rename_i e; cases h; subst e; exact ⟨by decide, rfl⟩
  · split at h
    · rename_i e; cases h; subst e; exact ⟨by decide, rfl⟩
    · cases h
theorem aRdA_ok {a : Nat} {j : aX} {g : Nat → Bool} {s : List aV} {t2 : List Value} {z : Int32} (hS : aOk r S m0 h) (hh : aHp h) (hL : aFs S.1.length r L M) (h4 : aSk S.1.length r s t2) (wj : aWf S.1.length j) (ej : z.toInt = aEv r j) (hl : aRdA S a j g i L s = some l) : ∃ q w, h[a]? = some q ∧ g q.1 = true ∧ mIx z q.2.length = true ∧ q.2[z.toNatClampNeg]? = some w ∧ aGood r S m0 l (i + 1, M, w :: t2, h) := by
  unfold aRdA at hl
  split at hl
  · rename_i htg
    obtain ⟨t, ht, hgt⟩ := aTag_ok htg
    split at hl
    · rename_i l0 hrd
      cases hl
      obtain ⟨t2, q, k, w, e1, e2, e3, e4, e5, e6, e7⟩ := aRd_ok hS hh wj hrd
      cases ht.symm.trans e1
      obtain ⟨x1, x2⟩ := aJx (z := z) (j := k) (n := q.2.length) (ej.trans e5) (List.getElem?_eq_some_iff.mp e6).1
      exact ⟨q, w, e2, by rw [e3]; exact hgt, x1, by rw [x2]; exact e6, aPu_ok hh hL h4 e7⟩
    · cases hl
  · cases hl
set_option maxHeartbeats 2000000 in
theorem aF2_ok (hS : aOk r S m0 h) (hh : aHp h) (hL : aFs S.1.length r L M) (hs : aSk S.1.length r st su) (hl : aF2 en S i L st = some l) : ∃ g1, mF2 (mXs sc) en i M su h = some g1 ∧ aGood r S m0 l g1 := by
  unfold aF2 at hl
  unfold mF2
  split at hl
  · rename_i idx heq
    rw [heq]
    split at hl
    · rename_i hc
      cases hl
      dsimp only
      rw [if_pos hc]
      exact ⟨_, rfl, aGood.same hS hh hL ⟨⟨aK_wf _ 0, rfl⟩, hs⟩⟩
    · cases hl
  · rename_i heq
    rw [heq]
    split at hl
    · rename_i e0 a s
      obtain ⟨w1, t1, rfl, h1, h2⟩ := hs.cons
      have h3 : w1 = .ref a := h1.2
      subst h3
      rw [aTq_eq] at hl
      split at hl
      · rename_i t ht
        split at hl
        · rename_i hc
          cases hl
          obtain ⟨q, e1, e2, e3, -⟩ := aHp_at hh ht
          dsimp only
          rw [e1]
          dsimp only
          rw [if_pos (by rw [e2]; exact hc), e3]
          exact ⟨_, rfl, aGood.same hS hh hL ⟨⟨aK_wf _ _, _, rfl, by rw [aK_ev]⟩, h2⟩⟩
        · cases hl
      · cases hl
    · cases hl
  · rename_i heq
    rw [heq]
    split at hl
    · rename_i j kj e0 a s
      obtain ⟨w1, t1, rfl, h1, h2⟩ := hs.cons
      obtain ⟨w2, t2, rfl, h3, h4⟩ := h2.cons
      have h5 : w2 = .ref a := h3.2
      subst h5
      obtain ⟨wj, z, rfl, ej⟩ := aVs0 h1
      obtain ⟨q, w, q1, q2, q3, q4, q5⟩ := aRdA_ok hS hh hL h4 wj ej hl
      dsimp only
      rw [q1]
      dsimp only
      rw [if_pos ⟨by simpa using q2, q3⟩, q4]
      exact ⟨_, rfl, q5⟩
    · rename_i j kj e0 n s
      obtain ⟨w1, t1, rfl, h1, h2⟩ := hs.cons
      obtain ⟨w2, t2, rfl, h3, h4⟩ := h2.cons
      have h5 : w2 = .retAddr n := h3.2
      subst h5
      obtain ⟨wj, z, rfl, ej⟩ := aVs0 h1
      split at hl
      · rename_i vs hvs
        obtain ⟨n3, hx⟩ := aXt_ok (sc := sc) hvs
        split at hl
        · rename_i hc
          rw [Bool.and_eq_true] at hc
          have p1 := aPr_ok hS wj hc.1
          have p2 := aPr_ok hS (aSb_wf (aK_wf _ _) wj) hc.2
          rw [aSb_ev, aK_ev] at p2
          obtain ⟨k, hk⟩ : ∃ k : Nat, aEv r j = (k : Int) := ⟨(aEv r j).toNat, by omega⟩
          have hkl : k < vs.length := by omega
          obtain ⟨x1, x2⟩ := aJx (z := z) (j := k) (n := vs.length) (ej.trans hk) hkl
          dsimp only
          rw [hx, if_pos ⟨n3, x1⟩, x2]
          split at hl
          · rename_i hcc
            cases hl
            have l1 := aLo_le hS.1 wj
            have l2 := aHj_ge hS.1 wj
            rw [show (aLo S.1 j).toNat = k by omega]
            exact ⟨_, rfl, aGood.same hS hh hL ⟨⟨aK_wf _ _, _, rfl, by rw [aK_ev]⟩, h4⟩⟩
          · cases hl
            have hm : vs.getD k 0 ∈ vs := by
              rw [List.getD_eq_getElem?_getD, List.getElem?_eq_getElem hkl]
              exact List.getElem_mem hkl
            obtain ⟨b1, b2⟩ := aLm vs _ hm
            exact ⟨_, rfl, aGood.int (p := (aNw S (aLmin vs) (aLmax vs), aVr S.1.length)) hh hL h4 (aRes.new hS b1 b2)⟩
        · cases hl
      · cases hl
    · cases hl
  · rename_i heq
    rw [heq]
    split at hl
    · rename_i j kj e0 a s
      obtain ⟨w1, t1, rfl, h1, h2⟩ := hs.cons
      obtain ⟨w2, t2, rfl, h3, h4⟩ := h2.cons
      have h5 : w2 = .ref a := h3.2
      subst h5
      obtain ⟨wj, z, rfl, ej⟩ := aVs0 h1
      obtain ⟨q, w, q1, q2, q3, q4, q5⟩ := aRdA_ok hS hh hL h4 wj ej hl
      dsimp only
      rw [q1]
      dsimp only
      rw [if_pos ⟨by simpa using q2, q3⟩, q4]
      exact ⟨_, rfl, q5⟩
    · cases hl
  · rename_i heq
    rw [heq]
    split at hl
    · rename_i j kj e0 a s
      obtain ⟨w1, t1, rfl, h1, h2⟩ := hs.cons
      obtain ⟨w2, t2, rfl, h3, h4⟩ := h2.cons
      have h5 : w2 = .ref a := h3.2
      subst h5
      obtain ⟨wj, z, rfl, ej⟩ := aVs0 h1
      obtain ⟨q, w, q1, q2, q3, q4, q5⟩ := aRdA_ok hS hh hL h4 wj ej hl
      dsimp only
      rw [q1]
      dsimp only
      rw [if_pos ⟨by simpa using q2, q3⟩, q4]
      exact ⟨_, rfl, q5⟩
    · cases hl
  · cases hl
theorem aAnd1 {v : Int32} (h1 : 0 ≤ v.toInt) (h2 : v.toInt ≤ 1) : v &&& 1 = v := by
  have h3 : v = 0 ∨ v = 1 := by
    rcases (show v.toInt = 0 ∨ v.toInt = 1 by omega) with e | e
    · exact Or.inl (aI_ind.mpr e)
    · exact Or.inr (aI_ind.mpr e)
  rcases h3 with rfl | rfl <;> rfl
set_option maxHeartbeats 2000000 in
theorem aF3_ok (hS : aOk r S m0 h) (hh : aHp h) (hL : aFs S.1.length r L M) (hs : aSk S.1.length r st su) (hl : aF3 en S i L st = some l) : ∃ g1, mF3 en i M su h = some g1 ∧ aGood r S m0 l g1 := by
  unfold aF3 at hl
  unfold mF3
  split at hl
  · rename_i heq
    rw [heq]
    split at hl
    · rename_i v kv j kj e0 a s
      obtain ⟨w1, t1, rfl, h1, h2⟩ := hs.cons
      obtain ⟨w2, t2, rfl, h3, h4⟩ := h2.cons
      obtain ⟨w3, t3, rfl, h5, h6⟩ := h4.cons
      have h7 : w3 = .ref a := h5.2
      subst h7
      obtain ⟨wv, u, rfl, eu⟩ := aVs0 h1
      obtain ⟨wj, z, rfl, ej⟩ := aVs0 h3
      split at hl
      · rename_i htg
        obtain ⟨t, ht, hgt⟩ := aTag_ok htg
        split at hl
        · rename_i S1 hwr
          cases hl
          obtain ⟨t2, q, k, e1, e2, e3, e4, e5, e6, e7, e8, e9⟩ := aWr_ok (v := (0, v, 0)) (w := .int u) hS hh wj ⟨wv, u, rfl, eu⟩ hwr
          cases ht.symm.trans e1
          obtain ⟨x1, x2⟩ := aJx (z := z) (j := k) (n := q.2.length) (ej.trans e5) e6
          dsimp only
          rw [e2]
          dsimp only
          rw [if_pos ⟨by rw [e3]; simpa using hgt, x1⟩, x2]
          exact ⟨_, rfl, _, List.mem_cons_self, r, e7, e8, by rw [e9]; exact aLe.rf, rfl, by rw [e9]; exact hL, by rw [e9]; exact h6⟩
        · cases hl
      · cases hl
    · cases hl
  · rename_i heq
    rw [heq]
    split at hl
    · rename_i v kv j kj e0 a s
      obtain ⟨w1, t1, rfl, h1, h2⟩ := hs.cons
      obtain ⟨w2, t2, rfl, h3, h4⟩ := h2.cons
      obtain ⟨w3, t3, rfl, h5, h6⟩ := h4.cons
      have h7 : w3 = .ref a := h5.2
      subst h7
      obtain ⟨wv, u, rfl, eu⟩ := aVs0 h1
      obtain ⟨wj, z, rfl, ej⟩ := aVs0 h3
      split at hl
      · rename_i htg
        obtain ⟨t, ht, hgt⟩ := aTag_ok htg
        split at hl
        · rename_i S1 hwr
          cases hl
          have hb := lg_i2b_range u
          obtain ⟨r1, q1, q2, q3, q4⟩ := aCl_ok (z := u.toInt8.toInt32.toInt) (mi := -128) (ma := 127) (e := v) hS wv hb.1 (by omega) (by rw [← eu]; exact fun q1 q2 => by rw [lg_i2b_small q1 (by omega)])
          obtain ⟨wj2, z2, hz2, ej2⟩ := aVs0 (q2 _ _ h3)
          cases hz2
          obtain ⟨t2, q, k, e1, e2, e3, e4, e5, e6, e7, e8, e9⟩ := aWr_ok (v := (0, (aCl S (-128) 127 v).2, 0)) (w := .int u.toInt8.toInt32) q1 hh wj2 ⟨q3, _, rfl, q4⟩ hwr
          cases ht.symm.trans e1
          obtain ⟨x1, x2⟩ := aJx (z := z) (j := k) (n := q.2.length) (ej2.trans e5) e6
          dsimp only
          rw [e2]
          dsimp only
          rw [if_pos ⟨by rw [e3]; simpa using hgt, x1⟩, x2]
          exact ⟨_, rfl, _, List.mem_cons_self, r1, e7, e8, by rw [e9]; exact q2, rfl, by rw [e9]; exact hL.le q2, by rw [e9]; exact h6.le q2⟩
        · cases hl
      · split at hl
        · rename_i hno hc
          obtain ⟨t, ht, hgt⟩ := aTag_ok hc.1
          have p1 := aPr_ok hS wv hc.2.1
          have p2 := aPr_ok hS (aSb_wf (aK_wf _ _) wv) hc.2.2
          rw [aSb_ev, aK_ev] at p2
          split at hl
          · rename_i S1 hwr
            cases hl
            obtain ⟨t2, q, k, e1, e2, e3, e4, e5, e6, e7, e8, e9⟩ := aWr_ok (v := (0, v, 0)) (w := .int u) hS hh wj ⟨wv, u, rfl, eu⟩ hwr
            cases ht.symm.trans e1
            obtain ⟨x1, x2⟩ := aJx (z := z) (j := k) (n := q.2.length) (ej.trans e5) e6
            have q52 : q.1 = 52 := by rw [e3]; simpa using hgt
            dsimp only
            rw [e2]
            dsimp only
            rw [if_neg (by omega), if_pos ⟨q52, x1⟩, x2, aAnd1 (by omega) (by omega)]
            exact ⟨_, rfl, _, List.mem_cons_self, r, e7, e8, by rw [e9]; exact aLe.rf, rfl, by rw [e9]; exact hL, by rw [e9]; exact h6⟩
          · cases hl
        · cases hl
    · cases hl
  · cases hl
end AB4
end
section
/-! runs of the small machine, with enough fuel; and runs with callers waiting -/
def nEv (sc : List Int32) (d k : Nat) (av : List Value) (h : mH) (r : mR) : Prop := ∃ n0, ∀ n, n0 ≤ n → mEval mTab (mXs sc) d n k av h = some r
def nRn (sc : List Int32) (d : Nat) (rt : Option FieldType) (cs : List mE) (g : mG) (r : mR) : Prop := ∃ n0, ∀ n, n0 ≤ n → ∀ m, n0 ≤ m → mRun mTab (mXs sc) (mEval mTab (mXs sc) d n) rt cs m g = some r
section NR
variable {sc : List Int32} {d k : Nat} {av : List Value} {h : mH} {r : mR} {rt : Option FieldType} {cs : List mE} {g g1 : mG} {en : mE} {t : mM}
theorem nEv_of (ht : mTab[k]? = some t) (hr : nRn sc d (mMT t) (mMC t) (0, mEntL (mMX t) av, [], h) r) : nEv sc (d + 1) k av h r := by
  obtain ⟨n0, h0⟩ := hr
  refine ⟨n0, fun n hn => ?_⟩
  unfold mEval
  rw [ht]
  exact h0 n hn n hn
theorem nRn_ret (he : cs[g.1]? = some en) (hr : mRt rt en g.2.2.1 g.2.2.2 = some r) : nRn sc d rt cs g r := by
  refine ⟨1, fun n _ m hm => ?_⟩
  match m, hm with
  | m + 1, _ =>
    unfold mRun
    rw [he]
    dsimp only
    rw [hr]
theorem nRn_step (he : cs[g.1]? = some en) (hn : mRt rt en g.2.2.1 g.2.2.2 = none) (hs : ∃ n0, ∀ n, n0 ≤ n → mStep mTab (mXs sc) (mEval mTab (mXs sc) d n) en g = some g1) (hr : nRn sc d rt cs g1 r) : nRn sc d rt cs g r := by
  obtain ⟨a, ha⟩ := hs
  obtain ⟨b, hb⟩ := hr
  refine ⟨a + b + 1, fun n q m hm => ?_⟩
  match m, hm with
  | m + 1, hm =>
    unfold mRun
    rw [he]
    dsimp only
    rw [hn, ha n (by omega)]
    exact hb n (by omega) m (by omega)
end NR
abbrev nF : Type := Nat × Nat × mL × List Value
def nR1 (sc : List Int32) (d : Nat) (f : nF) (h : mH) (r : mR) : Prop := ∃ t, mTab[f.1]? = some t ∧ nRn sc d (mMT t) (mMC t) (f.2.1, f.2.2.1, f.2.2.2, h) r
def nPs (v : Option Value) (f : nF) : nF := (f.1, f.2.1, f.2.2.1, v.toList ++ f.2.2.2)
def nRs (sc : List Int32) : List nF → Nat → nF → mH → mR → Prop
  | [], d, f, h, r => nR1 sc d f h r
  | f2 :: fs, d, f, h, r => ∃ r0, nR1 sc d f h r0 ∧ nRs sc fs (d + 1) (nPs r0.1 f2) r0.2 r
theorem nRs_map {sc : List Int32} {d : Nat} {f f1 : nF} {h h1 : mH} {r : mR} (hm : ∀ q, nR1 sc d f1 h1 q → nR1 sc d f h q) : ∀ {fs : List nF}, nRs sc fs d f1 h1 r → nRs sc fs d f h r
  | [], hr => hm _ hr
  | f2 :: fs, hr => by
    obtain ⟨r0, h1, h2⟩ := hr
    exact ⟨r0, hm _ h1, h2⟩
/-- the sort of an instruction: which function of the small machine does it -/
def nCl (en : mE) : Nat := match en.2.1 with
  | .ireturn => 12
  | .lreturn => 12
  | .areturn => 12
  | .return_ => 12
  | .aconst_null => 1
  | .iconst _ => 1
  | .bipush _ => 1
  | .sipush _ => 1
  | .lconst _ => 1
  | .ldc _ => 1
  | .ldc_w _ => 1
  | .ldc2_w _ => 1
  | .iload _ => 1
  | .iload_n _ => 1
  | .lload _ => 1
  | .lload_n _ => 1
  | .aload _ => 1
  | .aload_n _ => 1
  | .istore _ => 1
  | .istore_n _ => 1
  | .lstore _ => 1
  | .lstore_n _ => 1
  | .astore _ => 1
  | .astore_n _ => 1
  | .iinc _ _ => 8
  | .dup => 8
  | .dup2 => 8
  | .pop => 8
  | .pop2 => 8
  | .iadd => 2
  | .isub => 2
  | .imul => 2
  | .iand => 2
  | .ior => 2
  | .ixor => 2
  | .ishl => 2
  | .ishr => 2
  | .iushr => 2
  | .idiv => 2
  | .irem => 2
  | .ineg => 2
  | .ladd => 9
  | .lsub => 9
  | .lmul => 9
  | .land => 9
  | .lor => 9
  | .lxor => 9
  | .ldiv => 9
  | .lrem => 9
  | .lshl => 9
  | .lushr => 9
  | .lcmp => 9
  | .i2l => 9
  | .l2i => 9
  | .i2b => 9
  | .goto _ => 3
  | .if_icmp _ _ => 3
  | .ifCond _ _ => 3
  | .ifnull _ => 3
  | .ifnonnull _ => 3
  | .tableswitch _ _ _ _ => 3
  | .lookupswitch _ _ => 3
  | .getfield _ => 4
  | .putfield _ => 4
  | .getstatic _ => 6
  | .arraylength => 6
  | .iaload => 6
  | .baload => 6
  | .aaload => 6
  | .iastore => 7
  | .bastore => 7
  | .aastore => 7
  | .new _ => 10
  | .newarray _ => 10
  | .anewarray _ => 10
  | .invokevirtual _ => if mTgt en 2 = 0 then 5 else 13
  | .invokestatic _ => if mTgt en 2 = 0 then 5 else 11
  | .invokespecial _ => if mTgt en 2 = 0 then 5 else 11
  | _ => 13
section NCL
variable {en : mE} {i : Nat} {L : mL} {st : List Value} {h : mH} {g : mG} {r : mR} {rt : Option FieldType} {tab : List mM} {xs : Nat → List Int32} {call : Nat → List Value → mH → Option mR}
theorem nCl_rt (hs : mRt rt en st h = some r) : nCl en = 12 := by
  unfold mRt at hs
  unfold nCl
  split at hs <;> first | (rename_i heq; rw [heq]) | cases hs
theorem nCl_A1 (hs : mA1 en i L st h = some g) : nCl en = 1 := by
  unfold mA1 at hs
  unfold nCl
  split at hs <;> first | (rename_i heq; rw [heq]) | cases hs
theorem nCl_A2 (hs : mA2 en i L st h = some g) : nCl en = 8 := by
  unfold mA2 at hs
  unfold nCl
  split at hs <;> first | (rename_i heq; rw [heq]) | cases hs
theorem nCl_B1 (hs : mB1 en i L st h = some g) : nCl en = 2 := by
  unfold mB1 at hs
  unfold nCl
  split at hs <;> first | (rename_i heq; rw [heq]) | cases hs
theorem nCl_B2 (hs : mB2 en i L st h = some g) : nCl en = 9 := by
  unfold mB2 at hs
  unfold nCl
  split at hs <;> first | (rename_i heq; rw [heq]) | cases hs
theorem nCl_B3 (hs : mB3 en i L st h = some g) : nCl en = 3 := by
  unfold mB3 at hs
  unfold nCl
  split at hs <;> first | (rename_i heq; rw [heq]) | cases hs
theorem nCl_F1 (hs : mF1 en i L st h = some g) : nCl en = 4 := by
  unfold mF1 at hs
  unfold nCl
  split at hs <;> first | (rename_i heq; rw [heq]) | cases hs
theorem nCl_F2 (hs : mF2 xs en i L st h = some g) : nCl en = 6 := by
  unfold mF2 at hs
  unfold nCl
  split at hs <;> first | (rename_i heq; rw [heq]) | cases hs
theorem nCl_F3 (hs : mF3 en i L st h = some g) : nCl en = 7 := by
  unfold mF3 at hs
  unfold nCl
  split at hs <;> first | (rename_i heq; rw [heq]) | cases hs
theorem nCl_N1 (hs : mN1 en i L st h = some g) : nCl en = 10 := by
  unfold mN1 at hs
  unfold nCl
  split at hs <;> first | (rename_i heq; rw [heq]) | cases hs
theorem nCl_G1 (hs : mG1 tab call en i L st h = some g) : nCl en = 5 := by
  unfold mG1 at hs
  split at hs
  · rename_i hc
    obtain ⟨h1, h2⟩ := hc
    unfold mInv at h1
    unfold nCl
    split at h1 <;> first | (rename_i heq; rw [heq]; dsimp only; rw [if_pos h2]) | cases h1
  · cases hs
theorem nCl_G2 (hs : mG2 en i L st h = some g) : nCl en = 11 := by
  unfold mG2 at hs
  unfold nCl
  split at hs
  · rename_i heq
    rw [heq]
    dsimp only
    split at hs
    · split at hs
      · rename_i hc; rw [if_neg (by omega)]
      · cases hs
    · cases hs
  · rename_i heq
    rw [heq]
    dsimp only
    split at hs
    · split at hs
      · split at hs
        · split at hs
          · rename_i hc; rw [if_neg (by omega)]
          · cases hs
        · cases hs
      · cases hs
    · cases hs
  · cases hs
theorem nNo {α : Type} {o : Option α} {k : Nat} {en : mE} (ho : ∀ x, o = some x → nCl en = k) (hk : nCl en ≠ k) : o = none := by
  cases o with
  | none => rfl
  | some x => exact absurd (ho x rfl) hk
theorem nRt_no (hk : nCl en ≠ 12) : mRt rt en st h = none := nNo (fun _ => nCl_rt) hk
theorem mStep_A1 (hs : mA1 en i L st h = some g) : mStep tab xs call en (i, L, st, h) = some g := by
  unfold mStep; dsimp only; rw [hs]; rfl
theorem mStep_B1 (hs : mB1 en i L st h = some g) : mStep tab xs call en (i, L, st, h) = some g := by
  have hc := nCl_B1 hs
  unfold mStep; dsimp only
  rw [nNo (o := mA1 en i L st h) (fun _ => nCl_A1) (by omega), hs]; rfl
theorem mStep_B3 (hs : mB3 en i L st h = some g) : mStep tab xs call en (i, L, st, h) = some g := by
  have hc := nCl_B3 hs
  unfold mStep; dsimp only
  rw [nNo (o := mA1 en i L st h) (fun _ => nCl_A1) (by omega), nNo (o := mB1 en i L st h) (fun _ => nCl_B1) (by omega), hs]; rfl
theorem mStep_F1 (hs : mF1 en i L st h = some g) : mStep tab xs call en (i, L, st, h) = some g := by
  have hc := nCl_F1 hs
  unfold mStep; dsimp only
  rw [nNo (o := mA1 en i L st h) (fun _ => nCl_A1) (by omega), nNo (o := mB1 en i L st h) (fun _ => nCl_B1) (by omega), nNo (o := mB3 en i L st h) (fun _ => nCl_B3) (by omega), hs]; rfl
theorem mStep_G1 (hs : mG1 tab call en i L st h = some g) : mStep tab xs call en (i, L, st, h) = some g := by
  have hc := nCl_G1 hs
  unfold mStep; dsimp only
  rw [nNo (o := mA1 en i L st h) (fun _ => nCl_A1) (by omega), nNo (o := mB1 en i L st h) (fun _ => nCl_B1) (by omega), nNo (o := mB3 en i L st h) (fun _ => nCl_B3) (by omega), nNo (o := mF1 en i L st h) (fun _ => nCl_F1) (by omega), hs]; rfl
theorem mStep_F2 (hs : mF2 xs en i L st h = some g) : mStep tab xs call en (i, L, st, h) = some g := by
  have hc := nCl_F2 hs
  unfold mStep; dsimp only
  rw [nNo (o := mA1 en i L st h) (fun _ => nCl_A1) (by omega), nNo (o := mB1 en i L st h) (fun _ => nCl_B1) (by omega), nNo (o := mB3 en i L st h) (fun _ => nCl_B3) (by omega), nNo (o := mF1 en i L st h) (fun _ => nCl_F1) (by omega), nNo (o := mG1 tab call en i L st h) (fun _ => nCl_G1) (by omega), hs]; rfl
theorem mStep_F3 (hs : mF3 en i L st h = some g) : mStep tab xs call en (i, L, st, h) = some g := by
  have hc := nCl_F3 hs
  unfold mStep; dsimp only
  rw [nNo (o := mA1 en i L st h) (fun _ => nCl_A1) (by omega), nNo (o := mB1 en i L st h) (fun _ => nCl_B1) (by omega), nNo (o := mB3 en i L st h) (fun _ => nCl_B3) (by omega), nNo (o := mF1 en i L st h) (fun _ => nCl_F1) (by omega), nNo (o := mG1 tab call en i L st h) (fun _ => nCl_G1) (by omega), nNo (o := mF2 xs en i L st h) (fun _ => nCl_F2) (by omega), hs]; rfl
theorem mStep_A2 (hs : mA2 en i L st h = some g) : mStep tab xs call en (i, L, st, h) = some g := by
  have hc := nCl_A2 hs
  unfold mStep; dsimp only
  rw [nNo (o := mA1 en i L st h) (fun _ => nCl_A1) (by omega), nNo (o := mB1 en i L st h) (fun _ => nCl_B1) (by omega), nNo (o := mB3 en i L st h) (fun _ => nCl_B3) (by omega), nNo (o := mF1 en i L st h) (fun _ => nCl_F1) (by omega), nNo (o := mG1 tab call en i L st h) (fun _ => nCl_G1) (by omega), nNo (o := mF2 xs en i L st h) (fun _ => nCl_F2) (by omega), nNo (o := mF3 en i L st h) (fun _ => nCl_F3) (by omega), hs]; rfl
theorem mStep_B2 (hs : mB2 en i L st h = some g) : mStep tab xs call en (i, L, st, h) = some g := by
  have hc := nCl_B2 hs
  unfold mStep; dsimp only
  rw [nNo (o := mA1 en i L st h) (fun _ => nCl_A1) (by omega), nNo (o := mB1 en i L st h) (fun _ => nCl_B1) (by omega), nNo (o := mB3 en i L st h) (fun _ => nCl_B3) (by omega), nNo (o := mF1 en i L st h) (fun _ => nCl_F1) (by omega), nNo (o := mG1 tab call en i L st h) (fun _ => nCl_G1) (by omega), nNo (o := mF2 xs en i L st h) (fun _ => nCl_F2) (by omega), nNo (o := mF3 en i L st h) (fun _ => nCl_F3) (by omega), nNo (o := mA2 en i L st h) (fun _ => nCl_A2) (by omega), hs]; rfl
theorem mStep_G2 (hs : mG2 en i L st h = some g) : mStep tab xs call en (i, L, st, h) = some g := by
  have hc := nCl_G2 hs
  unfold mStep; dsimp only
  rw [nNo (o := mA1 en i L st h) (fun _ => nCl_A1) (by omega), nNo (o := mB1 en i L st h) (fun _ => nCl_B1) (by omega), nNo (o := mB3 en i L st h) (fun _ => nCl_B3) (by omega), nNo (o := mF1 en i L st h) (fun _ => nCl_F1) (by omega), nNo (o := mG1 tab call en i L st h) (fun _ => nCl_G1) (by omega), nNo (o := mF2 xs en i L st h) (fun _ => nCl_F2) (by omega), nNo (o := mF3 en i L st h) (fun _ => nCl_F3) (by omega), nNo (o := mA2 en i L st h) (fun _ => nCl_A2) (by omega), nNo (o := mB2 en i L st h) (fun _ => nCl_B2) (by omega), nNo (o := mN1 en i L st h) (fun _ => nCl_N1) (by omega), hs]; rfl
end NCL
section NR1
variable {sc : List Int32} {d : Nat} {f f1 : nF} {h h1 : mH} {r : mR} {en : mE} {t : mM} {fs : List nF}
/-- a step of the innermost frame -/
theorem nRs_step (ht : mTab[f.1]? = some t) (he : (mMC t)[f.2.1]? = some en) (hk : nCl en ≠ 12) (hs : ∃ n0, ∀ n, n0 ≤ n → mStep mTab (mXs sc) (mEval mTab (mXs sc) d n) en (f.2.1, f.2.2.1, f.2.2.2, h) = some (f1.2.1, f1.2.2.1, f1.2.2.2, h1)) (hf : f1.1 = f.1) (hr : nRs sc fs d f1 h1 r) : nRs sc fs d f h r := by
  refine nRs_map (fun q hq => ?_) hr
  obtain ⟨t1, e1, e2⟩ := hq
  rw [hf, ht] at e1
  cases e1
  exact ⟨t, ht, nRn_step (by exact he) (nRt_no hk) hs e2⟩
/-- a call of a method that is known to come back -/
theorem nRs_call {k : Nat} {r0 : mR} {t2 : mM} (ht : mTab[f.1]? = some t) (he : (mMC t)[f.2.1]? = some en) (hk : nCl en = 5) (hT : mTgt en 1 = k) (ht2 : mTab[k]? = some t2) (h1 : mCnt t2 ≤ f.2.2.2.length) (h2 : ((f.2.2.2.drop (mCnt t2)).map (fun v => v.category)).sum ≤ 8) (h3 : mRcv t2 ((f.2.2.2.take (mCnt t2)).reverse) h = true) (h4 : (mEnt ((f.2.2.2.take (mCnt t2)).reverse)).length ≤ mMX t2)
    (hev : nEv sc d k ((f.2.2.2.take (mCnt t2)).reverse) h r0) (hr : nRs sc fs d (nPs r0.1 (f.1, f.2.1 + 1, f.2.2.1, f.2.2.2.drop (mCnt t2))) r0.2 r) : nRs sc fs d f h r := by
  refine nRs_step (f1 := nPs r0.1 (f.1, f.2.1 + 1, f.2.2.1, f.2.2.2.drop (mCnt t2))) ht he (by omega) ?_ rfl hr
  obtain ⟨n0, h0⟩ := hev
  refine ⟨n0, fun n hn => mStep_G1 ?_⟩
  have hg : mInv en.2.1 = true ∧ mTgt en 2 = 0 := by
    unfold nCl at hk
    split at hk <;> first | (rename_i heq; rw [heq]; exact ⟨rfl, by split at hk <;> first | assumption | omega⟩) | omega
  unfold mG1
  rw [if_pos hg, hT, ht2]
  dsimp only
  rw [if_pos ⟨h1, h2, h3, h4⟩, h0 n hn]
  rfl
/-- a call that is followed into the callee -/
theorem nRs_into {k : Nat} {t2 : mM} (ht : mTab[f.1]? = some t) (he : (mMC t)[f.2.1]? = some en) (hk : nCl en = 5) (hT : mTgt en 1 = k) (ht2 : mTab[k]? = some t2) (h1 : mCnt t2 ≤ f.2.2.2.length) (h2 : ((f.2.2.2.drop (mCnt t2)).map (fun v => v.category)).sum ≤ 8) (h3 : mRcv t2 ((f.2.2.2.take (mCnt t2)).reverse) h = true) (h4 : (mEnt ((f.2.2.2.take (mCnt t2)).reverse)).length ≤ mMX t2)
    (hr : nRs sc ((f.1, f.2.1 + 1, f.2.2.1, f.2.2.2.drop (mCnt t2)) :: fs) d (k, 0, mEntL (mMX t2) ((f.2.2.2.take (mCnt t2)).reverse), []) h r) : nRs sc fs (d + 1) f h r := by
  obtain ⟨r0, ⟨t3, e1, e2⟩, e3⟩ := hr
  have e1 : mTab[k]? = some t3 := e1
  rw [ht2] at e1
  cases e1
  exact nRs_call ht he hk hT ht2 h1 h2 h3 h4 (nEv_of ht2 e2) e3
/-- a return -/
theorem nRs_ret {r0 : mR} {f2 : nF} (ht : mTab[f.1]? = some t) (he : (mMC t)[f.2.1]? = some en) (hk : mRt (mMT t) en f.2.2.2 h = some r0) (hr : nRs sc fs (d + 1) (nPs r0.1 f2) r0.2 r) : nRs sc (f2 :: fs) d f h r := ⟨r0, ⟨t, ht, nRn_ret (by exact he) hk⟩, hr⟩
theorem nRs_end {r0 : mR} (ht : mTab[f.1]? = some t) (he : (mMC t)[f.2.1]? = some en) (hk : mRt (mMT t) en f.2.2.2 h = some r0) : nRs sc [] d f h r0 := ⟨t, ht, nRn_ret (by exact he) hk⟩
end NR1
end
section
/-! states of the analyser that follow from one another -/
abbrev aF : Type := Nat × Nat × List aV × List aV
abbrev aLc : Type := Nat × Nat × Nat × aX
abbrev aAn : Type := aSt × List aF × List aLc
def aSubL (s : List aX) : List (Int × Nat) → aX
  | [] => (0, [])
  | t :: q => aAd (aSc t.1 (s.getD t.2 (0, []))) (aSubL s q)
def aSub (s : List aX) (e : aX) : aX := aAd (aK e.1) (aSubL s e.2)
def aRr (r : Nat → Int) (s : List aX) : Nat → Int := fun k => aEv r (s.getD k (0, []))
theorem aSubL_ev (r : Nat → Int) (s : List aX) : ∀ l, aEv r (aSubL s l) = aS1 (aRr r s) l
  | [] => rfl
  | t :: q => by
    show aEv r (aAd (aSc t.1 (s.getD t.2 (0, []))) (aSubL s q)) = t.1 * aRr r s t.2 + aS1 (aRr r s) q
    rw [aAd_ev, aSc_ev, aSubL_ev r s q]
    rfl
theorem aSub_ev (r : Nat → Int) (s : List aX) (e : aX) : aEv r (aSub s e) = aEv (aRr r s) e := by
  unfold aSub
  rw [aAd_ev, aK_ev, aSubL_ev]
  rfl
def aSw (n : Nat) (s : List aX) : Prop := ∀ k, aWf n (s.getD k (0, []))
theorem aSubL_wf {n : Nat} {s : List aX} (hs : aSw n s) : ∀ l, aWf n (aSubL s l)
  | [] => aK_wf _ 0
  | t :: q => aAd_wf (aSc_wf (hs t.2)) (aSubL_wf hs q)
theorem aSub_wf {n : Nat} {s : List aX} (hs : aSw n s) (e : aX) : aWf n (aSub s e) := aAd_wf (aK_wf _ _) (aSubL_wf hs e.2)
def aWfb (n : Nat) (e : aX) : Bool := e.2.all (fun t => decide (t.2 < n))
theorem aWfb_ok {n : Nat} {e : aX} (h : aWfb n e = true) : aWf n e := fun t ht => of_decide_eq_true (List.all_eq_true.mp h t ht)
theorem aSw_of {n : Nat} {s : List aX} (h : s.all (aWfb n) = true) : aSw n s := by
  intro k
  rw [List.getD_eq_getElem?_getD]
  cases hk : s[k]? with
  | none => exact aK_wf _ 0
  | some e => exact aWfb_ok (List.all_eq_true.mp h e (List.mem_of_getElem? hk))
def aOf (S : aSt) (frs : List aF) (s : List aX) (l : aLc) : aX := match l.1 with
  | 0 => ((frs.getD l.2.1 (0, 0, [], [])).2.2.1.getD l.2.2.1 (6, (0, []), 0)).2.1
  | 1 => ((frs.getD l.2.1 (0, 0, [], [])).2.2.2.getD l.2.2.1 (6, (0, []), 0)).2.1
  | 2 => match S.2.2.1.find? (fun g => g.1 == l.2.1 && aNm S.1 (aSb g.2.1 (aSub s l.2.2.2)) == (0, [])) with
    | some g => g.2.2.2.1
    | none => (0, [])
  | 3 => match S.2.2.1.find? (fun g => g.1 == (((frs.getD 0 (0, 0, [], [])).2.2.1.getD l.2.1 (6, (0, []), 0)).2.2) && aNm S.1 (aSb g.2.1 l.2.2.2) == (0, [])) with
    | some g => g.2.2.2.1
    | none => (0, [])
  | _ => match S.2.2.1.find? (fun g => g.1 == l.2.1 && aNm S.1 (aSb g.2.1 (((frs.getD 0 (0, 0, [], [])).2.2.1.getD l.2.2.1 (6, (0, []), 0)).2.1)) == (0, [])) with
    | some g => g.2.2.2.1
    | none => (0, [])
def aSg (S : aSt) (frs : List aF) : List aLc → List aX → List aX
  | [], s => s
  | l :: q, s => aSg S frs q (s ++ [aOf S frs s l])
def aEqE (S : aSt) (a b : aX) : Bool := aNm S.1 (aSb a b) == (0, []) || (aPr S (aSb a b) && aPr S (aSb b a))
def aVe (S : aSt) (s : List aX) (n1 : Nat) (v v1 : aV) : Bool := aWfb n1 v1.2.1 && (decide (6 ≤ v1.1) || (v.1 == v1.1 && (if v1.1 = 2 ∨ v1.1 = 4 then v.2.2 == v1.2.2 else if v1.1 = 3 then true else aEqE S v.2.1 (aSub s v1.2.1))))
def aZe (S : aSt) (s : List aX) (n1 : Nat) : List aV → List aV → Bool
  | [], [] => true
  | v :: L, v1 :: L1 => aVe S s n1 v v1 && aZe S s n1 L L1
  | _, _ => false
def aZf (S : aSt) (s : List aX) (n1 : Nat) : List aF → List aF → Bool
  | [], [] => true
  | f :: L, f1 :: L1 => (f.1 == f1.1 && (f.2.1 == f1.2.1 && (aZe S s n1 f.2.2.1 f1.2.2.1 && aZe S s n1 f.2.2.2 f1.2.2.2))) && aZf S s n1 L L1
  | _, _ => false
def aBe (S : aSt) : List aX → aB → Bool
  | [], [] => true
  | e :: s, b :: B => (aPr S (aSb e (aK b.1)) && aPr S (aSb (aK b.2) e)) && aBe S s B
  | _, _ => false
def aEnS (S : aSt) (frs : List aF) (A : aAn) (s : List aX) : Bool :=
  (aZf S s A.1.1.length frs A.2.1 && (s.all (aWfb S.1.length) && aBe S s A.1.1)) && (A.1.2.1.all (fun c => aWfb A.1.1.length c && aPr S (aSub s c)) && (A.1.2.2.1.all (fun g1 => aWfb A.1.1.length g1.2.1 && S.2.2.1.any (fun g => g.1 == g1.1 && (aEqE S g.2.1 (aSub s g1.2.1) && aVe S s A.1.1.length g.2.2 g1.2.2))) && aWfb A.1.1.length A.1.2.2.2))
def aMs (S : aSt) (s : List aX) (e : aX) : Bool := aPr S (aSub s e) && aPr S (aSb (aSb S.2.2.2 (aK 1)) (aSub s e))
section ENT
variable {r : Nat → Int} {S : aSt} {m0 : Int} {h : mH} {s : List aX} {n1 : Nat}
theorem aEqE_ok {a b : aX} (hS : aOk r S m0 h) (ha : aWf S.1.length a) (hb : aWf S.1.length b) (h : aEqE S a b = true) : aEv r a = aEv r b := by
  unfold aEqE at h
  simp only [Bool.or_eq_true, Bool.and_eq_true, beq_iff_eq] at h
  rcases h with h | ⟨h1, h2⟩
  · have h3 : aEv r (aSb a b) = 0 := by rw [← aNm_ev hS.1, h]; rfl
    rw [aSb_ev] at h3
    omega
  · have h3 := aPr_ok hS (aSb_wf ha hb) h1
    have h4 := aPr_ok hS (aSb_wf hb ha) h2
    rw [aSb_ev] at h3 h4
    omega
theorem aVs_top {n : Nat} {r : Nat → Int} {v : aV} {w : Value} (hw : aWf n v.2.1) (h : 6 ≤ v.1) : aVs n r v w := by
  refine ⟨hw, ?_⟩
  match hv : v.1, h with
  | k + 6, _ => exact trivial
theorem aVe_ok {v v1 : aV} {w : Value} (hS : aOk r S m0 h) (hs : aSw S.1.length s) (hv : aVs S.1.length r v w) (he : aVe S s n1 v v1 = true) : aVs n1 (aRr r s) v1 w := by
  unfold aVe at he
  rw [Bool.and_eq_true] at he
  obtain ⟨e1, e2⟩ := he
  have hw := aWfb_ok e1
  rw [Bool.or_eq_true] at e2
  rcases e2 with e2 | e2
  · exact aVs_top hw (of_decide_eq_true e2)
  · rw [Bool.and_eq_true, beq_iff_eq] at e2
    obtain ⟨e2, e3⟩ := e2
    obtain ⟨hv1, hv2⟩ := hv
    refine ⟨hw, ?_⟩
    rw [e2] at hv2
    have key : (v1.1 ≠ 2 ∧ v1.1 ≠ 4 ∧ v1.1 ≠ 3) → aEv r v.2.1 = aEv (aRr r s) v1.2.1 := by
      rintro ⟨q1, q2, q3⟩
      rw [if_neg (by omega), if_neg q3] at e3
      rw [← aSub_ev]
      exact aEqE_ok hS hv1 (aSub_wf hs _) e3
    match hk : v1.1 with
    | 0 =>
      rw [hk] at hv2
      rw [key (by omega)] at hv2
      exact hv2
    | 1 =>
      rw [hk] at hv2
      rw [key (by omega)] at hv2
      exact hv2
    | 2 =>
      rw [hk] at hv2
      rw [if_pos (Or.inl hk), beq_iff_eq] at e3
      rw [e3] at hv2
      exact hv2
    | 3 =>
      rw [hk] at hv2
      exact hv2
    | 4 =>
      rw [hk] at hv2
      rw [if_pos (Or.inr hk), beq_iff_eq] at e3
      rw [e3] at hv2
      exact hv2
    | 5 =>
      rw [hk] at hv2
      rw [key (by omega)] at hv2
      exact hv2
    | k + 6 => exact trivial
theorem aZe_fs (hS : aOk r S m0 h) (hs : aSw S.1.length s) : ∀ {L L1 : List aV} {M : mL}, aFs S.1.length r L M → aZe S s n1 L L1 = true → aFs n1 (aRr r s) L1 M
  | [], [], M, hf, _ => ⟨hf.1, fun k v hk _ => by simp at hk⟩
  | v :: L, v1 :: L1, M, hf, he => by
    have he : (aVe S s n1 v v1 && aZe S s n1 L L1) = true := he
    rw [Bool.and_eq_true] at he
    obtain ⟨hl, hf⟩ := hf
    match M, hl with
    | o :: M, hl =>
      have ih := aZe_fs hS hs (M := M) (L := L) (L1 := L1) ⟨by simpa using hl, fun k u hk hu => hf (k + 1) u hk hu⟩ he.2
      refine ⟨by simpa using ih.1, fun k u hk hu => ?_⟩
      match k, hk with
      | 0, hk =>
        cases hk
        have h6 : v.1 < 6 := by
          have h1 := he.1
          unfold aVe at h1
          simp only [Bool.and_eq_true, Bool.or_eq_true, decide_eq_true_eq, beq_iff_eq] at h1
          rcases h1.2 with q | q
          · omega
          · omega
        obtain ⟨w, w1, w2⟩ := hf 0 v rfl h6
        exact ⟨w, w1, aVe_ok hS hs w2 he.1⟩
      | k + 1, hk => exact ih.2 k u hk hu
  | [], _ :: _, _, _, he => by cases he
  | _ :: _, [], _, _, he => by cases he
theorem aZe_sk (hS : aOk r S m0 h) (hs : aSw S.1.length s) : ∀ {L L1 : List aV} {M : List Value}, aSk S.1.length r L M → aZe S s n1 L L1 = true → aSk n1 (aRr r s) L1 M
  | [], [], [], _, _ => trivial
  | [], [], _ :: _, hf, _ => hf.elim
  | v :: L, v1 :: L1, M, hf, he => by
    have he : (aVe S s n1 v v1 && aZe S s n1 L L1) = true := he
    rw [Bool.and_eq_true] at he
    obtain ⟨w, M1, rfl, h1, h2⟩ := hf.cons
    exact ⟨aVe_ok hS hs h1 he.1, aZe_sk hS hs h2 he.2⟩
  | [], _ :: _, _, _, he => by cases he
  | _ :: _, [], _, _, he => by cases he
/-- frames of the analyser and of the small machine -/
def nMf (n : Nat) (r : Nat → Int) : List aF → List nF → Prop
  | [], [] => True
  | f :: L, c :: M => (f.1 = c.1 ∧ f.2.1 = c.2.1 ∧ aFs n r f.2.2.1 c.2.2.1 ∧ aSk n r f.2.2.2 c.2.2.2) ∧ nMf n r L M
  | _, _ => False
theorem nMf.le {n n1 : Nat} {r r1 : Nat → Int} (hl : aLe n r n1 r1) : ∀ {L : List aF} {M : List nF}, nMf n r L M → nMf n1 r1 L M
  | [], [], _ => trivial
  | f :: L, c :: M, h => ⟨⟨h.1.1, h.1.2.1, h.1.2.2.1.le hl, h.1.2.2.2.le hl⟩, nMf.le hl h.2⟩
  | [], _ :: _, h => h.elim
  | _ :: _, [], h => h.elim
theorem aZf_ok (hS : aOk r S m0 h) (hs : aSw S.1.length s) : ∀ {L L1 : List aF} {M : List nF}, nMf S.1.length r L M → aZf S s n1 L L1 = true → nMf n1 (aRr r s) L1 M
  | [], [], [], _, _ => trivial
  | [], [], _ :: _, hf, _ => hf.elim
  | f :: L, f1 :: L1, [], hf, _ => hf.elim
  | f :: L, f1 :: L1, c :: M, hf, he => by
    have he : ((f.1 == f1.1 && (f.2.1 == f1.2.1 && (aZe S s n1 f.2.2.1 f1.2.2.1 && aZe S s n1 f.2.2.2 f1.2.2.2))) && aZf S s n1 L L1) = true := he
    simp only [Bool.and_eq_true, beq_iff_eq] at he
    obtain ⟨⟨e1, e2, e3, e4⟩, e5⟩ := he
    obtain ⟨⟨q1, q2, q3, q4⟩, q5⟩ := hf
    exact ⟨⟨e1.symm.trans q1, e2.symm.trans q2, aZe_fs hS hs q3 e3, aZe_sk hS hs q4 e4⟩, aZf_ok hS hs q5 e5⟩
  | [], _ :: _, _, _, he => by cases he
  | _ :: _, [], _, _, he => by cases he
theorem aBe_ok (hS : aOk r S m0 h) : ∀ {s : List aX} {B : aB}, aSw S.1.length s → aBe S s B = true → aBd B (aRr r s)
  | [], [], _, _ => fun k q hk => by simp at hk
  | e :: s, b :: B, hs, he => by
    have he : ((aPr S (aSb e (aK b.1)) && aPr S (aSb (aK b.2) e)) && aBe S s B) = true := he
    simp only [Bool.and_eq_true] at he
    obtain ⟨⟨e1, e2⟩, e3⟩ := he
    have h0 : aWf S.1.length e := hs 0
    have ih := aBe_ok hS (s := s) (B := B) (fun k => hs (k + 1)) e3
    intro k q hk
    match k, hk with
    | 0, hk =>
      cases hk
      have p1 := aPr_ok hS (aSb_wf h0 (aK_wf _ _)) e1
      have p2 := aPr_ok hS (aSb_wf (aK_wf _ _) h0) e2
      rw [aSb_ev, aK_ev] at p1 p2
      show b.1 ≤ aEv r e ∧ aEv r e ≤ b.2
      omega
    | k + 1, hk => exact ih k q hk
  | [], _ :: _, _, he => by cases he
  | _ :: _, [], _, he => by cases he
set_option maxHeartbeats 1000000 in
theorem aEnS_ok {frs : List aF} {A : aAn} {cfs : List nF} (hS : aOk r S m0 h) (hf : nMf S.1.length r frs cfs) (he : aEnS S frs A s = true) : aOk (aRr r s) A.1 (aEv r (aSub s A.1.2.2.2) + aKap * aPh h) h ∧ nMf A.1.1.length (aRr r s) A.2.1 cfs ∧ aSw S.1.length s := by
  unfold aEnS at he
  simp only [Bool.and_eq_true] at he
  obtain ⟨⟨e1, e2, e3⟩, e4, e5, e6⟩ := he
  have hs := aSw_of e2
  refine ⟨⟨aBe_ok hS hs e3, ?_, ?_, aWfb_ok e6, by rw [aSub_ev]; exact Int.le_refl _⟩, aZf_ok hS hs hf e1, hs⟩
  · intro c hc
    have h1 := List.all_eq_true.mp e4 c hc
    rw [Bool.and_eq_true] at h1
    refine ⟨aWfb_ok h1.1, ?_⟩
    rw [← aSub_ev]
    exact aPr_ok hS (aSub_wf hs _) h1.2
  · intro g1 hg1
    have h1 := List.all_eq_true.mp e5 g1 hg1
    rw [Bool.and_eq_true] at h1
    obtain ⟨g, hg, h2⟩ := List.any_eq_true.mp h1.2
    simp only [Bool.and_eq_true, beq_iff_eq] at h2
    obtain ⟨h3, h4, h5⟩ := h2
    obtain ⟨x1, j, w, x2, x3, x4⟩ := hS.2.2.1 g hg
    refine ⟨aWfb_ok h1.1, j, w, ?_, by rw [← h3]; exact x3, aVe_ok hS hs x4 h5⟩
    rw [← aSub_ev, ← aEqE_ok hS x1 (aSub_wf hs _) h4]
    exact x2
theorem aMs_ok {e : aX} (hS : aOk r S m0 h) (hh : aHp h) (hs : aSw S.1.length s) (he : aMs S s e = true) : 0 ≤ aEv r (aSub s e) + aKap * aPh h ∧ aEv r (aSub s e) + aKap * aPh h < m0 := by
  unfold aMs at he
  rw [Bool.and_eq_true] at he
  have p1 := aPr_ok hS (aSub_wf hs _) he.1
  have p2 := aPr_ok hS (aSb_wf (aSb_wf hS.2.2.2.1 (aK_wf _ _)) (aSub_wf hs _)) he.2
  rw [aSb_ev, aSb_ev, aK_ev] at p2
  have p3 := hS.2.2.2.2
  have p4 : 0 ≤ aKap * aPh h := Int.mul_nonneg (by decide) (aPh_rg hh).1
  omega
end ENT
end
section
/-! which cells a step may change; copies of arrays; a step of the analyser -/
abbrev aMd : Type := List (Nat × Int × Int)
def aCov (ms : aMd) (a j : Nat) : Prop := ∃ m ∈ ms, m.1 = a ∧ m.2.1 ≤ (j : Int) ∧ (j : Int) ≤ m.2.2
def nFr (ms : aMd) (h0 h : mH) : Prop := ∀ a j, ¬ aCov ms a j → aSlot h a j = aSlot h0 a j
theorem nFr.rf (ms : aMd) (h : mH) : nFr ms h h := fun _ _ _ => rfl
theorem nFr.tr {ms : aMd} {h0 h1 h2 : mH} (a : nFr ms h0 h1) (b : nFr ms h1 h2) : nFr ms h0 h2 := fun c j q => (b c j q).trans (a c j q)
def aLn (a : Nat) : Int := match aTq a with
  | some t => (t.2.1 : Int)
  | none => 0
def aWc (ms : aMd) (a : Nat) (lo hi : Int) : Bool := ms.any (fun m => m.1 == a && (decide (m.2.1 ≤ max lo 0) && (decide (hi ≤ m.2.2) || decide (aLn a ≤ m.2.2 + 1))))
theorem aHp_ln {h : mH} (hh : aHp h) {a : Nat} {q : mC} (hq : h[a]? = some q) : (q.2.length : Int) = aLn a := by
  have h1 : a < aT.length := by rw [← hh.1]; exact (List.getElem?_eq_some_iff.mp hq).1
  have h2 : aT[a]? = some aT[a] := List.getElem?_eq_getElem h1
  obtain ⟨q1, e1, -, e3, -⟩ := aHp_at hh h2
  rw [hq] at e1
  cases e1
  unfold aLn
  rw [aTq_eq, h2]
  dsimp only
  rw [e3]
theorem aWc_ok {ms : aMd} {a j : Nat} {lo hi : Int} (hc : aWc ms a lo hi = true) (h1 : lo ≤ (j : Int)) (h2 : (j : Int) ≤ hi) (h3 : (j : Int) < aLn a) : aCov ms a j := by
  obtain ⟨m, hm, hc⟩ := List.any_eq_true.mp hc
  simp only [Bool.and_eq_true, Bool.or_eq_true, decide_eq_true_eq, beq_iff_eq] at hc
  obtain ⟨c1, c2, c3⟩ := hc
  exact ⟨m, hm, c1, by omega, by omega⟩
def aWk (ms : aMd) (en : mE) (S : aSt) (st : List aV) : Bool := match en.2.1 with
  | .putfield _ => match st with
    | _ :: (2, _, a) :: _ => aWc ms a (mTgt en 2) (mTgt en 2)
    | _ => false
  | .iastore => match st with
    | _ :: (0, j, _) :: (2, _, a) :: _ => aWc ms a (aLo S.1 j) (aHj S.1 j)
    | _ => false
  | .bastore => match st with
    | _ :: (0, j, _) :: (2, _, a) :: _ => aWc ms a (aLo S.1 j) (aHj S.1 j)
    | _ => false
  | .invokestatic _ => match st with
    | _ :: _ :: (2, _, a) :: _ => aWc ms a 0 (aLn a)
    | _ => false
  | _ => true
section NFRM
variable {r : Nat → Int} {S : aSt} {m0 : Int} {h : mH} {L : List aV} {M : mL} {st : List aV} {su : List Value} {i : Nat} {en : mE} {l : List aQ} {sc : List Int32} {ms : aMd} {g : mG}
theorem nFr_set {a j : Nat} {q : mC} {w : Value} (hq : h[a]? = some q) (hc : aCov ms a j) : nFr ms h (h.set a (q.1, q.2.set j w)) := by
  intro b n hn
  rw [aSlot_set hq, if_neg]
  rintro ⟨rfl, rfl⟩
  exact hn hc
theorem aF1_fr (hh : aHp h) (hs : aSk S.1.length r st su) (hw : aWk ms en S st = true) (hg : mF1 en i M su h = some g) : nFr ms h g.2.2.2 := by
  unfold mF1 at hg
  unfold aWk at hw
  split at hg
  · (repeat' split at hg) <;> first | (cases hg; exact nFr.rf _ _) | cases hg
  · rename_i idx heq
    rw [heq] at hw
    dsimp only at hw
    split at hw
    · rename_i v e0 a s
      obtain ⟨w1, t1, rfl, h1, h2⟩ := hs.cons
      obtain ⟨w2, t2, rfl, h3, h4⟩ := h2.cons
      have h5 : w2 = .ref a := h3.2
      subst h5
      dsimp only at hg
      split at hg
      · rename_i q hq
        split at hg
        · rename_i hc
          cases hg
          refine nFr_set hq (aWc_ok hw (Int.le_refl _) (Int.le_refl _) ?_)
          rw [← aHp_ln hh hq]
          omega
        · cases hg
      · cases hg
    · cases hw
  · cases hg
theorem aIx_cov {j : aX} {z : Int32} {n : Nat} {a : Nat} {q : mC} (hS : aOk r S m0 h) (hh : aHp h) (hq : h[a]? = some q) (wj : aWf S.1.length j) (ej : z.toInt = aEv r j) (hi : mIx z q.2.length = true) (hw : aWc ms a (aLo S.1 j) (aHj S.1 j) = true) : aCov ms a z.toNatClampNeg := by
  unfold mIx at hi
  rw [decide_eq_true_eq] at hi
  have l1 := aLo_le hS.1 wj
  have l2 := aHj_ge hS.1 wj
  have h0 : 0 ≤ z.toInt := by
    have h1 : ¬ z < 0 := fun q => hi (Or.inl q)
    have h2 := Int32.le_iff_toInt_le.mp (Int32.not_lt.mp h1)
    simpa using h2
  have h3 : (z.toNatClampNeg : Int) = z.toInt := by
    show ((z.toInt.toNat : Nat) : Int) = z.toInt
    omega
  refine aWc_ok hw (by omega) (by omega) ?_
  rw [← aHp_ln hh hq]
  have : ¬ q.2.length ≤ z.toNatClampNeg := fun x => hi (Or.inr x)
  omega
theorem aF3_fr (hS : aOk r S m0 h) (hh : aHp h) (hs : aSk S.1.length r st su) (hl : aF3 en S i L st = some l) (hw : aWk ms en S st = true) (hg : mF3 en i M su h = some g) : nFr ms h g.2.2.2 := by
  unfold mF3 at hg
  unfold aWk at hw
  split at hg
  · rename_i heq
    rw [heq] at hw
    dsimp only at hw
    split at hw
    · rename_i v j kj e0 a s
      obtain ⟨w1, t1, rfl, h1, h2⟩ := hs.cons
      obtain ⟨w2, t2, rfl, h3, h4⟩ := h2.cons
      obtain ⟨w3, t3, rfl, h5, h6⟩ := h4.cons
      have h7 : w3 = .ref a := h5.2
      subst h7
      obtain ⟨wj, z, rfl, ej⟩ := aVs0 h3
      split at hg
      · rename_i v2 j2 a2 r2 heq2
        cases heq2
        split at hg
        · rename_i q hq
          split at hg
          · rename_i hc
            cases hg
            exact nFr_set hq (aIx_cov (n := 0) hS hh hq wj ej hc.2 hw)
          · cases hg
        · cases hg
      · cases hg
    · cases hw
  · rename_i heq
    rw [heq] at hw
    dsimp only at hw
    split at hw
    · rename_i v j kj e0 a s
      obtain ⟨w1, t1, rfl, h1, h2⟩ := hs.cons
      obtain ⟨w2, t2, rfl, h3, h4⟩ := h2.cons
      obtain ⟨w3, t3, rfl, h5, h6⟩ := h4.cons
      have h7 : w3 = .ref a := h5.2
      subst h7
      obtain ⟨wj, z, rfl, ej⟩ := aVs0 h3
      split at hg
      · rename_i v2 j2 a2 r2 heq2
        cases heq2
        split at hg
        · rename_i q hq
          split at hg
          · rename_i hc
            cases hg
            exact nFr_set hq (aIx_cov (n := 0) hS hh hq wj ej hc.2 hw)
          · split at hg
            · rename_i hc
              cases hg
              exact nFr_set hq (aIx_cov (n := 0) hS hh hq wj ej hc.2 hw)
            · cases hg
        · cases hg
      · cases hg
    · cases hw
  · rename_i heq
    unfold aF3 at hl
    rw [heq] at hl
    cases hl
  · cases hg
end NFRM
/-- copies of arrays -/
def aTl (t0 t1 : aTy) : Bool := match t0.2.2 with
  | [g0] => match t1.2.2 with
    | [g1] => (decide (g0.1 = 0) && decide (t0.2.1 ≤ g0.2.1 + 1)) && ((decide (g0.2.2.1 = 3) && decide (g1.2.2.1 = 3)) || ((decide (g0.2.2.1 = 0) && decide (g1.2.2.1 = 0)) && (decide (g1.2.2.2.1 ≤ g0.2.2.2.1) && decide (g0.2.2.2.2 ≤ g1.2.2.2.2))))
    | _ => false
  | _ => false
def aCp (en : mE) (S : aSt) (i : Nat) (L st : List aV) : Option (List aQ) := match en.2.1 with
  | .invokestatic _ => match st with
    | (0, n, _) :: (0, dp, _) :: (2, _, a1) :: (0, sp, _) :: (2, _, a0) :: s => match aTq a0 with
      | some t0 => match aTq a1 with
        | some t1 => if (decide (mTgt en 2 = 2 ∧ s.length ≤ 4 ∧ t0.1 = 50 ∧ t1.1 = 50 ∧ a1 ≠ 63) && (aTl t0 t1 && ((aPr S sp && (aPr S dp && aPr S n)) && (aPr S (aSb (aK t0.2.1) (aAd sp n)) && aPr S (aSb (aK t1.2.1) (aAd dp n)))))) = true then some [((S.1, S.2.1, S.2.2.1.filter (fun g => g.1 != a1), S.2.2.2), i + 1, L, s)] else none
        | none => none
      | none => none
    | _ => none
  | _ => none
theorem aCat_le {n : Nat} {r : Nat → Int} : ∀ {s : List aV} {t : List Value}, aSk n r s t → (t.map (fun v => v.category)).sum ≤ 2 * s.length
  | [], [], _ => by simp
  | v :: s, w :: t, h => by
    have ih := aCat_le h.2
    have h1 : w.category ≤ 2 := by cases w <;> simp [Value.category]
    simp only [List.map_cons, List.sum_cons, List.length_cons]
    omega
  | [], _ :: _, h => h.elim
  | _ :: _, [], h => h.elim
theorem aTl_ok {t0 t1 : aTy} {q0 : List Value} (hc : aTl t0 t1 = true) (hl : q0.length = t0.2.1) (h0 : ∀ g ∈ t0.2.2, ∀ (j : Nat) (w : Value), g.1 ≤ j → j ≤ g.2.1 → q0[j]? = some w → aIsT g w) : ∀ (j : Nat) (w : Value), q0[j]? = some w → mIsI w = true ∧ ∀ g ∈ t1.2.2, aIsT g w := by
  intro j w hw
  unfold aTl at hc
  split at hc
  · rename_i g0 e0
    split at hc
    · rename_i g1 e1
      simp only [Bool.and_eq_true, Bool.or_eq_true, decide_eq_true_eq] at hc
      obtain ⟨⟨c1, c2⟩, c3⟩ := hc
      have hj : j < q0.length := (List.getElem?_eq_some_iff.mp hw).1
      have hT := h0 g0 (by rw [e0]; exact List.mem_cons_self) j w (by omega) (by omega) hw
      unfold aIsT at hT
      rw [e1]
      rcases c3 with ⟨k0, k1⟩ | ⟨⟨k0, k1⟩, k2, k3⟩
      · rw [k0] at hT
        obtain ⟨z, rfl, hz⟩ := hT
        refine ⟨rfl, fun g hg => ?_⟩
        rcases List.mem_singleton.mp hg with rfl
        unfold aIsT
        rw [k1]
        exact ⟨z, rfl, hz⟩
      · rw [k0] at hT
        obtain ⟨z, rfl, hz1, hz2⟩ := hT
        refine ⟨rfl, fun g hg => ?_⟩
        rcases List.mem_singleton.mp hg with rfl
        unfold aIsT
        rw [k1]
        exact ⟨z, rfl, by omega, by omega⟩
    · cases hc
  · cases hc
theorem mCpy_get {us vs : List Value} {sp dp n : Nat} (h1 : sp + n ≤ us.length) {k : Nat} {w : Value} (hk : (mCpy us vs sp dp n)[k]? = some w) : (∃ j : Nat, us[j]? = some w) ∨ vs[k]? = some w := by
  unfold mCpy at hk
  rw [List.getElem?_map] at hk
  by_cases hl : k < vs.length
  · rw [List.getElem?_range hl] at hk
    have hk : va_cpy (vp_V us) (vp_V vs) sp dp n k = w := Option.some.inj hk
    unfold va_cpy vp_V at hk
    split at hk
    · rename_i hc
      refine Or.inl ⟨sp + (k - dp), ?_⟩
      have h2 : sp + (k - dp) < us.length := by omega
      rw [List.getD_eq_getElem?_getD, List.getElem?_eq_getElem h2] at hk
      rw [List.getElem?_eq_getElem h2, ← hk]
      rfl
    · refine Or.inr ?_
      rw [List.getD_eq_getElem?_getD, List.getElem?_eq_getElem hl] at hk
      rw [List.getElem?_eq_getElem hl, ← hk]
      rfl
  · rw [List.getElem?_eq_none (by simpa using Nat.le_of_not_lt hl)] at hk
    cases hk
section NCPY
variable {r : Nat → Int} {S : aSt} {m0 : Int} {h : mH} {L : List aV} {M : mL} {st : List aV} {su : List Value} {i : Nat} {en : mE} {l : List aQ} {sc : List Int32} {ms : aMd} {g : mG}
theorem aNn {z : Int32} {x : Int} (h0 : 0 ≤ x) (hz : z.toInt = x) : ¬ z < 0 ∧ (z.toNatClampNeg : Int) = x := by
  refine ⟨fun q => ?_, ?_⟩
  · have := Int32.lt_iff_toInt_lt.mp q
    have h0 : (0 : Int32).toInt = 0 := rfl
    omega
  · show ((z.toInt.toNat : Nat) : Int) = x
    omega
set_option maxHeartbeats 2000000 in
theorem aCp_ok (hS : aOk r S m0 h) (hh : aHp h) (hL : aFs S.1.length r L M) (hs : aSk S.1.length r st su) (hl : aCp en S i L st = some l) (hw : aWk ms en S st = true) : ∃ g1, mG2 en i M su h = some g1 ∧ aGood r S m0 l g1 ∧ nFr ms h g1.2.2.2 := by
  unfold aCp at hl
  unfold mG2
  unfold aWk at hw
  split at hl
  · rename_i idx heq
    rw [heq] at hw ⊢
    split at hl
    · rename_i n kn dp kd e1 a1 sp ks e0 a0 s
      obtain ⟨w1, t1, rfl, h1, h2⟩ := hs.cons
      obtain ⟨w2, t2, rfl, h3, h4⟩ := h2.cons
      obtain ⟨w3, t3, rfl, h5, h6⟩ := h4.cons
      obtain ⟨w4, t4, rfl, h7, h8⟩ := h6.cons
      obtain ⟨w5, t5, rfl, h9, h10⟩ := h8.cons
      have h11 : w3 = .ref a1 := h5.2
      have h12 : w5 = .ref a0 := h9.2
      subst h11
      subst h12
      obtain ⟨wn, zn, rfl, en1⟩ := aVs0 h1
      obtain ⟨wd, zd, rfl, ed1⟩ := aVs0 h3
      obtain ⟨ws, zs, rfl, es1⟩ := aVs0 h7
      rw [aTq_eq] at hl
      split at hl
      · rename_i ty0 ht0
        rw [aTq_eq] at hl
        split at hl
        · rename_i ty1 ht1
          split at hl
          · rename_i hc
            simp only [Bool.and_eq_true, decide_eq_true_eq] at hc
            obtain ⟨⟨c1, c2, c3, c4, c63⟩, c5, ⟨c6, c7, c8⟩, c9, c10⟩ := hc
            cases hl
            obtain ⟨q0, x1, x2, x3, x4⟩ := aHp_at hh ht0
            obtain ⟨q1, y1, y2, y3, y4⟩ := aHp_at hh ht1
            have p6 := aPr_ok hS ws c6
            have p7 := aPr_ok hS wd c7
            have p8 := aPr_ok hS wn c8
            have p9 := aPr_ok hS (aSb_wf (aK_wf _ _) (aAd_wf ws wn)) c9
            have p10 := aPr_ok hS (aSb_wf (aK_wf _ _) (aAd_wf wd wn)) c10
            rw [aSb_ev, aK_ev, aAd_ev] at p9 p10
            obtain ⟨n1, n2⟩ := aNn p8 en1
            obtain ⟨d1, d2⟩ := aNn p7 ed1
            obtain ⟨s1, s2⟩ := aNn p6 es1
            have hT := aTl_ok c5 x3 x4
            have hsl : zs.toNatClampNeg + zn.toNatClampNeg ≤ q0.2.length := by omega
            have hdl : zd.toNatClampNeg + zn.toNatClampNeg ≤ q1.2.length := by omega
            have hI : q0.2.all mIsI = true := by
              rw [List.all_eq_true]
              intro w hw
              obtain ⟨j, hj⟩ := List.getElem?_of_mem hw
              exact (hT j w hj).1
            have hcat := aCat_le h10
            dsimp only
            rw [x1]
            dsimp only
            rw [y1]
            dsimp only
            rw [if_pos ⟨c1, by omega, by omega, by omega, s1, d1, n1, hsl, hdl, hI⟩]
            refine ⟨_, rfl, ⟨_, List.mem_cons_self, r, ?_, ?_, aLe.rf, rfl, hL, h10⟩, ?_⟩
            · obtain ⟨hB, hC, hG, hO1, hO2⟩ := hS
              refine ⟨hB, hC, ?_, hO1, by
                have h63 : aPh (h.set a1 (q1.1, mCpy q0.2 q1.2 zs.toNatClampNeg zd.toNatClampNeg zn.toNatClampNeg)) = aPh h := by
                  unfold aPh
                  rw [List.getElem?_set_ne c63]
                dsimp only
                rw [h63]
                exact hO2⟩
              intro g hg
              obtain ⟨g1, g2⟩ := List.mem_filter.mp hg
              obtain ⟨z1, k, w2, z2, z3, z4⟩ := hG g g1
              refine ⟨z1, k, w2, z2, ?_, z4⟩
              unfold aSlot at z3 ⊢
              dsimp only
              rw [List.getElem?_set_ne]
              · exact z3
              · rintro rfl
                simp at g2
            · refine ⟨by simp [hh.1], fun b ty2 q2 ht2 hq2 => ?_⟩
              dsimp only at hq2
              by_cases hb : b = a1
              · subst hb
                rw [List.getElem?_set_self (List.getElem?_eq_some_iff.mp y1).1] at hq2
                cases hq2
                cases ht2.symm.trans ht1
                refine ⟨y2, by simp [mCpy, y3], fun g hg k w2 k1 k2 k3 => ?_⟩
                rcases mCpy_get hsl k3 with ⟨j, hj⟩ | hv
                · exact (hT j w2 hj).2 g hg
                · exact y4 g hg k w2 k1 k2 hv
              · rw [List.getElem?_set_ne (Ne.symm hb)] at hq2
                exact hh.2 b ty2 q2 ht2 hq2
            · intro b j hn
              unfold aSlot
              dsimp only
              by_cases hb : b = a1
              · subst hb
                by_cases hj : j < q1.2.length
                · exfalso
                  refine hn (aWc_ok hw (by omega) ?_ ?_)
                  · rw [← aHp_ln hh y1]; omega
                  · rw [← aHp_ln hh y1]; omega
                · rw [List.getElem?_set_self (List.getElem?_eq_some_iff.mp y1).1, y1]
                  dsimp only
                  rw [List.getElem?_eq_none (l := q1.2) (by omega), List.getElem?_eq_none (by simp [mCpy]; omega)]
              · rw [List.getElem?_set_ne (Ne.symm hb)]
          · cases hl
        · cases hl
      · cases hl
    · cases hl
  · cases hl
/-- one instruction -/
def aStp (en : mE) (S : aSt) (i : Nat) (L st : List aV) : Option (List aQ) := match nCl en with
  | 1 => aA1 en S i L st
  | 2 => aB1 en S i L st
  | 3 => aB3 en S i L st
  | 4 => aF1 en S i L st
  | 6 => aF2 en S i L st
  | 7 => aF3 en S i L st
  | 8 => aA2 en S i L st
  | 9 => aB2 en S i L st
  | 11 => aCp en S i L st
  | _ => none
theorem aStp_ok (hS : aOk r S m0 h) (hh : aHp h) (hL : aFs S.1.length r L M) (hs : aSk S.1.length r st su) (hl : aStp en S i L st = some l) (hw : aWk ms en S st = true) : ∃ g1, (∀ call, mStep mTab (mXs sc) call en (i, M, su, h) = some g1) ∧ aGood r S m0 l g1 ∧ nFr ms h g1.2.2.2 := by
  unfold aStp at hl
  split at hl
  · obtain ⟨g1, q1, q2⟩ := aA1_ok hS hh hL hs hl
    exact ⟨g1, fun call => mStep_A1 q1, q2, by rw [(mA1_eqs q1).1]; exact nFr.rf _ _⟩
  · obtain ⟨g1, q1, q2⟩ := aB1_ok hS hh hL hs hl
    exact ⟨g1, fun call => mStep_B1 q1, q2, by rw [(mB1_eqs q1).1]; exact nFr.rf _ _⟩
  · obtain ⟨g1, q1, q2⟩ := aB3_ok hS hh hL hs hl
    exact ⟨g1, fun call => mStep_B3 q1, q2, by rw [(mB3_eqs q1).1]; exact nFr.rf _ _⟩
  · obtain ⟨g1, q1, q2⟩ := aF1_ok hS hh hL hs hl
    exact ⟨g1, fun call => mStep_F1 q1, q2, aF1_fr hh hs hw q1⟩
  · obtain ⟨g1, q1, q2⟩ := aF2_ok (sc := sc) hS hh hL hs hl
    exact ⟨g1, fun call => mStep_F2 q1, q2, by rw [(mF2_eqs q1).1]; exact nFr.rf _ _⟩
  · obtain ⟨g1, q1, q2⟩ := aF3_ok hS hh hL hs hl
    exact ⟨g1, fun call => mStep_F3 q1, q2, aF3_fr hS hh hs hl hw q1⟩
  · obtain ⟨g1, q1, q2⟩ := aA2_ok hS hh hL hs hl
    exact ⟨g1, fun call => mStep_A2 q1, q2, by rw [(mA2_eqs q1).1]; exact nFr.rf _ _⟩
  · obtain ⟨g1, q1, q2⟩ := aB2_ok hS hh hL hs hl
    exact ⟨g1, fun call => mStep_B2 q1, q2, by rw [(mB2_eqs q1).1]; exact nFr.rf _ _⟩
  · obtain ⟨g1, q1, q2, q3⟩ := aCp_ok hS hh hL hs hl hw
    exact ⟨g1, fun call => mStep_G2 q1, q2, q3⟩
  · cases hl
end NCPY
end
section
/-! calls and returns in the analyser -/
def aTop : aV := (6, (0, []), 0)
def aEnt : List aV → List aV
  | [] => []
  | v :: q => if v.1 = 1 then v :: aTop :: aEnt q else v :: aEnt q
def aEntL (n : Nat) (av : List aV) : List aV := aEnt av ++ List.replicate (n - (aEnt av).length) aTop
section ACL
variable {n : Nat} {r : Nat → Int}
theorem aSk.len : ∀ {s : List aV} {t : List Value}, aSk n r s t → s.length = t.length
  | [], [], _ => rfl
  | v :: s, w :: t, h => by simp [aSk.len h.2]
  | [], _ :: _, h => h.elim
  | _ :: _, [], h => h.elim
theorem aSk.drop : ∀ (k : Nat) {s : List aV} {t : List Value}, aSk n r s t → aSk n r (s.drop k) (t.drop k)
  | 0, _, _, h => h
  | k + 1, [], [], _ => trivial
  | k + 1, v :: s, w :: t, h => aSk.drop k h.2
  | k + 1, [], _ :: _, h => h.elim
  | k + 1, _ :: _, [], h => h.elim
theorem aSk.take : ∀ (k : Nat) {s : List aV} {t : List Value}, aSk n r s t → aSk n r (s.take k) (t.take k)
  | 0, _, _, _ => trivial
  | k + 1, [], [], _ => trivial
  | k + 1, v :: s, w :: t, h => ⟨h.1, aSk.take k h.2⟩
  | k + 1, [], _ :: _, h => h.elim
  | k + 1, _ :: _, [], h => h.elim
theorem aSk.app : ∀ {s s1 : List aV} {t t1 : List Value}, aSk n r s t → aSk n r s1 t1 → aSk n r (s ++ s1) (t ++ t1)
  | [], _, [], _, _, h1 => h1
  | v :: s, _, w :: t, _, h, h1 => ⟨h.1, aSk.app h.2 h1⟩
  | [], _, _ :: _, _, h, _ => h.elim
  | _ :: _, _, [], _, h, _ => h.elim
theorem aSk.rev : ∀ {s : List aV} {t : List Value}, aSk n r s t → aSk n r s.reverse t.reverse
  | [], [], _ => trivial
  | v :: s, w :: t, h => by
    rw [List.reverse_cons, List.reverse_cons]
    exact (aSk.rev h.2).app ⟨h.1, trivial⟩
  | [], _ :: _, h => h.elim
  | _ :: _, [], h => h.elim
theorem aCat_iff {v : aV} {w : Value} (h6 : v.1 < 6) (h : aVs n r v w) : v.1 = 1 ↔ w.category = 2 := by
  constructor
  · intro hc; exact aCat2 hc h
  · intro hc
    by_cases h1 : v.1 = 1
    · exact h1
    · have := aC1_ok (v := v) (w := w) (r := r) (n := n) (by unfold aC1; simp [h6, h1]) h
      omega
theorem aEnt_ok : ∀ {s : List aV} {t : List Value}, aSk n r s t → s.all (fun v => decide (v.1 < 6)) = true → (aEnt s).length = (mEnt t).length ∧ ∀ (k : Nat) (v : aV), (aEnt s)[k]? = some v → v.1 < 6 → ∃ w, (mEnt t)[k]? = some (some w) ∧ aVs n r v w
  | [], [], _, _ => ⟨rfl, fun k v hk => by simp [aEnt] at hk⟩
  | v :: s, w :: t, h, h6 => by
    rw [List.all_cons, Bool.and_eq_true, decide_eq_true_eq] at h6
    obtain ⟨i1, i2⟩ := aEnt_ok h.2 h6.2
    have hi := aCat_iff h6.1 h.1
    unfold aEnt mEnt
    by_cases hc : v.1 = 1
    · rw [if_pos hc, if_pos (hi.mp hc)]
      refine ⟨by simp [i1], fun k u hk hu => ?_⟩
      match k, hk with
      | 0, hk => cases hk; exact ⟨w, rfl, h.1⟩
      | 1, hk =>
        cases hk
        exact absurd hu (by decide)
      | k + 2, hk => exact i2 k u hk hu
    · rw [if_neg hc, if_neg (fun q => hc (hi.mpr q))]
      refine ⟨by simp [i1], fun k u hk hu => ?_⟩
      match k, hk with
      | 0, hk => cases hk; exact ⟨w, rfl, h.1⟩
      | k + 1, hk => exact i2 k u hk hu
  | [], _ :: _, h, _ => h.elim
  | _ :: _, [], h, _ => h.elim
theorem aEntL_ok {s : List aV} {t : List Value} {mx : Nat} (h : aSk n r s t) (h6 : s.all (fun v => decide (v.1 < 6)) = true) : aFs n r (aEntL mx s) (mEntL mx t) ∧ (aEnt s).length = (mEnt t).length := by
  obtain ⟨i1, i2⟩ := aEnt_ok h h6
  refine ⟨⟨by simp [aEntL, mEntL, i1], fun k v hk hv => ?_⟩, i1⟩
  unfold aEntL at hk
  unfold mEntL
  by_cases hl : k < (aEnt s).length
  · rw [List.getElem?_append_left hl] at hk
    rw [List.getElem?_append_left (by omega)]
    exact i2 k v hk hv
  · rw [List.getElem?_append_right (by omega), List.getElem?_replicate] at hk
    split at hk
    · cases hk
      exact absurd hv (by decide)
    · cases hk
end ACL
/-- the class of each method's object -/
def aKs : List Nat := [0, 1, 2, 3, 4, 5, 6, 0, 0, 0, 5, 99, 0, 0, 0, 0, 0, 5, 0, 5, 0, 0, 6, 99, 0, 0, 2, 2, 2, 1, 2, 99, 0, 1, 0, 1, 1, 1, 1, 0, 1, 99, 99, 99, 99, 1, 1, 1, 0, 0, 99, 1, 1, 1, 1, 0, 1, 1, 99, 0, 1, 1, 1, 0, 1, 1, 1, 99, 1, 99, 0, 1, 0, 0, 0, 0, 1, 0, 0, 1, 1, 0, 0, 0, 0, 0, 3, 3, 0, 4, 4, 0, 0, 0, 0, 0, 0, 0, 1, 1, 0, 0, 1, 0, 0, 0, 0, 0, 0, 1, 0, 0, 0, 0, 0, 0, 0, 0, 0, 0, 0, 1, 5, 6, 7, 7, 7, 7, 7, 7, 7, 7, 7, 7, 7, 7, 7, 7, 7, 7, 7, 7, 7, 7, 7, 7, 7, 7, 7, 7, 7, 7, 7, 7, 7, 7, 7, 7, 7, 7, 7, 7, 7, 7, 7, 7, 7, 7, 7, 7, 7, 7, 7, 7, 7, 7, 7, 7, 7, 7, 7, 7, 7, 7, 7, 7, 7, 7, 7, 7, 7, 7, 7, 7, 7, 7, 7, 7, 7, 7, 7, 7, 7, 7, 7, 7, 7, 7, 7, 7, 7, 7, 7, 7, 7, 7, 7, 7, 7, 7, 7]
def aKsB : Bool := mTab.zipIdx.all (fun q => if mMK q.1 = 1 then (match mCl[aKs.getD q.2 99]? with
  | some r => decide (r.1 = (mMY q.1).cls) && decide (aKs.getD q.2 99 < 50)
  | none => false) else true)
set_option maxRecDepth 100000 in
theorem aKs_all : aKsB = true := by decide +kernel
theorem aKs_ok {k : Nat} {t : mM} (ht : mTab[k]? = some t) (hk : mMK t = 1) : ∃ q, mCl[aKs.getD k 99]? = some q ∧ q.1 = (mMY t).cls ∧ aKs.getD k 99 < 50 := by
  have h1 := List.all_eq_true.mp aKs_all (t, k) (List.mem_zipIdx_iff_getElem?.mpr ht)
  dsimp only at h1
  rw [if_pos hk] at h1
  split at h1
  · rename_i q hq
    rw [Bool.and_eq_true, decide_eq_true_eq, decide_eq_true_eq] at h1
    exact ⟨q, hq, h1.1, h1.2⟩
  · cases h1
def aRcv (k : Nat) (t : mM) (av : List aV) : Bool := decide (mMK t = 0) || (match av with
  | (2, _, a) :: _ => decide (mMK t = 2) || (decide (mMK t = 1) && (match aTq a with
    | some ty => ty.1 == aFn k (fun k => aFn (aKs.getD k 99) (fun x => x))
    | none => false))
  | _ => false)
theorem aRcv_ok {n : Nat} {r : Nat → Int} {k : Nat} {t : mM} {s : List aV} {av : List Value} {h : mH} (ht : mTab[k]? = some t) (hh : aHp h) (hs : aSk n r s av) (hr : aRcv k t s = true) : mRcv t av h = true := by
  unfold aRcv at hr
  unfold mRcv
  by_cases h0 : mMK t = 0
  · rw [if_pos h0]
  · rw [if_neg h0]
    rw [Bool.or_eq_true, decide_eq_true_eq] at hr
    rcases hr with hr | hr
    · exact absurd hr h0
    · split at hr
      · rename_i e0 a s
        obtain ⟨w1, t1, rfl, h1, h2⟩ := hs.cons
        have h3 : w1 = .ref a := h1.2
        subst h3
        dsimp only
        by_cases hk2 : mMK t = 2
        · rw [if_pos hk2]
        · rw [if_neg hk2]
          simp only [Bool.or_eq_true, Bool.and_eq_true, decide_eq_true_eq] at hr
          rcases hr with hr | ⟨hr1, hr2⟩
          · exact absurd hr hk2
          · rw [aTq_eq, aFn_eq, aFn_eq] at hr2
            split at hr2
            · rename_i ty hty
              obtain ⟨q, e1, e2, e3, -⟩ := aHp_at hh hty
              obtain ⟨c, c1, c2, c3⟩ := aKs_ok ht hr1
              have e4 : q.1 = aKs.getD k 99 := by rw [e2]; simpa using hr2
              rw [e1]
              dsimp only
              rw [e4, c1]
              dsimp only
              rw [Bool.and_eq_true, decide_eq_true_eq, decide_eq_true_eq]
              exact ⟨c3, c2⟩
            · cases hr2
      · cases hr
/-- returns -/
def aRet (S : aSt) (t : mM) (en : mE) (st : List aV) : Option (List aV) := match en.2.1 with
  | .ireturn => match st with
    | [(0, v, k)] => match mMT t with
      | some .int => some [(0, v, k)]
      | some .boolean => if (aPr S v && aPr S (aSb (aK 1) v)) = true then some [(0, v, k)] else none
      | _ => none
    | _ => none
  | .lreturn => match st with
    | [(1, v, k)] => match mMT t with
      | some .long => some [(1, v, k)]
      | _ => none
    | _ => none
  | .areturn => match st with
    | [(2, v, k)] => match mMT t with
      | some (.object _) => some [(2, v, k)]
      | _ => none
    | [(3, v, k)] => match mMT t with
      | some (.object _) => some [(3, v, k)]
      | _ => none
    | _ => none
  | .return_ => match st with
    | [] => match mMT t with
      | none => some []
      | _ => none
    | _ => none
  | _ => none
theorem aRet_ok {r : Nat → Int} {S : aSt} {m0 : Int} {h : mH} {t : mM} {en : mE} {st l : List aV} {su : List Value} (hS : aOk r S m0 h) (hs : aSk S.1.length r st su) (hl : aRet S t en st = some l) : ∃ v : Option Value, mRt (mMT t) en su h = some (v, h) ∧ aSk S.1.length r l v.toList := by
  unfold aRet at hl
  unfold mRt
  split at hl
  · rename_i heq
    rw [heq]
    split at hl
    · rename_i v k
      obtain ⟨w1, t1, rfl, h1, h2⟩ := hs.cons
      match t1, h2 with
      | [], h2 =>
        obtain ⟨wv, z, rfl, ez⟩ := aVs0 h1
        split at hl
        · rename_i hty
          cases hl
          rw [hty]
          exact ⟨some (.int z), if_pos rfl, h1, trivial⟩
        · rename_i hty
          split at hl
          · rename_i hc
            cases hl
            rw [Bool.and_eq_true] at hc
            have p1 := aPr_ok hS wv hc.1
            have p2 := aPr_ok hS (aSb_wf (aK_wf _ _) wv) hc.2
            rw [aSb_ev, aK_ev] at p2
            rw [hty]
            refine ⟨some (.int z), ?_, h1, trivial⟩
            dsimp only
            rw [if_pos]
            rcases (show z.toInt = 0 ∨ z.toInt = 1 by omega) with e | e
            · rw [aI_ind.mpr (show z.toInt = (0 : Int32).toInt from e)]; rfl
            · rw [aI_ind.mpr (show z.toInt = (1 : Int32).toInt from e)]; rfl
          · cases hl
        · cases hl
      | _ :: _, h2 => exact h2.elim
    · cases hl
  · rename_i heq
    rw [heq]
    split at hl
    · rename_i v k
      obtain ⟨w1, t1, rfl, h1, h2⟩ := hs.cons
      match t1, h2 with
      | [], h2 =>
        obtain ⟨wv, z, rfl, ez⟩ := aVs1 h1
        split at hl
        · rename_i hty
          cases hl
          rw [hty]
          refine ⟨some (.long z), ?_, h1, trivial⟩
          dsimp only
          rw [if_pos rfl]
        · cases hl
      | _ :: _, h2 => exact h2.elim
    · cases hl
  · rename_i heq
    rw [heq]
    split at hl
    · rename_i v k
      obtain ⟨w1, t1, rfl, h1, h2⟩ := hs.cons
      match t1, h2 with
      | [], h2 =>
        have h3 : w1 = .ref k := h1.2
        subst h3
        split at hl
        · rename_i hty
          cases hl
          rw [hty]
          exact ⟨some (.ref k), if_pos rfl, h1, trivial⟩
        · cases hl
      | _ :: _, h2 => exact h2.elim
    · rename_i v k
      obtain ⟨w1, t1, rfl, h1, h2⟩ := hs.cons
      match t1, h2 with
      | [], h2 =>
        have h3 : w1 = .null := h1.2
        subst h3
        split at hl
        · rename_i hty
          cases hl
          rw [hty]
          exact ⟨some .null, if_pos rfl, h1, trivial⟩
        · cases hl
      | _ :: _, h2 => exact h2.elim
    · cases hl
  · rename_i heq
    rw [heq]
    split at hl
    · match su, hs with
      | [], hs =>
        split at hl
        · rename_i hty
          cases hl
          rw [hty]
          exact ⟨none, rfl, trivial⟩
        · cases hl
      | _ :: _, hs => exact hs.elim
    · cases hl
  · cases hl
end
section
/-! the analyser follows a method's paths -/
/-- a method's promise: which, how it is entered, what it answers, which cells it may change -/
abbrev aRs : Type := Option (Nat × Int × Int)
abbrev aCt : Type := Nat × aAn × aRs × aMd
/-- what the analyser is told: promises of the methods called, states at heads of loops, the heads, where to look at each value by itself, the answer, the cells -/
abbrev aCx : Type := List aCt × List aAn × List (Nat × Nat) × List (Nat × Nat × aLc) × aRs × aMd
abbrev aW : Type := aSt × List aF × Bool
def nRes (q : aRs) (v : Option Value) : Prop := match q with
  | none => v = none
  | some p => ∃ w, v = some w ∧ (match p.1 with
    | 0 => ∃ z : Int32, w = .int z ∧ p.2.1 ≤ z.toInt ∧ z.toInt ≤ p.2.2
    | 1 => ∃ z : Int64, w = .long z ∧ p.2.1 ≤ z.toInt ∧ z.toInt ≤ p.2.2
    | _ => w = .ref p.2.1.toNat)
def aRsB (S : aSt) (q : aRs) (l : List aV) : Bool := match q with
  | none => match l with
    | [] => true
    | _ => false
  | some p => match p.1 with
    | 0 => match l with
      | [(0, v, _)] => aPr S (aSb v (aK p.2.1)) && aPr S (aSb (aK p.2.2) v)
      | _ => false
    | 1 => match l with
      | [(1, v, _)] => aPr S (aSb v (aK p.2.1)) && aPr S (aSb (aK p.2.2) v)
      | _ => false
    | _ => match l with
      | [(2, _, a)] => a == p.2.1.toNat
      | _ => false
def aTw (S : aSt) : List aX → aSt
  | [] => S
  | c :: q => aTw (aTi S.1 (aHj S.1 c) c.2 S.1, S.2) q
def aTt (S : aSt) : aSt := aTw (aTw S S.2.1) S.2.1
def aKeep (ms : aMd) (B : aB) (g : Nat × aX × aV) : Bool := ms.all (fun m => m.1 != g.1 || (decide (aHj B g.2.1 < m.2.1) || decide (m.2.2 < aLo B g.2.1)))
def aDrp (S : aSt) (ms : aMd) : aSt := (S.1, S.2.1, S.2.2.1.filter (aKeep ms S.1), if ms.any (fun m => m.1 == 63) = true then aSb S.2.2.2 (aK (aKap * 1024000000)) else S.2.2.2)
def aBk (S : aSt) (q : aRs) : aSt × List aV := match q with
  | none => (S, [])
  | some p => if p.1 = 0 ∨ p.1 = 1 then (if p.2.1 = p.2.2 then (S, [(p.1, aK p.2.1, 0)]) else (aNw S p.2.1 p.2.2, [(p.1, aVr S.1.length, 0)])) else (S, [(2, aK 0, p.2.1.toNat)])
def aMc (ms ms1 : aMd) : Bool := ms1.all (fun m => aWc ms m.1 m.2.1 m.2.2)
/-- where a value is to be looked at by itself: the variable -/
def aFkV (S : aSt) (frs : List aF) : List (Nat × Nat × aLc) → Option Nat
  | [] => none
  | p :: q => match frs with
    | [] => none
    | f :: _ => if p.1 = f.1 ∧ p.2.1 = f.2.1 then (match aOf S frs [] p.2.2 with
        | (c, t :: e) => if aLo S.1 (c, t :: e) = aHj S.1 (c, t :: e) ∨ ¬ t.2 < S.1.length then aFkV S frs q else some t.2
        | _ => aFkV S frs q) else aFkV S frs q
def aFkL (S : aSt) (x : Nat) : Nat → Int → List aSt
  | 0, _ => []
  | n + 1, j => match aEq2 S (aVr x) j with
    | some S1 => aTt S1 :: aFkL S x n (j + 1)
    | none => aFkL S x n (j + 1)
def aInto (X : aCx) (S : aSt) (f : aF) (fs : List aF) (k : Nat) (t2 : mM) (args rest : List aV) : Option (List aW) :=
  if (decide (rest.length ≤ 4) && (args.all (fun v => decide (v.1 < 6)) && (aRcv k t2 args && decide ((aEnt args).length ≤ mMX t2)))) = true then
    (match X.1.find? (fun c => c.1 == k && aEnS S [(k, 0, aEntL (mMX t2) args, [])] c.2.1 (aSg S [(k, 0, aEntL (mMX t2) args, [])] c.2.1.2.2 [])) with
    | some c => if aMc X.2.2.2.2.2 c.2.2.2 = true then some [((aBk (aDrp S c.2.2.2) c.2.2.1).1, (f.1, f.2.1 + 1, f.2.2.1, (aBk (aDrp S c.2.2.2) c.2.2.1).2 ++ rest) :: fs, false)] else none
    | none => if fs.length < 8 then some [(S, (k, 0, aEntL (mMX t2) args, []) :: (f.1, f.2.1 + 1, f.2.2.1, rest) :: fs, false)] else none) else none
def aMt (k : Nat) : Option mM := aFn k (fun k => aOp mTab[k]?)
theorem aMt_eq (k : Nat) : aMt k = mTab[k]? := (aFn_eq k _).trans (aOp_eq _)
def aCe (t : mM) (i : Nat) : Option mE := aFn i (fun i => aOp (mMC t)[i]?)
theorem aCe_eq (t : mM) (i : Nat) : aCe t i = (mMC t)[i]? := (aFn_eq i _).trans (aOp_eq _)
def aSt1 (X : aCx) (w : aW) : Option (List aW) := match w.2.1 with
  | [] => none
  | f :: fs => match aMt f.1 with
    | none => none
    | some t => match aCe t f.2.1 with
      | none => none
      | some en =>
        if (!w.2.2 && X.2.2.1.contains (f.1, f.2.1)) = true then (if X.2.1.any (fun A => aEnS w.1 (f :: fs) A (aSg w.1 (f :: fs) A.2.2 []) && aMs w.1 (aSg w.1 (f :: fs) A.2.2 []) A.1.2.2.2) = true then some [] else none)
        else match aFkV w.1 (f :: fs) X.2.2.2.1 with
        | some x => some ((aFkL w.1 x ((w.1.1.getD x (0, 0)).2 - (w.1.1.getD x (0, 0)).1 + 1).toNat (w.1.1.getD x (0, 0)).1).map (fun S1 => (S1, f :: fs, true)))
        | none =>
          if nCl en = 12 then (match aRet w.1 t en f.2.2.2 with
            | some l => match fs with
              | [] => if aRsB w.1 X.2.2.2.2.1 l = true then some [] else none
              | f2 :: gs => some [(w.1, (f2.1, f2.2.1, f2.2.2.1, l ++ f2.2.2.2) :: gs, false)]
            | none => none)
          else if nCl en = 5 then (match aMt (mTgt en 1) with
            | some t2 => if mCnt t2 ≤ f.2.2.2.length then aInto X w.1 f fs (mTgt en 1) t2 (f.2.2.2.take (mCnt t2)).reverse (f.2.2.2.drop (mCnt t2)) else none
            | none => none)
          else if aWk X.2.2.2.2.2 en w.1 f.2.2.2 = true then (match aStp en w.1 f.2.1 f.2.2.1 f.2.2.2 with
            | some l => some (l.map (fun q => (q.1, (f.1, q.2.1, q.2.2.1, q.2.2.2) :: fs, false)))
            | none => none) else none
/-- the same, on a state that has been taken apart and put together anew -/
def aSt2 (X : aCx) (w : aW) : Option (List aW) := match w with
  | ((B, C, G, O), (k, i, L, st) :: fs, b) => aSt1 X ((B, C, G, O), (k, i, L, st) :: fs, b)
  | (_, [], _) => none
theorem aSt2_eq (X : aCx) (w : aW) : aSt2 X w = aSt1 X w := by
  obtain ⟨⟨B, C, G, O⟩, frs, b⟩ := w
  match frs with
  | [] => rfl
  | (k, i, L, st) :: fs => rfl
def aGo (X : aCx) : Nat → List aW → Bool
  | _, [] => true
  | 0, _ :: _ => false
  | n + 1, w :: ws => match aSt2 X w with
    | some l => aGo X n (l ++ ws)
    | none => false
section AGO
variable {r : Nat → Int} {S : aSt} {m0 : Int} {h : mH} {sc : List Int32} {X : aCx}
theorem aTw_ok : ∀ {C : List aX} {S : aSt}, (∀ c ∈ C, c ∈ S.2.1) → aOk r S m0 h → aOk r (aTw S C) m0 h ∧ (aTw S C).1.length = S.1.length
  | [], S, _, hS => ⟨hS, rfl⟩
  | c :: q, S, hC, hS => by
    obtain ⟨c1, c2⟩ := hS.2.1 c (hC c List.mem_cons_self)
    obtain ⟨t1, t2⟩ := aTi_ok hS.1 c1 c2 c.2 S.1 (fun t ht => ht) rfl hS.1
    have h1 : aOk r (aTi S.1 (aHj S.1 c) c.2 S.1, S.2) m0 h := ⟨t1, by rw [t2]; exact hS.2.1, by rw [t2]; exact hS.2.2.1, by rw [t2]; exact hS.2.2.2⟩
    obtain ⟨i1, i2⟩ := aTw_ok (C := q) (S := (aTi S.1 (aHj S.1 c) c.2 S.1, S.2)) (fun z hz => hC z (List.mem_cons_of_mem _ hz)) h1
    exact ⟨i1, i2.trans t2⟩
theorem aTw_C : ∀ (C : List aX) (S : aSt), (aTw S C).2 = S.2
  | [], _ => rfl
  | c :: q, S => by
    show (aTw (aTi S.1 (aHj S.1 c) c.2 S.1, S.2) q).2 = S.2
    rw [aTw_C q]
theorem aTt_ok (hS : aOk r S m0 h) : aOk r (aTt S) m0 h ∧ (aTt S).1.length = S.1.length := by
  unfold aTt
  obtain ⟨i1, i2⟩ := aTw_ok (C := S.2.1) (fun c hc => hc) hS
  obtain ⟨j1, j2⟩ := aTw_ok (C := S.2.1) (S := aTw S S.2.1) (fun c hc => by rw [aTw_C]; exact hc) i1
  exact ⟨j1, j2.trans i2⟩
theorem aPh_fr {ms : aMd} {h1 : mH} (hh : aHp h) (hh1 : aHp h1) (hf : nFr ms h h1) (hn : ms.any (fun m => m.1 == 63) ≠ true) : aPh h1 = aPh h := by
  obtain ⟨q, e1, e2, -⟩ := aHp63 hh
  obtain ⟨q1, f1, f2, -⟩ := aHp63 hh1
  have h2 : q1.2 = q.2 := by
    apply List.ext_getElem?
    intro j
    have h3 := hf 63 j (by
      rintro ⟨m, m1, m2, -, -⟩
      exact hn (List.any_eq_true.mpr ⟨m, m1, by simp [m2]⟩))
    unfold aSlot at h3
    rw [e1, f1] at h3
    exact h3
  unfold aPh
  rw [e1, f1]
  dsimp only
  rw [h2]
theorem aDrp_ok {ms : aMd} {h1 : mH} (hS : aOk r S m0 h) (hh : aHp h) (hh1 : aHp h1) (hf : nFr ms h h1) : aOk r (aDrp S ms) m0 h1 := by
  obtain ⟨hB, hC, hG, hO1, hO2⟩ := hS
  refine ⟨hB, hC, ?_, ?_⟩
  rotate_left
  · show aWf S.1.length (if ms.any (fun m => m.1 == 63) = true then aSb S.2.2.2 (aK (aKap * 1024000000)) else S.2.2.2) ∧ aEv r (if ms.any (fun m => m.1 == 63) = true then aSb S.2.2.2 (aK (aKap * 1024000000)) else S.2.2.2) + aKap * aPh h1 ≤ m0
    split
    · refine ⟨aSb_wf hO1 (aK_wf _ _), ?_⟩
      rw [aSb_ev, aK_ev]
      have p1 := (aPh_rg hh).1
      have p2 := (aPh_rg hh1).2
      unfold aKap at hO2 ⊢
      omega
    · rename_i hn
      rw [aPh_fr hh hh1 hf hn]
      exact ⟨hO1, hO2⟩
  intro g hg
  obtain ⟨g1, g2⟩ := List.mem_filter.mp hg
  obtain ⟨z1, k, w2, z2, z3, z4⟩ := hG g g1
  refine ⟨z1, k, w2, z2, ?_, z4⟩
  rw [hf g.1 k]
  · exact z3
  · rintro ⟨m, m1, m2, m3, m4⟩
    have h2 := List.all_eq_true.mp g2 m m1
    simp only [Bool.or_eq_true, bne_iff_ne, ne_eq, decide_eq_true_eq] at h2
    have l1 := aLo_le hB z1
    have l2 := aHj_ge hB z1
    rcases h2 with h2 | h2 | h2
    · exact h2 m2
    · omega
    · omega
theorem aBk_ok {q : aRs} {v : Option Value} (hS : aOk r S m0 h) (hv : nRes q v) : ∃ r1, aOk r1 (aBk S q).1 m0 h ∧ aLe S.1.length r (aBk S q).1.1.length r1 ∧ aSk (aBk S q).1.1.length r1 (aBk S q).2 v.toList := by
  unfold aBk
  unfold nRes at hv
  split at hv
  · rw [hv]; exact ⟨r, hS, aLe.rf, trivial⟩
  · rename_i p
    obtain ⟨w, rfl, hw⟩ := hv
    by_cases hk : p.1 = 0 ∨ p.1 = 1
    · rw [if_pos hk]
      rcases hk with hk | hk
      · rw [hk] at hw ⊢
        obtain ⟨z, rfl, z1, z2⟩ := hw
        split
        · rename_i he
          exact ⟨r, hS, aLe.rf, ⟨aK_wf _ _, z, rfl, by show z.toInt = aEv r (aK p.2.1); rw [aK_ev]; omega⟩, trivial⟩
        · refine ⟨aUp r S.1.length z.toInt, aNw_ok hS z1 z2, fun v w hv => ?_, ?_, trivial⟩
          · show aVs (aNw S _ _).1.length _ _ _
            rw [aNw_len]
            exact hv.up
          · show aVs (aNw S _ _).1.length _ _ _
            rw [aNw_len]
            exact ⟨aVr_wf (Nat.lt_succ_self _), z, rfl, by show z.toInt = aEv _ (aVr S.1.length); rw [aVr_ev, aUp_self]⟩
      · rw [hk] at hw ⊢
        obtain ⟨z, rfl, z1, z2⟩ := hw
        split
        · rename_i he
          exact ⟨r, hS, aLe.rf, ⟨aK_wf _ _, z, rfl, by show z.toInt = aEv r (aK p.2.1); rw [aK_ev]; omega⟩, trivial⟩
        · refine ⟨aUp r S.1.length z.toInt, aNw_ok hS z1 z2, fun v w hv => ?_, ?_, trivial⟩
          · show aVs (aNw S _ _).1.length _ _ _
            rw [aNw_len]
            exact hv.up
          · show aVs (aNw S _ _).1.length _ _ _
            rw [aNw_len]
            exact ⟨aVr_wf (Nat.lt_succ_self _), z, rfl, by show z.toInt = aEv _ (aVr S.1.length); rw [aVr_ev, aUp_self]⟩
    · rw [if_neg hk]
      refine ⟨r, hS, aLe.rf, ⟨aK_wf _ _, ?_⟩, trivial⟩
      split at hw
      · rename_i e; exact absurd (Or.inl e) hk
      · rename_i e; exact absurd (Or.inr e) hk
      · exact hw
theorem aRsB_ok {q : aRs} {l : List aV} {v : Option Value} (hS : aOk r S m0 h) (hs : aSk S.1.length r l v.toList) (hb : aRsB S q l = true) : nRes q v := by
  unfold aRsB at hb
  unfold nRes
  split at hb
  · split at hb
    · match v, hs with
      | none, _ => rfl
      | some _, hs => exact hs.elim
    · cases hb
  · rename_i p
    match v, hs with
    | none, hs =>
      exfalso
      (repeat' split at hb) <;> first | exact hs.elim | cases hb
    | some w, hs =>
      refine ⟨w, rfl, ?_⟩
      split at hb
      · rename_i hk
        split at hb
        · rename_i v k
          obtain ⟨wv, z, rfl, ez⟩ := aVs0 hs.1
          rw [Bool.and_eq_true] at hb
          have p1 := aPr_ok hS (aSb_wf wv (aK_wf _ _)) hb.1
          have p2 := aPr_ok hS (aSb_wf (aK_wf _ _) wv) hb.2
          rw [aSb_ev, aK_ev] at p1 p2
          exact ⟨z, rfl, by omega, by omega⟩
        · cases hb
      · rename_i hk
        split at hb
        · rename_i v k
          obtain ⟨wv, z, rfl, ez⟩ := aVs1 hs.1
          rw [Bool.and_eq_true] at hb
          have p1 := aPr_ok hS (aSb_wf wv (aK_wf _ _)) hb.1
          have p2 := aPr_ok hS (aSb_wf (aK_wf _ _) wv) hb.2
          rw [aSb_ev, aK_ev] at p1 p2
          exact ⟨z, rfl, by omega, by omega⟩
        · cases hb
      · rename_i k0 k1
        split at hb
        · rename_i e0 kk hs0
          have h3 : w = .ref kk := hs.1.2
          have h4 : kk = p.2.1.toNat := by simpa using hb
          rw [h3, h4]
        · cases hb
theorem aFkL_ok {x : Nat} (hS : aOk r S m0 h) (hx : x < S.1.length) : ∀ (n : Nat) (j : Int), j ≤ r x → r x < j + n → ∃ S1 ∈ aFkL S x n j, aOk r S1 m0 h ∧ S1.1.length = S.1.length := by
  intro n
  induction n with
  | zero => intro j h1 h2; omega
  | succ n ih =>
    intro j h1 h2
    unfold aFkL
    by_cases e : r x = j
    · obtain ⟨S1, q1, q2, q3⟩ := aEq2_ok (e := aVr x) (j := j) hS (aVr_wf hx) (by rw [aVr_ev]; exact e)
      rw [q1]
      obtain ⟨p1, p2⟩ := aTt_ok q2
      exact ⟨_, List.mem_cons_self, p1, p2.trans q3⟩
    · obtain ⟨S1, q1, q2⟩ := ih (j + 1) (by omega) (by omega)
      split
      · exact ⟨S1, List.mem_cons_of_mem _ q1, q2⟩
      · exact ⟨S1, q1, q2⟩
theorem aFkV_ok {frs : List aF} {x : Nat} : ∀ {l : List (Nat × Nat × aLc)}, aFkV S frs l = some x → x < S.1.length
  | [], hx => by cases hx
  | p :: q, hx => by
    unfold aFkV at hx
    split at hx
    · cases hx
    · split at hx
      · split at hx
        · split at hx
          · exact aFkV_ok hx
          · rename_i hc
            cases hx
            exact Classical.byContradiction fun q => hc (Or.inr q)
        · exact aFkV_ok hx
      · exact aFkV_ok hx
theorem nMf.len {n : Nat} : ∀ {L : List aF} {M : List nF}, nMf n r L M → L.length = M.length
  | [], [], _ => rfl
  | f :: L, c :: M, h => by simp [nMf.len h.2]
  | [], _ :: _, h => h.elim
  | _ :: _, [], h => h.elim
end AGO
end
section
/-! the analyser is right -/
def nOut (X : aCx) (sc : List Int32) (D0 : Nat) (h0 : mH) (c : nF) (cs : List nF) (h : mH) : Prop := ∃ res, nRs sc cs (D0 - cs.length) c h res ∧ aHp res.2 ∧ nFr X.2.2.2.2.2 h0 res.2 ∧ nRes X.2.2.2.2.1 res.1
def nGd (X : aCx) (sc : List Int32) (D0 : Nat) (h0 : mH) (m0 : Int) (w : aW) : Prop := ∀ (r : Nat → Int) (h : mH) (c : nF) (cs : List nF), aOk r w.1 m0 h → aHp h → nFr X.2.2.2.2.2 h0 h → nMf w.1.1.length r w.2.1 (c :: cs) → cs.length ≤ 8 → nOut X sc D0 h0 c cs h
def nHd (X : aCx) (sc : List Int32) (D0 : Nat) (h0 : mH) (m0 : Int) : Prop := ∀ A ∈ X.2.1, ∀ (r : Nat → Int) (h : mH) (c : nF) (cs : List nF) (m1 : Int), aOk r A.1 m1 h → 0 ≤ m1 → m1 < m0 → aHp h → nFr X.2.2.2.2.2 h0 h → nMf A.1.1.length r A.2.1 (c :: cs) → cs.length ≤ 8 → nOut X sc D0 h0 c cs h
def nMe (sc : List Int32) (dm : Nat) (c : aCt) : Prop := ∀ (h : mH) (av : List Value) (r : Nat → Int) (m1 : Int) (t : mM), mTab[c.1]? = some t → aHp h → aOk r c.2.1.1 m1 h → nMf c.2.1.1.1.length r c.2.1.2.1 [(c.1, 0, mEntL (mMX t) av, [])] → ∀ d, dm ≤ d → ∃ r0, nEv sc d c.1 av h r0 ∧ aHp r0.2 ∧ nFr c.2.2.2 h r0.2 ∧ nRes c.2.2.1 r0.1
theorem nMe.mono {sc : List Int32} {d1 d2 : Nat} {c : aCt} (h : nMe sc d1 c) (hd : d1 ≤ d2) : nMe sc d2 c := fun hp av r m1 t q1 q2 q3 q4 d hq => h hp av r m1 t q1 q2 q3 q4 d (by omega)
section ASND
variable {X : aCx} {sc : List Int32} {D0 dm : Nat} {h0 h : mH} {m0 : Int} {r : Nat → Int} {S : aSt}
theorem nFr_mc {ms ms1 : aMd} {h h1 : mH} (hh : aHp h) (hh1 : aHp h1) (hc : aMc ms ms1 = true) (hf : nFr ms1 h h1) : nFr ms h h1 := by
  intro a j hn
  by_cases hj : ((j : Int) < aLn a)
  · refine hf a j ?_
    rintro ⟨m, m1, m2, m3, m4⟩
    refine hn ?_
    have h2 := List.all_eq_true.mp hc m m1
    rw [m2] at h2
    exact aWc_ok h2 m3 m4 hj
  · have key : ∀ {q : mH}, aHp q → aSlot q a j = none := by
      intro q hq
      unfold aSlot
      split
      · rename_i z hz
        have := aHp_ln hq hz
        exact List.getElem?_eq_none (by omega)
      · rfl
    rw [key hh, key hh1]
set_option maxHeartbeats 1000000 in
theorem aInto_ok (hT : ∀ c ∈ X.1, nMe sc dm c) (hD : dm + 8 ≤ D0) {f : aF} {fs : List aF} {t t2 : mM} {en : mE} {l : List aW} {M : mL} {su : List Value} {cs : List nF}
    (hS : aOk r S m0 h) (hh : aHp h) (hf : nFr X.2.2.2.2.2 h0 h) (ht : mTab[f.1]? = some t) (he : (mMC t)[f.2.1]? = some en) (hk : nCl en = 5) (ht2 : mTab[mTgt en 1]? = some t2) (hcn : mCnt t2 ≤ f.2.2.2.length)
    (e3 : aFs S.1.length r f.2.2.1 M) (e4 : aSk S.1.length r f.2.2.2 su) (e5 : nMf S.1.length r fs cs) (h8 : cs.length ≤ 8)
    (hw : aInto X S f fs (mTgt en 1) t2 (f.2.2.2.take (mCnt t2)).reverse (f.2.2.2.drop (mCnt t2)) = some l) (hl : ∀ w1 ∈ l, nGd X sc D0 h0 m0 w1) : nOut X sc D0 h0 (f.1, f.2.1, M, su) cs h := by
  unfold aInto at hw
  have a1 := (e4.take (mCnt t2)).rev
  have a2 := e4.drop (mCnt t2)
  have hlen := e4.len
  generalize hargs : (f.2.2.2.take (mCnt t2)).reverse = args at hw a1
  generalize hrest : f.2.2.2.drop (mCnt t2) = rest at hw a2
  split at hw
  · rename_i hc
    simp only [Bool.and_eq_true, decide_eq_true_eq] at hc
    obtain ⟨c1, c2, c3, c4⟩ := hc
    obtain ⟨n1, n2⟩ := aEntL_ok (mx := mMX t2) a1 c2
    have k1 : mCnt t2 ≤ su.length := by omega
    have k2 : ((su.drop (mCnt t2)).map (fun v => v.category)).sum ≤ 8 := by have := aCat_le a2; omega
    have k3 := aRcv_ok ht2 hh a1 c3
    have k4 : (mEnt ((su.take (mCnt t2)).reverse)).length ≤ mMX t2 := by omega
    have hfr : nMf S.1.length r [(mTgt en 1, 0, aEntL (mMX t2) args, [])] [(mTgt en 1, 0, mEntL (mMX t2) ((su.take (mCnt t2)).reverse), [])] := ⟨⟨rfl, rfl, n1, trivial⟩, trivial⟩
    split at hw
    · rename_i c hfind
      have hc1 := List.find?_some hfind
      have hc2 := List.mem_of_find?_eq_some hfind
      rw [Bool.and_eq_true] at hc1
      split at hw
      · rename_i hmc
        cases hw
        have hck : c.1 = mTgt en 1 := by simpa using hc1.1
        obtain ⟨x1, x2, x3⟩ := aEnS_ok hS hfr hc1.2
        obtain ⟨r0, y1, y2, y3, y4⟩ := hT c hc2 h ((su.take (mCnt t2)).reverse) _ _ t2 (by rw [hck]; exact ht2) hh x1 (by rw [hck]; exact x2) (D0 - cs.length) (by omega)
        have hd := aDrp_ok hS hh y2 y3
        obtain ⟨r1, z1, z2, z3⟩ := aBk_ok hd y4
        obtain ⟨res, u1, u2⟩ := hl _ List.mem_cons_self r1 r0.2 (f.1, f.2.1 + 1, M, r0.1.toList ++ su.drop (mCnt t2)) cs z1 y2 (hf.tr (nFr_mc hh y2 hmc y3)) ⟨⟨rfl, rfl, e3.le z2, z3.app (a2.le z2)⟩, e5.le z2⟩ h8
        rw [hck] at y1
        exact ⟨res, nRs_call (f := (f.1, f.2.1, M, su)) ht he hk rfl ht2 k1 k2 k3 k4 y1 u1, u2⟩
      · cases hw
    · split at hw
      · rename_i h7
        cases hw
        have hlf := e5.len
        obtain ⟨res, u1, u2⟩ := hl _ List.mem_cons_self r h (mTgt en 1, 0, mEntL (mMX t2) ((su.take (mCnt t2)).reverse), []) ((f.1, f.2.1 + 1, M, su.drop (mCnt t2)) :: cs) hS hh hf ⟨⟨rfl, rfl, n1, trivial⟩, ⟨rfl, rfl, e3, a2⟩, e5⟩ (by simp only [List.length_cons]; omega)
        refine ⟨res, ?_, u2⟩
        have hd1 : D0 - cs.length = (D0 - (cs.length + 1)) + 1 := by omega
        rw [hd1]
        exact nRs_into (f := (f.1, f.2.1, M, su)) ht he hk rfl ht2 k1 k2 k3 k4 u1
      · cases hw
  · cases hw
set_option maxHeartbeats 1000000 in
theorem aSt1_ok (hT : ∀ c ∈ X.1, nMe sc dm c) (hD : dm + 8 ≤ D0) (hH : nHd X sc D0 h0 m0) {w : aW} {l : List aW} (hw : aSt1 X w = some l) (hl : ∀ w1 ∈ l, nGd X sc D0 h0 m0 w1) : nGd X sc D0 h0 m0 w := by
  intro r h c cs hS hh hf hm h8
  obtain ⟨S, frs, fresh⟩ := w
  unfold aSt1 at hw
  dsimp only at hw hS hm
  split at hw
  · cases hw
  · rename_i f fs
    obtain ⟨⟨e1, e2, e3, e4⟩, e5⟩ := hm
    obtain ⟨ck, cpc, M, su⟩ := c
    dsimp only at e1 e2 e3 e4
    subst e1
    subst e2
    rw [aMt_eq] at hw
    split at hw
    · cases hw
    · rename_i t ht
      rw [aCe_eq] at hw
      split at hw
      · cases hw
      · rename_i en hen
        split at hw
        · split at hw
          · rename_i hA
            obtain ⟨A, A1, A2⟩ := List.any_eq_true.mp hA
            rw [Bool.and_eq_true] at A2
            obtain ⟨x1, x2, x3⟩ := aEnS_ok (frs := f :: fs) (cfs := (f.1, f.2.1, M, su) :: cs) hS ⟨⟨rfl, rfl, e3, e4⟩, e5⟩ A2.1
            obtain ⟨y1, y2⟩ := aMs_ok hS hh x3 A2.2
            exact hH A A1 _ h _ cs _ x1 y1 y2 hh hf x2 h8
          · cases hw
        · split at hw
          · rename_i x hx
            cases hw
            have hxl := aFkV_ok hx
            obtain ⟨b1, b2⟩ := aBd_get hS.1 hxl
            obtain ⟨S1, s1, s2, s3⟩ := aFkL_ok hS hxl ((S.1.getD x (0, 0)).2 - (S.1.getD x (0, 0)).1 + 1).toNat (S.1.getD x (0, 0)).1 b1 (by omega)
            exact hl _ (List.mem_map.mpr ⟨S1, s1, rfl⟩) r h _ cs s2 hh hf (by show nMf S1.1.length r (f :: fs) _; rw [s3]; exact ⟨⟨rfl, rfl, e3, e4⟩, e5⟩) h8
          · split at hw
            · rename_i hk
              split at hw
              · rename_i lv hret
                obtain ⟨v, v1, v2⟩ := aRet_ok hS e4 hret
                split at hw
                · split at hw
                  · rename_i hrs
                    cases hw
                    match cs, e5 with
                    | [], _ => exact ⟨(v, h), nRs_end (f := (f.1, f.2.1, M, su)) ht hen v1, hh, hf, aRsB_ok hS v2 hrs⟩
                    | _ :: _, e5 => exact e5.elim
                  · cases hw
                · rename_i f2 gs
                  cases hw
                  match cs, e5, h8 with
                  | [], e5, _ => exact e5.elim
                  | c2 :: cs2, e5, h8 =>
                    obtain ⟨⟨g1, g2, g3, g4⟩, g5⟩ := e5
                    simp only [List.length_cons] at h8
                    obtain ⟨res, u1, u2⟩ := hl _ List.mem_cons_self r h (nPs v c2) cs2 hS hh hf ⟨⟨g1, g2, g3, v2.app g4⟩, g5⟩ (by omega)
                    refine ⟨res, nRs_ret (f := (f.1, f.2.1, M, su)) ht hen v1 ?_, u2⟩
                    have hd1 : (D0 - (c2 :: cs2).length) + 1 = D0 - cs2.length := by simp only [List.length_cons]; omega
                    rw [hd1]
                    exact u1
              · cases hw
            · split at hw
              · rename_i hk12 hk
                rw [aMt_eq] at hw
                split at hw
                · rename_i t2 ht2
                  split at hw
                  · rename_i hcn
                    exact aInto_ok hT hD hS hh hf ht hen hk ht2 hcn e3 e4 e5 h8 hw hl
                  · cases hw
                · cases hw
              · split at hw
                · rename_i hk12 hk5 hwk
                  split at hw
                  · rename_i ql hst
                    cases hw
                    obtain ⟨g1, q1, q2, q3⟩ := aStp_ok (sc := sc) hS hh e3 e4 hst hwk
                    obtain ⟨p, p1, r1, p2, p3, p4, p5, p6, p7⟩ := q2
                    obtain ⟨res, u1, u2⟩ := hl _ (List.mem_map.mpr ⟨p, p1, rfl⟩) r1 g1.2.2.2 (f.1, g1.1, g1.2.1, g1.2.2.1) cs p2 p3 (hf.tr q3) ⟨⟨rfl, p5, p6, p7⟩, e5.le p4⟩ h8
                    exact ⟨res, nRs_step (f := (f.1, f.2.1, M, su)) (f1 := (f.1, g1.1, g1.2.1, g1.2.2.1)) ht hen hk12 ⟨0, fun n _ => q1 _⟩ rfl u1, u2⟩
                  · cases hw
                · cases hw
theorem aGo_ok (hT : ∀ c ∈ X.1, nMe sc dm c) (hD : dm + 8 ≤ D0) (hH : nHd X sc D0 h0 m0) : ∀ (n : Nat) (ws : List aW), aGo X n ws = true → ∀ w ∈ ws, nGd X sc D0 h0 m0 w := by
  intro n
  induction n with
  | zero =>
    intro ws hg w hw
    cases ws with
    | nil => cases hw
    | cons _ _ => cases hg
  | succ n ih =>
    intro ws hg w hw
    cases ws with
    | nil => cases hw
    | cons w0 ws =>
      unfold aGo at hg
      rw [aSt2_eq] at hg
      split at hg
      · rename_i l hl
        have h1 := ih _ hg
        rcases List.mem_cons.mp hw with rfl | hw
        · exact aSt1_ok hT hD hH hl (fun w1 q => h1 w1 (List.mem_append_left _ q))
        · exact h1 w (List.mem_append_right _ hw)
      · cases hg
/-- all that is checked of one promise -/
def aCk (T : List aCt) (As : List aAn) (hd : List (Nat × Nat)) (fk : List (Nat × Nat × aLc)) (c : aCt) (n : Nat) : Bool :=
  aGo (T, As, hd, fk, c.2.2.1, c.2.2.2) n [(c.2.1.1, c.2.1.2.1, true)] && As.all (fun A => aGo (T, As, hd, fk, c.2.2.1, c.2.2.2) n [(aTt A.1, A.2.1, true)])
theorem aCk_ok {T : List aCt} {As : List aAn} {hd : List (Nat × Nat)} {fk : List (Nat × Nat × aLc)} {c : aCt} {n : Nat} (hT : ∀ c ∈ T, nMe sc dm c) (hk : aCk T As hd fk c n = true) : nMe sc (dm + 9) c := by
  unfold aCk at hk
  rw [Bool.and_eq_true] at hk
  obtain ⟨hk1, hk2⟩ := hk
  intro h av r m1 t ht hh hS hm d hd1
  generalize hX : ((T, As, hd, fk, c.2.2.1, c.2.2.2) : aCx) = X at hk1 hk2
  have hXT : ∀ c ∈ X.1, nMe sc dm c := by rw [← hX]; exact hT
  have hXA : X.2.1 = As := by rw [← hX]
  have hXr : X.2.2.2.2.1 = c.2.2.1 := by rw [← hX]
  have hXm : X.2.2.2.2.2 = c.2.2.2 := by rw [← hX]
  obtain ⟨D0, rfl⟩ : ∃ D0, d = D0 + 1 := ⟨d - 1, by omega⟩
  have hD : dm + 8 ≤ D0 := by omega
  have key : ∀ (N : Nat) (m0 : Int), m0.toNat ≤ N → nHd X sc D0 h m0 := by
    intro N
    induction N with
    | zero =>
      intro m0 hN A hA r1 h1 c1 cs1 m2 q1 q2 q3
      omega
    | succ N ih =>
      intro m0 hN A hA r1 h1 c1 cs1 m2 q1 q2 q3 q4 q5 q6 q7
      have hA2 := List.all_eq_true.mp hk2 A (by rw [← hXA]; exact hA)
      have hg := aGo_ok hXT hD (ih m2 (by omega)) n _ hA2 _ List.mem_cons_self
      obtain ⟨t1, t2⟩ := aTt_ok q1
      exact hg r1 h1 c1 cs1 t1 q4 q5 (by show nMf (aTt A.1).1.length r1 A.2.1 _; rw [t2]; exact q6) q7
  have hg := aGo_ok hXT hD (key m1.toNat m1 (Nat.le_refl _)) n _ hk1 _ List.mem_cons_self
  obtain ⟨res, u1, u2, u3, u4⟩ := hg r h _ [] hS hh (nFr.rf _ _) hm (by simp)
  rw [hXm] at u3
  rw [hXr] at u4
  obtain ⟨t1, v1, v2⟩ := u1
  have v1 : mTab[c.1]? = some t1 := v1
  rw [ht] at v1
  cases v1
  exact ⟨res, nEv_of ht v2, u2, u3, u4⟩
end ASND
end
section
/-! the analyser once more, its lists walked by recursors -/
section QZP
variable {α β : Type}
noncomputable def qzif (b : Bool) (y x : α) : α := Bool.rec (motive := fun _ => α) x y b
noncomputable def qzgD (l : List α) : Nat → α → α := List.rec (motive := fun _ => Nat → α → α) (fun _ d => d) (fun a _ ih k d => Nat.rec (motive := fun _ => α) a (fun j _ => ih j d) k) l
noncomputable def qzfi (l : List α) (p : α → Bool) : Option α := List.rec (motive := fun _ => Option α) none (fun a _ ih => Bool.rec (motive := fun _ => Option α) ih (some a) (p a)) l
noncomputable def qzay (l : List α) (p : α → Bool) : Bool := List.rec (motive := fun _ => Bool) false (fun a _ ih => Bool.rec (motive := fun _ => Bool) ih true (p a)) l
noncomputable def qzal (l : List α) (p : α → Bool) : Bool := List.rec (motive := fun _ => Bool) true (fun a _ ih => Bool.rec (motive := fun _ => Bool) false ih (p a)) l
noncomputable def qzfl (l : List α) (p : α → Bool) : List α := List.rec (motive := fun _ => List α) [] (fun a _ ih => Bool.rec (motive := fun _ => List α) ih (a :: ih) (p a)) l
noncomputable def qztk (l : List α) : Nat → List α := List.rec (motive := fun _ => Nat → List α) (fun _ => []) (fun a _ ih k => Nat.rec (motive := fun _ => List α) [] (fun j _ => a :: ih j) k) l
noncomputable def qzdp (l : List α) : Nat → List α := List.rec (motive := fun _ => Nat → List α) (fun _ => []) (fun a t ih k => Nat.rec (motive := fun _ => List α) (a :: t) (fun j _ => ih j) k) l
noncomputable def qzmp (l : List α) (f : α → β) : List β := List.rec (motive := fun _ => List β) [] (fun a _ ih => f a :: ih) l
noncomputable def qzap (l q : List α) : List α := List.rec (motive := fun _ => List α) q (fun a _ ih => a :: ih) l
noncomputable def qzln (l : List α) : Nat := List.rec (motive := fun _ => Nat) 0 (fun _ _ ih => Nat.succ ih) l
noncomputable def qzst (l : List α) : Nat → α → List α := List.rec (motive := fun _ => Nat → α → List α) (fun _ _ => []) (fun a t ih k v => Nat.rec (motive := fun _ => List α) (v :: t) (fun j _ => a :: ih j v) k) l
end QZP
noncomputable def qzpl (a b : Int) : Int := Int.rec (motive := fun _ => Int) (fun m => Int.rec (motive := fun _ => Int) (fun n => Int.ofNat (Nat.add m n)) (fun n => Int.subNatNat m (Nat.succ n)) b) (fun m => Int.rec (motive := fun _ => Int) (fun n => Int.subNatNat n (Nat.succ m)) (fun n => Int.negSucc (Nat.succ (Nat.add m n))) b) a
noncomputable def qzno (n : Nat) : Int := Nat.rec (motive := fun _ => Int) (Int.ofNat 0) (fun k _ => Int.negSucc k) n
noncomputable def qzml (a b : Int) : Int := Int.rec (motive := fun _ => Int) (fun m => Int.rec (motive := fun _ => Int) (fun n => Int.ofNat (Nat.mul m n)) (fun n => qzno (Nat.mul m (Nat.succ n))) b) (fun m => Int.rec (motive := fun _ => Int) (fun n => qzno (Nat.mul (Nat.succ m) n)) (fun n => Int.ofNat (Nat.mul (Nat.succ m) (Nat.succ n))) b) a
noncomputable def qznn (a : Int) : Bool := Int.rec (motive := fun _ => Bool) (fun _ => true) (fun _ => false) a
noncomputable def qzz (a : Int) : Bool := Int.rec (motive := fun _ => Bool) (fun n => Nat.rec (motive := fun _ => Bool) true (fun _ _ => false) n) (fun _ => false) a
noncomputable def qzan (a b : Bool) : Bool := Bool.rec (motive := fun _ => Bool) false b a
noncomputable def qzor (a b : Bool) : Bool := Bool.rec (motive := fun _ => Bool) b true a
noncomputable def qz0 (e : aX) : Bool := Int.rec (motive := fun _ => Bool) (fun n => Nat.rec (motive := fun _ => Bool) (List.rec (motive := fun _ => Bool) true (fun _ _ _ => false) e.2) (fun _ _ => false) n) (fun _ => false) e.1

theorem qzif_eq {α : Type} (b : Bool) (y x : α) : qzif b y x = if b = true then y else x := by cases b <;> rfl
theorem qzgD_eq {α : Type} : ∀ (l : List α) (k : Nat) (d : α), qzgD l k d = l.getD k d
  | [], _, _ => by simp [qzgD]
  | _ :: _, 0, _ => rfl
  | a :: t, k + 1, d => (qzgD_eq t k d).trans (by simp)
theorem qzbr {α : Type} (b : Bool) (x y : α) : (Bool.rec (motive := fun _ => α) x y b : α) = if b = true then y else x := by cases b <;> rfl
theorem qzfi_eq {α : Type} (p : α → Bool) : ∀ (l : List α), qzfi l p = l.find? p
  | [] => rfl
  | a :: t => by
    show Bool.rec (motive := fun _ => Option α) (qzfi t p) (some a) (p a) = _
    rw [qzbr, qzfi_eq p t, List.find?_cons]
    cases p a <;> rfl
theorem qzay_eq {α : Type} (p : α → Bool) : ∀ (l : List α), qzay l p = l.any p
  | [] => rfl
  | a :: t => by
    show Bool.rec (motive := fun _ => Bool) (qzay t p) true (p a) = _
    rw [qzbr, qzay_eq p t, List.any_cons]
    cases p a <;> rfl
theorem qzal_eq {α : Type} (p : α → Bool) : ∀ (l : List α), qzal l p = l.all p
  | [] => rfl
  | a :: t => by
    show Bool.rec (motive := fun _ => Bool) false (qzal t p) (p a) = _
    rw [qzbr, qzal_eq p t, List.all_cons]
    cases p a <;> rfl
theorem qzfl_eq {α : Type} (p : α → Bool) : ∀ (l : List α), qzfl l p = l.filter p
  | [] => rfl
  | a :: t => by
    show Bool.rec (motive := fun _ => List α) (qzfl t p) (a :: qzfl t p) (p a) = _
    rw [qzbr, qzfl_eq p t, List.filter_cons]
theorem qztk_eq {α : Type} : ∀ (l : List α) (k : Nat), qztk l k = l.take k
  | [], _ => by simp [qztk]
  | _ :: _, 0 => rfl
  | a :: t, k + 1 => (congrArg (a :: ·) (qztk_eq t k)).trans (by simp)
theorem qzdp_eq {α : Type} : ∀ (l : List α) (k : Nat), qzdp l k = l.drop k
  | [], _ => by simp [qzdp]
  | _ :: _, 0 => rfl
  | a :: t, k + 1 => (qzdp_eq t k).trans (by simp)
theorem qzmp_eq {α β : Type} (f : α → β) : ∀ (l : List α), qzmp l f = l.map f
  | [] => rfl
  | a :: t => (congrArg (f a :: ·) (qzmp_eq f t)).trans (by simp)
theorem qzap_eq {α : Type} (q : List α) : ∀ (l : List α), qzap l q = l ++ q
  | [] => rfl
  | a :: t => (congrArg (a :: ·) (qzap_eq q t)).trans (by simp)
theorem qzln_eq {α : Type} : ∀ (l : List α), qzln l = l.length
  | [] => rfl
  | a :: t => (congrArg Nat.succ (qzln_eq t)).trans (by simp)
theorem qzst_eq {α : Type} : ∀ (l : List α) (k : Nat) (v : α), qzst l k v = l.set k v
  | [], _, _ => by simp [qzst]
  | _ :: _, 0, _ => rfl
  | a :: t, k + 1, v => (congrArg (a :: ·) (qzst_eq t k v)).trans (by simp)
theorem qzbe (a b : Nat) : Nat.beq a b = (a == b) := by
  rw [Bool.eq_iff_iff, beq_iff_eq]
  exact ⟨Nat.eq_of_beq_eq_true, fun h => by rw [h]; exact Nat.beq_refl b⟩
theorem qzpl_eq (a b : Int) : qzpl a b = a + b := by cases a <;> cases b <;> rfl
theorem qzno_eq (n : Nat) : qzno n = Int.negOfNat n := by cases n <;> rfl
theorem qzml_eq (a b : Int) : qzml a b = a * b := by
  cases a with
  | ofNat m =>
    cases b with
    | ofNat n => rfl
    | negSucc n => exact qzno_eq _
  | negSucc m =>
    cases b with
    | ofNat n => exact qzno_eq _
    | negSucc n => rfl
theorem qznn_eq (a : Int) : qznn a = decide (0 ≤ a) := by
  cases a with
  | ofNat n => exact (decide_eq_true (Int.natCast_nonneg n)).symm
  | negSucc n => exact (decide_eq_false (by omega)).symm
theorem qzz_eq (a : Int) : qzz a = decide (a = 0) := by
  cases a with
  | ofNat n =>
    cases n with
    | zero => rfl
    | succ n =>
      refine (decide_eq_false (fun h => ?_)).symm
      have h2 : Int.ofNat (n + 1) = Int.ofNat 0 := h
      injection h2 with h3
      omega
  | negSucc n => exact (decide_eq_false (by omega)).symm
theorem qzan_eq (a b : Bool) : qzan a b = (a && b) := by cases a <;> rfl
theorem qzor_eq (a b : Bool) : qzor a b = (a || b) := by cases a <;> rfl
theorem qz0_eq (e : aX) : qz0 e = (e == (0, [])) := by
  rw [Bool.eq_iff_iff, beq_iff_eq]
  obtain ⟨c, l⟩ := e
  constructor
  · intro h
    cases c with
    | ofNat n =>
      cases n with
      | zero =>
        cases l with
        | nil => rfl
        | cons _ _ => exact Bool.noConfusion h
      | succ n => exact Bool.noConfusion h
    | negSucc n => exact Bool.noConfusion h
  · intro h
    rw [h]
    rfl
theorem qzct_eq (a b : Nat) : ∀ (l : List (Nat × Nat)), (l.any fun q => a == q.1 && b == q.2) = l.contains (a, b)
  | [] => rfl
  | (x, y) :: t => by
    rw [List.any_cons, qzct_eq a b t, List.contains_cons]
    rfl

noncomputable def qzIn (c : Int) (k : Nat) (l : List (Int × Nat)) : List (Int × Nat) := List.rec (motive := fun _ => List (Int × Nat)) (qzif (qzz c) [] [(c, k)]) (fun t q ih => qzif (Nat.beq t.2 k) (qzif (qzz (qzpl t.1 c)) q ((qzpl t.1 c, k) :: q)) (t :: ih)) l
theorem qzIn_e (c : Int) (k : Nat) : ∀ l, qzIn c k l = aIn c k l
  | [] => by
    show qzif (qzz c) [] [(c, k)] = _
    simp only [aIn, qzif_eq, qzz_eq, decide_eq_true_eq]
  | t :: q => by
    show qzif (Nat.beq t.2 k) (qzif (qzz (qzpl t.1 c)) q ((qzpl t.1 c, k) :: q)) (t :: qzIn c k q) = _
    rw [qzIn_e c k q]
    simp only [aIn, qzif_eq, qzz_eq, qzpl_eq, qzbe, decide_eq_true_eq, beq_iff_eq]
theorem qzIn_eq : qzIn = aIn := by funext c k l; exact qzIn_e c k l
noncomputable def qzIns (l q : List (Int × Nat)) : List (Int × Nat) := List.rec (motive := fun _ => List (Int × Nat)) l (fun t _ ih => qzIn t.1 t.2 ih) q
theorem qzIns_e (l : List (Int × Nat)) : ∀ q, qzIns l q = aIns l q
  | [] => rfl
  | t :: q => by
    show qzIn t.1 t.2 (qzIns l q) = _
    rw [qzIns_e l q, qzIn_eq]
    rfl
theorem qzIns_eq : qzIns = aIns := by funext l q; exact qzIns_e l q
noncomputable def qzAd (a b : aX) : aX := (qzpl a.1 b.1, qzIns a.2 b.2)
theorem qzAd_eq : qzAd = aAd := by
  funext a b
  show (qzpl a.1 b.1, qzIns a.2 b.2) = (a.1 + b.1, aIns a.2 b.2)
  rw [qzpl_eq, qzIns_eq]
noncomputable def qzScL (m : Int) (l : List (Int × Nat)) : List (Int × Nat) := List.rec (motive := fun _ => List (Int × Nat)) [] (fun t _ ih => (qzml m t.1, t.2) :: ih) l
theorem qzScL_e (m : Int) : ∀ l, qzScL m l = aScL m l
  | [] => rfl
  | t :: q => by
    show (qzml m t.1, t.2) :: qzScL m q = _
    rw [qzScL_e m q, qzml_eq]
    rfl
theorem qzScL_eq : qzScL = aScL := by funext m l; exact qzScL_e m l
noncomputable def qzSc (m : Int) (a : aX) : aX := qzif (qzz m) (0, []) (qzml m a.1, qzScL m a.2)
theorem qzSc_eq : qzSc = aSc := by
  funext m a
  show qzif (qzz m) (0, []) (qzml m a.1, qzScL m a.2) = if m = 0 then (0, []) else (m * a.1, aScL m a.2)
  simp only [qzif_eq, qzz_eq, qzml_eq, qzScL_eq, decide_eq_true_eq]
noncomputable def qzSb (a b : aX) : aX := qzAd a (qzSc (-1) b)
theorem qzSb_eq : qzSb = aSb := by
  delta qzSb
  simp only [qzAd_eq, qzSc_eq]
  rfl
noncomputable def qzLoL (B : aB) (l : List (Int × Nat)) : Int := List.rec (motive := fun _ => Int) 0 (fun t _ ih => qzpl (qzif (qznn t.1) (qzml t.1 (qzgD B t.2 (0, 0)).1) (qzml t.1 (qzgD B t.2 (0, 0)).2)) ih) l
theorem qzLoL_e (B : aB) : ∀ l, qzLoL B l = aLoL B l
  | [] => rfl
  | t :: q => by
    show qzpl (qzif (qznn t.1) (qzml t.1 (qzgD B t.2 (0, 0)).1) (qzml t.1 (qzgD B t.2 (0, 0)).2)) (qzLoL B q) = _
    rw [qzLoL_e B q]
    simp only [aLoL, qzif_eq, qznn_eq, qzml_eq, qzpl_eq, qzgD_eq, decide_eq_true_eq]
theorem qzLoL_eq : qzLoL = aLoL := by funext B l; exact qzLoL_e B l
noncomputable def qzLo (B : aB) (e : aX) : Int := qzpl e.1 (qzLoL B e.2)
theorem qzLo_eq : qzLo = aLo := by
  funext B e
  show qzpl e.1 (qzLoL B e.2) = e.1 + aLoL B e.2
  rw [qzpl_eq, qzLoL_eq]
noncomputable def qzPrC (B : aB) (C : List aX) (n : Nat) : aX → Bool := Nat.rec (motive := fun _ => aX → Bool) (fun e => qznn (qzLo B e)) (fun _ ih e => qzor (qznn (qzLo B e)) (qzay C (fun c => qzay e.2 (fun t => qzay c.2 (fun u => qzan (Nat.beq t.2 u.2) (decide (0 < t.1 * u.1) && (decide (t.1 % u.1 = 0) && ih (qzSb e (qzSc (t.1 / u.1) c))))))))) n
theorem qzPrC_e (B : aB) (C : List aX) : ∀ (n : Nat) (e : aX), qzPrC B C n e = aPrC B C n e := by
  intro n
  induction n with
  | zero =>
    intro e
    show qznn (qzLo B e) = decide (0 ≤ aLo B e)
    rw [qznn_eq, qzLo_eq]
  | succ n ih =>
    intro e
    show qzor (qznn (qzLo B e)) (qzay C (fun c => qzay e.2 (fun t => qzay c.2 (fun u => qzan (Nat.beq t.2 u.2) (decide (0 < t.1 * u.1) && (decide (t.1 % u.1 = 0) && qzPrC B C n (qzSb e (qzSc (t.1 / u.1) c)))))))) = _
    simp only [aPrC, qzor_eq, qznn_eq, qzay_eq, qzan_eq, qzbe, qzLo_eq, qzSb_eq, qzSc_eq, ih]
theorem qzPrC_eq : qzPrC = aPrC := by funext B C n e; exact qzPrC_e B C n e
noncomputable def qzHiL (B : aB) (l : List (Int × Nat)) : Int := List.rec (motive := fun _ => Int) 0 (fun t _ ih => qzpl (qzif (qznn t.1) (qzml t.1 (qzgD B t.2 (0, 0)).2) (qzml t.1 (qzgD B t.2 (0, 0)).1)) ih) l
theorem qzHiL_e (B : aB) : ∀ l, qzHiL B l = aHiL B l
  | [] => rfl
  | t :: q => by
    show qzpl (qzif (qznn t.1) (qzml t.1 (qzgD B t.2 (0, 0)).2) (qzml t.1 (qzgD B t.2 (0, 0)).1)) (qzHiL B q) = _
    rw [qzHiL_e B q]
    simp only [aHiL, qzif_eq, qznn_eq, qzml_eq, qzpl_eq, qzgD_eq, decide_eq_true_eq]
theorem qzHiL_eq : qzHiL = aHiL := by funext B l; exact qzHiL_e B l
noncomputable def qzHj (B : aB) (e : aX) : Int := qzpl e.1 (qzHiL B e.2)
theorem qzHj_eq : qzHj = aHj := by
  funext B e
  show qzpl e.1 (qzHiL B e.2) = e.1 + aHiL B e.2
  rw [qzpl_eq, qzHiL_eq]
noncomputable def qzTi (B0 : aB) (hh : Int) (l : List (Int × Nat)) : aB → aB := List.rec (motive := fun _ => aB → aB) (fun B => B) (fun t _ ih B => ih (qzst B t.2 (if 0 < t.1 then (max (qzgD B0 t.2 (0, 0)).1 (-((hh - t.1 * (qzgD B0 t.2 (0, 0)).2) / t.1)), (qzgD B0 t.2 (0, 0)).2) else if t.1 < 0 then ((qzgD B0 t.2 (0, 0)).1, min (qzgD B0 t.2 (0, 0)).2 ((hh - t.1 * (qzgD B0 t.2 (0, 0)).1) / (-t.1))) else qzgD B0 t.2 (0, 0)))) l
theorem qzTi_e (B0 : aB) (hh : Int) : ∀ (l : List (Int × Nat)) (B : aB), qzTi B0 hh l B = aTi B0 hh l B
  | [], _ => rfl
  | t :: q, B => by
    refine Eq.trans (qzTi_e B0 hh q _) ?_
    simp only [aTi, qzst_eq, qzgD_eq]
theorem qzTi_eq : qzTi = aTi := by funext B0 hh l B; exact qzTi_e B0 hh l B
noncomputable def qzAs (S : aSt) (e : aX) : Option aSt :=
  if qzHj S.1 e < 0 then none else if 0 ≤ qzLo S.1 e then some S else
  if (qzln e.2) ≠ 1 ∧ qzPrC S.1 S.2.1 1 (qzSb (aK (-1)) e) = true then none else
  if qzay (qzTi S.1 (qzHj S.1 e) e.2 S.1) (fun q => decide (q.2 < q.1)) = true then none else
  if (qzln e.2) = 1 ∨ 0 ≤ qzLo (qzTi S.1 (qzHj S.1 e) e.2 S.1) e then some (qzTi S.1 (qzHj S.1 e) e.2 S.1, S.2.1, S.2.2) else some (qzTi S.1 (qzHj S.1 e) e.2 S.1, e :: S.2.1, S.2.2)
theorem qzAs_eq : qzAs = aAs := by
  delta qzAs
  simp only [qzHj_eq, qzLo_eq, qzln_eq, qzPrC_eq, qzSb_eq, qzay_eq, qzTi_eq]
  rfl
noncomputable def qzNw (S : aSt) (lo hi : Int) : aSt := (qzap S.1 [(lo, hi)], S.2.1, S.2.2)
theorem qzNw_eq : qzNw = aNw := by
  delta qzNw
  simp only [qzap_eq]
  rfl
noncomputable def qzPr (S : aSt) (e : aX) : Bool := qzPrC S.1 S.2.1 2 e
theorem qzPr_eq : qzPr = aPr := by
  delta qzPr
  simp only [qzPrC_eq]
  rfl
noncomputable def qzNmL (B : aB) (l : List (Int × Nat)) : aX := List.rec (motive := fun _ => aX) (0, []) (fun t _ ih => qzif (qzan (qzz (qzpl (qzgD B t.2 (0, 0)).1 (qzml (-1) (qzgD B t.2 (0, 0)).2))) (Nat.ble (Nat.succ t.2) (qzln B))) (qzpl ih.1 (qzml t.1 (qzgD B t.2 (0, 0)).1), ih.2) (ih.1, t :: ih.2)) l
theorem qzNmL_e (B : aB) : ∀ l, qzNmL B l = aNmL B l
  | [] => rfl
  | t :: q => by
    show qzif (qzan (qzz (qzpl (qzgD B t.2 (0, 0)).1 (qzml (-1) (qzgD B t.2 (0, 0)).2))) (Nat.ble (Nat.succ t.2) (qzln B))) (qzpl (qzNmL B q).1 (qzml t.1 (qzgD B t.2 (0, 0)).1), (qzNmL B q).2) ((qzNmL B q).1, t :: (qzNmL B q).2) = _
    rw [qzNmL_e B q]
    simp only [aNmL, qzif_eq, qzan_eq, qzz_eq, qzpl_eq, qzml_eq, qzgD_eq, qzln_eq]
    by_cases hc : (B.getD t.2 (0, 0)).1 = (B.getD t.2 (0, 0)).2 ∧ t.2 < B.length
    · rw [if_pos hc, if_pos]
      rw [Bool.and_eq_true]
      exact ⟨decide_eq_true (by omega), Nat.ble_eq_true_of_le hc.2⟩
    · rw [if_neg hc, if_neg]
      intro hb
      rw [Bool.and_eq_true] at hb
      have h1 := of_decide_eq_true hb.1
      exact hc ⟨by omega, Nat.le_of_ble_eq_true hb.2⟩
theorem qzNmL_eq : qzNmL = aNmL := by funext B l; exact qzNmL_e B l
noncomputable def qzNm (B : aB) (e : aX) : aX := (qzpl e.1 (qzNmL B e.2).1, (qzNmL B e.2).2)
theorem qzNm_eq : qzNm = aNm := by
  funext B e
  show (qzpl e.1 (qzNmL B e.2).1, (qzNmL B e.2).2) = (e.1 + (aNmL B e.2).1, (aNmL B e.2).2)
  rw [qzpl_eq, qzNmL_eq]
noncomputable def qzRgs (t : aTy) (lo hi : Int) : List aRg := qzfl t.2.2 (fun g => decide ((g.1 : Int) ≤ hi) && decide (lo ≤ (g.2.1 : Int)))
theorem qzRgs_eq : qzRgs = aRgs := by
  delta qzRgs
  simp only [qzfl_eq]
  rfl
noncomputable def qzMin (g : aRg) (l : List aRg) : Int := List.rec (motive := fun _ => Int) g.2.2.2.1 (fun q _ ih => min q.2.2.2.1 ih) l
theorem qzMin_e (g : aRg) : ∀ l, qzMin g l = aMin g l
  | [] => rfl
  | q :: r => by
    show min q.2.2.2.1 (qzMin g r) = _
    rw [qzMin_e g r]
    rfl
theorem qzMin_eq : qzMin = aMin := by funext g l; exact qzMin_e g l
noncomputable def qzMax (g : aRg) (l : List aRg) : Int := List.rec (motive := fun _ => Int) g.2.2.2.2 (fun q _ ih => max q.2.2.2.2 ih) l
theorem qzMax_e (g : aRg) : ∀ l, qzMax g l = aMax g l
  | [] => rfl
  | q :: r => by
    show max q.2.2.2.2 (qzMax g r) = _
    rw [qzMax_e g r]
    rfl
theorem qzMax_eq : qzMax = aMax := by funext g l; exact qzMax_e g l
noncomputable def qzAdG (S : aSt) (a : Nat) (ix : aX) (v : aV) : aSt := (S.1, S.2.1, (a, ix, v) :: qztk S.2.2.1 aGc, S.2.2.2)
theorem qzAdG_eq : qzAdG = aAdG := by
  delta qzAdG
  simp only [qztk_eq]
  rfl
noncomputable def qzEq2 (S : aSt) (e : aX) (j : Int) : Option aSt := match qzAs S (qzSb e (aK j)) with
  | some S1 => qzAs S1 (qzSb (aK j) e)
  | none => none
theorem qzEq2_eq : qzEq2 = aEq2 := by
  delta qzEq2
  simp only [qzAs_eq, qzSb_eq]
  rfl
noncomputable def qzRdF (S : aSt) (t : aTy) (ix : aX) (n : Nat) : Int → List (aSt × aV) := Nat.rec (motive := fun _ => Int → List (aSt × aV)) (fun _ => []) (fun _ ih j => match qzEq2 S ix j with
    | some S1 => (S1, (2, aK 0, ((qzRgs t j j).headD (0, 0, 0, 0, 0)).2.2.2.1.toNat)) :: ih (j + 1)
    | none => ih (j + 1)) n
theorem qzRdF_e (S : aSt) (t : aTy) (ix : aX) : ∀ (n : Nat) (j : Int), qzRdF S t ix n j = aRdF S t ix n j := by
  intro n
  induction n with
  | zero => intro j; rfl
  | succ n ih =>
    intro j
    show (match qzEq2 S ix j with
      | some S1 => (S1, (2, aK 0, ((qzRgs t j j).headD (0, 0, 0, 0, 0)).2.2.2.1.toNat)) :: qzRdF S t ix n (j + 1)
      | none => qzRdF S t ix n (j + 1)) = (match aEq2 S ix j with
      | some S1 => (S1, (2, aK 0, ((aRgs t j j).headD (0, 0, 0, 0, 0)).2.2.2.1.toNat)) :: aRdF S t ix n (j + 1)
      | none => aRdF S t ix n (j + 1))
    rw [qzEq2_eq, ih, qzRgs_eq]
theorem qzRdF_eq : qzRdF = aRdF := by funext S t ix n j; exact qzRdF_e S t ix n j
noncomputable def qzRd (S : aSt) (a : Nat) (ix0 : aX) : Option (List (aSt × aV)) := match aTq a with
  | none => none
  | some t => if (qzPr S (qzNm S.1 ix0) && qzPr S (qzSb (aK ((t.2.1 : Int) - 1)) (qzNm S.1 ix0))) = true then
      (match qzfi S.2.2.1 (fun g => Nat.beq g.1 a && qz0 (qzNm S.1 (qzSb g.2.1 (qzNm S.1 ix0)))) with
      | some g => some [(S, g.2.2)]
      | none => match qzRgs t (max (qzLo S.1 (qzNm S.1 ix0)) 0) (min (qzHj S.1 (qzNm S.1 ix0)) ((t.2.1 : Int) - 1)) with
        | [] => none
        | g :: gs => if qzal gs (fun q => Nat.beq q.2.2.1 g.2.2.1) = true then
            (if g.2.2.1 = 0 ∨ g.2.2.1 = 1 then some [(qzAdG (qzNw S (qzMin g gs) (qzMax g gs)) a (qzNm S.1 ix0) (g.2.2.1, aVr (qzln S.1), 0), (g.2.2.1, aVr (qzln S.1), 0))]
            else if g.2.2.1 = 2 then some (qzRdF S t (qzNm S.1 ix0) (min (qzHj S.1 (qzNm S.1 ix0)) ((t.2.1 : Int) - 1) - max (qzLo S.1 (qzNm S.1 ix0)) 0 + 1).toNat (max (qzLo S.1 (qzNm S.1 ix0)) 0))
            else if g.2.2.1 = 3 then some (qzmp aDs (fun d => (qzAdG S a (qzNm S.1 ix0) (0, aK d, 0), (0, aK d, 0)))) else none) else none) else none
theorem qzRd_eq : qzRd = aRd := by
  delta qzRd
  simp only [qzPr_eq, qzNm_eq, qzSb_eq, qzfi_eq, qz0_eq, qzRgs_eq, qzLo_eq, qzHj_eq, qzal_eq, qzAdG_eq, qzNw_eq, qzMin_eq, qzMax_eq, qzln_eq, qzRdF_eq, qzmp_eq, qzbe]
  rfl
noncomputable def qzFit (S : aSt) (v : aV) (g : aRg) : Bool := match g.2.2.1 with
  | 0 => Nat.beq v.1 0 && (qzPr S (qzSb v.2.1 (aK g.2.2.2.1)) && qzPr S (qzSb (aK g.2.2.2.2) v.2.1))
  | 1 => Nat.beq v.1 1 && (qzPr S (qzSb v.2.1 (aK g.2.2.2.1)) && qzPr S (qzSb (aK g.2.2.2.2) v.2.1))
  | 2 => false
  | _ => Nat.beq v.1 0 && (v.2.1.2.isEmpty && aDs.contains v.2.1.1)
theorem qzFit_eq : qzFit = aFit := by
  delta qzFit
  simp only [qzPr_eq, qzSb_eq, qzbe]
  rfl
noncomputable def qzOw (S : aSt) (a : Nat) (ix : aX) (v : aV) : aX := if a = 63 then (match qzfi S.2.2.1 (fun g => Nat.beq g.1 a && (Nat.beq g.2.2.1 0 && qz0 (qzNm S.1 (qzSb g.2.1 ix)))) with
  | some g => qzAd S.2.2.2 (qzSc aKap (qzSb g.2.2.2.1 v.2.1))
  | none => qzSb S.2.2.2 (qzSc aKap v.2.1)) else S.2.2.2
theorem qzOw_eq : qzOw = aOw := by
  delta qzOw
  simp only [qzfi_eq, qz0_eq, qzNm_eq, qzSb_eq, qzAd_eq, qzSc_eq, qzbe]
  rfl
noncomputable def qzWr (S : aSt) (a : Nat) (ix0 : aX) (v : aV) : Option aSt := match aTq a with
  | none => none
  | some t => if (qzPr S (qzNm S.1 ix0) && (qzPr S (qzSb (aK ((t.2.1 : Int) - 1)) (qzNm S.1 ix0)) && qzal (qzRgs t (max (qzLo S.1 (qzNm S.1 ix0)) 0) (min (qzHj S.1 (qzNm S.1 ix0)) ((t.2.1 : Int) - 1))) (qzFit S v))) = true then
      some (S.1, S.2.1, (a, qzNm S.1 ix0, v) :: qzfl (qztk S.2.2.1 aGc) (fun g => (! Nat.beq g.1 a) || (decide (0 < qzLo S.1 (qzSb g.2.1 (qzNm S.1 ix0))) || decide (qzHj S.1 (qzSb g.2.1 (qzNm S.1 ix0)) < 0))), qzOw S a (qzNm S.1 ix0) v) else none
theorem qzWr_eq : qzWr = aWr := by
  delta qzWr
  simp only [qzPr_eq, qzNm_eq, qzSb_eq, qzal_eq, qzRgs_eq, qzLo_eq, qzHj_eq, qzFit_eq, qzfl_eq, qztk_eq, qzOw_eq, qzbe]
  rfl
noncomputable def qzCl (S : aSt) (mi ma : Int) (e : aX) : aP := if (qzPr S (qzSb e (aK mi)) && qzPr S (qzSb (aK ma) e)) = true then (S, e) else (qzNw S mi ma, aVr (qzln S.1))
theorem qzCl_eq : qzCl = aCl := by
  delta qzCl
  simp only [qzPr_eq, qzSb_eq, qzNw_eq, qzln_eq]
  rfl
noncomputable def qzMul (S : aSt) (mi ma : Int) (x y : aX) : aP :=
  if qzLo S.1 y = qzHj S.1 y then qzCl S mi ma (qzSc (qzLo S.1 y) x) else if qzLo S.1 x = qzHj S.1 x then qzCl S mi ma (qzSc (qzLo S.1 x) y) else
  if 0 ≤ qzLo S.1 x ∧ 0 ≤ qzLo S.1 y ∧ qzHj S.1 x * qzHj S.1 y ≤ ma then (qzNw S (qzLo S.1 x * qzLo S.1 y) (qzHj S.1 x * qzHj S.1 y), aVr (qzln S.1)) else (qzNw S mi ma, aVr (qzln S.1))
theorem qzMul_eq : qzMul = aMul := by
  delta qzMul
  simp only [qzLo_eq, qzHj_eq, qzCl_eq, qzSc_eq, qzNw_eq, qzln_eq]
  rfl
noncomputable def qzRem (S : aSt) (mi ma : Int) (x y : aX) : Option aP :=
  if qzPr S (qzSb y (aK 1)) = true then
    (if qzLo S.1 x = qzHj S.1 x ∧ max (qzLo S.1 y) 1 = qzHj S.1 y ∧ 0 ≤ qzLo S.1 x then some (S, aK (qzLo S.1 x % qzHj S.1 y)) else
    if 0 ≤ qzLo S.1 x then
      (if max (qzLo S.1 y) 1 = qzHj S.1 y ∧ qzHj S.1 x < 1099511627776 then
        some (aAdC (aAdC (qzNw (aAdC (aAdC (qzNw S 0 (min (qzHj S.1 x) (qzHj S.1 y - 1))) (qzSb (qzSb y (aVr (qzln S.1))) (aK 1))) (qzSb x (aVr (qzln S.1)))) (qzLo S.1 x / qzHj S.1 y) (qzHj S.1 x / qzHj S.1 y)) (qzSb x (qzAd (qzSc (qzHj S.1 y) (aVr ((qzln S.1) + 1))) (aVr (qzln S.1))))) (qzSc (-1) (qzSb x (qzAd (qzSc (qzHj S.1 y) (aVr ((qzln S.1) + 1))) (aVr (qzln S.1))))), aVr (qzln S.1))
      else some (aAdC (aAdC (qzNw S 0 (min (qzHj S.1 x) (qzHj S.1 y - 1))) (qzSb (qzSb y (aVr (qzln S.1))) (aK 1))) (qzSb x (aVr (qzln S.1))), aVr (qzln S.1)))
    else some (qzNw S (-(qzHj S.1 y - 1)) (qzHj S.1 y - 1), aVr (qzln S.1)))
  else if qzPr S (qzSb (aK (-1)) y) = true then some (qzNw S mi ma, aVr (qzln S.1)) else none
theorem qzRem_eq : qzRem = aRem := by
  delta qzRem
  simp only [qzPr_eq, qzSb_eq, qzLo_eq, qzHj_eq, qzNw_eq, qzln_eq, qzAd_eq, qzSc_eq]
  rfl
noncomputable def qzDiv (S : aSt) (mi ma : Int) (x y : aX) : Option aP :=
  if qzPr S (qzSb y (aK 1)) = true then
    (if 0 ≤ qzLo S.1 x then
      (if qzLo S.1 x = qzHj S.1 x ∧ max (qzLo S.1 y) 1 = qzHj S.1 y then some (S, aK (qzLo S.1 x / qzHj S.1 y)) else
      if 9 < qzHj S.1 x / max (qzLo S.1 y) 1 ∧ qzPr S (qzSb (qzSc 10 y) (qzAd x (aK 1))) = true then some (qzNw S (qzLo S.1 x / qzHj S.1 y) 9, aVr (qzln S.1))
      else some (qzNw S (qzLo S.1 x / qzHj S.1 y) (qzHj S.1 x / max (qzLo S.1 y) 1), aVr (qzln S.1)))
    else some (qzNw S mi ma, aVr (qzln S.1)))
  else if qzPr S (qzSb (aK (-1)) y) = true then some (qzNw S mi ma, aVr (qzln S.1)) else none
theorem qzDiv_eq : qzDiv = aDiv := by
  delta qzDiv
  simp only [qzPr_eq, qzSb_eq, qzLo_eq, qzHj_eq, qzSc_eq, qzAd_eq, qzNw_eq, qzln_eq]
  rfl
noncomputable def qzAnd (S : aSt) (x y : aX) : aP :=
  if qzLo S.1 x = qzHj S.1 x ∧ qzLo S.1 y = qzHj S.1 y then (S, aK (Int32.ofInt (qzLo S.1 x) &&& Int32.ofInt (qzLo S.1 y)).toInt) else
  if 0 ≤ qzLo S.1 y then (if 0 ≤ qzLo S.1 x then (aAdC (aAdC (qzNw S 0 (min (qzHj S.1 x) (qzHj S.1 y))) (qzSb x (aVr (qzln S.1)))) (qzSb y (aVr (qzln S.1))), aVr (qzln S.1)) else (qzNw S 0 (qzHj S.1 y), aVr (qzln S.1)))
  else if 0 ≤ qzLo S.1 x then (qzNw S 0 (qzHj S.1 x), aVr (qzln S.1)) else (qzNw S aMi aMa, aVr (qzln S.1))
theorem qzAnd_eq : qzAnd = aAnd := by
  delta qzAnd
  simp only [qzLo_eq, qzHj_eq, qzNw_eq, qzSb_eq, qzln_eq]
  rfl
noncomputable def qzOrX (S : aSt) (o : Bool) (x y : aX) : aP :=
  if qzLo S.1 x = qzHj S.1 x ∧ qzLo S.1 y = qzHj S.1 y then (S, aK (if o = true then (Int32.ofInt (qzLo S.1 x) ||| Int32.ofInt (qzLo S.1 y)).toInt else (Int32.ofInt (qzLo S.1 x) ^^^ Int32.ofInt (qzLo S.1 y)).toInt)) else
  if 0 ≤ qzLo S.1 y ∧ 0 ≤ qzLo S.1 x ∧ qzHj S.1 x ≤ aMa ∧ qzHj S.1 y ≤ aMa then (qzNw S 0 (aPw (max (qzHj S.1 x) (qzHj S.1 y))), aVr (qzln S.1)) else (qzNw S aMi aMa, aVr (qzln S.1))
theorem qzOrX_eq : qzOrX = aOrX := by
  delta qzOrX
  simp only [qzLo_eq, qzHj_eq, qzNw_eq, qzln_eq]
  rfl
noncomputable def qzShl (S : aSt) (x y : aX) : aP :=
  if qzLo S.1 x = 1 ∧ qzHj S.1 x = 1 ∧ 0 ≤ qzLo S.1 y ∧ qzHj S.1 y ≤ 30 then (if qzLo S.1 y = qzHj S.1 y then (S, aK (2 ^ (qzLo S.1 y).toNat)) else (qzNw S (2 ^ (qzLo S.1 y).toNat) (2 ^ (qzHj S.1 y).toNat), aVr (qzln S.1))) else
  if qzLo S.1 y = qzHj S.1 y ∧ 0 ≤ qzLo S.1 y ∧ qzHj S.1 y ≤ 30 ∧ 0 ≤ qzLo S.1 x ∧ qzHj S.1 x * 2 ^ (qzLo S.1 y).toNat ≤ aMa then (S, qzSc (2 ^ (qzLo S.1 y).toNat) x) else (qzNw S aMi aMa, aVr (qzln S.1))
theorem qzShl_eq : qzShl = aShl := by
  delta qzShl
  simp only [qzLo_eq, qzHj_eq, qzNw_eq, qzln_eq, qzSc_eq]
  rfl
noncomputable def qzShr (S : aSt) (x y : aX) : aP :=
  if 0 ≤ qzLo S.1 x then (if qzLo S.1 y = qzHj S.1 y ∧ 0 ≤ qzLo S.1 y ∧ qzHj S.1 y ≤ 30 then (if qzLo S.1 x = qzHj S.1 x then (S, aK (qzLo S.1 x / 2 ^ (qzLo S.1 y).toNat)) else (qzNw S (qzLo S.1 x / 2 ^ (qzLo S.1 y).toNat) (qzHj S.1 x / 2 ^ (qzLo S.1 y).toNat), aVr (qzln S.1))) else (qzNw S 0 (qzHj S.1 x), aVr (qzln S.1))) else (qzNw S aMi aMa, aVr (qzln S.1))
theorem qzShr_eq : qzShr = aShr := by
  delta qzShr
  simp only [qzLo_eq, qzHj_eq, qzNw_eq, qzln_eq]
  rfl
noncomputable def qzLd (g : Nat → Bool) (S : aSt) (L : List aV) (st : List aV) (i k : Nat) : Option (List aQ) := match qzgo L k with
  | some v => if g v.1 = true then some [(S, i + 1, L, v :: st)] else none
  | none => none
theorem qzLd_eq : qzLd = aLd := by
  delta qzLd
  simp only [qzgo_eq]
  rfl
noncomputable def qzKl (L : List aV) (k : Nat) : List aV := match k with
  | 0 => L
  | j + 1 => match qzgo L j with
    | some v => if v.1 = 1 then qzst L j (6, (0, []), 0) else L
    | none => L
theorem qzKl_eq : qzKl = aKl := by
  delta qzKl
  simp only [qzgo_eq, qzst_eq]
  rfl
noncomputable def qzSto (S : aSt) (L : List aV) (st : List aV) (i k : Nat) : Option (List aQ) := match st with
  | v :: s => if (v.1 = 0 ∨ v.1 = 2 ∨ v.1 = 3 ∨ v.1 = 4) ∧ k < (qzln L) then some [(S, i + 1, qzst (qzKl L k) k v, s)] else none
  | [] => none
theorem qzSto_eq : qzSto = aSto := by
  delta qzSto
  simp only [qzln_eq, qzst_eq, qzKl_eq]
  rfl
noncomputable def qzStJ (S : aSt) (L : List aV) (st : List aV) (i k : Nat) : Option (List aQ) := match st with
  | v :: s => if v.1 = 1 ∧ k + 1 < (qzln L) then some [(S, i + 1, qzst (qzst (qzKl L k) k v) (k + 1) (6, (0, []), 0), s)] else none
  | [] => none
theorem qzStJ_eq : qzStJ = aStJ := by
  delta qzStJ
  simp only [qzln_eq, qzst_eq, qzKl_eq]
  rfl
noncomputable def qzA1 (en : mE) (S : aSt) (i : Nat) (L st : List aV) : Option (List aQ) := match en.2.1 with
  | .aconst_null => some [(S, i + 1, L, (3, (0, []), 0) :: st)]
  | .iconst n => some [(S, i + 1, L, (0, aK (Int32.ofInt n).toInt, 0) :: st)]
  | .bipush n => some [(S, i + 1, L, (0, aK (Int8.ofInt n).toInt32.toInt, 0) :: st)]
  | .sipush n => some [(S, i + 1, L, (0, aK (Int16.ofInt n).toInt32.toInt, 0) :: st)]
  | .lconst n => some [(S, i + 1, L, (1, aK (Int64.ofNat (n : Nat)).toInt, 0) :: st)]
  | .ldc _ => some [(S, i + 1, L, (0, aK (Int32.ofInt (qzgD en.2.2.2 1 0)).toInt, 0) :: st)]
  | .ldc_w _ => some [(S, i + 1, L, (0, aK (Int32.ofInt (qzgD en.2.2.2 1 0)).toInt, 0) :: st)]
  | .ldc2_w _ => some [(S, i + 1, L, (1, aK (Int64.ofInt (qzgD en.2.2.2 1 0)).toInt, 0) :: st)]
  | .iload k => qzLd aG0 S L st i k
  | .iload_n k => qzLd aG0 S L st i k
  | .lload k => qzLd aG1 S L st i k
  | .lload_n k => qzLd aG1 S L st i k
  | .aload k => qzLd aG2 S L st i k
  | .aload_n k => qzLd aG2 S L st i k
  | .istore k => if (st.headD (6, (0, []), 0)).1 = 0 then qzSto S L st i k else none
  | .istore_n k => if (st.headD (6, (0, []), 0)).1 = 0 then qzSto S L st i k else none
  | .lstore k => qzStJ S L st i k
  | .lstore_n k => qzStJ S L st i k
  | .astore k => if aG2 (st.headD (6, (0, []), 0)).1 = true then qzSto S L st i k else none
  | .astore_n k => if aG2 (st.headD (6, (0, []), 0)).1 = true then qzSto S L st i k else none
  | _ => none
theorem qzA1_eq : qzA1 = aA1 := by
  delta qzA1
  simp only [qzgD_eq, qzLd_eq, qzSto_eq, qzStJ_eq]
  rfl
noncomputable def qzA2 (en : mE) (S : aSt) (i : Nat) (L st : List aV) : Option (List aQ) := match en.2.1 with
  | .iinc k n => match qzgo L k with
    | some v => if v.1 = 0 then some [((qzCl S aMi aMa (qzAd v.2.1 (aK (Int32.ofInt n).toInt))).1, i + 1, qzst (qzKl L k) k (0, (qzCl S aMi aMa (qzAd v.2.1 (aK (Int32.ofInt n).toInt))).2, 0), st)] else none
    | none => none
  | .dup => match st with
    | v :: s => if aC1 v = true then some [(S, i + 1, L, v :: v :: s)] else none
    | _ => none
  | .dup2 => match st with
    | v :: u :: s => if aC1 v = true ∧ aC1 u = true then some [(S, i + 1, L, v :: u :: v :: u :: s)] else none
    | _ => none
  | .pop => match st with
    | v :: s => if aC1 v = true then some [(S, i + 1, L, s)] else none
    | _ => none
  | .pop2 => match st with
    | v :: s => if v.1 = 1 then some [(S, i + 1, L, s)] else none
    | _ => none
  | _ => none
theorem qzA2_eq : qzA2 = aA2 := by
  delta qzA2
  simp only [qzgo_eq, qzCl_eq, qzAd_eq, qzst_eq, qzKl_eq]
  rfl
noncomputable def qzAll (S : aSt) (mi ma : Int) : aP := (qzNw S mi ma, aVr (qzln S.1))
theorem qzAll_eq : qzAll = aAll := by
  delta qzAll
  simp only [qzNw_eq, qzln_eq]
  rfl
noncomputable def qzB1 (en : mE) (S : aSt) (i : Nat) (L st : List aV) : Option (List aQ) := match en.2.1 with
  | .iadd => match st with
    | (0, y, _) :: (0, x, _) :: s => aOne (qzCl S aMi aMa (qzAd x y)) 0 i L s
    | _ => none
  | .isub => match st with
    | (0, y, _) :: (0, x, _) :: s => aOne (qzCl S aMi aMa (qzSb x y)) 0 i L s
    | _ => none
  | .imul => match st with
    | (0, y, _) :: (0, x, _) :: s => aOne (qzMul S aMi aMa x y) 0 i L s
    | _ => none
  | .iand => match st with
    | (0, y, _) :: (0, x, _) :: s => aOne (qzAnd S x y) 0 i L s
    | _ => none
  | .ior => match st with
    | (0, y, _) :: (0, x, _) :: s => aOne (qzOrX S true x y) 0 i L s
    | _ => none
  | .ixor => match st with
    | (0, y, _) :: (0, x, _) :: s => aOne (qzOrX S false x y) 0 i L s
    | _ => none
  | .ishl => match st with
    | (0, y, _) :: (0, x, _) :: s => aOne (qzShl S x y) 0 i L s
    | _ => none
  | .ishr => match st with
    | (0, y, _) :: (0, x, _) :: s => aOne (qzShr S x y) 0 i L s
    | _ => none
  | .iushr => match st with
    | (0, y, _) :: (0, x, _) :: s => aOne (qzAll S aMi aMa) 0 i L s
    | _ => none
  | .idiv => match st with
    | (0, y, _) :: (0, x, _) :: s => aTwo (qzDiv S aMi aMa x y) 0 i L s
    | _ => none
  | .irem => match st with
    | (0, y, _) :: (0, x, _) :: s => aTwo (qzRem S aMi aMa x y) 0 i L s
    | _ => none
  | .ineg => match st with
    | (0, x, _) :: s => aOne (qzCl S aMi aMa (qzSc (-1) x)) 0 i L s
    | _ => none
  | _ => none
theorem qzB1_eq : qzB1 = aB1 := by
  delta qzB1
  simp only [qzCl_eq, qzAd_eq, qzSb_eq, qzMul_eq, qzAnd_eq, qzOrX_eq, qzShl_eq, qzShr_eq, qzAll_eq, qzDiv_eq, qzRem_eq, qzSc_eq]
  rfl
noncomputable def qzB2 (en : mE) (S : aSt) (i : Nat) (L st : List aV) : Option (List aQ) := match en.2.1 with
  | .ladd => match st with
    | (1, y, _) :: (1, x, _) :: s => aOne (qzCl S aLi aLa (qzAd x y)) 1 i L s
    | _ => none
  | .lsub => match st with
    | (1, y, _) :: (1, x, _) :: s => aOne (qzCl S aLi aLa (qzSb x y)) 1 i L s
    | _ => none
  | .lmul => match st with
    | (1, y, _) :: (1, x, _) :: s => aOne (qzMul S aLi aLa x y) 1 i L s
    | _ => none
  | .land => match st with
    | (1, y, _) :: (1, x, _) :: s => aOne (qzAll S aLi aLa) 1 i L s
    | _ => none
  | .lor => match st with
    | (1, y, _) :: (1, x, _) :: s => aOne (qzAll S aLi aLa) 1 i L s
    | _ => none
  | .lxor => match st with
    | (1, y, _) :: (1, x, _) :: s => aOne (qzAll S aLi aLa) 1 i L s
    | _ => none
  | .ldiv => match st with
    | (1, y, _) :: (1, x, _) :: s => aTwo (qzDiv S aLi aLa x y) 1 i L s
    | _ => none
  | .lrem => match st with
    | (1, y, _) :: (1, x, _) :: s => aTwo (qzRem S aLi aLa x y) 1 i L s
    | _ => none
  | .lshl => match st with
    | (0, _, _) :: (1, _, _) :: s => aOne (qzAll S aLi aLa) 1 i L s
    | _ => none
  | .lushr => match st with
    | (0, _, _) :: (1, _, _) :: s => aOne (qzAll S aLi aLa) 1 i L s
    | _ => none
  | .lcmp => match st with
    | (1, y, _) :: (1, x, _) :: s => some [(S, i + 1, L, (5, qzSb x y, 0) :: s)]
    | _ => none
  | .i2l => match st with
    | (0, x, _) :: s => some [(S, i + 1, L, (1, x, 0) :: s)]
    | _ => none
  | .l2i => match st with
    | (1, x, _) :: s => aOne (qzCl S aMi aMa x) 0 i L s
    | _ => none
  | .i2b => match st with
    | (0, x, _) :: s => aOne (qzCl S (-128) 127 x) 0 i L s
    | _ => none
  | _ => none
theorem qzB2_eq : qzB2 = aB2 := by
  delta qzB2
  simp only [qzCl_eq, qzAd_eq, qzSb_eq, qzMul_eq, qzAll_eq, qzDiv_eq, qzRem_eq]
  rfl
noncomputable def qzCn (S : aSt) (e : aX) (isc : Bool) : ClassFile.Cond → List aSt
  | .lt => (qzAs S (qzSb (aK (-1)) e)).toList
  | .ge => (qzAs S e).toList
  | .gt => (qzAs S (qzSb e (aK 1))).toList
  | .le => (qzAs S (qzSc (-1) e)).toList
  | .eq => (qzEq2 S e 0).toList
  | .ne => if qzPr S e = true then (qzAs S (qzSb e (aK 1))).toList else if qzPr S (qzSc (-1) e) = true then (qzAs S (qzSb (aK (-1)) e)).toList else if isc = true then (qzAs S (qzSb (aK (-1)) e)).toList ++ (qzAs S (qzSb e (aK 1))).toList else [S]
theorem qzCn_eq : qzCn = aCn := by
  delta qzCn
  simp only [qzAs_eq, qzSb_eq, qzSc_eq, qzEq2_eq, qzPr_eq]
  rfl
noncomputable def qzBr (S : aSt) (e : aX) (isc : Bool) (q : ClassFile.Cond) (en : mE) (i : Nat) (L s : List aV) : List aQ := qzap (qzmp (qzCn S e isc q) (fun S1 => (S1, mTgt en 0, L, s))) (qzmp (qzCn S e isc (aNg q)) (fun S1 => (S1, i + 1, L, s)))
theorem qzBr_eq : qzBr = aBr := by
  delta qzBr
  simp only [qzap_eq, qzmp_eq, qzCn_eq]
  rfl
noncomputable def qzTs (S : aSt) (e : aX) (en : mE) (L s : List aV) (n : Nat) : Int → Nat → List aQ := Nat.rec (motive := fun _ => Int → Nat → List aQ) (fun _ _ => []) (fun _ ih j k => match qzEq2 S e j with
    | some S1 => (S1, mTgt en k, L, s) :: ih (j + 1) (k + 1)
    | none => ih (j + 1) (k + 1)) n
theorem qzTs_e (S : aSt) (e : aX) (en : mE) (L s : List aV) : ∀ (n : Nat) (j : Int) (k : Nat), qzTs S e en L s n j k = aTs S e en L s n j k := by
  intro n
  induction n with
  | zero => intro j k; rfl
  | succ n ih =>
    intro j k
    show (match qzEq2 S e j with
      | some S1 => (S1, mTgt en k, L, s) :: qzTs S e en L s n (j + 1) (k + 1)
      | none => qzTs S e en L s n (j + 1) (k + 1)) = (match aEq2 S e j with
      | some S1 => (S1, mTgt en k, L, s) :: aTs S e en L s n (j + 1) (k + 1)
      | none => aTs S e en L s n (j + 1) (k + 1))
    rw [qzEq2_eq, ih]
theorem qzTs_eq : qzTs = aTs := by funext S e en L s n j k; exact qzTs_e S e en L s n j k
noncomputable def qzLs (S : aSt) (e : aX) (en : mE) (L s : List aV) (ps : List (Int × Int)) : Nat → List aQ := List.rec (motive := fun _ => Nat → List aQ) (fun _ => []) (fun p _ ih k => match qzEq2 S e p.1 with
    | some S1 => (S1, mTgt en k, L, s) :: ih (k + 1)
    | none => ih (k + 1)) ps
theorem qzLs_e (S : aSt) (e : aX) (en : mE) (L s : List aV) : ∀ (ps : List (Int × Int)) (k : Nat), qzLs S e en L s ps k = aLs S e en L s ps k := by
  intro ps
  induction ps with
  | nil => intro k; rfl
  | cons p ps ih =>
    intro k
    show (match qzEq2 S e p.1 with
      | some S1 => (S1, mTgt en k, L, s) :: qzLs S e en L s ps (k + 1)
      | none => qzLs S e en L s ps (k + 1)) = (match aEq2 S e p.1 with
      | some S1 => (S1, mTgt en k, L, s) :: aLs S e en L s ps (k + 1)
      | none => aLs S e en L s ps (k + 1))
    rw [qzEq2_eq, ih]
theorem qzLs_eq : qzLs = aLs := by funext S e en L s ps k; exact qzLs_e S e en L s ps k
noncomputable def qzB3 (en : mE) (S : aSt) (i : Nat) (L st : List aV) : Option (List aQ) := match en.2.1 with
  | .goto _ => some [(S, mTgt en 0, L, st)]
  | .if_icmp q _ => match st with
    | (0, y, _) :: (0, x, _) :: s => some (qzBr S (qzSb x y) false q en i L s)
    | _ => none
  | .ifCond q _ => match st with
    | (0, x, _) :: s => some (qzBr S x false q en i L s)
    | (5, x, _) :: s => some (qzBr S x true q en i L s)
    | _ => none
  | .ifnull _ => match st with
    | (3, _, _) :: s => some [(S, mTgt en 0, L, s)]
    | (2, _, _) :: s => some [(S, i + 1, L, s)]
    | _ => none
  | .ifnonnull _ => match st with
    | (3, _, _) :: s => some [(S, i + 1, L, s)]
    | (2, _, _) :: s => some [(S, mTgt en 0, L, s)]
    | _ => none
  | .tableswitch _ lo hi _ => match st with
    | (0, x, _) :: s => some (qzmp (qzAs S (qzSb (aK (lo - 1)) x)).toList (fun S1 => (S1, mTgt en 0, L, s)) ++ (qzmp (qzAs S (qzSb x (aK (hi + 1)))).toList (fun S1 => (S1, mTgt en 0, L, s)) ++ qzTs S x en L s (hi - lo + 1).toNat lo 1))
    | _ => none
  | .lookupswitch _ ps => match st with
    | (0, x, _) :: s => some (qzLs S x en L s ps.toList 1 ++ (if qzLo S.1 x = qzHj S.1 x ∧ (qzay ps.toList (fun p => p.1 == qzLo S.1 x)) = true then [] else [(S, mTgt en 0, L, s)]))
    | _ => none
  | _ => none
theorem qzB3_eq : qzB3 = aB3 := by
  delta qzB3
  simp only [qzBr_eq, qzSb_eq, qzmp_eq, qzAs_eq, qzTs_eq, qzLs_eq, qzLo_eq, qzHj_eq, qzay_eq]
  rfl
noncomputable def qzPu (l : List (aSt × aV)) (i : Nat) (L s : List aV) : List aQ := qzmp l (fun p => (p.1, i + 1, L, p.2 :: s))
theorem qzPu_eq : qzPu = aPu := by
  delta qzPu
  simp only [qzmp_eq]
  rfl
noncomputable def qzFk (v : aV) (ty : FieldType) : Bool := match ty with
  | .int => Nat.beq v.1 0
  | .long => Nat.beq v.1 1
  | _ => false
theorem qzFk_eq : qzFk = aFk := by
  delta qzFk
  simp only [qzbe]
  rfl
noncomputable def qzF1 (en : mE) (S : aSt) (i : Nat) (L st : List aV) : Option (List aQ) := match en.2.1 with
  | .getfield _ => match st with
    | (2, _, a) :: s => if aTag a (fun t => t == mTgt en 1) = true then (match qzRd S a (aK (mTgt en 2)) with
      | some l => some (qzPu l i L s)
      | none => none) else none
    | _ => none
  | .putfield _ => match st with
    | v :: (2, _, a) :: s => if aTag a (fun t => t == mTgt en 1) = true ∧ qzFk v (mFT (mTgt en 1) (mTgt en 2)) = true then (match qzWr S a (aK (mTgt en 2)) v with
      | some S1 => some [(S1, i + 1, L, s)]
      | none => none) else none
    | _ => none
  | _ => none
theorem qzF1_eq : qzF1 = aF1 := by
  delta qzF1
  simp only [qzRd_eq, qzPu_eq, qzFk_eq, qzWr_eq]
  rfl
noncomputable def qzRdA (S : aSt) (a : Nat) (j : aX) (g : Nat → Bool) (i : Nat) (L s : List aV) : Option (List aQ) := if aTag a g = true then (match qzRd S a j with
  | some l => some (qzPu l i L s)
  | none => none) else none
theorem qzRdA_eq : qzRdA = aRdA := by
  delta qzRdA
  simp only [qzRd_eq, qzPu_eq]
  rfl
noncomputable def qzF2 (en : mE) (S : aSt) (i : Nat) (L st : List aV) : Option (List aQ) := match en.2.1 with
  | .getstatic _ => if mTgt en 1 = 1 ∨ mTgt en 1 = 2 then some [(S, i + 1, L, (4, (0, []), mTgt en 1) :: st)] else none
  | .arraylength => match st with
    | (2, _, a) :: s => match aTq a with
      | some t => if 50 ≤ t.1 ∧ t.1 < 56 then some [(S, i + 1, L, (0, aK (Int32.ofNat t.2.1).toInt, 0) :: s)] else none
      | none => none
    | _ => none
  | .iaload => match st with
    | (0, j, _) :: (2, _, a) :: s => qzRdA S a j (fun t => t == 50) i L s
    | (0, j, _) :: (4, _, n) :: s => match aXt n with
      | some vs => if (qzPr S j && qzPr S (qzSb (aK (((qzln vs) : Int) - 1)) j)) = true then (if qzLo S.1 j = qzHj S.1 j then some [(S, i + 1, L, (0, aK (qzgD vs (qzLo S.1 j).toNat 0).toInt, 0) :: s)] else some [(qzNw S (aLmin vs) (aLmax vs), i + 1, L, (0, aVr (qzln S.1), 0) :: s)]) else none
      | none => none
    | _ => none
  | .baload => match st with
    | (0, j, _) :: (2, _, a) :: s => qzRdA S a j (fun t => t == 51 || t == 52) i L s
    | _ => none
  | .aaload => match st with
    | (0, j, _) :: (2, _, a) :: s => qzRdA S a j (fun t => decide (53 ≤ t) && decide (t < 56)) i L s
    | _ => none
  | _ => none
theorem qzF2_eq : qzF2 = aF2 := by
  delta qzF2
  simp only [qzRdA_eq, qzPr_eq, qzSb_eq, qzln_eq, qzLo_eq, qzHj_eq, qzgD_eq, qzNw_eq]
  rfl
noncomputable def qzF3 (en : mE) (S : aSt) (i : Nat) (L st : List aV) : Option (List aQ) := match en.2.1 with
  | .iastore => match st with
    | (0, v, _) :: (0, j, _) :: (2, _, a) :: s => if aTag a (fun t => t == 50) = true then (match qzWr S a j (0, v, 0) with
      | some S1 => some [(S1, i + 1, L, s)]
      | none => none) else none
    | _ => none
  | .bastore => match st with
    | (0, v, _) :: (0, j, _) :: (2, _, a) :: s => if aTag a (fun t => t == 51) = true then (match qzWr (qzCl S (-128) 127 v).1 a j (0, (qzCl S (-128) 127 v).2, 0) with
      | some S1 => some [(S1, i + 1, L, s)]
      | none => none) else if aTag a (fun t => t == 52) = true ∧ qzPr S v = true ∧ qzPr S (qzSb (aK 1) v) = true then (match qzWr S a j (0, v, 0) with
      | some S1 => some [(S1, i + 1, L, s)]
      | none => none) else none
    | _ => none
  | _ => none
theorem qzF3_eq : qzF3 = aF3 := by
  delta qzF3
  simp only [qzWr_eq, qzCl_eq, qzPr_eq, qzSb_eq]
  rfl
noncomputable def qzSubL (s : List aX) (l : List (Int × Nat)) : aX := List.rec (motive := fun _ => aX) (0, []) (fun t _ ih => qzAd (qzSc t.1 (qzgD s t.2 (0, []))) ih) l
theorem qzSubL_e (s : List aX) : ∀ l, qzSubL s l = aSubL s l
  | [] => rfl
  | t :: q => by
    show qzAd (qzSc t.1 (qzgD s t.2 (0, []))) (qzSubL s q) = _
    rw [qzSubL_e s q, qzAd_eq, qzSc_eq, qzgD_eq]
    rfl
theorem qzSubL_eq : qzSubL = aSubL := by funext s l; exact qzSubL_e s l
noncomputable def qzSub (s : List aX) (e : aX) : aX := qzAd (aK e.1) (qzSubL s e.2)
theorem qzSub_eq : qzSub = aSub := by
  delta qzSub
  simp only [qzAd_eq, qzSubL_eq]
  rfl
noncomputable def qzWfb (n : Nat) (e : aX) : Bool := qzal e.2 (fun t => decide (t.2 < n))
theorem qzWfb_eq : qzWfb = aWfb := by
  delta qzWfb
  simp only [qzal_eq]
  rfl
noncomputable def qzOf (S : aSt) (frs : List aF) (s : List aX) (l : aLc) : aX := match l.1 with
  | 0 => (qzgD (qzgD frs l.2.1 (0, 0, [], [])).2.2.1 l.2.2.1 (6, (0, []), 0)).2.1
  | 1 => (qzgD (qzgD frs l.2.1 (0, 0, [], [])).2.2.2 l.2.2.1 (6, (0, []), 0)).2.1
  | 2 => match qzfi S.2.2.1 (fun g => Nat.beq g.1 l.2.1 && qz0 (qzNm S.1 (qzSb g.2.1 (qzSub s l.2.2.2)))) with
    | some g => g.2.2.2.1
    | none => (0, [])
  | 3 => match qzfi S.2.2.1 (fun g => g.1 == ((qzgD (qzgD frs 0 (0, 0, [], [])).2.2.1 l.2.1 (6, (0, []), 0)).2.2) && qz0 (qzNm S.1 (qzSb g.2.1 l.2.2.2))) with
    | some g => g.2.2.2.1
    | none => (0, [])
  | _ => match qzfi S.2.2.1 (fun g => Nat.beq g.1 l.2.1 && qz0 (qzNm S.1 (qzSb g.2.1 ((qzgD (qzgD frs 0 (0, 0, [], [])).2.2.1 l.2.2.1 (6, (0, []), 0)).2.1)))) with
    | some g => g.2.2.2.1
    | none => (0, [])
theorem qzOf_eq : qzOf = aOf := by
  delta qzOf
  simp only [qzgD_eq, qzfi_eq, qz0_eq, qzNm_eq, qzSb_eq, qzSub_eq, qzbe]
  rfl
noncomputable def qzSg (S : aSt) (frs : List aF) (l : List aLc) : List aX → List aX := List.rec (motive := fun _ => List aX → List aX) (fun s => s) (fun l _ ih s => ih (qzap s [qzOf S frs s l])) l
theorem qzSg_e (S : aSt) (frs : List aF) : ∀ (l : List aLc) (s : List aX), qzSg S frs l s = aSg S frs l s
  | [], _ => rfl
  | l :: q, s => by
    refine Eq.trans (qzSg_e S frs q _) ?_
    rw [qzap_eq, qzOf_eq]
    rfl
theorem qzSg_eq : qzSg = aSg := by funext S frs l s; exact qzSg_e S frs l s
noncomputable def qzEqE (S : aSt) (a b : aX) : Bool := qz0 (qzNm S.1 (qzSb a b)) || (qzPr S (qzSb a b) && qzPr S (qzSb b a))
theorem qzEqE_eq : qzEqE = aEqE := by
  delta qzEqE
  simp only [qz0_eq, qzNm_eq, qzSb_eq, qzPr_eq]
  rfl
noncomputable def qzVe (S : aSt) (s : List aX) (n1 : Nat) (v v1 : aV) : Bool := qzWfb n1 v1.2.1 && (decide (6 ≤ v1.1) || (Nat.beq v.1 v1.1 && (if v1.1 = 2 ∨ v1.1 = 4 then Nat.beq v.2.2 v1.2.2 else if v1.1 = 3 then true else qzEqE S v.2.1 (qzSub s v1.2.1))))
theorem qzVe_eq : qzVe = aVe := by
  delta qzVe
  simp only [qzWfb_eq, qzEqE_eq, qzSub_eq, qzbe]
  rfl
noncomputable def qzZe (S : aSt) (s : List aX) (n1 : Nat) (a : List aV) : List aV → Bool := List.rec (motive := fun _ => List aV → Bool) (fun b => List.rec (motive := fun _ => Bool) true (fun _ _ _ => false) b) (fun v _ ih b => List.rec (motive := fun _ => Bool) false (fun v1 L1 _ => qzVe S s n1 v v1 && ih L1) b) a
theorem qzZe_e (S : aSt) (s : List aX) (n1 : Nat) : ∀ (a b : List aV), qzZe S s n1 a b = aZe S s n1 a b
  | [], [] => rfl
  | [], _ :: _ => rfl
  | _ :: _, [] => rfl
  | v :: L, v1 :: L1 => by
    show (qzVe S s n1 v v1 && qzZe S s n1 L L1) = (aVe S s n1 v v1 && aZe S s n1 L L1)
    rw [qzZe_e S s n1 L L1, qzVe_eq]
theorem qzZe_eq : qzZe = aZe := by funext S s n1 a b; exact qzZe_e S s n1 a b
noncomputable def qzZf (S : aSt) (s : List aX) (n1 : Nat) (a : List aF) : List aF → Bool := List.rec (motive := fun _ => List aF → Bool) (fun b => List.rec (motive := fun _ => Bool) true (fun _ _ _ => false) b) (fun f _ ih b => List.rec (motive := fun _ => Bool) false (fun f1 L1 _ => (Nat.beq f.1 f1.1 && (Nat.beq f.2.1 f1.2.1 && (qzZe S s n1 f.2.2.1 f1.2.2.1 && qzZe S s n1 f.2.2.2 f1.2.2.2))) && ih L1) b) a
theorem qzZf_e (S : aSt) (s : List aX) (n1 : Nat) : ∀ (a b : List aF), qzZf S s n1 a b = aZf S s n1 a b
  | [], [] => rfl
  | [], _ :: _ => rfl
  | _ :: _, [] => rfl
  | f :: L, f1 :: L1 => by
    show ((Nat.beq f.1 f1.1 && (Nat.beq f.2.1 f1.2.1 && (qzZe S s n1 f.2.2.1 f1.2.2.1 && qzZe S s n1 f.2.2.2 f1.2.2.2))) && qzZf S s n1 L L1) = ((f.1 == f1.1 && (f.2.1 == f1.2.1 && (aZe S s n1 f.2.2.1 f1.2.2.1 && aZe S s n1 f.2.2.2 f1.2.2.2))) && aZf S s n1 L L1)
    rw [qzZf_e S s n1 L L1, qzZe_eq, qzbe, qzbe]
theorem qzZf_eq : qzZf = aZf := by funext S s n1 a b; exact qzZf_e S s n1 a b
noncomputable def qzBe (S : aSt) (a : List aX) : aB → Bool := List.rec (motive := fun _ => aB → Bool) (fun b => List.rec (motive := fun _ => Bool) true (fun _ _ _ => false) b) (fun e _ ih b => List.rec (motive := fun _ => Bool) false (fun b B _ => (qzPr S (qzSb e (aK b.1)) && qzPr S (qzSb (aK b.2) e)) && ih B) b) a
theorem qzBe_e (S : aSt) : ∀ (a : List aX) (b : aB), qzBe S a b = aBe S a b
  | [], [] => rfl
  | [], _ :: _ => rfl
  | _ :: _, [] => rfl
  | e :: s, b :: B => by
    show ((qzPr S (qzSb e (aK b.1)) && qzPr S (qzSb (aK b.2) e)) && qzBe S s B) = ((aPr S (aSb e (aK b.1)) && aPr S (aSb (aK b.2) e)) && aBe S s B)
    rw [qzBe_e S s B, qzPr_eq, qzSb_eq]
theorem qzBe_eq : qzBe = aBe := by funext S a b; exact qzBe_e S a b
noncomputable def qzEnS (S : aSt) (frs : List aF) (A : aAn) (s : List aX) : Bool :=
  (qzZf S s (qzln A.1.1) frs A.2.1 && (qzal s (qzWfb (qzln S.1)) && qzBe S s A.1.1)) && (qzal A.1.2.1 (fun c => qzWfb (qzln A.1.1) c && qzPr S (qzSub s c)) && (qzal A.1.2.2.1 (fun g1 => qzWfb (qzln A.1.1) g1.2.1 && qzay S.2.2.1 (fun g => Nat.beq g.1 g1.1 && (qzEqE S g.2.1 (qzSub s g1.2.1) && qzVe S s (qzln A.1.1) g.2.2 g1.2.2))) && qzWfb (qzln A.1.1) A.1.2.2.2))
theorem qzEnS_eq : qzEnS = aEnS := by
  delta qzEnS
  simp only [qzZf_eq, qzln_eq, qzal_eq, qzWfb_eq, qzBe_eq, qzPr_eq, qzSub_eq, qzay_eq, qzEqE_eq, qzVe_eq, qzbe]
  rfl
noncomputable def qzMs (S : aSt) (s : List aX) (e : aX) : Bool := qzPr S (qzSub s e) && qzPr S (qzSb (qzSb S.2.2.2 (aK 1)) (qzSub s e))
theorem qzMs_eq : qzMs = aMs := by
  delta qzMs
  simp only [qzPr_eq, qzSub_eq, qzSb_eq]
  rfl
noncomputable def qzWc (ms : aMd) (a : Nat) (lo hi : Int) : Bool := qzay ms (fun m => Nat.beq m.1 a && (decide (m.2.1 ≤ max lo 0) && (decide (hi ≤ m.2.2) || decide (aLn a ≤ m.2.2 + 1))))
theorem qzWc_eq : qzWc = aWc := by
  delta qzWc
  simp only [qzay_eq, qzbe]
  rfl
noncomputable def qzWk (ms : aMd) (en : mE) (S : aSt) (st : List aV) : Bool := match en.2.1 with
  | .putfield _ => match st with
    | _ :: (2, _, a) :: _ => qzWc ms a (mTgt en 2) (mTgt en 2)
    | _ => false
  | .iastore => match st with
    | _ :: (0, j, _) :: (2, _, a) :: _ => qzWc ms a (qzLo S.1 j) (qzHj S.1 j)
    | _ => false
  | .bastore => match st with
    | _ :: (0, j, _) :: (2, _, a) :: _ => qzWc ms a (qzLo S.1 j) (qzHj S.1 j)
    | _ => false
  | .invokestatic _ => match st with
    | _ :: _ :: (2, _, a) :: _ => qzWc ms a 0 (aLn a)
    | _ => false
  | _ => true
theorem qzWk_eq : qzWk = aWk := by
  delta qzWk
  simp only [qzWc_eq, qzLo_eq, qzHj_eq]
  rfl
noncomputable def qzCp (en : mE) (S : aSt) (i : Nat) (L st : List aV) : Option (List aQ) := match en.2.1 with
  | .invokestatic _ => match st with
    | (0, n, _) :: (0, dp, _) :: (2, _, a1) :: (0, sp, _) :: (2, _, a0) :: s => match aTq a0 with
      | some t0 => match aTq a1 with
        | some t1 => if (decide (mTgt en 2 = 2 ∧ (qzln s) ≤ 4 ∧ t0.1 = 50 ∧ t1.1 = 50 ∧ a1 ≠ 63) && (aTl t0 t1 && ((qzPr S sp && (qzPr S dp && qzPr S n)) && (qzPr S (qzSb (aK t0.2.1) (qzAd sp n)) && qzPr S (qzSb (aK t1.2.1) (qzAd dp n)))))) = true then some [((S.1, S.2.1, qzfl S.2.2.1 (fun g => (! Nat.beq g.1 a1)), S.2.2.2), i + 1, L, s)] else none
        | none => none
      | none => none
    | _ => none
  | _ => none
theorem qzCp_eq : qzCp = aCp := by
  delta qzCp
  simp only [qzln_eq, qzPr_eq, qzSb_eq, qzAd_eq, qzfl_eq, qzbe]
  rfl
noncomputable def qzStp (en : mE) (S : aSt) (i : Nat) (L st : List aV) : Option (List aQ) := match nCl en with
  | 1 => qzA1 en S i L st
  | 2 => qzB1 en S i L st
  | 3 => qzB3 en S i L st
  | 4 => qzF1 en S i L st
  | 6 => qzF2 en S i L st
  | 7 => qzF3 en S i L st
  | 8 => qzA2 en S i L st
  | 9 => qzB2 en S i L st
  | 11 => qzCp en S i L st
  | _ => none
theorem qzStp_eq : qzStp = aStp := by
  delta qzStp
  simp only [qzA1_eq, qzB1_eq, qzB3_eq, qzF1_eq, qzF2_eq, qzF3_eq, qzA2_eq, qzB2_eq, qzCp_eq]
  rfl
noncomputable def qzEnt (l : List aV) : List aV := List.rec (motive := fun _ => List aV) [] (fun v _ ih => if v.1 = 1 then v :: aTop :: ih else v :: ih) l
theorem qzEnt_e : ∀ l, qzEnt l = aEnt l
  | [] => rfl
  | v :: q => by
    show (if v.1 = 1 then v :: aTop :: qzEnt q else v :: qzEnt q) = _
    rw [qzEnt_e q]
    rfl
theorem qzEnt_eq : qzEnt = aEnt := by funext l; exact qzEnt_e l
noncomputable def qzEntL (n : Nat) (av : List aV) : List aV := qzEnt av ++ List.replicate (n - (qzln (qzEnt av))) aTop
theorem qzEntL_eq : qzEntL = aEntL := by
  delta qzEntL
  simp only [qzEnt_eq, qzln_eq]
  rfl
noncomputable def qzRet (S : aSt) (t : mM) (en : mE) (st : List aV) : Option (List aV) := match en.2.1 with
  | .ireturn => match st with
    | [(0, v, k)] => match mMT t with
      | some .int => some [(0, v, k)]
      | some .boolean => if (qzPr S v && qzPr S (qzSb (aK 1) v)) = true then some [(0, v, k)] else none
      | _ => none
    | _ => none
  | .lreturn => match st with
    | [(1, v, k)] => match mMT t with
      | some .long => some [(1, v, k)]
      | _ => none
    | _ => none
  | .areturn => match st with
    | [(2, v, k)] => match mMT t with
      | some (.object _) => some [(2, v, k)]
      | _ => none
    | [(3, v, k)] => match mMT t with
      | some (.object _) => some [(3, v, k)]
      | _ => none
    | _ => none
  | .return_ => match st with
    | [] => match mMT t with
      | none => some []
      | _ => none
    | _ => none
  | _ => none
theorem qzRet_eq : qzRet = aRet := by
  delta qzRet
  simp only [qzPr_eq, qzSb_eq]
  rfl
noncomputable def qzRsB (S : aSt) (q : aRs) (l : List aV) : Bool := match q with
  | none => match l with
    | [] => true
    | _ => false
  | some p => match p.1 with
    | 0 => match l with
      | [(0, v, _)] => qzPr S (qzSb v (aK p.2.1)) && qzPr S (qzSb (aK p.2.2) v)
      | _ => false
    | 1 => match l with
      | [(1, v, _)] => qzPr S (qzSb v (aK p.2.1)) && qzPr S (qzSb (aK p.2.2) v)
      | _ => false
    | _ => match l with
      | [(2, _, a)] => a == p.2.1.toNat
      | _ => false
theorem qzRsB_eq : qzRsB = aRsB := by
  delta qzRsB
  simp only [qzPr_eq, qzSb_eq]
  rfl
noncomputable def qzTw (S : aSt) (C : List aX) : aSt := List.rec (motive := fun _ => aSt → aSt) (fun S => S) (fun c _ ih S => ih (qzTi S.1 (qzHj S.1 c) c.2 S.1, S.2)) C S
theorem qzTw_e : ∀ (C : List aX) (S : aSt), qzTw S C = aTw S C
  | [], _ => rfl
  | c :: q, S => by
    refine Eq.trans (qzTw_e q (qzTi S.1 (qzHj S.1 c) c.2 S.1, S.2)) ?_
    rw [qzTi_eq, qzHj_eq]
    rfl
theorem qzTw_eq : qzTw = aTw := by funext S C; exact qzTw_e C S
noncomputable def qzTt (S : aSt) : aSt := qzTw (qzTw S S.2.1) S.2.1
theorem qzTt_eq : qzTt = aTt := by
  delta qzTt
  simp only [qzTw_eq]
  rfl
noncomputable def qzKeep (ms : aMd) (B : aB) (g : Nat × aX × aV) : Bool := qzal ms (fun m => (! Nat.beq m.1 g.1) || (decide (qzHj B g.2.1 < m.2.1) || decide (m.2.2 < qzLo B g.2.1)))
theorem qzKeep_eq : qzKeep = aKeep := by
  delta qzKeep
  simp only [qzal_eq, qzHj_eq, qzLo_eq, qzbe]
  rfl
noncomputable def qzDrp (S : aSt) (ms : aMd) : aSt := (S.1, S.2.1, qzfl S.2.2.1 (qzKeep ms S.1), if qzay ms (fun m => Nat.beq m.1 63) = true then qzSb S.2.2.2 (aK (aKap * 1024000000)) else S.2.2.2)
theorem qzDrp_eq : qzDrp = aDrp := by
  delta qzDrp
  simp only [qzfl_eq, qzKeep_eq, qzay_eq, qzSb_eq, qzbe]
  rfl
noncomputable def qzBk (S : aSt) (q : aRs) : aSt × List aV := match q with
  | none => (S, [])
  | some p => if p.1 = 0 ∨ p.1 = 1 then (if p.2.1 = p.2.2 then (S, [(p.1, aK p.2.1, 0)]) else (qzNw S p.2.1 p.2.2, [(p.1, aVr (qzln S.1), 0)])) else (S, [(2, aK 0, p.2.1.toNat)])
theorem qzBk_eq : qzBk = aBk := by
  delta qzBk
  simp only [qzNw_eq, qzln_eq]
  rfl
noncomputable def qzMc (ms ms1 : aMd) : Bool := qzal ms1 (fun m => qzWc ms m.1 m.2.1 m.2.2)
theorem qzMc_eq : qzMc = aMc := by
  delta qzMc
  simp only [qzal_eq, qzWc_eq]
  rfl
noncomputable def qzFkV (S : aSt) (frs : List aF) (l : List (Nat × Nat × aLc)) : Option Nat := List.rec (motive := fun _ => Option Nat) none (fun p _ ih => match frs with
    | [] => none
    | f :: _ => qzif (Nat.beq p.1 f.1 && Nat.beq p.2.1 f.2.1) (match qzOf S frs [] p.2.2 with
        | (c, t :: e) => if qzLo S.1 (c, t :: e) = qzHj S.1 (c, t :: e) ∨ ¬ t.2 < (qzln S.1) then ih else some t.2
        | _ => ih) ih) l
theorem qzFkV_e (S : aSt) (frs : List aF) : ∀ l, qzFkV S frs l = aFkV S frs l
  | [] => rfl
  | p :: q => by
    have ih := qzFkV_e S frs q
    cases frs with
    | nil => rfl
    | cons f fs =>
      show qzif (Nat.beq p.1 f.1 && Nat.beq p.2.1 f.2.1) (match qzOf S (f :: fs) [] p.2.2 with
        | (c, t :: e) => if qzLo S.1 (c, t :: e) = qzHj S.1 (c, t :: e) ∨ ¬ t.2 < (qzln S.1) then qzFkV S (f :: fs) q else some t.2
        | _ => qzFkV S (f :: fs) q) (qzFkV S (f :: fs) q) = (if p.1 = f.1 ∧ p.2.1 = f.2.1 then (match aOf S (f :: fs) [] p.2.2 with
        | (c, t :: e) => if aLo S.1 (c, t :: e) = aHj S.1 (c, t :: e) ∨ ¬ t.2 < S.1.length then aFkV S (f :: fs) q else some t.2
        | _ => aFkV S (f :: fs) q) else aFkV S (f :: fs) q)
      rw [ih, qzOf_eq, qzLo_eq, qzHj_eq, qzln_eq, qzif_eq]
      simp only [qzbe, Bool.and_eq_true, beq_iff_eq]
theorem qzFkV_eq : qzFkV = aFkV := by funext S frs l; exact qzFkV_e S frs l
noncomputable def qzFkL (S : aSt) (x : Nat) (n : Nat) : Int → List aSt := Nat.rec (motive := fun _ => Int → List aSt) (fun _ => []) (fun _ ih j => match qzEq2 S (aVr x) j with
    | some S1 => qzTt S1 :: ih (j + 1)
    | none => ih (j + 1)) n
theorem qzFkL_e (S : aSt) (x : Nat) : ∀ (n : Nat) (j : Int), qzFkL S x n j = aFkL S x n j := by
  intro n
  induction n with
  | zero => intro j; rfl
  | succ n ih =>
    intro j
    show (match qzEq2 S (aVr x) j with
      | some S1 => qzTt S1 :: qzFkL S x n (j + 1)
      | none => qzFkL S x n (j + 1)) = (match aEq2 S (aVr x) j with
      | some S1 => aTt S1 :: aFkL S x n (j + 1)
      | none => aFkL S x n (j + 1))
    rw [qzEq2_eq, ih, qzTt_eq]
theorem qzFkL_eq : qzFkL = aFkL := by funext S x n j; exact qzFkL_e S x n j
noncomputable def qzInto (X : aCx) (S : aSt) (f : aF) (fs : List aF) (k : Nat) (t2 : mM) (args rest : List aV) : Option (List aW) :=
  if (decide ((qzln rest) ≤ 4) && (qzal args (fun v => decide (v.1 < 6)) && (aRcv k t2 args && decide ((qzln (qzEnt args)) ≤ mMX t2)))) = true then
    (match qzfi X.1 (fun c => Nat.beq c.1 k && qzEnS S [(k, 0, qzEntL (mMX t2) args, [])] c.2.1 (qzSg S [(k, 0, qzEntL (mMX t2) args, [])] c.2.1.2.2 [])) with
    | some c => if qzMc X.2.2.2.2.2 c.2.2.2 = true then some [((qzBk (qzDrp S c.2.2.2) c.2.2.1).1, (f.1, f.2.1 + 1, f.2.2.1, qzap (qzBk (qzDrp S c.2.2.2) c.2.2.1).2 rest) :: fs, false)] else none
    | none => if (qzln fs) < 8 then some [(S, (k, 0, qzEntL (mMX t2) args, []) :: (f.1, f.2.1 + 1, f.2.2.1, rest) :: fs, false)] else none) else none
theorem qzInto_eq : qzInto = aInto := by
  delta qzInto
  simp only [qzln_eq, qzal_eq, qzEnt_eq, qzfi_eq, qzEnS_eq, qzEntL_eq, qzSg_eq, qzMc_eq, qzBk_eq, qzDrp_eq, qzap_eq, qzbe]
  rfl
noncomputable def qzSt1 (X : aCx) (w : aW) : Option (List aW) := match w.2.1 with
  | [] => none
  | f :: fs => match aMt f.1 with
    | none => none
    | some t => match aCe t f.2.1 with
      | none => none
      | some en =>
        if (!w.2.2 && qzay X.2.2.1 (fun q => Nat.beq f.1 q.1 && Nat.beq f.2.1 q.2)) = true then (if qzay X.2.1 (fun A => qzEnS w.1 (f :: fs) A (qzSg w.1 (f :: fs) A.2.2 []) && qzMs w.1 (qzSg w.1 (f :: fs) A.2.2 []) A.1.2.2.2) = true then some [] else none)
        else match qzFkV w.1 (f :: fs) X.2.2.2.1 with
        | some x => some (qzmp (qzFkL w.1 x ((qzgD w.1.1 x (0, 0)).2 - (qzgD w.1.1 x (0, 0)).1 + 1).toNat (qzgD w.1.1 x (0, 0)).1) (fun S1 => (S1, f :: fs, true)))
        | none =>
          if nCl en = 12 then (match qzRet w.1 t en f.2.2.2 with
            | some l => match fs with
              | [] => if qzRsB w.1 X.2.2.2.2.1 l = true then some [] else none
              | f2 :: gs => some [(w.1, (f2.1, f2.2.1, f2.2.2.1, qzap l f2.2.2.2) :: gs, false)]
            | none => none)
          else if nCl en = 5 then (match aMt (mTgt en 1) with
            | some t2 => if mCnt t2 ≤ (qzln f.2.2.2) then qzInto X w.1 f fs (mTgt en 1) t2 (qztk f.2.2.2 (mCnt t2)).reverse (qzdp f.2.2.2 (mCnt t2)) else none
            | none => none)
          else if qzWk X.2.2.2.2.2 en w.1 f.2.2.2 = true then (match qzStp en w.1 f.2.1 f.2.2.1 f.2.2.2 with
            | some l => some (qzmp l (fun q => (q.1, (f.1, q.2.1, q.2.2.1, q.2.2.2) :: fs, false)))
            | none => none) else none
theorem qzSt1_eq : qzSt1 = aSt1 := by
  delta qzSt1
  simp only [qzct_eq, qzay_eq, qzEnS_eq, qzSg_eq, qzMs_eq, qzFkV_eq, qzmp_eq, qzFkL_eq, qzgD_eq, qzRet_eq, qzRsB_eq, qzap_eq, qzln_eq, qzInto_eq, qztk_eq, qzdp_eq, qzWk_eq, qzStp_eq, qzbe]
  rfl
noncomputable def qzSt2 (X : aCx) (w : aW) : Option (List aW) := match w with
  | ((B, C, G, O), (k, i, L, st) :: fs, b) => qzSt1 X ((B, C, G, O), (k, i, L, st) :: fs, b)
  | (_, [], _) => none
theorem qzSt2_eq : qzSt2 = aSt2 := by
  delta qzSt2
  simp only [qzSt1_eq]
  rfl
noncomputable def qzGo (X : aCx) (n : Nat) : List aW → Bool := Nat.rec (motive := fun _ => List aW → Bool) (fun ws => List.rec (motive := fun _ => Bool) true (fun _ _ _ => false) ws) (fun _ ih ws => List.rec (motive := fun _ => Bool) true (fun w ws _ => match qzSt2 X w with
    | some l => ih (qzap l ws)
    | none => false) ws) n
theorem qzGo_e (X : aCx) : ∀ (n : Nat) (ws : List aW), qzGo X n ws = aGo X n ws := by
  intro n
  induction n with
  | zero => intro ws; cases ws <;> rfl
  | succ n ih =>
    intro ws
    cases ws with
    | nil => rfl
    | cons w ws =>
      show (match qzSt2 X w with
        | some l => qzGo X n (qzap l ws)
        | none => false) = (match aSt2 X w with
        | some l => aGo X n (l ++ ws)
        | none => false)
      rw [qzSt2_eq]
      cases aSt2 X w with
      | none => rfl
      | some l => exact (ih _).trans (by rw [qzap_eq])
theorem qzGo_eq : qzGo = aGo := by funext X n ws; exact qzGo_e X n ws
noncomputable def qzCk (T : List aCt) (As : List aAn) (hd : List (Nat × Nat)) (fk : List (Nat × Nat × aLc)) (c : aCt) (n : Nat) : Bool :=
  qzGo (T, As, hd, fk, c.2.2.1, c.2.2.2) n [(c.2.1.1, c.2.1.2.1, true)] && qzal As (fun A => qzGo (T, As, hd, fk, c.2.2.1, c.2.2.2) n [(qzTt A.1, A.2.1, true)])
theorem qzCk_eq : qzCk = aCk := by
  delta qzCk
  simp only [qzGo_eq, qzal_eq, qzTt_eq]
  rfl
theorem qzCk_ok {sc : List Int32} {dm : Nat} {T : List aCt} {As : List aAn} {hd : List (Nat × Nat)} {fk : List (Nat × Nat × aLc)} {c : aCt} {n : Nat} (hT : ∀ c ∈ T, nMe sc dm c) (hk : qzCk T As hd fk c n = true) : nMe sc (dm + 9) c := aCk_ok hT (by rw [qzCk_eq] at hk; exact hk)
end
section
/-! steps of the small machine, one by one, with ints as numbers -/
def sStp (en : mE) (g : mG) : Option mG := match en.2.1 with
  | .goto _ => some (mTgt en 0, g.2)
  | .dup => mA2 en g.1 g.2.1 g.2.2.1 g.2.2.2
  | .dup2 => mA2 en g.1 g.2.1 g.2.2.1 g.2.2.2
  | .pop => mA2 en g.1 g.2.1 g.2.2.1 g.2.2.2
  | .pop2 => mA2 en g.1 g.2.1 g.2.2.1 g.2.2.2
  | _ => mA1 en g.1 g.2.1 g.2.2.1 g.2.2.2
def sN (cs : List mE) : Nat → mG → Option mG
  | 0, g => some g
  | n + 1, g => match cs[g.1]? with
    | some en => match sStp en g with
      | some g1 => sN cs n g1
      | none => none
    | none => none
abbrev sI (a : Int) : Value := .int (Int32.ofInt a)
def mCi (q : ClassFile.Cond) (a b : Int) : Prop := match q with
  | .eq => a = b
  | .ne => a ≠ b
  | .lt => a < b
  | .ge => b ≤ a
  | .gt => b < a
  | .le => a ≤ b
/-- a number that an int holds -/
def sR (a : Int) : Prop := aMi ≤ a ∧ a ≤ aMa
theorem sR_i {a : Int} (h : sR a) : (Int32.ofInt a).toInt = a := by
  unfold sR aMi aMa at h
  exact Int32.toInt_ofInt_of_le (by omega) (by omega)
theorem sR_n {a : Int} (h : sR a) : (Int32.ofInt a).toNatClampNeg = a.toNat := by
  unfold sR aMi aMa at h
  exact Int32.toNatClampNeg_ofInt_of_le (by omega) (by omega)
theorem sR_inj {a b : Int} (ha : sR a) (hb : sR b) (h : Int32.ofInt a = Int32.ofInt b) : a = b := by
  rw [← sR_i ha, ← sR_i hb, h]
theorem mC2_ci {q : ClassFile.Cond} {a b : Int} (ha : sR a) (hb : sR b) : mC2 q (Int32.ofInt a) (Int32.ofInt b) = true ↔ mCi q a b := by
  have h1 := sR_i ha
  have h2 := sR_i hb
  cases q
  · show decide (Int32.ofInt a = Int32.ofInt b) = true ↔ a = b
    rw [decide_eq_true_eq]
    exact ⟨sR_inj ha hb, fun e => by rw [e]⟩
  · show decide (Int32.ofInt a ≠ Int32.ofInt b) = true ↔ a ≠ b
    rw [decide_eq_true_eq]
    exact ⟨fun e q => e (by rw [q]), fun e q => e (sR_inj ha hb q)⟩
  · show decide (Int32.ofInt a < Int32.ofInt b) = true ↔ a < b
    rw [decide_eq_true_eq, Int32.lt_iff_toInt_lt, h1, h2]
  · show decide (Int32.ofInt b ≤ Int32.ofInt a) = true ↔ b ≤ a
    rw [decide_eq_true_eq, Int32.le_iff_toInt_le, h1, h2]
  · show decide (Int32.ofInt b < Int32.ofInt a) = true ↔ b < a
    rw [decide_eq_true_eq, Int32.lt_iff_toInt_lt, h1, h2]
  · show decide (Int32.ofInt a ≤ Int32.ofInt b) = true ↔ a ≤ b
    rw [decide_eq_true_eq, Int32.le_iff_toInt_le, h1, h2]
def hset (h : mH) (a j : Nat) (v : Value) : mH := match h[a]? with
  | some q => h.set a (q.1, q.2.set j v)
  | none => h
section SST
variable {sc : List Int32} {d : Nat} {rt : Option FieldType} {cs : List mE} {i : Nat} {L : mL} {st : List Value} {h : mH} {r : mR} {en : mE} {g g1 : mG}
theorem sStep (he : cs[i]? = some en) (hk : nCl en ≠ 12) (hs : ∀ call, mStep mTab (mXs sc) call en (i, L, st, h) = some g1) (hr : nRn sc d rt cs g1 r) : nRn sc d rt cs (i, L, st, h) r :=
  nRn_step (g := (i, L, st, h)) he (nRt_no hk) ⟨0, fun n _ => hs _⟩ hr
theorem sStp_ok (hs : sStp en g = some g1) : (∀ call, mStep mTab (mXs sc) call en g = some g1) ∧ nCl en ≠ 12 := by
  obtain ⟨i, L, st, h⟩ := g
  unfold sStp at hs
  split at hs
  · rename_i heq
    cases hs
    exact ⟨fun call => mStep_B3 (by unfold mB3; rw [heq]), by unfold nCl; rw [heq]; intro q; cases q⟩
  · exact ⟨fun call => mStep_A2 hs, by have := nCl_A2 hs; omega⟩
  · exact ⟨fun call => mStep_A2 hs, by have := nCl_A2 hs; omega⟩
  · exact ⟨fun call => mStep_A2 hs, by have := nCl_A2 hs; omega⟩
  · exact ⟨fun call => mStep_A2 hs, by have := nCl_A2 hs; omega⟩
  · exact ⟨fun call => mStep_A1 hs, by have := nCl_A1 hs; omega⟩
/-- so many steps that only move things -/
theorem sP : ∀ (n : Nat) {g g1 : mG}, sN cs n g = some g1 → nRn sc d rt cs g1 r → nRn sc d rt cs g r
  | 0, g, g1, hs, hr => by cases hs; exact hr
  | n + 1, g, g1, hs, hr => by
    unfold sN at hs
    split at hs
    · rename_i en hen
      split at hs
      · rename_i g2 hg
        obtain ⟨h1, h2⟩ := sStp_ok (sc := sc) hg
        obtain ⟨i, L, st, h⟩ := g
        exact sStep hen h2 h1 (sP n hs hr)
      · cases hs
    · cases hs
theorem s_add {a b : Int} (he : cs[i]? = some en) (ho : en.2.1 = .iadd) (hr : nRn sc d rt cs (i + 1, L, sI (a + b) :: st, h) r) : nRn sc d rt cs (i, L, sI b :: sI a :: st, h) r := by
  refine sStep he (by unfold nCl; rw [ho]; intro q; cases q) (fun call => mStep_B1 ?_) hr
  unfold mB1
  rw [ho]
  dsimp only
  rw [← Int32.ofInt_add]
theorem s_sub {a b : Int} (he : cs[i]? = some en) (ho : en.2.1 = .isub) (hr : nRn sc d rt cs (i + 1, L, sI (a - b) :: st, h) r) : nRn sc d rt cs (i, L, sI b :: sI a :: st, h) r := by
  refine sStep he (by unfold nCl; rw [ho]; intro q; cases q) (fun call => mStep_B1 ?_) hr
  unfold mB1
  rw [ho]
  dsimp only
  rw [← Int32.ofInt_sub]
theorem s_mul {a b : Int} (he : cs[i]? = some en) (ho : en.2.1 = .imul) (hr : nRn sc d rt cs (i + 1, L, sI (a * b) :: st, h) r) : nRn sc d rt cs (i, L, sI b :: sI a :: st, h) r := by
  refine sStep he (by unfold nCl; rw [ho]; intro q; cases q) (fun call => mStep_B1 ?_) hr
  unfold mB1
  rw [ho]
  dsimp only
  rw [← Int32.ofInt_mul]
/-- any step of two ints whose answer is known -/
theorem s_bin {x y z : Int32} (he : cs[i]? = some en) (hs : mB1 en i L (.int y :: .int x :: st) h = some (i + 1, L, .int z :: st, h)) (hr : nRn sc d rt cs (i + 1, L, .int z :: st, h) r) : nRn sc d rt cs (i, L, .int y :: .int x :: st, h) r :=
  sStep he (by have := nCl_B1 hs; omega) (fun call => mStep_B1 hs) hr
theorem s_inc {a n : Int} {k : Nat} {L1 : mL} (he : cs[i]? = some en) (ho : mA2 en i L st h = some (i + 1, mS1 L k (.int (Int32.ofInt a + Int32.ofInt n)), st, h)) (hL : mS1 L k (sI (a + n)) = L1) (hr : nRn sc d rt cs (i + 1, L1, st, h) r) : nRn sc d rt cs (i, L, st, h) r := by
  rw [← Int32.ofInt_add, hL] at ho
  exact sStep he (by have := nCl_A2 ho; omega) (fun call => mStep_A2 ho) hr
theorem s_icmp {a b : Int} {q : ClassFile.Cond} {j : Nat} (he : cs[i]? = some en) (ho : ∃ z, en.2.1 = .if_icmp q z) (hj : mTgt en 0 = j) (ha : sR a) (hb : sR b) (hT : mCi q a b → nRn sc d rt cs (j, L, st, h) r) (hF : ¬ mCi q a b → nRn sc d rt cs (i + 1, L, st, h) r) : nRn sc d rt cs (i, L, sI b :: sI a :: st, h) r := by
  obtain ⟨z, ho⟩ := ho
  by_cases hc : mCi q a b
  · refine sStep he (by unfold nCl; rw [ho]; intro q; cases q) (fun call => mStep_B3 (g := (j, L, st, h)) ?_) (hT hc)
    unfold mB3
    rw [ho]
    dsimp only
    unfold mIf
    rw [if_pos ((mC2_ci ha hb).mpr hc), hj]
  · refine sStep he (by unfold nCl; rw [ho]; intro q; cases q) (fun call => mStep_B3 (g := (i + 1, L, st, h)) ?_) (hF hc)
    unfold mB3
    rw [ho]
    dsimp only
    unfold mIf
    rw [if_neg (fun e => hc ((mC2_ci ha hb).mp e))]
theorem s_ifc {a : Int} {q : ClassFile.Cond} {j : Nat} (he : cs[i]? = some en) (ho : ∃ z, en.2.1 = .ifCond q z) (hj : mTgt en 0 = j) (ha : sR a) (hT : mCi q a 0 → nRn sc d rt cs (j, L, st, h) r) (hF : ¬ mCi q a 0 → nRn sc d rt cs (i + 1, L, st, h) r) : nRn sc d rt cs (i, L, sI a :: st, h) r := by
  obtain ⟨z, ho⟩ := ho
  have hb : sR 0 := by unfold sR aMi aMa; omega
  by_cases hc : mCi q a 0
  · refine sStep he (by unfold nCl; rw [ho]; intro q; cases q) (fun call => mStep_B3 (g := (j, L, st, h)) ?_) (hT hc)
    unfold mB3
    rw [ho]
    dsimp only
    unfold mIf
    rw [show (0 : Int32) = Int32.ofInt 0 from rfl]
    rw [if_pos ((mC2_ci ha hb).mpr hc), hj]
  · refine sStep he (by unfold nCl; rw [ho]; intro q; cases q) (fun call => mStep_B3 (g := (i + 1, L, st, h)) ?_) (hF hc)
    unfold mB3
    rw [ho]
    dsimp only
    unfold mIf
    rw [show (0 : Int32) = Int32.ofInt 0 from rfl]
    rw [if_neg (fun e => hc ((mC2_ci ha hb).mp e))]
/-- a ref is not null -/
theorem s_null {a j : Nat} (he : cs[i]? = some en) (ho : (∃ z, en.2.1 = .ifnull z) ∧ i + 1 = j ∨ (∃ z, en.2.1 = .ifnonnull z) ∧ mTgt en 0 = j) (hr : nRn sc d rt cs (j, L, st, h) r) : nRn sc d rt cs (i, L, .ref a :: st, h) r := by
  rcases ho with ⟨⟨z, ho⟩, rfl⟩ | ⟨⟨z, ho⟩, rfl⟩
  · refine sStep he (by unfold nCl; rw [ho]; intro q; cases q) (fun call => mStep_B3 ?_) hr
    unfold mB3
    rw [ho]
  · refine sStep he (by unfold nCl; rw [ho]; intro q; cases q) (fun call => mStep_B3 ?_) hr
    unfold mB3
    rw [ho]
/-- the heap's sorts -/
def sTg (a : Nat) : Option (Nat × Nat) := (aT[a]?).map (fun t => (t.1, t.2.1))
theorem sTg_ok {a k n : Nat} (hh : aHp h) (ht : sTg a = some (k, n)) : ∃ q, h[a]? = some q ∧ q.1 = k ∧ q.2.length = n := by
  unfold sTg at ht
  obtain ⟨t, t1, t2⟩ := Option.map_eq_some_iff.mp ht
  obtain ⟨q, q1, q2, q3, -⟩ := aHp_at hh t1
  cases t2
  exact ⟨q, q1, q2, q3⟩
theorem aSlot_of {a j : Nat} {q : mC} (hq : h[a]? = some q) : aSlot h a j = q.2[j]? := by
  unfold aSlot
  rw [hq]
theorem s_get {a j k n : Nat} {v : Value} (hh : aHp h) (he : cs[i]? = some en) (ho : ∃ z, en.2.1 = .getfield z) (ht : sTg a = some (k, n)) (hk : mTgt en 1 = k) (hj : mTgt en 2 = j) (hv : aSlot h a j = some v) (hr : nRn sc d rt cs (i + 1, L, v :: st, h) r) : nRn sc d rt cs (i, L, .ref a :: st, h) r := by
  obtain ⟨z, ho⟩ := ho
  obtain ⟨q, q1, q2, q3⟩ := sTg_ok hh ht
  rw [aSlot_of q1] at hv
  refine sStep he (by unfold nCl; rw [ho]; intro q; cases q) (fun call => mStep_F1 ?_) hr
  unfold mF1
  rw [ho]
  dsimp only
  rw [q1]
  dsimp only
  rw [if_pos (q2.trans hk.symm), hj, hv]
theorem s_put {a j k n : Nat} {v : Value} (hh : aHp h) (he : cs[i]? = some en) (ho : ∃ z, en.2.1 = .putfield z) (ht : sTg a = some (k, n)) (hk : mTgt en 1 = k) (hj : mTgt en 2 = j) (hn : j < n) (hf : mFit (mFT k j) v = true) (hr : nRn sc d rt cs (i + 1, L, st, hset h a j v) r) : nRn sc d rt cs (i, L, v :: .ref a :: st, h) r := by
  obtain ⟨z, ho⟩ := ho
  obtain ⟨q, q1, q2, q3⟩ := sTg_ok hh ht
  unfold hset at hr
  rw [q1] at hr
  refine sStep he (by unfold nCl; rw [ho]; intro q; cases q) (fun call => mStep_F1 ?_) hr
  unfold mF1
  rw [ho]
  dsimp only
  rw [q1]
  dsimp only
  rw [if_pos ⟨q2.trans hk.symm, by omega, by rw [q2, hj]; exact hf⟩, hj]
theorem sIx {j : Int} {n : Nat} (h0 : 0 ≤ j) (hn : j < n) (hb : n ≤ 100000) : mIx (Int32.ofInt j) n = true ∧ (Int32.ofInt j).toNatClampNeg = j.toNat := by
  have hr : sR j := by unfold sR aMi aMa; omega
  have h1 := sR_n hr
  refine ⟨?_, h1⟩
  unfold mIx
  rw [decide_eq_true_eq, h1, Int32.lt_iff_toInt_lt, sR_i hr]
  have : (0 : Int32).toInt = 0 := rfl
  omega
theorem s_iald {a n : Nat} {j : Int} {v : Value} (hh : aHp h) (he : cs[i]? = some en) (ho : en.2.1 = .iaload) (ht : sTg a = some (50, n)) (h0 : 0 ≤ j) (hn : j < n) (hb : n ≤ 100000) (hv : aSlot h a j.toNat = some v) (hr : nRn sc d rt cs (i + 1, L, v :: st, h) r) : nRn sc d rt cs (i, L, sI j :: .ref a :: st, h) r := by
  obtain ⟨q, q1, q2, q3⟩ := sTg_ok hh ht
  obtain ⟨x1, x2⟩ := sIx h0 hn hb
  rw [aSlot_of q1] at hv
  refine sStep he (by unfold nCl; rw [ho]; intro q; cases q) (fun call => mStep_F2 ?_) hr
  unfold mF2
  rw [ho]
  dsimp only
  rw [q1]
  dsimp only
  rw [if_pos ⟨q2, by rw [q3]; exact x1⟩, x2, hv]
theorem s_bald {a n k : Nat} {j : Int} {v : Value} (hh : aHp h) (he : cs[i]? = some en) (ho : en.2.1 = .baload) (ht : sTg a = some (k, n)) (hk : k = 51 ∨ k = 52) (h0 : 0 ≤ j) (hn : j < n) (hb : n ≤ 100000) (hv : aSlot h a j.toNat = some v) (hr : nRn sc d rt cs (i + 1, L, v :: st, h) r) : nRn sc d rt cs (i, L, sI j :: .ref a :: st, h) r := by
  obtain ⟨q, q1, q2, q3⟩ := sTg_ok hh ht
  obtain ⟨x1, x2⟩ := sIx h0 hn hb
  rw [aSlot_of q1] at hv
  refine sStep he (by unfold nCl; rw [ho]; intro q; cases q) (fun call => mStep_F2 ?_) hr
  unfold mF2
  rw [ho]
  dsimp only
  rw [q1]
  dsimp only
  rw [if_pos ⟨by rw [q2]; exact hk, by rw [q3]; exact x1⟩, x2, hv]
theorem s_aald {a n k : Nat} {j : Int} {v : Value} (hh : aHp h) (he : cs[i]? = some en) (ho : en.2.1 = .aaload) (ht : sTg a = some (k, n)) (hk : 53 ≤ k ∧ k < 56) (h0 : 0 ≤ j) (hn : j < n) (hb : n ≤ 100000) (hv : aSlot h a j.toNat = some v) (hr : nRn sc d rt cs (i + 1, L, v :: st, h) r) : nRn sc d rt cs (i, L, sI j :: .ref a :: st, h) r := by
  obtain ⟨q, q1, q2, q3⟩ := sTg_ok hh ht
  obtain ⟨x1, x2⟩ := sIx h0 hn hb
  rw [aSlot_of q1] at hv
  refine sStep he (by unfold nCl; rw [ho]; intro q; cases q) (fun call => mStep_F2 ?_) hr
  unfold mF2
  rw [ho]
  dsimp only
  rw [q1]
  dsimp only
  rw [if_pos ⟨by rw [q2]; exact hk, by rw [q3]; exact x1⟩, x2, hv]
theorem s_len {a k n : Nat} (hh : aHp h) (he : cs[i]? = some en) (ho : en.2.1 = .arraylength) (ht : sTg a = some (k, n)) (hk : 50 ≤ k ∧ k < 56) (hr : nRn sc d rt cs (i + 1, L, sI (n : Int) :: st, h) r) : nRn sc d rt cs (i, L, .ref a :: st, h) r := by
  obtain ⟨q, q1, q2, q3⟩ := sTg_ok hh ht
  refine sStep he (by unfold nCl; rw [ho]; intro q; cases q) (fun call => mStep_F2 ?_) hr
  unfold mF2
  rw [ho]
  dsimp only
  rw [q1]
  dsimp only
  rw [if_pos (by rw [q2]; exact hk), q3]
  rfl
theorem s_iast {a n : Nat} {j : Int} {v : Int32} (hh : aHp h) (he : cs[i]? = some en) (ho : en.2.1 = .iastore) (ht : sTg a = some (50, n)) (h0 : 0 ≤ j) (hn : j < n) (hb : n ≤ 100000) (hr : nRn sc d rt cs (i + 1, L, st, hset h a j.toNat (.int v)) r) : nRn sc d rt cs (i, L, .int v :: sI j :: .ref a :: st, h) r := by
  obtain ⟨q, q1, q2, q3⟩ := sTg_ok hh ht
  obtain ⟨x1, x2⟩ := sIx h0 hn hb
  unfold hset at hr
  rw [q1] at hr
  refine sStep he (by unfold nCl; rw [ho]; intro q; cases q) (fun call => mStep_F3 ?_) hr
  unfold mF3
  rw [ho]
  dsimp only
  rw [q1]
  dsimp only
  rw [if_pos ⟨q2, by rw [q3]; exact x1⟩, x2]
theorem s_bast {a n : Nat} {j : Int} {v : Int32} (hh : aHp h) (he : cs[i]? = some en) (ho : en.2.1 = .bastore) (ht : sTg a = some (51, n)) (h0 : 0 ≤ j) (hn : j < n) (hb : n ≤ 100000) (hr : nRn sc d rt cs (i + 1, L, st, hset h a j.toNat (.int v.toInt8.toInt32)) r) : nRn sc d rt cs (i, L, .int v :: sI j :: .ref a :: st, h) r := by
  obtain ⟨q, q1, q2, q3⟩ := sTg_ok hh ht
  obtain ⟨x1, x2⟩ := sIx h0 hn hb
  unfold hset at hr
  rw [q1] at hr
  refine sStep he (by unfold nCl; rw [ho]; intro q; cases q) (fun call => mStep_F3 ?_) hr
  unfold mF3
  rw [ho]
  dsimp only
  rw [q1]
  dsimp only
  rw [if_pos ⟨q2, by rw [q3]; exact x1⟩, x2]
/-- a call whose answer is known -/
theorem s_call {k : Nat} {t2 : mM} {args : List Value} {v : Option Value} {h1 : mH} (he : cs[i]? = some en) (ho : mInv en.2.1 = true ∧ mTgt en 2 = 0) (hk : mTgt en 1 = k) (ht : mTab[k]? = some t2) (hc : mCnt t2 = args.length) (h8 : Nat.ble ((st.map (fun v => v.category)).sum) 8 = true) (hrc : mRcv t2 args h = true) (hx : Nat.ble (mEnt args).length (mMX t2) = true) (hev : nEv sc d k args h (v, h1)) (hr : nRn sc d rt cs (i + 1, L, v.toList ++ st, h1) r) : nRn sc d rt cs (i, L, args.reverse ++ st, h) r := by
  obtain ⟨n0, h0⟩ := hev
  have hcl : nCl en ≠ 12 := by
    obtain ⟨o1, o2⟩ := ho
    unfold mInv at o1
    unfold nCl
    split at o1 <;> first | (rename_i heq; rw [heq]; dsimp only; rw [if_pos o2]; intro q; cases q) | cases o1
  refine nRn_step (g := (i, L, args.reverse ++ st, h)) he (nRt_no hcl) ⟨n0, fun n hn => mStep_G1 ?_⟩ hr
  unfold mG1
  have e1 : (args.reverse ++ st).take (mCnt t2) = args.reverse := by
    rw [hc, ← List.length_reverse]
    exact List.take_left
  have e2 : (args.reverse ++ st).drop (mCnt t2) = st := by
    rw [hc, ← List.length_reverse]
    exact List.drop_left
  rw [if_pos ho, hk, ht]
  dsimp only
  rw [e1, e2, List.reverse_reverse, if_pos ⟨by rw [hc]; simp, Nat.le_of_ble_eq_true h8, hrc, Nat.le_of_ble_eq_true hx⟩, h0 n hn]
theorem s_ret {v : Option Value} (he : cs[i]? = some en) (hr : mRt rt en st h = some (v, h)) : nRn sc d rt cs (i, L, st, h) (v, h) := nRn_ret (g := (i, L, st, h)) he hr
end SST
/-! writing a cell -/
section HSET
variable {h : mH} {a j : Nat} {v : Value}
theorem hset_slot {k n : Nat} (hh : aHp h) (ht : sTg a = some (k, n)) (hj : j < n) (b m : Nat) : aSlot (hset h a j v) b m = if b = a ∧ m = j then some v else aSlot h b m := by
  obtain ⟨q, q1, q2, q3⟩ := sTg_ok hh ht
  unfold hset
  rw [q1]
  dsimp only
  rw [aSlot_set q1]
  rw [if_pos (show j < q.2.length by omega)]
/-- the type of a cell lets a value in -/
def sTy (a j : Nat) (p : aRg → Bool) : Bool := match aT[a]? with
  | some t => t.2.2.all (fun g => decide (j < g.1) || (decide (g.2.1 < j) || p g))
  | none => false
theorem hset_hp (hh : aHp h) (hv : ∀ t g, aT[a]? = some t → g ∈ t.2.2 → g.1 ≤ j → j ≤ g.2.1 → aIsT g v) : aHp (hset h a j v) := by
  unfold hset
  split
  · rename_i q hq
    refine ⟨by rw [List.length_set]; exact hh.1, fun b t p ht hp => ?_⟩
    rw [List.getElem?_set] at hp
    split at hp
    · rename_i hab
      subst hab
      split at hp
      · cases hp
        obtain ⟨e1, e2, e3⟩ := hh.2 a t q ht hq
        refine ⟨e1, by rw [List.length_set]; exact e2, fun g hg m w m1 m2 hw => ?_⟩
        rw [List.getElem?_set] at hw
        split at hw
        · rename_i hjm
          subst hjm
          split at hw
          · cases hw
            exact hv t g ht hg m1 m2
          · cases hw
        · exact e3 g hg m w m1 m2 hw
      · cases hp
    · exact hh.2 b t p ht hp
  · exact hh
/-- an int within its cell's range -/
theorem hset_int {z : Int} (hh : aHp h) (hz : sR z) (hc : ∀ t g, aT[a]? = some t → g ∈ t.2.2 → g.1 ≤ j → j ≤ g.2.1 → g.2.2.1 = 0 ∧ g.2.2.2.1 ≤ z ∧ z ≤ g.2.2.2.2) : aHp (hset h a j (sI z)) := by
  refine hset_hp hh (fun t g ht hg h1 h2 => ?_)
  obtain ⟨c1, c2, c3⟩ := hc t g ht hg h1 h2
  unfold aIsT
  rw [c1]
  exact ⟨_, rfl, by rw [sR_i hz]; exact c2, by rw [sR_i hz]; exact c3⟩
end HSET
/-- two heaps with the same cells are the same -/
theorem aHp_ext {h h1 : mH} (hh : aHp h) (hh1 : aHp h1) (hs : ∀ a j, aSlot h1 a j = aSlot h a j) : h1 = h := by
  apply List.ext_getElem?
  intro a
  cases ht : aT[a]? with
  | none =>
    rw [List.getElem?_eq_none_iff] at ht
    rw [List.getElem?_eq_none (by rw [hh1.1]; exact ht), List.getElem?_eq_none (by rw [hh.1]; exact ht)]
  | some t =>
    obtain ⟨q, q1, q2, q3, -⟩ := aHp_at hh ht
    obtain ⟨p, p1, p2, p3, -⟩ := aHp_at hh1 ht
    rw [q1, p1]
    have e2 : p.2 = q.2 := by
      apply List.ext_getElem?
      intro j
      have := hs a j
      rw [aSlot_of p1, aSlot_of q1] at this
      exact this
    have e1 : p.1 = q.1 := p2.trans q2.symm
    obtain ⟨pa, pb⟩ := p
    obtain ⟨qa, qb⟩ := q
    cases e1
    cases e2
    rfl
theorem nFr_nil {h h1 : mH} (hh : aHp h) (hh1 : aHp h1) (hf : nFr [] h h1) : h1 = h := aHp_ext hh hh1 (fun a j => hf a j (by rintro ⟨m, m1, -⟩; cases m1))
end
section
/-! a cell that holds an int -/
def zCell (a j : Nat) (lo hi : Int) : Bool := match aT[a]? with
  | some t => decide (j < t.2.1) && t.2.2.any (fun g => decide (g.1 ≤ j) && (decide (j ≤ g.2.1) && (g.2.2.1 == 0 && (decide (lo ≤ g.2.2.2.1) && decide (g.2.2.2.2 ≤ hi)))))
  | none => false
theorem zCell_ok {h : mH} {a j : Nat} {lo hi : Int} (hh : aHp h) (hz : zCell a j lo hi = true) : ∃ s : Int32, aSlot h a j = some (.int s) ∧ lo ≤ s.toInt ∧ s.toInt ≤ hi := by
  unfold zCell at hz
  split at hz
  · rename_i t ht
    rw [Bool.and_eq_true, decide_eq_true_eq] at hz
    obtain ⟨hj, hz⟩ := hz
    obtain ⟨g, g1, g2⟩ := List.any_eq_true.mp hz
    simp only [Bool.and_eq_true, decide_eq_true_eq, beq_iff_eq] at g2
    obtain ⟨a1, a2, a3, a4, a5⟩ := g2
    obtain ⟨q, q1, q2, q3, q4⟩ := aHp_at hh ht
    have hjq : j < q.2.length := by omega
    have h1 := q4 g g1 j _ a1 a2 (List.getElem?_eq_getElem hjq)
    unfold aIsT at h1
    rw [a3] at h1
    obtain ⟨s, s1, s2, s3⟩ := h1
    refine ⟨s, ?_, by omega, by omega⟩
    unfold aSlot
    rw [q1]
    dsimp only
    rw [List.getElem?_eq_getElem hjq, s1]
  · cases hz
end
section
/-! longs, returns, receivers; what the heap holds as numbers -/
abbrev sJ (a : Int) : Value := .long (Int64.ofInt a)
def sRJ (a : Int) : Prop := -9223372036854775808 ≤ a ∧ a ≤ 9223372036854775807
theorem sRJ_i {a : Int} (h : sRJ a) : (Int64.ofInt a).toInt = a := by
  unfold sRJ at h
  exact Int64.toInt_ofInt_of_le (by omega) (by omega)
theorem s_cmp {q : ClassFile.Cond} {a b : Int} (ha : sRJ a) (hb : sRJ b) : mC2 q (lg_cmp (Int64.ofInt a) (Int64.ofInt b)) 0 = true ↔ mCi q a b := by
  have h1 := sRJ_i ha
  have h2 := sRJ_i hb
  have e1 : Int64.ofInt b < Int64.ofInt a ↔ b < a := by rw [Int64.lt_iff_toInt_lt, h1, h2]
  have e2 : Int64.ofInt a = Int64.ofInt b ↔ a = b := ⟨fun e => by rw [← h1, ← h2, e], fun e => by rw [e]⟩
  unfold lg_cmp
  rcases Int.lt_trichotomy a b with hc | hc | hc
  · rw [if_neg (fun e => by have := e1.mp e; omega), if_neg (fun e => by have := e2.mp e; omega)]
    cases q
    · exact ⟨fun e => absurd e (by decide), fun e => by have e : a = b := e; omega⟩
    · exact ⟨fun _ => by show a ≠ b; omega, fun _ => by decide⟩
    · exact ⟨fun _ => hc, fun _ => by decide⟩
    · exact ⟨fun e => absurd e (by decide), fun e => by have e : b ≤ a := e; omega⟩
    · exact ⟨fun e => absurd e (by decide), fun e => by have e : b < a := e; omega⟩
    · exact ⟨fun _ => by show a ≤ b; omega, fun _ => by decide⟩
  · rw [if_neg (fun e => by have := e1.mp e; omega), if_pos (e2.mpr hc)]
    cases q
    · exact ⟨fun _ => hc, fun _ => by decide⟩
    · exact ⟨fun e => absurd e (by decide), fun e => by have e : a ≠ b := e; omega⟩
    · exact ⟨fun e => absurd e (by decide), fun e => by have e : a < b := e; omega⟩
    · exact ⟨fun _ => by show b ≤ a; omega, fun _ => by decide⟩
    · exact ⟨fun e => absurd e (by decide), fun e => by have e : b < a := e; omega⟩
    · exact ⟨fun _ => by show a ≤ b; omega, fun _ => by decide⟩
  · rw [if_pos (e1.mpr hc)]
    cases q
    · exact ⟨fun e => absurd e (by decide), fun e => by have e : a = b := e; omega⟩
    · exact ⟨fun _ => by show a ≠ b; omega, fun _ => by decide⟩
    · exact ⟨fun e => absurd e (by decide), fun e => by have e : a < b := e; omega⟩
    · exact ⟨fun _ => by show b ≤ a; omega, fun _ => by decide⟩
    · exact ⟨fun _ => hc, fun _ => by decide⟩
    · exact ⟨fun e => absurd e (by decide), fun e => by have e : a ≤ b := e; omega⟩
section SS2
variable {sc : List Int32} {d : Nat} {rt : Option FieldType} {cs : List mE} {i : Nat} {L : mL} {st : List Value} {h : mH} {r : mR} {en en1 : mE}
theorem s_i2l {a : Int} (he : cs[i]? = some en) (ho : en.2.1 = .i2l) (ha : sR a) (hr : nRn sc d rt cs (i + 1, L, sJ a :: st, h) r) : nRn sc d rt cs (i, L, sI a :: st, h) r := by
  refine sStep he (by unfold nCl; rw [ho]; intro q; cases q) (fun call => mStep_B2 ?_) hr
  unfold mB2
  rw [ho]
  dsimp only
  have e : (Int32.ofInt a).toInt64 = Int64.ofInt a := by
    apply Int64.toInt_inj.mp
    rw [Int32.toInt_toInt64, sR_i ha, sRJ_i (by unfold sR aMi aMa at ha; unfold sRJ; omega)]
  rw [e]
/-- two longs are compared and a branch is taken -/
theorem s_lif {a b : Int} {q : ClassFile.Cond} {j : Nat} (he : cs[i]? = some en) (ho : en.2.1 = .lcmp) (he1 : cs[i + 1]? = some en1) (ho1 : ∃ z, en1.2.1 = .ifCond q z) (hj : mTgt en1 0 = j) (ha : sRJ a) (hb : sRJ b) (hT : mCi q a b → nRn sc d rt cs (j, L, st, h) r) (hF : ¬ mCi q a b → nRn sc d rt cs (i + 2, L, st, h) r) : nRn sc d rt cs (i, L, sJ b :: sJ a :: st, h) r := by
  refine sStep (g1 := (i + 1, L, .int (lg_cmp (Int64.ofInt a) (Int64.ofInt b)) :: st, h)) he (by unfold nCl; rw [ho]; intro q; cases q) (fun call => mStep_B2 (by unfold mB2; rw [ho])) ?_
  obtain ⟨z, ho1⟩ := ho1
  by_cases hc : mCi q a b
  · refine sStep he1 (by unfold nCl; rw [ho1]; intro q; cases q) (fun call => mStep_B3 (g := (j, L, st, h)) ?_) (hT hc)
    unfold mB3
    rw [ho1]
    dsimp only
    unfold mIf
    rw [if_pos ((s_cmp ha hb).mpr hc), hj]
  · refine sStep he1 (by unfold nCl; rw [ho1]; intro q; cases q) (fun call => mStep_B3 (g := (i + 2, L, st, h)) ?_) (hF hc)
    unfold mB3
    rw [ho1]
    dsimp only
    unfold mIf
    rw [if_neg (fun e => hc ((s_cmp ha hb).mp e))]
theorem s_reti {a b : Int} {h1 : mH} (he : cs[i]? = some en) (ho : en.2.1 = .ireturn) (hrt : rt = some .int ∨ (rt = some .boolean ∧ (a = 0 ∨ a = 1))) (hv : a = b) (hh : h = h1) : nRn sc d rt cs (i, L, [sI a], h) (some (sI b), h1) := by
  subst hv
  subst hh
  refine s_ret he ?_
  unfold mRt
  rw [ho]
  dsimp only
  rcases hrt with rfl | ⟨rfl, rfl | rfl⟩
  · dsimp only
    rw [if_pos (show narrow .int (.int (Int32.ofInt a)) = .int (Int32.ofInt a) from rfl)]
  · rfl
  · rfl
theorem sRcv {t2 : mM} {a k n : Nat} {args : List Value} (hh : aHp h) (ht : sTg a = some (k, n)) (hc : (decide (mMK t2 ≠ 0) && (decide (mMK t2 = 2) || (decide (k < 50) && (match mCl[k]? with
    | some r => decide (r.1 = (mMY t2).cls)
    | none => false)))) = true) : mRcv t2 (.ref a :: args) h = true := by
  obtain ⟨q, q1, q2, q3⟩ := sTg_ok hh ht
  rw [Bool.and_eq_true, decide_eq_true_eq] at hc
  unfold mRcv
  rw [if_neg hc.1]
  dsimp only
  by_cases h2 : mMK t2 = 2
  · rw [if_pos h2]
  · rw [if_neg h2, q1]
    dsimp only
    have hd := hc.2
    rw [decide_eq_false h2, Bool.false_or] at hd
    rw [q2]
    exact hd
end SS2
def hI (h : mH) (a j : Nat) : Int := match aSlot h a j with
  | some (.int z) => z.toInt
  | _ => 0
theorem hI_sR (h : mH) (a j : Nat) : sR (hI h a j) := by
  unfold hI
  split
  · exact aI_rg _
  · unfold sR aMi aMa
    omega
theorem hI_of {h : mH} {a j : Nat} {z : Int32} (hz : aSlot h a j = some (.int z)) : hI h a j = z.toInt := by
  unfold hI
  rw [hz]
theorem hI_ok {h : mH} {a j : Nat} {lo hi : Int} (hh : aHp h) (hz : zCell a j lo hi = true) : aSlot h a j = some (sI (hI h a j)) := by
  obtain ⟨s, s1, -⟩ := zCell_ok hh hz
  rw [s1, hI_of s1]
  unfold sI
  rw [Int32.ofInt_toInt]
theorem hI_rg {h : mH} {a j : Nat} {lo hi : Int} (hh : aHp h) (hz : zCell a j lo hi = true) : lo ≤ hI h a j ∧ hI h a j ≤ hi := by
  obtain ⟨s, s1, s2, s3⟩ := zCell_ok hh hz
  rw [hI_of s1]
  exact ⟨s2, s3⟩
def zRef (a j b : Nat) : Bool := match aT[a]? with
  | some t => decide (j < t.2.1) && t.2.2.any (fun g => decide (g.1 ≤ j) && (decide (j ≤ g.2.1) && (g.2.2.1 == 2 && g.2.2.2.1.toNat == b)))
  | none => false
theorem hR_ok {h : mH} {a j b : Nat} (hh : aHp h) (hz : zRef a j b = true) : aSlot h a j = some (.ref b) := by
  unfold zRef at hz
  split at hz
  · rename_i t ht
    rw [Bool.and_eq_true, decide_eq_true_eq] at hz
    obtain ⟨hj, hz⟩ := hz
    obtain ⟨g, g1, g2⟩ := List.any_eq_true.mp hz
    simp only [Bool.and_eq_true, decide_eq_true_eq, beq_iff_eq] at g2
    obtain ⟨a1, a2, a3, a4⟩ := g2
    obtain ⟨q, q1, q2, q3, q4⟩ := aHp_at hh ht
    have hjq : j < q.2.length := by omega
    have h1 := q4 g g1 j _ a1 a2 (List.getElem?_eq_getElem hjq)
    unfold aIsT at h1
    rw [a3] at h1
    rw [aSlot_of q1, List.getElem?_eq_getElem hjq, h1, a4]
  · cases hz
theorem nEv_det {sc : List Int32} {d k : Nat} {av : List Value} {h : mH} {r r1 : mR} (h1 : nEv sc d k av h r) (h2 : nEv sc d k av h r1) : r = r1 := by
  obtain ⟨n, hn⟩ := h1
  obtain ⟨m, hm⟩ := h2
  have e1 := hn (n + m) (by omega)
  have e2 := hm (n + m) (by omega)
  rw [e1] at e2
  exact Option.some.inj e2
def zIn (a j : Nat) (lo hi : Int) : Bool := match aT[a]? with
  | some t => t.2.2.all (fun g => decide (j < g.1) || (decide (g.2.1 < j) || (g.2.2.1 == 0 && (decide (g.2.2.2.1 ≤ lo) && decide (hi ≤ g.2.2.2.2)))))
  | none => true
theorem hset_in {h : mH} {a j : Nat} {lo hi : Int} {z : Int32} (hh : aHp h) (hz : zIn a j lo hi = true) (h1 : lo ≤ z.toInt) (h2 : z.toInt ≤ hi) : aHp (hset h a j (.int z)) := by
  refine hset_hp hh (fun t g ht hg k1 k2 => ?_)
  unfold zIn at hz
  rw [ht] at hz
  have h3 := List.all_eq_true.mp hz g hg
  simp only [Bool.or_eq_true, Bool.and_eq_true, decide_eq_true_eq, beq_iff_eq] at h3
  rcases h3 with h3 | h3 | ⟨h3, h4, h5⟩
  · omega
  · omega
  · unfold aIsT
    rw [h3]
    exact ⟨z, rfl, by omega, by omega⟩
section HS2
variable {h : mH} {a j k n : Nat} {v w : Value}
theorem hset_self (hv : aSlot h a j = some v) : hset h a j v = h := by
  unfold hset
  split
  · rename_i q hq
    rw [aSlot_of hq] at hv
    have e1 : q.2.set j v = q.2 := by
      apply List.ext_getElem?
      intro m
      rw [List.getElem?_set]
      split
      · rename_i hm
        subst hm
        rw [hv]
        split
        · rfl
        · rename_i hl
          rw [List.getElem?_eq_none (by omega)] at hv
          cases hv
      · rfl
    rw [e1]
    apply List.ext_getElem?
    intro m
    rw [List.getElem?_set]
    split
    · rename_i hm
      subst hm
      rw [hq]
      split
      · rfl
      · rename_i hl
        rw [List.getElem?_eq_none (by omega)] at hq
        cases hq
    · rfl
  · rfl
theorem hset_hset : hset (hset h a j v) a j w = hset h a j w := by
  unfold hset
  cases hq : h[a]? with
  | none =>
    dsimp only
    rw [hq]
  | some q =>
    dsimp only
    rw [List.getElem?_set_self (List.getElem?_eq_some_iff.mp hq).1]
    dsimp only
    rw [List.set_set, List.set_set]
theorem hI_ne {b m : Nat} (hh : aHp h) (ht : sTg a = some (k, n)) (hj : j < n) (hb : b ≠ a ∨ m ≠ j) : hI (hset h a j v) b m = hI h b m := by
  unfold hI
  rw [hset_slot hh ht hj, if_neg (by omega)]
theorem hI_eq {z : Int} (hh : aHp h) (ht : sTg a = some (k, n)) (hj : j < n) (hz : sR z) : hI (hset h a j (sI z)) a j = z := by
  rw [hI_of (z := Int32.ofInt z) (by rw [hset_slot hh ht hj, if_pos ⟨rfl, rfl⟩]), sR_i hz]
theorem hI_nf {b : Nat} (hh : aHp h) (ht : sTg a = some (k, n)) (hj : j < n) (hb : b ≠ a) : hI (hset h a j v) b = hI h b := by
  funext m
  exact hI_ne hh ht hj (Or.inl hb)
end HS2
end
section
/-! the reference copies a row: the promises by hand -/
section COPM
variable {sc : List Int32} {d : Nat} {h : mH}
/-- what a cell of the reference's rows may hold -/
def mHi (m : Nat) : Int := if m = 0 then 6 else if m ≤ 6 then 5 else if m ≤ 42 then 9 else if m = 43 then 63 else if m ≤ 79 then 1 else if m = 80 then 40 else 5
def cpB (A i B j : Nat) : Bool := (List.range 201).all (fun m => zCell A (i + m) 0 (mHi m) && zIn B (j + m) 0 (mHi m))
/-- the reference copies a row -/
theorem fCopiesL {A B i j nA nB : Nat} (hAB : A ≠ B) (tA : sTg A = some (50, nA)) (tB : sTg B = some (50, nB)) (bA : i + 201 ≤ nA) (bB : j + 201 ≤ nB) (cA : nA ≤ 100000) (cB : nB ≤ 100000) (hty : cpB A i B j = true) : ∀ (k m : Nat) (h : mH), m + k = 201 → aHp h → ∃ h1, nRn sc d (mMT mMe145) (mMC mMe145) (2, [some (.ref A), some (sI (i : Int)), some (.ref B), some (sI (j : Int)), some (sI (m : Int))], [], h) (none, h1) ∧ aHp h1 ∧ ∀ b q, aSlot h1 b q = if b = B ∧ j + m ≤ q ∧ q < j + 201 then aSlot h A (i + (q - j)) else aSlot h b q := by
  intro k
  induction k with
  | zero =>
    intro m h hk hh
    refine ⟨h, ?_, hh, fun b q => by rw [if_neg (by omega)]⟩
    refine sP 2 (g1 := (4, [some (.ref A), some (sI ((i : Int))), some (.ref B), some (sI ((j : Int))), some (sI ((m : Int)))], [sI 201, sI ((m : Int))], h)) rfl ?_
    refine s_icmp (q := .ge) (a := (m : Int)) (b := 201) rfl ⟨_, rfl⟩ rfl (by unfold sR aMi aMa; omega) (by unfold sR aMi aMa; omega) (fun hc1 => ?_) (fun hc1 => ?_)
    · have hc1 : (201 : Int) ≤ ((m : Int)) := hc1
      exact s_ret rfl rfl
    · have hc1 : ¬ ((201 : Int) ≤ ((m : Int))) := hc1
      omega
  | succ k ih =>
    intro m h hk hh
    have hm := List.all_eq_true.mp hty m (List.mem_range.mpr (by omega))
    rw [Bool.and_eq_true] at hm
    have v1 := hI_ok hh hm.1
    have v2 := hI_rg hh hm.1
    have v3 := hI_sR h A (i + m)
    have ix : ((j : Int) + (m : Int)).toNat = j + m := by omega
    have iy : ((i : Int) + (m : Int)).toNat = i + m := by omega
    have hg : aHp (hset h B ((j : Int) + (m : Int)).toNat (sI (hI h A (i + m)))) := by
      rw [ix]
      exact hset_in hh hm.2 (by rw [sR_i v3]; exact v2.1) (by rw [sR_i v3]; exact v2.2)
    have s1 := fun b q => hset_slot (v := sI (hI h A (i + m))) hh tB (show ((j : Int) + (m : Int)).toNat < nB by omega) b q
    obtain ⟨h1, r1, r2, r3⟩ := ih (m + 1) _ (by omega) hg
    refine ⟨h1, ?_, r2, fun b q => ?_⟩
    rotate_left
    · rw [r3 b q]
      by_cases e1 : b = B ∧ j + (m + 1) ≤ q ∧ q < j + 201
      · rw [if_pos e1, s1, if_neg (fun z => hAB z.1), if_pos (by omega)]
      · rw [if_neg e1, s1, ix]
        by_cases e2 : b = B ∧ q = j + m
        · rw [if_pos e2, if_pos (by omega), ← v1, e2.2]
          congr 1
          omega
        · rw [if_neg e2, if_neg (by omega)]
    refine sP 2 (g1 := (4, [some (.ref A), some (sI ((i : Int))), some (.ref B), some (sI ((j : Int))), some (sI ((m : Int)))], [sI 201, sI ((m : Int))], h)) rfl ?_
    refine s_icmp (q := .ge) (a := (m : Int)) (b := 201) rfl ⟨_, rfl⟩ rfl (by unfold sR aMi aMa; omega) (by unfold sR aMi aMa; omega) (fun hc1 => ?_) (fun hc1 => ?_)
    · have hc1 : (201 : Int) ≤ ((m : Int)) := hc1
      omega
    · have hc1 : ¬ ((201 : Int) ≤ ((m : Int))) := hc1
      refine sP 3 (g1 := (8, [some (.ref A), some (sI ((i : Int))), some (.ref B), some (sI ((j : Int))), some (sI ((m : Int)))], [sI ((m : Int)), sI ((j : Int)), .ref B], h)) rfl ?_
      refine s_add (a := (j : Int)) (b := (m : Int)) rfl rfl ?_
      refine sP 3 (g1 := (12, [some (.ref A), some (sI ((i : Int))), some (.ref B), some (sI ((j : Int))), some (sI ((m : Int)))], [sI ((m : Int)), sI ((i : Int)), .ref A, sI (((j : Int)) + ((m : Int))), .ref B], h)) rfl ?_
      refine s_add (a := (i : Int)) (b := (m : Int)) rfl rfl ?_
      refine s_iald (a := A) (n := nA) (j := ((i : Int)) + ((m : Int))) hh rfl rfl tA (by omega) (by omega) cA (v := sI (hI h A (i + m))) (by rw [iy]; exact v1) ?_
      refine s_iast (a := B) (n := nB) (j := ((j : Int)) + ((m : Int))) hh rfl rfl tB (by omega) (by omega) cB ?_
      refine s_inc (a := (m : Int)) (n := 1) (k := 4) rfl rfl rfl ?_
      refine sP 1 (g1 := (2, [some (.ref A), some (sI ((i : Int))), some (.ref B), some (sI ((j : Int))), some (sI (((m : Int)) + 1))], [], (hset h B (((j : Int)) + ((m : Int))).toNat (sI (hI h A (i + m)))))) rfl ?_
      rw [show ((m : Int) + 1) = ((m + 1 : Nat) : Int) by omega]
      exact r1
theorem cop_M {A B : Nat} {z1 z3 : Int32} : ∀ M : mL, 5 = M.length → M[0]? = some (some (.ref A)) → M[1]? = some (some (.int z1)) → M[2]? = some (some (.ref B)) → M[3]? = some (some (.int z3)) → ∃ X, M = [some (.ref A), some (.int z1), some (.ref B), some (.int z3), X] := by
  intro M hl a0 a1 a2 a3
  match M, hl with
  | [p, q, s, u, x], _ =>
    cases a0
    cases a1
    cases a2
    cases a3
    exact ⟨x, rfl⟩
theorem cop_me {A B i j nA nB : Nat} {I J J2 : Int} (hI : I = (i : Int)) (hJ : J = (j : Int)) (hJ2 : J2 = J + 200) (hAB : A ≠ B) (tA : sTg A = some (50, nA)) (tB : sTg B = some (50, nB)) (bA : i + 201 ≤ nA) (bB : j + 201 ≤ nB) (cA : nA ≤ 100000) (cB : nB ≤ 100000) (hty : cpB A i B j = true) (sc : List Int32) : nMe sc 9 (145, (([(I, I), (J, J)], [], [], (10000000000000000000000000000000000000000, [])), [(145, 0, [(2, (0, []), A), (0, (0, [(1, 0)]), 0), (2, (0, []), B), (0, (0, [(1, 1)]), 0), (6, (0, []), 0)], [])], [(0, 0, 1, (0, [])), (0, 0, 3, (0, []))]), none, [(B, J, J2)]) := by
  intro h av r m1 t ht hh hS hM d hd
  obtain ⟨d, rfl⟩ : ∃ e, d = e + 1 := ⟨d - 1, by omega⟩
  obtain rfl : t = mMe145 := Option.some.inj (ht.symm.trans rfl)
  have hB : aBd [(I, I), (J, J)] r := hS.1
  have b0 : I ≤ r 0 ∧ r 0 ≤ I := hB 0 (I, I) rfl
  have b1 : J ≤ r 1 ∧ r 1 ≤ J := hB 1 (J, J) rfl
  obtain ⟨⟨-, -, ⟨fl, fs⟩, -⟩, -⟩ := hM
  obtain ⟨w0, e0, x0⟩ := fs 0 _ rfl (show (2 : Nat) < 6 by decide)
  obtain ⟨w1, e1, x1⟩ := fs 1 _ rfl (by decide)
  obtain ⟨w2, e2, x2⟩ := fs 2 _ rfl (show (2 : Nat) < 6 by decide)
  obtain ⟨w3, e3, x3⟩ := fs 3 _ rfl (by decide)
  have y0 : w0 = .ref A := x0.2
  obtain ⟨z1, y1, u1⟩ := (show ∃ z : Int32, w1 = .int z ∧ z.toInt = (0 : Int) + (1 * r 0 + 0) from x1.2)
  have y2 : w2 = .ref B := x2.2
  obtain ⟨z3, y3, u3⟩ := (show ∃ z : Int32, w3 = .int z ∧ z.toInt = (0 : Int) + (1 * r 1 + 0) from x3.2)
  rw [y0] at e0
  rw [y1] at e1
  rw [y2] at e2
  rw [y3] at e3
  obtain ⟨X, hX⟩ := cop_M (mEntL (mMX mMe145) av) fl e0 e1 e2 e3
  have q1 : Value.int z1 = sI (i : Int) := by
    have : z1.toInt = (i : Int) := by omega
    unfold sI
    rw [← this, Int32.ofInt_toInt]
  have q3 : Value.int z3 = sI (j : Int) := by
    have : z3.toInt = (j : Int) := by omega
    unfold sI
    rw [← this, Int32.ofInt_toInt]
  rw [q1, q3] at hX
  obtain ⟨h1, r1, r2, r3⟩ := fCopiesL (sc := sc) (d := d) hAB tA tB bA bB cA cB hty 201 0 h (by omega) hh
  refine ⟨(none, h1), nEv_of (t := mMe145) rfl ?_, r2, ?_, rfl⟩
  · rw [hX]
    refine sP 2 (g1 := (2, [some (.ref A), some (sI (i : Int)), some (.ref B), some (sI (j : Int)), some (sI 0)], [], h)) rfl ?_
    exact r1
  · intro a q hn
    show aSlot h1 a q = aSlot h a q
    rw [r3, if_neg (fun z => hn ⟨_, List.mem_cons_self, z.1.symm, show J ≤ (q : Int) by omega, show (q : Int) ≤ J2 by omega⟩)]
end COPM
/-- (('FirstLandingModel', 'copies', '([II[II)V'), (('r', 59), 0, ('r', 58), 0)) -/
def kC51 : aCt := (145, (([(0, 0), (0, 0)], [], [], (10000000000000000000000000000000000000000, [])), [(145, 0, [(2, (0, []), 59), (0, (0, [(1, 0)]), 0), (2, (0, []), 58), (0, (0, [(1, 1)]), 0), (6, (0, []), 0)], [])], [(0, 0, 1, (0, [])), (0, 0, 3, (0, []))]), none, [(58, 0, 200)])
theorem kM51 (sc : List Int32) : nMe sc 9 kC51 := cop_me (A := 59) (i := 0) (B := 58) (j := 0) (nA := 201) (nB := 201) rfl rfl rfl (by decide) rfl rfl (by decide) (by decide) (by decide) (by decide) (by decide +kernel) sc
/-- (('FirstLandingModel', 'copies', '([II[II)V'), (('r', 58), 0, ('r', 60), 0)) -/
def kC92 : aCt := (145, (([(0, 0), (0, 0)], [], [], (10000000000000000000000000000000000000000, [])), [(145, 0, [(2, (0, []), 58), (0, (0, [(1, 0)]), 0), (2, (0, []), 60), (0, (0, [(1, 1)]), 0), (6, (0, []), 0)], [])], [(0, 0, 1, (0, [])), (0, 0, 3, (0, []))]), none, [(60, 0, 200)])
theorem kM92 (sc : List Int32) : nMe sc 9 kC92 := cop_me (A := 58) (i := 0) (B := 60) (j := 0) (nA := 201) (nB := 603) rfl rfl rfl (by decide) rfl rfl (by decide) (by decide) (by decide) (by decide) (by decide +kernel) sc
/-- (('FirstLandingModel', 'copies', '([II[II)V'), (('r', 58), 0, ('r', 60), 402)) -/
def kC93 : aCt := (145, (([(0, 0), (402, 402)], [], [], (10000000000000000000000000000000000000000, [])), [(145, 0, [(2, (0, []), 58), (0, (0, [(1, 0)]), 0), (2, (0, []), 60), (0, (0, [(1, 1)]), 0), (6, (0, []), 0)], [])], [(0, 0, 1, (0, [])), (0, 0, 3, (0, []))]), none, [(60, 402, 602)])
theorem kM93 (sc : List Int32) : nMe sc 9 kC93 := cop_me (A := 58) (i := 0) (B := 60) (j := 402) (nA := 201) (nB := 603) rfl rfl rfl (by decide) rfl rfl (by decide) (by decide) (by decide) (by decide) (by decide +kernel) sc
/-- (('FirstLandingModel', 'copies', '([II[II)V'), (('r', 58), 0, ('r', 60), 201)) -/
def kC94 : aCt := (145, (([(0, 0), (201, 201)], [], [], (10000000000000000000000000000000000000000, [])), [(145, 0, [(2, (0, []), 58), (0, (0, [(1, 0)]), 0), (2, (0, []), 60), (0, (0, [(1, 1)]), 0), (6, (0, []), 0)], [])], [(0, 0, 1, (0, [])), (0, 0, 3, (0, []))]), none, [(60, 201, 401)])
theorem kM94 (sc : List Int32) : nMe sc 9 kC94 := cop_me (A := 58) (i := 0) (B := 60) (j := 201) (nA := 201) (nB := 603) rfl rfl rfl (by decide) rfl rfl (by decide) (by decide) (by decide) (by decide) (by decide +kernel) sc
/-- (('FirstLandingModel', 'copies', '([II[II)V'), (('r', 60), 0, ('r', 58), 0)) -/
def kC97 : aCt := (145, (([(0, 0), (0, 0)], [], [], (10000000000000000000000000000000000000000, [])), [(145, 0, [(2, (0, []), 60), (0, (0, [(1, 0)]), 0), (2, (0, []), 58), (0, (0, [(1, 1)]), 0), (6, (0, []), 0)], [])], [(0, 0, 1, (0, [])), (0, 0, 3, (0, []))]), none, [(58, 0, 200)])
theorem kM97 (sc : List Int32) : nMe sc 9 kC97 := cop_me (A := 60) (i := 0) (B := 58) (j := 0) (nA := 603) (nB := 201) rfl rfl rfl (by decide) rfl rfl (by decide) (by decide) (by decide) (by decide) (by decide +kernel) sc
/-- (('FirstLandingModel', 'copies', '([II[II)V'), (('r', 60), 402, ('r', 58), 0)) -/
def kC98 : aCt := (145, (([(402, 402), (0, 0)], [], [], (10000000000000000000000000000000000000000, [])), [(145, 0, [(2, (0, []), 60), (0, (0, [(1, 0)]), 0), (2, (0, []), 58), (0, (0, [(1, 1)]), 0), (6, (0, []), 0)], [])], [(0, 0, 1, (0, [])), (0, 0, 3, (0, []))]), none, [(58, 0, 200)])
theorem kM98 (sc : List Int32) : nMe sc 9 kC98 := cop_me (A := 60) (i := 402) (B := 58) (j := 0) (nA := 603) (nB := 201) rfl rfl rfl (by decide) rfl rfl (by decide) (by decide) (by decide) (by decide) (by decide +kernel) sc
/-- (('FirstLandingModel', 'copies', '([II[II)V'), (('r', 60), 201, ('r', 58), 0)) -/
def kC99 : aCt := (145, (([(201, 201), (0, 0)], [], [], (10000000000000000000000000000000000000000, [])), [(145, 0, [(2, (0, []), 60), (0, (0, [(1, 0)]), 0), (2, (0, []), 58), (0, (0, [(1, 1)]), 0), (6, (0, []), 0)], [])], [(0, 0, 1, (0, [])), (0, 0, 3, (0, []))]), none, [(58, 0, 200)])
theorem kM99 (sc : List Int32) : nMe sc 9 kC99 := cop_me (A := 60) (i := 201) (B := 58) (j := 0) (nA := 603) (nB := 201) rfl rfl rfl (by decide) rfl rfl (by decide) (by decide) (by decide) (by decide) (by decide +kernel) sc
end
section
theorem zzStop : True := trivial
end
