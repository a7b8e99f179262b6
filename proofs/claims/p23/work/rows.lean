section
-- ===== PART A: goes FIRST, ahead of the names: the tables' words, and 'selects' of the private methods out of them =====
/-- a private method of a class that the tables say can be made, by its rows of tables_1 -/
def lw_okq (q : MethodName × Nat) : Prop := (q.1.cls ≠ "java/lang/invoke/MethodHandle" ∧ q.1.cls ≠ "java/lang/invoke/VarHandle") ∧ Cond.instantiable q.1.cls q.2 ∈ tables_1 ∧ Cond.privateMethod q.1 ∈ tables_1 ∧ Cond.instanceMethod q.1 ∈ tables_1
theorem lw_p0 : lw_okq (⟨"FirstLanding", "rowAt", "(I)LFirstLanding$Row;"⟩, 12) := ⟨⟨by decide +kernel, by decide +kernel⟩, List.mem_of_getElem? (i := 16) (by decide +kernel), List.mem_of_getElem? (i := 194) (by decide +kernel), List.mem_of_getElem? (i := 195) (by decide +kernel)⟩
theorem lw_p1 : lw_okq (⟨"FirstLanding", "found", "(I)I"⟩, 12) := ⟨⟨by decide +kernel, by decide +kernel⟩, List.mem_of_getElem? (i := 16) (by decide +kernel), List.mem_of_getElem? (i := 198) (by decide +kernel), List.mem_of_getElem? (i := 199) (by decide +kernel)⟩
theorem lw_p2 : lw_okq (⟨"FirstLanding$Row", "begin", "(I)V"⟩, 2) := ⟨⟨by decide +kernel, by decide +kernel⟩, List.mem_of_getElem? (i := 119) (by decide +kernel), List.mem_of_getElem? (i := 202) (by decide +kernel), List.mem_of_getElem? (i := 203) (by decide +kernel)⟩
theorem lw_p3 : lw_okq (⟨"FirstLanding$Row", "holds", "(II)Z"⟩, 2) := ⟨⟨by decide +kernel, by decide +kernel⟩, List.mem_of_getElem? (i := 119) (by decide +kernel), List.mem_of_getElem? (i := 228) (by decide +kernel), List.mem_of_getElem? (i := 229) (by decide +kernel)⟩
theorem lw_p4 : lw_okq (⟨"FirstLanding$Row", "total", "()J"⟩, 2) := ⟨⟨by decide +kernel, by decide +kernel⟩, List.mem_of_getElem? (i := 119) (by decide +kernel), List.mem_of_getElem? (i := 239) (by decide +kernel), List.mem_of_getElem? (i := 240) (by decide +kernel)⟩
theorem lw_p5 : lw_okq (⟨"FirstLanding", "textAt", "(I)LFirstLanding$Text;"⟩, 12) := ⟨⟨by decide +kernel, by decide +kernel⟩, List.mem_of_getElem? (i := 16) (by decide +kernel), List.mem_of_getElem? (i := 247) (by decide +kernel), List.mem_of_getElem? (i := 248) (by decide +kernel)⟩
theorem lw_p6 : lw_okq (⟨"FirstLanding$Text", "begin", "(I)V"⟩, 2) := ⟨⟨by decide +kernel, by decide +kernel⟩, List.mem_of_getElem? (i := 135) (by decide +kernel), List.mem_of_getElem? (i := 251) (by decide +kernel), List.mem_of_getElem? (i := 252) (by decide +kernel)⟩
theorem lw_p7 : lw_okq (⟨"FirstLanding$Reader", "read", "(LFirstLanding$Text;)I"⟩, 2) := ⟨⟨by decide +kernel, by decide +kernel⟩, List.mem_of_getElem? (i := 71) (by decide +kernel), List.mem_of_getElem? (i := 266) (by decide +kernel), List.mem_of_getElem? (i := 267) (by decide +kernel)⟩
theorem lw_p8 : lw_okq (⟨"FirstLanding$Reader", "skipBlanks", "(LFirstLanding$Text;)V"⟩, 2) := ⟨⟨by decide +kernel, by decide +kernel⟩, List.mem_of_getElem? (i := 71) (by decide +kernel), List.mem_of_getElem? (i := 270) (by decide +kernel), List.mem_of_getElem? (i := 271) (by decide +kernel)⟩
theorem lw_p9 : lw_okq (⟨"FirstLanding$Reader", "sign", "(LFirstLanding$Text;)I"⟩, 2) := ⟨⟨by decide +kernel, by decide +kernel⟩, List.mem_of_getElem? (i := 71) (by decide +kernel), List.mem_of_getElem? (i := 274) (by decide +kernel), List.mem_of_getElem? (i := 275) (by decide +kernel)⟩
theorem lw_p10 : lw_okq (⟨"FirstLanding$Embassy", "begin", "(I)V"⟩, 7) := ⟨⟨by decide +kernel, by decide +kernel⟩, List.mem_of_getElem? (i := 28) (by decide +kernel), List.mem_of_getElem? (i := 278) (by decide +kernel), List.mem_of_getElem? (i := 279) (by decide +kernel)⟩
theorem lw_p11 : lw_okq (⟨"FirstLanding$Reader", "readPerson", "(LFirstLanding$Text;I)Z"⟩, 2) := ⟨⟨by decide +kernel, by decide +kernel⟩, List.mem_of_getElem? (i := 71) (by decide +kernel), List.mem_of_getElem? (i := 282) (by decide +kernel), List.mem_of_getElem? (i := 283) (by decide +kernel)⟩
theorem lw_p12 : lw_okq (⟨"FirstLanding$Embassy", "become", "(LFirstLanding$Embassy;)V"⟩, 7) := ⟨⟨by decide +kernel, by decide +kernel⟩, List.mem_of_getElem? (i := 28) (by decide +kernel), List.mem_of_getElem? (i := 295) (by decide +kernel), List.mem_of_getElem? (i := 296) (by decide +kernel)⟩
theorem lw_p13 : lw_okq (⟨"FirstLanding$Embassy", "has", "(I)Z"⟩, 7) := ⟨⟨by decide +kernel, by decide +kernel⟩, List.mem_of_getElem? (i := 28) (by decide +kernel), List.mem_of_getElem? (i := 304) (by decide +kernel), List.mem_of_getElem? (i := 305) (by decide +kernel)⟩
theorem lw_p14 : lw_okq (⟨"FirstLanding$Embassy", "about", "(II)I"⟩, 7) := ⟨⟨by decide +kernel, by decide +kernel⟩, List.mem_of_getElem? (i := 28) (by decide +kernel), List.mem_of_getElem? (i := 308) (by decide +kernel), List.mem_of_getElem? (i := 309) (by decide +kernel)⟩
theorem lw_p15 : lw_okq (⟨"FirstLanding$Embassy", "seeming", "(II)I"⟩, 7) := ⟨⟨by decide +kernel, by decide +kernel⟩, List.mem_of_getElem? (i := 28) (by decide +kernel), List.mem_of_getElem? (i := 312) (by decide +kernel), List.mem_of_getElem? (i := 313) (by decide +kernel)⟩
def lw_privs_1 : List (MethodName × Nat) := [(⟨"FirstLanding", "rowAt", "(I)LFirstLanding$Row;"⟩, 12), (⟨"FirstLanding", "found", "(I)I"⟩, 12), (⟨"FirstLanding$Row", "begin", "(I)V"⟩, 2), (⟨"FirstLanding$Row", "holds", "(II)Z"⟩, 2), (⟨"FirstLanding$Row", "total", "()J"⟩, 2), (⟨"FirstLanding", "textAt", "(I)LFirstLanding$Text;"⟩, 12), (⟨"FirstLanding$Text", "begin", "(I)V"⟩, 2), (⟨"FirstLanding$Reader", "read", "(LFirstLanding$Text;)I"⟩, 2), (⟨"FirstLanding$Reader", "skipBlanks", "(LFirstLanding$Text;)V"⟩, 2), (⟨"FirstLanding$Reader", "sign", "(LFirstLanding$Text;)I"⟩, 2), (⟨"FirstLanding$Embassy", "begin", "(I)V"⟩, 7), (⟨"FirstLanding$Reader", "readPerson", "(LFirstLanding$Text;I)Z"⟩, 2), (⟨"FirstLanding$Embassy", "become", "(LFirstLanding$Embassy;)V"⟩, 7), (⟨"FirstLanding$Embassy", "has", "(I)Z"⟩, 7), (⟨"FirstLanding$Embassy", "about", "(II)I"⟩, 7), (⟨"FirstLanding$Embassy", "seeming", "(II)I"⟩, 7)]
theorem lw_r1 : ∀ q ∈ lw_privs_1, lw_okq q := List.forall_mem_cons.mpr ⟨lw_p0, List.forall_mem_cons.mpr ⟨lw_p1, List.forall_mem_cons.mpr ⟨lw_p2, List.forall_mem_cons.mpr ⟨lw_p3, List.forall_mem_cons.mpr ⟨lw_p4, List.forall_mem_cons.mpr ⟨lw_p5, List.forall_mem_cons.mpr ⟨lw_p6, List.forall_mem_cons.mpr ⟨lw_p7, List.forall_mem_cons.mpr ⟨lw_p8, List.forall_mem_cons.mpr ⟨lw_p9, List.forall_mem_cons.mpr ⟨lw_p10, List.forall_mem_cons.mpr ⟨lw_p11, List.forall_mem_cons.mpr ⟨lw_p12, List.forall_mem_cons.mpr ⟨lw_p13, List.forall_mem_cons.mpr ⟨lw_p14, List.forall_mem_cons.mpr ⟨lw_p15, fun _ h => absurd h List.not_mem_nil⟩⟩⟩⟩⟩⟩⟩⟩⟩⟩⟩⟩⟩⟩⟩⟩
theorem lw_p16 : lw_okq (⟨"FirstLanding$Embassy", "seemingAs", "(III)I"⟩, 7) := ⟨⟨by decide +kernel, by decide +kernel⟩, List.mem_of_getElem? (i := 28) (by decide +kernel), List.mem_of_getElem? (i := 316) (by decide +kernel), List.mem_of_getElem? (i := 317) (by decide +kernel)⟩
theorem lw_p17 : lw_okq (⟨"FirstLanding$Embassy", "look", "(II)I"⟩, 7) := ⟨⟨by decide +kernel, by decide +kernel⟩, List.mem_of_getElem? (i := 28) (by decide +kernel), List.mem_of_getElem? (i := 323) (by decide +kernel), List.mem_of_getElem? (i := 324) (by decide +kernel)⟩
theorem lw_p18 : lw_okq (⟨"FirstLanding$Embassy", "treatiesOf", "(I)I"⟩, 7) := ⟨⟨by decide +kernel, by decide +kernel⟩, List.mem_of_getElem? (i := 28) (by decide +kernel), List.mem_of_getElem? (i := 339) (by decide +kernel), List.mem_of_getElem? (i := 340) (by decide +kernel)⟩
theorem lw_p19 : lw_okq (⟨"FirstLanding$Embassy", "unmadeBy", "(I)I"⟩, 7) := ⟨⟨by decide +kernel, by decide +kernel⟩, List.mem_of_getElem? (i := 28) (by decide +kernel), List.mem_of_getElem? (i := 348) (by decide +kernel), List.mem_of_getElem? (i := 349) (by decide +kernel)⟩
theorem lw_p20 : lw_okq (⟨"FirstLanding$Embassy", "greatestTo", "(I)I"⟩, 7) := ⟨⟨by decide +kernel, by decide +kernel⟩, List.mem_of_getElem? (i := 28) (by decide +kernel), List.mem_of_getElem? (i := 366) (by decide +kernel), List.mem_of_getElem? (i := 367) (by decide +kernel)⟩
theorem lw_p21 : lw_okq (⟨"FirstLanding$Embassy", "leastTo", "(I)I"⟩, 7) := ⟨⟨by decide +kernel, by decide +kernel⟩, List.mem_of_getElem? (i := 28) (by decide +kernel), List.mem_of_getElem? (i := 370) (by decide +kernel), List.mem_of_getElem? (i := 371) (by decide +kernel)⟩
theorem lw_p22 : lw_okq (⟨"FirstLanding$Embassy", "howManyAre", "(I)I"⟩, 7) := ⟨⟨by decide +kernel, by decide +kernel⟩, List.mem_of_getElem? (i := 28) (by decide +kernel), List.mem_of_getElem? (i := 375) (by decide +kernel), List.mem_of_getElem? (i := 376) (by decide +kernel)⟩
theorem lw_p23 : lw_okq (⟨"FirstLanding$Embassy", "unmadeTo", "(I)I"⟩, 7) := ⟨⟨by decide +kernel, by decide +kernel⟩, List.mem_of_getElem? (i := 28) (by decide +kernel), List.mem_of_getElem? (i := 380) (by decide +kernel), List.mem_of_getElem? (i := 381) (by decide +kernel)⟩
theorem lw_p24 : lw_okq (⟨"FirstLanding$Embassy", "move", "(I)V"⟩, 7) := ⟨⟨by decide +kernel, by decide +kernel⟩, List.mem_of_getElem? (i := 28) (by decide +kernel), List.mem_of_getElem? (i := 388) (by decide +kernel), List.mem_of_getElem? (i := 389) (by decide +kernel)⟩
theorem lw_p25 : lw_okq (⟨"FirstLanding$Embassy", "note", "(III)V"⟩, 7) := ⟨⟨by decide +kernel, by decide +kernel⟩, List.mem_of_getElem? (i := 28) (by decide +kernel), List.mem_of_getElem? (i := 392) (by decide +kernel), List.mem_of_getElem? (i := 393) (by decide +kernel)⟩
theorem lw_p26 : lw_okq (⟨"FirstLanding$Embassy", "hasTwo", "(II)Z"⟩, 7) := ⟨⟨by decide +kernel, by decide +kernel⟩, List.mem_of_getElem? (i := 28) (by decide +kernel), List.mem_of_getElem? (i := 406) (by decide +kernel), List.mem_of_getElem? (i := 407) (by decide +kernel)⟩
theorem lw_p27 : lw_okq (⟨"FirstLanding$Embassy", "seeFirst", "(III)V"⟩, 7) := ⟨⟨by decide +kernel, by decide +kernel⟩, List.mem_of_getElem? (i := 28) (by decide +kernel), List.mem_of_getElem? (i := 411) (by decide +kernel), List.mem_of_getElem? (i := 412) (by decide +kernel)⟩
theorem lw_p28 : lw_okq (⟨"FirstLanding$Embassy", "unmade", "()I"⟩, 7) := ⟨⟨by decide +kernel, by decide +kernel⟩, List.mem_of_getElem? (i := 28) (by decide +kernel), List.mem_of_getElem? (i := 415) (by decide +kernel), List.mem_of_getElem? (i := 416) (by decide +kernel)⟩
theorem lw_p29 : lw_okq (⟨"FirstLanding$Embassy", "mayTreat", "(II)Z"⟩, 7) := ⟨⟨by decide +kernel, by decide +kernel⟩, List.mem_of_getElem? (i := 28) (by decide +kernel), List.mem_of_getElem? (i := 423) (by decide +kernel), List.mem_of_getElem? (i := 424) (by decide +kernel)⟩
theorem lw_p30 : lw_okq (⟨"FirstLanding$Embassy", "areAgreed", "(III)Z"⟩, 7) := ⟨⟨by decide +kernel, by decide +kernel⟩, List.mem_of_getElem? (i := 28) (by decide +kernel), List.mem_of_getElem? (i := 427) (by decide +kernel), List.mem_of_getElem? (i := 428) (by decide +kernel)⟩
theorem lw_p31 : lw_okq (⟨"FirstLanding$Embassy", "apart", "(III)I"⟩, 7) := ⟨⟨by decide +kernel, by decide +kernel⟩, List.mem_of_getElem? (i := 28) (by decide +kernel), List.mem_of_getElem? (i := 431) (by decide +kernel), List.mem_of_getElem? (i := 432) (by decide +kernel)⟩
def lw_privs_2 : List (MethodName × Nat) := [(⟨"FirstLanding$Embassy", "seemingAs", "(III)I"⟩, 7), (⟨"FirstLanding$Embassy", "look", "(II)I"⟩, 7), (⟨"FirstLanding$Embassy", "treatiesOf", "(I)I"⟩, 7), (⟨"FirstLanding$Embassy", "unmadeBy", "(I)I"⟩, 7), (⟨"FirstLanding$Embassy", "greatestTo", "(I)I"⟩, 7), (⟨"FirstLanding$Embassy", "leastTo", "(I)I"⟩, 7), (⟨"FirstLanding$Embassy", "howManyAre", "(I)I"⟩, 7), (⟨"FirstLanding$Embassy", "unmadeTo", "(I)I"⟩, 7), (⟨"FirstLanding$Embassy", "move", "(I)V"⟩, 7), (⟨"FirstLanding$Embassy", "note", "(III)V"⟩, 7), (⟨"FirstLanding$Embassy", "hasTwo", "(II)Z"⟩, 7), (⟨"FirstLanding$Embassy", "seeFirst", "(III)V"⟩, 7), (⟨"FirstLanding$Embassy", "unmade", "()I"⟩, 7), (⟨"FirstLanding$Embassy", "mayTreat", "(II)Z"⟩, 7), (⟨"FirstLanding$Embassy", "areAgreed", "(III)Z"⟩, 7), (⟨"FirstLanding$Embassy", "apart", "(III)I"⟩, 7)]
theorem lw_r2 : ∀ q ∈ lw_privs_2, lw_okq q := List.forall_mem_cons.mpr ⟨lw_p16, List.forall_mem_cons.mpr ⟨lw_p17, List.forall_mem_cons.mpr ⟨lw_p18, List.forall_mem_cons.mpr ⟨lw_p19, List.forall_mem_cons.mpr ⟨lw_p20, List.forall_mem_cons.mpr ⟨lw_p21, List.forall_mem_cons.mpr ⟨lw_p22, List.forall_mem_cons.mpr ⟨lw_p23, List.forall_mem_cons.mpr ⟨lw_p24, List.forall_mem_cons.mpr ⟨lw_p25, List.forall_mem_cons.mpr ⟨lw_p26, List.forall_mem_cons.mpr ⟨lw_p27, List.forall_mem_cons.mpr ⟨lw_p28, List.forall_mem_cons.mpr ⟨lw_p29, List.forall_mem_cons.mpr ⟨lw_p30, List.forall_mem_cons.mpr ⟨lw_p31, fun _ h => absurd h List.not_mem_nil⟩⟩⟩⟩⟩⟩⟩⟩⟩⟩⟩⟩⟩⟩⟩⟩
theorem lw_p32 : lw_okq (⟨"FirstLanding$Embassy", "bind", "(II)V"⟩, 7) := ⟨⟨by decide +kernel, by decide +kernel⟩, List.mem_of_getElem? (i := 28) (by decide +kernel), List.mem_of_getElem? (i := 438) (by decide +kernel), List.mem_of_getElem? (i := 439) (by decide +kernel)⟩
theorem lw_p33 : lw_okq (⟨"FirstLanding$Embassy", "backTo", "(I)V"⟩, 7) := ⟨⟨by decide +kernel, by decide +kernel⟩, List.mem_of_getElem? (i := 28) (by decide +kernel), List.mem_of_getElem? (i := 452) (by decide +kernel), List.mem_of_getElem? (i := 453) (by decide +kernel)⟩
theorem lw_p34 : lw_okq (⟨"FirstLanding", "keptAt", "(I)LFirstLanding$Embassy;"⟩, 12) := ⟨⟨by decide +kernel, by decide +kernel⟩, List.mem_of_getElem? (i := 16) (by decide +kernel), List.mem_of_getElem? (i := 461) (by decide +kernel), List.mem_of_getElem? (i := 462) (by decide +kernel)⟩
theorem lw_p35 : lw_okq (⟨"FirstLanding$Embassy", "hasSet", "(I)Z"⟩, 7) := ⟨⟨by decide +kernel, by decide +kernel⟩, List.mem_of_getElem? (i := 28) (by decide +kernel), List.mem_of_getElem? (i := 473) (by decide +kernel), List.mem_of_getElem? (i := 474) (by decide +kernel)⟩
theorem lw_p36 : lw_okq (⟨"FirstLanding$Embassy", "firstAgreeing", "(I)I"⟩, 7) := ⟨⟨by decide +kernel, by decide +kernel⟩, List.mem_of_getElem? (i := 28) (by decide +kernel), List.mem_of_getElem? (i := 487) (by decide +kernel), List.mem_of_getElem? (i := 488) (by decide +kernel)⟩
theorem lw_p37 : lw_okq (⟨"FirstLanding$Embassy", "agreeing", "(I)I"⟩, 7) := ⟨⟨by decide +kernel, by decide +kernel⟩, List.mem_of_getElem? (i := 28) (by decide +kernel), List.mem_of_getElem? (i := 491) (by decide +kernel), List.mem_of_getElem? (i := 492) (by decide +kernel)⟩
theorem lw_p38 : lw_okq (⟨"FirstLanding", "whyNoPairs", "(LFirstLanding$Row;)I"⟩, 12) := ⟨⟨by decide +kernel, by decide +kernel⟩, List.mem_of_getElem? (i := 16) (by decide +kernel), List.mem_of_getElem? (i := 512) (by decide +kernel), List.mem_of_getElem? (i := 513) (by decide +kernel)⟩
theorem lw_p39 : lw_okq (⟨"FirstLanding$Walk", "fewest", "(LFirstLanding$Embassy;LFirstLanding$Row;)I"⟩, 4) := ⟨⟨by decide +kernel, by decide +kernel⟩, List.mem_of_getElem? (i := 87) (by decide +kernel), List.mem_of_getElem? (i := 516) (by decide +kernel), List.mem_of_getElem? (i := 517) (by decide +kernel)⟩
theorem lw_p40 : lw_okq (⟨"FirstLanding$Walk", "learn", "(LFirstLanding$Embassy;LFirstLanding$Row;)V"⟩, 4) := ⟨⟨by decide +kernel, by decide +kernel⟩, List.mem_of_getElem? (i := 87) (by decide +kernel), List.mem_of_getElem? (i := 520) (by decide +kernel), List.mem_of_getElem? (i := 521) (by decide +kernel)⟩
theorem lw_p41 : lw_okq (⟨"FirstLanding$Meetings", "fewest", "(LFirstLanding$Embassy;III)I"⟩, 2) := ⟨⟨by decide +kernel, by decide +kernel⟩, List.mem_of_getElem? (i := 107) (by decide +kernel), List.mem_of_getElem? (i := 530) (by decide +kernel), List.mem_of_getElem? (i := 531) (by decide +kernel)⟩
theorem lw_p42 : lw_okq (⟨"FirstLanding$Meetings", "foldIn", "(IIZ)V"⟩, 2) := ⟨⟨by decide +kernel, by decide +kernel⟩, List.mem_of_getElem? (i := 107) (by decide +kernel), List.mem_of_getElem? (i := 537) (by decide +kernel), List.mem_of_getElem? (i := 538) (by decide +kernel)⟩
theorem lw_p43 : lw_okq (⟨"FirstLanding", "whyNoNotes", "(LFirstLanding$Row;)I"⟩, 12) := ⟨⟨by decide +kernel, by decide +kernel⟩, List.mem_of_getElem? (i := 16) (by decide +kernel), List.mem_of_getElem? (i := 549) (by decide +kernel), List.mem_of_getElem? (i := 550) (by decide +kernel)⟩
theorem lw_p44 : lw_okq (⟨"FirstLanding", "isNoted", "(IILFirstLanding$Row;)Z"⟩, 12) := ⟨⟨by decide +kernel, by decide +kernel⟩, List.mem_of_getElem? (i := 16) (by decide +kernel), List.mem_of_getElem? (i := 553) (by decide +kernel), List.mem_of_getElem? (i := 554) (by decide +kernel)⟩
theorem lw_p45 : lw_okq (⟨"FirstLanding", "sortsByKinds", "(II)I"⟩, 12) := ⟨⟨by decide +kernel, by decide +kernel⟩, List.mem_of_getElem? (i := 16) (by decide +kernel), List.mem_of_getElem? (i := 566) (by decide +kernel), List.mem_of_getElem? (i := 567) (by decide +kernel)⟩
theorem lw_p46 : lw_okq (⟨"FirstLanding$Embassy", "known", "(II)I"⟩, 7) := ⟨⟨by decide +kernel, by decide +kernel⟩, List.mem_of_getElem? (i := 28) (by decide +kernel), List.mem_of_getElem? (i := 574) (by decide +kernel), List.mem_of_getElem? (i := 575) (by decide +kernel)⟩
theorem lw_p47 : lw_okq (⟨"FirstLanding$Embassy", "seenBy", "(I)I"⟩, 7) := ⟨⟨by decide +kernel, by decide +kernel⟩, List.mem_of_getElem? (i := 28) (by decide +kernel), List.mem_of_getElem? (i := 578) (by decide +kernel), List.mem_of_getElem? (i := 579) (by decide +kernel)⟩
def lw_privs_3 : List (MethodName × Nat) := [(⟨"FirstLanding$Embassy", "bind", "(II)V"⟩, 7), (⟨"FirstLanding$Embassy", "backTo", "(I)V"⟩, 7), (⟨"FirstLanding", "keptAt", "(I)LFirstLanding$Embassy;"⟩, 12), (⟨"FirstLanding$Embassy", "hasSet", "(I)Z"⟩, 7), (⟨"FirstLanding$Embassy", "firstAgreeing", "(I)I"⟩, 7), (⟨"FirstLanding$Embassy", "agreeing", "(I)I"⟩, 7), (⟨"FirstLanding", "whyNoPairs", "(LFirstLanding$Row;)I"⟩, 12), (⟨"FirstLanding$Walk", "fewest", "(LFirstLanding$Embassy;LFirstLanding$Row;)I"⟩, 4), (⟨"FirstLanding$Walk", "learn", "(LFirstLanding$Embassy;LFirstLanding$Row;)V"⟩, 4), (⟨"FirstLanding$Meetings", "fewest", "(LFirstLanding$Embassy;III)I"⟩, 2), (⟨"FirstLanding$Meetings", "foldIn", "(IIZ)V"⟩, 2), (⟨"FirstLanding", "whyNoNotes", "(LFirstLanding$Row;)I"⟩, 12), (⟨"FirstLanding", "isNoted", "(IILFirstLanding$Row;)Z"⟩, 12), (⟨"FirstLanding", "sortsByKinds", "(II)I"⟩, 12), (⟨"FirstLanding$Embassy", "known", "(II)I"⟩, 7), (⟨"FirstLanding$Embassy", "seenBy", "(I)I"⟩, 7)]
theorem lw_r3 : ∀ q ∈ lw_privs_3, lw_okq q := List.forall_mem_cons.mpr ⟨lw_p32, List.forall_mem_cons.mpr ⟨lw_p33, List.forall_mem_cons.mpr ⟨lw_p34, List.forall_mem_cons.mpr ⟨lw_p35, List.forall_mem_cons.mpr ⟨lw_p36, List.forall_mem_cons.mpr ⟨lw_p37, List.forall_mem_cons.mpr ⟨lw_p38, List.forall_mem_cons.mpr ⟨lw_p39, List.forall_mem_cons.mpr ⟨lw_p40, List.forall_mem_cons.mpr ⟨lw_p41, List.forall_mem_cons.mpr ⟨lw_p42, List.forall_mem_cons.mpr ⟨lw_p43, List.forall_mem_cons.mpr ⟨lw_p44, List.forall_mem_cons.mpr ⟨lw_p45, List.forall_mem_cons.mpr ⟨lw_p46, List.forall_mem_cons.mpr ⟨lw_p47, fun _ h => absurd h List.not_mem_nil⟩⟩⟩⟩⟩⟩⟩⟩⟩⟩⟩⟩⟩⟩⟩⟩
theorem lw_p48 : lw_okq (⟨"FirstLanding$Embassy", "afterTurns", "(II)I"⟩, 7) := ⟨⟨by decide +kernel, by decide +kernel⟩, List.mem_of_getElem? (i := 28) (by decide +kernel), List.mem_of_getElem? (i := 590) (by decide +kernel), List.mem_of_getElem? (i := 591) (by decide +kernel)⟩
theorem lw_p49 : lw_okq (⟨"FirstLanding", "tellWeighed", "(III)V"⟩, 12) := ⟨⟨by decide +kernel, by decide +kernel⟩, List.mem_of_getElem? (i := 16) (by decide +kernel), List.mem_of_getElem? (i := 600) (by decide +kernel), List.mem_of_getElem? (i := 601) (by decide +kernel)⟩
theorem lw_p50 : lw_okq (⟨"FirstLanding", "tellRatio", "(JJ)V"⟩, 12) := ⟨⟨by decide +kernel, by decide +kernel⟩, List.mem_of_getElem? (i := 16) (by decide +kernel), List.mem_of_getElem? (i := 608) (by decide +kernel), List.mem_of_getElem? (i := 609) (by decide +kernel)⟩
theorem lw_p51 : lw_okq (⟨"FirstLanding$Embassy", "doByLot", "(I)V"⟩, 7) := ⟨⟨by decide +kernel, by decide +kernel⟩, List.mem_of_getElem? (i := 28) (by decide +kernel), List.mem_of_getElem? (i := 622) (by decide +kernel), List.mem_of_getElem? (i := 623) (by decide +kernel)⟩
theorem lw_p52 : lw_okq (⟨"FirstLanding", "howMany", "(I)I"⟩, 12) := ⟨⟨by decide +kernel, by decide +kernel⟩, List.mem_of_getElem? (i := 16) (by decide +kernel), List.mem_of_getElem? (i := 645) (by decide +kernel), List.mem_of_getElem? (i := 646) (by decide +kernel)⟩
theorem lw_p53 : lw_okq (⟨"FirstLanding", "rowsThere", "()I"⟩, 12) := ⟨⟨by decide +kernel, by decide +kernel⟩, List.mem_of_getElem? (i := 16) (by decide +kernel), List.mem_of_getElem? (i := 649) (by decide +kernel), List.mem_of_getElem? (i := 650) (by decide +kernel)⟩
theorem lw_p54 : lw_okq (⟨"FirstLanding", "textsThere", "()I"⟩, 12) := ⟨⟨by decide +kernel, by decide +kernel⟩, List.mem_of_getElem? (i := 16) (by decide +kernel), List.mem_of_getElem? (i := 653) (by decide +kernel), List.mem_of_getElem? (i := 654) (by decide +kernel)⟩
theorem lw_p55 : lw_okq (⟨"FirstLanding", "embassiesKept", "()I"⟩, 12) := ⟨⟨by decide +kernel, by decide +kernel⟩, List.mem_of_getElem? (i := 16) (by decide +kernel), List.mem_of_getElem? (i := 657) (by decide +kernel), List.mem_of_getElem? (i := 658) (by decide +kernel)⟩
theorem lw_p56 : lw_okq (⟨"FirstLanding$Embassy", "digestedAfter", "(J)J"⟩, 7) := ⟨⟨by decide +kernel, by decide +kernel⟩, List.mem_of_getElem? (i := 28) (by decide +kernel), List.mem_of_getElem? (i := 675) (by decide +kernel), List.mem_of_getElem? (i := 676) (by decide +kernel)⟩
theorem lw_p57 : lw_okq (⟨"FirstLanding$Row", "digestedAfter", "(J)J"⟩, 2) := ⟨⟨by decide +kernel, by decide +kernel⟩, List.mem_of_getElem? (i := 119) (by decide +kernel), List.mem_of_getElem? (i := 681) (by decide +kernel), List.mem_of_getElem? (i := 682) (by decide +kernel)⟩
theorem lw_p58 : lw_okq (⟨"FirstLanding$Text", "digestedAfter", "(J)J"⟩, 2) := ⟨⟨by decide +kernel, by decide +kernel⟩, List.mem_of_getElem? (i := 135) (by decide +kernel), List.mem_of_getElem? (i := 686) (by decide +kernel), List.mem_of_getElem? (i := 687) (by decide +kernel)⟩
theorem lw_p59 : lw_okq (⟨"FirstLandingModel", "found", "(I)I"⟩, 21) := ⟨⟨by decide +kernel, by decide +kernel⟩, List.mem_of_getElem? (i := 691) (by decide +kernel), List.mem_of_getElem? (i := 773) (by decide +kernel), List.mem_of_getElem? (i := 774) (by decide +kernel)⟩
theorem lw_p60 : lw_okq (⟨"FirstLandingModel", "tell", "(I)I"⟩, 21) := ⟨⟨by decide +kernel, by decide +kernel⟩, List.mem_of_getElem? (i := 691) (by decide +kernel), List.mem_of_getElem? (i := 781) (by decide +kernel), List.mem_of_getElem? (i := 782) (by decide +kernel)⟩
theorem lw_p61 : lw_okq (⟨"FirstLandingModel", "faultOf", "(I)I"⟩, 21) := ⟨⟨by decide +kernel, by decide +kernel⟩, List.mem_of_getElem? (i := 691) (by decide +kernel), List.mem_of_getElem? (i := 817) (by decide +kernel), List.mem_of_getElem? (i := 818) (by decide +kernel)⟩
theorem lw_p62 : lw_okq (⟨"FirstLandingModel", "blanks", "(I)V"⟩, 21) := ⟨⟨by decide +kernel, by decide +kernel⟩, List.mem_of_getElem? (i := 691) (by decide +kernel), List.mem_of_getElem? (i := 821) (by decide +kernel), List.mem_of_getElem? (i := 822) (by decide +kernel)⟩
theorem lw_p63 : lw_okq (⟨"FirstLandingModel", "here", "(I)I"⟩, 21) := ⟨⟨by decide +kernel, by decide +kernel⟩, List.mem_of_getElem? (i := 691) (by decide +kernel), List.mem_of_getElem? (i := 825) (by decide +kernel), List.mem_of_getElem? (i := 826) (by decide +kernel)⟩
def lw_privs_4 : List (MethodName × Nat) := [(⟨"FirstLanding$Embassy", "afterTurns", "(II)I"⟩, 7), (⟨"FirstLanding", "tellWeighed", "(III)V"⟩, 12), (⟨"FirstLanding", "tellRatio", "(JJ)V"⟩, 12), (⟨"FirstLanding$Embassy", "doByLot", "(I)V"⟩, 7), (⟨"FirstLanding", "howMany", "(I)I"⟩, 12), (⟨"FirstLanding", "rowsThere", "()I"⟩, 12), (⟨"FirstLanding", "textsThere", "()I"⟩, 12), (⟨"FirstLanding", "embassiesKept", "()I"⟩, 12), (⟨"FirstLanding$Embassy", "digestedAfter", "(J)J"⟩, 7), (⟨"FirstLanding$Row", "digestedAfter", "(J)J"⟩, 2), (⟨"FirstLanding$Text", "digestedAfter", "(J)J"⟩, 2), (⟨"FirstLandingModel", "found", "(I)I"⟩, 21), (⟨"FirstLandingModel", "tell", "(I)I"⟩, 21), (⟨"FirstLandingModel", "faultOf", "(I)I"⟩, 21), (⟨"FirstLandingModel", "blanks", "(I)V"⟩, 21), (⟨"FirstLandingModel", "here", "(I)I"⟩, 21)]
theorem lw_r4 : ∀ q ∈ lw_privs_4, lw_okq q := List.forall_mem_cons.mpr ⟨lw_p48, List.forall_mem_cons.mpr ⟨lw_p49, List.forall_mem_cons.mpr ⟨lw_p50, List.forall_mem_cons.mpr ⟨lw_p51, List.forall_mem_cons.mpr ⟨lw_p52, List.forall_mem_cons.mpr ⟨lw_p53, List.forall_mem_cons.mpr ⟨lw_p54, List.forall_mem_cons.mpr ⟨lw_p55, List.forall_mem_cons.mpr ⟨lw_p56, List.forall_mem_cons.mpr ⟨lw_p57, List.forall_mem_cons.mpr ⟨lw_p58, List.forall_mem_cons.mpr ⟨lw_p59, List.forall_mem_cons.mpr ⟨lw_p60, List.forall_mem_cons.mpr ⟨lw_p61, List.forall_mem_cons.mpr ⟨lw_p62, List.forall_mem_cons.mpr ⟨lw_p63, fun _ h => absurd h List.not_mem_nil⟩⟩⟩⟩⟩⟩⟩⟩⟩⟩⟩⟩⟩⟩⟩⟩
theorem lw_p64 : lw_okq (⟨"FirstLandingModel", "isPersonRead", "(II)Z"⟩, 21) := ⟨⟨by decide +kernel, by decide +kernel⟩, List.mem_of_getElem? (i := 691) (by decide +kernel), List.mem_of_getElem? (i := 831) (by decide +kernel), List.mem_of_getElem? (i := 832) (by decide +kernel)⟩
theorem lw_p65 : lw_okq (⟨"FirstLandingModel", "isPerson", "(I)Z"⟩, 21) := ⟨⟨by decide +kernel, by decide +kernel⟩, List.mem_of_getElem? (i := 691) (by decide +kernel), List.mem_of_getElem? (i := 851) (by decide +kernel), List.mem_of_getElem? (i := 852) (by decide +kernel)⟩
theorem lw_p66 : lw_okq (⟨"FirstLandingModel", "told", "(II)I"⟩, 21) := ⟨⟨by decide +kernel, by decide +kernel⟩, List.mem_of_getElem? (i := 691) (by decide +kernel), List.mem_of_getElem? (i := 856) (by decide +kernel), List.mem_of_getElem? (i := 857) (by decide +kernel)⟩
theorem lw_p67 : lw_okq (⟨"FirstLandingModel", "seem", "(II)I"⟩, 21) := ⟨⟨by decide +kernel, by decide +kernel⟩, List.mem_of_getElem? (i := 691) (by decide +kernel), List.mem_of_getElem? (i := 863) (by decide +kernel), List.mem_of_getElem? (i := 864) (by decide +kernel)⟩
theorem lw_p68 : lw_okq (⟨"FirstLandingModel", "seemsAs", "(III)I"⟩, 21) := ⟨⟨by decide +kernel, by decide +kernel⟩, List.mem_of_getElem? (i := 691) (by decide +kernel), List.mem_of_getElem? (i := 867) (by decide +kernel), List.mem_of_getElem? (i := 868) (by decide +kernel)⟩
theorem lw_p69 : lw_okq (⟨"FirstLandingModel", "look", "(II)I"⟩, 21) := ⟨⟨by decide +kernel, by decide +kernel⟩, List.mem_of_getElem? (i := 691) (by decide +kernel), List.mem_of_getElem? (i := 872) (by decide +kernel), List.mem_of_getElem? (i := 873) (by decide +kernel)⟩
theorem lw_p70 : lw_okq (⟨"FirstLandingModel", "treatiesOf", "(I)I"⟩, 21) := ⟨⟨by decide +kernel, by decide +kernel⟩, List.mem_of_getElem? (i := 691) (by decide +kernel), List.mem_of_getElem? (i := 879) (by decide +kernel), List.mem_of_getElem? (i := 880) (by decide +kernel)⟩
theorem lw_p71 : lw_okq (⟨"FirstLandingModel", "unmetBy", "(I)I"⟩, 21) := ⟨⟨by decide +kernel, by decide +kernel⟩, List.mem_of_getElem? (i := 691) (by decide +kernel), List.mem_of_getElem? (i := 883) (by decide +kernel), List.mem_of_getElem? (i := 884) (by decide +kernel)⟩
theorem lw_p72 : lw_okq (⟨"FirstLandingModel", "extreme", "(IZ)I"⟩, 21) := ⟨⟨by decide +kernel, by decide +kernel⟩, List.mem_of_getElem? (i := 691) (by decide +kernel), List.mem_of_getElem? (i := 898) (by decide +kernel), List.mem_of_getElem? (i := 899) (by decide +kernel)⟩
theorem lw_p73 : lw_okq (⟨"FirstLandingModel", "kindsOf", "(I)I"⟩, 21) := ⟨⟨by decide +kernel, by decide +kernel⟩, List.mem_of_getElem? (i := 691) (by decide +kernel), List.mem_of_getElem? (i := 902) (by decide +kernel), List.mem_of_getElem? (i := 903) (by decide +kernel)⟩
theorem lw_p74 : lw_okq (⟨"FirstLandingModel", "unmetTo", "(I)I"⟩, 21) := ⟨⟨by decide +kernel, by decide +kernel⟩, List.mem_of_getElem? (i := 691) (by decide +kernel), List.mem_of_getElem? (i := 906) (by decide +kernel), List.mem_of_getElem? (i := 907) (by decide +kernel)⟩
theorem lw_p75 : lw_okq (⟨"FirstLandingModel", "done", "()I"⟩, 21) := ⟨⟨by decide +kernel, by decide +kernel⟩, List.mem_of_getElem? (i := 691) (by decide +kernel), List.mem_of_getElem? (i := 914) (by decide +kernel), List.mem_of_getElem? (i := 915) (by decide +kernel)⟩
theorem lw_p76 : lw_okq (⟨"FirstLandingModel", "steps0", "(I)V"⟩, 21) := ⟨⟨by decide +kernel, by decide +kernel⟩, List.mem_of_getElem? (i := 691) (by decide +kernel), List.mem_of_getElem? (i := 918) (by decide +kernel), List.mem_of_getElem? (i := 919) (by decide +kernel)⟩
theorem lw_p77 : lw_okq (⟨"FirstLandingModel", "remember", "(III)V"⟩, 21) := ⟨⟨by decide +kernel, by decide +kernel⟩, List.mem_of_getElem? (i := 691) (by decide +kernel), List.mem_of_getElem? (i := 922) (by decide +kernel), List.mem_of_getElem? (i := 923) (by decide +kernel)⟩
theorem lw_p78 : lw_okq (⟨"FirstLandingModel", "unmet", "()I"⟩, 21) := ⟨⟨by decide +kernel, by decide +kernel⟩, List.mem_of_getElem? (i := 691) (by decide +kernel), List.mem_of_getElem? (i := 934) (by decide +kernel), List.mem_of_getElem? (i := 935) (by decide +kernel)⟩
theorem lw_p79 : lw_okq (⟨"FirstLandingModel", "mayTreat", "(II)Z"⟩, 21) := ⟨⟨by decide +kernel, by decide +kernel⟩, List.mem_of_getElem? (i := 691) (by decide +kernel), List.mem_of_getElem? (i := 942) (by decide +kernel), List.mem_of_getElem? (i := 943) (by decide +kernel)⟩
def lw_privs_5 : List (MethodName × Nat) := [(⟨"FirstLandingModel", "isPersonRead", "(II)Z"⟩, 21), (⟨"FirstLandingModel", "isPerson", "(I)Z"⟩, 21), (⟨"FirstLandingModel", "told", "(II)I"⟩, 21), (⟨"FirstLandingModel", "seem", "(II)I"⟩, 21), (⟨"FirstLandingModel", "seemsAs", "(III)I"⟩, 21), (⟨"FirstLandingModel", "look", "(II)I"⟩, 21), (⟨"FirstLandingModel", "treatiesOf", "(I)I"⟩, 21), (⟨"FirstLandingModel", "unmetBy", "(I)I"⟩, 21), (⟨"FirstLandingModel", "extreme", "(IZ)I"⟩, 21), (⟨"FirstLandingModel", "kindsOf", "(I)I"⟩, 21), (⟨"FirstLandingModel", "unmetTo", "(I)I"⟩, 21), (⟨"FirstLandingModel", "done", "()I"⟩, 21), (⟨"FirstLandingModel", "steps0", "(I)V"⟩, 21), (⟨"FirstLandingModel", "remember", "(III)V"⟩, 21), (⟨"FirstLandingModel", "unmet", "()I"⟩, 21), (⟨"FirstLandingModel", "mayTreat", "(II)Z"⟩, 21)]
theorem lw_r5 : ∀ q ∈ lw_privs_5, lw_okq q := List.forall_mem_cons.mpr ⟨lw_p64, List.forall_mem_cons.mpr ⟨lw_p65, List.forall_mem_cons.mpr ⟨lw_p66, List.forall_mem_cons.mpr ⟨lw_p67, List.forall_mem_cons.mpr ⟨lw_p68, List.forall_mem_cons.mpr ⟨lw_p69, List.forall_mem_cons.mpr ⟨lw_p70, List.forall_mem_cons.mpr ⟨lw_p71, List.forall_mem_cons.mpr ⟨lw_p72, List.forall_mem_cons.mpr ⟨lw_p73, List.forall_mem_cons.mpr ⟨lw_p74, List.forall_mem_cons.mpr ⟨lw_p75, List.forall_mem_cons.mpr ⟨lw_p76, List.forall_mem_cons.mpr ⟨lw_p77, List.forall_mem_cons.mpr ⟨lw_p78, List.forall_mem_cons.mpr ⟨lw_p79, fun _ h => absurd h List.not_mem_nil⟩⟩⟩⟩⟩⟩⟩⟩⟩⟩⟩⟩⟩⟩⟩⟩
theorem lw_p80 : lw_okq (⟨"FirstLandingModel", "doAgree", "(III)Z"⟩, 21) := ⟨⟨by decide +kernel, by decide +kernel⟩, List.mem_of_getElem? (i := 691) (by decide +kernel), List.mem_of_getElem? (i := 946) (by decide +kernel), List.mem_of_getElem? (i := 947) (by decide +kernel)⟩
theorem lw_p81 : lw_okq (⟨"FirstLandingModel", "treats", "(II)V"⟩, 21) := ⟨⟨by decide +kernel, by decide +kernel⟩, List.mem_of_getElem? (i := 691) (by decide +kernel), List.mem_of_getElem? (i := 953) (by decide +kernel), List.mem_of_getElem? (i := 954) (by decide +kernel)⟩
theorem lw_p82 : lw_okq (⟨"FirstLandingModel", "signs", "(III)V"⟩, 21) := ⟨⟨by decide +kernel, by decide +kernel⟩, List.mem_of_getElem? (i := 691) (by decide +kernel), List.mem_of_getElem? (i := 957) (by decide +kernel), List.mem_of_getElem? (i := 958) (by decide +kernel)⟩
theorem lw_p83 : lw_okq (⟨"FirstLandingModel", "treaties", "()I"⟩, 21) := ⟨⟨by decide +kernel, by decide +kernel⟩, List.mem_of_getElem? (i := 691) (by decide +kernel), List.mem_of_getElem? (i := 961) (by decide +kernel), List.mem_of_getElem? (i := 962) (by decide +kernel)⟩
theorem lw_p84 : lw_okq (⟨"FirstLandingModel", "undoes", "()V"⟩, 21) := ⟨⟨by decide +kernel, by decide +kernel⟩, List.mem_of_getElem? (i := 691) (by decide +kernel), List.mem_of_getElem? (i := 969) (by decide +kernel), List.mem_of_getElem? (i := 970) (by decide +kernel)⟩
theorem lw_p85 : lw_okq (⟨"FirstLandingModel", "isSet", "(I)Z"⟩, 21) := ⟨⟨by decide +kernel, by decide +kernel⟩, List.mem_of_getElem? (i := 691) (by decide +kernel), List.mem_of_getElem? (i := 986) (by decide +kernel), List.mem_of_getElem? (i := 987) (by decide +kernel)⟩
theorem lw_p86 : lw_okq (⟨"FirstLandingModel", "thereOf", "(I)I"⟩, 21) := ⟨⟨by decide +kernel, by decide +kernel⟩, List.mem_of_getElem? (i := 691) (by decide +kernel), List.mem_of_getElem? (i := 994) (by decide +kernel), List.mem_of_getElem? (i := 995) (by decide +kernel)⟩
theorem lw_p87 : lw_okq (⟨"FirstLandingModel", "pairs", "(I)I"⟩, 21) := ⟨⟨by decide +kernel, by decide +kernel⟩, List.mem_of_getElem? (i := 691) (by decide +kernel), List.mem_of_getElem? (i := 1002) (by decide +kernel), List.mem_of_getElem? (i := 1003) (by decide +kernel)⟩
theorem lw_p88 : lw_okq (⟨"FirstLandingModel", "answer", "(II)I"⟩, 21) := ⟨⟨by decide +kernel, by decide +kernel⟩, List.mem_of_getElem? (i := 691) (by decide +kernel), List.mem_of_getElem? (i := 1006) (by decide +kernel), List.mem_of_getElem? (i := 1007) (by decide +kernel)⟩
theorem lw_p89 : lw_okq (⟨"FirstLandingModel", "arePairs", "(I)Z"⟩, 21) := ⟨⟨by decide +kernel, by decide +kernel⟩, List.mem_of_getElem? (i := 691) (by decide +kernel), List.mem_of_getElem? (i := 1027) (by decide +kernel), List.mem_of_getElem? (i := 1028) (by decide +kernel)⟩
theorem lw_p90 : lw_okq (⟨"FirstLandingModel", "layAgreed", "(II)V"⟩, 21) := ⟨⟨by decide +kernel, by decide +kernel⟩, List.mem_of_getElem? (i := 691) (by decide +kernel), List.mem_of_getElem? (i := 1031) (by decide +kernel), List.mem_of_getElem? (i := 1032) (by decide +kernel)⟩
theorem lw_p91 : lw_okq (⟨"FirstLandingModel", "layFar", "(I)V"⟩, 21) := ⟨⟨by decide +kernel, by decide +kernel⟩, List.mem_of_getElem? (i := 691) (by decide +kernel), List.mem_of_getElem? (i := 1035) (by decide +kernel), List.mem_of_getElem? (i := 1036) (by decide +kernel)⟩
theorem lw_p92 : lw_okq (⟨"FirstLandingModel", "wrongNotes", "(I)I"⟩, 21) := ⟨⟨by decide +kernel, by decide +kernel⟩, List.mem_of_getElem? (i := 691) (by decide +kernel), List.mem_of_getElem? (i := 1047) (by decide +kernel), List.mem_of_getElem? (i := 1048) (by decide +kernel)⟩
theorem lw_p93 : lw_okq (⟨"FirstLandingModel", "isSo", "(III)Z"⟩, 21) := ⟨⟨by decide +kernel, by decide +kernel⟩, List.mem_of_getElem? (i := 691) (by decide +kernel), List.mem_of_getElem? (i := 1051) (by decide +kernel), List.mem_of_getElem? (i := 1052) (by decide +kernel)⟩
theorem lw_p94 : lw_okq (⟨"FirstLandingModel", "knownBy", "(II)I"⟩, 21) := ⟨⟨by decide +kernel, by decide +kernel⟩, List.mem_of_getElem? (i := 691) (by decide +kernel), List.mem_of_getElem? (i := 1067) (by decide +kernel), List.mem_of_getElem? (i := 1068) (by decide +kernel)⟩
theorem lw_p95 : lw_okq (⟨"FirstLandingModel", "beginsStep", "(I)V"⟩, 21) := ⟨⟨by decide +kernel, by decide +kernel⟩, List.mem_of_getElem? (i := 691) (by decide +kernel), List.mem_of_getElem? (i := 1079) (by decide +kernel), List.mem_of_getElem? (i := 1080) (by decide +kernel)⟩
def lw_privs_6 : List (MethodName × Nat) := [(⟨"FirstLandingModel", "doAgree", "(III)Z"⟩, 21), (⟨"FirstLandingModel", "treats", "(II)V"⟩, 21), (⟨"FirstLandingModel", "signs", "(III)V"⟩, 21), (⟨"FirstLandingModel", "treaties", "()I"⟩, 21), (⟨"FirstLandingModel", "undoes", "()V"⟩, 21), (⟨"FirstLandingModel", "isSet", "(I)Z"⟩, 21), (⟨"FirstLandingModel", "thereOf", "(I)I"⟩, 21), (⟨"FirstLandingModel", "pairs", "(I)I"⟩, 21), (⟨"FirstLandingModel", "answer", "(II)I"⟩, 21), (⟨"FirstLandingModel", "arePairs", "(I)Z"⟩, 21), (⟨"FirstLandingModel", "layAgreed", "(II)V"⟩, 21), (⟨"FirstLandingModel", "layFar", "(I)V"⟩, 21), (⟨"FirstLandingModel", "wrongNotes", "(I)I"⟩, 21), (⟨"FirstLandingModel", "isSo", "(III)Z"⟩, 21), (⟨"FirstLandingModel", "knownBy", "(II)I"⟩, 21), (⟨"FirstLandingModel", "beginsStep", "(I)V"⟩, 21)]
theorem lw_r6 : ∀ q ∈ lw_privs_6, lw_okq q := List.forall_mem_cons.mpr ⟨lw_p80, List.forall_mem_cons.mpr ⟨lw_p81, List.forall_mem_cons.mpr ⟨lw_p82, List.forall_mem_cons.mpr ⟨lw_p83, List.forall_mem_cons.mpr ⟨lw_p84, List.forall_mem_cons.mpr ⟨lw_p85, List.forall_mem_cons.mpr ⟨lw_p86, List.forall_mem_cons.mpr ⟨lw_p87, List.forall_mem_cons.mpr ⟨lw_p88, List.forall_mem_cons.mpr ⟨lw_p89, List.forall_mem_cons.mpr ⟨lw_p90, List.forall_mem_cons.mpr ⟨lw_p91, List.forall_mem_cons.mpr ⟨lw_p92, List.forall_mem_cons.mpr ⟨lw_p93, List.forall_mem_cons.mpr ⟨lw_p94, List.forall_mem_cons.mpr ⟨lw_p95, fun _ h => absurd h List.not_mem_nil⟩⟩⟩⟩⟩⟩⟩⟩⟩⟩⟩⟩⟩⟩⟩⟩
theorem lw_p96 : lw_okq (⟨"FirstLandingModel", "weighs", "(II)V"⟩, 21) := ⟨⟨by decide +kernel, by decide +kernel⟩, List.mem_of_getElem? (i := 691) (by decide +kernel), List.mem_of_getElem? (i := 1083) (by decide +kernel), List.mem_of_getElem? (i := 1084) (by decide +kernel)⟩
theorem lw_p97 : lw_okq (⟨"FirstLandingModel", "sends", "(I)Z"⟩, 21) := ⟨⟨by decide +kernel, by decide +kernel⟩, List.mem_of_getElem? (i := 691) (by decide +kernel), List.mem_of_getElem? (i := 1087) (by decide +kernel), List.mem_of_getElem? (i := 1088) (by decide +kernel)⟩
theorem lw_p98 : lw_okq (⟨"FirstLandingModel", "chance", "(IIZ)I"⟩, 21) := ⟨⟨by decide +kernel, by decide +kernel⟩, List.mem_of_getElem? (i := 691) (by decide +kernel), List.mem_of_getElem? (i := 1095) (by decide +kernel), List.mem_of_getElem? (i := 1096) (by decide +kernel)⟩
theorem lw_p99 : lw_okq (⟨"FirstLandingModel", "weighed", "(IIZ)I"⟩, 21) := ⟨⟨by decide +kernel, by decide +kernel⟩, List.mem_of_getElem? (i := 691) (by decide +kernel), List.mem_of_getElem? (i := 1100) (by decide +kernel), List.mem_of_getElem? (i := 1101) (by decide +kernel)⟩
theorem lw_p100 : lw_okq (⟨"FirstLandingModel", "fraction", "(JJ)I"⟩, 21) := ⟨⟨by decide +kernel, by decide +kernel⟩, List.mem_of_getElem? (i := 691) (by decide +kernel), List.mem_of_getElem? (i := 1104) (by decide +kernel), List.mem_of_getElem? (i := 1105) (by decide +kernel)⟩
theorem lw_p101 : lw_okq (⟨"FirstLandingModel", "counted", "(I)I"⟩, 21) := ⟨⟨by decide +kernel, by decide +kernel⟩, List.mem_of_getElem? (i := 691) (by decide +kernel), List.mem_of_getElem? (i := 1137) (by decide +kernel), List.mem_of_getElem? (i := 1138) (by decide +kernel)⟩
def lw_privs_7 : List (MethodName × Nat) := [(⟨"FirstLandingModel", "weighs", "(II)V"⟩, 21), (⟨"FirstLandingModel", "sends", "(I)Z"⟩, 21), (⟨"FirstLandingModel", "chance", "(IIZ)I"⟩, 21), (⟨"FirstLandingModel", "weighed", "(IIZ)I"⟩, 21), (⟨"FirstLandingModel", "fraction", "(JJ)I"⟩, 21), (⟨"FirstLandingModel", "counted", "(I)I"⟩, 21)]
theorem lw_r7 : ∀ q ∈ lw_privs_7, lw_okq q := List.forall_mem_cons.mpr ⟨lw_p96, List.forall_mem_cons.mpr ⟨lw_p97, List.forall_mem_cons.mpr ⟨lw_p98, List.forall_mem_cons.mpr ⟨lw_p99, List.forall_mem_cons.mpr ⟨lw_p100, List.forall_mem_cons.mpr ⟨lw_p101, fun _ h => absurd h List.not_mem_nil⟩⟩⟩⟩⟩⟩
def lw_privs : List (MethodName × Nat) := lw_privs_1 ++ (lw_privs_2 ++ (lw_privs_3 ++ (lw_privs_4 ++ (lw_privs_5 ++ (lw_privs_6 ++ (lw_privs_7))))))
def lw_tbl : List Cond := k2_sels lw_privs ++ tables_1
theorem lw_privs_ok : ∀ q ∈ lw_privs, lw_okq q := by
  show ∀ q ∈ lw_privs_1 ++ (lw_privs_2 ++ (lw_privs_3 ++ (lw_privs_4 ++ (lw_privs_5 ++ (lw_privs_6 ++ (lw_privs_7)))))), lw_okq q
  exact List.forall_mem_append.mpr ⟨lw_r1, List.forall_mem_append.mpr ⟨lw_r2, List.forall_mem_append.mpr ⟨lw_r3, List.forall_mem_append.mpr ⟨lw_r4, List.forall_mem_append.mpr ⟨lw_r5, List.forall_mem_append.mpr ⟨lw_r6, lw_r7⟩⟩⟩⟩⟩⟩
end
section
/-! THE SMALL MACHINE: bytecode over a logical heap (cells in the order in which they were made), as a function with fuel. A value `.ref k` is the k-th cell made since the law began, `.retAddr n` the n-th array that was there before (0 the script, 1 LETTERS, 2 PARENTS). -/
abbrev mC : Type := Nat × List Value
abbrev mH : Type := List mC
abbrev mL : Type := List (Option Value)
abbrev mE : Type := Nat × Instr × Nat × List Int
abbrev mG : Type := Nat × mL × List Value × mH
abbrev mR : Type := Option Value × mH
/-- what a logical value is on the machine -/
def mSh (b : Nat) (x : Nat → Nat) : Value → Value
  | .ref k => .ref (b + k)
  | .retAddr n => .ref (x n)
  | v => v
theorem mSh_cat (b : Nat) (x : Nat → Nat) (v : Value) : (mSh b x v).category = v.category := by cases v <;> rfl
theorem mSh_int (b : Nat) (x : Nat → Nat) (v : Int32) : mSh b x (.int v) = .int v := rfl
theorem mSh_long (b : Nat) (x : Nat → Nat) (v : Int64) : mSh b x (.long v) = .long v := rfl
def mIsI : Value → Bool
  | .int _ => true
  | _ => false
def mIsJ : Value → Bool
  | .long _ => true
  | _ => false
def mIsA : Value → Bool
  | .ref _ => true
  | .null => true
  | .retAddr _ => true
  | _ => false
/-- the locals -/
def mKill (L : mL) (k : Nat) : mL := match k with
  | 0 => L
  | j + 1 => match L[j]? with
    | some (some v) => if v.category = 2 then L.set j none else L
    | _ => L
def mS1 (L : mL) (k : Nat) (v : Value) : mL := (mKill L k).set k (some v)
def mS2 (L : mL) (k : Nat) (v : Value) : mL := ((mKill L k).set k (some v)).set (k + 1) none
def mAs (f : Value → Value) (L : mL) : List (Nat × Value) := L.zipIdx.filterMap (fun q => q.1.map (fun v => (q.2, f v)))
theorem mAs_mem {f : Value → Value} {L : mL} {k : Nat} {w : Value} : (k, w) ∈ mAs f L ↔ ∃ v, L[k]? = some (some v) ∧ f v = w := by
  unfold mAs
  rw [List.mem_filterMap]
  constructor
  · rintro ⟨⟨o, j⟩, h1, h2⟩
    cases o with
    | none => cases h2
    | some v =>
      have h3 : (j, f v) = (k, w) := Option.some.inj h2
      cases h3
      exact ⟨v, List.mem_zipIdx_iff_getElem?.mp h1, rfl⟩
  · rintro ⟨v, h1, rfl⟩
    exact ⟨(some v, k), List.mem_zipIdx_iff_getElem?.mpr h1, rfl⟩
theorem mAs_at {f : Value → Value} {L : mL} {ls : Array Slot} {n k : Nat} {v : Value} (h : lv_has ls n (mAs f L)) (hk : L[k]? = some (some v)) : ls[k]? = some (.val (f v)) := h.2.2 (k, f v) (mAs_mem.mpr ⟨v, hk, rfl⟩)
theorem lv_mono {ls : Array Slot} {n : Nat} {l l' : List (Nat × Value)} (h : lv_has ls n l) (hl : ∀ q ∈ l', q ∈ l) : lv_has ls n l' := ⟨h.1, h.2.1, fun q hq => h.2.2 q (hl q hq)⟩
theorem mKill_len (L : mL) (k : Nat) : (mKill L k).length = L.length := by
  unfold mKill
  cases k with
  | zero => rfl
  | succ j =>
    dsimp only
    split
    · split <;> simp
    · rfl
theorem mS1_len (L : mL) (k : Nat) (v : Value) : (mS1 L k v).length = L.length := by simp [mS1, mKill_len]
theorem mS2_len (L : mL) (k : Nat) (v : Value) : (mS2 L k v).length = L.length := by simp [mS2, mKill_len]
theorem mKill_get {L : mL} {k j : Nat} {v : Value} (h : (mKill L k)[j]? = some (some v)) : L[j]? = some (some v) ∧ ¬ (j + 1 = k ∧ v.category = 2) := by
  unfold mKill at h
  cases k with
  | zero => exact ⟨h, by omega⟩
  | succ i =>
    dsimp only at h
    split at h
    · rename_i w hw
      split at h
      · by_cases hj : j = i
        · subst hj
          rw [List.getElem?_set_self (List.getElem?_eq_some_iff.mp hw).1] at h
          cases h
        · rw [List.getElem?_set_ne (Ne.symm hj)] at h
          exact ⟨h, by omega⟩
      · rename_i hc
        refine ⟨h, ?_⟩
        rintro ⟨e1, e2⟩
        have e3 : j = i := by omega
        subst e3
        rw [h] at hw
        cases hw
        exact hc e2
    · rename_i hn
      refine ⟨h, ?_⟩
      rintro ⟨e1, e2⟩
      have e3 : j = i := by omega
      subst e3
      exact hn v h
theorem mS1_has {f : Value → Value} (hf : ∀ v, (f v).category = v.category) {L : mL} {ls : Array Slot} {n k : Nat} {v : Value} (h : lv_has ls n ((k, f v) :: (mAs f L).filter (fun q => !(q.1 == k) && !(q.1 + 1 == k && q.2.category == 2)))) : lv_has ls n (mAs f (mS1 L k v)) := by
  refine lv_mono h ?_
  rintro ⟨j, w⟩ hq
  obtain ⟨u, h1, rfl⟩ := mAs_mem.mp hq
  unfold mS1 at h1
  by_cases hj : j = k
  · subst hj
    rw [List.getElem?_set] at h1
    simp only [if_true] at h1
    split at h1
    · cases h1
      exact List.mem_cons_self
    · cases h1
  · rw [List.getElem?_set_ne (Ne.symm hj)] at h1
    obtain ⟨h2, h3⟩ := mKill_get h1
    refine List.mem_cons_of_mem _ (List.mem_filter.mpr ⟨mAs_mem.mpr ⟨u, h2, rfl⟩, ?_⟩)
    simp only [hf, Bool.and_eq_true, Bool.not_eq_true', beq_eq_false_iff_ne, Bool.and_eq_false_iff]
    refine ⟨hj, ?_⟩
    by_cases e : j + 1 = k
    · exact Or.inr (fun z => h3 ⟨e, z⟩)
    · exact Or.inl e
theorem mS2_has {f : Value → Value} (hf : ∀ v, (f v).category = v.category) {L : mL} {ls : Array Slot} {n k : Nat} {v : Value} (h : lv_has ls n ((k, f v) :: (mAs f L).filter (fun q => !(q.1 == k) && (!(q.1 == k + 1) && !(q.1 + 1 == k && q.2.category == 2))))) : lv_has ls n (mAs f (mS2 L k v)) := by
  refine lv_mono h ?_
  rintro ⟨j, w⟩ hq
  obtain ⟨u, h1, rfl⟩ := mAs_mem.mp hq
  unfold mS2 at h1
  by_cases hk : j = k + 1
  · subst hk
    rw [List.getElem?_set] at h1
    simp only [if_true] at h1
    split at h1 <;> cases h1
  rw [List.getElem?_set_ne (Ne.symm hk)] at h1
  by_cases hj : j = k
  · subst hj
    rw [List.getElem?_set] at h1
    simp only [if_true] at h1
    split at h1
    · cases h1
      exact List.mem_cons_self
    · cases h1
  · rw [List.getElem?_set_ne (Ne.symm hj)] at h1
    obtain ⟨h2, h3⟩ := mKill_get h1
    refine List.mem_cons_of_mem _ (List.mem_filter.mpr ⟨mAs_mem.mpr ⟨u, h2, rfl⟩, ?_⟩)
    simp only [hf, Bool.and_eq_true, Bool.not_eq_true', beq_eq_false_iff_ne, Bool.and_eq_false_iff]
    refine ⟨hj, hk, ?_⟩
    by_cases e : j + 1 = k
    · exact Or.inr (fun z => h3 ⟨e, z⟩)
    · exact Or.inl e
/-- the locals at a method's entry -/
def mEnt : List Value → mL
  | [] => []
  | v :: r => if v.category = 2 then some v :: none :: mEnt r else some v :: mEnt r
def mEntL (n : Nat) (av : List Value) : mL := mEnt av ++ List.replicate (n - (mEnt av).length) none
theorem mEnt_len (f : Value → Value) (hf : ∀ v, (f v).category = v.category) (av : List Value) : (lg_sl (av.map f)).length = (mEnt av).length := by
  induction av with
  | nil => rfl
  | cons v r ih =>
    unfold lg_sl at ih ⊢
    simp only [List.map_cons, List.flatMap_cons, List.length_append, hf, mEnt]
    rw [ih]
    split <;> simp <;> omega
theorem mEnt_get (f : Value → Value) (hf : ∀ v, (f v).category = v.category) (av : List Value) : ∀ (k : Nat) (v : Value), (mEnt av)[k]? = some (some v) → (lg_sl (av.map f))[k]? = some (.val (f v)) := by
  induction av with
  | nil => intro k v h; simp [mEnt] at h
  | cons u r ih =>
    intro k v h
    unfold lg_sl at ih ⊢
    simp only [List.map_cons, List.flatMap_cons, hf]
    simp only [mEnt] at h
    split at h
    · rename_i hc
      rw [if_pos hc]
      match k, h with
      | 0, h => cases h; rfl
      | 1, h => cases h
      | k + 2, h => exact ih k v h
    · rename_i hc
      rw [if_neg hc]
      match k, h with
      | 0, h => cases h; rfl
      | k + 1, h => exact ih k v h
theorem mEntL_has (f : Value → Value) (hf : ∀ v, (f v).category = v.category) (av : List Value) {n : Nat} (hn : (mEnt av).length ≤ n) : lv_has ((lg_sl (av.map f) ++ List.replicate (n - (lg_sl (av.map f)).length) Slot.unset).toArray) n (mAs f (mEntL n av)) := by
  have h := lv_entry (av.map f) (n := n) (by rw [mEnt_len f hf]; exact hn)
  refine ⟨h.1, h.2.1, ?_⟩
  rintro ⟨k, w⟩ hq
  obtain ⟨v, h1, rfl⟩ := mAs_mem.mp hq
  unfold mEntL at h1
  by_cases hk : k < (mEnt av).length
  · rw [List.getElem?_append_left hk] at h1
    have h2 := mEnt_get f hf av k v h1
    show (_ : List Slot).toArray[k]? = _
    rw [List.getElem?_toArray, List.getElem?_append_left (by rw [mEnt_len f hf]; exact hk)]
    exact h2
  · rw [List.getElem?_append_right (by omega)] at h1
    rw [List.getElem?_replicate] at h1
    split at h1 <;> cases h1
theorem mEntL_len (n : Nat) (av : List Value) (h : (mEnt av).length ≤ n) : (mEntL n av).length = n := by simp [mEntL]; omega
end
section
/-! steps of the small machine that leave the heap as it is, and that the machine follows them -/
def mLen : Instr → Nat
  | .bipush _ => 2
  | .ldc _ => 2
  | .iload _ => 2
  | .lload _ => 2
  | .aload _ => 2
  | .istore _ => 2
  | .lstore _ => 2
  | .astore _ => 2
  | .newarray _ => 2
  | .sipush _ => 3
  | .ldc_w _ => 3
  | .ldc2_w _ => 3
  | .iinc _ _ => 3
  | .goto _ => 3
  | .if_icmp _ _ => 3
  | .ifCond _ _ => 3
  | .ifnull _ => 3
  | .ifnonnull _ => 3
  | .getfield _ => 3
  | .putfield _ => 3
  | .getstatic _ => 3
  | .new _ => 3
  | .anewarray _ => 3
  | .invokevirtual _ => 3
  | .invokestatic _ => 3
  | .invokespecial _ => 3
  | _ => 1
def mLd (g : Value → Bool) (L : mL) (k : Nat) (i : Nat) (st : List Value) (h : mH) : Option mG := match L[k]? with
  | some (some v) => if g v = true then some (i + 1, L, v :: st, h) else none
  | _ => none
def mSt (g : Value → Bool) (L : mL) (k : Nat) (i : Nat) (st : List Value) (h : mH) : Option mG := match st with
  | v :: r => if g v = true ∧ k < L.length then some (i + 1, mS1 L k v, r, h) else none
  | _ => none
def mStJ (L : mL) (k : Nat) (i : Nat) (st : List Value) (h : mH) : Option mG := match st with
  | v :: r => if mIsJ v = true ∧ k + 1 < L.length then some (i + 1, mS2 L k v, r, h) else none
  | _ => none
def mA1 (en : mE) (i : Nat) (L : mL) (st : List Value) (h : mH) : Option mG := match en.2.1 with
  | .aconst_null => some (i + 1, L, .null :: st, h)
  | .iconst n => some (i + 1, L, .int (Int32.ofInt n) :: st, h)
  | .bipush n => some (i + 1, L, .int (Int8.ofInt n).toInt32 :: st, h)
  | .sipush n => some (i + 1, L, .int (Int16.ofInt n).toInt32 :: st, h)
  | .lconst n => some (i + 1, L, .long (Int64.ofNat (n : Nat)) :: st, h)
  | .ldc _ => some (i + 1, L, .int (Int32.ofInt (en.2.2.2.getD 1 0)) :: st, h)
  | .ldc_w _ => some (i + 1, L, .int (Int32.ofInt (en.2.2.2.getD 1 0)) :: st, h)
  | .ldc2_w _ => some (i + 1, L, .long (Int64.ofInt (en.2.2.2.getD 1 0)) :: st, h)
  | .iload k => mLd mIsI L k i st h
  | .iload_n k => mLd mIsI L k i st h
  | .lload k => mLd mIsJ L k i st h
  | .lload_n k => mLd mIsJ L k i st h
  | .aload k => mLd mIsA L k i st h
  | .aload_n k => mLd mIsA L k i st h
  | .istore k => mSt mIsI L k i st h
  | .istore_n k => mSt mIsI L k i st h
  | .lstore k => mStJ L k i st h
  | .lstore_n k => mStJ L k i st h
  | .astore k => mSt mIsA L k i st h
  | .astore_n k => mSt mIsA L k i st h
  | _ => none
def mA2 (en : mE) (i : Nat) (L : mL) (st : List Value) (h : mH) : Option mG := match en.2.1 with
  | .iinc k n => match L[k]? with
    | some (some (.int v)) => if k < L.length then some (i + 1, mS1 L k (.int (v + Int32.ofInt n)), st, h) else none
    | _ => none
  | .dup => match st with
    | v :: r => if v.category = 1 then some (i + 1, L, v :: v :: r, h) else none
    | _ => none
  | .dup2 => match st with
    | v :: u :: r => if v.category = 1 ∧ u.category = 1 then some (i + 1, L, v :: u :: v :: u :: r, h) else none
    | _ => none
  | .pop => match st with
    | v :: r => if v.category = 1 then some (i + 1, L, r, h) else none
    | _ => none
  | .pop2 => match st with
    | v :: r => if v.category = 2 then some (i + 1, L, r, h) else none
    | _ => none
  | _ => none
def mB1 (en : mE) (i : Nat) (L : mL) (st : List Value) (h : mH) : Option mG := match en.2.1 with
  | .iadd => match st with
    | .int y :: .int x :: r => some (i + 1, L, .int (x + y) :: r, h)
    | _ => none
  | .isub => match st with
    | .int y :: .int x :: r => some (i + 1, L, .int (x - y) :: r, h)
    | _ => none
  | .imul => match st with
    | .int y :: .int x :: r => some (i + 1, L, .int (x * y) :: r, h)
    | _ => none
  | .iand => match st with
    | .int y :: .int x :: r => some (i + 1, L, .int (x &&& y) :: r, h)
    | _ => none
  | .ior => match st with
    | .int y :: .int x :: r => some (i + 1, L, .int (x ||| y) :: r, h)
    | _ => none
  | .ixor => match st with
    | .int y :: .int x :: r => some (i + 1, L, .int (x ^^^ y) :: r, h)
    | _ => none
  | .ishl => match st with
    | .int y :: .int x :: r => some (i + 1, L, .int (x <<< (y &&& 31)) :: r, h)
    | _ => none
  | .ishr => match st with
    | .int y :: .int x :: r => some (i + 1, L, .int (x >>> (y &&& 31)) :: r, h)
    | _ => none
  | .iushr => match st with
    | .int y :: .int x :: r => some (i + 1, L, .int ((x.toUInt32 >>> (y.toUInt32 &&& Int32.toUInt32 31)).toInt32) :: r, h)
    | _ => none
  | .idiv => match st with
    | .int y :: .int x :: r => if y = 0 then none else some (i + 1, L, .int (x / y) :: r, h)
    | _ => none
  | .irem => match st with
    | .int y :: .int x :: r => if y = 0 then none else some (i + 1, L, .int (x - x / y * y) :: r, h)
    | _ => none
  | .ineg => match st with
    | .int x :: r => some (i + 1, L, .int (-x) :: r, h)
    | _ => none
  | _ => none
def mB2 (en : mE) (i : Nat) (L : mL) (st : List Value) (h : mH) : Option mG := match en.2.1 with
  | .ladd => match st with
    | .long y :: .long x :: r => some (i + 1, L, .long (x + y) :: r, h)
    | _ => none
  | .lsub => match st with
    | .long y :: .long x :: r => some (i + 1, L, .long (x - y) :: r, h)
    | _ => none
  | .lmul => match st with
    | .long y :: .long x :: r => some (i + 1, L, .long (x * y) :: r, h)
    | _ => none
  | .land => match st with
    | .long y :: .long x :: r => some (i + 1, L, .long (x &&& y) :: r, h)
    | _ => none
  | .lor => match st with
    | .long y :: .long x :: r => some (i + 1, L, .long (x ||| y) :: r, h)
    | _ => none
  | .lxor => match st with
    | .long y :: .long x :: r => some (i + 1, L, .long (x ^^^ y) :: r, h)
    | _ => none
  | .ldiv => match st with
    | .long y :: .long x :: r => if y = 0 then none else some (i + 1, L, .long (x / y) :: r, h)
    | _ => none
  | .lrem => match st with
    | .long y :: .long x :: r => if y = 0 then none else some (i + 1, L, .long (x - x / y * y) :: r, h)
    | _ => none
  | .lshl => match st with
    | .int y :: .long x :: r => some (i + 1, L, .long (x <<< (y.toInt64 &&& 63)) :: r, h)
    | _ => none
  | .lushr => match st with
    | .int y :: .long x :: r => some (i + 1, L, .long ((x.toUInt64 >>> (y.toInt64.toUInt64 &&& Int64.toUInt64 63)).toInt64) :: r, h)
    | _ => none
  | .lcmp => match st with
    | .long y :: .long x :: r => some (i + 1, L, .int (lg_cmp x y) :: r, h)
    | _ => none
  | .i2l => match st with
    | .int x :: r => some (i + 1, L, .long x.toInt64 :: r, h)
    | _ => none
  | .l2i => match st with
    | .long x :: r => some (i + 1, L, .int x.toInt32 :: r, h)
    | _ => none
  | .i2b => match st with
    | .int x :: r => some (i + 1, L, .int x.toInt8.toInt32 :: r, h)
    | _ => none
  | _ => none
def mTgt (en : mE) (k : Nat) : Nat := (en.2.2.2.getD k 0).toNat
def mIf (en : mE) (d : Bool) (i : Nat) (L : mL) (r : List Value) (h : mH) : mG := if d = true then (mTgt en 0, L, r, h) else (i + 1, L, r, h)
def mC2 (q : ClassFile.Cond) (x y : Int32) : Bool := match q with
  | .eq => decide (x = y)
  | .ne => decide (x ≠ y)
  | .lt => decide (x < y)
  | .ge => decide (x ≥ y)
  | .gt => decide (x > y)
  | .le => decide (x ≤ y)
def mLk : List (Int × Int) → Nat → Int → Nat
  | [], _, _ => 0
  | (a, _) :: r, k, z => if z = a then k else mLk r (k + 1) z
def mB3 (en : mE) (i : Nat) (L : mL) (st : List Value) (h : mH) : Option mG := match en.2.1 with
  | .goto _ => some (mTgt en 0, L, st, h)
  | .if_icmp q _ => match st with
    | .int y :: .int x :: r => some (mIf en (mC2 q x y) i L r h)
    | _ => none
  | .ifCond q _ => match st with
    | .int x :: r => some (mIf en (mC2 q x 0) i L r h)
    | _ => none
  | .ifnull _ => match st with
    | .null :: r => some (mTgt en 0, L, r, h)
    | .ref _ :: r => some (i + 1, L, r, h)
    | _ => none
  | .ifnonnull _ => match st with
    | .null :: r => some (i + 1, L, r, h)
    | .ref _ :: r => some (mTgt en 0, L, r, h)
    | _ => none
  | .tableswitch _ lo hi _ => match st with
    | .int x :: r => if x.toInt < lo ∨ hi < x.toInt then some (mTgt en 0, L, r, h) else some (mTgt en (1 + (x.toInt - lo).toNat), L, r, h)
    | _ => none
  | .lookupswitch _ ps => match st with
    | .int x :: r => some (mTgt en (mLk ps.toList 1 x.toInt), L, r, h)
    | _ => none
  | _ => none
end
section
/-! the machine follows the steps that leave the heap as it is -/
def mPcAt (cs : List mE) (k : Nat) : Nat := match cs[k]? with
  | some en => en.1
  | none => 0
def mFol (p : Program) (l : Launch) (e : Env) (R : Room) (s : State) (m : MethodId) (args : Array Value) (below : List Frame) (meth : Method) (c : Code) (cs : List mE) (f : Value → Value) (Q : State → Prop) (H : Heap) (locs : List Loc) (cells slots : Nat) (g : mG) : Prop :=
  ∀ ls : Array Slot, lv_has ls g.2.1.length (mAs f g.2.1) → W p l e R s m args below meth c H locs cells slots Q (F0 m (mPcAt cs g.1) ls (g.2.2.1.map f))
section MSA
variable {p : Program} {l : Launch} {e : Env} {R : Room} {s : State} {m : MethodId} {args : Array Value} {below : List Frame} {meth : Method} {c : Code} {H : Heap} {locs : List Loc} {cells slots : Nat} {Q : State → Prop}
variable {cc : ByteArray} {cs : List mE} {b : Nat} {x : Nat → Nat} {en : mE} {i : Nat} {L : mL} {st : List Value} {h : mH} {g : mG}
theorem mLd_spec {q : Value → Bool} {k : Nat} (hs : mLd q L k i st h = some g) : ∃ v, L[k]? = some (some v) ∧ q v = true ∧ g = (i + 1, L, v :: st, h) := by
  unfold mLd at hs
  split at hs
  · rename_i v hv
    split at hs
    · rename_i hq
      exact ⟨v, hv, hq, (Option.some.inj hs).symm⟩
    · cases hs
  · cases hs
theorem mSt_spec {q : Value → Bool} {k : Nat} (hs : mSt q L k i st h = some g) : ∃ v r, st = v :: r ∧ q v = true ∧ k < L.length ∧ g = (i + 1, mS1 L k v, r, h) := by
  unfold mSt at hs
  split at hs
  · rename_i v r
    split at hs
    · rename_i hq
      exact ⟨v, r, rfl, hq.1, hq.2, (Option.some.inj hs).symm⟩
    · cases hs
  · cases hs
theorem mStJ_spec {k : Nat} (hs : mStJ L k i st h = some g) : ∃ v r, st = v :: r ∧ mIsJ v = true ∧ k + 1 < L.length ∧ g = (i + 1, mS2 L k v, r, h) := by
  unfold mStJ at hs
  split at hs
  · rename_i v r
    split at hs
    · rename_i hq
      exact ⟨v, r, rfl, hq.1, hq.2, (Option.some.inj hs).symm⟩
    · cases hs
  · cases hs
theorem mIsI_spec {v : Value} (h : mIsI v = true) : ∃ z, v = .int z := by cases v <;> first | exact ⟨_, rfl⟩ | cases h
theorem mIsJ_spec {v : Value} (h : mIsJ v = true) : ∃ z, v = .long z := by cases v <;> first | exact ⟨_, rfl⟩ | cases h
theorem mIsA_spec (b : Nat) (x : Nat → Nat) {v : Value} (h : mIsA v = true) : mSh b x v = .null ∨ ∃ a, mSh b x v = .ref a := by cases v <;> first | exact Or.inl rfl | exact Or.inr ⟨_, rfl⟩ | cases h
set_option maxHeartbeats 2000000 in
theorem mA1_sim (hx : p.tables.exec = Jvm.exec) (hb : c.code = cc) (hown : True) (hd : decode cc (mPcAt cs i) = .ok (en.2.1, mLen en.2.1)) (hf : mPcAt cs (i + 1) = mPcAt cs i + mLen en.2.1)
    (hk : ∀ idx : Nat, (en.2.1 = .ldc idx ∨ en.2.1 = .ldc_w idx → ∃ own, s.vm.findClass own = some m.cls ∧ (Jvm.Cond.constant own idx (Int32.ofInt (en.2.2.2.getD 1 0))).before args s = true) ∧ (en.2.1 = .ldc2_w idx → ∃ own, s.vm.findClass own = some m.cls ∧ (Jvm.Cond.constantLong own idx (Int64.ofInt (en.2.2.2.getD 1 0))).before args s = true))
    (hs : mA1 en i L st h = some g) (kk : mFol p l e R s m args below meth c cs (mSh b x) Q H locs cells slots g) : mFol p l e R s m args below meth c cs (mSh b x) Q H locs cells slots (i, L, st, h) ∧ g.2.2.2 = h ∧ g.2.1.length = L.length := by
  unfold mA1 at hs
  split at hs
  · rename_i heq
    cases hs
    refine ⟨fun ls hl => ?_, rfl, rfl⟩
    have k1 := kk ls hl
    dsimp only at k1 ⊢
    rw [hf, heq] at k1
    rw [heq] at hd
    exact lv_null hx hb hd  k1
  · rename_i n heq
    cases hs
    refine ⟨fun ls hl => ?_, rfl, rfl⟩
    have k1 := kk ls hl
    dsimp only at k1 ⊢
    rw [hf, heq] at k1
    rw [heq] at hd
    exact lv_iconst hx hb hd rfl k1
  · rename_i n heq
    cases hs
    refine ⟨fun ls hl => ?_, rfl, rfl⟩
    have k1 := kk ls hl
    dsimp only at k1 ⊢
    rw [hf, heq] at k1
    rw [heq] at hd
    exact lv_bipush hx hb hd rfl k1
  · rename_i n heq
    cases hs
    refine ⟨fun ls hl => ?_, rfl, rfl⟩
    have k1 := kk ls hl
    dsimp only at k1 ⊢
    rw [hf, heq] at k1
    rw [heq] at hd
    exact lv_sipush hx hb hd rfl k1
  · rename_i n heq
    cases hs
    refine ⟨fun ls hl => ?_, rfl, rfl⟩
    have k1 := kk ls hl
    dsimp only at k1 ⊢
    rw [hf, heq] at k1
    rw [heq] at hd
    exact lv_lconst hx hb hd rfl k1
  · rename_i n heq
    cases hs
    obtain ⟨own, ho, hc⟩ := (hk n).1 (Or.inl heq)
    refine ⟨fun ls hl => ?_, rfl, rfl⟩
    have k1 := kk ls hl
    dsimp only at k1 ⊢
    rw [hf, heq] at k1
    rw [heq] at hd
    exact lv_ldc hx hb ho hc hd k1
  · rename_i n heq
    cases hs
    obtain ⟨own, ho, hc⟩ := (hk n).1 (Or.inr heq)
    refine ⟨fun ls hl => ?_, rfl, rfl⟩
    have k1 := kk ls hl
    dsimp only at k1 ⊢
    rw [hf, heq] at k1
    rw [heq] at hd
    exact lv_ldcw hx hb ho hc hd k1
  · rename_i n heq
    cases hs
    obtain ⟨own, ho, hc⟩ := (hk n).2 heq
    refine ⟨fun ls hl => ?_, rfl, rfl⟩
    have k1 := kk ls hl
    dsimp only at k1 ⊢
    rw [hf, heq] at k1
    rw [heq] at hd
    exact lv_ldc2 hx hb ho hc hd k1
  · rename_i k heq
    obtain ⟨v, hv, hq, rfl⟩ := mLd_spec hs
    obtain ⟨z, rfl⟩ := mIsI_spec hq
    refine ⟨fun ls hl => ?_, rfl, rfl⟩
    have k1 := kk ls hl
    dsimp only at k1 hl ⊢
    rw [hf, heq] at k1
    rw [heq] at hd
    exact lv_iload hx hb hd (mAs_at hl hv) k1
  · rename_i k heq
    obtain ⟨v, hv, hq, rfl⟩ := mLd_spec hs
    obtain ⟨z, rfl⟩ := mIsI_spec hq
    refine ⟨fun ls hl => ?_, rfl, rfl⟩
    have k1 := kk ls hl
    dsimp only at k1 hl ⊢
    rw [hf, heq] at k1
    rw [heq] at hd
    exact lv_iload_n hx hb hd rfl (mAs_at hl hv) k1
  · rename_i k heq
    obtain ⟨v, hv, hq, rfl⟩ := mLd_spec hs
    obtain ⟨z, rfl⟩ := mIsJ_spec hq
    refine ⟨fun ls hl => ?_, rfl, rfl⟩
    have k1 := kk ls hl
    dsimp only at k1 hl ⊢
    rw [hf, heq] at k1
    rw [heq] at hd
    exact lv_lload hx hb hd (mAs_at hl hv) k1
  · rename_i k heq
    obtain ⟨v, hv, hq, rfl⟩ := mLd_spec hs
    obtain ⟨z, rfl⟩ := mIsJ_spec hq
    refine ⟨fun ls hl => ?_, rfl, rfl⟩
    have k1 := kk ls hl
    dsimp only at k1 hl ⊢
    rw [hf, heq] at k1
    rw [heq] at hd
    exact lv_lload_n hx hb hd rfl (mAs_at hl hv) k1
  · rename_i k heq
    obtain ⟨v, hv, hq, rfl⟩ := mLd_spec hs
    refine ⟨fun ls hl => ?_, rfl, rfl⟩
    have k1 := kk ls hl
    dsimp only at k1 hl ⊢
    rw [hf, heq] at k1
    rw [heq] at hd
    have h1 := mAs_at hl hv
    rw [List.map_cons] at k1
    rcases mIsA_spec b x hq with e1 | ⟨a, e1⟩
    · rw [e1] at h1 k1
      exact lv_aloadN hx hb hd h1 k1
    · rw [e1] at h1 k1
      exact lv_aload hx hb hd h1 k1
  · rename_i k heq
    obtain ⟨v, hv, hq, rfl⟩ := mLd_spec hs
    refine ⟨fun ls hl => ?_, rfl, rfl⟩
    have k1 := kk ls hl
    dsimp only at k1 hl ⊢
    rw [hf, heq] at k1
    rw [heq] at hd
    have h1 := mAs_at hl hv
    rw [List.map_cons] at k1
    rcases mIsA_spec b x hq with e1 | ⟨a, e1⟩
    · rw [e1] at h1 k1
      exact lv_aload_nN hx hb hd rfl h1 k1
    · rw [e1] at h1 k1
      exact lv_aload_n hx hb hd rfl h1 k1
  · rename_i k heq
    obtain ⟨v, r, rfl, hq, hn, rfl⟩ := mSt_spec hs
    obtain ⟨z, rfl⟩ := mIsI_spec hq
    refine ⟨fun ls hl => ?_, rfl, mS1_len _ _ _⟩
    dsimp only at hl ⊢
    rw [heq] at hd
    refine lv_istore (lv := mAs (mSh b x) L) hx hb hd hl hn rfl fun ls1 h1 => ?_
    have h2 := mS1_has (f := mSh b x) (mSh_cat b x) (v := .int z) h1
    have k1 := kk ls1 (by dsimp only; rw [mS1_len]; exact h2)
    dsimp only at k1
    rw [hf, heq] at k1
    exact k1
  · rename_i k heq
    obtain ⟨v, r, rfl, hq, hn, rfl⟩ := mSt_spec hs
    obtain ⟨z, rfl⟩ := mIsI_spec hq
    refine ⟨fun ls hl => ?_, rfl, mS1_len _ _ _⟩
    dsimp only at hl ⊢
    rw [heq] at hd
    refine lv_istore_n (lv := mAs (mSh b x) L) hx hb hd rfl hl hn rfl fun ls1 h1 => ?_
    have h2 := mS1_has (f := mSh b x) (mSh_cat b x) (v := .int z) h1
    have k1 := kk ls1 (by dsimp only; rw [mS1_len]; exact h2)
    dsimp only at k1
    rw [hf, heq] at k1
    exact k1
  · rename_i k heq
    obtain ⟨v, r, rfl, hq, hn, rfl⟩ := mStJ_spec hs
    obtain ⟨z, rfl⟩ := mIsJ_spec hq
    refine ⟨fun ls hl => ?_, rfl, mS2_len _ _ _⟩
    dsimp only at hl ⊢
    rw [heq] at hd
    refine lv_lstore (lv := mAs (mSh b x) L) hx hb hd hl hn rfl fun ls1 h1 => ?_
    have h2 := mS2_has (f := mSh b x) (mSh_cat b x) (v := .long z) h1
    have k1 := kk ls1 (by dsimp only; rw [mS2_len]; exact h2)
    dsimp only at k1
    rw [hf, heq] at k1
    exact k1
  · rename_i k heq
    obtain ⟨v, r, rfl, hq, hn, rfl⟩ := mStJ_spec hs
    obtain ⟨z, rfl⟩ := mIsJ_spec hq
    refine ⟨fun ls hl => ?_, rfl, mS2_len _ _ _⟩
    dsimp only at hl ⊢
    rw [heq] at hd
    refine lv_lstore_n (lv := mAs (mSh b x) L) hx hb hd rfl hl hn rfl fun ls1 h1 => ?_
    have h2 := mS2_has (f := mSh b x) (mSh_cat b x) (v := .long z) h1
    have k1 := kk ls1 (by dsimp only; rw [mS2_len]; exact h2)
    dsimp only at k1
    rw [hf, heq] at k1
    exact k1
  · rename_i k heq
    obtain ⟨v, r, rfl, hq, hn, rfl⟩ := mSt_spec hs
    refine ⟨fun ls hl => ?_, rfl, mS1_len _ _ _⟩
    dsimp only at hl ⊢
    rw [heq] at hd
    have key : ∀ ls1 : Array Slot, lv_has ls1 L.length ((k, mSh b x v) :: (mAs (mSh b x) L).filter (fun q => !(q.1 == k) && !(q.1 + 1 == k && q.2.category == 2))) → W p l e R s m args below meth c H locs cells slots Q (F0 m (mPcAt cs i + 2) ls1 (r.map (mSh b x))) := by
      intro ls1 h1
      have h2 := mS1_has (mSh_cat b x) h1
      have k1 := kk ls1 (by dsimp only; rw [mS1_len]; exact h2)
      dsimp only at k1
      rw [hf, heq] at k1
      exact k1
    rw [List.map_cons]
    rcases mIsA_spec b x hq with e1 | ⟨a, e1⟩
    · rw [e1] at key ⊢
      exact lv_astoreN (lv := mAs (mSh b x) L) hx hb hd hl hn rfl key
    · rw [e1] at key ⊢
      exact lv_astore (lv := mAs (mSh b x) L) hx hb hd hl hn rfl key
  · rename_i k heq
    obtain ⟨v, r, rfl, hq, hn, rfl⟩ := mSt_spec hs
    refine ⟨fun ls hl => ?_, rfl, mS1_len _ _ _⟩
    dsimp only at hl ⊢
    rw [heq] at hd
    have key : ∀ ls1 : Array Slot, lv_has ls1 L.length (((k : Nat), mSh b x v) :: (mAs (mSh b x) L).filter (fun q => !(q.1 == (k : Nat)) && !(q.1 + 1 == (k : Nat) && q.2.category == 2))) → W p l e R s m args below meth c H locs cells slots Q (F0 m (mPcAt cs i + 1) ls1 (r.map (mSh b x))) := by
      intro ls1 h1
      have h2 := mS1_has (mSh_cat b x) h1
      have k1 := kk ls1 (by dsimp only; rw [mS1_len]; exact h2)
      dsimp only at k1
      rw [hf, heq] at k1
      exact k1
    rw [List.map_cons]
    rcases mIsA_spec b x hq with e1 | ⟨a, e1⟩
    · rw [e1] at key ⊢
      exact lv_astore_nN (lv := mAs (mSh b x) L) hx hb hd rfl hl hn rfl key
    · rw [e1] at key ⊢
      exact lv_astore_n (lv := mAs (mSh b x) L) hx hb hd rfl hl hn rfl key
  · cases hs
set_option maxHeartbeats 2000000 in
theorem mA2_sim (hx : p.tables.exec = Jvm.exec) (hb : c.code = cc) (hd : decode cc (mPcAt cs i) = .ok (en.2.1, mLen en.2.1)) (hf : mPcAt cs (i + 1) = mPcAt cs i + mLen en.2.1)
    (hs : mA2 en i L st h = some g) (kk : mFol p l e R s m args below meth c cs (mSh b x) Q H locs cells slots g) : mFol p l e R s m args below meth c cs (mSh b x) Q H locs cells slots (i, L, st, h) ∧ g.2.2.2 = h ∧ g.2.1.length = L.length := by
  unfold mA2 at hs
  split at hs
  · rename_i k n heq
    split at hs
    · rename_i v hv
      split at hs
      · rename_i hn
        cases hs
        refine ⟨fun ls hl => ?_, rfl, mS1_len _ _ _⟩
        dsimp only at hl ⊢
        rw [heq] at hd
        obtain ⟨j, hj⟩ := List.getElem?_of_mem (mAs_mem.mpr ⟨_, hv, rfl⟩ : (k, mSh b x (.int v)) ∈ mAs (mSh b x) L)
        refine lv_iinc (lv := mAs (mSh b x) L) (k := j) hx hb hd hl hj rfl hn rfl fun ls1 h1 => ?_
        have h2 := mS1_has (f := mSh b x) (mSh_cat b x) (v := .int (v + Int32.ofInt n)) h1
        have k1 := kk ls1 (by dsimp only; rw [mS1_len]; exact h2)
        dsimp only at k1
        rw [hf, heq] at k1
        exact k1
      · cases hs
    · cases hs
  · rename_i heq
    split at hs
    · rename_i v r
      split at hs
      · rename_i hc
        cases hs
        refine ⟨fun ls hl => ?_, rfl, rfl⟩
        have k1 := kk ls hl
        dsimp only [List.map_cons] at k1 ⊢
        rw [hf, heq] at k1
        rw [heq] at hd
        exact lv_dup hx hb hd (by rw [mSh_cat]; exact hc) k1
      · cases hs
    · cases hs
  · rename_i heq
    split at hs
    · rename_i v u r
      split at hs
      · rename_i hc
        cases hs
        refine ⟨fun ls hl => ?_, rfl, rfl⟩
        have k1 := kk ls hl
        dsimp only [List.map_cons] at k1 ⊢
        rw [hf, heq] at k1
        rw [heq] at hd
        exact lv_dup2_11 hx hb hd (by rw [mSh_cat]; exact hc.1) (by rw [mSh_cat]; exact hc.2) k1
      · cases hs
    · cases hs
  · rename_i heq
    split at hs
    · rename_i v r
      split at hs
      · rename_i hc
        cases hs
        refine ⟨fun ls hl => ?_, rfl, rfl⟩
        have k1 := kk ls hl
        dsimp only [List.map_cons] at k1 ⊢
        rw [hf, heq] at k1
        rw [heq] at hd
        exact lv_pop hx hb hd (by rw [mSh_cat]; exact hc) k1
      · cases hs
    · cases hs
  · rename_i heq
    split at hs
    · rename_i v r
      split at hs
      · rename_i hc
        cases hs
        refine ⟨fun ls hl => ?_, rfl, rfl⟩
        have k1 := kk ls hl
        dsimp only [List.map_cons] at k1 ⊢
        rw [hf, heq] at k1
        rw [heq] at hd
        exact lv_pop2_2 hx hb hd (by rw [mSh_cat]; exact hc) k1
      · cases hs
    · cases hs
  · cases hs
set_option maxHeartbeats 2000000 in
theorem mB1_sim (hx : p.tables.exec = Jvm.exec) (hb : c.code = cc) (hd : decode cc (mPcAt cs i) = .ok (en.2.1, mLen en.2.1)) (hf : mPcAt cs (i + 1) = mPcAt cs i + mLen en.2.1)
    (hs : mB1 en i L st h = some g) (kk : mFol p l e R s m args below meth c cs (mSh b x) Q H locs cells slots g) : mFol p l e R s m args below meth c cs (mSh b x) Q H locs cells slots (i, L, st, h) ∧ g.2.2.2 = h ∧ g.2.1.length = L.length := by
  unfold mB1 at hs
  split at hs
  · rename_i heq
    split at hs
    · cases hs
      refine ⟨fun ls hl => ?_, rfl, rfl⟩
      have k1 := kk ls hl
      dsimp only [List.map_cons, mSh] at k1 ⊢
      rw [hf, heq] at k1
      rw [heq] at hd
      exact lv_iadd hx hb hd  k1
    · cases hs
  · rename_i heq
    split at hs
    · cases hs
      refine ⟨fun ls hl => ?_, rfl, rfl⟩
      have k1 := kk ls hl
      dsimp only [List.map_cons, mSh] at k1 ⊢
      rw [hf, heq] at k1
      rw [heq] at hd
      exact lv_isub hx hb hd  k1
    · cases hs
  · rename_i heq
    split at hs
    · cases hs
      refine ⟨fun ls hl => ?_, rfl, rfl⟩
      have k1 := kk ls hl
      dsimp only [List.map_cons, mSh] at k1 ⊢
      rw [hf, heq] at k1
      rw [heq] at hd
      exact lv_imul hx hb hd  k1
    · cases hs
  · rename_i heq
    split at hs
    · cases hs
      refine ⟨fun ls hl => ?_, rfl, rfl⟩
      have k1 := kk ls hl
      dsimp only [List.map_cons, mSh] at k1 ⊢
      rw [hf, heq] at k1
      rw [heq] at hd
      exact lv_iand hx hb hd  k1
    · cases hs
  · rename_i heq
    split at hs
    · cases hs
      refine ⟨fun ls hl => ?_, rfl, rfl⟩
      have k1 := kk ls hl
      dsimp only [List.map_cons, mSh] at k1 ⊢
      rw [hf, heq] at k1
      rw [heq] at hd
      exact lv_ior hx hb hd  k1
    · cases hs
  · rename_i heq
    split at hs
    · cases hs
      refine ⟨fun ls hl => ?_, rfl, rfl⟩
      have k1 := kk ls hl
      dsimp only [List.map_cons, mSh] at k1 ⊢
      rw [hf, heq] at k1
      rw [heq] at hd
      exact lv_ixor hx hb hd  k1
    · cases hs
  · rename_i heq
    split at hs
    · cases hs
      refine ⟨fun ls hl => ?_, rfl, rfl⟩
      have k1 := kk ls hl
      dsimp only [List.map_cons, mSh] at k1 ⊢
      rw [hf, heq] at k1
      rw [heq] at hd
      exact lv_ishl hx hb hd  k1
    · cases hs
  · rename_i heq
    split at hs
    · cases hs
      refine ⟨fun ls hl => ?_, rfl, rfl⟩
      have k1 := kk ls hl
      dsimp only [List.map_cons, mSh] at k1 ⊢
      rw [hf, heq] at k1
      rw [heq] at hd
      exact lv_ishr hx hb hd  k1
    · cases hs
  · rename_i heq
    split at hs
    · cases hs
      refine ⟨fun ls hl => ?_, rfl, rfl⟩
      have k1 := kk ls hl
      dsimp only [List.map_cons, mSh] at k1 ⊢
      rw [hf, heq] at k1
      rw [heq] at hd
      exact lv_iushr hx hb hd rfl k1
    · cases hs
  · rename_i heq
    split at hs
    · split at hs
      · cases hs
      · rename_i hne
        cases hs
        refine ⟨fun ls hl => ?_, rfl, rfl⟩
        have k1 := kk ls hl
        dsimp only [List.map_cons, mSh] at k1 ⊢
        rw [hf, heq] at k1
        rw [heq] at hd
        exact lv_idiv hx hb hd hne k1
    · cases hs
  · rename_i heq
    split at hs
    · split at hs
      · cases hs
      · rename_i hne
        cases hs
        refine ⟨fun ls hl => ?_, rfl, rfl⟩
        have k1 := kk ls hl
        dsimp only [List.map_cons, mSh] at k1 ⊢
        rw [hf, heq] at k1
        rw [heq] at hd
        exact lv_irem hx hb hd hne k1
    · cases hs
  · rename_i heq
    split at hs
    · cases hs
      refine ⟨fun ls hl => ?_, rfl, rfl⟩
      have k1 := kk ls hl
      dsimp only [List.map_cons, mSh] at k1 ⊢
      rw [hf, heq] at k1
      rw [heq] at hd
      exact lv_ineg hx hb hd  k1
    · cases hs
  · cases hs
set_option maxHeartbeats 2000000 in
theorem mB2_sim (hx : p.tables.exec = Jvm.exec) (hb : c.code = cc) (hd : decode cc (mPcAt cs i) = .ok (en.2.1, mLen en.2.1)) (hf : mPcAt cs (i + 1) = mPcAt cs i + mLen en.2.1)
    (hs : mB2 en i L st h = some g) (kk : mFol p l e R s m args below meth c cs (mSh b x) Q H locs cells slots g) : mFol p l e R s m args below meth c cs (mSh b x) Q H locs cells slots (i, L, st, h) ∧ g.2.2.2 = h ∧ g.2.1.length = L.length := by
  unfold mB2 at hs
  split at hs
  · rename_i heq
    split at hs
    · cases hs
      refine ⟨fun ls hl => ?_, rfl, rfl⟩
      have k1 := kk ls hl
      dsimp only [List.map_cons, mSh] at k1 ⊢
      rw [hf, heq] at k1
      rw [heq] at hd
      exact lv_ladd hx hb hd  k1
    · cases hs
  · rename_i heq
    split at hs
    · cases hs
      refine ⟨fun ls hl => ?_, rfl, rfl⟩
      have k1 := kk ls hl
      dsimp only [List.map_cons, mSh] at k1 ⊢
      rw [hf, heq] at k1
      rw [heq] at hd
      exact lv_lsub hx hb hd  k1
    · cases hs
  · rename_i heq
    split at hs
    · cases hs
      refine ⟨fun ls hl => ?_, rfl, rfl⟩
      have k1 := kk ls hl
      dsimp only [List.map_cons, mSh] at k1 ⊢
      rw [hf, heq] at k1
      rw [heq] at hd
      exact lv_lmul hx hb hd  k1
    · cases hs
  · rename_i heq
    split at hs
    · cases hs
      refine ⟨fun ls hl => ?_, rfl, rfl⟩
      have k1 := kk ls hl
      dsimp only [List.map_cons, mSh] at k1 ⊢
      rw [hf, heq] at k1
      rw [heq] at hd
      exact lv_land hx hb hd  k1
    · cases hs
  · rename_i heq
    split at hs
    · cases hs
      refine ⟨fun ls hl => ?_, rfl, rfl⟩
      have k1 := kk ls hl
      dsimp only [List.map_cons, mSh] at k1 ⊢
      rw [hf, heq] at k1
      rw [heq] at hd
      exact lv_lor hx hb hd  k1
    · cases hs
  · rename_i heq
    split at hs
    · cases hs
      refine ⟨fun ls hl => ?_, rfl, rfl⟩
      have k1 := kk ls hl
      dsimp only [List.map_cons, mSh] at k1 ⊢
      rw [hf, heq] at k1
      rw [heq] at hd
      exact lv_lxor hx hb hd  k1
    · cases hs
  · rename_i heq
    split at hs
    · split at hs
      · cases hs
      · rename_i hne
        cases hs
        refine ⟨fun ls hl => ?_, rfl, rfl⟩
        have k1 := kk ls hl
        dsimp only [List.map_cons, mSh] at k1 ⊢
        rw [hf, heq] at k1
        rw [heq] at hd
        exact lv_ldiv hx hb hd hne k1
    · cases hs
  · rename_i heq
    split at hs
    · split at hs
      · cases hs
      · rename_i hne
        cases hs
        refine ⟨fun ls hl => ?_, rfl, rfl⟩
        have k1 := kk ls hl
        dsimp only [List.map_cons, mSh] at k1 ⊢
        rw [hf, heq] at k1
        rw [heq] at hd
        exact lv_lrem hx hb hd hne k1
    · cases hs
  · rename_i heq
    split at hs
    · cases hs
      refine ⟨fun ls hl => ?_, rfl, rfl⟩
      have k1 := kk ls hl
      dsimp only [List.map_cons, mSh] at k1 ⊢
      rw [hf, heq] at k1
      rw [heq] at hd
      exact lv_lshl hx hb hd rfl k1
    · cases hs
  · rename_i heq
    split at hs
    · cases hs
      refine ⟨fun ls hl => ?_, rfl, rfl⟩
      have k1 := kk ls hl
      dsimp only [List.map_cons, mSh] at k1 ⊢
      rw [hf, heq] at k1
      rw [heq] at hd
      exact lv_lushr hx hb hd rfl k1
    · cases hs
  · rename_i heq
    split at hs
    · cases hs
      refine ⟨fun ls hl => ?_, rfl, rfl⟩
      have k1 := kk ls hl
      dsimp only [List.map_cons, mSh] at k1 ⊢
      rw [hf, heq] at k1
      rw [heq] at hd
      exact W.lcmp hx hb hd  k1
    · cases hs
  · rename_i heq
    split at hs
    · cases hs
      refine ⟨fun ls hl => ?_, rfl, rfl⟩
      have k1 := kk ls hl
      dsimp only [List.map_cons, mSh] at k1 ⊢
      rw [hf, heq] at k1
      rw [heq] at hd
      exact lv_i2l hx hb hd rfl k1
    · cases hs
  · rename_i heq
    split at hs
    · cases hs
      refine ⟨fun ls hl => ?_, rfl, rfl⟩
      have k1 := kk ls hl
      dsimp only [List.map_cons, mSh] at k1 ⊢
      rw [hf, heq] at k1
      rw [heq] at hd
      exact lv_l2i hx hb hd rfl k1
    · cases hs
  · rename_i heq
    split at hs
    · cases hs
      refine ⟨fun ls hl => ?_, rfl, rfl⟩
      have k1 := kk ls hl
      dsimp only [List.map_cons, mSh] at k1 ⊢
      rw [hf, heq] at k1
      rw [heq] at hd
      exact lv_i2b hx hb hd rfl k1
    · cases hs
  · cases hs
end MSA
end
section
/-! jumps -/
def mJok (cs : List mE) (i : Nat) (en : mE) : Bool := match en.2.1 with
  | .goto off => decide ((mPcAt cs i : Int) + off = ((mPcAt cs (mTgt en 0) : Nat) : Int))
  | .if_icmp _ off => decide ((mPcAt cs i : Int) + off = ((mPcAt cs (mTgt en 0) : Nat) : Int))
  | .ifCond _ off => decide ((mPcAt cs i : Int) + off = ((mPcAt cs (mTgt en 0) : Nat) : Int))
  | .ifnull off => decide ((mPcAt cs i : Int) + off = ((mPcAt cs (mTgt en 0) : Nat) : Int))
  | .ifnonnull off => decide ((mPcAt cs i : Int) + off = ((mPcAt cs (mTgt en 0) : Nat) : Int))
  | .tableswitch d lo hi offs => decide ((mPcAt cs i : Int) + d = ((mPcAt cs (mTgt en 0) : Nat) : Int)) && (decide ((offs.toList.length : Int) = hi - lo + 1) && (List.range offs.toList.length).all (fun j => decide ((mPcAt cs i : Int) + offs.toList.getD j 0 = ((mPcAt cs (mTgt en (1 + j)) : Nat) : Int))))
  | .lookupswitch d ps => decide ((mPcAt cs i : Int) + d = ((mPcAt cs (mTgt en 0) : Nat) : Int)) && ((ps.toList.zip (ps.toList.drop 1)).all (fun (a, next) => a.1 < next.1) && (List.range ps.toList.length).all (fun j => decide ((mPcAt cs i : Int) + (ps.toList.getD j (0, 0)).2 = ((mPcAt cs (mTgt en (1 + j)) : Nat) : Int))))
  | _ => true
theorem mLk_ok (P : Nat → Int → Prop) (d z : Int) (h0 : P 0 d) : ∀ (ps : List (Int × Int)) (k0 : Nat), (∀ (j : Nat), j < ps.length → P (k0 + j) (ps.getD j (0, 0)).2) → P (mLk ps k0 z) (Op.lookupswitch.offset ps d z) := by
  intro ps
  induction ps with
  | nil => intro k0 _; exact h0
  | cons q r ih =>
    intro k0 h
    obtain ⟨a, o⟩ := q
    rw [Op.lookupswitch.offset_cons]
    unfold mLk
    by_cases hz : z = a
    · rw [if_pos hz]
      first | rw [if_pos hz] | rw [if_pos hz.symm]
      exact h 0 (by simp)
    · rw [if_neg hz]
      first | rw [if_neg hz] | rw [if_neg (Ne.symm hz)]
      refine ih (k0 + 1) fun j hj => ?_
      have h1 := h (j + 1) (by simp; omega)
      rw [show k0 + 1 + j = k0 + (j + 1) by omega]
      exact h1
section MSB
variable {p : Program} {l : Launch} {e : Env} {R : Room} {s : State} {m : MethodId} {args : Array Value} {below : List Frame} {meth : Method} {c : Code} {H : Heap} {locs : List Loc} {cells slots : Nat} {Q : State → Prop}
variable {cc : ByteArray} {cs : List mE} {b : Nat} {x : Nat → Nat} {en : mE} {i : Nat} {L : mL} {st : List Value} {h : mH} {g : mG}
set_option maxHeartbeats 4000000 in
theorem mB3_sim {len : Nat} (hx : p.tables.exec = Jvm.exec) (hb : c.code = cc) (hd : decode cc (mPcAt cs i) = .ok (en.2.1, len)) (hl3 : len = mLen en.2.1 ∨ (∃ a b c d, en.2.1 = .tableswitch a b c d) ∨ ∃ a b, en.2.1 = .lookupswitch a b) (hf : (∃ q o, en.2.1 = .if_icmp q o) ∨ (∃ q o, en.2.1 = .ifCond q o) ∨ (∃ o, en.2.1 = .ifnull o) ∨ (∃ o, en.2.1 = .ifnonnull o) → mPcAt cs (i + 1) = mPcAt cs i + mLen en.2.1) (hj : mJok cs i en = true)
    (hs : mB3 en i L st h = some g) (kk : mFol p l e R s m args below meth c cs (mSh b x) Q H locs cells slots g) : mFol p l e R s m args below meth c cs (mSh b x) Q H locs cells slots (i, L, st, h) ∧ g.2.2.2 = h ∧ g.2.1.length = L.length := by
  unfold mB3 at hs
  unfold mJok at hj
  split at hs
  · rename_i off heq
    cases hs
    rw [heq] at hj hd hl3
    have hlen : len = 3 := by rcases hl3 with h | ⟨_, _, _, _, h⟩ | ⟨_, _, h⟩ <;> first | exact h | cases h
    subst hlen
    refine ⟨fun ls hl => ?_, rfl, rfl⟩
    have k1 := kk ls hl
    dsimp only at k1 ⊢
    exact lv_goto hx hb hd (of_decide_eq_true hj) k1
  · rename_i q off heq
    split at hs
    · rename_i y x0 r
      cases hs
      have hf1 := hf (Or.inl ⟨_, _, heq⟩)
      rw [heq] at hj hd hl3 hf1
      have hlen : len = 3 := by rcases hl3 with h | ⟨_, _, _, _, h⟩ | ⟨_, _, h⟩ <;> first | exact h | cases h
      subst hlen
      have ht := of_decide_eq_true hj
      refine ⟨fun ls hl => ?_, by unfold mIf; split <;> rfl, by unfold mIf; split <;> rfl⟩
      have kt : mC2 q x0 y = true → W p l e R s m args below meth c H locs cells slots Q (F0 m (mPcAt cs (mTgt en 0)) ls (r.map (mSh b x))) := fun hq => by
        have k0 := kk
        unfold mIf at k0
        rw [if_pos hq] at k0
        exact k0 ls hl
      have kf : ¬ mC2 q x0 y = true → W p l e R s m args below meth c H locs cells slots Q (F0 m (mPcAt cs i + 3) ls (r.map (mSh b x))) := fun hq => by
        have k0 := kk
        unfold mIf at k0
        rw [if_neg hq] at k0
        have k1 := k0 ls hl
        dsimp only at k1
        rw [hf1] at k1
        exact k1
      dsimp only [List.map_cons, mSh]
      cases q
      · exact lv_icmp_eq hx hb hd ht (fun hq => kt (decide_eq_true hq)) (fun hq => kf (fun z => hq (of_decide_eq_true z)))
      · exact lv_icmp_ne hx hb hd ht (fun hq => kt (decide_eq_true hq)) (fun hq => kf (fun z => (of_decide_eq_true z) hq))
      · exact lv_icmp_lt hx hb hd ht (fun hq => kt (decide_eq_true hq)) (fun hq => kf (fun z => hq (of_decide_eq_true z)))
      · exact lv_icmp_ge hx hb hd ht (fun hq => kt (decide_eq_true hq)) (fun hq => kf (fun z => hq (of_decide_eq_true z)))
      · exact lv_icmp_gt hx hb hd ht (fun hq => kt (decide_eq_true hq)) (fun hq => kf (fun z => hq (of_decide_eq_true z)))
      · exact lv_icmp_le hx hb hd ht (fun hq => kt (decide_eq_true hq)) (fun hq => kf (fun z => hq (of_decide_eq_true z)))
    · cases hs
  · rename_i q off heq
    split at hs
    · rename_i x0 r
      cases hs
      have hf1 := hf (Or.inr (Or.inl ⟨_, _, heq⟩))
      rw [heq] at hj hd hl3 hf1
      have hlen : len = 3 := by rcases hl3 with h | ⟨_, _, _, _, h⟩ | ⟨_, _, h⟩ <;> first | exact h | cases h
      subst hlen
      have ht := of_decide_eq_true hj
      refine ⟨fun ls hl => ?_, by unfold mIf; split <;> rfl, by unfold mIf; split <;> rfl⟩
      have kt : mC2 q x0 0 = true → W p l e R s m args below meth c H locs cells slots Q (F0 m (mPcAt cs (mTgt en 0)) ls (r.map (mSh b x))) := fun hq => by
        have k0 := kk
        unfold mIf at k0
        rw [if_pos hq] at k0
        exact k0 ls hl
      have kf : ¬ mC2 q x0 0 = true → W p l e R s m args below meth c H locs cells slots Q (F0 m (mPcAt cs i + 3) ls (r.map (mSh b x))) := fun hq => by
        have k0 := kk
        unfold mIf at k0
        rw [if_neg hq] at k0
        have k1 := k0 ls hl
        dsimp only at k1
        rw [hf1] at k1
        exact k1
      dsimp only [List.map_cons, mSh]
      cases q
      · exact lv_if_eq hx hb hd ht (fun hq => kt (decide_eq_true hq)) (fun hq => kf (fun z => hq (of_decide_eq_true z)))
      · exact lv_if_ne hx hb hd ht (fun hq => kt (decide_eq_true hq)) (fun hq => kf (fun z => (of_decide_eq_true z) hq))
      · exact lv_if_lt hx hb hd ht (fun hq => kt (decide_eq_true hq)) (fun hq => kf (fun z => hq (of_decide_eq_true z)))
      · exact lv_if_ge hx hb hd ht (fun hq => kt (decide_eq_true hq)) (fun hq => kf (fun z => hq (of_decide_eq_true z)))
      · exact lv_if_gt hx hb hd ht (fun hq => kt (decide_eq_true hq)) (fun hq => kf (fun z => hq (of_decide_eq_true z)))
      · exact lv_if_le hx hb hd ht (fun hq => kt (decide_eq_true hq)) (fun hq => kf (fun z => hq (of_decide_eq_true z)))
    · cases hs
  · rename_i off heq
    split at hs
    · rename_i r
      cases hs
      have hf1 := hf (Or.inr (Or.inr (Or.inl ⟨_, heq⟩)))
      rw [heq] at hj hd hl3 hf1
      have hlen : len = 3 := by rcases hl3 with h | ⟨_, _, _, _, h⟩ | ⟨_, _, h⟩ <;> first | exact h | cases h
      subst hlen
      have ht := of_decide_eq_true hj
      refine ⟨fun ls hl => ?_, rfl, rfl⟩
      have k1 := kk ls hl
      dsimp only [List.map_cons, mSh] at k1 ⊢
      exact lv_ifnullN hx hb hd ht k1
    · rename_i a r
      cases hs
      have hf1 := hf (Or.inr (Or.inr (Or.inl ⟨_, heq⟩)))
      rw [heq] at hj hd hl3 hf1
      have hlen : len = 3 := by rcases hl3 with h | ⟨_, _, _, _, h⟩ | ⟨_, _, h⟩ <;> first | exact h | cases h
      subst hlen
      have ht := of_decide_eq_true hj
      refine ⟨fun ls hl => ?_, rfl, rfl⟩
      have k1 := kk ls hl
      dsimp only [List.map_cons, mSh] at k1 ⊢
      rw [hf1] at k1
      exact lv_ifnull hx hb hd k1
    · cases hs
  · rename_i off heq
    split at hs
    · rename_i r
      cases hs
      have hf1 := hf (Or.inr (Or.inr (Or.inr ⟨_, heq⟩)))
      rw [heq] at hj hd hl3 hf1
      have hlen : len = 3 := by rcases hl3 with h | ⟨_, _, _, _, h⟩ | ⟨_, _, h⟩ <;> first | exact h | cases h
      subst hlen
      have ht := of_decide_eq_true hj
      refine ⟨fun ls hl => ?_, rfl, rfl⟩
      have k1 := kk ls hl
      dsimp only [List.map_cons, mSh] at k1 ⊢
      rw [hf1] at k1
      exact lv_ifnonnullN hx hb hd k1
    · rename_i a r
      cases hs
      have hf1 := hf (Or.inr (Or.inr (Or.inr ⟨_, heq⟩)))
      rw [heq] at hj hd hl3 hf1
      have hlen : len = 3 := by rcases hl3 with h | ⟨_, _, _, _, h⟩ | ⟨_, _, h⟩ <;> first | exact h | cases h
      subst hlen
      have ht := of_decide_eq_true hj
      refine ⟨fun ls hl => ?_, rfl, rfl⟩
      have k1 := kk ls hl
      dsimp only [List.map_cons, mSh] at k1 ⊢
      exact lv_ifnonnull hx hb hd ht k1
    · cases hs
  · rename_i dflt lo hi offs heq
    split at hs
    · rename_i z r
      rw [heq] at hj hd
      simp only [Bool.and_eq_true, decide_eq_true_eq, List.all_eq_true, List.mem_range] at hj
      obtain ⟨h0, h1, h2⟩ := hj
      split at hs
      · rename_i hz
        cases hs
        refine ⟨fun ls hl => ?_, rfl, rfl⟩
        have k1 := kk ls hl
        dsimp only [List.map_cons, mSh] at k1 ⊢
        exact lv_tableOut hx hb hd hz h0 k1
      · rename_i hz
        cases hs
        refine ⟨fun ls hl => ?_, rfl, rfl⟩
        have k1 := kk ls hl
        dsimp only [List.map_cons, mSh] at k1 ⊢
        have hlt : (z.toInt - lo).toNat < offs.toList.length := by omega
        refine lv_tableIn hx hb hd (fun q => hz (Or.inl q)) (fun q => hz (Or.inr q)) (off := offs.toList.getD (z.toInt - lo).toNat 0) ?_ (h2 _ hlt) k1
        rw [← Array.getElem?_toList, List.getElem?_eq_getElem hlt, List.getD_eq_getElem?_getD, List.getElem?_eq_getElem hlt]
        rfl
    · cases hs
  · rename_i dflt ps heq
    split at hs
    · rename_i z r
      rw [heq] at hj hd
      simp only [Bool.and_eq_true, decide_eq_true_eq] at hj
      obtain ⟨h0, h1, h2⟩ := hj
      simp only [List.all_eq_true, List.mem_range, decide_eq_true_eq] at h2
      cases hs
      refine ⟨fun ls hl => ?_, rfl, rfl⟩
      have k1 := kk ls hl
      dsimp only [List.map_cons, mSh] at k1 ⊢
      exact lv_lookup hx hb hd h1 rfl (mLk_ok (fun k off => (mPcAt cs i : Int) + off = ((mPcAt cs (mTgt en k) : Nat) : Int)) dflt z.toInt h0 ps.toList 1 (fun j hj => h2 j hj)) k1
    · cases hs
  · cases hs
end MSB
end
section
/-! the classes, their fields -/
def mW : List Cond := lw_tbl.filter goodWord
theorem mW_of {w : Cond} (i : Nat) (h : lw_tbl[i]? = some w) (hg : goodWord w = true) : w ∈ mW := List.mem_filter.mpr ⟨List.mem_of_getElem? h, hg⟩
def mT0 : u_T := fun k => match k with
  | 0 => ("FirstLanding", "rows", "[LFirstLanding$Row;", true)
  | 1 => ("FirstLanding", "texts", "[LFirstLanding$Text;", true)
  | 2 => ("FirstLanding", "now", "LFirstLanding$Embassy;", true)
  | 3 => ("FirstLanding", "kept", "[LFirstLanding$Embassy;", true)
  | 4 => ("FirstLanding", "reader", "LFirstLanding$Reader;", true)
  | 5 => ("FirstLanding", "walk", "LFirstLanding$Walk;", true)
  | 6 => ("FirstLanding", "planned", "LFirstLanding$Meetings;", true)
  | 7 => ("FirstLanding", "timesFound", "[I", true)
  | 8 => ("FirstLanding", "lastFinding", "I", false)
  | 9 => ("FirstLanding", "lastAsked", "I", false)
  | 10 => ("FirstLanding", "toldUpper", "J", false)
  | _ => ("FirstLanding", "toldLower", "J", false)
def mTy0 : Nat → FieldType := fun k => match k with
  | 0 => .array (.object "FirstLanding$Row")
  | 1 => .array (.object "FirstLanding$Text")
  | 2 => .object "FirstLanding$Embassy"
  | 3 => .array (.object "FirstLanding$Embassy")
  | 4 => .object "FirstLanding$Reader"
  | 5 => .object "FirstLanding$Walk"
  | 6 => .object "FirstLanding$Meetings"
  | 7 => .array .int
  | 8 => .int
  | 9 => .int
  | 10 => .long
  | _ => .long
def mT1 : u_T := fun k => match k with
  | 0 => ("FirstLanding$Embassy", "kinds", "[I", true)
  | 1 => ("FirstLanding$Embassy", "looks", "[I", true)
  | 2 => ("FirstLanding$Embassy", "deeds", "[I", true)
  | 3 => ("FirstLanding$Embassy", "people", "I", false)
  | 4 => ("FirstLanding$Embassy", "up", "I", false)
  | 5 => ("FirstLanding$Embassy", "done", "I", false)
  | _ => ("FirstLanding$Embassy", "treaties", "J", false)
def mTy1 : Nat → FieldType := fun k => match k with
  | 0 => .array .int
  | 1 => .array .int
  | 2 => .array .int
  | 3 => .int
  | 4 => .int
  | 5 => .int
  | _ => .long
def mT2 : u_T := fun k => match k with
  | 0 => ("FirstLanding$Reader", "draft", "LFirstLanding$Embassy;", true)
  | _ => ("FirstLanding$Reader", "place", "I", false)
def mTy2 : Nat → FieldType := fun k => match k with
  | 0 => .object "FirstLanding$Embassy"
  | _ => .int
def mT3 : u_T := fun k => match k with
  | 0 => ("FirstLanding$Walk", "agreed", "[I", true)
  | 1 => ("FirstLanding$Walk", "queue", "[I", true)
  | 2 => ("FirstLanding$Walk", "reached", "[I", true)
  | _ => ("FirstLanding$Walk", "firstStep", "I", false)
def mTy3 : Nat → FieldType := fun k => match k with
  | 0 => .array .int
  | 1 => .array .int
  | 2 => .array .int
  | _ => .int
def mT4 : u_T := fun k => match k with
  | 0 => ("FirstLanding$Meetings", "least", "[I", true)
  | _ => ("FirstLanding$Meetings", "before", "[I", true)
def mTy4 : Nat → FieldType := fun k => match k with
  | 0 => .array .int
  | _ => .array .int
def mT5 : u_T := fun k => match k with
  | 0 => ("FirstLanding$Row", "places", "[I", true)
  | _ => ("FirstLanding$Row", "size", "I", false)
def mTy5 : Nat → FieldType := fun k => match k with
  | 0 => .array .int
  | _ => .int
def mT6 : u_T := fun k => match k with
  | 0 => ("FirstLanding$Text", "signs", "[B", true)
  | _ => ("FirstLanding$Text", "size", "I", false)
def mTy6 : Nat → FieldType := fun k => match k with
  | 0 => .array .byte
  | _ => .int
def mT7 : u_T := fun k => match k with
  | 0 => ("FirstLandingModel", "rowSizes", "[I", true)
  | 1 => ("FirstLandingModel", "rows", "[I", true)
  | 2 => ("FirstLandingModel", "textSizes", "[I", true)
  | 3 => ("FirstLandingModel", "texts", "[I", true)
  | 4 => ("FirstLandingModel", "now", "[I", true)
  | 5 => ("FirstLandingModel", "read", "[I", true)
  | 6 => ("FirstLandingModel", "keeps", "[I", true)
  | 7 => ("FirstLandingModel", "kept", "[Z", true)
  | 8 => ("FirstLandingModel", "asked", "I", false)
  | 9 => ("FirstLandingModel", "upper", "J", false)
  | 10 => ("FirstLandingModel", "lower", "J", false)
  | 11 => ("FirstLandingModel", "finding", "I", false)
  | 12 => ("FirstLandingModel", "findings", "[I", true)
  | 13 => ("FirstLandingModel", "place", "I", false)
  | 14 => ("FirstLandingModel", "firstPair", "I", false)
  | 15 => ("FirstLandingModel", "far", "[I", true)
  | 16 => ("FirstLandingModel", "agreed", "[I", true)
  | 17 => ("FirstLandingModel", "unmetOnes", "[I", true)
  | 18 => ("FirstLandingModel", "ups", "[I", true)
  | 19 => ("FirstLandingModel", "tried", "[I", true)
  | _ => ("FirstLandingModel", "best", "[I", true)
def mTy7 : Nat → FieldType := fun k => match k with
  | 0 => .array .int
  | 1 => .array .int
  | 2 => .array .int
  | 3 => .array .int
  | 4 => .array .int
  | 5 => .array .int
  | 6 => .array .int
  | 7 => .array .boolean
  | 8 => .int
  | 9 => .long
  | 10 => .long
  | 11 => .int
  | 12 => .array .int
  | 13 => .int
  | 14 => .int
  | 15 => .array .int
  | 16 => .array .int
  | 17 => .array .int
  | 18 => .array .int
  | 19 => .array .int
  | _ => .array .int
def mCl : List vw_C := [("FirstLanding", mT0, 12), ("FirstLanding$Embassy", mT1, 7), ("FirstLanding$Reader", mT2, 2), ("FirstLanding$Walk", mT3, 4), ("FirstLanding$Meetings", mT4, 2), ("FirstLanding$Row", mT5, 2), ("FirstLanding$Text", mT6, 2), ("FirstLandingModel", mT7, 21)]
def mFT : Nat → Nat → FieldType := fun c => match c with
  | 0 => mTy0
  | 1 => mTy1
  | 2 => mTy2
  | 3 => mTy3
  | 4 => mTy4
  | 5 => mTy5
  | 6 => mTy6
  | _ => mTy7
def mTagTy : Nat → FieldType := fun t => match t with
  | 50 => .int
  | 51 => .byte
  | 52 => .boolean
  | 53 => .object "FirstLanding$Row"
  | 54 => .object "FirstLanding$Text"
  | _ => .object "FirstLanding$Embassy"
def mTys (cA : Nat → ClassId) : List (ClassId × FieldType) := [(cA 50, .int), (cA 51, .byte), (cA 52, .boolean), (cA 53, .object "FirstLanding$Row"), (cA 54, .object "FirstLanding$Text"), (cA 55, .object "FirstLanding$Embassy")]
theorem mIn0 : ∀ w ∈ u_ws "FirstLanding" mT0 12, w ∈ mW := by
  intro w hw
  refine List.mem_filter.mpr ⟨?_, ?_⟩
  · exact (show ∀ w ∈ u_ws "FirstLanding" mT0 12, w ∈ lw_tbl by decide +kernel) w hw
  · exact (show ∀ w ∈ u_ws "FirstLanding" mT0 12, goodWord w = true by decide +kernel) w hw
theorem mNm0 : ∀ a, a < 12 → ∀ b, b < 12 → a ≠ b → (mT0 a).2.1 ≠ (mT0 b).2.1 := by decide +kernel
theorem mPf0 : ∀ k, k < 12 → parseFieldDescriptor (mT0 k).2.2.1 = some (mTy0 k) := by decide +kernel
theorem mIn1 : ∀ w ∈ u_ws "FirstLanding$Embassy" mT1 7, w ∈ mW := by
  intro w hw
  refine List.mem_filter.mpr ⟨?_, ?_⟩
  · exact (show ∀ w ∈ u_ws "FirstLanding$Embassy" mT1 7, w ∈ lw_tbl by decide +kernel) w hw
  · exact (show ∀ w ∈ u_ws "FirstLanding$Embassy" mT1 7, goodWord w = true by decide +kernel) w hw
theorem mNm1 : ∀ a, a < 7 → ∀ b, b < 7 → a ≠ b → (mT1 a).2.1 ≠ (mT1 b).2.1 := by decide +kernel
theorem mPf1 : ∀ k, k < 7 → parseFieldDescriptor (mT1 k).2.2.1 = some (mTy1 k) := by decide +kernel
theorem mIn2 : ∀ w ∈ u_ws "FirstLanding$Reader" mT2 2, w ∈ mW := by
  intro w hw
  refine List.mem_filter.mpr ⟨?_, ?_⟩
  · exact (show ∀ w ∈ u_ws "FirstLanding$Reader" mT2 2, w ∈ lw_tbl by decide +kernel) w hw
  · exact (show ∀ w ∈ u_ws "FirstLanding$Reader" mT2 2, goodWord w = true by decide +kernel) w hw
theorem mNm2 : ∀ a, a < 2 → ∀ b, b < 2 → a ≠ b → (mT2 a).2.1 ≠ (mT2 b).2.1 := by decide +kernel
theorem mPf2 : ∀ k, k < 2 → parseFieldDescriptor (mT2 k).2.2.1 = some (mTy2 k) := by decide +kernel
theorem mIn3 : ∀ w ∈ u_ws "FirstLanding$Walk" mT3 4, w ∈ mW := by
  intro w hw
  refine List.mem_filter.mpr ⟨?_, ?_⟩
  · exact (show ∀ w ∈ u_ws "FirstLanding$Walk" mT3 4, w ∈ lw_tbl by decide +kernel) w hw
  · exact (show ∀ w ∈ u_ws "FirstLanding$Walk" mT3 4, goodWord w = true by decide +kernel) w hw
theorem mNm3 : ∀ a, a < 4 → ∀ b, b < 4 → a ≠ b → (mT3 a).2.1 ≠ (mT3 b).2.1 := by decide +kernel
theorem mPf3 : ∀ k, k < 4 → parseFieldDescriptor (mT3 k).2.2.1 = some (mTy3 k) := by decide +kernel
theorem mIn4 : ∀ w ∈ u_ws "FirstLanding$Meetings" mT4 2, w ∈ mW := by
  intro w hw
  refine List.mem_filter.mpr ⟨?_, ?_⟩
  · exact (show ∀ w ∈ u_ws "FirstLanding$Meetings" mT4 2, w ∈ lw_tbl by decide +kernel) w hw
  · exact (show ∀ w ∈ u_ws "FirstLanding$Meetings" mT4 2, goodWord w = true by decide +kernel) w hw
theorem mNm4 : ∀ a, a < 2 → ∀ b, b < 2 → a ≠ b → (mT4 a).2.1 ≠ (mT4 b).2.1 := by decide +kernel
theorem mPf4 : ∀ k, k < 2 → parseFieldDescriptor (mT4 k).2.2.1 = some (mTy4 k) := by decide +kernel
theorem mIn5 : ∀ w ∈ u_ws "FirstLanding$Row" mT5 2, w ∈ mW := by
  intro w hw
  refine List.mem_filter.mpr ⟨?_, ?_⟩
  · exact (show ∀ w ∈ u_ws "FirstLanding$Row" mT5 2, w ∈ lw_tbl by decide +kernel) w hw
  · exact (show ∀ w ∈ u_ws "FirstLanding$Row" mT5 2, goodWord w = true by decide +kernel) w hw
theorem mNm5 : ∀ a, a < 2 → ∀ b, b < 2 → a ≠ b → (mT5 a).2.1 ≠ (mT5 b).2.1 := by decide +kernel
theorem mPf5 : ∀ k, k < 2 → parseFieldDescriptor (mT5 k).2.2.1 = some (mTy5 k) := by decide +kernel
theorem mIn6 : ∀ w ∈ u_ws "FirstLanding$Text" mT6 2, w ∈ mW := by
  intro w hw
  refine List.mem_filter.mpr ⟨?_, ?_⟩
  · exact (show ∀ w ∈ u_ws "FirstLanding$Text" mT6 2, w ∈ lw_tbl by decide +kernel) w hw
  · exact (show ∀ w ∈ u_ws "FirstLanding$Text" mT6 2, goodWord w = true by decide +kernel) w hw
theorem mNm6 : ∀ a, a < 2 → ∀ b, b < 2 → a ≠ b → (mT6 a).2.1 ≠ (mT6 b).2.1 := by decide +kernel
theorem mPf6 : ∀ k, k < 2 → parseFieldDescriptor (mT6 k).2.2.1 = some (mTy6 k) := by decide +kernel
theorem mIn7 : ∀ w ∈ u_ws "FirstLandingModel" mT7 21, w ∈ mW := by
  intro w hw
  refine List.mem_filter.mpr ⟨?_, ?_⟩
  · exact (show ∀ w ∈ u_ws "FirstLandingModel" mT7 21, w ∈ lw_tbl by decide +kernel) w hw
  · exact (show ∀ w ∈ u_ws "FirstLandingModel" mT7 21, goodWord w = true by decide +kernel) w hw
theorem mNm7 : ∀ a, a < 21 → ∀ b, b < 21 → a ≠ b → (mT7 a).2.1 ≠ (mT7 b).2.1 := by decide +kernel
theorem mPf7 : ∀ k, k < 21 → parseFieldDescriptor (mT7 k).2.2.1 = some (mTy7 k) := by decide +kernel
theorem mCl_ok : ∀ (ci : Nat) (q : vw_C), mCl[ci]? = some q → (∀ w ∈ u_ws q.1 q.2.1 q.2.2, w ∈ mW) ∧ (∀ k, k < q.2.2 → parseFieldDescriptor (q.2.1 k).2.2.1 = some (mFT ci k)) ∧ (∀ a, a < q.2.2 → ∀ b, b < q.2.2 → a ≠ b → (q.2.1 a).2.1 ≠ (q.2.1 b).2.1) := by
  intro ci q hq
  match ci, hq with
  | 0, hq => cases hq; exact ⟨mIn0, mPf0, mNm0⟩
  | 1, hq => cases hq; exact ⟨mIn1, mPf1, mNm1⟩
  | 2, hq => cases hq; exact ⟨mIn2, mPf2, mNm2⟩
  | 3, hq => cases hq; exact ⟨mIn3, mPf3, mNm3⟩
  | 4, hq => cases hq; exact ⟨mIn4, mPf4, mNm4⟩
  | 5, hq => cases hq; exact ⟨mIn5, mPf5, mNm5⟩
  | 6, hq => cases hq; exact ⟨mIn6, mPf6, mNm6⟩
  | 7, hq => cases hq; exact ⟨mIn7, mPf7, mNm7⟩
  | k + 8, hq => simp [mCl] at hq
end
section
/-! a place of a list by recursors: the kernel works it out in a quarter of the time -/
section QZG
variable {α : Type}
noncomputable def qzgo (l : List α) : Nat → Option α := List.rec (motive := fun _ => Nat → Option α) (fun _ => none) (fun a _ ih k => Nat.rec (motive := fun _ => Option α) (some a) (fun j _ => ih j) k) l
end QZG
theorem qzgo_eq {α : Type} : ∀ (l : List α) (k : Nat), qzgo l k = l[k]?
  | [], _ => by simp [qzgo]
  | _ :: _, 0 => rfl
  | a :: t, k + 1 => (qzgo_eq t k).trans (by simp)
end
section
/-! the heap of the small machine, and the machine's -/
noncomputable def mOk (D : va_G) (cA : Nat → ClassId) (f : Value → Value) (a : Nat) (q : mC) (H : Heap) : Prop :=
  (q.1 < 50 → ∃ r : vw_C, mCl[q.1]? = some r ∧ q.2.length = r.2.2 ∧ t_OB a (D.1 q.1) r.2.2 (D.2 q.1) H (fun k => f (vp_V q.2 k))) ∧
  (¬ q.1 < 50 → H[a]? = some (arrV (cA q.1) q.2.length (fun j => f (vp_V q.2 j))))
noncomputable def mRel (D : va_G) (cA : Nat → ClassId) (b : Nat) (x : Nat → Nat) (h : mH) (H : Heap) : Prop := H.size = b + h.length ∧ ∀ (k : Nat) (q : mC), h[k]? = some q → mOk D cA (mSh b x) (b + k) q H
theorem mOk.kept {D : va_G} {cA : Nat → ClassId} {f : Value → Value} {a : Nat} {q : mC} {H H1 : Heap} (h : mOk D cA f a q H) (e : H1[a]? = H[a]?) : mOk D cA f a q H1 := by
  refine ⟨fun hq => ?_, fun hq => ?_⟩
  · obtain ⟨r, h1, h2, h3⟩ := h.1 hq
    exact ⟨r, h1, h2, h3.kept e⟩
  · rw [e]; exact h.2 hq
theorem mRel.set {D : va_G} {cA : Nat → ClassId} {b : Nat} {x : Nat → Nat} {h : mH} {H H1 : Heap} {k : Nat} {q : mC} (hR : mRel D cA b x h H) (z : H1.size = H.size) (o : ∀ j : Nat, j ≠ b + k → H1[j]? = H[j]?) (hk : mOk D cA (mSh b x) (b + k) q H1) : mRel D cA b x (h.set k q) H1 := by
  refine ⟨by rw [z, hR.1, List.length_set], fun j p hj => ?_⟩
  by_cases e : j = k
  · subst e
    rw [List.getElem?_set] at hj
    simp only [if_true] at hj
    split at hj
    · cases hj; exact hk
    · cases hj
  · rw [List.getElem?_set_ne (Ne.symm e)] at hj
    exact (hR.2 j p hj).kept (o _ (by omega))
theorem mRel.push {D : va_G} {cA : Nat → ClassId} {b : Nat} {x : Nat → Nat} {h : mH} {H H1 : Heap} {q : mC} (hR : mRel D cA b x h H) (z : H1.size = H.size + 1) (o : ∀ j : Nat, j < H.size → H1[j]? = H[j]?) (hk : mOk D cA (mSh b x) (b + h.length) q H1) : mRel D cA b x (h ++ [q]) H1 := by
  refine ⟨by rw [z, hR.1]; simp; omega, fun j p hj => ?_⟩
  by_cases e : j < h.length
  · rw [List.getElem?_append_left e] at hj
    exact (hR.2 j p hj).kept (o _ (by rw [hR.1]; omega))
  · rw [List.getElem?_append_right (by omega)] at hj
    have h1 : j - h.length < 1 := (List.getElem?_eq_some_iff.mp hj).1
    have h2 : j = h.length := by omega
    subst h2
    rw [Nat.sub_self] at hj
    cases hj
    exact hk
theorem mV_set {vs : List Value} {k : Nat} (hk : k < vs.length) (f : Value → Value) (v : Value) (j : Nat) : updV (fun i => f (vp_V vs i)) k (f v) j = f (vp_V (vs.set k v) j) := by
  unfold updV vp_V
  by_cases e : j = k
  · subst e
    simp [hk]
  · simp [e, List.getElem?_set_ne (Ne.symm e)]
theorem mV_map {vs : List Value} {f : Value → Value} {k : Nat} (hk : k < vs.length) : f (vp_V vs k) = vp_V (vs.map f) k := by
  unfold vp_V
  simp [hk]
noncomputable def mFit (ty : FieldType) (v : Value) : Bool := match ty with
  | .int => mIsI v
  | .long => mIsJ v
  | .object _ => mIsA v
  | .array _ => mIsA v
  | _ => false
theorem mFit_ok {ty : FieldType} {v : Value} (b : Nat) (x : Nat → Nat) (h : mFit ty v = true) : narrow ty (mSh b x v) = mSh b x v ∧ fits ty (mSh b x v) = true := by
  cases ty <;> cases v <;> first | exact ⟨rfl, rfl⟩ | cases h
noncomputable def mHas (wi : Nat) (w : Cond) : Bool := decide (qzgo lw_tbl wi = some w) && goodWord w
theorem mHas_ok {wi : Nat} {w : Cond} (h : mHas wi w = true) : w ∈ mW := by
  unfold mHas at h
  rw [Bool.and_eq_true] at h
  exact mW_of wi ((qzgo_eq _ _).symm.trans (of_decide_eq_true h.1)) h.2
noncomputable def mNest : Cond → Bool
  | .fieldLinkNest .. => true
  | .methodLinkNest .. => true
  | _ => false
/-- words on nest mates: carried beside the others -/
noncomputable def mWN : List Cond := lw_tbl.filter mNest
noncomputable def mHasN (wi : Nat) (w : Cond) : Bool := decide (qzgo lw_tbl wi = some w) && mNest w
theorem mHasN_ok {wi : Nat} {w : Cond} (h : mHasN wi w = true) : w ∈ mWN := by
  unfold mHasN at h
  rw [Bool.and_eq_true] at h
  exact List.mem_filter.mpr ⟨List.mem_of_getElem? ((qzgo_eq _ _).symm.trans (of_decide_eq_true h.1)), h.2⟩
theorem mWN_warm {s U : State} (hW : s.WarmedH U.vm) (h : ∀ w ∈ mWN, va_Nw w s) : ∀ w ∈ mWN, va_Nw w U := by
  intro w hw
  have h1 := h w hw
  have h2 := (List.mem_filter.mp hw).2
  cases w <;> first | exact va_Nw.warmF hW h1 | exact va_Nw.warmM hW h1 | cases h2
theorem mWN_same {s U : State} (hv : s.vm = U.vm) (h : ∀ w ∈ mWN, va_Nw w s) : ∀ w ∈ mWN, va_Nw w U := by
  intro w hw
  have h1 := h w hw
  have h2 := (List.mem_filter.mp hw).2
  cases w <;> first | exact va_tabs rfl hv h1 | cases h2
/-- fields -/
noncomputable def mF1 (en : mE) (i : Nat) (L : mL) (st : List Value) (h : mH) : Option mG := match en.2.1 with
  | .getfield _ => match st with
    | .ref a :: r => match h[a]? with
      | some q => if q.1 = mTgt en 1 then (match q.2[mTgt en 2]? with
        | some v => some (i + 1, L, v :: r, h)
        | none => none) else none
      | none => none
    | _ => none
  | .putfield _ => match st with
    | v :: .ref a :: r => match h[a]? with
      | some q => if q.1 = mTgt en 1 ∧ mTgt en 2 < q.2.length ∧ mFit (mFT q.1 (mTgt en 2)) v = true then some (i + 1, L, r, h.set a (q.1, q.2.set (mTgt en 2) v)) else none
      | none => none
    | _ => none
  | _ => none
noncomputable def mLnkF (own : String) (ini : Bool) (en : mE) : Bool := match en.2.1 with
  | .getfield idx => match mCl[mTgt en 1]? with
    | some r => decide (mTgt en 1 < 50) && (decide (mTgt en 2 < r.2.2) && (decide ((r.2.1 (mTgt en 2)).1 = r.1) && (if mTgt en 3 = 0 then mHas (mTgt en 4) (.fieldLink own idx r.1 (r.2.1 (mTgt en 2)).2.1 (r.2.1 (mTgt en 2)).2.2.1) else mHasN (mTgt en 4) (.fieldLinkNest own idx r.1 (r.2.1 (mTgt en 2)).2.1 (r.2.1 (mTgt en 2)).2.2.1 "FirstLanding"))))
    | none => false
  | .putfield idx => match mCl[mTgt en 1]? with
    | some r => decide (mTgt en 1 < 50) && (decide (mTgt en 2 < r.2.2) && (decide ((r.2.1 (mTgt en 2)).1 = r.1) && (if (r.2.1 (mTgt en 2)).2.2.2 = true then decide (ini = true ∧ r.1 = own) && mHas (mTgt en 4) (.fieldLink own idx r.1 (r.2.1 (mTgt en 2)).2.1 (r.2.1 (mTgt en 2)).2.2.1) else if mTgt en 3 = 0 then mHas (mTgt en 4) (.fieldLink own idx r.1 (r.2.1 (mTgt en 2)).2.1 (r.2.1 (mTgt en 2)).2.2.1) else mHasN (mTgt en 4) (.fieldLinkNest own idx r.1 (r.2.1 (mTgt en 2)).2.1 (r.2.1 (mTgt en 2)).2.2.1 "FirstLanding"))))
    | none => false
  | _ => true
section MSF
variable {p : Program} {l : Launch} {e : Env} {R : Room} {s : State} {m : MethodId} {args : Array Value} {below : List Frame} {meth : Method} {c : Code} {H : Heap} {locs : List Loc} {cells slots : Nat} {Q : State → Prop}
variable {cc : ByteArray} {cs : List mE} {b : Nat} {x : Nat → Nat} {en : mE} {i : Nat} {L : mL} {st : List Value} {h : mH} {g : mG} {D : va_G} {cA : Nat → ClassId} {own : String} {ini : Bool}
set_option maxHeartbeats 4000000 in
theorem mF1_sim (hx : p.tables.exec = Jvm.exec) (hb : c.code = cc) (hown : s.vm.findClass own = some m.cls) (hin : ini = true → meth.name = "<init>") (hts : ∀ w ∈ mW, w.before args s = true) (hK : va_K D mCl (mTys cA) s) (hN : ∀ w ∈ mWN, va_Nw w s) (hR : mRel D cA b x h H) (hS : va_S (fun q => b ≤ q) s.heap H locs)
    (hd : decode cc (mPcAt cs i) = .ok (en.2.1, mLen en.2.1)) (hf : mPcAt cs (i + 1) = mPcAt cs i + mLen en.2.1) (hlk : mLnkF own ini en = true)
    (hs : mF1 en i L st h = some g) (kk : ∀ (H1 : Heap) (locs1 : List Loc), mRel D cA b x g.2.2.2 H1 → va_S (fun q => b ≤ q) s.heap H1 locs1 → mFol p l e R s m args below meth c cs (mSh b x) Q H1 locs1 cells slots g) : mFol p l e R s m args below meth c cs (mSh b x) Q H locs cells slots (i, L, st, h) ∧ g.2.2.2.length = h.length ∧ g.2.1.length = L.length := by
  unfold mF1 at hs
  split at hs
  · rename_i idx heq
    split at hs
    · rename_i a r
      split at hs
      · rename_i q hq
        split at hs
        · rename_i hc
          split at hs
          · rename_i v hv
            cases hs
            refine ⟨fun ls hl => ?_, rfl, rfl⟩
            have k1 := kk H locs hR hS ls hl
            dsimp only [List.map_cons, mSh] at k1 ⊢
            unfold mLnkF at hlk
            rw [heq] at hlk hd hf
            dsimp only at hlk
            rw [hf] at k1
            split at hlk
            · rename_i rr hrr
              simp only [Bool.and_eq_true, decide_eq_true_eq] at hlk
              obtain ⟨l0, l1, l2, l3⟩ := hlk
              obtain ⟨C, T, N⟩ := rr
              dsimp only at l1 l2 l3
              rw [← hc] at hrr l0
              obtain ⟨r1, g1, g2, g3⟩ := (hR.2 a q hq).1 l0
              cases hrr.symm.trans g1
              dsimp only at g2 g3
              have hk : mTgt en 2 < q.2.length := by rw [g2]; exact l1
              have hP : va_P D mCl [(b + a, .inr (q.1, q.2.map (mSh b x)))] H := by
                intro k z hz
                have hz1 : k < 1 := (List.getElem?_eq_some_iff.mp hz).1
                have hz2 : k = 0 := by omega
                subst hz2
                cases hz
                exact ⟨_, g1, g3.to (fun j hj => mV_map (by rw [g2]; exact hj))⟩
              have hvv : (q.2.map (mSh b x))[mTgt en 2]? = some (mSh b x v) := by rw [List.getElem?_map, hv]; rfl
              split at l3
              · refine va_get (own := own) (ref := C) (C := C) (T := T) (N := N) (ci := q.1) hx hb hts (mCl_ok _ _ g1).1 hown hK hP 0 rfl g1 (mTgt en 2) l1 (hts _ (mHas_ok l3)) (fun z hz => by rw [← hz, l2]) hvv hd ?_
                exact k1
              · refine va_getN (own := own) (ref := C) (C := C) (T := T) (N := N) (ci := q.1) hx hb hts (mCl_ok _ _ g1).1 hown hK hP 0 rfl g1 (mTgt en 2) l1 (va_Nw.use rfl (hN _ (mHasN_ok l3))) (fun z hz => by rw [← hz, l2]) hvv hd ?_
                exact k1
            · cases hlk
          · cases hs
        · cases hs
      · cases hs
    · cases hs
  · rename_i idx heq
    split at hs
    · rename_i v a r
      split at hs
      · rename_i q hq
        split at hs
        · rename_i hc
          obtain ⟨hc, hkl, hft⟩ := hc
          cases hs
          refine ⟨fun ls hl => ?_, by simp, rfl⟩
          dsimp only at kk hl ⊢
          show W p l e R s m args below meth c H locs cells slots Q (F0 m (mPcAt cs i) ls (mSh b x v :: .ref (b + a) :: r.map (mSh b x)))
          unfold mLnkF at hlk
          rw [heq] at hlk hd hf
          dsimp only at hlk
          split at hlk
          · rename_i rr hrr
            simp only [Bool.and_eq_true, decide_eq_true_eq] at hlk
            obtain ⟨l0, l1, l2, l3⟩ := hlk
            obtain ⟨C, T, N⟩ := rr
            dsimp only at l1 l2 l3
            rw [← hc] at hrr l0
            obtain ⟨r1, g1, g2, cell, q1, q2, q3, q4⟩ := (hR.2 a q hq).1 l0
            cases hrr.symm.trans g1
            dsimp only at g2 q4
            obtain ⟨o1, o2, o3⟩ := mCl_ok _ _ g1
            dsimp only at o1 o2 o3
            have hap := va_apart (own := own) hts o1 (mFT q.1) o2 o3 hK g1
            obtain ⟨hS1, hfc, kC, hkC, hkind⟩ := hK.1 q.1 _ g1
            obtain ⟨cf, kf, fi, fd, hi, hsl⟩ := hS1 (mTgt en 2) l1
            have hst := (u_facts hfc hkC (u_lays hts o1 l1) hi).1
            obtain ⟨n1, n2⟩ := mFit_ok b x hft
            have hi2 : s.fieldFound? C (T (mTgt en 2)).2.1 (T (mTgt en 2)).2.2.1 = some (cf, kf, fi, fd) := by rw [← l2]; exact hi
            have fin : ∀ H1 : Heap, H1[b + a]? = some (cell.setSlot fd.slot (mSh b x v)) → H1.size = H.size → (∀ j : Nat, j ≠ b + a → H1[j]? = H[j]?) → W p l e R s m args below meth c H1 (locs ++ [⟨b + a, fd.slot⟩]) cells slots Q (F0 m (mPcAt cs i + 3) ls (r.map (mSh b x))) := by
              intro H1 e1 e2 e3
              have k1 := kk H1 (locs ++ [⟨b + a, fd.slot⟩]) (hR.set e2 e3 ⟨fun _ => ⟨_, g1, by simp [g2], by
                refine t_OB.to (V := updV (fun k => mSh b x (vp_V q.2 k)) (mTgt en 2) (mSh b x v)) ⟨_, e1, q2, q3, ?_⟩ (fun j _ => mV_set hkl (mSh b x) v j)
                rw [hsl]
                exact t_set q4 hap l1 (mSh b x v)⟩, fun z => absurd l0 z⟩) (hS.put e2 e3 (Nat.le_add_right _ _)) ls hl
              dsimp only at k1
              rw [hf] at k1
              exact k1
            have hlt : fd.slot < cell.slots.size := by rw [hsl]; exact k2_hasslot (q4 (mTgt en 2) l1)
            split at l3
            · rename_i hfin
              rw [Bool.and_eq_true, decide_eq_true_eq] at l3
              obtain ⟨⟨l4, l5⟩, l6⟩ := l3
              have hlay := hts _ (o1 _ (u_in_lay l1))
              unfold u_lay at hlay
              rw [if_pos hfin] at hlay
              have hcf : m.cls = cf := by
                obtain ⟨_, _, c', _, _, _, -, -, hf', -, -, -, hown2, -⟩ := Cond.laysFinal_spec hlay
                have e1 : c' = cf := by have := hi.symm.trans hf'; simp at this; exact this.1.symm
                rw [l2, l5] at hown2
                rw [← e1]; exact Option.some.inj (hown.symm.trans hown2)
              have h6 := u_fits hfc hkC hkind (Or.inr hlay) hi (o2 _ l1) n1 n2
              exact W.putFinK hx hb hown (hts _ (mHas_ok l6)) hi2 hst hcf (hin l4) (by rw [q2]; exact h6) q1 q3 hlt rfl rfl hd fin
            · rename_i hfin
              have hlay := hts _ (o1 _ (u_in_lay l1))
              unfold u_lay at hlay
              rw [if_neg hfin] at hlay
              have h6 := u_store hfc hkC hkind hlay hi (o2 _ l1) n1 n2
              split at l3
              · exact W.putK hx hb (f := fd) ⟨hown, hts _ (mHas_ok l3), ⟨_, _, _, hi2⟩, hst⟩ (by rw [q2]; exact h6) q1 q3 hlt rfl rfl hd fin
              · exact va_WputK hx hb (f := fd) hown (va_Nw.use rfl (hN _ (mHasN_ok l3))) hi2 hst (by rw [q2]; exact h6) q1 q3 hlt rfl rfl hd fin
          · cases hlk
        · cases hs
      · cases hs
    · cases hs
  · cases hs
end MSF
end
section
/-! arrays -/
noncomputable def mEv (D : va_G) (cA : Nat → ClassId) (b : Nat) (x : Nat → Nat) (xs : Nat → List Int32) (U : State) : Prop :=
  va_K D mCl (mTys cA) U ∧ (∀ n, n < 3 → va_T .int (x n) (xs n).length (fun j => .int ((xs n).getD j 0)) (fun q => b ≤ q) U U.heap) ∧
  va_Z "FirstLanding$Kind" "LETTERS" "[I" (.ref (x 1)) (fun q => b ≤ q) U U.heap ∧ va_Z "FirstLanding$Kind" "PARENTS" "[I" (.ref (x 2)) (fun q => b ≤ q) U U.heap ∧
  (∀ w ∈ mWN, va_Nw w U) ∧ (va_AO "FirstLanding$Row" U ∧ va_AO "FirstLanding$Text" U ∧ va_AO "FirstLanding$Embassy" U)
theorem mEv.to {D : va_G} {cA : Nat → ClassId} {b : Nat} {x : Nat → Nat} {xs : Nat → List Int32} {s U : State} (h : mEv D cA b x xs s) (hN : ∀ w ∈ mWN, va_Nw w U) (hA : s.vm.Alike U.vm) (hh : ∀ a : Nat, a < s.heap.size → ¬ (fun q => b ≤ q) a → U.heap[a]? = s.heap[a]?) : mEv D cA b x xs U :=
  ⟨h.1.moved hA, fun n hn => ((h.2.1 n hn).moved hA).kept hh, (h.2.2.1.moved hA).kept hh, (h.2.2.2.1.moved hA).kept hh, hN, h.2.2.2.2.2.1.moved hA, h.2.2.2.2.2.2.1.moved hA, h.2.2.2.2.2.2.2.moved hA⟩
noncomputable def mIx (j : Int32) (n : Nat) : Bool := decide (¬ (j < 0 ∨ n ≤ j.toNatClampNeg))
noncomputable def mF2 (xs : Nat → List Int32) (en : mE) (i : Nat) (L : mL) (st : List Value) (h : mH) : Option mG := match en.2.1 with
  | .getstatic _ => if mTgt en 1 = 1 ∨ mTgt en 1 = 2 then some (i + 1, L, .retAddr (mTgt en 1) :: st, h) else none
  | .arraylength => match st with
    | .ref a :: r => match h[a]? with
      | some q => if 50 ≤ q.1 ∧ q.1 < 56 then some (i + 1, L, .int (Int32.ofNat q.2.length) :: r, h) else none
      | none => none
    | .retAddr n :: r => if n < 3 then some (i + 1, L, .int (Int32.ofNat (xs n).length) :: r, h) else none
    | _ => none
  | .iaload => match st with
    | .int j :: .ref a :: r => match h[a]? with
      | some q => if q.1 = 50 ∧ mIx j q.2.length = true then (match q.2[j.toNatClampNeg]? with
        | some v => some (i + 1, L, v :: r, h)
        | none => none) else none
      | none => none
    | .int j :: .retAddr n :: r => if n < 3 ∧ mIx j (xs n).length = true then some (i + 1, L, .int ((xs n).getD j.toNatClampNeg 0) :: r, h) else none
    | _ => none
  | .baload => match st with
    | .int j :: .ref a :: r => match h[a]? with
      | some q => if (q.1 = 51 ∨ q.1 = 52) ∧ mIx j q.2.length = true then (match q.2[j.toNatClampNeg]? with
        | some v => some (i + 1, L, v :: r, h)
        | none => none) else none
      | none => none
    | _ => none
  | .aaload => match st with
    | .int j :: .ref a :: r => match h[a]? with
      | some q => if (53 ≤ q.1 ∧ q.1 < 56) ∧ mIx j q.2.length = true then (match q.2[j.toNatClampNeg]? with
        | some v => some (i + 1, L, v :: r, h)
        | none => none) else none
      | none => none
    | _ => none
  | _ => none
noncomputable def mElC (t : Nat) : Nat := if t = 53 then 5 else if t = 54 then 6 else 1
noncomputable def mF3 (en : mE) (i : Nat) (L : mL) (st : List Value) (h : mH) : Option mG := match en.2.1 with
  | .iastore => match st with
    | .int v :: .int j :: .ref a :: r => match h[a]? with
      | some q => if q.1 = 50 ∧ mIx j q.2.length = true then some (i + 1, L, r, h.set a (q.1, q.2.set j.toNatClampNeg (.int v))) else none
      | none => none
    | _ => none
  | .bastore => match st with
    | .int v :: .int j :: .ref a :: r => match h[a]? with
      | some q => if q.1 = 51 ∧ mIx j q.2.length = true then some (i + 1, L, r, h.set a (q.1, q.2.set j.toNatClampNeg (.int v.toInt8.toInt32))) else if q.1 = 52 ∧ mIx j q.2.length = true then some (i + 1, L, r, h.set a (q.1, q.2.set j.toNatClampNeg (.int (v &&& 1)))) else none
      | none => none
    | _ => none
  | .aastore => match st with
    | .ref w :: .int j :: .ref a :: r => match h[a]? with
      | some q => match h[w]? with
        | some q2 => if (53 ≤ q.1 ∧ q.1 < 56) ∧ mIx j q.2.length = true ∧ q2.1 = mElC q.1 then some (i + 1, L, r, h.set a (q.1, q.2.set j.toNatClampNeg (.ref w))) else none
        | none => none
      | none => none
    | _ => none
  | _ => none
theorem mTy_at (cA : Nat → ClassId) {t : Nat} (h1 : 50 ≤ t) (h2 : t < 56) : (mTys cA)[t - 50]? = some (cA t, mTagTy t) := by
  rcases (show t = 50 ∨ t = 51 ∨ t = 52 ∨ t = 53 ∨ t = 54 ∨ t = 55 by omega) with rfl | rfl | rfl | rfl | rfl | rfl <;> rfl
theorem mRel.arr {D : va_G} {cA : Nat → ClassId} {b : Nat} {x : Nat → Nat} {h : mH} {H : Heap} (hR : mRel D cA b x h H) {a : Nat} {q : mC} (hq : h[a]? = some q) (h1 : 50 ≤ q.1) : H[b + a]? = some (arrV (cA q.1) q.2.length (fun j => mSh b x (vp_V q.2 j))) := (hR.2 a q hq).2 (by omega)
theorem mRel.put {D : va_G} {cA : Nat → ClassId} {b : Nat} {x : Nat → Nat} {h : mH} {H H1 : Heap} (hR : mRel D cA b x h H) {a k : Nat} {q : mC} {v : Value} (h1 : 50 ≤ q.1) (hk : k < q.2.length) (e : H1[b + a]? = some ((arrV (cA q.1) q.2.length (fun j => mSh b x (vp_V q.2 j))).setSlot k (mSh b x v))) (z : H1.size = H.size) (o : ∀ j : Nat, j ≠ b + a → H1[j]? = H[j]?) : mRel D cA b x (h.set a (q.1, q.2.set k v)) H1 := by
  refine hR.set z o ⟨fun q0 => absurd q0 (by dsimp only; omega), fun _ => ?_⟩
  rw [e, arrV_store]
  dsimp only
  rw [List.length_set]
  congr 2
  funext j
  exact mV_set hk (mSh b x) v j
theorem mIx_ok {j : Int32} {n : Nat} (h : mIx j n = true) : ¬ (j < 0 ∨ n ≤ j.toNatClampNeg) := of_decide_eq_true h
theorem mIx_lt {j : Int32} {n : Nat} (h : mIx j n = true) : j.toNatClampNeg < n := Nat.not_le.mp fun q => (mIx_ok h) (Or.inr q)
noncomputable def mLnkS (own : String) (en : mE) : Bool := match en.2.1 with
  | .getstatic idx => mHas (mTgt en 4) (.fieldLink own idx "FirstLanding$Kind" (if mTgt en 1 = 1 then "LETTERS" else "PARENTS") "[I")
  | _ => true
section MSR
variable {p : Program} {l : Launch} {e : Env} {R : Room} {s : State} {m : MethodId} {args : Array Value} {below : List Frame} {meth : Method} {c : Code} {H : Heap} {locs : List Loc} {cells slots : Nat} {Q : State → Prop}
variable {cc : ByteArray} {cs : List mE} {b : Nat} {x : Nat → Nat} {xs : Nat → List Int32} {en : mE} {i : Nat} {L : mL} {st : List Value} {h : mH} {g : mG} {D : va_G} {cA : Nat → ClassId} {own : String} {ini : Bool}
theorem mArr_in {q : mC} {j : Int32} (f : Nat → Value) (ca : ClassId) (h : mIx j q.2.length = true) : ¬ (j < 0 ∨ (arrV ca q.2.length f).slots.size ≤ j.toNatClampNeg) := by rw [arrV_size]; exact mIx_ok h
theorem mArr_rd {q : mC} {j : Int32} {v : Value} (f : Value → Value) (ca : ClassId) (hv : q.2[j.toNatClampNeg]? = some v) : (arrV ca q.2.length (fun k => f (vp_V q.2 k))).slots[j.toNatClampNeg]? = some (f v) := by
  rw [arrV_read _ _ (List.getElem?_eq_some_iff.mp hv).1]
  unfold vp_V
  rw [List.getD_eq_getElem?_getD, hv]
  rfl
set_option maxHeartbeats 4000000 in
theorem mF2_sim (hx : p.tables.exec = Jvm.exec) (hb : c.code = cc) (hown : s.vm.findClass own = some m.cls) (hts : ∀ w ∈ mW, w.before args s = true) (hE : mEv D cA b x xs s) (hR : mRel D cA b x h H) (hS : va_S (fun q => b ≤ q) s.heap H locs)
    (hd : decode cc (mPcAt cs i) = .ok (en.2.1, mLen en.2.1)) (hf : mPcAt cs (i + 1) = mPcAt cs i + mLen en.2.1) (hlk : mLnkS own en = true)
    (hs : mF2 xs en i L st h = some g) (kk : mFol p l e R s m args below meth c cs (mSh b x) Q H locs cells slots g) : mFol p l e R s m args below meth c cs (mSh b x) Q H locs cells slots (i, L, st, h) ∧ g.2.2.2 = h ∧ g.2.1.length = L.length := by
  obtain ⟨hK, hT, hZ1, hZ2, -, -⟩ := hE
  unfold mF2 at hs
  split at hs
  · rename_i idx heq
    split at hs
    · rename_i hc
      cases hs
      refine ⟨fun ls hl => ?_, rfl, rfl⟩
      have k1 := kk ls hl
      unfold mLnkS at hlk
      rw [heq] at hlk hd hf
      dsimp only [List.map_cons] at k1 hlk ⊢
      rw [hf] at k1
      rcases hc with hc | hc
      · rw [hc] at hlk k1
        exact va_gets hx hb hZ1 hS hown (hts _ (mHas_ok hlk)) (fun z hz => hz) hd k1
      · rw [hc] at hlk k1
        exact va_gets hx hb hZ2 hS hown (hts _ (mHas_ok hlk)) (fun z hz => hz) hd k1
    · cases hs
  · rename_i heq
    rw [heq] at hd hf
    split at hs
    · rename_i a r
      split at hs
      · rename_i q hq
        split at hs
        · rename_i hc
          cases hs
          refine ⟨fun ls hl => ?_, rfl, rfl⟩
          have k1 := kk ls hl
          dsimp only [List.map_cons, mSh] at k1 ⊢
          rw [hf] at k1
          exact W.alen hx hb (hR.arr hq hc.1) ((hK.2 _ _ (mTy_at cA hc.1 hc.2)).1 _ _) (by rw [arrV_size]) rfl rfl hd k1
        · cases hs
      · cases hs
    · rename_i n r
      split at hs
      · rename_i hn
        cases hs
        refine ⟨fun ls hl => ?_, rfl, rfl⟩
        have k1 := kk ls hl
        dsimp only [List.map_cons, mSh] at k1 ⊢
        rw [hf] at k1
        exact va_tlen hx hb (hT n hn) hS rfl hd k1
      · cases hs
    · cases hs
  · rename_i heq
    rw [heq] at hd hf
    split at hs
    · rename_i j a r
      split at hs
      · rename_i q hq
        split at hs
        · rename_i hc
          split at hs
          · rename_i v hv
            cases hs
            refine ⟨fun ls hl => ?_, rfl, rfl⟩
            have k1 := kk ls hl
            dsimp only [List.map_cons] at k1 ⊢
            rw [hf] at k1
            have hty := (hK.2 _ _ (mTy_at cA (t := q.1) (by omega) (by omega))).1 q.2.length (fun j => mSh b x (vp_V q.2 j))
            dsimp only at hty
            rw [show mTagTy q.1 = .int by rw [hc.1]; rfl] at hty
            exact W.iald hx hb (hR.arr hq (by omega)) hty (fun z => by cases z) (mArr_in _ _ hc.2) (mArr_rd (mSh b x) _ hv) rfl rfl hd k1
          · cases hs
        · cases hs
      · cases hs
    · rename_i j n r
      split at hs
      · rename_i hn
        cases hs
        refine ⟨fun ls hl => ?_, rfl, rfl⟩
        have k1 := kk ls hl
        dsimp only [List.map_cons, mSh] at k1 ⊢
        rw [hf] at k1
        exact va_ti hx hb (hT n hn.1) hS (mIx_ok hn.2) rfl hd k1
      · cases hs
    · cases hs
  · rename_i heq
    rw [heq] at hd hf
    split at hs
    · rename_i j a r
      split at hs
      · rename_i q hq
        split at hs
        · rename_i hc
          split at hs
          · rename_i v hv
            cases hs
            refine ⟨fun ls hl => ?_, rfl, rfl⟩
            have k1 := kk ls hl
            dsimp only [List.map_cons] at k1 ⊢
            rw [hf] at k1
            have hty := (hK.2 _ _ (mTy_at cA (t := q.1) (by omega) (by omega))).1 q.2.length (fun j => mSh b x (vp_V q.2 j))
            dsimp only at hty
            rcases hc.1 with e1 | e1
            · rw [show mTagTy q.1 = .byte by rw [e1]; rfl] at hty
              exact W.bald hx hb (hR.arr hq (by omega)) hty (fun z => by cases z) (mArr_in _ _ hc.2) (mArr_rd (mSh b x) _ hv) rfl rfl hd k1
            · rw [show mTagTy q.1 = .boolean by rw [e1]; rfl] at hty
              exact W.zald hx hb (hR.arr hq (by omega)) hty (fun z => by cases z) (mArr_in _ _ hc.2) (mArr_rd (mSh b x) _ hv) rfl rfl hd k1
          · cases hs
        · cases hs
      · cases hs
    · cases hs
  · rename_i heq
    rw [heq] at hd hf
    split at hs
    · rename_i j a r
      split at hs
      · rename_i q hq
        split at hs
        · rename_i hc
          split at hs
          · rename_i v hv
            cases hs
            refine ⟨fun ls hl => ?_, rfl, rfl⟩
            have k1 := kk ls hl
            dsimp only [List.map_cons] at k1 ⊢
            rw [hf] at k1
            have hty := (hK.2 _ _ (mTy_at cA (t := q.1) (by omega) (by omega))).1 q.2.length (fun j => mSh b x (vp_V q.2 j))
            dsimp only at hty
            have href : (mTagTy q.1).isReference = true := by
              rcases (show q.1 = 53 ∨ q.1 = 54 ∨ q.1 = 55 by omega) with e1 | e1 | e1 <;> rw [e1] <;> rfl
            exact W.aald hx hb (hR.arr hq (by omega)) hty href (fun z => by cases z) (mArr_in _ _ hc.2) (mArr_rd (mSh b x) _ hv) rfl rfl hd k1
          · cases hs
        · cases hs
      · cases hs
    · cases hs
  · cases hs
set_option maxHeartbeats 4000000 in
theorem mF3_sim (hx : p.tables.exec = Jvm.exec) (hb : c.code = cc) (hK : va_K D mCl (mTys cA) s) (hR : mRel D cA b x h H) (hS : va_S (fun q => b ≤ q) s.heap H locs)
    (hd : decode cc (mPcAt cs i) = .ok (en.2.1, mLen en.2.1)) (hf : mPcAt cs (i + 1) = mPcAt cs i + mLen en.2.1)
    (hs : mF3 en i L st h = some g) (kk : ∀ (H1 : Heap) (locs1 : List Loc), mRel D cA b x g.2.2.2 H1 → va_S (fun q => b ≤ q) s.heap H1 locs1 → mFol p l e R s m args below meth c cs (mSh b x) Q H1 locs1 cells slots g) : mFol p l e R s m args below meth c cs (mSh b x) Q H locs cells slots (i, L, st, h) ∧ g.2.2.2.length = h.length ∧ g.2.1.length = L.length := by
  unfold mF3 at hs
  split at hs
  · rename_i heq
    rw [heq] at hd hf
    split at hs
    · rename_i v j a r
      split at hs
      · rename_i q hq
        split at hs
        · rename_i hc
          cases hs
          refine ⟨fun ls hl => ?_, by simp, rfl⟩
          dsimp only at kk hl ⊢
          have hty := (hK.2 _ _ (mTy_at cA (t := q.1) (by omega) (by omega))).1 q.2.length (fun j => mSh b x (vp_V q.2 j))
          dsimp only at hty
          rw [show mTagTy q.1 = .int by rw [hc.1]; rfl] at hty
          refine W.iast hx hb (hR.arr hq (by omega)) hty (fun z => by cases z) (mArr_in _ _ hc.2) rfl rfl hd fun H1 e1 e2 e3 => ?_
          have k1 := kk H1 _ (hR.put (by omega) (mIx_lt hc.2) (v := .int v) e1 e2 e3) (hS.put (k := j.toNatClampNeg) e2 e3 (Nat.le_add_right _ _)) ls hl
          dsimp only at k1
          rw [hf] at k1
          exact k1
        · cases hs
      · cases hs
    · cases hs
  · rename_i heq
    rw [heq] at hd hf
    split at hs
    · rename_i v j a r
      split at hs
      · rename_i q hq
        split at hs
        · rename_i hc
          cases hs
          refine ⟨fun ls hl => ?_, by simp, rfl⟩
          dsimp only at kk hl ⊢
          have hty := (hK.2 _ _ (mTy_at cA (t := q.1) (by omega) (by omega))).1 q.2.length (fun j => mSh b x (vp_V q.2 j))
          dsimp only at hty
          rw [show mTagTy q.1 = .byte by rw [hc.1]; rfl] at hty
          refine W.bast hx hb (hR.arr hq (by omega)) hty (fun z => by cases z) (mArr_in _ _ hc.2) rfl rfl hd fun H1 e1 e2 e3 => ?_
          have k1 := kk H1 _ (hR.put (by omega) (mIx_lt hc.2) (v := .int v.toInt8.toInt32) e1 e2 e3) (hS.put (k := j.toNatClampNeg) e2 e3 (Nat.le_add_right _ _)) ls hl
          dsimp only at k1
          rw [hf] at k1
          exact k1
        · split at hs
          · rename_i hc
            cases hs
            refine ⟨fun ls hl => ?_, by simp, rfl⟩
            dsimp only at kk hl ⊢
            have hty := (hK.2 _ _ (mTy_at cA (t := q.1) (by omega) (by omega))).1 q.2.length (fun j => mSh b x (vp_V q.2 j))
            dsimp only at hty
            rw [show mTagTy q.1 = .boolean by rw [hc.1]; rfl] at hty
            refine W.zast hx hb (hR.arr hq (by omega)) hty (fun z => by cases z) (mArr_in _ _ hc.2) rfl rfl hd fun H1 e1 e2 e3 => ?_
            have k1 := kk H1 _ (hR.put (by omega) (mIx_lt hc.2) (v := .int (v &&& 1)) e1 e2 e3) (hS.put (k := j.toNatClampNeg) e2 e3 (Nat.le_add_right _ _)) ls hl
            dsimp only at k1
            rw [hf] at k1
            exact k1
          · cases hs
      · cases hs
    · cases hs
  · rename_i heq
    rw [heq] at hd hf
    split at hs
    · rename_i w j a r
      split at hs
      · rename_i q hq
        split at hs
        · rename_i q2 hq2
          split at hs
          · rename_i hc
            obtain ⟨h1, h2, h3⟩ := hc
            cases hs
            refine ⟨fun ls hl => ?_, by simp, rfl⟩
            dsimp only at kk hl ⊢
            have hlt50 : q2.1 < 50 := by rw [h3]; unfold mElC; split <;> (try split) <;> omega
            obtain ⟨rr, g1, g2, cellV, c1, c2, c3, -⟩ := (hR.2 w q2 hq2).1 hlt50
            have hcls := (hK.1 q2.1 rr g1).2
            have hra := (hK.2 _ _ (mTy_at cA (t := q.1) (by omega) (by omega))).2
            have hobj : mTagTy q.1 = .object rr.1 := by
              rcases (show q.1 = 53 ∨ q.1 = 54 ∨ q.1 = 55 by omega) with e1 | e1 | e1 <;> rw [h3, e1] at g1 <;> cases g1 <;> rw [e1] <;> rfl
            dsimp only at hra
            rw [hobj] at hra
            obtain ⟨kA, comp, k1, k2, k3, -⟩ := hra
            have hcomp : comp = D.1 q2.1 := Option.some.inj (k3.symm.trans hcls.1)
            subst hcomp
            obtain ⟨kC, hkC, -⟩ := hcls.2
            refine W.aast hx hb (hR.arr hq (by omega)) (fun z z2 => by cases z2) (fun z => by cases z) k1 k2 rfl hkC ⟨fun z => mIx_ok h2 (Or.inl z), by rw [arrV_size]; exact mIx_lt h2⟩ c1 (fun z z2 => by rw [c3] at z2; cases z2) (by rw [c2]; exact hkC) (by rw [c2]; exact va_assign hcls) rfl rfl hd fun H1 e1 e2 e3 => ?_
            have k1 := kk H1 _ (hR.put (by omega) (mIx_lt h2) (v := .ref w) e1 e2 e3) (hS.put (k := j.toNatClampNeg) e2 e3 (Nat.le_add_right _ _)) ls hl
            dsimp only at k1
            rw [hf] at k1
            exact k1
          · cases hs
        · cases hs
      · cases hs
    · cases hs
  · cases hs
end MSR
end
section
/-! making cells -/
noncomputable def mSl (h : mH) : Nat := (h.map (fun q => q.2.length)).sum
theorem mSl_app (h : mH) (q : mC) : mSl (h ++ [q]) = mSl h + q.2.length := by simp [mSl]
noncomputable def mAt : ArrayType → Option Nat
  | .int => some 50
  | .byte => some 51
  | .boolean => some 52
  | _ => none
noncomputable def mN1 (en : mE) (i : Nat) (L : mL) (st : List Value) (h : mH) : Option mG := match en.2.1 with
  | .newarray aty => match st with
    | .int n :: r => match mAt aty with
      | some t => if ¬ n < 0 ∧ n.toNatClampNeg ≤ 100000 then some (i + 1, L, .ref h.length :: r, h ++ [(t, List.replicate n.toNatClampNeg (.int 0))]) else none
      | none => none
    | _ => none
  | .anewarray _ => match st with
    | .int n :: r => if (¬ n < 0 ∧ n.toNatClampNeg ≤ 100000) ∧ 53 ≤ mTgt en 1 ∧ mTgt en 1 < 56 then some (i + 1, L, .ref h.length :: r, h ++ [(mTgt en 1, List.replicate n.toNatClampNeg .null)]) else none
    | _ => none
  | .new _ => match mCl[mTgt en 1]? with
    | some r0 => if mTgt en 1 < 50 then some (i + 1, L, .ref h.length :: st, h ++ [(mTgt en 1, (List.range r0.2.2).map (fun k => defaultValue (mFT (mTgt en 1) k)))]) else none
    | none => none
  | _ => none
noncomputable def mElN (t : Nat) : String := if t = 53 then "FirstLanding$Row" else if t = 54 then "FirstLanding$Text" else "FirstLanding$Embassy"
noncomputable def mLnkN (own : String) (en : mE) : Bool := match en.2.1 with
  | .newarray aty => mHas (mTgt en 4) (.arrayClass (newarray.typeOf aty))
  | .anewarray idx => mHas (mTgt en 4) (.classLink own idx (mElN (mTgt en 1)))
  | .new idx => match mCl[mTgt en 1]? with
    | some r => mHas (mTgt en 4) (.classLink own idx r.1) && (mHas (mTgt en 5) (.instantiable r.1 r.2.2) && mHas (mTgt en 6) (.initialized r.1))
    | none => false
  | _ => true
theorem mRep {n : Nat} {v : Value} (f : Value → Value) (hf : f .null = .null) (j : Nat) (hj : j < n) : f (vp_V (List.replicate n v) j) = f v := by
  unfold vp_V
  simp [hj]
section MSN
variable {p : Program} {l : Launch} {e : Env} {R : Room} {s : State} {m : MethodId} {args : Array Value} {below : List Frame} {meth : Method} {c : Code} {H : Heap} {locs : List Loc} {cells slots : Nat} {Q : State → Prop}
variable {cc : ByteArray} {cs : List mE} {b : Nat} {x : Nat → Nat} {xs : Nat → List Int32} {en : mE} {i : Nat} {L : mL} {st : List Value} {h : mH} {g : mG} {D : va_G} {cA : Nat → ClassId} {own : String} {ini : Bool}
theorem arrV_congr (ca : ClassId) (n : Nat) (f k : Nat → Value) (hfk : ∀ j, j < n → f j = k j) : arrV ca n f = arrV ca n k := by
  unfold arrV
  congr 1
  apply Array.ext
  · simp
  · intro j h1 h2
    simp at h1 ⊢
    exact hfk j h1
set_option maxHeartbeats 4000000 in
theorem mN1_sim (hx : p.tables.exec = Jvm.exec) (hb : c.code = cc) (hown : s.vm.findClass own = some m.cls) (hts : ∀ w ∈ mW, w.before args s = true) (hE : mEv D cA b x xs s) (hbs : b ≤ s.heap.size) (hR : mRel D cA b x h H) (hS : va_S (fun q => b ≤ q) s.heap H locs)
    (hd : decode cc (mPcAt cs i) = .ok (en.2.1, mLen en.2.1)) (hf : mPcAt cs (i + 1) = mPcAt cs i + mLen en.2.1) (hlk : mLnkN own en = true)
    (hs : mN1 en i L st h = some g) (hrc : cells + 1 ≤ R.cells) (hrs : slots + (mSl g.2.2.2 - mSl h) ≤ R.slots)
    (kk : ∀ (H1 : Heap), mRel D cA b x g.2.2.2 H1 → va_S (fun q => b ≤ q) s.heap H1 locs → mFol p l e R s m args below meth c cs (mSh b x) Q H1 locs (cells + 1) (slots + (mSl g.2.2.2 - mSl h)) g) : mFol p l e R s m args below meth c cs (mSh b x) Q H locs cells slots (i, L, st, h) ∧ g.2.2.2.length = h.length + 1 ∧ g.2.1.length = L.length ∧ mSl h ≤ mSl g.2.2.2 := by
  obtain ⟨hK, hT, hZ1, hZ2, hN, hAO⟩ := hE
  have fr : ∀ H1 : Heap, H1.size = H.size + 1 → (∀ q : Nat, q < H.size → H1[q]? = H[q]?) → va_S (fun q => b ≤ q) s.heap H1 locs := fun H1 z o => ⟨Nat.le_trans hS.1 (by omega), fun q h1 h2 => (o q (Nat.lt_of_lt_of_le h1 hS.1)).trans (hS.2.1 q h1 h2), hS.2.2⟩
  unfold mN1 at hs
  unfold mLnkN at hlk
  split at hs
  · rename_i aty heq
    rw [heq] at hd hf hlk
    split at hs
    · rename_i n r
      split at hs
      · rename_i t ht
        split at hs
        · rename_i hn
          cases hs
          dsimp only at hrs kk ⊢
          rw [mSl_app] at hrs kk ⊢
          simp only [List.length_replicate] at hrs kk ⊢
          rw [show mSl h + n.toNatClampNeg - mSl h = n.toNatClampNeg by omega] at hrs kk
          refine ⟨fun ls hl => ?_, by simp, by simp, by omega⟩
          dsimp only [List.map_cons, mSh] at hl ⊢
          have hcb : componentBytes (newarray.typeOf aty) ≤ 8 := by cases aty <;> decide
          refine va_newaK (n := n) (N := n.toNatClampNeg) hx hb (hts _ (mHas_ok hlk)) rfl hd rfl hn.1 rfl (Nat.le_trans (Nat.mul_le_mul hn.2 hcb) (by decide)) hrc hrs (h := b + h.length) hR.1 fun H1 ca e1 e2 e3 e4 e5 => ?_
          have ht50 : 50 ≤ t ∧ t < 56 ∧ mTagTy t = newarray.typeOf aty := by cases aty <;> cases ht <;> exact ⟨by decide, by decide, rfl⟩
          have hra := (hK.2 _ _ (mTy_at cA ht50.1 ht50.2.1)).2
          dsimp only at hra
          rw [ht50.2.2] at hra
          have hca : cA t = ca := by
            have hz : s.vm.findClass ("[" ++ (newarray.typeOf aty).toString) = some (cA t) := by cases aty <;> first | exact hra | cases ht
            exact Option.some.inj (hz.symm.trans e5)
          have z1 : H1.size = H.size + 1 := by rw [e2, hR.1]
          have o1 : ∀ q : Nat, q < H.size → H1[q]? = H[q]? := fun q hq => e3 q (by rw [← hR.1]; exact hq)
          have k1 := kk H1 (hR.push z1 o1 ⟨fun z => absurd z (by dsimp only; omega), fun _ => by
            rw [e1]
            dsimp only
            rw [List.length_replicate, hca]
            refine congrArg some (arrV_congr _ _ _ _ fun j hj => ?_)
            rw [mRep (mSh b x) rfl j hj]
            cases aty <;> first | rfl | cases ht⟩) (fr H1 z1 o1) ls hl
          dsimp only [List.map_cons, mSh] at k1
          rw [hf] at k1
          exact k1
        · cases hs
      · cases hs
    · cases hs
  · rename_i idx heq
    rw [heq] at hd hf hlk
    split at hs
    · rename_i n r
      split at hs
      · rename_i hn
        obtain ⟨hn, ht1, ht2⟩ := hn
        cases hs
        dsimp only at hrs kk ⊢
        rw [mSl_app] at hrs kk ⊢
        simp only [List.length_replicate] at hrs kk ⊢
        rw [show mSl h + n.toNatClampNeg - mSl h = n.toNatClampNeg by omega] at hrs kk
        refine ⟨fun ls hl => ?_, by simp, by simp, by omega⟩
        dsimp only [List.map_cons, mSh] at hl ⊢
        have hel : va_AO (mElN (mTgt en 1)) s ∧ mTagTy (mTgt en 1) = .object (mElN (mTgt en 1)) := by
          rcases (show mTgt en 1 = 53 ∨ mTgt en 1 = 54 ∨ mTgt en 1 = 55 by omega) with e1 | e1 | e1 <;> rw [e1]
          · exact ⟨hAO.1, rfl⟩
          · exact ⟨hAO.2.1, rfl⟩
          · exact ⟨hAO.2.2, rfl⟩
        refine W.anew (n := n) hx hb hown (hts _ (mHas_ok hlk)) (va_AO.use hel.1) rfl hd rfl hn.1 (Nat.le_trans (Nat.mul_le_mul_right 4 hn.2) (by decide)) hrc hrs fun ca kA comp f1 f2 f3 f4 => ?_
        generalize hH1 : H.push ({ cls := ca, slots := Array.replicate n.toNatClampNeg .null, vm := .none } : Cell) = H1
        have z1 : H1.size = H.size + 1 := by rw [← hH1, Array.size_push]
        have e1 : H1[H.size]? = some (arrV ca n.toNatClampNeg (fun _ => .null)) := by rw [← hH1, Array.getElem?_push_size, ← arrV_new]
        have o1 : ∀ q : Nat, q < H.size → H1[q]? = H[q]? := fun q hq => by rw [← hH1, Array.getElem?_push, if_neg (Nat.ne_of_lt hq)]
        have hra := (hK.2 _ _ (mTy_at cA (t := mTgt en 1) (by omega) (by omega))).2
        dsimp only at hra
        rw [hel.2] at hra
        obtain ⟨kA2, comp2, -, -, -, e5⟩ := hra
        have hca : cA (mTgt en 1) = ca := Option.some.inj (e5.symm.trans f1)
        rw [hR.1] at e1
        have k1 := kk H1 (hR.push z1 o1 ⟨fun z => absurd z (by dsimp only; omega), fun _ => by
          rw [e1]
          dsimp only
          rw [List.length_replicate, hca]
          refine congrArg some (arrV_congr _ _ _ _ fun j hj => ?_)
          rw [mRep (mSh b x) rfl j hj]
          rfl⟩) (fr H1 z1 o1) ls hl
        dsimp only [List.map_cons, mSh] at k1
        rw [hf] at k1
        rw [hR.1]
        exact k1
      · cases hs
    · cases hs
  · rename_i idx heq
    rw [heq] at hd hf hlk
    split at hs
    · rename_i r0 hr0
      split at hs
      · rename_i ht
        cases hs
        dsimp only at hrs kk ⊢
        rw [mSl_app] at hrs kk ⊢
        simp only [List.length_map, List.length_range] at hrs kk ⊢
        rw [show mSl h + r0.2.2 - mSl h = r0.2.2 by omega] at hrs kk
        refine ⟨fun ls hl => ?_, by simp, by simp, by omega⟩
        dsimp only at hl hlk ⊢
        rw [hr0] at hlk
        dsimp only at hlk
        simp only [Bool.and_eq_true] at hlk
        obtain ⟨l1, l2, l3⟩ := hlk
        obtain ⟨o1, o2, o3⟩ := mCl_ok _ _ hr0
        obtain ⟨hS1, hfc, kC0, hkC0, hkind⟩ := hK.1 (mTgt en 1) _ hr0
        refine W.newcK hx hb hown (hts _ (mHas_ok l1)) (hts _ (mHas_ok l2)) (hts _ (mHas_ok l3)) rfl hd hrc hrs hfc (h := b + h.length) hR.1 fun H1 kC hkC e1 e2 e3 => ?_
        have z1 : H1.size = H.size + 1 := by rw [e2, hR.1]
        have q1 : ∀ q : Nat, q < H.size → H1[q]? = H[q]? := fun q hq => e3 q (by rw [← hR.1]; exact hq)
        have hborn := u_born (mFT (mTgt en 1)) hts o1 (hK.1 (mTgt en 1) _ hr0) hkC e1 o2
        have k1 := kk H1 (hR.push z1 q1 ⟨fun _ => ⟨r0, hr0, by simp, hborn.to (fun j hj => by
          unfold vp_V
          rw [List.getD_eq_getElem?_getD, List.getElem?_map, List.getElem?_range hj]
          show defaultValue (mFT (mTgt en 1) j) = mSh b x (defaultValue (mFT (mTgt en 1) j))
          cases mFT (mTgt en 1) j <;> rfl)⟩, fun z => absurd ht z⟩) (fr H1 z1 q1) ls hl
        dsimp only [List.map_cons, mSh] at k1
        rw [hf] at k1
        exact k1
      · cases hs
    · cases hs
  · cases hs
end MSN
end
section
/-! calls -/
/-- a method: its name, bytes, locals, what it returns, its sort (0 static, 1 of an object, 2 a constructor), its arguments, where its words stand, its code -/
abbrev mM : Type := MethodName × ByteArray × Nat × Option FieldType × Nat × Nat × List Nat × List mE
noncomputable def mMY (t : mM) : MethodName := t.1
noncomputable def mMB (t : mM) : ByteArray := t.2.1
noncomputable def mMX (t : mM) : Nat := t.2.2.1
noncomputable def mMT (t : mM) : Option FieldType := t.2.2.2.1
noncomputable def mMK (t : mM) : Nat := t.2.2.2.2.1
noncomputable def mMN (t : mM) : Nat := t.2.2.2.2.2.1
noncomputable def mMW (t : mM) : List Nat := t.2.2.2.2.2.2.1
noncomputable def mMC (t : mM) : List mE := t.2.2.2.2.2.2.2
noncomputable def mCnt (t : mM) : Nat := if mMK t = 0 then mMN t else mMN t + 1
noncomputable def mRcv (t : mM) (av : List Value) (h : mH) : Bool := if mMK t = 0 then true else match av with
  | .ref a :: _ => if mMK t = 2 then true else (match h[a]? with
    | some q => decide (q.1 < 50) && (match mCl[q.1]? with
      | some r => decide (r.1 = (mMY t).cls)
      | none => false)
    | none => false)
  | _ => false
noncomputable def mInv : Instr → Bool
  | .invokevirtual _ => true
  | .invokestatic _ => true
  | .invokespecial _ => true
  | _ => false
noncomputable def mG1 (tab : List mM) (call : Nat → List Value → mH → Option mR) (en : mE) (i : Nat) (L : mL) (st : List Value) (h : mH) : Option mG :=
  if mInv en.2.1 = true ∧ mTgt en 2 = 0 then
    match tab[mTgt en 1]? with
    | some t => if mCnt t ≤ st.length ∧ ((st.drop (mCnt t)).map (fun v => v.category)).sum ≤ 8 ∧ mRcv t ((st.take (mCnt t)).reverse) h = true ∧ (mEnt ((st.take (mCnt t)).reverse)).length ≤ mMX t then
        (match call (mTgt en 1) ((st.take (mCnt t)).reverse) h with
        | some r => some (i + 1, L, r.1.toList ++ st.drop (mCnt t), r.2)
        | none => none) else none
    | none => none
  else none
noncomputable def mCpy (us vs : List Value) (sp dp n : Nat) : List Value := (List.range vs.length).map (fun k => va_cpy (vp_V us) (vp_V vs) sp dp n k)
noncomputable def mG2 (en : mE) (i : Nat) (L : mL) (st : List Value) (h : mH) : Option mG := match en.2.1 with
  | .invokespecial _ => match st with
    | .ref _ :: r => if mTgt en 2 = 1 ∧ (r.map (fun v => v.category)).sum ≤ 8 then some (i + 1, L, r, h) else none
    | _ => none
  | .invokestatic _ => match st with
    | .int n :: .int dp :: .ref a1 :: .int sp :: .ref a0 :: r => match h[a0]? with
      | some q0 => match h[a1]? with
        | some q1 => if mTgt en 2 = 2 ∧ (r.map (fun v => v.category)).sum ≤ 8 ∧ q0.1 = 50 ∧ q1.1 = 50 ∧ ¬ sp < 0 ∧ ¬ dp < 0 ∧ ¬ n < 0 ∧ sp.toNatClampNeg + n.toNatClampNeg ≤ q0.2.length ∧ dp.toNatClampNeg + n.toNatClampNeg ≤ q1.2.length ∧ q0.2.all mIsI = true then some (i + 1, L, r, h.set a1 (q1.1, mCpy q0.2 q1.2 sp.toNatClampNeg dp.toNatClampNeg n.toNatClampNeg)) else none
        | none => none
      | none => none
    | _ => none
  | _ => none
/-- what a method's own words must be -/
noncomputable def mMok (t : mM) : Bool := mHas ((mMW t).getD 0 0) (.code (mMY t) (mMB t) (mMX t) (mMT t)) && (mHas ((mMW t).getD 1 0) (.initialized (mMY t).cls) && (decide ((mMY t).cls ≠ "java/lang/invoke/MethodHandle" ∧ (mMY t).cls ≠ "java/lang/invoke/VarHandle" ∧ (parseMethodDescriptor (mMY t).desc).map (fun d => d.parameters.length) = some (mMN t) ∧ mMX t ≤ 41) &&
  (if mMK t = 0 then mHas ((mMW t).getD 2 0) (.static (mMY t)) else if mMK t = 1 then mHas ((mMW t).getD 2 0) (.instanceMethod (mMY t)) && mHas ((mMW t).getD 3 0) (.selects (mMY t).cls (mMY t) (mMY t)) else mHas ((mMW t).getD 2 0) (.instanceMethod (mMY t)) && decide ((mMY t).name = "<init>" ∧ mMT t = none ∧ mMK t = 2))))
/-- what a place of a call must be -/
noncomputable def mLnkC (tab : List mM) (own : String) (en : mE) : Bool := match en.2.1 with
  | .invokevirtual idx => mTgt en 2 = 0 ∧ (match tab[mTgt en 1]? with
    | some t => decide (mMK t = 1) && (if mTgt en 3 = 0 then mHas (mTgt en 4) (.methodLink own idx (mMY t)) else mHasN (mTgt en 4) (.methodLinkNest own idx (mMY t) "FirstLanding"))
    | none => false) = true
  | .invokestatic idx => if mTgt en 2 = 0 then (match tab[mTgt en 1]? with
    | some t => decide (mMK t = 0) && (if mTgt en 3 = 0 then mHas (mTgt en 4) (.methodLink own idx (mMY t)) else mHasN (mTgt en 4) (.methodLinkNest own idx (mMY t) "FirstLanding"))
    | none => false) else mHas (mTgt en 4) (.methodLink own idx arraycopyName) && (mHas (mTgt en 5) (.native arraycopyName) && (mHas (mTgt en 6) (.static arraycopyName) && mHas (mTgt en 7) (.initialized "java/lang/System")))
  | .invokespecial idx => if mTgt en 2 = 0 then (match tab[mTgt en 1]? with
    | some t => decide (mMK t = 2) && (if mTgt en 3 = 0 then mHas (mTgt en 4) (.methodLink own idx (mMY t)) else mHasN (mTgt en 4) (.methodLinkNest own idx (mMY t) "FirstLanding"))
    | none => false) else mHas (mTgt en 4) (.methodLink own idx Lib.objectInit) && (mHas (mTgt en 5) (.instanceMethod Lib.objectInit) && mHas (mTgt en 6) (.code Lib.objectInit ⟨#[0xb1]⟩ 1 none))
  | _ => true
noncomputable def mWs (t : mM) : List Cond := Cond.code (mMY t) (mMB t) (mMX t) (mMT t) :: mW
theorem mGood {w : Cond} (h : w ∈ mW) : GoodIn mW (w :: mW) := by
  intro z hz
  have h1 : z ∈ mW := by
    rcases List.mem_cons.mp hz with e | e
    · rw [e]; exact h
    · exact e
  exact ⟨h1, good_of_word (List.mem_filter.mp h1).2⟩
noncomputable def mRm (d mc ms : Nat) : Room := { frames := d, cells := mc, slots := ms, locals := 60 * d }
noncomputable def mPc (D : va_G) (cA : Nat → ClassId) (b : Nat) (x : Nat → Nat) (xs : Nat → List Int32) (av : List Value) (h : mH) : Array Value → State → Prop := fun a U => a = (av.map (mSh b x)).toArray ∧ mRel D cA b x h U.heap ∧ mEv D cA b x xs U
noncomputable def mQc (D : va_G) (cA : Nat → ClassId) (b : Nat) (x : Nat → Nat) (r : mR) : Array Value → State → Outcome → State → Prop := fun _ st o t => o = .returned (r.1.map (mSh b x)) ∧ mRel D cA b x r.2 t.heap ∧ va_F (fun q => b ≤ q) st t
noncomputable def mMet (l : Launch) (D : va_G) (cA : Nat → ClassId) (b : Nat) (x : Nat → Nat) (xs : Nat → List Int32) (d : Nat) (t : mM) (av : List Value) (h : mH) (r : mR) : Prop :=
  Met l (mMY t) (mWs t) (mRm d (r.2.length - h.length) (mSl r.2 - mSl h)) (mPc D cA b x xs av h) (mQc D cA b x r) (r.2.length - h.length) (mSl r.2 - mSl h) (fun q => b ≤ q)
theorem mPc_blind (D : va_G) (cA : Nat → ClassId) (b : Nat) (x : Nat → Nat) (xs : Nat → List Int32) (av : List Value) (h : mH) : FrameBlind (mPc D cA b x xs av h) := by
  intro a U g mk hp
  exact ⟨hp.1, hp.2.1, hp.2.2.to (mWN_same (s := U) (U := U.calling g mk a) rfl hp.2.2.2.2.2.2.1) (Vm.Alike.refl U.vm) (fun _ _ _ => rfl)⟩
section MSC
variable {p : Program} {l : Launch} {e : Env} {R : Room} {s : State} {m : MethodId} {args : Array Value} {below : List Frame} {meth : Method} {c : Code} {H : Heap} {locs : List Loc} {cells slots : Nat} {Q : State → Prop}
variable {cc : ByteArray} {cs : List mE} {b : Nat} {x : Nat → Nat} {xs : Nat → List Int32} {en : mE} {i : Nat} {L : mL} {st : List Value} {h : mH} {g : mG} {D : va_G} {cA : Nat → ClassId} {own : String} {ini : Bool} {tab : List mM} {call : Nat → List Value → mH → Option mR} {d : Nat}
theorem mPc_at (hE : mEv D cA b x xs s) (hR : mRel D cA b x h H) (hS : va_S (fun q => b ≤ q) s.heap H locs) (av : List Value) : ∀ U : State, U.heap = H → s.WarmedH U.vm → mPc D cA b x xs av h (av.map (mSh b x)).toArray U := by
  intro U hU hW
  refine ⟨rfl, by rw [hU]; exact hR, hE.to (mWN_warm hW hE.2.2.2.2.1) hW.alike (fun a h1 h2 => ?_)⟩
  rw [hU]
  exact hS.2.1 a h1 h2
/-- behind a call -/
theorem mBack {mc ms : Nat} {ls : Array Slot} {pc : Nat} {st0 rest : List Value} {a : Array Value} {r : mR} (hr : va_Run p l e R s m args below meth c H locs cells slots mc ms (F0 m pc ls st0) rest (mQc D cA b x r a) (fun q => b ≤ q)) (hS : va_S (fun q => b ≤ q) s.heap H locs)
    (kk : ∀ (H1 : Heap) (locs1 : List Loc), mRel D cA b x r.2 H1 → va_S (fun q => b ≤ q) s.heap H1 locs1 → W p l e R s m args below meth c H1 locs1 (cells + mc) (slots + ms) Q (F0 m (pc + 3) ls ((r.1.map (mSh b x)).toList ++ rest))) : W p l e R s m args below meth c H locs cells slots Q (F0 m pc ls st0) := by
  intro T hT X
  obtain ⟨v, st₀, t, T', L1, h0, X', hL, e1, e2, ⟨hv, hrel, hz, hk⟩, st1⟩ := hr T hT X
  cases hv
  rw [h0] at hz hk
  obtain ⟨t2, a1, b1⟩ := kk T'.heap (locs ++ L1) (by rw [e1]; exact hrel)
    ⟨Nat.le_trans hS.1 (by rw [e1]; exact hz), fun q h1 h2 => by rw [e1, hk q (Nat.lt_of_lt_of_le h1 hS.1) h2]; exact hS.2.1 q h1 h2, fun q hq => by
      rcases List.mem_append.mp hq with h | h
      · exact hS.2.2 q h
      · exact hL q h⟩ T' rfl X'
  exact ⟨t2, st1 t2 a1, b1⟩
theorem mRoom0 {pc : Nat} {ls : Array Slot} {st0 rest : List Value} (h : (rest.map (fun v => v.category)).sum ≤ 8) : 2 * (F0 m pc ls st0).monitorRoom + ((rest.map (mSh b x)).map fun v => v.category).sum ≤ 8 := by
  have h1 : ((rest.map (mSh b x)).map fun v => v.category) = rest.map (fun v => v.category) := by
    rw [List.map_map]
    exact List.map_congr_left (fun v _ => mSh_cat b x v)
  rw [h1]
  exact lv_room h
set_option maxHeartbeats 4000000 in
theorem mG1_sim (hx : p.tables.exec = Jvm.exec) (hb : c.code = cc) (hml : c.maxLocals = L.length) (hown : s.vm.findClass own = some m.cls) (hts : ∀ w ∈ mW, w.before args s = true) (hE : mEv D cA b x xs s) (hR : mRel D cA b x h H) (hS : va_S (fun q => b ≤ q) s.heap H locs)
    (hd : decode cc (mPcAt cs i) = .ok (en.2.1, mLen en.2.1)) (hf : mPcAt cs (i + 1) = mPcAt cs i + mLen en.2.1) (hlk : mLnkC tab own en = true) (htab : ∀ (k : Nat) (t : mM), tab[k]? = some t → mMok t = true)
    (hcall : ∀ (k : Nat) (t : mM) (av : List Value) (h0 : mH) (r : mR), tab[k]? = some t → (mEnt av).length ≤ mMX t → call k av h0 = some r → mMet l D cA b x xs d t av h0 r ∧ h0.length ≤ r.2.length ∧ mSl h0 ≤ mSl r.2)
    (hRf : d + 1 ≤ R.frames ∧ 60 * (d + 1) ≤ R.locals)
    (hs : mG1 tab call en i L st h = some g) (hrc : cells + (g.2.2.2.length - h.length) ≤ R.cells) (hrs : slots + (mSl g.2.2.2 - mSl h) ≤ R.slots)
    (kk : ∀ (H1 : Heap) (locs1 : List Loc), mRel D cA b x g.2.2.2 H1 → va_S (fun q => b ≤ q) s.heap H1 locs1 → mFol p l e R s m args below meth c cs (mSh b x) Q H1 locs1 (cells + (g.2.2.2.length - h.length)) (slots + (mSl g.2.2.2 - mSl h)) g) : mFol p l e R s m args below meth c cs (mSh b x) Q H locs cells slots (i, L, st, h) ∧ h.length ≤ g.2.2.2.length ∧ g.2.1.length = L.length ∧ mSl h ≤ mSl g.2.2.2 := by
  unfold mG1 at hs
  split at hs
  · rename_i hm
    obtain ⟨hm1, hm2⟩ := hm
    split at hs
    · rename_i t ht
      split at hs
      · rename_i hc
        obtain ⟨c1, c2, c3, c4⟩ := hc
        split at hs
        · rename_i r hr
          cases hs
          obtain ⟨hM, g1, g2⟩ := hcall _ t _ _ r ht c4 hr
          refine ⟨fun ls hl => ?_, g1, rfl, g2⟩
          dsimp only at hl hrc hrs kk ⊢
          have htk := htab _ t ht
          unfold mMok at htk
          simp only [Bool.and_eq_true] at htk
          obtain ⟨w0, w1, w2, w3⟩ := htk
          obtain ⟨w4, w5, w6, w7⟩ := of_decide_eq_true w2
          have hG := mGood (mHas_ok w0)
          have hini := hts _ (mHas_ok w1)
          have hRR : (mRm d (r.2.length - h.length) (mSl r.2 - mSl h)).frames + 1 ≤ R.frames ∧ 8 + (mMX t + 11) + (mRm d (r.2.length - h.length) (mSl r.2 - mSl h)).locals ≤ R.locals := ⟨hRf.1, by
            show 8 + (mMX t + 11) + 60 * d ≤ R.locals
            have := hRf.2
            omega⟩
          have hS0 : CallFix p m c cc L.length s args mW own := ⟨hx, hb, hml, hown, hts⟩
          have hst : st = (st.take (mCnt t)).reverse.reverse ++ st.drop (mCnt t) := by rw [List.reverse_reverse]; exact (List.take_append_drop _ _).symm
          have hsz : (F0 m (mPcAt cs i) ls (st.map (mSh b x))).locals.size = L.length := hl.1
          have hlen : ((st.take (mCnt t)).reverse).length = mCnt t := by simp; omega
          generalize hav : (st.take (mCnt t)).reverse = av at *
          generalize hrest : st.drop (mCnt t) = rest at *
          have hpre := mPc_at (h := h) hE hR hS av
          have hbl := mPc_blind D cA b x xs av h
          have fin : ∀ (H1 : Heap) (locs1 : List Loc), mRel D cA b x r.2 H1 → va_S (fun q => b ≤ q) s.heap H1 locs1 → W p l e R s m args below meth c H1 locs1 (cells + (r.2.length - h.length)) (slots + (mSl r.2 - mSl h)) Q (F0 m (mPcAt cs i + 3) ls ((r.1.map (mSh b x)).toList ++ rest.map (mSh b x))) := by
            intro H1 locs1 q1 q2
            have k1 := kk H1 locs1 q1 q2 ls hl
            dsimp only at k1
            rw [hf] at k1
            have e1 : mLen en.2.1 = 3 := by
              cases hi : en.2.1 <;> rw [hi] at hm1 <;> first | rfl | cases hm1
            rw [e1, List.map_append] at k1
            have e2 : r.1.toList.map (mSh b x) = (r.1.map (mSh b x)).toList := by cases r.1 <;> rfl
            rw [e2] at k1
            exact k1
          unfold mLnkC at hlk
          split at hlk
          · rename_i idx heq
            rw [heq] at hd
            have hlk2 := (of_decide_eq_true hlk).2
            rw [ht] at hlk2
            dsimp only at hlk2
            rw [Bool.and_eq_true, decide_eq_true_eq] at hlk2
            obtain ⟨hk1, l3⟩ := hlk2
            rw [if_neg (by omega), if_pos hk1, Bool.and_eq_true] at w3
            have hin := hts _ (mHas_ok w3.1)
            have hse := hts _ (mHas_ok w3.2)
            unfold mRcv at c3
            rw [if_neg (by omega)] at c3
            have hcn : mCnt t = mMN t + 1 := by unfold mCnt; rw [if_neg (by omega)]
            match av, c3 with
            | .ref a :: As, c3 =>
              dsimp only at c3
              rw [if_neg (by omega)] at c3
              split at c3
              · rename_i q hq
                rw [Bool.and_eq_true, decide_eq_true_eq] at c3
                obtain ⟨hq50, hq2⟩ := c3
                split at hq2
                · rename_i rr hrr
                  have hcl := of_decide_eq_true hq2
                  obtain ⟨r1, o1, o2, cellB, o3, o4, o5, -⟩ := (hR.2 a q hq).1 hq50
                  cases hrr.symm.trans o1
                  have hrv : ∃ cellB : Cell, H[b + a]? = some cellB ∧ cellB.vm.isStatics = false ∧ s.vm.findClass (mMY t).cls = some cellB.cls := ⟨cellB, o3, by rw [o5]; rfl, by rw [o4, ← hcl]; exact (hE.1.1 q.1 _ o1).2.1⟩
                  have hstk : st.map (mSh b x) = (As.map (mSh b x)).reverse ++ .ref (b + a) :: rest.map (mSh b x) := by
                    rw [hst, List.reverse_cons, List.append_assoc, List.map_append, List.map_reverse]
                    rfl
                  have hnn : (As.map (mSh b x)).length = mMN t := by
                    rw [List.length_map]
                    have := hlen
                    rw [List.length_cons] at this
                    omega
                  split at l3
                  · refine mBack (r := r) (va_runV (As := As.map (mSh b x)) (rest := rest.map (mSh b x)) hS0 hM ⟨callB_of (mMN t) hts hG rfl rfl rfl hini (hts _ (mHas_ok l3)) ⟨w4, w5, w6⟩ hRR, hin, hse⟩ ⟨hbl, hrv, hpre⟩ rfl hnn hsz hstk (mRoom0 c2) hd ⟨hrc, hrs⟩) hS fin
                  · refine mBack (r := r) (va_runVN (As := As.map (mSh b x)) (rest := rest.map (mSh b x)) hS0 hM ⟨va_cnB (mMN t) hts hG rfl rfl rfl (hE.2.2.2.2.1 _ (mHasN_ok l3)) hini ⟨w4, w5, w6⟩ hRR, hin, hse⟩ ⟨hbl, hrv, hpre⟩ rfl hnn hsz hstk (mRoom0 c2) hd ⟨hrc, hrs⟩) hS fin
                · cases hq2
              · cases c3
          · rename_i idx heq
            rw [heq] at hd
            rw [if_pos hm2, ht] at hlk
            dsimp only at hlk
            rw [Bool.and_eq_true, decide_eq_true_eq] at hlk
            obtain ⟨hk1, l3⟩ := hlk
            rw [if_pos hk1] at w3
            have hsta := hts _ (mHas_ok w3)
            have hcn : mCnt t = mMN t := by unfold mCnt; rw [if_pos hk1]
            have hstk : st.map (mSh b x) = (av.map (mSh b x)).reverse ++ rest.map (mSh b x) := by
              rw [hst, List.map_append, List.map_reverse]
            have hnn : (av.map (mSh b x)).length = mMN t := by rw [List.length_map]; omega
            split at l3
            · refine mBack (r := r) (va_runS (As := av.map (mSh b x)) (rest := rest.map (mSh b x)) hS0 hM ⟨callB_of (mMN t) hts hG rfl rfl rfl hini (hts _ (mHas_ok l3)) ⟨w4, w5, w6⟩ hRR, hsta⟩ ⟨hbl, hpre⟩ rfl hnn hsz hstk (mRoom0 c2) hd ⟨hrc, hrs⟩) hS fin
            · refine mBack (r := r) (va_runSN (As := av.map (mSh b x)) (rest := rest.map (mSh b x)) hS0 hM ⟨va_cnB (mMN t) hts hG rfl rfl rfl (hE.2.2.2.2.1 _ (mHasN_ok l3)) hini ⟨w4, w5, w6⟩ hRR, hsta, trivial⟩ ⟨hbl, hpre⟩ rfl hnn hsz hstk (mRoom0 c2) hd ⟨hrc, hrs⟩) hS fin
          · rename_i idx heq
            rw [heq] at hd
            rw [if_pos hm2, ht] at hlk
            dsimp only at hlk
            rw [Bool.and_eq_true, decide_eq_true_eq] at hlk
            obtain ⟨hk1, l3⟩ := hlk
            rw [if_neg (by omega), if_neg (by omega), Bool.and_eq_true] at w3
            have hin := hts _ (mHas_ok w3.1)
            obtain ⟨hy1, hrt, -⟩ := of_decide_eq_true w3.2
            unfold mRcv at c3
            rw [if_neg (by omega)] at c3
            have hcn : mCnt t = mMN t + 1 := by unfold mCnt; rw [if_neg (by omega)]
            match av, c3 with
            | .ref a :: As, c3 =>
              have hstk : st.map (mSh b x) = (As.map (mSh b x)).reverse ++ .ref (b + a) :: rest.map (mSh b x) := by
                rw [hst, List.reverse_cons, List.append_assoc, List.map_append, List.map_reverse]
                rfl
              have hnn : (As.map (mSh b x)).length = mMN t := by
                rw [List.length_map]
                have := hlen
                rw [List.length_cons] at this
                omega
              have hw0 : mWs t = Cond.code (mMY t) (mMB t) (mMX t) none :: mW := by unfold mWs; rw [hrt]
              have hG2 : GoodIn mW (mWs t) := hG
              split at l3
              · refine mBack (r := r) (va_runI (As := As.map (mSh b x)) (rest := rest.map (mSh b x)) hS0 hM ⟨callB_of (mMN t) hts hG2 hw0 rfl rfl hini (hts _ (mHas_ok l3)) ⟨w4, w5, w6⟩ hRR, hy1, hin⟩ ⟨hbl, hpre⟩ rfl hnn hsz hstk (mRoom0 c2) hd ⟨hrc, hrs⟩) hS fin
              · refine mBack (r := r) (va_runIN (As := As.map (mSh b x)) (rest := rest.map (mSh b x)) hS0 hM ⟨va_cnB (mMN t) hts hG2 hw0 rfl rfl (hE.2.2.2.2.1 _ (mHasN_ok l3)) hini ⟨w4, w5, w6⟩ hRR, hy1, hin⟩ ⟨hbl, hpre⟩ rfl hnn hsz hstk (mRoom0 c2) hd ⟨hrc, hrs⟩) hS fin
          · rename_i h1 h2 h3
            exfalso
            cases hi : en.2.1 <;> rw [hi] at hm1 <;> first | exact h1 _ hi | exact h2 _ hi | exact h3 _ hi | cases hm1
        · cases hs
      · cases hs
    · cases hs
  · cases hs
end MSC
end
section
/-! the run of a body -/
section MSG
variable {p : Program} {l : Launch} {e : Env} {R : Room} {s : State} {m : MethodId} {args : Array Value} {below : List Frame} {meth : Method} {c : Code} {H : Heap} {locs : List Loc} {cells slots : Nat} {Q : State → Prop}
variable {cc : ByteArray} {cs : List mE} {b : Nat} {x : Nat → Nat} {xs : Nat → List Int32} {en : mE} {i : Nat} {L : mL} {st : List Value} {h : mH} {g : mG} {D : va_G} {cA : Nat → ClassId} {own : String} {ini : Bool} {tab : List mM} {call : Nat → List Value → mH → Option mR} {d : Nat}
theorem mCat_sum (rest : List Value) : ((rest.map (mSh b x)).map fun v => v.category).sum = (rest.map (fun v => v.category)).sum := by
  rw [List.map_map]
  congr 1
  exact List.map_congr_left (fun v _ => mSh_cat b x v)
set_option maxHeartbeats 4000000 in
theorem mG2_sim (hx : p.tables.exec = Jvm.exec) (hb : c.code = cc) (hml : c.maxLocals = L.length) (hown : s.vm.findClass own = some m.cls) (hts : ∀ w ∈ mW, w.before args s = true) (hE : mEv D cA b x xs s) (hR : mRel D cA b x h H) (hS : va_S (fun q => b ≤ q) s.heap H locs)
    (hd : decode cc (mPcAt cs i) = .ok (en.2.1, mLen en.2.1)) (hf : mPcAt cs (i + 1) = mPcAt cs i + mLen en.2.1) (hlk : mLnkC tab own en = true)
    (hRf : d + 1 ≤ R.frames ∧ 60 * (d + 1) ≤ R.locals)
    (hs : mG2 en i L st h = some g)
    (kk : ∀ (H1 : Heap) (locs1 : List Loc), mRel D cA b x g.2.2.2 H1 → va_S (fun q => b ≤ q) s.heap H1 locs1 → mFol p l e R s m args below meth c cs (mSh b x) Q H1 locs1 cells slots g) : mFol p l e R s m args below meth c cs (mSh b x) Q H locs cells slots (i, L, st, h) ∧ g.2.2.2.length = h.length ∧ g.2.1.length = L.length ∧ mSl g.2.2.2 = mSl h := by
  unfold mG2 at hs
  split at hs
  · rename_i idx heq
    rw [heq] at hd hf
    split at hs
    · rename_i a r
      split at hs
      · rename_i hc
        cases hs
        refine ⟨fun ls hl => ?_, rfl, rfl, rfl⟩
        have k1 := kk H locs hR hS ls hl
        dsimp only [List.map_cons, mSh] at k1 hl ⊢
        rw [hf] at k1
        unfold mLnkC at hlk
        rw [heq] at hlk
        dsimp only at hlk
        rw [if_neg (by omega)] at hlk
        simp only [Bool.and_eq_true] at hlk
        obtain ⟨l1, l2, l3⟩ := hlk
        refine W.objInit hx hb hown (hts _ (mHas_ok l1)) (hts _ (mHas_ok l2)) (hts _ (mHas_ok l3)) rfl (by rw [hml]; exact hl.1) rfl hd (by omega) ?_ k1
        show 2 * 0 + ((r.map (mSh b x)).map fun v => v.category).sum + 12 ≤ R.locals
        rw [mCat_sum]
        omega
      · cases hs
    · cases hs
  · rename_i idx heq
    rw [heq] at hd hf
    split at hs
    · rename_i n dp a1 sp a0 r
      split at hs
      · rename_i q0 hq0
        split at hs
        · rename_i q1 hq1
          split at hs
          · rename_i hc
            obtain ⟨m2, c2, t0, t1, h1, h2, h3, h4, h5, hI⟩ := hc
            cases hs
            have hcl : (mCpy q0.2 q1.2 sp.toNatClampNeg dp.toNatClampNeg n.toNatClampNeg).length = q1.2.length := by simp [mCpy]
            have hsl : mSl (h.set a1 (q1.1, mCpy q0.2 q1.2 sp.toNatClampNeg dp.toNatClampNeg n.toNatClampNeg)) = mSl h := by
              unfold mSl
              congr 1
              rw [List.map_set]
              apply List.ext_getElem?
              intro k
              by_cases hk : k = a1
              · subst hk
                rw [List.getElem?_set]
                simp only [if_true, List.length_map]
                rw [List.getElem?_map, hq1, if_pos (List.getElem?_eq_some_iff.mp hq1).1]
                simp [hcl]
              · rw [List.getElem?_set_ne (Ne.symm hk)]
            refine ⟨fun ls hl => ?_, by simp, rfl, hsl⟩
            dsimp only at hl kk ⊢
            unfold mLnkC at hlk
            rw [heq] at hlk
            dsimp only at hlk
            rw [if_neg (by omega)] at hlk
            simp only [Bool.and_eq_true] at hlk
            obtain ⟨l1, l2, l3, l4⟩ := hlk
            have nn : ∀ z : Int32, ¬ z < 0 → z.toInt = (z.toNatClampNeg : Int) := by
              intro z hz
              have hz0 : (0 : Int) ≤ z.toInt := by
                have := Int32.not_lt.mp hz
                simpa using Int32.le_iff_toInt_le.mp this
              show z.toInt = ((z.toInt.toNat : Nat) : Int)
              omega
            intro T hT X
            have hc0 := hR.arr hq0 (by omega)
            have hc1 := hR.arr hq1 (by omega)
            rw [t0] at hc0
            rw [t1] at hc1
            have hAr := (hE.1.2 0 (cA 50, .int) rfl).1
            obtain ⟨-, k0, hk0, cm0, hkk0⟩ := hAr q0.2.length (fun j => mSh b x (vp_V q0.2 j))
            obtain ⟨-, k1, hk1, cm1, hkk1⟩ := hAr q1.2.length (fun j => mSh b x (vp_V q1.2 j))
            obtain ⟨vm', X', step⟩ := X.arraycopy hx hown (hts _ (mHas_ok l1)) (hts _ (mHas_ok l2)) (hts _ (mHas_ok l3)) (hts _ (mHas_ok l4)) (src := b + a0) (dst := b + a1) (srcPos := sp) (destPos := dp) (n := n) (by rw [hT]; exact hc0) (by rw [hT]; exact hc1)
              (fun _ h => by cases h) (fun _ h => by cases h) (fun h => by cases h) (fun h => by cases h) hk0 hk1 hkk0 hkk1 rfl h1 h2 h3
              (by rw [nn sp h1, nn n h3, arrV_size]; omega)
              (by rw [nn dp h2, nn n h3, arrV_size]; omega)
              (fun vm₁ _ i hi => by
                have hlt : sp.toNatClampNeg + i < q0.2.length := by omega
                have e : (arrV (cA 50) q0.2.length (fun j => mSh b x (vp_V q0.2 j))).slots.getD (sp.toNatClampNeg + i) .null = mSh b x (vp_V q0.2 (sp.toNatClampNeg + i)) := by
                  rw [Array.getD_eq_getD_getElem?, arrV_read _ _ hlt]
                  rfl
                obtain ⟨z, hz⟩ : ∃ z, vp_V q0.2 (sp.toNatClampNeg + i) = .int z := by
                  have hm : vp_V q0.2 (sp.toNatClampNeg + i) ∈ q0.2 := by
                    unfold vp_V
                    rw [List.getD_eq_getElem?_getD, List.getElem?_eq_getElem hlt]
                    exact List.getElem_mem hlt
                  exact mIsI_spec (List.all_eq_true.mp hI _ hm)
                rw [e, hz]
                exact ⟨rfl, trivial⟩)
              (g := F0 m (mPcAt cs i) ls ((Value.int n :: .int dp :: .ref a1 :: .int sp :: .ref a0 :: r).map (mSh b x))) rfl (by rw [hml]; exact hl.1) (rest := r.map (mSh b x)) rfl (by rw [hb]; exact hd) (by omega) (by
                show 2 * 0 + ((r.map (mSh b x)).map fun v => v.category).sum + (nativeFrameWords "java/lang/System" "arraycopy" 5 + 11) ≤ R.locals
                rw [mCat_sum]
                have : nativeFrameWords "java/lang/System" "arraycopy" 5 = 7 := by decide
                omega)
            have e1 : copied (arrV (cA 50) q0.2.length (fun j => mSh b x (vp_V q0.2 j))) (arrV (cA 50) q1.2.length (fun j => mSh b x (vp_V q1.2 j))) sp dp n = arrV (cA 50) q1.2.length (fun j => mSh b x (va_cpy (vp_V q0.2) (vp_V q1.2) sp.toNatClampNeg dp.toNatClampNeg n.toNatClampNeg j)) := va_copied (mSh b x) (cA 50) (cA 50) (vp_V q0.2) (vp_V q1.2) h4
            rw [e1] at X' step
            have hlt : b + a1 < H.size := (Array.getElem?_eq_some_iff.mp hc1).1
            generalize hcell : arrV (cA 50) q1.2.length (fun j => mSh b x (va_cpy (vp_V q0.2) (vp_V q1.2) sp.toNatClampNeg dp.toNatClampNeg n.toNatClampNeg j)) = cell at X' step
            have hheap : ((T.setVm vm').setCell (b + a1) cell).heap = H.setIfInBounds (b + a1) cell := by rw [← hT]; rfl
            have oq : ∀ q : Nat, q ≠ b + a1 → (H.setIfInBounds (b + a1) cell)[q]? = H[q]? := fun q hq => by simp [Array.getElem?_setIfInBounds, Ne.symm hq]
            have hrel : mRel D cA b x (h.set a1 (q1.1, mCpy q0.2 q1.2 sp.toNatClampNeg dp.toNatClampNeg n.toNatClampNeg)) (H.setIfInBounds (b + a1) cell) := by
              refine hR.set (by simp) oq ⟨fun z => absurd z (by show ¬ q1.1 < 50; omega), fun _ => ?_⟩
              dsimp only
              rw [hcl, t1]
              rw [show (H.setIfInBounds (b + a1) cell)[b + a1]? = some cell by simp [Array.getElem?_setIfInBounds, hlt], ← hcell]
              refine congrArg some (arrV_congr _ _ _ _ fun j hj => ?_)
              congr 1
              unfold mCpy
              rw [show vp_V ((List.range q1.2.length).map (fun k => va_cpy (vp_V q0.2) (vp_V q1.2) sp.toNatClampNeg dp.toNatClampNeg n.toNatClampNeg k)) j = va_cpy (vp_V q0.2) (vp_V q1.2) sp.toNatClampNeg dp.toNatClampNeg n.toNatClampNeg j by
                rw [show ∀ l : List Value, vp_V l j = l.getD j .null from fun _ => rfl, List.getD_eq_getElem?_getD, List.getElem?_map, List.getElem?_range hj]
                rfl]
            have fr : ∀ LL : List Loc, (∀ q ∈ LL, b ≤ q.base) → va_S (fun q => b ≤ q) s.heap (H.setIfInBounds (b + a1) cell) (locs ++ LL) := fun LL hLL => ⟨by simp; exact hS.1, fun q g1 g2 => by
                rw [oq q (fun e => g2 (by show b ≤ q; omega))]
                exact hS.2.1 q g1 g2, fun q hq => by
                rcases List.mem_append.mp hq with h | h
                · exact hS.2.2 q h
                · exact hLL q h⟩
            obtain ⟨t, u1, u2⟩ := kk _ _ hrel (fr _ (fun q hq => by
              obtain ⟨z, -, hz⟩ := List.mem_map.mp hq
              rw [← hz]
              exact Nat.le_add_right _ _)) ls hl _ hheap X'
            dsimp only at u1
            rw [hf] at u1
            exact ⟨t, step t u1, u2⟩
          · cases hs
        · cases hs
      · cases hs
    · cases hs
  · cases hs
end MSG
end
section
/-! the small machine, and that the machine follows it -/
noncomputable def mStep (tab : List mM) (xs : Nat → List Int32) (call : Nat → List Value → mH → Option mR) (en : mE) (g : mG) : Option mG :=
  (mA1 en g.1 g.2.1 g.2.2.1 g.2.2.2).or ((mB1 en g.1 g.2.1 g.2.2.1 g.2.2.2).or ((mB3 en g.1 g.2.1 g.2.2.1 g.2.2.2).or ((mF1 en g.1 g.2.1 g.2.2.1 g.2.2.2).or ((mG1 tab call en g.1 g.2.1 g.2.2.1 g.2.2.2).or ((mF2 xs en g.1 g.2.1 g.2.2.1 g.2.2.2).or ((mF3 en g.1 g.2.1 g.2.2.1 g.2.2.2).or ((mA2 en g.1 g.2.1 g.2.2.1 g.2.2.2).or ((mB2 en g.1 g.2.1 g.2.2.1 g.2.2.2).or ((mN1 en g.1 g.2.1 g.2.2.1 g.2.2.2).or (mG2 en g.1 g.2.1 g.2.2.1 g.2.2.2))))))))))
noncomputable def mRt (rt : Option FieldType) (en : mE) (st : List Value) (h : mH) : Option mR := match en.2.1 with
  | .ireturn => match st with
    | [.int v] => match rt with
      | some ty => if narrow ty (.int v) = .int v then some (some (.int v), h) else none
      | none => none
    | _ => none
  | .lreturn => match st with
    | [.long v] => if rt = some .long then some (some (.long v), h) else none
    | _ => none
  | .areturn => match st with
    | [v] => match rt with
      | some (.object _) => if mIsA v = true then some (some v, h) else none
      | _ => none
    | _ => none
  | .return_ => match st with
    | [] => if rt = none then some (none, h) else none
    | _ => none
  | _ => none
noncomputable def mRun (tab : List mM) (xs : Nat → List Int32) (call : Nat → List Value → mH → Option mR) (rt : Option FieldType) (cs : List mE) : Nat → mG → Option mR
  | 0, _ => none
  | n + 1, g => match cs[g.1]? with
    | none => none
    | some en => match mRt rt en g.2.2.1 g.2.2.2 with
      | some r => some r
      | none => match mStep tab xs call en g with
        | some g1 => mRun tab xs call rt cs n g1
        | none => none
noncomputable def mEval (tab : List mM) (xs : Nat → List Int32) : Nat → Nat → Nat → List Value → mH → Option mR
  | 0, _, _, _, _ => none
  | d + 1, n, k, av, h => match tab[k]? with
    | some t => mRun tab xs (mEval tab xs d n) (mMT t) (mMC t) n (0, mEntL (mMX t) av, [], h)
    | none => none
/-- cells are never lost -/
noncomputable def mUp (h h1 : mH) : Prop := h.length ≤ h1.length ∧ mSl h ≤ mSl h1
theorem mUp.rf (h : mH) : mUp h h := ⟨Nat.le_refl _, Nat.le_refl _⟩
theorem mUp.tr {a b c : mH} (h1 : mUp a b) (h2 : mUp b c) : mUp a c := ⟨Nat.le_trans h1.1 h2.1, Nat.le_trans h1.2 h2.2⟩
theorem mSl_set {h : mH} {a : Nat} {q q1 : mC} (hq : h[a]? = some q) (he : q1.2.length = q.2.length) : mSl (h.set a q1) = mSl h := by
  unfold mSl
  congr 1
  rw [List.map_set]
  apply List.ext_getElem?
  intro k
  by_cases hk : k = a
  · subst hk
    rw [List.getElem?_set]
    simp only [if_true, List.length_map]
    rw [List.getElem?_map, hq, if_pos (List.getElem?_eq_some_iff.mp hq).1]
    simp [he]
  · rw [List.getElem?_set_ne (Ne.symm hk)]
theorem mUp.set {h : mH} {a : Nat} {q q1 : mC} (hq : h[a]? = some q) (he : q1.2.length = q.2.length) : mUp h (h.set a q1) := ⟨by simp, by rw [mSl_set hq he]; exact Nat.le_refl _⟩
theorem mUp.push (h : mH) (q : mC) : mUp h (h ++ [q]) := ⟨by simp, by rw [mSl_app]; omega⟩
section MUP
variable {en : mE} {i : Nat} {L : mL} {st : List Value} {h : mH} {g : mG} {tab : List mM} {xs : Nat → List Int32} {call : Nat → List Value → mH → Option mR}
set_option maxHeartbeats 4000000 in
theorem mA1_up (hs : mA1 en i L st h = some g) : mUp h g.2.2.2 := by
  unfold mA1 mLd mSt mStJ at hs
  (repeat' split at hs) <;> first | (cases hs; exact mUp.rf _) | cases hs
theorem mA2_up (hs : mA2 en i L st h = some g) : mUp h g.2.2.2 := by
  unfold mA2 at hs
  (repeat' split at hs) <;> first | (cases hs; exact mUp.rf _) | cases hs
theorem mB1_up (hs : mB1 en i L st h = some g) : mUp h g.2.2.2 := by
  unfold mB1 at hs
  (repeat' split at hs) <;> first | (cases hs; exact mUp.rf _) | cases hs
theorem mB2_up (hs : mB2 en i L st h = some g) : mUp h g.2.2.2 := by
  unfold mB2 at hs
  (repeat' split at hs) <;> first | (cases hs; exact mUp.rf _) | cases hs
theorem mB3_up (hs : mB3 en i L st h = some g) : mUp h g.2.2.2 := by
  unfold mB3 mIf at hs
  (repeat' split at hs) <;> first | (cases hs; exact mUp.rf _) | (cases hs; split <;> exact mUp.rf _) | cases hs
theorem mF1_up (hs : mF1 en i L st h = some g) : mUp h g.2.2.2 := by
  unfold mF1 at hs
  (repeat' split at hs) <;> first | (cases hs; exact mUp.rf _) | (rename_i hq _; cases hs; exact mUp.set hq (by simp)) | cases hs
theorem mF2_up (hs : mF2 xs en i L st h = some g) : mUp h g.2.2.2 := by
  unfold mF2 at hs
  (repeat' split at hs) <;> first | (cases hs; exact mUp.rf _) | cases hs
theorem mF3_up (hs : mF3 en i L st h = some g) : mUp h g.2.2.2 := by
  unfold mF3 at hs
  (repeat' split at hs) <;> first | (rename_i hq _; cases hs; exact mUp.set hq (by simp)) | (rename_i hq _ _; cases hs; exact mUp.set hq (by simp)) | (rename_i hq _ _ _; cases hs; exact mUp.set hq (by simp)) | (rename_i hq _ _ _ _; cases hs; exact mUp.set hq (by simp)) | cases hs
theorem mN1_up (hs : mN1 en i L st h = some g) : mUp h g.2.2.2 := by
  unfold mN1 at hs
  (repeat' split at hs) <;> first | (cases hs; exact mUp.push _ _) | cases hs
theorem mG1_up (hc : ∀ k av h0 r, call k av h0 = some r → mUp h0 r.2) (hs : mG1 tab call en i L st h = some g) : mUp h g.2.2.2 := by
  unfold mG1 at hs
  split at hs
  · split at hs
    · split at hs
      · split at hs
        · rename_i r hr
          cases hs
          exact hc _ _ _ _ hr
        · cases hs
      · cases hs
    · cases hs
  · cases hs
theorem mG2_up (hs : mG2 en i L st h = some g) : mUp h g.2.2.2 := by
  unfold mG2 at hs
  (repeat' split at hs) <;> first | (cases hs; exact mUp.rf _) | (rename_i hq _ _; cases hs; exact mUp.set hq (by simp [mCpy])) | (rename_i hq _; cases hs; exact mUp.set hq (by simp [mCpy])) | cases hs
theorem mA1_eqs (hs : mA1 en i L st h = some g) : g.2.2.2 = h ∧ g.2.1.length = L.length := by
  unfold mA1 mLd mSt mStJ at hs
  (repeat' split at hs) <;> first | (cases hs; exact ⟨rfl, rfl⟩) | (cases hs; exact ⟨rfl, mS1_len _ _ _⟩) | (cases hs; exact ⟨rfl, mS2_len _ _ _⟩) | cases hs
theorem mA2_eqs (hs : mA2 en i L st h = some g) : g.2.2.2 = h ∧ g.2.1.length = L.length := by
  unfold mA2 at hs
  (repeat' split at hs) <;> first | (cases hs; exact ⟨rfl, rfl⟩) | (cases hs; exact ⟨rfl, mS1_len _ _ _⟩) | cases hs
theorem mB1_eqs (hs : mB1 en i L st h = some g) : g.2.2.2 = h ∧ g.2.1.length = L.length := by
  unfold mB1 at hs
  (repeat' split at hs) <;> first | (cases hs; exact ⟨rfl, rfl⟩) | cases hs
theorem mB2_eqs (hs : mB2 en i L st h = some g) : g.2.2.2 = h ∧ g.2.1.length = L.length := by
  unfold mB2 at hs
  (repeat' split at hs) <;> first | (cases hs; exact ⟨rfl, rfl⟩) | cases hs
theorem mB3_eqs (hs : mB3 en i L st h = some g) : g.2.2.2 = h ∧ g.2.1.length = L.length := by
  unfold mB3 mIf at hs
  (repeat' split at hs) <;> first | (cases hs; exact ⟨rfl, rfl⟩) | (cases hs; split <;> exact ⟨rfl, rfl⟩) | cases hs
theorem mF2_eqs (hs : mF2 xs en i L st h = some g) : g.2.2.2 = h ∧ g.2.1.length = L.length := by
  unfold mF2 at hs
  (repeat' split at hs) <;> first | (cases hs; exact ⟨rfl, rfl⟩) | cases hs
theorem mF1_eqs (hs : mF1 en i L st h = some g) : (g.2.2.2.length = h.length ∧ mSl g.2.2.2 = mSl h) ∧ g.2.1.length = L.length := by
  unfold mF1 at hs
  (repeat' split at hs) <;> first | (cases hs; exact ⟨⟨rfl, rfl⟩, rfl⟩) | (rename_i hq _; cases hs; exact ⟨⟨by simp, mSl_set hq (by simp)⟩, rfl⟩) | cases hs
theorem mF3_eqs (hs : mF3 en i L st h = some g) : (g.2.2.2.length = h.length ∧ mSl g.2.2.2 = mSl h) ∧ g.2.1.length = L.length := by
  unfold mF3 at hs
  (repeat' split at hs) <;> first | (rename_i hq _; cases hs; exact ⟨⟨by simp, mSl_set hq (by simp)⟩, rfl⟩) | (rename_i hq _ _; cases hs; exact ⟨⟨by simp, mSl_set hq (by simp)⟩, rfl⟩) | (rename_i hq _ _ _; cases hs; exact ⟨⟨by simp, mSl_set hq (by simp)⟩, rfl⟩) | (rename_i hq _ _ _ _; cases hs; exact ⟨⟨by simp, mSl_set hq (by simp)⟩, rfl⟩) | cases hs
theorem mG2_eqs (hs : mG2 en i L st h = some g) : (g.2.2.2.length = h.length ∧ mSl g.2.2.2 = mSl h) ∧ g.2.1.length = L.length := by
  unfold mG2 at hs
  (repeat' split at hs) <;> first | (cases hs; exact ⟨⟨rfl, rfl⟩, rfl⟩) | (rename_i hq _ _; cases hs; exact ⟨⟨by simp, mSl_set hq (by simp [mCpy])⟩, rfl⟩) | (rename_i hq _; cases hs; exact ⟨⟨by simp, mSl_set hq (by simp [mCpy])⟩, rfl⟩) | cases hs
theorem mN1_eqs (hs : mN1 en i L st h = some g) : g.2.2.2.length = h.length + 1 ∧ g.2.1.length = L.length := by
  unfold mN1 at hs
  (repeat' split at hs) <;> first | (cases hs; exact ⟨by simp, rfl⟩) | cases hs
theorem mG1_eqs (hs : mG1 tab call en i L st h = some g) : g.2.1.length = L.length := by
  unfold mG1 at hs
  split at hs
  · split at hs
    · split at hs
      · split at hs
        · cases hs; rfl
        · cases hs
      · cases hs
    · cases hs
  · cases hs
theorem mStep_up (hc : ∀ k av h0 r, call k av h0 = some r → mUp h0 r.2) {g0 : mG} (hs : mStep tab xs call en g0 = some g) : mUp g0.2.2.2 g.2.2.2 := by
  unfold mStep at hs
  simp only [Option.or_eq_some_iff] at hs
  rcases hs with h | ⟨-, h | ⟨-, h | ⟨-, h | ⟨-, h | ⟨-, h | ⟨-, h | ⟨-, h | ⟨-, h | ⟨-, h | ⟨-, h⟩⟩⟩⟩⟩⟩⟩⟩⟩⟩
  · exact mA1_up h
  · exact mB1_up h
  · exact mB3_up h
  · exact mF1_up h
  · exact mG1_up hc h
  · exact mF2_up h
  · exact mF3_up h
  · exact mA2_up h
  · exact mB2_up h
  · exact mN1_up h
  · exact mG2_up h
theorem mRt_h {rt : Option FieldType} {r : mR} (hs : mRt rt en st h = some r) : r.2 = h := by
  unfold mRt at hs
  (repeat' split at hs) <;> first | (cases hs; rfl) | cases hs
theorem mRun_up (hc : ∀ k av h0 r, call k av h0 = some r → mUp h0 r.2) {rt : Option FieldType} {cs : List mE} : ∀ (n : Nat) (g : mG) (r : mR), mRun tab xs call rt cs n g = some r → mUp g.2.2.2 r.2 := by
  intro n
  induction n with
  | zero => intro g r h; cases h
  | succ n ih =>
    intro g r hs
    unfold mRun at hs
    split at hs
    · cases hs
    · split at hs
      · rename_i hr
        cases hs
        rw [mRt_h hr]
        exact mUp.rf _
      · split at hs
        · rename_i g1 hg
          exact (mStep_up hc hg).tr (ih g1 r hs)
        · cases hs
theorem mEval_up : ∀ (d n k : Nat) (av : List Value) (h0 : mH) (r : mR), mEval tab xs d n k av h0 = some r → mUp h0 r.2 := by
  intro d
  induction d with
  | zero => intro n k av h0 r h; cases h
  | succ d ih =>
    intro n k av h0 r hs
    unfold mEval at hs
    split at hs
    · exact mRun_up (fun k av h0 r h => ih n k av h0 r h) n _ r hs
    · cases hs
end MUP
/-- what a place of a method's code must be -/
noncomputable def mSwi : Instr → Bool
  | .tableswitch .. => true
  | .lookupswitch .. => true
  | _ => false
noncomputable def mFal : Instr → Bool
  | .tableswitch .. => false
  | .lookupswitch .. => false
  | .goto _ => false
  | .ireturn => false
  | .lreturn => false
  | .areturn => false
  | .return_ => false
  | _ => true
noncomputable def mLnkK (own : String) (en : mE) : Bool := match en.2.1 with
  | .ldc idx => mHas (mTgt en 4) (.constant own idx (Int32.ofInt (en.2.2.2.getD 1 0)))
  | .ldc_w idx => mHas (mTgt en 4) (.constant own idx (Int32.ofInt (en.2.2.2.getD 1 0)))
  | .ldc2_w idx => mHas (mTgt en 4) (.constantLong own idx (Int64.ofInt (en.2.2.2.getD 1 0)))
  | _ => true
noncomputable def mEok (tab : List mM) (own : String) (ini : Bool) (bs : ByteArray) (cs : List mE) (i : Nat) (en : mE) : Bool :=
  decide (decode bs en.1 = .ok (en.2.1, en.2.2.1)) && ((mSwi en.2.1 || decide (en.2.2.1 = mLen en.2.1)) && ((!mFal en.2.1 || decide (mPcAt cs (i + 1) = en.1 + mLen en.2.1)) && (mJok cs i en && (mLnkF own ini en && (mLnkS own en && (mLnkN own en && (mLnkC tab own en && mLnkK own en)))))))
noncomputable def mCok (tab : List mM) (own : String) (ini : Bool) (bs : ByteArray) (cs : List mE) : Bool := cs.zipIdx.all (fun q => mEok tab own ini bs cs q.2 q.1)
theorem mCok_at {tab : List mM} {own : String} {ini : Bool} {bs : ByteArray} {cs : List mE} (h : mCok tab own ini bs cs = true) {i : Nat} {en : mE} (he : cs[i]? = some en) : mEok tab own ini bs cs i en = true :=
  List.all_eq_true.mp h (en, i) (List.mem_zipIdx_iff_getElem?.mpr he)
/-- how a method may end -/
noncomputable def mEnd (rt : Option FieldType) (v : Option Value) (ins : Instr) : Prop := match ins with
  | .ireturn => ∃ z ty, v = some (.int z) ∧ rt = some ty ∧ narrow ty (.int z) = .int z
  | .lreturn => ∃ z, v = some (.long z) ∧ rt = some .long
  | .areturn => ∃ z C, v = some z ∧ rt = some (.object C) ∧ mIsA z = true
  | .return_ => v = none ∧ rt = none
  | _ => False
theorem mRt_end {rt : Option FieldType} {en : mE} {st : List Value} {h : mH} {r : mR} (hs : mRt rt en st h = some r) : mEnd rt r.1 en.2.1 ∧ st = r.1.toList := by
  unfold mRt at hs
  split at hs
  · rename_i heq
    split at hs
    · rename_i v
      split at hs
      · rename_i ty
        split at hs
        · rename_i hn
          cases hs
          rw [heq]
          exact ⟨⟨v, ty, rfl, rfl, hn⟩, rfl⟩
        · cases hs
      · cases hs
    · cases hs
  · rename_i heq
    split at hs
    · rename_i v
      split at hs
      · rename_i hn
        cases hs
        rw [heq]
        exact ⟨⟨v, rfl, hn⟩, rfl⟩
      · cases hs
    · cases hs
  · rename_i heq
    split at hs
    · rename_i v
      split at hs
      · rename_i C
        split at hs
        · rename_i hn
          cases hs
          rw [heq]
          exact ⟨⟨v, C, rfl, rfl, hn⟩, rfl⟩
        · cases hs
      · cases hs
    · cases hs
  · rename_i heq
    split at hs
    · split at hs
      · rename_i hn
        cases hs
        rw [heq]
        exact ⟨⟨rfl, hn⟩, rfl⟩
      · cases hs
    · cases hs
  · cases hs
section MSIM
variable {p : Program} {l : Launch} {e : Env} {R : Room} {s : State} {m : MethodId} {args : Array Value} {below : List Frame} {meth : Method} {c : Code} {Q : State → Prop}
variable {cc : ByteArray} {cs : List mE} {b : Nat} {x : Nat → Nat} {xs : Nat → List Int32} {D : va_G} {cA : Nat → ClassId} {own : String} {ini : Bool} {tab : List mM} {call : Nat → List Value → mH → Option mR} {d : Nat} {rt : Option FieldType} {nL : Nat}
set_option maxHeartbeats 4000000 in
theorem mRun_sim (hx : p.tables.exec = Jvm.exec) (hb : c.code = cc) (hml : c.maxLocals = nL) (hown : s.vm.findClass own = some m.cls) (hin : ini = true → meth.name = "<init>") (hts : ∀ w ∈ mW, w.before args s = true) (hE : mEv D cA b x xs s) (hbs : b ≤ s.heap.size)
    (hcs : mCok tab own ini cc cs = true) (htab : ∀ (k : Nat) (t : mM), tab[k]? = some t → mMok t = true)
    (hcall : ∀ (k : Nat) (t : mM) (av : List Value) (h0 : mH) (r : mR), tab[k]? = some t → (mEnt av).length ≤ mMX t → call k av h0 = some r → mMet l D cA b x xs d t av h0 r) (hcu : ∀ k av h0 r, call k av h0 = some r → mUp h0 r.2)
    (hRf : d + 1 ≤ R.frames ∧ 60 * (d + 1) ≤ R.locals) (h0 : mH) (r : mR) (hRc : r.2.length - h0.length ≤ R.cells) (hRs : mSl r.2 - mSl h0 ≤ R.slots)
    (hret : ∀ (H1 : Heap) (locs1 : List Loc) (pc : Nat) (ls : Array Slot) (ins : Instr), mRel D cA b x r.2 H1 → va_S (fun q => b ≤ q) s.heap H1 locs1 → decode cc pc = .ok (ins, 1) → mEnd rt r.1 ins → W p l e R s m args below meth c H1 locs1 (r.2.length - h0.length) (mSl r.2 - mSl h0) Q (F0 m pc ls ((r.1.map (mSh b x)).toList))) :
    ∀ (n : Nat) (g : mG), mRun tab xs call rt cs n g = some r → g.2.1.length = nL → mUp h0 g.2.2.2 → ∀ (H : Heap) (locs : List Loc), mRel D cA b x g.2.2.2 H → va_S (fun q => b ≤ q) s.heap H locs → mFol p l e R s m args below meth c cs (mSh b x) Q H locs (g.2.2.2.length - h0.length) (mSl g.2.2.2 - mSl h0) g := by
  intro n
  induction n with
  | zero => intro g h; cases h
  | succ n ih =>
    intro g hs hL hu H locs hR hS
    have hs0 := hs
    unfold mRun at hs
    split at hs
    · cases hs
    · rename_i en hen
      have hok := mCok_at hcs hen
      unfold mEok at hok
      simp only [Bool.and_eq_true, Bool.or_eq_true, decide_eq_true_eq] at hok
      obtain ⟨k1, k2, k3, k4, k5, k6, k7, k8, k9⟩ := hok
      have hpc : mPcAt cs g.1 = en.1 := by unfold mPcAt; rw [hen]
      rw [← hpc] at k1 k3
      split at hs
      · rename_i r0 hr
        cases hs
        obtain ⟨e1, e2⟩ := mRt_end hr
        have e3 := mRt_h hr
        have hins : en.2.2.1 = 1 := by
          rcases k2 with k2 | k2
          · exfalso
            cases hi : en.2.1 <;> rw [hi] at k2 e1 <;> first | exact e1 | cases k2
          · rw [k2]
            cases hi : en.2.1 <;> rw [hi] at e1 <;> first | rfl | exact e1.elim
        rw [hins] at k1
        intro ls hl
        rw [e2, show r.1.toList.map (mSh b x) = (r.1.map (mSh b x)).toList by cases r.1 <;> rfl, ← e3]
        rw [← e3] at hR
        exact hret H locs _ ls _ hR hS k1 e1
      · split at hs
        · rename_i g1 hg
          have hup := mStep_up hcu hg
          have hup2 := mRun_up hcu n g1 r hs
          have hu1 := hu.tr hup
          obtain ⟨u1, u2⟩ := hu
          obtain ⟨u3, u4⟩ := hup
          obtain ⟨u5, u6⟩ := hup2
          have ih1 := ih g1 hs
          obtain ⟨i, L, st, h⟩ := g
          dsimp only at hL u1 u2 u3 u4 hR hpc k1 k3 k4 hg ⊢
          have fal : mFal en.2.1 = true → mPcAt cs (i + 1) = mPcAt cs i + mLen en.2.1 := fun hq => by
            rcases k3 with k3 | k3
            · rw [hq] at k3; cases k3
            · exact k3
          have nsw : mSwi en.2.1 = false → decode cc (mPcAt cs i) = .ok (en.2.1, mLen en.2.1) := fun hq => by
            rcases k2 with k2 | k2
            · rw [hq] at k2; cases k2
            · rw [← k2]; exact k1
          unfold mStep at hg
          simp only [Option.or_eq_some_iff] at hg
          rcases hg with hg | ⟨-, hg | ⟨-, hg | ⟨-, hg | ⟨-, hg | ⟨-, hg | ⟨-, hg | ⟨-, hg | ⟨-, hg | ⟨-, hg | ⟨-, hg⟩⟩⟩⟩⟩⟩⟩⟩⟩⟩
          · have hf : mFal en.2.1 = true ∧ mSwi en.2.1 = false := by
              unfold mA1 at hg
              split at hg <;> first | (rename_i heq; rw [heq]; exact ⟨rfl, rfl⟩) | cases hg
            have hh := mA1_eqs hg
            have ih2 := ih1 (hh.2.trans hL) hu1 H locs (by rw [hh.1]; exact hR) hS
            rw [hh.1] at ih2
            exact (mA1_sim (p := p) (l := l) (e := e) (R := R) (s := s) (m := m) (args := args) (below := below) (meth := meth) (c := c) (H := H) (locs := locs) (cells := h.length - h0.length) (slots := mSl h - mSl h0) (Q := Q) (b := b) (x := x) (cs := cs) hx hb trivial (nsw hf.2) (fal hf.1) (fun idx => ⟨fun hi => ⟨own, hown, by
              unfold mLnkK at k9
              rcases hi with hi | hi <;> rw [hi] at k9 <;> exact hts _ (mHas_ok k9)⟩, fun hi => ⟨own, hown, by
              unfold mLnkK at k9
              rw [hi] at k9
              exact hts _ (mHas_ok k9)⟩⟩) hg ih2).1
          · have hf : mFal en.2.1 = true ∧ mSwi en.2.1 = false := by
              unfold mB1 at hg
              split at hg <;> first | (rename_i heq; rw [heq]; exact ⟨rfl, rfl⟩) | cases hg
            have hh := mB1_eqs hg
            have ih2 := ih1 (hh.2.trans hL) hu1 H locs (by rw [hh.1]; exact hR) hS
            rw [hh.1] at ih2
            exact (mB1_sim (p := p) (l := l) (e := e) (R := R) (s := s) (m := m) (args := args) (below := below) (meth := meth) (c := c) (H := H) (locs := locs) (cells := h.length - h0.length) (slots := mSl h - mSl h0) (Q := Q) (b := b) (x := x) (cs := cs) hx hb (nsw hf.2) (fal hf.1) hg ih2).1
          · have hh := mB3_eqs hg
            have ih2 := ih1 (hh.2.trans hL) hu1 H locs (by rw [hh.1]; exact hR) hS
            rw [hh.1] at ih2
            refine (mB3_sim (p := p) (l := l) (e := e) (R := R) (s := s) (m := m) (args := args) (below := below) (meth := meth) (c := c) (H := H) (locs := locs) (cells := h.length - h0.length) (slots := mSl h - mSl h0) (Q := Q) (b := b) (x := x) (cs := cs) hx hb k1 ?_ ?_ k4 hg ih2).1
            · rcases k2 with k2 | k2
              · refine Or.inr ?_
                cases hi : en.2.1 <;> rw [hi] at k2 <;> first | exact Or.inl ⟨_, _, _, _, rfl⟩ | exact Or.inr ⟨_, _, rfl⟩ | cases k2
              · exact Or.inl k2
            · intro hq
              refine fal ?_
              rcases hq with ⟨_, _, hq⟩ | ⟨_, _, hq⟩ | ⟨_, hq⟩ | ⟨_, hq⟩ <;> rw [hq] <;> rfl
          · have hf : mFal en.2.1 = true ∧ mSwi en.2.1 = false := by
              unfold mF1 at hg
              split at hg <;> first | (rename_i heq; rw [heq]; exact ⟨rfl, rfl⟩) | cases hg
            have hh := mF1_eqs hg
            refine (mF1_sim (p := p) (l := l) (e := e) (R := R) (s := s) (m := m) (args := args) (below := below) (meth := meth) (c := c) (H := H) (locs := locs) (cells := h.length - h0.length) (slots := mSl h - mSl h0) (Q := Q) (b := b) (x := x) (cs := cs) (ini := ini) hx hb hown hin hts hE.1 hE.2.2.2.2.1 hR hS (nsw hf.2) (fal hf.1) k5 hg fun H1 locs1 q1 q2 => ?_).1
            have ih2 := ih1 (hh.2.trans hL) hu1 H1 locs1 q1 q2
            rw [hh.1.1, hh.1.2] at ih2
            exact ih2
          · have hf : mFal en.2.1 = true ∧ mSwi en.2.1 = false := by
              unfold mG1 at hg
              split at hg
              · rename_i hq
                cases hi : en.2.1 <;> rw [hi] at hq <;> first | exact ⟨rfl, rfl⟩ | cases hq.1
              · cases hg
            have hh := mG1_eqs hg
            refine (mG1_sim (p := p) (l := l) (e := e) (R := R) (s := s) (m := m) (args := args) (below := below) (meth := meth) (c := c) (H := H) (locs := locs) (cells := h.length - h0.length) (slots := mSl h - mSl h0) (Q := Q) (b := b) (x := x) (cs := cs) (xs := xs) hx hb (hml.trans hL.symm) hown hts hE hR hS (nsw hf.2) (fal hf.1) k8 htab (fun k t av h1 r1 e1 e2 e3 => ⟨hcall k t av h1 r1 e1 e2 e3, hcu k av h1 r1 e3⟩) hRf hg (by omega) (by omega) fun H1 locs1 q1 q2 => ?_).1
            have ih2 := ih1 (hh.trans hL) hu1 H1 locs1 q1 q2
            rw [show h.length - h0.length + (g1.2.2.2.length - h.length) = g1.2.2.2.length - h0.length by omega, show mSl h - mSl h0 + (mSl g1.2.2.2 - mSl h) = mSl g1.2.2.2 - mSl h0 by omega]
            exact ih2
          · have hf : mFal en.2.1 = true ∧ mSwi en.2.1 = false := by
              unfold mF2 at hg
              split at hg <;> first | (rename_i heq; rw [heq]; exact ⟨rfl, rfl⟩) | cases hg
            have hh := mF2_eqs hg
            have ih2 := ih1 (hh.2.trans hL) hu1 H locs (by rw [hh.1]; exact hR) hS
            rw [hh.1] at ih2
            exact (mF2_sim (p := p) (l := l) (e := e) (R := R) (s := s) (m := m) (args := args) (below := below) (meth := meth) (c := c) (H := H) (locs := locs) (cells := h.length - h0.length) (slots := mSl h - mSl h0) (Q := Q) (b := b) (x := x) (cs := cs) (xs := xs) hx hb hown hts hE hR hS (nsw hf.2) (fal hf.1) k6 hg ih2).1
          · have hf : mFal en.2.1 = true ∧ mSwi en.2.1 = false := by
              unfold mF3 at hg
              split at hg <;> first | (rename_i heq; rw [heq]; exact ⟨rfl, rfl⟩) | cases hg
            have hh := mF3_eqs hg
            refine (mF3_sim (p := p) (l := l) (e := e) (R := R) (s := s) (m := m) (args := args) (below := below) (meth := meth) (c := c) (H := H) (locs := locs) (cells := h.length - h0.length) (slots := mSl h - mSl h0) (Q := Q) (b := b) (x := x) (cs := cs) hx hb hE.1 hR hS (nsw hf.2) (fal hf.1) hg fun H1 locs1 q1 q2 => ?_).1
            have ih2 := ih1 (hh.2.trans hL) hu1 H1 locs1 q1 q2
            rw [hh.1.1, hh.1.2] at ih2
            exact ih2
          · have hf : mFal en.2.1 = true ∧ mSwi en.2.1 = false := by
              unfold mA2 at hg
              split at hg <;> first | (rename_i heq; rw [heq]; exact ⟨rfl, rfl⟩) | cases hg
            have hh := mA2_eqs hg
            have ih2 := ih1 (hh.2.trans hL) hu1 H locs (by rw [hh.1]; exact hR) hS
            rw [hh.1] at ih2
            exact (mA2_sim (p := p) (l := l) (e := e) (R := R) (s := s) (m := m) (args := args) (below := below) (meth := meth) (c := c) (H := H) (locs := locs) (cells := h.length - h0.length) (slots := mSl h - mSl h0) (Q := Q) (b := b) (x := x) (cs := cs) hx hb (nsw hf.2) (fal hf.1) hg ih2).1
          · have hf : mFal en.2.1 = true ∧ mSwi en.2.1 = false := by
              unfold mB2 at hg
              split at hg <;> first | (rename_i heq; rw [heq]; exact ⟨rfl, rfl⟩) | cases hg
            have hh := mB2_eqs hg
            have ih2 := ih1 (hh.2.trans hL) hu1 H locs (by rw [hh.1]; exact hR) hS
            rw [hh.1] at ih2
            exact (mB2_sim (p := p) (l := l) (e := e) (R := R) (s := s) (m := m) (args := args) (below := below) (meth := meth) (c := c) (H := H) (locs := locs) (cells := h.length - h0.length) (slots := mSl h - mSl h0) (Q := Q) (b := b) (x := x) (cs := cs) hx hb (nsw hf.2) (fal hf.1) hg ih2).1
          · have hf : mFal en.2.1 = true ∧ mSwi en.2.1 = false := by
              unfold mN1 at hg
              split at hg <;> first | (rename_i heq; rw [heq]; exact ⟨rfl, rfl⟩) | cases hg
            have hh := mN1_eqs hg
            refine (mN1_sim (p := p) (l := l) (e := e) (R := R) (s := s) (m := m) (args := args) (below := below) (meth := meth) (c := c) (H := H) (locs := locs) (cells := h.length - h0.length) (slots := mSl h - mSl h0) (Q := Q) (b := b) (x := x) (cs := cs) (xs := xs) hx hb hown hts hE hbs hR hS (nsw hf.2) (fal hf.1) k7 hg (by omega) (by omega) fun H1 q1 q2 => ?_).1
            have ih2 := ih1 (hh.2.trans hL) hu1 H1 locs q1 q2
            rw [show h.length - h0.length + 1 = g1.2.2.2.length - h0.length by omega, show mSl h - mSl h0 + (mSl g1.2.2.2 - mSl h) = mSl g1.2.2.2 - mSl h0 by omega]
            exact ih2
          · have hf : mFal en.2.1 = true ∧ mSwi en.2.1 = false := by
              unfold mG2 at hg
              split at hg <;> first | (rename_i heq; rw [heq]; exact ⟨rfl, rfl⟩) | cases hg
            have hh := mG2_eqs hg
            refine (mG2_sim (p := p) (l := l) (e := e) (R := R) (s := s) (m := m) (args := args) (below := below) (meth := meth) (c := c) (H := H) (locs := locs) (cells := h.length - h0.length) (slots := mSl h - mSl h0) (Q := Q) (b := b) (x := x) (cs := cs) (xs := xs) (tab := tab) hx hb (hml.trans hL.symm) hown hts hE hR hS (nsw hf.2) (fal hf.1) k8 hRf hg fun H1 locs1 q1 q2 => ?_).1
            have ih2 := ih1 (hh.2.trans hL) hu1 H1 locs1 q1 q2
            rw [hh.1.1, hh.1.2] at ih2
            exact ih2
        · cases hs
end MSIM
end
section
/-! each method of the table, as a contract -/
noncomputable def mTok (tab : List mM) (t : mM) : Bool := mMok t && (mCok tab (mMY t).cls (decide ((mMY t).name = "<init>")) (mMB t) (mMC t) && (plainFor (mMY t) && decide (mPcAt (mMC t) 0 = 0)))
section MMET
variable {b : Nat} {x : Nat → Nat} {xs : Nat → List Int32} {D : va_G} {cA : Nat → ClassId} {tab : List mM}
set_option maxHeartbeats 4000000 in
theorem mEval_met (l : Launch) (htab : ∀ (k : Nat) (t : mM), tab[k]? = some t → mTok tab t = true) : ∀ (d n k : Nat) (t : mM) (av : List Value) (h : mH) (r : mR), tab[k]? = some t → (mEnt av).length ≤ mMX t → mEval tab xs d n k av h = some r → mMet l D cA b x xs d t av h r := by
  intro d
  induction d with
  | zero => intro n k t av h r _ _ hs; cases hs
  | succ d ih =>
    intro n k t av h r ht hen hs
    have hup := mEval_up _ _ _ _ _ _ hs
    unfold mEval at hs
    rw [ht] at hs
    dsimp only at hs
    have htk := htab k t ht
    unfold mTok at htk
    simp only [Bool.and_eq_true] at htk
    obtain ⟨-, hcs, hpl, hp0⟩ := htk
    have hp0 := of_decide_eq_true hp0
    refine va_MetF (cc := mMB t) (maxL := mMX t) (ret := mMT t) hpl rfl ?_
    intro p e s m args below meth c s₁ B hml hv
    obtain ⟨rfl, hR, hE⟩ := hv
    have hx := B.exec
    have hb := B.bytes
    have hr := B.returns
    have hts0 := atoms_spec (ws := mWs t) B.pre
    have hts : ∀ w ∈ mW, w.before (av.map (mSh b x)).toArray s = true := fun w hw => hts0 w (List.mem_cons_of_mem _ hw)
    have hown : s.vm.findClass (mMY t).cls = some m.cls := findClass_of_methodNamed B.named
    have hlocks := B.notSynchronized
    have hnm : meth.name = (mMY t).name := (name_of_methodNamed B.named B.method).1
    have hbs : b ≤ s.heap.size := by rw [hR.1]; exact Nat.le_add_right _ _
    have hkey := mRun_sim (p := p) (l := l) (e := e) (R := mRm (d + 1) (r.2.length - h.length) (mSl r.2 - mSl h)) (s := s) (m := m) (args := (av.map (mSh b x)).toArray) (below := below) (meth := meth) (c := c) (Q := MQ below (mQc D cA b x r) (av.map (mSh b x)).toArray s (r.2.length - h.length) (mSl r.2 - mSl h) (fun q => b ≤ q)) (cs := mMC t) (own := (mMY t).cls) (ini := decide ((mMY t).name = "<init>")) (tab := tab) (call := mEval tab xs d n) (d := d) (rt := mMT t) (nL := mMX t) (D := D) (cA := cA)
      hx hb hml hown (fun hq => hnm.trans (of_decide_eq_true hq)) hts hE hbs hcs (fun k1 t1 h1 => by
        have h2 := htab k1 t1 h1
        unfold mTok at h2
        simp only [Bool.and_eq_true] at h2
        exact h2.1) (fun k1 t1 av1 h1 r1 e1 e2 e3 => ih n k1 t1 av1 h1 r1 e1 e2 e3) (fun k1 av1 h1 r1 e1 => mEval_up _ _ _ _ _ _ e1) ⟨Nat.le_refl _, Nat.le_refl _⟩ h r (Nat.le_refl _) (Nat.le_refl _)
      (fun H1 locs1 pc ls ins q1 q2 q3 q4 => by
        have hq : ∀ (v : Option Value), v = r.1.map (mSh b x) → ∀ t1 : State, t1.heap = H1 → s.WarmedH t1.vm → mQc D cA b x r (av.map (mSh b x)).toArray s (.returned v) t1 := fun v hv t1 ht1 _ => ⟨by rw [hv], by rw [ht1]; exact q1, q2.F ht1⟩
        cases ins <;> first | exact q4.elim | skip
        · obtain ⟨z, C, e1, e2, e3⟩ := q4
          rw [e1] at hq ⊢
          have h4 := mIsA_spec b x e3
          exact W.aret hx hb (hr.trans e2) (Or.inl ⟨C, rfl⟩) h4 (hq _ rfl) q2.2.2 q3
        · obtain ⟨z, ty, e1, e2, e3⟩ := q4
          rw [e1] at hq ⊢
          exact W.zret hx hb (hr.trans e2) e3 (hq _ rfl) q2.2.2 q3
        · obtain ⟨z, e1, e2⟩ := q4
          rw [e1] at hq ⊢
          exact W.lret hx hb (hr.trans e2) (hq _ rfl) q2.2.2 q3
        · obtain ⟨e1, e2⟩ := q4
          rw [e1] at hq ⊢
          exact W.vret hx hb (hr.trans e2) (hq _ rfl) q2.2.2 q3)
      n (0, mEntL (mMX t) av, [], h) hs (mEntL_len _ _ hen) (mUp.rf h) s.heap [] hR va_S.rf
    rw [lg_entry_eq]
    have h1 := hkey _ (by
      dsimp only
      rw [mEntL_len _ _ hen]
      exact mEntL_has (mSh b x) (mSh_cat b x) av hen)
    dsimp only [List.map_nil] at h1
    rw [hp0, Nat.sub_self, Nat.sub_self] at h1
    exact h1
end MMET
end
section
/-! the program: every method, each instruction with what it is resolved to -/
/-- FirstLanding.<init>()V -/
def mCo0 : List mE := [(0, .aload_n 0, 1, []), (1, .invokespecial 1, 3, [0, 0, 1, 0, 122, 123, 124]), (4, .aload_n 0, 1, []), (5, .bipush 6, 2, []), (7, .anewarray 9, 3, [0, 53, 0, 0, 125]), (10, .putfield 11, 3, [0, 0, 0, 0, 254]), (13, .aload_n 0, 1, []), (14, .iconst 4, 1, []), (15, .anewarray 15, 3, [0, 54, 0, 0, 127]), (18, .putfield 17, 3, [0, 0, 1, 0, 255]), (21, .aload_n 0, 1, []), (22, .new 21, 3, [0, 1, 0, 0, 129, 130, 104]), (25, .dup, 1, []), (26, .invokespecial 23, 3, [0, 1, 0, 1, 131]), (29, .putfield 24, 3, [0, 0, 2, 0, 256]), (32, .aload_n 0, 1, []), (33, .iconst 3, 1, []), (34, .anewarray 21, 3, [0, 55, 0, 0, 129]), (37, .putfield 28, 3, [0, 0, 3, 0, 257]), (40, .aload_n 0, 1, []), (41, .new 32, 3, [0, 2, 0, 0, 172, 173, 105]), (44, .dup, 1, []), (45, .invokespecial 34, 3, [0, 2, 0, 1, 174]), (48, .putfield 35, 3, [0, 0, 4, 0, 258]), (51, .aload_n 0, 1, []), (52, .new 39, 3, [0, 3, 0, 0, 188, 189, 106]), (55, .dup, 1, []), (56, .invokespecial 41, 3, [0, 3, 0, 1, 190]), (59, .putfield 42, 3, [0, 0, 5, 0, 259]), (62, .aload_n 0, 1, []), (63, .new 46, 3, [0, 4, 0, 0, 208, 209, 107]), (66, .dup, 1, []), (67, .invokespecial 48, 3, [0, 4, 0, 1, 210]), (70, .putfield 49, 3, [0, 0, 6, 0, 260]), (73, .aload_n 0, 1, []), (74, .bipush 6, 2, []), (76, .newarray .int, 2, [0, 0, 0, 0, 170]), (78, .putfield 53, 3, [0, 0, 7, 0, 261]), (81, .aload_n 0, 1, []), (82, .iconst 0, 1, []), (83, .putfield 57, 3, [0, 0, 8, 0, 262]), (86, .aload_n 0, 1, []), (87, .iconst 0, 1, []), (88, .putfield 61, 3, [0, 0, 9, 0, 263]), (91, .aload_n 0, 1, []), (92, .lconst 0, 1, []), (93, .putfield 64, 3, [0, 0, 10, 0, 264]), (96, .aload_n 0, 1, []), (97, .lconst 1, 1, []), (98, .putfield 68, 3, [0, 0, 11, 0, 265]), (101, .iconst 0, 1, []), (102, .istore_n 1, 1, []), (103, .iload_n 1, 1, []), (104, .bipush 6, 2, []), (106, .if_icmp .ge 22, 3, [64]), (109, .aload_n 0, 1, []), (110, .getfield 11, 3, [0, 0, 0, 0, 254]), (113, .iload_n 1, 1, []), (114, .new 9, 3, [0, 5, 0, 0, 125, 221, 108]), (117, .dup, 1, []), (118, .invokespecial 71, 3, [0, 5, 0, 1, 222]), (121, .aastore, 1, []), (122, .iinc 1 1, 3, []), (125, .goto (-22), 3, [52]), (128, .iconst 0, 1, []), (129, .istore_n 1, 1, []), (130, .iload_n 1, 1, []), (131, .iconst 4, 1, []), (132, .if_icmp .ge 22, 3, [78]), (135, .aload_n 0, 1, []), (136, .getfield 17, 3, [0, 0, 1, 0, 255]), (139, .iload_n 1, 1, []), (140, .new 15, 3, [0, 6, 0, 0, 127, 237, 109]), (143, .dup, 1, []), (144, .invokespecial 72, 3, [0, 6, 0, 1, 238]), (147, .aastore, 1, []), (148, .iinc 1 1, 3, []), (151, .goto (-21), 3, [66]), (154, .iconst 0, 1, []), (155, .istore_n 1, 1, []), (156, .iload_n 1, 1, []), (157, .iconst 3, 1, []), (158, .if_icmp .ge 22, 3, [92]), (161, .aload_n 0, 1, []), (162, .getfield 28, 3, [0, 0, 3, 0, 257]), (165, .iload_n 1, 1, []), (166, .new 21, 3, [0, 1, 0, 0, 129, 130, 104]), (169, .dup, 1, []), (170, .invokespecial 23, 3, [0, 1, 0, 1, 131]), (173, .aastore, 1, []), (174, .iinc 1 1, 3, []), (177, .goto (-21), 3, [80]), (180, .return_, 1, [])]
def mMe0 : mM := (⟨"FirstLanding", "<init>", "()V"⟩, prog_1_method_1_code, 2, none, 2, 0, [121, 103, 120], mCo0)
/-- FirstLanding$Embassy.<init>()V -/
def mCo1 : List mE := [(0, .aload_n 0, 1, []), (1, .invokespecial 3, 3, [0, 0, 1, 0, 134, 123, 124]), (4, .aload_n 0, 1, []), (5, .bipush 6, 2, []), (7, .newarray .int, 2, [0, 0, 0, 0, 170]), (9, .putfield 9, 3, [0, 1, 0, 0, 135]), (12, .aload_n 0, 1, []), (13, .bipush 36, 2, []), (15, .newarray .int, 2, [0, 0, 0, 0, 170]), (17, .putfield 15, 3, [0, 1, 1, 0, 139]), (20, .aload_n 0, 1, []), (21, .bipush 40, 2, []), (23, .newarray .int, 2, [0, 0, 0, 0, 170]), (25, .putfield 18, 3, [0, 1, 2, 0, 142]), (28, .aload_n 0, 1, []), (29, .iconst 0, 1, []), (30, .putfield 21, 3, [0, 1, 3, 0, 143]), (33, .aload_n 0, 1, []), (34, .iconst 0, 1, []), (35, .putfield 25, 3, [0, 1, 4, 0, 148]), (38, .aload_n 0, 1, []), (39, .iconst 0, 1, []), (40, .putfield 28, 3, [0, 1, 5, 0, 151]), (43, .aload_n 0, 1, []), (44, .lconst 0, 1, []), (45, .putfield 31, 3, [0, 1, 6, 0, 153]), (48, .return_, 1, [])]
def mMe1 : mM := (⟨"FirstLanding$Embassy", "<init>", "()V"⟩, prog_2_method_1_code, 1, none, 2, 0, [133, 104, 132], mCo1)
/-- FirstLanding$Reader.<init>()V -/
def mCo2 : List mE := [(0, .aload_n 0, 1, []), (1, .invokespecial 3, 3, [0, 0, 1, 0, 177, 123, 124]), (4, .aload_n 0, 1, []), (5, .new 9, 3, [0, 1, 0, 0, 178, 130, 104]), (8, .dup, 1, []), (9, .invokespecial 11, 3, [0, 1, 0, 1, 179]), (12, .putfield 12, 3, [0, 2, 0, 0, 180]), (15, .aload_n 0, 1, []), (16, .iconst 0, 1, []), (17, .putfield 18, 3, [0, 2, 1, 0, 182]), (20, .return_, 1, [])]
def mMe2 : mM := (⟨"FirstLanding$Reader", "<init>", "()V"⟩, prog_5_method_1_code, 1, none, 2, 0, [176, 105, 175], mCo2)
/-- FirstLanding$Walk.<init>()V -/
def mCo3 : List mE := [(0, .aload_n 0, 1, []), (1, .invokespecial 3, 3, [0, 0, 1, 0, 193, 123, 124]), (4, .aload_n 0, 1, []), (5, .bipush 64, 2, []), (7, .newarray .int, 2, [0, 0, 0, 0, 170]), (9, .putfield 9, 3, [0, 3, 0, 0, 194]), (12, .aload_n 0, 1, []), (13, .sipush 1024, 3, []), (16, .newarray .int, 2, [0, 0, 0, 0, 170]), (18, .putfield 15, 3, [0, 3, 1, 0, 195]), (21, .aload_n 0, 1, []), (22, .sipush 1024, 3, []), (25, .newarray .int, 2, [0, 0, 0, 0, 170]), (27, .putfield 18, 3, [0, 3, 2, 0, 196]), (30, .aload_n 0, 1, []), (31, .bipush (-9), 2, []), (33, .putfield 21, 3, [0, 3, 3, 0, 197]), (36, .return_, 1, [])]
def mMe3 : mM := (⟨"FirstLanding$Walk", "<init>", "()V"⟩, prog_8_method_1_code, 1, none, 2, 0, [192, 106, 191], mCo3)
/-- FirstLanding$Meetings.<init>()V -/
def mCo4 : List mE := [(0, .aload_n 0, 1, []), (1, .invokespecial 3, 3, [0, 0, 1, 0, 213, 123, 124]), (4, .aload_n 0, 1, []), (5, .bipush 55, 2, []), (7, .newarray .int, 2, [0, 0, 0, 0, 170]), (9, .putfield 11, 3, [0, 4, 0, 0, 214]), (12, .aload_n 0, 1, []), (13, .bipush 55, 2, []), (15, .newarray .int, 2, [0, 0, 0, 0, 170]), (17, .putfield 15, 3, [0, 4, 1, 0, 215]), (20, .return_, 1, [])]
def mMe4 : mM := (⟨"FirstLanding$Meetings", "<init>", "()V"⟩, prog_4_method_1_code, 1, none, 2, 0, [212, 107, 211], mCo4)
/-- FirstLanding$Row.<init>()V -/
def mCo5 : List mE := [(0, .aload_n 0, 1, []), (1, .invokespecial 3, 3, [0, 0, 1, 0, 225, 123, 124]), (4, .aload_n 0, 1, []), (5, .bipush 40, 2, []), (7, .newarray .int, 2, [0, 0, 0, 0, 170]), (9, .putfield 9, 3, [0, 5, 0, 0, 226]), (12, .aload_n 0, 1, []), (13, .iconst (-1), 1, []), (14, .putfield 15, 3, [0, 5, 1, 0, 229]), (17, .return_, 1, [])]
def mMe5 : mM := (⟨"FirstLanding$Row", "<init>", "()V"⟩, prog_6_method_1_code, 1, none, 2, 0, [224, 108, 223], mCo5)
/-- FirstLanding$Text.<init>()V -/
def mCo6 : List mE := [(0, .aload_n 0, 1, []), (1, .invokespecial 3, 3, [0, 0, 1, 0, 241, 123, 124]), (4, .aload_n 0, 1, []), (5, .bipush 60, 2, []), (7, .newarray .byte, 2, [0, 0, 0, 0, 253]), (9, .putfield 9, 3, [0, 6, 0, 0, 242]), (12, .aload_n 0, 1, []), (13, .iconst (-1), 1, []), (14, .putfield 15, 3, [0, 6, 1, 0, 245]), (17, .return_, 1, [])]
def mMe6 : mM := (⟨"FirstLanding$Text", "<init>", "()V"⟩, prog_7_method_1_code, 1, none, 2, 0, [240, 109, 239], mCo6)
/-- FirstLanding.row(II)I -/
def mCo7 : List mE := [(0, .aload_n 0, 1, []), (1, .iload_n 1, 1, []), (2, .invokevirtual 73, 3, [0, 8, 0, 0, 295]), (5, .astore_n 3, 1, []), (6, .aload_n 3, 1, []), (7, .ifnull 9, 3, [9]), (10, .iload_n 2, 1, []), (11, .bipush 40, 2, []), (13, .if_icmp .le 5, 3, [11]), (16, .iconst (-1), 1, []), (17, .ireturn, 1, []), (18, .iload_n 2, 1, []), (19, .ifCond .ge 9, 3, [17]), (22, .aload_n 0, 1, []), (23, .iconst 5, 1, []), (24, .invokevirtual 77, 3, [0, 9, 0, 0, 299]), (27, .ireturn, 1, []), (28, .aload_n 3, 1, []), (29, .iload_n 2, 1, []), (30, .invokevirtual 81, 3, [0, 10, 0, 1, 303]), (33, .iload_n 2, 1, []), (34, .ireturn, 1, [])]
def mMe7 : mM := (⟨"FirstLanding", "row", "(II)I"⟩, prog_1_method_2_code, 4, (some .int), 1, 2, [294, 103, 292, 293], mCo7)
/-- FirstLanding.rowAt(I)LFirstLanding$Row; -/
def mCo8 : List mE := [(0, .iload_n 1, 1, []), (1, .ifCond .lt 18, 3, [10]), (4, .iload_n 1, 1, []), (5, .bipush 6, 2, []), (7, .if_icmp .ge 12, 3, [10]), (10, .aload_n 0, 1, []), (11, .getfield 11, 3, [0, 0, 0, 0, 254]), (14, .iload_n 1, 1, []), (15, .aaload, 1, []), (16, .goto 4, 3, [11]), (19, .aconst_null, 1, []), (20, .areturn, 1, [])]
def mMe8 : mM := (⟨"FirstLanding", "rowAt", "(I)LFirstLanding$Row;"⟩, prog_1_method_46_code, 2, (some (.object "FirstLanding$Row")), 1, 1, [298, 103, 297, 0], mCo8)
/-- FirstLanding.found(I)I -/
def mCo9 : List mE := [(0, .aload_n 0, 1, []), (1, .iload_n 1, 1, []), (2, .putfield 57, 3, [0, 0, 8, 0, 262]), (5, .aload_n 0, 1, []), (6, .getfield 53, 3, [0, 0, 7, 0, 261]), (9, .iload_n 1, 1, []), (10, .dup2, 1, []), (11, .iaload, 1, []), (12, .iconst 1, 1, []), (13, .iadd, 1, []), (14, .iastore, 1, []), (15, .bipush (-3), 2, []), (17, .ireturn, 1, [])]
def mMe9 : mM := (⟨"FirstLanding", "found", "(I)I"⟩, prog_1_method_49_code, 2, (some .int), 1, 1, [302, 103, 301, 1], mCo9)
/-- FirstLanding$Row.begin(I)V -/
def mCo10 : List mE := [(0, .aload_n 0, 1, []), (1, .iload_n 1, 1, []), (2, .putfield 15, 3, [0, 5, 1, 0, 229]), (5, .aload_n 0, 1, []), (6, .getfield 9, 3, [0, 5, 0, 0, 226]), (9, .iconst 0, 1, []), (10, .invokestatic 19, 3, [0, 11, 0, 0, 307]), (13, .return_, 1, [])]
def mMe10 : mM := (⟨"FirstLanding$Row", "begin", "(I)V"⟩, prog_6_method_2_code, 2, none, 1, 1, [306, 108, 305, 2], mCo10)
/-- java/util/Arrays.fill([II)V -/
def mCo11 : List mE := [(0, .iconst 0, 1, []), (1, .istore_n 2, 1, []), (2, .aload_n 0, 1, []), (3, .arraylength, 1, []), (4, .istore_n 3, 1, []), (5, .iload_n 2, 1, []), (6, .iload_n 3, 1, []), (7, .if_icmp .ge 13, 3, [14]), (10, .aload_n 0, 1, []), (11, .iload_n 2, 1, []), (12, .iload_n 1, 1, []), (13, .iastore, 1, []), (14, .iinc 2 1, 3, []), (17, .goto (-12), 3, [5]), (20, .return_, 1, [])]
def mMe11 : mM := (⟨"java/util/Arrays", "fill", "([II)V"⟩, prog_15_method_103_code, 4, none, 0, 2, [309, 111, 308], mCo11)
/-- FirstLanding.lay(III)I -/
def mCo12 : List mE := [(0, .aload_n 0, 1, []), (1, .iload_n 1, 1, []), (2, .invokevirtual 73, 3, [0, 8, 0, 0, 295]), (5, .astore 4, 2, []), (7, .aload 4, 2, []), (9, .ifnonnull 5, 3, [8]), (12, .iconst (-1), 1, []), (13, .ireturn, 1, []), (14, .aload 4, 2, []), (16, .getfield 85, 3, [0, 5, 1, 1, 231]), (19, .iload_n 2, 1, []), (20, .invokestatic 88, 3, [0, 13, 0, 0, 314]), (23, .istore 5, 2, []), (25, .iload 5, 2, []), (27, .ifCond .eq 10, 3, [19]), (30, .aload_n 0, 1, []), (31, .iload 5, 2, []), (33, .invokevirtual 77, 3, [0, 9, 0, 0, 299]), (36, .ireturn, 1, []), (37, .aload_n 0, 1, []), (38, .aload 4, 2, []), (40, .getfield 92, 3, [0, 5, 0, 1, 228]), (43, .iload_n 2, 1, []), (44, .iaload, 1, []), (45, .putfield 61, 3, [0, 0, 9, 0, 263]), (48, .aload 4, 2, []), (50, .getfield 92, 3, [0, 5, 0, 1, 228]), (53, .iload_n 2, 1, []), (54, .iload_n 3, 1, []), (55, .iastore, 1, []), (56, .iconst 1, 1, []), (57, .ireturn, 1, [])]
def mMe12 : mM := (⟨"FirstLanding", "lay", "(III)I"⟩, prog_1_method_3_code, 6, (some .int), 1, 3, [313, 103, 311, 312], mCo12)
/-- FirstLanding.whyNoPlace(II)I -/
def mCo13 : List mE := [(0, .iload_n 0, 1, []), (1, .iconst (-1), 1, []), (2, .if_icmp .ne 5, 3, [5]), (5, .iconst 1, 1, []), (6, .ireturn, 1, []), (7, .iload_n 1, 1, []), (8, .ifCond .lt 8, 3, [10]), (11, .iload_n 1, 1, []), (12, .iload_n 0, 1, []), (13, .if_icmp .lt 7, 3, [12]), (16, .iconst 2, 1, []), (17, .goto 4, 3, [13]), (20, .iconst 0, 1, []), (21, .ireturn, 1, [])]
def mMe13 : mM := (⟨"FirstLanding", "whyNoPlace", "(II)I"⟩, prog_1_method_50_code, 2, (some .int), 0, 2, [316, 103, 315], mCo13)
/-- FirstLanding.at(II)I -/
def mCo14 : List mE := [(0, .aload_n 0, 1, []), (1, .iload_n 1, 1, []), (2, .invokevirtual 73, 3, [0, 8, 0, 0, 295]), (5, .astore_n 3, 1, []), (6, .aload_n 3, 1, []), (7, .ifnonnull 5, 3, [8]), (10, .iconst (-1), 1, []), (11, .ireturn, 1, []), (12, .aload_n 3, 1, []), (13, .getfield 85, 3, [0, 5, 1, 1, 231]), (16, .iload_n 2, 1, []), (17, .invokestatic 88, 3, [0, 13, 0, 0, 314]), (20, .istore 4, 2, []), (22, .iload 4, 2, []), (24, .ifCond .eq 10, 3, [19]), (27, .aload_n 0, 1, []), (28, .iload 4, 2, []), (30, .invokevirtual 77, 3, [0, 9, 0, 0, 299]), (33, .ireturn, 1, []), (34, .aload_n 0, 1, []), (35, .aload_n 3, 1, []), (36, .getfield 92, 3, [0, 5, 0, 1, 228]), (39, .iload_n 2, 1, []), (40, .iaload, 1, []), (41, .putfield 61, 3, [0, 0, 9, 0, 263]), (44, .iconst 1, 1, []), (45, .ireturn, 1, [])]
def mMe14 : mM := (⟨"FirstLanding", "at", "(II)I"⟩, prog_1_method_4_code, 5, (some .int), 1, 2, [320, 103, 318, 319], mCo14)
/-- FirstLanding.tear(I)I -/
def mCo15 : List mE := [(0, .aload_n 0, 1, []), (1, .iload_n 1, 1, []), (2, .invokevirtual 73, 3, [0, 8, 0, 0, 295]), (5, .astore_n 2, 1, []), (6, .aload_n 2, 1, []), (7, .ifnonnull 5, 3, [8]), (10, .iconst (-1), 1, []), (11, .ireturn, 1, []), (12, .aload_n 2, 1, []), (13, .getfield 85, 3, [0, 5, 1, 1, 231]), (16, .iconst (-1), 1, []), (17, .if_icmp .ne 9, 3, [16]), (20, .aload_n 0, 1, []), (21, .iconst 1, 1, []), (22, .invokevirtual 77, 3, [0, 9, 0, 0, 299]), (25, .ireturn, 1, []), (26, .aload_n 2, 1, []), (27, .iconst (-1), 1, []), (28, .putfield 85, 3, [0, 5, 1, 1, 231]), (31, .iconst 1, 1, []), (32, .ireturn, 1, [])]
def mMe15 : mM := (⟨"FirstLanding", "tear", "(I)I"⟩, prog_1_method_5_code, 3, (some .int), 1, 1, [324, 103, 322, 323], mCo15)
/-- FirstLanding.copy(IIIII)I -/
def mCo16 : List mE := [(0, .aload_n 0, 1, []), (1, .iload_n 1, 1, []), (2, .invokevirtual 73, 3, [0, 8, 0, 0, 295]), (5, .astore 6, 2, []), (7, .aload_n 0, 1, []), (8, .iload_n 3, 1, []), (9, .invokevirtual 73, 3, [0, 8, 0, 0, 295]), (12, .astore 7, 2, []), (14, .aload 6, 2, []), (16, .ifnull 8, 3, [12]), (19, .aload 7, 2, []), (21, .ifnonnull 5, 3, [14]), (24, .iconst (-1), 1, []), (25, .ireturn, 1, []), (26, .iload 5, 2, []), (28, .ifCond .ge 9, 3, [20]), (31, .aload_n 0, 1, []), (32, .iconst 5, 1, []), (33, .invokevirtual 77, 3, [0, 9, 0, 0, 299]), (36, .ireturn, 1, []), (37, .aload 6, 2, []), (39, .getfield 85, 3, [0, 5, 1, 1, 231]), (42, .iconst (-1), 1, []), (43, .if_icmp .eq 12, 3, [28]), (46, .aload 7, 2, []), (48, .getfield 85, 3, [0, 5, 1, 1, 231]), (51, .iconst (-1), 1, []), (52, .if_icmp .ne 9, 3, [32]), (55, .aload_n 0, 1, []), (56, .iconst 1, 1, []), (57, .invokevirtual 77, 3, [0, 9, 0, 0, 299]), (60, .ireturn, 1, []), (61, .aload 6, 2, []), (63, .iload_n 2, 1, []), (64, .iload 5, 2, []), (66, .invokevirtual 95, 3, [0, 17, 0, 1, 329]), (69, .ifCond .eq 15, 3, [42]), (72, .aload 7, 2, []), (74, .iload 4, 2, []), (76, .iload 5, 2, []), (78, .invokevirtual 95, 3, [0, 17, 0, 1, 329]), (81, .ifCond .ne 9, 3, [46]), (84, .aload_n 0, 1, []), (85, .iconst 2, 1, []), (86, .invokevirtual 77, 3, [0, 9, 0, 0, 299]), (89, .ireturn, 1, []), (90, .aload 6, 2, []), (92, .getfield 92, 3, [0, 5, 0, 1, 228]), (95, .iload_n 2, 1, []), (96, .aload 7, 2, []), (98, .getfield 92, 3, [0, 5, 0, 1, 228]), (101, .iload 4, 2, []), (103, .iload 5, 2, []), (105, .invokestatic 99, 3, [0, 0, 2, 0, 333, 335, 334, 112]), (108, .iconst 1, 1, []), (109, .ireturn, 1, [])]
def mMe16 : mM := (⟨"FirstLanding", "copy", "(IIIII)I"⟩, prog_1_method_6_code, 8, (some .int), 1, 5, [328, 103, 326, 327], mCo16)
/-- FirstLanding$Row.holds(II)Z -/
def mCo17 : List mE := [(0, .iload_n 1, 1, []), (1, .ifCond .lt 21, 3, [12]), (4, .iload_n 2, 1, []), (5, .ifCond .lt 17, 3, [12]), (8, .iload_n 1, 1, []), (9, .aload_n 0, 1, []), (10, .getfield 15, 3, [0, 5, 1, 0, 229]), (13, .iload_n 2, 1, []), (14, .isub, 1, []), (15, .if_icmp .gt 7, 3, [12]), (18, .iconst 1, 1, []), (19, .goto 4, 3, [13]), (22, .iconst 0, 1, []), (23, .ireturn, 1, [])]
def mMe17 : mM := (⟨"FirstLanding$Row", "holds", "(II)Z"⟩, prog_6_method_3_code, 3, (some .boolean), 1, 2, [332, 108, 331, 3], mCo17)
/-- FirstLanding.mean(I)I -/
def mCo18 : List mE := [(0, .aload_n 0, 1, []), (1, .iload_n 1, 1, []), (2, .invokevirtual 73, 3, [0, 8, 0, 0, 295]), (5, .astore_n 2, 1, []), (6, .aload_n 2, 1, []), (7, .ifnonnull 5, 3, [8]), (10, .iconst (-1), 1, []), (11, .ireturn, 1, []), (12, .aload_n 2, 1, []), (13, .getfield 85, 3, [0, 5, 1, 1, 231]), (16, .iconst (-1), 1, []), (17, .if_icmp .ne 9, 3, [16]), (20, .aload_n 0, 1, []), (21, .iconst 1, 1, []), (22, .invokevirtual 77, 3, [0, 9, 0, 0, 299]), (25, .ireturn, 1, []), (26, .aload_n 2, 1, []), (27, .getfield 85, 3, [0, 5, 1, 1, 231]), (30, .ifCond .gt 9, 3, [23]), (33, .aload_n 0, 1, []), (34, .iconst 4, 1, []), (35, .invokevirtual 77, 3, [0, 9, 0, 0, 299]), (38, .ireturn, 1, []), (39, .aload_n 0, 1, []), (40, .aload_n 2, 1, []), (41, .invokevirtual 105, 3, [0, 19, 0, 1, 340]), (44, .aload_n 2, 1, []), (45, .getfield 85, 3, [0, 5, 1, 1, 231]), (48, .i2l, 1, []), (49, .ldiv, 1, []), (50, .l2i, 1, []), (51, .putfield 61, 3, [0, 0, 9, 0, 263]), (54, .iconst 1, 1, []), (55, .ireturn, 1, [])]
def mMe18 : mM := (⟨"FirstLanding", "mean", "(I)I"⟩, prog_1_method_7_code, 3, (some .int), 1, 1, [339, 103, 337, 338], mCo18)
/-- FirstLanding$Row.total()J -/
def mCo19 : List mE := [(0, .lconst 0, 1, []), (1, .lstore_n 1, 1, []), (2, .iconst 0, 1, []), (3, .istore_n 3, 1, []), (4, .iload_n 3, 1, []), (5, .aload_n 0, 1, []), (6, .getfield 15, 3, [0, 5, 1, 0, 229]), (9, .if_icmp .ge 19, 3, [18]), (12, .lload_n 1, 1, []), (13, .aload_n 0, 1, []), (14, .getfield 9, 3, [0, 5, 0, 0, 226]), (17, .iload_n 3, 1, []), (18, .iaload, 1, []), (19, .i2l, 1, []), (20, .ladd, 1, []), (21, .lstore_n 1, 1, []), (22, .iinc 3 1, 3, []), (25, .goto (-21), 3, [4]), (28, .lload_n 1, 1, []), (29, .lreturn, 1, [])]
def mMe19 : mM := (⟨"FirstLanding$Row", "total", "()J"⟩, prog_6_method_4_code, 4, (some .long), 1, 0, [343, 108, 342, 4], mCo19)
/-- FirstLanding.text(II)I -/
def mCo20 : List mE := [(0, .aload_n 0, 1, []), (1, .iload_n 1, 1, []), (2, .invokevirtual 109, 3, [0, 21, 0, 0, 348]), (5, .astore_n 3, 1, []), (6, .aload_n 3, 1, []), (7, .ifnull 9, 3, [9]), (10, .iload_n 2, 1, []), (11, .bipush 60, 2, []), (13, .if_icmp .le 5, 3, [11]), (16, .iconst (-1), 1, []), (17, .ireturn, 1, []), (18, .iload_n 2, 1, []), (19, .ifCond .ge 9, 3, [17]), (22, .aload_n 0, 1, []), (23, .iconst 5, 1, []), (24, .invokevirtual 77, 3, [0, 9, 0, 0, 299]), (27, .ireturn, 1, []), (28, .aload_n 3, 1, []), (29, .iload_n 2, 1, []), (30, .invokevirtual 113, 3, [0, 22, 0, 1, 352]), (33, .iload_n 2, 1, []), (34, .ireturn, 1, [])]
def mMe20 : mM := (⟨"FirstLanding", "text", "(II)I"⟩, prog_1_method_8_code, 4, (some .int), 1, 2, [347, 103, 345, 346], mCo20)
/-- FirstLanding.textAt(I)LFirstLanding$Text; -/
def mCo21 : List mE := [(0, .iload_n 1, 1, []), (1, .ifCond .lt 17, 3, [10]), (4, .iload_n 1, 1, []), (5, .iconst 4, 1, []), (6, .if_icmp .ge 12, 3, [10]), (9, .aload_n 0, 1, []), (10, .getfield 17, 3, [0, 0, 1, 0, 255]), (13, .iload_n 1, 1, []), (14, .aaload, 1, []), (15, .goto 4, 3, [11]), (18, .aconst_null, 1, []), (19, .areturn, 1, [])]
def mMe21 : mM := (⟨"FirstLanding", "textAt", "(I)LFirstLanding$Text;"⟩, prog_1_method_47_code, 2, (some (.object "FirstLanding$Text")), 1, 1, [351, 103, 350, 5], mCo21)
/-- FirstLanding$Text.begin(I)V -/
def mCo22 : List mE := [(0, .aload_n 0, 1, []), (1, .iload_n 1, 1, []), (2, .putfield 15, 3, [0, 6, 1, 0, 245]), (5, .aload_n 0, 1, []), (6, .getfield 9, 3, [0, 6, 0, 0, 242]), (9, .bipush 32, 2, []), (11, .invokestatic 19, 3, [0, 23, 0, 0, 356]), (14, .return_, 1, [])]
def mMe22 : mM := (⟨"FirstLanding$Text", "begin", "(I)V"⟩, prog_7_method_2_code, 2, none, 1, 1, [355, 109, 354, 6], mCo22)
/-- java/util/Arrays.fill([BB)V -/
def mCo23 : List mE := [(0, .iconst 0, 1, []), (1, .istore_n 2, 1, []), (2, .aload_n 0, 1, []), (3, .arraylength, 1, []), (4, .istore_n 3, 1, []), (5, .iload_n 2, 1, []), (6, .iload_n 3, 1, []), (7, .if_icmp .ge 13, 3, [14]), (10, .aload_n 0, 1, []), (11, .iload_n 2, 1, []), (12, .iload_n 1, 1, []), (13, .bastore, 1, []), (14, .iinc 2 1, 3, []), (17, .goto (-12), 3, [5]), (20, .return_, 1, [])]
def mMe23 : mM := (⟨"java/util/Arrays", "fill", "([BB)V"⟩, prog_15_method_109_code, 4, none, 0, 2, [358, 111, 357], mCo23)
/-- FirstLanding.put(III)I -/
def mCo24 : List mE := [(0, .aload_n 0, 1, []), (1, .iload_n 1, 1, []), (2, .invokevirtual 109, 3, [0, 21, 0, 0, 348]), (5, .astore 4, 2, []), (7, .aload 4, 2, []), (9, .ifnonnull 5, 3, [8]), (12, .iconst (-1), 1, []), (13, .ireturn, 1, []), (14, .aload 4, 2, []), (16, .getfield 114, 3, [0, 6, 1, 1, 247]), (19, .iload_n 2, 1, []), (20, .invokestatic 88, 3, [0, 13, 0, 0, 314]), (23, .istore 5, 2, []), (25, .iload 5, 2, []), (27, .ifCond .eq 10, 3, [19]), (30, .aload_n 0, 1, []), (31, .iload 5, 2, []), (33, .invokevirtual 77, 3, [0, 9, 0, 0, 299]), (36, .ireturn, 1, []), (37, .aload 4, 2, []), (39, .getfield 115, 3, [0, 6, 0, 1, 244]), (42, .iload_n 2, 1, []), (43, .baload, 1, []), (44, .istore 6, 2, []), (46, .aload 4, 2, []), (48, .getfield 115, 3, [0, 6, 0, 1, 244]), (51, .iload_n 2, 1, []), (52, .iload_n 3, 1, []), (53, .i2b, 1, []), (54, .bastore, 1, []), (55, .iload 6, 2, []), (57, .sipush 1000, 3, []), (60, .iadd, 1, []), (61, .ireturn, 1, [])]
def mMe24 : mM := (⟨"FirstLanding", "put", "(III)I"⟩, prog_1_method_9_code, 7, (some .int), 1, 3, [362, 103, 360, 361], mCo24)
/-- FirstLanding.fault(I)I -/
def mCo25 : List mE := [(0, .aload_n 0, 1, []), (1, .iload_n 1, 1, []), (2, .invokevirtual 109, 3, [0, 21, 0, 0, 348]), (5, .astore_n 2, 1, []), (6, .aload_n 2, 1, []), (7, .ifnonnull 5, 3, [8]), (10, .iconst (-1), 1, []), (11, .ireturn, 1, []), (12, .aload_n 2, 1, []), (13, .getfield 114, 3, [0, 6, 1, 1, 247]), (16, .iconst (-1), 1, []), (17, .if_icmp .ne 9, 3, [16]), (20, .aload_n 0, 1, []), (21, .iconst 1, 1, []), (22, .invokevirtual 77, 3, [0, 9, 0, 0, 299]), (25, .ireturn, 1, []), (26, .aload_n 0, 1, []), (27, .getfield 35, 3, [0, 0, 4, 0, 258]), (30, .aload_n 2, 1, []), (31, .invokevirtual 119, 3, [0, 26, 0, 1, 367]), (34, .ireturn, 1, [])]
def mMe25 : mM := (⟨"FirstLanding", "fault", "(I)I"⟩, prog_1_method_10_code, 3, (some .int), 1, 1, [366, 103, 364, 365], mCo25)
/-- FirstLanding$Reader.read(LFirstLanding$Text;)I -/
def mCo26 : List mE := [(0, .aload_n 0, 1, []), (1, .iconst 0, 1, []), (2, .putfield 18, 3, [0, 2, 1, 0, 182]), (5, .aload_n 0, 1, []), (6, .aload_n 1, 1, []), (7, .invokevirtual 22, 3, [0, 27, 0, 0, 371]), (10, .aload_n 0, 1, []), (11, .aload_n 1, 1, []), (12, .invokevirtual 26, 3, [0, 28, 0, 0, 375]), (15, .bipush 110, 2, []), (17, .if_icmp .eq 8, 3, [14]), (20, .aload_n 0, 1, []), (21, .getfield 18, 3, [0, 2, 1, 0, 182]), (24, .ireturn, 1, []), (25, .aload_n 0, 1, []), (26, .dup, 1, []), (27, .getfield 18, 3, [0, 2, 1, 0, 182]), (30, .iconst 1, 1, []), (31, .iadd, 1, []), (32, .putfield 18, 3, [0, 2, 1, 0, 182]), (35, .aload_n 0, 1, []), (36, .aload_n 1, 1, []), (37, .invokevirtual 26, 3, [0, 28, 0, 0, 375]), (40, .bipush 48, 2, []), (42, .isub, 1, []), (43, .istore_n 2, 1, []), (44, .iload_n 2, 1, []), (45, .iconst 2, 1, []), (46, .if_icmp .lt 9, 3, [32]), (49, .iload_n 2, 1, []), (50, .bipush 6, 2, []), (52, .if_icmp .le 8, 3, [35]), (55, .aload_n 0, 1, []), (56, .getfield 18, 3, [0, 2, 1, 0, 182]), (59, .ireturn, 1, []), (60, .aload_n 0, 1, []), (61, .dup, 1, []), (62, .getfield 18, 3, [0, 2, 1, 0, 182]), (65, .iconst 1, 1, []), (66, .iadd, 1, []), (67, .putfield 18, 3, [0, 2, 1, 0, 182]), (70, .aload_n 0, 1, []), (71, .getfield 12, 3, [0, 2, 0, 0, 180]), (74, .iload_n 2, 1, []), (75, .invokevirtual 30, 3, [0, 29, 0, 1, 379]), (78, .iconst 0, 1, []), (79, .istore_n 3, 1, []), (80, .iload_n 3, 1, []), (81, .iload_n 2, 1, []), (82, .if_icmp .ge 28, 3, [63]), (85, .aload_n 0, 1, []), (86, .aload_n 1, 1, []), (87, .invokevirtual 22, 3, [0, 27, 0, 0, 371]), (90, .aload_n 0, 1, []), (91, .aload_n 1, 1, []), (92, .iload_n 3, 1, []), (93, .invokevirtual 34, 3, [0, 30, 0, 0, 383]), (96, .ifCond .ne 8, 3, [61]), (99, .aload_n 0, 1, []), (100, .getfield 18, 3, [0, 2, 1, 0, 182]), (103, .ireturn, 1, []), (104, .iinc 3 1, 3, []), (107, .goto (-27), 3, [47]), (110, .aload_n 0, 1, []), (111, .aload_n 1, 1, []), (112, .invokevirtual 22, 3, [0, 27, 0, 0, 371]), (115, .aload_n 0, 1, []), (116, .getfield 18, 3, [0, 2, 1, 0, 182]), (119, .aload_n 1, 1, []), (120, .getfield 38, 3, [0, 6, 1, 1, 246]), (123, .if_icmp .ge 10, 3, [74]), (126, .aload_n 0, 1, []), (127, .getfield 18, 3, [0, 2, 1, 0, 182]), (130, .goto 5, 3, [75]), (133, .bipush (-9), 2, []), (135, .ireturn, 1, [])]
def mMe26 : mM := (⟨"FirstLanding$Reader", "read", "(LFirstLanding$Text;)I"⟩, prog_5_method_2_code, 4, (some .int), 1, 1, [370, 105, 369, 7], mCo26)
/-- FirstLanding$Reader.skipBlanks(LFirstLanding$Text;)V -/
def mCo27 : List mE := [(0, .aload_n 0, 1, []), (1, .getfield 18, 3, [0, 2, 1, 0, 182]), (4, .aload_n 1, 1, []), (5, .getfield 38, 3, [0, 6, 1, 1, 246]), (8, .if_icmp .ge 26, 3, [17]), (11, .aload_n 0, 1, []), (12, .aload_n 1, 1, []), (13, .invokevirtual 26, 3, [0, 28, 0, 0, 375]), (16, .bipush 32, 2, []), (18, .if_icmp .ne 16, 3, [17]), (21, .aload_n 0, 1, []), (22, .dup, 1, []), (23, .getfield 18, 3, [0, 2, 1, 0, 182]), (26, .iconst 1, 1, []), (27, .iadd, 1, []), (28, .putfield 18, 3, [0, 2, 1, 0, 182]), (31, .goto (-31), 3, [0]), (34, .return_, 1, [])]
def mMe27 : mM := (⟨"FirstLanding$Reader", "skipBlanks", "(LFirstLanding$Text;)V"⟩, prog_5_method_4_code, 2, none, 1, 1, [374, 105, 373, 8], mCo27)
/-- FirstLanding$Reader.sign(LFirstLanding$Text;)I -/
def mCo28 : List mE := [(0, .aload_n 0, 1, []), (1, .getfield 18, 3, [0, 2, 1, 0, 182]), (4, .ifCond .lt 26, 3, [14]), (7, .aload_n 0, 1, []), (8, .getfield 18, 3, [0, 2, 1, 0, 182]), (11, .aload_n 1, 1, []), (12, .getfield 38, 3, [0, 6, 1, 1, 246]), (15, .if_icmp .ge 15, 3, [14]), (18, .aload_n 1, 1, []), (19, .getfield 59, 3, [0, 6, 0, 1, 243]), (22, .aload_n 0, 1, []), (23, .getfield 18, 3, [0, 2, 1, 0, 182]), (26, .baload, 1, []), (27, .goto 6, 3, [15]), (30, .sipush 1000, 3, []), (33, .ireturn, 1, [])]
def mMe28 : mM := (⟨"FirstLanding$Reader", "sign", "(LFirstLanding$Text;)I"⟩, prog_5_method_5_code, 2, (some .int), 1, 1, [378, 105, 377, 9], mCo28)
/-- FirstLanding$Embassy.begin(I)V -/
def mCo29 : List mE := [(0, .aload_n 0, 1, []), (1, .iload_n 1, 1, []), (2, .putfield 21, 3, [0, 1, 3, 0, 143]), (5, .aload_n 0, 1, []), (6, .iconst 0, 1, []), (7, .putfield 25, 3, [0, 1, 4, 0, 148]), (10, .aload_n 0, 1, []), (11, .iconst 0, 1, []), (12, .putfield 28, 3, [0, 1, 5, 0, 151]), (15, .aload_n 0, 1, []), (16, .lconst 0, 1, []), (17, .putfield 31, 3, [0, 1, 6, 0, 153]), (20, .return_, 1, [])]
def mMe29 : mM := (⟨"FirstLanding$Embassy", "begin", "(I)V"⟩, prog_2_method_2_code, 2, none, 1, 1, [382, 104, 381, 10], mCo29)
/-- FirstLanding$Reader.readPerson(LFirstLanding$Text;I)Z -/
def mCo30 : List mE := [(0, .aload_n 0, 1, []), (1, .aload_n 1, 1, []), (2, .invokevirtual 26, 3, [0, 28, 0, 0, 375]), (5, .invokestatic 43, 3, [0, 31, 0, 1, 387]), (8, .istore_n 3, 1, []), (9, .iload_n 3, 1, []), (10, .ifCond .ge 5, 3, [9]), (13, .iconst 0, 1, []), (14, .ireturn, 1, []), (15, .aload_n 0, 1, []), (16, .getfield 12, 3, [0, 2, 0, 0, 180]), (19, .getfield 49, 3, [0, 1, 0, 1, 137]), (22, .iload_n 2, 1, []), (23, .iload_n 3, 1, []), (24, .iastore, 1, []), (25, .aload_n 0, 1, []), (26, .dup, 1, []), (27, .getfield 18, 3, [0, 2, 1, 0, 182]), (30, .iconst 1, 1, []), (31, .iadd, 1, []), (32, .putfield 18, 3, [0, 2, 1, 0, 182]), (35, .iconst 0, 1, []), (36, .istore 4, 2, []), (38, .iload 4, 2, []), (40, .aload_n 0, 1, []), (41, .getfield 12, 3, [0, 2, 0, 0, 180]), (44, .getfield 53, 3, [0, 1, 3, 1, 146]), (47, .if_icmp .ge 60, 3, [59]), (50, .aload_n 0, 1, []), (51, .aload_n 1, 1, []), (52, .invokevirtual 26, 3, [0, 28, 0, 0, 375]), (55, .bipush 48, 2, []), (57, .isub, 1, []), (58, .istore 5, 2, []), (60, .iload 5, 2, []), (62, .ifCond .lt 10, 3, [39]), (65, .iload 5, 2, []), (67, .bipush 9, 2, []), (69, .if_icmp .le 5, 3, [41]), (72, .iconst 0, 1, []), (73, .ireturn, 1, []), (74, .aload_n 0, 1, []), (75, .getfield 12, 3, [0, 2, 0, 0, 180]), (78, .getfield 56, 3, [0, 1, 1, 1, 140]), (81, .bipush 6, 2, []), (83, .iload_n 2, 1, []), (84, .imul, 1, []), (85, .iload 4, 2, []), (87, .iadd, 1, []), (88, .iload 5, 2, []), (90, .iastore, 1, []), (91, .aload_n 0, 1, []), (92, .dup, 1, []), (93, .getfield 18, 3, [0, 2, 1, 0, 182]), (96, .iconst 1, 1, []), (97, .iadd, 1, []), (98, .putfield 18, 3, [0, 2, 1, 0, 182]), (101, .iinc 4 1, 3, []), (104, .goto (-66), 3, [23]), (107, .iconst 1, 1, []), (108, .ireturn, 1, [])]
def mMe30 : mM := (⟨"FirstLanding$Reader", "readPerson", "(LFirstLanding$Text;I)Z"⟩, prog_5_method_3_code, 6, (some .boolean), 1, 2, [386, 105, 385, 11], mCo30)
/-- FirstLanding$Kind.ofLetter(I)I -/
def mCo31 : List mE := [(0, .iconst 0, 1, []), (1, .istore_n 1, 1, []), (2, .iload_n 1, 1, []), (3, .bipush 6, 2, []), (5, .if_icmp .ge 20, 3, [14]), (8, .getstatic 9, 3, [0, 1, 0, 0, 390]), (11, .iload_n 1, 1, []), (12, .iaload, 1, []), (13, .iload_n 0, 1, []), (14, .if_icmp .ne 5, 3, [12]), (17, .iload_n 1, 1, []), (18, .ireturn, 1, []), (19, .iinc 1 1, 3, []), (22, .goto (-20), 3, [2]), (25, .iconst (-1), 1, []), (26, .ireturn, 1, [])]
def mMe31 : mM := (⟨"FirstLanding$Kind", "ofLetter", "(I)I"⟩, prog_3_method_2_code, 2, (some .int), 0, 1, [389, 113, 388], mCo31)
/-- FirstLanding.embassy(I)I -/
def mCo32 : List mE := [(0, .aload_n 0, 1, []), (1, .iload_n 1, 1, []), (2, .invokevirtual 109, 3, [0, 21, 0, 0, 348]), (5, .astore_n 2, 1, []), (6, .aload_n 2, 1, []), (7, .ifnonnull 5, 3, [8]), (10, .iconst (-1), 1, []), (11, .ireturn, 1, []), (12, .aload_n 2, 1, []), (13, .getfield 114, 3, [0, 6, 1, 1, 247]), (16, .iconst (-1), 1, []), (17, .if_icmp .ne 9, 3, [16]), (20, .aload_n 0, 1, []), (21, .iconst 1, 1, []), (22, .invokevirtual 77, 3, [0, 9, 0, 0, 299]), (25, .ireturn, 1, []), (26, .aload_n 0, 1, []), (27, .getfield 35, 3, [0, 0, 4, 0, 258]), (30, .aload_n 2, 1, []), (31, .invokevirtual 119, 3, [0, 26, 0, 1, 367]), (34, .bipush (-9), 2, []), (36, .if_icmp .eq 6, 3, [24]), (39, .bipush (-4), 2, []), (41, .ireturn, 1, []), (42, .aload_n 0, 1, []), (43, .getfield 24, 3, [0, 0, 2, 0, 256]), (46, .aload_n 0, 1, []), (47, .getfield 35, 3, [0, 0, 4, 0, 258]), (50, .getfield 123, 3, [0, 2, 0, 1, 181]), (53, .invokevirtual 126, 3, [0, 33, 0, 1, 396]), (56, .iconst 0, 1, []), (57, .istore_n 3, 1, []), (58, .iload_n 3, 1, []), (59, .iconst 3, 1, []), (60, .if_icmp .ge 19, 3, [43]), (63, .aload_n 0, 1, []), (64, .getfield 28, 3, [0, 0, 3, 0, 257]), (67, .iload_n 3, 1, []), (68, .aaload, 1, []), (69, .iconst 0, 1, []), (70, .putfield 130, 3, [0, 1, 3, 1, 147]), (73, .iinc 3 1, 3, []), (76, .goto (-18), 3, [32]), (79, .aload_n 0, 1, []), (80, .getfield 24, 3, [0, 0, 2, 0, 256]), (83, .getfield 130, 3, [0, 1, 3, 1, 147]), (86, .ireturn, 1, [])]
def mMe32 : mM := (⟨"FirstLanding", "embassy", "(I)I"⟩, prog_1_method_11_code, 4, (some .int), 1, 1, [395, 103, 393, 394], mCo32)
/-- FirstLanding$Embassy.become(LFirstLanding$Embassy;)V -/
def mCo33 : List mE := [(0, .aload_n 1, 1, []), (1, .getfield 9, 3, [0, 1, 0, 0, 135]), (4, .iconst 0, 1, []), (5, .aload_n 0, 1, []), (6, .getfield 9, 3, [0, 1, 0, 0, 135]), (9, .iconst 0, 1, []), (10, .bipush 6, 2, []), (12, .invokestatic 35, 3, [0, 0, 2, 0, 400, 335, 334, 112]), (15, .aload_n 1, 1, []), (16, .getfield 15, 3, [0, 1, 1, 0, 139]), (19, .iconst 0, 1, []), (20, .aload_n 0, 1, []), (21, .getfield 15, 3, [0, 1, 1, 0, 139]), (24, .iconst 0, 1, []), (25, .bipush 36, 2, []), (27, .invokestatic 35, 3, [0, 0, 2, 0, 400, 335, 334, 112]), (30, .aload_n 1, 1, []), (31, .getfield 18, 3, [0, 1, 2, 0, 142]), (34, .iconst 0, 1, []), (35, .aload_n 0, 1, []), (36, .getfield 18, 3, [0, 1, 2, 0, 142]), (39, .iconst 0, 1, []), (40, .bipush 40, 2, []), (42, .invokestatic 35, 3, [0, 0, 2, 0, 400, 335, 334, 112]), (45, .aload_n 0, 1, []), (46, .aload_n 1, 1, []), (47, .getfield 21, 3, [0, 1, 3, 0, 143]), (50, .putfield 21, 3, [0, 1, 3, 0, 143]), (53, .aload_n 0, 1, []), (54, .aload_n 1, 1, []), (55, .getfield 25, 3, [0, 1, 4, 0, 148]), (58, .putfield 25, 3, [0, 1, 4, 0, 148]), (61, .aload_n 0, 1, []), (62, .aload_n 1, 1, []), (63, .getfield 28, 3, [0, 1, 5, 0, 151]), (66, .putfield 28, 3, [0, 1, 5, 0, 151]), (69, .aload_n 0, 1, []), (70, .aload_n 1, 1, []), (71, .getfield 31, 3, [0, 1, 6, 0, 153]), (74, .putfield 31, 3, [0, 1, 6, 0, 153]), (77, .return_, 1, [])]
def mMe33 : mM := (⟨"FirstLanding$Embassy", "become", "(LFirstLanding$Embassy;)V"⟩, prog_2_method_3_code, 2, none, 1, 1, [399, 104, 398, 12], mCo33)
/-- FirstLanding.person(II)I -/
def mCo34 : List mE := [(0, .aload_n 0, 1, []), (1, .getfield 24, 3, [0, 0, 2, 0, 256]), (4, .iload_n 1, 1, []), (5, .invokevirtual 133, 3, [0, 35, 0, 1, 405]), (8, .ifCond .eq 12, 3, [10]), (11, .iload_n 2, 1, []), (12, .ifCond .lt 8, 3, [10]), (15, .iload_n 2, 1, []), (16, .iconst 4, 1, []), (17, .if_icmp .le 5, 3, [12]), (20, .iconst (-1), 1, []), (21, .ireturn, 1, []), (22, .aload_n 0, 1, []), (23, .aload_n 0, 1, []), (24, .getfield 24, 3, [0, 0, 2, 0, 256]), (27, .iload_n 1, 1, []), (28, .iload_n 2, 1, []), (29, .invokevirtual 137, 3, [0, 36, 0, 1, 409]), (32, .putfield 61, 3, [0, 0, 9, 0, 263]), (35, .iconst 1, 1, []), (36, .ireturn, 1, [])]
def mMe34 : mM := (⟨"FirstLanding", "person", "(II)I"⟩, prog_1_method_12_code, 3, (some .int), 1, 2, [404, 103, 402, 403], mCo34)
/-- FirstLanding$Embassy.has(I)Z -/
def mCo35 : List mE := [(0, .iload_n 1, 1, []), (1, .ifCond .lt 15, 3, [8]), (4, .iload_n 1, 1, []), (5, .aload_n 0, 1, []), (6, .getfield 21, 3, [0, 1, 3, 0, 143]), (9, .if_icmp .ge 7, 3, [8]), (12, .iconst 1, 1, []), (13, .goto 4, 3, [9]), (16, .iconst 0, 1, []), (17, .ireturn, 1, [])]
def mMe35 : mM := (⟨"FirstLanding$Embassy", "has", "(I)Z"⟩, prog_2_method_4_code, 2, (some .boolean), 1, 1, [408, 104, 407, 13], mCo35)
/-- FirstLanding$Embassy.about(II)I -/
def mCo36 : List mE := [(0, .iload_n 2, 1, []), (1, .tableswitch 63 0 3 #[31, 38, 47, 57], 31, [24, 2, 7, 14, 20]), (32, .aload_n 0, 1, []), (33, .getfield 9, 3, [0, 1, 0, 0, 135]), (36, .iload_n 1, 1, []), (37, .iaload, 1, []), (38, .ireturn, 1, []), (39, .aload_n 0, 1, []), (40, .getfield 25, 3, [0, 1, 4, 0, 148]), (43, .iload_n 1, 1, []), (44, .ishr, 1, []), (45, .iconst 1, 1, []), (46, .iand, 1, []), (47, .ireturn, 1, []), (48, .aload_n 0, 1, []), (49, .iload_n 1, 1, []), (50, .aload_n 0, 1, []), (51, .getfield 25, 3, [0, 1, 4, 0, 148]), (54, .invokevirtual 45, 3, [0, 37, 0, 0, 413]), (57, .ireturn, 1, []), (58, .aload_n 0, 1, []), (59, .iload_n 1, 1, []), (60, .invokevirtual 49, 3, [0, 45, 0, 0, 440]), (63, .ireturn, 1, []), (64, .aload_n 0, 1, []), (65, .iload_n 1, 1, []), (66, .invokevirtual 53, 3, [0, 47, 0, 0, 449]), (69, .ireturn, 1, [])]
def mMe36 : mM := (⟨"FirstLanding$Embassy", "about", "(II)I"⟩, prog_2_method_8_code, 3, (some .int), 1, 2, [412, 104, 411, 14], mCo36)
/-- FirstLanding$Embassy.seeming(II)I -/
def mCo37 : List mE := [(0, .aload_n 0, 1, []), (1, .aload_n 0, 1, []), (2, .getfield 9, 3, [0, 1, 0, 0, 135]), (5, .iload_n 1, 1, []), (6, .iaload, 1, []), (7, .iload_n 1, 1, []), (8, .iload_n 2, 1, []), (9, .invokevirtual 77, 3, [0, 38, 0, 0, 417]), (12, .ireturn, 1, [])]
def mMe37 : mM := (⟨"FirstLanding$Embassy", "seeming", "(II)I"⟩, prog_2_method_17_code, 3, (some .int), 1, 2, [416, 104, 415, 15], mCo37)
/-- FirstLanding$Embassy.seemingAs(III)I -/
def mCo38 : List mE := [(0, .iconst 0, 1, []), (1, .istore 4, 2, []), (3, .iconst 0, 1, []), (4, .istore 5, 2, []), (6, .iconst 0, 1, []), (7, .istore 6, 2, []), (9, .iload 6, 2, []), (11, .aload_n 0, 1, []), (12, .getfield 21, 3, [0, 1, 3, 0, 143]), (15, .if_icmp .ge 52, 3, [33]), (18, .iload 6, 2, []), (20, .iload_n 2, 1, []), (21, .if_icmp .eq 40, 3, [31]), (24, .iload_n 3, 1, []), (25, .iload 6, 2, []), (27, .invokestatic 81, 3, [0, 39, 0, 1, 421]), (30, .ifCond .eq 31, 3, [31]), (33, .iload_n 1, 1, []), (34, .iload 4, 2, []), (36, .aload_n 0, 1, []), (37, .iload_n 2, 1, []), (38, .iload 6, 2, []), (40, .invokevirtual 68, 3, [0, 40, 0, 0, 424]), (43, .iload 5, 2, []), (45, .ifCond .ne 7, 3, [27]), (48, .iconst 1, 1, []), (49, .goto 4, 3, [28]), (52, .iconst 0, 1, []), (53, .invokestatic 84, 3, [0, 41, 0, 1, 428]), (56, .istore 4, 2, []), (58, .iinc 5 1, 3, []), (61, .iinc 6 1, 3, []), (64, .goto (-55), 3, [6]), (67, .iload_n 1, 1, []), (68, .iload 4, 2, []), (70, .iload 5, 2, []), (72, .invokestatic 88, 3, [0, 44, 0, 1, 437]), (75, .ireturn, 1, [])]
def mMe38 : mM := (⟨"FirstLanding$Embassy", "seemingAs", "(III)I"⟩, prog_2_method_18_code, 7, (some .int), 1, 3, [420, 104, 419, 16], mCo38)
/-- FirstLanding.isIn(II)Z -/
def mCo39 : List mE := [(0, .iload_n 0, 1, []), (1, .iload_n 1, 1, []), (2, .ishr, 1, []), (3, .iconst 1, 1, []), (4, .iand, 1, []), (5, .ifCond .eq 7, 3, [8]), (8, .iconst 1, 1, []), (9, .goto 4, 3, [9]), (12, .iconst 0, 1, []), (13, .ireturn, 1, [])]
def mMe39 : mM := (⟨"FirstLanding", "isIn", "(II)Z"⟩, prog_1_method_45_code, 2, (some .boolean), 0, 2, [423, 103, 422], mCo39)
/-- FirstLanding$Embassy.look(II)I -/
def mCo40 : List mE := [(0, .aload_n 0, 1, []), (1, .getfield 15, 3, [0, 1, 1, 0, 139]), (4, .bipush 6, 2, []), (6, .iload_n 1, 1, []), (7, .imul, 1, []), (8, .iload_n 2, 1, []), (9, .iadd, 1, []), (10, .iaload, 1, []), (11, .ireturn, 1, [])]
def mMe40 : mM := (⟨"FirstLanding$Embassy", "look", "(II)I"⟩, prog_2_method_7_code, 3, (some .int), 1, 2, [427, 104, 426, 17], mCo40)
/-- FirstLanding$Kind.fold(IIIZ)I -/
def mCo41 : List mE := [(0, .iload_n 0, 1, []), (1, .tableswitch 85 1 5 #[35, 41, 55, 35, 65], 35, [32, 2, 6, 14, 2, 20]), (36, .iload_n 1, 1, []), (37, .iload_n 2, 1, []), (38, .invokestatic 18, 3, [0, 42, 0, 0, 431]), (41, .ireturn, 1, []), (42, .iload_n 3, 1, []), (43, .ifCond .eq 7, 3, [10]), (46, .iload_n 2, 1, []), (47, .goto 8, 3, [13]), (50, .iload_n 1, 1, []), (51, .iload_n 2, 1, []), (52, .invokestatic 24, 3, [0, 43, 0, 0, 434]), (55, .ireturn, 1, []), (56, .iload_n 3, 1, []), (57, .ifCond .eq 7, 3, [18]), (60, .iload_n 2, 1, []), (61, .goto 4, 3, [19]), (64, .iload_n 1, 1, []), (65, .ireturn, 1, []), (66, .iload_n 1, 1, []), (67, .ifCond .eq 7, 3, [24]), (70, .iload_n 2, 1, []), (71, .ifCond .ne 9, 3, [28]), (74, .iload_n 1, 1, []), (75, .iload_n 2, 1, []), (76, .iadd, 1, []), (77, .goto 8, 3, [31]), (80, .iload_n 1, 1, []), (81, .iload_n 2, 1, []), (82, .invokestatic 24, 3, [0, 43, 0, 0, 434]), (85, .ireturn, 1, []), (86, .iload_n 1, 1, []), (87, .iload_n 2, 1, []), (88, .iadd, 1, []), (89, .ireturn, 1, [])]
def mMe41 : mM := (⟨"FirstLanding$Kind", "fold", "(IIIZ)I"⟩, prog_3_method_4_code, 4, (some .int), 0, 4, [430, 113, 429], mCo41)
/-- java/lang/Math.max(II)I -/
def mCo42 : List mE := [(0, .iload_n 0, 1, []), (1, .iload_n 1, 1, []), (2, .if_icmp .lt 7, 3, [5]), (5, .iload_n 0, 1, []), (6, .goto 4, 3, [6]), (9, .iload_n 1, 1, []), (10, .ireturn, 1, [])]
def mMe42 : mM := (⟨"java/lang/Math", "max", "(II)I"⟩, prog_13_method_65_code, 2, (some .int), 0, 2, [433, 114, 432], mCo42)
/-- java/lang/Math.min(II)I -/
def mCo43 : List mE := [(0, .iload_n 0, 1, []), (1, .iload_n 1, 1, []), (2, .if_icmp .gt 7, 3, [5]), (5, .iload_n 0, 1, []), (6, .goto 4, 3, [6]), (9, .iload_n 1, 1, []), (10, .ireturn, 1, [])]
def mMe43 : mM := (⟨"java/lang/Math", "min", "(II)I"⟩, prog_13_method_69_code, 2, (some .int), 0, 2, [436, 114, 435], mCo43)
/-- FirstLanding$Kind.tell(III)I -/
def mCo44 : List mE := [(0, .iload_n 2, 1, []), (1, .ifCond .gt 5, 3, [4]), (4, .iconst 0, 1, []), (5, .ireturn, 1, []), (6, .iload_n 0, 1, []), (7, .tableswitch 52 1 5 #[33, 33, 33, 35, 33], 33, [18, 6, 6, 6, 8, 6]), (40, .iload_n 1, 1, []), (41, .ireturn, 1, []), (42, .iload_n 1, 1, []), (43, .ifCond .ne 7, 3, [12]), (46, .iconst 0, 1, []), (47, .goto 11, 3, [17]), (50, .iload_n 1, 1, []), (51, .iconst 1, 1, []), (52, .iadd, 1, []), (53, .bipush 9, 2, []), (55, .invokestatic 24, 3, [0, 43, 0, 0, 434]), (58, .ireturn, 1, []), (59, .iload_n 1, 1, []), (60, .iload_n 2, 1, []), (61, .idiv, 1, []), (62, .ireturn, 1, [])]
def mMe44 : mM := (⟨"FirstLanding$Kind", "tell", "(III)I"⟩, prog_3_method_5_code, 3, (some .int), 0, 3, [439, 113, 438], mCo44)
/-- FirstLanding$Embassy.treatiesOf(I)I -/
def mCo45 : List mE := [(0, .iconst 0, 1, []), (1, .istore_n 2, 1, []), (2, .iconst 0, 1, []), (3, .istore_n 3, 1, []), (4, .iload_n 3, 1, []), (5, .aload_n 0, 1, []), (6, .getfield 21, 3, [0, 1, 3, 0, 143]), (9, .if_icmp .ge 32, 3, [23]), (12, .iload_n 3, 1, []), (13, .iload_n 1, 1, []), (14, .if_icmp .eq 21, 3, [21]), (17, .aload_n 0, 1, []), (18, .getfield 31, 3, [0, 1, 6, 0, 153]), (21, .iload_n 1, 1, []), (22, .iload_n 3, 1, []), (23, .invokestatic 56, 3, [0, 46, 0, 0, 444]), (26, .land, 1, []), (27, .lconst 0, 1, []), (28, .lcmp, 1, []), (29, .ifCond .eq 6, 3, [21]), (32, .iinc 2 1, 3, []), (35, .iinc 3 1, 3, []), (38, .goto (-34), 3, [4]), (41, .iload_n 2, 1, []), (42, .ireturn, 1, [])]
def mMe45 : mM := (⟨"FirstLanding$Embassy", "treatiesOf", "(I)I"⟩, prog_2_method_9_code, 4, (some .int), 1, 1, [443, 104, 442, 18], mCo45)
/-- FirstLanding$Embassy.pairBit(II)J -/
def mCo46 : List mE := [(0, .lconst 1, 1, []), (1, .bipush 6, 2, []), (3, .iload_n 0, 1, []), (4, .iload_n 1, 1, []), (5, .invokestatic 60, 3, [0, 43, 0, 0, 447]), (8, .imul, 1, []), (9, .iload_n 0, 1, []), (10, .iload_n 1, 1, []), (11, .invokestatic 65, 3, [0, 42, 0, 0, 448]), (14, .iadd, 1, []), (15, .lshl, 1, []), (16, .lreturn, 1, [])]
def mMe46 : mM := (⟨"FirstLanding$Embassy", "pairBit", "(II)J"⟩, prog_2_method_10_code, 2, (some .long), 0, 2, [446, 104, 445], mCo46)
/-- FirstLanding$Embassy.unmadeBy(I)I -/
def mCo47 : List mE := [(0, .iconst 0, 1, []), (1, .istore_n 2, 1, []), (2, .iconst 0, 1, []), (3, .istore_n 3, 1, []), (4, .iload_n 3, 1, []), (5, .aload_n 0, 1, []), (6, .getfield 21, 3, [0, 1, 3, 0, 143]), (9, .if_icmp .ge 26, 3, [19]), (12, .iload_n 3, 1, []), (13, .iload_n 1, 1, []), (14, .if_icmp .eq 15, 3, [17]), (17, .aload_n 0, 1, []), (18, .iload_n 1, 1, []), (19, .iload_n 3, 1, []), (20, .invokevirtual 68, 3, [0, 40, 0, 0, 424]), (23, .ifCond .ne 6, 3, [17]), (26, .iinc 2 1, 3, []), (29, .iinc 3 1, 3, []), (32, .goto (-28), 3, [4]), (35, .iload_n 2, 1, []), (36, .ireturn, 1, [])]
def mMe47 : mM := (⟨"FirstLanding$Embassy", "unmadeBy", "(I)I"⟩, prog_2_method_13_code, 4, (some .int), 1, 1, [452, 104, 451, 19], mCo47)
/-- FirstLanding.looks(II)I -/
def mCo48 : List mE := [(0, .aload_n 0, 1, []), (1, .getfield 24, 3, [0, 0, 2, 0, 256]), (4, .iload_n 1, 1, []), (5, .invokevirtual 133, 3, [0, 35, 0, 1, 405]), (8, .ifCond .eq 14, 3, [10]), (11, .aload_n 0, 1, []), (12, .getfield 24, 3, [0, 0, 2, 0, 256]), (15, .iload_n 2, 1, []), (16, .invokevirtual 133, 3, [0, 35, 0, 1, 405]), (19, .ifCond .ne 5, 3, [12]), (22, .iconst (-1), 1, []), (23, .ireturn, 1, []), (24, .aload_n 0, 1, []), (25, .getfield 24, 3, [0, 0, 2, 0, 256]), (28, .iload_n 1, 1, []), (29, .iload_n 2, 1, []), (30, .invokevirtual 140, 3, [0, 40, 0, 1, 457]), (33, .ireturn, 1, [])]
def mMe48 : mM := (⟨"FirstLanding", "looks", "(II)I"⟩, prog_1_method_13_code, 3, (some .int), 1, 2, [456, 103, 454, 455], mCo48)
/-- FirstLanding.mark(II)I -/
def mCo49 : List mE := [(0, .aload_n 0, 1, []), (1, .getfield 24, 3, [0, 0, 2, 0, 256]), (4, .iload_n 1, 1, []), (5, .invokevirtual 133, 3, [0, 35, 0, 1, 405]), (8, .ifCond .eq 13, 3, [11]), (11, .iload_n 2, 1, []), (12, .iconst 1, 1, []), (13, .if_icmp .lt 8, 3, [11]), (16, .iload_n 2, 1, []), (17, .iconst 5, 1, []), (18, .if_icmp .le 5, 3, [13]), (21, .iconst (-1), 1, []), (22, .ireturn, 1, []), (23, .aload_n 0, 1, []), (24, .getfield 24, 3, [0, 0, 2, 0, 256]), (27, .getfield 143, 3, [0, 1, 0, 1, 138]), (30, .iload_n 1, 1, []), (31, .iaload, 1, []), (32, .iload_n 2, 1, []), (33, .invokestatic 146, 3, [0, 50, 0, 1, 462]), (36, .ifCond .ne 9, 3, [25]), (39, .aload_n 0, 1, []), (40, .iconst 3, 1, []), (41, .invokevirtual 77, 3, [0, 9, 0, 0, 299]), (44, .ireturn, 1, []), (45, .iload_n 2, 1, []), (46, .tableswitch 66 1 4 #[30, 39, 48, 57], 30, [47, 27, 32, 37, 42]), (76, .aload_n 0, 1, []), (77, .getfield 24, 3, [0, 0, 2, 0, 256]), (80, .iload_n 1, 1, []), (81, .invokevirtual 151, 3, [0, 51, 0, 1, 467]), (84, .ireturn, 1, []), (85, .aload_n 0, 1, []), (86, .getfield 24, 3, [0, 0, 2, 0, 256]), (89, .iload_n 1, 1, []), (90, .invokevirtual 154, 3, [0, 52, 0, 1, 471]), (93, .ireturn, 1, []), (94, .aload_n 0, 1, []), (95, .getfield 24, 3, [0, 0, 2, 0, 256]), (98, .iload_n 1, 1, []), (99, .invokevirtual 157, 3, [0, 47, 0, 1, 475]), (102, .ireturn, 1, []), (103, .aload_n 0, 1, []), (104, .getfield 24, 3, [0, 0, 2, 0, 256]), (107, .iconst 4, 1, []), (108, .invokevirtual 160, 3, [0, 53, 0, 1, 476]), (111, .ireturn, 1, []), (112, .aload_n 0, 1, []), (113, .getfield 24, 3, [0, 0, 2, 0, 256]), (116, .iload_n 1, 1, []), (117, .invokevirtual 163, 3, [0, 54, 0, 1, 481]), (120, .ireturn, 1, [])]
def mMe49 : mM := (⟨"FirstLanding", "mark", "(II)I"⟩, prog_1_method_14_code, 3, (some .int), 1, 2, [461, 103, 459, 460], mCo49)
/-- FirstLanding$Kind.isA(II)Z -/
def mCo50 : List mE := [(0, .iload_n 0, 1, []), (1, .iload_n 1, 1, []), (2, .if_icmp .eq 12, 3, [8]), (5, .getstatic 15, 3, [0, 2, 0, 0, 465]), (8, .iload_n 0, 1, []), (9, .iaload, 1, []), (10, .iload_n 1, 1, []), (11, .if_icmp .ne 7, 3, [10]), (14, .iconst 1, 1, []), (15, .goto 4, 3, [11]), (18, .iconst 0, 1, []), (19, .ireturn, 1, [])]
def mMe50 : mM := (⟨"FirstLanding$Kind", "isA", "(II)Z"⟩, prog_3_method_3_code, 2, (some .boolean), 0, 2, [464, 113, 463], mCo50)
/-- FirstLanding$Embassy.greatestTo(I)I -/
def mCo51 : List mE := [(0, .bipush (-9), 2, []), (2, .istore_n 2, 1, []), (3, .iconst 0, 1, []), (4, .istore_n 3, 1, []), (5, .iload_n 3, 1, []), (6, .aload_n 0, 1, []), (7, .getfield 21, 3, [0, 1, 3, 0, 143]), (10, .if_icmp .ge 37, 3, [27]), (13, .iload_n 3, 1, []), (14, .iload_n 1, 1, []), (15, .if_icmp .eq 26, 3, [25]), (18, .iload_n 2, 1, []), (19, .bipush (-9), 2, []), (21, .if_icmp .eq 18, 3, [23]), (24, .aload_n 0, 1, []), (25, .iload_n 1, 1, []), (26, .iload_n 3, 1, []), (27, .invokevirtual 68, 3, [0, 40, 0, 0, 424]), (30, .aload_n 0, 1, []), (31, .iload_n 1, 1, []), (32, .iload_n 2, 1, []), (33, .invokevirtual 68, 3, [0, 40, 0, 0, 424]), (36, .if_icmp .le 5, 3, [25]), (39, .iload_n 3, 1, []), (40, .istore_n 2, 1, []), (41, .iinc 3 1, 3, []), (44, .goto (-39), 3, [4]), (47, .iload_n 2, 1, []), (48, .ireturn, 1, [])]
def mMe51 : mM := (⟨"FirstLanding$Embassy", "greatestTo", "(I)I"⟩, prog_2_method_11_code, 4, (some .int), 1, 1, [470, 104, 469, 20], mCo51)
/-- FirstLanding$Embassy.leastTo(I)I -/
def mCo52 : List mE := [(0, .bipush (-9), 2, []), (2, .istore_n 2, 1, []), (3, .iconst 0, 1, []), (4, .istore_n 3, 1, []), (5, .iload_n 3, 1, []), (6, .aload_n 0, 1, []), (7, .getfield 21, 3, [0, 1, 3, 0, 143]), (10, .if_icmp .ge 37, 3, [27]), (13, .iload_n 3, 1, []), (14, .iload_n 1, 1, []), (15, .if_icmp .eq 26, 3, [25]), (18, .iload_n 2, 1, []), (19, .bipush (-9), 2, []), (21, .if_icmp .eq 18, 3, [23]), (24, .aload_n 0, 1, []), (25, .iload_n 1, 1, []), (26, .iload_n 3, 1, []), (27, .invokevirtual 68, 3, [0, 40, 0, 0, 424]), (30, .aload_n 0, 1, []), (31, .iload_n 1, 1, []), (32, .iload_n 2, 1, []), (33, .invokevirtual 68, 3, [0, 40, 0, 0, 424]), (36, .if_icmp .ge 5, 3, [25]), (39, .iload_n 3, 1, []), (40, .istore_n 2, 1, []), (41, .iinc 3 1, 3, []), (44, .goto (-39), 3, [4]), (47, .iload_n 2, 1, []), (48, .ireturn, 1, [])]
def mMe52 : mM := (⟨"FirstLanding$Embassy", "leastTo", "(I)I"⟩, prog_2_method_12_code, 4, (some .int), 1, 1, [474, 104, 473, 21], mCo52)
/-- FirstLanding$Embassy.howManyAre(I)I -/
def mCo53 : List mE := [(0, .iconst 0, 1, []), (1, .istore_n 2, 1, []), (2, .iconst 0, 1, []), (3, .istore_n 3, 1, []), (4, .iload_n 3, 1, []), (5, .aload_n 0, 1, []), (6, .getfield 21, 3, [0, 1, 3, 0, 143]), (9, .if_icmp .ge 25, 3, [18]), (12, .aload_n 0, 1, []), (13, .getfield 9, 3, [0, 1, 0, 0, 135]), (16, .iload_n 3, 1, []), (17, .iaload, 1, []), (18, .iload_n 1, 1, []), (19, .invokestatic 71, 3, [0, 50, 0, 1, 480]), (22, .ifCond .eq 6, 3, [16]), (25, .iinc 2 1, 3, []), (28, .iinc 3 1, 3, []), (31, .goto (-27), 3, [4]), (34, .iload_n 2, 1, []), (35, .ireturn, 1, [])]
def mMe53 : mM := (⟨"FirstLanding$Embassy", "howManyAre", "(I)I"⟩, prog_2_method_16_code, 4, (some .int), 1, 1, [479, 104, 478, 22], mCo53)
/-- FirstLanding$Embassy.unmadeTo(I)I -/
def mCo54 : List mE := [(0, .iconst 0, 1, []), (1, .istore_n 2, 1, []), (2, .iconst 0, 1, []), (3, .istore_n 3, 1, []), (4, .iload_n 3, 1, []), (5, .aload_n 0, 1, []), (6, .getfield 21, 3, [0, 1, 3, 0, 143]), (9, .if_icmp .ge 26, 3, [19]), (12, .iload_n 3, 1, []), (13, .iload_n 1, 1, []), (14, .if_icmp .eq 15, 3, [17]), (17, .aload_n 0, 1, []), (18, .iload_n 3, 1, []), (19, .iload_n 1, 1, []), (20, .invokevirtual 68, 3, [0, 40, 0, 0, 424]), (23, .ifCond .ne 6, 3, [17]), (26, .iinc 2 1, 3, []), (29, .iinc 3 1, 3, []), (32, .goto (-28), 3, [4]), (35, .iload_n 2, 1, []), (36, .ireturn, 1, [])]
def mMe54 : mM := (⟨"FirstLanding$Embassy", "unmadeTo", "(I)I"⟩, prog_2_method_14_code, 4, (some .int), 1, 1, [484, 104, 483, 23], mCo54)
/-- FirstLanding.step(I)I -/
def mCo55 : List mE := [(0, .aload_n 0, 1, []), (1, .getfield 24, 3, [0, 0, 2, 0, 256]), (4, .iload_n 1, 1, []), (5, .invokevirtual 133, 3, [0, 35, 0, 1, 405]), (8, .ifCond .ne 5, 3, [7]), (11, .iconst (-1), 1, []), (12, .ireturn, 1, []), (13, .aload_n 0, 1, []), (14, .getfield 24, 3, [0, 0, 2, 0, 256]), (17, .getfield 166, 3, [0, 1, 5, 1, 152]), (20, .bipush 40, 2, []), (22, .if_icmp .lt 6, 3, [14]), (25, .bipush (-2), 2, []), (27, .ireturn, 1, []), (28, .aload_n 0, 1, []), (29, .getfield 24, 3, [0, 0, 2, 0, 256]), (32, .iload_n 1, 1, []), (33, .invokevirtual 169, 3, [0, 56, 0, 1, 489]), (36, .aload_n 0, 1, []), (37, .getfield 24, 3, [0, 0, 2, 0, 256]), (40, .getfield 172, 3, [0, 1, 4, 1, 150]), (43, .invokestatic 175, 3, [0, 58, 0, 0, 497]), (46, .ireturn, 1, [])]
def mMe55 : mM := (⟨"FirstLanding", "step", "(I)I"⟩, prog_1_method_15_code, 2, (some .int), 1, 1, [488, 103, 486, 487], mCo55)
/-- FirstLanding$Embassy.move(I)V -/
def mCo56 : List mE := [(0, .aload_n 0, 1, []), (1, .dup, 1, []), (2, .getfield 25, 3, [0, 1, 4, 0, 148]), (5, .iconst 1, 1, []), (6, .iload_n 1, 1, []), (7, .ishl, 1, []), (8, .ixor, 1, []), (9, .putfield 25, 3, [0, 1, 4, 0, 148]), (12, .aload_n 0, 1, []), (13, .iconst 0, 1, []), (14, .iload_n 1, 1, []), (15, .iload_n 1, 1, []), (16, .invokevirtual 101, 3, [0, 57, 0, 0, 493]), (19, .return_, 1, [])]
def mMe56 : mM := (⟨"FirstLanding$Embassy", "move", "(I)V"⟩, prog_2_method_24_code, 2, none, 1, 1, [492, 104, 491, 24], mCo56)
/-- FirstLanding$Embassy.note(III)V -/
def mCo57 : List mE := [(0, .aload_n 0, 1, []), (1, .getfield 28, 3, [0, 1, 5, 0, 151]), (4, .bipush 40, 2, []), (6, .if_icmp .ge 32, 3, [24]), (9, .aload_n 0, 1, []), (10, .getfield 18, 3, [0, 1, 2, 0, 142]), (13, .aload_n 0, 1, []), (14, .getfield 28, 3, [0, 1, 5, 0, 151]), (17, .iload_n 1, 1, []), (18, .bipush 6, 2, []), (20, .ishl, 1, []), (21, .iload_n 2, 1, []), (22, .iconst 3, 1, []), (23, .ishl, 1, []), (24, .ior, 1, []), (25, .iload_n 3, 1, []), (26, .ior, 1, []), (27, .iastore, 1, []), (28, .aload_n 0, 1, []), (29, .dup, 1, []), (30, .getfield 28, 3, [0, 1, 5, 0, 151]), (33, .iconst 1, 1, []), (34, .iadd, 1, []), (35, .putfield 28, 3, [0, 1, 5, 0, 151]), (38, .return_, 1, [])]
def mMe57 : mM := (⟨"FirstLanding$Embassy", "note", "(III)V"⟩, prog_2_method_27_code, 4, none, 1, 3, [496, 104, 495, 25], mCo57)
/-- java/lang/Integer.bitCount(I)I -/
def mCo58 : List mE := [(0, .iload_n 0, 1, []), (1, .iload_n 0, 1, []), (2, .iconst 1, 1, []), (3, .iushr, 1, []), (4, .ldc_w 265, 3, [0, 1431655765, 0, 0, 500]), (7, .iand, 1, []), (8, .isub, 1, []), (9, .istore_n 0, 1, []), (10, .iload_n 0, 1, []), (11, .ldc_w 266, 3, [0, 858993459, 0, 0, 501]), (14, .iand, 1, []), (15, .iload_n 0, 1, []), (16, .iconst 2, 1, []), (17, .iushr, 1, []), (18, .ldc_w 266, 3, [0, 858993459, 0, 0, 501]), (21, .iand, 1, []), (22, .iadd, 1, []), (23, .istore_n 0, 1, []), (24, .iload_n 0, 1, []), (25, .iload_n 0, 1, []), (26, .iconst 4, 1, []), (27, .iushr, 1, []), (28, .iadd, 1, []), (29, .ldc_w 267, 3, [0, 252645135, 0, 0, 502]), (32, .iand, 1, []), (33, .istore_n 0, 1, []), (34, .iload_n 0, 1, []), (35, .iload_n 0, 1, []), (36, .bipush 8, 2, []), (38, .iushr, 1, []), (39, .iadd, 1, []), (40, .istore_n 0, 1, []), (41, .iload_n 0, 1, []), (42, .iload_n 0, 1, []), (43, .bipush 16, 2, []), (45, .iushr, 1, []), (46, .iadd, 1, []), (47, .istore_n 0, 1, []), (48, .iload_n 0, 1, []), (49, .bipush 63, 2, []), (51, .iand, 1, []), (52, .ireturn, 1, [])]
def mMe58 : mM := (⟨"java/lang/Integer", "bitCount", "(I)I"⟩, prog_11_method_49_code, 1, (some .int), 0, 1, [499, 115, 498], mCo58)
/-- FirstLanding.meet(III)I -/
def mCo59 : List mE := [(0, .aload_n 0, 1, []), (1, .getfield 24, 3, [0, 0, 2, 0, 256]), (4, .iload_n 1, 1, []), (5, .iload_n 2, 1, []), (6, .invokevirtual 180, 3, [0, 60, 0, 1, 507]), (9, .ifCond .eq 14, 3, [12]), (12, .iload_n 3, 1, []), (13, .iconst 1, 1, []), (14, .if_icmp .lt 9, 3, [12]), (17, .iload_n 3, 1, []), (18, .bipush 9, 2, []), (20, .if_icmp .le 5, 3, [14]), (23, .iconst (-1), 1, []), (24, .ireturn, 1, []), (25, .aload_n 0, 1, []), (26, .getfield 24, 3, [0, 0, 2, 0, 256]), (29, .iload_n 1, 1, []), (30, .iload_n 2, 1, []), (31, .invokevirtual 140, 3, [0, 40, 0, 1, 457]), (34, .ifCond .eq 6, 3, [22]), (37, .bipush (-4), 2, []), (39, .ireturn, 1, []), (40, .aload_n 0, 1, []), (41, .getfield 24, 3, [0, 0, 2, 0, 256]), (44, .getfield 166, 3, [0, 1, 5, 1, 152]), (47, .bipush 40, 2, []), (49, .if_icmp .lt 6, 3, [29]), (52, .bipush (-2), 2, []), (54, .ireturn, 1, []), (55, .aload_n 0, 1, []), (56, .getfield 24, 3, [0, 0, 2, 0, 256]), (59, .iload_n 1, 1, []), (60, .iload_n 2, 1, []), (61, .iload_n 3, 1, []), (62, .invokevirtual 183, 3, [0, 61, 0, 1, 512]), (65, .aload_n 0, 1, []), (66, .getfield 24, 3, [0, 0, 2, 0, 256]), (69, .invokevirtual 187, 3, [0, 62, 0, 1, 516]), (72, .ireturn, 1, [])]
def mMe59 : mM := (⟨"FirstLanding", "meet", "(III)I"⟩, prog_1_method_16_code, 4, (some .int), 1, 3, [506, 103, 504, 505], mCo59)
/-- FirstLanding$Embassy.hasTwo(II)Z -/
def mCo60 : List mE := [(0, .aload_n 0, 1, []), (1, .iload_n 1, 1, []), (2, .invokevirtual 41, 3, [0, 35, 0, 0, 511]), (5, .ifCond .eq 20, 3, [13]), (8, .aload_n 0, 1, []), (9, .iload_n 2, 1, []), (10, .invokevirtual 41, 3, [0, 35, 0, 0, 511]), (13, .ifCond .eq 12, 3, [13]), (16, .iload_n 1, 1, []), (17, .iload_n 2, 1, []), (18, .if_icmp .eq 7, 3, [13]), (21, .iconst 1, 1, []), (22, .goto 4, 3, [14]), (25, .iconst 0, 1, []), (26, .ireturn, 1, [])]
def mMe60 : mM := (⟨"FirstLanding$Embassy", "hasTwo", "(II)Z"⟩, prog_2_method_5_code, 3, (some .boolean), 1, 2, [510, 104, 509, 26], mCo60)
/-- FirstLanding$Embassy.seeFirst(III)V -/
def mCo61 : List mE := [(0, .aload_n 0, 1, []), (1, .getfield 15, 3, [0, 1, 1, 0, 139]), (4, .bipush 6, 2, []), (6, .iload_n 1, 1, []), (7, .imul, 1, []), (8, .iload_n 2, 1, []), (9, .iadd, 1, []), (10, .iload_n 3, 1, []), (11, .iastore, 1, []), (12, .aload_n 0, 1, []), (13, .iconst 1, 1, []), (14, .iload_n 1, 1, []), (15, .iload_n 2, 1, []), (16, .invokevirtual 101, 3, [0, 57, 0, 0, 493]), (19, .return_, 1, [])]
def mMe61 : mM := (⟨"FirstLanding$Embassy", "seeFirst", "(III)V"⟩, prog_2_method_25_code, 4, none, 1, 3, [515, 104, 514, 27], mCo61)
/-- FirstLanding$Embassy.unmade()I -/
def mCo62 : List mE := [(0, .iconst 0, 1, []), (1, .istore_n 1, 1, []), (2, .iconst 0, 1, []), (3, .istore_n 2, 1, []), (4, .iload_n 2, 1, []), (5, .aload_n 0, 1, []), (6, .getfield 21, 3, [0, 1, 3, 0, 143]), (9, .if_icmp .ge 17, 3, [16]), (12, .iload_n 1, 1, []), (13, .aload_n 0, 1, []), (14, .iload_n 2, 1, []), (15, .invokevirtual 53, 3, [0, 47, 0, 0, 449]), (18, .iadd, 1, []), (19, .istore_n 1, 1, []), (20, .iinc 2 1, 3, []), (23, .goto (-19), 3, [4]), (26, .iload_n 1, 1, []), (27, .ireturn, 1, [])]
def mMe62 : mM := (⟨"FirstLanding$Embassy", "unmade", "()I"⟩, prog_2_method_15_code, 3, (some .int), 1, 0, [519, 104, 518, 28], mCo62)
/-- FirstLanding.treat(II)I -/
def mCo63 : List mE := [(0, .aload_n 0, 1, []), (1, .getfield 24, 3, [0, 0, 2, 0, 256]), (4, .iload_n 1, 1, []), (5, .iload_n 2, 1, []), (6, .invokevirtual 180, 3, [0, 60, 0, 1, 507]), (9, .ifCond .ne 5, 3, [8]), (12, .iconst (-1), 1, []), (13, .ireturn, 1, []), (14, .aload_n 0, 1, []), (15, .getfield 24, 3, [0, 0, 2, 0, 256]), (18, .iload_n 1, 1, []), (19, .iload_n 2, 1, []), (20, .invokevirtual 191, 3, [0, 64, 0, 1, 524]), (23, .ifCond .ne 6, 3, [16]), (26, .bipush (-4), 2, []), (28, .ireturn, 1, []), (29, .aload_n 0, 1, []), (30, .getfield 24, 3, [0, 0, 2, 0, 256]), (33, .getfield 166, 3, [0, 1, 5, 1, 152]), (36, .bipush 40, 2, []), (38, .if_icmp .lt 6, 3, [23]), (41, .bipush (-2), 2, []), (43, .ireturn, 1, []), (44, .aload_n 0, 1, []), (45, .getfield 24, 3, [0, 0, 2, 0, 256]), (48, .iload_n 1, 1, []), (49, .iload_n 2, 1, []), (50, .invokevirtual 194, 3, [0, 68, 0, 1, 539]), (53, .aload_n 0, 1, []), (54, .getfield 24, 3, [0, 0, 2, 0, 256]), (57, .getfield 198, 3, [0, 1, 6, 1, 154]), (60, .invokestatic 201, 3, [0, 69, 0, 0, 543]), (63, .ireturn, 1, [])]
def mMe63 : mM := (⟨"FirstLanding", "treat", "(II)I"⟩, prog_1_method_17_code, 3, (some .int), 1, 2, [523, 103, 521, 522], mCo63)
/-- FirstLanding$Embassy.mayTreat(II)Z -/
def mCo64 : List mE := [(0, .iload_n 1, 1, []), (1, .iload_n 2, 1, []), (2, .if_icmp .eq 35, 3, [21]), (5, .aload_n 0, 1, []), (6, .getfield 31, 3, [0, 1, 6, 0, 153]), (9, .iload_n 1, 1, []), (10, .iload_n 2, 1, []), (11, .invokestatic 56, 3, [0, 46, 0, 0, 444]), (14, .land, 1, []), (15, .lconst 0, 1, []), (16, .lcmp, 1, []), (17, .ifCond .ne 20, 3, [21]), (20, .aload_n 0, 1, []), (21, .iload_n 1, 1, []), (22, .iload_n 2, 1, []), (23, .aload_n 0, 1, []), (24, .getfield 25, 3, [0, 1, 4, 0, 148]), (27, .invokevirtual 97, 3, [0, 65, 0, 0, 528]), (30, .ifCond .eq 7, 3, [21]), (33, .iconst 1, 1, []), (34, .goto 4, 3, [22]), (37, .iconst 0, 1, []), (38, .ireturn, 1, [])]
def mMe64 : mM := (⟨"FirstLanding$Embassy", "mayTreat", "(II)Z"⟩, prog_2_method_23_code, 3, (some .boolean), 1, 2, [527, 104, 526, 29], mCo64)
/-- FirstLanding$Embassy.areAgreed(III)Z -/
def mCo65 : List mE := [(0, .aload_n 0, 1, []), (1, .iload_n 1, 1, []), (2, .iload_n 2, 1, []), (3, .iload_n 3, 1, []), (4, .invokevirtual 94, 3, [0, 66, 0, 0, 532]), (7, .istore 4, 2, []), (9, .iload 4, 2, []), (11, .ifCond .eq 9, 3, [11]), (14, .iload 4, 2, []), (16, .iconst 1, 1, []), (17, .if_icmp .ne 7, 3, [13]), (20, .iconst 1, 1, []), (21, .goto 4, 3, [14]), (24, .iconst 0, 1, []), (25, .ireturn, 1, [])]
def mMe65 : mM := (⟨"FirstLanding$Embassy", "areAgreed", "(III)Z"⟩, prog_2_method_20_code, 5, (some .boolean), 1, 3, [531, 104, 530, 30], mCo65)
/-- FirstLanding$Embassy.apart(III)I -/
def mCo66 : List mE := [(0, .iload_n 3, 1, []), (1, .iload_n 1, 1, []), (2, .invokestatic 81, 3, [0, 39, 0, 1, 421]), (5, .ifCond .eq 11, 3, [8]), (8, .iload_n 3, 1, []), (9, .iload_n 2, 1, []), (10, .invokestatic 81, 3, [0, 39, 0, 1, 421]), (13, .ifCond .ne 5, 3, [10]), (16, .iconst (-1), 1, []), (17, .ireturn, 1, []), (18, .aload_n 0, 1, []), (19, .aload_n 0, 1, []), (20, .getfield 9, 3, [0, 1, 0, 0, 135]), (23, .iload_n 1, 1, []), (24, .iaload, 1, []), (25, .iload_n 1, 1, []), (26, .iload_n 3, 1, []), (27, .invokevirtual 77, 3, [0, 38, 0, 0, 417]), (30, .istore 4, 2, []), (32, .aload_n 0, 1, []), (33, .aload_n 0, 1, []), (34, .getfield 9, 3, [0, 1, 0, 0, 135]), (37, .iload_n 2, 1, []), (38, .iaload, 1, []), (39, .iload_n 2, 1, []), (40, .iload_n 3, 1, []), (41, .invokevirtual 77, 3, [0, 38, 0, 0, 417]), (44, .istore 5, 2, []), (46, .iload 4, 2, []), (48, .ifCond .eq 8, 3, [32]), (51, .iload 5, 2, []), (53, .ifCond .ne 7, 3, [34]), (56, .iconst (-1), 1, []), (57, .goto 11, 3, [38]), (60, .iload 4, 2, []), (62, .iload 5, 2, []), (64, .isub, 1, []), (65, .invokestatic 91, 3, [0, 67, 0, 0, 536]), (68, .ireturn, 1, [])]
def mMe66 : mM := (⟨"FirstLanding$Embassy", "apart", "(III)I"⟩, prog_2_method_19_code, 6, (some .int), 1, 3, [535, 104, 534, 31], mCo66)
/-- java/lang/Math.abs(I)I -/
def mCo67 : List mE := [(0, .iload_n 0, 1, []), (1, .ifCond .ge 8, 3, [5]), (4, .iload_n 0, 1, []), (5, .ineg, 1, []), (6, .goto 4, 3, [6]), (9, .iload_n 0, 1, []), (10, .ireturn, 1, [])]
def mMe67 : mM := (⟨"java/lang/Math", "abs", "(I)I"⟩, prog_13_method_59_code, 1, (some .int), 0, 1, [538, 114, 537], mCo67)
/-- FirstLanding$Embassy.bind(II)V -/
def mCo68 : List mE := [(0, .aload_n 0, 1, []), (1, .dup, 1, []), (2, .getfield 31, 3, [0, 1, 6, 0, 153]), (5, .iload_n 1, 1, []), (6, .iload_n 2, 1, []), (7, .invokestatic 56, 3, [0, 46, 0, 0, 444]), (10, .lor, 1, []), (11, .putfield 31, 3, [0, 1, 6, 0, 153]), (14, .aload_n 0, 1, []), (15, .iconst 2, 1, []), (16, .iload_n 1, 1, []), (17, .iload_n 2, 1, []), (18, .invokevirtual 101, 3, [0, 57, 0, 0, 493]), (21, .return_, 1, [])]
def mMe68 : mM := (⟨"FirstLanding$Embassy", "bind", "(II)V"⟩, prog_2_method_26_code, 3, none, 1, 2, [542, 104, 541, 32], mCo68)
/-- java/lang/Long.bitCount(J)I -/
def mCo69 : List mE := [(0, .lload_n 0, 1, []), (1, .lload_n 0, 1, []), (2, .iconst 1, 1, []), (3, .lushr, 1, []), (4, .ldc2_w 314, 3, [0, 6148914691236517205, 0, 0, 546]), (7, .land, 1, []), (8, .lsub, 1, []), (9, .lstore_n 0, 1, []), (10, .lload_n 0, 1, []), (11, .ldc2_w 316, 3, [0, 3689348814741910323, 0, 0, 547]), (14, .land, 1, []), (15, .lload_n 0, 1, []), (16, .iconst 2, 1, []), (17, .lushr, 1, []), (18, .ldc2_w 316, 3, [0, 3689348814741910323, 0, 0, 547]), (21, .land, 1, []), (22, .ladd, 1, []), (23, .lstore_n 0, 1, []), (24, .lload_n 0, 1, []), (25, .lload_n 0, 1, []), (26, .iconst 4, 1, []), (27, .lushr, 1, []), (28, .ladd, 1, []), (29, .ldc2_w 318, 3, [0, 1085102592571150095, 0, 0, 548]), (32, .land, 1, []), (33, .lstore_n 0, 1, []), (34, .lload_n 0, 1, []), (35, .lload_n 0, 1, []), (36, .bipush 8, 2, []), (38, .lushr, 1, []), (39, .ladd, 1, []), (40, .lstore_n 0, 1, []), (41, .lload_n 0, 1, []), (42, .lload_n 0, 1, []), (43, .bipush 16, 2, []), (45, .lushr, 1, []), (46, .ladd, 1, []), (47, .lstore_n 0, 1, []), (48, .lload_n 0, 1, []), (49, .lload_n 0, 1, []), (50, .bipush 32, 2, []), (52, .lushr, 1, []), (53, .ladd, 1, []), (54, .lstore_n 0, 1, []), (55, .lload_n 0, 1, []), (56, .l2i, 1, []), (57, .bipush 127, 2, []), (59, .iand, 1, []), (60, .ireturn, 1, [])]
def mMe69 : mM := (⟨"java/lang/Long", "bitCount", "(J)I"⟩, prog_12_method_50_code, 2, (some .int), 0, 1, [545, 116, 544], mCo69)
/-- FirstLanding.undo(I)I -/
def mCo70 : List mE := [(0, .iload_n 1, 1, []), (1, .ifCond .lt 14, 3, [7]), (4, .iload_n 1, 1, []), (5, .aload_n 0, 1, []), (6, .getfield 24, 3, [0, 0, 2, 0, 256]), (9, .getfield 166, 3, [0, 1, 5, 1, 152]), (12, .if_icmp .lt 5, 3, [9]), (15, .iconst (-1), 1, []), (16, .ireturn, 1, []), (17, .aload_n 0, 1, []), (18, .getfield 24, 3, [0, 0, 2, 0, 256]), (21, .getfield 166, 3, [0, 1, 5, 1, 152]), (24, .iload_n 1, 1, []), (25, .isub, 1, []), (26, .istore_n 2, 1, []), (27, .aload_n 0, 1, []), (28, .getfield 24, 3, [0, 0, 2, 0, 256]), (31, .iload_n 1, 1, []), (32, .invokevirtual 206, 3, [0, 71, 0, 1, 553]), (35, .iload_n 2, 1, []), (36, .ireturn, 1, [])]
def mMe70 : mM := (⟨"FirstLanding", "undo", "(I)I"⟩, prog_1_method_18_code, 3, (some .int), 1, 1, [552, 103, 550, 551], mCo70)
/-- FirstLanding$Embassy.backTo(I)V -/
def mCo71 : List mE := [(0, .aload_n 0, 1, []), (1, .getfield 28, 3, [0, 1, 5, 0, 151]), (4, .iload_n 1, 1, []), (5, .if_icmp .le 138, 3, [69]), (8, .aload_n 0, 1, []), (9, .getfield 28, 3, [0, 1, 5, 0, 151]), (12, .ifCond .le 131, 3, [69]), (15, .aload_n 0, 1, []), (16, .dup, 1, []), (17, .getfield 28, 3, [0, 1, 5, 0, 151]), (20, .iconst 1, 1, []), (21, .isub, 1, []), (22, .putfield 28, 3, [0, 1, 5, 0, 151]), (25, .aload_n 0, 1, []), (26, .getfield 18, 3, [0, 1, 2, 0, 142]), (29, .aload_n 0, 1, []), (30, .getfield 28, 3, [0, 1, 5, 0, 151]), (33, .iaload, 1, []), (34, .iconst 3, 1, []), (35, .ishr, 1, []), (36, .bipush 7, 2, []), (38, .iand, 1, []), (39, .istore_n 2, 1, []), (40, .aload_n 0, 1, []), (41, .getfield 18, 3, [0, 1, 2, 0, 142]), (44, .aload_n 0, 1, []), (45, .getfield 28, 3, [0, 1, 5, 0, 151]), (48, .iaload, 1, []), (49, .bipush 7, 2, []), (51, .iand, 1, []), (52, .istore_n 3, 1, []), (53, .aload_n 0, 1, []), (54, .getfield 18, 3, [0, 1, 2, 0, 142]), (57, .aload_n 0, 1, []), (58, .getfield 28, 3, [0, 1, 5, 0, 151]), (61, .iaload, 1, []), (62, .bipush 6, 2, []), (64, .ishr, 1, []), (65, .lookupswitch 57 #[(0, 27), (1, 42)], 27, [58, 39, 48]), (92, .aload_n 0, 1, []), (93, .dup, 1, []), (94, .getfield 25, 3, [0, 1, 4, 0, 148]), (97, .iconst 1, 1, []), (98, .iload_n 2, 1, []), (99, .ishl, 1, []), (100, .ixor, 1, []), (101, .putfield 25, 3, [0, 1, 4, 0, 148]), (104, .goto 36, 3, [68]), (107, .aload_n 0, 1, []), (108, .getfield 15, 3, [0, 1, 1, 0, 139]), (111, .bipush 6, 2, []), (113, .iload_n 2, 1, []), (114, .imul, 1, []), (115, .iload_n 3, 1, []), (116, .iadd, 1, []), (117, .iconst 0, 1, []), (118, .iastore, 1, []), (119, .goto 21, 3, [68]), (122, .aload_n 0, 1, []), (123, .dup, 1, []), (124, .getfield 31, 3, [0, 1, 6, 0, 153]), (127, .iload_n 2, 1, []), (128, .iload_n 3, 1, []), (129, .invokestatic 56, 3, [0, 46, 0, 0, 444]), (132, .ldc2_w 105, 3, [0, -1, 0, 0, 557]), (135, .lxor, 1, []), (136, .land, 1, []), (137, .putfield 31, 3, [0, 1, 6, 0, 153]), (140, .goto (-140), 3, [0]), (143, .return_, 1, [])]
def mMe71 : mM := (⟨"FirstLanding$Embassy", "backTo", "(I)V"⟩, prog_2_method_28_code, 4, none, 1, 1, [556, 104, 555, 33], mCo71)
/-- FirstLanding.keep(I)I -/
def mCo72 : List mE := [(0, .aload_n 0, 1, []), (1, .iload_n 1, 1, []), (2, .invokevirtual 209, 3, [0, 73, 0, 0, 562]), (5, .astore_n 2, 1, []), (6, .aload_n 2, 1, []), (7, .ifnonnull 5, 3, [8]), (10, .iconst (-1), 1, []), (11, .ireturn, 1, []), (12, .aload_n 0, 1, []), (13, .getfield 24, 3, [0, 0, 2, 0, 256]), (16, .getfield 130, 3, [0, 1, 3, 1, 147]), (19, .ifCond .ne 6, 3, [14]), (22, .bipush (-4), 2, []), (24, .ireturn, 1, []), (25, .aload_n 2, 1, []), (26, .aload_n 0, 1, []), (27, .getfield 24, 3, [0, 0, 2, 0, 256]), (30, .invokevirtual 126, 3, [0, 33, 0, 1, 396]), (33, .aload_n 0, 1, []), (34, .getfield 24, 3, [0, 0, 2, 0, 256]), (37, .getfield 166, 3, [0, 1, 5, 1, 152]), (40, .ireturn, 1, [])]
def mMe72 : mM := (⟨"FirstLanding", "keep", "(I)I"⟩, prog_1_method_19_code, 3, (some .int), 1, 1, [561, 103, 559, 560], mCo72)
/-- FirstLanding.keptAt(I)LFirstLanding$Embassy; -/
def mCo73 : List mE := [(0, .iload_n 1, 1, []), (1, .ifCond .lt 17, 3, [10]), (4, .iload_n 1, 1, []), (5, .iconst 3, 1, []), (6, .if_icmp .ge 12, 3, [10]), (9, .aload_n 0, 1, []), (10, .getfield 28, 3, [0, 0, 3, 0, 257]), (13, .iload_n 1, 1, []), (14, .aaload, 1, []), (15, .goto 4, 3, [11]), (18, .aconst_null, 1, []), (19, .areturn, 1, [])]
def mMe73 : mM := (⟨"FirstLanding", "keptAt", "(I)LFirstLanding$Embassy;"⟩, prog_1_method_48_code, 2, (some (.object "FirstLanding$Embassy")), 1, 1, [565, 103, 564, 34], mCo73)
/-- FirstLanding.on(I)I -/
def mCo74 : List mE := [(0, .aload_n 0, 1, []), (1, .iload_n 1, 1, []), (2, .invokevirtual 209, 3, [0, 73, 0, 0, 562]), (5, .astore_n 2, 1, []), (6, .aload_n 2, 1, []), (7, .ifnonnull 5, 3, [8]), (10, .iconst (-1), 1, []), (11, .ireturn, 1, []), (12, .aload_n 2, 1, []), (13, .getfield 130, 3, [0, 1, 3, 1, 147]), (16, .ifCond .ne 9, 3, [15]), (19, .aload_n 0, 1, []), (20, .iconst 1, 1, []), (21, .invokevirtual 77, 3, [0, 9, 0, 0, 299]), (24, .ireturn, 1, []), (25, .aload_n 0, 1, []), (26, .getfield 24, 3, [0, 0, 2, 0, 256]), (29, .aload_n 2, 1, []), (30, .invokevirtual 126, 3, [0, 33, 0, 1, 396]), (33, .aload_n 0, 1, []), (34, .getfield 24, 3, [0, 0, 2, 0, 256]), (37, .getfield 166, 3, [0, 1, 5, 1, 152]), (40, .ireturn, 1, [])]
def mMe74 : mM := (⟨"FirstLanding", "on", "(I)I"⟩, prog_1_method_20_code, 3, (some .int), 1, 1, [569, 103, 567, 568], mCo74)
/-- FirstLanding.seems(II)I -/
def mCo75 : List mE := [(0, .aload_n 0, 1, []), (1, .getfield 24, 3, [0, 0, 2, 0, 256]), (4, .iload_n 1, 1, []), (5, .invokevirtual 133, 3, [0, 35, 0, 1, 405]), (8, .ifCond .eq 14, 3, [10]), (11, .aload_n 0, 1, []), (12, .getfield 24, 3, [0, 0, 2, 0, 256]), (15, .iload_n 2, 1, []), (16, .invokevirtual 213, 3, [0, 76, 0, 1, 574]), (19, .ifCond .ne 5, 3, [12]), (22, .iconst (-1), 1, []), (23, .ireturn, 1, []), (24, .aload_n 0, 1, []), (25, .getfield 24, 3, [0, 0, 2, 0, 256]), (28, .iload_n 1, 1, []), (29, .iload_n 2, 1, []), (30, .invokevirtual 216, 3, [0, 37, 0, 1, 578]), (33, .ireturn, 1, [])]
def mMe75 : mM := (⟨"FirstLanding", "seems", "(II)I"⟩, prog_1_method_21_code, 3, (some .int), 1, 2, [573, 103, 571, 572], mCo75)
/-- FirstLanding$Embassy.hasSet(I)Z -/
def mCo76 : List mE := [(0, .iload_n 1, 1, []), (1, .ifCond .lt 17, 3, [10]), (4, .iload_n 1, 1, []), (5, .iconst 1, 1, []), (6, .aload_n 0, 1, []), (7, .getfield 21, 3, [0, 1, 3, 0, 143]), (10, .ishl, 1, []), (11, .if_icmp .ge 7, 3, [10]), (14, .iconst 1, 1, []), (15, .goto 4, 3, [11]), (18, .iconst 0, 1, []), (19, .ireturn, 1, [])]
def mMe76 : mM := (⟨"FirstLanding$Embassy", "hasSet", "(I)Z"⟩, prog_2_method_6_code, 2, (some .boolean), 1, 1, [577, 104, 576, 35], mCo76)
/-- FirstLanding.there(I)I -/
def mCo77 : List mE := [(0, .aload_n 0, 1, []), (1, .getfield 24, 3, [0, 0, 2, 0, 256]), (4, .iload_n 1, 1, []), (5, .invokevirtual 213, 3, [0, 76, 0, 1, 574]), (8, .ifCond .ne 5, 3, [7]), (11, .iconst (-1), 1, []), (12, .ireturn, 1, []), (13, .iconst 0, 1, []), (14, .istore_n 2, 1, []), (15, .iconst 0, 1, []), (16, .istore_n 3, 1, []), (17, .iload_n 3, 1, []), (18, .aload_n 0, 1, []), (19, .getfield 24, 3, [0, 0, 2, 0, 256]), (22, .getfield 130, 3, [0, 1, 3, 1, 147]), (25, .if_icmp .ge 35, 3, [34]), (28, .iload_n 1, 1, []), (29, .iload_n 3, 1, []), (30, .invokestatic 219, 3, [0, 39, 0, 0, 583]), (33, .ifCond .eq 21, 3, [32]), (36, .aload_n 0, 1, []), (37, .getfield 24, 3, [0, 0, 2, 0, 256]), (40, .iload_n 3, 1, []), (41, .iload_n 1, 1, []), (42, .invokevirtual 216, 3, [0, 37, 0, 1, 578]), (45, .ifCond .le 9, 3, [32]), (48, .iload_n 2, 1, []), (49, .iconst 1, 1, []), (50, .iload_n 3, 1, []), (51, .ishl, 1, []), (52, .ior, 1, []), (53, .istore_n 2, 1, []), (54, .iinc 3 1, 3, []), (57, .goto (-40), 3, [11]), (60, .iload_n 2, 1, []), (61, .ireturn, 1, [])]
def mMe77 : mM := (⟨"FirstLanding", "there", "(I)I"⟩, prog_1_method_22_code, 4, (some .int), 1, 1, [582, 103, 580, 581], mCo77)
/-- FirstLanding.agree(I)I -/
def mCo78 : List mE := [(0, .aload_n 0, 1, []), (1, .getfield 24, 3, [0, 0, 2, 0, 256]), (4, .iload_n 1, 1, []), (5, .invokevirtual 213, 3, [0, 76, 0, 1, 574]), (8, .ifCond .ne 5, 3, [7]), (11, .iconst (-1), 1, []), (12, .ireturn, 1, []), (13, .aload_n 0, 1, []), (14, .aload_n 0, 1, []), (15, .getfield 24, 3, [0, 0, 2, 0, 256]), (18, .iload_n 1, 1, []), (19, .invokevirtual 222, 3, [0, 79, 0, 1, 588]), (22, .putfield 61, 3, [0, 0, 9, 0, 263]), (25, .aload_n 0, 1, []), (26, .getfield 24, 3, [0, 0, 2, 0, 256]), (29, .iload_n 1, 1, []), (30, .invokevirtual 225, 3, [0, 80, 0, 1, 592]), (33, .ireturn, 1, [])]
def mMe78 : mM := (⟨"FirstLanding", "agree", "(I)I"⟩, prog_1_method_23_code, 2, (some .int), 1, 1, [587, 103, 585, 586], mCo78)
/-- FirstLanding$Embassy.firstAgreeing(I)I -/
def mCo79 : List mE := [(0, .iconst 0, 1, []), (1, .istore_n 2, 1, []), (2, .iload_n 2, 1, []), (3, .aload_n 0, 1, []), (4, .getfield 21, 3, [0, 1, 3, 0, 143]), (7, .if_icmp .ge 44, 3, [30]), (10, .iload_n 2, 1, []), (11, .iconst 1, 1, []), (12, .iadd, 1, []), (13, .istore_n 3, 1, []), (14, .iload_n 3, 1, []), (15, .aload_n 0, 1, []), (16, .getfield 21, 3, [0, 1, 3, 0, 143]), (19, .if_icmp .ge 26, 3, [28]), (22, .aload_n 0, 1, []), (23, .iload_n 2, 1, []), (24, .iload_n 3, 1, []), (25, .iload_n 1, 1, []), (26, .invokevirtual 97, 3, [0, 65, 0, 0, 528]), (29, .ifCond .eq 10, 3, [26]), (32, .bipush 6, 2, []), (34, .iload_n 2, 1, []), (35, .imul, 1, []), (36, .iload_n 3, 1, []), (37, .iadd, 1, []), (38, .ireturn, 1, []), (39, .iinc 3 1, 3, []), (42, .goto (-28), 3, [10]), (45, .iinc 2 1, 3, []), (48, .goto (-46), 3, [2]), (51, .bipush (-9), 2, []), (53, .ireturn, 1, [])]
def mMe79 : mM := (⟨"FirstLanding$Embassy", "firstAgreeing", "(I)I"⟩, prog_2_method_22_code, 4, (some .int), 1, 1, [591, 104, 590, 36], mCo79)
/-- FirstLanding$Embassy.agreeing(I)I -/
def mCo80 : List mE := [(0, .iconst 0, 1, []), (1, .istore_n 2, 1, []), (2, .iconst 0, 1, []), (3, .istore_n 3, 1, []), (4, .iload_n 3, 1, []), (5, .aload_n 0, 1, []), (6, .getfield 21, 3, [0, 1, 3, 0, 143]), (9, .if_icmp .ge 43, 3, [27]), (12, .iload_n 3, 1, []), (13, .iconst 1, 1, []), (14, .iadd, 1, []), (15, .istore 4, 2, []), (17, .iload 4, 2, []), (19, .aload_n 0, 1, []), (20, .getfield 21, 3, [0, 1, 3, 0, 143]), (23, .if_icmp .ge 23, 3, [25]), (26, .aload_n 0, 1, []), (27, .iload_n 3, 1, []), (28, .iload 4, 2, []), (30, .iload_n 1, 1, []), (31, .invokevirtual 97, 3, [0, 65, 0, 0, 528]), (34, .ifCond .eq 6, 3, [23]), (37, .iinc 2 1, 3, []), (40, .iinc 4 1, 3, []), (43, .goto (-26), 3, [12]), (46, .iinc 3 1, 3, []), (49, .goto (-45), 3, [4]), (52, .iload_n 2, 1, []), (53, .ireturn, 1, [])]
def mMe80 : mM := (⟨"FirstLanding$Embassy", "agreeing", "(I)I"⟩, prog_2_method_21_code, 5, (some .int), 1, 1, [595, 104, 594, 37], mCo80)
/-- FirstLanding.well()I -/
def mCo81 : List mE := [(0, .aload_n 0, 1, []), (1, .getfield 24, 3, [0, 0, 2, 0, 256]), (4, .getfield 130, 3, [0, 1, 3, 1, 147]), (7, .ifCond .ne 6, 3, [6]), (10, .bipush (-4), 2, []), (12, .ireturn, 1, []), (13, .iconst 0, 1, []), (14, .istore_n 1, 1, []), (15, .iconst 0, 1, []), (16, .istore_n 2, 1, []), (17, .iconst 0, 1, []), (18, .istore_n 3, 1, []), (19, .iload_n 3, 1, []), (20, .iconst 1, 1, []), (21, .aload_n 0, 1, []), (22, .getfield 24, 3, [0, 0, 2, 0, 256]), (25, .getfield 130, 3, [0, 1, 3, 1, 147]), (28, .ishl, 1, []), (29, .if_icmp .ge 46, 3, [43]), (32, .iload_n 3, 1, []), (33, .invokestatic 175, 3, [0, 58, 0, 0, 497]), (36, .istore 4, 2, []), (38, .iload 4, 2, []), (40, .iload_n 1, 1, []), (41, .if_icmp .le 28, 3, [41]), (44, .aload_n 0, 1, []), (45, .getfield 24, 3, [0, 0, 2, 0, 256]), (48, .iload_n 3, 1, []), (49, .invokevirtual 225, 3, [0, 80, 0, 1, 592]), (52, .iload 4, 2, []), (54, .iload 4, 2, []), (56, .iconst 1, 1, []), (57, .isub, 1, []), (58, .imul, 1, []), (59, .iconst 2, 1, []), (60, .idiv, 1, []), (61, .if_icmp .ne 8, 3, [41]), (64, .iload 4, 2, []), (66, .istore_n 1, 1, []), (67, .iload_n 3, 1, []), (68, .istore_n 2, 1, []), (69, .iinc 3 1, 3, []), (72, .goto (-53), 3, [12]), (75, .aload_n 0, 1, []), (76, .iload_n 2, 1, []), (77, .putfield 61, 3, [0, 0, 9, 0, 263]), (80, .iload_n 1, 1, []), (81, .ireturn, 1, [])]
def mMe81 : mM := (⟨"FirstLanding", "well", "()I"⟩, prog_1_method_24_code, 5, (some .int), 1, 0, [599, 103, 597, 598], mCo81)
/-- FirstLanding.add(I)I -/
def mCo82 : List mE := [(0, .aload_n 0, 1, []), (1, .getfield 24, 3, [0, 0, 2, 0, 256]), (4, .iload_n 1, 1, []), (5, .invokevirtual 213, 3, [0, 76, 0, 1, 574]), (8, .ifCond .ne 5, 3, [7]), (11, .iconst (-1), 1, []), (12, .ireturn, 1, []), (13, .bipush (-9), 2, []), (15, .istore_n 2, 1, []), (16, .iconst (-1), 1, []), (17, .istore_n 3, 1, []), (18, .iconst 0, 1, []), (19, .istore 4, 2, []), (21, .iload 4, 2, []), (23, .aload_n 0, 1, []), (24, .getfield 24, 3, [0, 0, 2, 0, 256]), (27, .getfield 130, 3, [0, 1, 3, 1, 147]), (30, .if_icmp .ge 49, 3, [42]), (33, .iload_n 1, 1, []), (34, .iload 4, 2, []), (36, .invokestatic 219, 3, [0, 39, 0, 0, 583]), (39, .ifCond .eq 7, 3, [24]), (42, .iconst (-1), 1, []), (43, .goto 16, 3, [32]), (46, .aload_n 0, 1, []), (47, .getfield 24, 3, [0, 0, 2, 0, 256]), (50, .iload_n 1, 1, []), (51, .iconst 1, 1, []), (52, .iload 4, 2, []), (54, .ishl, 1, []), (55, .ior, 1, []), (56, .invokevirtual 225, 3, [0, 80, 0, 1, 592]), (59, .istore 5, 2, []), (61, .iload 5, 2, []), (63, .iload_n 3, 1, []), (64, .if_icmp .le 9, 3, [40]), (67, .iload 5, 2, []), (69, .istore_n 3, 1, []), (70, .iload 4, 2, []), (72, .istore_n 2, 1, []), (73, .iinc 4 1, 3, []), (76, .goto (-55), 3, [13]), (79, .iload_n 2, 1, []), (80, .bipush (-9), 2, []), (82, .if_icmp .eq 8, 3, [48]), (85, .aload_n 0, 1, []), (86, .iload_n 3, 1, []), (87, .putfield 61, 3, [0, 0, 9, 0, 263]), (90, .iload_n 2, 1, []), (91, .ireturn, 1, [])]
def mMe82 : mM := (⟨"FirstLanding", "add", "(I)I"⟩, prog_1_method_25_code, 6, (some .int), 1, 1, [603, 103, 601, 602], mCo82)
/-- FirstLanding.worst(I)I -/
def mCo83 : List mE := [(0, .aload_n 0, 1, []), (1, .getfield 24, 3, [0, 0, 2, 0, 256]), (4, .iload_n 1, 1, []), (5, .invokevirtual 213, 3, [0, 76, 0, 1, 574]), (8, .ifCond .ne 5, 3, [7]), (11, .iconst (-1), 1, []), (12, .ireturn, 1, []), (13, .bipush (-9), 2, []), (15, .istore_n 2, 1, []), (16, .iconst (-1), 1, []), (17, .istore_n 3, 1, []), (18, .iconst 0, 1, []), (19, .istore 4, 2, []), (21, .iload 4, 2, []), (23, .aload_n 0, 1, []), (24, .getfield 24, 3, [0, 0, 2, 0, 256]), (27, .getfield 130, 3, [0, 1, 3, 1, 147]), (30, .if_icmp .ge 65, 3, [49]), (33, .iload 4, 2, []), (35, .iconst 1, 1, []), (36, .iadd, 1, []), (37, .istore 5, 2, []), (39, .iload 5, 2, []), (41, .aload_n 0, 1, []), (42, .getfield 24, 3, [0, 0, 2, 0, 256]), (45, .getfield 130, 3, [0, 1, 3, 1, 147]), (48, .if_icmp .ge 41, 3, [47]), (51, .aload_n 0, 1, []), (52, .getfield 24, 3, [0, 0, 2, 0, 256]), (55, .iload 4, 2, []), (57, .iload 5, 2, []), (59, .iload_n 1, 1, []), (60, .invokevirtual 228, 3, [0, 66, 0, 1, 608]), (63, .istore 6, 2, []), (65, .iload 6, 2, []), (67, .iload_n 3, 1, []), (68, .if_icmp .le 15, 3, [45]), (71, .iload 6, 2, []), (73, .istore_n 3, 1, []), (74, .bipush 6, 2, []), (76, .iload 4, 2, []), (78, .imul, 1, []), (79, .iload 5, 2, []), (81, .iadd, 1, []), (82, .istore_n 2, 1, []), (83, .iinc 5 1, 3, []), (86, .goto (-47), 3, [22]), (89, .iinc 4 1, 3, []), (92, .goto (-71), 3, [13]), (95, .iload_n 2, 1, []), (96, .bipush (-9), 2, []), (98, .if_icmp .eq 8, 3, [55]), (101, .aload_n 0, 1, []), (102, .iload_n 3, 1, []), (103, .putfield 61, 3, [0, 0, 9, 0, 263]), (106, .iload_n 2, 1, []), (107, .ireturn, 1, [])]
def mMe83 : mM := (⟨"FirstLanding", "worst", "(I)I"⟩, prog_1_method_26_code, 7, (some .int), 1, 1, [607, 103, 605, 606], mCo83)
/-- FirstLanding.steps(I)I -/
def mCo84 : List mE := [(0, .aload_n 0, 1, []), (1, .iload_n 1, 1, []), (2, .invokevirtual 73, 3, [0, 8, 0, 0, 295]), (5, .astore_n 2, 1, []), (6, .aload_n 2, 1, []), (7, .ifnonnull 5, 3, [8]), (10, .iconst (-1), 1, []), (11, .ireturn, 1, []), (12, .aload_n 0, 1, []), (13, .getfield 24, 3, [0, 0, 2, 0, 256]), (16, .getfield 130, 3, [0, 1, 3, 1, 147]), (19, .ifCond .ne 6, 3, [14]), (22, .bipush (-4), 2, []), (24, .ireturn, 1, []), (25, .aload_n 0, 1, []), (26, .aload_n 2, 1, []), (27, .invokevirtual 232, 3, [0, 85, 0, 0, 613]), (30, .istore_n 3, 1, []), (31, .iload_n 3, 1, []), (32, .ifCond .eq 9, 3, [24]), (35, .aload_n 0, 1, []), (36, .iload_n 3, 1, []), (37, .invokevirtual 77, 3, [0, 9, 0, 0, 299]), (40, .ireturn, 1, []), (41, .aload_n 0, 1, []), (42, .getfield 42, 3, [0, 0, 5, 0, 259]), (45, .aload_n 0, 1, []), (46, .getfield 24, 3, [0, 0, 2, 0, 256]), (49, .aload_n 2, 1, []), (50, .invokevirtual 236, 3, [0, 86, 0, 1, 617]), (53, .istore 4, 2, []), (55, .iload 4, 2, []), (57, .bipush (-9), 2, []), (59, .if_icmp .eq 14, 3, [39]), (62, .aload_n 0, 1, []), (63, .aload_n 0, 1, []), (64, .getfield 42, 3, [0, 0, 5, 0, 259]), (67, .getfield 240, 3, [0, 3, 3, 1, 198]), (70, .putfield 61, 3, [0, 0, 9, 0, 263]), (73, .iload 4, 2, []), (75, .ireturn, 1, [])]
def mMe84 : mM := (⟨"FirstLanding", "steps", "(I)I"⟩, prog_1_method_27_code, 5, (some .int), 1, 1, [612, 103, 610, 611], mCo84)
/-- FirstLanding.whyNoPairs(LFirstLanding$Row;)I -/
def mCo85 : List mE := [(0, .aload_n 1, 1, []), (1, .getfield 85, 3, [0, 5, 1, 1, 231]), (4, .iconst (-1), 1, []), (5, .if_icmp .ne 5, 3, [6]), (8, .iconst 1, 1, []), (9, .ireturn, 1, []), (10, .aload_n 1, 1, []), (11, .getfield 85, 3, [0, 5, 1, 1, 231]), (14, .iconst 2, 1, []), (15, .irem, 1, []), (16, .ifCond .ne 20, 3, [19]), (19, .aload_n 1, 1, []), (20, .getfield 85, 3, [0, 5, 1, 1, 231]), (23, .iconst 2, 1, []), (24, .if_icmp .lt 12, 3, [19]), (27, .aload_n 1, 1, []), (28, .getfield 85, 3, [0, 5, 1, 1, 231]), (31, .bipush 8, 2, []), (33, .if_icmp .le 5, 3, [21]), (36, .iconst 5, 1, []), (37, .ireturn, 1, []), (38, .iconst 0, 1, []), (39, .istore_n 2, 1, []), (40, .iload_n 2, 1, []), (41, .iconst 1, 1, []), (42, .iadd, 1, []), (43, .aload_n 1, 1, []), (44, .getfield 85, 3, [0, 5, 1, 1, 231]), (47, .if_icmp .ge 35, 3, [47]), (50, .aload_n 0, 1, []), (51, .getfield 24, 3, [0, 0, 2, 0, 256]), (54, .aload_n 1, 1, []), (55, .getfield 92, 3, [0, 5, 0, 1, 228]), (58, .iload_n 2, 1, []), (59, .iaload, 1, []), (60, .aload_n 1, 1, []), (61, .getfield 92, 3, [0, 5, 0, 1, 228]), (64, .iload_n 2, 1, []), (65, .iconst 1, 1, []), (66, .iadd, 1, []), (67, .iaload, 1, []), (68, .invokevirtual 180, 3, [0, 60, 0, 1, 507]), (71, .ifCond .ne 5, 3, [45]), (74, .iconst 3, 1, []), (75, .ireturn, 1, []), (76, .iinc 2 2, 3, []), (79, .goto (-39), 3, [23]), (82, .iconst 0, 1, []), (83, .ireturn, 1, [])]
def mMe85 : mM := (⟨"FirstLanding", "whyNoPairs", "(LFirstLanding$Row;)I"⟩, prog_1_method_51_code, 3, (some .int), 1, 1, [616, 103, 615, 38], mCo85)
/-- FirstLanding$Walk.fewest(LFirstLanding$Embassy;LFirstLanding$Row;)I -/
def mCo86 : List mE := [(0, .aload_n 0, 1, []), (1, .aload_n 1, 1, []), (2, .aload_n 2, 1, []), (3, .invokevirtual 25, 3, [0, 87, 0, 0, 621]), (6, .aload_n 0, 1, []), (7, .getfield 18, 3, [0, 3, 2, 0, 196]), (10, .iconst 0, 1, []), (11, .invokestatic 29, 3, [0, 11, 0, 0, 626]), (14, .iconst 1, 1, []), (15, .aload_n 2, 1, []), (16, .getfield 35, 3, [0, 5, 1, 1, 230]), (19, .iconst 2, 1, []), (20, .idiv, 1, []), (21, .ishl, 1, []), (22, .iconst 1, 1, []), (23, .isub, 1, []), (24, .istore_n 3, 1, []), (25, .aload_n 0, 1, []), (26, .getfield 15, 3, [0, 3, 1, 0, 195]), (29, .iconst 0, 1, []), (30, .aload_n 1, 1, []), (31, .getfield 40, 3, [0, 1, 4, 1, 149]), (34, .bipush 16, 2, []), (36, .imul, 1, []), (37, .aload_n 0, 1, []), (38, .getfield 9, 3, [0, 3, 0, 0, 194]), (41, .aload_n 1, 1, []), (42, .getfield 40, 3, [0, 1, 4, 1, 149]), (45, .iaload, 1, []), (46, .iadd, 1, []), (47, .iastore, 1, []), (48, .aload_n 0, 1, []), (49, .getfield 18, 3, [0, 3, 2, 0, 196]), (52, .aload_n 0, 1, []), (53, .getfield 15, 3, [0, 3, 1, 0, 195]), (56, .iconst 0, 1, []), (57, .iaload, 1, []), (58, .iconst 1, 1, []), (59, .iastore, 1, []), (60, .iconst 1, 1, []), (61, .istore 4, 2, []), (63, .iconst 0, 1, []), (64, .istore 5, 2, []), (66, .iload 5, 2, []), (68, .iload 4, 2, []), (70, .if_icmp .ge 183, 3, [143]), (73, .iload 5, 2, []), (75, .aload_n 0, 1, []), (76, .getfield 15, 3, [0, 3, 1, 0, 195]), (79, .arraylength, 1, []), (80, .if_icmp .ge 173, 3, [143]), (83, .aload_n 0, 1, []), (84, .getfield 15, 3, [0, 3, 1, 0, 195]), (87, .iload 5, 2, []), (89, .iaload, 1, []), (90, .istore 6, 2, []), (92, .aload_n 0, 1, []), (93, .getfield 18, 3, [0, 3, 2, 0, 196]), (96, .iload 6, 2, []), (98, .iaload, 1, []), (99, .iconst 1, 1, []), (100, .isub, 1, []), (101, .istore 7, 2, []), (103, .iload 6, 2, []), (105, .bipush 16, 2, []), (107, .irem, 1, []), (108, .iload_n 3, 1, []), (109, .if_icmp .ne 28, 3, [81]), (112, .aload_n 0, 1, []), (113, .iload 7, 2, []), (115, .ifCond .ne 8, 3, [73]), (118, .bipush (-9), 2, []), (120, .goto 8, 3, [76]), (123, .iload 7, 2, []), (125, .bipush 8, 2, []), (127, .irem, 1, []), (128, .putfield 21, 3, [0, 3, 3, 0, 197]), (131, .iload 7, 2, []), (133, .bipush 8, 2, []), (135, .idiv, 1, []), (136, .ireturn, 1, []), (137, .iconst 0, 1, []), (138, .istore 8, 2, []), (140, .iload 8, 2, []), (142, .aload_n 1, 1, []), (143, .getfield 45, 3, [0, 1, 3, 1, 145]), (146, .if_icmp .ge 101, 3, [141]), (149, .iload 6, 2, []), (151, .bipush 16, 2, []), (153, .idiv, 1, []), (154, .iconst 1, 1, []), (155, .iload 8, 2, []), (157, .ishl, 1, []), (158, .ixor, 1, []), (159, .istore 9, 2, []), (161, .iload 9, 2, []), (163, .bipush 16, 2, []), (165, .imul, 1, []), (166, .iload 6, 2, []), (168, .bipush 16, 2, []), (170, .irem, 1, []), (171, .aload_n 0, 1, []), (172, .getfield 9, 3, [0, 3, 0, 0, 194]), (175, .iload 9, 2, []), (177, .iaload, 1, []), (178, .ior, 1, []), (179, .iadd, 1, []), (180, .istore 10, 2, []), (182, .aload_n 0, 1, []), (183, .getfield 18, 3, [0, 3, 2, 0, 196]), (186, .iload 10, 2, []), (188, .iaload, 1, []), (189, .ifCond .ne 52, 3, [139]), (192, .iload 4, 2, []), (194, .aload_n 0, 1, []), (195, .getfield 15, 3, [0, 3, 1, 0, 195]), (198, .arraylength, 1, []), (199, .if_icmp .ge 42, 3, [139]), (202, .aload_n 0, 1, []), (203, .getfield 18, 3, [0, 3, 2, 0, 196]), (206, .iload 10, 2, []), (208, .iconst 1, 1, []), (209, .iload 7, 2, []), (211, .ifCond .ne 11, 3, [128]), (214, .bipush 8, 2, []), (216, .iload 8, 2, []), (218, .iadd, 1, []), (219, .goto 8, 3, [131]), (222, .iload 7, 2, []), (224, .bipush 8, 2, []), (226, .iadd, 1, []), (227, .iadd, 1, []), (228, .iastore, 1, []), (229, .aload_n 0, 1, []), (230, .getfield 15, 3, [0, 3, 1, 0, 195]), (233, .iload 4, 2, []), (235, .iload 10, 2, []), (237, .iastore, 1, []), (238, .iinc 4 1, 3, []), (241, .iinc 8 1, 3, []), (244, .goto (-104), 3, [83]), (247, .iinc 5 1, 3, []), (250, .goto (-184), 3, [43]), (253, .bipush (-9), 2, []), (255, .ireturn, 1, [])]
def mMe86 : mM := (⟨"FirstLanding$Walk", "fewest", "(LFirstLanding$Embassy;LFirstLanding$Row;)I"⟩, prog_8_method_2_code, 11, (some .int), 1, 2, [620, 106, 619, 39], mCo86)
/-- FirstLanding$Walk.learn(LFirstLanding$Embassy;LFirstLanding$Row;)V -/
def mCo87 : List mE := [(0, .iconst 0, 1, []), (1, .istore_n 3, 1, []), (2, .iload_n 3, 1, []), (3, .iconst 1, 1, []), (4, .aload_n 1, 1, []), (5, .getfield 45, 3, [0, 1, 3, 1, 145]), (8, .ishl, 1, []), (9, .if_icmp .ge 75, 3, [51]), (12, .aload_n 0, 1, []), (13, .getfield 9, 3, [0, 3, 0, 0, 194]), (16, .iload_n 3, 1, []), (17, .iconst 0, 1, []), (18, .iastore, 1, []), (19, .iconst 0, 1, []), (20, .istore 4, 2, []), (22, .iload 4, 2, []), (24, .iconst 1, 1, []), (25, .iadd, 1, []), (26, .aload_n 2, 1, []), (27, .getfield 35, 3, [0, 5, 1, 1, 230]), (30, .if_icmp .ge 48, 3, [49]), (33, .aload_n 1, 1, []), (34, .aload_n 2, 1, []), (35, .getfield 48, 3, [0, 5, 0, 1, 227]), (38, .iload 4, 2, []), (40, .iaload, 1, []), (41, .aload_n 2, 1, []), (42, .getfield 48, 3, [0, 5, 0, 1, 227]), (45, .iload 4, 2, []), (47, .iconst 1, 1, []), (48, .iadd, 1, []), (49, .iaload, 1, []), (50, .iload_n 3, 1, []), (51, .invokevirtual 51, 3, [0, 65, 0, 1, 625]), (54, .ifCond .eq 18, 3, [47]), (57, .aload_n 0, 1, []), (58, .getfield 9, 3, [0, 3, 0, 0, 194]), (61, .iload_n 3, 1, []), (62, .dup2, 1, []), (63, .iaload, 1, []), (64, .iconst 1, 1, []), (65, .iload 4, 2, []), (67, .iconst 2, 1, []), (68, .idiv, 1, []), (69, .ishl, 1, []), (70, .ior, 1, []), (71, .iastore, 1, []), (72, .iinc 4 2, 3, []), (75, .goto (-53), 3, [15]), (78, .iinc 3 1, 3, []), (81, .goto (-79), 3, [2]), (84, .return_, 1, [])]
def mMe87 : mM := (⟨"FirstLanding$Walk", "learn", "(LFirstLanding$Embassy;LFirstLanding$Row;)V"⟩, prog_8_method_3_code, 5, none, 1, 2, [624, 106, 623, 40], mCo87)
/-- FirstLanding.meetings(III)I -/
def mCo88 : List mE := [(0, .aload_n 0, 1, []), (1, .getfield 24, 3, [0, 0, 2, 0, 256]), (4, .iload_n 1, 1, []), (5, .invokevirtual 133, 3, [0, 35, 0, 1, 405]), (8, .ifCond .eq 24, 3, [15]), (11, .aload_n 0, 1, []), (12, .getfield 24, 3, [0, 0, 2, 0, 256]), (15, .iload_n 2, 1, []), (16, .invokevirtual 213, 3, [0, 76, 0, 1, 574]), (19, .ifCond .eq 13, 3, [15]), (22, .iload_n 3, 1, []), (23, .ifCond .lt 9, 3, [15]), (26, .iload_n 3, 1, []), (27, .bipush 9, 2, []), (29, .if_icmp .le 5, 3, [17]), (32, .iconst (-1), 1, []), (33, .ireturn, 1, []), (34, .aload_n 0, 1, []), (35, .getfield 49, 3, [0, 0, 6, 0, 260]), (38, .aload_n 0, 1, []), (39, .getfield 24, 3, [0, 0, 2, 0, 256]), (42, .iload_n 1, 1, []), (43, .iload_n 2, 1, []), (44, .iload_n 3, 1, []), (45, .invokevirtual 243, 3, [0, 89, 0, 1, 631]), (48, .ireturn, 1, [])]
def mMe88 : mM := (⟨"FirstLanding", "meetings", "(III)I"⟩, prog_1_method_28_code, 4, (some .int), 1, 3, [630, 103, 628, 629], mCo88)
/-- FirstLanding$Meetings.fewest(LFirstLanding$Embassy;III)I -/
def mCo89 : List mE := [(0, .aload_n 1, 1, []), (1, .getfield 18, 3, [0, 1, 0, 1, 136]), (4, .iload_n 2, 1, []), (5, .iaload, 1, []), (6, .istore 5, 2, []), (8, .iconst 0, 1, []), (9, .istore 6, 2, []), (11, .aload_n 0, 1, []), (12, .getfield 11, 3, [0, 4, 0, 0, 214]), (15, .bipush 100, 2, []), (17, .invokestatic 23, 3, [0, 11, 0, 0, 635]), (20, .aload_n 0, 1, []), (21, .getfield 11, 3, [0, 4, 0, 0, 214]), (24, .iconst 0, 1, []), (25, .iconst 0, 1, []), (26, .iastore, 1, []), (27, .iconst 0, 1, []), (28, .istore 7, 2, []), (30, .iload 7, 2, []), (32, .aload_n 1, 1, []), (33, .getfield 29, 3, [0, 1, 3, 1, 144]), (36, .if_icmp .ge 50, 3, [44]), (39, .iload 7, 2, []), (41, .iload_n 2, 1, []), (42, .if_icmp .eq 38, 3, [42]), (45, .iload_n 3, 1, []), (46, .iload 7, 2, []), (48, .invokestatic 33, 3, [0, 39, 0, 1, 636]), (51, .ifCond .eq 29, 3, [42]), (54, .aload_n 0, 1, []), (55, .iload 5, 2, []), (57, .aload_n 1, 1, []), (58, .iload_n 2, 1, []), (59, .iload 7, 2, []), (61, .invokevirtual 37, 3, [0, 40, 0, 1, 637]), (64, .iload 6, 2, []), (66, .ifCond .ne 7, 3, [39]), (69, .iconst 1, 1, []), (70, .goto 4, 3, [40]), (73, .iconst 0, 1, []), (74, .invokevirtual 41, 3, [0, 90, 0, 0, 638]), (77, .iinc 6 1, 3, []), (80, .iinc 7 1, 3, []), (83, .goto (-53), 3, [18]), (86, .bipush 100, 2, []), (88, .istore 7, 2, []), (90, .iconst 0, 1, []), (91, .istore 8, 2, []), (93, .iload 8, 2, []), (95, .bipush 55, 2, []), (97, .if_icmp .ge 37, 3, [66]), (100, .iload 5, 2, []), (102, .iload 8, 2, []), (104, .iload 6, 2, []), (106, .invokestatic 45, 3, [0, 44, 0, 1, 645]), (109, .iload 4, 2, []), (111, .if_icmp .ne 17, 3, [64]), (114, .iload 7, 2, []), (116, .aload_n 0, 1, []), (117, .getfield 11, 3, [0, 4, 0, 0, 214]), (120, .iload 8, 2, []), (122, .iaload, 1, []), (123, .invokestatic 51, 3, [0, 43, 0, 0, 644]), (126, .istore 7, 2, []), (128, .iinc 8 1, 3, []), (131, .goto (-38), 3, [48]), (134, .iload 7, 2, []), (136, .bipush 100, 2, []), (138, .if_icmp .ne 8, 3, [71]), (141, .bipush (-9), 2, []), (143, .goto 5, 3, [72]), (146, .iload 7, 2, []), (148, .ireturn, 1, [])]
def mMe89 : mM := (⟨"FirstLanding$Meetings", "fewest", "(LFirstLanding$Embassy;III)I"⟩, prog_4_method_2_code, 9, (some .int), 1, 4, [634, 107, 633, 41], mCo89)
/-- FirstLanding$Meetings.foldIn(IIZ)V -/
def mCo90 : List mE := [(0, .aload_n 0, 1, []), (1, .getfield 11, 3, [0, 4, 0, 0, 214]), (4, .iconst 0, 1, []), (5, .aload_n 0, 1, []), (6, .getfield 15, 3, [0, 4, 1, 0, 215]), (9, .iconst 0, 1, []), (10, .bipush 55, 2, []), (12, .invokestatic 56, 3, [0, 0, 2, 0, 642, 335, 334, 112]), (15, .aload_n 0, 1, []), (16, .getfield 11, 3, [0, 4, 0, 0, 214]), (19, .bipush 100, 2, []), (21, .invokestatic 23, 3, [0, 11, 0, 0, 635]), (24, .iload_n 2, 1, []), (25, .ifCond .ne 8, 3, [16]), (28, .bipush 9, 2, []), (30, .goto 4, 3, [17]), (33, .iload_n 2, 1, []), (34, .istore 4, 2, []), (36, .iconst 0, 1, []), (37, .istore 5, 2, []), (39, .iload 5, 2, []), (41, .bipush 55, 2, []), (43, .if_icmp .ge 95, 3, [69]), (46, .iload_n 2, 1, []), (47, .istore 6, 2, []), (49, .iload 6, 2, []), (51, .iload 4, 2, []), (53, .if_icmp .gt 79, 3, [67]), (56, .aload_n 0, 1, []), (57, .getfield 15, 3, [0, 4, 1, 0, 215]), (60, .iload 5, 2, []), (62, .iaload, 1, []), (63, .bipush 100, 2, []), (65, .if_icmp .ge 67, 3, [67]), (68, .iload_n 1, 1, []), (69, .iload 5, 2, []), (71, .iload 6, 2, []), (73, .iload_n 3, 1, []), (74, .invokestatic 62, 3, [0, 41, 0, 1, 643]), (77, .istore 7, 2, []), (79, .aload_n 0, 1, []), (80, .getfield 15, 3, [0, 4, 1, 0, 215]), (83, .iload 5, 2, []), (85, .iaload, 1, []), (86, .iload 6, 2, []), (88, .iload_n 2, 1, []), (89, .if_icmp .ne 7, 3, [49]), (92, .iconst 0, 1, []), (93, .goto 4, 3, [50]), (96, .iconst 1, 1, []), (97, .iadd, 1, []), (98, .istore 8, 2, []), (100, .iload 7, 2, []), (102, .bipush 55, 2, []), (104, .if_icmp .ge 22, 3, [65]), (107, .aload_n 0, 1, []), (108, .getfield 11, 3, [0, 4, 0, 0, 214]), (111, .iload 7, 2, []), (113, .aload_n 0, 1, []), (114, .getfield 11, 3, [0, 4, 0, 0, 214]), (117, .iload 7, 2, []), (119, .iaload, 1, []), (120, .iload 8, 2, []), (122, .invokestatic 51, 3, [0, 43, 0, 0, 644]), (125, .iastore, 1, []), (126, .iinc 6 1, 3, []), (129, .goto (-80), 3, [25]), (132, .iinc 5 1, 3, []), (135, .goto (-96), 3, [20]), (138, .return_, 1, [])]
def mMe90 : mM := (⟨"FirstLanding$Meetings", "foldIn", "(IIZ)V"⟩, prog_4_method_3_code, 9, none, 1, 3, [641, 107, 640, 42], mCo90)
/-- FirstLanding.fits(III)I -/
def mCo91 : List mE := [(0, .aload_n 0, 1, []), (1, .iload_n 3, 1, []), (2, .invokevirtual 73, 3, [0, 8, 0, 0, 295]), (5, .astore 4, 2, []), (7, .aload 4, 2, []), (9, .ifnull 15, 3, [12]), (12, .aload_n 0, 1, []), (13, .getfield 24, 3, [0, 0, 2, 0, 256]), (16, .iload_n 1, 1, []), (17, .iload_n 2, 1, []), (18, .invokevirtual 180, 3, [0, 60, 0, 1, 507]), (21, .ifCond .ne 5, 3, [14]), (24, .iconst (-1), 1, []), (25, .ireturn, 1, []), (26, .aload_n 0, 1, []), (27, .aload 4, 2, []), (29, .invokevirtual 246, 3, [0, 92, 0, 0, 650]), (32, .istore 5, 2, []), (34, .iload 5, 2, []), (36, .ifCond .eq 10, 3, [24]), (39, .aload_n 0, 1, []), (40, .iload 5, 2, []), (42, .invokevirtual 77, 3, [0, 9, 0, 0, 299]), (45, .ireturn, 1, []), (46, .bipush 6, 2, []), (48, .iload_n 1, 1, []), (49, .imul, 1, []), (50, .iload_n 2, 1, []), (51, .iadd, 1, []), (52, .istore 6, 2, []), (54, .aload_n 0, 1, []), (55, .getfield 24, 3, [0, 0, 2, 0, 256]), (58, .getfield 249, 3, [0, 1, 1, 1, 141]), (61, .iload 6, 2, []), (63, .iaload, 1, []), (64, .istore 7, 2, []), (66, .iconst 0, 1, []), (67, .istore 8, 2, []), (69, .iconst 0, 1, []), (70, .istore 9, 2, []), (72, .iload 9, 2, []), (74, .bipush 9, 2, []), (76, .if_icmp .gt 49, 3, [67]), (79, .aload_n 0, 1, []), (80, .getfield 24, 3, [0, 0, 2, 0, 256]), (83, .getfield 249, 3, [0, 1, 1, 1, 141]), (86, .iload 6, 2, []), (88, .iload 9, 2, []), (90, .iastore, 1, []), (91, .aload_n 0, 1, []), (92, .iload_n 1, 1, []), (93, .aload_n 0, 1, []), (94, .getfield 24, 3, [0, 0, 2, 0, 256]), (97, .getfield 143, 3, [0, 1, 0, 1, 138]), (100, .iload_n 1, 1, []), (101, .iaload, 1, []), (102, .aload 4, 2, []), (104, .invokevirtual 252, 3, [0, 93, 0, 0, 654]), (107, .ifCond .eq 12, 3, [65]), (110, .iload 8, 2, []), (112, .iconst 1, 1, []), (113, .iload 9, 2, []), (115, .ishl, 1, []), (116, .ior, 1, []), (117, .istore 8, 2, []), (119, .iinc 9 1, 3, []), (122, .goto (-50), 3, [40]), (125, .aload_n 0, 1, []), (126, .getfield 24, 3, [0, 0, 2, 0, 256]), (129, .getfield 249, 3, [0, 1, 1, 1, 141]), (132, .iload 6, 2, []), (134, .iload 7, 2, []), (136, .iastore, 1, []), (137, .iload 8, 2, []), (139, .ireturn, 1, [])]
def mMe91 : mM := (⟨"FirstLanding", "fits", "(III)I"⟩, prog_1_method_29_code, 10, (some .int), 1, 3, [649, 103, 647, 648], mCo91)
/-- FirstLanding.whyNoNotes(LFirstLanding$Row;)I -/
def mCo92 : List mE := [(0, .aload_n 1, 1, []), (1, .getfield 85, 3, [0, 5, 1, 1, 231]), (4, .iconst (-1), 1, []), (5, .if_icmp .ne 5, 3, [6]), (8, .iconst 1, 1, []), (9, .ireturn, 1, []), (10, .aload_n 1, 1, []), (11, .getfield 85, 3, [0, 5, 1, 1, 231]), (14, .iconst 2, 1, []), (15, .irem, 1, []), (16, .ifCond .ne 12, 3, [15]), (19, .aload_n 1, 1, []), (20, .getfield 85, 3, [0, 5, 1, 1, 231]), (23, .bipush 12, 2, []), (25, .if_icmp .le 5, 3, [17]), (28, .iconst 5, 1, []), (29, .ireturn, 1, []), (30, .iconst 0, 1, []), (31, .istore_n 2, 1, []), (32, .iload_n 2, 1, []), (33, .iconst 1, 1, []), (34, .iadd, 1, []), (35, .aload_n 1, 1, []), (36, .getfield 85, 3, [0, 5, 1, 1, 231]), (39, .if_icmp .ge 46, 3, [49]), (42, .aload_n 1, 1, []), (43, .getfield 92, 3, [0, 5, 0, 1, 228]), (46, .iload_n 2, 1, []), (47, .iconst 1, 1, []), (48, .iadd, 1, []), (49, .iaload, 1, []), (50, .istore_n 3, 1, []), (51, .aload_n 0, 1, []), (52, .getfield 24, 3, [0, 0, 2, 0, 256]), (55, .aload_n 1, 1, []), (56, .getfield 92, 3, [0, 5, 0, 1, 228]), (59, .iload_n 2, 1, []), (60, .iaload, 1, []), (61, .invokevirtual 213, 3, [0, 76, 0, 1, 574]), (64, .ifCond .eq 13, 3, [45]), (67, .iload_n 3, 1, []), (68, .ifCond .lt 9, 3, [45]), (71, .iload_n 3, 1, []), (72, .bipush 9, 2, []), (74, .if_icmp .le 5, 3, [47]), (77, .iconst 3, 1, []), (78, .ireturn, 1, []), (79, .iinc 2 2, 3, []), (82, .goto (-50), 3, [19]), (85, .iconst 0, 1, []), (86, .ireturn, 1, [])]
def mMe92 : mM := (⟨"FirstLanding", "whyNoNotes", "(LFirstLanding$Row;)I"⟩, prog_1_method_52_code, 4, (some .int), 1, 1, [653, 103, 652, 43], mCo92)
/-- FirstLanding.isNoted(IILFirstLanding$Row;)Z -/
def mCo93 : List mE := [(0, .iconst 0, 1, []), (1, .istore 4, 2, []), (3, .iload 4, 2, []), (5, .iconst 1, 1, []), (6, .iadd, 1, []), (7, .aload_n 3, 1, []), (8, .getfield 85, 3, [0, 5, 1, 1, 231]), (11, .if_icmp .ge 39, 3, [28]), (14, .aload_n 0, 1, []), (15, .getfield 24, 3, [0, 0, 2, 0, 256]), (18, .iload_n 2, 1, []), (19, .iload_n 1, 1, []), (20, .aload_n 3, 1, []), (21, .getfield 92, 3, [0, 5, 0, 1, 228]), (24, .iload 4, 2, []), (26, .iaload, 1, []), (27, .invokevirtual 288, 3, [0, 38, 0, 1, 658]), (30, .aload_n 3, 1, []), (31, .getfield 92, 3, [0, 5, 0, 1, 228]), (34, .iload 4, 2, []), (36, .iconst 1, 1, []), (37, .iadd, 1, []), (38, .iaload, 1, []), (39, .if_icmp .eq 5, 3, [26]), (42, .iconst 0, 1, []), (43, .ireturn, 1, []), (44, .iinc 4 2, 3, []), (47, .goto (-44), 3, [2]), (50, .iconst 1, 1, []), (51, .ireturn, 1, [])]
def mMe93 : mM := (⟨"FirstLanding", "isNoted", "(IILFirstLanding$Row;)Z"⟩, prog_1_method_53_code, 5, (some .boolean), 1, 3, [657, 103, 656, 44], mCo93)
/-- FirstLanding.kinds(II)I -/
def mCo94 : List mE := [(0, .aload_n 0, 1, []), (1, .iload_n 2, 1, []), (2, .invokevirtual 73, 3, [0, 8, 0, 0, 295]), (5, .astore_n 3, 1, []), (6, .aload_n 3, 1, []), (7, .ifnull 14, 3, [11]), (10, .aload_n 0, 1, []), (11, .getfield 24, 3, [0, 0, 2, 0, 256]), (14, .iload_n 1, 1, []), (15, .invokevirtual 133, 3, [0, 35, 0, 1, 405]), (18, .ifCond .ne 5, 3, [13]), (21, .iconst (-1), 1, []), (22, .ireturn, 1, []), (23, .aload_n 0, 1, []), (24, .aload_n 3, 1, []), (25, .invokevirtual 246, 3, [0, 92, 0, 0, 650]), (28, .istore 4, 2, []), (30, .iload 4, 2, []), (32, .ifCond .eq 10, 3, [23]), (35, .aload_n 0, 1, []), (36, .iload 4, 2, []), (38, .invokevirtual 77, 3, [0, 9, 0, 0, 299]), (41, .ireturn, 1, []), (42, .iconst 0, 1, []), (43, .istore 5, 2, []), (45, .iconst 0, 1, []), (46, .istore 6, 2, []), (48, .iload 6, 2, []), (50, .bipush 6, 2, []), (52, .if_icmp .ge 29, 3, [44]), (55, .aload_n 0, 1, []), (56, .iload_n 1, 1, []), (57, .iload 6, 2, []), (59, .aload_n 3, 1, []), (60, .invokevirtual 252, 3, [0, 93, 0, 0, 654]), (63, .ifCond .eq 12, 3, [42]), (66, .iload 5, 2, []), (68, .iconst 1, 1, []), (69, .iload 6, 2, []), (71, .ishl, 1, []), (72, .ior, 1, []), (73, .istore 5, 2, []), (75, .iinc 6 1, 3, []), (78, .goto (-30), 3, [27]), (81, .iload 5, 2, []), (83, .ireturn, 1, [])]
def mMe94 : mM := (⟨"FirstLanding", "kinds", "(II)I"⟩, prog_1_method_30_code, 7, (some .int), 1, 2, [662, 103, 660, 661], mCo94)
/-- FirstLanding.tells(I)I -/
def mCo95 : List mE := [(0, .aload_n 0, 1, []), (1, .getfield 24, 3, [0, 0, 2, 0, 256]), (4, .iload_n 1, 1, []), (5, .invokevirtual 133, 3, [0, 35, 0, 1, 405]), (8, .ifCond .ne 5, 3, [7]), (11, .iconst (-1), 1, []), (12, .ireturn, 1, []), (13, .iconst 0, 1, []), (14, .istore_n 2, 1, []), (15, .iconst 0, 1, []), (16, .istore_n 3, 1, []), (17, .iconst 0, 1, []), (18, .istore 4, 2, []), (20, .iload 4, 2, []), (22, .iconst 1, 1, []), (23, .aload_n 0, 1, []), (24, .getfield 24, 3, [0, 0, 2, 0, 256]), (27, .getfield 130, 3, [0, 1, 3, 1, 147]), (30, .ishl, 1, []), (31, .if_icmp .ge 30, 3, [34]), (34, .aload_n 0, 1, []), (35, .iload_n 1, 1, []), (36, .iload 4, 2, []), (38, .invokevirtual 256, 3, [0, 96, 0, 0, 667]), (41, .istore 5, 2, []), (43, .iload 5, 2, []), (45, .iload_n 2, 1, []), (46, .if_icmp .le 9, 3, [32]), (49, .iload 5, 2, []), (51, .istore_n 2, 1, []), (52, .iload 4, 2, []), (54, .istore_n 3, 1, []), (55, .iinc 4 1, 3, []), (58, .goto (-38), 3, [13]), (61, .aload_n 0, 1, []), (62, .iload_n 2, 1, []), (63, .putfield 61, 3, [0, 0, 9, 0, 263]), (66, .iload_n 3, 1, []), (67, .ireturn, 1, [])]
def mMe95 : mM := (⟨"FirstLanding", "tells", "(I)I"⟩, prog_1_method_31_code, 6, (some .int), 1, 1, [666, 103, 664, 665], mCo95)
/-- FirstLanding.sortsByKinds(II)I -/
def mCo96 : List mE := [(0, .iconst 0, 1, []), (1, .istore_n 3, 1, []), (2, .iconst 0, 1, []), (3, .istore 4, 2, []), (5, .iload 4, 2, []), (7, .bipush 6, 2, []), (9, .if_icmp .ge 25, 3, [20]), (12, .iload_n 3, 1, []), (13, .iconst 1, 1, []), (14, .aload_n 0, 1, []), (15, .getfield 24, 3, [0, 0, 2, 0, 256]), (18, .iload 4, 2, []), (20, .iload_n 1, 1, []), (21, .iload_n 2, 1, []), (22, .invokevirtual 288, 3, [0, 38, 0, 1, 658]), (25, .ishl, 1, []), (26, .ior, 1, []), (27, .istore_n 3, 1, []), (28, .iinc 4 1, 3, []), (31, .goto (-26), 3, [4]), (34, .iload_n 3, 1, []), (35, .invokestatic 175, 3, [0, 58, 0, 0, 497]), (38, .ireturn, 1, [])]
def mMe96 : mM := (⟨"FirstLanding", "sortsByKinds", "(II)I"⟩, prog_1_method_54_code, 5, (some .int), 1, 2, [670, 103, 669, 45], mCo96)
/-- FirstLanding.knows(II)I -/
def mCo97 : List mE := [(0, .aload_n 0, 1, []), (1, .getfield 24, 3, [0, 0, 2, 0, 256]), (4, .iload_n 1, 1, []), (5, .invokevirtual 133, 3, [0, 35, 0, 1, 405]), (8, .ifCond .eq 13, 3, [10]), (11, .iload_n 2, 1, []), (12, .ifCond .lt 9, 3, [10]), (15, .iload_n 2, 1, []), (16, .bipush 9, 2, []), (18, .if_icmp .le 5, 3, [12]), (21, .iconst (-1), 1, []), (22, .ireturn, 1, []), (23, .aload_n 0, 1, []), (24, .getfield 24, 3, [0, 0, 2, 0, 256]), (27, .iload_n 1, 1, []), (28, .iload_n 2, 1, []), (29, .invokevirtual 259, 3, [0, 98, 0, 1, 675]), (32, .ireturn, 1, [])]
def mMe97 : mM := (⟨"FirstLanding", "knows", "(II)I"⟩, prog_1_method_32_code, 3, (some .int), 1, 2, [674, 103, 672, 673], mCo97)
/-- FirstLanding$Embassy.known(II)I -/
def mCo98 : List mE := [(0, .iconst 1, 1, []), (1, .iload_n 1, 1, []), (2, .ishl, 1, []), (3, .istore_n 3, 1, []), (4, .iconst 0, 1, []), (5, .istore 4, 2, []), (7, .iload 4, 2, []), (9, .iload_n 2, 1, []), (10, .if_icmp .ge 17, 3, [17]), (13, .iload_n 3, 1, []), (14, .aload_n 0, 1, []), (15, .iload_n 3, 1, []), (16, .invokevirtual 118, 3, [0, 99, 0, 0, 679]), (19, .ior, 1, []), (20, .istore_n 3, 1, []), (21, .iinc 4 1, 3, []), (24, .goto (-17), 3, [6]), (27, .iload_n 3, 1, []), (28, .ireturn, 1, [])]
def mMe98 : mM := (⟨"FirstLanding$Embassy", "known", "(II)I"⟩, prog_2_method_30_code, 5, (some .int), 1, 2, [678, 104, 677, 46], mCo98)
/-- FirstLanding$Embassy.seenBy(I)I -/
def mCo99 : List mE := [(0, .iconst 0, 1, []), (1, .istore_n 2, 1, []), (2, .iconst 0, 1, []), (3, .istore_n 3, 1, []), (4, .iload_n 3, 1, []), (5, .aload_n 0, 1, []), (6, .getfield 21, 3, [0, 1, 3, 0, 143]), (9, .if_icmp .ge 52, 3, [33]), (12, .iconst 0, 1, []), (13, .istore 4, 2, []), (15, .iload 4, 2, []), (17, .aload_n 0, 1, []), (18, .getfield 21, 3, [0, 1, 3, 0, 143]), (21, .if_icmp .ge 34, 3, [31]), (24, .iload_n 1, 1, []), (25, .iload 4, 2, []), (27, .invokestatic 81, 3, [0, 39, 0, 1, 421]), (30, .ifCond .eq 19, 3, [29]), (33, .aload_n 0, 1, []), (34, .iload_n 3, 1, []), (35, .iload 4, 2, []), (37, .invokevirtual 68, 3, [0, 40, 0, 0, 424]), (40, .ifCond .le 9, 3, [29]), (43, .iload_n 2, 1, []), (44, .iconst 1, 1, []), (45, .iload_n 3, 1, []), (46, .ishl, 1, []), (47, .ior, 1, []), (48, .istore_n 2, 1, []), (49, .iinc 4 1, 3, []), (52, .goto (-37), 3, [10]), (55, .iinc 3 1, 3, []), (58, .goto (-54), 3, [4]), (61, .iload_n 2, 1, []), (62, .ireturn, 1, [])]
def mMe99 : mM := (⟨"FirstLanding$Embassy", "seenBy", "(I)I"⟩, prog_2_method_31_code, 5, (some .int), 1, 1, [682, 104, 681, 47], mCo99)
/-- FirstLanding.hears(II)I -/
def mCo100 : List mE := [(0, .aload_n 0, 1, []), (1, .getfield 24, 3, [0, 0, 2, 0, 256]), (4, .iload_n 1, 1, []), (5, .invokevirtual 133, 3, [0, 35, 0, 1, 405]), (8, .ifCond .eq 14, 3, [10]), (11, .aload_n 0, 1, []), (12, .getfield 24, 3, [0, 0, 2, 0, 256]), (15, .iload_n 2, 1, []), (16, .invokevirtual 133, 3, [0, 35, 0, 1, 405]), (19, .ifCond .ne 5, 3, [12]), (22, .iconst (-1), 1, []), (23, .ireturn, 1, []), (24, .iconst 0, 1, []), (25, .istore_n 3, 1, []), (26, .iload_n 3, 1, []), (27, .aload_n 0, 1, []), (28, .getfield 24, 3, [0, 0, 2, 0, 256]), (31, .getfield 130, 3, [0, 1, 3, 1, 147]), (34, .if_icmp .ge 27, 3, [31]), (37, .aload_n 0, 1, []), (38, .getfield 24, 3, [0, 0, 2, 0, 256]), (41, .iload_n 1, 1, []), (42, .iload_n 3, 1, []), (43, .invokevirtual 259, 3, [0, 98, 0, 1, 675]), (46, .iload_n 2, 1, []), (47, .invokestatic 219, 3, [0, 39, 0, 0, 583]), (50, .ifCond .eq 5, 3, [29]), (53, .iload_n 3, 1, []), (54, .ireturn, 1, []), (55, .iinc 3 1, 3, []), (58, .goto (-32), 3, [14]), (61, .bipush (-9), 2, []), (63, .ireturn, 1, [])]
def mMe100 : mM := (⟨"FirstLanding", "hears", "(II)I"⟩, prog_1_method_33_code, 4, (some .int), 1, 2, [686, 103, 684, 685], mCo100)
/-- FirstLanding.missions(I)I -/
def mCo101 : List mE := [(0, .iload_n 1, 1, []), (1, .ifCond .lt 8, 3, [5]), (4, .iload_n 1, 1, []), (5, .iconst 2, 1, []), (6, .if_icmp .le 5, 3, [7]), (9, .iconst (-1), 1, []), (10, .ireturn, 1, []), (11, .aload_n 0, 1, []), (12, .getfield 24, 3, [0, 0, 2, 0, 256]), (15, .getfield 130, 3, [0, 1, 3, 1, 147]), (18, .ifCond .ne 6, 3, [13]), (21, .bipush (-4), 2, []), (23, .ireturn, 1, []), (24, .aload_n 0, 1, []), (25, .getfield 24, 3, [0, 0, 2, 0, 256]), (28, .aload_n 0, 1, []), (29, .getfield 24, 3, [0, 0, 2, 0, 256]), (32, .getfield 172, 3, [0, 1, 4, 1, 150]), (35, .iconst 2, 1, []), (36, .iload_n 1, 1, []), (37, .imul, 1, []), (38, .invokevirtual 262, 3, [0, 102, 0, 1, 691]), (41, .ireturn, 1, [])]
def mMe101 : mM := (⟨"FirstLanding", "missions", "(I)I"⟩, prog_1_method_34_code, 2, (some .int), 1, 1, [690, 103, 688, 689], mCo101)
/-- FirstLanding$Embassy.afterTurns(II)I -/
def mCo102 : List mE := [(0, .iload_n 2, 1, []), (1, .ifCond .le 15, 3, [10]), (4, .iload_n 1, 1, []), (5, .iconst 1, 1, []), (6, .aload_n 0, 1, []), (7, .getfield 21, 3, [0, 1, 3, 0, 143]), (10, .ishl, 1, []), (11, .iconst 1, 1, []), (12, .isub, 1, []), (13, .if_icmp .ne 9, 3, [14]), (16, .aload_n 0, 1, []), (17, .iload_n 1, 1, []), (18, .invokevirtual 121, 3, [0, 80, 0, 0, 695]), (21, .ireturn, 1, []), (22, .iload_n 2, 1, []), (23, .iconst 2, 1, []), (24, .irem, 1, []), (25, .ifCond .ne 7, 3, [20]), (28, .iconst 1, 1, []), (29, .goto 4, 3, [21]), (32, .iconst 0, 1, []), (33, .istore_n 3, 1, []), (34, .bipush (-9), 2, []), (36, .istore 4, 2, []), (38, .iconst 0, 1, []), (39, .istore 5, 2, []), (41, .iload 5, 2, []), (43, .aload_n 0, 1, []), (44, .getfield 21, 3, [0, 1, 3, 0, 143]), (47, .if_icmp .ge 65, 3, [61]), (50, .iload_n 1, 1, []), (51, .iload 5, 2, []), (53, .invokestatic 81, 3, [0, 39, 0, 1, 421]), (56, .ifCond .ne 50, 3, [59]), (59, .aload_n 0, 1, []), (60, .iload_n 1, 1, []), (61, .iconst 1, 1, []), (62, .iload 5, 2, []), (64, .ishl, 1, []), (65, .ior, 1, []), (66, .iload_n 2, 1, []), (67, .iconst 1, 1, []), (68, .isub, 1, []), (69, .invokevirtual 124, 3, [0, 102, 0, 0, 696]), (72, .istore 6, 2, []), (74, .iload 4, 2, []), (76, .bipush (-9), 2, []), (78, .if_icmp .eq 24, 3, [57]), (81, .iload_n 3, 1, []), (82, .ifCond .eq 13, 3, [54]), (85, .iload 6, 2, []), (87, .iload 4, 2, []), (89, .if_icmp .le 17, 3, [59]), (92, .goto 10, 3, [57]), (95, .iload 6, 2, []), (97, .iload 4, 2, []), (99, .if_icmp .ge 7, 3, [59]), (102, .iload 6, 2, []), (104, .istore 4, 2, []), (106, .iinc 5 1, 3, []), (109, .goto (-68), 3, [26]), (112, .iload 4, 2, []), (114, .ireturn, 1, [])]
def mMe102 : mM := (⟨"FirstLanding$Embassy", "afterTurns", "(II)I"⟩, prog_2_method_32_code, 7, (some .int), 1, 2, [694, 104, 693, 48], mCo102)
/-- FirstLanding.mid(II)I -/
def mCo103 : List mE := [(0, .aload_n 0, 1, []), (1, .getfield 24, 3, [0, 0, 2, 0, 256]), (4, .iload_n 1, 1, []), (5, .invokevirtual 133, 3, [0, 35, 0, 1, 405]), (8, .ifCond .eq 13, 3, [10]), (11, .iload_n 2, 1, []), (12, .ifCond .lt 9, 3, [10]), (15, .iload_n 2, 1, []), (16, .bipush 12, 2, []), (18, .if_icmp .le 5, 3, [12]), (21, .iconst (-1), 1, []), (22, .ireturn, 1, []), (23, .aload_n 0, 1, []), (24, .getfield 24, 3, [0, 0, 2, 0, 256]), (27, .getfield 172, 3, [0, 1, 4, 1, 150]), (30, .iload_n 1, 1, []), (31, .invokestatic 219, 3, [0, 39, 0, 0, 583]), (34, .ifCond .ne 6, 3, [20]), (37, .bipush (-4), 2, []), (39, .ireturn, 1, []), (40, .aload_n 0, 1, []), (41, .iload_n 1, 1, []), (42, .iload_n 2, 1, []), (43, .bipush 9, 2, []), (45, .invokevirtual 265, 3, [0, 104, 0, 0, 701]), (48, .iconst 1, 1, []), (49, .ireturn, 1, [])]
def mMe103 : mM := (⟨"FirstLanding", "mid", "(II)I"⟩, prog_1_method_35_code, 3, (some .int), 1, 2, [700, 103, 698, 699], mCo103)
/-- FirstLanding.tellWeighed(III)V -/
def mCo104 : List mE := [(0, .aload_n 0, 1, []), (1, .getfield 24, 3, [0, 0, 2, 0, 256]), (4, .getfield 172, 3, [0, 1, 4, 1, 150]), (7, .iconst 1, 1, []), (8, .iload_n 1, 1, []), (9, .ishl, 1, []), (10, .iconst (-1), 1, []), (11, .ixor, 1, []), (12, .iand, 1, []), (13, .istore 4, 2, []), (15, .lconst 0, 1, []), (16, .lstore 5, 2, []), (18, .iconst 0, 1, []), (19, .istore 7, 2, []), (21, .iload 7, 2, []), (23, .bipush 64, 2, []), (25, .if_icmp .ge 77, 3, [56]), (28, .iload 7, 2, []), (30, .iload 4, 2, []), (32, .iconst (-1), 1, []), (33, .ixor, 1, []), (34, .iand, 1, []), (35, .ifCond .ne 61, 3, [54]), (38, .iload 7, 2, []), (40, .invokestatic 175, 3, [0, 58, 0, 0, 497]), (43, .istore 8, 2, []), (45, .iload 4, 2, []), (47, .invokestatic 175, 3, [0, 58, 0, 0, 497]), (50, .iload 8, 2, []), (52, .isub, 1, []), (53, .istore 9, 2, []), (55, .aload_n 0, 1, []), (56, .getfield 24, 3, [0, 0, 2, 0, 256]), (59, .iload_n 1, 1, []), (60, .iload 7, 2, []), (62, .invokevirtual 216, 3, [0, 37, 0, 1, 578]), (65, .iload_n 3, 1, []), (66, .invokestatic 291, 3, [0, 43, 0, 0, 705]), (69, .istore 10, 2, []), (71, .lload 5, 2, []), (73, .iload 10, 2, []), (75, .i2l, 1, []), (76, .bipush 12, 2, []), (78, .iload_n 2, 1, []), (79, .isub, 1, []), (80, .iload 8, 2, []), (82, .invokestatic 296, 3, [0, 105, 0, 0, 706]), (85, .lmul, 1, []), (86, .iload_n 2, 1, []), (87, .iload 9, 2, []), (89, .invokestatic 296, 3, [0, 105, 0, 0, 706]), (92, .lmul, 1, []), (93, .ladd, 1, []), (94, .lstore 5, 2, []), (96, .iinc 7 1, 3, []), (99, .goto (-78), 3, [14]), (102, .aload_n 0, 1, []), (103, .lload 5, 2, []), (105, .bipush 12, 2, []), (107, .iload 4, 2, []), (109, .invokestatic 175, 3, [0, 58, 0, 0, 497]), (112, .invokestatic 296, 3, [0, 105, 0, 0, 706]), (115, .invokevirtual 300, 3, [0, 106, 0, 0, 709]), (118, .return_, 1, [])]
def mMe104 : mM := (⟨"FirstLanding", "tellWeighed", "(III)V"⟩, prog_1_method_55_code, 11, none, 1, 3, [704, 103, 703, 49], mCo104)
/-- FirstLanding.power(II)J -/
def mCo105 : List mE := [(0, .lconst 1, 1, []), (1, .lstore_n 2, 1, []), (2, .iconst 0, 1, []), (3, .istore 4, 2, []), (5, .iload 4, 2, []), (7, .iload_n 1, 1, []), (8, .if_icmp .ge 14, 3, [14]), (11, .lload_n 2, 1, []), (12, .iload_n 0, 1, []), (13, .i2l, 1, []), (14, .lmul, 1, []), (15, .lstore_n 2, 1, []), (16, .iinc 4 1, 3, []), (19, .goto (-14), 3, [4]), (22, .lload_n 2, 1, []), (23, .lreturn, 1, [])]
def mMe105 : mM := (⟨"FirstLanding", "power", "(II)J"⟩, prog_1_method_56_code, 5, (some .long), 0, 2, [708, 103, 707], mCo105)
/-- FirstLanding.tellRatio(JJ)V -/
def mCo106 : List mE := [(0, .lload_n 3, 1, []), (1, .lstore 5, 2, []), (3, .lload_n 1, 1, []), (4, .lstore 7, 2, []), (6, .iconst 0, 1, []), (7, .istore 9, 2, []), (9, .iload 9, 2, []), (11, .bipush 100, 2, []), (13, .if_icmp .ge 31, 3, [23]), (16, .lload 7, 2, []), (18, .lconst 0, 1, []), (19, .lcmp, 1, []), (20, .ifCond .eq 24, 3, [23]), (23, .lload 5, 2, []), (25, .lload 7, 2, []), (27, .lrem, 1, []), (28, .lstore 10, 2, []), (30, .lload 7, 2, []), (32, .lstore 5, 2, []), (34, .lload 10, 2, []), (36, .lstore 7, 2, []), (38, .iinc 9 1, 3, []), (41, .goto (-32), 3, [6]), (44, .lload 5, 2, []), (46, .lconst 0, 1, []), (47, .lcmp, 1, []), (48, .ifCond .eq 19, 3, [37]), (51, .aload_n 0, 1, []), (52, .lload_n 1, 1, []), (53, .lload 5, 2, []), (55, .ldiv, 1, []), (56, .putfield 64, 3, [0, 0, 10, 0, 264]), (59, .aload_n 0, 1, []), (60, .lload_n 3, 1, []), (61, .lload 5, 2, []), (63, .ldiv, 1, []), (64, .putfield 68, 3, [0, 0, 11, 0, 265]), (67, .return_, 1, [])]
def mMe106 : mM := (⟨"FirstLanding", "tellRatio", "(JJ)V"⟩, prog_1_method_57_code, 12, none, 1, 2, [712, 103, 711, 50], mCo106)
/-- FirstLanding.odds(II)I -/
def mCo107 : List mE := [(0, .aload_n 0, 1, []), (1, .getfield 24, 3, [0, 0, 2, 0, 256]), (4, .iload_n 1, 1, []), (5, .invokevirtual 133, 3, [0, 35, 0, 1, 405]), (8, .ifCond .eq 13, 3, [10]), (11, .iload_n 2, 1, []), (12, .ifCond .lt 9, 3, [10]), (15, .iload_n 2, 1, []), (16, .bipush 12, 2, []), (18, .if_icmp .le 5, 3, [12]), (21, .iconst (-1), 1, []), (22, .ireturn, 1, []), (23, .aload_n 0, 1, []), (24, .getfield 24, 3, [0, 0, 2, 0, 256]), (27, .getfield 172, 3, [0, 1, 4, 1, 150]), (30, .iload_n 1, 1, []), (31, .invokestatic 219, 3, [0, 39, 0, 0, 583]), (34, .ifCond .ne 6, 3, [20]), (37, .bipush (-4), 2, []), (39, .ireturn, 1, []), (40, .aload_n 0, 1, []), (41, .iload_n 1, 1, []), (42, .iload_n 2, 1, []), (43, .iconst 1, 1, []), (44, .invokevirtual 265, 3, [0, 104, 0, 0, 701]), (47, .iconst 1, 1, []), (48, .ireturn, 1, [])]
def mMe107 : mM := (⟨"FirstLanding", "odds", "(II)I"⟩, prog_1_method_36_code, 3, (some .int), 1, 2, [716, 103, 714, 715], mCo107)
/-- FirstLanding.lots(II)I -/
def mCo108 : List mE := [(0, .iload_n 1, 1, []), (1, .iconst 1, 1, []), (2, .if_icmp .lt 23, 3, [14]), (5, .iload_n 1, 1, []), (6, .bipush 20, 2, []), (8, .if_icmp .gt 17, 3, [14]), (11, .iload_n 2, 1, []), (12, .iconst 1, 1, []), (13, .if_icmp .lt 12, 3, [14]), (16, .iload_n 2, 1, []), (17, .i2l, 1, []), (18, .ldc2_w 268, 3, [0, 2147483647, 0, 0, 721]), (21, .lcmp, 1, []), (22, .ifCond .lt 5, 3, [16]), (25, .iconst (-1), 1, []), (26, .ireturn, 1, []), (27, .aload_n 0, 1, []), (28, .getfield 24, 3, [0, 0, 2, 0, 256]), (31, .getfield 130, 3, [0, 1, 3, 1, 147]), (34, .ifCond .ne 6, 3, [22]), (37, .bipush (-4), 2, []), (39, .ireturn, 1, []), (40, .aload_n 0, 1, []), (41, .getfield 24, 3, [0, 0, 2, 0, 256]), (44, .getfield 166, 3, [0, 1, 5, 1, 152]), (47, .iload_n 1, 1, []), (48, .iadd, 1, []), (49, .bipush 40, 2, []), (51, .if_icmp .le 6, 3, [31]), (54, .bipush (-2), 2, []), (56, .ireturn, 1, []), (57, .iload_n 2, 1, []), (58, .i2l, 1, []), (59, .lstore_n 3, 1, []), (60, .iconst 0, 1, []), (61, .istore 5, 2, []), (63, .iload 5, 2, []), (65, .iload_n 1, 1, []), (66, .if_icmp .ge 28, 3, [52]), (69, .ldc2_w 270, 3, [0, 48271, 0, 0, 722]), (72, .lload_n 3, 1, []), (73, .lmul, 1, []), (74, .ldc2_w 268, 3, [0, 2147483647, 0, 0, 721]), (77, .lrem, 1, []), (78, .lstore_n 3, 1, []), (79, .aload_n 0, 1, []), (80, .getfield 24, 3, [0, 0, 2, 0, 256]), (83, .lload_n 3, 1, []), (84, .l2i, 1, []), (85, .invokevirtual 272, 3, [0, 109, 0, 1, 723]), (88, .iinc 5 1, 3, []), (91, .goto (-28), 3, [36]), (94, .aload_n 0, 1, []), (95, .getfield 24, 3, [0, 0, 2, 0, 256]), (98, .getfield 198, 3, [0, 1, 6, 1, 154]), (101, .invokestatic 201, 3, [0, 69, 0, 0, 543]), (104, .ireturn, 1, [])]
def mMe108 : mM := (⟨"FirstLanding", "lots", "(II)I"⟩, prog_1_method_37_code, 6, (some .int), 1, 2, [720, 103, 718, 719], mCo108)
/-- FirstLanding$Embassy.doByLot(I)V -/
def mCo109 : List mE := [(0, .aload_n 0, 1, []), (1, .getfield 21, 3, [0, 1, 3, 0, 143]), (4, .ifCond .ne 4, 3, [4]), (7, .return_, 1, []), (8, .iload_n 1, 1, []), (9, .aload_n 0, 1, []), (10, .getfield 21, 3, [0, 1, 3, 0, 143]), (13, .irem, 1, []), (14, .istore_n 2, 1, []), (15, .iload_n 1, 1, []), (16, .bipush 64, 2, []), (18, .idiv, 1, []), (19, .aload_n 0, 1, []), (20, .getfield 21, 3, [0, 1, 3, 0, 143]), (23, .irem, 1, []), (24, .istore_n 3, 1, []), (25, .iload_n 1, 1, []), (26, .bipush 8, 2, []), (28, .idiv, 1, []), (29, .iconst 4, 1, []), (30, .irem, 1, []), (31, .ifCond .ne 21, 3, [32]), (34, .aload_n 0, 1, []), (35, .iload_n 2, 1, []), (36, .iload_n 3, 1, []), (37, .invokevirtual 107, 3, [0, 64, 0, 0, 727]), (40, .ifCond .eq 12, 3, [32]), (43, .aload_n 0, 1, []), (44, .iload_n 2, 1, []), (45, .iload_n 3, 1, []), (46, .invokevirtual 110, 3, [0, 68, 0, 0, 728]), (49, .goto 8, 3, [35]), (52, .aload_n 0, 1, []), (53, .iload_n 2, 1, []), (54, .invokevirtual 114, 3, [0, 56, 0, 0, 729]), (57, .return_, 1, [])]
def mMe109 : mM := (⟨"FirstLanding$Embassy", "doByLot", "(I)V"⟩, prog_2_method_29_code, 4, none, 1, 1, [726, 104, 725, 51], mCo109)
/-- FirstLanding.asked()I -/
def mCo110 : List mE := [(0, .aload_n 0, 1, []), (1, .getfield 61, 3, [0, 0, 9, 0, 263]), (4, .ireturn, 1, [])]
def mMe110 : mM := (⟨"FirstLanding", "asked", "()I"⟩, prog_1_method_38_code, 1, (some .int), 1, 0, [733, 103, 731, 732], mCo110)
/-- FirstLanding.upper()J -/
def mCo111 : List mE := [(0, .aload_n 0, 1, []), (1, .getfield 64, 3, [0, 0, 10, 0, 264]), (4, .lreturn, 1, [])]
def mMe111 : mM := (⟨"FirstLanding", "upper", "()J"⟩, prog_1_method_39_code, 1, (some .long), 1, 0, [737, 103, 735, 736], mCo111)
/-- FirstLanding.lower()J -/
def mCo112 : List mE := [(0, .aload_n 0, 1, []), (1, .getfield 68, 3, [0, 0, 11, 0, 265]), (4, .lreturn, 1, [])]
def mMe112 : mM := (⟨"FirstLanding", "lower", "()J"⟩, prog_1_method_40_code, 1, (some .long), 1, 0, [741, 103, 739, 740], mCo112)
/-- FirstLanding.count(I)I -/
def mCo113 : List mE := [(0, .iload_n 1, 1, []), (1, .ifCond .lt 9, 3, [5]), (4, .iload_n 1, 1, []), (5, .bipush 9, 2, []), (7, .if_icmp .le 5, 3, [7]), (10, .iconst (-1), 1, []), (11, .ireturn, 1, []), (12, .aload_n 0, 1, []), (13, .iload_n 1, 1, []), (14, .invokevirtual 275, 3, [0, 114, 0, 0, 746]), (17, .ireturn, 1, [])]
def mMe113 : mM := (⟨"FirstLanding", "count", "(I)I"⟩, prog_1_method_41_code, 2, (some .int), 1, 1, [745, 103, 743, 744], mCo113)
/-- FirstLanding.howMany(I)I -/
def mCo114 : List mE := [(0, .iload_n 1, 1, []), (1, .tableswitch 122 0 8 #[51, 59, 67, 75, 86, 94, 103, 112, 117], 51, [39, 2, 6, 10, 14, 19, 23, 28, 33, 36]), (52, .aload_n 0, 1, []), (53, .getfield 24, 3, [0, 0, 2, 0, 256]), (56, .getfield 130, 3, [0, 1, 3, 1, 147]), (59, .ireturn, 1, []), (60, .aload_n 0, 1, []), (61, .getfield 24, 3, [0, 0, 2, 0, 256]), (64, .getfield 172, 3, [0, 1, 4, 1, 150]), (67, .ireturn, 1, []), (68, .aload_n 0, 1, []), (69, .getfield 24, 3, [0, 0, 2, 0, 256]), (72, .getfield 166, 3, [0, 1, 5, 1, 152]), (75, .ireturn, 1, []), (76, .aload_n 0, 1, []), (77, .getfield 24, 3, [0, 0, 2, 0, 256]), (80, .getfield 198, 3, [0, 1, 6, 1, 154]), (83, .invokestatic 201, 3, [0, 69, 0, 0, 543]), (86, .ireturn, 1, []), (87, .aload_n 0, 1, []), (88, .getfield 24, 3, [0, 0, 2, 0, 256]), (91, .invokevirtual 187, 3, [0, 62, 0, 1, 516]), (94, .ireturn, 1, []), (95, .aload_n 0, 1, []), (96, .getfield 24, 3, [0, 0, 2, 0, 256]), (99, .iconst 1, 1, []), (100, .invokevirtual 160, 3, [0, 53, 0, 1, 476]), (103, .ireturn, 1, []), (104, .aload_n 0, 1, []), (105, .getfield 24, 3, [0, 0, 2, 0, 256]), (108, .iconst 2, 1, []), (109, .invokevirtual 160, 3, [0, 53, 0, 1, 476]), (112, .ireturn, 1, []), (113, .aload_n 0, 1, []), (114, .invokevirtual 304, 3, [0, 115, 0, 0, 750]), (117, .ireturn, 1, []), (118, .aload_n 0, 1, []), (119, .invokevirtual 307, 3, [0, 116, 0, 0, 754]), (122, .ireturn, 1, []), (123, .aload_n 0, 1, []), (124, .invokevirtual 310, 3, [0, 117, 0, 0, 758]), (127, .ireturn, 1, [])]
def mMe114 : mM := (⟨"FirstLanding", "howMany", "(I)I"⟩, prog_1_method_58_code, 2, (some .int), 1, 1, [749, 103, 748, 52], mCo114)
/-- FirstLanding.rowsThere()I -/
def mCo115 : List mE := [(0, .iconst 0, 1, []), (1, .istore_n 1, 1, []), (2, .iconst 0, 1, []), (3, .istore_n 2, 1, []), (4, .iload_n 2, 1, []), (5, .bipush 6, 2, []), (7, .if_icmp .ge 25, 3, [17]), (10, .aload_n 0, 1, []), (11, .getfield 11, 3, [0, 0, 0, 0, 254]), (14, .iload_n 2, 1, []), (15, .aaload, 1, []), (16, .getfield 85, 3, [0, 5, 1, 1, 231]), (19, .iconst (-1), 1, []), (20, .if_icmp .eq 6, 3, [15]), (23, .iinc 1 1, 3, []), (26, .iinc 2 1, 3, []), (29, .goto (-25), 3, [4]), (32, .iload_n 1, 1, []), (33, .ireturn, 1, [])]
def mMe115 : mM := (⟨"FirstLanding", "rowsThere", "()I"⟩, prog_1_method_59_code, 3, (some .int), 1, 0, [753, 103, 752, 53], mCo115)
/-- FirstLanding.textsThere()I -/
def mCo116 : List mE := [(0, .iconst 0, 1, []), (1, .istore_n 1, 1, []), (2, .iconst 0, 1, []), (3, .istore_n 2, 1, []), (4, .iload_n 2, 1, []), (5, .iconst 4, 1, []), (6, .if_icmp .ge 25, 3, [17]), (9, .aload_n 0, 1, []), (10, .getfield 17, 3, [0, 0, 1, 0, 255]), (13, .iload_n 2, 1, []), (14, .aaload, 1, []), (15, .getfield 114, 3, [0, 6, 1, 1, 247]), (18, .iconst (-1), 1, []), (19, .if_icmp .eq 6, 3, [15]), (22, .iinc 1 1, 3, []), (25, .iinc 2 1, 3, []), (28, .goto (-24), 3, [4]), (31, .iload_n 1, 1, []), (32, .ireturn, 1, [])]
def mMe116 : mM := (⟨"FirstLanding", "textsThere", "()I"⟩, prog_1_method_60_code, 3, (some .int), 1, 0, [757, 103, 756, 54], mCo116)
/-- FirstLanding.embassiesKept()I -/
def mCo117 : List mE := [(0, .iconst 0, 1, []), (1, .istore_n 1, 1, []), (2, .iconst 0, 1, []), (3, .istore_n 2, 1, []), (4, .iload_n 2, 1, []), (5, .iconst 3, 1, []), (6, .if_icmp .ge 24, 3, [16]), (9, .aload_n 0, 1, []), (10, .getfield 28, 3, [0, 0, 3, 0, 257]), (13, .iload_n 2, 1, []), (14, .aaload, 1, []), (15, .getfield 130, 3, [0, 1, 3, 1, 147]), (18, .ifCond .eq 6, 3, [14]), (21, .iinc 1 1, 3, []), (24, .iinc 2 1, 3, []), (27, .goto (-23), 3, [4]), (30, .iload_n 1, 1, []), (31, .ireturn, 1, [])]
def mMe117 : mM := (⟨"FirstLanding", "embassiesKept", "()I"⟩, prog_1_method_61_code, 3, (some .int), 1, 0, [761, 103, 760, 55], mCo117)
/-- FirstLanding.finding()I -/
def mCo118 : List mE := [(0, .aload_n 0, 1, []), (1, .getfield 57, 3, [0, 0, 8, 0, 262]), (4, .ireturn, 1, [])]
def mMe118 : mM := (⟨"FirstLanding", "finding", "()I"⟩, prog_1_method_42_code, 1, (some .int), 1, 0, [765, 103, 763, 764], mCo118)
/-- FirstLanding.findings(I)I -/
def mCo119 : List mE := [(0, .iload_n 1, 1, []), (1, .iconst 1, 1, []), (2, .if_icmp .lt 8, 3, [6]), (5, .iload_n 1, 1, []), (6, .iconst 5, 1, []), (7, .if_icmp .le 5, 3, [8]), (10, .iconst (-1), 1, []), (11, .ireturn, 1, []), (12, .aload_n 0, 1, []), (13, .getfield 53, 3, [0, 0, 7, 0, 261]), (16, .iload_n 1, 1, []), (17, .iaload, 1, []), (18, .ireturn, 1, [])]
def mMe119 : mM := (⟨"FirstLanding", "findings", "(I)I"⟩, prog_1_method_43_code, 2, (some .int), 1, 1, [769, 103, 767, 768], mCo119)
/-- FirstLanding.digest()J -/
def mCo120 : List mE := [(0, .ldc2_w 278, 3, [0, 17, 0, 0, 774]), (3, .lstore_n 1, 1, []), (4, .iconst 0, 1, []), (5, .istore_n 3, 1, []), (6, .iload_n 3, 1, []), (7, .bipush 9, 2, []), (9, .if_icmp .gt 22, 3, [18]), (12, .ldc2_w 280, 3, [0, 31, 0, 0, 775]), (15, .lload_n 1, 1, []), (16, .lmul, 1, []), (17, .aload_n 0, 1, []), (18, .iload_n 3, 1, []), (19, .invokevirtual 275, 3, [0, 114, 0, 0, 746]), (22, .i2l, 1, []), (23, .ladd, 1, []), (24, .lstore_n 1, 1, []), (25, .iinc 3 1, 3, []), (28, .goto (-22), 3, [4]), (31, .aload_n 0, 1, []), (32, .getfield 24, 3, [0, 0, 2, 0, 256]), (35, .lload_n 1, 1, []), (36, .invokevirtual 282, 3, [0, 121, 0, 1, 776]), (39, .lstore_n 1, 1, []), (40, .iconst 0, 1, []), (41, .istore_n 3, 1, []), (42, .iload_n 3, 1, []), (43, .iconst 3, 1, []), (44, .if_icmp .ge 42, 3, [49]), (47, .ldc2_w 280, 3, [0, 31, 0, 0, 775]), (50, .lload_n 1, 1, []), (51, .lmul, 1, []), (52, .aload_n 0, 1, []), (53, .getfield 28, 3, [0, 0, 3, 0, 257]), (56, .iload_n 3, 1, []), (57, .aaload, 1, []), (58, .getfield 130, 3, [0, 1, 3, 1, 147]), (61, .ifCond .ne 7, 3, [39]), (64, .iconst (-1), 1, []), (65, .goto 12, 3, [44]), (68, .aload_n 0, 1, []), (69, .getfield 28, 3, [0, 0, 3, 0, 257]), (72, .iload_n 3, 1, []), (73, .aaload, 1, []), (74, .getfield 166, 3, [0, 1, 5, 1, 152]), (77, .i2l, 1, []), (78, .ladd, 1, []), (79, .lstore_n 1, 1, []), (80, .iinc 3 1, 3, []), (83, .goto (-41), 3, [25]), (86, .iconst 0, 1, []), (87, .istore_n 3, 1, []), (88, .iload_n 3, 1, []), (89, .bipush 6, 2, []), (91, .if_icmp .ge 20, 3, [63]), (94, .aload_n 0, 1, []), (95, .getfield 11, 3, [0, 0, 0, 0, 254]), (98, .iload_n 3, 1, []), (99, .aaload, 1, []), (100, .lload_n 1, 1, []), (101, .invokevirtual 286, 3, [0, 122, 0, 1, 782]), (104, .lstore_n 1, 1, []), (105, .iinc 3 1, 3, []), (108, .goto (-20), 3, [51]), (111, .iconst 0, 1, []), (112, .istore_n 3, 1, []), (113, .iload_n 3, 1, []), (114, .iconst 4, 1, []), (115, .if_icmp .ge 20, 3, [77]), (118, .aload_n 0, 1, []), (119, .getfield 17, 3, [0, 0, 1, 0, 255]), (122, .iload_n 3, 1, []), (123, .aaload, 1, []), (124, .lload_n 1, 1, []), (125, .invokevirtual 287, 3, [0, 123, 0, 1, 787]), (128, .lstore_n 1, 1, []), (129, .iinc 3 1, 3, []), (132, .goto (-19), 3, [65]), (135, .lload_n 1, 1, []), (136, .lreturn, 1, [])]
def mMe120 : mM := (⟨"FirstLanding", "digest", "()J"⟩, prog_1_method_44_code, 4, (some .long), 1, 0, [773, 103, 771, 772], mCo120)
/-- FirstLanding$Embassy.digestedAfter(J)J -/
def mCo121 : List mE := [(0, .lload_n 1, 1, []), (1, .lstore_n 3, 1, []), (2, .iconst 0, 1, []), (3, .istore 5, 2, []), (5, .iload 5, 2, []), (7, .aload_n 0, 1, []), (8, .getfield 21, 3, [0, 1, 3, 0, 143]), (11, .if_icmp .ge 74, 3, [45]), (14, .iconst 0, 1, []), (15, .istore 6, 2, []), (17, .iload 6, 2, []), (19, .iconst 4, 1, []), (20, .if_icmp .gt 25, 3, [25]), (23, .ldc2_w 127, 3, [0, 31, 0, 0, 780]), (26, .lload_n 3, 1, []), (27, .lmul, 1, []), (28, .aload_n 0, 1, []), (29, .iload 5, 2, []), (31, .iload 6, 2, []), (33, .invokevirtual 129, 3, [0, 36, 0, 0, 781]), (36, .i2l, 1, []), (37, .ladd, 1, []), (38, .lstore_n 3, 1, []), (39, .iinc 6 1, 3, []), (42, .goto (-25), 3, [10]), (45, .iconst 0, 1, []), (46, .istore 6, 2, []), (48, .iload 6, 2, []), (50, .aload_n 0, 1, []), (51, .getfield 21, 3, [0, 1, 3, 0, 143]), (54, .if_icmp .ge 25, 3, [43]), (57, .ldc2_w 127, 3, [0, 31, 0, 0, 780]), (60, .lload_n 3, 1, []), (61, .lmul, 1, []), (62, .aload_n 0, 1, []), (63, .iload 5, 2, []), (65, .iload 6, 2, []), (67, .invokevirtual 68, 3, [0, 40, 0, 0, 424]), (70, .i2l, 1, []), (71, .ladd, 1, []), (72, .lstore_n 3, 1, []), (73, .iinc 6 1, 3, []), (76, .goto (-28), 3, [27]), (79, .iinc 5 1, 3, []), (82, .goto (-77), 3, [4]), (85, .lload_n 3, 1, []), (86, .lreturn, 1, [])]
def mMe121 : mM := (⟨"FirstLanding$Embassy", "digestedAfter", "(J)J"⟩, prog_2_method_33_code, 7, (some .long), 1, 1, [779, 104, 778, 56], mCo121)
/-- FirstLanding$Row.digestedAfter(J)J -/
def mCo122 : List mE := [(0, .ldc2_w 25, 3, [0, 31, 0, 0, 786]), (3, .lload_n 1, 1, []), (4, .lmul, 1, []), (5, .aload_n 0, 1, []), (6, .getfield 15, 3, [0, 5, 1, 0, 229]), (9, .i2l, 1, []), (10, .ladd, 1, []), (11, .lstore_n 3, 1, []), (12, .iconst 0, 1, []), (13, .istore 5, 2, []), (15, .iload 5, 2, []), (17, .aload_n 0, 1, []), (18, .getfield 15, 3, [0, 5, 1, 0, 229]), (21, .if_icmp .ge 24, 3, [26]), (24, .ldc2_w 25, 3, [0, 31, 0, 0, 786]), (27, .lload_n 3, 1, []), (28, .lmul, 1, []), (29, .aload_n 0, 1, []), (30, .getfield 9, 3, [0, 5, 0, 0, 226]), (33, .iload 5, 2, []), (35, .iaload, 1, []), (36, .i2l, 1, []), (37, .ladd, 1, []), (38, .lstore_n 3, 1, []), (39, .iinc 5 1, 3, []), (42, .goto (-27), 3, [10]), (45, .lload_n 3, 1, []), (46, .lreturn, 1, [])]
def mMe122 : mM := (⟨"FirstLanding$Row", "digestedAfter", "(J)J"⟩, prog_6_method_5_code, 6, (some .long), 1, 1, [785, 108, 784, 57], mCo122)
/-- FirstLanding$Text.digestedAfter(J)J -/
def mCo123 : List mE := [(0, .ldc2_w 25, 3, [0, 31, 0, 0, 791]), (3, .lload_n 1, 1, []), (4, .lmul, 1, []), (5, .aload_n 0, 1, []), (6, .getfield 15, 3, [0, 6, 1, 0, 245]), (9, .i2l, 1, []), (10, .ladd, 1, []), (11, .lstore_n 3, 1, []), (12, .iconst 0, 1, []), (13, .istore 5, 2, []), (15, .iload 5, 2, []), (17, .aload_n 0, 1, []), (18, .getfield 15, 3, [0, 6, 1, 0, 245]), (21, .if_icmp .ge 24, 3, [26]), (24, .ldc2_w 25, 3, [0, 31, 0, 0, 791]), (27, .lload_n 3, 1, []), (28, .lmul, 1, []), (29, .aload_n 0, 1, []), (30, .getfield 9, 3, [0, 6, 0, 0, 242]), (33, .iload 5, 2, []), (35, .baload, 1, []), (36, .i2l, 1, []), (37, .ladd, 1, []), (38, .lstore_n 3, 1, []), (39, .iinc 5 1, 3, []), (42, .goto (-27), 3, [10]), (45, .lload_n 3, 1, []), (46, .lreturn, 1, [])]
def mMe123 : mM := (⟨"FirstLanding$Text", "digestedAfter", "(J)J"⟩, prog_7_method_3_code, 6, (some .long), 1, 1, [790, 109, 789, 58], mCo123)
/-- FirstLandingModel.<init>()V -/
def mCo124 : List mE := [(0, .aload_n 0, 1, []), (1, .invokespecial 1, 3, [0, 0, 1, 0, 797, 123, 124]), (4, .aload_n 0, 1, []), (5, .bipush 6, 2, []), (7, .newarray .int, 2, [0, 0, 0, 0, 170]), (9, .putfield 7, 3, [0, 7, 0, 0, 798]), (12, .aload_n 0, 1, []), (13, .sipush 240, 3, []), (16, .newarray .int, 2, [0, 0, 0, 0, 170]), (18, .putfield 13, 3, [0, 7, 1, 0, 799]), (21, .aload_n 0, 1, []), (22, .iconst 4, 1, []), (23, .newarray .int, 2, [0, 0, 0, 0, 170]), (25, .putfield 16, 3, [0, 7, 2, 0, 800]), (28, .aload_n 0, 1, []), (29, .sipush 240, 3, []), (32, .newarray .int, 2, [0, 0, 0, 0, 170]), (34, .putfield 19, 3, [0, 7, 3, 0, 801]), (37, .aload_n 0, 1, []), (38, .sipush 201, 3, []), (41, .newarray .int, 2, [0, 0, 0, 0, 170]), (43, .putfield 22, 3, [0, 7, 4, 0, 802]), (46, .aload_n 0, 1, []), (47, .sipush 201, 3, []), (50, .newarray .int, 2, [0, 0, 0, 0, 170]), (52, .putfield 25, 3, [0, 7, 5, 0, 803]), (55, .aload_n 0, 1, []), (56, .sipush 603, 3, []), (59, .newarray .int, 2, [0, 0, 0, 0, 170]), (61, .putfield 28, 3, [0, 7, 6, 0, 804]), (64, .aload_n 0, 1, []), (65, .iconst 3, 1, []), (66, .newarray .boolean, 2, [0, 0, 0, 0, 862]), (68, .putfield 31, 3, [0, 7, 7, 0, 805]), (71, .aload_n 0, 1, []), (72, .lconst 1, 1, []), (73, .putfield 35, 3, [0, 7, 10, 0, 808]), (76, .aload_n 0, 1, []), (77, .bipush 6, 2, []), (79, .newarray .int, 2, [0, 0, 0, 0, 170]), (81, .putfield 39, 3, [0, 7, 12, 0, 810]), (84, .aload_n 0, 1, []), (85, .sipush 1024, 3, []), (88, .newarray .int, 2, [0, 0, 0, 0, 170]), (90, .putfield 42, 3, [0, 7, 15, 0, 813]), (93, .aload_n 0, 1, []), (94, .bipush 64, 2, []), (96, .newarray .int, 2, [0, 0, 0, 0, 170]), (98, .putfield 45, 3, [0, 7, 16, 0, 814]), (101, .aload_n 0, 1, []), (102, .bipush 6, 2, []), (104, .newarray .int, 2, [0, 0, 0, 0, 170]), (106, .putfield 48, 3, [0, 7, 17, 0, 815]), (109, .aload_n 0, 1, []), (110, .iconst 5, 1, []), (111, .newarray .int, 2, [0, 0, 0, 0, 170]), (113, .putfield 51, 3, [0, 7, 18, 0, 816]), (116, .aload_n 0, 1, []), (117, .iconst 5, 1, []), (118, .newarray .int, 2, [0, 0, 0, 0, 170]), (120, .putfield 54, 3, [0, 7, 19, 0, 817]), (123, .aload_n 0, 1, []), (124, .iconst 5, 1, []), (125, .newarray .int, 2, [0, 0, 0, 0, 170]), (127, .putfield 57, 3, [0, 7, 20, 0, 818]), (130, .iconst 0, 1, []), (131, .istore_n 1, 1, []), (132, .iload_n 1, 1, []), (133, .bipush 6, 2, []), (135, .if_icmp .ge 16, 3, [77]), (138, .aload_n 0, 1, []), (139, .getfield 7, 3, [0, 7, 0, 0, 798]), (142, .iload_n 1, 1, []), (143, .iconst (-1), 1, []), (144, .iastore, 1, []), (145, .iinc 1 1, 3, []), (148, .goto (-16), 3, [67]), (151, .iconst 0, 1, []), (152, .istore_n 1, 1, []), (153, .iload_n 1, 1, []), (154, .iconst 4, 1, []), (155, .if_icmp .ge 16, 3, [89]), (158, .aload_n 0, 1, []), (159, .getfield 16, 3, [0, 7, 2, 0, 800]), (162, .iload_n 1, 1, []), (163, .iconst (-1), 1, []), (164, .iastore, 1, []), (165, .iinc 1 1, 3, []), (168, .goto (-15), 3, [79]), (171, .return_, 1, [])]
def mMe124 : mM := (⟨"FirstLandingModel", "<init>", "()V"⟩, prog_10_method_1_code, 2, none, 2, 0, [796, 110, 795], mCo124)
/-- FirstLandingModel.row(II)I -/
def mCo125 : List mE := [(0, .iload_n 1, 1, []), (1, .invokestatic 75, 3, [0, 126, 0, 0, 867]), (4, .ifCond .eq 9, 3, [6]), (7, .iload_n 2, 1, []), (8, .bipush 40, 2, []), (10, .if_icmp .le 5, 3, [8]), (13, .iconst (-1), 1, []), (14, .ireturn, 1, []), (15, .iload_n 2, 1, []), (16, .ifCond .ge 9, 3, [14]), (19, .aload_n 0, 1, []), (20, .iconst 5, 1, []), (21, .invokevirtual 79, 3, [0, 128, 0, 0, 874]), (24, .ireturn, 1, []), (25, .aload_n 0, 1, []), (26, .getfield 7, 3, [0, 7, 0, 0, 798]), (29, .iload_n 1, 1, []), (30, .iload_n 2, 1, []), (31, .iastore, 1, []), (32, .iconst 0, 1, []), (33, .istore_n 3, 1, []), (34, .iload_n 3, 1, []), (35, .bipush 40, 2, []), (37, .if_icmp .ge 21, 3, [35]), (40, .aload_n 0, 1, []), (41, .getfield 13, 3, [0, 7, 1, 0, 799]), (44, .bipush 40, 2, []), (46, .iload_n 1, 1, []), (47, .imul, 1, []), (48, .iload_n 3, 1, []), (49, .iadd, 1, []), (50, .iconst 0, 1, []), (51, .iastore, 1, []), (52, .iinc 3 1, 3, []), (55, .goto (-21), 3, [21]), (58, .iload_n 2, 1, []), (59, .ireturn, 1, [])]
def mMe125 : mM := (⟨"FirstLandingModel", "row", "(II)I"⟩, prog_10_method_11_code, 4, (some .int), 1, 2, [866, 110, 864, 865], mCo125)
/-- FirstLandingModel.isRow(I)Z -/
def mCo126 : List mE := [(0, .iload_n 0, 1, []), (1, .i2l, 1, []), (2, .lconst 0, 1, []), (3, .ldc2_w 67, 3, [0, 5, 0, 0, 870]), (6, .invokestatic 69, 3, [0, 127, 0, 0, 871]), (9, .ireturn, 1, [])]
def mMe126 : mM := (⟨"FirstLandingModel", "isRow", "(I)Z"⟩, prog_10_method_9_code, 1, (some .boolean), 0, 1, [869, 110, 868], mCo126)
/-- FirstLandingModel.in(JJJ)Z -/
def mCo127 : List mE := [(0, .lload_n 0, 1, []), (1, .lload_n 2, 1, []), (2, .lcmp, 1, []), (3, .ifCond .lt 14, 3, [10]), (6, .lload_n 0, 1, []), (7, .lload 4, 2, []), (9, .lcmp, 1, []), (10, .ifCond .gt 7, 3, [10]), (13, .iconst 1, 1, []), (14, .goto 4, 3, [11]), (17, .iconst 0, 1, []), (18, .ireturn, 1, [])]
def mMe127 : mM := (⟨"FirstLandingModel", "in", "(JJJ)Z"⟩, prog_10_method_3_code, 6, (some .boolean), 0, 3, [873, 110, 872], mCo127)
/-- FirstLandingModel.found(I)I -/
def mCo128 : List mE := [(0, .aload_n 0, 1, []), (1, .iload_n 1, 1, []), (2, .putfield 60, 3, [0, 7, 11, 0, 809]), (5, .aload_n 0, 1, []), (6, .getfield 39, 3, [0, 7, 12, 0, 810]), (9, .iload_n 1, 1, []), (10, .dup2, 1, []), (11, .iaload, 1, []), (12, .iconst 1, 1, []), (13, .iadd, 1, []), (14, .iastore, 1, []), (15, .bipush (-3), 2, []), (17, .ireturn, 1, [])]
def mMe128 : mM := (⟨"FirstLandingModel", "found", "(I)I"⟩, prog_10_method_6_code, 2, (some .int), 1, 1, [877, 110, 876, 59], mCo128)
/-- FirstLandingModel.lay(III)I -/
def mCo129 : List mE := [(0, .iload_n 1, 1, []), (1, .invokestatic 75, 3, [0, 126, 0, 0, 867]), (4, .ifCond .ne 5, 3, [5]), (7, .iconst (-1), 1, []), (8, .ireturn, 1, []), (9, .aload_n 0, 1, []), (10, .getfield 7, 3, [0, 7, 0, 0, 798]), (13, .iload_n 1, 1, []), (14, .iaload, 1, []), (15, .ifCond .ge 9, 3, [14]), (18, .aload_n 0, 1, []), (19, .iconst 1, 1, []), (20, .invokevirtual 79, 3, [0, 128, 0, 0, 874]), (23, .ireturn, 1, []), (24, .iload_n 2, 1, []), (25, .i2l, 1, []), (26, .lconst 0, 1, []), (27, .aload_n 0, 1, []), (28, .getfield 7, 3, [0, 7, 0, 0, 798]), (31, .iload_n 1, 1, []), (32, .iaload, 1, []), (33, .iconst 1, 1, []), (34, .isub, 1, []), (35, .i2l, 1, []), (36, .invokestatic 69, 3, [0, 127, 0, 0, 871]), (39, .ifCond .ne 9, 3, [30]), (42, .aload_n 0, 1, []), (43, .iconst 2, 1, []), (44, .invokevirtual 79, 3, [0, 128, 0, 0, 874]), (47, .ireturn, 1, []), (48, .aload_n 0, 1, []), (49, .getfield 13, 3, [0, 7, 1, 0, 799]), (52, .bipush 40, 2, []), (54, .iload_n 1, 1, []), (55, .imul, 1, []), (56, .iload_n 2, 1, []), (57, .iadd, 1, []), (58, .iaload, 1, []), (59, .istore 4, 2, []), (61, .aload_n 0, 1, []), (62, .getfield 13, 3, [0, 7, 1, 0, 799]), (65, .bipush 40, 2, []), (67, .iload_n 1, 1, []), (68, .imul, 1, []), (69, .iload_n 2, 1, []), (70, .iadd, 1, []), (71, .iload_n 3, 1, []), (72, .iastore, 1, []), (73, .aload_n 0, 1, []), (74, .iload 4, 2, []), (76, .invokevirtual 83, 3, [0, 130, 0, 0, 882]), (79, .ireturn, 1, [])]
def mMe129 : mM := (⟨"FirstLandingModel", "lay", "(III)I"⟩, prog_10_method_12_code, 5, (some .int), 1, 3, [881, 110, 879, 880], mCo129)
/-- FirstLandingModel.tell(I)I -/
def mCo130 : List mE := [(0, .aload_n 0, 1, []), (1, .iload_n 1, 1, []), (2, .putfield 64, 3, [0, 7, 8, 0, 806]), (5, .iconst 1, 1, []), (6, .ireturn, 1, [])]
def mMe130 : mM := (⟨"FirstLandingModel", "tell", "(I)I"⟩, prog_10_method_7_code, 2, (some .int), 1, 1, [885, 110, 884, 60], mCo130)
/-- FirstLandingModel.at(II)I -/
def mCo131 : List mE := [(0, .iload_n 1, 1, []), (1, .invokestatic 75, 3, [0, 126, 0, 0, 867]), (4, .ifCond .ne 5, 3, [5]), (7, .iconst (-1), 1, []), (8, .ireturn, 1, []), (9, .aload_n 0, 1, []), (10, .getfield 7, 3, [0, 7, 0, 0, 798]), (13, .iload_n 1, 1, []), (14, .iaload, 1, []), (15, .ifCond .ge 9, 3, [14]), (18, .aload_n 0, 1, []), (19, .iconst 1, 1, []), (20, .invokevirtual 79, 3, [0, 128, 0, 0, 874]), (23, .ireturn, 1, []), (24, .iload_n 2, 1, []), (25, .i2l, 1, []), (26, .lconst 0, 1, []), (27, .aload_n 0, 1, []), (28, .getfield 7, 3, [0, 7, 0, 0, 798]), (31, .iload_n 1, 1, []), (32, .iaload, 1, []), (33, .iconst 1, 1, []), (34, .isub, 1, []), (35, .i2l, 1, []), (36, .invokestatic 69, 3, [0, 127, 0, 0, 871]), (39, .ifCond .eq 21, 3, [37]), (42, .aload_n 0, 1, []), (43, .aload_n 0, 1, []), (44, .getfield 13, 3, [0, 7, 1, 0, 799]), (47, .bipush 40, 2, []), (49, .iload_n 1, 1, []), (50, .imul, 1, []), (51, .iload_n 2, 1, []), (52, .iadd, 1, []), (53, .iaload, 1, []), (54, .invokevirtual 83, 3, [0, 130, 0, 0, 882]), (57, .goto 8, 3, [40]), (60, .aload_n 0, 1, []), (61, .iconst 2, 1, []), (62, .invokevirtual 79, 3, [0, 128, 0, 0, 874]), (65, .ireturn, 1, [])]
def mMe131 : mM := (⟨"FirstLandingModel", "at", "(II)I"⟩, prog_10_method_13_code, 3, (some .int), 1, 2, [889, 110, 887, 888], mCo131)
/-- FirstLandingModel.tear(I)I -/
def mCo132 : List mE := [(0, .iload_n 1, 1, []), (1, .invokestatic 75, 3, [0, 126, 0, 0, 867]), (4, .ifCond .ne 5, 3, [5]), (7, .iconst (-1), 1, []), (8, .ireturn, 1, []), (9, .aload_n 0, 1, []), (10, .getfield 7, 3, [0, 7, 0, 0, 798]), (13, .iload_n 1, 1, []), (14, .iaload, 1, []), (15, .ifCond .ge 9, 3, [14]), (18, .aload_n 0, 1, []), (19, .iconst 1, 1, []), (20, .invokevirtual 79, 3, [0, 128, 0, 0, 874]), (23, .ireturn, 1, []), (24, .aload_n 0, 1, []), (25, .getfield 7, 3, [0, 7, 0, 0, 798]), (28, .iload_n 1, 1, []), (29, .iconst (-1), 1, []), (30, .iastore, 1, []), (31, .iconst 1, 1, []), (32, .ireturn, 1, [])]
def mMe132 : mM := (⟨"FirstLandingModel", "tear", "(I)I"⟩, prog_10_method_14_code, 2, (some .int), 1, 1, [893, 110, 891, 892], mCo132)
/-- FirstLandingModel.copy(IIIII)I -/
def mCo133 : List mE := [(0, .iload_n 1, 1, []), (1, .invokestatic 75, 3, [0, 126, 0, 0, 867]), (4, .ifCond .eq 10, 3, [6]), (7, .iload_n 3, 1, []), (8, .invokestatic 75, 3, [0, 126, 0, 0, 867]), (11, .ifCond .ne 5, 3, [8]), (14, .iconst (-1), 1, []), (15, .ireturn, 1, []), (16, .iload 5, 2, []), (18, .ifCond .ge 9, 3, [14]), (21, .aload_n 0, 1, []), (22, .iconst 5, 1, []), (23, .invokevirtual 79, 3, [0, 128, 0, 0, 874]), (26, .ireturn, 1, []), (27, .aload_n 0, 1, []), (28, .getfield 7, 3, [0, 7, 0, 0, 798]), (31, .iload_n 1, 1, []), (32, .iaload, 1, []), (33, .ifCond .lt 12, 3, [24]), (36, .aload_n 0, 1, []), (37, .getfield 7, 3, [0, 7, 0, 0, 798]), (40, .iload_n 3, 1, []), (41, .iaload, 1, []), (42, .ifCond .ge 9, 3, [28]), (45, .aload_n 0, 1, []), (46, .iconst 1, 1, []), (47, .invokevirtual 79, 3, [0, 128, 0, 0, 874]), (50, .ireturn, 1, []), (51, .iload_n 2, 1, []), (52, .ifCond .lt 43, 3, [56]), (55, .iload 4, 2, []), (57, .ifCond .lt 38, 3, [56]), (60, .iload_n 2, 1, []), (61, .i2l, 1, []), (62, .iload 5, 2, []), (64, .i2l, 1, []), (65, .ladd, 1, []), (66, .aload_n 0, 1, []), (67, .getfield 7, 3, [0, 7, 0, 0, 798]), (70, .iload_n 1, 1, []), (71, .iaload, 1, []), (72, .i2l, 1, []), (73, .lcmp, 1, []), (74, .ifCond .gt 21, 3, [56]), (77, .iload 4, 2, []), (79, .i2l, 1, []), (80, .iload 5, 2, []), (82, .i2l, 1, []), (83, .ladd, 1, []), (84, .aload_n 0, 1, []), (85, .getfield 7, 3, [0, 7, 0, 0, 798]), (88, .iload_n 3, 1, []), (89, .iaload, 1, []), (90, .i2l, 1, []), (91, .lcmp, 1, []), (92, .ifCond .le 9, 3, [60]), (95, .aload_n 0, 1, []), (96, .iconst 2, 1, []), (97, .invokevirtual 79, 3, [0, 128, 0, 0, 874]), (100, .ireturn, 1, []), (101, .iconst 0, 1, []), (102, .istore 6, 2, []), (104, .iload 6, 2, []), (106, .iload 5, 2, []), (108, .if_icmp .ge 58, 3, [98]), (111, .iload 4, 2, []), (113, .iload_n 2, 1, []), (114, .if_icmp .le 13, 3, [74]), (117, .iload 5, 2, []), (119, .iconst 1, 1, []), (120, .isub, 1, []), (121, .iload 6, 2, []), (123, .isub, 1, []), (124, .goto 5, 3, [75]), (127, .iload 6, 2, []), (129, .istore 7, 2, []), (131, .aload_n 0, 1, []), (132, .getfield 13, 3, [0, 7, 1, 0, 799]), (135, .bipush 40, 2, []), (137, .iload_n 3, 1, []), (138, .imul, 1, []), (139, .iload 4, 2, []), (141, .iadd, 1, []), (142, .iload 7, 2, []), (144, .iadd, 1, []), (145, .aload_n 0, 1, []), (146, .getfield 13, 3, [0, 7, 1, 0, 799]), (149, .bipush 40, 2, []), (151, .iload_n 1, 1, []), (152, .imul, 1, []), (153, .iload_n 2, 1, []), (154, .iadd, 1, []), (155, .iload 7, 2, []), (157, .iadd, 1, []), (158, .iaload, 1, []), (159, .iastore, 1, []), (160, .iinc 6 1, 3, []), (163, .goto (-59), 3, [62]), (166, .iconst 1, 1, []), (167, .ireturn, 1, [])]
def mMe133 : mM := (⟨"FirstLandingModel", "copy", "(IIIII)I"⟩, prog_10_method_15_code, 8, (some .int), 1, 5, [897, 110, 895, 896], mCo133)
/-- FirstLandingModel.mean(I)I -/
def mCo134 : List mE := [(0, .iload_n 1, 1, []), (1, .invokestatic 75, 3, [0, 126, 0, 0, 867]), (4, .ifCond .ne 5, 3, [5]), (7, .iconst (-1), 1, []), (8, .ireturn, 1, []), (9, .aload_n 0, 1, []), (10, .getfield 7, 3, [0, 7, 0, 0, 798]), (13, .iload_n 1, 1, []), (14, .iaload, 1, []), (15, .ifCond .ge 9, 3, [14]), (18, .aload_n 0, 1, []), (19, .iconst 1, 1, []), (20, .invokevirtual 79, 3, [0, 128, 0, 0, 874]), (23, .ireturn, 1, []), (24, .aload_n 0, 1, []), (25, .getfield 7, 3, [0, 7, 0, 0, 798]), (28, .iload_n 1, 1, []), (29, .iaload, 1, []), (30, .ifCond .ne 9, 3, [23]), (33, .aload_n 0, 1, []), (34, .iconst 4, 1, []), (35, .invokevirtual 79, 3, [0, 128, 0, 0, 874]), (38, .ireturn, 1, []), (39, .lconst 0, 1, []), (40, .lstore_n 2, 1, []), (41, .iconst 0, 1, []), (42, .istore 4, 2, []), (44, .iload 4, 2, []), (46, .aload_n 0, 1, []), (47, .getfield 7, 3, [0, 7, 0, 0, 798]), (50, .iload_n 1, 1, []), (51, .iaload, 1, []), (52, .if_icmp .ge 25, 3, [47]), (55, .lload_n 2, 1, []), (56, .aload_n 0, 1, []), (57, .getfield 13, 3, [0, 7, 1, 0, 799]), (60, .bipush 40, 2, []), (62, .iload_n 1, 1, []), (63, .imul, 1, []), (64, .iload 4, 2, []), (66, .iadd, 1, []), (67, .iaload, 1, []), (68, .i2l, 1, []), (69, .ladd, 1, []), (70, .lstore_n 2, 1, []), (71, .iinc 4 1, 3, []), (74, .goto (-30), 3, [27]), (77, .aload_n 0, 1, []), (78, .lload_n 2, 1, []), (79, .aload_n 0, 1, []), (80, .getfield 7, 3, [0, 7, 0, 0, 798]), (83, .iload_n 1, 1, []), (84, .iaload, 1, []), (85, .i2l, 1, []), (86, .ldiv, 1, []), (87, .l2i, 1, []), (88, .invokevirtual 83, 3, [0, 130, 0, 0, 882]), (91, .ireturn, 1, [])]
def mMe134 : mM := (⟨"FirstLandingModel", "mean", "(I)I"⟩, prog_10_method_16_code, 5, (some .int), 1, 1, [901, 110, 899, 900], mCo134)
/-- FirstLandingModel.text(II)I -/
def mCo135 : List mE := [(0, .iload_n 1, 1, []), (1, .invokestatic 86, 3, [0, 136, 0, 0, 906]), (4, .ifCond .eq 9, 3, [6]), (7, .iload_n 2, 1, []), (8, .bipush 60, 2, []), (10, .if_icmp .le 5, 3, [8]), (13, .iconst (-1), 1, []), (14, .ireturn, 1, []), (15, .iload_n 2, 1, []), (16, .ifCond .ge 9, 3, [14]), (19, .aload_n 0, 1, []), (20, .iconst 5, 1, []), (21, .invokevirtual 79, 3, [0, 128, 0, 0, 874]), (24, .ireturn, 1, []), (25, .aload_n 0, 1, []), (26, .getfield 16, 3, [0, 7, 2, 0, 800]), (29, .iload_n 1, 1, []), (30, .iload_n 2, 1, []), (31, .iastore, 1, []), (32, .iconst 0, 1, []), (33, .istore_n 3, 1, []), (34, .iload_n 3, 1, []), (35, .bipush 60, 2, []), (37, .if_icmp .ge 22, 3, [35]), (40, .aload_n 0, 1, []), (41, .getfield 19, 3, [0, 7, 3, 0, 801]), (44, .bipush 60, 2, []), (46, .iload_n 1, 1, []), (47, .imul, 1, []), (48, .iload_n 3, 1, []), (49, .iadd, 1, []), (50, .bipush 32, 2, []), (52, .iastore, 1, []), (53, .iinc 3 1, 3, []), (56, .goto (-22), 3, [21]), (59, .iload_n 2, 1, []), (60, .ireturn, 1, [])]
def mMe135 : mM := (⟨"FirstLandingModel", "text", "(II)I"⟩, prog_10_method_17_code, 4, (some .int), 1, 2, [905, 110, 903, 904], mCo135)
/-- FirstLandingModel.isText(I)Z -/
def mCo136 : List mE := [(0, .iload_n 0, 1, []), (1, .i2l, 1, []), (2, .lconst 0, 1, []), (3, .ldc2_w 73, 3, [0, 3, 0, 0, 909]), (6, .invokestatic 69, 3, [0, 127, 0, 0, 871]), (9, .ireturn, 1, [])]
def mMe136 : mM := (⟨"FirstLandingModel", "isText", "(I)Z"⟩, prog_10_method_10_code, 1, (some .boolean), 0, 1, [908, 110, 907], mCo136)
/-- FirstLandingModel.put(III)I -/
def mCo137 : List mE := [(0, .iload_n 1, 1, []), (1, .invokestatic 86, 3, [0, 136, 0, 0, 906]), (4, .ifCond .ne 5, 3, [5]), (7, .iconst (-1), 1, []), (8, .ireturn, 1, []), (9, .aload_n 0, 1, []), (10, .getfield 16, 3, [0, 7, 2, 0, 800]), (13, .iload_n 1, 1, []), (14, .iaload, 1, []), (15, .ifCond .ge 9, 3, [14]), (18, .aload_n 0, 1, []), (19, .iconst 1, 1, []), (20, .invokevirtual 79, 3, [0, 128, 0, 0, 874]), (23, .ireturn, 1, []), (24, .iload_n 2, 1, []), (25, .i2l, 1, []), (26, .lconst 0, 1, []), (27, .aload_n 0, 1, []), (28, .getfield 16, 3, [0, 7, 2, 0, 800]), (31, .iload_n 1, 1, []), (32, .iaload, 1, []), (33, .iconst 1, 1, []), (34, .isub, 1, []), (35, .i2l, 1, []), (36, .invokestatic 69, 3, [0, 127, 0, 0, 871]), (39, .ifCond .ne 9, 3, [30]), (42, .aload_n 0, 1, []), (43, .iconst 2, 1, []), (44, .invokevirtual 79, 3, [0, 128, 0, 0, 874]), (47, .ireturn, 1, []), (48, .aload_n 0, 1, []), (49, .getfield 19, 3, [0, 7, 3, 0, 801]), (52, .bipush 60, 2, []), (54, .iload_n 1, 1, []), (55, .imul, 1, []), (56, .iload_n 2, 1, []), (57, .iadd, 1, []), (58, .iaload, 1, []), (59, .istore 4, 2, []), (61, .aload_n 0, 1, []), (62, .getfield 19, 3, [0, 7, 3, 0, 801]), (65, .bipush 60, 2, []), (67, .iload_n 1, 1, []), (68, .imul, 1, []), (69, .iload_n 2, 1, []), (70, .iadd, 1, []), (71, .iload_n 3, 1, []), (72, .i2b, 1, []), (73, .iastore, 1, []), (74, .iload 4, 2, []), (76, .sipush 1000, 3, []), (79, .iadd, 1, []), (80, .ireturn, 1, [])]
def mMe137 : mM := (⟨"FirstLandingModel", "put", "(III)I"⟩, prog_10_method_18_code, 5, (some .int), 1, 3, [913, 110, 911, 912], mCo137)
/-- FirstLandingModel.fault(I)I -/
def mCo138 : List mE := [(0, .iload_n 1, 1, []), (1, .invokestatic 86, 3, [0, 136, 0, 0, 906]), (4, .ifCond .ne 5, 3, [5]), (7, .iconst (-1), 1, []), (8, .ireturn, 1, []), (9, .aload_n 0, 1, []), (10, .getfield 16, 3, [0, 7, 2, 0, 800]), (13, .iload_n 1, 1, []), (14, .iaload, 1, []), (15, .ifCond .ge 11, 3, [14]), (18, .aload_n 0, 1, []), (19, .iconst 1, 1, []), (20, .invokevirtual 79, 3, [0, 128, 0, 0, 874]), (23, .goto 8, 3, [17]), (26, .aload_n 0, 1, []), (27, .iload_n 1, 1, []), (28, .invokevirtual 114, 3, [0, 139, 0, 0, 918]), (31, .ireturn, 1, [])]
def mMe138 : mM := (⟨"FirstLandingModel", "fault", "(I)I"⟩, prog_10_method_24_code, 2, (some .int), 1, 1, [917, 110, 915, 916], mCo138)
/-- FirstLandingModel.faultOf(I)I -/
def mCo139 : List mE := [(0, .iconst 0, 1, []), (1, .istore_n 2, 1, []), (2, .iload_n 2, 1, []), (3, .sipush 201, 3, []), (6, .if_icmp .ge 16, 3, [12]), (9, .aload_n 0, 1, []), (10, .getfield 25, 3, [0, 7, 5, 0, 803]), (13, .iload_n 2, 1, []), (14, .iconst 0, 1, []), (15, .iastore, 1, []), (16, .iinc 2 1, 3, []), (19, .goto (-17), 3, [2]), (22, .aload_n 0, 1, []), (23, .iconst 0, 1, []), (24, .putfield 89, 3, [0, 7, 13, 0, 811]), (27, .aload_n 0, 1, []), (28, .iload_n 1, 1, []), (29, .invokevirtual 102, 3, [0, 140, 0, 0, 922]), (32, .aload_n 0, 1, []), (33, .iload_n 1, 1, []), (34, .invokevirtual 92, 3, [0, 141, 0, 0, 926]), (37, .bipush 110, 2, []), (39, .if_icmp .eq 8, 3, [26]), (42, .aload_n 0, 1, []), (43, .getfield 89, 3, [0, 7, 13, 0, 811]), (46, .ireturn, 1, []), (47, .aload_n 0, 1, []), (48, .dup, 1, []), (49, .getfield 89, 3, [0, 7, 13, 0, 811]), (52, .iconst 1, 1, []), (53, .iadd, 1, []), (54, .putfield 89, 3, [0, 7, 13, 0, 811]), (57, .aload_n 0, 1, []), (58, .iload_n 1, 1, []), (59, .invokevirtual 92, 3, [0, 141, 0, 0, 926]), (62, .i2l, 1, []), (63, .ldc2_w 106, 3, [0, 50, 0, 0, 930]), (66, .ldc2_w 108, 3, [0, 54, 0, 0, 931]), (69, .invokestatic 69, 3, [0, 127, 0, 0, 871]), (72, .ifCond .ne 8, 3, [43]), (75, .aload_n 0, 1, []), (76, .getfield 89, 3, [0, 7, 13, 0, 811]), (79, .ireturn, 1, []), (80, .aload_n 0, 1, []), (81, .getfield 25, 3, [0, 7, 5, 0, 803]), (84, .iconst 0, 1, []), (85, .aload_n 0, 1, []), (86, .iload_n 1, 1, []), (87, .invokevirtual 92, 3, [0, 141, 0, 0, 926]), (90, .bipush 48, 2, []), (92, .isub, 1, []), (93, .iastore, 1, []), (94, .aload_n 0, 1, []), (95, .dup, 1, []), (96, .getfield 89, 3, [0, 7, 13, 0, 811]), (99, .iconst 1, 1, []), (100, .iadd, 1, []), (101, .putfield 89, 3, [0, 7, 13, 0, 811]), (104, .iconst 0, 1, []), (105, .istore_n 2, 1, []), (106, .iload_n 2, 1, []), (107, .aload_n 0, 1, []), (108, .getfield 25, 3, [0, 7, 5, 0, 803]), (111, .iconst 0, 1, []), (112, .iaload, 1, []), (113, .if_icmp .ge 28, 3, [79]), (116, .aload_n 0, 1, []), (117, .iload_n 1, 1, []), (118, .invokevirtual 102, 3, [0, 140, 0, 0, 922]), (121, .aload_n 0, 1, []), (122, .iload_n 1, 1, []), (123, .iload_n 2, 1, []), (124, .invokevirtual 110, 3, [0, 142, 0, 0, 932]), (127, .ifCond .ne 8, 3, [77]), (130, .aload_n 0, 1, []), (131, .getfield 89, 3, [0, 7, 13, 0, 811]), (134, .ireturn, 1, []), (135, .iinc 2 1, 3, []), (138, .goto (-32), 3, [60]), (141, .aload_n 0, 1, []), (142, .iload_n 1, 1, []), (143, .invokevirtual 102, 3, [0, 140, 0, 0, 922]), (146, .aload_n 0, 1, []), (147, .getfield 89, 3, [0, 7, 13, 0, 811]), (150, .aload_n 0, 1, []), (151, .getfield 16, 3, [0, 7, 2, 0, 800]), (154, .iload_n 1, 1, []), (155, .iaload, 1, []), (156, .if_icmp .ge 10, 3, [92]), (159, .aload_n 0, 1, []), (160, .getfield 89, 3, [0, 7, 13, 0, 811]), (163, .goto 5, 3, [93]), (166, .bipush (-9), 2, []), (168, .ireturn, 1, [])]
def mMe139 : mM := (⟨"FirstLandingModel", "faultOf", "(I)I"⟩, prog_10_method_23_code, 3, (some .int), 1, 1, [921, 110, 920, 61], mCo139)
/-- FirstLandingModel.blanks(I)V -/
def mCo140 : List mE := [(0, .aload_n 0, 1, []), (1, .iload_n 1, 1, []), (2, .invokevirtual 92, 3, [0, 141, 0, 0, 926]), (5, .bipush 32, 2, []), (7, .if_icmp .ne 16, 3, [12]), (10, .aload_n 0, 1, []), (11, .dup, 1, []), (12, .getfield 89, 3, [0, 7, 13, 0, 811]), (15, .iconst 1, 1, []), (16, .iadd, 1, []), (17, .putfield 89, 3, [0, 7, 13, 0, 811]), (20, .goto (-20), 3, [0]), (23, .return_, 1, [])]
def mMe140 : mM := (⟨"FirstLandingModel", "blanks", "(I)V"⟩, prog_10_method_20_code, 2, none, 1, 1, [925, 110, 924, 62], mCo140)
/-- FirstLandingModel.here(I)I -/
def mCo141 : List mE := [(0, .aload_n 0, 1, []), (1, .getfield 89, 3, [0, 7, 13, 0, 811]), (4, .aload_n 0, 1, []), (5, .getfield 16, 3, [0, 7, 2, 0, 800]), (8, .iload_n 1, 1, []), (9, .iaload, 1, []), (10, .if_icmp .ge 20, 3, [17]), (13, .aload_n 0, 1, []), (14, .getfield 19, 3, [0, 7, 3, 0, 801]), (17, .bipush 60, 2, []), (19, .iload_n 1, 1, []), (20, .imul, 1, []), (21, .aload_n 0, 1, []), (22, .getfield 89, 3, [0, 7, 13, 0, 811]), (25, .iadd, 1, []), (26, .iaload, 1, []), (27, .goto 6, 3, [18]), (30, .sipush (-1000), 3, []), (33, .ireturn, 1, [])]
def mMe141 : mM := (⟨"FirstLandingModel", "here", "(I)I"⟩, prog_10_method_19_code, 2, (some .int), 1, 1, [929, 110, 928, 63], mCo141)
/-- FirstLandingModel.isPersonRead(II)Z -/
def mCo142 : List mE := [(0, .aload_n 0, 1, []), (1, .iload_n 1, 1, []), (2, .invokevirtual 92, 3, [0, 141, 0, 0, 926]), (5, .invokestatic 95, 3, [0, 143, 0, 0, 936]), (8, .istore_n 3, 1, []), (9, .iload_n 3, 1, []), (10, .ifCond .ge 5, 3, [9]), (13, .iconst 0, 1, []), (14, .ireturn, 1, []), (15, .aload_n 0, 1, []), (16, .getfield 25, 3, [0, 7, 5, 0, 803]), (19, .iconst 1, 1, []), (20, .iload_n 2, 1, []), (21, .iadd, 1, []), (22, .iload_n 3, 1, []), (23, .iastore, 1, []), (24, .aload_n 0, 1, []), (25, .dup, 1, []), (26, .getfield 89, 3, [0, 7, 13, 0, 811]), (29, .iconst 1, 1, []), (30, .iadd, 1, []), (31, .putfield 89, 3, [0, 7, 13, 0, 811]), (34, .iconst 0, 1, []), (35, .istore 4, 2, []), (37, .iload 4, 2, []), (39, .aload_n 0, 1, []), (40, .getfield 25, 3, [0, 7, 5, 0, 803]), (43, .iconst 0, 1, []), (44, .iaload, 1, []), (45, .if_icmp .ge 62, 3, [63]), (48, .aload_n 0, 1, []), (49, .iload_n 1, 1, []), (50, .invokevirtual 92, 3, [0, 141, 0, 0, 926]), (53, .i2l, 1, []), (54, .ldc2_w 98, 3, [0, 48, 0, 0, 939]), (57, .ldc2_w 100, 3, [0, 57, 0, 0, 940]), (60, .invokestatic 69, 3, [0, 127, 0, 0, 871]), (63, .ifCond .ne 5, 3, [40]), (66, .iconst 0, 1, []), (67, .ireturn, 1, []), (68, .aload_n 0, 1, []), (69, .getfield 25, 3, [0, 7, 5, 0, 803]), (72, .bipush 7, 2, []), (74, .bipush 6, 2, []), (76, .iload_n 2, 1, []), (77, .imul, 1, []), (78, .iadd, 1, []), (79, .iload 4, 2, []), (81, .iadd, 1, []), (82, .aload_n 0, 1, []), (83, .iload_n 1, 1, []), (84, .invokevirtual 92, 3, [0, 141, 0, 0, 926]), (87, .bipush 48, 2, []), (89, .isub, 1, []), (90, .iastore, 1, []), (91, .aload_n 0, 1, []), (92, .dup, 1, []), (93, .getfield 89, 3, [0, 7, 13, 0, 811]), (96, .iconst 1, 1, []), (97, .iadd, 1, []), (98, .putfield 89, 3, [0, 7, 13, 0, 811]), (101, .iinc 4 1, 3, []), (104, .goto (-67), 3, [24]), (107, .iconst 1, 1, []), (108, .ireturn, 1, [])]
def mMe142 : mM := (⟨"FirstLandingModel", "isPersonRead", "(II)Z"⟩, prog_10_method_22_code, 5, (some .boolean), 1, 2, [935, 110, 934, 64], mCo142)
/-- FirstLandingModel.kindOf(I)I -/
def mCo143 : List mE := [(0, .iload_n 0, 1, []), (1, .bipush 103, 2, []), (3, .if_icmp .ne 7, 3, [5]), (6, .iconst 0, 1, []), (7, .goto 54, 3, [31]), (10, .iload_n 0, 1, []), (11, .bipush 101, 2, []), (13, .if_icmp .ne 7, 3, [10]), (16, .iconst 1, 1, []), (17, .goto 44, 3, [31]), (20, .iload_n 0, 1, []), (21, .bipush 115, 2, []), (23, .if_icmp .ne 7, 3, [15]), (26, .iconst 2, 1, []), (27, .goto 34, 3, [31]), (30, .iload_n 0, 1, []), (31, .bipush 118, 2, []), (33, .if_icmp .ne 7, 3, [20]), (36, .iconst 3, 1, []), (37, .goto 24, 3, [31]), (40, .iload_n 0, 1, []), (41, .bipush 99, 2, []), (43, .if_icmp .ne 7, 3, [25]), (46, .iconst 4, 1, []), (47, .goto 14, 3, [31]), (50, .iload_n 0, 1, []), (51, .bipush 107, 2, []), (53, .if_icmp .ne 7, 3, [30]), (56, .iconst 5, 1, []), (57, .goto 4, 3, [31]), (60, .iconst (-1), 1, []), (61, .ireturn, 1, [])]
def mMe143 : mM := (⟨"FirstLandingModel", "kindOf", "(I)I"⟩, prog_10_method_21_code, 1, (some .int), 0, 1, [938, 110, 937], mCo143)
/-- FirstLandingModel.embassy(I)I -/
def mCo144 : List mE := [(0, .iload_n 1, 1, []), (1, .invokestatic 86, 3, [0, 136, 0, 0, 906]), (4, .ifCond .ne 5, 3, [5]), (7, .iconst (-1), 1, []), (8, .ireturn, 1, []), (9, .aload_n 0, 1, []), (10, .getfield 16, 3, [0, 7, 2, 0, 800]), (13, .iload_n 1, 1, []), (14, .iaload, 1, []), (15, .ifCond .ge 9, 3, [14]), (18, .aload_n 0, 1, []), (19, .iconst 1, 1, []), (20, .invokevirtual 79, 3, [0, 128, 0, 0, 874]), (23, .ireturn, 1, []), (24, .aload_n 0, 1, []), (25, .iload_n 1, 1, []), (26, .invokevirtual 114, 3, [0, 139, 0, 0, 918]), (29, .bipush (-9), 2, []), (31, .if_icmp .eq 6, 3, [21]), (34, .bipush (-4), 2, []), (36, .ireturn, 1, []), (37, .aload_n 0, 1, []), (38, .getfield 25, 3, [0, 7, 5, 0, 803]), (41, .iconst 0, 1, []), (42, .aload_n 0, 1, []), (43, .getfield 22, 3, [0, 7, 4, 0, 802]), (46, .iconst 0, 1, []), (47, .invokestatic 117, 3, [0, 145, 0, 0, 945]), (50, .iconst 0, 1, []), (51, .istore_n 2, 1, []), (52, .iload_n 2, 1, []), (53, .iconst 3, 1, []), (54, .if_icmp .ge 16, 3, [40]), (57, .aload_n 0, 1, []), (58, .getfield 31, 3, [0, 7, 7, 0, 805]), (61, .iload_n 2, 1, []), (62, .iconst 0, 1, []), (63, .bastore, 1, []), (64, .iinc 2 1, 3, []), (67, .goto (-15), 3, [30]), (70, .aload_n 0, 1, []), (71, .getfield 22, 3, [0, 7, 4, 0, 802]), (74, .iconst 0, 1, []), (75, .iaload, 1, []), (76, .ireturn, 1, [])]
def mMe144 : mM := (⟨"FirstLandingModel", "embassy", "(I)I"⟩, prog_10_method_26_code, 3, (some .int), 1, 1, [944, 110, 942, 943], mCo144)
/-- FirstLandingModel.copies([II[II)V -/
def mCo145 : List mE := [(0, .iconst 0, 1, []), (1, .istore 4, 2, []), (3, .iload 4, 2, []), (5, .sipush 201, 3, []), (8, .if_icmp .ge 21, 3, [17]), (11, .aload_n 2, 1, []), (12, .iload_n 3, 1, []), (13, .iload 4, 2, []), (15, .iadd, 1, []), (16, .aload_n 0, 1, []), (17, .iload_n 1, 1, []), (18, .iload 4, 2, []), (20, .iadd, 1, []), (21, .iaload, 1, []), (22, .iastore, 1, []), (23, .iinc 4 1, 3, []), (26, .goto (-23), 3, [2]), (29, .return_, 1, [])]
def mMe145 : mM := (⟨"FirstLandingModel", "copies", "([II[II)V"⟩, prog_10_method_25_code, 5, none, 0, 4, [947, 110, 946], mCo145)
/-- FirstLandingModel.person(II)I -/
def mCo146 : List mE := [(0, .aload_n 0, 1, []), (1, .iload_n 1, 1, []), (2, .invokevirtual 155, 3, [0, 147, 0, 0, 952]), (5, .ifCond .eq 28, 3, [17]), (8, .iload_n 2, 1, []), (9, .i2l, 1, []), (10, .lconst 0, 1, []), (11, .ldc2_w 158, 3, [0, 4, 0, 0, 956]), (14, .invokestatic 69, 3, [0, 127, 0, 0, 871]), (17, .ifCond .eq 16, 3, [17]), (20, .aload_n 0, 1, []), (21, .aload_n 0, 1, []), (22, .iload_n 1, 1, []), (23, .iload_n 2, 1, []), (24, .invokevirtual 160, 3, [0, 148, 0, 0, 957]), (27, .invokevirtual 83, 3, [0, 130, 0, 0, 882]), (30, .goto 4, 3, [18]), (33, .iconst (-1), 1, []), (34, .ireturn, 1, [])]
def mMe146 : mM := (⟨"FirstLandingModel", "person", "(II)I"⟩, prog_10_method_40_code, 3, (some .int), 1, 2, [951, 110, 949, 950], mCo146)
/-- FirstLandingModel.isPerson(I)Z -/
def mCo147 : List mE := [(0, .iload_n 1, 1, []), (1, .i2l, 1, []), (2, .lconst 0, 1, []), (3, .aload_n 0, 1, []), (4, .getfield 22, 3, [0, 7, 4, 0, 802]), (7, .iconst 0, 1, []), (8, .iaload, 1, []), (9, .iconst 1, 1, []), (10, .isub, 1, []), (11, .i2l, 1, []), (12, .invokestatic 69, 3, [0, 127, 0, 0, 871]), (15, .ireturn, 1, [])]
def mMe147 : mM := (⟨"FirstLandingModel", "isPerson", "(I)Z"⟩, prog_10_method_27_code, 2, (some .boolean), 1, 1, [955, 110, 954, 65], mCo147)
/-- FirstLandingModel.told(II)I -/
def mCo148 : List mE := [(0, .iload_n 2, 1, []), (1, .tableswitch 79 0 3 #[31, 40, 60, 73], 31, [32, 2, 9, 20, 28]), (32, .aload_n 0, 1, []), (33, .getfield 22, 3, [0, 7, 4, 0, 802]), (36, .iconst 1, 1, []), (37, .iload_n 1, 1, []), (38, .iadd, 1, []), (39, .iaload, 1, []), (40, .ireturn, 1, []), (41, .aload_n 0, 1, []), (42, .getfield 22, 3, [0, 7, 4, 0, 802]), (45, .bipush 43, 2, []), (47, .iaload, 1, []), (48, .iload_n 1, 1, []), (49, .invokestatic 122, 3, [0, 149, 0, 0, 961]), (52, .ifCond .eq 7, 3, [18]), (55, .iconst 1, 1, []), (56, .goto 4, 3, [19]), (59, .iconst 0, 1, []), (60, .ireturn, 1, []), (61, .aload_n 0, 1, []), (62, .iload_n 1, 1, []), (63, .aload_n 0, 1, []), (64, .getfield 22, 3, [0, 7, 4, 0, 802]), (67, .bipush 43, 2, []), (69, .iaload, 1, []), (70, .invokevirtual 136, 3, [0, 150, 0, 0, 964]), (73, .ireturn, 1, []), (74, .aload_n 0, 1, []), (75, .iload_n 1, 1, []), (76, .invokevirtual 149, 3, [0, 154, 0, 0, 980]), (79, .ireturn, 1, []), (80, .aload_n 0, 1, []), (81, .iload_n 1, 1, []), (82, .invokevirtual 152, 3, [0, 155, 0, 0, 984]), (85, .ireturn, 1, [])]
def mMe148 : mM := (⟨"FirstLandingModel", "told", "(II)I"⟩, prog_10_method_39_code, 3, (some .int), 1, 2, [960, 110, 959, 66], mCo148)
/-- FirstLandingModel.has(II)Z -/
def mCo149 : List mE := [(0, .iload_n 0, 1, []), (1, .iload_n 1, 1, []), (2, .ishr, 1, []), (3, .iconst 1, 1, []), (4, .iand, 1, []), (5, .iconst 1, 1, []), (6, .if_icmp .ne 7, 3, [9]), (9, .iconst 1, 1, []), (10, .goto 4, 3, [10]), (13, .iconst 0, 1, []), (14, .ireturn, 1, [])]
def mMe149 : mM := (⟨"FirstLandingModel", "has", "(II)Z"⟩, prog_10_method_4_code, 2, (some .boolean), 0, 2, [963, 110, 962], mCo149)
/-- FirstLandingModel.seem(II)I -/
def mCo150 : List mE := [(0, .aload_n 0, 1, []), (1, .iload_n 1, 1, []), (2, .aload_n 0, 1, []), (3, .getfield 22, 3, [0, 7, 4, 0, 802]), (6, .iconst 1, 1, []), (7, .iload_n 1, 1, []), (8, .iadd, 1, []), (9, .iaload, 1, []), (10, .iload_n 2, 1, []), (11, .invokevirtual 132, 3, [0, 151, 0, 0, 968]), (14, .ireturn, 1, [])]
def mMe150 : mM := (⟨"FirstLandingModel", "seem", "(II)I"⟩, prog_10_method_32_code, 3, (some .int), 1, 2, [967, 110, 966, 67], mCo150)
/-- FirstLandingModel.seemsAs(III)I -/
def mCo151 : List mE := [(0, .iload_n 3, 1, []), (1, .iconst 1, 1, []), (2, .iload_n 1, 1, []), (3, .ishl, 1, []), (4, .iconst (-1), 1, []), (5, .ixor, 1, []), (6, .iand, 1, []), (7, .istore 4, 2, []), (9, .iconst 0, 1, []), (10, .istore 5, 2, []), (12, .iconst 0, 1, []), (13, .istore 6, 2, []), (15, .iconst 0, 1, []), (16, .istore 7, 2, []), (18, .ldc 121, 2, [0, 1000000, 0, 0, 972]), (20, .istore 8, 2, []), (22, .ldc 121, 2, [0, 1000000, 0, 0, 972]), (24, .istore 9, 2, []), (26, .bipush (-9), 2, []), (28, .istore 10, 2, []), (30, .iconst 0, 1, []), (31, .istore 11, 2, []), (33, .iload 11, 2, []), (35, .aload_n 0, 1, []), (36, .getfield 22, 3, [0, 7, 4, 0, 802]), (39, .iconst 0, 1, []), (40, .iaload, 1, []), (41, .if_icmp .ge 98, 3, [70]), (44, .iload 4, 2, []), (46, .iload 11, 2, []), (48, .invokestatic 122, 3, [0, 149, 0, 0, 961]), (51, .ifCond .eq 82, 3, [68]), (54, .aload_n 0, 1, []), (55, .iload_n 1, 1, []), (56, .iload 11, 2, []), (58, .invokevirtual 125, 3, [0, 152, 0, 0, 973]), (61, .istore 12, 2, []), (63, .iload 5, 2, []), (65, .iload 12, 2, []), (67, .iadd, 1, []), (68, .istore 5, 2, []), (70, .iinc 6 1, 3, []), (73, .iload 12, 2, []), (75, .iload 7, 2, []), (77, .if_icmp .le 8, 3, [47]), (80, .iload 12, 2, []), (82, .goto 5, 3, [48]), (85, .iload 7, 2, []), (87, .istore 7, 2, []), (89, .iload 8, 2, []), (91, .iload 12, 2, []), (93, .invokestatic 129, 3, [0, 153, 0, 0, 977]), (96, .istore 8, 2, []), (98, .iload 12, 2, []), (100, .ifCond .le 13, 3, [59]), (103, .iload 9, 2, []), (105, .iload 12, 2, []), (107, .invokestatic 129, 3, [0, 153, 0, 0, 977]), (110, .goto 5, 3, [60]), (113, .iload 9, 2, []), (115, .istore 9, 2, []), (117, .iload 10, 2, []), (119, .bipush (-9), 2, []), (121, .if_icmp .ne 8, 3, [66]), (124, .iload 12, 2, []), (126, .goto 5, 3, [67]), (129, .iload 10, 2, []), (131, .istore 10, 2, []), (133, .iinc 11 1, 3, []), (136, .goto (-103), 3, [22]), (139, .iload 6, 2, []), (141, .ifCond .ne 5, 3, [74]), (144, .iconst 0, 1, []), (145, .ireturn, 1, []), (146, .iload_n 2, 1, []), (147, .tableswitch 67 0 4 #[33, 39, 42, 45, 48], 33, [96, 76, 80, 82, 84, 86]), (180, .iload 5, 2, []), (182, .iload 6, 2, []), (184, .idiv, 1, []), (185, .ireturn, 1, []), (186, .iload 7, 2, []), (188, .ireturn, 1, []), (189, .iload 8, 2, []), (191, .ireturn, 1, []), (192, .iload 10, 2, []), (194, .ireturn, 1, []), (195, .iload 7, 2, []), (197, .ifCond .ne 7, 3, [90]), (200, .iconst 0, 1, []), (201, .goto 12, 3, [95]), (204, .iload 7, 2, []), (206, .iconst 1, 1, []), (207, .iadd, 1, []), (208, .bipush 9, 2, []), (210, .invokestatic 129, 3, [0, 153, 0, 0, 977]), (213, .ireturn, 1, []), (214, .iload 9, 2, []), (216, .ldc 121, 2, [0, 1000000, 0, 0, 972]), (218, .if_icmp .ne 7, 3, [101]), (221, .iconst 0, 1, []), (222, .goto 5, 3, [102]), (225, .iload 9, 2, []), (227, .ireturn, 1, [])]
def mMe151 : mM := (⟨"FirstLandingModel", "seemsAs", "(III)I"⟩, prog_10_method_31_code, 13, (some .int), 1, 3, [971, 110, 970, 68], mCo151)
/-- FirstLandingModel.look(II)I -/
def mCo152 : List mE := [(0, .aload_n 0, 1, []), (1, .getfield 22, 3, [0, 7, 4, 0, 802]), (4, .bipush 7, 2, []), (6, .bipush 6, 2, []), (8, .iload_n 1, 1, []), (9, .imul, 1, []), (10, .iadd, 1, []), (11, .iload_n 2, 1, []), (12, .iadd, 1, []), (13, .iaload, 1, []), (14, .ireturn, 1, [])]
def mMe152 : mM := (⟨"FirstLandingModel", "look", "(II)I"⟩, prog_10_method_29_code, 3, (some .int), 1, 2, [976, 110, 975, 69], mCo152)
/-- FirstLandingModel.less(II)I -/
def mCo153 : List mE := [(0, .iload_n 1, 1, []), (1, .iload_n 0, 1, []), (2, .if_icmp .ge 7, 3, [5]), (5, .iload_n 1, 1, []), (6, .goto 4, 3, [6]), (9, .iload_n 0, 1, []), (10, .ireturn, 1, [])]
def mMe153 : mM := (⟨"FirstLandingModel", "less", "(II)I"⟩, prog_10_method_30_code, 2, (some .int), 0, 2, [979, 110, 978], mCo153)
/-- FirstLandingModel.treatiesOf(I)I -/
def mCo154 : List mE := [(0, .iconst 0, 1, []), (1, .istore_n 2, 1, []), (2, .iconst 0, 1, []), (3, .istore_n 3, 1, []), (4, .iload_n 3, 1, []), (5, .bipush 6, 2, []), (7, .if_icmp .ge 26, 3, [22]), (10, .iload_n 2, 1, []), (11, .aload_n 0, 1, []), (12, .getfield 22, 3, [0, 7, 4, 0, 802]), (15, .bipush 44, 2, []), (17, .bipush 6, 2, []), (19, .iload_n 1, 1, []), (20, .imul, 1, []), (21, .iadd, 1, []), (22, .iload_n 3, 1, []), (23, .iadd, 1, []), (24, .iaload, 1, []), (25, .iadd, 1, []), (26, .istore_n 2, 1, []), (27, .iinc 3 1, 3, []), (30, .goto (-26), 3, [4]), (33, .iload_n 2, 1, []), (34, .ireturn, 1, [])]
def mMe154 : mM := (⟨"FirstLandingModel", "treatiesOf", "(I)I"⟩, prog_10_method_37_code, 4, (some .int), 1, 1, [983, 110, 982, 70], mCo154)
/-- FirstLandingModel.unmetBy(I)I -/
def mCo155 : List mE := [(0, .iconst 0, 1, []), (1, .istore_n 2, 1, []), (2, .iconst 0, 1, []), (3, .istore_n 3, 1, []), (4, .iload_n 3, 1, []), (5, .aload_n 0, 1, []), (6, .getfield 22, 3, [0, 7, 4, 0, 802]), (9, .iconst 0, 1, []), (10, .iaload, 1, []), (11, .if_icmp .ge 31, 3, [26]), (14, .iload_n 2, 1, []), (15, .iload_n 3, 1, []), (16, .iload_n 1, 1, []), (17, .if_icmp .eq 16, 3, [21]), (20, .aload_n 0, 1, []), (21, .iload_n 1, 1, []), (22, .iload_n 3, 1, []), (23, .invokevirtual 125, 3, [0, 152, 0, 0, 973]), (26, .ifCond .ne 7, 3, [21]), (29, .iconst 1, 1, []), (30, .goto 4, 3, [22]), (33, .iconst 0, 1, []), (34, .iadd, 1, []), (35, .istore_n 2, 1, []), (36, .iinc 3 1, 3, []), (39, .goto (-35), 3, [4]), (42, .iload_n 2, 1, []), (43, .ireturn, 1, [])]
def mMe155 : mM := (⟨"FirstLandingModel", "unmetBy", "(I)I"⟩, prog_10_method_38_code, 4, (some .int), 1, 1, [987, 110, 986, 71], mCo155)
/-- FirstLandingModel.looks(II)I -/
def mCo156 : List mE := [(0, .aload_n 0, 1, []), (1, .iload_n 1, 1, []), (2, .invokevirtual 155, 3, [0, 147, 0, 0, 952]), (5, .ifCond .eq 20, 3, [13]), (8, .aload_n 0, 1, []), (9, .iload_n 2, 1, []), (10, .invokevirtual 155, 3, [0, 147, 0, 0, 952]), (13, .ifCond .eq 12, 3, [13]), (16, .aload_n 0, 1, []), (17, .iload_n 1, 1, []), (18, .iload_n 2, 1, []), (19, .invokevirtual 125, 3, [0, 152, 0, 0, 973]), (22, .goto 4, 3, [14]), (25, .iconst (-1), 1, []), (26, .ireturn, 1, [])]
def mMe156 : mM := (⟨"FirstLandingModel", "looks", "(II)I"⟩, prog_10_method_41_code, 3, (some .int), 1, 2, [991, 110, 989, 990], mCo156)
/-- FirstLandingModel.mark(II)I -/
def mCo157 : List mE := [(0, .aload_n 0, 1, []), (1, .iload_n 1, 1, []), (2, .invokevirtual 155, 3, [0, 147, 0, 0, 952]), (5, .ifCond .eq 15, 3, [10]), (8, .iload_n 2, 1, []), (9, .i2l, 1, []), (10, .lconst 1, 1, []), (11, .ldc2_w 67, 3, [0, 5, 0, 0, 870]), (14, .invokestatic 69, 3, [0, 127, 0, 0, 871]), (17, .ifCond .ne 5, 3, [12]), (20, .iconst (-1), 1, []), (21, .ireturn, 1, []), (22, .aload_n 0, 1, []), (23, .getfield 22, 3, [0, 7, 4, 0, 802]), (26, .iconst 1, 1, []), (27, .iload_n 1, 1, []), (28, .iadd, 1, []), (29, .iaload, 1, []), (30, .iload_n 2, 1, []), (31, .invokestatic 163, 3, [0, 158, 0, 0, 996]), (34, .ifCond .ne 9, 3, [25]), (37, .aload_n 0, 1, []), (38, .iconst 3, 1, []), (39, .invokevirtual 79, 3, [0, 128, 0, 0, 874]), (42, .ireturn, 1, []), (43, .iload_n 2, 1, []), (44, .tableswitch 58 1 4 #[32, 39, 46, 52], 32, [45, 27, 32, 37, 41]), (76, .aload_n 0, 1, []), (77, .iload_n 1, 1, []), (78, .iconst 0, 1, []), (79, .invokevirtual 166, 3, [0, 159, 0, 0, 999]), (82, .ireturn, 1, []), (83, .aload_n 0, 1, []), (84, .iload_n 1, 1, []), (85, .iconst 1, 1, []), (86, .invokevirtual 166, 3, [0, 159, 0, 0, 999]), (89, .ireturn, 1, []), (90, .aload_n 0, 1, []), (91, .iload_n 1, 1, []), (92, .invokevirtual 152, 3, [0, 155, 0, 0, 984]), (95, .ireturn, 1, []), (96, .aload_n 0, 1, []), (97, .iconst 4, 1, []), (98, .invokevirtual 170, 3, [0, 160, 0, 0, 1003]), (101, .ireturn, 1, []), (102, .aload_n 0, 1, []), (103, .iload_n 1, 1, []), (104, .invokevirtual 173, 3, [0, 161, 0, 0, 1007]), (107, .ireturn, 1, [])]
def mMe157 : mM := (⟨"FirstLandingModel", "mark", "(II)I"⟩, prog_10_method_46_code, 3, (some .int), 1, 2, [995, 110, 993, 994], mCo157)
/-- FirstLandingModel.isOf(II)Z -/
def mCo158 : List mE := [(0, .iload_n 0, 1, []), (1, .iload_n 1, 1, []), (2, .if_icmp .eq 27, 3, [17]), (5, .iload_n 1, 1, []), (6, .ifCond .eq 23, 3, [17]), (9, .iload_n 1, 1, []), (10, .iconst 1, 1, []), (11, .if_icmp .ne 8, 3, [11]), (14, .iload_n 0, 1, []), (15, .iconst 4, 1, []), (16, .if_icmp .eq 13, 3, [17]), (19, .iload_n 1, 1, []), (20, .iconst 2, 1, []), (21, .if_icmp .ne 12, 3, [19]), (24, .iload_n 0, 1, []), (25, .iconst 5, 1, []), (26, .if_icmp .ne 7, 3, [19]), (29, .iconst 1, 1, []), (30, .goto 4, 3, [20]), (33, .iconst 0, 1, []), (34, .ireturn, 1, [])]
def mMe158 : mM := (⟨"FirstLandingModel", "isOf", "(II)Z"⟩, prog_10_method_42_code, 2, (some .boolean), 0, 2, [998, 110, 997], mCo158)
/-- FirstLandingModel.extreme(IZ)I -/
def mCo159 : List mE := [(0, .bipush (-9), 2, []), (2, .istore_n 3, 1, []), (3, .iconst 0, 1, []), (4, .istore 4, 2, []), (6, .iload 4, 2, []), (8, .aload_n 0, 1, []), (9, .getfield 22, 3, [0, 7, 4, 0, 802]), (12, .iconst 0, 1, []), (13, .iaload, 1, []), (14, .if_icmp .ge 79, 3, [49]), (17, .iload 4, 2, []), (19, .iload_n 1, 1, []), (20, .if_icmp .eq 67, 3, [47]), (23, .iload_n 3, 1, []), (24, .bipush (-9), 2, []), (26, .if_icmp .eq 42, 3, [37]), (29, .iload_n 2, 1, []), (30, .ifCond .eq 22, 3, [28]), (33, .aload_n 0, 1, []), (34, .iload_n 1, 1, []), (35, .iload 4, 2, []), (37, .invokevirtual 125, 3, [0, 152, 0, 0, 973]), (40, .aload_n 0, 1, []), (41, .iload_n 1, 1, []), (42, .iload_n 3, 1, []), (43, .invokevirtual 125, 3, [0, 152, 0, 0, 973]), (46, .if_icmp .ge 26, 3, [39]), (49, .goto 19, 3, [37]), (52, .aload_n 0, 1, []), (53, .iload_n 1, 1, []), (54, .iload 4, 2, []), (56, .invokevirtual 125, 3, [0, 152, 0, 0, 973]), (59, .aload_n 0, 1, []), (60, .iload_n 1, 1, []), (61, .iload_n 3, 1, []), (62, .invokevirtual 125, 3, [0, 152, 0, 0, 973]), (65, .if_icmp .le 7, 3, [39]), (68, .iconst 1, 1, []), (69, .goto 4, 3, [40]), (72, .iconst 0, 1, []), (73, .istore 5, 2, []), (75, .iload 5, 2, []), (77, .ifCond .eq 8, 3, [45]), (80, .iload 4, 2, []), (82, .goto 4, 3, [46]), (85, .iload_n 3, 1, []), (86, .istore_n 3, 1, []), (87, .iinc 4 1, 3, []), (90, .goto (-84), 3, [4]), (93, .iload_n 3, 1, []), (94, .ireturn, 1, [])]
def mMe159 : mM := (⟨"FirstLandingModel", "extreme", "(IZ)I"⟩, prog_10_method_43_code, 6, (some .int), 1, 2, [1002, 110, 1001, 72], mCo159)
/-- FirstLandingModel.kindsOf(I)I -/
def mCo160 : List mE := [(0, .iconst 0, 1, []), (1, .istore_n 2, 1, []), (2, .iconst 0, 1, []), (3, .istore_n 3, 1, []), (4, .iload_n 3, 1, []), (5, .aload_n 0, 1, []), (6, .getfield 22, 3, [0, 7, 4, 0, 802]), (9, .iconst 0, 1, []), (10, .iaload, 1, []), (11, .if_icmp .ge 32, 3, [27]), (14, .iload_n 2, 1, []), (15, .aload_n 0, 1, []), (16, .getfield 22, 3, [0, 7, 4, 0, 802]), (19, .iconst 1, 1, []), (20, .iload_n 3, 1, []), (21, .iadd, 1, []), (22, .iaload, 1, []), (23, .iload_n 1, 1, []), (24, .invokestatic 163, 3, [0, 158, 0, 0, 996]), (27, .ifCond .eq 7, 3, [22]), (30, .iconst 1, 1, []), (31, .goto 4, 3, [23]), (34, .iconst 0, 1, []), (35, .iadd, 1, []), (36, .istore_n 2, 1, []), (37, .iinc 3 1, 3, []), (40, .goto (-36), 3, [4]), (43, .iload_n 2, 1, []), (44, .ireturn, 1, [])]
def mMe160 : mM := (⟨"FirstLandingModel", "kindsOf", "(I)I"⟩, prog_10_method_44_code, 4, (some .int), 1, 1, [1006, 110, 1005, 73], mCo160)
/-- FirstLandingModel.unmetTo(I)I -/
def mCo161 : List mE := [(0, .iconst 0, 1, []), (1, .istore_n 2, 1, []), (2, .iconst 0, 1, []), (3, .istore_n 3, 1, []), (4, .iload_n 3, 1, []), (5, .aload_n 0, 1, []), (6, .getfield 22, 3, [0, 7, 4, 0, 802]), (9, .iconst 0, 1, []), (10, .iaload, 1, []), (11, .if_icmp .ge 31, 3, [26]), (14, .iload_n 2, 1, []), (15, .iload_n 3, 1, []), (16, .iload_n 1, 1, []), (17, .if_icmp .eq 16, 3, [21]), (20, .aload_n 0, 1, []), (21, .iload_n 3, 1, []), (22, .iload_n 1, 1, []), (23, .invokevirtual 125, 3, [0, 152, 0, 0, 973]), (26, .ifCond .ne 7, 3, [21]), (29, .iconst 1, 1, []), (30, .goto 4, 3, [22]), (33, .iconst 0, 1, []), (34, .iadd, 1, []), (35, .istore_n 2, 1, []), (36, .iinc 3 1, 3, []), (39, .goto (-35), 3, [4]), (42, .iload_n 2, 1, []), (43, .ireturn, 1, [])]
def mMe161 : mM := (⟨"FirstLandingModel", "unmetTo", "(I)I"⟩, prog_10_method_45_code, 4, (some .int), 1, 1, [1010, 110, 1009, 74], mCo161)
/-- FirstLandingModel.step(I)I -/
def mCo162 : List mE := [(0, .aload_n 0, 1, []), (1, .iload_n 1, 1, []), (2, .invokevirtual 155, 3, [0, 147, 0, 0, 952]), (5, .ifCond .ne 5, 3, [6]), (8, .iconst (-1), 1, []), (9, .ireturn, 1, []), (10, .aload_n 0, 1, []), (11, .invokevirtual 180, 3, [0, 163, 0, 0, 1015]), (14, .bipush 40, 2, []), (16, .if_icmp .ne 6, 3, [12]), (19, .bipush (-2), 2, []), (21, .ireturn, 1, []), (22, .aload_n 0, 1, []), (23, .iload_n 1, 1, []), (24, .invokevirtual 184, 3, [0, 164, 0, 0, 1019]), (27, .aload_n 0, 1, []), (28, .getfield 22, 3, [0, 7, 4, 0, 802]), (31, .bipush 43, 2, []), (33, .iaload, 1, []), (34, .invokestatic 187, 3, [0, 166, 0, 0, 1027]), (37, .ireturn, 1, [])]
def mMe162 : mM := (⟨"FirstLandingModel", "step", "(I)I"⟩, prog_10_method_52_code, 2, (some .int), 1, 1, [1014, 110, 1012, 1013], mCo162)
/-- FirstLandingModel.done()I -/
def mCo163 : List mE := [(0, .aload_n 0, 1, []), (1, .getfield 22, 3, [0, 7, 4, 0, 802]), (4, .bipush 80, 2, []), (6, .iaload, 1, []), (7, .ireturn, 1, [])]
def mMe163 : mM := (⟨"FirstLandingModel", "done", "()I"⟩, prog_10_method_47_code, 1, (some .int), 1, 0, [1018, 110, 1017, 75], mCo163)
/-- FirstLandingModel.steps0(I)V -/
def mCo164 : List mE := [(0, .aload_n 0, 1, []), (1, .iconst 0, 1, []), (2, .iload_n 1, 1, []), (3, .iconst 0, 1, []), (4, .invokevirtual 176, 3, [0, 165, 0, 0, 1023]), (7, .aload_n 0, 1, []), (8, .getfield 22, 3, [0, 7, 4, 0, 802]), (11, .bipush 43, 2, []), (13, .dup2, 1, []), (14, .iaload, 1, []), (15, .iconst 1, 1, []), (16, .iload_n 1, 1, []), (17, .ishl, 1, []), (18, .ixor, 1, []), (19, .iastore, 1, []), (20, .return_, 1, [])]
def mMe164 : mM := (⟨"FirstLandingModel", "steps0", "(I)V"⟩, prog_10_method_51_code, 2, none, 1, 1, [1022, 110, 1021, 76], mCo164)
/-- FirstLandingModel.remember(III)V -/
def mCo165 : List mE := [(0, .bipush 81, 2, []), (2, .iconst 3, 1, []), (3, .aload_n 0, 1, []), (4, .getfield 22, 3, [0, 7, 4, 0, 802]), (7, .bipush 80, 2, []), (9, .iaload, 1, []), (10, .imul, 1, []), (11, .iadd, 1, []), (12, .istore 4, 2, []), (14, .aload_n 0, 1, []), (15, .getfield 22, 3, [0, 7, 4, 0, 802]), (18, .iload 4, 2, []), (20, .iload_n 1, 1, []), (21, .iastore, 1, []), (22, .aload_n 0, 1, []), (23, .getfield 22, 3, [0, 7, 4, 0, 802]), (26, .iload 4, 2, []), (28, .iconst 1, 1, []), (29, .iadd, 1, []), (30, .iload_n 2, 1, []), (31, .iastore, 1, []), (32, .aload_n 0, 1, []), (33, .getfield 22, 3, [0, 7, 4, 0, 802]), (36, .iload 4, 2, []), (38, .iconst 2, 1, []), (39, .iadd, 1, []), (40, .iload_n 3, 1, []), (41, .iastore, 1, []), (42, .aload_n 0, 1, []), (43, .getfield 22, 3, [0, 7, 4, 0, 802]), (46, .bipush 80, 2, []), (48, .dup2, 1, []), (49, .iaload, 1, []), (50, .iconst 1, 1, []), (51, .iadd, 1, []), (52, .iastore, 1, []), (53, .return_, 1, [])]
def mMe165 : mM := (⟨"FirstLandingModel", "remember", "(III)V"⟩, prog_10_method_48_code, 5, none, 1, 3, [1026, 110, 1025, 77], mCo165)
/-- FirstLandingModel.bits(I)I -/
def mCo166 : List mE := [(0, .iconst 0, 1, []), (1, .istore_n 1, 1, []), (2, .iload_n 0, 1, []), (3, .istore_n 2, 1, []), (4, .iload_n 2, 1, []), (5, .ifCond .eq 15, 3, [14]), (8, .iinc 1 1, 3, []), (11, .iload_n 2, 1, []), (12, .iload_n 2, 1, []), (13, .iconst 1, 1, []), (14, .isub, 1, []), (15, .iand, 1, []), (16, .istore_n 2, 1, []), (17, .goto (-13), 3, [4]), (20, .iload_n 1, 1, []), (21, .ireturn, 1, [])]
def mMe166 : mM := (⟨"FirstLandingModel", "bits", "(I)I"⟩, prog_10_method_5_code, 3, (some .int), 0, 1, [1029, 110, 1028], mCo166)
/-- FirstLandingModel.meet(III)I -/
def mCo167 : List mE := [(0, .aload_n 0, 1, []), (1, .iload_n 1, 1, []), (2, .invokevirtual 155, 3, [0, 147, 0, 0, 952]), (5, .ifCond .eq 28, 3, [17]), (8, .aload_n 0, 1, []), (9, .iload_n 2, 1, []), (10, .invokevirtual 155, 3, [0, 147, 0, 0, 952]), (13, .ifCond .eq 20, 3, [17]), (16, .iload_n 1, 1, []), (17, .iload_n 2, 1, []), (18, .if_icmp .eq 15, 3, [17]), (21, .iload_n 3, 1, []), (22, .i2l, 1, []), (23, .lconst 1, 1, []), (24, .ldc2_w 190, 3, [0, 9, 0, 0, 1034]), (27, .invokestatic 69, 3, [0, 127, 0, 0, 871]), (30, .ifCond .ne 5, 3, [19]), (33, .iconst (-1), 1, []), (34, .ireturn, 1, []), (35, .aload_n 0, 1, []), (36, .iload_n 1, 1, []), (37, .iload_n 2, 1, []), (38, .invokevirtual 125, 3, [0, 152, 0, 0, 973]), (41, .ifCond .eq 6, 3, [26]), (44, .bipush (-4), 2, []), (46, .ireturn, 1, []), (47, .aload_n 0, 1, []), (48, .invokevirtual 180, 3, [0, 163, 0, 0, 1015]), (51, .bipush 40, 2, []), (53, .if_icmp .ne 6, 3, [32]), (56, .bipush (-2), 2, []), (58, .ireturn, 1, []), (59, .aload_n 0, 1, []), (60, .iconst 1, 1, []), (61, .iload_n 1, 1, []), (62, .iload_n 2, 1, []), (63, .invokevirtual 176, 3, [0, 165, 0, 0, 1023]), (66, .aload_n 0, 1, []), (67, .getfield 22, 3, [0, 7, 4, 0, 802]), (70, .bipush 7, 2, []), (72, .bipush 6, 2, []), (74, .iload_n 1, 1, []), (75, .imul, 1, []), (76, .iadd, 1, []), (77, .iload_n 2, 1, []), (78, .iadd, 1, []), (79, .iload_n 3, 1, []), (80, .iastore, 1, []), (81, .aload_n 0, 1, []), (82, .invokevirtual 192, 3, [0, 168, 0, 0, 1035]), (85, .ireturn, 1, [])]
def mMe167 : mM := (⟨"FirstLandingModel", "meet", "(III)I"⟩, prog_10_method_53_code, 4, (some .int), 1, 3, [1033, 110, 1031, 1032], mCo167)
/-- FirstLandingModel.unmet()I -/
def mCo168 : List mE := [(0, .iconst 0, 1, []), (1, .istore_n 1, 1, []), (2, .iconst 0, 1, []), (3, .istore_n 2, 1, []), (4, .iload_n 2, 1, []), (5, .aload_n 0, 1, []), (6, .getfield 22, 3, [0, 7, 4, 0, 802]), (9, .iconst 0, 1, []), (10, .iaload, 1, []), (11, .if_icmp .ge 17, 3, [18]), (14, .iload_n 1, 1, []), (15, .aload_n 0, 1, []), (16, .iload_n 2, 1, []), (17, .invokevirtual 152, 3, [0, 155, 0, 0, 984]), (20, .iadd, 1, []), (21, .istore_n 1, 1, []), (22, .iinc 2 1, 3, []), (25, .goto (-21), 3, [4]), (28, .iload_n 1, 1, []), (29, .ireturn, 1, [])]
def mMe168 : mM := (⟨"FirstLandingModel", "unmet", "()I"⟩, prog_10_method_49_code, 3, (some .int), 1, 0, [1038, 110, 1037, 78], mCo168)
/-- FirstLandingModel.treat(II)I -/
def mCo169 : List mE := [(0, .aload_n 0, 1, []), (1, .iload_n 1, 1, []), (2, .invokevirtual 155, 3, [0, 147, 0, 0, 952]), (5, .ifCond .eq 16, 3, [11]), (8, .aload_n 0, 1, []), (9, .iload_n 2, 1, []), (10, .invokevirtual 155, 3, [0, 147, 0, 0, 952]), (13, .ifCond .eq 8, 3, [11]), (16, .iload_n 1, 1, []), (17, .iload_n 2, 1, []), (18, .if_icmp .ne 5, 3, [13]), (21, .iconst (-1), 1, []), (22, .ireturn, 1, []), (23, .aload_n 0, 1, []), (24, .iload_n 1, 1, []), (25, .iload_n 2, 1, []), (26, .invokevirtual 198, 3, [0, 170, 0, 0, 1043]), (29, .ifCond .ne 6, 3, [20]), (32, .bipush (-4), 2, []), (34, .ireturn, 1, []), (35, .aload_n 0, 1, []), (36, .invokevirtual 180, 3, [0, 163, 0, 0, 1015]), (39, .bipush 40, 2, []), (41, .if_icmp .ne 6, 3, [26]), (44, .bipush (-2), 2, []), (46, .ireturn, 1, []), (47, .aload_n 0, 1, []), (48, .iload_n 1, 1, []), (49, .iload_n 2, 1, []), (50, .invokevirtual 201, 3, [0, 173, 0, 0, 1054]), (53, .aload_n 0, 1, []), (54, .invokevirtual 205, 3, [0, 175, 0, 0, 1062]), (57, .ireturn, 1, [])]
def mMe169 : mM := (⟨"FirstLandingModel", "treat", "(II)I"⟩, prog_10_method_57_code, 3, (some .int), 1, 2, [1042, 110, 1040, 1041], mCo169)
/-- FirstLandingModel.mayTreat(II)Z -/
def mCo170 : List mE := [(0, .iload_n 1, 1, []), (1, .iload_n 2, 1, []), (2, .if_icmp .eq 68, 3, [39]), (5, .aload_n 0, 1, []), (6, .getfield 22, 3, [0, 7, 4, 0, 802]), (9, .bipush 44, 2, []), (11, .bipush 6, 2, []), (13, .iload_n 1, 1, []), (14, .imul, 1, []), (15, .iadd, 1, []), (16, .iload_n 2, 1, []), (17, .iadd, 1, []), (18, .iaload, 1, []), (19, .ifCond .ne 51, 3, [39]), (22, .aload_n 0, 1, []), (23, .getfield 22, 3, [0, 7, 4, 0, 802]), (26, .bipush 43, 2, []), (28, .iaload, 1, []), (29, .iload_n 1, 1, []), (30, .invokestatic 122, 3, [0, 149, 0, 0, 961]), (33, .ifCond .eq 37, 3, [39]), (36, .aload_n 0, 1, []), (37, .getfield 22, 3, [0, 7, 4, 0, 802]), (40, .bipush 43, 2, []), (42, .iaload, 1, []), (43, .iload_n 2, 1, []), (44, .invokestatic 122, 3, [0, 149, 0, 0, 961]), (47, .ifCond .eq 23, 3, [39]), (50, .aload_n 0, 1, []), (51, .iload_n 1, 1, []), (52, .iload_n 2, 1, []), (53, .aload_n 0, 1, []), (54, .getfield 22, 3, [0, 7, 4, 0, 802]), (57, .bipush 43, 2, []), (59, .iaload, 1, []), (60, .invokevirtual 145, 3, [0, 171, 0, 0, 1047]), (63, .ifCond .eq 7, 3, [39]), (66, .iconst 1, 1, []), (67, .goto 4, 3, [40]), (70, .iconst 0, 1, []), (71, .ireturn, 1, [])]
def mMe170 : mM := (⟨"FirstLandingModel", "mayTreat", "(II)Z"⟩, prog_10_method_55_code, 3, (some .boolean), 1, 2, [1046, 110, 1045, 79], mCo170)
/-- FirstLandingModel.doAgree(III)Z -/
def mCo171 : List mE := [(0, .aload_n 0, 1, []), (1, .iload_n 1, 1, []), (2, .iload_n 3, 1, []), (3, .invokevirtual 136, 3, [0, 150, 0, 0, 964]), (6, .istore 4, 2, []), (8, .aload_n 0, 1, []), (9, .iload_n 2, 1, []), (10, .iload_n 3, 1, []), (11, .invokevirtual 136, 3, [0, 150, 0, 0, 964]), (14, .istore 5, 2, []), (16, .iload 4, 2, []), (18, .ifCond .le 24, 3, [22]), (21, .iload 5, 2, []), (23, .ifCond .le 19, 3, [22]), (26, .iload 4, 2, []), (28, .iload 5, 2, []), (30, .isub, 1, []), (31, .invokestatic 139, 3, [0, 172, 0, 0, 1051]), (34, .iconst 2, 1, []), (35, .if_icmp .ge 7, 3, [22]), (38, .iconst 1, 1, []), (39, .goto 4, 3, [23]), (42, .iconst 0, 1, []), (43, .ireturn, 1, [])]
def mMe171 : mM := (⟨"FirstLandingModel", "doAgree", "(III)Z"⟩, prog_10_method_35_code, 6, (some .boolean), 1, 3, [1050, 110, 1049, 80], mCo171)
/-- FirstLandingModel.abs(I)I -/
def mCo172 : List mE := [(0, .iload_n 0, 1, []), (1, .ifCond .ge 8, 3, [5]), (4, .iload_n 0, 1, []), (5, .ineg, 1, []), (6, .goto 4, 3, [6]), (9, .iload_n 0, 1, []), (10, .ireturn, 1, [])]
def mMe172 : mM := (⟨"FirstLandingModel", "abs", "(I)I"⟩, prog_10_method_34_code, 1, (some .int), 0, 1, [1053, 110, 1052], mCo172)
/-- FirstLandingModel.treats(II)V -/
def mCo173 : List mE := [(0, .aload_n 0, 1, []), (1, .iconst 2, 1, []), (2, .iload_n 1, 1, []), (3, .iload_n 2, 1, []), (4, .invokevirtual 176, 3, [0, 165, 0, 0, 1023]), (7, .aload_n 0, 1, []), (8, .iload_n 1, 1, []), (9, .iload_n 2, 1, []), (10, .iconst 1, 1, []), (11, .invokevirtual 195, 3, [0, 174, 0, 0, 1058]), (14, .return_, 1, [])]
def mMe173 : mM := (⟨"FirstLandingModel", "treats", "(II)V"⟩, prog_10_method_56_code, 3, none, 1, 2, [1057, 110, 1056, 81], mCo173)
/-- FirstLandingModel.signs(III)V -/
def mCo174 : List mE := [(0, .aload_n 0, 1, []), (1, .getfield 22, 3, [0, 7, 4, 0, 802]), (4, .bipush 44, 2, []), (6, .bipush 6, 2, []), (8, .iload_n 1, 1, []), (9, .imul, 1, []), (10, .iadd, 1, []), (11, .iload_n 2, 1, []), (12, .iadd, 1, []), (13, .iload_n 3, 1, []), (14, .iastore, 1, []), (15, .aload_n 0, 1, []), (16, .getfield 22, 3, [0, 7, 4, 0, 802]), (19, .bipush 44, 2, []), (21, .bipush 6, 2, []), (23, .iload_n 2, 1, []), (24, .imul, 1, []), (25, .iadd, 1, []), (26, .iload_n 1, 1, []), (27, .iadd, 1, []), (28, .iload_n 3, 1, []), (29, .iastore, 1, []), (30, .return_, 1, [])]
def mMe174 : mM := (⟨"FirstLandingModel", "signs", "(III)V"⟩, prog_10_method_54_code, 4, none, 1, 3, [1061, 110, 1060, 82], mCo174)
/-- FirstLandingModel.treaties()I -/
def mCo175 : List mE := [(0, .iconst 0, 1, []), (1, .istore_n 1, 1, []), (2, .iconst 0, 1, []), (3, .istore_n 2, 1, []), (4, .iload_n 2, 1, []), (5, .bipush 6, 2, []), (7, .if_icmp .ge 17, 3, [15]), (10, .iload_n 1, 1, []), (11, .aload_n 0, 1, []), (12, .iload_n 2, 1, []), (13, .invokevirtual 149, 3, [0, 154, 0, 0, 980]), (16, .iadd, 1, []), (17, .istore_n 1, 1, []), (18, .iinc 2 1, 3, []), (21, .goto (-17), 3, [4]), (24, .iload_n 1, 1, []), (25, .iconst 2, 1, []), (26, .idiv, 1, []), (27, .ireturn, 1, [])]
def mMe175 : mM := (⟨"FirstLandingModel", "treaties", "()I"⟩, prog_10_method_50_code, 3, (some .int), 1, 0, [1065, 110, 1064, 83], mCo175)
/-- FirstLandingModel.undo(I)I -/
def mCo176 : List mE := [(0, .iload_n 1, 1, []), (1, .i2l, 1, []), (2, .lconst 0, 1, []), (3, .aload_n 0, 1, []), (4, .invokevirtual 180, 3, [0, 163, 0, 0, 1015]), (7, .i2l, 1, []), (8, .invokestatic 69, 3, [0, 127, 0, 0, 871]), (11, .ifCond .ne 5, 3, [10]), (14, .iconst (-1), 1, []), (15, .ireturn, 1, []), (16, .iconst 0, 1, []), (17, .istore_n 2, 1, []), (18, .aload_n 0, 1, []), (19, .invokevirtual 180, 3, [0, 163, 0, 0, 1015]), (22, .iload_n 1, 1, []), (23, .if_icmp .le 13, 3, [20]), (26, .aload_n 0, 1, []), (27, .invokevirtual 208, 3, [0, 177, 0, 0, 1070]), (30, .iinc 2 1, 3, []), (33, .goto (-15), 3, [12]), (36, .iload_n 2, 1, []), (37, .ireturn, 1, [])]
def mMe176 : mM := (⟨"FirstLandingModel", "undo", "(I)I"⟩, prog_10_method_59_code, 3, (some .int), 1, 1, [1069, 110, 1067, 1068], mCo176)
/-- FirstLandingModel.undoes()V -/
def mCo177 : List mE := [(0, .aload_n 0, 1, []), (1, .getfield 22, 3, [0, 7, 4, 0, 802]), (4, .bipush 80, 2, []), (6, .dup2, 1, []), (7, .iaload, 1, []), (8, .iconst 1, 1, []), (9, .isub, 1, []), (10, .iastore, 1, []), (11, .bipush 81, 2, []), (13, .iconst 3, 1, []), (14, .aload_n 0, 1, []), (15, .getfield 22, 3, [0, 7, 4, 0, 802]), (18, .bipush 80, 2, []), (20, .iaload, 1, []), (21, .imul, 1, []), (22, .iadd, 1, []), (23, .istore_n 1, 1, []), (24, .aload_n 0, 1, []), (25, .getfield 22, 3, [0, 7, 4, 0, 802]), (28, .iload_n 1, 1, []), (29, .iconst 1, 1, []), (30, .iadd, 1, []), (31, .iaload, 1, []), (32, .istore_n 2, 1, []), (33, .aload_n 0, 1, []), (34, .getfield 22, 3, [0, 7, 4, 0, 802]), (37, .iload_n 1, 1, []), (38, .iconst 2, 1, []), (39, .iadd, 1, []), (40, .iaload, 1, []), (41, .istore_n 3, 1, []), (42, .aload_n 0, 1, []), (43, .getfield 22, 3, [0, 7, 4, 0, 802]), (46, .iload_n 1, 1, []), (47, .iaload, 1, []), (48, .lookupswitch 62 #[(0, 28), (1, 44)], 28, [59, 36, 47]), (76, .aload_n 0, 1, []), (77, .getfield 22, 3, [0, 7, 4, 0, 802]), (80, .bipush 43, 2, []), (82, .dup2, 1, []), (83, .iaload, 1, []), (84, .iconst 1, 1, []), (85, .iload_n 2, 1, []), (86, .ishl, 1, []), (87, .ixor, 1, []), (88, .iastore, 1, []), (89, .goto 28, 3, [64]), (92, .aload_n 0, 1, []), (93, .getfield 22, 3, [0, 7, 4, 0, 802]), (96, .bipush 7, 2, []), (98, .bipush 6, 2, []), (100, .iload_n 2, 1, []), (101, .imul, 1, []), (102, .iadd, 1, []), (103, .iload_n 3, 1, []), (104, .iadd, 1, []), (105, .iconst 0, 1, []), (106, .iastore, 1, []), (107, .goto 10, 3, [64]), (110, .aload_n 0, 1, []), (111, .iload_n 2, 1, []), (112, .iload_n 3, 1, []), (113, .iconst 0, 1, []), (114, .invokevirtual 195, 3, [0, 174, 0, 0, 1058]), (117, .return_, 1, [])]
def mMe177 : mM := (⟨"FirstLandingModel", "undoes", "()V"⟩, prog_10_method_58_code, 4, none, 1, 0, [1073, 110, 1072, 84], mCo177)
/-- FirstLandingModel.keep(I)I -/
def mCo178 : List mE := [(0, .iload_n 1, 1, []), (1, .i2l, 1, []), (2, .lconst 0, 1, []), (3, .ldc2_w 211, 3, [0, 2, 0, 0, 1078]), (6, .invokestatic 69, 3, [0, 127, 0, 0, 871]), (9, .ifCond .ne 5, 3, [8]), (12, .iconst (-1), 1, []), (13, .ireturn, 1, []), (14, .aload_n 0, 1, []), (15, .getfield 22, 3, [0, 7, 4, 0, 802]), (18, .iconst 0, 1, []), (19, .iaload, 1, []), (20, .ifCond .ne 6, 3, [15]), (23, .bipush (-4), 2, []), (25, .ireturn, 1, []), (26, .aload_n 0, 1, []), (27, .getfield 22, 3, [0, 7, 4, 0, 802]), (30, .iconst 0, 1, []), (31, .aload_n 0, 1, []), (32, .getfield 28, 3, [0, 7, 6, 0, 804]), (35, .sipush 201, 3, []), (38, .iload_n 1, 1, []), (39, .imul, 1, []), (40, .invokestatic 117, 3, [0, 145, 0, 0, 945]), (43, .aload_n 0, 1, []), (44, .getfield 31, 3, [0, 7, 7, 0, 805]), (47, .iload_n 1, 1, []), (48, .iconst 1, 1, []), (49, .bastore, 1, []), (50, .aload_n 0, 1, []), (51, .invokevirtual 180, 3, [0, 163, 0, 0, 1015]), (54, .ireturn, 1, [])]
def mMe178 : mM := (⟨"FirstLandingModel", "keep", "(I)I"⟩, prog_10_method_60_code, 2, (some .int), 1, 1, [1077, 110, 1075, 1076], mCo178)
/-- FirstLandingModel.on(I)I -/
def mCo179 : List mE := [(0, .iload_n 1, 1, []), (1, .i2l, 1, []), (2, .lconst 0, 1, []), (3, .ldc2_w 211, 3, [0, 2, 0, 0, 1078]), (6, .invokestatic 69, 3, [0, 127, 0, 0, 871]), (9, .ifCond .ne 5, 3, [8]), (12, .iconst (-1), 1, []), (13, .ireturn, 1, []), (14, .aload_n 0, 1, []), (15, .getfield 31, 3, [0, 7, 7, 0, 805]), (18, .iload_n 1, 1, []), (19, .baload, 1, []), (20, .ifCond .ne 9, 3, [17]), (23, .aload_n 0, 1, []), (24, .iconst 1, 1, []), (25, .invokevirtual 79, 3, [0, 128, 0, 0, 874]), (28, .ireturn, 1, []), (29, .aload_n 0, 1, []), (30, .getfield 28, 3, [0, 7, 6, 0, 804]), (33, .sipush 201, 3, []), (36, .iload_n 1, 1, []), (37, .imul, 1, []), (38, .aload_n 0, 1, []), (39, .getfield 22, 3, [0, 7, 4, 0, 802]), (42, .iconst 0, 1, []), (43, .invokestatic 117, 3, [0, 145, 0, 0, 945]), (46, .aload_n 0, 1, []), (47, .invokevirtual 180, 3, [0, 163, 0, 0, 1015]), (50, .ireturn, 1, [])]
def mMe179 : mM := (⟨"FirstLandingModel", "on", "(I)I"⟩, prog_10_method_61_code, 2, (some .int), 1, 1, [1082, 110, 1080, 1081], mCo179)
/-- FirstLandingModel.seems(II)I -/
def mCo180 : List mE := [(0, .aload_n 0, 1, []), (1, .iload_n 1, 1, []), (2, .invokevirtual 155, 3, [0, 147, 0, 0, 952]), (5, .ifCond .eq 20, 3, [13]), (8, .aload_n 0, 1, []), (9, .iload_n 2, 1, []), (10, .invokevirtual 213, 3, [0, 181, 0, 0, 1087]), (13, .ifCond .eq 12, 3, [13]), (16, .aload_n 0, 1, []), (17, .iload_n 1, 1, []), (18, .iload_n 2, 1, []), (19, .invokevirtual 136, 3, [0, 150, 0, 0, 964]), (22, .goto 4, 3, [14]), (25, .iconst (-1), 1, []), (26, .ireturn, 1, [])]
def mMe180 : mM := (⟨"FirstLandingModel", "seems", "(II)I"⟩, prog_10_method_62_code, 3, (some .int), 1, 2, [1086, 110, 1084, 1085], mCo180)
/-- FirstLandingModel.isSet(I)Z -/
def mCo181 : List mE := [(0, .iload_n 1, 1, []), (1, .i2l, 1, []), (2, .lconst 0, 1, []), (3, .iconst 1, 1, []), (4, .aload_n 0, 1, []), (5, .getfield 22, 3, [0, 7, 4, 0, 802]), (8, .iconst 0, 1, []), (9, .iaload, 1, []), (10, .ishl, 1, []), (11, .iconst 1, 1, []), (12, .isub, 1, []), (13, .i2l, 1, []), (14, .invokestatic 69, 3, [0, 127, 0, 0, 871]), (17, .ireturn, 1, [])]
def mMe181 : mM := (⟨"FirstLandingModel", "isSet", "(I)Z"⟩, prog_10_method_28_code, 2, (some .boolean), 1, 1, [1090, 110, 1089, 85], mCo181)
/-- FirstLandingModel.there(I)I -/
def mCo182 : List mE := [(0, .aload_n 0, 1, []), (1, .iload_n 1, 1, []), (2, .invokevirtual 213, 3, [0, 181, 0, 0, 1087]), (5, .ifCond .eq 11, 3, [8]), (8, .aload_n 0, 1, []), (9, .iload_n 1, 1, []), (10, .invokevirtual 216, 3, [0, 183, 0, 0, 1095]), (13, .goto 4, 3, [9]), (16, .iconst (-1), 1, []), (17, .ireturn, 1, [])]
def mMe182 : mM := (⟨"FirstLandingModel", "there", "(I)I"⟩, prog_10_method_63_code, 2, (some .int), 1, 1, [1094, 110, 1092, 1093], mCo182)
/-- FirstLandingModel.thereOf(I)I -/
def mCo183 : List mE := [(0, .iconst 0, 1, []), (1, .istore_n 2, 1, []), (2, .iconst 0, 1, []), (3, .istore_n 3, 1, []), (4, .iload_n 3, 1, []), (5, .aload_n 0, 1, []), (6, .getfield 22, 3, [0, 7, 4, 0, 802]), (9, .iconst 0, 1, []), (10, .iaload, 1, []), (11, .if_icmp .ge 36, 3, [29]), (14, .iload_n 2, 1, []), (15, .iload_n 1, 1, []), (16, .iload_n 3, 1, []), (17, .invokestatic 122, 3, [0, 149, 0, 0, 961]), (20, .ifCond .eq 18, 3, [24]), (23, .aload_n 0, 1, []), (24, .iload_n 3, 1, []), (25, .iload_n 1, 1, []), (26, .invokevirtual 136, 3, [0, 150, 0, 0, 964]), (29, .ifCond .le 9, 3, [24]), (32, .iconst 1, 1, []), (33, .iload_n 3, 1, []), (34, .ishl, 1, []), (35, .goto 4, 3, [25]), (38, .iconst 0, 1, []), (39, .ior, 1, []), (40, .istore_n 2, 1, []), (41, .iinc 3 1, 3, []), (44, .goto (-40), 3, [4]), (47, .iload_n 2, 1, []), (48, .ireturn, 1, [])]
def mMe183 : mM := (⟨"FirstLandingModel", "thereOf", "(I)I"⟩, prog_10_method_33_code, 4, (some .int), 1, 1, [1098, 110, 1097, 86], mCo183)
/-- FirstLandingModel.agree(I)I -/
def mCo184 : List mE := [(0, .aload_n 0, 1, []), (1, .iload_n 1, 1, []), (2, .invokevirtual 213, 3, [0, 181, 0, 0, 1087]), (5, .ifCond .ne 5, 3, [6]), (8, .iconst (-1), 1, []), (9, .ireturn, 1, []), (10, .aload_n 0, 1, []), (11, .iload_n 1, 1, []), (12, .invokevirtual 219, 3, [0, 185, 0, 0, 1103]), (15, .istore_n 2, 1, []), (16, .aload_n 0, 1, []), (17, .iload_n 2, 1, []), (18, .aload_n 0, 1, []), (19, .getfield 142, 3, [0, 7, 14, 0, 812]), (22, .invokevirtual 222, 3, [0, 186, 0, 0, 1107]), (25, .ireturn, 1, [])]
def mMe184 : mM := (⟨"FirstLandingModel", "agree", "(I)I"⟩, prog_10_method_64_code, 3, (some .int), 1, 1, [1102, 110, 1100, 1101], mCo184)
/-- FirstLandingModel.pairs(I)I -/
def mCo185 : List mE := [(0, .iconst 0, 1, []), (1, .istore_n 2, 1, []), (2, .aload_n 0, 1, []), (3, .bipush (-9), 2, []), (5, .putfield 142, 3, [0, 7, 14, 0, 812]), (8, .iconst 0, 1, []), (9, .istore_n 3, 1, []), (10, .iload_n 3, 1, []), (11, .aload_n 0, 1, []), (12, .getfield 22, 3, [0, 7, 4, 0, 802]), (15, .iconst 0, 1, []), (16, .iaload, 1, []), (17, .if_icmp .ge 89, 3, [56]), (20, .iload_n 3, 1, []), (21, .iconst 1, 1, []), (22, .iadd, 1, []), (23, .istore 4, 2, []), (25, .iload 4, 2, []), (27, .aload_n 0, 1, []), (28, .getfield 22, 3, [0, 7, 4, 0, 802]), (31, .iconst 0, 1, []), (32, .iaload, 1, []), (33, .if_icmp .ge 67, 3, [54]), (36, .iload_n 1, 1, []), (37, .iload_n 3, 1, []), (38, .invokestatic 122, 3, [0, 149, 0, 0, 961]), (41, .ifCond .eq 53, 3, [52]), (44, .iload_n 1, 1, []), (45, .iload 4, 2, []), (47, .invokestatic 122, 3, [0, 149, 0, 0, 961]), (50, .ifCond .eq 44, 3, [52]), (53, .aload_n 0, 1, []), (54, .iload_n 3, 1, []), (55, .iload 4, 2, []), (57, .iload_n 1, 1, []), (58, .invokevirtual 145, 3, [0, 171, 0, 0, 1047]), (61, .ifCond .eq 33, 3, [52]), (64, .iinc 2 1, 3, []), (67, .aload_n 0, 1, []), (68, .aload_n 0, 1, []), (69, .getfield 142, 3, [0, 7, 14, 0, 812]), (72, .bipush (-9), 2, []), (74, .if_icmp .ne 13, 3, [49]), (77, .bipush 6, 2, []), (79, .iload_n 3, 1, []), (80, .imul, 1, []), (81, .iload 4, 2, []), (83, .iadd, 1, []), (84, .goto 7, 3, [51]), (87, .aload_n 0, 1, []), (88, .getfield 142, 3, [0, 7, 14, 0, 812]), (91, .putfield 142, 3, [0, 7, 14, 0, 812]), (94, .iinc 4 1, 3, []), (97, .goto (-72), 3, [17]), (100, .iinc 3 1, 3, []), (103, .goto (-93), 3, [7]), (106, .iload_n 2, 1, []), (107, .ireturn, 1, [])]
def mMe185 : mM := (⟨"FirstLandingModel", "pairs", "(I)I"⟩, prog_10_method_36_code, 5, (some .int), 1, 1, [1106, 110, 1105, 87], mCo185)
/-- FirstLandingModel.answer(II)I -/
def mCo186 : List mE := [(0, .aload_n 0, 1, []), (1, .iload_n 2, 1, []), (2, .putfield 64, 3, [0, 7, 8, 0, 806]), (5, .iload_n 1, 1, []), (6, .ireturn, 1, [])]
def mMe186 : mM := (⟨"FirstLandingModel", "answer", "(II)I"⟩, prog_10_method_8_code, 3, (some .int), 1, 2, [1110, 110, 1109, 88], mCo186)
/-- FirstLandingModel.well()I -/
def mCo187 : List mE := [(0, .aload_n 0, 1, []), (1, .getfield 22, 3, [0, 7, 4, 0, 802]), (4, .iconst 0, 1, []), (5, .iaload, 1, []), (6, .ifCond .ne 6, 3, [7]), (9, .bipush (-4), 2, []), (11, .ireturn, 1, []), (12, .iconst 0, 1, []), (13, .istore_n 1, 1, []), (14, .iconst 0, 1, []), (15, .istore_n 2, 1, []), (16, .iload_n 2, 1, []), (17, .iconst 1, 1, []), (18, .aload_n 0, 1, []), (19, .getfield 22, 3, [0, 7, 4, 0, 802]), (22, .iconst 0, 1, []), (23, .iaload, 1, []), (24, .ishl, 1, []), (25, .if_icmp .ge 43, 3, [43]), (28, .iload_n 2, 1, []), (29, .invokestatic 187, 3, [0, 166, 0, 0, 1027]), (32, .istore_n 3, 1, []), (33, .iload_n 3, 1, []), (34, .iload_n 1, 1, []), (35, .invokestatic 187, 3, [0, 166, 0, 0, 1027]), (38, .if_icmp .le 22, 3, [39]), (41, .aload_n 0, 1, []), (42, .iload_n 2, 1, []), (43, .invokevirtual 219, 3, [0, 185, 0, 0, 1103]), (46, .iload_n 3, 1, []), (47, .iload_n 3, 1, []), (48, .iconst 1, 1, []), (49, .isub, 1, []), (50, .imul, 1, []), (51, .iconst 2, 1, []), (52, .idiv, 1, []), (53, .if_icmp .ne 7, 3, [39]), (56, .iload_n 2, 1, []), (57, .goto 4, 3, [40]), (60, .iload_n 1, 1, []), (61, .istore_n 1, 1, []), (62, .iinc 2 1, 3, []), (65, .goto (-49), 3, [11]), (68, .aload_n 0, 1, []), (69, .iload_n 1, 1, []), (70, .invokestatic 187, 3, [0, 166, 0, 0, 1027]), (73, .iload_n 1, 1, []), (74, .invokevirtual 222, 3, [0, 186, 0, 0, 1107]), (77, .ireturn, 1, [])]
def mMe187 : mM := (⟨"FirstLandingModel", "well", "()I"⟩, prog_10_method_65_code, 4, (some .int), 1, 0, [1114, 110, 1112, 1113], mCo187)
/-- FirstLandingModel.add(I)I -/
def mCo188 : List mE := [(0, .aload_n 0, 1, []), (1, .iload_n 1, 1, []), (2, .invokevirtual 213, 3, [0, 181, 0, 0, 1087]), (5, .ifCond .ne 5, 3, [6]), (8, .iconst (-1), 1, []), (9, .ireturn, 1, []), (10, .bipush (-9), 2, []), (12, .istore_n 2, 1, []), (13, .iconst (-1), 1, []), (14, .istore_n 3, 1, []), (15, .iconst 0, 1, []), (16, .istore 4, 2, []), (18, .iload 4, 2, []), (20, .aload_n 0, 1, []), (21, .getfield 22, 3, [0, 7, 4, 0, 802]), (24, .iconst 0, 1, []), (25, .iaload, 1, []), (26, .if_icmp .ge 56, 3, [46]), (29, .iload_n 1, 1, []), (30, .iload 4, 2, []), (32, .invokestatic 122, 3, [0, 149, 0, 0, 961]), (35, .ifCond .ne 41, 3, [44]), (38, .aload_n 0, 1, []), (39, .iload_n 1, 1, []), (40, .iconst 1, 1, []), (41, .iload 4, 2, []), (43, .ishl, 1, []), (44, .ior, 1, []), (45, .invokevirtual 219, 3, [0, 185, 0, 0, 1103]), (48, .istore 5, 2, []), (50, .iload 5, 2, []), (52, .iload_n 3, 1, []), (53, .if_icmp .le 8, 3, [35]), (56, .iload 4, 2, []), (58, .goto 4, 3, [36]), (61, .iload_n 2, 1, []), (62, .istore_n 2, 1, []), (63, .iload 5, 2, []), (65, .iload_n 3, 1, []), (66, .if_icmp .le 8, 3, [42]), (69, .iload 5, 2, []), (71, .goto 4, 3, [43]), (74, .iload_n 3, 1, []), (75, .istore_n 3, 1, []), (76, .iinc 4 1, 3, []), (79, .goto (-61), 3, [12]), (82, .iload_n 2, 1, []), (83, .bipush (-9), 2, []), (85, .if_icmp .ne 8, 3, [51]), (88, .bipush (-9), 2, []), (90, .goto 9, 3, [55]), (93, .aload_n 0, 1, []), (94, .iload_n 2, 1, []), (95, .iload_n 3, 1, []), (96, .invokevirtual 222, 3, [0, 186, 0, 0, 1107]), (99, .ireturn, 1, [])]
def mMe188 : mM := (⟨"FirstLandingModel", "add", "(I)I"⟩, prog_10_method_66_code, 6, (some .int), 1, 1, [1118, 110, 1116, 1117], mCo188)
/-- FirstLandingModel.worst(I)I -/
def mCo189 : List mE := [(0, .aload_n 0, 1, []), (1, .iload_n 1, 1, []), (2, .invokevirtual 213, 3, [0, 181, 0, 0, 1087]), (5, .ifCond .ne 5, 3, [6]), (8, .iconst (-1), 1, []), (9, .ireturn, 1, []), (10, .aload_n 0, 1, []), (11, .iload_n 1, 1, []), (12, .invokevirtual 216, 3, [0, 183, 0, 0, 1095]), (15, .istore_n 2, 1, []), (16, .bipush (-9), 2, []), (18, .istore_n 3, 1, []), (19, .iconst (-1), 1, []), (20, .istore 4, 2, []), (22, .iconst 0, 1, []), (23, .istore 5, 2, []), (25, .iload 5, 2, []), (27, .aload_n 0, 1, []), (28, .getfield 22, 3, [0, 7, 4, 0, 802]), (31, .iconst 0, 1, []), (32, .iaload, 1, []), (33, .if_icmp .ge 110, 3, [75]), (36, .iload 5, 2, []), (38, .iconst 1, 1, []), (39, .iadd, 1, []), (40, .istore 6, 2, []), (42, .iload 6, 2, []), (44, .aload_n 0, 1, []), (45, .getfield 22, 3, [0, 7, 4, 0, 802]), (48, .iconst 0, 1, []), (49, .iaload, 1, []), (50, .if_icmp .ge 87, 3, [73]), (53, .iload_n 2, 1, []), (54, .iload 5, 2, []), (56, .invokestatic 122, 3, [0, 149, 0, 0, 961]), (59, .ifCond .eq 33, 3, [51]), (62, .iload_n 2, 1, []), (63, .iload 6, 2, []), (65, .invokestatic 122, 3, [0, 149, 0, 0, 961]), (68, .ifCond .eq 24, 3, [51]), (71, .aload_n 0, 1, []), (72, .iload 5, 2, []), (74, .iload_n 1, 1, []), (75, .invokevirtual 136, 3, [0, 150, 0, 0, 964]), (78, .aload_n 0, 1, []), (79, .iload 6, 2, []), (81, .iload_n 1, 1, []), (82, .invokevirtual 136, 3, [0, 150, 0, 0, 964]), (85, .isub, 1, []), (86, .invokestatic 139, 3, [0, 172, 0, 0, 1051]), (89, .goto 4, 3, [52]), (92, .iconst (-1), 1, []), (93, .istore 7, 2, []), (95, .iload 7, 2, []), (97, .iload 4, 2, []), (99, .if_icmp .le 14, 3, [62]), (102, .bipush 6, 2, []), (104, .iload 5, 2, []), (106, .imul, 1, []), (107, .iload 6, 2, []), (109, .iadd, 1, []), (110, .goto 4, 3, [63]), (113, .iload_n 3, 1, []), (114, .istore_n 3, 1, []), (115, .iload 7, 2, []), (117, .iload 4, 2, []), (119, .if_icmp .le 8, 3, [69]), (122, .iload 7, 2, []), (124, .goto 5, 3, [70]), (127, .iload 4, 2, []), (129, .istore 4, 2, []), (131, .iinc 6 1, 3, []), (134, .goto (-92), 3, [26]), (137, .iinc 5 1, 3, []), (140, .goto (-115), 3, [16]), (143, .iload_n 3, 1, []), (144, .bipush (-9), 2, []), (146, .if_icmp .ne 8, 3, [80]), (149, .bipush (-9), 2, []), (151, .goto 10, 3, [84]), (154, .aload_n 0, 1, []), (155, .iload_n 3, 1, []), (156, .iload 4, 2, []), (158, .invokevirtual 222, 3, [0, 186, 0, 0, 1107]), (161, .ireturn, 1, [])]
def mMe189 : mM := (⟨"FirstLandingModel", "worst", "(I)I"⟩, prog_10_method_67_code, 8, (some .int), 1, 1, [1122, 110, 1120, 1121], mCo189)
/-- FirstLandingModel.steps(I)I -/
def mCo190 : List mE := [(0, .iload_n 1, 1, []), (1, .invokestatic 75, 3, [0, 126, 0, 0, 867]), (4, .ifCond .ne 5, 3, [5]), (7, .iconst (-1), 1, []), (8, .ireturn, 1, []), (9, .aload_n 0, 1, []), (10, .getfield 22, 3, [0, 7, 4, 0, 802]), (13, .iconst 0, 1, []), (14, .iaload, 1, []), (15, .ifCond .ne 6, 3, [12]), (18, .bipush (-4), 2, []), (20, .ireturn, 1, []), (21, .aload_n 0, 1, []), (22, .getfield 7, 3, [0, 7, 0, 0, 798]), (25, .iload_n 1, 1, []), (26, .iaload, 1, []), (27, .ifCond .ge 9, 3, [21]), (30, .aload_n 0, 1, []), (31, .iconst 1, 1, []), (32, .invokevirtual 79, 3, [0, 128, 0, 0, 874]), (35, .ireturn, 1, []), (36, .aload_n 0, 1, []), (37, .getfield 7, 3, [0, 7, 0, 0, 798]), (40, .iload_n 1, 1, []), (41, .iaload, 1, []), (42, .iconst 2, 1, []), (43, .irem, 1, []), (44, .iconst 1, 1, []), (45, .if_icmp .eq 22, 3, [38]), (48, .aload_n 0, 1, []), (49, .getfield 7, 3, [0, 7, 0, 0, 798]), (52, .iload_n 1, 1, []), (53, .iaload, 1, []), (54, .i2l, 1, []), (55, .ldc2_w 211, 3, [0, 2, 0, 0, 1078]), (58, .ldc2_w 225, 3, [0, 8, 0, 0, 1127]), (61, .invokestatic 69, 3, [0, 127, 0, 0, 871]), (64, .ifCond .ne 9, 3, [42]), (67, .aload_n 0, 1, []), (68, .iconst 5, 1, []), (69, .invokevirtual 79, 3, [0, 128, 0, 0, 874]), (72, .ireturn, 1, []), (73, .aload_n 0, 1, []), (74, .iload_n 1, 1, []), (75, .invokevirtual 227, 3, [0, 191, 0, 0, 1128]), (78, .ifCond .ne 9, 3, [50]), (81, .aload_n 0, 1, []), (82, .iconst 3, 1, []), (83, .invokevirtual 79, 3, [0, 128, 0, 0, 874]), (86, .ireturn, 1, []), (87, .aload_n 0, 1, []), (88, .getfield 7, 3, [0, 7, 0, 0, 798]), (91, .iload_n 1, 1, []), (92, .iaload, 1, []), (93, .iconst 2, 1, []), (94, .idiv, 1, []), (95, .istore_n 2, 1, []), (96, .aload_n 0, 1, []), (97, .iload_n 1, 1, []), (98, .iload_n 2, 1, []), (99, .invokevirtual 230, 3, [0, 192, 0, 0, 1132]), (102, .aload_n 0, 1, []), (103, .iconst 1, 1, []), (104, .iload_n 2, 1, []), (105, .ishl, 1, []), (106, .iconst 1, 1, []), (107, .isub, 1, []), (108, .invokevirtual 233, 3, [0, 193, 0, 0, 1136]), (111, .aload_n 0, 1, []), (112, .getfield 22, 3, [0, 7, 4, 0, 802]), (115, .bipush 43, 2, []), (117, .iaload, 1, []), (118, .istore_n 3, 1, []), (119, .aload_n 0, 1, []), (120, .getfield 45, 3, [0, 7, 16, 0, 814]), (123, .iload_n 3, 1, []), (124, .iaload, 1, []), (125, .istore 4, 2, []), (127, .aload_n 0, 1, []), (128, .getfield 42, 3, [0, 7, 15, 0, 813]), (131, .bipush 16, 2, []), (133, .iload_n 3, 1, []), (134, .imul, 1, []), (135, .iload 4, 2, []), (137, .iadd, 1, []), (138, .iaload, 1, []), (139, .istore 5, 2, []), (141, .iload 5, 2, []), (143, .ldc 121, 2, [0, 1000000, 0, 0, 972]), (145, .if_icmp .lt 6, 3, [92]), (148, .bipush (-9), 2, []), (150, .ireturn, 1, []), (151, .bipush (-9), 2, []), (153, .istore 6, 2, []), (155, .aload_n 0, 1, []), (156, .getfield 22, 3, [0, 7, 4, 0, 802]), (159, .iconst 0, 1, []), (160, .iaload, 1, []), (161, .iconst 1, 1, []), (162, .isub, 1, []), (163, .istore 7, 2, []), (165, .iload 7, 2, []), (167, .ifCond .lt 59, 3, [134]), (170, .iload 5, 2, []), (172, .ifCond .le 54, 3, [134]), (175, .iload_n 3, 1, []), (176, .iconst 1, 1, []), (177, .iload 7, 2, []), (179, .ishl, 1, []), (180, .ixor, 1, []), (181, .istore 8, 2, []), (183, .aload_n 0, 1, []), (184, .getfield 42, 3, [0, 7, 15, 0, 813]), (187, .bipush 16, 2, []), (189, .iload 8, 2, []), (191, .imul, 1, []), (192, .iload 4, 2, []), (194, .aload_n 0, 1, []), (195, .getfield 45, 3, [0, 7, 16, 0, 814]), (198, .iload 8, 2, []), (200, .iaload, 1, []), (201, .ior, 1, []), (202, .iadd, 1, []), (203, .iaload, 1, []), (204, .iload 5, 2, []), (206, .iconst 1, 1, []), (207, .isub, 1, []), (208, .if_icmp .ne 8, 3, [130]), (211, .iload 7, 2, []), (213, .goto 5, 3, [131]), (216, .iload 6, 2, []), (218, .istore 6, 2, []), (220, .iinc 7 (-1), 3, []), (223, .goto (-58), 3, [101]), (226, .aload_n 0, 1, []), (227, .iload 5, 2, []), (229, .iload 6, 2, []), (231, .invokevirtual 222, 3, [0, 186, 0, 0, 1107]), (234, .ireturn, 1, [])]
def mMe190 : mM := (⟨"FirstLandingModel", "steps", "(I)I"⟩, prog_10_method_71_code, 9, (some .int), 1, 1, [1126, 110, 1124, 1125], mCo190)
/-- FirstLandingModel.arePairs(I)Z -/
def mCo191 : List mE := [(0, .iconst 1, 1, []), (1, .istore_n 2, 1, []), (2, .iconst 0, 1, []), (3, .istore_n 3, 1, []), (4, .iload_n 3, 1, []), (5, .aload_n 0, 1, []), (6, .getfield 7, 3, [0, 7, 0, 0, 798]), (9, .iload_n 1, 1, []), (10, .iaload, 1, []), (11, .if_icmp .ge 80, 3, [58]), (14, .iload_n 2, 1, []), (15, .ifCond .eq 25, 3, [25]), (18, .aload_n 0, 1, []), (19, .aload_n 0, 1, []), (20, .getfield 13, 3, [0, 7, 1, 0, 799]), (23, .bipush 40, 2, []), (25, .iload_n 1, 1, []), (26, .imul, 1, []), (27, .iload_n 3, 1, []), (28, .iadd, 1, []), (29, .iaload, 1, []), (30, .invokevirtual 155, 3, [0, 147, 0, 0, 952]), (33, .ifCond .eq 7, 3, [25]), (36, .iconst 1, 1, []), (37, .goto 4, 3, [26]), (40, .iconst 0, 1, []), (41, .istore_n 2, 1, []), (42, .iload_n 2, 1, []), (43, .ifCond .eq 40, 3, [54]), (46, .iload_n 3, 1, []), (47, .iconst 2, 1, []), (48, .irem, 1, []), (49, .ifCond .eq 30, 3, [52]), (52, .aload_n 0, 1, []), (53, .getfield 13, 3, [0, 7, 1, 0, 799]), (56, .bipush 40, 2, []), (58, .iload_n 1, 1, []), (59, .imul, 1, []), (60, .iload_n 3, 1, []), (61, .iadd, 1, []), (62, .iaload, 1, []), (63, .aload_n 0, 1, []), (64, .getfield 13, 3, [0, 7, 1, 0, 799]), (67, .bipush 40, 2, []), (69, .iload_n 1, 1, []), (70, .imul, 1, []), (71, .iload_n 3, 1, []), (72, .iadd, 1, []), (73, .iconst 1, 1, []), (74, .isub, 1, []), (75, .iaload, 1, []), (76, .if_icmp .eq 7, 3, [54]), (79, .iconst 1, 1, []), (80, .goto 4, 3, [55]), (83, .iconst 0, 1, []), (84, .istore_n 2, 1, []), (85, .iinc 3 1, 3, []), (88, .goto (-84), 3, [4]), (91, .iload_n 2, 1, []), (92, .ireturn, 1, [])]
def mMe191 : mM := (⟨"FirstLandingModel", "arePairs", "(I)Z"⟩, prog_10_method_70_code, 4, (some .boolean), 1, 1, [1131, 110, 1130, 89], mCo191)
/-- FirstLandingModel.layAgreed(II)V -/
def mCo192 : List mE := [(0, .iconst 0, 1, []), (1, .istore_n 3, 1, []), (2, .iload_n 3, 1, []), (3, .iconst 1, 1, []), (4, .aload_n 0, 1, []), (5, .getfield 22, 3, [0, 7, 4, 0, 802]), (8, .iconst 0, 1, []), (9, .iaload, 1, []), (10, .ishl, 1, []), (11, .if_icmp .ge 112, 3, [72]), (14, .iconst 0, 1, []), (15, .istore 4, 2, []), (17, .iconst 0, 1, []), (18, .istore 5, 2, []), (20, .iload 5, 2, []), (22, .iload_n 2, 1, []), (23, .if_icmp .ge 86, 3, [65]), (26, .aload_n 0, 1, []), (27, .getfield 13, 3, [0, 7, 1, 0, 799]), (30, .bipush 40, 2, []), (32, .iload_n 1, 1, []), (33, .imul, 1, []), (34, .iconst 2, 1, []), (35, .iload 5, 2, []), (37, .imul, 1, []), (38, .iadd, 1, []), (39, .iaload, 1, []), (40, .istore 6, 2, []), (42, .aload_n 0, 1, []), (43, .getfield 13, 3, [0, 7, 1, 0, 799]), (46, .bipush 40, 2, []), (48, .iload_n 1, 1, []), (49, .imul, 1, []), (50, .iconst 2, 1, []), (51, .iload 5, 2, []), (53, .imul, 1, []), (54, .iadd, 1, []), (55, .iconst 1, 1, []), (56, .iadd, 1, []), (57, .iaload, 1, []), (58, .istore 7, 2, []), (60, .iload 4, 2, []), (62, .iload_n 3, 1, []), (63, .iload 6, 2, []), (65, .invokestatic 122, 3, [0, 149, 0, 0, 961]), (68, .ifCond .eq 31, 3, [60]), (71, .iload_n 3, 1, []), (72, .iload 7, 2, []), (74, .invokestatic 122, 3, [0, 149, 0, 0, 961]), (77, .ifCond .eq 22, 3, [60]), (80, .aload_n 0, 1, []), (81, .iload 6, 2, []), (83, .iload 7, 2, []), (85, .iload_n 3, 1, []), (86, .invokevirtual 145, 3, [0, 171, 0, 0, 1047]), (89, .ifCond .eq 10, 3, [60]), (92, .iconst 1, 1, []), (93, .iload 5, 2, []), (95, .ishl, 1, []), (96, .goto 4, 3, [61]), (99, .iconst 0, 1, []), (100, .ior, 1, []), (101, .istore 4, 2, []), (103, .iinc 5 1, 3, []), (106, .goto (-86), 3, [14]), (109, .aload_n 0, 1, []), (110, .getfield 45, 3, [0, 7, 16, 0, 814]), (113, .iload_n 3, 1, []), (114, .iload 4, 2, []), (116, .iastore, 1, []), (117, .iinc 3 1, 3, []), (120, .goto (-118), 3, [2]), (123, .return_, 1, [])]
def mMe192 : mM := (⟨"FirstLandingModel", "layAgreed", "(II)V"⟩, prog_10_method_68_code, 8, none, 1, 2, [1135, 110, 1134, 90], mCo192)
/-- FirstLandingModel.layFar(I)V -/
def mCo193 : List mE := [(0, .iconst 0, 1, []), (1, .istore_n 2, 1, []), (2, .iload_n 2, 1, []), (3, .sipush 1024, 3, []), (6, .if_icmp .ge 29, 3, [19]), (9, .aload_n 0, 1, []), (10, .getfield 42, 3, [0, 7, 15, 0, 813]), (13, .iload_n 2, 1, []), (14, .iload_n 2, 1, []), (15, .bipush 16, 2, []), (17, .irem, 1, []), (18, .iload_n 1, 1, []), (19, .if_icmp .ne 7, 3, [15]), (22, .iconst 0, 1, []), (23, .goto 5, 3, [16]), (26, .ldc 121, 2, [0, 1000000, 0, 0, 972]), (28, .iastore, 1, []), (29, .iinc 2 1, 3, []), (32, .goto (-30), 3, [2]), (35, .iconst 1, 1, []), (36, .istore_n 2, 1, []), (37, .iload_n 2, 1, []), (38, .ifCond .eq 156, 3, [113]), (41, .iconst 0, 1, []), (42, .istore_n 2, 1, []), (43, .iconst 0, 1, []), (44, .istore_n 3, 1, []), (45, .iload_n 3, 1, []), (46, .iconst 1, 1, []), (47, .aload_n 0, 1, []), (48, .getfield 22, 3, [0, 7, 4, 0, 802]), (51, .iconst 0, 1, []), (52, .iaload, 1, []), (53, .ishl, 1, []), (54, .if_icmp .ge 137, 3, [112]), (57, .iconst 0, 1, []), (58, .istore 4, 2, []), (60, .iload 4, 2, []), (62, .iload_n 1, 1, []), (63, .if_icmp .ge 122, 3, [110]), (66, .aload_n 0, 1, []), (67, .getfield 42, 3, [0, 7, 15, 0, 813]), (70, .bipush 16, 2, []), (72, .iload_n 3, 1, []), (73, .imul, 1, []), (74, .iload 4, 2, []), (76, .iadd, 1, []), (77, .iaload, 1, []), (78, .istore 5, 2, []), (80, .iconst 0, 1, []), (81, .istore 6, 2, []), (83, .iload 6, 2, []), (85, .aload_n 0, 1, []), (86, .getfield 22, 3, [0, 7, 4, 0, 802]), (89, .iconst 0, 1, []), (90, .iaload, 1, []), (91, .if_icmp .ge 47, 3, [83]), (94, .iload_n 3, 1, []), (95, .iconst 1, 1, []), (96, .iload 6, 2, []), (98, .ishl, 1, []), (99, .ixor, 1, []), (100, .istore 7, 2, []), (102, .iload 5, 2, []), (104, .aload_n 0, 1, []), (105, .getfield 42, 3, [0, 7, 15, 0, 813]), (108, .bipush 16, 2, []), (110, .iload 7, 2, []), (112, .imul, 1, []), (113, .iload 4, 2, []), (115, .aload_n 0, 1, []), (116, .getfield 45, 3, [0, 7, 16, 0, 814]), (119, .iload 7, 2, []), (121, .iaload, 1, []), (122, .ior, 1, []), (123, .iadd, 1, []), (124, .iaload, 1, []), (125, .iconst 1, 1, []), (126, .iadd, 1, []), (127, .invokestatic 129, 3, [0, 153, 0, 0, 977]), (130, .istore 5, 2, []), (132, .iinc 6 1, 3, []), (135, .goto (-52), 3, [51]), (138, .iload_n 2, 1, []), (139, .ifCond .ne 20, 3, [95]), (142, .iload 5, 2, []), (144, .aload_n 0, 1, []), (145, .getfield 42, 3, [0, 7, 15, 0, 813]), (148, .bipush 16, 2, []), (150, .iload_n 3, 1, []), (151, .imul, 1, []), (152, .iload 4, 2, []), (154, .iadd, 1, []), (155, .iaload, 1, []), (156, .if_icmp .ge 7, 3, [97]), (159, .iconst 1, 1, []), (160, .goto 4, 3, [98]), (163, .iconst 0, 1, []), (164, .istore_n 2, 1, []), (165, .aload_n 0, 1, []), (166, .getfield 42, 3, [0, 7, 15, 0, 813]), (169, .bipush 16, 2, []), (171, .iload_n 3, 1, []), (172, .imul, 1, []), (173, .iload 4, 2, []), (175, .iadd, 1, []), (176, .iload 5, 2, []), (178, .iastore, 1, []), (179, .iinc 4 1, 3, []), (182, .goto (-122), 3, [37]), (185, .iinc 3 1, 3, []), (188, .goto (-143), 3, [27]), (191, .goto (-154), 3, [21]), (194, .return_, 1, [])]
def mMe193 : mM := (⟨"FirstLandingModel", "layFar", "(I)V"⟩, prog_10_method_69_code, 8, none, 1, 1, [1139, 110, 1138, 91], mCo193)
/-- FirstLandingModel.meetings(III)I -/
def mCo194 : List mE := [(0, .aload_n 0, 1, []), (1, .iload_n 1, 1, []), (2, .invokevirtual 155, 3, [0, 147, 0, 0, 952]), (5, .ifCond .eq 23, 3, [14]), (8, .aload_n 0, 1, []), (9, .iload_n 2, 1, []), (10, .invokevirtual 213, 3, [0, 181, 0, 0, 1087]), (13, .ifCond .eq 15, 3, [14]), (16, .iload_n 3, 1, []), (17, .i2l, 1, []), (18, .lconst 0, 1, []), (19, .ldc2_w 190, 3, [0, 9, 0, 0, 1034]), (22, .invokestatic 69, 3, [0, 127, 0, 0, 871]), (25, .ifCond .ne 5, 3, [16]), (28, .iconst (-1), 1, []), (29, .ireturn, 1, []), (30, .iconst 0, 1, []), (31, .istore 4, 2, []), (33, .iconst 1, 1, []), (34, .istore 5, 2, []), (36, .iconst 0, 1, []), (37, .istore 6, 2, []), (39, .iload 6, 2, []), (41, .aload_n 0, 1, []), (42, .getfield 22, 3, [0, 7, 4, 0, 802]), (45, .iconst 0, 1, []), (46, .iaload, 1, []), (47, .if_icmp .ge 53, 3, [52]), (50, .iload 6, 2, []), (52, .iload_n 1, 1, []), (53, .if_icmp .eq 41, 3, [50]), (56, .iload_n 2, 1, []), (57, .iload 6, 2, []), (59, .invokestatic 122, 3, [0, 149, 0, 0, 961]), (62, .ifCond .eq 32, 3, [50]), (65, .aload_n 0, 1, []), (66, .iload_n 1, 1, []), (67, .iload 6, 2, []), (69, .invokevirtual 125, 3, [0, 152, 0, 0, 973]), (72, .ifCond .ne 22, 3, [50]), (75, .aload_n 0, 1, []), (76, .getfield 48, 3, [0, 7, 17, 0, 815]), (79, .iload 4, 2, []), (81, .iload 6, 2, []), (83, .iastore, 1, []), (84, .iinc 4 1, 3, []), (87, .iload 5, 2, []), (89, .bipush 10, 2, []), (91, .imul, 1, []), (92, .istore 5, 2, []), (94, .iinc 6 1, 3, []), (97, .goto (-58), 3, [22]), (100, .ldc 121, 2, [0, 1000000, 0, 0, 972]), (102, .istore 6, 2, []), (104, .iconst 0, 1, []), (105, .istore 7, 2, []), (107, .iload 7, 2, []), (109, .iload 5, 2, []), (111, .if_icmp .ge 108, 3, [115]), (114, .iconst 0, 1, []), (115, .istore 8, 2, []), (117, .iload 7, 2, []), (119, .istore 9, 2, []), (121, .iconst 0, 1, []), (122, .istore 10, 2, []), (124, .iload 10, 2, []), (126, .iload 4, 2, []), (128, .if_icmp .ge 59, 3, [100]), (131, .aload_n 0, 1, []), (132, .getfield 22, 3, [0, 7, 4, 0, 802]), (135, .bipush 7, 2, []), (137, .bipush 6, 2, []), (139, .iload_n 1, 1, []), (140, .imul, 1, []), (141, .iadd, 1, []), (142, .aload_n 0, 1, []), (143, .getfield 48, 3, [0, 7, 17, 0, 815]), (146, .iload 10, 2, []), (148, .iaload, 1, []), (149, .iadd, 1, []), (150, .iload 9, 2, []), (152, .bipush 10, 2, []), (154, .irem, 1, []), (155, .iastore, 1, []), (156, .iload 8, 2, []), (158, .iload 9, 2, []), (160, .bipush 10, 2, []), (162, .irem, 1, []), (163, .ifCond .le 7, 3, [91]), (166, .iconst 1, 1, []), (167, .goto 4, 3, [92]), (170, .iconst 0, 1, []), (171, .iadd, 1, []), (172, .istore 8, 2, []), (174, .iload 9, 2, []), (176, .bipush 10, 2, []), (178, .idiv, 1, []), (179, .istore 9, 2, []), (181, .iinc 10 1, 3, []), (184, .goto (-60), 3, [65]), (187, .iload 8, 2, []), (189, .iload 6, 2, []), (191, .if_icmp .ge 18, 3, [111]), (194, .aload_n 0, 1, []), (195, .iload_n 1, 1, []), (196, .iload_n 2, 1, []), (197, .invokevirtual 136, 3, [0, 150, 0, 0, 964]), (200, .iload_n 3, 1, []), (201, .if_icmp .ne 8, 3, [111]), (204, .iload 8, 2, []), (206, .goto 5, 3, [112]), (209, .iload 6, 2, []), (211, .istore 6, 2, []), (213, .iinc 7 1, 3, []), (216, .goto (-109), 3, [56]), (219, .iconst 0, 1, []), (220, .istore 7, 2, []), (222, .iload 7, 2, []), (224, .iload 4, 2, []), (226, .if_icmp .ge 30, 3, [136]), (229, .aload_n 0, 1, []), (230, .getfield 22, 3, [0, 7, 4, 0, 802]), (233, .bipush 7, 2, []), (235, .bipush 6, 2, []), (237, .iload_n 1, 1, []), (238, .imul, 1, []), (239, .iadd, 1, []), (240, .aload_n 0, 1, []), (241, .getfield 48, 3, [0, 7, 17, 0, 815]), (244, .iload 7, 2, []), (246, .iaload, 1, []), (247, .iadd, 1, []), (248, .iconst 0, 1, []), (249, .iastore, 1, []), (250, .iinc 7 1, 3, []), (253, .goto (-31), 3, [117]), (256, .iload 6, 2, []), (258, .ldc 121, 2, [0, 1000000, 0, 0, 972]), (260, .if_icmp .ne 8, 3, [141]), (263, .bipush (-9), 2, []), (265, .goto 5, 3, [142]), (268, .iload 6, 2, []), (270, .ireturn, 1, [])]
def mMe194 : mM := (⟨"FirstLandingModel", "meetings", "(III)I"⟩, prog_10_method_72_code, 11, (some .int), 1, 3, [1143, 110, 1141, 1142], mCo194)
/-- FirstLandingModel.fits(III)I -/
def mCo195 : List mE := [(0, .aload_n 0, 1, []), (1, .iload_n 1, 1, []), (2, .invokevirtual 155, 3, [0, 147, 0, 0, 952]), (5, .ifCond .eq 23, 3, [14]), (8, .aload_n 0, 1, []), (9, .iload_n 2, 1, []), (10, .invokevirtual 155, 3, [0, 147, 0, 0, 952]), (13, .ifCond .eq 15, 3, [14]), (16, .iload_n 1, 1, []), (17, .iload_n 2, 1, []), (18, .if_icmp .eq 10, 3, [14]), (21, .iload_n 3, 1, []), (22, .invokestatic 75, 3, [0, 126, 0, 0, 867]), (25, .ifCond .ne 5, 3, [16]), (28, .iconst (-1), 1, []), (29, .ireturn, 1, []), (30, .aload_n 0, 1, []), (31, .iload_n 3, 1, []), (32, .invokevirtual 236, 3, [0, 196, 0, 0, 1148]), (35, .istore 4, 2, []), (37, .iload 4, 2, []), (39, .ifCond .eq 10, 3, [26]), (42, .aload_n 0, 1, []), (43, .iload 4, 2, []), (45, .invokevirtual 79, 3, [0, 128, 0, 0, 874]), (48, .ireturn, 1, []), (49, .aload_n 0, 1, []), (50, .iload_n 1, 1, []), (51, .iload_n 2, 1, []), (52, .invokevirtual 125, 3, [0, 152, 0, 0, 973]), (55, .istore 5, 2, []), (57, .iconst 0, 1, []), (58, .istore 6, 2, []), (60, .iconst 0, 1, []), (61, .istore 7, 2, []), (63, .iload 7, 2, []), (65, .bipush 10, 2, []), (67, .if_icmp .ge 55, 3, [70]), (70, .aload_n 0, 1, []), (71, .getfield 22, 3, [0, 7, 4, 0, 802]), (74, .bipush 7, 2, []), (76, .bipush 6, 2, []), (78, .iload_n 1, 1, []), (79, .imul, 1, []), (80, .iadd, 1, []), (81, .iload_n 2, 1, []), (82, .iadd, 1, []), (83, .iload 7, 2, []), (85, .iastore, 1, []), (86, .iload 6, 2, []), (88, .aload_n 0, 1, []), (89, .iload_n 1, 1, []), (90, .aload_n 0, 1, []), (91, .getfield 22, 3, [0, 7, 4, 0, 802]), (94, .iconst 1, 1, []), (95, .iload_n 1, 1, []), (96, .iadd, 1, []), (97, .iaload, 1, []), (98, .iload_n 3, 1, []), (99, .invokevirtual 239, 3, [0, 197, 0, 0, 1152]), (102, .ifCond .eq 10, 3, [65]), (105, .iconst 1, 1, []), (106, .iload 7, 2, []), (108, .ishl, 1, []), (109, .goto 4, 3, [66]), (112, .iconst 0, 1, []), (113, .ior, 1, []), (114, .istore 6, 2, []), (116, .iinc 7 1, 3, []), (119, .goto (-56), 3, [35]), (122, .aload_n 0, 1, []), (123, .getfield 22, 3, [0, 7, 4, 0, 802]), (126, .bipush 7, 2, []), (128, .bipush 6, 2, []), (130, .iload_n 1, 1, []), (131, .imul, 1, []), (132, .iadd, 1, []), (133, .iload_n 2, 1, []), (134, .iadd, 1, []), (135, .iload 5, 2, []), (137, .iastore, 1, []), (138, .iload 6, 2, []), (140, .ireturn, 1, [])]
def mMe195 : mM := (⟨"FirstLandingModel", "fits", "(III)I"⟩, prog_10_method_75_code, 8, (some .int), 1, 3, [1147, 110, 1145, 1146], mCo195)
/-- FirstLandingModel.wrongNotes(I)I -/
def mCo196 : List mE := [(0, .aload_n 0, 1, []), (1, .getfield 7, 3, [0, 7, 0, 0, 798]), (4, .iload_n 1, 1, []), (5, .iaload, 1, []), (6, .ifCond .ge 5, 3, [7]), (9, .iconst 1, 1, []), (10, .ireturn, 1, []), (11, .aload_n 0, 1, []), (12, .getfield 7, 3, [0, 7, 0, 0, 798]), (15, .iload_n 1, 1, []), (16, .iaload, 1, []), (17, .iconst 2, 1, []), (18, .irem, 1, []), (19, .iconst 1, 1, []), (20, .if_icmp .eq 14, 3, [21]), (23, .aload_n 0, 1, []), (24, .getfield 7, 3, [0, 7, 0, 0, 798]), (27, .iload_n 1, 1, []), (28, .iaload, 1, []), (29, .bipush 12, 2, []), (31, .if_icmp .le 5, 3, [23]), (34, .iconst 5, 1, []), (35, .ireturn, 1, []), (36, .iconst 1, 1, []), (37, .istore_n 2, 1, []), (38, .iconst 0, 1, []), (39, .istore_n 3, 1, []), (40, .iload_n 3, 1, []), (41, .aload_n 0, 1, []), (42, .getfield 7, 3, [0, 7, 0, 0, 798]), (45, .iload_n 1, 1, []), (46, .iaload, 1, []), (47, .if_icmp .ge 61, 3, [67]), (50, .iload_n 2, 1, []), (51, .ifCond .eq 49, 3, [63]), (54, .aload_n 0, 1, []), (55, .aload_n 0, 1, []), (56, .getfield 13, 3, [0, 7, 1, 0, 799]), (59, .bipush 40, 2, []), (61, .iload_n 1, 1, []), (62, .imul, 1, []), (63, .iload_n 3, 1, []), (64, .iadd, 1, []), (65, .iaload, 1, []), (66, .invokevirtual 213, 3, [0, 181, 0, 0, 1087]), (69, .ifCond .eq 31, 3, [63]), (72, .aload_n 0, 1, []), (73, .getfield 13, 3, [0, 7, 1, 0, 799]), (76, .bipush 40, 2, []), (78, .iload_n 1, 1, []), (79, .imul, 1, []), (80, .iload_n 3, 1, []), (81, .iadd, 1, []), (82, .iconst 1, 1, []), (83, .iadd, 1, []), (84, .iaload, 1, []), (85, .i2l, 1, []), (86, .lconst 0, 1, []), (87, .ldc2_w 190, 3, [0, 9, 0, 0, 1034]), (90, .invokestatic 69, 3, [0, 127, 0, 0, 871]), (93, .ifCond .eq 7, 3, [63]), (96, .iconst 1, 1, []), (97, .goto 4, 3, [64]), (100, .iconst 0, 1, []), (101, .istore_n 2, 1, []), (102, .iinc 3 2, 3, []), (105, .goto (-65), 3, [27]), (108, .iload_n 2, 1, []), (109, .ifCond .eq 7, 3, [71]), (112, .iconst 0, 1, []), (113, .goto 4, 3, [72]), (116, .iconst 3, 1, []), (117, .ireturn, 1, [])]
def mMe196 : mM := (⟨"FirstLandingModel", "wrongNotes", "(I)I"⟩, prog_10_method_73_code, 4, (some .int), 1, 1, [1151, 110, 1150, 92], mCo196)
/-- FirstLandingModel.isSo(III)Z -/
def mCo197 : List mE := [(0, .iconst 1, 1, []), (1, .istore 4, 2, []), (3, .iconst 0, 1, []), (4, .istore 5, 2, []), (6, .iload 5, 2, []), (8, .aload_n 0, 1, []), (9, .getfield 7, 3, [0, 7, 0, 0, 798]), (12, .iload_n 3, 1, []), (13, .iaload, 1, []), (14, .if_icmp .ge 56, 3, [41]), (17, .iload 4, 2, []), (19, .ifCond .eq 42, 3, [37]), (22, .aload_n 0, 1, []), (23, .iload_n 1, 1, []), (24, .iload_n 2, 1, []), (25, .aload_n 0, 1, []), (26, .getfield 13, 3, [0, 7, 1, 0, 799]), (29, .bipush 40, 2, []), (31, .iload_n 3, 1, []), (32, .imul, 1, []), (33, .iload 5, 2, []), (35, .iadd, 1, []), (36, .iaload, 1, []), (37, .invokevirtual 132, 3, [0, 151, 0, 0, 968]), (40, .aload_n 0, 1, []), (41, .getfield 13, 3, [0, 7, 1, 0, 799]), (44, .bipush 40, 2, []), (46, .iload_n 3, 1, []), (47, .imul, 1, []), (48, .iload 5, 2, []), (50, .iadd, 1, []), (51, .iconst 1, 1, []), (52, .iadd, 1, []), (53, .iaload, 1, []), (54, .if_icmp .ne 7, 3, [37]), (57, .iconst 1, 1, []), (58, .goto 4, 3, [38]), (61, .iconst 0, 1, []), (62, .istore 4, 2, []), (64, .iinc 5 2, 3, []), (67, .goto (-61), 3, [4]), (70, .iload 4, 2, []), (72, .ireturn, 1, [])]
def mMe197 : mM := (⟨"FirstLandingModel", "isSo", "(III)Z"⟩, prog_10_method_74_code, 6, (some .boolean), 1, 3, [1155, 110, 1154, 93], mCo197)
/-- FirstLandingModel.kinds(II)I -/
def mCo198 : List mE := [(0, .aload_n 0, 1, []), (1, .iload_n 1, 1, []), (2, .invokevirtual 155, 3, [0, 147, 0, 0, 952]), (5, .ifCond .eq 10, 3, [7]), (8, .iload_n 2, 1, []), (9, .invokestatic 75, 3, [0, 126, 0, 0, 867]), (12, .ifCond .ne 5, 3, [9]), (15, .iconst (-1), 1, []), (16, .ireturn, 1, []), (17, .aload_n 0, 1, []), (18, .iload_n 2, 1, []), (19, .invokevirtual 236, 3, [0, 196, 0, 0, 1148]), (22, .istore_n 3, 1, []), (23, .iload_n 3, 1, []), (24, .ifCond .eq 9, 3, [19]), (27, .aload_n 0, 1, []), (28, .iload_n 3, 1, []), (29, .invokevirtual 79, 3, [0, 128, 0, 0, 874]), (32, .ireturn, 1, []), (33, .iconst 0, 1, []), (34, .istore 4, 2, []), (36, .iconst 0, 1, []), (37, .istore 5, 2, []), (39, .iload 5, 2, []), (41, .bipush 6, 2, []), (43, .if_icmp .ge 33, 3, [42]), (46, .iload 4, 2, []), (48, .aload_n 0, 1, []), (49, .iload_n 1, 1, []), (50, .iload 5, 2, []), (52, .iload_n 2, 1, []), (53, .invokevirtual 239, 3, [0, 197, 0, 0, 1152]), (56, .ifCond .eq 10, 3, [37]), (59, .iconst 1, 1, []), (60, .iload 5, 2, []), (62, .ishl, 1, []), (63, .goto 4, 3, [38]), (66, .iconst 0, 1, []), (67, .ior, 1, []), (68, .istore 4, 2, []), (70, .iinc 5 1, 3, []), (73, .goto (-34), 3, [23]), (76, .iload 4, 2, []), (78, .ireturn, 1, [])]
def mMe198 : mM := (⟨"FirstLandingModel", "kinds", "(II)I"⟩, prog_10_method_76_code, 6, (some .int), 1, 2, [1159, 110, 1157, 1158], mCo198)
/-- FirstLandingModel.tells(I)I -/
def mCo199 : List mE := [(0, .aload_n 0, 1, []), (1, .iload_n 1, 1, []), (2, .invokevirtual 155, 3, [0, 147, 0, 0, 952]), (5, .ifCond .ne 5, 3, [6]), (8, .iconst (-1), 1, []), (9, .ireturn, 1, []), (10, .iconst 0, 1, []), (11, .istore_n 2, 1, []), (12, .iconst 0, 1, []), (13, .istore_n 3, 1, []), (14, .iconst 0, 1, []), (15, .istore 4, 2, []), (17, .iload 4, 2, []), (19, .iconst 1, 1, []), (20, .aload_n 0, 1, []), (21, .getfield 22, 3, [0, 7, 4, 0, 802]), (24, .iconst 0, 1, []), (25, .iaload, 1, []), (26, .ishl, 1, []), (27, .if_icmp .ge 79, 3, [58]), (30, .iconst 0, 1, []), (31, .istore 5, 2, []), (33, .iconst 0, 1, []), (34, .istore 6, 2, []), (36, .iload 6, 2, []), (38, .bipush 6, 2, []), (40, .if_icmp .ge 25, 3, [39]), (43, .iload 5, 2, []), (45, .iconst 1, 1, []), (46, .aload_n 0, 1, []), (47, .iload_n 1, 1, []), (48, .iload 6, 2, []), (50, .iload 4, 2, []), (52, .invokevirtual 132, 3, [0, 151, 0, 0, 968]), (55, .ishl, 1, []), (56, .ior, 1, []), (57, .istore 5, 2, []), (59, .iinc 6 1, 3, []), (62, .goto (-26), 3, [24]), (65, .iload 5, 2, []), (67, .invokestatic 187, 3, [0, 166, 0, 0, 1027]), (70, .iload_n 3, 1, []), (71, .if_icmp .le 8, 3, [45]), (74, .iload 4, 2, []), (76, .goto 4, 3, [46]), (79, .iload_n 2, 1, []), (80, .istore_n 2, 1, []), (81, .iload 5, 2, []), (83, .invokestatic 187, 3, [0, 166, 0, 0, 1027]), (86, .iload_n 3, 1, []), (87, .if_icmp .le 11, 3, [54]), (90, .iload 5, 2, []), (92, .invokestatic 187, 3, [0, 166, 0, 0, 1027]), (95, .goto 4, 3, [55]), (98, .iload_n 3, 1, []), (99, .istore_n 3, 1, []), (100, .iinc 4 1, 3, []), (103, .goto (-86), 3, [12]), (106, .aload_n 0, 1, []), (107, .iload_n 2, 1, []), (108, .iload_n 3, 1, []), (109, .invokevirtual 222, 3, [0, 186, 0, 0, 1107]), (112, .ireturn, 1, [])]
def mMe199 : mM := (⟨"FirstLandingModel", "tells", "(I)I"⟩, prog_10_method_77_code, 7, (some .int), 1, 1, [1163, 110, 1161, 1162], mCo199)
/-- FirstLandingModel.knows(II)I -/
def mCo200 : List mE := [(0, .aload_n 0, 1, []), (1, .iload_n 1, 1, []), (2, .invokevirtual 155, 3, [0, 147, 0, 0, 952]), (5, .ifCond .eq 24, 3, [15]), (8, .iload_n 2, 1, []), (9, .i2l, 1, []), (10, .lconst 0, 1, []), (11, .ldc2_w 190, 3, [0, 9, 0, 0, 1034]), (14, .invokestatic 69, 3, [0, 127, 0, 0, 871]), (17, .ifCond .eq 12, 3, [15]), (20, .aload_n 0, 1, []), (21, .iload_n 1, 1, []), (22, .iload_n 2, 1, []), (23, .invokevirtual 242, 3, [0, 201, 0, 0, 1168]), (26, .goto 4, 3, [16]), (29, .iconst (-1), 1, []), (30, .ireturn, 1, [])]
def mMe200 : mM := (⟨"FirstLandingModel", "knows", "(II)I"⟩, prog_10_method_79_code, 3, (some .int), 1, 2, [1167, 110, 1165, 1166], mCo200)
/-- FirstLandingModel.knownBy(II)I -/
def mCo201 : List mE := [(0, .iconst 1, 1, []), (1, .iload_n 1, 1, []), (2, .ishl, 1, []), (3, .istore_n 3, 1, []), (4, .iconst 0, 1, []), (5, .istore 4, 2, []), (7, .iload 4, 2, []), (9, .iload_n 2, 1, []), (10, .if_icmp .ge 90, 3, [54]), (13, .iconst 0, 1, []), (14, .istore 5, 2, []), (16, .iconst 0, 1, []), (17, .istore 6, 2, []), (19, .iload 6, 2, []), (21, .aload_n 0, 1, []), (22, .getfield 22, 3, [0, 7, 4, 0, 802]), (25, .iconst 0, 1, []), (26, .iaload, 1, []), (27, .if_icmp .ge 62, 3, [48]), (30, .iconst 0, 1, []), (31, .istore 7, 2, []), (33, .iload 7, 2, []), (35, .aload_n 0, 1, []), (36, .getfield 22, 3, [0, 7, 4, 0, 802]), (39, .iconst 0, 1, []), (40, .iaload, 1, []), (41, .if_icmp .ge 42, 3, [46]), (44, .iload 5, 2, []), (46, .iload_n 3, 1, []), (47, .iload 7, 2, []), (49, .invokestatic 122, 3, [0, 149, 0, 0, 961]), (52, .ifCond .eq 21, 3, [41]), (55, .aload_n 0, 1, []), (56, .iload 6, 2, []), (58, .iload 7, 2, []), (60, .invokevirtual 125, 3, [0, 152, 0, 0, 973]), (63, .ifCond .le 10, 3, [41]), (66, .iconst 1, 1, []), (67, .iload 6, 2, []), (69, .ishl, 1, []), (70, .goto 4, 3, [42]), (73, .iconst 0, 1, []), (74, .ior, 1, []), (75, .istore 5, 2, []), (77, .iinc 7 1, 3, []), (80, .goto (-47), 3, [21]), (83, .iinc 6 1, 3, []), (86, .goto (-67), 3, [13]), (89, .iload_n 3, 1, []), (90, .iload 5, 2, []), (92, .ior, 1, []), (93, .istore_n 3, 1, []), (94, .iinc 4 1, 3, []), (97, .goto (-90), 3, [6]), (100, .iload_n 3, 1, []), (101, .ireturn, 1, [])]
def mMe201 : mM := (⟨"FirstLandingModel", "knownBy", "(II)I"⟩, prog_10_method_78_code, 8, (some .int), 1, 2, [1171, 110, 1170, 94], mCo201)
/-- FirstLandingModel.hears(II)I -/
def mCo202 : List mE := [(0, .aload_n 0, 1, []), (1, .iload_n 1, 1, []), (2, .invokevirtual 155, 3, [0, 147, 0, 0, 952]), (5, .ifCond .eq 11, 3, [8]), (8, .aload_n 0, 1, []), (9, .iload_n 2, 1, []), (10, .invokevirtual 155, 3, [0, 147, 0, 0, 952]), (13, .ifCond .ne 5, 3, [10]), (16, .iconst (-1), 1, []), (17, .ireturn, 1, []), (18, .iconst 0, 1, []), (19, .istore_n 3, 1, []), (20, .iload_n 3, 1, []), (21, .bipush 6, 2, []), (23, .if_icmp .ge 24, 3, [26]), (26, .aload_n 0, 1, []), (27, .iload_n 1, 1, []), (28, .iload_n 3, 1, []), (29, .invokevirtual 242, 3, [0, 201, 0, 0, 1168]), (32, .iload_n 2, 1, []), (33, .invokestatic 122, 3, [0, 149, 0, 0, 961]), (36, .ifCond .eq 5, 3, [24]), (39, .iload_n 3, 1, []), (40, .ireturn, 1, []), (41, .iinc 3 1, 3, []), (44, .goto (-24), 3, [12]), (47, .bipush (-9), 2, []), (49, .ireturn, 1, [])]
def mMe202 : mM := (⟨"FirstLandingModel", "hears", "(II)I"⟩, prog_10_method_80_code, 4, (some .int), 1, 2, [1175, 110, 1173, 1174], mCo202)
/-- FirstLandingModel.missions(I)I -/
def mCo203 : List mE := [(0, .iload_n 1, 1, []), (1, .i2l, 1, []), (2, .lconst 0, 1, []), (3, .ldc2_w 211, 3, [0, 2, 0, 0, 1078]), (6, .invokestatic 69, 3, [0, 127, 0, 0, 871]), (9, .ifCond .ne 5, 3, [8]), (12, .iconst (-1), 1, []), (13, .ireturn, 1, []), (14, .aload_n 0, 1, []), (15, .getfield 22, 3, [0, 7, 4, 0, 802]), (18, .iconst 0, 1, []), (19, .iaload, 1, []), (20, .ifCond .ne 6, 3, [15]), (23, .bipush (-4), 2, []), (25, .ireturn, 1, []), (26, .iload_n 1, 1, []), (27, .ifCond .ne 15, 3, [24]), (30, .aload_n 0, 1, []), (31, .aload_n 0, 1, []), (32, .getfield 22, 3, [0, 7, 4, 0, 802]), (35, .bipush 43, 2, []), (37, .iaload, 1, []), (38, .invokevirtual 219, 3, [0, 185, 0, 0, 1103]), (41, .ireturn, 1, []), (42, .aload_n 0, 1, []), (43, .getfield 51, 3, [0, 7, 18, 0, 816]), (46, .iconst 0, 1, []), (47, .aload_n 0, 1, []), (48, .getfield 22, 3, [0, 7, 4, 0, 802]), (51, .bipush 43, 2, []), (53, .iaload, 1, []), (54, .iastore, 1, []), (55, .aload_n 0, 1, []), (56, .iconst 0, 1, []), (57, .invokevirtual 245, 3, [0, 204, 0, 0, 1180]), (60, .iconst 0, 1, []), (61, .istore_n 2, 1, []), (62, .iload_n 2, 1, []), (63, .ifCond .lt 99, 3, [97]), (66, .aload_n 0, 1, []), (67, .getfield 54, 3, [0, 7, 19, 0, 817]), (70, .iload_n 2, 1, []), (71, .dup2, 1, []), (72, .iaload, 1, []), (73, .iconst 1, 1, []), (74, .iadd, 1, []), (75, .iastore, 1, []), (76, .aload_n 0, 1, []), (77, .getfield 54, 3, [0, 7, 19, 0, 817]), (80, .iload_n 2, 1, []), (81, .iaload, 1, []), (82, .aload_n 0, 1, []), (83, .getfield 22, 3, [0, 7, 4, 0, 802]), (86, .iconst 0, 1, []), (87, .iaload, 1, []), (88, .if_icmp .le 26, 3, [69]), (91, .iinc 2 (-1), 3, []), (94, .iload_n 2, 1, []), (95, .ifCond .lt (-33), 3, [37]), (98, .aload_n 0, 1, []), (99, .iload_n 2, 1, []), (100, .aload_n 0, 1, []), (101, .getfield 57, 3, [0, 7, 20, 0, 818]), (104, .iload_n 2, 1, []), (105, .iconst 1, 1, []), (106, .iadd, 1, []), (107, .iaload, 1, []), (108, .invokevirtual 248, 3, [0, 205, 0, 0, 1184]), (111, .goto (-49), 3, [37]), (114, .aload_n 0, 1, []), (115, .iload_n 2, 1, []), (116, .invokevirtual 251, 3, [0, 206, 0, 0, 1188]), (119, .ifCond .eq (-57), 3, [37]), (122, .iload_n 2, 1, []), (123, .iconst 1, 1, []), (124, .iadd, 1, []), (125, .iconst 2, 1, []), (126, .iload_n 1, 1, []), (127, .imul, 1, []), (128, .if_icmp .ne 23, 3, [92]), (131, .aload_n 0, 1, []), (132, .iload_n 2, 1, []), (133, .aload_n 0, 1, []), (134, .aload_n 0, 1, []), (135, .getfield 51, 3, [0, 7, 18, 0, 816]), (138, .iload_n 2, 1, []), (139, .iconst 1, 1, []), (140, .iadd, 1, []), (141, .iaload, 1, []), (142, .invokevirtual 219, 3, [0, 185, 0, 0, 1103]), (145, .invokevirtual 248, 3, [0, 205, 0, 0, 1184]), (148, .goto (-86), 3, [37]), (151, .iinc 2 1, 3, []), (154, .aload_n 0, 1, []), (155, .iload_n 2, 1, []), (156, .invokevirtual 245, 3, [0, 204, 0, 0, 1180]), (159, .goto (-97), 3, [37]), (162, .aload_n 0, 1, []), (163, .getfield 57, 3, [0, 7, 20, 0, 818]), (166, .iconst 0, 1, []), (167, .iaload, 1, []), (168, .ireturn, 1, [])]
def mMe203 : mM := (⟨"FirstLandingModel", "missions", "(I)I"⟩, prog_10_method_84_code, 3, (some .int), 1, 1, [1179, 110, 1177, 1178], mCo203)
/-- FirstLandingModel.beginsStep(I)V -/
def mCo204 : List mE := [(0, .aload_n 0, 1, []), (1, .getfield 54, 3, [0, 7, 19, 0, 817]), (4, .iload_n 1, 1, []), (5, .iconst (-1), 1, []), (6, .iastore, 1, []), (7, .aload_n 0, 1, []), (8, .getfield 57, 3, [0, 7, 20, 0, 818]), (11, .iload_n 1, 1, []), (12, .bipush (-9), 2, []), (14, .iastore, 1, []), (15, .return_, 1, [])]
def mMe204 : mM := (⟨"FirstLandingModel", "beginsStep", "(I)V"⟩, prog_10_method_81_code, 2, none, 1, 1, [1183, 110, 1182, 95], mCo204)
/-- FirstLandingModel.weighs(II)V -/
def mCo205 : List mE := [(0, .aload_n 0, 1, []), (1, .getfield 57, 3, [0, 7, 20, 0, 818]), (4, .iload_n 1, 1, []), (5, .iaload, 1, []), (6, .bipush (-9), 2, []), (8, .if_icmp .eq 32, 3, [23]), (11, .iload_n 1, 1, []), (12, .iconst 2, 1, []), (13, .irem, 1, []), (14, .ifCond .ne 16, 3, [17]), (17, .iload_n 2, 1, []), (18, .aload_n 0, 1, []), (19, .getfield 57, 3, [0, 7, 20, 0, 818]), (22, .iload_n 1, 1, []), (23, .iaload, 1, []), (24, .if_icmp .le 20, 3, [25]), (27, .goto 13, 3, [23]), (30, .iload_n 2, 1, []), (31, .aload_n 0, 1, []), (32, .getfield 57, 3, [0, 7, 20, 0, 818]), (35, .iload_n 1, 1, []), (36, .iaload, 1, []), (37, .if_icmp .ge 7, 3, [25]), (40, .iconst 1, 1, []), (41, .goto 4, 3, [26]), (44, .iconst 0, 1, []), (45, .istore_n 3, 1, []), (46, .aload_n 0, 1, []), (47, .getfield 57, 3, [0, 7, 20, 0, 818]), (50, .iload_n 1, 1, []), (51, .iload_n 3, 1, []), (52, .ifCond .eq 7, 3, [34]), (55, .iload_n 2, 1, []), (56, .goto 9, 3, [38]), (59, .aload_n 0, 1, []), (60, .getfield 57, 3, [0, 7, 20, 0, 818]), (63, .iload_n 1, 1, []), (64, .iaload, 1, []), (65, .iastore, 1, []), (66, .return_, 1, [])]
def mMe205 : mM := (⟨"FirstLandingModel", "weighs", "(II)V"⟩, prog_10_method_82_code, 4, none, 1, 2, [1187, 110, 1186, 96], mCo205)
/-- FirstLandingModel.sends(I)Z -/
def mCo206 : List mE := [(0, .aload_n 0, 1, []), (1, .getfield 54, 3, [0, 7, 19, 0, 817]), (4, .iload_n 1, 1, []), (5, .iaload, 1, []), (6, .istore_n 2, 1, []), (7, .aload_n 0, 1, []), (8, .getfield 51, 3, [0, 7, 18, 0, 816]), (11, .iload_n 1, 1, []), (12, .iaload, 1, []), (13, .iconst 1, 1, []), (14, .aload_n 0, 1, []), (15, .getfield 22, 3, [0, 7, 4, 0, 802]), (18, .iconst 0, 1, []), (19, .iaload, 1, []), (20, .ishl, 1, []), (21, .iconst 1, 1, []), (22, .isub, 1, []), (23, .if_icmp .ne 7, 3, [20]), (26, .iconst 1, 1, []), (27, .goto 4, 3, [21]), (30, .iconst 0, 1, []), (31, .istore_n 3, 1, []), (32, .iload_n 2, 1, []), (33, .aload_n 0, 1, []), (34, .getfield 22, 3, [0, 7, 4, 0, 802]), (37, .iconst 0, 1, []), (38, .iaload, 1, []), (39, .if_icmp .ne 7, 3, [30]), (42, .iload_n 3, 1, []), (43, .goto 21, 3, [40]), (46, .aload_n 0, 1, []), (47, .getfield 51, 3, [0, 7, 18, 0, 816]), (50, .iload_n 1, 1, []), (51, .iaload, 1, []), (52, .iload_n 2, 1, []), (53, .invokestatic 122, 3, [0, 149, 0, 0, 961]), (56, .ifCond .ne 7, 3, [39]), (59, .iconst 1, 1, []), (60, .goto 4, 3, [40]), (63, .iconst 0, 1, []), (64, .istore 4, 2, []), (66, .aload_n 0, 1, []), (67, .getfield 51, 3, [0, 7, 18, 0, 816]), (70, .iload_n 1, 1, []), (71, .iconst 1, 1, []), (72, .iadd, 1, []), (73, .aload_n 0, 1, []), (74, .getfield 51, 3, [0, 7, 18, 0, 816]), (77, .iload_n 1, 1, []), (78, .iaload, 1, []), (79, .iload_n 2, 1, []), (80, .aload_n 0, 1, []), (81, .getfield 22, 3, [0, 7, 4, 0, 802]), (84, .iconst 0, 1, []), (85, .iaload, 1, []), (86, .if_icmp .ge 9, 3, [60]), (89, .iconst 1, 1, []), (90, .iload_n 2, 1, []), (91, .ishl, 1, []), (92, .goto 4, 3, [61]), (95, .iconst 0, 1, []), (96, .ior, 1, []), (97, .iastore, 1, []), (98, .iload 4, 2, []), (100, .ireturn, 1, [])]
def mMe206 : mM := (⟨"FirstLandingModel", "sends", "(I)Z"⟩, prog_10_method_83_code, 5, (some .boolean), 1, 1, [1191, 110, 1190, 97], mCo206)
/-- FirstLandingModel.mid(II)I -/
def mCo207 : List mE := [(0, .aload_n 0, 1, []), (1, .iload_n 1, 1, []), (2, .iload_n 2, 1, []), (3, .iconst 1, 1, []), (4, .invokevirtual 267, 3, [0, 208, 0, 0, 1196]), (7, .ireturn, 1, [])]
def mMe207 : mM := (⟨"FirstLandingModel", "mid", "(II)I"⟩, prog_10_method_88_code, 3, (some .int), 1, 2, [1195, 110, 1193, 1194], mCo207)
/-- FirstLandingModel.chance(IIZ)I -/
def mCo208 : List mE := [(0, .aload_n 0, 1, []), (1, .iload_n 1, 1, []), (2, .invokevirtual 155, 3, [0, 147, 0, 0, 952]), (5, .ifCond .eq 15, 3, [10]), (8, .iload_n 2, 1, []), (9, .i2l, 1, []), (10, .lconst 0, 1, []), (11, .ldc2_w 257, 3, [0, 12, 0, 0, 1200]), (14, .invokestatic 69, 3, [0, 127, 0, 0, 871]), (17, .ifCond .ne 5, 3, [12]), (20, .iconst (-1), 1, []), (21, .ireturn, 1, []), (22, .aload_n 0, 1, []), (23, .getfield 22, 3, [0, 7, 4, 0, 802]), (26, .bipush 43, 2, []), (28, .iaload, 1, []), (29, .iload_n 1, 1, []), (30, .invokestatic 122, 3, [0, 149, 0, 0, 961]), (33, .ifCond .eq 13, 3, [25]), (36, .aload_n 0, 1, []), (37, .iload_n 1, 1, []), (38, .iload_n 2, 1, []), (39, .iload_n 3, 1, []), (40, .invokevirtual 263, 3, [0, 209, 0, 0, 1201]), (43, .goto 5, 3, [26]), (46, .bipush (-4), 2, []), (48, .ireturn, 1, [])]
def mMe208 : mM := (⟨"FirstLandingModel", "chance", "(IIZ)I"⟩, prog_10_method_87_code, 4, (some .int), 1, 3, [1199, 110, 1198, 98], mCo208)
/-- FirstLandingModel.weighed(IIZ)I -/
def mCo209 : List mE := [(0, .aload_n 0, 1, []), (1, .getfield 22, 3, [0, 7, 4, 0, 802]), (4, .bipush 43, 2, []), (6, .iaload, 1, []), (7, .iconst 1, 1, []), (8, .iload_n 1, 1, []), (9, .ishl, 1, []), (10, .iconst (-1), 1, []), (11, .ixor, 1, []), (12, .iand, 1, []), (13, .istore 4, 2, []), (15, .lconst 0, 1, []), (16, .lstore 5, 2, []), (18, .lconst 1, 1, []), (19, .lstore 7, 2, []), (21, .iload 4, 2, []), (23, .invokestatic 187, 3, [0, 166, 0, 0, 1027]), (26, .istore 9, 2, []), (28, .iload 9, 2, []), (30, .ifCond .le 17, 3, [26]), (33, .lload 7, 2, []), (35, .ldc2_w 257, 3, [0, 12, 0, 0, 1200]), (38, .lmul, 1, []), (39, .lstore 7, 2, []), (41, .iinc 9 (-1), 3, []), (44, .goto (-16), 3, [18]), (47, .iconst 0, 1, []), (48, .istore 9, 2, []), (50, .iload 9, 2, []), (52, .iconst 1, 1, []), (53, .aload_n 0, 1, []), (54, .getfield 22, 3, [0, 7, 4, 0, 802]), (57, .iconst 0, 1, []), (58, .iaload, 1, []), (59, .ishl, 1, []), (60, .if_icmp .ge 118, 3, [96]), (63, .iload 9, 2, []), (65, .iload 4, 2, []), (67, .iconst (-1), 1, []), (68, .ixor, 1, []), (69, .iand, 1, []), (70, .ifCond .ne 102, 3, [94]), (73, .lconst 1, 1, []), (74, .lstore 10, 2, []), (76, .iconst 0, 1, []), (77, .istore 12, 2, []), (79, .iload 12, 2, []), (81, .aload_n 0, 1, []), (82, .getfield 22, 3, [0, 7, 4, 0, 802]), (85, .iconst 0, 1, []), (86, .iaload, 1, []), (87, .if_icmp .ge 48, 3, [74]), (90, .lload 10, 2, []), (92, .iload 4, 2, []), (94, .iload 12, 2, []), (96, .invokestatic 122, 3, [0, 149, 0, 0, 961]), (99, .ifCond .ne 7, 3, [59]), (102, .lconst 1, 1, []), (103, .goto 23, 3, [70]), (106, .iload 9, 2, []), (108, .iload 12, 2, []), (110, .invokestatic 122, 3, [0, 149, 0, 0, 961]), (113, .ifCond .eq 11, 3, [68]), (116, .bipush 12, 2, []), (118, .iload_n 2, 1, []), (119, .isub, 1, []), (120, .i2l, 1, []), (121, .goto 5, 3, [70]), (124, .iload_n 2, 1, []), (125, .i2l, 1, []), (126, .lmul, 1, []), (127, .lstore 10, 2, []), (129, .iinc 12 1, 3, []), (132, .goto (-53), 3, [46]), (135, .aload_n 0, 1, []), (136, .iload_n 1, 1, []), (137, .iload 9, 2, []), (139, .invokevirtual 136, 3, [0, 150, 0, 0, 964]), (142, .istore 12, 2, []), (144, .lload 5, 2, []), (146, .lload 10, 2, []), (148, .iload_n 3, 1, []), (149, .ifCond .eq 8, 3, [85]), (152, .iload 12, 2, []), (154, .goto 13, 3, [90]), (157, .iload 12, 2, []), (159, .ifCond .le 7, 3, [89]), (162, .iconst 1, 1, []), (163, .goto 4, 3, [90]), (166, .iconst 0, 1, []), (167, .i2l, 1, []), (168, .lmul, 1, []), (169, .ladd, 1, []), (170, .lstore 5, 2, []), (172, .iinc 9 1, 3, []), (175, .goto (-125), 3, [28]), (178, .aload_n 0, 1, []), (179, .lload 5, 2, []), (181, .lload 7, 2, []), (183, .invokevirtual 259, 3, [0, 210, 0, 0, 1205]), (186, .ireturn, 1, [])]
def mMe209 : mM := (⟨"FirstLandingModel", "weighed", "(IIZ)I"⟩, prog_10_method_86_code, 13, (some .int), 1, 3, [1204, 110, 1203, 99], mCo209)
/-- FirstLandingModel.fraction(JJ)I -/
def mCo210 : List mE := [(0, .lload_n 1, 1, []), (1, .lstore 5, 2, []), (3, .lload_n 3, 1, []), (4, .lstore 7, 2, []), (6, .lload 7, 2, []), (8, .lconst 0, 1, []), (9, .lcmp, 1, []), (10, .ifCond .eq 21, 3, [17]), (13, .lload 5, 2, []), (15, .lload 7, 2, []), (17, .lrem, 1, []), (18, .lstore 9, 2, []), (20, .lload 7, 2, []), (22, .lstore 5, 2, []), (24, .lload 9, 2, []), (26, .lstore 7, 2, []), (28, .goto (-22), 3, [4]), (31, .aload_n 0, 1, []), (32, .lload_n 1, 1, []), (33, .lload 5, 2, []), (35, .ldiv, 1, []), (36, .putfield 254, 3, [0, 7, 9, 0, 807]), (39, .aload_n 0, 1, []), (40, .lload_n 3, 1, []), (41, .lload 5, 2, []), (43, .ldiv, 1, []), (44, .putfield 35, 3, [0, 7, 10, 0, 808]), (47, .iconst 1, 1, []), (48, .ireturn, 1, [])]
def mMe210 : mM := (⟨"FirstLandingModel", "fraction", "(JJ)I"⟩, prog_10_method_85_code, 11, (some .int), 1, 2, [1208, 110, 1207, 100], mCo210)
/-- FirstLandingModel.odds(II)I -/
def mCo211 : List mE := [(0, .aload_n 0, 1, []), (1, .iload_n 1, 1, []), (2, .iload_n 2, 1, []), (3, .iconst 0, 1, []), (4, .invokevirtual 267, 3, [0, 208, 0, 0, 1196]), (7, .ireturn, 1, [])]
def mMe211 : mM := (⟨"FirstLandingModel", "odds", "(II)I"⟩, prog_10_method_89_code, 3, (some .int), 1, 2, [1212, 110, 1210, 1211], mCo211)
/-- FirstLandingModel.lots(II)I -/
def mCo212 : List mE := [(0, .iload_n 1, 1, []), (1, .i2l, 1, []), (2, .lconst 1, 1, []), (3, .ldc2_w 270, 3, [0, 20, 0, 0, 1217]), (6, .invokestatic 69, 3, [0, 127, 0, 0, 871]), (9, .ifCond .eq 15, 3, [12]), (12, .iload_n 2, 1, []), (13, .i2l, 1, []), (14, .lconst 1, 1, []), (15, .ldc2_w 272, 3, [0, 2147483646, 0, 0, 1218]), (18, .invokestatic 69, 3, [0, 127, 0, 0, 871]), (21, .ifCond .ne 5, 3, [14]), (24, .iconst (-1), 1, []), (25, .ireturn, 1, []), (26, .aload_n 0, 1, []), (27, .getfield 22, 3, [0, 7, 4, 0, 802]), (30, .iconst 0, 1, []), (31, .iaload, 1, []), (32, .ifCond .ne 6, 3, [21]), (35, .bipush (-4), 2, []), (37, .ireturn, 1, []), (38, .aload_n 0, 1, []), (39, .invokevirtual 180, 3, [0, 163, 0, 0, 1015]), (42, .iload_n 1, 1, []), (43, .iadd, 1, []), (44, .bipush 40, 2, []), (46, .if_icmp .le 6, 3, [29]), (49, .bipush (-2), 2, []), (51, .ireturn, 1, []), (52, .iload_n 2, 1, []), (53, .i2l, 1, []), (54, .lstore_n 3, 1, []), (55, .iconst 0, 1, []), (56, .istore 5, 2, []), (58, .iload 5, 2, []), (60, .iload_n 1, 1, []), (61, .if_icmp .ge 89, 3, [86]), (64, .ldc2_w 274, 3, [0, 48271, 0, 0, 1219]), (67, .lload_n 3, 1, []), (68, .lmul, 1, []), (69, .ldc2_w 276, 3, [0, 2147483647, 0, 0, 1220]), (72, .lrem, 1, []), (73, .lstore_n 3, 1, []), (74, .lload_n 3, 1, []), (75, .aload_n 0, 1, []), (76, .getfield 22, 3, [0, 7, 4, 0, 802]), (79, .iconst 0, 1, []), (80, .iaload, 1, []), (81, .i2l, 1, []), (82, .lrem, 1, []), (83, .l2i, 1, []), (84, .istore 6, 2, []), (86, .lload_n 3, 1, []), (87, .ldc2_w 278, 3, [0, 64, 0, 0, 1221]), (90, .ldiv, 1, []), (91, .aload_n 0, 1, []), (92, .getfield 22, 3, [0, 7, 4, 0, 802]), (95, .iconst 0, 1, []), (96, .iaload, 1, []), (97, .i2l, 1, []), (98, .lrem, 1, []), (99, .l2i, 1, []), (100, .istore 7, 2, []), (102, .lload_n 3, 1, []), (103, .ldc2_w 225, 3, [0, 8, 0, 0, 1127]), (106, .ldiv, 1, []), (107, .ldc2_w 158, 3, [0, 4, 0, 0, 956]), (110, .lrem, 1, []), (111, .lconst 0, 1, []), (112, .lcmp, 1, []), (113, .ifCond .ne 25, 3, [81]), (116, .aload_n 0, 1, []), (117, .iload 6, 2, []), (119, .iload 7, 2, []), (121, .invokevirtual 198, 3, [0, 170, 0, 0, 1043]), (124, .ifCond .eq 14, 3, [81]), (127, .aload_n 0, 1, []), (128, .iload 6, 2, []), (130, .iload 7, 2, []), (132, .invokevirtual 201, 3, [0, 173, 0, 0, 1054]), (135, .goto 9, 3, [84]), (138, .aload_n 0, 1, []), (139, .iload 6, 2, []), (141, .invokevirtual 184, 3, [0, 164, 0, 0, 1019]), (144, .iinc 5 1, 3, []), (147, .goto (-89), 3, [34]), (150, .aload_n 0, 1, []), (151, .invokevirtual 205, 3, [0, 175, 0, 0, 1062]), (154, .ireturn, 1, [])]
def mMe212 : mM := (⟨"FirstLandingModel", "lots", "(II)I"⟩, prog_10_method_90_code, 8, (some .int), 1, 2, [1216, 110, 1214, 1215], mCo212)
/-- FirstLandingModel.asked()I -/
def mCo213 : List mE := [(0, .aload_n 0, 1, []), (1, .getfield 64, 3, [0, 7, 8, 0, 806]), (4, .ireturn, 1, [])]
def mMe213 : mM := (⟨"FirstLandingModel", "asked", "()I"⟩, prog_10_method_91_code, 1, (some .int), 1, 0, [1225, 110, 1223, 1224], mCo213)
/-- FirstLandingModel.upper()J -/
def mCo214 : List mE := [(0, .aload_n 0, 1, []), (1, .getfield 254, 3, [0, 7, 9, 0, 807]), (4, .lreturn, 1, [])]
def mMe214 : mM := (⟨"FirstLandingModel", "upper", "()J"⟩, prog_10_method_92_code, 1, (some .long), 1, 0, [1229, 110, 1227, 1228], mCo214)
/-- FirstLandingModel.lower()J -/
def mCo215 : List mE := [(0, .aload_n 0, 1, []), (1, .getfield 35, 3, [0, 7, 10, 0, 808]), (4, .lreturn, 1, [])]
def mMe215 : mM := (⟨"FirstLandingModel", "lower", "()J"⟩, prog_10_method_93_code, 1, (some .long), 1, 0, [1233, 110, 1231, 1232], mCo215)
/-- FirstLandingModel.count(I)I -/
def mCo216 : List mE := [(0, .iload_n 1, 1, []), (1, .i2l, 1, []), (2, .lconst 0, 1, []), (3, .ldc2_w 190, 3, [0, 9, 0, 0, 1034]), (6, .invokestatic 69, 3, [0, 127, 0, 0, 871]), (9, .ifCond .eq 11, 3, [10]), (12, .aload_n 0, 1, []), (13, .iload_n 1, 1, []), (14, .invokevirtual 280, 3, [0, 217, 0, 0, 1238]), (17, .goto 4, 3, [11]), (20, .iconst (-1), 1, []), (21, .ireturn, 1, [])]
def mMe216 : mM := (⟨"FirstLandingModel", "count", "(I)I"⟩, prog_10_method_95_code, 2, (some .int), 1, 1, [1237, 110, 1235, 1236], mCo216)
/-- FirstLandingModel.counted(I)I -/
def mCo217 : List mE := [(0, .iconst 0, 1, []), (1, .istore_n 2, 1, []), (2, .iconst 0, 1, []), (3, .istore_n 3, 1, []), (4, .iload_n 3, 1, []), (5, .bipush 6, 2, []), (7, .if_icmp .ge 32, 3, [23]), (10, .iload_n 1, 1, []), (11, .bipush 7, 2, []), (13, .if_icmp .ne 26, 3, [23]), (16, .iload_n 2, 1, []), (17, .aload_n 0, 1, []), (18, .getfield 7, 3, [0, 7, 0, 0, 798]), (21, .iload_n 3, 1, []), (22, .iaload, 1, []), (23, .ifCond .ge 7, 3, [18]), (26, .iconst 0, 1, []), (27, .goto 4, 3, [19]), (30, .iconst 1, 1, []), (31, .iadd, 1, []), (32, .istore_n 2, 1, []), (33, .iinc 3 1, 3, []), (36, .goto (-32), 3, [4]), (39, .iconst 0, 1, []), (40, .istore_n 3, 1, []), (41, .iload_n 3, 1, []), (42, .iconst 4, 1, []), (43, .if_icmp .ge 32, 3, [44]), (46, .iload_n 1, 1, []), (47, .bipush 8, 2, []), (49, .if_icmp .ne 26, 3, [44]), (52, .iload_n 2, 1, []), (53, .aload_n 0, 1, []), (54, .getfield 16, 3, [0, 7, 2, 0, 800]), (57, .iload_n 3, 1, []), (58, .iaload, 1, []), (59, .ifCond .ge 7, 3, [39]), (62, .iconst 0, 1, []), (63, .goto 4, 3, [40]), (66, .iconst 1, 1, []), (67, .iadd, 1, []), (68, .istore_n 2, 1, []), (69, .iinc 3 1, 3, []), (72, .goto (-31), 3, [25]), (75, .iconst 0, 1, []), (76, .istore_n 3, 1, []), (77, .iload_n 3, 1, []), (78, .iconst 3, 1, []), (79, .if_icmp .ge 32, 3, [65]), (82, .iload_n 1, 1, []), (83, .bipush 9, 2, []), (85, .if_icmp .ne 26, 3, [65]), (88, .iload_n 2, 1, []), (89, .aload_n 0, 1, []), (90, .getfield 31, 3, [0, 7, 7, 0, 805]), (93, .iload_n 3, 1, []), (94, .baload, 1, []), (95, .ifCond .eq 7, 3, [60]), (98, .iconst 1, 1, []), (99, .goto 4, 3, [61]), (102, .iconst 0, 1, []), (103, .iadd, 1, []), (104, .istore_n 2, 1, []), (105, .iinc 3 1, 3, []), (108, .goto (-31), 3, [46]), (111, .iload_n 1, 1, []), (112, .tableswitch 86 0 6 #[44, 51, 59, 64, 69, 74, 80], 44, [94, 67, 72, 77, 80, 83, 86, 90]), (156, .aload_n 0, 1, []), (157, .getfield 22, 3, [0, 7, 4, 0, 802]), (160, .iconst 0, 1, []), (161, .iaload, 1, []), (162, .ireturn, 1, []), (163, .aload_n 0, 1, []), (164, .getfield 22, 3, [0, 7, 4, 0, 802]), (167, .bipush 43, 2, []), (169, .iaload, 1, []), (170, .ireturn, 1, []), (171, .aload_n 0, 1, []), (172, .invokevirtual 180, 3, [0, 163, 0, 0, 1015]), (175, .ireturn, 1, []), (176, .aload_n 0, 1, []), (177, .invokevirtual 205, 3, [0, 175, 0, 0, 1062]), (180, .ireturn, 1, []), (181, .aload_n 0, 1, []), (182, .invokevirtual 192, 3, [0, 168, 0, 0, 1035]), (185, .ireturn, 1, []), (186, .aload_n 0, 1, []), (187, .iconst 1, 1, []), (188, .invokevirtual 170, 3, [0, 160, 0, 0, 1003]), (191, .ireturn, 1, []), (192, .aload_n 0, 1, []), (193, .iconst 2, 1, []), (194, .invokevirtual 170, 3, [0, 160, 0, 0, 1003]), (197, .ireturn, 1, []), (198, .iload_n 2, 1, []), (199, .ireturn, 1, [])]
def mMe217 : mM := (⟨"FirstLandingModel", "counted", "(I)I"⟩, prog_10_method_94_code, 4, (some .int), 1, 1, [1241, 110, 1240, 101], mCo217)
/-- FirstLandingModel.finding()I -/
def mCo218 : List mE := [(0, .aload_n 0, 1, []), (1, .getfield 60, 3, [0, 7, 11, 0, 809]), (4, .ireturn, 1, [])]
def mMe218 : mM := (⟨"FirstLandingModel", "finding", "()I"⟩, prog_10_method_96_code, 1, (some .int), 1, 0, [1245, 110, 1243, 1244], mCo218)
/-- FirstLandingModel.findings(I)I -/
def mCo219 : List mE := [(0, .iload_n 1, 1, []), (1, .i2l, 1, []), (2, .lconst 1, 1, []), (3, .ldc2_w 67, 3, [0, 5, 0, 0, 870]), (6, .invokestatic 69, 3, [0, 127, 0, 0, 871]), (9, .ifCond .eq 12, 3, [11]), (12, .aload_n 0, 1, []), (13, .getfield 39, 3, [0, 7, 12, 0, 810]), (16, .iload_n 1, 1, []), (17, .iaload, 1, []), (18, .goto 4, 3, [12]), (21, .iconst (-1), 1, []), (22, .ireturn, 1, [])]
def mMe219 : mM := (⟨"FirstLandingModel", "findings", "(I)I"⟩, prog_10_method_97_code, 2, (some .int), 1, 1, [1249, 110, 1247, 1248], mCo219)
/-- FirstLandingModel.digest()J -/
def mCo220 : List mE := [(0, .ldc2_w 283, 3, [0, 17, 0, 0, 1254]), (3, .lstore_n 1, 1, []), (4, .iconst 0, 1, []), (5, .istore_n 3, 1, []), (6, .iload_n 3, 1, []), (7, .bipush 10, 2, []), (9, .if_icmp .ge 22, 3, [18]), (12, .ldc2_w 285, 3, [0, 31, 0, 0, 1255]), (15, .lload_n 1, 1, []), (16, .lmul, 1, []), (17, .aload_n 0, 1, []), (18, .iload_n 3, 1, []), (19, .invokevirtual 280, 3, [0, 217, 0, 0, 1238]), (22, .i2l, 1, []), (23, .ladd, 1, []), (24, .lstore_n 1, 1, []), (25, .iinc 3 1, 3, []), (28, .goto (-22), 3, [4]), (31, .iconst 0, 1, []), (32, .istore_n 3, 1, []), (33, .iload_n 3, 1, []), (34, .aload_n 0, 1, []), (35, .getfield 22, 3, [0, 7, 4, 0, 802]), (38, .iconst 0, 1, []), (39, .iaload, 1, []), (40, .if_icmp .ge 74, 3, [65]), (43, .iconst 0, 1, []), (44, .istore 4, 2, []), (46, .iload 4, 2, []), (48, .iconst 5, 1, []), (49, .if_icmp .ge 24, 3, [43]), (52, .ldc2_w 285, 3, [0, 31, 0, 0, 1255]), (55, .lload_n 1, 1, []), (56, .lmul, 1, []), (57, .aload_n 0, 1, []), (58, .iload_n 3, 1, []), (59, .iload 4, 2, []), (61, .invokevirtual 160, 3, [0, 148, 0, 0, 957]), (64, .i2l, 1, []), (65, .ladd, 1, []), (66, .lstore_n 1, 1, []), (67, .iinc 4 1, 3, []), (70, .goto (-24), 3, [28]), (73, .iconst 0, 1, []), (74, .istore 4, 2, []), (76, .iload 4, 2, []), (78, .aload_n 0, 1, []), (79, .getfield 22, 3, [0, 7, 4, 0, 802]), (82, .iconst 0, 1, []), (83, .iaload, 1, []), (84, .if_icmp .ge 24, 3, [63]), (87, .ldc2_w 285, 3, [0, 31, 0, 0, 1255]), (90, .lload_n 1, 1, []), (91, .lmul, 1, []), (92, .aload_n 0, 1, []), (93, .iload_n 3, 1, []), (94, .iload 4, 2, []), (96, .invokevirtual 125, 3, [0, 152, 0, 0, 973]), (99, .i2l, 1, []), (100, .ladd, 1, []), (101, .lstore_n 1, 1, []), (102, .iinc 4 1, 3, []), (105, .goto (-29), 3, [45]), (108, .iinc 3 1, 3, []), (111, .goto (-78), 3, [20]), (114, .iconst 0, 1, []), (115, .istore_n 3, 1, []), (116, .iload_n 3, 1, []), (117, .iconst 3, 1, []), (118, .if_icmp .ge 43, 3, [93]), (121, .ldc2_w 285, 3, [0, 31, 0, 0, 1255]), (124, .lload_n 1, 1, []), (125, .lmul, 1, []), (126, .aload_n 0, 1, []), (127, .getfield 31, 3, [0, 7, 7, 0, 805]), (130, .iload_n 3, 1, []), (131, .baload, 1, []), (132, .ifCond .eq 19, 3, [87]), (135, .aload_n 0, 1, []), (136, .getfield 28, 3, [0, 7, 6, 0, 804]), (139, .sipush 201, 3, []), (142, .iload_n 3, 1, []), (143, .imul, 1, []), (144, .bipush 80, 2, []), (146, .iadd, 1, []), (147, .iaload, 1, []), (148, .goto 4, 3, [88]), (151, .iconst (-1), 1, []), (152, .i2l, 1, []), (153, .ladd, 1, []), (154, .lstore_n 1, 1, []), (155, .iinc 3 1, 3, []), (158, .goto (-42), 3, [67]), (161, .iconst 0, 1, []), (162, .istore_n 3, 1, []), (163, .iload_n 3, 1, []), (164, .bipush 6, 2, []), (166, .if_icmp .ge 63, 3, [134]), (169, .ldc2_w 285, 3, [0, 31, 0, 0, 1255]), (172, .lload_n 1, 1, []), (173, .lmul, 1, []), (174, .aload_n 0, 1, []), (175, .getfield 7, 3, [0, 7, 0, 0, 798]), (178, .iload_n 3, 1, []), (179, .iaload, 1, []), (180, .i2l, 1, []), (181, .ladd, 1, []), (182, .lstore_n 1, 1, []), (183, .iconst 0, 1, []), (184, .istore 4, 2, []), (186, .iload 4, 2, []), (188, .aload_n 0, 1, []), (189, .getfield 7, 3, [0, 7, 0, 0, 798]), (192, .iload_n 3, 1, []), (193, .iaload, 1, []), (194, .if_icmp .ge 29, 3, [132]), (197, .ldc2_w 285, 3, [0, 31, 0, 0, 1255]), (200, .lload_n 1, 1, []), (201, .lmul, 1, []), (202, .aload_n 0, 1, []), (203, .getfield 13, 3, [0, 7, 1, 0, 799]), (206, .bipush 40, 2, []), (208, .iload_n 3, 1, []), (209, .imul, 1, []), (210, .iload 4, 2, []), (212, .iadd, 1, []), (213, .iaload, 1, []), (214, .i2l, 1, []), (215, .ladd, 1, []), (216, .lstore_n 1, 1, []), (217, .iinc 4 1, 3, []), (220, .goto (-34), 3, [110]), (223, .iinc 3 1, 3, []), (226, .goto (-63), 3, [95]), (229, .iconst 0, 1, []), (230, .istore_n 3, 1, []), (231, .iload_n 3, 1, []), (232, .iconst 4, 1, []), (233, .if_icmp .ge 63, 3, [175]), (236, .ldc2_w 285, 3, [0, 31, 0, 0, 1255]), (239, .lload_n 1, 1, []), (240, .lmul, 1, []), (241, .aload_n 0, 1, []), (242, .getfield 16, 3, [0, 7, 2, 0, 800]), (245, .iload_n 3, 1, []), (246, .iaload, 1, []), (247, .i2l, 1, []), (248, .ladd, 1, []), (249, .lstore_n 1, 1, []), (250, .iconst 0, 1, []), (251, .istore 4, 2, []), (253, .iload 4, 2, []), (255, .aload_n 0, 1, []), (256, .getfield 16, 3, [0, 7, 2, 0, 800]), (259, .iload_n 3, 1, []), (260, .iaload, 1, []), (261, .if_icmp .ge 29, 3, [173]), (264, .ldc2_w 285, 3, [0, 31, 0, 0, 1255]), (267, .lload_n 1, 1, []), (268, .lmul, 1, []), (269, .aload_n 0, 1, []), (270, .getfield 19, 3, [0, 7, 3, 0, 801]), (273, .bipush 60, 2, []), (275, .iload_n 3, 1, []), (276, .imul, 1, []), (277, .iload 4, 2, []), (279, .iadd, 1, []), (280, .iaload, 1, []), (281, .i2l, 1, []), (282, .ladd, 1, []), (283, .lstore_n 1, 1, []), (284, .iinc 4 1, 3, []), (287, .goto (-34), 3, [151]), (290, .iinc 3 1, 3, []), (293, .goto (-62), 3, [136]), (296, .lload_n 1, 1, []), (297, .lreturn, 1, [])]
def mMe220 : mM := (⟨"FirstLandingModel", "digest", "()J"⟩, prog_10_method_98_code, 5, (some .long), 1, 0, [1253, 110, 1251, 1252], mCo220)
def mTab : List mM := [mMe0, mMe1, mMe2, mMe3, mMe4, mMe5, mMe6, mMe7, mMe8, mMe9, mMe10, mMe11, mMe12, mMe13, mMe14, mMe15, mMe16, mMe17, mMe18, mMe19, mMe20, mMe21, mMe22, mMe23, mMe24, mMe25, mMe26, mMe27, mMe28, mMe29, mMe30, mMe31, mMe32, mMe33, mMe34, mMe35, mMe36, mMe37, mMe38, mMe39, mMe40, mMe41, mMe42, mMe43, mMe44, mMe45, mMe46, mMe47, mMe48, mMe49, mMe50, mMe51, mMe52, mMe53, mMe54, mMe55, mMe56, mMe57, mMe58, mMe59, mMe60, mMe61, mMe62, mMe63, mMe64, mMe65, mMe66, mMe67, mMe68, mMe69, mMe70, mMe71, mMe72, mMe73, mMe74, mMe75, mMe76, mMe77, mMe78, mMe79, mMe80, mMe81, mMe82, mMe83, mMe84, mMe85, mMe86, mMe87, mMe88, mMe89, mMe90, mMe91, mMe92, mMe93, mMe94, mMe95, mMe96, mMe97, mMe98, mMe99, mMe100, mMe101, mMe102, mMe103, mMe104, mMe105, mMe106, mMe107, mMe108, mMe109, mMe110, mMe111, mMe112, mMe113, mMe114, mMe115, mMe116, mMe117, mMe118, mMe119, mMe120, mMe121, mMe122, mMe123, mMe124, mMe125, mMe126, mMe127, mMe128, mMe129, mMe130, mMe131, mMe132, mMe133, mMe134, mMe135, mMe136, mMe137, mMe138, mMe139, mMe140, mMe141, mMe142, mMe143, mMe144, mMe145, mMe146, mMe147, mMe148, mMe149, mMe150, mMe151, mMe152, mMe153, mMe154, mMe155, mMe156, mMe157, mMe158, mMe159, mMe160, mMe161, mMe162, mMe163, mMe164, mMe165, mMe166, mMe167, mMe168, mMe169, mMe170, mMe171, mMe172, mMe173, mMe174, mMe175, mMe176, mMe177, mMe178, mMe179, mMe180, mMe181, mMe182, mMe183, mMe184, mMe185, mMe186, mMe187, mMe188, mMe189, mMe190, mMe191, mMe192, mMe193, mMe194, mMe195, mMe196, mMe197, mMe198, mMe199, mMe200, mMe201, mMe202, mMe203, mMe204, mMe205, mMe206, mMe207, mMe208, mMe209, mMe210, mMe211, mMe212, mMe213, mMe214, mMe215, mMe216, mMe217, mMe218, mMe219, mMe220]
def mLaw : List mE := [(0, .new 7, 3, [0, 0, 0, 0, 117, 118, 103]), (3, .dup, 1, []), (4, .invokespecial 9, 3, [0, 0, 0, 0, 119]), (7, .astore_n 1, 1, []), (8, .new 10, 3, [0, 7, 0, 0, 792, 793, 110]), (11, .dup, 1, []), (12, .invokespecial 12, 3, [0, 124, 0, 0, 794]), (15, .astore_n 2, 1, []), (16, .iconst 0, 1, []), (17, .istore_n 3, 1, []), (18, .iload_n 3, 1, []), (19, .aload_n 0, 1, []), (20, .arraylength, 1, []), (21, .bipush 6, 2, []), (23, .isub, 1, []), (24, .if_icmp .gt 1411, 3, [975]), (27, .aload_n 0, 1, []), (28, .iload_n 3, 1, []), (29, .iaload, 1, []), (30, .bipush 63, 2, []), (32, .iand, 1, []), (33, .tableswitch 1396 0 42 #[187, 220, 263, 296, 319, 382, 405, 438, 481, 504, 527, 560, 593, 626, 649, 692, 725, 748, 771, 794, 827, 850, 873, 886, 909, 932, 955, 998, 1041, 1074, 1097, 1130, 1163, 1186, 1219, 1252, 1285, 1298, 1311, 1324, 1347, 1360, 1383], 187, [973, 22, 49, 86, 113, 130, 187, 204, 231, 268, 285, 302, 329, 356, 383, 400, 437, 464, 481, 498, 515, 542, 559, 576, 583, 600, 617, 634, 671, 708, 735, 752, 779, 806, 823, 850, 877, 904, 911, 918, 925, 942, 949, 966]), (220, .aload_n 1, 1, []), (221, .aload_n 0, 1, []), (222, .iload_n 3, 1, []), (223, .iconst 1, 1, []), (224, .iadd, 1, []), (225, .iaload, 1, []), (226, .aload_n 0, 1, []), (227, .iload_n 3, 1, []), (228, .iconst 2, 1, []), (229, .iadd, 1, []), (230, .iaload, 1, []), (231, .invokevirtual 13, 3, [0, 7, 0, 0, 291]), (234, .pop, 1, []), (235, .aload_n 2, 1, []), (236, .aload_n 0, 1, []), (237, .iload_n 3, 1, []), (238, .iconst 1, 1, []), (239, .iadd, 1, []), (240, .iaload, 1, []), (241, .aload_n 0, 1, []), (242, .iload_n 3, 1, []), (243, .iconst 2, 1, []), (244, .iadd, 1, []), (245, .iaload, 1, []), (246, .invokevirtual 17, 3, [0, 125, 0, 0, 863]), (249, .pop, 1, []), (250, .goto 1179, 3, [973]), (253, .aload_n 1, 1, []), (254, .aload_n 0, 1, []), (255, .iload_n 3, 1, []), (256, .iconst 1, 1, []), (257, .iadd, 1, []), (258, .iaload, 1, []), (259, .aload_n 0, 1, []), (260, .iload_n 3, 1, []), (261, .iconst 2, 1, []), (262, .iadd, 1, []), (263, .iaload, 1, []), (264, .aload_n 0, 1, []), (265, .iload_n 3, 1, []), (266, .iconst 3, 1, []), (267, .iadd, 1, []), (268, .iaload, 1, []), (269, .invokevirtual 18, 3, [0, 12, 0, 0, 310]), (272, .pop, 1, []), (273, .aload_n 2, 1, []), (274, .aload_n 0, 1, []), (275, .iload_n 3, 1, []), (276, .iconst 1, 1, []), (277, .iadd, 1, []), (278, .iaload, 1, []), (279, .aload_n 0, 1, []), (280, .iload_n 3, 1, []), (281, .iconst 2, 1, []), (282, .iadd, 1, []), (283, .iaload, 1, []), (284, .aload_n 0, 1, []), (285, .iload_n 3, 1, []), (286, .iconst 3, 1, []), (287, .iadd, 1, []), (288, .iaload, 1, []), (289, .invokevirtual 22, 3, [0, 129, 0, 0, 878]), (292, .pop, 1, []), (293, .goto 1136, 3, [973]), (296, .aload_n 1, 1, []), (297, .aload_n 0, 1, []), (298, .iload_n 3, 1, []), (299, .iconst 1, 1, []), (300, .iadd, 1, []), (301, .iaload, 1, []), (302, .aload_n 0, 1, []), (303, .iload_n 3, 1, []), (304, .iconst 2, 1, []), (305, .iadd, 1, []), (306, .iaload, 1, []), (307, .invokevirtual 23, 3, [0, 14, 0, 0, 317]), (310, .pop, 1, []), (311, .aload_n 2, 1, []), (312, .aload_n 0, 1, []), (313, .iload_n 3, 1, []), (314, .iconst 1, 1, []), (315, .iadd, 1, []), (316, .iaload, 1, []), (317, .aload_n 0, 1, []), (318, .iload_n 3, 1, []), (319, .iconst 2, 1, []), (320, .iadd, 1, []), (321, .iaload, 1, []), (322, .invokevirtual 26, 3, [0, 131, 0, 0, 886]), (325, .pop, 1, []), (326, .goto 1103, 3, [973]), (329, .aload_n 1, 1, []), (330, .aload_n 0, 1, []), (331, .iload_n 3, 1, []), (332, .iconst 1, 1, []), (333, .iadd, 1, []), (334, .iaload, 1, []), (335, .invokevirtual 27, 3, [0, 15, 0, 0, 321]), (338, .pop, 1, []), (339, .aload_n 2, 1, []), (340, .aload_n 0, 1, []), (341, .iload_n 3, 1, []), (342, .iconst 1, 1, []), (343, .iadd, 1, []), (344, .iaload, 1, []), (345, .invokevirtual 31, 3, [0, 132, 0, 0, 890]), (348, .pop, 1, []), (349, .goto 1080, 3, [973]), (352, .aload_n 1, 1, []), (353, .aload_n 0, 1, []), (354, .iload_n 3, 1, []), (355, .iconst 1, 1, []), (356, .iadd, 1, []), (357, .iaload, 1, []), (358, .aload_n 0, 1, []), (359, .iload_n 3, 1, []), (360, .iconst 2, 1, []), (361, .iadd, 1, []), (362, .iaload, 1, []), (363, .aload_n 0, 1, []), (364, .iload_n 3, 1, []), (365, .iconst 3, 1, []), (366, .iadd, 1, []), (367, .iaload, 1, []), (368, .aload_n 0, 1, []), (369, .iload_n 3, 1, []), (370, .iconst 4, 1, []), (371, .iadd, 1, []), (372, .iaload, 1, []), (373, .aload_n 0, 1, []), (374, .iload_n 3, 1, []), (375, .iconst 5, 1, []), (376, .iadd, 1, []), (377, .iaload, 1, []), (378, .invokevirtual 32, 3, [0, 16, 0, 0, 325]), (381, .pop, 1, []), (382, .aload_n 2, 1, []), (383, .aload_n 0, 1, []), (384, .iload_n 3, 1, []), (385, .iconst 1, 1, []), (386, .iadd, 1, []), (387, .iaload, 1, []), (388, .aload_n 0, 1, []), (389, .iload_n 3, 1, []), (390, .iconst 2, 1, []), (391, .iadd, 1, []), (392, .iaload, 1, []), (393, .aload_n 0, 1, []), (394, .iload_n 3, 1, []), (395, .iconst 3, 1, []), (396, .iadd, 1, []), (397, .iaload, 1, []), (398, .aload_n 0, 1, []), (399, .iload_n 3, 1, []), (400, .iconst 4, 1, []), (401, .iadd, 1, []), (402, .iaload, 1, []), (403, .aload_n 0, 1, []), (404, .iload_n 3, 1, []), (405, .iconst 5, 1, []), (406, .iadd, 1, []), (407, .iaload, 1, []), (408, .invokevirtual 36, 3, [0, 133, 0, 0, 894]), (411, .pop, 1, []), (412, .goto 1017, 3, [973]), (415, .aload_n 1, 1, []), (416, .aload_n 0, 1, []), (417, .iload_n 3, 1, []), (418, .iconst 1, 1, []), (419, .iadd, 1, []), (420, .iaload, 1, []), (421, .invokevirtual 37, 3, [0, 18, 0, 0, 336]), (424, .pop, 1, []), (425, .aload_n 2, 1, []), (426, .aload_n 0, 1, []), (427, .iload_n 3, 1, []), (428, .iconst 1, 1, []), (429, .iadd, 1, []), (430, .iaload, 1, []), (431, .invokevirtual 40, 3, [0, 134, 0, 0, 898]), (434, .pop, 1, []), (435, .goto 994, 3, [973]), (438, .aload_n 1, 1, []), (439, .aload_n 0, 1, []), (440, .iload_n 3, 1, []), (441, .iconst 1, 1, []), (442, .iadd, 1, []), (443, .iaload, 1, []), (444, .aload_n 0, 1, []), (445, .iload_n 3, 1, []), (446, .iconst 2, 1, []), (447, .iadd, 1, []), (448, .iaload, 1, []), (449, .invokevirtual 41, 3, [0, 20, 0, 0, 344]), (452, .pop, 1, []), (453, .aload_n 2, 1, []), (454, .aload_n 0, 1, []), (455, .iload_n 3, 1, []), (456, .iconst 1, 1, []), (457, .iadd, 1, []), (458, .iaload, 1, []), (459, .aload_n 0, 1, []), (460, .iload_n 3, 1, []), (461, .iconst 2, 1, []), (462, .iadd, 1, []), (463, .iaload, 1, []), (464, .invokevirtual 44, 3, [0, 135, 0, 0, 902]), (467, .pop, 1, []), (468, .goto 961, 3, [973]), (471, .aload_n 1, 1, []), (472, .aload_n 0, 1, []), (473, .iload_n 3, 1, []), (474, .iconst 1, 1, []), (475, .iadd, 1, []), (476, .iaload, 1, []), (477, .aload_n 0, 1, []), (478, .iload_n 3, 1, []), (479, .iconst 2, 1, []), (480, .iadd, 1, []), (481, .iaload, 1, []), (482, .aload_n 0, 1, []), (483, .iload_n 3, 1, []), (484, .iconst 3, 1, []), (485, .iadd, 1, []), (486, .iaload, 1, []), (487, .invokevirtual 45, 3, [0, 24, 0, 0, 359]), (490, .pop, 1, []), (491, .aload_n 2, 1, []), (492, .aload_n 0, 1, []), (493, .iload_n 3, 1, []), (494, .iconst 1, 1, []), (495, .iadd, 1, []), (496, .iaload, 1, []), (497, .aload_n 0, 1, []), (498, .iload_n 3, 1, []), (499, .iconst 2, 1, []), (500, .iadd, 1, []), (501, .iaload, 1, []), (502, .aload_n 0, 1, []), (503, .iload_n 3, 1, []), (504, .iconst 3, 1, []), (505, .iadd, 1, []), (506, .iaload, 1, []), (507, .invokevirtual 48, 3, [0, 137, 0, 0, 910]), (510, .pop, 1, []), (511, .goto 918, 3, [973]), (514, .aload_n 1, 1, []), (515, .aload_n 0, 1, []), (516, .iload_n 3, 1, []), (517, .iconst 1, 1, []), (518, .iadd, 1, []), (519, .iaload, 1, []), (520, .invokevirtual 49, 3, [0, 25, 0, 0, 363]), (523, .pop, 1, []), (524, .aload_n 2, 1, []), (525, .aload_n 0, 1, []), (526, .iload_n 3, 1, []), (527, .iconst 1, 1, []), (528, .iadd, 1, []), (529, .iaload, 1, []), (530, .invokevirtual 52, 3, [0, 138, 0, 0, 914]), (533, .pop, 1, []), (534, .goto 895, 3, [973]), (537, .aload_n 1, 1, []), (538, .aload_n 0, 1, []), (539, .iload_n 3, 1, []), (540, .iconst 1, 1, []), (541, .iadd, 1, []), (542, .iaload, 1, []), (543, .invokevirtual 53, 3, [0, 32, 0, 0, 392]), (546, .pop, 1, []), (547, .aload_n 2, 1, []), (548, .aload_n 0, 1, []), (549, .iload_n 3, 1, []), (550, .iconst 1, 1, []), (551, .iadd, 1, []), (552, .iaload, 1, []), (553, .invokevirtual 56, 3, [0, 144, 0, 0, 941]), (556, .pop, 1, []), (557, .goto 872, 3, [973]), (560, .aload_n 1, 1, []), (561, .aload_n 0, 1, []), (562, .iload_n 3, 1, []), (563, .iconst 1, 1, []), (564, .iadd, 1, []), (565, .iaload, 1, []), (566, .aload_n 0, 1, []), (567, .iload_n 3, 1, []), (568, .iconst 2, 1, []), (569, .iadd, 1, []), (570, .iaload, 1, []), (571, .invokevirtual 57, 3, [0, 34, 0, 0, 401]), (574, .pop, 1, []), (575, .aload_n 2, 1, []), (576, .aload_n 0, 1, []), (577, .iload_n 3, 1, []), (578, .iconst 1, 1, []), (579, .iadd, 1, []), (580, .iaload, 1, []), (581, .aload_n 0, 1, []), (582, .iload_n 3, 1, []), (583, .iconst 2, 1, []), (584, .iadd, 1, []), (585, .iaload, 1, []), (586, .invokevirtual 60, 3, [0, 146, 0, 0, 948]), (589, .pop, 1, []), (590, .goto 839, 3, [973]), (593, .aload_n 1, 1, []), (594, .aload_n 0, 1, []), (595, .iload_n 3, 1, []), (596, .iconst 1, 1, []), (597, .iadd, 1, []), (598, .iaload, 1, []), (599, .aload_n 0, 1, []), (600, .iload_n 3, 1, []), (601, .iconst 2, 1, []), (602, .iadd, 1, []), (603, .iaload, 1, []), (604, .invokevirtual 61, 3, [0, 48, 0, 0, 453]), (607, .pop, 1, []), (608, .aload_n 2, 1, []), (609, .aload_n 0, 1, []), (610, .iload_n 3, 1, []), (611, .iconst 1, 1, []), (612, .iadd, 1, []), (613, .iaload, 1, []), (614, .aload_n 0, 1, []), (615, .iload_n 3, 1, []), (616, .iconst 2, 1, []), (617, .iadd, 1, []), (618, .iaload, 1, []), (619, .invokevirtual 64, 3, [0, 156, 0, 0, 988]), (622, .pop, 1, []), (623, .goto 806, 3, [973]), (626, .aload_n 1, 1, []), (627, .aload_n 0, 1, []), (628, .iload_n 3, 1, []), (629, .iconst 1, 1, []), (630, .iadd, 1, []), (631, .iaload, 1, []), (632, .aload_n 0, 1, []), (633, .iload_n 3, 1, []), (634, .iconst 2, 1, []), (635, .iadd, 1, []), (636, .iaload, 1, []), (637, .invokevirtual 65, 3, [0, 49, 0, 0, 458]), (640, .pop, 1, []), (641, .aload_n 2, 1, []), (642, .aload_n 0, 1, []), (643, .iload_n 3, 1, []), (644, .iconst 1, 1, []), (645, .iadd, 1, []), (646, .iaload, 1, []), (647, .aload_n 0, 1, []), (648, .iload_n 3, 1, []), (649, .iconst 2, 1, []), (650, .iadd, 1, []), (651, .iaload, 1, []), (652, .invokevirtual 68, 3, [0, 157, 0, 0, 992]), (655, .pop, 1, []), (656, .goto 773, 3, [973]), (659, .aload_n 1, 1, []), (660, .aload_n 0, 1, []), (661, .iload_n 3, 1, []), (662, .iconst 1, 1, []), (663, .iadd, 1, []), (664, .iaload, 1, []), (665, .invokevirtual 69, 3, [0, 55, 0, 0, 485]), (668, .pop, 1, []), (669, .aload_n 2, 1, []), (670, .aload_n 0, 1, []), (671, .iload_n 3, 1, []), (672, .iconst 1, 1, []), (673, .iadd, 1, []), (674, .iaload, 1, []), (675, .invokevirtual 72, 3, [0, 162, 0, 0, 1011]), (678, .pop, 1, []), (679, .goto 750, 3, [973]), (682, .aload_n 1, 1, []), (683, .aload_n 0, 1, []), (684, .iload_n 3, 1, []), (685, .iconst 1, 1, []), (686, .iadd, 1, []), (687, .iaload, 1, []), (688, .aload_n 0, 1, []), (689, .iload_n 3, 1, []), (690, .iconst 2, 1, []), (691, .iadd, 1, []), (692, .iaload, 1, []), (693, .aload_n 0, 1, []), (694, .iload_n 3, 1, []), (695, .iconst 3, 1, []), (696, .iadd, 1, []), (697, .iaload, 1, []), (698, .invokevirtual 73, 3, [0, 59, 0, 0, 503]), (701, .pop, 1, []), (702, .aload_n 2, 1, []), (703, .aload_n 0, 1, []), (704, .iload_n 3, 1, []), (705, .iconst 1, 1, []), (706, .iadd, 1, []), (707, .iaload, 1, []), (708, .aload_n 0, 1, []), (709, .iload_n 3, 1, []), (710, .iconst 2, 1, []), (711, .iadd, 1, []), (712, .iaload, 1, []), (713, .aload_n 0, 1, []), (714, .iload_n 3, 1, []), (715, .iconst 3, 1, []), (716, .iadd, 1, []), (717, .iaload, 1, []), (718, .invokevirtual 76, 3, [0, 167, 0, 0, 1030]), (721, .pop, 1, []), (722, .goto 707, 3, [973]), (725, .aload_n 1, 1, []), (726, .aload_n 0, 1, []), (727, .iload_n 3, 1, []), (728, .iconst 1, 1, []), (729, .iadd, 1, []), (730, .iaload, 1, []), (731, .aload_n 0, 1, []), (732, .iload_n 3, 1, []), (733, .iconst 2, 1, []), (734, .iadd, 1, []), (735, .iaload, 1, []), (736, .invokevirtual 77, 3, [0, 63, 0, 0, 520]), (739, .pop, 1, []), (740, .aload_n 2, 1, []), (741, .aload_n 0, 1, []), (742, .iload_n 3, 1, []), (743, .iconst 1, 1, []), (744, .iadd, 1, []), (745, .iaload, 1, []), (746, .aload_n 0, 1, []), (747, .iload_n 3, 1, []), (748, .iconst 2, 1, []), (749, .iadd, 1, []), (750, .iaload, 1, []), (751, .invokevirtual 80, 3, [0, 169, 0, 0, 1039]), (754, .pop, 1, []), (755, .goto 674, 3, [973]), (758, .aload_n 1, 1, []), (759, .aload_n 0, 1, []), (760, .iload_n 3, 1, []), (761, .iconst 1, 1, []), (762, .iadd, 1, []), (763, .iaload, 1, []), (764, .invokevirtual 81, 3, [0, 70, 0, 0, 549]), (767, .pop, 1, []), (768, .aload_n 2, 1, []), (769, .aload_n 0, 1, []), (770, .iload_n 3, 1, []), (771, .iconst 1, 1, []), (772, .iadd, 1, []), (773, .iaload, 1, []), (774, .invokevirtual 84, 3, [0, 176, 0, 0, 1066]), (777, .pop, 1, []), (778, .goto 651, 3, [973]), (781, .aload_n 1, 1, []), (782, .aload_n 0, 1, []), (783, .iload_n 3, 1, []), (784, .iconst 1, 1, []), (785, .iadd, 1, []), (786, .iaload, 1, []), (787, .invokevirtual 85, 3, [0, 72, 0, 0, 558]), (790, .pop, 1, []), (791, .aload_n 2, 1, []), (792, .aload_n 0, 1, []), (793, .iload_n 3, 1, []), (794, .iconst 1, 1, []), (795, .iadd, 1, []), (796, .iaload, 1, []), (797, .invokevirtual 88, 3, [0, 178, 0, 0, 1074]), (800, .pop, 1, []), (801, .goto 628, 3, [973]), (804, .aload_n 1, 1, []), (805, .aload_n 0, 1, []), (806, .iload_n 3, 1, []), (807, .iconst 1, 1, []), (808, .iadd, 1, []), (809, .iaload, 1, []), (810, .invokevirtual 89, 3, [0, 74, 0, 0, 566]), (813, .pop, 1, []), (814, .aload_n 2, 1, []), (815, .aload_n 0, 1, []), (816, .iload_n 3, 1, []), (817, .iconst 1, 1, []), (818, .iadd, 1, []), (819, .iaload, 1, []), (820, .invokevirtual 92, 3, [0, 179, 0, 0, 1079]), (823, .pop, 1, []), (824, .goto 605, 3, [973]), (827, .aload_n 1, 1, []), (828, .aload_n 0, 1, []), (829, .iload_n 3, 1, []), (830, .iconst 1, 1, []), (831, .iadd, 1, []), (832, .iaload, 1, []), (833, .aload_n 0, 1, []), (834, .iload_n 3, 1, []), (835, .iconst 2, 1, []), (836, .iadd, 1, []), (837, .iaload, 1, []), (838, .invokevirtual 93, 3, [0, 75, 0, 0, 570]), (841, .pop, 1, []), (842, .aload_n 2, 1, []), (843, .aload_n 0, 1, []), (844, .iload_n 3, 1, []), (845, .iconst 1, 1, []), (846, .iadd, 1, []), (847, .iaload, 1, []), (848, .aload_n 0, 1, []), (849, .iload_n 3, 1, []), (850, .iconst 2, 1, []), (851, .iadd, 1, []), (852, .iaload, 1, []), (853, .invokevirtual 96, 3, [0, 180, 0, 0, 1083]), (856, .pop, 1, []), (857, .goto 572, 3, [973]), (860, .aload_n 1, 1, []), (861, .aload_n 0, 1, []), (862, .iload_n 3, 1, []), (863, .iconst 1, 1, []), (864, .iadd, 1, []), (865, .iaload, 1, []), (866, .invokevirtual 97, 3, [0, 77, 0, 0, 579]), (869, .pop, 1, []), (870, .aload_n 2, 1, []), (871, .aload_n 0, 1, []), (872, .iload_n 3, 1, []), (873, .iconst 1, 1, []), (874, .iadd, 1, []), (875, .iaload, 1, []), (876, .invokevirtual 100, 3, [0, 182, 0, 0, 1091]), (879, .pop, 1, []), (880, .goto 549, 3, [973]), (883, .aload_n 1, 1, []), (884, .aload_n 0, 1, []), (885, .iload_n 3, 1, []), (886, .iconst 1, 1, []), (887, .iadd, 1, []), (888, .iaload, 1, []), (889, .invokevirtual 101, 3, [0, 78, 0, 0, 584]), (892, .aload_n 2, 1, []), (893, .aload_n 0, 1, []), (894, .iload_n 3, 1, []), (895, .iconst 1, 1, []), (896, .iadd, 1, []), (897, .iaload, 1, []), (898, .invokevirtual 104, 3, [0, 184, 0, 0, 1099]), (901, .if_icmp .eq 528, 3, [973]), (904, .iconst 0, 1, []), (905, .ireturn, 1, []), (906, .aload_n 1, 1, []), (907, .invokevirtual 105, 3, [0, 81, 0, 0, 596]), (910, .pop, 1, []), (911, .aload_n 2, 1, []), (912, .invokevirtual 109, 3, [0, 187, 0, 0, 1111]), (915, .pop, 1, []), (916, .goto 513, 3, [973]), (919, .aload_n 1, 1, []), (920, .aload_n 0, 1, []), (921, .iload_n 3, 1, []), (922, .iconst 1, 1, []), (923, .iadd, 1, []), (924, .iaload, 1, []), (925, .invokevirtual 110, 3, [0, 82, 0, 0, 600]), (928, .pop, 1, []), (929, .aload_n 2, 1, []), (930, .aload_n 0, 1, []), (931, .iload_n 3, 1, []), (932, .iconst 1, 1, []), (933, .iadd, 1, []), (934, .iaload, 1, []), (935, .invokevirtual 113, 3, [0, 188, 0, 0, 1115]), (938, .pop, 1, []), (939, .goto 490, 3, [973]), (942, .aload_n 1, 1, []), (943, .aload_n 0, 1, []), (944, .iload_n 3, 1, []), (945, .iconst 1, 1, []), (946, .iadd, 1, []), (947, .iaload, 1, []), (948, .invokevirtual 114, 3, [0, 83, 0, 0, 604]), (951, .pop, 1, []), (952, .aload_n 2, 1, []), (953, .aload_n 0, 1, []), (954, .iload_n 3, 1, []), (955, .iconst 1, 1, []), (956, .iadd, 1, []), (957, .iaload, 1, []), (958, .invokevirtual 117, 3, [0, 189, 0, 0, 1119]), (961, .pop, 1, []), (962, .goto 467, 3, [973]), (965, .aload_n 1, 1, []), (966, .aload_n 0, 1, []), (967, .iload_n 3, 1, []), (968, .iconst 1, 1, []), (969, .iadd, 1, []), (970, .iaload, 1, []), (971, .invokevirtual 118, 3, [0, 84, 0, 0, 609]), (974, .pop, 1, []), (975, .aload_n 2, 1, []), (976, .aload_n 0, 1, []), (977, .iload_n 3, 1, []), (978, .iconst 1, 1, []), (979, .iadd, 1, []), (980, .iaload, 1, []), (981, .invokevirtual 121, 3, [0, 190, 0, 0, 1123]), (984, .pop, 1, []), (985, .goto 444, 3, [973]), (988, .aload_n 1, 1, []), (989, .aload_n 0, 1, []), (990, .iload_n 3, 1, []), (991, .iconst 1, 1, []), (992, .iadd, 1, []), (993, .iaload, 1, []), (994, .aload_n 0, 1, []), (995, .iload_n 3, 1, []), (996, .iconst 2, 1, []), (997, .iadd, 1, []), (998, .iaload, 1, []), (999, .aload_n 0, 1, []), (1000, .iload_n 3, 1, []), (1001, .iconst 3, 1, []), (1002, .iadd, 1, []), (1003, .iaload, 1, []), (1004, .invokevirtual 122, 3, [0, 88, 0, 0, 627]), (1007, .pop, 1, []), (1008, .aload_n 2, 1, []), (1009, .aload_n 0, 1, []), (1010, .iload_n 3, 1, []), (1011, .iconst 1, 1, []), (1012, .iadd, 1, []), (1013, .iaload, 1, []), (1014, .aload_n 0, 1, []), (1015, .iload_n 3, 1, []), (1016, .iconst 2, 1, []), (1017, .iadd, 1, []), (1018, .iaload, 1, []), (1019, .aload_n 0, 1, []), (1020, .iload_n 3, 1, []), (1021, .iconst 3, 1, []), (1022, .iadd, 1, []), (1023, .iaload, 1, []), (1024, .invokevirtual 125, 3, [0, 194, 0, 0, 1140]), (1027, .pop, 1, []), (1028, .goto 401, 3, [973]), (1031, .aload_n 1, 1, []), (1032, .aload_n 0, 1, []), (1033, .iload_n 3, 1, []), (1034, .iconst 1, 1, []), (1035, .iadd, 1, []), (1036, .iaload, 1, []), (1037, .aload_n 0, 1, []), (1038, .iload_n 3, 1, []), (1039, .iconst 2, 1, []), (1040, .iadd, 1, []), (1041, .iaload, 1, []), (1042, .aload_n 0, 1, []), (1043, .iload_n 3, 1, []), (1044, .iconst 3, 1, []), (1045, .iadd, 1, []), (1046, .iaload, 1, []), (1047, .invokevirtual 126, 3, [0, 91, 0, 0, 646]), (1050, .pop, 1, []), (1051, .aload_n 2, 1, []), (1052, .aload_n 0, 1, []), (1053, .iload_n 3, 1, []), (1054, .iconst 1, 1, []), (1055, .iadd, 1, []), (1056, .iaload, 1, []), (1057, .aload_n 0, 1, []), (1058, .iload_n 3, 1, []), (1059, .iconst 2, 1, []), (1060, .iadd, 1, []), (1061, .iaload, 1, []), (1062, .aload_n 0, 1, []), (1063, .iload_n 3, 1, []), (1064, .iconst 3, 1, []), (1065, .iadd, 1, []), (1066, .iaload, 1, []), (1067, .invokevirtual 129, 3, [0, 195, 0, 0, 1144]), (1070, .pop, 1, []), (1071, .goto 358, 3, [973]), (1074, .aload_n 1, 1, []), (1075, .aload_n 0, 1, []), (1076, .iload_n 3, 1, []), (1077, .iconst 1, 1, []), (1078, .iadd, 1, []), (1079, .iaload, 1, []), (1080, .aload_n 0, 1, []), (1081, .iload_n 3, 1, []), (1082, .iconst 2, 1, []), (1083, .iadd, 1, []), (1084, .iaload, 1, []), (1085, .invokevirtual 130, 3, [0, 94, 0, 0, 659]), (1088, .pop, 1, []), (1089, .aload_n 2, 1, []), (1090, .aload_n 0, 1, []), (1091, .iload_n 3, 1, []), (1092, .iconst 1, 1, []), (1093, .iadd, 1, []), (1094, .iaload, 1, []), (1095, .aload_n 0, 1, []), (1096, .iload_n 3, 1, []), (1097, .iconst 2, 1, []), (1098, .iadd, 1, []), (1099, .iaload, 1, []), (1100, .invokevirtual 133, 3, [0, 198, 0, 0, 1156]), (1103, .pop, 1, []), (1104, .goto 325, 3, [973]), (1107, .aload_n 1, 1, []), (1108, .aload_n 0, 1, []), (1109, .iload_n 3, 1, []), (1110, .iconst 1, 1, []), (1111, .iadd, 1, []), (1112, .iaload, 1, []), (1113, .invokevirtual 134, 3, [0, 95, 0, 0, 663]), (1116, .pop, 1, []), (1117, .aload_n 2, 1, []), (1118, .aload_n 0, 1, []), (1119, .iload_n 3, 1, []), (1120, .iconst 1, 1, []), (1121, .iadd, 1, []), (1122, .iaload, 1, []), (1123, .invokevirtual 137, 3, [0, 199, 0, 0, 1160]), (1126, .pop, 1, []), (1127, .goto 302, 3, [973]), (1130, .aload_n 1, 1, []), (1131, .aload_n 0, 1, []), (1132, .iload_n 3, 1, []), (1133, .iconst 1, 1, []), (1134, .iadd, 1, []), (1135, .iaload, 1, []), (1136, .aload_n 0, 1, []), (1137, .iload_n 3, 1, []), (1138, .iconst 2, 1, []), (1139, .iadd, 1, []), (1140, .iaload, 1, []), (1141, .invokevirtual 138, 3, [0, 97, 0, 0, 671]), (1144, .pop, 1, []), (1145, .aload_n 2, 1, []), (1146, .aload_n 0, 1, []), (1147, .iload_n 3, 1, []), (1148, .iconst 1, 1, []), (1149, .iadd, 1, []), (1150, .iaload, 1, []), (1151, .aload_n 0, 1, []), (1152, .iload_n 3, 1, []), (1153, .iconst 2, 1, []), (1154, .iadd, 1, []), (1155, .iaload, 1, []), (1156, .invokevirtual 141, 3, [0, 200, 0, 0, 1164]), (1159, .pop, 1, []), (1160, .goto 269, 3, [973]), (1163, .aload_n 1, 1, []), (1164, .aload_n 0, 1, []), (1165, .iload_n 3, 1, []), (1166, .iconst 1, 1, []), (1167, .iadd, 1, []), (1168, .iaload, 1, []), (1169, .aload_n 0, 1, []), (1170, .iload_n 3, 1, []), (1171, .iconst 2, 1, []), (1172, .iadd, 1, []), (1173, .iaload, 1, []), (1174, .invokevirtual 142, 3, [0, 100, 0, 0, 683]), (1177, .pop, 1, []), (1178, .aload_n 2, 1, []), (1179, .aload_n 0, 1, []), (1180, .iload_n 3, 1, []), (1181, .iconst 1, 1, []), (1182, .iadd, 1, []), (1183, .iaload, 1, []), (1184, .aload_n 0, 1, []), (1185, .iload_n 3, 1, []), (1186, .iconst 2, 1, []), (1187, .iadd, 1, []), (1188, .iaload, 1, []), (1189, .invokevirtual 145, 3, [0, 202, 0, 0, 1172]), (1192, .pop, 1, []), (1193, .goto 236, 3, [973]), (1196, .aload_n 1, 1, []), (1197, .aload_n 0, 1, []), (1198, .iload_n 3, 1, []), (1199, .iconst 1, 1, []), (1200, .iadd, 1, []), (1201, .iaload, 1, []), (1202, .invokevirtual 146, 3, [0, 101, 0, 0, 687]), (1205, .pop, 1, []), (1206, .aload_n 2, 1, []), (1207, .aload_n 0, 1, []), (1208, .iload_n 3, 1, []), (1209, .iconst 1, 1, []), (1210, .iadd, 1, []), (1211, .iaload, 1, []), (1212, .invokevirtual 149, 3, [0, 203, 0, 0, 1176]), (1215, .pop, 1, []), (1216, .goto 213, 3, [973]), (1219, .aload_n 1, 1, []), (1220, .aload_n 0, 1, []), (1221, .iload_n 3, 1, []), (1222, .iconst 1, 1, []), (1223, .iadd, 1, []), (1224, .iaload, 1, []), (1225, .aload_n 0, 1, []), (1226, .iload_n 3, 1, []), (1227, .iconst 2, 1, []), (1228, .iadd, 1, []), (1229, .iaload, 1, []), (1230, .invokevirtual 150, 3, [0, 103, 0, 0, 697]), (1233, .pop, 1, []), (1234, .aload_n 2, 1, []), (1235, .aload_n 0, 1, []), (1236, .iload_n 3, 1, []), (1237, .iconst 1, 1, []), (1238, .iadd, 1, []), (1239, .iaload, 1, []), (1240, .aload_n 0, 1, []), (1241, .iload_n 3, 1, []), (1242, .iconst 2, 1, []), (1243, .iadd, 1, []), (1244, .iaload, 1, []), (1245, .invokevirtual 153, 3, [0, 207, 0, 0, 1192]), (1248, .pop, 1, []), (1249, .goto 180, 3, [973]), (1252, .aload_n 1, 1, []), (1253, .aload_n 0, 1, []), (1254, .iload_n 3, 1, []), (1255, .iconst 1, 1, []), (1256, .iadd, 1, []), (1257, .iaload, 1, []), (1258, .aload_n 0, 1, []), (1259, .iload_n 3, 1, []), (1260, .iconst 2, 1, []), (1261, .iadd, 1, []), (1262, .iaload, 1, []), (1263, .invokevirtual 154, 3, [0, 107, 0, 0, 713]), (1266, .pop, 1, []), (1267, .aload_n 2, 1, []), (1268, .aload_n 0, 1, []), (1269, .iload_n 3, 1, []), (1270, .iconst 1, 1, []), (1271, .iadd, 1, []), (1272, .iaload, 1, []), (1273, .aload_n 0, 1, []), (1274, .iload_n 3, 1, []), (1275, .iconst 2, 1, []), (1276, .iadd, 1, []), (1277, .iaload, 1, []), (1278, .invokevirtual 157, 3, [0, 211, 0, 0, 1209]), (1281, .pop, 1, []), (1282, .goto 147, 3, [973]), (1285, .aload_n 1, 1, []), (1286, .aload_n 0, 1, []), (1287, .iload_n 3, 1, []), (1288, .iconst 1, 1, []), (1289, .iadd, 1, []), (1290, .iaload, 1, []), (1291, .aload_n 0, 1, []), (1292, .iload_n 3, 1, []), (1293, .iconst 2, 1, []), (1294, .iadd, 1, []), (1295, .iaload, 1, []), (1296, .invokevirtual 158, 3, [0, 108, 0, 0, 717]), (1299, .pop, 1, []), (1300, .aload_n 2, 1, []), (1301, .aload_n 0, 1, []), (1302, .iload_n 3, 1, []), (1303, .iconst 1, 1, []), (1304, .iadd, 1, []), (1305, .iaload, 1, []), (1306, .aload_n 0, 1, []), (1307, .iload_n 3, 1, []), (1308, .iconst 2, 1, []), (1309, .iadd, 1, []), (1310, .iaload, 1, []), (1311, .invokevirtual 161, 3, [0, 212, 0, 0, 1213]), (1314, .pop, 1, []), (1315, .goto 114, 3, [973]), (1318, .aload_n 1, 1, []), (1319, .invokevirtual 162, 3, [0, 110, 0, 0, 730]), (1322, .pop, 1, []), (1323, .aload_n 2, 1, []), (1324, .invokevirtual 165, 3, [0, 213, 0, 0, 1222]), (1327, .pop, 1, []), (1328, .goto 101, 3, [973]), (1331, .aload_n 1, 1, []), (1332, .invokevirtual 166, 3, [0, 111, 0, 0, 734]), (1335, .pop2, 1, []), (1336, .aload_n 2, 1, []), (1337, .invokevirtual 170, 3, [0, 214, 0, 0, 1226]), (1340, .pop2, 1, []), (1341, .goto 88, 3, [973]), (1344, .aload_n 1, 1, []), (1345, .invokevirtual 171, 3, [0, 112, 0, 0, 738]), (1348, .pop2, 1, []), (1349, .aload_n 2, 1, []), (1350, .invokevirtual 174, 3, [0, 215, 0, 0, 1230]), (1353, .pop2, 1, []), (1354, .goto 75, 3, [973]), (1357, .aload_n 1, 1, []), (1358, .aload_n 0, 1, []), (1359, .iload_n 3, 1, []), (1360, .iconst 1, 1, []), (1361, .iadd, 1, []), (1362, .iaload, 1, []), (1363, .invokevirtual 175, 3, [0, 113, 0, 0, 742]), (1366, .pop, 1, []), (1367, .aload_n 2, 1, []), (1368, .aload_n 0, 1, []), (1369, .iload_n 3, 1, []), (1370, .iconst 1, 1, []), (1371, .iadd, 1, []), (1372, .iaload, 1, []), (1373, .invokevirtual 178, 3, [0, 216, 0, 0, 1234]), (1376, .pop, 1, []), (1377, .goto 52, 3, [973]), (1380, .aload_n 1, 1, []), (1381, .invokevirtual 179, 3, [0, 118, 0, 0, 762]), (1384, .pop, 1, []), (1385, .aload_n 2, 1, []), (1386, .invokevirtual 182, 3, [0, 218, 0, 0, 1242]), (1389, .pop, 1, []), (1390, .goto 39, 3, [973]), (1393, .aload_n 1, 1, []), (1394, .aload_n 0, 1, []), (1395, .iload_n 3, 1, []), (1396, .iconst 1, 1, []), (1397, .iadd, 1, []), (1398, .iaload, 1, []), (1399, .invokevirtual 183, 3, [0, 119, 0, 0, 766]), (1402, .pop, 1, []), (1403, .aload_n 2, 1, []), (1404, .aload_n 0, 1, []), (1405, .iload_n 3, 1, []), (1406, .iconst 1, 1, []), (1407, .iadd, 1, []), (1408, .iaload, 1, []), (1409, .invokevirtual 186, 3, [0, 219, 0, 0, 1246]), (1412, .pop, 1, []), (1413, .goto 16, 3, [973]), (1416, .aload_n 1, 1, []), (1417, .invokevirtual 187, 3, [0, 120, 0, 0, 770]), (1420, .pop2, 1, []), (1421, .aload_n 2, 1, []), (1422, .invokevirtual 190, 3, [0, 220, 0, 0, 1250]), (1425, .pop2, 1, []), (1426, .goto 3, 3, [973]), (1429, .iinc 3 6, 3, []), (1432, .goto (-1414), 3, [10]), (1435, .iconst 1, 1, []), (1436, .ireturn, 1, [])]
end
section
theorem zzStop : True := trivial
end
