section
-- ===== PART A: goes FIRST, ahead of the names: the tables' words, and 'selects' of the private methods out of them =====
/-- a private method of a class that the tables say can be made, by its rows of tables_1 -/
def lw_okq (q : MethodName × Nat) : Prop := (q.1.cls ≠ "java/lang/invoke/MethodHandle" ∧ q.1.cls ≠ "java/lang/invoke/VarHandle") ∧ Cond.instantiable q.1.cls q.2 ∈ tables_1 ∧ Cond.privateMethod q.1 ∈ tables_1 ∧ Cond.instanceMethod q.1 ∈ tables_1
theorem lw_p0 : lw_okq (⟨"RollingCodes$Scene", "begin", "()V"⟩, 13) := ⟨⟨by decide +kernel, by decide +kernel⟩, List.mem_of_getElem? (i := 138) (by decide +kernel), List.mem_of_getElem? (i := 298) (by decide +kernel), List.mem_of_getElem? (i := 299) (by decide +kernel)⟩
theorem lw_p1 : lw_okq (⟨"RollingCodes$Scene", "waitFor", "(III)V"⟩, 13) := ⟨⟨by decide +kernel, by decide +kernel⟩, List.mem_of_getElem? (i := 138) (by decide +kernel), List.mem_of_getElem? (i := 302) (by decide +kernel), List.mem_of_getElem? (i := 303) (by decide +kernel)⟩
theorem lw_p2 : lw_okq (⟨"RollingCodes$Scene", "taught", "(II)V"⟩, 13) := ⟨⟨by decide +kernel, by decide +kernel⟩, List.mem_of_getElem? (i := 138) (by decide +kernel), List.mem_of_getElem? (i := 306) (by decide +kernel), List.mem_of_getElem? (i := 307) (by decide +kernel)⟩
theorem lw_p3 : lw_okq (⟨"RollingCodes$Seen", "clear", "()V"⟩, 3) := ⟨⟨by decide +kernel, by decide +kernel⟩, List.mem_of_getElem? (i := 252) (by decide +kernel), List.mem_of_getElem? (i := 310) (by decide +kernel), List.mem_of_getElem? (i := 311) (by decide +kernel)⟩
theorem lw_p4 : lw_okq (⟨"RollingCodes$Text", "add", "(I)Z"⟩, 2) := ⟨⟨by decide +kernel, by decide +kernel⟩, List.mem_of_getElem? (i := 25) (by decide +kernel), List.mem_of_getElem? (i := 356) (by decide +kernel), List.mem_of_getElem? (i := 357) (by decide +kernel)⟩
theorem lw_p5 : lw_okq (⟨"RollingCodes$Reader", "read", "(LRollingCodes$Text;)V"⟩, 5) := ⟨⟨by decide +kernel, by decide +kernel⟩, List.mem_of_getElem? (i := 41) (by decide +kernel), List.mem_of_getElem? (i := 365) (by decide +kernel), List.mem_of_getElem? (i := 366) (by decide +kernel)⟩
theorem lw_p6 : lw_okq (⟨"RollingCodes$Plan", "clear", "()V"⟩, 13) := ⟨⟨by decide +kernel, by decide +kernel⟩, List.mem_of_getElem? (i := 47) (by decide +kernel), List.mem_of_getElem? (i := 369) (by decide +kernel), List.mem_of_getElem? (i := 370) (by decide +kernel)⟩
theorem lw_p7 : lw_okq (⟨"RollingCodes$Reader", "skipBlanks", "(LRollingCodes$Text;)V"⟩, 5) := ⟨⟨by decide +kernel, by decide +kernel⟩, List.mem_of_getElem? (i := 41) (by decide +kernel), List.mem_of_getElem? (i := 373) (by decide +kernel), List.mem_of_getElem? (i := 374) (by decide +kernel)⟩
theorem lw_p8 : lw_okq (⟨"RollingCodes$Text", "letterAt", "(I)I"⟩, 2) := ⟨⟨by decide +kernel, by decide +kernel⟩, List.mem_of_getElem? (i := 25) (by decide +kernel), List.mem_of_getElem? (i := 377) (by decide +kernel), List.mem_of_getElem? (i := 378) (by decide +kernel)⟩
theorem lw_p9 : lw_okq (⟨"RollingCodes$Reader", "readClause", "(LRollingCodes$Text;)V"⟩, 5) := ⟨⟨by decide +kernel, by decide +kernel⟩, List.mem_of_getElem? (i := 41) (by decide +kernel), List.mem_of_getElem? (i := 381) (by decide +kernel), List.mem_of_getElem? (i := 382) (by decide +kernel)⟩
theorem lw_p10 : lw_okq (⟨"RollingCodes$Reader", "faultOfWord", "(I)I"⟩, 5) := ⟨⟨by decide +kernel, by decide +kernel⟩, List.mem_of_getElem? (i := 41) (by decide +kernel), List.mem_of_getElem? (i := 385) (by decide +kernel), List.mem_of_getElem? (i := 386) (by decide +kernel)⟩
theorem lw_p11 : lw_okq (⟨"RollingCodes$Reader", "fail", "(II)V"⟩, 5) := ⟨⟨by decide +kernel, by decide +kernel⟩, List.mem_of_getElem? (i := 41) (by decide +kernel), List.mem_of_getElem? (i := 389) (by decide +kernel), List.mem_of_getElem? (i := 390) (by decide +kernel)⟩
theorem lw_p12 : lw_okq (⟨"RollingCodes$Reader", "readNumbers", "(LRollingCodes$Text;[I[I)V"⟩, 5) := ⟨⟨by decide +kernel, by decide +kernel⟩, List.mem_of_getElem? (i := 41) (by decide +kernel), List.mem_of_getElem? (i := 397) (by decide +kernel), List.mem_of_getElem? (i := 398) (by decide +kernel)⟩
theorem lw_p13 : lw_okq (⟨"RollingCodes$Reader", "readNumber", "(LRollingCodes$Text;II)I"⟩, 5) := ⟨⟨by decide +kernel, by decide +kernel⟩, List.mem_of_getElem? (i := 41) (by decide +kernel), List.mem_of_getElem? (i := 401) (by decide +kernel), List.mem_of_getElem? (i := 402) (by decide +kernel)⟩
theorem lw_p14 : lw_okq (⟨"RollingCodes$Reader", "readEnd", "(LRollingCodes$Text;)V"⟩, 5) := ⟨⟨by decide +kernel, by decide +kernel⟩, List.mem_of_getElem? (i := 41) (by decide +kernel), List.mem_of_getElem? (i := 416) (by decide +kernel), List.mem_of_getElem? (i := 417) (by decide +kernel)⟩
theorem lw_p15 : lw_okq (⟨"RollingCodes$Reader", "enter", "(I)V"⟩, 5) := ⟨⟨by decide +kernel, by decide +kernel⟩, List.mem_of_getElem? (i := 41) (by decide +kernel), List.mem_of_getElem? (i := 420) (by decide +kernel), List.mem_of_getElem? (i := 421) (by decide +kernel)⟩
def lw_privs_1 : List (MethodName × Nat) := [(⟨"RollingCodes$Scene", "begin", "()V"⟩, 13), (⟨"RollingCodes$Scene", "waitFor", "(III)V"⟩, 13), (⟨"RollingCodes$Scene", "taught", "(II)V"⟩, 13), (⟨"RollingCodes$Seen", "clear", "()V"⟩, 3), (⟨"RollingCodes$Text", "add", "(I)Z"⟩, 2), (⟨"RollingCodes$Reader", "read", "(LRollingCodes$Text;)V"⟩, 5), (⟨"RollingCodes$Plan", "clear", "()V"⟩, 13), (⟨"RollingCodes$Reader", "skipBlanks", "(LRollingCodes$Text;)V"⟩, 5), (⟨"RollingCodes$Text", "letterAt", "(I)I"⟩, 2), (⟨"RollingCodes$Reader", "readClause", "(LRollingCodes$Text;)V"⟩, 5), (⟨"RollingCodes$Reader", "faultOfWord", "(I)I"⟩, 5), (⟨"RollingCodes$Reader", "fail", "(II)V"⟩, 5), (⟨"RollingCodes$Reader", "readNumbers", "(LRollingCodes$Text;[I[I)V"⟩, 5), (⟨"RollingCodes$Reader", "readNumber", "(LRollingCodes$Text;II)I"⟩, 5), (⟨"RollingCodes$Reader", "readEnd", "(LRollingCodes$Text;)V"⟩, 5), (⟨"RollingCodes$Reader", "enter", "(I)V"⟩, 5)]
theorem lw_r1 : ∀ q ∈ lw_privs_1, lw_okq q := List.forall_mem_cons.mpr ⟨lw_p0, List.forall_mem_cons.mpr ⟨lw_p1, List.forall_mem_cons.mpr ⟨lw_p2, List.forall_mem_cons.mpr ⟨lw_p3, List.forall_mem_cons.mpr ⟨lw_p4, List.forall_mem_cons.mpr ⟨lw_p5, List.forall_mem_cons.mpr ⟨lw_p6, List.forall_mem_cons.mpr ⟨lw_p7, List.forall_mem_cons.mpr ⟨lw_p8, List.forall_mem_cons.mpr ⟨lw_p9, List.forall_mem_cons.mpr ⟨lw_p10, List.forall_mem_cons.mpr ⟨lw_p11, List.forall_mem_cons.mpr ⟨lw_p12, List.forall_mem_cons.mpr ⟨lw_p13, List.forall_mem_cons.mpr ⟨lw_p14, List.forall_mem_cons.mpr ⟨lw_p15, fun _ h => absurd h List.not_mem_nil⟩⟩⟩⟩⟩⟩⟩⟩⟩⟩⟩⟩⟩⟩⟩⟩
theorem lw_p16 : lw_okq (⟨"RollingCodes$Plan", "addEar", "([I)V"⟩, 13) := ⟨⟨by decide +kernel, by decide +kernel⟩, List.mem_of_getElem? (i := 47) (by decide +kernel), List.mem_of_getElem? (i := 424) (by decide +kernel), List.mem_of_getElem? (i := 425) (by decide +kernel)⟩
theorem lw_p17 : lw_okq (⟨"RollingCodes$Plan", "addGate", "([I)V"⟩, 13) := ⟨⟨by decide +kernel, by decide +kernel⟩, List.mem_of_getElem? (i := 47) (by decide +kernel), List.mem_of_getElem? (i := 428) (by decide +kernel), List.mem_of_getElem? (i := 429) (by decide +kernel)⟩
theorem lw_p18 : lw_okq (⟨"RollingCodes$Plan", "addFob", "([I)V"⟩, 13) := ⟨⟨by decide +kernel, by decide +kernel⟩, List.mem_of_getElem? (i := 47) (by decide +kernel), List.mem_of_getElem? (i := 432) (by decide +kernel), List.mem_of_getElem? (i := 433) (by decide +kernel)⟩
theorem lw_p19 : lw_okq (⟨"RollingCodes$Text", "clear", "()V"⟩, 2) := ⟨⟨by decide +kernel, by decide +kernel⟩, List.mem_of_getElem? (i := 25) (by decide +kernel), List.mem_of_getElem? (i := 436) (by decide +kernel), List.mem_of_getElem? (i := 437) (by decide +kernel)⟩
theorem lw_p20 : lw_okq (⟨"RollingCodes$Plan", "copyFrom", "(LRollingCodes$Plan;)V"⟩, 13) := ⟨⟨by decide +kernel, by decide +kernel⟩, List.mem_of_getElem? (i := 47) (by decide +kernel), List.mem_of_getElem? (i := 440) (by decide +kernel), List.mem_of_getElem? (i := 441) (by decide +kernel)⟩
theorem lw_p21 : lw_okq (⟨"RollingCodes$Past", "forget", "()V"⟩, 3) := ⟨⟨by decide +kernel, by decide +kernel⟩, List.mem_of_getElem? (i := 197) (by decide +kernel), List.mem_of_getElem? (i := 447) (by decide +kernel), List.mem_of_getElem? (i := 448) (by decide +kernel)⟩
theorem lw_p22 : lw_okq (⟨"RollingCodes$Images", "forget", "()V"⟩, 3) := ⟨⟨by decide +kernel, by decide +kernel⟩, List.mem_of_getElem? (i := 217) (by decide +kernel), List.mem_of_getElem? (i := 451) (by decide +kernel), List.mem_of_getElem? (i := 452) (by decide +kernel)⟩
theorem lw_p23 : lw_okq (⟨"RollingCodes$Book", "clear", "()V"⟩, 3) := ⟨⟨by decide +kernel, by decide +kernel⟩, List.mem_of_getElem? (i := 269) (by decide +kernel), List.mem_of_getElem? (i := 455) (by decide +kernel), List.mem_of_getElem? (i := 456) (by decide +kernel)⟩
theorem lw_p24 : lw_okq (⟨"RollingCodes$Scene", "allOpenings", "()I"⟩, 13) := ⟨⟨by decide +kernel, by decide +kernel⟩, List.mem_of_getElem? (i := 138) (by decide +kernel), List.mem_of_getElem? (i := 467) (by decide +kernel), List.mem_of_getElem? (i := 468) (by decide +kernel)⟩
theorem lw_p25 : lw_okq (⟨"RollingCodes$Plan", "isFob", "(I)Z"⟩, 13) := ⟨⟨by decide +kernel, by decide +kernel⟩, List.mem_of_getElem? (i := 47) (by decide +kernel), List.mem_of_getElem? (i := 475) (by decide +kernel), List.mem_of_getElem? (i := 476) (by decide +kernel)⟩
theorem lw_p26 : lw_okq (⟨"RollingCodes", "bestPlace", "(I)I"⟩, 12) := ⟨⟨by decide +kernel, by decide +kernel⟩, List.mem_of_getElem? (i := 17) (by decide +kernel), List.mem_of_getElem? (i := 480) (by decide +kernel), List.mem_of_getElem? (i := 481) (by decide +kernel)⟩
theorem lw_p27 : lw_okq (⟨"RollingCodes", "opensFrom", "(II)I"⟩, 12) := ⟨⟨by decide +kernel, by decide +kernel⟩, List.mem_of_getElem? (i := 17) (by decide +kernel), List.mem_of_getElem? (i := 484) (by decide +kernel), List.mem_of_getElem? (i := 485) (by decide +kernel)⟩
theorem lw_p28 : lw_okq (⟨"RollingCodes$Scene", "copyFrom", "(LRollingCodes$Scene;)V"⟩, 13) := ⟨⟨by decide +kernel, by decide +kernel⟩, List.mem_of_getElem? (i := 138) (by decide +kernel), List.mem_of_getElem? (i := 488) (by decide +kernel), List.mem_of_getElem? (i := 489) (by decide +kernel)⟩
theorem lw_p29 : lw_okq (⟨"RollingCodes$Scene", "pressedFrom", "(II)I"⟩, 13) := ⟨⟨by decide +kernel, by decide +kernel⟩, List.mem_of_getElem? (i := 138) (by decide +kernel), List.mem_of_getElem? (i := 493) (by decide +kernel), List.mem_of_getElem? (i := 494) (by decide +kernel)⟩
theorem lw_p30 : lw_okq (⟨"RollingCodes$Scene", "rangeNow", "(I)I"⟩, 13) := ⟨⟨by decide +kernel, by decide +kernel⟩, List.mem_of_getElem? (i := 138) (by decide +kernel), List.mem_of_getElem? (i := 497) (by decide +kernel), List.mem_of_getElem? (i := 498) (by decide +kernel)⟩
theorem lw_p31 : lw_okq (⟨"RollingCodes$Plan", "sendings", "(I)I"⟩, 13) := ⟨⟨by decide +kernel, by decide +kernel⟩, List.mem_of_getElem? (i := 47) (by decide +kernel), List.mem_of_getElem? (i := 501) (by decide +kernel), List.mem_of_getElem? (i := 502) (by decide +kernel)⟩
def lw_privs_2 : List (MethodName × Nat) := [(⟨"RollingCodes$Plan", "addEar", "([I)V"⟩, 13), (⟨"RollingCodes$Plan", "addGate", "([I)V"⟩, 13), (⟨"RollingCodes$Plan", "addFob", "([I)V"⟩, 13), (⟨"RollingCodes$Text", "clear", "()V"⟩, 2), (⟨"RollingCodes$Plan", "copyFrom", "(LRollingCodes$Plan;)V"⟩, 13), (⟨"RollingCodes$Past", "forget", "()V"⟩, 3), (⟨"RollingCodes$Images", "forget", "()V"⟩, 3), (⟨"RollingCodes$Book", "clear", "()V"⟩, 3), (⟨"RollingCodes$Scene", "allOpenings", "()I"⟩, 13), (⟨"RollingCodes$Plan", "isFob", "(I)Z"⟩, 13), (⟨"RollingCodes", "bestPlace", "(I)I"⟩, 12), (⟨"RollingCodes", "opensFrom", "(II)I"⟩, 12), (⟨"RollingCodes$Scene", "copyFrom", "(LRollingCodes$Scene;)V"⟩, 13), (⟨"RollingCodes$Scene", "pressedFrom", "(II)I"⟩, 13), (⟨"RollingCodes$Scene", "rangeNow", "(I)I"⟩, 13), (⟨"RollingCodes$Plan", "sendings", "(I)I"⟩, 13)]
theorem lw_r2 : ∀ q ∈ lw_privs_2, lw_okq q := List.forall_mem_cons.mpr ⟨lw_p16, List.forall_mem_cons.mpr ⟨lw_p17, List.forall_mem_cons.mpr ⟨lw_p18, List.forall_mem_cons.mpr ⟨lw_p19, List.forall_mem_cons.mpr ⟨lw_p20, List.forall_mem_cons.mpr ⟨lw_p21, List.forall_mem_cons.mpr ⟨lw_p22, List.forall_mem_cons.mpr ⟨lw_p23, List.forall_mem_cons.mpr ⟨lw_p24, List.forall_mem_cons.mpr ⟨lw_p25, List.forall_mem_cons.mpr ⟨lw_p26, List.forall_mem_cons.mpr ⟨lw_p27, List.forall_mem_cons.mpr ⟨lw_p28, List.forall_mem_cons.mpr ⟨lw_p29, List.forall_mem_cons.mpr ⟨lw_p30, List.forall_mem_cons.mpr ⟨lw_p31, fun _ h => absurd h List.not_mem_nil⟩⟩⟩⟩⟩⟩⟩⟩⟩⟩⟩⟩⟩⟩⟩⟩
theorem lw_p32 : lw_okq (⟨"RollingCodes$Scene", "nextCode", "(I)I"⟩, 13) := ⟨⟨by decide +kernel, by decide +kernel⟩, List.mem_of_getElem? (i := 138) (by decide +kernel), List.mem_of_getElem? (i := 505) (by decide +kernel), List.mem_of_getElem? (i := 506) (by decide +kernel)⟩
theorem lw_p33 : lw_okq (⟨"RollingCodes$Plan", "stride", "(I)I"⟩, 13) := ⟨⟨by decide +kernel, by decide +kernel⟩, List.mem_of_getElem? (i := 47) (by decide +kernel), List.mem_of_getElem? (i := 509) (by decide +kernel), List.mem_of_getElem? (i := 510) (by decide +kernel)⟩
theorem lw_p34 : lw_okq (⟨"RollingCodes$Scene", "codeAhead", "(II)I"⟩, 13) := ⟨⟨by decide +kernel, by decide +kernel⟩, List.mem_of_getElem? (i := 138) (by decide +kernel), List.mem_of_getElem? (i := 513) (by decide +kernel), List.mem_of_getElem? (i := 514) (by decide +kernel)⟩
theorem lw_p35 : lw_okq (⟨"RollingCodes$Scene", "heardByGates", "(III)I"⟩, 13) := ⟨⟨by decide +kernel, by decide +kernel⟩, List.mem_of_getElem? (i := 138) (by decide +kernel), List.mem_of_getElem? (i := 520) (by decide +kernel), List.mem_of_getElem? (i := 521) (by decide +kernel)⟩
theorem lw_p36 : lw_okq (⟨"RollingCodes$Scene", "isHeardAt", "(III)Z"⟩, 13) := ⟨⟨by decide +kernel, by decide +kernel⟩, List.mem_of_getElem? (i := 138) (by decide +kernel), List.mem_of_getElem? (i := 524) (by decide +kernel), List.mem_of_getElem? (i := 525) (by decide +kernel)⟩
theorem lw_p37 : lw_okq (⟨"RollingCodes$Scene", "isNoisy", "(I)Z"⟩, 13) := ⟨⟨by decide +kernel, by decide +kernel⟩, List.mem_of_getElem? (i := 138) (by decide +kernel), List.mem_of_getElem? (i := 528) (by decide +kernel), List.mem_of_getElem? (i := 529) (by decide +kernel)⟩
theorem lw_p38 : lw_okq (⟨"RollingCodes$Scene", "hears", "(II)Z"⟩, 13) := ⟨⟨by decide +kernel, by decide +kernel⟩, List.mem_of_getElem? (i := 138) (by decide +kernel), List.mem_of_getElem? (i := 535) (by decide +kernel), List.mem_of_getElem? (i := 536) (by decide +kernel)⟩
theorem lw_p39 : lw_okq (⟨"RollingCodes$Scene", "open", "(III)V"⟩, 13) := ⟨⟨by decide +kernel, by decide +kernel⟩, List.mem_of_getElem? (i := 138) (by decide +kernel), List.mem_of_getElem? (i := 540) (by decide +kernel), List.mem_of_getElem? (i := 541) (by decide +kernel)⟩
theorem lw_p40 : lw_okq (⟨"RollingCodes$Scene", "firstAhead", "(III)I"⟩, 13) := ⟨⟨by decide +kernel, by decide +kernel⟩, List.mem_of_getElem? (i := 138) (by decide +kernel), List.mem_of_getElem? (i := 547) (by decide +kernel), List.mem_of_getElem? (i := 548) (by decide +kernel)⟩
theorem lw_p41 : lw_okq (⟨"RollingCodes$Scene", "lastOf", "(II)I"⟩, 13) := ⟨⟨by decide +kernel, by decide +kernel⟩, List.mem_of_getElem? (i := 138) (by decide +kernel), List.mem_of_getElem? (i := 551) (by decide +kernel), List.mem_of_getElem? (i := 552) (by decide +kernel)⟩
theorem lw_p42 : lw_okq (⟨"RollingCodes$Plan", "mostAhead", "(I)I"⟩, 13) := ⟨⟨by decide +kernel, by decide +kernel⟩, List.mem_of_getElem? (i := 47) (by decide +kernel), List.mem_of_getElem? (i := 555) (by decide +kernel), List.mem_of_getElem? (i := 556) (by decide +kernel)⟩
theorem lw_p43 : lw_okq (⟨"RollingCodes$Plan", "leastAhead", "(I)I"⟩, 13) := ⟨⟨by decide +kernel, by decide +kernel⟩, List.mem_of_getElem? (i := 47) (by decide +kernel), List.mem_of_getElem? (i := 559) (by decide +kernel), List.mem_of_getElem? (i := 560) (by decide +kernel)⟩
theorem lw_p44 : lw_okq (⟨"RollingCodes$Scene", "heardByEar", "(III)V"⟩, 13) := ⟨⟨by decide +kernel, by decide +kernel⟩, List.mem_of_getElem? (i := 138) (by decide +kernel), List.mem_of_getElem? (i := 563) (by decide +kernel), List.mem_of_getElem? (i := 564) (by decide +kernel)⟩
theorem lw_p45 : lw_okq (⟨"RollingCodes$Plan", "isGate", "(I)Z"⟩, 13) := ⟨⟨by decide +kernel, by decide +kernel⟩, List.mem_of_getElem? (i := 47) (by decide +kernel), List.mem_of_getElem? (i := 580) (by decide +kernel), List.mem_of_getElem? (i := 581) (by decide +kernel)⟩
theorem lw_p46 : lw_okq (⟨"RollingCodes", "usefulAt", "(I)I"⟩, 12) := ⟨⟨by decide +kernel, by decide +kernel⟩, List.mem_of_getElem? (i := 17) (by decide +kernel), List.mem_of_getElem? (i := 584) (by decide +kernel), List.mem_of_getElem? (i := 585) (by decide +kernel)⟩
theorem lw_p47 : lw_okq (⟨"RollingCodes", "areKnown", "(II)Z"⟩, 12) := ⟨⟨by decide +kernel, by decide +kernel⟩, List.mem_of_getElem? (i := 17) (by decide +kernel), List.mem_of_getElem? (i := 593) (by decide +kernel), List.mem_of_getElem? (i := 594) (by decide +kernel)⟩
def lw_privs_3 : List (MethodName × Nat) := [(⟨"RollingCodes$Scene", "nextCode", "(I)I"⟩, 13), (⟨"RollingCodes$Plan", "stride", "(I)I"⟩, 13), (⟨"RollingCodes$Scene", "codeAhead", "(II)I"⟩, 13), (⟨"RollingCodes$Scene", "heardByGates", "(III)I"⟩, 13), (⟨"RollingCodes$Scene", "isHeardAt", "(III)Z"⟩, 13), (⟨"RollingCodes$Scene", "isNoisy", "(I)Z"⟩, 13), (⟨"RollingCodes$Scene", "hears", "(II)Z"⟩, 13), (⟨"RollingCodes$Scene", "open", "(III)V"⟩, 13), (⟨"RollingCodes$Scene", "firstAhead", "(III)I"⟩, 13), (⟨"RollingCodes$Scene", "lastOf", "(II)I"⟩, 13), (⟨"RollingCodes$Plan", "mostAhead", "(I)I"⟩, 13), (⟨"RollingCodes$Plan", "leastAhead", "(I)I"⟩, 13), (⟨"RollingCodes$Scene", "heardByEar", "(III)V"⟩, 13), (⟨"RollingCodes$Plan", "isGate", "(I)Z"⟩, 13), (⟨"RollingCodes", "usefulAt", "(I)I"⟩, 12), (⟨"RollingCodes", "areKnown", "(II)Z"⟩, 12)]
theorem lw_r3 : ∀ q ∈ lw_privs_3, lw_okq q := List.forall_mem_cons.mpr ⟨lw_p32, List.forall_mem_cons.mpr ⟨lw_p33, List.forall_mem_cons.mpr ⟨lw_p34, List.forall_mem_cons.mpr ⟨lw_p35, List.forall_mem_cons.mpr ⟨lw_p36, List.forall_mem_cons.mpr ⟨lw_p37, List.forall_mem_cons.mpr ⟨lw_p38, List.forall_mem_cons.mpr ⟨lw_p39, List.forall_mem_cons.mpr ⟨lw_p40, List.forall_mem_cons.mpr ⟨lw_p41, List.forall_mem_cons.mpr ⟨lw_p42, List.forall_mem_cons.mpr ⟨lw_p43, List.forall_mem_cons.mpr ⟨lw_p44, List.forall_mem_cons.mpr ⟨lw_p45, List.forall_mem_cons.mpr ⟨lw_p46, List.forall_mem_cons.mpr ⟨lw_p47, fun _ h => absurd h List.not_mem_nil⟩⟩⟩⟩⟩⟩⟩⟩⟩⟩⟩⟩⟩⟩⟩⟩
theorem lw_p48 : lw_okq (⟨"RollingCodes$Scene", "isKept", "(I)Z"⟩, 13) := ⟨⟨by decide +kernel, by decide +kernel⟩, List.mem_of_getElem? (i := 138) (by decide +kernel), List.mem_of_getElem? (i := 602) (by decide +kernel), List.mem_of_getElem? (i := 603) (by decide +kernel)⟩
theorem lw_p49 : lw_okq (⟨"RollingCodes$Past", "remember", "(LRollingCodes$Scene;)V"⟩, 3) := ⟨⟨by decide +kernel, by decide +kernel⟩, List.mem_of_getElem? (i := 197) (by decide +kernel), List.mem_of_getElem? (i := 616) (by decide +kernel), List.mem_of_getElem? (i := 617) (by decide +kernel)⟩
theorem lw_p50 : lw_okq (⟨"RollingCodes$Scene", "turnNoise", "(I)V"⟩, 13) := ⟨⟨by decide +kernel, by decide +kernel⟩, List.mem_of_getElem? (i := 138) (by decide +kernel), List.mem_of_getElem? (i := 638) (by decide +kernel), List.mem_of_getElem? (i := 639) (by decide +kernel)⟩
theorem lw_p51 : lw_okq (⟨"RollingCodes$Scene", "sentAgain", "(I)I"⟩, 13) := ⟨⟨by decide +kernel, by decide +kernel⟩, List.mem_of_getElem? (i := 138) (by decide +kernel), List.mem_of_getElem? (i := 651) (by decide +kernel), List.mem_of_getElem? (i := 652) (by decide +kernel)⟩
theorem lw_p52 : lw_okq (⟨"RollingCodes", "passHour", "()V"⟩, 12) := ⟨⟨by decide +kernel, by decide +kernel⟩, List.mem_of_getElem? (i := 17) (by decide +kernel), List.mem_of_getElem? (i := 663) (by decide +kernel), List.mem_of_getElem? (i := 664) (by decide +kernel)⟩
theorem lw_p53 : lw_okq (⟨"RollingCodes$Draws", "next", "(I)I"⟩, 1) := ⟨⟨by decide +kernel, by decide +kernel⟩, List.mem_of_getElem? (i := 286) (by decide +kernel), List.mem_of_getElem? (i := 667) (by decide +kernel), List.mem_of_getElem? (i := 668) (by decide +kernel)⟩
theorem lw_p54 : lw_okq (⟨"RollingCodes$Past", "takeBack", "(LRollingCodes$Scene;)V"⟩, 3) := ⟨⟨by decide +kernel, by decide +kernel⟩, List.mem_of_getElem? (i := 197) (by decide +kernel), List.mem_of_getElem? (i := 679) (by decide +kernel), List.mem_of_getElem? (i := 680) (by decide +kernel)⟩
theorem lw_p55 : lw_okq (⟨"RollingCodes$Scene", "pressedUnheard", "(II)V"⟩, 13) := ⟨⟨by decide +kernel, by decide +kernel⟩, List.mem_of_getElem? (i := 138) (by decide +kernel), List.mem_of_getElem? (i := 698) (by decide +kernel), List.mem_of_getElem? (i := 699) (by decide +kernel)⟩
theorem lw_p56 : lw_okq (⟨"RollingCodes$Scene", "opensBeside", "(II)Z"⟩, 13) := ⟨⟨by decide +kernel, by decide +kernel⟩, List.mem_of_getElem? (i := 138) (by decide +kernel), List.mem_of_getElem? (i := 702) (by decide +kernel), List.mem_of_getElem? (i := 703) (by decide +kernel)⟩
theorem lw_p57 : lw_okq (⟨"RollingCodes$RowSearch", "find", "(LRollingCodes$Scene;)I"⟩, 2) := ⟨⟨by decide +kernel, by decide +kernel⟩, List.mem_of_getElem? (i := 236) (by decide +kernel), List.mem_of_getElem? (i := 714) (by decide +kernel), List.mem_of_getElem? (i := 715) (by decide +kernel)⟩
theorem lw_p58 : lw_okq (⟨"RollingCodes$Scene", "gatesInReach", "()I"⟩, 13) := ⟨⟨by decide +kernel, by decide +kernel⟩, List.mem_of_getElem? (i := 138) (by decide +kernel), List.mem_of_getElem? (i := 719) (by decide +kernel), List.mem_of_getElem? (i := 720) (by decide +kernel)⟩
theorem lw_p59 : lw_okq (⟨"RollingCodes$Scene", "waitsAs", "(LRollingCodes$Scene;)Z"⟩, 13) := ⟨⟨by decide +kernel, by decide +kernel⟩, List.mem_of_getElem? (i := 138) (by decide +kernel), List.mem_of_getElem? (i := 727) (by decide +kernel), List.mem_of_getElem? (i := 728) (by decide +kernel)⟩
theorem lw_p60 : lw_okq (⟨"RollingCodes", "couldSend", "(II)Z"⟩, 12) := ⟨⟨by decide +kernel, by decide +kernel⟩, List.mem_of_getElem? (i := 17) (by decide +kernel), List.mem_of_getElem? (i := 738) (by decide +kernel), List.mem_of_getElem? (i := 739) (by decide +kernel)⟩
theorem lw_p61 : lw_okq (⟨"RollingCodes$Seen", "add", "(II)Z"⟩, 3) := ⟨⟨by decide +kernel, by decide +kernel⟩, List.mem_of_getElem? (i := 252) (by decide +kernel), List.mem_of_getElem? (i := 757) (by decide +kernel), List.mem_of_getElem? (i := 758) (by decide +kernel)⟩
theorem lw_p62 : lw_okq (⟨"RollingCodes$Seen", "fitting", "()I"⟩, 3) := ⟨⟨by decide +kernel, by decide +kernel⟩, List.mem_of_getElem? (i := 252) (by decide +kernel), List.mem_of_getElem? (i := 766) (by decide +kernel), List.mem_of_getElem? (i := 767) (by decide +kernel)⟩
theorem lw_p63 : lw_okq (⟨"RollingCodes$Seen", "leastFitting", "()I"⟩, 3) := ⟨⟨by decide +kernel, by decide +kernel⟩, List.mem_of_getElem? (i := 252) (by decide +kernel), List.mem_of_getElem? (i := 770) (by decide +kernel), List.mem_of_getElem? (i := 771) (by decide +kernel)⟩
def lw_privs_4 : List (MethodName × Nat) := [(⟨"RollingCodes$Scene", "isKept", "(I)Z"⟩, 13), (⟨"RollingCodes$Past", "remember", "(LRollingCodes$Scene;)V"⟩, 3), (⟨"RollingCodes$Scene", "turnNoise", "(I)V"⟩, 13), (⟨"RollingCodes$Scene", "sentAgain", "(I)I"⟩, 13), (⟨"RollingCodes", "passHour", "()V"⟩, 12), (⟨"RollingCodes$Draws", "next", "(I)I"⟩, 1), (⟨"RollingCodes$Past", "takeBack", "(LRollingCodes$Scene;)V"⟩, 3), (⟨"RollingCodes$Scene", "pressedUnheard", "(II)V"⟩, 13), (⟨"RollingCodes$Scene", "opensBeside", "(II)Z"⟩, 13), (⟨"RollingCodes$RowSearch", "find", "(LRollingCodes$Scene;)I"⟩, 2), (⟨"RollingCodes$Scene", "gatesInReach", "()I"⟩, 13), (⟨"RollingCodes$Scene", "waitsAs", "(LRollingCodes$Scene;)Z"⟩, 13), (⟨"RollingCodes", "couldSend", "(II)Z"⟩, 12), (⟨"RollingCodes$Seen", "add", "(II)Z"⟩, 3), (⟨"RollingCodes$Seen", "fitting", "()I"⟩, 3), (⟨"RollingCodes$Seen", "leastFitting", "()I"⟩, 3)]
theorem lw_r4 : ∀ q ∈ lw_privs_4, lw_okq q := List.forall_mem_cons.mpr ⟨lw_p48, List.forall_mem_cons.mpr ⟨lw_p49, List.forall_mem_cons.mpr ⟨lw_p50, List.forall_mem_cons.mpr ⟨lw_p51, List.forall_mem_cons.mpr ⟨lw_p52, List.forall_mem_cons.mpr ⟨lw_p53, List.forall_mem_cons.mpr ⟨lw_p54, List.forall_mem_cons.mpr ⟨lw_p55, List.forall_mem_cons.mpr ⟨lw_p56, List.forall_mem_cons.mpr ⟨lw_p57, List.forall_mem_cons.mpr ⟨lw_p58, List.forall_mem_cons.mpr ⟨lw_p59, List.forall_mem_cons.mpr ⟨lw_p60, List.forall_mem_cons.mpr ⟨lw_p61, List.forall_mem_cons.mpr ⟨lw_p62, List.forall_mem_cons.mpr ⟨lw_p63, fun _ h => absurd h List.not_mem_nil⟩⟩⟩⟩⟩⟩⟩⟩⟩⟩⟩⟩⟩⟩⟩⟩
theorem lw_p64 : lw_okq (⟨"RollingCodes$Seen", "greatestFitting", "()I"⟩, 3) := ⟨⟨by decide +kernel, by decide +kernel⟩, List.mem_of_getElem? (i := 252) (by decide +kernel), List.mem_of_getElem? (i := 774) (by decide +kernel), List.mem_of_getElem? (i := 775) (by decide +kernel)⟩
theorem lw_p65 : lw_okq (⟨"RollingCodes$Seen", "bestQuestion", "()I"⟩, 3) := ⟨⟨by decide +kernel, by decide +kernel⟩, List.mem_of_getElem? (i := 252) (by decide +kernel), List.mem_of_getElem? (i := 782) (by decide +kernel), List.mem_of_getElem? (i := 783) (by decide +kernel)⟩
theorem lw_p66 : lw_okq (⟨"RollingCodes$Seen", "greatestPart", "(I)I"⟩, 3) := ⟨⟨by decide +kernel, by decide +kernel⟩, List.mem_of_getElem? (i := 252) (by decide +kernel), List.mem_of_getElem? (i := 787) (by decide +kernel), List.mem_of_getElem? (i := 788) (by decide +kernel)⟩
theorem lw_p67 : lw_okq (⟨"RollingCodes$Book", "add", "(II)Z"⟩, 3) := ⟨⟨by decide +kernel, by decide +kernel⟩, List.mem_of_getElem? (i := 269) (by decide +kernel), List.mem_of_getElem? (i := 796) (by decide +kernel), List.mem_of_getElem? (i := 797) (by decide +kernel)⟩
theorem lw_p68 : lw_okq (⟨"RollingCodes$Book", "firstFalse", "(LRollingCodes$Scene;)I"⟩, 3) := ⟨⟨by decide +kernel, by decide +kernel⟩, List.mem_of_getElem? (i := 269) (by decide +kernel), List.mem_of_getElem? (i := 808) (by decide +kernel), List.mem_of_getElem? (i := 809) (by decide +kernel)⟩
theorem lw_p69 : lw_okq (⟨"RollingCodes$Images", "isImage", "(I)Z"⟩, 3) := ⟨⟨by decide +kernel, by decide +kernel⟩, List.mem_of_getElem? (i := 217) (by decide +kernel), List.mem_of_getElem? (i := 820) (by decide +kernel), List.mem_of_getElem? (i := 821) (by decide +kernel)⟩
theorem lw_p70 : lw_okq (⟨"RollingCodes$Images", "take", "(ILRollingCodes$Scene;LRollingCodes$Draws;)V"⟩, 3) := ⟨⟨by decide +kernel, by decide +kernel⟩, List.mem_of_getElem? (i := 217) (by decide +kernel), List.mem_of_getElem? (i := 824) (by decide +kernel), List.mem_of_getElem? (i := 825) (by decide +kernel)⟩
theorem lw_p71 : lw_okq (⟨"RollingCodes$Images", "isTaken", "(I)Z"⟩, 3) := ⟨⟨by decide +kernel, by decide +kernel⟩, List.mem_of_getElem? (i := 217) (by decide +kernel), List.mem_of_getElem? (i := 833) (by decide +kernel), List.mem_of_getElem? (i := 834) (by decide +kernel)⟩
theorem lw_p72 : lw_okq (⟨"RollingCodes$Images", "bringBack", "(ILRollingCodes$Scene;LRollingCodes$Draws;)V"⟩, 3) := ⟨⟨by decide +kernel, by decide +kernel⟩, List.mem_of_getElem? (i := 217) (by decide +kernel), List.mem_of_getElem? (i := 837) (by decide +kernel), List.mem_of_getElem? (i := 838) (by decide +kernel)⟩
theorem lw_p73 : lw_okq (⟨"RollingCodesModel", "here", "()I"⟩, 46) := ⟨⟨by decide +kernel, by decide +kernel⟩, List.mem_of_getElem? (i := 841) (by decide +kernel), List.mem_of_getElem? (i := 1000) (by decide +kernel), List.mem_of_getElem? (i := 1001) (by decide +kernel)⟩
theorem lw_p74 : lw_okq (⟨"RollingCodesModel", "takeClause", "()I"⟩, 46) := ⟨⟨by decide +kernel, by decide +kernel⟩, List.mem_of_getElem? (i := 841) (by decide +kernel), List.mem_of_getElem? (i := 1004) (by decide +kernel), List.mem_of_getElem? (i := 1005) (by decide +kernel)⟩
theorem lw_p75 : lw_okq (⟨"RollingCodesModel", "fails", "(II)I"⟩, 46) := ⟨⟨by decide +kernel, by decide +kernel⟩, List.mem_of_getElem? (i := 841) (by decide +kernel), List.mem_of_getElem? (i := 1008) (by decide +kernel), List.mem_of_getElem? (i := 1009) (by decide +kernel)⟩
theorem lw_p76 : lw_okq (⟨"RollingCodesModel", "takeEar", "()I"⟩, 46) := ⟨⟨by decide +kernel, by decide +kernel⟩, List.mem_of_getElem? (i := 841) (by decide +kernel), List.mem_of_getElem? (i := 1012) (by decide +kernel), List.mem_of_getElem? (i := 1013) (by decide +kernel)⟩
theorem lw_p77 : lw_okq (⟨"RollingCodesModel", "into", "([IIII)I"⟩, 46) := ⟨⟨by decide +kernel, by decide +kernel⟩, List.mem_of_getElem? (i := 841) (by decide +kernel), List.mem_of_getElem? (i := 1016) (by decide +kernel), List.mem_of_getElem? (i := 1017) (by decide +kernel)⟩
theorem lw_p78 : lw_okq (⟨"RollingCodesModel", "takeNumber", "(II)I"⟩, 46) := ⟨⟨by decide +kernel, by decide +kernel⟩, List.mem_of_getElem? (i := 841) (by decide +kernel), List.mem_of_getElem? (i := 1020) (by decide +kernel), List.mem_of_getElem? (i := 1021) (by decide +kernel)⟩
theorem lw_p79 : lw_okq (⟨"RollingCodesModel", "takeGate", "()I"⟩, 46) := ⟨⟨by decide +kernel, by decide +kernel⟩, List.mem_of_getElem? (i := 841) (by decide +kernel), List.mem_of_getElem? (i := 1026) (by decide +kernel), List.mem_of_getElem? (i := 1027) (by decide +kernel)⟩
def lw_privs_5 : List (MethodName × Nat) := [(⟨"RollingCodes$Seen", "greatestFitting", "()I"⟩, 3), (⟨"RollingCodes$Seen", "bestQuestion", "()I"⟩, 3), (⟨"RollingCodes$Seen", "greatestPart", "(I)I"⟩, 3), (⟨"RollingCodes$Book", "add", "(II)Z"⟩, 3), (⟨"RollingCodes$Book", "firstFalse", "(LRollingCodes$Scene;)I"⟩, 3), (⟨"RollingCodes$Images", "isImage", "(I)Z"⟩, 3), (⟨"RollingCodes$Images", "take", "(ILRollingCodes$Scene;LRollingCodes$Draws;)V"⟩, 3), (⟨"RollingCodes$Images", "isTaken", "(I)Z"⟩, 3), (⟨"RollingCodes$Images", "bringBack", "(ILRollingCodes$Scene;LRollingCodes$Draws;)V"⟩, 3), (⟨"RollingCodesModel", "here", "()I"⟩, 46), (⟨"RollingCodesModel", "takeClause", "()I"⟩, 46), (⟨"RollingCodesModel", "fails", "(II)I"⟩, 46), (⟨"RollingCodesModel", "takeEar", "()I"⟩, 46), (⟨"RollingCodesModel", "into", "([IIII)I"⟩, 46), (⟨"RollingCodesModel", "takeNumber", "(II)I"⟩, 46), (⟨"RollingCodesModel", "takeGate", "()I"⟩, 46)]
theorem lw_r5 : ∀ q ∈ lw_privs_5, lw_okq q := List.forall_mem_cons.mpr ⟨lw_p64, List.forall_mem_cons.mpr ⟨lw_p65, List.forall_mem_cons.mpr ⟨lw_p66, List.forall_mem_cons.mpr ⟨lw_p67, List.forall_mem_cons.mpr ⟨lw_p68, List.forall_mem_cons.mpr ⟨lw_p69, List.forall_mem_cons.mpr ⟨lw_p70, List.forall_mem_cons.mpr ⟨lw_p71, List.forall_mem_cons.mpr ⟨lw_p72, List.forall_mem_cons.mpr ⟨lw_p73, List.forall_mem_cons.mpr ⟨lw_p74, List.forall_mem_cons.mpr ⟨lw_p75, List.forall_mem_cons.mpr ⟨lw_p76, List.forall_mem_cons.mpr ⟨lw_p77, List.forall_mem_cons.mpr ⟨lw_p78, List.forall_mem_cons.mpr ⟨lw_p79, fun _ h => absurd h List.not_mem_nil⟩⟩⟩⟩⟩⟩⟩⟩⟩⟩⟩⟩⟩⟩⟩⟩
theorem lw_p80 : lw_okq (⟨"RollingCodesModel", "takeFob", "()I"⟩, 46) := ⟨⟨by decide +kernel, by decide +kernel⟩, List.mem_of_getElem? (i := 841) (by decide +kernel), List.mem_of_getElem? (i := 1030) (by decide +kernel), List.mem_of_getElem? (i := 1031) (by decide +kernel)⟩
theorem lw_p81 : lw_okq (⟨"RollingCodesModel", "takeRead", "()V"⟩, 46) := ⟨⟨by decide +kernel, by decide +kernel⟩, List.mem_of_getElem? (i := 841) (by decide +kernel), List.mem_of_getElem? (i := 1034) (by decide +kernel), List.mem_of_getElem? (i := 1035) (by decide +kernel)⟩
theorem lw_p82 : lw_okq (⟨"RollingCodesModel", "beginAll", "()V"⟩, 46) := ⟨⟨by decide +kernel, by decide +kernel⟩, List.mem_of_getElem? (i := 841) (by decide +kernel), List.mem_of_getElem? (i := 1041) (by decide +kernel), List.mem_of_getElem? (i := 1042) (by decide +kernel)⟩
theorem lw_p83 : lw_okq (⟨"RollingCodesModel", "openings", "()I"⟩, 46) := ⟨⟨by decide +kernel, by decide +kernel⟩, List.mem_of_getElem? (i := 841) (by decide +kernel), List.mem_of_getElem? (i := 1061) (by decide +kernel), List.mem_of_getElem? (i := 1062) (by decide +kernel)⟩
theorem lw_p84 : lw_okq (⟨"RollingCodesModel", "isFob", "(I)Z"⟩, 46) := ⟨⟨by decide +kernel, by decide +kernel⟩, List.mem_of_getElem? (i := 841) (by decide +kernel), List.mem_of_getElem? (i := 1069) (by decide +kernel), List.mem_of_getElem? (i := 1070) (by decide +kernel)⟩
theorem lw_p85 : lw_okq (⟨"RollingCodesModel", "bestPlace", "(I)I"⟩, 46) := ⟨⟨by decide +kernel, by decide +kernel⟩, List.mem_of_getElem? (i := 841) (by decide +kernel), List.mem_of_getElem? (i := 1074) (by decide +kernel), List.mem_of_getElem? (i := 1075) (by decide +kernel)⟩
theorem lw_p86 : lw_okq (⟨"RollingCodesModel", "opensFrom", "(II)I"⟩, 46) := ⟨⟨by decide +kernel, by decide +kernel⟩, List.mem_of_getElem? (i := 841) (by decide +kernel), List.mem_of_getElem? (i := 1078) (by decide +kernel), List.mem_of_getElem? (i := 1079) (by decide +kernel)⟩
theorem lw_p87 : lw_okq (⟨"RollingCodesModel", "keepNow", "()V"⟩, 46) := ⟨⟨by decide +kernel, by decide +kernel⟩, List.mem_of_getElem? (i := 841) (by decide +kernel), List.mem_of_getElem? (i := 1082) (by decide +kernel), List.mem_of_getElem? (i := 1083) (by decide +kernel)⟩
theorem lw_p88 : lw_okq (⟨"RollingCodesModel", "pressNow", "(I)I"⟩, 46) := ⟨⟨by decide +kernel, by decide +kernel⟩, List.mem_of_getElem? (i := 841) (by decide +kernel), List.mem_of_getElem? (i := 1086) (by decide +kernel), List.mem_of_getElem? (i := 1087) (by decide +kernel)⟩
theorem lw_p89 : lw_okq (⟨"RollingCodesModel", "stepOn", "(I)V"⟩, 46) := ⟨⟨by decide +kernel, by decide +kernel⟩, List.mem_of_getElem? (i := 841) (by decide +kernel), List.mem_of_getElem? (i := 1090) (by decide +kernel), List.mem_of_getElem? (i := 1091) (by decide +kernel)⟩
theorem lw_p90 : lw_okq (⟨"RollingCodesModel", "sendBy", "(II)I"⟩, 46) := ⟨⟨by decide +kernel, by decide +kernel⟩, List.mem_of_getElem? (i := 841) (by decide +kernel), List.mem_of_getElem? (i := 1094) (by decide +kernel), List.mem_of_getElem? (i := 1095) (by decide +kernel)⟩
theorem lw_p91 : lw_okq (⟨"RollingCodesModel", "sendFrom", "(III)I"⟩, 46) := ⟨⟨by decide +kernel, by decide +kernel⟩, List.mem_of_getElem? (i := 841) (by decide +kernel), List.mem_of_getElem? (i := 1098) (by decide +kernel), List.mem_of_getElem? (i := 1099) (by decide +kernel)⟩
theorem lw_p92 : lw_okq (⟨"RollingCodesModel", "hears", "(II)Z"⟩, 46) := ⟨⟨by decide +kernel, by decide +kernel⟩, List.mem_of_getElem? (i := 841) (by decide +kernel), List.mem_of_getElem? (i := 1108) (by decide +kernel), List.mem_of_getElem? (i := 1109) (by decide +kernel)⟩
theorem lw_p93 : lw_okq (⟨"RollingCodesModel", "isAwaited", "(II)Z"⟩, 46) := ⟨⟨by decide +kernel, by decide +kernel⟩, List.mem_of_getElem? (i := 841) (by decide +kernel), List.mem_of_getElem? (i := 1112) (by decide +kernel), List.mem_of_getElem? (i := 1113) (by decide +kernel)⟩
theorem lw_p94 : lw_okq (⟨"RollingCodesModel", "openBy", "(III)V"⟩, 46) := ⟨⟨by decide +kernel, by decide +kernel⟩, List.mem_of_getElem? (i := 841) (by decide +kernel), List.mem_of_getElem? (i := 1116) (by decide +kernel), List.mem_of_getElem? (i := 1117) (by decide +kernel)⟩
theorem lw_p95 : lw_okq (⟨"RollingCodesModel", "matchOf", "(III)I"⟩, 46) := ⟨⟨by decide +kernel, by decide +kernel⟩, List.mem_of_getElem? (i := 841) (by decide +kernel), List.mem_of_getElem? (i := 1120) (by decide +kernel), List.mem_of_getElem? (i := 1121) (by decide +kernel)⟩
def lw_privs_6 : List (MethodName × Nat) := [(⟨"RollingCodesModel", "takeFob", "()I"⟩, 46), (⟨"RollingCodesModel", "takeRead", "()V"⟩, 46), (⟨"RollingCodesModel", "beginAll", "()V"⟩, 46), (⟨"RollingCodesModel", "openings", "()I"⟩, 46), (⟨"RollingCodesModel", "isFob", "(I)Z"⟩, 46), (⟨"RollingCodesModel", "bestPlace", "(I)I"⟩, 46), (⟨"RollingCodesModel", "opensFrom", "(II)I"⟩, 46), (⟨"RollingCodesModel", "keepNow", "()V"⟩, 46), (⟨"RollingCodesModel", "pressNow", "(I)I"⟩, 46), (⟨"RollingCodesModel", "stepOn", "(I)V"⟩, 46), (⟨"RollingCodesModel", "sendBy", "(II)I"⟩, 46), (⟨"RollingCodesModel", "sendFrom", "(III)I"⟩, 46), (⟨"RollingCodesModel", "hears", "(II)Z"⟩, 46), (⟨"RollingCodesModel", "isAwaited", "(II)Z"⟩, 46), (⟨"RollingCodesModel", "openBy", "(III)V"⟩, 46), (⟨"RollingCodesModel", "matchOf", "(III)I"⟩, 46)]
theorem lw_r6 : ∀ q ∈ lw_privs_6, lw_okq q := List.forall_mem_cons.mpr ⟨lw_p80, List.forall_mem_cons.mpr ⟨lw_p81, List.forall_mem_cons.mpr ⟨lw_p82, List.forall_mem_cons.mpr ⟨lw_p83, List.forall_mem_cons.mpr ⟨lw_p84, List.forall_mem_cons.mpr ⟨lw_p85, List.forall_mem_cons.mpr ⟨lw_p86, List.forall_mem_cons.mpr ⟨lw_p87, List.forall_mem_cons.mpr ⟨lw_p88, List.forall_mem_cons.mpr ⟨lw_p89, List.forall_mem_cons.mpr ⟨lw_p90, List.forall_mem_cons.mpr ⟨lw_p91, List.forall_mem_cons.mpr ⟨lw_p92, List.forall_mem_cons.mpr ⟨lw_p93, List.forall_mem_cons.mpr ⟨lw_p94, List.forall_mem_cons.mpr ⟨lw_p95, fun _ h => absurd h List.not_mem_nil⟩⟩⟩⟩⟩⟩⟩⟩⟩⟩⟩⟩⟩⟩⟩⟩
theorem lw_p96 : lw_okq (⟨"RollingCodesModel", "keepCode", "(I)V"⟩, 46) := ⟨⟨by decide +kernel, by decide +kernel⟩, List.mem_of_getElem? (i := 841) (by decide +kernel), List.mem_of_getElem? (i := 1124) (by decide +kernel), List.mem_of_getElem? (i := 1125) (by decide +kernel)⟩
theorem lw_p97 : lw_okq (⟨"RollingCodesModel", "putBack", "()V"⟩, 46) := ⟨⟨by decide +kernel, by decide +kernel⟩, List.mem_of_getElem? (i := 841) (by decide +kernel), List.mem_of_getElem? (i := 1128) (by decide +kernel), List.mem_of_getElem? (i := 1129) (by decide +kernel)⟩
theorem lw_p98 : lw_okq (⟨"RollingCodesModel", "isGate", "(I)Z"⟩, 46) := ⟨⟨by decide +kernel, by decide +kernel⟩, List.mem_of_getElem? (i := 841) (by decide +kernel), List.mem_of_getElem? (i := 1139) (by decide +kernel), List.mem_of_getElem? (i := 1140) (by decide +kernel)⟩
theorem lw_p99 : lw_okq (⟨"RollingCodesModel", "usefulAt", "(I)I"⟩, 46) := ⟨⟨by decide +kernel, by decide +kernel⟩, List.mem_of_getElem? (i := 841) (by decide +kernel), List.mem_of_getElem? (i := 1143) (by decide +kernel), List.mem_of_getElem? (i := 1144) (by decide +kernel)⟩
theorem lw_p100 : lw_okq (⟨"RollingCodesModel", "remember", "()V"⟩, 46) := ⟨⟨by decide +kernel, by decide +kernel⟩, List.mem_of_getElem? (i := 841) (by decide +kernel), List.mem_of_getElem? (i := 1160) (by decide +kernel), List.mem_of_getElem? (i := 1161) (by decide +kernel)⟩
theorem lw_p101 : lw_okq (⟨"RollingCodesModel", "chance", "()V"⟩, 46) := ⟨⟨by decide +kernel, by decide +kernel⟩, List.mem_of_getElem? (i := 841) (by decide +kernel), List.mem_of_getElem? (i := 1194) (by decide +kernel), List.mem_of_getElem? (i := 1195) (by decide +kernel)⟩
theorem lw_p102 : lw_okq (⟨"RollingCodesModel", "draw", "(I)I"⟩, 46) := ⟨⟨by decide +kernel, by decide +kernel⟩, List.mem_of_getElem? (i := 841) (by decide +kernel), List.mem_of_getElem? (i := 1198) (by decide +kernel), List.mem_of_getElem? (i := 1199) (by decide +kernel)⟩
theorem lw_p103 : lw_okq (⟨"RollingCodesModel", "aheadOf", "(II)I"⟩, 46) := ⟨⟨by decide +kernel, by decide +kernel⟩, List.mem_of_getElem? (i := 841) (by decide +kernel), List.mem_of_getElem? (i := 1219) (by decide +kernel), List.mem_of_getElem? (i := 1220) (by decide +kernel)⟩
theorem lw_p104 : lw_okq (⟨"RollingCodesModel", "opensNextTo", "(II)Z"⟩, 46) := ⟨⟨by decide +kernel, by decide +kernel⟩, List.mem_of_getElem? (i := 841) (by decide +kernel), List.mem_of_getElem? (i := 1227) (by decide +kernel), List.mem_of_getElem? (i := 1228) (by decide +kernel)⟩
theorem lw_p105 : lw_okq (⟨"RollingCodesModel", "findRow", "()V"⟩, 46) := ⟨⟨by decide +kernel, by decide +kernel⟩, List.mem_of_getElem? (i := 841) (by decide +kernel), List.mem_of_getElem? (i := 1239) (by decide +kernel), List.mem_of_getElem? (i := 1240) (by decide +kernel)⟩
theorem lw_p106 : lw_okq (⟨"RollingCodesModel", "inReach", "()I"⟩, 46) := ⟨⟨by decide +kernel, by decide +kernel⟩, List.mem_of_getElem? (i := 841) (by decide +kernel), List.mem_of_getElem? (i := 1243) (by decide +kernel), List.mem_of_getElem? (i := 1244) (by decide +kernel)⟩
theorem lw_p107 : lw_okq (⟨"RollingCodesModel", "opensAll", "(II)Z"⟩, 46) := ⟨⟨by decide +kernel, by decide +kernel⟩, List.mem_of_getElem? (i := 841) (by decide +kernel), List.mem_of_getElem? (i := 1247) (by decide +kernel), List.mem_of_getElem? (i := 1248) (by decide +kernel)⟩
theorem lw_p108 : lw_okq (⟨"RollingCodesModel", "couldSend", "(II)Z"⟩, 46) := ⟨⟨by decide +kernel, by decide +kernel⟩, List.mem_of_getElem? (i := 841) (by decide +kernel), List.mem_of_getElem? (i := 1256) (by decide +kernel), List.mem_of_getElem? (i := 1257) (by decide +kernel)⟩
theorem lw_p109 : lw_okq (⟨"RollingCodesModel", "couldBe", "(I)Z"⟩, 46) := ⟨⟨by decide +kernel, by decide +kernel⟩, List.mem_of_getElem? (i := 841) (by decide +kernel), List.mem_of_getElem? (i := 1280) (by decide +kernel), List.mem_of_getElem? (i := 1281) (by decide +kernel)⟩
theorem lw_p110 : lw_okq (⟨"RollingCodesModel", "manySecrets", "()I"⟩, 46) := ⟨⟨by decide +kernel, by decide +kernel⟩, List.mem_of_getElem? (i := 841) (by decide +kernel), List.mem_of_getElem? (i := 1284) (by decide +kernel), List.mem_of_getElem? (i := 1285) (by decide +kernel)⟩
theorem lw_p111 : lw_okq (⟨"RollingCodesModel", "greatestPart", "(I)I"⟩, 46) := ⟨⟨by decide +kernel, by decide +kernel⟩, List.mem_of_getElem? (i := 841) (by decide +kernel), List.mem_of_getElem? (i := 1292) (by decide +kernel), List.mem_of_getElem? (i := 1293) (by decide +kernel)⟩
def lw_privs_7 : List (MethodName × Nat) := [(⟨"RollingCodesModel", "keepCode", "(I)V"⟩, 46), (⟨"RollingCodesModel", "putBack", "()V"⟩, 46), (⟨"RollingCodesModel", "isGate", "(I)Z"⟩, 46), (⟨"RollingCodesModel", "usefulAt", "(I)I"⟩, 46), (⟨"RollingCodesModel", "remember", "()V"⟩, 46), (⟨"RollingCodesModel", "chance", "()V"⟩, 46), (⟨"RollingCodesModel", "draw", "(I)I"⟩, 46), (⟨"RollingCodesModel", "aheadOf", "(II)I"⟩, 46), (⟨"RollingCodesModel", "opensNextTo", "(II)Z"⟩, 46), (⟨"RollingCodesModel", "findRow", "()V"⟩, 46), (⟨"RollingCodesModel", "inReach", "()I"⟩, 46), (⟨"RollingCodesModel", "opensAll", "(II)Z"⟩, 46), (⟨"RollingCodesModel", "couldSend", "(II)Z"⟩, 46), (⟨"RollingCodesModel", "couldBe", "(I)Z"⟩, 46), (⟨"RollingCodesModel", "manySecrets", "()I"⟩, 46), (⟨"RollingCodesModel", "greatestPart", "(I)I"⟩, 46)]
theorem lw_r7 : ∀ q ∈ lw_privs_7, lw_okq q := List.forall_mem_cons.mpr ⟨lw_p96, List.forall_mem_cons.mpr ⟨lw_p97, List.forall_mem_cons.mpr ⟨lw_p98, List.forall_mem_cons.mpr ⟨lw_p99, List.forall_mem_cons.mpr ⟨lw_p100, List.forall_mem_cons.mpr ⟨lw_p101, List.forall_mem_cons.mpr ⟨lw_p102, List.forall_mem_cons.mpr ⟨lw_p103, List.forall_mem_cons.mpr ⟨lw_p104, List.forall_mem_cons.mpr ⟨lw_p105, List.forall_mem_cons.mpr ⟨lw_p106, List.forall_mem_cons.mpr ⟨lw_p107, List.forall_mem_cons.mpr ⟨lw_p108, List.forall_mem_cons.mpr ⟨lw_p109, List.forall_mem_cons.mpr ⟨lw_p110, List.forall_mem_cons.mpr ⟨lw_p111, fun _ h => absurd h List.not_mem_nil⟩⟩⟩⟩⟩⟩⟩⟩⟩⟩⟩⟩⟩⟩⟩⟩
def lw_privs : List (MethodName × Nat) := lw_privs_1 ++ (lw_privs_2 ++ (lw_privs_3 ++ (lw_privs_4 ++ (lw_privs_5 ++ (lw_privs_6 ++ (lw_privs_7))))))
def lw_tbl : List Cond := k2_sels lw_privs ++ tables_1
theorem lw_privs_ok : ∀ q ∈ lw_privs, lw_okq q := by
  show ∀ q ∈ lw_privs_1 ++ (lw_privs_2 ++ (lw_privs_3 ++ (lw_privs_4 ++ (lw_privs_5 ++ (lw_privs_6 ++ (lw_privs_7)))))), lw_okq q
  exact List.forall_mem_append.mpr ⟨lw_r1, List.forall_mem_append.mpr ⟨lw_r2, List.forall_mem_append.mpr ⟨lw_r3, List.forall_mem_append.mpr ⟨lw_r4, List.forall_mem_append.mpr ⟨lw_r5, List.forall_mem_append.mpr ⟨lw_r6, lw_r7⟩⟩⟩⟩⟩⟩
end
section
def RX0 : String := "RollingCodes$Book"
def TX0 : u_T := fun k => match k with
  | 0 => ("RollingCodes$Book", "gates", "[I", true)
  | 1 => ("RollingCodes$Book", "openings", "[I", true)
  | _ => ("RollingCodes$Book", "size", "I", false)
def tyX0 : Nat → FieldType := fun k => match k with
  | 0 => .array .int
  | 1 => .array .int
  | _ => .int
abbrev wsX00 : List Cond := u_ws RX0 TX0 3
theorem nmX0 : ∀ a, a < 3 → ∀ b, b < 3 → a ≠ b → (TX0 a).2.1 ≠ (TX0 b).2.1 := by decide +kernel
theorem tyX0_ok : ∀ k, k < 3 → parseFieldDescriptor (TX0 k).2.2.1 = some (tyX0 k) := by decide +kernel
abbrev cX0_init : ByteArray := prog_2_method_1_code
def yX0_init : MethodName := ⟨RX0, "<init>", "()V"⟩
abbrev cX0_add : ByteArray := prog_2_method_2_code
def yX0_add : MethodName := ⟨RX0, "add", "(II)Z"⟩
abbrev cX0_clear : ByteArray := prog_2_method_3_code
def yX0_clear : MethodName := ⟨RX0, "clear", "()V"⟩
abbrev cX0_firstFalse : ByteArray := prog_2_method_4_code
def yX0_firstFalse : MethodName := ⟨RX0, "firstFalse", "(LRollingCodes$Scene;)I"⟩
def RX1 : String := "RollingCodes$Draws"
def TX1 : u_T := fun k => match k with
  | _ => ("RollingCodes$Draws", "state", "I", false)
def tyX1 : Nat → FieldType := fun k => match k with
  | _ => .int
abbrev wsX10 : List Cond := u_ws RX1 TX1 1
theorem nmX1 : ∀ a, a < 1 → ∀ b, b < 1 → a ≠ b → (TX1 a).2.1 ≠ (TX1 b).2.1 := by decide +kernel
theorem tyX1_ok : ∀ k, k < 1 → parseFieldDescriptor (TX1 k).2.2.1 = some (tyX1 k) := by decide +kernel
abbrev cX1_init : ByteArray := prog_3_method_1_code
def yX1_init : MethodName := ⟨RX1, "<init>", "()V"⟩
abbrev cX1_next : ByteArray := prog_3_method_2_code
def yX1_next : MethodName := ⟨RX1, "next", "(I)I"⟩
def RX2 : String := "RollingCodes$Images"
def TX2 : u_T := fun k => match k with
  | 0 => ("RollingCodes$Images", "scenes", "[LRollingCodes$Scene;", true)
  | 1 => ("RollingCodes$Images", "seeds", "[I", true)
  | _ => ("RollingCodes$Images", "taken", "[Z", true)
def tyX2 : Nat → FieldType := fun k => match k with
  | 0 => .array (.object "RollingCodes$Scene")
  | 1 => .array .int
  | _ => .array .boolean
abbrev wsX20 : List Cond := u_ws RX2 TX2 3
theorem nmX2 : ∀ a, a < 3 → ∀ b, b < 3 → a ≠ b → (TX2 a).2.1 ≠ (TX2 b).2.1 := by decide +kernel
theorem tyX2_ok : ∀ k, k < 3 → parseFieldDescriptor (TX2 k).2.2.1 = some (tyX2 k) := by decide +kernel
abbrev cX2_init : ByteArray := prog_4_method_1_code
def yX2_init : MethodName := ⟨RX2, "<init>", "(LRollingCodes$Plan;)V"⟩
abbrev cX2_isImage : ByteArray := prog_4_method_2_code
def yX2_isImage : MethodName := ⟨RX2, "isImage", "(I)Z"⟩
abbrev cX2_isTaken : ByteArray := prog_4_method_3_code
def yX2_isTaken : MethodName := ⟨RX2, "isTaken", "(I)Z"⟩
abbrev cX2_take : ByteArray := prog_4_method_4_code
def yX2_take : MethodName := ⟨RX2, "take", "(ILRollingCodes$Scene;LRollingCodes$Draws;)V"⟩
abbrev cX2_bringBack : ByteArray := prog_4_method_5_code
def yX2_bringBack : MethodName := ⟨RX2, "bringBack", "(ILRollingCodes$Scene;LRollingCodes$Draws;)V"⟩
abbrev cX2_forget : ByteArray := prog_4_method_6_code
def yX2_forget : MethodName := ⟨RX2, "forget", "()V"⟩
def RX3 : String := "RollingCodes$Past"
def TX3 : u_T := fun k => match k with
  | 0 => ("RollingCodes$Past", "scenes", "[LRollingCodes$Scene;", true)
  | 1 => ("RollingCodes$Past", "next", "I", false)
  | _ => ("RollingCodes$Past", "size", "I", false)
def tyX3 : Nat → FieldType := fun k => match k with
  | 0 => .array (.object "RollingCodes$Scene")
  | 1 => .int
  | _ => .int
abbrev wsX30 : List Cond := u_ws RX3 TX3 3
theorem nmX3 : ∀ a, a < 3 → ∀ b, b < 3 → a ≠ b → (TX3 a).2.1 ≠ (TX3 b).2.1 := by decide +kernel
theorem tyX3_ok : ∀ k, k < 3 → parseFieldDescriptor (TX3 k).2.2.1 = some (tyX3 k) := by decide +kernel
abbrev cX3_init : ByteArray := prog_5_method_1_code
def yX3_init : MethodName := ⟨RX3, "<init>", "(LRollingCodes$Plan;)V"⟩
abbrev cX3_remember : ByteArray := prog_5_method_2_code
def yX3_remember : MethodName := ⟨RX3, "remember", "(LRollingCodes$Scene;)V"⟩
abbrev cX3_takeBack : ByteArray := prog_5_method_3_code
def yX3_takeBack : MethodName := ⟨RX3, "takeBack", "(LRollingCodes$Scene;)V"⟩
abbrev cX3_forget : ByteArray := prog_5_method_4_code
def yX3_forget : MethodName := ⟨RX3, "forget", "()V"⟩
def RX4 : String := "RollingCodes$Plan"
def TX4 : u_T := fun k => match k with
  | 0 => ("RollingCodes$Plan", "there", "Z", false)
  | 1 => ("RollingCodes$Plan", "earPlace", "I", false)
  | 2 => ("RollingCodes$Plan", "earRange", "I", false)
  | 3 => ("RollingCodes$Plan", "gates", "I", false)
  | 4 => ("RollingCodes$Plan", "fobs", "I", false)
  | 5 => ("RollingCodes$Plan", "gateKind", "[I", true)
  | 6 => ("RollingCodes$Plan", "gatePlace", "[I", true)
  | 7 => ("RollingCodes$Plan", "gateWindow", "[I", true)
  | 8 => ("RollingCodes$Plan", "fobKind", "[I", true)
  | 9 => ("RollingCodes$Plan", "fobPlace", "[I", true)
  | 10 => ("RollingCodes$Plan", "fobRange", "[I", true)
  | 11 => ("RollingCodes$Plan", "fobSecret", "[I", true)
  | _ => ("RollingCodes$Plan", "fobCount", "[I", true)
def tyX4 : Nat → FieldType := fun k => match k with
  | 0 => .boolean
  | 1 => .int
  | 2 => .int
  | 3 => .int
  | 4 => .int
  | 5 => .array .int
  | 6 => .array .int
  | 7 => .array .int
  | 8 => .array .int
  | 9 => .array .int
  | 10 => .array .int
  | 11 => .array .int
  | _ => .array .int
abbrev wsX40 : List Cond := u_ws RX4 TX4 13
theorem nmX4 : ∀ a, a < 13 → ∀ b, b < 13 → a ≠ b → (TX4 a).2.1 ≠ (TX4 b).2.1 := by decide +kernel
theorem tyX4_ok : ∀ k, k < 13 → parseFieldDescriptor (TX4 k).2.2.1 = some (tyX4 k) := by decide +kernel
abbrev cX4_init : ByteArray := prog_6_method_1_code
def yX4_init : MethodName := ⟨RX4, "<init>", "()V"⟩
abbrev cX4_clear : ByteArray := prog_6_method_2_code
def yX4_clear : MethodName := ⟨RX4, "clear", "()V"⟩
abbrev cX4_copyFrom : ByteArray := prog_6_method_3_code
def yX4_copyFrom : MethodName := ⟨RX4, "copyFrom", "(LRollingCodes$Plan;)V"⟩
abbrev cX4_isGate : ByteArray := prog_6_method_4_code
def yX4_isGate : MethodName := ⟨RX4, "isGate", "(I)Z"⟩
abbrev cX4_isFob : ByteArray := prog_6_method_5_code
def yX4_isFob : MethodName := ⟨RX4, "isFob", "(I)Z"⟩
abbrev cX4_sendings : ByteArray := prog_6_method_6_code
def yX4_sendings : MethodName := ⟨RX4, "sendings", "(I)I"⟩
abbrev cX4_stride : ByteArray := prog_6_method_7_code
def yX4_stride : MethodName := ⟨RX4, "stride", "(I)I"⟩
abbrev cX4_leastAhead : ByteArray := prog_6_method_8_code
def yX4_leastAhead : MethodName := ⟨RX4, "leastAhead", "(I)I"⟩
abbrev cX4_mostAhead : ByteArray := prog_6_method_9_code
def yX4_mostAhead : MethodName := ⟨RX4, "mostAhead", "(I)I"⟩
abbrev cX4_addEar : ByteArray := prog_6_method_10_code
def yX4_addEar : MethodName := ⟨RX4, "addEar", "([I)V"⟩
abbrev cX4_addGate : ByteArray := prog_6_method_11_code
def yX4_addGate : MethodName := ⟨RX4, "addGate", "([I)V"⟩
abbrev cX4_addFob : ByteArray := prog_6_method_12_code
def yX4_addFob : MethodName := ⟨RX4, "addFob", "([I)V"⟩
def RX5 : String := "RollingCodes$Reader"
def TX5 : u_T := fun k => match k with
  | 0 => ("RollingCodes$Reader", "draft", "LRollingCodes$Plan;", true)
  | 1 => ("RollingCodes$Reader", "numbers", "[I", true)
  | 2 => ("RollingCodes$Reader", "at", "I", false)
  | 3 => ("RollingCodes$Reader", "fault", "I", false)
  | _ => ("RollingCodes$Reader", "faultAt", "I", false)
def tyX5 : Nat → FieldType := fun k => match k with
  | 0 => .object "RollingCodes$Plan"
  | 1 => .array .int
  | 2 => .int
  | 3 => .int
  | _ => .int
abbrev wsX50 : List Cond := u_ws RX5 TX5 5
theorem nmX5 : ∀ a, a < 5 → ∀ b, b < 5 → a ≠ b → (TX5 a).2.1 ≠ (TX5 b).2.1 := by decide +kernel
theorem tyX5_ok : ∀ k, k < 5 → parseFieldDescriptor (TX5 k).2.2.1 = some (tyX5 k) := by decide +kernel
abbrev cX5_init : ByteArray := prog_7_method_1_code
def yX5_init : MethodName := ⟨RX5, "<init>", "()V"⟩
abbrev cX5_read : ByteArray := prog_7_method_2_code
def yX5_read : MethodName := ⟨RX5, "read", "(LRollingCodes$Text;)V"⟩
abbrev cX5_readClause : ByteArray := prog_7_method_3_code
def yX5_readClause : MethodName := ⟨RX5, "readClause", "(LRollingCodes$Text;)V"⟩
abbrev cX5_faultOfWord : ByteArray := prog_7_method_4_code
def yX5_faultOfWord : MethodName := ⟨RX5, "faultOfWord", "(I)I"⟩
abbrev cX5_readNumbers : ByteArray := prog_7_method_5_code
def yX5_readNumbers : MethodName := ⟨RX5, "readNumbers", "(LRollingCodes$Text;[I[I)V"⟩
abbrev cX5_readNumber : ByteArray := prog_7_method_6_code
def yX5_readNumber : MethodName := ⟨RX5, "readNumber", "(LRollingCodes$Text;II)I"⟩
abbrev cX5_readEnd : ByteArray := prog_7_method_7_code
def yX5_readEnd : MethodName := ⟨RX5, "readEnd", "(LRollingCodes$Text;)V"⟩
abbrev cX5_enter : ByteArray := prog_7_method_8_code
def yX5_enter : MethodName := ⟨RX5, "enter", "(I)V"⟩
abbrev cX5_skipBlanks : ByteArray := prog_7_method_9_code
def yX5_skipBlanks : MethodName := ⟨RX5, "skipBlanks", "(LRollingCodes$Text;)V"⟩
abbrev cX5_fail : ByteArray := prog_7_method_10_code
def yX5_fail : MethodName := ⟨RX5, "fail", "(II)V"⟩
abbrev cX5_isFigure : ByteArray := prog_7_method_11_code
def yX5_isFigure : MethodName := ⟨RX5, "isFigure", "(I)Z"⟩
def RX6 : String := "RollingCodes$RowSearch"
def TX6 : u_T := fun k => match k with
  | 0 => ("RollingCodes$RowSearch", "scenes", "[LRollingCodes$Scene;", true)
  | _ => ("RollingCodes$RowSearch", "entries", "[I", true)
def tyX6 : Nat → FieldType := fun k => match k with
  | 0 => .array (.object "RollingCodes$Scene")
  | _ => .array .int
abbrev wsX60 : List Cond := u_ws RX6 TX6 2
theorem nmX6 : ∀ a, a < 2 → ∀ b, b < 2 → a ≠ b → (TX6 a).2.1 ≠ (TX6 b).2.1 := by decide +kernel
theorem tyX6_ok : ∀ k, k < 2 → parseFieldDescriptor (TX6 k).2.2.1 = some (tyX6 k) := by decide +kernel
abbrev cX6_init : ByteArray := prog_8_method_1_code
def yX6_init : MethodName := ⟨RX6, "<init>", "(LRollingCodes$Plan;)V"⟩
abbrev cX6_find : ByteArray := prog_8_method_2_code
def yX6_find : MethodName := ⟨RX6, "find", "(LRollingCodes$Scene;)I"⟩
abbrev cX6_canEnd : ByteArray := prog_8_method_3_code
def yX6_canEnd : MethodName := ⟨RX6, "canEnd", "(LRollingCodes$RowSearch;III)Z"⟩
def RX7 : String := "RollingCodes$Scene"
def TX7 : u_T := fun k => match k with
  | 0 => ("RollingCodes$Scene", "plan", "LRollingCodes$Plan;", true)
  | 1 => ("RollingCodes$Scene", "hours", "I", false)
  | 2 => ("RollingCodes$Scene", "earPlace", "I", false)
  | 3 => ("RollingCodes$Scene", "noisyGates", "I", false)
  | 4 => ("RollingCodes$Scene", "keptSize", "I", false)
  | 5 => ("RollingCodes$Scene", "keptCodes", "[I", true)
  | 6 => ("RollingCodes$Scene", "places", "[I", true)
  | 7 => ("RollingCodes$Scene", "counts", "[I", true)
  | 8 => ("RollingCodes$Scene", "batteries", "[I", true)
  | 9 => ("RollingCodes$Scene", "openings", "[I", true)
  | 10 => ("RollingCodes$Scene", "waitsFob", "[I", true)
  | 11 => ("RollingCodes$Scene", "waitsCount", "[I", true)
  | _ => ("RollingCodes$Scene", "lastCounts", "[I", true)
def tyX7 : Nat → FieldType := fun k => match k with
  | 0 => .object "RollingCodes$Plan"
  | 1 => .int
  | 2 => .int
  | 3 => .int
  | 4 => .int
  | 5 => .array .int
  | 6 => .array .int
  | 7 => .array .int
  | 8 => .array .int
  | 9 => .array .int
  | 10 => .array .int
  | 11 => .array .int
  | _ => .array .int
abbrev wsX70 : List Cond := u_ws RX7 TX7 13
theorem nmX7 : ∀ a, a < 13 → ∀ b, b < 13 → a ≠ b → (TX7 a).2.1 ≠ (TX7 b).2.1 := by decide +kernel
theorem tyX7_ok : ∀ k, k < 13 → parseFieldDescriptor (TX7 k).2.2.1 = some (tyX7 k) := by decide +kernel
abbrev cX7_init : ByteArray := prog_9_method_1_code
def yX7_init : MethodName := ⟨RX7, "<init>", "(LRollingCodes$Plan;)V"⟩
abbrev cX7_begin : ByteArray := prog_9_method_2_code
def yX7_begin : MethodName := ⟨RX7, "begin", "()V"⟩
abbrev cX7_copyFrom : ByteArray := prog_9_method_3_code
def yX7_copyFrom : MethodName := ⟨RX7, "copyFrom", "(LRollingCodes$Scene;)V"⟩
abbrev cX7_lastOf : ByteArray := prog_9_method_4_code
def yX7_lastOf : MethodName := ⟨RX7, "lastOf", "(II)I"⟩
abbrev cX7_taught : ByteArray := prog_9_method_5_code
def yX7_taught : MethodName := ⟨RX7, "taught", "(II)V"⟩
abbrev cX7_isKept : ByteArray := prog_9_method_6_code
def yX7_isKept : MethodName := ⟨RX7, "isKept", "(I)Z"⟩
abbrev cX7_isNoisy : ByteArray := prog_9_method_7_code
def yX7_isNoisy : MethodName := ⟨RX7, "isNoisy", "(I)Z"⟩
abbrev cX7_turnNoise : ByteArray := prog_9_method_8_code
def yX7_turnNoise : MethodName := ⟨RX7, "turnNoise", "(I)V"⟩
abbrev cX7_allOpenings : ByteArray := prog_9_method_9_code
def yX7_allOpenings : MethodName := ⟨RX7, "allOpenings", "()I"⟩
abbrev cX7_codeAhead : ByteArray := prog_9_method_10_code
def yX7_codeAhead : MethodName := ⟨RX7, "codeAhead", "(II)I"⟩
abbrev cX7_pressedFrom : ByteArray := prog_9_method_11_code
def yX7_pressedFrom : MethodName := ⟨RX7, "pressedFrom", "(II)I"⟩
abbrev cX7_pressedUnheard : ByteArray := prog_9_method_12_code
def yX7_pressedUnheard : MethodName := ⟨RX7, "pressedUnheard", "(II)V"⟩
abbrev cX7_opensBeside : ByteArray := prog_9_method_13_code
def yX7_opensBeside : MethodName := ⟨RX7, "opensBeside", "(II)Z"⟩
abbrev cX7_sentAgain : ByteArray := prog_9_method_14_code
def yX7_sentAgain : MethodName := ⟨RX7, "sentAgain", "(I)I"⟩
abbrev cX7_gatesInReach : ByteArray := prog_9_method_15_code
def yX7_gatesInReach : MethodName := ⟨RX7, "gatesInReach", "()I"⟩
abbrev cX7_rangeNow : ByteArray := prog_9_method_16_code
def yX7_rangeNow : MethodName := ⟨RX7, "rangeNow", "(I)I"⟩
abbrev cX7_nextCode : ByteArray := prog_9_method_17_code
def yX7_nextCode : MethodName := ⟨RX7, "nextCode", "(I)I"⟩
abbrev cX7_isHeardAt : ByteArray := prog_9_method_18_code
def yX7_isHeardAt : MethodName := ⟨RX7, "isHeardAt", "(III)Z"⟩
abbrev cX7_heardByGates : ByteArray := prog_9_method_19_code
def yX7_heardByGates : MethodName := ⟨RX7, "heardByGates", "(III)I"⟩
abbrev cX7_heardByEar : ByteArray := prog_9_method_20_code
def yX7_heardByEar : MethodName := ⟨RX7, "heardByEar", "(III)V"⟩
abbrev cX7_hears : ByteArray := prog_9_method_21_code
def yX7_hears : MethodName := ⟨RX7, "hears", "(II)Z"⟩
abbrev cX7_firstAhead : ByteArray := prog_9_method_22_code
def yX7_firstAhead : MethodName := ⟨RX7, "firstAhead", "(III)I"⟩
abbrev cX7_open : ByteArray := prog_9_method_23_code
def yX7_open : MethodName := ⟨RX7, "open", "(III)V"⟩
abbrev cX7_waitFor : ByteArray := prog_9_method_24_code
def yX7_waitFor : MethodName := ⟨RX7, "waitFor", "(III)V"⟩
abbrev cX7_waitsAs : ByteArray := prog_9_method_25_code
def yX7_waitsAs : MethodName := ⟨RX7, "waitsAs", "(LRollingCodes$Scene;)Z"⟩
def RX8 : String := "RollingCodes$Seen"
def TX8 : u_T := fun k => match k with
  | 0 => ("RollingCodes$Seen", "fits", "[Z", true)
  | 1 => ("RollingCodes$Seen", "alike", "[I", true)
  | _ => ("RollingCodes$Seen", "size", "I", false)
def tyX8 : Nat → FieldType := fun k => match k with
  | 0 => .array .boolean
  | 1 => .array .int
  | _ => .int
abbrev wsX80 : List Cond := u_ws RX8 TX8 3
theorem nmX8 : ∀ a, a < 3 → ∀ b, b < 3 → a ≠ b → (TX8 a).2.1 ≠ (TX8 b).2.1 := by decide +kernel
theorem tyX8_ok : ∀ k, k < 3 → parseFieldDescriptor (TX8 k).2.2.1 = some (tyX8 k) := by decide +kernel
abbrev cX8_init : ByteArray := prog_10_method_1_code
def yX8_init : MethodName := ⟨RX8, "<init>", "()V"⟩
abbrev cX8_add : ByteArray := prog_10_method_2_code
def yX8_add : MethodName := ⟨RX8, "add", "(II)Z"⟩
abbrev cX8_clear : ByteArray := prog_10_method_3_code
def yX8_clear : MethodName := ⟨RX8, "clear", "()V"⟩
abbrev cX8_fitting : ByteArray := prog_10_method_4_code
def yX8_fitting : MethodName := ⟨RX8, "fitting", "()I"⟩
abbrev cX8_leastFitting : ByteArray := prog_10_method_5_code
def yX8_leastFitting : MethodName := ⟨RX8, "leastFitting", "()I"⟩
abbrev cX8_greatestFitting : ByteArray := prog_10_method_6_code
def yX8_greatestFitting : MethodName := ⟨RX8, "greatestFitting", "()I"⟩
abbrev cX8_bestQuestion : ByteArray := prog_10_method_7_code
def yX8_bestQuestion : MethodName := ⟨RX8, "bestQuestion", "()I"⟩
abbrev cX8_greatestPart : ByteArray := prog_10_method_8_code
def yX8_greatestPart : MethodName := ⟨RX8, "greatestPart", "(I)I"⟩
def RX9 : String := "RollingCodes$Text"
def TX9 : u_T := fun k => match k with
  | 0 => ("RollingCodes$Text", "letters", "[I", true)
  | _ => ("RollingCodes$Text", "length", "I", false)
def tyX9 : Nat → FieldType := fun k => match k with
  | 0 => .array .int
  | _ => .int
abbrev wsX90 : List Cond := u_ws RX9 TX9 2
theorem nmX9 : ∀ a, a < 2 → ∀ b, b < 2 → a ≠ b → (TX9 a).2.1 ≠ (TX9 b).2.1 := by decide +kernel
theorem tyX9_ok : ∀ k, k < 2 → parseFieldDescriptor (TX9 k).2.2.1 = some (tyX9 k) := by decide +kernel
abbrev cX9_init : ByteArray := prog_11_method_1_code
def yX9_init : MethodName := ⟨RX9, "<init>", "()V"⟩
abbrev cX9_add : ByteArray := prog_11_method_2_code
def yX9_add : MethodName := ⟨RX9, "add", "(I)Z"⟩
abbrev cX9_clear : ByteArray := prog_11_method_3_code
def yX9_clear : MethodName := ⟨RX9, "clear", "()V"⟩
abbrev cX9_letterAt : ByteArray := prog_11_method_4_code
def yX9_letterAt : MethodName := ⟨RX9, "letterAt", "(I)I"⟩
def RX10 : String := "RollingCodes"
def TX10 : u_T := fun k => match k with
  | 0 => ("RollingCodes", "text", "LRollingCodes$Text;", true)
  | 1 => ("RollingCodes", "reader", "LRollingCodes$Reader;", true)
  | 2 => ("RollingCodes", "plan", "LRollingCodes$Plan;", true)
  | 3 => ("RollingCodes", "now", "LRollingCodes$Scene;", true)
  | 4 => ("RollingCodes", "trial", "LRollingCodes$Scene;", true)
  | 5 => ("RollingCodes", "past", "LRollingCodes$Past;", true)
  | 6 => ("RollingCodes", "images", "LRollingCodes$Images;", true)
  | 7 => ("RollingCodes", "search", "LRollingCodes$RowSearch;", true)
  | 8 => ("RollingCodes", "seen", "LRollingCodes$Seen;", true)
  | 9 => ("RollingCodes", "book", "LRollingCodes$Book;", true)
  | 10 => ("RollingCodes", "draws", "LRollingCodes$Draws;", true)
  | _ => ("RollingCodes", "faultAt", "I", false)
def tyX10 : Nat → FieldType := fun k => match k with
  | 0 => .object "RollingCodes$Text"
  | 1 => .object "RollingCodes$Reader"
  | 2 => .object "RollingCodes$Plan"
  | 3 => .object "RollingCodes$Scene"
  | 4 => .object "RollingCodes$Scene"
  | 5 => .object "RollingCodes$Past"
  | 6 => .object "RollingCodes$Images"
  | 7 => .object "RollingCodes$RowSearch"
  | 8 => .object "RollingCodes$Seen"
  | 9 => .object "RollingCodes$Book"
  | 10 => .object "RollingCodes$Draws"
  | _ => .int
abbrev wsX100 : List Cond := u_ws RX10 TX10 12
theorem nmX10 : ∀ a, a < 12 → ∀ b, b < 12 → a ≠ b → (TX10 a).2.1 ≠ (TX10 b).2.1 := by decide +kernel
theorem tyX10_ok : ∀ k, k < 12 → parseFieldDescriptor (TX10 k).2.2.1 = some (tyX10 k) := by decide +kernel
abbrev cX10_init : ByteArray := prog_1_method_1_code
def yX10_init : MethodName := ⟨RX10, "<init>", "()V"⟩
abbrev cX10_feed : ByteArray := prog_1_method_2_code
def yX10_feed : MethodName := ⟨RX10, "feed", "(I)I"⟩
abbrev cX10_street : ByteArray := prog_1_method_3_code
def yX10_street : MethodName := ⟨RX10, "street", "()I"⟩
abbrev cX10_fault : ByteArray := prog_1_method_4_code
def yX10_fault : MethodName := ⟨RX10, "fault", "()I"⟩
abbrev cX10_told : ByteArray := prog_1_method_5_code
def yX10_told : MethodName := ⟨RX10, "told", "(I)I"⟩
abbrev cX10_fob : ByteArray := prog_1_method_6_code
def yX10_fob : MethodName := ⟨RX10, "fob", "(II)I"⟩
abbrev cX10_gate : ByteArray := prog_1_method_7_code
def yX10_gate : MethodName := ⟨RX10, "gate", "(II)I"⟩
abbrev cX10_last : ByteArray := prog_1_method_8_code
def yX10_last : MethodName := ⟨RX10, "last", "(II)I"⟩
abbrev cX10_kept : ByteArray := prog_1_method_9_code
def yX10_kept : MethodName := ⟨RX10, "kept", "(I)I"⟩
abbrev cX10_code : ByteArray := prog_1_method_10_code
def yX10_code : MethodName := ⟨RX10, "code", "(II)I"⟩
abbrev cX10_press : ByteArray := prog_1_method_11_code
def yX10_press : MethodName := ⟨RX10, "press", "(I)I"⟩
abbrev cX10_step : ByteArray := prog_1_method_12_code
def yX10_step : MethodName := ⟨RX10, "step", "(II)I"⟩
abbrev cX10_earTo : ByteArray := prog_1_method_13_code
def yX10_earTo : MethodName := ⟨RX10, "earTo", "(I)I"⟩
abbrev cX10_noise : ByteArray := prog_1_method_14_code
def yX10_noise : MethodName := ⟨RX10, "noise", "(IZ)I"⟩
abbrev cX10_teach : ByteArray := prog_1_method_15_code
def yX10_teach : MethodName := ⟨RX10, "teach", "(II)I"⟩
abbrev cX10_again : ByteArray := prog_1_method_16_code
def yX10_again : MethodName := ⟨RX10, "again", "(I)I"⟩
abbrev cX10_fill : ByteArray := prog_1_method_17_code
def yX10_fill : MethodName := ⟨RX10, "fill", "(I)I"⟩
abbrev cX10_drift : ByteArray := prog_1_method_18_code
def yX10_drift : MethodName := ⟨RX10, "drift", "(I)I"⟩
abbrev cX10_undo : ByteArray := prog_1_method_19_code
def yX10_undo : MethodName := ⟨RX10, "undo", "()I"⟩
abbrev cX10_wouldOpen : ByteArray := prog_1_method_20_code
def yX10_wouldOpen : MethodName := ⟨RX10, "wouldOpen", "(II)I"⟩
abbrev cX10_ahead : ByteArray := prog_1_method_21_code
def yX10_ahead : MethodName := ⟨RX10, "ahead", "(II)I"⟩
abbrev cX10_locked : ByteArray := prog_1_method_22_code
def yX10_locked : MethodName := ⟨RX10, "locked", "(II)I"⟩
abbrev cX10_takes : ByteArray := prog_1_method_23_code
def yX10_takes : MethodName := ⟨RX10, "takes", "(II)I"⟩
abbrev cX10_row : ByteArray := prog_1_method_24_code
def yX10_row : MethodName := ⟨RX10, "row", "(I)I"⟩
abbrev cX10_who : ByteArray := prog_1_method_25_code
def yX10_who : MethodName := ⟨RX10, "who", "(I)I"⟩
abbrev cX10_same : ByteArray := prog_1_method_26_code
def yX10_same : MethodName := ⟨RX10, "same", "(II)I"⟩
abbrev cX10_quiet : ByteArray := prog_1_method_27_code
def yX10_quiet : MethodName := ⟨RX10, "quiet", "(II)I"⟩
abbrev cX10_see : ByteArray := prog_1_method_28_code
def yX10_see : MethodName := ⟨RX10, "see", "(II)I"⟩
abbrev cX10_secrets : ByteArray := prog_1_method_29_code
def yX10_secrets : MethodName := ⟨RX10, "secrets", "(I)I"⟩
abbrev cX10_ask : ByteArray := prog_1_method_30_code
def yX10_ask : MethodName := ⟨RX10, "ask", "()I"⟩
abbrev cX10_write : ByteArray := prog_1_method_31_code
def yX10_write : MethodName := ⟨RX10, "write", "(II)I"⟩
abbrev cX10_tear : ByteArray := prog_1_method_32_code
def yX10_tear : MethodName := ⟨RX10, "tear", "()I"⟩
abbrev cX10_judge : ByteArray := prog_1_method_33_code
def yX10_judge : MethodName := ⟨RX10, "judge", "()I"⟩
abbrev cX10_seed : ByteArray := prog_1_method_34_code
def yX10_seed : MethodName := ⟨RX10, "seed", "(I)I"⟩
abbrev cX10_keep : ByteArray := prog_1_method_35_code
def yX10_keep : MethodName := ⟨RX10, "keep", "(I)I"⟩
abbrev cX10_goBack : ByteArray := prog_1_method_36_code
def yX10_goBack : MethodName := ⟨RX10, "goBack", "(I)I"⟩
abbrev cX10_isPlace : ByteArray := prog_1_method_37_code
def yX10_isPlace : MethodName := ⟨RX10, "isPlace", "(I)Z"⟩
abbrev cX10_isCode : ByteArray := prog_1_method_38_code
def yX10_isCode : MethodName := ⟨RX10, "isCode", "(I)Z"⟩
abbrev cX10_codeOf : ByteArray := prog_1_method_39_code
def yX10_codeOf : MethodName := ⟨RX10, "codeOf", "(II)I"⟩
abbrev cX10_areKnown : ByteArray := prog_1_method_40_code
def yX10_areKnown : MethodName := ⟨RX10, "areKnown", "(II)Z"⟩
abbrev cX10_opensFrom : ByteArray := prog_1_method_41_code
def yX10_opensFrom : MethodName := ⟨RX10, "opensFrom", "(II)I"⟩
abbrev cX10_bestPlace : ByteArray := prog_1_method_42_code
def yX10_bestPlace : MethodName := ⟨RX10, "bestPlace", "(I)I"⟩
abbrev cX10_usefulAt : ByteArray := prog_1_method_43_code
def yX10_usefulAt : MethodName := ⟨RX10, "usefulAt", "(I)I"⟩
abbrev cX10_couldSend : ByteArray := prog_1_method_44_code
def yX10_couldSend : MethodName := ⟨RX10, "couldSend", "(II)Z"⟩
abbrev cX10_passHour : ByteArray := prog_1_method_45_code
def yX10_passHour : MethodName := ⟨RX10, "passHour", "()V"⟩
def RX11 : String := "RollingCodesModel"
def TX11 : u_T := fun k => match k with
  | 0 => ("RollingCodesModel", "isStreet", "Z", false)
  | 1 => ("RollingCodesModel", "earTold", "I", false)
  | 2 => ("RollingCodesModel", "earRange", "I", false)
  | 3 => ("RollingCodesModel", "gates", "I", false)
  | 4 => ("RollingCodesModel", "gateKind", "[I", true)
  | 5 => ("RollingCodesModel", "gateAt", "[I", true)
  | 6 => ("RollingCodesModel", "window", "[I", true)
  | 7 => ("RollingCodesModel", "fobs", "I", false)
  | 8 => ("RollingCodesModel", "fobKind", "[I", true)
  | 9 => ("RollingCodesModel", "fobTold", "[I", true)
  | 10 => ("RollingCodesModel", "range", "[I", true)
  | 11 => ("RollingCodesModel", "secret", "[I", true)
  | 12 => ("RollingCodesModel", "countTold", "[I", true)
  | 13 => ("RollingCodesModel", "now", "[I", true)
  | 14 => ("RollingCodesModel", "seed", "I", false)
  | 15 => ("RollingCodesModel", "text", "[I", true)
  | 16 => ("RollingCodesModel", "texted", "I", false)
  | 17 => ("RollingCodesModel", "faultPlace", "I", false)
  | 18 => ("RollingCodesModel", "at0", "I", false)
  | 19 => ("RollingCodesModel", "number", "I", false)
  | 20 => ("RollingCodesModel", "hasEar", "Z", false)
  | 21 => ("RollingCodesModel", "readEar", "[I", true)
  | 22 => ("RollingCodesModel", "readGates", "I", false)
  | 23 => ("RollingCodesModel", "readGateKind", "[I", true)
  | 24 => ("RollingCodesModel", "readGateAt", "[I", true)
  | 25 => ("RollingCodesModel", "readWindow", "[I", true)
  | 26 => ("RollingCodesModel", "readFobs", "I", false)
  | 27 => ("RollingCodesModel", "readFobKind", "[I", true)
  | 28 => ("RollingCodesModel", "readFobAt", "[I", true)
  | 29 => ("RollingCodesModel", "readRange", "[I", true)
  | 30 => ("RollingCodesModel", "readSecret", "[I", true)
  | 31 => ("RollingCodesModel", "readCount", "[I", true)
  | 32 => ("RollingCodesModel", "undos", "I", false)
  | 33 => ("RollingCodesModel", "past", "[I", true)
  | 34 => ("RollingCodesModel", "before", "[I", true)
  | 35 => ("RollingCodesModel", "rowMany", "I", false)
  | 36 => ("RollingCodesModel", "rowFirst", "I", false)
  | 37 => ("RollingCodesModel", "seen", "I", false)
  | 38 => ("RollingCodesModel", "seenAt", "[I", true)
  | 39 => ("RollingCodesModel", "seenIs", "[I", true)
  | 40 => ("RollingCodesModel", "parts", "[I", true)
  | 41 => ("RollingCodesModel", "booked", "I", false)
  | 42 => ("RollingCodesModel", "bookOf", "[I", true)
  | 43 => ("RollingCodesModel", "bookIs", "[I", true)
  | 44 => ("RollingCodesModel", "images", "[I", true)
  | _ => ("RollingCodesModel", "isKept", "[Z", true)
def tyX11 : Nat → FieldType := fun k => match k with
  | 0 => .boolean
  | 1 => .int
  | 2 => .int
  | 3 => .int
  | 4 => .array .int
  | 5 => .array .int
  | 6 => .array .int
  | 7 => .int
  | 8 => .array .int
  | 9 => .array .int
  | 10 => .array .int
  | 11 => .array .int
  | 12 => .array .int
  | 13 => .array .int
  | 14 => .int
  | 15 => .array .int
  | 16 => .int
  | 17 => .int
  | 18 => .int
  | 19 => .int
  | 20 => .boolean
  | 21 => .array .int
  | 22 => .int
  | 23 => .array .int
  | 24 => .array .int
  | 25 => .array .int
  | 26 => .int
  | 27 => .array .int
  | 28 => .array .int
  | 29 => .array .int
  | 30 => .array .int
  | 31 => .array .int
  | 32 => .int
  | 33 => .array .int
  | 34 => .array .int
  | 35 => .int
  | 36 => .int
  | 37 => .int
  | 38 => .array .int
  | 39 => .array .int
  | 40 => .array .int
  | 41 => .int
  | 42 => .array .int
  | 43 => .array .int
  | 44 => .array .int
  | _ => .array .boolean
abbrev wsX110 : List Cond := u_ws RX11 TX11 46
theorem nmX11 : ∀ a, a < 46 → ∀ b, b < 46 → a ≠ b → (TX11 a).2.1 ≠ (TX11 b).2.1 := by decide +kernel
theorem tyX11_ok : ∀ k, k < 46 → parseFieldDescriptor (TX11 k).2.2.1 = some (tyX11 k) := by decide +kernel
abbrev cX11_init : ByteArray := prog_13_method_1_code
def yX11_init : MethodName := ⟨RX11, "<init>", "()V"⟩
abbrev cX11_in : ByteArray := prog_13_method_3_code
def yX11_in : MethodName := ⟨RX11, "in", "(JJJ)Z"⟩
abbrev cX11_has : ByteArray := prog_13_method_4_code
def yX11_has : MethodName := ⟨RX11, "has", "(II)Z"⟩
abbrev cX11_bits : ByteArray := prog_13_method_5_code
def yX11_bits : MethodName := ⟨RX11, "bits", "(I)I"⟩
abbrev cX11_isFob : ByteArray := prog_13_method_6_code
def yX11_isFob : MethodName := ⟨RX11, "isFob", "(I)Z"⟩
abbrev cX11_isGate : ByteArray := prog_13_method_7_code
def yX11_isGate : MethodName := ⟨RX11, "isGate", "(I)Z"⟩
abbrev cX11_feed : ByteArray := prog_13_method_8_code
def yX11_feed : MethodName := ⟨RX11, "feed", "(I)I"⟩
abbrev cX11_here : ByteArray := prog_13_method_9_code
def yX11_here : MethodName := ⟨RX11, "here", "()I"⟩
abbrev cX11_fails : ByteArray := prog_13_method_10_code
def yX11_fails : MethodName := ⟨RX11, "fails", "(II)I"⟩
abbrev cX11_takeNumber : ByteArray := prog_13_method_11_code
def yX11_takeNumber : MethodName := ⟨RX11, "takeNumber", "(II)I"⟩
abbrev cX11_into : ByteArray := prog_13_method_12_code
def yX11_into : MethodName := ⟨RX11, "into", "([IIII)I"⟩
abbrev cX11_takeEar : ByteArray := prog_13_method_13_code
def yX11_takeEar : MethodName := ⟨RX11, "takeEar", "()I"⟩
abbrev cX11_takeGate : ByteArray := prog_13_method_14_code
def yX11_takeGate : MethodName := ⟨RX11, "takeGate", "()I"⟩
abbrev cX11_takeFob : ByteArray := prog_13_method_15_code
def yX11_takeFob : MethodName := ⟨RX11, "takeFob", "()I"⟩
abbrev cX11_takeClause : ByteArray := prog_13_method_16_code
def yX11_takeClause : MethodName := ⟨RX11, "takeClause", "()I"⟩
abbrev cX11_copyRow : ByteArray := prog_13_method_17_code
def yX11_copyRow : MethodName := ⟨RX11, "copyRow", "([I[II)V"⟩
abbrev cX11_beginAll : ByteArray := prog_13_method_18_code
def yX11_beginAll : MethodName := ⟨RX11, "beginAll", "()V"⟩
abbrev cX11_takeRead : ByteArray := prog_13_method_19_code
def yX11_takeRead : MethodName := ⟨RX11, "takeRead", "()V"⟩
abbrev cX11_street : ByteArray := prog_13_method_20_code
def yX11_street : MethodName := ⟨RX11, "street", "()I"⟩
abbrev cX11_fault : ByteArray := prog_13_method_21_code
def yX11_fault : MethodName := ⟨RX11, "fault", "()I"⟩
abbrev cX11_codeOf : ByteArray := prog_13_method_22_code
def yX11_codeOf : MethodName := ⟨RX11, "codeOf", "(II)I"⟩
abbrev cX11_code : ByteArray := prog_13_method_23_code
def yX11_code : MethodName := ⟨RX11, "code", "(II)I"⟩
abbrev cX11_aheadOf : ByteArray := prog_13_method_24_code
def yX11_aheadOf : MethodName := ⟨RX11, "aheadOf", "(II)I"⟩
abbrev cX11_openBy : ByteArray := prog_13_method_25_code
def yX11_openBy : MethodName := ⟨RX11, "openBy", "(III)V"⟩
abbrev cX11_matchOf : ByteArray := prog_13_method_26_code
def yX11_matchOf : MethodName := ⟨RX11, "matchOf", "(III)I"⟩
abbrev cX11_isAwaited : ByteArray := prog_13_method_27_code
def yX11_isAwaited : MethodName := ⟨RX11, "isAwaited", "(II)Z"⟩
abbrev cX11_hears : ByteArray := prog_13_method_28_code
def yX11_hears : MethodName := ⟨RX11, "hears", "(II)Z"⟩
abbrev cX11_far : ByteArray := prog_13_method_29_code
def yX11_far : MethodName := ⟨RX11, "far", "(II)I"⟩
abbrev cX11_sendFrom : ByteArray := prog_13_method_30_code
def yX11_sendFrom : MethodName := ⟨RX11, "sendFrom", "(III)I"⟩
abbrev cX11_keepCode : ByteArray := prog_13_method_31_code
def yX11_keepCode : MethodName := ⟨RX11, "keepCode", "(I)V"⟩
abbrev cX11_sendBy : ByteArray := prog_13_method_32_code
def yX11_sendBy : MethodName := ⟨RX11, "sendBy", "(II)I"⟩
abbrev cX11_stepOn : ByteArray := prog_13_method_33_code
def yX11_stepOn : MethodName := ⟨RX11, "stepOn", "(I)V"⟩
abbrev cX11_pressNow : ByteArray := prog_13_method_34_code
def yX11_pressNow : MethodName := ⟨RX11, "pressNow", "(I)I"⟩
abbrev cX11_openings : ByteArray := prog_13_method_35_code
def yX11_openings : MethodName := ⟨RX11, "openings", "()I"⟩
abbrev cX11_told : ByteArray := prog_13_method_36_code
def yX11_told : MethodName := ⟨RX11, "told", "(I)I"⟩
abbrev cX11_fob : ByteArray := prog_13_method_37_code
def yX11_fob : MethodName := ⟨RX11, "fob", "(II)I"⟩
abbrev cX11_gate : ByteArray := prog_13_method_38_code
def yX11_gate : MethodName := ⟨RX11, "gate", "(II)I"⟩
abbrev cX11_last : ByteArray := prog_13_method_39_code
def yX11_last : MethodName := ⟨RX11, "last", "(II)I"⟩
abbrev cX11_kept : ByteArray := prog_13_method_40_code
def yX11_kept : MethodName := ⟨RX11, "kept", "(I)I"⟩
abbrev cX11_remember : ByteArray := prog_13_method_41_code
def yX11_remember : MethodName := ⟨RX11, "remember", "()V"⟩
abbrev cX11_press : ByteArray := prog_13_method_42_code
def yX11_press : MethodName := ⟨RX11, "press", "(I)I"⟩
abbrev cX11_step : ByteArray := prog_13_method_43_code
def yX11_step : MethodName := ⟨RX11, "step", "(II)I"⟩
abbrev cX11_earTo : ByteArray := prog_13_method_44_code
def yX11_earTo : MethodName := ⟨RX11, "earTo", "(I)I"⟩
abbrev cX11_noise : ByteArray := prog_13_method_45_code
def yX11_noise : MethodName := ⟨RX11, "noise", "(IZ)I"⟩
abbrev cX11_teach : ByteArray := prog_13_method_46_code
def yX11_teach : MethodName := ⟨RX11, "teach", "(II)I"⟩
abbrev cX11_again : ByteArray := prog_13_method_47_code
def yX11_again : MethodName := ⟨RX11, "again", "(I)I"⟩
abbrev cX11_fill : ByteArray := prog_13_method_48_code
def yX11_fill : MethodName := ⟨RX11, "fill", "(I)I"⟩
abbrev cX11_draw : ByteArray := prog_13_method_49_code
def yX11_draw : MethodName := ⟨RX11, "draw", "(I)I"⟩
abbrev cX11_chance : ByteArray := prog_13_method_50_code
def yX11_chance : MethodName := ⟨RX11, "chance", "()V"⟩
abbrev cX11_drift : ByteArray := prog_13_method_51_code
def yX11_drift : MethodName := ⟨RX11, "drift", "(I)I"⟩
abbrev cX11_undo : ByteArray := prog_13_method_52_code
def yX11_undo : MethodName := ⟨RX11, "undo", "()I"⟩
abbrev cX11_keepNow : ByteArray := prog_13_method_53_code
def yX11_keepNow : MethodName := ⟨RX11, "keepNow", "()V"⟩
abbrev cX11_putBack : ByteArray := prog_13_method_54_code
def yX11_putBack : MethodName := ⟨RX11, "putBack", "()V"⟩
abbrev cX11_opensFrom : ByteArray := prog_13_method_55_code
def yX11_opensFrom : MethodName := ⟨RX11, "opensFrom", "(II)I"⟩
abbrev cX11_wouldOpen : ByteArray := prog_13_method_56_code
def yX11_wouldOpen : MethodName := ⟨RX11, "wouldOpen", "(II)I"⟩
abbrev cX11_bestPlace : ByteArray := prog_13_method_57_code
def yX11_bestPlace : MethodName := ⟨RX11, "bestPlace", "(I)I"⟩
abbrev cX11_ahead : ByteArray := prog_13_method_58_code
def yX11_ahead : MethodName := ⟨RX11, "ahead", "(II)I"⟩
abbrev cX11_opensNextTo : ByteArray := prog_13_method_59_code
def yX11_opensNextTo : MethodName := ⟨RX11, "opensNextTo", "(II)Z"⟩
abbrev cX11_locked : ByteArray := prog_13_method_60_code
def yX11_locked : MethodName := ⟨RX11, "locked", "(II)I"⟩
abbrev cX11_takes : ByteArray := prog_13_method_61_code
def yX11_takes : MethodName := ⟨RX11, "takes", "(II)I"⟩
abbrev cX11_usefulAt : ByteArray := prog_13_method_62_code
def yX11_usefulAt : MethodName := ⟨RX11, "usefulAt", "(I)I"⟩
abbrev cX11_inReach : ByteArray := prog_13_method_63_code
def yX11_inReach : MethodName := ⟨RX11, "inReach", "()I"⟩
abbrev cX11_opensAll : ByteArray := prog_13_method_64_code
def yX11_opensAll : MethodName := ⟨RX11, "opensAll", "(II)Z"⟩
abbrev cX11_findRow : ByteArray := prog_13_method_65_code
def yX11_findRow : MethodName := ⟨RX11, "findRow", "()V"⟩
abbrev cX11_row : ByteArray := prog_13_method_66_code
def yX11_row : MethodName := ⟨RX11, "row", "(I)I"⟩
abbrev cX11_couldSend : ByteArray := prog_13_method_67_code
def yX11_couldSend : MethodName := ⟨RX11, "couldSend", "(II)Z"⟩
abbrev cX11_who : ByteArray := prog_13_method_68_code
def yX11_who : MethodName := ⟨RX11, "who", "(I)I"⟩
abbrev cX11_same : ByteArray := prog_13_method_69_code
def yX11_same : MethodName := ⟨RX11, "same", "(II)I"⟩
abbrev cX11_quiet : ByteArray := prog_13_method_70_code
def yX11_quiet : MethodName := ⟨RX11, "quiet", "(II)I"⟩
abbrev cX11_see : ByteArray := prog_13_method_71_code
def yX11_see : MethodName := ⟨RX11, "see", "(II)I"⟩
abbrev cX11_couldBe : ByteArray := prog_13_method_72_code
def yX11_couldBe : MethodName := ⟨RX11, "couldBe", "(I)Z"⟩
abbrev cX11_manySecrets : ByteArray := prog_13_method_73_code
def yX11_manySecrets : MethodName := ⟨RX11, "manySecrets", "()I"⟩
abbrev cX11_secrets : ByteArray := prog_13_method_74_code
def yX11_secrets : MethodName := ⟨RX11, "secrets", "(I)I"⟩
abbrev cX11_greatestPart : ByteArray := prog_13_method_75_code
def yX11_greatestPart : MethodName := ⟨RX11, "greatestPart", "(I)I"⟩
abbrev cX11_ask : ByteArray := prog_13_method_76_code
def yX11_ask : MethodName := ⟨RX11, "ask", "()I"⟩
abbrev cX11_write : ByteArray := prog_13_method_77_code
def yX11_write : MethodName := ⟨RX11, "write", "(II)I"⟩
abbrev cX11_tear : ByteArray := prog_13_method_78_code
def yX11_tear : MethodName := ⟨RX11, "tear", "()I"⟩
abbrev cX11_judge : ByteArray := prog_13_method_79_code
def yX11_judge : MethodName := ⟨RX11, "judge", "()I"⟩
abbrev cX11_seed : ByteArray := prog_13_method_80_code
def yX11_seed : MethodName := ⟨RX11, "seed", "(I)I"⟩
abbrev cX11_keep : ByteArray := prog_13_method_81_code
def yX11_keep : MethodName := ⟨RX11, "keep", "(I)I"⟩
abbrev cX11_goBack : ByteArray := prog_13_method_82_code
def yX11_goBack : MethodName := ⟨RX11, "goBack", "(I)I"⟩
def RJ6 : String := "java/lang/Integer"
abbrev cJ6_bitCount_0f7a4 : ByteArray := prog_14_method_49_code
def yJ6_bitCount_0f7a4 : MethodName := ⟨RJ6, "bitCount", "(I)I"⟩
def RJ9 : String := "java/lang/Math"
abbrev cJ9_floorMod_7cf53 : ByteArray := prog_15_method_50_code
def yJ9_floorMod_7cf53 : MethodName := ⟨RJ9, "floorMod", "(II)I"⟩
abbrev cJ9_abs_0f7a4 : ByteArray := prog_15_method_59_code
def yJ9_abs_0f7a4 : MethodName := ⟨RJ9, "abs", "(I)I"⟩
abbrev cJ9_max_7cf53 : ByteArray := prog_15_method_65_code
def yJ9_max_7cf53 : MethodName := ⟨RJ9, "max", "(II)I"⟩
abbrev cJ9_min_7cf53 : ByteArray := prog_15_method_69_code
def yJ9_min_7cf53 : MethodName := ⟨RJ9, "min", "(II)I"⟩
def RJ10 : String := "java/lang/System"
def RL : String := "RollingCodesLaw"
abbrev cL_law : ByteArray := code
def yL_law : MethodName := ⟨RL, "law", "([I)Z"⟩
abbrev vwCl : List vw_C := [(RX0, TX0, 3), (RX1, TX1, 1), (RX2, TX2, 3), (RX3, TX3, 3), (RX4, TX4, 13), (RX5, TX5, 5), (RX6, TX6, 2), (RX7, TX7, 13), (RX8, TX8, 3), (RX9, TX9, 2), (RX10, TX10, 12), (RX11, TX11, 46)]
end
section
/-! The layer: both objects' cells are made in constructors and stay where they are, so a heap picture is a memory of numbers (kind of object, which one, cell, slot), and a walk is a judgement over program counter, locals, stack and memory. -/
abbrev Grp : Type := Nat → Nat → Int32
abbrev Mem : Type := Nat → Nat → Grp
abbrev Key : Type := Nat × Nat × Nat
/-- slot i of cell j gets v -/
def wr (g : Grp) (j i : Nat) (v : Int32) : Grp := fun j' => if j' = j then upd (g j) i v else g j'
/-- cell j gets the row f -/
def wa (g : Grp) (j : Nat) (f : Nat → Int32) : Grp := fun j' => if j' = j then f else g j'
def upM (σ : Mem) (t k : Nat) (g : Grp) : Mem := fun t' k' => if t' = t ∧ k' = k then g else σ t' k'
theorem upM_same (σ : Mem) (t k : Nat) (g : Grp) : upM σ t k g t k = g := by simp [upM]
theorem upM_ne {σ : Mem} {t k t' k' : Nat} {g : Grp} (h : ¬ (t' = t ∧ k' = k)) : upM σ t k g t' k' = σ t' k' := by simp [upM, h]
theorem upM_self (σ : Mem) (t k : Nat) : upM σ t k (σ t k) = σ := by
  funext t' k'
  by_cases h : t' = t ∧ k' = k
  · obtain ⟨rfl, rfl⟩ := h; simp [upM]
  · simp [upM, h]
theorem upM_upM (σ : Mem) (t k : Nat) (g g' : Grp) : upM (upM σ t k g) t k g' = upM σ t k g' := by
  funext t' k'
  by_cases h : t' = t ∧ k' = k <;> simp [upM, h]
theorem upM_swap (σ : Mem) {t k t2 k2 : Nat} (g g2 : Grp) (h : ¬ (t = t2 ∧ k = k2)) : upM (upM σ t k g) t2 k2 g2 = upM (upM σ t2 k2 g2) t k g := by
  funext t' k'
  by_cases h1 : t' = t ∧ k' = k
  · obtain ⟨rfl, rfl⟩ := h1; simp [upM, h]
  · simp [upM, h1]
theorem wr_at (g : Grp) (j i : Nat) (v : Int32) : wr g j i v j = upd (g j) i v := by simp [wr]
theorem wr_eq (g : Grp) (j i : Nat) (v : Int32) : wr g j i v j i = v := by simp [wr, upd]
theorem wr_ne {g : Grp} {j i j' i' : Nat} {v : Int32} (h : ¬ (j' = j ∧ i' = i)) : wr g j i v j' i' = g j' i' := by
  by_cases hj : j' = j
  · subst hj
    have hi : ¬ i' = i := fun e => h ⟨rfl, e⟩
    simp [wr, upd, hi]
  · simp [wr, hj]
/-- the number of fields of the kinds of objects -/
def nf : Nat → Nat
  | 0 => 3 | 1 => 1 | 2 => 3 | 3 => 3 | 4 => 13 | 5 => 5 | 6 => 2 | 7 => 13 | 8 => 3 | 9 => 2 | 10 => 12 | 11 => 46 | _ => 0
/-- what a field holds: (0, _) a number, (1, n) a row of n numbers, (2, n) a row of n truth values, (3, n) a row of n scenes, (4, _) an object -/
def fk : Nat → Nat → Nat × Nat
  | 0, 0 => (1, 15) | 0, 1 => (1, 15)
  | 2, 0 => (3, 2) | 2, 1 => (1, 2) | 2, 2 => (2, 2)
  | 3, 0 => (3, 16)
  | 4, 5 => (1, 4) | 4, 6 => (1, 4) | 4, 7 => (1, 4) | 4, 8 => (1, 5) | 4, 9 => (1, 5) | 4, 10 => (1, 5) | 4, 11 => (1, 5) | 4, 12 => (1, 5)
  | 5, 0 => (4, 0) | 5, 1 => (1, 5)
  | 6, 0 => (3, 4) | 6, 1 => (1, 3)
  | 7, 0 => (4, 0) | 7, 5 => (1, 8) | 7, 6 => (1, 5) | 7, 7 => (1, 5) | 7, 8 => (1, 5) | 7, 9 => (1, 4) | 7, 10 => (1, 4) | 7, 11 => (1, 4) | 7, 12 => (1, 20)
  | 8, 0 => (2, 256) | 8, 1 => (1, 509)
  | 9, 0 => (1, 240)
  | 10, 0 => (4, 0) | 10, 1 => (4, 0) | 10, 2 => (4, 0) | 10, 3 => (4, 0) | 10, 4 => (4, 0) | 10, 5 => (4, 0) | 10, 6 => (4, 0) | 10, 7 => (4, 0) | 10, 8 => (4, 0) | 10, 9 => (4, 0) | 10, 10 => (4, 0)
  | 11, 4 => (1, 4) | 11, 5 => (1, 4) | 11, 6 => (1, 4) | 11, 8 => (1, 5) | 11, 9 => (1, 5) | 11, 10 => (1, 5) | 11, 11 => (1, 5) | 11, 12 => (1, 5) | 11, 13 => (1, 59) | 11, 15 => (1, 240)
  | 11, 21 => (1, 2) | 11, 23 => (1, 4) | 11, 24 => (1, 4) | 11, 25 => (1, 4) | 11, 27 => (1, 5) | 11, 28 => (1, 5) | 11, 29 => (1, 5) | 11, 30 => (1, 5) | 11, 31 => (1, 5)
  | 11, 33 => (1, 944) | 11, 34 => (1, 59) | 11, 38 => (1, 6) | 11, 39 => (1, 6) | 11, 40 => (1, 509) | 11, 42 => (1, 15) | 11, 43 => (1, 15) | 11, 44 => (1, 120) | 11, 45 => (2, 2)
  | _, _ => (0, 0)
/-- the object that a field of kind 4 holds -/
def fo : Nat → Nat → Key
  | 5, _ => (4, 1, 0)
  | 7, _ => (4, 0, 0)
  | 10, 0 => (9, 0, 0) | 10, 1 => (5, 0, 0) | 10, 2 => (4, 0, 0) | 10, 3 => (7, 0, 0) | 10, 4 => (7, 1, 0) | 10, 5 => (3, 0, 0) | 10, 6 => (2, 0, 0) | 10, 7 => (6, 0, 0) | 10, 8 => (8, 0, 0) | 10, 9 => (0, 0, 0) | 10, _ => (1, 0, 0)
  | _, _ => (0, 0, 0)
/-- the first scene of a row of scenes -/
def so : Nat → Nat
  | 3 => 2 | 2 => 18 | _ => 20
def fv (ad : Key → Nat) (σ : Mem) (t k i : Nat) : Value := match fk t i with
  | (0, _) => .int (σ t k 0 i)
  | (4, _) => .ref (ad (fo t i))
  | _ => .ref (ad (t, k, i + 1))
def Ev (ad : Key → Nat) (cy : Nat → ClassId) (σ : Mem) : Key → va_E
  | (t, k, 0) => .inr (t, (List.range (nf t)).map (fv ad σ t k))
  | (t, k, i + 1) => match fk t i with
    | (1, n) => .inl (cy 0, n, .inl (σ t k (i + 1)))
    | (2, n) => .inl (cy 1, n, .inl (σ t k (i + 1)))
    | (_, n) => .inl (cy 2, n, .inr (.inr (.inr (.inr (fun x => some (ad (7, so t + x, 0)))))))
def wl (L : List Key) (ad : Key → Nat) (E : Key → va_E) : va_W := L.map (fun q => (ad q, E q))
theorem wl_get {L : List Key} {ad : Key → Nat} {E : Key → va_E} {q : Key} (h : q ∈ L) : ∃ i : Nat, (wl L ad E)[i]? = some (ad q, E q) ∧ L[i]? = some q := by
  obtain ⟨i, hi⟩ := List.getElem?_of_mem h
  exact ⟨i, by simp [wl, hi], hi⟩
theorem wl_set {L : List Key} {ad : Key → Nat} {E E' : Key → va_E} {A : Nat → Prop} {q : Key} {i : Nat} (hD : va_D A (wl L ad E)) (hi : L[i]? = some q) (hne : ∀ q', q' ≠ q → E' q' = E q') : (wl L ad E).set i (ad q, E' q) = wl L ad E' := by
  apply List.ext_getElem?
  intro n
  by_cases h : n = i
  · subst h
    have hlt : n < L.length := (List.getElem?_eq_some_iff.mp hi).1
    have he : L[n] = q := (List.getElem?_eq_some_iff.mp hi).2
    simp [wl, hlt, he]
  · rw [List.getElem?_set_ne (Ne.symm h)]
    simp only [wl, List.getElem?_map]
    cases hn : L[n]? with
    | none => rfl
    | some q' =>
      have h1 : q' ≠ q := fun e => h (hD.1 n i (ad q', E q') (ad q, E q) (by simp [wl, hn]) (by simp [wl, hi]) (by rw [e]))
      simp [hne q' h1]
theorem Ev_ne {ad : Key → Nat} {cy : Nat → ClassId} {σ : Mem} {t k j : Nat} {f : Nat → Int32} (q : Key) (h : q ≠ (t, k, j)) : Ev ad cy (upM σ t k (wa (σ t k) j f)) q = Ev ad cy σ q := by
  obtain ⟨t', k', j'⟩ := q
  have hr : ∀ j2 : Nat, ¬ (t' = t ∧ k' = k ∧ j2 = j) → upM σ t k (wa (σ t k) j f) t' k' j2 = σ t' k' j2 := by
    intro j2 h2
    by_cases h3 : t' = t ∧ k' = k
    · obtain ⟨rfl, rfl⟩ := h3
      have h4 : ¬ j2 = j := fun e => h2 ⟨rfl, rfl, e⟩
      simp [upM, wa, h4]
    · simp [upM, h3]
  have hh : ¬ (t' = t ∧ k' = k ∧ j' = j) := fun e => h (by rw [e.1, e.2.1, e.2.2])
  cases j' with
  | zero =>
    have e : fv ad (upM σ t k (wa (σ t k) j f)) t' k' = fv ad σ t' k' := by
      funext i
      unfold fv
      split
      · rw [hr 0 hh]
      · rfl
      · rfl
    simp only [Ev, e]
  | succ i => simp only [Ev, hr (i + 1) hh]
theorem wr_wa (g : Grp) (j i : Nat) (v : Int32) : wr g j i v = wa g j (upd (g j) i v) := rfl
theorem Ev_num {ad : Key → Nat} {cy : Nat → ClassId} {σ : Mem} {t k i : Nat} {v : Int32} (hk : (fk t i).1 = 0) : Ev ad cy (upM σ t k (wr (σ t k) 0 i v)) (t, k, 0) = .inr (t, ((List.range (nf t)).map (fv ad σ t k)).set i (.int v)) := by
  simp only [Ev]
  congr 2
  apply List.ext_getElem?
  intro n
  have hfv : ∀ i', fv ad (upM σ t k (wr (σ t k) 0 i v)) t k i' = if i' = i then .int v else fv ad σ t k i' := by
    intro i'
    by_cases h : i' = i
    · subst h
      have hf : fk t i' = (0, (fk t i').2) := by rw [← hk]
      unfold fv
      rw [hf]
      simp [upM_same, wr_eq]
    · simp only [fv, h, if_false]
      split
      · rw [upM_same, wr_ne (fun e => h e.2)]
      · rfl
      · rfl
  by_cases h : n = i
  · subst h
    by_cases hn : n < nf t
    · simp [hn, hfv]
    · simp [hn]
  · rw [List.getElem?_set_ne (Ne.symm h)]
    simp only [List.getElem?_map]
    by_cases hn : n < nf t
    · simp [hn, hfv, h]
    · simp [hn]
theorem Ev_rowI {ad : Key → Nat} {cy : Nat → ClassId} {σ : Mem} {t k i n : Nat} {f : Nat → Int32} (hk : fk t i = (1, n)) : Ev ad cy (upM σ t k (wa (σ t k) (i + 1) f)) (t, k, i + 1) = .inl (cy 0, n, .inl f) := by
  simp [Ev, hk, upM_same, wa]
theorem Ev_rowZ {ad : Key → Nat} {cy : Nat → ClassId} {σ : Mem} {t k i n : Nat} {f : Nat → Int32} (hk : fk t i = (2, n)) : Ev ad cy (upM σ t k (wa (σ t k) (i + 1) f)) (t, k, i + 1) = .inl (cy 1, n, .inl f) := by
  simp [Ev, hk, upM_same, wa]
/-! words -/
def isNest : Cond → Bool
  | .fieldLinkNest .. => true
  | .methodLinkNest .. => true
  | _ => false
def TB : List Cond := lw_tbl.filter goodWord
def NB : List Cond := lw_tbl.filter isNest
theorem tb_of {i : Nat} {w : Cond} (h : tables_1[i]? = some w) (hg : goodWord w = true) : w ∈ TB := List.mem_filter.mpr ⟨List.mem_append_right _ (List.mem_of_getElem? h), hg⟩
theorem tb_sel {i : Nat} {w : Cond} (h : (k2_sels lw_privs)[i]? = some w) (hg : goodWord w = true) : w ∈ TB := List.mem_filter.mpr ⟨List.mem_append_left _ (List.mem_of_getElem? h), hg⟩
theorem nb_of {i : Nat} {w : Cond} (h : tables_1[i]? = some w) (hg : isNest w = true) : w ∈ NB := List.mem_filter.mpr ⟨List.mem_append_right _ (List.mem_of_getElem? h), hg⟩
theorem tb_good {w : Cond} (h : w ∈ TB) : (w.onTables && w.keeps) = true ∨ ∃ ty, w = .arrayClass ty := good_of_word (List.mem_filter.mp h).2
theorem nb_warm {s U : State} (hW : s.WarmedH U.vm) (h : ∀ w ∈ NB, va_Nw w s) : ∀ w ∈ NB, va_Nw w U := by
  intro w hw
  have h1 := h w hw
  have h2 := (List.mem_filter.mp hw).2
  cases w <;> first | (simp [isNest] at h2; done) | exact va_Nw.warmF hW h1 | exact va_Nw.warmM hW h1
theorem nb_same {s U : State} (hvm : s.vm = U.vm) (h : ∀ w ∈ NB, va_Nw w s) : ∀ w ∈ NB, va_Nw w U := by
  intro w hw
  have h1 := h w hw
  have h2 := (List.mem_filter.mp hw).2
  cases w <;> first | (simp [isNest] at h2; done) | exact va_Nw.same rfl hvm h1
theorem good_tb {w0 w1 : Cond} (h1 : w1 ∈ TB) : GoodIn (w0 :: TB) (w1 :: TB) := by
  intro w hw
  have hm : w ∈ TB := by
    rcases List.mem_cons.mp hw with h | h
    · rw [h]; exact h1
    · exact h
  exact ⟨List.mem_cons_of_mem _ hm, tb_good hm⟩
end
section
/-- of a walk: program, environment, room, start, method, arguments, frames below, method, code, end, cells that may change, locals, cells and slots made -/
abbrev Dy : Type := Program × Env × Room × State × MethodId × Array Value × List Frame × Method × Code × (State → Prop) × (Nat → Prop) × Nat × Nat × Nat
/-- of all walks: launch, class numbers, array classes, the cells, their addresses, the addresses of the reader's static rows -/
abbrev G0 : Type := Launch × va_G × (Nat → ClassId) × List Key × (Key → Nat) × (Nat → Nat)
def adr (G : G0) (q : Key) : Nat := G.2.2.2.2.1 q
def cel (G : G0) : List Key := G.2.2.2.1
def wd (G : G0) (σ : Mem) : va_W := wl G.2.2.2.1 G.2.2.2.2.1 (Ev G.2.2.2.2.1 G.2.2.1 σ)
def tyz (cy : Nat → ClassId) : List (ClassId × FieldType) := [(cy 0, .int), (cy 1, .boolean), (cy 2, .object "RollingCodes$Scene")]
/-- the reader's static rows: their names, lengths, numbers -/
def sn : Nat → String
  | 0 => "EAR_MOST" | 1 => "EAR_LEAST" | 2 => "GATE_MOST" | 3 => "GATE_LEAST" | 4 => "FOB_MOST" | _ => "FOB_LEAST"
def sn_len : Nat → Nat
  | 0 => 2 | 1 => 2 | 2 => 3 | 3 => 3 | 4 => 5 | _ => 5
def sn_at : Nat → Nat → Int32
  | 0, _ => 9
  | 2, 0 => 3 | 2, 1 => 9 | 2, _ => 32
  | 3, 2 => 1
  | 4, 0 => 3 | 4, 1 => 9 | 4, 2 => 9 | 4, 3 => 255 | 4, _ => 999
  | _, _ => 0
def SZ (t6 : Nat → Nat) (A : Nat → Prop) (U : State) : Prop := ∀ x : Nat, x < 6 → va_Z "RollingCodes$Reader" (sn x) "[I" (.ref (t6 x)) A U U.heap ∧ va_T .int (t6 x) (sn_len x) (fun i => .int (sn_at x i)) A U U.heap
def U (Y : Dy) (G : G0) (σ : Mem) (pc : Nat) (lv : List (Nat × Value)) (st : List Value) : Prop :=
  match Y with
  | (p, e, R, s, m, args, below, meth, c, Q, A, nL, ce, sl) => ∀ (H : Heap) (locs : List Loc) (ls : Array Slot), va_P G.2.1 vwCl (wd G σ) H → va_D A (wd G σ) → va_S A s.heap H locs → lv_has ls nL lv → W p G.1 e R s m args below meth c H locs ce sl Q (F0 m pc ls st)
def Fx (Y : Dy) (G : G0) (cc : ByteArray) (own : String) (dd : Nat) : Prop :=
  match Y with
  | (p, _, R, s, m, args, _, meth, c, _, A, nL, ce, sl) => p.tables.exec = Jvm.exec ∧ c.code = cc ∧ c.maxLocals = nL ∧ s.vm.findClass own = some m.cls ∧ (∀ w ∈ TB, w.before args s = true) ∧ (∀ w ∈ NB, va_Nw w s) ∧ va_K G.2.1 vwCl (tyz G.2.2.1) s ∧ (∀ q : Nat, s.heap.size ≤ q → A q) ∧ meth.locks = false ∧ (dd ≤ R.frames ∧ 100 * dd ≤ R.locals ∧ ce ≤ R.cells ∧ sl ≤ R.slots) ∧ SZ G.2.2.2.2.2 A s
/-- of a class by its number: its fields -/
def fT (t : Nat) : u_T := ((vwCl[t]?).map (fun q => q.2.1)).getD TX0
/-- what the tables say of a field's link -/
def FL (own : String) (idx t i : Nat) : Prop := Cond.fieldLink own idx (fT t i).1 (fT t i).2.1 (fT t i).2.2.1 ∈ TB ∨ ∃ host, Cond.fieldLinkNest own idx (fT t i).1 (fT t i).2.1 (fT t i).2.2.1 host ∈ NB
/-- what the tables say of a class: its name, its fields' words, types, names -/
def CK (t : Nat) : Prop := ∃ (C : String) (T : u_T) (N : Nat) (ty : Nat → FieldType), vwCl[t]? = some (C, T, N) ∧ N = nf t ∧ (∀ w ∈ u_ws C T N, w ∈ TB) ∧ (∀ k, k < N → parseFieldDescriptor (T k).2.2.1 = some (ty k)) ∧ (∀ a, a < N → ∀ b, b < N → a ≠ b → (T a).2.1 ≠ (T b).2.1) ∧ T = fT t
def jrem (x y : Int32) : Int32 := x - x / y * y
def jleml (x y : Int64) : Int64 := x - x / y * y
def jushr (x y : Int32) : Int32 := (x.toUInt32 >>> (y.toUInt32 &&& Int32.toUInt32 31)).toInt32
section URows
variable {Y : Dy} {G : G0} {cc : ByteArray} {own : String} {dd : Nat} {σ : Mem} {pc : Nat} {lv lv' : List (Nat × Value)} {st : List Value}
theorem u_mem {σ2 : Mem} (h : σ2 = σ) (k : U Y G σ2 pc lv st) : U Y G σ pc lv st := h ▸ k
theorem u_lv (is : List Nat) (h : lv_pick lv is = lv') (k : U Y G σ pc lv' st) : U Y G σ pc lv st := by
  obtain ⟨p, e, R, s, m, args, below, meth, c, Q, A, nL, ce, sl⟩ := Y
  intro H locs ls hP hD hS hl
  exact k H locs ls hP hD hS (lv_sub hl is h)
theorem u_iconst (F : Fx Y G cc own dd) {n : Int} {v : Int32} (d : decode cc pc = .ok (.iconst n, 1)) (hv : Int32.ofInt n = v) (k : U Y G σ (pc + 1) lv (.int v :: st)) : U Y G σ pc lv (st) := by
  obtain ⟨p, e, R, s, m, args, below, meth, c, Q, A, nL, ce, sl⟩ := Y
  obtain ⟨hx, hb, hml, hown, hts, hnb, hK, hA, hlk, hR, hZ⟩ := F
  intro H locs ls hP hD hS hl
  exact lv_iconst hx hb d hv (k H locs ls hP hD hS hl)
theorem u_bipush (F : Fx Y G cc own dd) {n : Int} {v : Int32} (d : decode cc pc = .ok (.bipush n, 2)) (hv : (Int8.ofInt n).toInt32 = v) (k : U Y G σ (pc + 2) lv (.int v :: st)) : U Y G σ pc lv (st) := by
  obtain ⟨p, e, R, s, m, args, below, meth, c, Q, A, nL, ce, sl⟩ := Y
  obtain ⟨hx, hb, hml, hown, hts, hnb, hK, hA, hlk, hR, hZ⟩ := F
  intro H locs ls hP hD hS hl
  exact lv_bipush hx hb d hv (k H locs ls hP hD hS hl)
theorem u_sipush (F : Fx Y G cc own dd) {n : Int} {v : Int32} (d : decode cc pc = .ok (.sipush n, 3)) (hv : (Int16.ofInt n).toInt32 = v) (k : U Y G σ (pc + 3) lv (.int v :: st)) : U Y G σ pc lv (st) := by
  obtain ⟨p, e, R, s, m, args, below, meth, c, Q, A, nL, ce, sl⟩ := Y
  obtain ⟨hx, hb, hml, hown, hts, hnb, hK, hA, hlk, hR, hZ⟩ := F
  intro H locs ls hP hD hS hl
  exact lv_sipush hx hb d hv (k H locs ls hP hD hS hl)
theorem u_ldc (F : Fx Y G cc own dd) {n : Nat} {v : Int32} (d : decode cc pc = .ok (.ldc n, 2)) (hv : Cond.constant own n v ∈ TB) (k : U Y G σ (pc + 2) lv (.int v :: st)) : U Y G σ pc lv (st) := by
  obtain ⟨p, e, R, s, m, args, below, meth, c, Q, A, nL, ce, sl⟩ := Y
  obtain ⟨hx, hb, hml, hown, hts, hnb, hK, hA, hlk, hR, hZ⟩ := F
  intro H locs ls hP hD hS hl
  exact lv_ldc hx hb hown (hts _ hv) d (k H locs ls hP hD hS hl)
theorem u_ldc2 (F : Fx Y G cc own dd) {n : Nat} {v : Int64} (d : decode cc pc = .ok (.ldc2_w n, 3)) (hv : Cond.constantLong own n v ∈ TB) (k : U Y G σ (pc + 3) lv (.long v :: st)) : U Y G σ pc lv (st) := by
  obtain ⟨p, e, R, s, m, args, below, meth, c, Q, A, nL, ce, sl⟩ := Y
  obtain ⟨hx, hb, hml, hown, hts, hnb, hK, hA, hlk, hR, hZ⟩ := F
  intro H locs ls hP hD hS hl
  exact lv_ldc2 hx hb hown (hts _ hv) d (k H locs ls hP hD hS hl)
theorem u_lconst (F : Fx Y G cc own dd) {n : Fin 2} {v : Int64} (d : decode cc pc = .ok (.lconst n, 1)) (hv : Int64.ofNat (n : Nat) = v) (k : U Y G σ (pc + 1) lv (.long v :: st)) : U Y G σ pc lv (st) := by
  obtain ⟨p, e, R, s, m, args, below, meth, c, Q, A, nL, ce, sl⟩ := Y
  obtain ⟨hx, hb, hml, hown, hts, hnb, hK, hA, hlk, hR, hZ⟩ := F
  intro H locs ls hP hD hS hl
  exact lv_lconst hx hb d hv (k H locs ls hP hD hS hl)
theorem u_iload (F : Fx Y G cc own dd) {i : Nat} {x : Int32} (q : Nat) (hq : lv[q]? = some (i, .int x)) (d : decode cc pc = .ok (.iload i, 2)) (k : U Y G σ (pc + 2) lv (.int x :: st)) : U Y G σ pc lv (st) := by
  obtain ⟨p, e, R, s, m, args, below, meth, c, Q, A, nL, ce, sl⟩ := Y
  obtain ⟨hx, hb, hml, hown, hts, hnb, hK, hA, hlk, hR, hZ⟩ := F
  intro H locs ls hP hD hS hl
  exact lv_iload hx hb d (lv_at hl q hq) (k H locs ls hP hD hS hl)
theorem u_iload_n (F : Fx Y G cc own dd) {j : Fin 4} {i : Nat} {x : Int32} (q : Nat) (hq : lv[q]? = some (i, .int x)) (hj : (j : Nat) = i) (d : decode cc pc = .ok (.iload_n j, 1)) (k : U Y G σ (pc + 1) lv (.int x :: st)) : U Y G σ pc lv (st) := by
  obtain ⟨p, e, R, s, m, args, below, meth, c, Q, A, nL, ce, sl⟩ := Y
  obtain ⟨hx, hb, hml, hown, hts, hnb, hK, hA, hlk, hR, hZ⟩ := F
  intro H locs ls hP hD hS hl
  exact lv_iload_n hx hb d hj (lv_at hl q hq) (k H locs ls hP hD hS hl)
theorem u_aload (F : Fx Y G cc own dd) {i : Nat} {x : Nat} (q : Nat) (hq : lv[q]? = some (i, .ref x)) (d : decode cc pc = .ok (.aload i, 2)) (k : U Y G σ (pc + 2) lv (.ref x :: st)) : U Y G σ pc lv (st) := by
  obtain ⟨p, e, R, s, m, args, below, meth, c, Q, A, nL, ce, sl⟩ := Y
  obtain ⟨hx, hb, hml, hown, hts, hnb, hK, hA, hlk, hR, hZ⟩ := F
  intro H locs ls hP hD hS hl
  exact lv_aload hx hb d (lv_at hl q hq) (k H locs ls hP hD hS hl)
theorem u_aload_n (F : Fx Y G cc own dd) {j : Fin 4} {i : Nat} {x : Nat} (q : Nat) (hq : lv[q]? = some (i, .ref x)) (hj : (j : Nat) = i) (d : decode cc pc = .ok (.aload_n j, 1)) (k : U Y G σ (pc + 1) lv (.ref x :: st)) : U Y G σ pc lv (st) := by
  obtain ⟨p, e, R, s, m, args, below, meth, c, Q, A, nL, ce, sl⟩ := Y
  obtain ⟨hx, hb, hml, hown, hts, hnb, hK, hA, hlk, hR, hZ⟩ := F
  intro H locs ls hP hD hS hl
  exact lv_aload_n hx hb d hj (lv_at hl q hq) (k H locs ls hP hD hS hl)
theorem u_lload (F : Fx Y G cc own dd) {i : Nat} {x : Int64} (q : Nat) (hq : lv[q]? = some (i, .long x)) (d : decode cc pc = .ok (.lload i, 2)) (k : U Y G σ (pc + 2) lv (.long x :: st)) : U Y G σ pc lv (st) := by
  obtain ⟨p, e, R, s, m, args, below, meth, c, Q, A, nL, ce, sl⟩ := Y
  obtain ⟨hx, hb, hml, hown, hts, hnb, hK, hA, hlk, hR, hZ⟩ := F
  intro H locs ls hP hD hS hl
  exact lv_lload hx hb d (lv_at hl q hq) (k H locs ls hP hD hS hl)
theorem u_lload_n (F : Fx Y G cc own dd) {j : Fin 4} {i : Nat} {x : Int64} (q : Nat) (hq : lv[q]? = some (i, .long x)) (hj : (j : Nat) = i) (d : decode cc pc = .ok (.lload_n j, 1)) (k : U Y G σ (pc + 1) lv (.long x :: st)) : U Y G σ pc lv (st) := by
  obtain ⟨p, e, R, s, m, args, below, meth, c, Q, A, nL, ce, sl⟩ := Y
  obtain ⟨hx, hb, hml, hown, hts, hnb, hK, hA, hlk, hR, hZ⟩ := F
  intro H locs ls hP hD hS hl
  exact lv_lload_n hx hb d hj (lv_at hl q hq) (k H locs ls hP hD hS hl)
theorem u_istore {nL : Nat} (F : Fx Y G cc own dd) {i : Nat} {x : Int32} (hY : Y.2.2.2.2.2.2.2.2.2.2.2.1 = nL) (hn : i < nL) (hlv : (i, Value.int x) :: lv.filter (fun q => !(q.1 == i) && !(q.1 + 1 == i && q.2.category == 2)) = lv') (d : decode cc pc = .ok (.istore i, 2)) (k : U Y G σ (pc + 2) lv' st) : U Y G σ pc lv (.int x :: st) := by
  subst hY
  obtain ⟨p, e, R, s, m, args, below, meth, c, Q, A, nL, ce, sl⟩ := Y
  obtain ⟨hx, hb, hml, hown, hts, hnb, hK, hA, hlk, hR, hZ⟩ := F
  intro H locs ls hP hD hS hl
  exact lv_istore hx hb d hl hn hlv (fun ls hl => k H locs ls hP hD hS hl)
theorem u_istore_n {nL : Nat} (F : Fx Y G cc own dd) {j : Fin 4} {i : Nat} {x : Int32} (hj : (j : Nat) = i) (hY : Y.2.2.2.2.2.2.2.2.2.2.2.1 = nL) (hn : i < nL) (hlv : (i, Value.int x) :: lv.filter (fun q => !(q.1 == i) && !(q.1 + 1 == i && q.2.category == 2)) = lv') (d : decode cc pc = .ok (.istore_n j, 1)) (k : U Y G σ (pc + 1) lv' st) : U Y G σ pc lv (.int x :: st) := by
  subst hY
  obtain ⟨p, e, R, s, m, args, below, meth, c, Q, A, nL, ce, sl⟩ := Y
  obtain ⟨hx, hb, hml, hown, hts, hnb, hK, hA, hlk, hR, hZ⟩ := F
  intro H locs ls hP hD hS hl
  exact lv_istore_n hx hb d hj hl hn hlv (fun ls hl => k H locs ls hP hD hS hl)
theorem u_astore {nL : Nat} (F : Fx Y G cc own dd) {i : Nat} {x : Nat} (hY : Y.2.2.2.2.2.2.2.2.2.2.2.1 = nL) (hn : i < nL) (hlv : (i, Value.ref x) :: lv.filter (fun q => !(q.1 == i) && !(q.1 + 1 == i && q.2.category == 2)) = lv') (d : decode cc pc = .ok (.astore i, 2)) (k : U Y G σ (pc + 2) lv' st) : U Y G σ pc lv (.ref x :: st) := by
  subst hY
  obtain ⟨p, e, R, s, m, args, below, meth, c, Q, A, nL, ce, sl⟩ := Y
  obtain ⟨hx, hb, hml, hown, hts, hnb, hK, hA, hlk, hR, hZ⟩ := F
  intro H locs ls hP hD hS hl
  exact lv_astore hx hb d hl hn hlv (fun ls hl => k H locs ls hP hD hS hl)
theorem u_astore_n {nL : Nat} (F : Fx Y G cc own dd) {j : Fin 4} {i : Nat} {x : Nat} (hj : (j : Nat) = i) (hY : Y.2.2.2.2.2.2.2.2.2.2.2.1 = nL) (hn : i < nL) (hlv : (i, Value.ref x) :: lv.filter (fun q => !(q.1 == i) && !(q.1 + 1 == i && q.2.category == 2)) = lv') (d : decode cc pc = .ok (.astore_n j, 1)) (k : U Y G σ (pc + 1) lv' st) : U Y G σ pc lv (.ref x :: st) := by
  subst hY
  obtain ⟨p, e, R, s, m, args, below, meth, c, Q, A, nL, ce, sl⟩ := Y
  obtain ⟨hx, hb, hml, hown, hts, hnb, hK, hA, hlk, hR, hZ⟩ := F
  intro H locs ls hP hD hS hl
  exact lv_astore_n hx hb d hj hl hn hlv (fun ls hl => k H locs ls hP hD hS hl)
theorem u_lstore_n {nL : Nat} (F : Fx Y G cc own dd) {j : Fin 4} {i : Nat} {x : Int64} (hj : (j : Nat) = i) (hY : Y.2.2.2.2.2.2.2.2.2.2.2.1 = nL) (hn : i + 1 < nL) (hlv : (i, Value.long x) :: lv.filter (fun q => !(q.1 == i) && (!(q.1 == i + 1) && !(q.1 + 1 == i && q.2.category == 2))) = lv') (d : decode cc pc = .ok (.lstore_n j, 1)) (k : U Y G σ (pc + 1) lv' st) : U Y G σ pc lv (.long x :: st) := by
  subst hY
  obtain ⟨p, e, R, s, m, args, below, meth, c, Q, A, nL, ce, sl⟩ := Y
  obtain ⟨hx, hb, hml, hown, hts, hnb, hK, hA, hlk, hR, hZ⟩ := F
  intro H locs ls hP hD hS hl
  exact lv_lstore_n hx hb d hj hl hn hlv (fun ls hl => k H locs ls hP hD hS hl)
theorem u_iinc {nL : Nat} (F : Fx Y G cc own dd) {i : Nat} {n : Int} {x v : Int32} (q : Nat) (hq : lv[q]? = some (i, .int x)) (hv : x + Int32.ofInt n = v) (hY : Y.2.2.2.2.2.2.2.2.2.2.2.1 = nL) (hn : i < nL) (hlv : (i, Value.int v) :: lv.filter (fun q => !(q.1 == i) && !(q.1 + 1 == i && q.2.category == 2)) = lv') (d : decode cc pc = .ok (.iinc i n, 3)) (k : U Y G σ (pc + 3) lv' st) : U Y G σ pc lv st := by
  subst hY
  obtain ⟨p, e, R, s, m, args, below, meth, c, Q, A, nL, ce, sl⟩ := Y
  obtain ⟨hx, hb, hml, hown, hts, hnb, hK, hA, hlk, hR, hZ⟩ := F
  intro H locs ls hP hD hS hl
  exact lv_iinc hx hb d hl hq hv hn hlv (fun ls hl => k H locs ls hP hD hS hl)
theorem u_iadd (F : Fx Y G cc own dd) {x y : Int32} (d : decode cc pc = .ok (.iadd, 1)) (k : U Y G σ (pc + 1) lv (.int (x + y) :: st)) : U Y G σ pc lv (.int y :: .int x :: st) := by
  obtain ⟨p, e, R, s, m, args, below, meth, c, Q, A, nL, ce, sl⟩ := Y
  obtain ⟨hx, hb, hml, hown, hts, hnb, hK, hA, hlk, hR, hZ⟩ := F
  intro H locs ls hP hD hS hl
  exact lv_iadd hx hb d (k H locs ls hP hD hS hl)
theorem u_isub (F : Fx Y G cc own dd) {x y : Int32} (d : decode cc pc = .ok (.isub, 1)) (k : U Y G σ (pc + 1) lv (.int (x - y) :: st)) : U Y G σ pc lv (.int y :: .int x :: st) := by
  obtain ⟨p, e, R, s, m, args, below, meth, c, Q, A, nL, ce, sl⟩ := Y
  obtain ⟨hx, hb, hml, hown, hts, hnb, hK, hA, hlk, hR, hZ⟩ := F
  intro H locs ls hP hD hS hl
  exact lv_isub hx hb d (k H locs ls hP hD hS hl)
theorem u_imul (F : Fx Y G cc own dd) {x y : Int32} (d : decode cc pc = .ok (.imul, 1)) (k : U Y G σ (pc + 1) lv (.int (x * y) :: st)) : U Y G σ pc lv (.int y :: .int x :: st) := by
  obtain ⟨p, e, R, s, m, args, below, meth, c, Q, A, nL, ce, sl⟩ := Y
  obtain ⟨hx, hb, hml, hown, hts, hnb, hK, hA, hlk, hR, hZ⟩ := F
  intro H locs ls hP hD hS hl
  exact lv_imul hx hb d (k H locs ls hP hD hS hl)
theorem u_iand (F : Fx Y G cc own dd) {x y : Int32} (d : decode cc pc = .ok (.iand, 1)) (k : U Y G σ (pc + 1) lv (.int (x &&& y) :: st)) : U Y G σ pc lv (.int y :: .int x :: st) := by
  obtain ⟨p, e, R, s, m, args, below, meth, c, Q, A, nL, ce, sl⟩ := Y
  obtain ⟨hx, hb, hml, hown, hts, hnb, hK, hA, hlk, hR, hZ⟩ := F
  intro H locs ls hP hD hS hl
  exact lv_iand hx hb d (k H locs ls hP hD hS hl)
theorem u_ior (F : Fx Y G cc own dd) {x y : Int32} (d : decode cc pc = .ok (.ior, 1)) (k : U Y G σ (pc + 1) lv (.int (x ||| y) :: st)) : U Y G σ pc lv (.int y :: .int x :: st) := by
  obtain ⟨p, e, R, s, m, args, below, meth, c, Q, A, nL, ce, sl⟩ := Y
  obtain ⟨hx, hb, hml, hown, hts, hnb, hK, hA, hlk, hR, hZ⟩ := F
  intro H locs ls hP hD hS hl
  exact lv_ior hx hb d (k H locs ls hP hD hS hl)
theorem u_ixor (F : Fx Y G cc own dd) {x y : Int32} (d : decode cc pc = .ok (.ixor, 1)) (k : U Y G σ (pc + 1) lv (.int (x ^^^ y) :: st)) : U Y G σ pc lv (.int y :: .int x :: st) := by
  obtain ⟨p, e, R, s, m, args, below, meth, c, Q, A, nL, ce, sl⟩ := Y
  obtain ⟨hx, hb, hml, hown, hts, hnb, hK, hA, hlk, hR, hZ⟩ := F
  intro H locs ls hP hD hS hl
  exact lv_ixor hx hb d (k H locs ls hP hD hS hl)
theorem u_ishl (F : Fx Y G cc own dd) {x y : Int32} (d : decode cc pc = .ok (.ishl, 1)) (k : U Y G σ (pc + 1) lv (.int (x <<< (y &&& 31)) :: st)) : U Y G σ pc lv (.int y :: .int x :: st) := by
  obtain ⟨p, e, R, s, m, args, below, meth, c, Q, A, nL, ce, sl⟩ := Y
  obtain ⟨hx, hb, hml, hown, hts, hnb, hK, hA, hlk, hR, hZ⟩ := F
  intro H locs ls hP hD hS hl
  exact lv_ishl hx hb d (k H locs ls hP hD hS hl)
theorem u_ishr (F : Fx Y G cc own dd) {x y : Int32} (d : decode cc pc = .ok (.ishr, 1)) (k : U Y G σ (pc + 1) lv (.int (x >>> (y &&& 31)) :: st)) : U Y G σ pc lv (.int y :: .int x :: st) := by
  obtain ⟨p, e, R, s, m, args, below, meth, c, Q, A, nL, ce, sl⟩ := Y
  obtain ⟨hx, hb, hml, hown, hts, hnb, hK, hA, hlk, hR, hZ⟩ := F
  intro H locs ls hP hD hS hl
  exact lv_ishr hx hb d (k H locs ls hP hD hS hl)
theorem u_idiv (F : Fx Y G cc own dd) {x y : Int32} (hne : ¬ y = 0) (d : decode cc pc = .ok (.idiv, 1)) (k : U Y G σ (pc + 1) lv (.int (x / y) :: st)) : U Y G σ pc lv (.int y :: .int x :: st) := by
  obtain ⟨p, e, R, s, m, args, below, meth, c, Q, A, nL, ce, sl⟩ := Y
  obtain ⟨hx, hb, hml, hown, hts, hnb, hK, hA, hlk, hR, hZ⟩ := F
  intro H locs ls hP hD hS hl
  exact lv_idiv hx hb d hne (k H locs ls hP hD hS hl)
theorem u_irem (F : Fx Y G cc own dd) {x y : Int32} (hne : ¬ y = 0) (d : decode cc pc = .ok (.irem, 1)) (k : U Y G σ (pc + 1) lv (.int (jrem x y) :: st)) : U Y G σ pc lv (.int y :: .int x :: st) := by
  obtain ⟨p, e, R, s, m, args, below, meth, c, Q, A, nL, ce, sl⟩ := Y
  obtain ⟨hx, hb, hml, hown, hts, hnb, hK, hA, hlk, hR, hZ⟩ := F
  intro H locs ls hP hD hS hl
  exact lv_irem hx hb d hne (k H locs ls hP hD hS hl)
theorem u_iushr (F : Fx Y G cc own dd) {x y : Int32} (d : decode cc pc = .ok (.iushr, 1)) (k : U Y G σ (pc + 1) lv (.int (jushr x y) :: st)) : U Y G σ pc lv (.int y :: .int x :: st) := by
  obtain ⟨p, e, R, s, m, args, below, meth, c, Q, A, nL, ce, sl⟩ := Y
  obtain ⟨hx, hb, hml, hown, hts, hnb, hK, hA, hlk, hR, hZ⟩ := F
  intro H locs ls hP hD hS hl
  exact lv_iushr hx hb d rfl (k H locs ls hP hD hS hl)
theorem u_i2l (F : Fx Y G cc own dd) {x : Int32} (d : decode cc pc = .ok (.i2l, 1)) (k : U Y G σ (pc + 1) lv (.long x.toInt64 :: st)) : U Y G σ pc lv (.int x :: st) := by
  obtain ⟨p, e, R, s, m, args, below, meth, c, Q, A, nL, ce, sl⟩ := Y
  obtain ⟨hx, hb, hml, hown, hts, hnb, hK, hA, hlk, hR, hZ⟩ := F
  intro H locs ls hP hD hS hl
  exact lv_i2l hx hb d rfl (k H locs ls hP hD hS hl)
theorem u_l2i (F : Fx Y G cc own dd) {x : Int64} (d : decode cc pc = .ok (.l2i, 1)) (k : U Y G σ (pc + 1) lv (.int x.toInt32 :: st)) : U Y G σ pc lv (.long x :: st) := by
  obtain ⟨p, e, R, s, m, args, below, meth, c, Q, A, nL, ce, sl⟩ := Y
  obtain ⟨hx, hb, hml, hown, hts, hnb, hK, hA, hlk, hR, hZ⟩ := F
  intro H locs ls hP hD hS hl
  exact lv_l2i hx hb d rfl (k H locs ls hP hD hS hl)
theorem u_ladd (F : Fx Y G cc own dd) {x y : Int64} (d : decode cc pc = .ok (.ladd, 1)) (k : U Y G σ (pc + 1) lv (.long (x + y) :: st)) : U Y G σ pc lv (.long y :: .long x :: st) := by
  obtain ⟨p, e, R, s, m, args, below, meth, c, Q, A, nL, ce, sl⟩ := Y
  obtain ⟨hx, hb, hml, hown, hts, hnb, hK, hA, hlk, hR, hZ⟩ := F
  intro H locs ls hP hD hS hl
  exact lv_ladd hx hb d (k H locs ls hP hD hS hl)
theorem u_lmul (F : Fx Y G cc own dd) {x y : Int64} (d : decode cc pc = .ok (.lmul, 1)) (k : U Y G σ (pc + 1) lv (.long (x * y) :: st)) : U Y G σ pc lv (.long y :: .long x :: st) := by
  obtain ⟨p, e, R, s, m, args, below, meth, c, Q, A, nL, ce, sl⟩ := Y
  obtain ⟨hx, hb, hml, hown, hts, hnb, hK, hA, hlk, hR, hZ⟩ := F
  intro H locs ls hP hD hS hl
  exact lv_lmul hx hb d (k H locs ls hP hD hS hl)
theorem u_land (F : Fx Y G cc own dd) {x y : Int64} (d : decode cc pc = .ok (.land, 1)) (k : U Y G σ (pc + 1) lv (.long (x &&& y) :: st)) : U Y G σ pc lv (.long y :: .long x :: st) := by
  obtain ⟨p, e, R, s, m, args, below, meth, c, Q, A, nL, ce, sl⟩ := Y
  obtain ⟨hx, hb, hml, hown, hts, hnb, hK, hA, hlk, hR, hZ⟩ := F
  intro H locs ls hP hD hS hl
  exact lv_land hx hb d (k H locs ls hP hD hS hl)
theorem u_ldiv (F : Fx Y G cc own dd) {x y : Int64} (hne : ¬ y = 0) (d : decode cc pc = .ok (.ldiv, 1)) (k : U Y G σ (pc + 1) lv (.long (x / y) :: st)) : U Y G σ pc lv (.long y :: .long x :: st) := by
  obtain ⟨p, e, R, s, m, args, below, meth, c, Q, A, nL, ce, sl⟩ := Y
  obtain ⟨hx, hb, hml, hown, hts, hnb, hK, hA, hlk, hR, hZ⟩ := F
  intro H locs ls hP hD hS hl
  exact lv_ldiv hx hb d hne (k H locs ls hP hD hS hl)
theorem u_lrem (F : Fx Y G cc own dd) {x y : Int64} (hne : ¬ y = 0) (d : decode cc pc = .ok (.lrem, 1)) (k : U Y G σ (pc + 1) lv (.long (jleml x y) :: st)) : U Y G σ pc lv (.long y :: .long x :: st) := by
  obtain ⟨p, e, R, s, m, args, below, meth, c, Q, A, nL, ce, sl⟩ := Y
  obtain ⟨hx, hb, hml, hown, hts, hnb, hK, hA, hlk, hR, hZ⟩ := F
  intro H locs ls hP hD hS hl
  exact lv_lrem hx hb d hne (k H locs ls hP hD hS hl)
theorem u_lcmp (F : Fx Y G cc own dd) {x y : Int64} (d : decode cc pc = .ok (.lcmp, 1)) (k : U Y G σ (pc + 1) lv (.int (lg_cmp x y) :: st)) : U Y G σ pc lv (.long y :: .long x :: st) := by
  obtain ⟨p, e, R, s, m, args, below, meth, c, Q, A, nL, ce, sl⟩ := Y
  obtain ⟨hx, hb, hml, hown, hts, hnb, hK, hA, hlk, hR, hZ⟩ := F
  intro H locs ls hP hD hS hl
  exact W.lcmp hx hb d (k H locs ls hP hD hS hl)
theorem u_dup (F : Fx Y G cc own dd) {va : Value} (hva : va.category = 1) (d : decode cc pc = .ok (.dup, 1)) (k : U Y G σ (pc + 1) lv (va :: va :: st)) : U Y G σ pc lv (va :: st) := by
  obtain ⟨p, e, R, s, m, args, below, meth, c, Q, A, nL, ce, sl⟩ := Y
  obtain ⟨hx, hb, hml, hown, hts, hnb, hK, hA, hlk, hR, hZ⟩ := F
  intro H locs ls hP hD hS hl
  exact lv_dup hx hb d hva (k H locs ls hP hD hS hl)
theorem u_dup2 (F : Fx Y G cc own dd) {va vb : Value} (hva : va.category = 1) (hvb : vb.category = 1) (d : decode cc pc = .ok (.dup2, 1)) (k : U Y G σ (pc + 1) lv (va :: vb :: va :: vb :: st)) : U Y G σ pc lv (va :: vb :: st) := by
  obtain ⟨p, e, R, s, m, args, below, meth, c, Q, A, nL, ce, sl⟩ := Y
  obtain ⟨hx, hb, hml, hown, hts, hnb, hK, hA, hlk, hR, hZ⟩ := F
  intro H locs ls hP hD hS hl
  exact lv_dup2_11 hx hb d hva hvb (k H locs ls hP hD hS hl)
theorem u_pop (F : Fx Y G cc own dd) {va : Value} (hva : va.category = 1) (d : decode cc pc = .ok (.pop, 1)) (k : U Y G σ (pc + 1) lv (st)) : U Y G σ pc lv (va :: st) := by
  obtain ⟨p, e, R, s, m, args, below, meth, c, Q, A, nL, ce, sl⟩ := Y
  obtain ⟨hx, hb, hml, hown, hts, hnb, hK, hA, hlk, hR, hZ⟩ := F
  intro H locs ls hP hD hS hl
  exact lv_pop hx hb d hva (k H locs ls hP hD hS hl)
theorem u_goto (F : Fx Y G cc own dd) {off : Int} (tgt : Nat) (d : decode cc pc = .ok (.goto off, 3)) (ht : (pc : Int) + off = (tgt : Int)) (k : U Y G σ tgt lv st) : U Y G σ pc lv st := by
  obtain ⟨p, e, R, s, m, args, below, meth, c, Q, A, nL, ce, sl⟩ := Y
  obtain ⟨hx, hb, hml, hown, hts, hnb, hK, hA, hlk, hR, hZ⟩ := F
  intro H locs ls hP hD hS hl
  exact lv_goto hx hb d ht (k H locs ls hP hD hS hl)
theorem u_icmp_eq (F : Fx Y G cc own dd) {x y : Int32} {off : Int} (tgt : Nat) (d : decode cc pc = .ok (.if_icmp .eq off, 3)) (ht : (pc : Int) + off = (tgt : Int)) (kt : x = y → U Y G σ tgt lv st) (kf : ¬ (x = y) → U Y G σ (pc + 3) lv st) : U Y G σ pc lv (.int y :: .int x :: st) := by
  obtain ⟨p, e, R, s, m, args, below, meth, c, Q, A, nL, ce, sl⟩ := Y
  obtain ⟨hx, hb, hml, hown, hts, hnb, hK, hA, hlk, hR, hZ⟩ := F
  intro H locs ls hP hD hS hl
  exact lv_icmp_eq hx hb d ht (fun h => kt (h) H locs ls hP hD hS hl) (fun h => kf (h) H locs ls hP hD hS hl)
theorem u_icmp_ne (F : Fx Y G cc own dd) {x y : Int32} {off : Int} (tgt : Nat) (d : decode cc pc = .ok (.if_icmp .ne off, 3)) (ht : (pc : Int) + off = (tgt : Int)) (kt : ¬ (x = y) → U Y G σ tgt lv st) (kf : x = y → U Y G σ (pc + 3) lv st) : U Y G σ pc lv (.int y :: .int x :: st) := by
  obtain ⟨p, e, R, s, m, args, below, meth, c, Q, A, nL, ce, sl⟩ := Y
  obtain ⟨hx, hb, hml, hown, hts, hnb, hK, hA, hlk, hR, hZ⟩ := F
  intro H locs ls hP hD hS hl
  exact lv_icmp_ne hx hb d ht (fun h => kt (h) H locs ls hP hD hS hl) (fun h => kf (h) H locs ls hP hD hS hl)
theorem u_icmp_lt (F : Fx Y G cc own dd) {x y : Int32} {off : Int} (tgt : Nat) (d : decode cc pc = .ok (.if_icmp .lt off, 3)) (ht : (pc : Int) + off = (tgt : Int)) (kt : x < y → U Y G σ tgt lv st) (kf : ¬ (x < y) → U Y G σ (pc + 3) lv st) : U Y G σ pc lv (.int y :: .int x :: st) := by
  obtain ⟨p, e, R, s, m, args, below, meth, c, Q, A, nL, ce, sl⟩ := Y
  obtain ⟨hx, hb, hml, hown, hts, hnb, hK, hA, hlk, hR, hZ⟩ := F
  intro H locs ls hP hD hS hl
  exact lv_icmp_lt hx hb d ht (fun h => kt (h) H locs ls hP hD hS hl) (fun h => kf (h) H locs ls hP hD hS hl)
theorem u_icmp_ge (F : Fx Y G cc own dd) {x y : Int32} {off : Int} (tgt : Nat) (d : decode cc pc = .ok (.if_icmp .ge off, 3)) (ht : (pc : Int) + off = (tgt : Int)) (kt : ¬ (x < y) → U Y G σ tgt lv st) (kf : x < y → U Y G σ (pc + 3) lv st) : U Y G σ pc lv (.int y :: .int x :: st) := by
  obtain ⟨p, e, R, s, m, args, below, meth, c, Q, A, nL, ce, sl⟩ := Y
  obtain ⟨hx, hb, hml, hown, hts, hnb, hK, hA, hlk, hR, hZ⟩ := F
  intro H locs ls hP hD hS hl
  exact lv_icmp_ge hx hb d ht (fun h => kt (Int32.not_lt.mpr h) H locs ls hP hD hS hl) (fun h => kf (Int32.not_le.mp h) H locs ls hP hD hS hl)
theorem u_icmp_le (F : Fx Y G cc own dd) {x y : Int32} {off : Int} (tgt : Nat) (d : decode cc pc = .ok (.if_icmp .le off, 3)) (ht : (pc : Int) + off = (tgt : Int)) (kt : x ≤ y → U Y G σ tgt lv st) (kf : ¬ (x ≤ y) → U Y G σ (pc + 3) lv st) : U Y G σ pc lv (.int y :: .int x :: st) := by
  obtain ⟨p, e, R, s, m, args, below, meth, c, Q, A, nL, ce, sl⟩ := Y
  obtain ⟨hx, hb, hml, hown, hts, hnb, hK, hA, hlk, hR, hZ⟩ := F
  intro H locs ls hP hD hS hl
  exact lv_icmp_le hx hb d ht (fun h => kt (h) H locs ls hP hD hS hl) (fun h => kf (h) H locs ls hP hD hS hl)
theorem u_icmp_gt (F : Fx Y G cc own dd) {x y : Int32} {off : Int} (tgt : Nat) (d : decode cc pc = .ok (.if_icmp .gt off, 3)) (ht : (pc : Int) + off = (tgt : Int)) (kt : ¬ (x ≤ y) → U Y G σ tgt lv st) (kf : x ≤ y → U Y G σ (pc + 3) lv st) : U Y G σ pc lv (.int y :: .int x :: st) := by
  obtain ⟨p, e, R, s, m, args, below, meth, c, Q, A, nL, ce, sl⟩ := Y
  obtain ⟨hx, hb, hml, hown, hts, hnb, hK, hA, hlk, hR, hZ⟩ := F
  intro H locs ls hP hD hS hl
  exact lv_icmp_gt hx hb d ht (fun h => kt (Int32.not_le.mpr h) H locs ls hP hD hS hl) (fun h => kf (Int32.not_lt.mp h) H locs ls hP hD hS hl)
theorem u_if_eq (F : Fx Y G cc own dd) {x : Int32} {off : Int} (tgt : Nat) (d : decode cc pc = .ok (.ifCond .eq off, 3)) (ht : (pc : Int) + off = (tgt : Int)) (kt : x = 0 → U Y G σ tgt lv st) (kf : ¬ (x = 0) → U Y G σ (pc + 3) lv st) : U Y G σ pc lv (.int x :: st) := by
  obtain ⟨p, e, R, s, m, args, below, meth, c, Q, A, nL, ce, sl⟩ := Y
  obtain ⟨hx, hb, hml, hown, hts, hnb, hK, hA, hlk, hR, hZ⟩ := F
  intro H locs ls hP hD hS hl
  exact lv_if_eq hx hb d ht (fun h => kt (h) H locs ls hP hD hS hl) (fun h => kf (h) H locs ls hP hD hS hl)
theorem u_if_ne (F : Fx Y G cc own dd) {x : Int32} {off : Int} (tgt : Nat) (d : decode cc pc = .ok (.ifCond .ne off, 3)) (ht : (pc : Int) + off = (tgt : Int)) (kt : ¬ (x = 0) → U Y G σ tgt lv st) (kf : x = 0 → U Y G σ (pc + 3) lv st) : U Y G σ pc lv (.int x :: st) := by
  obtain ⟨p, e, R, s, m, args, below, meth, c, Q, A, nL, ce, sl⟩ := Y
  obtain ⟨hx, hb, hml, hown, hts, hnb, hK, hA, hlk, hR, hZ⟩ := F
  intro H locs ls hP hD hS hl
  exact lv_if_ne hx hb d ht (fun h => kt (h) H locs ls hP hD hS hl) (fun h => kf (h) H locs ls hP hD hS hl)
theorem u_if_lt (F : Fx Y G cc own dd) {x : Int32} {off : Int} (tgt : Nat) (d : decode cc pc = .ok (.ifCond .lt off, 3)) (ht : (pc : Int) + off = (tgt : Int)) (kt : x < 0 → U Y G σ tgt lv st) (kf : ¬ (x < 0) → U Y G σ (pc + 3) lv st) : U Y G σ pc lv (.int x :: st) := by
  obtain ⟨p, e, R, s, m, args, below, meth, c, Q, A, nL, ce, sl⟩ := Y
  obtain ⟨hx, hb, hml, hown, hts, hnb, hK, hA, hlk, hR, hZ⟩ := F
  intro H locs ls hP hD hS hl
  exact lv_if_lt hx hb d ht (fun h => kt (h) H locs ls hP hD hS hl) (fun h => kf (h) H locs ls hP hD hS hl)
theorem u_if_ge (F : Fx Y G cc own dd) {x : Int32} {off : Int} (tgt : Nat) (d : decode cc pc = .ok (.ifCond .ge off, 3)) (ht : (pc : Int) + off = (tgt : Int)) (kt : ¬ (x < 0) → U Y G σ tgt lv st) (kf : x < 0 → U Y G σ (pc + 3) lv st) : U Y G σ pc lv (.int x :: st) := by
  obtain ⟨p, e, R, s, m, args, below, meth, c, Q, A, nL, ce, sl⟩ := Y
  obtain ⟨hx, hb, hml, hown, hts, hnb, hK, hA, hlk, hR, hZ⟩ := F
  intro H locs ls hP hD hS hl
  exact lv_if_ge hx hb d ht (fun h => kt (Int32.not_lt.mpr h) H locs ls hP hD hS hl) (fun h => kf (Int32.not_le.mp h) H locs ls hP hD hS hl)
theorem u_if_le (F : Fx Y G cc own dd) {x : Int32} {off : Int} (tgt : Nat) (d : decode cc pc = .ok (.ifCond .le off, 3)) (ht : (pc : Int) + off = (tgt : Int)) (kt : x ≤ 0 → U Y G σ tgt lv st) (kf : ¬ (x ≤ 0) → U Y G σ (pc + 3) lv st) : U Y G σ pc lv (.int x :: st) := by
  obtain ⟨p, e, R, s, m, args, below, meth, c, Q, A, nL, ce, sl⟩ := Y
  obtain ⟨hx, hb, hml, hown, hts, hnb, hK, hA, hlk, hR, hZ⟩ := F
  intro H locs ls hP hD hS hl
  exact lv_if_le hx hb d ht (fun h => kt (h) H locs ls hP hD hS hl) (fun h => kf (h) H locs ls hP hD hS hl)
theorem u_if_gt (F : Fx Y G cc own dd) {x : Int32} {off : Int} (tgt : Nat) (d : decode cc pc = .ok (.ifCond .gt off, 3)) (ht : (pc : Int) + off = (tgt : Int)) (kt : ¬ (x ≤ 0) → U Y G σ tgt lv st) (kf : x ≤ 0 → U Y G σ (pc + 3) lv st) : U Y G σ pc lv (.int x :: st) := by
  obtain ⟨p, e, R, s, m, args, below, meth, c, Q, A, nL, ce, sl⟩ := Y
  obtain ⟨hx, hb, hml, hown, hts, hnb, hK, hA, hlk, hR, hZ⟩ := F
  intro H locs ls hP hD hS hl
  exact lv_if_gt hx hb d ht (fun h => kt (Int32.not_le.mpr h) H locs ls hP hD hS hl) (fun h => kf (Int32.not_lt.mp h) H locs ls hP hD hS hl)
theorem u_table (F : Fx Y G cc own dd) {dflt lo hi : Int} {offs : Array Int} {len : Nat} {x : Int32} {off : Int} (tgt : Nat) (h1 : ¬ x.toInt < lo) (h2 : ¬ hi < x.toInt) (ho : offs[(x.toInt - lo).toNat]? = some off) (ht : (pc : Int) + off = (tgt : Int)) (d : decode cc pc = .ok (.tableswitch dflt lo hi offs, len)) (k : U Y G σ tgt lv st) : U Y G σ pc lv (.int x :: st) := by
  obtain ⟨p, e, R, s, m, args, below, meth, c, Q, A, nL, ce, sl⟩ := Y
  obtain ⟨hx, hb, hml, hown, hts, hnb, hK, hA, hlk, hR, hZ⟩ := F
  intro H locs ls hP hD hS hl
  exact lv_tableIn hx hb d h1 h2 ho ht (k H locs ls hP hD hS hl)
theorem u_tableOut (F : Fx Y G cc own dd) {dflt lo hi : Int} {offs : Array Int} {len : Nat} {x : Int32} (tgt : Nat) (h : x.toInt < lo ∨ hi < x.toInt) (ht : (pc : Int) + dflt = (tgt : Int)) (d : decode cc pc = .ok (.tableswitch dflt lo hi offs, len)) (k : U Y G σ tgt lv st) : U Y G σ pc lv (.int x :: st) := by
  obtain ⟨p, e, R, s, m, args, below, meth, c, Q, A, nL, ce, sl⟩ := Y
  obtain ⟨hx, hb, hml, hown, hts, hnb, hK, hA, hlk, hR, hZ⟩ := F
  intro H locs ls hP hD hS hl
  exact lv_tableOut hx hb d h ht (k H locs ls hP hD hS hl)
theorem u_getV (F : Fx Y G cc own dd) {idx t i : Nat} {k : Nat} (hq : (t, k, 0) ∈ cel G) (hC : CK t) (hf : FL own idx t i) (hi : i < nf t) (d : decode cc pc = .ok (.getfield idx, 3)) (kk : U Y G σ (pc + 3) lv (fv G.2.2.2.2.1 σ t k i :: st)) : U Y G σ pc lv (.ref (adr G (t, k, 0)) :: st) := by
  obtain ⟨p, e, R, s, m, args, below, meth, c, Q, A, nL, ce, sl⟩ := Y
  obtain ⟨hx, hb, hml, hown, hts, hnb, hK, hA, hlk, hR, hZ⟩ := F
  intro H locs ls hP hD hS hl
  obtain ⟨q0, he, hL⟩ := wl_get (ad := G.2.2.2.2.1) (E := Ev G.2.2.2.2.1 G.2.2.1 σ) hq
  obtain ⟨C, T, N, ty, h1, h2, h3, h4, h5, h6⟩ := hC
  subst h2
  have hv : ((List.range (nf t)).map (fv G.2.2.2.2.1 σ t k))[i]? = some (fv G.2.2.2.2.1 σ t k i) := by simp [hi]
  have k2 := kk H locs ls hP hD hS hl
  unfold FL at hf
  rw [← h6] at hf
  rcases hf with hf | ⟨host, hf⟩
  · exact va_get hx hb hts h3 hown hK hP q0 he h1 i hi (hts _ hf) (fun _ h9 => h9) hv d k2
  · exact va_getN hx hb hts h3 hown hK hP q0 he h1 i hi (va_Nw.use rfl (hnb _ hf)) (fun _ h9 => h9) hv d k2
theorem u_get (F : Fx Y G cc own dd) {idx t i : Nat} {k n : Nat} {v : Int32} (hq : (t, k, 0) ∈ cel G) (hC : CK t) (hf : FL own idx t i) (hk : fk t i = (0, n)) (hi : i < nf t) (hv : σ t k 0 i = v) (d : decode cc pc = .ok (.getfield idx, 3)) (kk : U Y G σ (pc + 3) lv (.int v :: st)) : U Y G σ pc lv (.ref (adr G (t, k, 0)) :: st) :=
  u_getV F hq hC hf hi d (by rw [show fv G.2.2.2.2.1 σ t k i = .int v by simp [fv, hk, hv]]; exact kk)
theorem u_getO (F : Fx Y G cc own dd) {idx t i : Nat} {k n : Nat} {q : Key} (hq : (t, k, 0) ∈ cel G) (hC : CK t) (hf : FL own idx t i) (hk : fk t i = (4, n)) (hi : i < nf t) (hv : fo t i = q) (d : decode cc pc = .ok (.getfield idx, 3)) (kk : U Y G σ (pc + 3) lv (.ref (adr G q) :: st)) : U Y G σ pc lv (.ref (adr G (t, k, 0)) :: st) :=
  u_getV F hq hC hf hi d (by rw [show fv G.2.2.2.2.1 σ t k i = .ref (adr G q) by simp [fv, hk, hv, adr]]; exact kk)
theorem u_getA (F : Fx Y G cc own dd) {idx t i : Nat} {k a n : Nat} (hq : (t, k, 0) ∈ cel G) (hC : CK t) (hf : FL own idx t i) (hk : fk t i = (a + 1, n)) (ha : a < 3) (hi : i < nf t) (d : decode cc pc = .ok (.getfield idx, 3)) (kk : U Y G σ (pc + 3) lv (.ref (adr G (t, k, i + 1)) :: st)) : U Y G σ pc lv (.ref (adr G (t, k, 0)) :: st) :=
  u_getV F hq hC hf hi d (by
    rw [show fv G.2.2.2.2.1 σ t k i = .ref (adr G (t, k, i + 1)) by
      unfold fv
      rw [hk]
      rcases (show a = 0 ∨ a = 1 ∨ a = 2 by omega) with rfl | rfl | rfl <;> rfl]
    exact kk)
theorem u_put (F : Fx Y G cc own dd) {idx t i : Nat} {k n : Nat} {v : Int32} {ty0 : FieldType} (hq : (t, k, 0) ∈ cel G) (hC : CK t) (hf : FL own idx t i) (hk : fk t i = (0, n)) (hi : i < nf t) (hfin : (fT t i).2.2.2 = false) (hty : parseFieldDescriptor (fT t i).2.2.1 = some ty0) (hn : narrow ty0 (.int v) = .int v) (hfit : fits ty0 (.int v) = true) (d : decode cc pc = .ok (.putfield idx, 3)) (kk : U Y G (upM σ t k (wr (σ t k) 0 i v)) (pc + 3) lv st) : U Y G σ pc lv (.int v :: .ref (adr G (t, k, 0)) :: st) := by
  obtain ⟨p, e, R, s, m, args, below, meth, c, Q, A, nL, ce, sl⟩ := Y
  obtain ⟨hx, hb, hml, hown, hts, hnb, hK, hA, hlk, hR, hZ⟩ := F
  intro H locs ls hP hD hS hl
  obtain ⟨q0, he, hL⟩ := wl_get (ad := G.2.2.2.2.1) (E := Ev G.2.2.2.2.1 G.2.2.1 σ) hq
  obtain ⟨C, T, N, ty, h1, h2, h3, h4, h5, h6⟩ := hC
  subst h2
  unfold FL at hf
  rw [← h6] at hf hfin hty
  have hln : i < ((List.range (nf t)).map (fv G.2.2.2.2.1 σ t k)).length := by simp [hi]
  have hset : (wd G σ).set q0 (G.2.2.2.2.1 (t, k, 0), .inr (t, ((List.range (nf t)).map (fv G.2.2.2.2.1 σ t k)).set i (.int v))) = wd G (upM σ t k (wr (σ t k) 0 i v)) := by
    rw [← Ev_num (ad := G.2.2.2.2.1) (cy := G.2.2.1) (by rw [hk])]
    exact wl_set hD hL (fun q' h => by rw [wr_wa]; exact Ev_ne q' h)
  have k2 : ∀ (H1 : Heap) (locs1 : List Loc), va_P G.2.1 vwCl ((wd G σ).set q0 (G.2.2.2.2.1 (t, k, 0), .inr (t, ((List.range (nf t)).map (fv G.2.2.2.2.1 σ t k)).set i (.int v)))) H1 → va_D A ((wd G σ).set q0 (G.2.2.2.2.1 (t, k, 0), .inr (t, ((List.range (nf t)).map (fv G.2.2.2.2.1 σ t k)).set i (.int v)))) → va_S A s.heap H1 locs1 → W p G.1 e R s m args below meth c H1 locs1 ce sl Q (F0 m (pc + 3) ls st) := by
    intro H1 locs1 a1 a2 a3
    rw [hset] at a1 a2
    exact kk H1 locs1 ls a1 a2 a3 hl
  rcases hf with hf | ⟨host, hf⟩
  · exact va_put hx hb hts h3 ty h4 h5 hown hK hP hD hS q0 he h1 i hi (hts _ hf) (fun _ h9 => h9) hfin hty hn hfit hln d k2
  · exact va_putN hx hb hts h3 ty h4 h5 hown hK hP hD hS q0 he h1 i hi (va_Nw.use rfl (hnb _ hf)) (fun _ h9 => h9) hfin hty hn hfit hln d k2
theorem u_aldI (F : Fx Y G cc own dd) {t i k n : Nat} {x v : Int32} (hq : (t, k, i + 1) ∈ cel G) (hk : fk t i = (1, n)) (hin : vp_in x n) (hv : σ t k (i + 1) x.toNatClampNeg = v) (d : decode cc pc = .ok (.iaload, 1)) (kk : U Y G σ (pc + 1) lv (.int v :: st)) : U Y G σ pc lv (.int x :: .ref (adr G (t, k, i + 1)) :: st) := by
  obtain ⟨p, e, R, s, m, args, below, meth, c, Q, A, nL, ce, sl⟩ := Y
  obtain ⟨hx, hb, hml, hown, hts, hnb, hK, hA, hlk, hR, hZ⟩ := F
  intro H locs ls hP hD hS hl
  obtain ⟨q0, he, hL⟩ := wl_get (ad := G.2.2.2.2.1) (E := Ev G.2.2.2.2.1 G.2.2.1 σ) hq
  rw [show Ev G.2.2.2.2.1 G.2.2.1 σ (t, k, i + 1) = .inl (G.2.2.1 0, n, .inl (σ t k (i + 1))) by simp [Ev, hk]] at he
  have k2 := kk H locs ls hP hD hS hl
  rw [← hv] at k2
  exact va_iald hx hb hK hP q0 0 he rfl hin d k2
theorem u_aldZ (F : Fx Y G cc own dd) {t i k n : Nat} {x v : Int32} (hq : (t, k, i + 1) ∈ cel G) (hk : fk t i = (2, n)) (hin : vp_in x n) (hv : σ t k (i + 1) x.toNatClampNeg = v) (d : decode cc pc = .ok (.baload, 1)) (kk : U Y G σ (pc + 1) lv (.int v :: st)) : U Y G σ pc lv (.int x :: .ref (adr G (t, k, i + 1)) :: st) := by
  obtain ⟨p, e, R, s, m, args, below, meth, c, Q, A, nL, ce, sl⟩ := Y
  obtain ⟨hx, hb, hml, hown, hts, hnb, hK, hA, hlk, hR, hZ⟩ := F
  intro H locs ls hP hD hS hl
  obtain ⟨q0, he, hL⟩ := wl_get (ad := G.2.2.2.2.1) (E := Ev G.2.2.2.2.1 G.2.2.1 σ) hq
  rw [show Ev G.2.2.2.2.1 G.2.2.1 σ (t, k, i + 1) = .inl (G.2.2.1 1, n, .inl (σ t k (i + 1))) by simp [Ev, hk]] at he
  have k2 := kk H locs ls hP hD hS hl
  rw [← hv] at k2
  exact va_zald hx hb hK hP q0 1 he rfl hin d k2
theorem u_astI (F : Fx Y G cc own dd) {t i k n : Nat} {x v : Int32} (hq : (t, k, i + 1) ∈ cel G) (hk : fk t i = (1, n)) (hin : vp_in x n) (d : decode cc pc = .ok (.iastore, 1)) (kk : U Y G (upM σ t k (wr (σ t k) (i + 1) x.toNatClampNeg v)) (pc + 1) lv st) : U Y G σ pc lv (.int v :: .int x :: .ref (adr G (t, k, i + 1)) :: st) := by
  obtain ⟨p, e, R, s, m, args, below, meth, c, Q, A, nL, ce, sl⟩ := Y
  obtain ⟨hx, hb, hml, hown, hts, hnb, hK, hA, hlk, hR, hZ⟩ := F
  intro H locs ls hP hD hS hl
  obtain ⟨q0, he, hL⟩ := wl_get (ad := G.2.2.2.2.1) (E := Ev G.2.2.2.2.1 G.2.2.1 σ) hq
  rw [show Ev G.2.2.2.2.1 G.2.2.1 σ (t, k, i + 1) = .inl (G.2.2.1 0, n, .inl (σ t k (i + 1))) by simp [Ev, hk]] at he
  have hset : (wd G σ).set q0 (G.2.2.2.2.1 (t, k, i + 1), .inl (G.2.2.1 0, n, .inl (upd (σ t k (i + 1)) x.toNatClampNeg v))) = wd G (upM σ t k (wr (σ t k) (i + 1) x.toNatClampNeg v)) := by
    rw [wr_wa, ← Ev_rowI (ad := G.2.2.2.2.1) (cy := G.2.2.1) (σ := σ) (k := k) hk]
    exact wl_set hD hL (fun q' h => Ev_ne q' h)
  refine va_iast hx hb hK hP hD hS q0 0 he rfl hin d (fun H1 locs1 a1 a2 a3 => ?_)
  rw [hset] at a1 a2
  exact kk H1 locs1 ls a1 a2 a3 hl
theorem u_astZ (F : Fx Y G cc own dd) {t i k n : Nat} {x v : Int32} (hq : (t, k, i + 1) ∈ cel G) (hk : fk t i = (2, n)) (hin : vp_in x n) (d : decode cc pc = .ok (.bastore, 1)) (kk : U Y G (upM σ t k (wr (σ t k) (i + 1) x.toNatClampNeg (vp_nar .boolean v))) (pc + 1) lv st) : U Y G σ pc lv (.int v :: .int x :: .ref (adr G (t, k, i + 1)) :: st) := by
  obtain ⟨p, e, R, s, m, args, below, meth, c, Q, A, nL, ce, sl⟩ := Y
  obtain ⟨hx, hb, hml, hown, hts, hnb, hK, hA, hlk, hR, hZ⟩ := F
  intro H locs ls hP hD hS hl
  obtain ⟨q0, he, hL⟩ := wl_get (ad := G.2.2.2.2.1) (E := Ev G.2.2.2.2.1 G.2.2.1 σ) hq
  rw [show Ev G.2.2.2.2.1 G.2.2.1 σ (t, k, i + 1) = .inl (G.2.2.1 1, n, .inl (σ t k (i + 1))) by simp [Ev, hk]] at he
  have hset : (wd G σ).set q0 (G.2.2.2.2.1 (t, k, i + 1), .inl (G.2.2.1 1, n, .inl (upd (σ t k (i + 1)) x.toNatClampNeg (vp_nar .boolean v)))) = wd G (upM σ t k (wr (σ t k) (i + 1) x.toNatClampNeg (vp_nar .boolean v))) := by
    rw [wr_wa, ← Ev_rowZ (ad := G.2.2.2.2.1) (cy := G.2.2.1) (σ := σ) (k := k) hk]
    exact wl_set hD hL (fun q' h => Ev_ne q' h)
  refine va_zast hx hb hK hP hD hS q0 1 he rfl hin d (fun H1 locs1 a1 a2 a3 => ?_)
  rw [hset] at a1 a2
  exact kk H1 locs1 ls a1 a2 a3 hl
theorem u_aldO (F : Fx Y G cc own dd) {t i k n : Nat} {x : Int32} (hq : (t, k, i + 1) ∈ cel G) (hk : fk t i = (3, n)) (hin : vp_in x n) (d : decode cc pc = .ok (.aaload, 1)) (kk : U Y G σ (pc + 1) lv (.ref (adr G (7, so t + x.toNatClampNeg, 0)) :: st)) : U Y G σ pc lv (.int x :: .ref (adr G (t, k, i + 1)) :: st) := by
  obtain ⟨p, e, R, s, m, args, below, meth, c, Q, A, nL, ce, sl⟩ := Y
  obtain ⟨hx, hb, hml, hown, hts, hnb, hK, hA, hlk, hR, hZ⟩ := F
  intro H locs ls hP hD hS hl
  obtain ⟨q0, he, hL⟩ := wl_get (ad := G.2.2.2.2.1) (E := Ev G.2.2.2.2.1 G.2.2.1 σ) hq
  rw [show Ev G.2.2.2.2.1 G.2.2.1 σ (t, k, i + 1) = .inl (G.2.2.1 2, n, .inr (.inr (.inr (.inr (fun y => some (G.2.2.2.2.1 (7, so t + y, 0))))))) by simp [Ev, hk]] at he
  exact va_aldq hx hb hK hP q0 2 he rfl hin d (kk H locs ls hP hD hS hl)
theorem u_alen (F : Fx Y G cc own dd) {t i k n : Nat} {v : Int32} (hq : (t, k, i + 1) ∈ cel G) (hk : fk t i = (1, n)) (hv : Int32.ofNat n = v) (d : decode cc pc = .ok (.arraylength, 1)) (kk : U Y G σ (pc + 1) lv (.int v :: st)) : U Y G σ pc lv (.ref (adr G (t, k, i + 1)) :: st) := by
  obtain ⟨p, e, R, s, m, args, below, meth, c, Q, A, nL, ce, sl⟩ := Y
  obtain ⟨hx, hb, hml, hown, hts, hnb, hK, hA, hlk, hR, hZ⟩ := F
  intro H locs ls hP hD hS hl
  obtain ⟨q0, he, hL⟩ := wl_get (ad := G.2.2.2.2.1) (E := Ev G.2.2.2.2.1 G.2.2.1 σ) hq
  rw [show Ev G.2.2.2.2.1 G.2.2.1 σ (t, k, i + 1) = .inl (G.2.2.1 0, n, .inl (σ t k (i + 1))) by simp [Ev, hk]] at he
  exact va_alen hx hb hK hP q0 0 he rfl hv d (kk H locs ls hP hD hS hl)
/-- the reader's static rows -/
theorem u_stat (F : Fx Y G cc own dd) {idx : Nat} (x : Nat) (hx6 : x < 6) (hf : Cond.fieldLink own idx "RollingCodes$Reader" (sn x) "[I" ∈ TB) (d : decode cc pc = .ok (.getstatic idx, 3)) (kk : U Y G σ (pc + 3) lv (.ref (G.2.2.2.2.2 x) :: st)) : U Y G σ pc lv st := by
  obtain ⟨p, e, R, s, m, args, below, meth, c, Q, A, nL, ce, sl⟩ := Y
  obtain ⟨hx, hb, hml, hown, hts, hnb, hK, hA, hlk, hR, hZ⟩ := F
  intro H locs ls hP hD hS hl
  exact va_gets hx hb (hZ x hx6).1 hS hown (hts _ hf) (fun _ h9 => h9) d (kk H locs ls hP hD hS hl)
theorem u_statld (F : Fx Y G cc own dd) {y : Int32} (x : Nat) (hx6 : x < 6) (hin : vp_in y (sn_len x)) (d : decode cc pc = .ok (.iaload, 1)) (kk : U Y G σ (pc + 1) lv (.int (sn_at x y.toNatClampNeg) :: st)) : U Y G σ pc lv (.int y :: .ref (G.2.2.2.2.2 x) :: st) := by
  obtain ⟨p, e, R, s, m, args, below, meth, c, Q, A, nL, ce, sl⟩ := Y
  obtain ⟨hx, hb, hml, hown, hts, hnb, hK, hA, hlk, hR, hZ⟩ := F
  intro H locs ls hP hD hS hl
  exact va_ti hx hb (hZ x hx6).2 hS hin rfl d (kk H locs ls hP hD hS hl)
theorem u_statlen (F : Fx Y G cc own dd) {v : Int32} (x : Nat) (hx6 : x < 6) (hv : Int32.ofNat (sn_len x) = v) (d : decode cc pc = .ok (.arraylength, 1)) (kk : U Y G σ (pc + 1) lv (.int v :: st)) : U Y G σ pc lv (.ref (G.2.2.2.2.2 x) :: st) := by
  obtain ⟨p, e, R, s, m, args, below, meth, c, Q, A, nL, ce, sl⟩ := Y
  obtain ⟨hx, hb, hml, hown, hts, hnb, hK, hA, hlk, hR, hZ⟩ := F
  intro H locs ls hP hD hS hl
  exact va_tlen hx hb (hZ x hx6).2 hS hv d (kk H locs ls hP hD hS hl)
end URows
end
section
/-! contracts of the methods that make nothing: from a memory to a memory -/
def rmD (d : Nat) : Room := { frames := d, cells := 0, slots := 0, locals := 100 * d }
def Pre (G : G0) (σ : Mem) (sz : Nat) (V : State) : Prop := V.heap.size = sz ∧ va_P G.2.1 vwCl (wd G σ) V.heap ∧ va_K G.2.1 vwCl (tyz G.2.2.1) V ∧ va_D (fun _ => True) (wd G σ) ∧ (∀ w ∈ NB, va_Nw w V) ∧ SZ G.2.2.2.2.2 (va_A (wd G σ) sz) V
def Pst (G : G0) (σ σ' : Mem) (sz : Nat) (t : State) : Prop := va_P G.2.1 vwCl (wd G σ') t.heap ∧ va_D (va_A (wd G σ) sz) (wd G σ')
/-- y answers the number r, and the memory is σ' behind it -/
def CI (G : G0) (y : MethodName) (cc : ByteArray) (maxL : Nat) (ret : FieldType) (d : Nat) (As : List Value) (σ : Mem) (r : Int32) (σ' : Mem) : Prop :=
  ∀ sz : Nat, Met G.1 y (.code y cc maxL (some ret) :: TB) (rmD d) (va_Pc As (Pre G σ sz)) (va_Qi (fun (r2 : Int32) (_ : Unit) => r2 = r) (fun _ t => Pst G σ σ' sz t) (va_A (wd G σ) sz)) 0 0 (va_A (wd G σ) sz)
/-- y answers nothing -/
def CV (G : G0) (y : MethodName) (cc : ByteArray) (maxL : Nat) (d : Nat) (As : List Value) (σ : Mem) (σ' : Mem) : Prop :=
  ∀ sz : Nat, Met G.1 y (.code y cc maxL none :: TB) (rmD d) (va_Pc As (Pre G σ sz)) (va_Qv (fun (_ : Unit) => True) (fun _ t => Pst G σ σ' sz t) (va_A (wd G σ) sz)) 0 0 (va_A (wd G σ) sz)
theorem SZ.moved {t6 : Nat → Nat} {A A' : Nat → Prop} {s V : State} {H : Heap} {locs : List Loc} (h : SZ t6 A s) (hS : va_S A s.heap H locs) (hV : V.heap = H) (hvm : s.vm.Alike V.vm) (hA : ∀ q, A' q → A q) : SZ t6 A' V := by
  intro x hx
  obtain ⟨h1, h2⟩ := h x hx
  rw [hV]
  refine ⟨?_, ((h2.kept hS.2.1).moved hvm).narrow hA⟩
  obtain ⟨cf, kf, fi, f, a, cell, g1, g2, g3, g4, g5, g6, g7, g8⟩ := (h1.kept hS.2.1).moved hvm
  exact ⟨cf, kf, fi, f, a, cell, g1, g2, g3, g4, g5, g6, g7, fun z => g8 (hA a z)⟩
theorem Pre.blind {G : G0} {σ : Mem} {sz : Nat} {As : List Value} : FrameBlind (va_Pc As (Pre G σ sz)) := by
  intro a V g mk h
  obtain ⟨h0, h1, h2, h3, h4, h5, h6⟩ := h
  exact ⟨h0, h1, h2, va_K.moved (u := V) (U := V.calling g mk a) (Vm.Alike.refl V.vm) h3, h4, nb_same (s := V) (U := V.calling g mk a) rfl h5, fun x hx => ⟨va_Z.moved (u := V) (U := V.calling g mk a) (Vm.Alike.refl V.vm) (h6 x hx).1, va_T.moved (u := V) (U := V.calling g mk a) (Vm.Alike.refl V.vm) (h6 x hx).2⟩⟩
theorem wd_A {G : G0} {σ : Mem} {A : Nat → Prop} {H0 H : Heap} {locs : List Loc} (hD : va_D A (wd G σ)) (hS : va_S A H0 H locs) (hA : ∀ q : Nat, H0.size ≤ q → A q) : ∀ q, va_A (wd G σ) H.size q → A q := by
  intro q h
  rcases h with ⟨k, e, h⟩ | h
  · exact hD.2 k (q, e) h
  · exact hA q (Nat.le_trans hS.1 h)
section UCalls
variable {Y : Dy} {G : G0} {cc : ByteArray} {own : String} {dd : Nat} {σ σ2 : Mem} {pc : Nat} {lv : List (Nat × Value)} {st st0 : List Value}
/-- what the tables say of a method that is called: by an object, or static -/
def YV (y : MethodName) (cc2 : ByteArray) (maxL : Nat) (ret : Option FieldType) (n : Nat) : Prop := Cond.code y cc2 maxL ret ∈ TB ∧ Cond.instanceMethod y ∈ TB ∧ Cond.selects y.cls y y ∈ TB ∧ Cond.initialized y.cls ∈ TB ∧ y.cls ≠ "java/lang/invoke/MethodHandle" ∧ y.cls ≠ "java/lang/invoke/VarHandle" ∧ (parseMethodDescriptor y.desc).map (fun d => d.parameters.length) = some n ∧ maxL ≤ 70
def YS (y : MethodName) (cc2 : ByteArray) (maxL : Nat) (ret : Option FieldType) (n : Nat) : Prop := Cond.code y cc2 maxL ret ∈ TB ∧ Cond.static y ∈ TB ∧ Cond.initialized y.cls ∈ TB ∧ y.cls ≠ "java/lang/invoke/MethodHandle" ∧ y.cls ≠ "java/lang/invoke/VarHandle" ∧ (parseMethodDescriptor y.desc).map (fun d => d.parameters.length) = some n ∧ maxL ≤ 70
def ML (own : String) (idx : Nat) (y : MethodName) : Prop := Cond.methodLink own idx y ∈ TB ∨ ∃ host, Cond.methodLinkNest own idx y host ∈ NB
theorem goodT {w1 : Cond} (h1 : w1 ∈ TB) : GoodIn TB (w1 :: TB) := by
  intro w hw
  have hm : w ∈ TB := by
    rcases List.mem_cons.mp hw with h | h
    · rw [h]; exact h1
    · exact h
  exact ⟨hm, tb_good hm⟩
theorem u_runV {p : Program} {e : Env} {R : Room} {s : State} {m : MethodId} {args : Array Value} {below : List Frame} {meth : Method} {c : Code} {Q : State → Prop} {A : Nat → Prop} {nL ce sl : Nat} (F : Fx (p, e, R, s, m, args, below, meth, c, Q, A, nL, ce, sl) G cc own dd) {H : Heap} {locs : List Loc} {ls : Array Slot} (hP : va_P G.2.1 vwCl (wd G σ) H) (hD : va_D A (wd G σ)) (hS : va_S A s.heap H locs) (hl : lv_has ls nL lv)
    {y : MethodName} {cc2 : ByteArray} {maxL d n idx t k : Nat} {ret : Option FieldType} {Qc : Array Value → State → Outcome → State → Prop} {As : List Value} (hq : (t, k, 0) ∈ cel G) (ht : (vwCl[t]?).map (fun q => q.1) = some y.cls)
    (hM : Met G.1 y (.code y cc2 maxL ret :: TB) (rmD d) (va_Pc (.ref (adr G (t, k, 0)) :: As) (Pre G σ H.size)) Qc 0 0 (va_A (wd G σ) H.size)) (hy : YV y cc2 maxL ret n) (hm : ML own idx y) (hd : d + 1 ≤ dd) (hn : As.length = n) (hst : st0 = As.reverse ++ .ref (adr G (t, k, 0)) :: st) (hw : (st.map fun v => v.category).sum ≤ 8) (hdg : decode cc pc = .ok (.invokevirtual idx, 3)) :
    va_Run p G.1 e R s m args below meth c H locs ce sl 0 0 (F0 m pc ls st0) st (Qc (Value.ref (adr G (t, k, 0)) :: As).toArray) (va_A (wd G σ) H.size) := by
  obtain ⟨hx, hb, hml, hown, hts, hnb, hK, hA, hlk, hR, hZ⟩ := F
  obtain ⟨y1, y2, y3, y4, y5, y6, y7, y8⟩ := hy
  obtain ⟨q0, he, hL⟩ := wl_get (ad := G.2.2.2.2.1) (E := Ev G.2.2.2.2.1 G.2.2.1 σ) hq
  have hrm : (rmD d).frames + 1 ≤ R.frames ∧ 8 + (maxL + 11) + (rmD d).locals ≤ R.locals := by
    simp only [rmD]
    omega
  have hpre : PreV s H y.cls (adr G (t, k, 0)) (va_Pc (.ref (adr G (t, k, 0)) :: As) (Pre G σ H.size)) As := by
    refine ⟨Pre.blind, ?_, ?_⟩
    · cases hv : vwCl[t]? with
      | none => rw [hv] at ht; cases ht
      | some q =>
        rw [hv] at ht
        have e1 : q.1 = y.cls := Option.some.inj ht
        rw [← e1]
        exact va_recv hK hP hv he
    · intro V hV hW
      exact ⟨rfl, by rw [hV], by rw [hV]; exact hP, va_K.moved hW.alike hK, hD.weaken (fun _ _ _ _ => trivial), nb_warm hW hnb, hZ.moved hS hV hW.alike (wd_A hD hS hA)⟩
  have hcl : ce + 0 ≤ R.cells ∧ sl + 0 ≤ R.slots := ⟨hR.2.2.1, hR.2.2.2⟩
  subst hst
  rcases hm with hm | ⟨host, hm⟩
  · exact va_runV (As := As) (rest := st) ⟨hx, hb, hml, hown, hts⟩ hM ⟨callB_of n hts (goodT y1) rfl rfl rfl (hts _ y4) (hts _ hm) ⟨y5, y6, y7⟩ hrm, hts _ y2, hts _ y3⟩ hpre rfl hn hl.1 rfl (lv_room hw) hdg hcl
  · exact va_runVN (As := As) (rest := st) ⟨hx, hb, hml, hown, hts⟩ hM ⟨va_cnB n hts (goodT y1) rfl rfl rfl (hnb _ hm) (hts _ y4) ⟨y5, y6, y7⟩ hrm, hts _ y2, hts _ y3⟩ hpre rfl hn hl.1 rfl (lv_room hw) hdg hcl
theorem u_runS {p : Program} {e : Env} {R : Room} {s : State} {m : MethodId} {args : Array Value} {below : List Frame} {meth : Method} {c : Code} {Q : State → Prop} {A : Nat → Prop} {nL ce sl : Nat} (F : Fx (p, e, R, s, m, args, below, meth, c, Q, A, nL, ce, sl) G cc own dd) {H : Heap} {locs : List Loc} {ls : Array Slot} (hP : va_P G.2.1 vwCl (wd G σ) H) (hD : va_D A (wd G σ)) (hS : va_S A s.heap H locs) (hl : lv_has ls nL lv)
    {y : MethodName} {cc2 : ByteArray} {maxL d n idx : Nat} {ret : Option FieldType} {Qc : Array Value → State → Outcome → State → Prop} {As : List Value}
    (hM : Met G.1 y (.code y cc2 maxL ret :: TB) (rmD d) (va_Pc As (Pre G σ H.size)) Qc 0 0 (va_A (wd G σ) H.size)) (hy : YS y cc2 maxL ret n) (hm : ML own idx y) (hd : d + 1 ≤ dd) (hn : As.length = n) (hst : st0 = As.reverse ++ st) (hw : (st.map fun v => v.category).sum ≤ 8) (hdg : decode cc pc = .ok (.invokestatic idx, 3)) :
    va_Run p G.1 e R s m args below meth c H locs ce sl 0 0 (F0 m pc ls st0) st (Qc As.toArray) (va_A (wd G σ) H.size) := by
  obtain ⟨hx, hb, hml, hown, hts, hnb, hK, hA, hlk, hR, hZ⟩ := F
  obtain ⟨y1, y2, y4, y5, y6, y7, y8⟩ := hy
  have hrm : (rmD d).frames + 1 ≤ R.frames ∧ 8 + (maxL + 11) + (rmD d).locals ≤ R.locals := by
    simp only [rmD]
    omega
  have hpre : PreS s H (va_Pc As (Pre G σ H.size)) As := by
    refine ⟨Pre.blind, ?_⟩
    intro V hV hW
    exact ⟨rfl, by rw [hV], by rw [hV]; exact hP, va_K.moved hW.alike hK, hD.weaken (fun _ _ _ _ => trivial), nb_warm hW hnb, hZ.moved hS hV hW.alike (wd_A hD hS hA)⟩
  have hcl : ce + 0 ≤ R.cells ∧ sl + 0 ≤ R.slots := ⟨hR.2.2.1, hR.2.2.2⟩
  subst hst
  rcases hm with hm | ⟨host, hm⟩
  · exact va_runS (As := As) (rest := st) ⟨hx, hb, hml, hown, hts⟩ hM ⟨callB_of n hts (goodT y1) rfl rfl rfl (hts _ y4) (hts _ hm) ⟨y5, y6, y7⟩ hrm, hts _ y2⟩ hpre rfl hn hl.1 rfl (lv_room hw) hdg hcl
  · exact va_runSN (As := As) (rest := st) ⟨hx, hb, hml, hown, hts⟩ hM ⟨va_cnB n hts (goodT y1) rfl rfl rfl (hnb _ hm) (hts _ y4) ⟨y5, y6, y7⟩ hrm, hts _ y2, trivial⟩ hpre rfl hn hl.1 rfl (lv_room hw) hdg hcl
theorem u_calli (F : Fx Y G cc own dd) {y : MethodName} {cc2 : ByteArray} {maxL d n idx t k : Nat} {ret : FieldType} {As : List Value} {r : Int32} (C : CI G y cc2 maxL ret d (.ref (adr G (t, k, 0)) :: As) σ r σ2) (hy : YV y cc2 maxL (some ret) n) (hm : ML own idx y) (hq : (t, k, 0) ∈ cel G) (ht : (vwCl[t]?).map (fun q => q.1) = some y.cls) (hd : d + 1 ≤ dd) (hn : As.length = n) (hst : st0 = As.reverse ++ .ref (adr G (t, k, 0)) :: st) (hw : (st.map fun v => v.category).sum ≤ 8) (hdg : decode cc pc = .ok (.invokevirtual idx, 3)) (kk : U Y G σ2 (pc + 3) lv (.int r :: st)) : U Y G σ pc lv st0 := by
  obtain ⟨p, e, R, s, m, args, below, meth, c, Q, A, nL, ce, sl⟩ := Y
  intro H locs ls hP hD hS hl
  have hFc := wd_A hD hS F.2.2.2.2.2.2.2.1
  refine va_calli (u_runV F hP hD hS hl hq ht (C H.size) hy hm hd hn hst hw hdg) hS (fun q _ h => hFc q h) hFc (fun r2 u t H1 locs1 ht hvm hw hB hz1 hk1 hS1 => ?_)
  subst hw
  obtain ⟨b1, b2⟩ := hB
  rw [ht] at b1
  exact kk H1 locs1 ls b1 (b2.weaken (fun _ q _ h => hFc q.1 h)) hS1 hl
theorem u_callv (F : Fx Y G cc own dd) {y : MethodName} {cc2 : ByteArray} {maxL d n idx t k : Nat} {As : List Value} (C : CV G y cc2 maxL d (.ref (adr G (t, k, 0)) :: As) σ σ2) (hy : YV y cc2 maxL none n) (hm : ML own idx y) (hq : (t, k, 0) ∈ cel G) (ht : (vwCl[t]?).map (fun q => q.1) = some y.cls) (hd : d + 1 ≤ dd) (hn : As.length = n) (hst : st0 = As.reverse ++ .ref (adr G (t, k, 0)) :: st) (hw : (st.map fun v => v.category).sum ≤ 8) (hdg : decode cc pc = .ok (.invokevirtual idx, 3)) (kk : U Y G σ2 (pc + 3) lv st) : U Y G σ pc lv st0 := by
  obtain ⟨p, e, R, s, m, args, below, meth, c, Q, A, nL, ce, sl⟩ := Y
  intro H locs ls hP hD hS hl
  have hFc := wd_A hD hS F.2.2.2.2.2.2.2.1
  refine va_callv (u_runV F hP hD hS hl hq ht (C H.size) hy hm hd hn hst hw hdg) hS (fun q _ h => hFc q h) hFc (fun u t H1 locs1 ht hvm hw hB hz1 hk1 hS1 => ?_)
  obtain ⟨b1, b2⟩ := hB
  rw [ht] at b1
  exact kk H1 locs1 ls b1 (b2.weaken (fun _ q _ h => hFc q.1 h)) hS1 hl
theorem u_callSi (F : Fx Y G cc own dd) {y : MethodName} {cc2 : ByteArray} {maxL d n idx : Nat} {ret : FieldType} {As : List Value} {r : Int32} (C : CI G y cc2 maxL ret d As σ r σ2) (hy : YS y cc2 maxL (some ret) n) (hm : ML own idx y) (hd : d + 1 ≤ dd) (hn : As.length = n) (hst : st0 = As.reverse ++ st) (hw : (st.map fun v => v.category).sum ≤ 8) (hdg : decode cc pc = .ok (.invokestatic idx, 3)) (kk : U Y G σ2 (pc + 3) lv (.int r :: st)) : U Y G σ pc lv st0 := by
  obtain ⟨p, e, R, s, m, args, below, meth, c, Q, A, nL, ce, sl⟩ := Y
  intro H locs ls hP hD hS hl
  have hFc := wd_A hD hS F.2.2.2.2.2.2.2.1
  refine va_calli (u_runS F hP hD hS hl (C H.size) hy hm hd hn hst hw hdg) hS (fun q _ h => hFc q h) hFc (fun r2 u t H1 locs1 ht hvm hw hB hz1 hk1 hS1 => ?_)
  subst hw
  obtain ⟨b1, b2⟩ := hB
  rw [ht] at b1
  exact kk H1 locs1 ls b1 (b2.weaken (fun _ q _ h => hFc q.1 h)) hS1 hl
theorem u_callSv (F : Fx Y G cc own dd) {y : MethodName} {cc2 : ByteArray} {maxL d n idx : Nat} {As : List Value} (C : CV G y cc2 maxL d As σ σ2) (hy : YS y cc2 maxL none n) (hm : ML own idx y) (hd : d + 1 ≤ dd) (hn : As.length = n) (hst : st0 = As.reverse ++ st) (hw : (st.map fun v => v.category).sum ≤ 8) (hdg : decode cc pc = .ok (.invokestatic idx, 3)) (kk : U Y G σ2 (pc + 3) lv st) : U Y G σ pc lv st0 := by
  obtain ⟨p, e, R, s, m, args, below, meth, c, Q, A, nL, ce, sl⟩ := Y
  intro H locs ls hP hD hS hl
  have hFc := wd_A hD hS F.2.2.2.2.2.2.2.1
  refine va_callv (u_runS F hP hD hS hl (C H.size) hy hm hd hn hst hw hdg) hS (fun q _ h => hFc q h) hFc (fun u t H1 locs1 ht hvm hw hB hz1 hk1 hS1 => ?_)
  obtain ⟨b1, b2⟩ := hB
  rw [ht] at b1
  exact kk H1 locs1 ls b1 (b2.weaken (fun _ q _ h => hFc q.1 h)) hS1 hl
end UCalls
/-- a contract out of a walk -/
theorem CI.of {G : G0} {y : MethodName} {cc : ByteArray} {maxL d : Nat} {ret : FieldType} {As : List Value} {σ σ' : Mem} {r : Int32} (hy : plainName y.cls = true) (hn : narrow ret (.int r) = .int r) (hlen : (lg_sl As).length ≤ maxL)
    (body : ∀ Y : Dy, Y.2.2.2.2.2.2.2.2.2.2.2.1 = maxL → Fx Y G cc y.cls d → (∀ (pc : Nat) (lv : List (Nat × Value)), decode cc pc = .ok (.ireturn, 1) → U Y G σ' pc lv [.int r]) → U Y G σ 0 (lv_args 0 As) []) : CI G y cc maxL ret d As σ r σ' := by
  intro sz
  refine Met.ofW (cc := cc) (maxL := maxL) (ret := some ret) hy rfl ?_
  intro p e s m args below meth c s₁ B hml hv
  obtain ⟨rfl, hsz, hP, hK, hD0, hNB, hZ⟩ := hv
  have hts := atoms_spec (ws := .code y cc maxL (some ret) :: TB) B.pre
  have hown : s.vm.findClass y.cls = some m.cls := findClass_of_methodNamed B.named
  subst hsz
  have hD := hD0.self (sz := s.heap.size)
  have hl := lv_entry As (n := maxL) hlen
  rw [lg_entry_eq]
  have F : Fx (p, e, (headSpec (.code y cc maxL (some ret) :: TB) (rmD d)).room, s, m, As.toArray, below, meth, c, MQ below (va_Qi (fun (r2 : Int32) (_ : Unit) => r2 = r) (fun _ t => Pst G σ σ' s.heap.size t) (va_A (wd G σ) s.heap.size)) As.toArray s 0 0 (va_A (wd G σ) s.heap.size), va_A (wd G σ) s.heap.size, maxL, 0, 0) G cc y.cls d :=
    ⟨B.exec, B.bytes, hml, hown, fun w hw => hts w (List.mem_cons_of_mem _ hw), hNB, hK, fun q h => Or.inr h, B.notSynchronized, ⟨Nat.le_refl _, Nat.le_refl _, Nat.zero_le _, Nat.zero_le _⟩, hZ⟩
  refine body _ rfl F (fun pc lv dr => ?_) s.heap [] _ hP hD va_S.rf hl
  intro H locs ls hP1 hD1 hS1 hl1
  exact W.zret B.exec B.bytes B.returns hn (fun t ht hW => ⟨⟨r, (), rfl, rfl, by rw [ht]; exact hP1, hD1⟩, hS1.F ht⟩) hS1.2.2 dr B.notSynchronized
theorem CV.of {G : G0} {y : MethodName} {cc : ByteArray} {maxL d : Nat} {As : List Value} {σ σ' : Mem} (hy : plainName y.cls = true) (hlen : (lg_sl As).length ≤ maxL)
    (body : ∀ Y : Dy, Y.2.2.2.2.2.2.2.2.2.2.2.1 = maxL → Fx Y G cc y.cls d → (∀ (pc : Nat) (lv : List (Nat × Value)), decode cc pc = .ok (.return_, 1) → U Y G σ' pc lv []) → U Y G σ 0 (lv_args 0 As) []) : CV G y cc maxL d As σ σ' := by
  intro sz
  refine Met.ofW (cc := cc) (maxL := maxL) (ret := none) hy rfl ?_
  intro p e s m args below meth c s₁ B hml hv
  obtain ⟨rfl, hsz, hP, hK, hD0, hNB, hZ⟩ := hv
  have hts := atoms_spec (ws := .code y cc maxL none :: TB) B.pre
  have hown : s.vm.findClass y.cls = some m.cls := findClass_of_methodNamed B.named
  subst hsz
  have hD := hD0.self (sz := s.heap.size)
  have hl := lv_entry As (n := maxL) hlen
  rw [lg_entry_eq]
  have F : Fx (p, e, (headSpec (.code y cc maxL none :: TB) (rmD d)).room, s, m, As.toArray, below, meth, c, MQ below (va_Qv (fun (_ : Unit) => True) (fun _ t => Pst G σ σ' s.heap.size t) (va_A (wd G σ) s.heap.size)) As.toArray s 0 0 (va_A (wd G σ) s.heap.size), va_A (wd G σ) s.heap.size, maxL, 0, 0) G cc y.cls d :=
    ⟨B.exec, B.bytes, hml, hown, fun w hw => hts w (List.mem_cons_of_mem _ hw), hNB, hK, fun q h => Or.inr h, B.notSynchronized, ⟨Nat.le_refl _, Nat.le_refl _, Nat.zero_le _, Nat.zero_le _⟩, hZ⟩
  refine body _ rfl F (fun pc lv dr => ?_) s.heap [] _ hP hD va_S.rf hl
  intro H locs ls hP1 hD1 hS1 hl1
  exact W.vret B.exec B.bytes B.returns (fun t ht hW => ⟨⟨(), rfl, trivial, by rw [ht]; exact hP1, hD1⟩, hS1.F ht⟩) hS1.2.2 dr B.notSynchronized
end
section
section UJdk
variable {Y : Dy} {G : G0} {cc : ByteArray} {own : String} {dd : Nat} {σ : Mem} {pc : Nat} {lv : List (Nat × Value)} {st : List Value}
/-- System.arraycopy from a row of numbers into one -/
theorem u_copy (F : Fx Y G cc own dd) {idx t i k n t2 i2 k2 n2 : Nat} {sp dp z : Int32} (hq : (t, k, i + 1) ∈ cel G) (hk : fk t i = (1, n)) (hq2 : (t2, k2, i2 + 1) ∈ cel G) (hk2 : fk t2 i2 = (1, n2)) (hm : Cond.methodLink own idx arraycopyName ∈ TB) (hna : Cond.native arraycopyName ∈ TB) (hs : Cond.static arraycopyName ∈ TB) (hini : Cond.initialized "java/lang/System" ∈ TB) (h1 : ¬ sp < 0) (h2 : ¬ dp < 0) (h3 : ¬ z < 0) (h4 : sp.toNatClampNeg + z.toNatClampNeg ≤ n) (h5 : dp.toNatClampNeg + z.toNatClampNeg ≤ n2) (hd : 1 ≤ dd) (hw : (st.map fun v => v.category).sum ≤ 8) (d : decode cc pc = .ok (.invokestatic idx, 3)) (kk : U Y G (upM σ t2 k2 (wa (σ t2 k2) (i2 + 1) (va_cpy (σ t k (i + 1)) (σ t2 k2 (i2 + 1)) sp.toNatClampNeg dp.toNatClampNeg z.toNatClampNeg))) (pc + 3) lv st) : U Y G σ pc lv (.int z :: .int dp :: .ref (adr G (t2, k2, i2 + 1)) :: .int sp :: .ref (adr G (t, k, i + 1)) :: st) := by
  obtain ⟨p, e, R, s, m, args, below, meth, c, Q, A, nL, ce, sl⟩ := Y
  obtain ⟨hx, hb, hml, hown, hts, hnb, hK, hA, hlk, hR, hZ⟩ := F
  intro H locs ls hP hD hS hl
  obtain ⟨q0, he, hL⟩ := wl_get (ad := G.2.2.2.2.1) (E := Ev G.2.2.2.2.1 G.2.2.1 σ) hq
  rw [show Ev G.2.2.2.2.1 G.2.2.1 σ (t, k, i + 1) = .inl (G.2.2.1 0, n, .inl (σ t k (i + 1))) by simp [Ev, hk]] at he
  obtain ⟨q1, he2, hL2⟩ := wl_get (ad := G.2.2.2.2.1) (E := Ev G.2.2.2.2.1 G.2.2.1 σ) hq2
  rw [show Ev G.2.2.2.2.1 G.2.2.1 σ (t2, k2, i2 + 1) = .inl (G.2.2.1 0, n2, .inl (σ t2 k2 (i2 + 1))) by simp [Ev, hk2]] at he2
  have hset : ∀ f : Nat → Int32, (wd G σ).set q1 (G.2.2.2.2.1 (t2, k2, i2 + 1), .inl (G.2.2.1 0, n2, .inl f)) = wd G (upM σ t2 k2 (wa (σ t2 k2) (i2 + 1) f)) := by
    intro f
    rw [← Ev_rowI (ad := G.2.2.2.2.1) (cy := G.2.2.1) (σ := σ) (k := k2) hk2]
    exact wl_set hD hL2 (fun q' h => Ev_ne q' h)
  refine va_copyi (ty := .int) hx hb (hml.trans hl.1.symm) hown (hts _ hm) (hts _ hna) (hts _ hs) (hts _ hini) hK hP hD hS q0 q1 0 0 he he2 rfl rfl rfl h1 h2 h3 h4 h5 (fun _ _ => rfl) (by omega) ?_ d (fun H1 locs1 a1 a2 a3 => ?_)
  · have : nativeFrameWords "java/lang/System" "arraycopy" 5 ≤ 60 := by decide +kernel
    omega
  · rw [hset] at a1 a2
    exact kk H1 locs1 ls a1 a2 a3 hl
theorem u_max (F : Fx Y G cc own dd) {idx : Nat} {x y : Int32} (hm : Cond.methodLink own idx Lib.Math.max.name ∈ TB) (hs : Cond.static Lib.Math.max.name ∈ TB) (hini : Cond.initialized "java/lang/Math" ∈ TB) (hc : Cond.code Lib.Math.max.name Lib.Math.max.code 2 (some .int) ∈ TB) (hd : 1 ≤ dd) (hw : (st.map fun v => v.category).sum ≤ 8) (d : decode cc pc = .ok (.invokestatic idx, 3)) (kk : U Y G σ (pc + 3) lv (.int (if x < y then y else x) :: st)) : U Y G σ pc lv (.int y :: .int x :: st) := by
  obtain ⟨p, e, R, s, m, args, below, meth, c, Q, A, nL, ce, sl⟩ := Y
  obtain ⟨hx, hb, hml, hown, hts, hnb, hK, hA, hlk, hR, hZ⟩ := F
  intro H locs ls hP hD hS hl
  exact va_mmax hx hb (hml.trans hl.1.symm) hown (hts _ hm) (hts _ hs) (hts _ hini) (hts _ hc) (by omega) (by omega) hR.2.2.1 hR.2.2.2 d (kk H locs ls hP hD hS hl)
theorem u_min (F : Fx Y G cc own dd) {idx : Nat} {x y : Int32} (hm : Cond.methodLink own idx Lib.Math.min.name ∈ TB) (hs : Cond.static Lib.Math.min.name ∈ TB) (hini : Cond.initialized "java/lang/Math" ∈ TB) (hc : Cond.code Lib.Math.min.name Lib.Math.min.code 2 (some .int) ∈ TB) (hd : 1 ≤ dd) (hw : (st.map fun v => v.category).sum ≤ 8) (d : decode cc pc = .ok (.invokestatic idx, 3)) (kk : U Y G σ (pc + 3) lv (.int (if y < x then y else x) :: st)) : U Y G σ pc lv (.int y :: .int x :: st) := by
  obtain ⟨p, e, R, s, m, args, below, meth, c, Q, A, nL, ce, sl⟩ := Y
  obtain ⟨hx, hb, hml, hown, hts, hnb, hK, hA, hlk, hR, hZ⟩ := F
  intro H locs ls hP hD hS hl
  exact va_mmin hx hb (hml.trans hl.1.symm) hown (hts _ hm) (hts _ hs) (hts _ hini) (hts _ hc) (by omega) (by omega) hR.2.2.1 hR.2.2.2 d (kk H locs ls hP hD hS hl)
theorem u_abs (F : Fx Y G cc own dd) {idx : Nat} {x : Int32} (hm : Cond.methodLink own idx Lib.Math.abs.name ∈ TB) (hs : Cond.static Lib.Math.abs.name ∈ TB) (hini : Cond.initialized "java/lang/Math" ∈ TB) (hc : Cond.code Lib.Math.abs.name Lib.Math.abs.code 1 (some .int) ∈ TB) (hd : 1 ≤ dd) (hw : (st.map fun v => v.category).sum ≤ 8) (d : decode cc pc = .ok (.invokestatic idx, 3)) (kk : U Y G σ (pc + 3) lv (.int (if 0 ≤ x then x else 0 - x) :: st)) : U Y G σ pc lv (.int x :: st) := by
  obtain ⟨p, e, R, s, m, args, below, meth, c, Q, A, nL, ce, sl⟩ := Y
  obtain ⟨hx, hb, hml, hown, hts, hnb, hK, hA, hlk, hR, hZ⟩ := F
  intro H locs ls hP hD hS hl
  exact va_mabs hx hb (hml.trans hl.1.symm) hown (hts _ hm) (hts _ hs) (hts _ hini) (hts _ hc) (by omega) (by omega) hR.2.2.1 hR.2.2.2 d (kk H locs ls hP hD hS hl)
end UJdk
end
section
theorem ik_0 : ∀ w ∈ u_ws RX0 TX0 3, w ∈ TB := by decide +kernel
theorem ck_0 : CK 0 := ⟨RX0, TX0, 3, tyX0, rfl, rfl, ik_0, tyX0_ok, nmX0, rfl⟩
theorem ik_1 : ∀ w ∈ u_ws RX1 TX1 1, w ∈ TB := by decide +kernel
theorem ck_1 : CK 1 := ⟨RX1, TX1, 1, tyX1, rfl, rfl, ik_1, tyX1_ok, nmX1, rfl⟩
theorem ik_2 : ∀ w ∈ u_ws RX2 TX2 3, w ∈ TB := by decide +kernel
theorem ck_2 : CK 2 := ⟨RX2, TX2, 3, tyX2, rfl, rfl, ik_2, tyX2_ok, nmX2, rfl⟩
theorem ik_3 : ∀ w ∈ u_ws RX3 TX3 3, w ∈ TB := by decide +kernel
theorem ck_3 : CK 3 := ⟨RX3, TX3, 3, tyX3, rfl, rfl, ik_3, tyX3_ok, nmX3, rfl⟩
theorem ik_4 : ∀ w ∈ u_ws RX4 TX4 13, w ∈ TB := by decide +kernel
theorem ck_4 : CK 4 := ⟨RX4, TX4, 13, tyX4, rfl, rfl, ik_4, tyX4_ok, nmX4, rfl⟩
theorem ik_5 : ∀ w ∈ u_ws RX5 TX5 5, w ∈ TB := by decide +kernel
theorem ck_5 : CK 5 := ⟨RX5, TX5, 5, tyX5, rfl, rfl, ik_5, tyX5_ok, nmX5, rfl⟩
theorem ik_6 : ∀ w ∈ u_ws RX6 TX6 2, w ∈ TB := by decide +kernel
theorem ck_6 : CK 6 := ⟨RX6, TX6, 2, tyX6, rfl, rfl, ik_6, tyX6_ok, nmX6, rfl⟩
theorem ik_7 : ∀ w ∈ u_ws RX7 TX7 13, w ∈ TB := by decide +kernel
theorem ck_7 : CK 7 := ⟨RX7, TX7, 13, tyX7, rfl, rfl, ik_7, tyX7_ok, nmX7, rfl⟩
theorem ik_8 : ∀ w ∈ u_ws RX8 TX8 3, w ∈ TB := by decide +kernel
theorem ck_8 : CK 8 := ⟨RX8, TX8, 3, tyX8, rfl, rfl, ik_8, tyX8_ok, nmX8, rfl⟩
theorem ik_9 : ∀ w ∈ u_ws RX9 TX9 2, w ∈ TB := by decide +kernel
theorem ck_9 : CK 9 := ⟨RX9, TX9, 2, tyX9, rfl, rfl, ik_9, tyX9_ok, nmX9, rfl⟩
theorem ik_10 : ∀ w ∈ u_ws RX10 TX10 12, w ∈ TB := by decide +kernel
theorem ck_10 : CK 10 := ⟨RX10, TX10, 12, tyX10, rfl, rfl, ik_10, tyX10_ok, nmX10, rfl⟩
theorem ik_11 : ∀ w ∈ u_ws RX11 TX11 46, w ∈ TB := by decide +kernel
theorem ck_11 : CK 11 := ⟨RX11, TX11, 46, tyX11, rfl, rfl, ik_11, tyX11_ok, nmX11, rfl⟩
theorem fl_10_10 : FL RX10 10 10 0 := Or.inl (tb_of (i := 313) (by decide +kernel) rfl)
theorem fl_10_19 : FL RX10 19 10 1 := Or.inl (tb_of (i := 314) (by decide +kernel) rfl)
theorem fl_10_26 : FL RX10 26 10 2 := Or.inl (tb_of (i := 315) (by decide +kernel) rfl)
theorem fl_10_35 : FL RX10 35 10 3 := Or.inl (tb_of (i := 316) (by decide +kernel) rfl)
theorem fl_10_39 : FL RX10 39 10 4 := Or.inl (tb_of (i := 317) (by decide +kernel) rfl)
theorem fl_10_45 : FL RX10 45 10 5 := Or.inl (tb_of (i := 318) (by decide +kernel) rfl)
theorem fl_10_52 : FL RX10 52 10 6 := Or.inl (tb_of (i := 319) (by decide +kernel) rfl)
theorem fl_10_59 : FL RX10 59 10 7 := Or.inl (tb_of (i := 320) (by decide +kernel) rfl)
theorem fl_10_66 : FL RX10 66 10 8 := Or.inl (tb_of (i := 321) (by decide +kernel) rfl)
theorem fl_10_73 : FL RX10 73 10 9 := Or.inl (tb_of (i := 322) (by decide +kernel) rfl)
theorem fl_10_80 : FL RX10 80 10 10 := Or.inl (tb_of (i := 323) (by decide +kernel) rfl)
theorem fl_10_84 : FL RX10 84 10 11 := Or.inl (tb_of (i := 324) (by decide +kernel) rfl)
theorem fl_10_99 : FL RX10 99 9 1 := Or.inr ⟨"RollingCodes", nb_of (i := 32) (by decide +kernel) rfl⟩
theorem fl_10_108 : FL RX10 108 5 4 := Or.inr ⟨"RollingCodes", nb_of (i := 123) (by decide +kernel) rfl⟩
theorem fl_10_109 : FL RX10 109 5 3 := Or.inr ⟨"RollingCodes", nb_of (i := 121) (by decide +kernel) rfl⟩
theorem fl_10_112 : FL RX10 112 5 0 := Or.inr ⟨"RollingCodes", nb_of (i := 117) (by decide +kernel) rfl⟩
theorem fl_10_123 : FL RX10 123 4 4 := Or.inr ⟨"RollingCodes", nb_of (i := 65) (by decide +kernel) rfl⟩
theorem fl_10_126 : FL RX10 126 4 0 := Or.inr ⟨"RollingCodes", nb_of (i := 54) (by decide +kernel) rfl⟩
theorem fl_10_130 : FL RX10 130 4 3 := Or.inr ⟨"RollingCodes", nb_of (i := 62) (by decide +kernel) rfl⟩
theorem fl_10_133 : FL RX10 133 7 1 := Or.inr ⟨"RollingCodes", nb_of (i := 145) (by decide +kernel) rfl⟩
theorem fl_10_136 : FL RX10 136 7 2 := Or.inr ⟨"RollingCodes", nb_of (i := 147) (by decide +kernel) rfl⟩
theorem fl_10_139 : FL RX10 139 4 2 := Or.inr ⟨"RollingCodes", nb_of (i := 58) (by decide +kernel) rfl⟩
theorem fl_10_142 : FL RX10 142 7 4 := Or.inr ⟨"RollingCodes", nb_of (i := 152) (by decide +kernel) rfl⟩
theorem fl_10_145 : FL RX10 145 7 3 := Or.inr ⟨"RollingCodes", nb_of (i := 149) (by decide +kernel) rfl⟩
theorem fl_10_152 : FL RX10 152 8 2 := Or.inr ⟨"RollingCodes", nb_of (i := 260) (by decide +kernel) rfl⟩
theorem fl_10_155 : FL RX10 155 0 2 := Or.inr ⟨"RollingCodes", nb_of (i := 277) (by decide +kernel) rfl⟩
theorem fl_10_156 : FL RX10 156 3 2 := Or.inr ⟨"RollingCodes", nb_of (i := 208) (by decide +kernel) rfl⟩
theorem fl_10_161 : FL RX10 161 4 8 := Or.inr ⟨"RollingCodes", nb_of (i := 77) (by decide +kernel) rfl⟩
theorem fl_10_165 : FL RX10 165 7 6 := Or.inr ⟨"RollingCodes", nb_of (i := 156) (by decide +kernel) rfl⟩
theorem fl_10_168 : FL RX10 168 4 10 := Or.inr ⟨"RollingCodes", nb_of (i := 82) (by decide +kernel) rfl⟩
theorem fl_10_171 : FL RX10 171 4 11 := Or.inr ⟨"RollingCodes", nb_of (i := 85) (by decide +kernel) rfl⟩
theorem fl_10_174 : FL RX10 174 7 7 := Or.inr ⟨"RollingCodes", nb_of (i := 158) (by decide +kernel) rfl⟩
theorem fl_10_177 : FL RX10 177 7 8 := Or.inr ⟨"RollingCodes", nb_of (i := 160) (by decide +kernel) rfl⟩
theorem fl_10_187 : FL RX10 187 4 5 := Or.inr ⟨"RollingCodes", nb_of (i := 69) (by decide +kernel) rfl⟩
theorem fl_10_190 : FL RX10 190 4 6 := Or.inr ⟨"RollingCodes", nb_of (i := 72) (by decide +kernel) rfl⟩
theorem fl_10_193 : FL RX10 193 4 7 := Or.inr ⟨"RollingCodes", nb_of (i := 75) (by decide +kernel) rfl⟩
theorem fl_10_196 : FL RX10 196 7 9 := Or.inr ⟨"RollingCodes", nb_of (i := 163) (by decide +kernel) rfl⟩
theorem fl_10_199 : FL RX10 199 7 10 := Or.inr ⟨"RollingCodes", nb_of (i := 165) (by decide +kernel) rfl⟩
theorem fl_10_202 : FL RX10 202 7 11 := Or.inr ⟨"RollingCodes", nb_of (i := 167) (by decide +kernel) rfl⟩
theorem fl_10_219 : FL RX10 219 7 5 := Or.inr ⟨"RollingCodes", nb_of (i := 154) (by decide +kernel) rfl⟩
theorem fl_10_276 : FL RX10 276 6 1 := Or.inr ⟨"RollingCodes", nb_of (i := 245) (by decide +kernel) rfl⟩
theorem fl_10_310 : FL RX10 310 1 0 := Or.inr ⟨"RollingCodes", nb_of (i := 293) (by decide +kernel) rfl⟩
theorem fl_0_9 : FL RX0 9 0 0 := Or.inl (tb_of (i := 274) (by decide +kernel) rfl)
theorem fl_0_15 : FL RX0 15 0 1 := Or.inl (tb_of (i := 275) (by decide +kernel) rfl)
theorem fl_0_18 : FL RX0 18 0 2 := Or.inl (tb_of (i := 276) (by decide +kernel) rfl)
theorem fl_0_22 : FL RX0 22 7 9 := Or.inr ⟨"RollingCodes", nb_of (i := 162) (by decide +kernel) rfl⟩
theorem fl_1_7 : FL RX1 7 1 0 := Or.inl (tb_of (i := 291) (by decide +kernel) rfl)
theorem fl_2_11 : FL RX2 11 2 0 := Or.inl (tb_of (i := 224) (by decide +kernel) rfl)
theorem fl_2_17 : FL RX2 17 2 1 := Or.inl (tb_of (i := 225) (by decide +kernel) rfl)
theorem fl_2_21 : FL RX2 21 2 2 := Or.inl (tb_of (i := 226) (by decide +kernel) rfl)
theorem fl_2_32 : FL RX2 32 1 0 := Or.inr ⟨"RollingCodes", nb_of (i := 292) (by decide +kernel) rfl⟩
theorem fl_3_11 : FL RX3 11 3 0 := Or.inl (tb_of (i := 205) (by decide +kernel) rfl)
theorem fl_3_20 : FL RX3 20 3 1 := Or.inl (tb_of (i := 206) (by decide +kernel) rfl)
theorem fl_3_28 : FL RX3 28 3 2 := Or.inl (tb_of (i := 207) (by decide +kernel) rfl)
theorem fl_4_9 : FL RX4 9 4 5 := Or.inl (tb_of (i := 68) (by decide +kernel) rfl)
theorem fl_4_15 : FL RX4 15 4 6 := Or.inl (tb_of (i := 71) (by decide +kernel) rfl)
theorem fl_4_18 : FL RX4 18 4 7 := Or.inl (tb_of (i := 74) (by decide +kernel) rfl)
theorem fl_4_21 : FL RX4 21 4 8 := Or.inl (tb_of (i := 76) (by decide +kernel) rfl)
theorem fl_4_24 : FL RX4 24 4 9 := Or.inl (tb_of (i := 79) (by decide +kernel) rfl)
theorem fl_4_27 : FL RX4 27 4 10 := Or.inl (tb_of (i := 81) (by decide +kernel) rfl)
theorem fl_4_30 : FL RX4 30 4 11 := Or.inl (tb_of (i := 84) (by decide +kernel) rfl)
theorem fl_4_33 : FL RX4 33 4 12 := Or.inl (tb_of (i := 87) (by decide +kernel) rfl)
theorem fl_4_36 : FL RX4 36 4 0 := Or.inl (tb_of (i := 52) (by decide +kernel) rfl)
theorem fl_4_40 : FL RX4 40 4 1 := Or.inl (tb_of (i := 55) (by decide +kernel) rfl)
theorem fl_4_44 : FL RX4 44 4 2 := Or.inl (tb_of (i := 57) (by decide +kernel) rfl)
theorem fl_4_47 : FL RX4 47 4 3 := Or.inl (tb_of (i := 60) (by decide +kernel) rfl)
theorem fl_4_50 : FL RX4 50 4 4 := Or.inl (tb_of (i := 64) (by decide +kernel) rfl)
theorem fl_5_12 : FL RX5 12 5 0 := Or.inl (tb_of (i := 116) (by decide +kernel) rfl)
theorem fl_5_18 : FL RX5 18 5 1 := Or.inl (tb_of (i := 118) (by decide +kernel) rfl)
theorem fl_5_25 : FL RX5 25 5 2 := Or.inl (tb_of (i := 119) (by decide +kernel) rfl)
theorem fl_5_29 : FL RX5 29 5 3 := Or.inl (tb_of (i := 120) (by decide +kernel) rfl)
theorem fl_5_32 : FL RX5 32 5 4 := Or.inl (tb_of (i := 122) (by decide +kernel) rfl)
theorem fl_5_39 : FL RX5 39 9 1 := Or.inr ⟨"RollingCodes", nb_of (i := 33) (by decide +kernel) rfl⟩
theorem fl_5_87 : FL RX5 87 4 0 := Or.inr ⟨"RollingCodes", nb_of (i := 53) (by decide +kernel) rfl⟩
theorem fl_5_91 : FL RX5 91 4 3 := Or.inr ⟨"RollingCodes", nb_of (i := 61) (by decide +kernel) rfl⟩
theorem fl_5_94 : FL RX5 94 4 4 := Or.inr ⟨"RollingCodes", nb_of (i := 66) (by decide +kernel) rfl⟩
theorem fl_6_11 : FL RX6 11 6 0 := Or.inl (tb_of (i := 243) (by decide +kernel) rfl)
theorem fl_6_17 : FL RX6 17 6 1 := Or.inl (tb_of (i := 244) (by decide +kernel) rfl)
theorem fl_6_36 : FL RX6 36 7 4 := Or.inr ⟨"RollingCodes", nb_of (i := 151) (by decide +kernel) rfl⟩
theorem fl_7_9 : FL RX7 9 7 5 := Or.inl (tb_of (i := 153) (by decide +kernel) rfl)
theorem fl_7_15 : FL RX7 15 7 6 := Or.inl (tb_of (i := 155) (by decide +kernel) rfl)
theorem fl_7_18 : FL RX7 18 7 7 := Or.inl (tb_of (i := 157) (by decide +kernel) rfl)
theorem fl_7_21 : FL RX7 21 7 8 := Or.inl (tb_of (i := 159) (by decide +kernel) rfl)
theorem fl_7_24 : FL RX7 24 7 9 := Or.inl (tb_of (i := 161) (by decide +kernel) rfl)
theorem fl_7_27 : FL RX7 27 7 10 := Or.inl (tb_of (i := 164) (by decide +kernel) rfl)
theorem fl_7_30 : FL RX7 30 7 11 := Or.inl (tb_of (i := 166) (by decide +kernel) rfl)
theorem fl_7_33 : FL RX7 33 7 12 := Or.inl (tb_of (i := 168) (by decide +kernel) rfl)
theorem fl_7_36 : FL RX7 36 7 0 := Or.inl (tb_of (i := 143) (by decide +kernel) rfl)
theorem fl_7_40 : FL RX7 40 7 1 := Or.inl (tb_of (i := 144) (by decide +kernel) rfl)
theorem fl_7_44 : FL RX7 44 4 1 := Or.inr ⟨"RollingCodes", nb_of (i := 56) (by decide +kernel) rfl⟩
theorem fl_7_49 : FL RX7 49 7 2 := Or.inl (tb_of (i := 146) (by decide +kernel) rfl)
theorem fl_7_50 : FL RX7 50 7 3 := Or.inl (tb_of (i := 148) (by decide +kernel) rfl)
theorem fl_7_53 : FL RX7 53 7 4 := Or.inl (tb_of (i := 150) (by decide +kernel) rfl)
theorem fl_7_56 : FL RX7 56 4 9 := Or.inr ⟨"RollingCodes", nb_of (i := 80) (by decide +kernel) rfl⟩
theorem fl_7_59 : FL RX7 59 4 12 := Or.inr ⟨"RollingCodes", nb_of (i := 88) (by decide +kernel) rfl⟩
theorem fl_7_76 : FL RX7 76 4 3 := Or.inr ⟨"RollingCodes", nb_of (i := 63) (by decide +kernel) rfl⟩
theorem fl_7_79 : FL RX7 79 4 11 := Or.inr ⟨"RollingCodes", nb_of (i := 86) (by decide +kernel) rfl⟩
theorem fl_7_110 : FL RX7 110 4 2 := Or.inr ⟨"RollingCodes", nb_of (i := 59) (by decide +kernel) rfl⟩
theorem fl_7_117 : FL RX7 117 4 8 := Or.inr ⟨"RollingCodes", nb_of (i := 78) (by decide +kernel) rfl⟩
theorem fl_7_120 : FL RX7 120 4 10 := Or.inr ⟨"RollingCodes", nb_of (i := 83) (by decide +kernel) rfl⟩
theorem fl_7_130 : FL RX7 130 4 6 := Or.inr ⟨"RollingCodes", nb_of (i := 73) (by decide +kernel) rfl⟩
theorem fl_7_150 : FL RX7 150 4 4 := Or.inr ⟨"RollingCodes", nb_of (i := 67) (by decide +kernel) rfl⟩
theorem fl_7_159 : FL RX7 159 4 5 := Or.inr ⟨"RollingCodes", nb_of (i := 70) (by decide +kernel) rfl⟩
theorem fl_8_9 : FL RX8 9 8 0 := Or.inl (tb_of (i := 257) (by decide +kernel) rfl)
theorem fl_8_15 : FL RX8 15 8 1 := Or.inl (tb_of (i := 258) (by decide +kernel) rfl)
theorem fl_8_19 : FL RX8 19 8 2 := Or.inl (tb_of (i := 259) (by decide +kernel) rfl)
theorem fl_9_9 : FL RX9 9 9 0 := Or.inl (tb_of (i := 30) (by decide +kernel) rfl)
theorem fl_9_15 : FL RX9 15 9 1 := Or.inl (tb_of (i := 31) (by decide +kernel) rfl)
theorem fl_11_7 : FL RX11 7 11 4 := Or.inl (tb_of (i := 850) (by decide +kernel) rfl)
theorem fl_11_13 : FL RX11 13 11 5 := Or.inl (tb_of (i := 851) (by decide +kernel) rfl)
theorem fl_11_16 : FL RX11 16 11 6 := Or.inl (tb_of (i := 852) (by decide +kernel) rfl)
theorem fl_11_19 : FL RX11 19 11 8 := Or.inl (tb_of (i := 854) (by decide +kernel) rfl)
theorem fl_11_22 : FL RX11 22 11 9 := Or.inl (tb_of (i := 855) (by decide +kernel) rfl)
theorem fl_11_25 : FL RX11 25 11 10 := Or.inl (tb_of (i := 856) (by decide +kernel) rfl)
theorem fl_11_28 : FL RX11 28 11 11 := Or.inl (tb_of (i := 857) (by decide +kernel) rfl)
theorem fl_11_31 : FL RX11 31 11 12 := Or.inl (tb_of (i := 858) (by decide +kernel) rfl)
theorem fl_11_34 : FL RX11 34 11 13 := Or.inl (tb_of (i := 859) (by decide +kernel) rfl)
theorem fl_11_37 : FL RX11 37 11 15 := Or.inl (tb_of (i := 861) (by decide +kernel) rfl)
theorem fl_11_40 : FL RX11 40 11 17 := Or.inl (tb_of (i := 863) (by decide +kernel) rfl)
theorem fl_11_44 : FL RX11 44 11 21 := Or.inl (tb_of (i := 867) (by decide +kernel) rfl)
theorem fl_11_47 : FL RX11 47 11 23 := Or.inl (tb_of (i := 869) (by decide +kernel) rfl)
theorem fl_11_50 : FL RX11 50 11 24 := Or.inl (tb_of (i := 870) (by decide +kernel) rfl)
theorem fl_11_53 : FL RX11 53 11 25 := Or.inl (tb_of (i := 871) (by decide +kernel) rfl)
theorem fl_11_56 : FL RX11 56 11 27 := Or.inl (tb_of (i := 873) (by decide +kernel) rfl)
theorem fl_11_59 : FL RX11 59 11 28 := Or.inl (tb_of (i := 874) (by decide +kernel) rfl)
theorem fl_11_62 : FL RX11 62 11 29 := Or.inl (tb_of (i := 875) (by decide +kernel) rfl)
theorem fl_11_65 : FL RX11 65 11 30 := Or.inl (tb_of (i := 876) (by decide +kernel) rfl)
theorem fl_11_68 : FL RX11 68 11 31 := Or.inl (tb_of (i := 877) (by decide +kernel) rfl)
theorem fl_11_71 : FL RX11 71 11 33 := Or.inl (tb_of (i := 879) (by decide +kernel) rfl)
theorem fl_11_74 : FL RX11 74 11 34 := Or.inl (tb_of (i := 880) (by decide +kernel) rfl)
theorem fl_11_77 : FL RX11 77 11 38 := Or.inl (tb_of (i := 884) (by decide +kernel) rfl)
theorem fl_11_80 : FL RX11 80 11 39 := Or.inl (tb_of (i := 885) (by decide +kernel) rfl)
theorem fl_11_83 : FL RX11 83 11 40 := Or.inl (tb_of (i := 886) (by decide +kernel) rfl)
theorem fl_11_86 : FL RX11 86 11 42 := Or.inl (tb_of (i := 888) (by decide +kernel) rfl)
theorem fl_11_89 : FL RX11 89 11 43 := Or.inl (tb_of (i := 889) (by decide +kernel) rfl)
theorem fl_11_92 : FL RX11 92 11 44 := Or.inl (tb_of (i := 890) (by decide +kernel) rfl)
theorem fl_11_95 : FL RX11 95 11 45 := Or.inl (tb_of (i := 891) (by decide +kernel) rfl)
theorem fl_11_99 : FL RX11 99 11 3 := Or.inl (tb_of (i := 849) (by decide +kernel) rfl)
theorem fl_11_102 : FL RX11 102 11 7 := Or.inl (tb_of (i := 853) (by decide +kernel) rfl)
theorem fl_11_112 : FL RX11 112 11 16 := Or.inl (tb_of (i := 862) (by decide +kernel) rfl)
theorem fl_11_116 : FL RX11 116 11 18 := Or.inl (tb_of (i := 864) (by decide +kernel) rfl)
theorem fl_11_131 : FL RX11 131 11 19 := Or.inl (tb_of (i := 865) (by decide +kernel) rfl)
theorem fl_11_137 : FL RX11 137 11 20 := Or.inl (tb_of (i := 866) (by decide +kernel) rfl)
theorem fl_11_145 : FL RX11 145 11 22 := Or.inl (tb_of (i := 868) (by decide +kernel) rfl)
theorem fl_11_148 : FL RX11 148 11 26 := Or.inl (tb_of (i := 872) (by decide +kernel) rfl)
theorem fl_11_160 : FL RX11 160 11 1 := Or.inl (tb_of (i := 847) (by decide +kernel) rfl)
theorem fl_11_163 : FL RX11 163 11 0 := Or.inl (tb_of (i := 846) (by decide +kernel) rfl)
theorem fl_11_166 : FL RX11 166 11 2 := Or.inl (tb_of (i := 848) (by decide +kernel) rfl)
theorem fl_11_182 : FL RX11 182 11 37 := Or.inl (tb_of (i := 883) (by decide +kernel) rfl)
theorem fl_11_185 : FL RX11 185 11 41 := Or.inl (tb_of (i := 887) (by decide +kernel) rfl)
theorem fl_11_188 : FL RX11 188 11 32 := Or.inl (tb_of (i := 878) (by decide +kernel) rfl)
theorem fl_11_257 : FL RX11 257 11 14 := Or.inl (tb_of (i := 860) (by decide +kernel) rfl)
theorem fl_11_298 : FL RX11 298 11 35 := Or.inl (tb_of (i := 881) (by decide +kernel) rfl)
theorem fl_11_301 : FL RX11 301 11 36 := Or.inl (tb_of (i := 882) (by decide +kernel) rfl)
theorem kc_10_94 : Cond.constant RX10 94 (-1000000002) ∈ TB := tb_of (i := 354) (by decide +kernel) rfl
theorem kc_10_102 : Cond.constant RX10 102 (-1000000004) ∈ TB := tb_of (i := 359) (by decide +kernel) rfl
theorem kc_10_160 : Cond.constant RX10 160 (-1000000001) ∈ TB := tb_of (i := 478) (by decide +kernel) rfl
theorem kc_10_225 : Cond.constant RX10 225 (-1000000003) ∈ TB := tb_of (i := 614) (by decide +kernel) rfl
theorem kc_10_288 : Cond.constantLong RX10 288 (1000000000) ∈ TB := tb_of (i := 750) (by decide +kernel) rfl
theorem kc_10_290 : Cond.constantLong RX10 290 (100) ∈ TB := tb_of (i := 751) (by decide +kernel) rfl
theorem kc_1_13 : Cond.constantLong RX1 13 (1103515245) ∈ TB := tb_of (i := 670) (by decide +kernel) rfl
theorem kc_1_15 : Cond.constantLong RX1 15 (12345) ∈ TB := tb_of (i := 671) (by decide +kernel) rfl
theorem kc_1_17 : Cond.constantLong RX1 17 (2147483647) ∈ TB := tb_of (i := 672) (by decide +kernel) rfl
theorem kc_1_19 : Cond.constant RX1 19 (65536) ∈ TB := tb_of (i := 673) (by decide +kernel) rfl
theorem kc_11_109 : Cond.constantLong RX11 109 (255) ∈ TB := tb_of (i := 989) (by decide +kernel) rfl
theorem kc_11_111 : Cond.constant RX11 111 (-1000000002) ∈ TB := tb_of (i := 993) (by decide +kernel) rfl
theorem kc_11_115 : Cond.constant RX11 115 (-1000000004) ∈ TB := tb_of (i := 994) (by decide +kernel) rfl
theorem kc_11_123 : Cond.constantLong RX11 123 (48) ∈ TB := tb_of (i := 1023) (by decide +kernel) rfl
theorem kc_11_125 : Cond.constantLong RX11 125 (57) ∈ TB := tb_of (i := 1024) (by decide +kernel) rfl
theorem kc_11_191 : Cond.constantLong RX11 191 (9999) ∈ TB := tb_of (i := 1052) (by decide +kernel) rfl
theorem kc_11_237 : Cond.constant RX11 237 (-1000000001) ∈ TB := tb_of (i := 1072) (by decide +kernel) rfl
theorem kc_11_248 : Cond.constant RX11 248 (-1000000003) ∈ TB := tb_of (i := 1158) (by decide +kernel) rfl
theorem kc_11_255 : Cond.constantLong RX11 255 (9) ∈ TB := tb_of (i := 1167) (by decide +kernel) rfl
theorem kc_11_260 : Cond.constantLong RX11 260 (1103515245) ∈ TB := tb_of (i := 1201) (by decide +kernel) rfl
theorem kc_11_262 : Cond.constantLong RX11 262 (12345) ∈ TB := tb_of (i := 1202) (by decide +kernel) rfl
theorem kc_11_264 : Cond.constantLong RX11 264 (2147483648) ∈ TB := tb_of (i := 1203) (by decide +kernel) rfl
theorem kc_11_266 : Cond.constant RX11 266 (65536) ∈ TB := tb_of (i := 1204) (by decide +kernel) rfl
theorem kc_11_270 : Cond.constantLong RX11 270 (60) ∈ TB := tb_of (i := 1192) (by decide +kernel) rfl
theorem kc_11_281 : Cond.constantLong RX11 281 (-1) ∈ TB := tb_of (i := 1213) (by decide +kernel) rfl
theorem kc_11_310 : Cond.constantLong RX11 310 (508) ∈ TB := tb_of (i := 1254) (by decide +kernel) rfl
theorem kc_11_315 : Cond.constantLong RX11 315 (100) ∈ TB := tb_of (i := 1267) (by decide +kernel) rfl
theorem kc_11_317 : Cond.constantLong RX11 317 (1000000000) ∈ TB := tb_of (i := 1268) (by decide +kernel) rfl
theorem kc_11_319 : Cond.constantLong RX11 319 (999) ∈ TB := tb_of (i := 1273) (by decide +kernel) rfl
theorem kc_11_324 : Cond.constantLong RX11 324 (2) ∈ TB := tb_of (i := 1278) (by decide +kernel) rfl
theorem ml_10_88 : ML RX10 88 yX7_begin := Or.inr ⟨"RollingCodes", nb_of (i := 297) (by decide +kernel) rfl⟩
theorem ml_10_91 : ML RX10 91 yX8_clear := Or.inr ⟨"RollingCodes", nb_of (i := 309) (by decide +kernel) rfl⟩
theorem ml_10_95 : ML RX10 95 yX9_add := Or.inr ⟨"RollingCodes", nb_of (i := 355) (by decide +kernel) rfl⟩
theorem ml_10_103 : ML RX10 103 yX5_read := Or.inr ⟨"RollingCodes", nb_of (i := 364) (by decide +kernel) rfl⟩
theorem ml_10_107 : ML RX10 107 yX9_clear := Or.inr ⟨"RollingCodes", nb_of (i := 435) (by decide +kernel) rfl⟩
theorem ml_10_115 : ML RX10 115 yX4_copyFrom := Or.inr ⟨"RollingCodes", nb_of (i := 439) (by decide +kernel) rfl⟩
theorem ml_10_118 : ML RX10 118 yX3_forget := Or.inr ⟨"RollingCodes", nb_of (i := 446) (by decide +kernel) rfl⟩
theorem ml_10_121 : ML RX10 121 yX2_forget := Or.inr ⟨"RollingCodes", nb_of (i := 450) (by decide +kernel) rfl⟩
theorem ml_10_122 : ML RX10 122 yX0_clear := Or.inr ⟨"RollingCodes", nb_of (i := 454) (by decide +kernel) rfl⟩
theorem ml_10_148 : ML RX10 148 yX7_allOpenings := Or.inr ⟨"RollingCodes", nb_of (i := 466) (by decide +kernel) rfl⟩
theorem ml_10_157 : ML RX10 157 yX4_isFob := Or.inr ⟨"RollingCodes", nb_of (i := 474) (by decide +kernel) rfl⟩
theorem mk_10_180 : Cond.methodLink RX10 180 yX10_bestPlace ∈ TB := tb_of (i := 479) (by decide +kernel) rfl
theorem ml_10_180 : ML RX10 180 yX10_bestPlace := Or.inl mk_10_180
theorem ml_10_184 : ML RX10 184 yX4_isGate := Or.inr ⟨"RollingCodes", nb_of (i := 579) (by decide +kernel) rfl⟩
theorem mk_10_205 : Cond.methodLink RX10 205 yX10_usefulAt ∈ TB := tb_of (i := 583) (by decide +kernel) rfl
theorem ml_10_205 : ML RX10 205 yX10_usefulAt := Or.inl mk_10_205
theorem mk_10_208 : Cond.methodLink RX10 208 yX10_areKnown ∈ TB := tb_of (i := 592) (by decide +kernel) rfl
theorem ml_10_208 : ML RX10 208 yX10_areKnown := Or.inl mk_10_208
theorem ml_10_212 : ML RX10 212 yX7_lastOf := Or.inr ⟨"RollingCodes", nb_of (i := 596) (by decide +kernel) rfl⟩
theorem ml_10_216 : ML RX10 216 yX7_isKept := Or.inr ⟨"RollingCodes", nb_of (i := 601) (by decide +kernel) rfl⟩
theorem mk_10_222 : Cond.methodLink RX10 222 yX10_codeOf ∈ TB := tb_of (i := 609) (by decide +kernel) rfl
theorem ml_10_222 : ML RX10 222 yX10_codeOf := Or.inl mk_10_222
theorem ml_10_226 : ML RX10 226 yX3_remember := Or.inr ⟨"RollingCodes", nb_of (i := 615) (by decide +kernel) rfl⟩
theorem ml_10_230 : ML RX10 230 yX7_pressedFrom := Or.inr ⟨"RollingCodes", nb_of (i := 492) (by decide +kernel) rfl⟩
theorem mk_10_233 : Cond.methodLink RX10 233 yX10_isPlace ∈ TB := tb_of (i := 625) (by decide +kernel) rfl
theorem ml_10_233 : ML RX10 233 yX10_isPlace := Or.inl mk_10_233
theorem ml_10_236 : ML RX10 236 yX7_isNoisy := Or.inr ⟨"RollingCodes", nb_of (i := 636) (by decide +kernel) rfl⟩
theorem ml_10_239 : ML RX10 239 yX7_turnNoise := Or.inr ⟨"RollingCodes", nb_of (i := 637) (by decide +kernel) rfl⟩
theorem ml_10_243 : ML RX10 243 yX7_taught := Or.inr ⟨"RollingCodes", nb_of (i := 645) (by decide +kernel) rfl⟩
theorem ml_10_247 : ML RX10 247 yX7_sentAgain := Or.inr ⟨"RollingCodes", nb_of (i := 650) (by decide +kernel) rfl⟩
theorem mk_10_250 : Cond.methodLink RX10 250 yX10_passHour ∈ TB := tb_of (i := 662) (by decide +kernel) rfl
theorem ml_10_250 : ML RX10 250 yX10_passHour := Or.inl mk_10_250
theorem ml_10_253 : ML RX10 253 yX3_takeBack := Or.inr ⟨"RollingCodes", nb_of (i := 678) (by decide +kernel) rfl⟩
theorem mk_10_256 : Cond.methodLink RX10 256 yX10_opensFrom ∈ TB := tb_of (i := 483) (by decide +kernel) rfl
theorem ml_10_256 : ML RX10 256 yX10_opensFrom := Or.inl mk_10_256
theorem mk_10_259 : Cond.methodLink RX10 259 yJ9_floorMod_7cf53 ∈ TB := tb_of (i := 690) (by decide +kernel) rfl
theorem ml_10_259 : ML RX10 259 yJ9_floorMod_7cf53 := Or.inl mk_10_259
theorem ml_10_264 : ML RX10 264 yX7_copyFrom := Or.inr ⟨"RollingCodes", nb_of (i := 487) (by decide +kernel) rfl⟩
theorem ml_10_266 : ML RX10 266 yX7_pressedUnheard := Or.inr ⟨"RollingCodes", nb_of (i := 697) (by decide +kernel) rfl⟩
theorem ml_10_269 : ML RX10 269 yX7_opensBeside := Or.inr ⟨"RollingCodes", nb_of (i := 701) (by decide +kernel) rfl⟩
theorem ml_10_272 : ML RX10 272 yX6_find := Or.inr ⟨"RollingCodes", nb_of (i := 713) (by decide +kernel) rfl⟩
theorem mk_10_279 : Cond.methodLink RX10 279 yX10_isCode ∈ TB := tb_of (i := 734) (by decide +kernel) rfl
theorem ml_10_279 : ML RX10 279 yX10_isCode := Or.inl mk_10_279
theorem mk_10_282 : Cond.methodLink RX10 282 yX10_couldSend ∈ TB := tb_of (i := 737) (by decide +kernel) rfl
theorem ml_10_282 : ML RX10 282 yX10_couldSend := Or.inl mk_10_282
theorem ml_10_285 : ML RX10 285 yX7_codeAhead := Or.inr ⟨"RollingCodes", nb_of (i := 741) (by decide +kernel) rfl⟩
theorem ml_10_292 : ML RX10 292 yX8_add := Or.inr ⟨"RollingCodes", nb_of (i := 756) (by decide +kernel) rfl⟩
theorem ml_10_294 : ML RX10 294 yX8_fitting := Or.inr ⟨"RollingCodes", nb_of (i := 765) (by decide +kernel) rfl⟩
theorem ml_10_297 : ML RX10 297 yX8_leastFitting := Or.inr ⟨"RollingCodes", nb_of (i := 769) (by decide +kernel) rfl⟩
theorem ml_10_300 : ML RX10 300 yX8_greatestFitting := Or.inr ⟨"RollingCodes", nb_of (i := 773) (by decide +kernel) rfl⟩
theorem ml_10_303 : ML RX10 303 yX8_bestQuestion := Or.inr ⟨"RollingCodes", nb_of (i := 781) (by decide +kernel) rfl⟩
theorem ml_10_306 : ML RX10 306 yX0_add := Or.inr ⟨"RollingCodes", nb_of (i := 795) (by decide +kernel) rfl⟩
theorem ml_10_307 : ML RX10 307 yX0_firstFalse := Or.inr ⟨"RollingCodes", nb_of (i := 807) (by decide +kernel) rfl⟩
theorem ml_10_313 : ML RX10 313 yX2_isImage := Or.inr ⟨"RollingCodes", nb_of (i := 819) (by decide +kernel) rfl⟩
theorem ml_10_316 : ML RX10 316 yX2_take := Or.inr ⟨"RollingCodes", nb_of (i := 823) (by decide +kernel) rfl⟩
theorem ml_10_320 : ML RX10 320 yX2_isTaken := Or.inr ⟨"RollingCodes", nb_of (i := 832) (by decide +kernel) rfl⟩
theorem ml_10_323 : ML RX10 323 yX2_bringBack := Or.inr ⟨"RollingCodes", nb_of (i := 836) (by decide +kernel) rfl⟩
theorem mk_10_326 : Cond.methodLink RX10 326 yJ6_bitCount_0f7a4 ∈ TB := tb_of (i := 569) (by decide +kernel) rfl
theorem ml_10_326 : ML RX10 326 yJ6_bitCount_0f7a4 := Or.inl mk_10_326
theorem ml_10_331 : ML RX10 331 yX7_hears := Or.inr ⟨"RollingCodes", nb_of (i := 587) (by decide +kernel) rfl⟩
theorem ml_10_334 : ML RX10 334 yX1_next := Or.inr ⟨"RollingCodes", nb_of (i := 666) (by decide +kernel) rfl⟩
theorem ml_2_28 : ML RX2 28 yX7_copyFrom := Or.inr ⟨"RollingCodes", nb_of (i := 827) (by decide +kernel) rfl⟩
theorem ml_3_24 : ML RX3 24 yX7_copyFrom := Or.inr ⟨"RollingCodes", nb_of (i := 619) (by decide +kernel) rfl⟩
theorem mk_3_31 : Cond.methodLink RX3 31 Lib.Math.min.name ∈ TB := tb_of (i := 620) (by decide +kernel) rfl
theorem ml_3_31 : ML RX3 31 Lib.Math.min.name := Or.inl mk_3_31
theorem mk_4_53 : Cond.methodLink RX4 53 arraycopyName ∈ TB := tb_of (i := 443) (by decide +kernel) rfl
theorem ml_4_53 : ML RX4 53 arraycopyName := Or.inl mk_4_53
theorem ml_5_22 : ML RX5 22 yX4_clear := Or.inr ⟨"RollingCodes", nb_of (i := 368) (by decide +kernel) rfl⟩
theorem mk_5_35 : Cond.methodLink RX5 35 yX5_skipBlanks ∈ TB := tb_of (i := 372) (by decide +kernel) rfl
theorem ml_5_35 : ML RX5 35 yX5_skipBlanks := Or.inl mk_5_35
theorem mk_5_44 : Cond.methodLink RX5 44 yX5_readClause ∈ TB := tb_of (i := 380) (by decide +kernel) rfl
theorem ml_5_44 : ML RX5 44 yX5_readClause := Or.inl mk_5_44
theorem ml_5_47 : ML RX5 47 yX9_letterAt := Or.inr ⟨"RollingCodes", nb_of (i := 376) (by decide +kernel) rfl⟩
theorem mk_5_51 : Cond.methodLink RX5 51 yX5_faultOfWord ∈ TB := tb_of (i := 384) (by decide +kernel) rfl
theorem ml_5_51 : ML RX5 51 yX5_faultOfWord := Or.inl mk_5_51
theorem mk_5_54 : Cond.methodLink RX5 54 yX5_fail ∈ TB := tb_of (i := 388) (by decide +kernel) rfl
theorem ml_5_54 : ML RX5 54 yX5_fail := Or.inl mk_5_54
theorem mk_5_64 : Cond.methodLink RX5 64 yX5_readNumbers ∈ TB := tb_of (i := 396) (by decide +kernel) rfl
theorem ml_5_64 : ML RX5 64 yX5_readNumbers := Or.inl mk_5_64
theorem mk_5_80 : Cond.methodLink RX5 80 yX5_readEnd ∈ TB := tb_of (i := 415) (by decide +kernel) rfl
theorem ml_5_80 : ML RX5 80 yX5_readEnd := Or.inl mk_5_80
theorem mk_5_83 : Cond.methodLink RX5 83 yX5_enter ∈ TB := tb_of (i := 419) (by decide +kernel) rfl
theorem ml_5_83 : ML RX5 83 yX5_enter := Or.inl mk_5_83
theorem mk_5_97 : Cond.methodLink RX5 97 yX5_readNumber ∈ TB := tb_of (i := 400) (by decide +kernel) rfl
theorem ml_5_97 : ML RX5 97 yX5_readNumber := Or.inl mk_5_97
theorem mk_5_101 : Cond.methodLink RX5 101 yX5_isFigure ∈ TB := tb_of (i := 404) (by decide +kernel) rfl
theorem ml_5_101 : ML RX5 101 yX5_isFigure := Or.inl mk_5_101
theorem ml_5_105 : ML RX5 105 yX4_addEar := Or.inr ⟨"RollingCodes", nb_of (i := 423) (by decide +kernel) rfl⟩
theorem ml_5_109 : ML RX5 109 yX4_addGate := Or.inr ⟨"RollingCodes", nb_of (i := 427) (by decide +kernel) rfl⟩
theorem ml_5_112 : ML RX5 112 yX4_addFob := Or.inr ⟨"RollingCodes", nb_of (i := 431) (by decide +kernel) rfl⟩
theorem ml_6_24 : ML RX6 24 yX7_copyFrom := Or.inr ⟨"RollingCodes", nb_of (i := 717) (by decide +kernel) rfl⟩
theorem ml_6_28 : ML RX6 28 yX7_gatesInReach := Or.inr ⟨"RollingCodes", nb_of (i := 718) (by decide +kernel) rfl⟩
theorem mk_6_32 : Cond.methodLink RX6 32 yX6_canEnd ∈ TB := tb_of (i := 722) (by decide +kernel) rfl
theorem ml_6_32 : ML RX6 32 yX6_canEnd := Or.inl mk_6_32
theorem ml_6_40 : ML RX6 40 yX7_sentAgain := Or.inr ⟨"RollingCodes", nb_of (i := 725) (by decide +kernel) rfl⟩
theorem ml_6_44 : ML RX6 44 yX7_waitsAs := Or.inr ⟨"RollingCodes", nb_of (i := 726) (by decide +kernel) rfl⟩
theorem mk_7_62 : Cond.methodLink RX7 62 yX7_waitFor ∈ TB := tb_of (i := 301) (by decide +kernel) rfl
theorem ml_7_62 : ML RX7 62 yX7_waitFor := Or.inl mk_7_62
theorem mk_7_66 : Cond.methodLink RX7 66 yX7_taught ∈ TB := tb_of (i := 305) (by decide +kernel) rfl
theorem ml_7_66 : ML RX7 66 yX7_taught := Or.inl mk_7_66
theorem mk_7_70 : Cond.methodLink RX7 70 arraycopyName ∈ TB := tb_of (i := 491) (by decide +kernel) rfl
theorem ml_7_70 : ML RX7 70 arraycopyName := Or.inl mk_7_70
theorem ml_7_82 : ML RX7 82 yX10_codeOf := Or.inr ⟨"RollingCodes", nb_of (i := 516) (by decide +kernel) rfl⟩
theorem mk_7_86 : Cond.methodLink RX7 86 yX7_rangeNow ∈ TB := tb_of (i := 496) (by decide +kernel) rfl
theorem ml_7_86 : ML RX7 86 yX7_rangeNow := Or.inl mk_7_86
theorem ml_7_90 : ML RX7 90 yX4_sendings := Or.inr ⟨"RollingCodes", nb_of (i := 500) (by decide +kernel) rfl⟩
theorem mk_7_93 : Cond.methodLink RX7 93 yX7_nextCode ∈ TB := tb_of (i := 504) (by decide +kernel) rfl
theorem ml_7_93 : ML RX7 93 yX7_nextCode := Or.inl mk_7_93
theorem mk_7_96 : Cond.methodLink RX7 96 yX7_heardByGates ∈ TB := tb_of (i := 519) (by decide +kernel) rfl
theorem ml_7_96 : ML RX7 96 yX7_heardByGates := Or.inl mk_7_96
theorem mk_7_100 : Cond.methodLink RX7 100 yX7_heardByEar ∈ TB := tb_of (i := 562) (by decide +kernel) rfl
theorem ml_7_100 : ML RX7 100 yX7_heardByEar := Or.inl mk_7_100
theorem ml_7_103 : ML RX7 103 yX4_stride := Or.inr ⟨"RollingCodes", nb_of (i := 508) (by decide +kernel) rfl⟩
theorem mk_7_106 : Cond.methodLink RX7 106 yX7_hears ∈ TB := tb_of (i := 534) (by decide +kernel) rfl
theorem ml_7_106 : ML RX7 106 yX7_hears := Or.inl mk_7_106
theorem mk_7_113 : Cond.methodLink RX7 113 yX7_isHeardAt ∈ TB := tb_of (i := 523) (by decide +kernel) rfl
theorem ml_7_113 : ML RX7 113 yX7_isHeardAt := Or.inl mk_7_113
theorem mk_7_123 : Cond.methodLink RX7 123 yX7_codeAhead ∈ TB := tb_of (i := 512) (by decide +kernel) rfl
theorem ml_7_123 : ML RX7 123 yX7_codeAhead := Or.inl mk_7_123
theorem mk_7_126 : Cond.methodLink RX7 126 yX7_isNoisy ∈ TB := tb_of (i := 527) (by decide +kernel) rfl
theorem ml_7_126 : ML RX7 126 yX7_isNoisy := Or.inl mk_7_126
theorem mk_7_133 : Cond.methodLink RX7 133 Lib.Math.abs.name ∈ TB := tb_of (i := 531) (by decide +kernel) rfl
theorem ml_7_133 : ML RX7 133 Lib.Math.abs.name := Or.inl mk_7_133
theorem mk_7_138 : Cond.methodLink RX7 138 Lib.Math.max.name ∈ TB := tb_of (i := 566) (by decide +kernel) rfl
theorem ml_7_138 : ML RX7 138 Lib.Math.max.name := Or.inl mk_7_138
theorem mk_7_141 : Cond.methodLink RX7 141 Lib.Math.min.name ∈ TB := tb_of (i := 543) (by decide +kernel) rfl
theorem ml_7_141 : ML RX7 141 Lib.Math.min.name := Or.inl mk_7_141
theorem ml_7_144 : ML RX7 144 yX4_isFob := Or.inr ⟨"RollingCodes", nb_of (i := 538) (by decide +kernel) rfl⟩
theorem mk_7_147 : Cond.methodLink RX7 147 yX7_open ∈ TB := tb_of (i := 539) (by decide +kernel) rfl
theorem ml_7_147 : ML RX7 147 yX7_open := Or.inl mk_7_147
theorem mk_7_153 : Cond.methodLink RX7 153 yX7_firstAhead ∈ TB := tb_of (i := 546) (by decide +kernel) rfl
theorem ml_7_153 : ML RX7 153 yX7_firstAhead := Or.inl mk_7_153
theorem mk_7_156 : Cond.methodLink RX7 156 yX7_lastOf ∈ TB := tb_of (i := 550) (by decide +kernel) rfl
theorem ml_7_156 : ML RX7 156 yX7_lastOf := Or.inl mk_7_156
theorem ml_7_162 : ML RX7 162 yX4_mostAhead := Or.inr ⟨"RollingCodes", nb_of (i := 554) (by decide +kernel) rfl⟩
theorem ml_7_165 : ML RX7 165 yX4_leastAhead := Or.inr ⟨"RollingCodes", nb_of (i := 558) (by decide +kernel) rfl⟩
theorem ml_8_23 : ML RX8 23 yX10_codeOf := Or.inr ⟨"RollingCodes", nb_of (i := 760) (by decide +kernel) rfl⟩
theorem mk_8_27 : Cond.methodLink RX8 27 yX8_fitting ∈ TB := tb_of (i := 785) (by decide +kernel) rfl
theorem ml_8_27 : ML RX8 27 yX8_fitting := Or.inl mk_8_27
theorem mk_8_31 : Cond.methodLink RX8 31 yX8_greatestPart ∈ TB := tb_of (i := 786) (by decide +kernel) rfl
theorem ml_8_31 : ML RX8 31 yX8_greatestPart := Or.inl mk_8_31
theorem mk_8_35 : Cond.methodLink RX8 35 Lib.Math.max.name ∈ TB := tb_of (i := 790) (by decide +kernel) rfl
theorem ml_8_35 : ML RX8 35 Lib.Math.max.name := Or.inl mk_8_35
theorem mk_L_13 : Cond.methodLink RL 13 yX10_feed ∈ TB := tb_of (i := 350) (by decide +kernel) rfl
theorem ml_L_13 : ML RL 13 yX10_feed := Or.inl mk_L_13
theorem mk_L_17 : Cond.methodLink RL 17 yX11_feed ∈ TB := tb_of (i := 985) (by decide +kernel) rfl
theorem ml_L_17 : ML RL 17 yX11_feed := Or.inl mk_L_17
theorem mk_L_18 : Cond.methodLink RL 18 yX10_street ∈ TB := tb_of (i := 360) (by decide +kernel) rfl
theorem ml_L_18 : ML RL 18 yX10_street := Or.inl mk_L_18
theorem mk_L_22 : Cond.methodLink RL 22 yX11_street ∈ TB := tb_of (i := 995) (by decide +kernel) rfl
theorem ml_L_22 : ML RL 22 yX11_street := Or.inl mk_L_22
theorem mk_L_23 : Cond.methodLink RL 23 yX10_fault ∈ TB := tb_of (i := 458) (by decide +kernel) rfl
theorem ml_L_23 : ML RL 23 yX10_fault := Or.inl mk_L_23
theorem mk_L_26 : Cond.methodLink RL 26 yX11_fault ∈ TB := tb_of (i := 1044) (by decide +kernel) rfl
theorem ml_L_26 : ML RL 26 yX11_fault := Or.inl mk_L_26
theorem mk_L_27 : Cond.methodLink RL 27 yX10_told ∈ TB := tb_of (i := 462) (by decide +kernel) rfl
theorem ml_L_27 : ML RL 27 yX10_told := Or.inl mk_L_27
theorem mk_L_30 : Cond.methodLink RL 30 yX11_told ∈ TB := tb_of (i := 1056) (by decide +kernel) rfl
theorem ml_L_30 : ML RL 30 yX11_told := Or.inl mk_L_30
theorem mk_L_31 : Cond.methodLink RL 31 yX10_fob ∈ TB := tb_of (i := 470) (by decide +kernel) rfl
theorem ml_L_31 : ML RL 31 yX10_fob := Or.inl mk_L_31
theorem mk_L_35 : Cond.methodLink RL 35 yX11_fob ∈ TB := tb_of (i := 1064) (by decide +kernel) rfl
theorem ml_L_35 : ML RL 35 yX11_fob := Or.inl mk_L_35
theorem mk_L_36 : Cond.methodLink RL 36 yX10_gate ∈ TB := tb_of (i := 575) (by decide +kernel) rfl
theorem ml_L_36 : ML RL 36 yX10_gate := Or.inl mk_L_36
theorem mk_L_39 : Cond.methodLink RL 39 yX11_gate ∈ TB := tb_of (i := 1134) (by decide +kernel) rfl
theorem ml_L_39 : ML RL 39 yX11_gate := Or.inl mk_L_39
theorem mk_L_40 : Cond.methodLink RL 40 yX10_last ∈ TB := tb_of (i := 588) (by decide +kernel) rfl
theorem ml_L_40 : ML RL 40 yX10_last := Or.inl mk_L_40
theorem mk_L_43 : Cond.methodLink RL 43 yX11_last ∈ TB := tb_of (i := 1146) (by decide +kernel) rfl
theorem ml_L_43 : ML RL 43 yX11_last := Or.inl mk_L_43
theorem mk_L_44 : Cond.methodLink RL 44 yX10_kept ∈ TB := tb_of (i := 597) (by decide +kernel) rfl
theorem ml_L_44 : ML RL 44 yX10_kept := Or.inl mk_L_44
theorem mk_L_47 : Cond.methodLink RL 47 yX11_kept ∈ TB := tb_of (i := 1150) (by decide +kernel) rfl
theorem ml_L_47 : ML RL 47 yX11_kept := Or.inl mk_L_47
theorem mk_L_48 : Cond.methodLink RL 48 yX10_code ∈ TB := tb_of (i := 605) (by decide +kernel) rfl
theorem ml_L_48 : ML RL 48 yX10_code := Or.inl mk_L_48
theorem mk_L_51 : Cond.methodLink RL 51 yX11_code ∈ TB := tb_of (i := 1048) (by decide +kernel) rfl
theorem ml_L_51 : ML RL 51 yX11_code := Or.inl mk_L_51
theorem mk_L_52 : Cond.methodLink RL 52 yX10_press ∈ TB := tb_of (i := 610) (by decide +kernel) rfl
theorem ml_L_52 : ML RL 52 yX10_press := Or.inl mk_L_52
theorem mk_L_55 : Cond.methodLink RL 55 yX11_press ∈ TB := tb_of (i := 1154) (by decide +kernel) rfl
theorem ml_L_55 : ML RL 55 yX11_press := Or.inl mk_L_55
theorem mk_L_56 : Cond.methodLink RL 56 yX10_step ∈ TB := tb_of (i := 621) (by decide +kernel) rfl
theorem ml_L_56 : ML RL 56 yX10_step := Or.inl mk_L_56
theorem mk_L_59 : Cond.methodLink RL 59 yX11_step ∈ TB := tb_of (i := 1163) (by decide +kernel) rfl
theorem ml_L_59 : ML RL 59 yX11_step := Or.inl mk_L_59
theorem mk_L_60 : Cond.methodLink RL 60 yX10_earTo ∈ TB := tb_of (i := 628) (by decide +kernel) rfl
theorem ml_L_60 : ML RL 60 yX10_earTo := Or.inl mk_L_60
theorem mk_L_63 : Cond.methodLink RL 63 yX11_earTo ∈ TB := tb_of (i := 1168) (by decide +kernel) rfl
theorem ml_L_63 : ML RL 63 yX11_earTo := Or.inl mk_L_63
theorem mk_L_64 : Cond.methodLink RL 64 yX10_noise ∈ TB := tb_of (i := 632) (by decide +kernel) rfl
theorem ml_L_64 : ML RL 64 yX10_noise := Or.inl mk_L_64
theorem mk_L_68 : Cond.methodLink RL 68 yX11_noise ∈ TB := tb_of (i := 1172) (by decide +kernel) rfl
theorem ml_L_68 : ML RL 68 yX11_noise := Or.inl mk_L_68
theorem mk_L_69 : Cond.methodLink RL 69 yX10_teach ∈ TB := tb_of (i := 641) (by decide +kernel) rfl
theorem ml_L_69 : ML RL 69 yX10_teach := Or.inl mk_L_69
theorem mk_L_72 : Cond.methodLink RL 72 yX11_teach ∈ TB := tb_of (i := 1176) (by decide +kernel) rfl
theorem ml_L_72 : ML RL 72 yX11_teach := Or.inl mk_L_72
theorem mk_L_73 : Cond.methodLink RL 73 yX10_again ∈ TB := tb_of (i := 646) (by decide +kernel) rfl
theorem ml_L_73 : ML RL 73 yX10_again := Or.inl mk_L_73
theorem mk_L_76 : Cond.methodLink RL 76 yX11_again ∈ TB := tb_of (i := 1180) (by decide +kernel) rfl
theorem ml_L_76 : ML RL 76 yX11_again := Or.inl mk_L_76
theorem mk_L_77 : Cond.methodLink RL 77 yX10_fill ∈ TB := tb_of (i := 654) (by decide +kernel) rfl
theorem ml_L_77 : ML RL 77 yX10_fill := Or.inl mk_L_77
theorem mk_L_80 : Cond.methodLink RL 80 yX11_fill ∈ TB := tb_of (i := 1184) (by decide +kernel) rfl
theorem ml_L_80 : ML RL 80 yX11_fill := Or.inl mk_L_80
theorem mk_L_81 : Cond.methodLink RL 81 yX10_drift ∈ TB := tb_of (i := 658) (by decide +kernel) rfl
theorem ml_L_81 : ML RL 81 yX10_drift := Or.inl mk_L_81
theorem mk_L_84 : Cond.methodLink RL 84 yX11_drift ∈ TB := tb_of (i := 1188) (by decide +kernel) rfl
theorem ml_L_84 : ML RL 84 yX11_drift := Or.inl mk_L_84
theorem mk_L_85 : Cond.methodLink RL 85 yX10_undo ∈ TB := tb_of (i := 674) (by decide +kernel) rfl
theorem ml_L_85 : ML RL 85 yX10_undo := Or.inl mk_L_85
theorem mk_L_88 : Cond.methodLink RL 88 yX11_undo ∈ TB := tb_of (i := 1205) (by decide +kernel) rfl
theorem ml_L_88 : ML RL 88 yX11_undo := Or.inl mk_L_88
theorem mk_L_89 : Cond.methodLink RL 89 yX10_wouldOpen ∈ TB := tb_of (i := 682) (by decide +kernel) rfl
theorem ml_L_89 : ML RL 89 yX10_wouldOpen := Or.inl mk_L_89
theorem mk_L_92 : Cond.methodLink RL 92 yX11_wouldOpen ∈ TB := tb_of (i := 1209) (by decide +kernel) rfl
theorem ml_L_92 : ML RL 92 yX11_wouldOpen := Or.inl mk_L_92
theorem mk_L_93 : Cond.methodLink RL 93 yX10_ahead ∈ TB := tb_of (i := 686) (by decide +kernel) rfl
theorem ml_L_93 : ML RL 93 yX10_ahead := Or.inl mk_L_93
theorem mk_L_96 : Cond.methodLink RL 96 yX11_ahead ∈ TB := tb_of (i := 1214) (by decide +kernel) rfl
theorem ml_L_96 : ML RL 96 yX11_ahead := Or.inl mk_L_96
theorem mk_L_97 : Cond.methodLink RL 97 yX10_locked ∈ TB := tb_of (i := 693) (by decide +kernel) rfl
theorem ml_L_97 : ML RL 97 yX10_locked := Or.inl mk_L_97
theorem mk_L_100 : Cond.methodLink RL 100 yX11_locked ∈ TB := tb_of (i := 1222) (by decide +kernel) rfl
theorem ml_L_100 : ML RL 100 yX11_locked := Or.inl mk_L_100
theorem mk_L_101 : Cond.methodLink RL 101 yX10_takes ∈ TB := tb_of (i := 705) (by decide +kernel) rfl
theorem ml_L_101 : ML RL 101 yX10_takes := Or.inl mk_L_101
theorem mk_L_104 : Cond.methodLink RL 104 yX11_takes ∈ TB := tb_of (i := 1230) (by decide +kernel) rfl
theorem ml_L_104 : ML RL 104 yX11_takes := Or.inl mk_L_104
theorem mk_L_105 : Cond.methodLink RL 105 yX10_row ∈ TB := tb_of (i := 709) (by decide +kernel) rfl
theorem ml_L_105 : ML RL 105 yX10_row := Or.inl mk_L_105
theorem mk_L_108 : Cond.methodLink RL 108 yX11_row ∈ TB := tb_of (i := 1234) (by decide +kernel) rfl
theorem ml_L_108 : ML RL 108 yX11_row := Or.inl mk_L_108
theorem mk_L_109 : Cond.methodLink RL 109 yX10_who ∈ TB := tb_of (i := 730) (by decide +kernel) rfl
theorem ml_L_109 : ML RL 109 yX10_who := Or.inl mk_L_109
theorem mk_L_112 : Cond.methodLink RL 112 yX11_who ∈ TB := tb_of (i := 1250) (by decide +kernel) rfl
theorem ml_L_112 : ML RL 112 yX11_who := Or.inl mk_L_112
theorem mk_L_113 : Cond.methodLink RL 113 yX10_same ∈ TB := tb_of (i := 742) (by decide +kernel) rfl
theorem ml_L_113 : ML RL 113 yX10_same := Or.inl mk_L_113
theorem mk_L_116 : Cond.methodLink RL 116 yX11_same ∈ TB := tb_of (i := 1259) (by decide +kernel) rfl
theorem ml_L_116 : ML RL 116 yX11_same := Or.inl mk_L_116
theorem mk_L_117 : Cond.methodLink RL 117 yX10_quiet ∈ TB := tb_of (i := 746) (by decide +kernel) rfl
theorem ml_L_117 : ML RL 117 yX10_quiet := Or.inl mk_L_117
theorem mk_L_120 : Cond.methodLink RL 120 yX11_quiet ∈ TB := tb_of (i := 1263) (by decide +kernel) rfl
theorem ml_L_120 : ML RL 120 yX11_quiet := Or.inl mk_L_120
theorem mk_L_121 : Cond.methodLink RL 121 yX10_see ∈ TB := tb_of (i := 752) (by decide +kernel) rfl
theorem ml_L_121 : ML RL 121 yX10_see := Or.inl mk_L_121
theorem mk_L_124 : Cond.methodLink RL 124 yX11_see ∈ TB := tb_of (i := 1269) (by decide +kernel) rfl
theorem ml_L_124 : ML RL 124 yX11_see := Or.inl mk_L_124
theorem mk_L_125 : Cond.methodLink RL 125 yX10_secrets ∈ TB := tb_of (i := 761) (by decide +kernel) rfl
theorem ml_L_125 : ML RL 125 yX10_secrets := Or.inl mk_L_125
theorem mk_L_128 : Cond.methodLink RL 128 yX11_secrets ∈ TB := tb_of (i := 1274) (by decide +kernel) rfl
theorem ml_L_128 : ML RL 128 yX11_secrets := Or.inl mk_L_128
theorem mk_L_129 : Cond.methodLink RL 129 yX10_ask ∈ TB := tb_of (i := 777) (by decide +kernel) rfl
theorem ml_L_129 : ML RL 129 yX10_ask := Or.inl mk_L_129
theorem mk_L_132 : Cond.methodLink RL 132 yX11_ask ∈ TB := tb_of (i := 1287) (by decide +kernel) rfl
theorem ml_L_132 : ML RL 132 yX11_ask := Or.inl mk_L_132
theorem mk_L_133 : Cond.methodLink RL 133 yX10_write ∈ TB := tb_of (i := 791) (by decide +kernel) rfl
theorem ml_L_133 : ML RL 133 yX10_write := Or.inl mk_L_133
theorem mk_L_136 : Cond.methodLink RL 136 yX11_write ∈ TB := tb_of (i := 1295) (by decide +kernel) rfl
theorem ml_L_136 : ML RL 136 yX11_write := Or.inl mk_L_136
theorem mk_L_137 : Cond.methodLink RL 137 yX10_tear ∈ TB := tb_of (i := 799) (by decide +kernel) rfl
theorem ml_L_137 : ML RL 137 yX10_tear := Or.inl mk_L_137
theorem mk_L_140 : Cond.methodLink RL 140 yX11_tear ∈ TB := tb_of (i := 1299) (by decide +kernel) rfl
theorem ml_L_140 : ML RL 140 yX11_tear := Or.inl mk_L_140
theorem mk_L_141 : Cond.methodLink RL 141 yX10_judge ∈ TB := tb_of (i := 803) (by decide +kernel) rfl
theorem ml_L_141 : ML RL 141 yX10_judge := Or.inl mk_L_141
theorem mk_L_144 : Cond.methodLink RL 144 yX11_judge ∈ TB := tb_of (i := 1303) (by decide +kernel) rfl
theorem ml_L_144 : ML RL 144 yX11_judge := Or.inl mk_L_144
theorem mk_L_145 : Cond.methodLink RL 145 yX10_seed ∈ TB := tb_of (i := 811) (by decide +kernel) rfl
theorem ml_L_145 : ML RL 145 yX10_seed := Or.inl mk_L_145
theorem mk_L_148 : Cond.methodLink RL 148 yX11_seed ∈ TB := tb_of (i := 1307) (by decide +kernel) rfl
theorem ml_L_148 : ML RL 148 yX11_seed := Or.inl mk_L_148
theorem mk_L_149 : Cond.methodLink RL 149 yX10_keep ∈ TB := tb_of (i := 815) (by decide +kernel) rfl
theorem ml_L_149 : ML RL 149 yX10_keep := Or.inl mk_L_149
theorem mk_L_152 : Cond.methodLink RL 152 yX11_keep ∈ TB := tb_of (i := 1311) (by decide +kernel) rfl
theorem ml_L_152 : ML RL 152 yX11_keep := Or.inl mk_L_152
theorem mk_L_153 : Cond.methodLink RL 153 yX10_goBack ∈ TB := tb_of (i := 828) (by decide +kernel) rfl
theorem ml_L_153 : ML RL 153 yX10_goBack := Or.inl mk_L_153
theorem mk_L_156 : Cond.methodLink RL 156 yX11_goBack ∈ TB := tb_of (i := 1315) (by decide +kernel) rfl
theorem ml_L_156 : ML RL 156 yX11_goBack := Or.inl mk_L_156
theorem mk_11_105 : Cond.methodLink RX11 105 yX11_in ∈ TB := tb_of (i := 990) (by decide +kernel) rfl
theorem ml_11_105 : ML RX11 105 yX11_in := Or.inl mk_11_105
theorem mk_11_119 : Cond.methodLink RX11 119 yX11_here ∈ TB := tb_of (i := 999) (by decide +kernel) rfl
theorem ml_11_119 : ML RX11 119 yX11_here := Or.inl mk_11_119
theorem mk_11_127 : Cond.methodLink RX11 127 yX11_fails ∈ TB := tb_of (i := 1007) (by decide +kernel) rfl
theorem ml_11_127 : ML RX11 127 yX11_fails := Or.inl mk_11_127
theorem mk_11_134 : Cond.methodLink RX11 134 yX11_takeNumber ∈ TB := tb_of (i := 1019) (by decide +kernel) rfl
theorem ml_11_134 : ML RX11 134 yX11_takeNumber := Or.inl mk_11_134
theorem mk_11_141 : Cond.methodLink RX11 141 yX11_into ∈ TB := tb_of (i := 1015) (by decide +kernel) rfl
theorem ml_11_141 : ML RX11 141 yX11_into := Or.inl mk_11_141
theorem mk_11_151 : Cond.methodLink RX11 151 yX11_takeEar ∈ TB := tb_of (i := 1011) (by decide +kernel) rfl
theorem ml_11_151 : ML RX11 151 yX11_takeEar := Or.inl mk_11_151
theorem mk_11_154 : Cond.methodLink RX11 154 yX11_takeGate ∈ TB := tb_of (i := 1025) (by decide +kernel) rfl
theorem ml_11_154 : ML RX11 154 yX11_takeGate := Or.inl mk_11_154
theorem mk_11_157 : Cond.methodLink RX11 157 yX11_takeFob ∈ TB := tb_of (i := 1029) (by decide +kernel) rfl
theorem ml_11_157 : ML RX11 157 yX11_takeFob := Or.inl mk_11_157
theorem mk_11_169 : Cond.methodLink RX11 169 yX11_copyRow ∈ TB := tb_of (i := 1037) (by decide +kernel) rfl
theorem ml_11_169 : ML RX11 169 yX11_copyRow := Or.inl mk_11_169
theorem mk_11_173 : Cond.methodLink RX11 173 yX11_beginAll ∈ TB := tb_of (i := 1040) (by decide +kernel) rfl
theorem ml_11_173 : ML RX11 173 yX11_beginAll := Or.inl mk_11_173
theorem mk_11_176 : Cond.methodLink RX11 176 yX11_takeClause ∈ TB := tb_of (i := 1003) (by decide +kernel) rfl
theorem ml_11_176 : ML RX11 176 yX11_takeClause := Or.inl mk_11_176
theorem mk_11_179 : Cond.methodLink RX11 179 yX11_takeRead ∈ TB := tb_of (i := 1033) (by decide +kernel) rfl
theorem ml_11_179 : ML RX11 179 yX11_takeRead := Or.inl mk_11_179
theorem mk_11_193 : Cond.methodLink RX11 193 yX11_codeOf ∈ TB := tb_of (i := 1053) (by decide +kernel) rfl
theorem ml_11_193 : ML RX11 193 yX11_codeOf := Or.inl mk_11_193
theorem mk_11_196 : Cond.methodLink RX11 196 yX11_isAwaited ∈ TB := tb_of (i := 1111) (by decide +kernel) rfl
theorem ml_11_196 : ML RX11 196 yX11_isAwaited := Or.inl mk_11_196
theorem mk_11_200 : Cond.methodLink RX11 200 yX11_openBy ∈ TB := tb_of (i := 1115) (by decide +kernel) rfl
theorem ml_11_200 : ML RX11 200 yX11_openBy := Or.inl mk_11_200
theorem mk_11_204 : Cond.methodLink RX11 204 yX11_matchOf ∈ TB := tb_of (i := 1119) (by decide +kernel) rfl
theorem ml_11_204 : ML RX11 204 yX11_matchOf := Or.inl mk_11_204
theorem mk_11_208 : Cond.methodLink RX11 208 yX11_has ∈ TB := tb_of (i := 1101) (by decide +kernel) rfl
theorem ml_11_208 : ML RX11 208 yX11_has := Or.inl mk_11_208
theorem mk_11_211 : Cond.methodLink RX11 211 yX11_far ∈ TB := tb_of (i := 1104) (by decide +kernel) rfl
theorem ml_11_211 : ML RX11 211 yX11_far := Or.inl mk_11_211
theorem mk_11_214 : Cond.methodLink RX11 214 yX11_hears ∈ TB := tb_of (i := 1107) (by decide +kernel) rfl
theorem ml_11_214 : ML RX11 214 yX11_hears := Or.inl mk_11_214
theorem mk_11_217 : Cond.methodLink RX11 217 yX11_sendFrom ∈ TB := tb_of (i := 1097) (by decide +kernel) rfl
theorem ml_11_217 : ML RX11 217 yX11_sendFrom := Or.inl mk_11_217
theorem mk_11_220 : Cond.methodLink RX11 220 yX11_keepCode ∈ TB := tb_of (i := 1123) (by decide +kernel) rfl
theorem ml_11_220 : ML RX11 220 yX11_keepCode := Or.inl mk_11_220
theorem mk_11_224 : Cond.methodLink RX11 224 yX11_stepOn ∈ TB := tb_of (i := 1089) (by decide +kernel) rfl
theorem ml_11_224 : ML RX11 224 yX11_stepOn := Or.inl mk_11_224
theorem mk_11_227 : Cond.methodLink RX11 227 yX11_sendBy ∈ TB := tb_of (i := 1093) (by decide +kernel) rfl
theorem ml_11_227 : ML RX11 227 yX11_sendBy := Or.inl mk_11_227
theorem mk_11_230 : Cond.methodLink RX11 230 yX11_openings ∈ TB := tb_of (i := 1060) (by decide +kernel) rfl
theorem ml_11_230 : ML RX11 230 yX11_openings := Or.inl mk_11_230
theorem mk_11_233 : Cond.methodLink RX11 233 yX11_isFob ∈ TB := tb_of (i := 1068) (by decide +kernel) rfl
theorem ml_11_233 : ML RX11 233 yX11_isFob := Or.inl mk_11_233
theorem mk_11_238 : Cond.methodLink RX11 238 yX11_bestPlace ∈ TB := tb_of (i := 1073) (by decide +kernel) rfl
theorem ml_11_238 : ML RX11 238 yX11_bestPlace := Or.inl mk_11_238
theorem mk_11_242 : Cond.methodLink RX11 242 yX11_isGate ∈ TB := tb_of (i := 1138) (by decide +kernel) rfl
theorem ml_11_242 : ML RX11 242 yX11_isGate := Or.inl mk_11_242
theorem mk_11_245 : Cond.methodLink RX11 245 yX11_usefulAt ∈ TB := tb_of (i := 1142) (by decide +kernel) rfl
theorem ml_11_245 : ML RX11 245 yX11_usefulAt := Or.inl mk_11_245
theorem mk_11_249 : Cond.methodLink RX11 249 yX11_remember ∈ TB := tb_of (i := 1159) (by decide +kernel) rfl
theorem ml_11_249 : ML RX11 249 yX11_remember := Or.inl mk_11_249
theorem mk_11_252 : Cond.methodLink RX11 252 yX11_pressNow ∈ TB := tb_of (i := 1085) (by decide +kernel) rfl
theorem ml_11_252 : ML RX11 252 yX11_pressNow := Or.inl mk_11_252
theorem mk_11_267 : Cond.methodLink RX11 267 yX11_draw ∈ TB := tb_of (i := 1197) (by decide +kernel) rfl
theorem ml_11_267 : ML RX11 267 yX11_draw := Or.inl mk_11_267
theorem mk_11_272 : Cond.methodLink RX11 272 yX11_chance ∈ TB := tb_of (i := 1193) (by decide +kernel) rfl
theorem ml_11_272 : ML RX11 272 yX11_chance := Or.inl mk_11_272
theorem mk_11_275 : Cond.methodLink RX11 275 yX11_keepNow ∈ TB := tb_of (i := 1081) (by decide +kernel) rfl
theorem ml_11_275 : ML RX11 275 yX11_keepNow := Or.inl mk_11_275
theorem mk_11_278 : Cond.methodLink RX11 278 yX11_putBack ∈ TB := tb_of (i := 1127) (by decide +kernel) rfl
theorem ml_11_278 : ML RX11 278 yX11_putBack := Or.inl mk_11_278
theorem mk_11_283 : Cond.methodLink RX11 283 yX11_opensFrom ∈ TB := tb_of (i := 1077) (by decide +kernel) rfl
theorem ml_11_283 : ML RX11 283 yX11_opensFrom := Or.inl mk_11_283
theorem mk_11_286 : Cond.methodLink RX11 286 yX11_bits ∈ TB := tb_of (i := 1131) (by decide +kernel) rfl
theorem ml_11_286 : ML RX11 286 yX11_bits := Or.inl mk_11_286
theorem mk_11_289 : Cond.methodLink RX11 289 yX11_aheadOf ∈ TB := tb_of (i := 1218) (by decide +kernel) rfl
theorem ml_11_289 : ML RX11 289 yX11_aheadOf := Or.inl mk_11_289
theorem mk_11_292 : Cond.methodLink RX11 292 yX11_opensNextTo ∈ TB := tb_of (i := 1226) (by decide +kernel) rfl
theorem ml_11_292 : ML RX11 292 yX11_opensNextTo := Or.inl mk_11_292
theorem mk_11_295 : Cond.methodLink RX11 295 yX11_inReach ∈ TB := tb_of (i := 1242) (by decide +kernel) rfl
theorem ml_11_295 : ML RX11 295 yX11_inReach := Or.inl mk_11_295
theorem mk_11_304 : Cond.methodLink RX11 304 yX11_opensAll ∈ TB := tb_of (i := 1246) (by decide +kernel) rfl
theorem ml_11_304 : ML RX11 304 yX11_opensAll := Or.inl mk_11_304
theorem mk_11_307 : Cond.methodLink RX11 307 yX11_findRow ∈ TB := tb_of (i := 1238) (by decide +kernel) rfl
theorem ml_11_307 : ML RX11 307 yX11_findRow := Or.inl mk_11_307
theorem mk_11_312 : Cond.methodLink RX11 312 yX11_couldSend ∈ TB := tb_of (i := 1255) (by decide +kernel) rfl
theorem ml_11_312 : ML RX11 312 yX11_couldSend := Or.inl mk_11_312
theorem mk_11_321 : Cond.methodLink RX11 321 yX11_couldBe ∈ TB := tb_of (i := 1279) (by decide +kernel) rfl
theorem ml_11_321 : ML RX11 321 yX11_couldBe := Or.inl mk_11_321
theorem mk_11_326 : Cond.methodLink RX11 326 yX11_manySecrets ∈ TB := tb_of (i := 1283) (by decide +kernel) rfl
theorem ml_11_326 : ML RX11 326 yX11_manySecrets := Or.inl mk_11_326
theorem mk_11_329 : Cond.methodLink RX11 329 yX11_greatestPart ∈ TB := tb_of (i := 1291) (by decide +kernel) rfl
theorem ml_11_329 : ML RX11 329 yX11_greatestPart := Or.inl mk_11_329
theorem sl_5_58 : Cond.fieldLink RX5 58 "RollingCodes$Reader" "EAR_LEAST" "[I" ∈ TB := tb_of (i := 392) (by decide +kernel) rfl
theorem sl_5_61 : Cond.fieldLink RX5 61 "RollingCodes$Reader" "EAR_MOST" "[I" ∈ TB := tb_of (i := 394) (by decide +kernel) rfl
theorem sl_5_68 : Cond.fieldLink RX5 68 "RollingCodes$Reader" "GATE_LEAST" "[I" ∈ TB := tb_of (i := 407) (by decide +kernel) rfl
theorem sl_5_71 : Cond.fieldLink RX5 71 "RollingCodes$Reader" "GATE_MOST" "[I" ∈ TB := tb_of (i := 409) (by decide +kernel) rfl
theorem sl_5_74 : Cond.fieldLink RX5 74 "RollingCodes$Reader" "FOB_LEAST" "[I" ∈ TB := tb_of (i := 411) (by decide +kernel) rfl
theorem sl_5_77 : Cond.fieldLink RX5 77 "RollingCodes$Reader" "FOB_MOST" "[I" ∈ TB := tb_of (i := 413) (by decide +kernel) rfl
theorem yv_X0_add : YV yX0_add cX0_add 3 (some .boolean) 2 := ⟨tb_of (i := 798) (by decide +kernel) rfl, tb_of (i := 797) (by decide +kernel) rfl, tb_sel (i := 67) (by decide +kernel) rfl, tb_of (i := 10) (by decide +kernel) rfl, by decide +kernel, by decide +kernel, by decide +kernel, by decide⟩
theorem yv_X0_clear : YV yX0_clear cX0_clear 1 none 0 := ⟨tb_of (i := 457) (by decide +kernel) rfl, tb_of (i := 456) (by decide +kernel) rfl, tb_sel (i := 23) (by decide +kernel) rfl, tb_of (i := 10) (by decide +kernel) rfl, by decide +kernel, by decide +kernel, by decide +kernel, by decide⟩
theorem yv_X0_firstFalse : YV yX0_firstFalse cX0_firstFalse 3 (some .int) 1 := ⟨tb_of (i := 810) (by decide +kernel) rfl, tb_of (i := 809) (by decide +kernel) rfl, tb_sel (i := 68) (by decide +kernel) rfl, tb_of (i := 10) (by decide +kernel) rfl, by decide +kernel, by decide +kernel, by decide +kernel, by decide⟩
theorem yv_X1_next : YV yX1_next cX1_next 2 (some .int) 1 := ⟨tb_of (i := 669) (by decide +kernel) rfl, tb_of (i := 668) (by decide +kernel) rfl, tb_sel (i := 53) (by decide +kernel) rfl, tb_of (i := 11) (by decide +kernel) rfl, by decide +kernel, by decide +kernel, by decide +kernel, by decide⟩
theorem yv_X2_isImage : YV yX2_isImage cX2_isImage 2 (some .boolean) 1 := ⟨tb_of (i := 822) (by decide +kernel) rfl, tb_of (i := 821) (by decide +kernel) rfl, tb_sel (i := 69) (by decide +kernel) rfl, tb_of (i := 7) (by decide +kernel) rfl, by decide +kernel, by decide +kernel, by decide +kernel, by decide⟩
theorem yv_X2_isTaken : YV yX2_isTaken cX2_isTaken 2 (some .boolean) 1 := ⟨tb_of (i := 835) (by decide +kernel) rfl, tb_of (i := 834) (by decide +kernel) rfl, tb_sel (i := 71) (by decide +kernel) rfl, tb_of (i := 7) (by decide +kernel) rfl, by decide +kernel, by decide +kernel, by decide +kernel, by decide⟩
theorem yv_X2_take : YV yX2_take cX2_take 4 none 3 := ⟨tb_of (i := 826) (by decide +kernel) rfl, tb_of (i := 825) (by decide +kernel) rfl, tb_sel (i := 70) (by decide +kernel) rfl, tb_of (i := 7) (by decide +kernel) rfl, by decide +kernel, by decide +kernel, by decide +kernel, by decide⟩
theorem yv_X2_bringBack : YV yX2_bringBack cX2_bringBack 4 none 3 := ⟨tb_of (i := 839) (by decide +kernel) rfl, tb_of (i := 838) (by decide +kernel) rfl, tb_sel (i := 72) (by decide +kernel) rfl, tb_of (i := 7) (by decide +kernel) rfl, by decide +kernel, by decide +kernel, by decide +kernel, by decide⟩
theorem yv_X2_forget : YV yX2_forget cX2_forget 2 none 0 := ⟨tb_of (i := 453) (by decide +kernel) rfl, tb_of (i := 452) (by decide +kernel) rfl, tb_sel (i := 22) (by decide +kernel) rfl, tb_of (i := 7) (by decide +kernel) rfl, by decide +kernel, by decide +kernel, by decide +kernel, by decide⟩
theorem yv_X3_remember : YV yX3_remember cX3_remember 2 none 1 := ⟨tb_of (i := 618) (by decide +kernel) rfl, tb_of (i := 617) (by decide +kernel) rfl, tb_sel (i := 49) (by decide +kernel) rfl, tb_of (i := 6) (by decide +kernel) rfl, by decide +kernel, by decide +kernel, by decide +kernel, by decide⟩
theorem yv_X3_takeBack : YV yX3_takeBack cX3_takeBack 2 none 1 := ⟨tb_of (i := 681) (by decide +kernel) rfl, tb_of (i := 680) (by decide +kernel) rfl, tb_sel (i := 54) (by decide +kernel) rfl, tb_of (i := 6) (by decide +kernel) rfl, by decide +kernel, by decide +kernel, by decide +kernel, by decide⟩
theorem yv_X3_forget : YV yX3_forget cX3_forget 1 none 0 := ⟨tb_of (i := 449) (by decide +kernel) rfl, tb_of (i := 448) (by decide +kernel) rfl, tb_sel (i := 21) (by decide +kernel) rfl, tb_of (i := 6) (by decide +kernel) rfl, by decide +kernel, by decide +kernel, by decide +kernel, by decide⟩
theorem yv_X4_clear : YV yX4_clear cX4_clear 1 none 0 := ⟨tb_of (i := 371) (by decide +kernel) rfl, tb_of (i := 370) (by decide +kernel) rfl, tb_sel (i := 6) (by decide +kernel) rfl, tb_of (i := 4) (by decide +kernel) rfl, by decide +kernel, by decide +kernel, by decide +kernel, by decide⟩
theorem yv_X4_copyFrom : YV yX4_copyFrom cX4_copyFrom 2 none 1 := ⟨tb_of (i := 442) (by decide +kernel) rfl, tb_of (i := 441) (by decide +kernel) rfl, tb_sel (i := 20) (by decide +kernel) rfl, tb_of (i := 4) (by decide +kernel) rfl, by decide +kernel, by decide +kernel, by decide +kernel, by decide⟩
theorem yv_X4_isGate : YV yX4_isGate cX4_isGate 2 (some .boolean) 1 := ⟨tb_of (i := 582) (by decide +kernel) rfl, tb_of (i := 581) (by decide +kernel) rfl, tb_sel (i := 45) (by decide +kernel) rfl, tb_of (i := 4) (by decide +kernel) rfl, by decide +kernel, by decide +kernel, by decide +kernel, by decide⟩
theorem yv_X4_isFob : YV yX4_isFob cX4_isFob 2 (some .boolean) 1 := ⟨tb_of (i := 477) (by decide +kernel) rfl, tb_of (i := 476) (by decide +kernel) rfl, tb_sel (i := 25) (by decide +kernel) rfl, tb_of (i := 4) (by decide +kernel) rfl, by decide +kernel, by decide +kernel, by decide +kernel, by decide⟩
theorem yv_X4_sendings : YV yX4_sendings cX4_sendings 2 (some .int) 1 := ⟨tb_of (i := 503) (by decide +kernel) rfl, tb_of (i := 502) (by decide +kernel) rfl, tb_sel (i := 31) (by decide +kernel) rfl, tb_of (i := 4) (by decide +kernel) rfl, by decide +kernel, by decide +kernel, by decide +kernel, by decide⟩
theorem yv_X4_stride : YV yX4_stride cX4_stride 2 (some .int) 1 := ⟨tb_of (i := 511) (by decide +kernel) rfl, tb_of (i := 510) (by decide +kernel) rfl, tb_sel (i := 33) (by decide +kernel) rfl, tb_of (i := 4) (by decide +kernel) rfl, by decide +kernel, by decide +kernel, by decide +kernel, by decide⟩
theorem yv_X4_leastAhead : YV yX4_leastAhead cX4_leastAhead 2 (some .int) 1 := ⟨tb_of (i := 561) (by decide +kernel) rfl, tb_of (i := 560) (by decide +kernel) rfl, tb_sel (i := 43) (by decide +kernel) rfl, tb_of (i := 4) (by decide +kernel) rfl, by decide +kernel, by decide +kernel, by decide +kernel, by decide⟩
theorem yv_X4_mostAhead : YV yX4_mostAhead cX4_mostAhead 2 (some .int) 1 := ⟨tb_of (i := 557) (by decide +kernel) rfl, tb_of (i := 556) (by decide +kernel) rfl, tb_sel (i := 42) (by decide +kernel) rfl, tb_of (i := 4) (by decide +kernel) rfl, by decide +kernel, by decide +kernel, by decide +kernel, by decide⟩
theorem yv_X4_addEar : YV yX4_addEar cX4_addEar 2 none 1 := ⟨tb_of (i := 426) (by decide +kernel) rfl, tb_of (i := 425) (by decide +kernel) rfl, tb_sel (i := 16) (by decide +kernel) rfl, tb_of (i := 4) (by decide +kernel) rfl, by decide +kernel, by decide +kernel, by decide +kernel, by decide⟩
theorem yv_X4_addGate : YV yX4_addGate cX4_addGate 2 none 1 := ⟨tb_of (i := 430) (by decide +kernel) rfl, tb_of (i := 429) (by decide +kernel) rfl, tb_sel (i := 17) (by decide +kernel) rfl, tb_of (i := 4) (by decide +kernel) rfl, by decide +kernel, by decide +kernel, by decide +kernel, by decide⟩
theorem yv_X4_addFob : YV yX4_addFob cX4_addFob 2 none 1 := ⟨tb_of (i := 434) (by decide +kernel) rfl, tb_of (i := 433) (by decide +kernel) rfl, tb_sel (i := 18) (by decide +kernel) rfl, tb_of (i := 4) (by decide +kernel) rfl, by decide +kernel, by decide +kernel, by decide +kernel, by decide⟩
theorem yv_X5_read : YV yX5_read cX5_read 3 none 1 := ⟨tb_of (i := 367) (by decide +kernel) rfl, tb_of (i := 366) (by decide +kernel) rfl, tb_sel (i := 5) (by decide +kernel) rfl, tb_of (i := 3) (by decide +kernel) rfl, by decide +kernel, by decide +kernel, by decide +kernel, by decide⟩
theorem yv_X5_readClause : YV yX5_readClause cX5_readClause 4 none 1 := ⟨tb_of (i := 383) (by decide +kernel) rfl, tb_of (i := 382) (by decide +kernel) rfl, tb_sel (i := 9) (by decide +kernel) rfl, tb_of (i := 3) (by decide +kernel) rfl, by decide +kernel, by decide +kernel, by decide +kernel, by decide⟩
theorem yv_X5_faultOfWord : YV yX5_faultOfWord cX5_faultOfWord 3 (some .int) 1 := ⟨tb_of (i := 387) (by decide +kernel) rfl, tb_of (i := 386) (by decide +kernel) rfl, tb_sel (i := 10) (by decide +kernel) rfl, tb_of (i := 3) (by decide +kernel) rfl, by decide +kernel, by decide +kernel, by decide +kernel, by decide⟩
theorem yv_X5_readNumbers : YV yX5_readNumbers cX5_readNumbers 5 none 3 := ⟨tb_of (i := 399) (by decide +kernel) rfl, tb_of (i := 398) (by decide +kernel) rfl, tb_sel (i := 12) (by decide +kernel) rfl, tb_of (i := 3) (by decide +kernel) rfl, by decide +kernel, by decide +kernel, by decide +kernel, by decide⟩
theorem yv_X5_readNumber : YV yX5_readNumber cX5_readNumber 7 (some .int) 3 := ⟨tb_of (i := 403) (by decide +kernel) rfl, tb_of (i := 402) (by decide +kernel) rfl, tb_sel (i := 13) (by decide +kernel) rfl, tb_of (i := 3) (by decide +kernel) rfl, by decide +kernel, by decide +kernel, by decide +kernel, by decide⟩
theorem yv_X5_readEnd : YV yX5_readEnd cX5_readEnd 2 none 1 := ⟨tb_of (i := 418) (by decide +kernel) rfl, tb_of (i := 417) (by decide +kernel) rfl, tb_sel (i := 14) (by decide +kernel) rfl, tb_of (i := 3) (by decide +kernel) rfl, by decide +kernel, by decide +kernel, by decide +kernel, by decide⟩
theorem yv_X5_enter : YV yX5_enter cX5_enter 2 none 1 := ⟨tb_of (i := 422) (by decide +kernel) rfl, tb_of (i := 421) (by decide +kernel) rfl, tb_sel (i := 15) (by decide +kernel) rfl, tb_of (i := 3) (by decide +kernel) rfl, by decide +kernel, by decide +kernel, by decide +kernel, by decide⟩
theorem yv_X5_skipBlanks : YV yX5_skipBlanks cX5_skipBlanks 2 none 1 := ⟨tb_of (i := 375) (by decide +kernel) rfl, tb_of (i := 374) (by decide +kernel) rfl, tb_sel (i := 7) (by decide +kernel) rfl, tb_of (i := 3) (by decide +kernel) rfl, by decide +kernel, by decide +kernel, by decide +kernel, by decide⟩
theorem yv_X5_fail : YV yX5_fail cX5_fail 3 none 2 := ⟨tb_of (i := 391) (by decide +kernel) rfl, tb_of (i := 390) (by decide +kernel) rfl, tb_sel (i := 11) (by decide +kernel) rfl, tb_of (i := 3) (by decide +kernel) rfl, by decide +kernel, by decide +kernel, by decide +kernel, by decide⟩
theorem ys_X5_isFigure : YS yX5_isFigure cX5_isFigure 1 (some .boolean) 1 := ⟨tb_of (i := 406) (by decide +kernel) rfl, tb_of (i := 405) (by decide +kernel) rfl, tb_of (i := 3) (by decide +kernel) rfl, by decide +kernel, by decide +kernel, by decide +kernel, by decide⟩
theorem yv_X6_find : YV yX6_find cX6_find 4 (some .int) 1 := ⟨tb_of (i := 716) (by decide +kernel) rfl, tb_of (i := 715) (by decide +kernel) rfl, tb_sel (i := 57) (by decide +kernel) rfl, tb_of (i := 8) (by decide +kernel) rfl, by decide +kernel, by decide +kernel, by decide +kernel, by decide⟩
theorem ys_X6_canEnd : YS yX6_canEnd cX6_canEnd 9 (some .boolean) 4 := ⟨tb_of (i := 724) (by decide +kernel) rfl, tb_of (i := 723) (by decide +kernel) rfl, tb_of (i := 8) (by decide +kernel) rfl, by decide +kernel, by decide +kernel, by decide +kernel, by decide⟩
theorem yv_X7_begin : YV yX7_begin cX7_begin 3 none 0 := ⟨tb_of (i := 300) (by decide +kernel) rfl, tb_of (i := 299) (by decide +kernel) rfl, tb_sel (i := 0) (by decide +kernel) rfl, tb_of (i := 5) (by decide +kernel) rfl, by decide +kernel, by decide +kernel, by decide +kernel, by decide⟩
theorem yv_X7_copyFrom : YV yX7_copyFrom cX7_copyFrom 2 none 1 := ⟨tb_of (i := 490) (by decide +kernel) rfl, tb_of (i := 489) (by decide +kernel) rfl, tb_sel (i := 28) (by decide +kernel) rfl, tb_of (i := 5) (by decide +kernel) rfl, by decide +kernel, by decide +kernel, by decide +kernel, by decide⟩
theorem yv_X7_lastOf : YV yX7_lastOf cX7_lastOf 3 (some .int) 2 := ⟨tb_of (i := 553) (by decide +kernel) rfl, tb_of (i := 552) (by decide +kernel) rfl, tb_sel (i := 41) (by decide +kernel) rfl, tb_of (i := 5) (by decide +kernel) rfl, by decide +kernel, by decide +kernel, by decide +kernel, by decide⟩
theorem yv_X7_taught : YV yX7_taught cX7_taught 3 none 2 := ⟨tb_of (i := 308) (by decide +kernel) rfl, tb_of (i := 307) (by decide +kernel) rfl, tb_sel (i := 2) (by decide +kernel) rfl, tb_of (i := 5) (by decide +kernel) rfl, by decide +kernel, by decide +kernel, by decide +kernel, by decide⟩
theorem yv_X7_isKept : YV yX7_isKept cX7_isKept 2 (some .boolean) 1 := ⟨tb_of (i := 604) (by decide +kernel) rfl, tb_of (i := 603) (by decide +kernel) rfl, tb_sel (i := 48) (by decide +kernel) rfl, tb_of (i := 5) (by decide +kernel) rfl, by decide +kernel, by decide +kernel, by decide +kernel, by decide⟩
theorem yv_X7_isNoisy : YV yX7_isNoisy cX7_isNoisy 2 (some .boolean) 1 := ⟨tb_of (i := 530) (by decide +kernel) rfl, tb_of (i := 529) (by decide +kernel) rfl, tb_sel (i := 37) (by decide +kernel) rfl, tb_of (i := 5) (by decide +kernel) rfl, by decide +kernel, by decide +kernel, by decide +kernel, by decide⟩
theorem yv_X7_turnNoise : YV yX7_turnNoise cX7_turnNoise 2 none 1 := ⟨tb_of (i := 640) (by decide +kernel) rfl, tb_of (i := 639) (by decide +kernel) rfl, tb_sel (i := 50) (by decide +kernel) rfl, tb_of (i := 5) (by decide +kernel) rfl, by decide +kernel, by decide +kernel, by decide +kernel, by decide⟩
theorem yv_X7_allOpenings : YV yX7_allOpenings cX7_allOpenings 3 (some .int) 0 := ⟨tb_of (i := 469) (by decide +kernel) rfl, tb_of (i := 468) (by decide +kernel) rfl, tb_sel (i := 24) (by decide +kernel) rfl, tb_of (i := 5) (by decide +kernel) rfl, by decide +kernel, by decide +kernel, by decide +kernel, by decide⟩
theorem yv_X7_codeAhead : YV yX7_codeAhead cX7_codeAhead 3 (some .int) 2 := ⟨tb_of (i := 515) (by decide +kernel) rfl, tb_of (i := 514) (by decide +kernel) rfl, tb_sel (i := 34) (by decide +kernel) rfl, tb_of (i := 5) (by decide +kernel) rfl, by decide +kernel, by decide +kernel, by decide +kernel, by decide⟩
theorem yv_X7_pressedFrom : YV yX7_pressedFrom cX7_pressedFrom 7 (some .int) 2 := ⟨tb_of (i := 495) (by decide +kernel) rfl, tb_of (i := 494) (by decide +kernel) rfl, tb_sel (i := 29) (by decide +kernel) rfl, tb_of (i := 5) (by decide +kernel) rfl, by decide +kernel, by decide +kernel, by decide +kernel, by decide⟩
theorem yv_X7_pressedUnheard : YV yX7_pressedUnheard cX7_pressedUnheard 3 none 2 := ⟨tb_of (i := 700) (by decide +kernel) rfl, tb_of (i := 699) (by decide +kernel) rfl, tb_sel (i := 55) (by decide +kernel) rfl, tb_of (i := 5) (by decide +kernel) rfl, by decide +kernel, by decide +kernel, by decide +kernel, by decide⟩
theorem yv_X7_opensBeside : YV yX7_opensBeside cX7_opensBeside 5 (some .boolean) 2 := ⟨tb_of (i := 704) (by decide +kernel) rfl, tb_of (i := 703) (by decide +kernel) rfl, tb_sel (i := 56) (by decide +kernel) rfl, tb_of (i := 5) (by decide +kernel) rfl, by decide +kernel, by decide +kernel, by decide +kernel, by decide⟩
theorem yv_X7_sentAgain : YV yX7_sentAgain cX7_sentAgain 2 (some .int) 1 := ⟨tb_of (i := 653) (by decide +kernel) rfl, tb_of (i := 652) (by decide +kernel) rfl, tb_sel (i := 51) (by decide +kernel) rfl, tb_of (i := 5) (by decide +kernel) rfl, by decide +kernel, by decide +kernel, by decide +kernel, by decide⟩
theorem yv_X7_gatesInReach : YV yX7_gatesInReach cX7_gatesInReach 3 (some .int) 0 := ⟨tb_of (i := 721) (by decide +kernel) rfl, tb_of (i := 720) (by decide +kernel) rfl, tb_sel (i := 58) (by decide +kernel) rfl, tb_of (i := 5) (by decide +kernel) rfl, by decide +kernel, by decide +kernel, by decide +kernel, by decide⟩
theorem yv_X7_rangeNow : YV yX7_rangeNow cX7_rangeNow 3 (some .int) 1 := ⟨tb_of (i := 499) (by decide +kernel) rfl, tb_of (i := 498) (by decide +kernel) rfl, tb_sel (i := 30) (by decide +kernel) rfl, tb_of (i := 5) (by decide +kernel) rfl, by decide +kernel, by decide +kernel, by decide +kernel, by decide⟩
theorem yv_X7_nextCode : YV yX7_nextCode cX7_nextCode 2 (some .int) 1 := ⟨tb_of (i := 507) (by decide +kernel) rfl, tb_of (i := 506) (by decide +kernel) rfl, tb_sel (i := 32) (by decide +kernel) rfl, tb_of (i := 5) (by decide +kernel) rfl, by decide +kernel, by decide +kernel, by decide +kernel, by decide⟩
theorem yv_X7_isHeardAt : YV yX7_isHeardAt cX7_isHeardAt 4 (some .boolean) 3 := ⟨tb_of (i := 526) (by decide +kernel) rfl, tb_of (i := 525) (by decide +kernel) rfl, tb_sel (i := 36) (by decide +kernel) rfl, tb_of (i := 5) (by decide +kernel) rfl, by decide +kernel, by decide +kernel, by decide +kernel, by decide⟩
theorem yv_X7_heardByGates : YV yX7_heardByGates cX7_heardByGates 6 (some .int) 3 := ⟨tb_of (i := 522) (by decide +kernel) rfl, tb_of (i := 521) (by decide +kernel) rfl, tb_sel (i := 35) (by decide +kernel) rfl, tb_of (i := 5) (by decide +kernel) rfl, by decide +kernel, by decide +kernel, by decide +kernel, by decide⟩
theorem yv_X7_heardByEar : YV yX7_heardByEar cX7_heardByEar 4 none 3 := ⟨tb_of (i := 565) (by decide +kernel) rfl, tb_of (i := 564) (by decide +kernel) rfl, tb_sel (i := 44) (by decide +kernel) rfl, tb_of (i := 5) (by decide +kernel) rfl, by decide +kernel, by decide +kernel, by decide +kernel, by decide⟩
theorem yv_X7_hears : YV yX7_hears cX7_hears 7 (some .boolean) 2 := ⟨tb_of (i := 537) (by decide +kernel) rfl, tb_of (i := 536) (by decide +kernel) rfl, tb_sel (i := 38) (by decide +kernel) rfl, tb_of (i := 5) (by decide +kernel) rfl, by decide +kernel, by decide +kernel, by decide +kernel, by decide⟩
theorem yv_X7_firstAhead : YV yX7_firstAhead cX7_firstAhead 8 (some .int) 3 := ⟨tb_of (i := 549) (by decide +kernel) rfl, tb_of (i := 548) (by decide +kernel) rfl, tb_sel (i := 40) (by decide +kernel) rfl, tb_of (i := 5) (by decide +kernel) rfl, by decide +kernel, by decide +kernel, by decide +kernel, by decide⟩
theorem yv_X7_open : YV yX7_open cX7_open 4 none 3 := ⟨tb_of (i := 542) (by decide +kernel) rfl, tb_of (i := 541) (by decide +kernel) rfl, tb_sel (i := 39) (by decide +kernel) rfl, tb_of (i := 5) (by decide +kernel) rfl, by decide +kernel, by decide +kernel, by decide +kernel, by decide⟩
theorem yv_X7_waitFor : YV yX7_waitFor cX7_waitFor 4 none 3 := ⟨tb_of (i := 304) (by decide +kernel) rfl, tb_of (i := 303) (by decide +kernel) rfl, tb_sel (i := 1) (by decide +kernel) rfl, tb_of (i := 5) (by decide +kernel) rfl, by decide +kernel, by decide +kernel, by decide +kernel, by decide⟩
theorem yv_X7_waitsAs : YV yX7_waitsAs cX7_waitsAs 3 (some .boolean) 1 := ⟨tb_of (i := 729) (by decide +kernel) rfl, tb_of (i := 728) (by decide +kernel) rfl, tb_sel (i := 59) (by decide +kernel) rfl, tb_of (i := 5) (by decide +kernel) rfl, by decide +kernel, by decide +kernel, by decide +kernel, by decide⟩
theorem yv_X8_add : YV yX8_add cX8_add 4 (some .boolean) 2 := ⟨tb_of (i := 759) (by decide +kernel) rfl, tb_of (i := 758) (by decide +kernel) rfl, tb_sel (i := 61) (by decide +kernel) rfl, tb_of (i := 9) (by decide +kernel) rfl, by decide +kernel, by decide +kernel, by decide +kernel, by decide⟩
theorem yv_X8_clear : YV yX8_clear cX8_clear 2 none 0 := ⟨tb_of (i := 312) (by decide +kernel) rfl, tb_of (i := 311) (by decide +kernel) rfl, tb_sel (i := 3) (by decide +kernel) rfl, tb_of (i := 9) (by decide +kernel) rfl, by decide +kernel, by decide +kernel, by decide +kernel, by decide⟩
theorem yv_X8_fitting : YV yX8_fitting cX8_fitting 3 (some .int) 0 := ⟨tb_of (i := 768) (by decide +kernel) rfl, tb_of (i := 767) (by decide +kernel) rfl, tb_sel (i := 62) (by decide +kernel) rfl, tb_of (i := 9) (by decide +kernel) rfl, by decide +kernel, by decide +kernel, by decide +kernel, by decide⟩
theorem yv_X8_leastFitting : YV yX8_leastFitting cX8_leastFitting 2 (some .int) 0 := ⟨tb_of (i := 772) (by decide +kernel) rfl, tb_of (i := 771) (by decide +kernel) rfl, tb_sel (i := 63) (by decide +kernel) rfl, tb_of (i := 9) (by decide +kernel) rfl, by decide +kernel, by decide +kernel, by decide +kernel, by decide⟩
theorem yv_X8_greatestFitting : YV yX8_greatestFitting cX8_greatestFitting 2 (some .int) 0 := ⟨tb_of (i := 776) (by decide +kernel) rfl, tb_of (i := 775) (by decide +kernel) rfl, tb_sel (i := 64) (by decide +kernel) rfl, tb_of (i := 9) (by decide +kernel) rfl, by decide +kernel, by decide +kernel, by decide +kernel, by decide⟩
theorem yv_X8_bestQuestion : YV yX8_bestQuestion cX8_bestQuestion 5 (some .int) 0 := ⟨tb_of (i := 784) (by decide +kernel) rfl, tb_of (i := 783) (by decide +kernel) rfl, tb_sel (i := 65) (by decide +kernel) rfl, tb_of (i := 9) (by decide +kernel) rfl, by decide +kernel, by decide +kernel, by decide +kernel, by decide⟩
theorem yv_X8_greatestPart : YV yX8_greatestPart cX8_greatestPart 5 (some .int) 1 := ⟨tb_of (i := 789) (by decide +kernel) rfl, tb_of (i := 788) (by decide +kernel) rfl, tb_sel (i := 66) (by decide +kernel) rfl, tb_of (i := 9) (by decide +kernel) rfl, by decide +kernel, by decide +kernel, by decide +kernel, by decide⟩
theorem yv_X9_add : YV yX9_add cX9_add 2 (some .boolean) 1 := ⟨tb_of (i := 358) (by decide +kernel) rfl, tb_of (i := 357) (by decide +kernel) rfl, tb_sel (i := 4) (by decide +kernel) rfl, tb_of (i := 2) (by decide +kernel) rfl, by decide +kernel, by decide +kernel, by decide +kernel, by decide⟩
theorem yv_X9_clear : YV yX9_clear cX9_clear 1 none 0 := ⟨tb_of (i := 438) (by decide +kernel) rfl, tb_of (i := 437) (by decide +kernel) rfl, tb_sel (i := 19) (by decide +kernel) rfl, tb_of (i := 2) (by decide +kernel) rfl, by decide +kernel, by decide +kernel, by decide +kernel, by decide⟩
theorem yv_X9_letterAt : YV yX9_letterAt cX9_letterAt 2 (some .int) 1 := ⟨tb_of (i := 379) (by decide +kernel) rfl, tb_of (i := 378) (by decide +kernel) rfl, tb_sel (i := 8) (by decide +kernel) rfl, tb_of (i := 2) (by decide +kernel) rfl, by decide +kernel, by decide +kernel, by decide +kernel, by decide⟩
theorem yv_X10_feed : YV yX10_feed cX10_feed 2 (some .int) 1 := ⟨tb_of (i := 353) (by decide +kernel) rfl, tb_of (i := 351) (by decide +kernel) rfl, tb_of (i := 352) (by decide +kernel) rfl, tb_of (i := 1) (by decide +kernel) rfl, by decide +kernel, by decide +kernel, by decide +kernel, by decide⟩
theorem yv_X10_street : YV yX10_street cX10_street 1 (some .int) 0 := ⟨tb_of (i := 363) (by decide +kernel) rfl, tb_of (i := 361) (by decide +kernel) rfl, tb_of (i := 362) (by decide +kernel) rfl, tb_of (i := 1) (by decide +kernel) rfl, by decide +kernel, by decide +kernel, by decide +kernel, by decide⟩
theorem yv_X10_fault : YV yX10_fault cX10_fault 1 (some .int) 0 := ⟨tb_of (i := 461) (by decide +kernel) rfl, tb_of (i := 459) (by decide +kernel) rfl, tb_of (i := 460) (by decide +kernel) rfl, tb_of (i := 1) (by decide +kernel) rfl, by decide +kernel, by decide +kernel, by decide +kernel, by decide⟩
theorem yv_X10_told : YV yX10_told cX10_told 2 (some .int) 1 := ⟨tb_of (i := 465) (by decide +kernel) rfl, tb_of (i := 463) (by decide +kernel) rfl, tb_of (i := 464) (by decide +kernel) rfl, tb_of (i := 1) (by decide +kernel) rfl, by decide +kernel, by decide +kernel, by decide +kernel, by decide⟩
theorem yv_X10_fob : YV yX10_fob cX10_fob 3 (some .int) 2 := ⟨tb_of (i := 473) (by decide +kernel) rfl, tb_of (i := 471) (by decide +kernel) rfl, tb_of (i := 472) (by decide +kernel) rfl, tb_of (i := 1) (by decide +kernel) rfl, by decide +kernel, by decide +kernel, by decide +kernel, by decide⟩
theorem yv_X10_gate : YV yX10_gate cX10_gate 3 (some .int) 2 := ⟨tb_of (i := 578) (by decide +kernel) rfl, tb_of (i := 576) (by decide +kernel) rfl, tb_of (i := 577) (by decide +kernel) rfl, tb_of (i := 1) (by decide +kernel) rfl, by decide +kernel, by decide +kernel, by decide +kernel, by decide⟩
theorem yv_X10_last : YV yX10_last cX10_last 3 (some .int) 2 := ⟨tb_of (i := 591) (by decide +kernel) rfl, tb_of (i := 589) (by decide +kernel) rfl, tb_of (i := 590) (by decide +kernel) rfl, tb_of (i := 1) (by decide +kernel) rfl, by decide +kernel, by decide +kernel, by decide +kernel, by decide⟩
theorem yv_X10_kept : YV yX10_kept cX10_kept 2 (some .int) 1 := ⟨tb_of (i := 600) (by decide +kernel) rfl, tb_of (i := 598) (by decide +kernel) rfl, tb_of (i := 599) (by decide +kernel) rfl, tb_of (i := 1) (by decide +kernel) rfl, by decide +kernel, by decide +kernel, by decide +kernel, by decide⟩
theorem yv_X10_code : YV yX10_code cX10_code 3 (some .int) 2 := ⟨tb_of (i := 608) (by decide +kernel) rfl, tb_of (i := 606) (by decide +kernel) rfl, tb_of (i := 607) (by decide +kernel) rfl, tb_of (i := 1) (by decide +kernel) rfl, by decide +kernel, by decide +kernel, by decide +kernel, by decide⟩
theorem yv_X10_press : YV yX10_press cX10_press 2 (some .int) 1 := ⟨tb_of (i := 613) (by decide +kernel) rfl, tb_of (i := 611) (by decide +kernel) rfl, tb_of (i := 612) (by decide +kernel) rfl, tb_of (i := 1) (by decide +kernel) rfl, by decide +kernel, by decide +kernel, by decide +kernel, by decide⟩
theorem yv_X10_step : YV yX10_step cX10_step 4 (some .int) 2 := ⟨tb_of (i := 624) (by decide +kernel) rfl, tb_of (i := 622) (by decide +kernel) rfl, tb_of (i := 623) (by decide +kernel) rfl, tb_of (i := 1) (by decide +kernel) rfl, by decide +kernel, by decide +kernel, by decide +kernel, by decide⟩
theorem yv_X10_earTo : YV yX10_earTo cX10_earTo 3 (some .int) 1 := ⟨tb_of (i := 631) (by decide +kernel) rfl, tb_of (i := 629) (by decide +kernel) rfl, tb_of (i := 630) (by decide +kernel) rfl, tb_of (i := 1) (by decide +kernel) rfl, by decide +kernel, by decide +kernel, by decide +kernel, by decide⟩
theorem yv_X10_noise : YV yX10_noise cX10_noise 3 (some .int) 2 := ⟨tb_of (i := 635) (by decide +kernel) rfl, tb_of (i := 633) (by decide +kernel) rfl, tb_of (i := 634) (by decide +kernel) rfl, tb_of (i := 1) (by decide +kernel) rfl, by decide +kernel, by decide +kernel, by decide +kernel, by decide⟩
theorem yv_X10_teach : YV yX10_teach cX10_teach 3 (some .int) 2 := ⟨tb_of (i := 644) (by decide +kernel) rfl, tb_of (i := 642) (by decide +kernel) rfl, tb_of (i := 643) (by decide +kernel) rfl, tb_of (i := 1) (by decide +kernel) rfl, by decide +kernel, by decide +kernel, by decide +kernel, by decide⟩
theorem yv_X10_again : YV yX10_again cX10_again 2 (some .int) 1 := ⟨tb_of (i := 649) (by decide +kernel) rfl, tb_of (i := 647) (by decide +kernel) rfl, tb_of (i := 648) (by decide +kernel) rfl, tb_of (i := 1) (by decide +kernel) rfl, by decide +kernel, by decide +kernel, by decide +kernel, by decide⟩
theorem yv_X10_fill : YV yX10_fill cX10_fill 3 (some .int) 1 := ⟨tb_of (i := 657) (by decide +kernel) rfl, tb_of (i := 655) (by decide +kernel) rfl, tb_of (i := 656) (by decide +kernel) rfl, tb_of (i := 1) (by decide +kernel) rfl, by decide +kernel, by decide +kernel, by decide +kernel, by decide⟩
theorem yv_X10_drift : YV yX10_drift cX10_drift 3 (some .int) 1 := ⟨tb_of (i := 661) (by decide +kernel) rfl, tb_of (i := 659) (by decide +kernel) rfl, tb_of (i := 660) (by decide +kernel) rfl, tb_of (i := 1) (by decide +kernel) rfl, by decide +kernel, by decide +kernel, by decide +kernel, by decide⟩
theorem yv_X10_undo : YV yX10_undo cX10_undo 1 (some .int) 0 := ⟨tb_of (i := 677) (by decide +kernel) rfl, tb_of (i := 675) (by decide +kernel) rfl, tb_of (i := 676) (by decide +kernel) rfl, tb_of (i := 1) (by decide +kernel) rfl, by decide +kernel, by decide +kernel, by decide +kernel, by decide⟩
theorem yv_X10_wouldOpen : YV yX10_wouldOpen cX10_wouldOpen 3 (some .int) 2 := ⟨tb_of (i := 685) (by decide +kernel) rfl, tb_of (i := 683) (by decide +kernel) rfl, tb_of (i := 684) (by decide +kernel) rfl, tb_of (i := 1) (by decide +kernel) rfl, by decide +kernel, by decide +kernel, by decide +kernel, by decide⟩
theorem yv_X10_ahead : YV yX10_ahead cX10_ahead 3 (some .int) 2 := ⟨tb_of (i := 689) (by decide +kernel) rfl, tb_of (i := 687) (by decide +kernel) rfl, tb_of (i := 688) (by decide +kernel) rfl, tb_of (i := 1) (by decide +kernel) rfl, by decide +kernel, by decide +kernel, by decide +kernel, by decide⟩
theorem yv_X10_locked : YV yX10_locked cX10_locked 4 (some .int) 2 := ⟨tb_of (i := 696) (by decide +kernel) rfl, tb_of (i := 694) (by decide +kernel) rfl, tb_of (i := 695) (by decide +kernel) rfl, tb_of (i := 1) (by decide +kernel) rfl, by decide +kernel, by decide +kernel, by decide +kernel, by decide⟩
theorem yv_X10_takes : YV yX10_takes cX10_takes 4 (some .int) 2 := ⟨tb_of (i := 708) (by decide +kernel) rfl, tb_of (i := 706) (by decide +kernel) rfl, tb_of (i := 707) (by decide +kernel) rfl, tb_of (i := 1) (by decide +kernel) rfl, by decide +kernel, by decide +kernel, by decide +kernel, by decide⟩
theorem yv_X10_row : YV yX10_row cX10_row 3 (some .int) 1 := ⟨tb_of (i := 712) (by decide +kernel) rfl, tb_of (i := 710) (by decide +kernel) rfl, tb_of (i := 711) (by decide +kernel) rfl, tb_of (i := 1) (by decide +kernel) rfl, by decide +kernel, by decide +kernel, by decide +kernel, by decide⟩
theorem yv_X10_who : YV yX10_who cX10_who 4 (some .int) 1 := ⟨tb_of (i := 733) (by decide +kernel) rfl, tb_of (i := 731) (by decide +kernel) rfl, tb_of (i := 732) (by decide +kernel) rfl, tb_of (i := 1) (by decide +kernel) rfl, by decide +kernel, by decide +kernel, by decide +kernel, by decide⟩
theorem yv_X10_same : YV yX10_same cX10_same 4 (some .int) 2 := ⟨tb_of (i := 745) (by decide +kernel) rfl, tb_of (i := 743) (by decide +kernel) rfl, tb_of (i := 744) (by decide +kernel) rfl, tb_of (i := 1) (by decide +kernel) rfl, by decide +kernel, by decide +kernel, by decide +kernel, by decide⟩
theorem yv_X10_quiet : YV yX10_quiet cX10_quiet 6 (some .int) 2 := ⟨tb_of (i := 749) (by decide +kernel) rfl, tb_of (i := 747) (by decide +kernel) rfl, tb_of (i := 748) (by decide +kernel) rfl, tb_of (i := 1) (by decide +kernel) rfl, by decide +kernel, by decide +kernel, by decide +kernel, by decide⟩
theorem yv_X10_see : YV yX10_see cX10_see 3 (some .int) 2 := ⟨tb_of (i := 755) (by decide +kernel) rfl, tb_of (i := 753) (by decide +kernel) rfl, tb_of (i := 754) (by decide +kernel) rfl, tb_of (i := 1) (by decide +kernel) rfl, by decide +kernel, by decide +kernel, by decide +kernel, by decide⟩
theorem yv_X10_secrets : YV yX10_secrets cX10_secrets 2 (some .int) 1 := ⟨tb_of (i := 764) (by decide +kernel) rfl, tb_of (i := 762) (by decide +kernel) rfl, tb_of (i := 763) (by decide +kernel) rfl, tb_of (i := 1) (by decide +kernel) rfl, by decide +kernel, by decide +kernel, by decide +kernel, by decide⟩
theorem yv_X10_ask : YV yX10_ask cX10_ask 1 (some .int) 0 := ⟨tb_of (i := 780) (by decide +kernel) rfl, tb_of (i := 778) (by decide +kernel) rfl, tb_of (i := 779) (by decide +kernel) rfl, tb_of (i := 1) (by decide +kernel) rfl, by decide +kernel, by decide +kernel, by decide +kernel, by decide⟩
theorem yv_X10_write : YV yX10_write cX10_write 3 (some .int) 2 := ⟨tb_of (i := 794) (by decide +kernel) rfl, tb_of (i := 792) (by decide +kernel) rfl, tb_of (i := 793) (by decide +kernel) rfl, tb_of (i := 1) (by decide +kernel) rfl, by decide +kernel, by decide +kernel, by decide +kernel, by decide⟩
theorem yv_X10_tear : YV yX10_tear cX10_tear 2 (some .int) 0 := ⟨tb_of (i := 802) (by decide +kernel) rfl, tb_of (i := 800) (by decide +kernel) rfl, tb_of (i := 801) (by decide +kernel) rfl, tb_of (i := 1) (by decide +kernel) rfl, by decide +kernel, by decide +kernel, by decide +kernel, by decide⟩
theorem yv_X10_judge : YV yX10_judge cX10_judge 1 (some .int) 0 := ⟨tb_of (i := 806) (by decide +kernel) rfl, tb_of (i := 804) (by decide +kernel) rfl, tb_of (i := 805) (by decide +kernel) rfl, tb_of (i := 1) (by decide +kernel) rfl, by decide +kernel, by decide +kernel, by decide +kernel, by decide⟩
theorem yv_X10_seed : YV yX10_seed cX10_seed 3 (some .int) 1 := ⟨tb_of (i := 814) (by decide +kernel) rfl, tb_of (i := 812) (by decide +kernel) rfl, tb_of (i := 813) (by decide +kernel) rfl, tb_of (i := 1) (by decide +kernel) rfl, by decide +kernel, by decide +kernel, by decide +kernel, by decide⟩
theorem yv_X10_keep : YV yX10_keep cX10_keep 2 (some .int) 1 := ⟨tb_of (i := 818) (by decide +kernel) rfl, tb_of (i := 816) (by decide +kernel) rfl, tb_of (i := 817) (by decide +kernel) rfl, tb_of (i := 1) (by decide +kernel) rfl, by decide +kernel, by decide +kernel, by decide +kernel, by decide⟩
theorem yv_X10_goBack : YV yX10_goBack cX10_goBack 2 (some .int) 1 := ⟨tb_of (i := 831) (by decide +kernel) rfl, tb_of (i := 829) (by decide +kernel) rfl, tb_of (i := 830) (by decide +kernel) rfl, tb_of (i := 1) (by decide +kernel) rfl, by decide +kernel, by decide +kernel, by decide +kernel, by decide⟩
theorem ys_X10_isPlace : YS yX10_isPlace cX10_isPlace 1 (some .boolean) 1 := ⟨tb_of (i := 627) (by decide +kernel) rfl, tb_of (i := 626) (by decide +kernel) rfl, tb_of (i := 1) (by decide +kernel) rfl, by decide +kernel, by decide +kernel, by decide +kernel, by decide⟩
theorem ys_X10_isCode : YS yX10_isCode cX10_isCode 1 (some .boolean) 1 := ⟨tb_of (i := 736) (by decide +kernel) rfl, tb_of (i := 735) (by decide +kernel) rfl, tb_of (i := 1) (by decide +kernel) rfl, by decide +kernel, by decide +kernel, by decide +kernel, by decide⟩
theorem ys_X10_codeOf : YS yX10_codeOf cX10_codeOf 2 (some .int) 2 := ⟨tb_of (i := 518) (by decide +kernel) rfl, tb_of (i := 517) (by decide +kernel) rfl, tb_of (i := 1) (by decide +kernel) rfl, by decide +kernel, by decide +kernel, by decide +kernel, by decide⟩
theorem yv_X10_areKnown : YV yX10_areKnown cX10_areKnown 3 (some .boolean) 2 := ⟨tb_of (i := 595) (by decide +kernel) rfl, tb_of (i := 594) (by decide +kernel) rfl, tb_sel (i := 47) (by decide +kernel) rfl, tb_of (i := 1) (by decide +kernel) rfl, by decide +kernel, by decide +kernel, by decide +kernel, by decide⟩
theorem yv_X10_opensFrom : YV yX10_opensFrom cX10_opensFrom 3 (some .int) 2 := ⟨tb_of (i := 486) (by decide +kernel) rfl, tb_of (i := 485) (by decide +kernel) rfl, tb_sel (i := 27) (by decide +kernel) rfl, tb_of (i := 1) (by decide +kernel) rfl, by decide +kernel, by decide +kernel, by decide +kernel, by decide⟩
theorem yv_X10_bestPlace : YV yX10_bestPlace cX10_bestPlace 6 (some .int) 1 := ⟨tb_of (i := 482) (by decide +kernel) rfl, tb_of (i := 481) (by decide +kernel) rfl, tb_sel (i := 26) (by decide +kernel) rfl, tb_of (i := 1) (by decide +kernel) rfl, by decide +kernel, by decide +kernel, by decide +kernel, by decide⟩
theorem yv_X10_usefulAt : YV yX10_usefulAt cX10_usefulAt 4 (some .int) 1 := ⟨tb_of (i := 586) (by decide +kernel) rfl, tb_of (i := 585) (by decide +kernel) rfl, tb_sel (i := 46) (by decide +kernel) rfl, tb_of (i := 1) (by decide +kernel) rfl, by decide +kernel, by decide +kernel, by decide +kernel, by decide⟩
theorem yv_X10_couldSend : YV yX10_couldSend cX10_couldSend 4 (some .boolean) 2 := ⟨tb_of (i := 740) (by decide +kernel) rfl, tb_of (i := 739) (by decide +kernel) rfl, tb_sel (i := 60) (by decide +kernel) rfl, tb_of (i := 1) (by decide +kernel) rfl, by decide +kernel, by decide +kernel, by decide +kernel, by decide⟩
theorem yv_X10_passHour : YV yX10_passHour cX10_passHour 3 none 0 := ⟨tb_of (i := 665) (by decide +kernel) rfl, tb_of (i := 664) (by decide +kernel) rfl, tb_sel (i := 52) (by decide +kernel) rfl, tb_of (i := 1) (by decide +kernel) rfl, by decide +kernel, by decide +kernel, by decide +kernel, by decide⟩
theorem ys_X11_in : YS yX11_in cX11_in 6 (some .boolean) 3 := ⟨tb_of (i := 992) (by decide +kernel) rfl, tb_of (i := 991) (by decide +kernel) rfl, tb_of (i := 12) (by decide +kernel) rfl, by decide +kernel, by decide +kernel, by decide +kernel, by decide⟩
theorem ys_X11_has : YS yX11_has cX11_has 2 (some .boolean) 2 := ⟨tb_of (i := 1103) (by decide +kernel) rfl, tb_of (i := 1102) (by decide +kernel) rfl, tb_of (i := 12) (by decide +kernel) rfl, by decide +kernel, by decide +kernel, by decide +kernel, by decide⟩
theorem ys_X11_bits : YS yX11_bits cX11_bits 3 (some .int) 1 := ⟨tb_of (i := 1133) (by decide +kernel) rfl, tb_of (i := 1132) (by decide +kernel) rfl, tb_of (i := 12) (by decide +kernel) rfl, by decide +kernel, by decide +kernel, by decide +kernel, by decide⟩
theorem yv_X11_isFob : YV yX11_isFob cX11_isFob 2 (some .boolean) 1 := ⟨tb_of (i := 1071) (by decide +kernel) rfl, tb_of (i := 1070) (by decide +kernel) rfl, tb_sel (i := 84) (by decide +kernel) rfl, tb_of (i := 12) (by decide +kernel) rfl, by decide +kernel, by decide +kernel, by decide +kernel, by decide⟩
theorem yv_X11_isGate : YV yX11_isGate cX11_isGate 2 (some .boolean) 1 := ⟨tb_of (i := 1141) (by decide +kernel) rfl, tb_of (i := 1140) (by decide +kernel) rfl, tb_sel (i := 98) (by decide +kernel) rfl, tb_of (i := 12) (by decide +kernel) rfl, by decide +kernel, by decide +kernel, by decide +kernel, by decide⟩
theorem yv_X11_feed : YV yX11_feed cX11_feed 2 (some .int) 1 := ⟨tb_of (i := 988) (by decide +kernel) rfl, tb_of (i := 986) (by decide +kernel) rfl, tb_of (i := 987) (by decide +kernel) rfl, tb_of (i := 12) (by decide +kernel) rfl, by decide +kernel, by decide +kernel, by decide +kernel, by decide⟩
theorem yv_X11_here : YV yX11_here cX11_here 1 (some .int) 0 := ⟨tb_of (i := 1002) (by decide +kernel) rfl, tb_of (i := 1001) (by decide +kernel) rfl, tb_sel (i := 73) (by decide +kernel) rfl, tb_of (i := 12) (by decide +kernel) rfl, by decide +kernel, by decide +kernel, by decide +kernel, by decide⟩
theorem yv_X11_fails : YV yX11_fails cX11_fails 3 (some .int) 2 := ⟨tb_of (i := 1010) (by decide +kernel) rfl, tb_of (i := 1009) (by decide +kernel) rfl, tb_sel (i := 75) (by decide +kernel) rfl, tb_of (i := 12) (by decide +kernel) rfl, by decide +kernel, by decide +kernel, by decide +kernel, by decide⟩
theorem yv_X11_takeNumber : YV yX11_takeNumber cX11_takeNumber 5 (some .int) 2 := ⟨tb_of (i := 1022) (by decide +kernel) rfl, tb_of (i := 1021) (by decide +kernel) rfl, tb_sel (i := 78) (by decide +kernel) rfl, tb_of (i := 12) (by decide +kernel) rfl, by decide +kernel, by decide +kernel, by decide +kernel, by decide⟩
theorem yv_X11_into : YV yX11_into cX11_into 6 (some .int) 4 := ⟨tb_of (i := 1018) (by decide +kernel) rfl, tb_of (i := 1017) (by decide +kernel) rfl, tb_sel (i := 77) (by decide +kernel) rfl, tb_of (i := 12) (by decide +kernel) rfl, by decide +kernel, by decide +kernel, by decide +kernel, by decide⟩
theorem yv_X11_takeEar : YV yX11_takeEar cX11_takeEar 2 (some .int) 0 := ⟨tb_of (i := 1014) (by decide +kernel) rfl, tb_of (i := 1013) (by decide +kernel) rfl, tb_sel (i := 76) (by decide +kernel) rfl, tb_of (i := 12) (by decide +kernel) rfl, by decide +kernel, by decide +kernel, by decide +kernel, by decide⟩
theorem yv_X11_takeGate : YV yX11_takeGate cX11_takeGate 3 (some .int) 0 := ⟨tb_of (i := 1028) (by decide +kernel) rfl, tb_of (i := 1027) (by decide +kernel) rfl, tb_sel (i := 79) (by decide +kernel) rfl, tb_of (i := 12) (by decide +kernel) rfl, by decide +kernel, by decide +kernel, by decide +kernel, by decide⟩
theorem yv_X11_takeFob : YV yX11_takeFob cX11_takeFob 3 (some .int) 0 := ⟨tb_of (i := 1032) (by decide +kernel) rfl, tb_of (i := 1031) (by decide +kernel) rfl, tb_sel (i := 80) (by decide +kernel) rfl, tb_of (i := 12) (by decide +kernel) rfl, by decide +kernel, by decide +kernel, by decide +kernel, by decide⟩
theorem yv_X11_takeClause : YV yX11_takeClause cX11_takeClause 5 (some .int) 0 := ⟨tb_of (i := 1006) (by decide +kernel) rfl, tb_of (i := 1005) (by decide +kernel) rfl, tb_sel (i := 74) (by decide +kernel) rfl, tb_of (i := 12) (by decide +kernel) rfl, by decide +kernel, by decide +kernel, by decide +kernel, by decide⟩
theorem ys_X11_copyRow : YS yX11_copyRow cX11_copyRow 4 none 3 := ⟨tb_of (i := 1039) (by decide +kernel) rfl, tb_of (i := 1038) (by decide +kernel) rfl, tb_of (i := 12) (by decide +kernel) rfl, by decide +kernel, by decide +kernel, by decide +kernel, by decide⟩
theorem yv_X11_beginAll : YV yX11_beginAll cX11_beginAll 3 none 0 := ⟨tb_of (i := 1043) (by decide +kernel) rfl, tb_of (i := 1042) (by decide +kernel) rfl, tb_sel (i := 82) (by decide +kernel) rfl, tb_of (i := 12) (by decide +kernel) rfl, by decide +kernel, by decide +kernel, by decide +kernel, by decide⟩
theorem yv_X11_takeRead : YV yX11_takeRead cX11_takeRead 1 none 0 := ⟨tb_of (i := 1036) (by decide +kernel) rfl, tb_of (i := 1035) (by decide +kernel) rfl, tb_sel (i := 81) (by decide +kernel) rfl, tb_of (i := 12) (by decide +kernel) rfl, by decide +kernel, by decide +kernel, by decide +kernel, by decide⟩
theorem yv_X11_street : YV yX11_street cX11_street 2 (some .int) 0 := ⟨tb_of (i := 998) (by decide +kernel) rfl, tb_of (i := 996) (by decide +kernel) rfl, tb_of (i := 997) (by decide +kernel) rfl, tb_of (i := 12) (by decide +kernel) rfl, by decide +kernel, by decide +kernel, by decide +kernel, by decide⟩
theorem yv_X11_fault : YV yX11_fault cX11_fault 1 (some .int) 0 := ⟨tb_of (i := 1047) (by decide +kernel) rfl, tb_of (i := 1045) (by decide +kernel) rfl, tb_of (i := 1046) (by decide +kernel) rfl, tb_of (i := 12) (by decide +kernel) rfl, by decide +kernel, by decide +kernel, by decide +kernel, by decide⟩
theorem ys_X11_codeOf : YS yX11_codeOf cX11_codeOf 2 (some .int) 2 := ⟨tb_of (i := 1055) (by decide +kernel) rfl, tb_of (i := 1054) (by decide +kernel) rfl, tb_of (i := 12) (by decide +kernel) rfl, by decide +kernel, by decide +kernel, by decide +kernel, by decide⟩
theorem yv_X11_code : YV yX11_code cX11_code 3 (some .int) 2 := ⟨tb_of (i := 1051) (by decide +kernel) rfl, tb_of (i := 1049) (by decide +kernel) rfl, tb_of (i := 1050) (by decide +kernel) rfl, tb_of (i := 12) (by decide +kernel) rfl, by decide +kernel, by decide +kernel, by decide +kernel, by decide⟩
theorem yv_X11_aheadOf : YV yX11_aheadOf cX11_aheadOf 3 (some .int) 2 := ⟨tb_of (i := 1221) (by decide +kernel) rfl, tb_of (i := 1220) (by decide +kernel) rfl, tb_sel (i := 103) (by decide +kernel) rfl, tb_of (i := 12) (by decide +kernel) rfl, by decide +kernel, by decide +kernel, by decide +kernel, by decide⟩
theorem yv_X11_openBy : YV yX11_openBy cX11_openBy 4 none 3 := ⟨tb_of (i := 1118) (by decide +kernel) rfl, tb_of (i := 1117) (by decide +kernel) rfl, tb_sel (i := 94) (by decide +kernel) rfl, tb_of (i := 12) (by decide +kernel) rfl, by decide +kernel, by decide +kernel, by decide +kernel, by decide⟩
theorem yv_X11_matchOf : YV yX11_matchOf cX11_matchOf 7 (some .int) 3 := ⟨tb_of (i := 1122) (by decide +kernel) rfl, tb_of (i := 1121) (by decide +kernel) rfl, tb_sel (i := 95) (by decide +kernel) rfl, tb_of (i := 12) (by decide +kernel) rfl, by decide +kernel, by decide +kernel, by decide +kernel, by decide⟩
theorem yv_X11_isAwaited : YV yX11_isAwaited cX11_isAwaited 4 (some .boolean) 2 := ⟨tb_of (i := 1114) (by decide +kernel) rfl, tb_of (i := 1113) (by decide +kernel) rfl, tb_sel (i := 93) (by decide +kernel) rfl, tb_of (i := 12) (by decide +kernel) rfl, by decide +kernel, by decide +kernel, by decide +kernel, by decide⟩
theorem yv_X11_hears : YV yX11_hears cX11_hears 7 (some .boolean) 2 := ⟨tb_of (i := 1110) (by decide +kernel) rfl, tb_of (i := 1109) (by decide +kernel) rfl, tb_sel (i := 92) (by decide +kernel) rfl, tb_of (i := 12) (by decide +kernel) rfl, by decide +kernel, by decide +kernel, by decide +kernel, by decide⟩
theorem ys_X11_far : YS yX11_far cX11_far 2 (some .int) 2 := ⟨tb_of (i := 1106) (by decide +kernel) rfl, tb_of (i := 1105) (by decide +kernel) rfl, tb_of (i := 12) (by decide +kernel) rfl, by decide +kernel, by decide +kernel, by decide +kernel, by decide⟩
theorem yv_X11_sendFrom : YV yX11_sendFrom cX11_sendFrom 7 (some .int) 3 := ⟨tb_of (i := 1100) (by decide +kernel) rfl, tb_of (i := 1099) (by decide +kernel) rfl, tb_sel (i := 91) (by decide +kernel) rfl, tb_of (i := 12) (by decide +kernel) rfl, by decide +kernel, by decide +kernel, by decide +kernel, by decide⟩
theorem yv_X11_keepCode : YV yX11_keepCode cX11_keepCode 3 none 1 := ⟨tb_of (i := 1126) (by decide +kernel) rfl, tb_of (i := 1125) (by decide +kernel) rfl, tb_sel (i := 96) (by decide +kernel) rfl, tb_of (i := 12) (by decide +kernel) rfl, by decide +kernel, by decide +kernel, by decide +kernel, by decide⟩
theorem yv_X11_sendBy : YV yX11_sendBy cX11_sendBy 6 (some .int) 2 := ⟨tb_of (i := 1096) (by decide +kernel) rfl, tb_of (i := 1095) (by decide +kernel) rfl, tb_sel (i := 90) (by decide +kernel) rfl, tb_of (i := 12) (by decide +kernel) rfl, by decide +kernel, by decide +kernel, by decide +kernel, by decide⟩
theorem yv_X11_stepOn : YV yX11_stepOn cX11_stepOn 2 none 1 := ⟨tb_of (i := 1092) (by decide +kernel) rfl, tb_of (i := 1091) (by decide +kernel) rfl, tb_sel (i := 89) (by decide +kernel) rfl, tb_of (i := 12) (by decide +kernel) rfl, by decide +kernel, by decide +kernel, by decide +kernel, by decide⟩
theorem yv_X11_pressNow : YV yX11_pressNow cX11_pressNow 5 (some .int) 1 := ⟨tb_of (i := 1088) (by decide +kernel) rfl, tb_of (i := 1087) (by decide +kernel) rfl, tb_sel (i := 88) (by decide +kernel) rfl, tb_of (i := 12) (by decide +kernel) rfl, by decide +kernel, by decide +kernel, by decide +kernel, by decide⟩
theorem yv_X11_openings : YV yX11_openings cX11_openings 3 (some .int) 0 := ⟨tb_of (i := 1063) (by decide +kernel) rfl, tb_of (i := 1062) (by decide +kernel) rfl, tb_sel (i := 83) (by decide +kernel) rfl, tb_of (i := 12) (by decide +kernel) rfl, by decide +kernel, by decide +kernel, by decide +kernel, by decide⟩
theorem yv_X11_told : YV yX11_told cX11_told 2 (some .int) 1 := ⟨tb_of (i := 1059) (by decide +kernel) rfl, tb_of (i := 1057) (by decide +kernel) rfl, tb_of (i := 1058) (by decide +kernel) rfl, tb_of (i := 12) (by decide +kernel) rfl, by decide +kernel, by decide +kernel, by decide +kernel, by decide⟩
theorem yv_X11_fob : YV yX11_fob cX11_fob 3 (some .int) 2 := ⟨tb_of (i := 1067) (by decide +kernel) rfl, tb_of (i := 1065) (by decide +kernel) rfl, tb_of (i := 1066) (by decide +kernel) rfl, tb_of (i := 12) (by decide +kernel) rfl, by decide +kernel, by decide +kernel, by decide +kernel, by decide⟩
theorem yv_X11_gate : YV yX11_gate cX11_gate 3 (some .int) 2 := ⟨tb_of (i := 1137) (by decide +kernel) rfl, tb_of (i := 1135) (by decide +kernel) rfl, tb_of (i := 1136) (by decide +kernel) rfl, tb_of (i := 12) (by decide +kernel) rfl, by decide +kernel, by decide +kernel, by decide +kernel, by decide⟩
theorem yv_X11_last : YV yX11_last cX11_last 3 (some .int) 2 := ⟨tb_of (i := 1149) (by decide +kernel) rfl, tb_of (i := 1147) (by decide +kernel) rfl, tb_of (i := 1148) (by decide +kernel) rfl, tb_of (i := 12) (by decide +kernel) rfl, by decide +kernel, by decide +kernel, by decide +kernel, by decide⟩
theorem yv_X11_kept : YV yX11_kept cX11_kept 2 (some .int) 1 := ⟨tb_of (i := 1153) (by decide +kernel) rfl, tb_of (i := 1151) (by decide +kernel) rfl, tb_of (i := 1152) (by decide +kernel) rfl, tb_of (i := 12) (by decide +kernel) rfl, by decide +kernel, by decide +kernel, by decide +kernel, by decide⟩
theorem yv_X11_remember : YV yX11_remember cX11_remember 2 none 0 := ⟨tb_of (i := 1162) (by decide +kernel) rfl, tb_of (i := 1161) (by decide +kernel) rfl, tb_sel (i := 100) (by decide +kernel) rfl, tb_of (i := 12) (by decide +kernel) rfl, by decide +kernel, by decide +kernel, by decide +kernel, by decide⟩
theorem yv_X11_press : YV yX11_press cX11_press 2 (some .int) 1 := ⟨tb_of (i := 1157) (by decide +kernel) rfl, tb_of (i := 1155) (by decide +kernel) rfl, tb_of (i := 1156) (by decide +kernel) rfl, tb_of (i := 12) (by decide +kernel) rfl, by decide +kernel, by decide +kernel, by decide +kernel, by decide⟩
theorem yv_X11_step : YV yX11_step cX11_step 4 (some .int) 2 := ⟨tb_of (i := 1166) (by decide +kernel) rfl, tb_of (i := 1164) (by decide +kernel) rfl, tb_of (i := 1165) (by decide +kernel) rfl, tb_of (i := 12) (by decide +kernel) rfl, by decide +kernel, by decide +kernel, by decide +kernel, by decide⟩
theorem yv_X11_earTo : YV yX11_earTo cX11_earTo 3 (some .int) 1 := ⟨tb_of (i := 1171) (by decide +kernel) rfl, tb_of (i := 1169) (by decide +kernel) rfl, tb_of (i := 1170) (by decide +kernel) rfl, tb_of (i := 12) (by decide +kernel) rfl, by decide +kernel, by decide +kernel, by decide +kernel, by decide⟩
theorem yv_X11_noise : YV yX11_noise cX11_noise 3 (some .int) 2 := ⟨tb_of (i := 1175) (by decide +kernel) rfl, tb_of (i := 1173) (by decide +kernel) rfl, tb_of (i := 1174) (by decide +kernel) rfl, tb_of (i := 12) (by decide +kernel) rfl, by decide +kernel, by decide +kernel, by decide +kernel, by decide⟩
theorem yv_X11_teach : YV yX11_teach cX11_teach 3 (some .int) 2 := ⟨tb_of (i := 1179) (by decide +kernel) rfl, tb_of (i := 1177) (by decide +kernel) rfl, tb_of (i := 1178) (by decide +kernel) rfl, tb_of (i := 12) (by decide +kernel) rfl, by decide +kernel, by decide +kernel, by decide +kernel, by decide⟩
theorem yv_X11_again : YV yX11_again cX11_again 2 (some .int) 1 := ⟨tb_of (i := 1183) (by decide +kernel) rfl, tb_of (i := 1181) (by decide +kernel) rfl, tb_of (i := 1182) (by decide +kernel) rfl, tb_of (i := 12) (by decide +kernel) rfl, by decide +kernel, by decide +kernel, by decide +kernel, by decide⟩
theorem yv_X11_fill : YV yX11_fill cX11_fill 3 (some .int) 1 := ⟨tb_of (i := 1187) (by decide +kernel) rfl, tb_of (i := 1185) (by decide +kernel) rfl, tb_of (i := 1186) (by decide +kernel) rfl, tb_of (i := 12) (by decide +kernel) rfl, by decide +kernel, by decide +kernel, by decide +kernel, by decide⟩
theorem yv_X11_draw : YV yX11_draw cX11_draw 2 (some .int) 1 := ⟨tb_of (i := 1200) (by decide +kernel) rfl, tb_of (i := 1199) (by decide +kernel) rfl, tb_sel (i := 102) (by decide +kernel) rfl, tb_of (i := 12) (by decide +kernel) rfl, by decide +kernel, by decide +kernel, by decide +kernel, by decide⟩
theorem yv_X11_chance : YV yX11_chance cX11_chance 4 none 0 := ⟨tb_of (i := 1196) (by decide +kernel) rfl, tb_of (i := 1195) (by decide +kernel) rfl, tb_sel (i := 101) (by decide +kernel) rfl, tb_of (i := 12) (by decide +kernel) rfl, by decide +kernel, by decide +kernel, by decide +kernel, by decide⟩
theorem yv_X11_drift : YV yX11_drift cX11_drift 3 (some .int) 1 := ⟨tb_of (i := 1191) (by decide +kernel) rfl, tb_of (i := 1189) (by decide +kernel) rfl, tb_of (i := 1190) (by decide +kernel) rfl, tb_of (i := 12) (by decide +kernel) rfl, by decide +kernel, by decide +kernel, by decide +kernel, by decide⟩
theorem yv_X11_undo : YV yX11_undo cX11_undo 2 (some .int) 0 := ⟨tb_of (i := 1208) (by decide +kernel) rfl, tb_of (i := 1206) (by decide +kernel) rfl, tb_of (i := 1207) (by decide +kernel) rfl, tb_of (i := 12) (by decide +kernel) rfl, by decide +kernel, by decide +kernel, by decide +kernel, by decide⟩
theorem yv_X11_keepNow : YV yX11_keepNow cX11_keepNow 1 none 0 := ⟨tb_of (i := 1084) (by decide +kernel) rfl, tb_of (i := 1083) (by decide +kernel) rfl, tb_sel (i := 87) (by decide +kernel) rfl, tb_of (i := 12) (by decide +kernel) rfl, by decide +kernel, by decide +kernel, by decide +kernel, by decide⟩
theorem yv_X11_putBack : YV yX11_putBack cX11_putBack 1 none 0 := ⟨tb_of (i := 1130) (by decide +kernel) rfl, tb_of (i := 1129) (by decide +kernel) rfl, tb_sel (i := 97) (by decide +kernel) rfl, tb_of (i := 12) (by decide +kernel) rfl, by decide +kernel, by decide +kernel, by decide +kernel, by decide⟩
theorem yv_X11_opensFrom : YV yX11_opensFrom cX11_opensFrom 4 (some .int) 2 := ⟨tb_of (i := 1080) (by decide +kernel) rfl, tb_of (i := 1079) (by decide +kernel) rfl, tb_sel (i := 86) (by decide +kernel) rfl, tb_of (i := 12) (by decide +kernel) rfl, by decide +kernel, by decide +kernel, by decide +kernel, by decide⟩
theorem yv_X11_wouldOpen : YV yX11_wouldOpen cX11_wouldOpen 3 (some .int) 2 := ⟨tb_of (i := 1212) (by decide +kernel) rfl, tb_of (i := 1210) (by decide +kernel) rfl, tb_of (i := 1211) (by decide +kernel) rfl, tb_of (i := 12) (by decide +kernel) rfl, by decide +kernel, by decide +kernel, by decide +kernel, by decide⟩
theorem yv_X11_bestPlace : YV yX11_bestPlace cX11_bestPlace 6 (some .int) 1 := ⟨tb_of (i := 1076) (by decide +kernel) rfl, tb_of (i := 1075) (by decide +kernel) rfl, tb_sel (i := 85) (by decide +kernel) rfl, tb_of (i := 12) (by decide +kernel) rfl, by decide +kernel, by decide +kernel, by decide +kernel, by decide⟩
theorem yv_X11_ahead : YV yX11_ahead cX11_ahead 3 (some .int) 2 := ⟨tb_of (i := 1217) (by decide +kernel) rfl, tb_of (i := 1215) (by decide +kernel) rfl, tb_of (i := 1216) (by decide +kernel) rfl, tb_of (i := 12) (by decide +kernel) rfl, by decide +kernel, by decide +kernel, by decide +kernel, by decide⟩
theorem yv_X11_opensNextTo : YV yX11_opensNextTo cX11_opensNextTo 4 (some .boolean) 2 := ⟨tb_of (i := 1229) (by decide +kernel) rfl, tb_of (i := 1228) (by decide +kernel) rfl, tb_sel (i := 104) (by decide +kernel) rfl, tb_of (i := 12) (by decide +kernel) rfl, by decide +kernel, by decide +kernel, by decide +kernel, by decide⟩
theorem yv_X11_locked : YV yX11_locked cX11_locked 6 (some .int) 2 := ⟨tb_of (i := 1225) (by decide +kernel) rfl, tb_of (i := 1223) (by decide +kernel) rfl, tb_of (i := 1224) (by decide +kernel) rfl, tb_of (i := 12) (by decide +kernel) rfl, by decide +kernel, by decide +kernel, by decide +kernel, by decide⟩
theorem yv_X11_takes : YV yX11_takes cX11_takes 5 (some .int) 2 := ⟨tb_of (i := 1233) (by decide +kernel) rfl, tb_of (i := 1231) (by decide +kernel) rfl, tb_of (i := 1232) (by decide +kernel) rfl, tb_of (i := 12) (by decide +kernel) rfl, by decide +kernel, by decide +kernel, by decide +kernel, by decide⟩
theorem yv_X11_usefulAt : YV yX11_usefulAt cX11_usefulAt 4 (some .int) 1 := ⟨tb_of (i := 1145) (by decide +kernel) rfl, tb_of (i := 1144) (by decide +kernel) rfl, tb_sel (i := 99) (by decide +kernel) rfl, tb_of (i := 12) (by decide +kernel) rfl, by decide +kernel, by decide +kernel, by decide +kernel, by decide⟩
theorem yv_X11_inReach : YV yX11_inReach cX11_inReach 3 (some .int) 0 := ⟨tb_of (i := 1245) (by decide +kernel) rfl, tb_of (i := 1244) (by decide +kernel) rfl, tb_sel (i := 106) (by decide +kernel) rfl, tb_of (i := 12) (by decide +kernel) rfl, by decide +kernel, by decide +kernel, by decide +kernel, by decide⟩
theorem yv_X11_opensAll : YV yX11_opensAll cX11_opensAll 6 (some .boolean) 2 := ⟨tb_of (i := 1249) (by decide +kernel) rfl, tb_of (i := 1248) (by decide +kernel) rfl, tb_sel (i := 107) (by decide +kernel) rfl, tb_of (i := 12) (by decide +kernel) rfl, by decide +kernel, by decide +kernel, by decide +kernel, by decide⟩
theorem yv_X11_findRow : YV yX11_findRow cX11_findRow 5 none 0 := ⟨tb_of (i := 1241) (by decide +kernel) rfl, tb_of (i := 1240) (by decide +kernel) rfl, tb_sel (i := 105) (by decide +kernel) rfl, tb_of (i := 12) (by decide +kernel) rfl, by decide +kernel, by decide +kernel, by decide +kernel, by decide⟩
theorem yv_X11_row : YV yX11_row cX11_row 4 (some .int) 1 := ⟨tb_of (i := 1237) (by decide +kernel) rfl, tb_of (i := 1235) (by decide +kernel) rfl, tb_of (i := 1236) (by decide +kernel) rfl, tb_of (i := 12) (by decide +kernel) rfl, by decide +kernel, by decide +kernel, by decide +kernel, by decide⟩
theorem yv_X11_couldSend : YV yX11_couldSend cX11_couldSend 5 (some .boolean) 2 := ⟨tb_of (i := 1258) (by decide +kernel) rfl, tb_of (i := 1257) (by decide +kernel) rfl, tb_sel (i := 108) (by decide +kernel) rfl, tb_of (i := 12) (by decide +kernel) rfl, by decide +kernel, by decide +kernel, by decide +kernel, by decide⟩
theorem yv_X11_who : YV yX11_who cX11_who 4 (some .int) 1 := ⟨tb_of (i := 1253) (by decide +kernel) rfl, tb_of (i := 1251) (by decide +kernel) rfl, tb_of (i := 1252) (by decide +kernel) rfl, tb_of (i := 12) (by decide +kernel) rfl, by decide +kernel, by decide +kernel, by decide +kernel, by decide⟩
theorem yv_X11_same : YV yX11_same cX11_same 6 (some .int) 2 := ⟨tb_of (i := 1262) (by decide +kernel) rfl, tb_of (i := 1260) (by decide +kernel) rfl, tb_of (i := 1261) (by decide +kernel) rfl, tb_of (i := 12) (by decide +kernel) rfl, by decide +kernel, by decide +kernel, by decide +kernel, by decide⟩
theorem yv_X11_quiet : YV yX11_quiet cX11_quiet 6 (some .int) 2 := ⟨tb_of (i := 1266) (by decide +kernel) rfl, tb_of (i := 1264) (by decide +kernel) rfl, tb_of (i := 1265) (by decide +kernel) rfl, tb_of (i := 12) (by decide +kernel) rfl, by decide +kernel, by decide +kernel, by decide +kernel, by decide⟩
theorem yv_X11_see : YV yX11_see cX11_see 3 (some .int) 2 := ⟨tb_of (i := 1272) (by decide +kernel) rfl, tb_of (i := 1270) (by decide +kernel) rfl, tb_of (i := 1271) (by decide +kernel) rfl, tb_of (i := 12) (by decide +kernel) rfl, by decide +kernel, by decide +kernel, by decide +kernel, by decide⟩
theorem yv_X11_couldBe : YV yX11_couldBe cX11_couldBe 4 (some .boolean) 1 := ⟨tb_of (i := 1282) (by decide +kernel) rfl, tb_of (i := 1281) (by decide +kernel) rfl, tb_sel (i := 109) (by decide +kernel) rfl, tb_of (i := 12) (by decide +kernel) rfl, by decide +kernel, by decide +kernel, by decide +kernel, by decide⟩
theorem yv_X11_manySecrets : YV yX11_manySecrets cX11_manySecrets 3 (some .int) 0 := ⟨tb_of (i := 1286) (by decide +kernel) rfl, tb_of (i := 1285) (by decide +kernel) rfl, tb_sel (i := 110) (by decide +kernel) rfl, tb_of (i := 12) (by decide +kernel) rfl, by decide +kernel, by decide +kernel, by decide +kernel, by decide⟩
theorem yv_X11_secrets : YV yX11_secrets cX11_secrets 5 (some .int) 1 := ⟨tb_of (i := 1277) (by decide +kernel) rfl, tb_of (i := 1275) (by decide +kernel) rfl, tb_of (i := 1276) (by decide +kernel) rfl, tb_of (i := 12) (by decide +kernel) rfl, by decide +kernel, by decide +kernel, by decide +kernel, by decide⟩
theorem yv_X11_greatestPart : YV yX11_greatestPart cX11_greatestPart 5 (some .int) 1 := ⟨tb_of (i := 1294) (by decide +kernel) rfl, tb_of (i := 1293) (by decide +kernel) rfl, tb_sel (i := 111) (by decide +kernel) rfl, tb_of (i := 12) (by decide +kernel) rfl, by decide +kernel, by decide +kernel, by decide +kernel, by decide⟩
theorem yv_X11_ask : YV yX11_ask cX11_ask 5 (some .int) 0 := ⟨tb_of (i := 1290) (by decide +kernel) rfl, tb_of (i := 1288) (by decide +kernel) rfl, tb_of (i := 1289) (by decide +kernel) rfl, tb_of (i := 12) (by decide +kernel) rfl, by decide +kernel, by decide +kernel, by decide +kernel, by decide⟩
theorem yv_X11_write : YV yX11_write cX11_write 3 (some .int) 2 := ⟨tb_of (i := 1298) (by decide +kernel) rfl, tb_of (i := 1296) (by decide +kernel) rfl, tb_of (i := 1297) (by decide +kernel) rfl, tb_of (i := 12) (by decide +kernel) rfl, by decide +kernel, by decide +kernel, by decide +kernel, by decide⟩
theorem yv_X11_tear : YV yX11_tear cX11_tear 2 (some .int) 0 := ⟨tb_of (i := 1302) (by decide +kernel) rfl, tb_of (i := 1300) (by decide +kernel) rfl, tb_of (i := 1301) (by decide +kernel) rfl, tb_of (i := 12) (by decide +kernel) rfl, by decide +kernel, by decide +kernel, by decide +kernel, by decide⟩
theorem yv_X11_judge : YV yX11_judge cX11_judge 2 (some .int) 0 := ⟨tb_of (i := 1306) (by decide +kernel) rfl, tb_of (i := 1304) (by decide +kernel) rfl, tb_of (i := 1305) (by decide +kernel) rfl, tb_of (i := 12) (by decide +kernel) rfl, by decide +kernel, by decide +kernel, by decide +kernel, by decide⟩
theorem yv_X11_seed : YV yX11_seed cX11_seed 3 (some .int) 1 := ⟨tb_of (i := 1310) (by decide +kernel) rfl, tb_of (i := 1308) (by decide +kernel) rfl, tb_of (i := 1309) (by decide +kernel) rfl, tb_of (i := 12) (by decide +kernel) rfl, by decide +kernel, by decide +kernel, by decide +kernel, by decide⟩
theorem yv_X11_keep : YV yX11_keep cX11_keep 3 (some .int) 1 := ⟨tb_of (i := 1314) (by decide +kernel) rfl, tb_of (i := 1312) (by decide +kernel) rfl, tb_of (i := 1313) (by decide +kernel) rfl, tb_of (i := 12) (by decide +kernel) rfl, by decide +kernel, by decide +kernel, by decide +kernel, by decide⟩
theorem yv_X11_goBack : YV yX11_goBack cX11_goBack 3 (some .int) 1 := ⟨tb_of (i := 1318) (by decide +kernel) rfl, tb_of (i := 1316) (by decide +kernel) rfl, tb_of (i := 1317) (by decide +kernel) rfl, tb_of (i := 12) (by decide +kernel) rfl, by decide +kernel, by decide +kernel, by decide +kernel, by decide⟩
theorem ys_J6_bitCount_0f7a4 : YS yJ6_bitCount_0f7a4 cJ6_bitCount_0f7a4 1 (some .int) 1 := ⟨tb_of (i := 571) (by decide +kernel) rfl, tb_of (i := 570) (by decide +kernel) rfl, tb_of (i := 15) (by decide +kernel) rfl, by decide +kernel, by decide +kernel, by decide +kernel, by decide⟩
theorem ys_J9_floorMod_7cf53 : YS yJ9_floorMod_7cf53 cJ9_floorMod_7cf53 3 (some .int) 2 := ⟨tb_of (i := 692) (by decide +kernel) rfl, tb_of (i := 691) (by decide +kernel) rfl, tb_of (i := 14) (by decide +kernel) rfl, by decide +kernel, by decide +kernel, by decide +kernel, by decide⟩
theorem ys_J9_abs_0f7a4 : YS yJ9_abs_0f7a4 cJ9_abs_0f7a4 1 (some .int) 1 := ⟨tb_of (i := 533) (by decide +kernel) rfl, tb_of (i := 532) (by decide +kernel) rfl, tb_of (i := 14) (by decide +kernel) rfl, by decide +kernel, by decide +kernel, by decide +kernel, by decide⟩
theorem ys_J9_max_7cf53 : YS yJ9_max_7cf53 cJ9_max_7cf53 2 (some .int) 2 := ⟨tb_of (i := 568) (by decide +kernel) rfl, tb_of (i := 567) (by decide +kernel) rfl, tb_of (i := 14) (by decide +kernel) rfl, by decide +kernel, by decide +kernel, by decide +kernel, by decide⟩
theorem ys_J9_min_7cf53 : YS yJ9_min_7cf53 cJ9_min_7cf53 2 (some .int) 2 := ⟨tb_of (i := 545) (by decide +kernel) rfl, tb_of (i := 544) (by decide +kernel) rfl, tb_of (i := 14) (by decide +kernel) rfl, by decide +kernel, by decide +kernel, by decide +kernel, by decide⟩
theorem ac_n : Cond.native arraycopyName ∈ TB := tb_of (i := 445) (by decide +kernel) rfl
theorem ac_s : Cond.static arraycopyName ∈ TB := tb_of (i := 444) (by decide +kernel) rfl
theorem ac_i : Cond.initialized "java/lang/System" ∈ TB := tb_of (i := 13) (by decide +kernel) rfl
theorem mt_i : Cond.initialized "java/lang/Math" ∈ TB := tb_of (i := 14) (by decide +kernel) rfl
theorem mt_s_max : Cond.static Lib.Math.max.name ∈ TB := tb_of (i := 567) (by decide +kernel) rfl
theorem mt_c_max : Cond.code Lib.Math.max.name Lib.Math.max.code 2 (some .int) ∈ TB := tb_of (i := 568) (by decide +kernel) rfl
theorem mt_s_min : Cond.static Lib.Math.min.name ∈ TB := tb_of (i := 544) (by decide +kernel) rfl
theorem mt_c_min : Cond.code Lib.Math.min.name Lib.Math.min.code 2 (some .int) ∈ TB := tb_of (i := 545) (by decide +kernel) rfl
theorem mt_s_abs : Cond.static Lib.Math.abs.name ∈ TB := tb_of (i := 532) (by decide +kernel) rfl
theorem mt_c_abs : Cond.code Lib.Math.abs.name Lib.Math.abs.code 1 (some .int) ∈ TB := tb_of (i := 533) (by decide +kernel) rfl
end
