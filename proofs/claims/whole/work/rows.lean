section
-- ===== PART A: goes FIRST, ahead of the names: the tables' words, and 'selects' of the private methods out of them =====
/-- a private method of a class that the tables say can be made, by its rows of tables_1 -/
def lw_okq (q : MethodName × Nat) : Prop := (q.1.cls ≠ "java/lang/invoke/MethodHandle" ∧ q.1.cls ≠ "java/lang/invoke/VarHandle") ∧ Cond.instantiable q.1.cls q.2 ∈ tables_1 ∧ Cond.privateMethod q.1 ∈ tables_1 ∧ Cond.instanceMethod q.1 ∈ tables_1
theorem lw_p0 : lw_okq (⟨"BiteChild", "refuse", "(I)I"⟩, 9) := ⟨⟨by decide +kernel, by decide +kernel⟩, List.mem_of_getElem? (i := 16) (by decide +kernel), List.mem_of_getElem? (i := 197) (by decide +kernel), List.mem_of_getElem? (i := 198) (by decide +kernel)⟩
theorem lw_p1 : lw_okq (⟨"BiteChild$Table", "layAnew", "(I)V"⟩, 10) := ⟨⟨by decide +kernel, by decide +kernel⟩, List.mem_of_getElem? (i := 30) (by decide +kernel), List.mem_of_getElem? (i := 201) (by decide +kernel), List.mem_of_getElem? (i := 202) (by decide +kernel)⟩
theorem lw_p2 : lw_okq (⟨"BiteChild$Scene", "beginWith", "(LBiteChild$Table;)V"⟩, 3) := ⟨⟨by decide +kernel, by decide +kernel⟩, List.mem_of_getElem? (i := 24) (by decide +kernel), List.mem_of_getElem? (i := 205) (by decide +kernel), List.mem_of_getElem? (i := 206) (by decide +kernel)⟩
theorem lw_p3 : lw_okq (⟨"BiteChild$Table", "copyFrom", "(LBiteChild$Table;)V"⟩, 10) := ⟨⟨by decide +kernel, by decide +kernel⟩, List.mem_of_getElem? (i := 30) (by decide +kernel), List.mem_of_getElem? (i := 209) (by decide +kernel), List.mem_of_getElem? (i := 210) (by decide +kernel)⟩
theorem lw_p4 : lw_okq (⟨"BiteChild$Past", "empty", "()V"⟩, 3) := ⟨⟨by decide +kernel, by decide +kernel⟩, List.mem_of_getElem? (i := 79) (by decide +kernel), List.mem_of_getElem? (i := 216) (by decide +kernel), List.mem_of_getElem? (i := 217) (by decide +kernel)⟩
theorem lw_p5 : lw_okq (⟨"BiteChild$Table", "childAt", "(I)I"⟩, 10) := ⟨⟨by decide +kernel, by decide +kernel⟩, List.mem_of_getElem? (i := 30) (by decide +kernel), List.mem_of_getElem? (i := 224) (by decide +kernel), List.mem_of_getElem? (i := 225) (by decide +kernel)⟩
theorem lw_p6 : lw_okq (⟨"BiteChild$Table", "addChild", "(IIII)I"⟩, 10) := ⟨⟨by decide +kernel, by decide +kernel⟩, List.mem_of_getElem? (i := 30) (by decide +kernel), List.mem_of_getElem? (i := 229) (by decide +kernel), List.mem_of_getElem? (i := 230) (by decide +kernel)⟩
theorem lw_p7 : lw_okq (⟨"BiteChild$Text", "append", "(I)I"⟩, 6) := ⟨⟨by decide +kernel, by decide +kernel⟩, List.mem_of_getElem? (i := 129) (by decide +kernel), List.mem_of_getElem? (i := 237) (by decide +kernel), List.mem_of_getElem? (i := 238) (by decide +kernel)⟩
theorem lw_p8 : lw_okq (⟨"BiteChild$Text", "readInto", "(LBiteChild$Table;)I"⟩, 6) := ⟨⟨by decide +kernel, by decide +kernel⟩, List.mem_of_getElem? (i := 129) (by decide +kernel), List.mem_of_getElem? (i := 249) (by decide +kernel), List.mem_of_getElem? (i := 250) (by decide +kernel)⟩
theorem lw_p9 : lw_okq (⟨"BiteChild$Text", "nextToken", "()V"⟩, 6) := ⟨⟨by decide +kernel, by decide +kernel⟩, List.mem_of_getElem? (i := 129) (by decide +kernel), List.mem_of_getElem? (i := 254) (by decide +kernel), List.mem_of_getElem? (i := 255) (by decide +kernel)⟩
theorem lw_p10 : lw_okq (⟨"BiteChild$Text", "takeWord", "()V"⟩, 6) := ⟨⟨by decide +kernel, by decide +kernel⟩, List.mem_of_getElem? (i := 129) (by decide +kernel), List.mem_of_getElem? (i := 261) (by decide +kernel), List.mem_of_getElem? (i := 262) (by decide +kernel)⟩
theorem lw_p11 : lw_okq (⟨"BiteChild$Text", "isWord", "(Ljava/lang/String;)Z"⟩, 6) := ⟨⟨by decide +kernel, by decide +kernel⟩, List.mem_of_getElem? (i := 129) (by decide +kernel), List.mem_of_getElem? (i := 266) (by decide +kernel), List.mem_of_getElem? (i := 267) (by decide +kernel)⟩
theorem lw_p12 : lw_okq (⟨"BiteChild$Text", "takeFigures", "()V"⟩, 6) := ⟨⟨by decide +kernel, by decide +kernel⟩, List.mem_of_getElem? (i := 129) (by decide +kernel), List.mem_of_getElem? (i := 323) (by decide +kernel), List.mem_of_getElem? (i := 324) (by decide +kernel)⟩
theorem lw_p13 : lw_okq (⟨"BiteChild$Text", "readWoman", "(LBiteChild$Table;)Z"⟩, 6) := ⟨⟨by decide +kernel, by decide +kernel⟩, List.mem_of_getElem? (i := 129) (by decide +kernel), List.mem_of_getElem? (i := 327) (by decide +kernel), List.mem_of_getElem? (i := 328) (by decide +kernel)⟩
theorem lw_p14 : lw_okq (⟨"BiteChild$Text", "nextNumber", "(I)Z"⟩, 6) := ⟨⟨by decide +kernel, by decide +kernel⟩, List.mem_of_getElem? (i := 129) (by decide +kernel), List.mem_of_getElem? (i := 331) (by decide +kernel), List.mem_of_getElem? (i := 332) (by decide +kernel)⟩
theorem lw_p15 : lw_okq (⟨"BiteChild$Text", "nextMark", "()Z"⟩, 6) := ⟨⟨by decide +kernel, by decide +kernel⟩, List.mem_of_getElem? (i := 129) (by decide +kernel), List.mem_of_getElem? (i := 335) (by decide +kernel), List.mem_of_getElem? (i := 336) (by decide +kernel)⟩
def lw_privs_1 : List (MethodName × Nat) := [(⟨"BiteChild", "refuse", "(I)I"⟩, 9), (⟨"BiteChild$Table", "layAnew", "(I)V"⟩, 10), (⟨"BiteChild$Scene", "beginWith", "(LBiteChild$Table;)V"⟩, 3), (⟨"BiteChild$Table", "copyFrom", "(LBiteChild$Table;)V"⟩, 10), (⟨"BiteChild$Past", "empty", "()V"⟩, 3), (⟨"BiteChild$Table", "childAt", "(I)I"⟩, 10), (⟨"BiteChild$Table", "addChild", "(IIII)I"⟩, 10), (⟨"BiteChild$Text", "append", "(I)I"⟩, 6), (⟨"BiteChild$Text", "readInto", "(LBiteChild$Table;)I"⟩, 6), (⟨"BiteChild$Text", "nextToken", "()V"⟩, 6), (⟨"BiteChild$Text", "takeWord", "()V"⟩, 6), (⟨"BiteChild$Text", "isWord", "(Ljava/lang/String;)Z"⟩, 6), (⟨"BiteChild$Text", "takeFigures", "()V"⟩, 6), (⟨"BiteChild$Text", "readWoman", "(LBiteChild$Table;)Z"⟩, 6), (⟨"BiteChild$Text", "nextNumber", "(I)Z"⟩, 6), (⟨"BiteChild$Text", "nextMark", "()Z"⟩, 6)]
theorem lw_r1 : ∀ q ∈ lw_privs_1, lw_okq q := List.forall_mem_cons.mpr ⟨lw_p0, List.forall_mem_cons.mpr ⟨lw_p1, List.forall_mem_cons.mpr ⟨lw_p2, List.forall_mem_cons.mpr ⟨lw_p3, List.forall_mem_cons.mpr ⟨lw_p4, List.forall_mem_cons.mpr ⟨lw_p5, List.forall_mem_cons.mpr ⟨lw_p6, List.forall_mem_cons.mpr ⟨lw_p7, List.forall_mem_cons.mpr ⟨lw_p8, List.forall_mem_cons.mpr ⟨lw_p9, List.forall_mem_cons.mpr ⟨lw_p10, List.forall_mem_cons.mpr ⟨lw_p11, List.forall_mem_cons.mpr ⟨lw_p12, List.forall_mem_cons.mpr ⟨lw_p13, List.forall_mem_cons.mpr ⟨lw_p14, List.forall_mem_cons.mpr ⟨lw_p15, fun _ h => absurd h List.not_mem_nil⟩⟩⟩⟩⟩⟩⟩⟩⟩⟩⟩⟩⟩⟩⟩⟩
theorem lw_p16 : lw_okq (⟨"BiteChild$Text", "readChild", "(LBiteChild$Table;)Z"⟩, 6) := ⟨⟨by decide +kernel, by decide +kernel⟩, List.mem_of_getElem? (i := 129) (by decide +kernel), List.mem_of_getElem? (i := 339) (by decide +kernel), List.mem_of_getElem? (i := 340) (by decide +kernel)⟩
theorem lw_p17 : lw_okq (⟨"BiteChild$Text", "readCarrot", "(LBiteChild$Table;)Z"⟩, 6) := ⟨⟨by decide +kernel, by decide +kernel⟩, List.mem_of_getElem? (i := 129) (by decide +kernel), List.mem_of_getElem? (i := 345) (by decide +kernel), List.mem_of_getElem? (i := 346) (by decide +kernel)⟩
theorem lw_p18 : lw_okq (⟨"BiteChild$Table", "giveCarrot", "(I)I"⟩, 10) := ⟨⟨by decide +kernel, by decide +kernel⟩, List.mem_of_getElem? (i := 30) (by decide +kernel), List.mem_of_getElem? (i := 349) (by decide +kernel), List.mem_of_getElem? (i := 350) (by decide +kernel)⟩
theorem lw_p19 : lw_okq (⟨"BiteChild$Past", "keep", "(LBiteChild$Table;)V"⟩, 3) := ⟨⟨by decide +kernel, by decide +kernel⟩, List.mem_of_getElem? (i := 79) (by decide +kernel), List.mem_of_getElem? (i := 360) (by decide +kernel), List.mem_of_getElem? (i := 361) (by decide +kernel)⟩
theorem lw_p20 : lw_okq (⟨"BiteChild$Table", "passMinutes", "(I)I"⟩, 10) := ⟨⟨by decide +kernel, by decide +kernel⟩, List.mem_of_getElem? (i := 30) (by decide +kernel), List.mem_of_getElem? (i := 368) (by decide +kernel), List.mem_of_getElem? (i := 369) (by decide +kernel)⟩
theorem lw_p21 : lw_okq (⟨"BiteChild$Table", "passMinute", "()I"⟩, 10) := ⟨⟨by decide +kernel, by decide +kernel⟩, List.mem_of_getElem? (i := 30) (by decide +kernel), List.mem_of_getElem? (i := 372) (by decide +kernel), List.mem_of_getElem? (i := 373) (by decide +kernel)⟩
theorem lw_p22 : lw_okq (⟨"BiteChild$Table", "biters", "()I"⟩, 10) := ⟨⟨by decide +kernel, by decide +kernel⟩, List.mem_of_getElem? (i := 30) (by decide +kernel), List.mem_of_getElem? (i := 376) (by decide +kernel), List.mem_of_getElem? (i := 377) (by decide +kernel)⟩
theorem lw_p23 : lw_okq (⟨"BiteChild$Table", "takenSeats", "()I"⟩, 10) := ⟨⟨by decide +kernel, by decide +kernel⟩, List.mem_of_getElem? (i := 30) (by decide +kernel), List.mem_of_getElem? (i := 380) (by decide +kernel), List.mem_of_getElem? (i := 381) (by decide +kernel)⟩
theorem lw_p24 : lw_okq (⟨"BiteChild$Table", "isGuarded", "(I)Z"⟩, 10) := ⟨⟨by decide +kernel, by decide +kernel⟩, List.mem_of_getElem? (i := 30) (by decide +kernel), List.mem_of_getElem? (i := 393) (by decide +kernel), List.mem_of_getElem? (i := 394) (by decide +kernel)⟩
theorem lw_p25 : lw_okq (⟨"BiteChild$Table", "nearIf", "(II)I"⟩, 10) := ⟨⟨by decide +kernel, by decide +kernel⟩, List.mem_of_getElem? (i := 30) (by decide +kernel), List.mem_of_getElem? (i := 397) (by decide +kernel), List.mem_of_getElem? (i := 398) (by decide +kernel)⟩
theorem lw_p26 : lw_okq (⟨"BiteChild$Table", "timesBitten", "(II)I"⟩, 10) := ⟨⟨by decide +kernel, by decide +kernel⟩, List.mem_of_getElem? (i := 30) (by decide +kernel), List.mem_of_getElem? (i := 405) (by decide +kernel), List.mem_of_getElem? (i := 406) (by decide +kernel)⟩
theorem lw_p27 : lw_okq (⟨"BiteChild$Table", "whomOf", "(I)I"⟩, 10) := ⟨⟨by decide +kernel, by decide +kernel⟩, List.mem_of_getElem? (i := 30) (by decide +kernel), List.mem_of_getElem? (i := 409) (by decide +kernel), List.mem_of_getElem? (i := 410) (by decide +kernel)⟩
theorem lw_p28 : lw_okq (⟨"BiteChild", "isChild", "(I)Z"⟩, 9) := ⟨⟨by decide +kernel, by decide +kernel⟩, List.mem_of_getElem? (i := 16) (by decide +kernel), List.mem_of_getElem? (i := 425) (by decide +kernel), List.mem_of_getElem? (i := 426) (by decide +kernel)⟩
theorem lw_p29 : lw_okq (⟨"BiteChild$Past", "giveBack", "(LBiteChild$Table;)V"⟩, 3) := ⟨⟨by decide +kernel, by decide +kernel⟩, List.mem_of_getElem? (i := 79) (by decide +kernel), List.mem_of_getElem? (i := 442) (by decide +kernel), List.mem_of_getElem? (i := 443) (by decide +kernel)⟩
theorem lw_p30 : lw_okq (⟨"BiteChild$Table", "tightOf", "(I)I"⟩, 10) := ⟨⟨by decide +kernel, by decide +kernel⟩, List.mem_of_getElem? (i := 30) (by decide +kernel), List.mem_of_getElem? (i := 450) (by decide +kernel), List.mem_of_getElem? (i := 451) (by decide +kernel)⟩
theorem lw_p31 : lw_okq (⟨"BiteChild$Table", "partOf", "(II)I"⟩, 10) := ⟨⟨by decide +kernel, by decide +kernel⟩, List.mem_of_getElem? (i := 30) (by decide +kernel), List.mem_of_getElem? (i := 454) (by decide +kernel), List.mem_of_getElem? (i := 455) (by decide +kernel)⟩
def lw_privs_2 : List (MethodName × Nat) := [(⟨"BiteChild$Text", "readChild", "(LBiteChild$Table;)Z"⟩, 6), (⟨"BiteChild$Text", "readCarrot", "(LBiteChild$Table;)Z"⟩, 6), (⟨"BiteChild$Table", "giveCarrot", "(I)I"⟩, 10), (⟨"BiteChild$Past", "keep", "(LBiteChild$Table;)V"⟩, 3), (⟨"BiteChild$Table", "passMinutes", "(I)I"⟩, 10), (⟨"BiteChild$Table", "passMinute", "()I"⟩, 10), (⟨"BiteChild$Table", "biters", "()I"⟩, 10), (⟨"BiteChild$Table", "takenSeats", "()I"⟩, 10), (⟨"BiteChild$Table", "isGuarded", "(I)Z"⟩, 10), (⟨"BiteChild$Table", "nearIf", "(II)I"⟩, 10), (⟨"BiteChild$Table", "timesBitten", "(II)I"⟩, 10), (⟨"BiteChild$Table", "whomOf", "(I)I"⟩, 10), (⟨"BiteChild", "isChild", "(I)Z"⟩, 9), (⟨"BiteChild$Past", "giveBack", "(LBiteChild$Table;)V"⟩, 3), (⟨"BiteChild$Table", "tightOf", "(I)I"⟩, 10), (⟨"BiteChild$Table", "partOf", "(II)I"⟩, 10)]
theorem lw_r2 : ∀ q ∈ lw_privs_2, lw_okq q := List.forall_mem_cons.mpr ⟨lw_p16, List.forall_mem_cons.mpr ⟨lw_p17, List.forall_mem_cons.mpr ⟨lw_p18, List.forall_mem_cons.mpr ⟨lw_p19, List.forall_mem_cons.mpr ⟨lw_p20, List.forall_mem_cons.mpr ⟨lw_p21, List.forall_mem_cons.mpr ⟨lw_p22, List.forall_mem_cons.mpr ⟨lw_p23, List.forall_mem_cons.mpr ⟨lw_p24, List.forall_mem_cons.mpr ⟨lw_p25, List.forall_mem_cons.mpr ⟨lw_p26, List.forall_mem_cons.mpr ⟨lw_p27, List.forall_mem_cons.mpr ⟨lw_p28, List.forall_mem_cons.mpr ⟨lw_p29, List.forall_mem_cons.mpr ⟨lw_p30, List.forall_mem_cons.mpr ⟨lw_p31, fun _ h => absurd h List.not_mem_nil⟩⟩⟩⟩⟩⟩⟩⟩⟩⟩⟩⟩⟩⟩⟩⟩
theorem lw_p32 : lw_okq (⟨"BiteChild$Table", "nearOf", "(I)I"⟩, 10) := ⟨⟨by decide +kernel, by decide +kernel⟩, List.mem_of_getElem? (i := 30) (by decide +kernel), List.mem_of_getElem? (i := 462) (by decide +kernel), List.mem_of_getElem? (i := 463) (by decide +kernel)⟩
theorem lw_p33 : lw_okq (⟨"BiteChild", "bitesWithCarrot", "(II)I"⟩, 9) := ⟨⟨by decide +kernel, by decide +kernel⟩, List.mem_of_getElem? (i := 16) (by decide +kernel), List.mem_of_getElem? (i := 487) (by decide +kernel), List.mem_of_getElem? (i := 488) (by decide +kernel)⟩
theorem lw_p34 : lw_okq (⟨"BiteChild$Notes", "add", "(IIIIIII)I"⟩, 2) := ⟨⟨by decide +kernel, by decide +kernel⟩, List.mem_of_getElem? (i := 99) (by decide +kernel), List.mem_of_getElem? (i := 512) (by decide +kernel), List.mem_of_getElem? (i := 513) (by decide +kernel)⟩
theorem lw_p35 : lw_okq (⟨"BiteChild$Notes", "kindsOf", "(I)I"⟩, 2) := ⟨⟨by decide +kernel, by decide +kernel⟩, List.mem_of_getElem? (i := 99) (by decide +kernel), List.mem_of_getElem? (i := 524) (by decide +kernel), List.mem_of_getElem? (i := 525) (by decide +kernel)⟩
theorem lw_p36 : lw_okq (⟨"BiteChild", "ringGain", "(IIII)I"⟩, 9) := ⟨⟨by decide +kernel, by decide +kernel⟩, List.mem_of_getElem? (i := 16) (by decide +kernel), List.mem_of_getElem? (i := 548) (by decide +kernel), List.mem_of_getElem? (i := 549) (by decide +kernel)⟩
theorem lw_p37 : lw_okq (⟨"BiteChild$Scene", "copyFrom", "(LBiteChild$Scene;)V"⟩, 3) := ⟨⟨by decide +kernel, by decide +kernel⟩, List.mem_of_getElem? (i := 24) (by decide +kernel), List.mem_of_getElem? (i := 575) (by decide +kernel), List.mem_of_getElem? (i := 576) (by decide +kernel)⟩
theorem lw_p38 : lw_okq (⟨"BiteChild$Past", "copyFrom", "(LBiteChild$Past;)V"⟩, 3) := ⟨⟨by decide +kernel, by decide +kernel⟩, List.mem_of_getElem? (i := 79) (by decide +kernel), List.mem_of_getElem? (i := 579) (by decide +kernel), List.mem_of_getElem? (i := 580) (by decide +kernel)⟩
theorem lw_p39 : lw_okq (⟨"BiteChild$Notes", "copyFrom", "(LBiteChild$Notes;)V"⟩, 2) := ⟨⟨by decide +kernel, by decide +kernel⟩, List.mem_of_getElem? (i := 99) (by decide +kernel), List.mem_of_getElem? (i := 583) (by decide +kernel), List.mem_of_getElem? (i := 584) (by decide +kernel)⟩
theorem lw_p40 : lw_okq (⟨"BiteChild", "howMany", "(I)I"⟩, 9) := ⟨⟨by decide +kernel, by decide +kernel⟩, List.mem_of_getElem? (i := 16) (by decide +kernel), List.mem_of_getElem? (i := 600) (by decide +kernel), List.mem_of_getElem? (i := 601) (by decide +kernel)⟩
theorem lw_p41 : lw_okq (⟨"BiteChildModel", "bad", "()I"⟩, 19) := ⟨⟨by decide +kernel, by decide +kernel⟩, List.mem_of_getElem? (i := 609) (by decide +kernel), List.mem_of_getElem? (i := 687) (by decide +kernel), List.mem_of_getElem? (i := 688) (by decide +kernel)⟩
theorem lw_p42 : lw_okq (⟨"BiteChildModel", "no", "()I"⟩, 19) := ⟨⟨by decide +kernel, by decide +kernel⟩, List.mem_of_getElem? (i := 609) (by decide +kernel), List.mem_of_getElem? (i := 701) (by decide +kernel), List.mem_of_getElem? (i := 702) (by decide +kernel)⟩
theorem lw_p43 : lw_okq (⟨"BiteChildModel", "full", "()I"⟩, 19) := ⟨⟨by decide +kernel, by decide +kernel⟩, List.mem_of_getElem? (i := 609) (by decide +kernel), List.mem_of_getElem? (i := 705) (by decide +kernel), List.mem_of_getElem? (i := 706) (by decide +kernel)⟩
theorem lw_p44 : lw_okq (⟨"BiteChildModel", "step", "()V"⟩, 19) := ⟨⟨by decide +kernel, by decide +kernel⟩, List.mem_of_getElem? (i := 609) (by decide +kernel), List.mem_of_getElem? (i := 725) (by decide +kernel), List.mem_of_getElem? (i := 726) (by decide +kernel)⟩
theorem lw_p45 : lw_okq (⟨"BiteChildModel", "here", "()I"⟩, 19) := ⟨⟨by decide +kernel, by decide +kernel⟩, List.mem_of_getElem? (i := 609) (by decide +kernel), List.mem_of_getElem? (i := 729) (by decide +kernel), List.mem_of_getElem? (i := 730) (by decide +kernel)⟩
theorem lw_p46 : lw_okq (⟨"BiteChildModel", "readsItem", "(Z)Z"⟩, 19) := ⟨⟨by decide +kernel, by decide +kernel⟩, List.mem_of_getElem? (i := 609) (by decide +kernel), List.mem_of_getElem? (i := 739) (by decide +kernel), List.mem_of_getElem? (i := 740) (by decide +kernel)⟩
theorem lw_p47 : lw_okq (⟨"BiteChildModel", "readsTable", "()Z"⟩, 19) := ⟨⟨by decide +kernel, by decide +kernel⟩, List.mem_of_getElem? (i := 609) (by decide +kernel), List.mem_of_getElem? (i := 744) (by decide +kernel), List.mem_of_getElem? (i := 745) (by decide +kernel)⟩
def lw_privs_3 : List (MethodName × Nat) := [(⟨"BiteChild$Table", "nearOf", "(I)I"⟩, 10), (⟨"BiteChild", "bitesWithCarrot", "(II)I"⟩, 9), (⟨"BiteChild$Notes", "add", "(IIIIIII)I"⟩, 2), (⟨"BiteChild$Notes", "kindsOf", "(I)I"⟩, 2), (⟨"BiteChild", "ringGain", "(IIII)I"⟩, 9), (⟨"BiteChild$Scene", "copyFrom", "(LBiteChild$Scene;)V"⟩, 3), (⟨"BiteChild$Past", "copyFrom", "(LBiteChild$Past;)V"⟩, 3), (⟨"BiteChild$Notes", "copyFrom", "(LBiteChild$Notes;)V"⟩, 2), (⟨"BiteChild", "howMany", "(I)I"⟩, 9), (⟨"BiteChildModel", "bad", "()I"⟩, 19), (⟨"BiteChildModel", "no", "()I"⟩, 19), (⟨"BiteChildModel", "full", "()I"⟩, 19), (⟨"BiteChildModel", "step", "()V"⟩, 19), (⟨"BiteChildModel", "here", "()I"⟩, 19), (⟨"BiteChildModel", "readsItem", "(Z)Z"⟩, 19), (⟨"BiteChildModel", "readsTable", "()Z"⟩, 19)]
theorem lw_r3 : ∀ q ∈ lw_privs_3, lw_okq q := List.forall_mem_cons.mpr ⟨lw_p32, List.forall_mem_cons.mpr ⟨lw_p33, List.forall_mem_cons.mpr ⟨lw_p34, List.forall_mem_cons.mpr ⟨lw_p35, List.forall_mem_cons.mpr ⟨lw_p36, List.forall_mem_cons.mpr ⟨lw_p37, List.forall_mem_cons.mpr ⟨lw_p38, List.forall_mem_cons.mpr ⟨lw_p39, List.forall_mem_cons.mpr ⟨lw_p40, List.forall_mem_cons.mpr ⟨lw_p41, List.forall_mem_cons.mpr ⟨lw_p42, List.forall_mem_cons.mpr ⟨lw_p43, List.forall_mem_cons.mpr ⟨lw_p44, List.forall_mem_cons.mpr ⟨lw_p45, List.forall_mem_cons.mpr ⟨lw_p46, List.forall_mem_cons.mpr ⟨lw_p47, fun _ h => absurd h List.not_mem_nil⟩⟩⟩⟩⟩⟩⟩⟩⟩⟩⟩⟩⟩⟩⟩⟩
theorem lw_p48 : lw_okq (⟨"BiteChildModel", "number", "(I)Z"⟩, 19) := ⟨⟨by decide +kernel, by decide +kernel⟩, List.mem_of_getElem? (i := 609) (by decide +kernel), List.mem_of_getElem? (i := 748) (by decide +kernel), List.mem_of_getElem? (i := 749) (by decide +kernel)⟩
theorem lw_p49 : lw_okq (⟨"BiteChildModel", "readsChild", "()Z"⟩, 19) := ⟨⟨by decide +kernel, by decide +kernel⟩, List.mem_of_getElem? (i := 609) (by decide +kernel), List.mem_of_getElem? (i := 753) (by decide +kernel), List.mem_of_getElem? (i := 754) (by decide +kernel)⟩
theorem lw_p50 : lw_okq (⟨"BiteChildModel", "readsCarrot", "()Z"⟩, 19) := ⟨⟨by decide +kernel, by decide +kernel⟩, List.mem_of_getElem? (i := 609) (by decide +kernel), List.mem_of_getElem? (i := 758) (by decide +kernel), List.mem_of_getElem? (i := 759) (by decide +kernel)⟩
theorem lw_p51 : lw_okq (⟨"BiteChildModel", "remember", "()V"⟩, 19) := ⟨⟨by decide +kernel, by decide +kernel⟩, List.mem_of_getElem? (i := 609) (by decide +kernel), List.mem_of_getElem? (i := 773) (by decide +kernel), List.mem_of_getElem? (i := 774) (by decide +kernel)⟩
theorem lw_p52 : lw_okq (⟨"BiteChildModel", "isChild", "(I)Z"⟩, 19) := ⟨⟨by decide +kernel, by decide +kernel⟩, List.mem_of_getElem? (i := 609) (by decide +kernel), List.mem_of_getElem? (i := 811) (by decide +kernel), List.mem_of_getElem? (i := 812) (by decide +kernel)⟩
theorem lw_p53 : lw_okq (⟨"BiteChildModel", "worse", "()I"⟩, 19) := ⟨⟨by decide +kernel, by decide +kernel⟩, List.mem_of_getElem? (i := 609) (by decide +kernel), List.mem_of_getElem? (i := 836) (by decide +kernel), List.mem_of_getElem? (i := 837) (by decide +kernel)⟩
theorem lw_p54 : lw_okq (⟨"BiteChildModel", "layAside", "()V"⟩, 19) := ⟨⟨by decide +kernel, by decide +kernel⟩, List.mem_of_getElem? (i := 609) (by decide +kernel), List.mem_of_getElem? (i := 844) (by decide +kernel), List.mem_of_getElem? (i := 845) (by decide +kernel)⟩
theorem lw_p55 : lw_okq (⟨"BiteChildModel", "bitesIn", "(I)I"⟩, 19) := ⟨⟨by decide +kernel, by decide +kernel⟩, List.mem_of_getElem? (i := 609) (by decide +kernel), List.mem_of_getElem? (i := 848) (by decide +kernel), List.mem_of_getElem? (i := 849) (by decide +kernel)⟩
theorem lw_p56 : lw_okq (⟨"BiteChildModel", "seatsAll", "()I"⟩, 19) := ⟨⟨by decide +kernel, by decide +kernel⟩, List.mem_of_getElem? (i := 609) (by decide +kernel), List.mem_of_getElem? (i := 869) (by decide +kernel), List.mem_of_getElem? (i := 870) (by decide +kernel)⟩
theorem lw_p57 : lw_okq (⟨"BiteChildModel", "kindsOf", "(I)I"⟩, 19) := ⟨⟨by decide +kernel, by decide +kernel⟩, List.mem_of_getElem? (i := 609) (by decide +kernel), List.mem_of_getElem? (i := 895) (by decide +kernel), List.mem_of_getElem? (i := 896) (by decide +kernel)⟩
theorem lw_p58 : lw_okq (⟨"BiteChildModel", "alike", "(IIIIII)I"⟩, 19) := ⟨⟨by decide +kernel, by decide +kernel⟩, List.mem_of_getElem? (i := 609) (by decide +kernel), List.mem_of_getElem? (i := 903) (by decide +kernel), List.mem_of_getElem? (i := 904) (by decide +kernel)⟩
theorem lw_p59 : lw_okq (⟨"BiteChildModel", "gets", "(II)I"⟩, 19) := ⟨⟨by decide +kernel, by decide +kernel⟩, List.mem_of_getElem? (i := 609) (by decide +kernel), List.mem_of_getElem? (i := 915) (by decide +kernel), List.mem_of_getElem? (i := 916) (by decide +kernel)⟩
theorem lw_p60 : lw_okq (⟨"BiteChildModel", "counted", "(I)I"⟩, 19) := ⟨⟨by decide +kernel, by decide +kernel⟩, List.mem_of_getElem? (i := 609) (by decide +kernel), List.mem_of_getElem? (i := 954) (by decide +kernel), List.mem_of_getElem? (i := 955) (by decide +kernel)⟩
def lw_privs_4 : List (MethodName × Nat) := [(⟨"BiteChildModel", "number", "(I)Z"⟩, 19), (⟨"BiteChildModel", "readsChild", "()Z"⟩, 19), (⟨"BiteChildModel", "readsCarrot", "()Z"⟩, 19), (⟨"BiteChildModel", "remember", "()V"⟩, 19), (⟨"BiteChildModel", "isChild", "(I)Z"⟩, 19), (⟨"BiteChildModel", "worse", "()I"⟩, 19), (⟨"BiteChildModel", "layAside", "()V"⟩, 19), (⟨"BiteChildModel", "bitesIn", "(I)I"⟩, 19), (⟨"BiteChildModel", "seatsAll", "()I"⟩, 19), (⟨"BiteChildModel", "kindsOf", "(I)I"⟩, 19), (⟨"BiteChildModel", "alike", "(IIIIII)I"⟩, 19), (⟨"BiteChildModel", "gets", "(II)I"⟩, 19), (⟨"BiteChildModel", "counted", "(I)I"⟩, 19)]
theorem lw_r4 : ∀ q ∈ lw_privs_4, lw_okq q := List.forall_mem_cons.mpr ⟨lw_p48, List.forall_mem_cons.mpr ⟨lw_p49, List.forall_mem_cons.mpr ⟨lw_p50, List.forall_mem_cons.mpr ⟨lw_p51, List.forall_mem_cons.mpr ⟨lw_p52, List.forall_mem_cons.mpr ⟨lw_p53, List.forall_mem_cons.mpr ⟨lw_p54, List.forall_mem_cons.mpr ⟨lw_p55, List.forall_mem_cons.mpr ⟨lw_p56, List.forall_mem_cons.mpr ⟨lw_p57, List.forall_mem_cons.mpr ⟨lw_p58, List.forall_mem_cons.mpr ⟨lw_p59, List.forall_mem_cons.mpr ⟨lw_p60, fun _ h => absurd h List.not_mem_nil⟩⟩⟩⟩⟩⟩⟩⟩⟩⟩⟩⟩⟩
def lw_privs : List (MethodName × Nat) := lw_privs_1 ++ (lw_privs_2 ++ (lw_privs_3 ++ (lw_privs_4)))
def lw_tbl : List Cond := k2_sels lw_privs ++ tables_1
theorem lw_privs_ok : ∀ q ∈ lw_privs, lw_okq q := by
  show ∀ q ∈ lw_privs_1 ++ (lw_privs_2 ++ (lw_privs_3 ++ (lw_privs_4))), lw_okq q
  exact List.forall_mem_append.mpr ⟨lw_r1, List.forall_mem_append.mpr ⟨lw_r2, List.forall_mem_append.mpr ⟨lw_r3, lw_r4⟩⟩⟩
end
section

/-! ===== BEGIN printed: names, fields, word lists, decode rows ===== -/
def RX0 : String := "BiteChild$Notes"
def TX0 : u_T := fun k => match k with
  | 0 => ("BiteChild$Notes", "parts", "[I", true)
  | _ => ("BiteChild$Notes", "size", "I", false)
def tyX0 : Nat → FieldType := fun k => match k with
  | 0 => .array .int
  | _ => .int
abbrev wsX00 : List Cond := u_ws RX0 TX0 2
theorem nmX0 : ∀ a, a < 2 → ∀ b, b < 2 → a ≠ b → (TX0 a).2.1 ≠ (TX0 b).2.1 := by decide +kernel
theorem tyX0_ok : ∀ k, k < 2 → parseFieldDescriptor (TX0 k).2.2.1 = some (tyX0 k) := by decide +kernel
abbrev cX0_init : ByteArray := prog_2_method_1_code
def yX0_init : MethodName := ⟨RX0, "<init>", "()V"⟩
abbrev cX0_add : ByteArray := prog_2_method_2_code
def yX0_add : MethodName := ⟨RX0, "add", "(IIIIIII)I"⟩
abbrev cX0_kindsOf : ByteArray := prog_2_method_3_code
def yX0_kindsOf : MethodName := ⟨RX0, "kindsOf", "(I)I"⟩
abbrev cX0_copyFrom : ByteArray := prog_2_method_4_code
def yX0_copyFrom : MethodName := ⟨RX0, "copyFrom", "(LBiteChild$Notes;)V"⟩
def RX1 : String := "BiteChild$Past"
def TX1 : u_T := fun k => match k with
  | 0 => ("BiteChild$Past", "tables", "[LBiteChild$Table;", true)
  | 1 => ("BiteChild$Past", "oldest", "I", false)
  | _ => ("BiteChild$Past", "size", "I", false)
def tyX1 : Nat → FieldType := fun k => match k with
  | 0 => .array (.object "BiteChild$Table")
  | 1 => .int
  | _ => .int
abbrev wsX10 : List Cond := u_ws RX1 TX1 3
theorem nmX1 : ∀ a, a < 3 → ∀ b, b < 3 → a ≠ b → (TX1 a).2.1 ≠ (TX1 b).2.1 := by decide +kernel
theorem tyX1_ok : ∀ k, k < 3 → parseFieldDescriptor (TX1 k).2.2.1 = some (tyX1 k) := by decide +kernel
abbrev cX1_init : ByteArray := prog_3_method_1_code
def yX1_init : MethodName := ⟨RX1, "<init>", "()V"⟩
abbrev cX1_empty : ByteArray := prog_3_method_2_code
def yX1_empty : MethodName := ⟨RX1, "empty", "()V"⟩
abbrev cX1_keep : ByteArray := prog_3_method_3_code
def yX1_keep : MethodName := ⟨RX1, "keep", "(LBiteChild$Table;)V"⟩
abbrev cX1_giveBack : ByteArray := prog_3_method_4_code
def yX1_giveBack : MethodName := ⟨RX1, "giveBack", "(LBiteChild$Table;)V"⟩
abbrev cX1_copyFrom : ByteArray := prog_3_method_5_code
def yX1_copyFrom : MethodName := ⟨RX1, "copyFrom", "(LBiteChild$Past;)V"⟩
def RX2 : String := "BiteChild$Scene"
def TX2 : u_T := fun k => match k with
  | 0 => ("BiteChild$Scene", "table", "LBiteChild$Table;", true)
  | 1 => ("BiteChild$Scene", "past", "LBiteChild$Past;", true)
  | _ => ("BiteChild$Scene", "notes", "LBiteChild$Notes;", true)
def tyX2 : Nat → FieldType := fun k => match k with
  | 0 => .object "BiteChild$Table"
  | 1 => .object "BiteChild$Past"
  | _ => .object "BiteChild$Notes"
abbrev wsX20 : List Cond := u_ws RX2 TX2 3
theorem nmX2 : ∀ a, a < 3 → ∀ b, b < 3 → a ≠ b → (TX2 a).2.1 ≠ (TX2 b).2.1 := by decide +kernel
theorem tyX2_ok : ∀ k, k < 3 → parseFieldDescriptor (TX2 k).2.2.1 = some (tyX2 k) := by decide +kernel
abbrev cX2_init : ByteArray := prog_4_method_1_code
def yX2_init : MethodName := ⟨RX2, "<init>", "()V"⟩
abbrev cX2_beginWith : ByteArray := prog_4_method_2_code
def yX2_beginWith : MethodName := ⟨RX2, "beginWith", "(LBiteChild$Table;)V"⟩
abbrev cX2_copyFrom : ByteArray := prog_4_method_3_code
def yX2_copyFrom : MethodName := ⟨RX2, "copyFrom", "(LBiteChild$Scene;)V"⟩
def RX3 : String := "BiteChild$Table"
def TX3 : u_T := fun k => match k with
  | 0 => ("BiteChild$Table", "woman", "I", false)
  | 1 => ("BiteChild$Table", "minute", "I", false)
  | 2 => ("BiteChild$Table", "bites", "I", false)
  | 3 => ("BiteChild$Table", "lately", "I", false)
  | 4 => ("BiteChild$Table", "children", "I", false)
  | 5 => ("BiteChild$Table", "kind", "[I", true)
  | 6 => ("BiteChild$Table", "seat", "[I", true)
  | 7 => ("BiteChild$Table", "words", "[I", true)
  | 8 => ("BiteChild$Table", "hunger", "[I", true)
  | _ => ("BiteChild$Table", "bitten", "[I", true)
def tyX3 : Nat → FieldType := fun k => match k with
  | 0 => .int
  | 1 => .int
  | 2 => .int
  | 3 => .int
  | 4 => .int
  | 5 => .array .int
  | 6 => .array .int
  | 7 => .array .int
  | 8 => .array .int
  | _ => .array .int
abbrev wsX30 : List Cond := u_ws RX3 TX3 10
theorem nmX3 : ∀ a, a < 10 → ∀ b, b < 10 → a ≠ b → (TX3 a).2.1 ≠ (TX3 b).2.1 := by decide +kernel
theorem tyX3_ok : ∀ k, k < 10 → parseFieldDescriptor (TX3 k).2.2.1 = some (tyX3 k) := by decide +kernel
abbrev cX3_init : ByteArray := prog_5_method_1_code
def yX3_init : MethodName := ⟨RX3, "<init>", "()V"⟩
abbrev cX3_layAnew : ByteArray := prog_5_method_2_code
def yX3_layAnew : MethodName := ⟨RX3, "layAnew", "(I)V"⟩
abbrev cX3_copyFrom : ByteArray := prog_5_method_3_code
def yX3_copyFrom : MethodName := ⟨RX3, "copyFrom", "(LBiteChild$Table;)V"⟩
abbrev cX3_addChild : ByteArray := prog_5_method_4_code
def yX3_addChild : MethodName := ⟨RX3, "addChild", "(IIII)I"⟩
abbrev cX3_partOf : ByteArray := prog_5_method_5_code
def yX3_partOf : MethodName := ⟨RX3, "partOf", "(II)I"⟩
abbrev cX3_childAt : ByteArray := prog_5_method_6_code
def yX3_childAt : MethodName := ⟨RX3, "childAt", "(I)I"⟩
abbrev cX3_takenSeats : ByteArray := prog_5_method_7_code
def yX3_takenSeats : MethodName := ⟨RX3, "takenSeats", "()I"⟩
abbrev cX3_nextSeat : ByteArray := prog_5_method_8_code
def yX3_nextSeat : MethodName := ⟨RX3, "nextSeat", "(I)I"⟩
abbrev cX3_seatAhead : ByteArray := prog_5_method_9_code
def yX3_seatAhead : MethodName := ⟨RX3, "seatAhead", "(I)I"⟩
abbrev cX3_tightIn : ByteArray := prog_5_method_10_code
def yX3_tightIn : MethodName := ⟨RX3, "tightIn", "(II)I"⟩
abbrev cX3_tightOf : ByteArray := prog_5_method_11_code
def yX3_tightOf : MethodName := ⟨RX3, "tightOf", "(I)I"⟩
abbrev cX3_nearIf : ByteArray := prog_5_method_12_code
def yX3_nearIf : MethodName := ⟨RX3, "nearIf", "(II)I"⟩
abbrev cX3_nearOf : ByteArray := prog_5_method_13_code
def yX3_nearOf : MethodName := ⟨RX3, "nearOf", "(I)I"⟩
abbrev cX3_whomOf : ByteArray := prog_5_method_14_code
def yX3_whomOf : MethodName := ⟨RX3, "whomOf", "(I)I"⟩
abbrev cX3_isGuarded : ByteArray := prog_5_method_15_code
def yX3_isGuarded : MethodName := ⟨RX3, "isGuarded", "(I)Z"⟩
abbrev cX3_biters : ByteArray := prog_5_method_16_code
def yX3_biters : MethodName := ⟨RX3, "biters", "()I"⟩
abbrev cX3_timesBitten : ByteArray := prog_5_method_17_code
def yX3_timesBitten : MethodName := ⟨RX3, "timesBitten", "(II)I"⟩
abbrev cX3_giveCarrot : ByteArray := prog_5_method_18_code
def yX3_giveCarrot : MethodName := ⟨RX3, "giveCarrot", "(I)I"⟩
abbrev cX3_passMinutes : ByteArray := prog_5_method_19_code
def yX3_passMinutes : MethodName := ⟨RX3, "passMinutes", "(I)I"⟩
abbrev cX3_passMinute : ByteArray := prog_5_method_20_code
def yX3_passMinute : MethodName := ⟨RX3, "passMinute", "()I"⟩
def RX4 : String := "BiteChild$Text"
def TX4 : u_T := fun k => match k with
  | 0 => ("BiteChild$Text", "bytes", "[B", true)
  | 1 => ("BiteChild$Text", "length", "I", false)
  | 2 => ("BiteChild$Text", "place", "I", false)
  | 3 => ("BiteChild$Text", "start", "I", false)
  | 4 => ("BiteChild$Text", "token", "I", false)
  | _ => ("BiteChild$Text", "value", "I", false)
def tyX4 : Nat → FieldType := fun k => match k with
  | 0 => .array .byte
  | 1 => .int
  | 2 => .int
  | 3 => .int
  | 4 => .int
  | _ => .int
abbrev wsX40 : List Cond := u_ws RX4 TX4 6
theorem nmX4 : ∀ a, a < 6 → ∀ b, b < 6 → a ≠ b → (TX4 a).2.1 ≠ (TX4 b).2.1 := by decide +kernel
theorem tyX4_ok : ∀ k, k < 6 → parseFieldDescriptor (TX4 k).2.2.1 = some (tyX4 k) := by decide +kernel
abbrev cX4_init : ByteArray := prog_6_method_1_code
def yX4_init : MethodName := ⟨RX4, "<init>", "()V"⟩
abbrev cX4_append : ByteArray := prog_6_method_2_code
def yX4_append : MethodName := ⟨RX4, "append", "(I)I"⟩
abbrev cX4_readInto : ByteArray := prog_6_method_3_code
def yX4_readInto : MethodName := ⟨RX4, "readInto", "(LBiteChild$Table;)I"⟩
abbrev cX4_readWoman : ByteArray := prog_6_method_4_code
def yX4_readWoman : MethodName := ⟨RX4, "readWoman", "(LBiteChild$Table;)Z"⟩
abbrev cX4_readChild : ByteArray := prog_6_method_5_code
def yX4_readChild : MethodName := ⟨RX4, "readChild", "(LBiteChild$Table;)Z"⟩
abbrev cX4_readCarrot : ByteArray := prog_6_method_6_code
def yX4_readCarrot : MethodName := ⟨RX4, "readCarrot", "(LBiteChild$Table;)Z"⟩
abbrev cX4_nextNumber : ByteArray := prog_6_method_7_code
def yX4_nextNumber : MethodName := ⟨RX4, "nextNumber", "(I)Z"⟩
abbrev cX4_nextMark : ByteArray := prog_6_method_8_code
def yX4_nextMark : MethodName := ⟨RX4, "nextMark", "()Z"⟩
abbrev cX4_nextToken : ByteArray := prog_6_method_9_code
def yX4_nextToken : MethodName := ⟨RX4, "nextToken", "()V"⟩
abbrev cX4_takeWord : ByteArray := prog_6_method_10_code
def yX4_takeWord : MethodName := ⟨RX4, "takeWord", "()V"⟩
abbrev cX4_takeFigures : ByteArray := prog_6_method_11_code
def yX4_takeFigures : MethodName := ⟨RX4, "takeFigures", "()V"⟩
abbrev cX4_isWord : ByteArray := prog_6_method_12_code
def yX4_isWord : MethodName := ⟨RX4, "isWord", "(Ljava/lang/String;)Z"⟩
abbrev cX4_isLetter : ByteArray := prog_6_method_13_code
def yX4_isLetter : MethodName := ⟨RX4, "isLetter", "(I)Z"⟩
abbrev cX4_isFigure : ByteArray := prog_6_method_14_code
def yX4_isFigure : MethodName := ⟨RX4, "isFigure", "(I)Z"⟩
def RX5 : String := "BiteChild"
def TX5 : u_T := fun k => match k with
  | 0 => ("BiteChild", "scene", "LBiteChild$Scene;", true)
  | 1 => ("BiteChild", "images", "[LBiteChild$Scene;", true)
  | 2 => ("BiteChild", "imageKept", "[Z", true)
  | 3 => ("BiteChild", "text", "LBiteChild$Text;", true)
  | 4 => ("BiteChild", "trial", "LBiteChild$Table;", true)
  | 5 => ("BiteChild", "seating", "[I", true)
  | 6 => ("BiteChild", "refused", "[I", true)
  | 7 => ("BiteChild", "above", "J", false)
  | _ => ("BiteChild", "below", "J", false)
def tyX5 : Nat → FieldType := fun k => match k with
  | 0 => .object "BiteChild$Scene"
  | 1 => .array (.object "BiteChild$Scene")
  | 2 => .array .boolean
  | 3 => .object "BiteChild$Text"
  | 4 => .object "BiteChild$Table"
  | 5 => .array .int
  | 6 => .array .int
  | 7 => .long
  | _ => .long
abbrev wsX50 : List Cond := u_ws RX5 TX5 9
theorem nmX5 : ∀ a, a < 9 → ∀ b, b < 9 → a ≠ b → (TX5 a).2.1 ≠ (TX5 b).2.1 := by decide +kernel
theorem tyX5_ok : ∀ k, k < 9 → parseFieldDescriptor (TX5 k).2.2.1 = some (tyX5 k) := by decide +kernel
abbrev cX5_init : ByteArray := prog_1_method_1_code
def yX5_init : MethodName := ⟨RX5, "<init>", "()V"⟩
abbrev cX5_table : ByteArray := prog_1_method_2_code
def yX5_table : MethodName := ⟨RX5, "table", "(I)I"⟩
abbrev cX5_child : ByteArray := prog_1_method_3_code
def yX5_child : MethodName := ⟨RX5, "child", "(IIII)I"⟩
abbrev cX5_type : ByteArray := prog_1_method_4_code
def yX5_type : MethodName := ⟨RX5, "type", "(I)I"⟩
abbrev cX5_clear : ByteArray := prog_1_method_5_code
def yX5_clear : MethodName := ⟨RX5, "clear", "()I"⟩
abbrev cX5_read : ByteArray := prog_1_method_6_code
def yX5_read : MethodName := ⟨RX5, "read", "()I"⟩
abbrev cX5_minute : ByteArray := prog_1_method_7_code
def yX5_minute : MethodName := ⟨RX5, "minute", "(I)I"⟩
abbrev cX5_carrot : ByteArray := prog_1_method_8_code
def yX5_carrot : MethodName := ⟨RX5, "carrot", "(I)I"⟩
abbrev cX5_moves : ByteArray := prog_1_method_9_code
def yX5_moves : MethodName := ⟨RX5, "moves", "(II)I"⟩
abbrev cX5_woman : ByteArray := prog_1_method_10_code
def yX5_woman : MethodName := ⟨RX5, "woman", "(I)I"⟩
abbrev cX5_undo : ByteArray := prog_1_method_11_code
def yX5_undo : MethodName := ⟨RX5, "undo", "()I"⟩
abbrev cX5_of : ByteArray := prog_1_method_12_code
def yX5_of : MethodName := ⟨RX5, "of", "(II)I"⟩
abbrev cX5_now : ByteArray := prog_1_method_13_code
def yX5_now : MethodName := ⟨RX5, "now", "(II)I"⟩
abbrev cX5_then : ByteArray := prog_1_method_14_code
def yX5_then : MethodName := ⟨RX5, "then", "(II)I"⟩
abbrev cX5_quiet : ByteArray := prog_1_method_15_code
def yX5_quiet : MethodName := ⟨RX5, "quiet", "()I"⟩
abbrev cX5_stand : ByteArray := prog_1_method_16_code
def yX5_stand : MethodName := ⟨RX5, "stand", "(II)I"⟩
abbrev cX5_helps : ByteArray := prog_1_method_17_code
def yX5_helps : MethodName := ⟨RX5, "helps", "()I"⟩
abbrev cX5_seated : ByteArray := prog_1_method_18_code
def yX5_seated : MethodName := ⟨RX5, "seated", "(I)I"⟩
abbrev cX5_words : ByteArray := prog_1_method_19_code
def yX5_words : MethodName := ⟨RX5, "words", "(I)I"⟩
abbrev cX5_say : ByteArray := prog_1_method_20_code
def yX5_say : MethodName := ⟨RX5, "say", "()I"⟩
abbrev cX5_note : ByteArray := prog_1_method_21_code
def yX5_note : MethodName := ⟨RX5, "note", "(IIIIIII)I"⟩
abbrev cX5_forget : ByteArray := prog_1_method_22_code
def yX5_forget : MethodName := ⟨RX5, "forget", "()I"⟩
abbrev cX5_is : ByteArray := prog_1_method_23_code
def yX5_is : MethodName := ⟨RX5, "is", "(I)I"⟩
abbrev cX5_look : ByteArray := prog_1_method_24_code
def yX5_look : MethodName := ⟨RX5, "look", "(I)I"⟩
abbrev cX5_who : ByteArray := prog_1_method_25_code
def yX5_who : MethodName := ⟨RX5, "who", "(I)I"⟩
abbrev cX5_rings : ByteArray := prog_1_method_26_code
def yX5_rings : MethodName := ⟨RX5, "rings", "(II)I"⟩
abbrev cX5_eyes : ByteArray := prog_1_method_27_code
def yX5_eyes : MethodName := ⟨RX5, "eyes", "(I)I"⟩
abbrev cX5_weeks : ByteArray := prog_1_method_28_code
def yX5_weeks : MethodName := ⟨RX5, "weeks", "(II)I"⟩
abbrev cX5_part : ByteArray := prog_1_method_29_code
def yX5_part : MethodName := ⟨RX5, "part", "(I)J"⟩
abbrev cX5_image : ByteArray := prog_1_method_30_code
def yX5_image : MethodName := ⟨RX5, "image", "(I)I"⟩
abbrev cX5_from : ByteArray := prog_1_method_31_code
def yX5_from : MethodName := ⟨RX5, "from", "(I)I"⟩
abbrev cX5_status : ByteArray := prog_1_method_32_code
def yX5_status : MethodName := ⟨RX5, "status", "(I)I"⟩
abbrev cX5_count : ByteArray := prog_1_method_33_code
def yX5_count : MethodName := ⟨RX5, "count", "(I)I"⟩
abbrev cX5_digest : ByteArray := prog_1_method_34_code
def yX5_digest : MethodName := ⟨RX5, "digest", "()J"⟩
abbrev cX5_within : ByteArray := prog_1_method_35_code
def yX5_within : MethodName := ⟨RX5, "within", "(III)Z"⟩
abbrev cX5_isSeat : ByteArray := prog_1_method_36_code
def yX5_isSeat : MethodName := ⟨RX5, "isSeat", "(I)Z"⟩
abbrev cX5_isChild : ByteArray := prog_1_method_37_code
def yX5_isChild : MethodName := ⟨RX5, "isChild", "(I)Z"⟩
abbrev cX5_refuse : ByteArray := prog_1_method_38_code
def yX5_refuse : MethodName := ⟨RX5, "refuse", "(I)I"⟩
abbrev cX5_howMany : ByteArray := prog_1_method_39_code
def yX5_howMany : MethodName := ⟨RX5, "howMany", "(I)I"⟩
abbrev cX5_bitesWithCarrot : ByteArray := prog_1_method_40_code
def yX5_bitesWithCarrot : MethodName := ⟨RX5, "bitesWithCarrot", "(II)I"⟩
abbrev cX5_seatRest : ByteArray := prog_1_method_41_code
def yX5_seatRest : MethodName := ⟨RX5, "seatRest", "(LBiteChild$Table;III[I)I"⟩
abbrev cX5_ringGain : ByteArray := prog_1_method_42_code
def yX5_ringGain : MethodName := ⟨RX5, "ringGain", "(IIII)I"⟩
abbrev cX5_mostAlike : ByteArray := prog_1_method_43_code
def yX5_mostAlike : MethodName := ⟨RX5, "mostAlike", "(IIIIII)I"⟩
abbrev cX5_kindsSoNear : ByteArray := prog_1_method_44_code
def yX5_kindsSoNear : MethodName := ⟨RX5, "kindsSoNear", "(IIIIII)I"⟩
abbrev cX5_near : ByteArray := prog_1_method_45_code
def yX5_near : MethodName := ⟨RX5, "near", "(IIIIII)I"⟩
def RX6 : String := "BiteChildModel"
def TX6 : u_T := fun k => match k with
  | 0 => ("BiteChildModel", "now", "[I", true)
  | 1 => ("BiteChildModel", "read", "[I", true)
  | 2 => ("BiteChildModel", "aside", "[I", true)
  | 3 => ("BiteChildModel", "images", "[I", true)
  | 4 => ("BiteChildModel", "kept", "[Z", true)
  | 5 => ("BiteChildModel", "text", "[I", true)
  | 6 => ("BiteChildModel", "size", "I", false)
  | 7 => ("BiteChildModel", "above", "J", false)
  | 8 => ("BiteChildModel", "below", "J", false)
  | 9 => ("BiteChildModel", "bads", "I", false)
  | 10 => ("BiteChildModel", "noes", "I", false)
  | 11 => ("BiteChildModel", "fulls", "I", false)
  | 12 => ("BiteChildModel", "at", "I", false)
  | 13 => ("BiteChildModel", "begin", "I", false)
  | 14 => ("BiteChildModel", "token", "I", false)
  | 15 => ("BiteChildModel", "word", "J", false)
  | 16 => ("BiteChildModel", "value", "I", false)
  | 17 => ("BiteChildModel", "seats", "[I", true)
  | _ => ("BiteChildModel", "best", "[I", true)
def tyX6 : Nat → FieldType := fun k => match k with
  | 0 => .array .int
  | 1 => .array .int
  | 2 => .array .int
  | 3 => .array .int
  | 4 => .array .boolean
  | 5 => .array .int
  | 6 => .int
  | 7 => .long
  | 8 => .long
  | 9 => .int
  | 10 => .int
  | 11 => .int
  | 12 => .int
  | 13 => .int
  | 14 => .int
  | 15 => .long
  | 16 => .int
  | 17 => .array .int
  | _ => .array .int
abbrev wsX60 : List Cond := u_ws RX6 TX6 19
theorem nmX6 : ∀ a, a < 19 → ∀ b, b < 19 → a ≠ b → (TX6 a).2.1 ≠ (TX6 b).2.1 := by decide +kernel
theorem tyX6_ok : ∀ k, k < 19 → parseFieldDescriptor (TX6 k).2.2.1 = some (tyX6 k) := by decide +kernel
abbrev cX6_init : ByteArray := prog_8_method_1_code
def yX6_init : MethodName := ⟨RX6, "<init>", "()V"⟩
abbrev cX6_in : ByteArray := prog_8_method_3_code
def yX6_in : MethodName := ⟨RX6, "in", "(JJJ)Z"⟩
abbrev cX6_has : ByteArray := prog_8_method_4_code
def yX6_has : MethodName := ⟨RX6, "has", "(II)Z"⟩
abbrev cX6_bits : ByteArray := prog_8_method_5_code
def yX6_bits : MethodName := ⟨RX6, "bits", "(I)I"⟩
abbrev cX6_copies : ByteArray := prog_8_method_6_code
def yX6_copies : MethodName := ⟨RX6, "copies", "([II[III)V"⟩
abbrev cX6_begins : ByteArray := prog_8_method_7_code
def yX6_begins : MethodName := ⟨RX6, "begins", "([II)V"⟩
abbrev cX6_bad : ByteArray := prog_8_method_8_code
def yX6_bad : MethodName := ⟨RX6, "bad", "()I"⟩
abbrev cX6_worse : ByteArray := prog_8_method_9_code
def yX6_worse : MethodName := ⟨RX6, "worse", "()I"⟩
abbrev cX6_no : ByteArray := prog_8_method_10_code
def yX6_no : MethodName := ⟨RX6, "no", "()I"⟩
abbrev cX6_full : ByteArray := prog_8_method_11_code
def yX6_full : MethodName := ⟨RX6, "full", "()I"⟩
abbrev cX6_isSeat : ByteArray := prog_8_method_12_code
def yX6_isSeat : MethodName := ⟨RX6, "isSeat", "(I)Z"⟩
abbrev cX6_isChild : ByteArray := prog_8_method_13_code
def yX6_isChild : MethodName := ⟨RX6, "isChild", "(I)Z"⟩
abbrev cX6_whoIs : ByteArray := prog_8_method_14_code
def yX6_whoIs : MethodName := ⟨RX6, "whoIs", "([II)I"⟩
abbrev cX6_table : ByteArray := prog_8_method_15_code
def yX6_table : MethodName := ⟨RX6, "table", "(I)I"⟩
abbrev cX6_comes : ByteArray := prog_8_method_16_code
def yX6_comes : MethodName := ⟨RX6, "comes", "([IIIII)V"⟩
abbrev cX6_child : ByteArray := prog_8_method_17_code
def yX6_child : MethodName := ⟨RX6, "child", "(IIII)I"⟩
abbrev cX6_type : ByteArray := prog_8_method_18_code
def yX6_type : MethodName := ⟨RX6, "type", "(I)I"⟩
abbrev cX6_clear : ByteArray := prog_8_method_19_code
def yX6_clear : MethodName := ⟨RX6, "clear", "()I"⟩
abbrev cX6_here : ByteArray := prog_8_method_20_code
def yX6_here : MethodName := ⟨RX6, "here", "()I"⟩
abbrev cX6_step : ByteArray := prog_8_method_21_code
def yX6_step : MethodName := ⟨RX6, "step", "()V"⟩
abbrev cX6_number : ByteArray := prog_8_method_22_code
def yX6_number : MethodName := ⟨RX6, "number", "(I)Z"⟩
abbrev cX6_readsTable : ByteArray := prog_8_method_23_code
def yX6_readsTable : MethodName := ⟨RX6, "readsTable", "()Z"⟩
abbrev cX6_readsChild : ByteArray := prog_8_method_24_code
def yX6_readsChild : MethodName := ⟨RX6, "readsChild", "()Z"⟩
abbrev cX6_lesser : ByteArray := prog_8_method_25_code
def yX6_lesser : MethodName := ⟨RX6, "lesser", "(II)I"⟩
abbrev cX6_readsCarrot : ByteArray := prog_8_method_26_code
def yX6_readsCarrot : MethodName := ⟨RX6, "readsCarrot", "()Z"⟩
abbrev cX6_readsItem : ByteArray := prog_8_method_27_code
def yX6_readsItem : MethodName := ⟨RX6, "readsItem", "(Z)Z"⟩
abbrev cX6_read : ByteArray := prog_8_method_28_code
def yX6_read : MethodName := ⟨RX6, "read", "()I"⟩
abbrev cX6_nearAs : ByteArray := prog_8_method_29_code
def yX6_nearAs : MethodName := ⟨RX6, "nearAs", "(IIIIII)I"⟩
abbrev cX6_tight : ByteArray := prog_8_method_30_code
def yX6_tight : MethodName := ⟨RX6, "tight", "([II)I"⟩
abbrev cX6_nearOf : ByteArray := prog_8_method_31_code
def yX6_nearOf : MethodName := ⟨RX6, "nearOf", "([II)I"⟩
abbrev cX6_whom : ByteArray := prog_8_method_32_code
def yX6_whom : MethodName := ⟨RX6, "whom", "([II)I"⟩
abbrev cX6_isGuarded : ByteArray := prog_8_method_33_code
def yX6_isGuarded : MethodName := ⟨RX6, "isGuarded", "([II)Z"⟩
abbrev cX6_bites : ByteArray := prog_8_method_34_code
def yX6_bites : MethodName := ⟨RX6, "bites", "([II)Z"⟩
abbrev cX6_biters : ByteArray := prog_8_method_35_code
def yX6_biters : MethodName := ⟨RX6, "biters", "([I)I"⟩
abbrev cX6_goes : ByteArray := prog_8_method_36_code
def yX6_goes : MethodName := ⟨RX6, "goes", "([I)V"⟩
abbrev cX6_remember : ByteArray := prog_8_method_37_code
def yX6_remember : MethodName := ⟨RX6, "remember", "()V"⟩
abbrev cX6_minute : ByteArray := prog_8_method_38_code
def yX6_minute : MethodName := ⟨RX6, "minute", "(I)I"⟩
abbrev cX6_carrot : ByteArray := prog_8_method_39_code
def yX6_carrot : MethodName := ⟨RX6, "carrot", "(I)I"⟩
abbrev cX6_moves : ByteArray := prog_8_method_40_code
def yX6_moves : MethodName := ⟨RX6, "moves", "(II)I"⟩
abbrev cX6_woman : ByteArray := prog_8_method_41_code
def yX6_woman : MethodName := ⟨RX6, "woman", "(I)I"⟩
abbrev cX6_undo : ByteArray := prog_8_method_42_code
def yX6_undo : MethodName := ⟨RX6, "undo", "()I"⟩
abbrev cX6_of : ByteArray := prog_8_method_43_code
def yX6_of : MethodName := ⟨RX6, "of", "(II)I"⟩
abbrev cX6_now : ByteArray := prog_8_method_44_code
def yX6_now : MethodName := ⟨RX6, "now", "(II)I"⟩
abbrev cX6_layAside : ByteArray := prog_8_method_45_code
def yX6_layAside : MethodName := ⟨RX6, "layAside", "()V"⟩
abbrev cX6_bitesIn : ByteArray := prog_8_method_46_code
def yX6_bitesIn : MethodName := ⟨RX6, "bitesIn", "(I)I"⟩
abbrev cX6_then : ByteArray := prog_8_method_47_code
def yX6_then : MethodName := ⟨RX6, "then", "(II)I"⟩
abbrev cX6_quiet : ByteArray := prog_8_method_48_code
def yX6_quiet : MethodName := ⟨RX6, "quiet", "()I"⟩
abbrev cX6_stand : ByteArray := prog_8_method_49_code
def yX6_stand : MethodName := ⟨RX6, "stand", "(II)I"⟩
abbrev cX6_helps : ByteArray := prog_8_method_50_code
def yX6_helps : MethodName := ⟨RX6, "helps", "()I"⟩
abbrev cX6_seatsAll : ByteArray := prog_8_method_51_code
def yX6_seatsAll : MethodName := ⟨RX6, "seatsAll", "()I"⟩
abbrev cX6_seated : ByteArray := prog_8_method_52_code
def yX6_seated : MethodName := ⟨RX6, "seated", "(I)I"⟩
abbrev cX6_words : ByteArray := prog_8_method_53_code
def yX6_words : MethodName := ⟨RX6, "words", "(I)I"⟩
abbrev cX6_say : ByteArray := prog_8_method_54_code
def yX6_say : MethodName := ⟨RX6, "say", "()I"⟩
abbrev cX6_note : ByteArray := prog_8_method_55_code
def yX6_note : MethodName := ⟨RX6, "note", "(IIIIIII)I"⟩
abbrev cX6_forget : ByteArray := prog_8_method_56_code
def yX6_forget : MethodName := ⟨RX6, "forget", "()I"⟩
abbrev cX6_kindsOf : ByteArray := prog_8_method_57_code
def yX6_kindsOf : MethodName := ⟨RX6, "kindsOf", "(I)I"⟩
abbrev cX6_is : ByteArray := prog_8_method_58_code
def yX6_is : MethodName := ⟨RX6, "is", "(I)I"⟩
abbrev cX6_alike : ByteArray := prog_8_method_59_code
def yX6_alike : MethodName := ⟨RX6, "alike", "(IIIIII)I"⟩
abbrev cX6_look : ByteArray := prog_8_method_60_code
def yX6_look : MethodName := ⟨RX6, "look", "(I)I"⟩
abbrev cX6_who : ByteArray := prog_8_method_61_code
def yX6_who : MethodName := ⟨RX6, "who", "(I)I"⟩
abbrev cX6_gets : ByteArray := prog_8_method_62_code
def yX6_gets : MethodName := ⟨RX6, "gets", "(II)I"⟩
abbrev cX6_rings : ByteArray := prog_8_method_63_code
def yX6_rings : MethodName := ⟨RX6, "rings", "(II)I"⟩
abbrev cX6_eyes : ByteArray := prog_8_method_64_code
def yX6_eyes : MethodName := ⟨RX6, "eyes", "(I)I"⟩
abbrev cX6_weeks : ByteArray := prog_8_method_65_code
def yX6_weeks : MethodName := ⟨RX6, "weeks", "(II)I"⟩
abbrev cX6_part : ByteArray := prog_8_method_66_code
def yX6_part : MethodName := ⟨RX6, "part", "(I)J"⟩
abbrev cX6_image : ByteArray := prog_8_method_67_code
def yX6_image : MethodName := ⟨RX6, "image", "(I)I"⟩
abbrev cX6_from : ByteArray := prog_8_method_68_code
def yX6_from : MethodName := ⟨RX6, "from", "(I)I"⟩
abbrev cX6_status : ByteArray := prog_8_method_69_code
def yX6_status : MethodName := ⟨RX6, "status", "(I)I"⟩
abbrev cX6_counted : ByteArray := prog_8_method_70_code
def yX6_counted : MethodName := ⟨RX6, "counted", "(I)I"⟩
abbrev cX6_count : ByteArray := prog_8_method_71_code
def yX6_count : MethodName := ⟨RX6, "count", "(I)I"⟩
abbrev cX6_digest : ByteArray := prog_8_method_72_code
def yX6_digest : MethodName := ⟨RX6, "digest", "()J"⟩
def RJ6 : String := "java/lang/Integer"
def TJ6 : u_T := fun k => match k with
  | _ => ("", "", "", false)
def tyJ6 : Nat → FieldType := fun k => match k with
  | _ => .int
abbrev wsJ60 : List Cond := u_ws RJ6 TJ6 0
theorem nmJ6 : ∀ a, a < 0 → ∀ b, b < 0 → a ≠ b → (TJ6 a).2.1 ≠ (TJ6 b).2.1 := by decide +kernel
theorem tyJ6_ok : ∀ k, k < 0 → parseFieldDescriptor (TJ6 k).2.2.1 = some (tyJ6 k) := by decide +kernel
abbrev cJ6_bitCount_0f7a4 : ByteArray := prog_9_method_49_code
def yJ6_bitCount_0f7a4 : MethodName := ⟨RJ6, "bitCount", "(I)I"⟩
def RJ9 : String := "java/lang/Math"
def TJ9 : u_T := fun k => match k with
  | _ => ("", "", "", false)
def tyJ9 : Nat → FieldType := fun k => match k with
  | _ => .int
abbrev wsJ90 : List Cond := u_ws RJ9 TJ9 0
theorem nmJ9 : ∀ a, a < 0 → ∀ b, b < 0 → a ≠ b → (TJ9 a).2.1 ≠ (TJ9 b).2.1 := by decide +kernel
theorem tyJ9_ok : ∀ k, k < 0 → parseFieldDescriptor (TJ9 k).2.2.1 = some (tyJ9 k) := by decide +kernel
abbrev cJ9_max_7cf53 : ByteArray := prog_10_method_65_code
def yJ9_max_7cf53 : MethodName := ⟨RJ9, "max", "(II)I"⟩
abbrev cJ9_min_7cf53 : ByteArray := prog_10_method_69_code
def yJ9_min_7cf53 : MethodName := ⟨RJ9, "min", "(II)I"⟩
def RJ0 : String := "java/lang/String"
def TJ0 : u_T := fun k => match k with
  | _ => ("", "", "", false)
def tyJ0 : Nat → FieldType := fun k => match k with
  | _ => .int
abbrev wsJ00 : List Cond := u_ws RJ0 TJ0 0
theorem nmJ0 : ∀ a, a < 0 → ∀ b, b < 0 → a ≠ b → (TJ0 a).2.1 ≠ (TJ0 b).2.1 := by decide +kernel
theorem tyJ0_ok : ∀ k, k < 0 → parseFieldDescriptor (TJ0 k).2.2.1 = some (tyJ0 k) := by decide +kernel
abbrev cJ0_length_8abf5 : ByteArray := prog_11_method_54_code
def yJ0_length_8abf5 : MethodName := ⟨RJ0, "length", "()I"⟩
abbrev cJ0_charAt_5068e : ByteArray := prog_11_method_56_code
def yJ0_charAt_5068e : MethodName := ⟨RJ0, "charAt", "(I)C"⟩
abbrev cJ0_coder_7d493 : ByteArray := prog_11_method_152_code
def yJ0_coder_7d493 : MethodName := ⟨RJ0, "coder", "()B"⟩
abbrev cJ0_isLatin1_aae02 : ByteArray := prog_11_method_154_code
def yJ0_isLatin1_aae02 : MethodName := ⟨RJ0, "isLatin1", "()Z"⟩
abbrev cJ0_checkIndex_df160 : ByteArray := prog_11_method_155_code
def yJ0_checkIndex_df160 : MethodName := ⟨RJ0, "checkIndex", "(II)V"⟩
def RJ1 : String := "java/lang/StringLatin1"
def TJ1 : u_T := fun k => match k with
  | _ => ("", "", "", false)
def tyJ1 : Nat → FieldType := fun k => match k with
  | _ => .int
abbrev wsJ10 : List Cond := u_ws RJ1 TJ1 0
theorem nmJ1 : ∀ a, a < 0 → ∀ b, b < 0 → a ≠ b → (TJ1 a).2.1 ≠ (TJ1 b).2.1 := by decide +kernel
theorem tyJ1_ok : ∀ k, k < 0 → parseFieldDescriptor (TJ1 k).2.2.1 = some (tyJ1 k) := by decide +kernel
abbrev cJ1_charAt_3b067 : ByteArray := prog_12_method_2_code
def yJ1_charAt_3b067 : MethodName := ⟨RJ1, "charAt", "([BI)C"⟩
def RJ2 : String := "java/lang/StringUTF16"
def TJ2 : u_T := fun k => match k with
  | _ => ("", "", "", false)
def tyJ2 : Nat → FieldType := fun k => match k with
  | _ => .int
abbrev wsJ20 : List Cond := u_ws RJ2 TJ2 0
theorem nmJ2 : ∀ a, a < 0 → ∀ b, b < 0 → a ≠ b → (TJ2 a).2.1 ≠ (TJ2 b).2.1 := by decide +kernel
theorem tyJ2_ok : ∀ k, k < 0 → parseFieldDescriptor (TJ2 k).2.2.1 = some (tyJ2 k) := by decide +kernel
abbrev cJ2_getChar_3b067 : ByteArray := prog_13_method_5_code
def yJ2_getChar_3b067 : MethodName := ⟨RJ2, "getChar", "([BI)C"⟩
abbrev cJ2_length_9d52b : ByteArray := prog_13_method_6_code
def yJ2_length_9d52b : MethodName := ⟨RJ2, "length", "([B)I"⟩
abbrev cJ2_charAt_3b067 : ByteArray := prog_13_method_83_code
def yJ2_charAt_3b067 : MethodName := ⟨RJ2, "charAt", "([BI)C"⟩
abbrev cJ2_checkIndex_2214a : ByteArray := prog_13_method_91_code
def yJ2_checkIndex_2214a : MethodName := ⟨RJ2, "checkIndex", "(I[B)V"⟩
def RJ10 : String := "java/lang/System"
def TJ10 : u_T := fun k => match k with
  | _ => ("", "", "", false)
def tyJ10 : Nat → FieldType := fun k => match k with
  | _ => .int
abbrev wsJ100 : List Cond := u_ws RJ10 TJ10 0
theorem nmJ10 : ∀ a, a < 0 → ∀ b, b < 0 → a ≠ b → (TJ10 a).2.1 ≠ (TJ10 b).2.1 := by decide +kernel
theorem tyJ10_ok : ∀ k, k < 0 → parseFieldDescriptor (TJ10 k).2.2.1 = some (tyJ10 k) := by decide +kernel
def RJ3 : String := "jdk/internal/util/Preconditions"
def TJ3 : u_T := fun k => match k with
  | _ => ("", "", "", false)
def tyJ3 : Nat → FieldType := fun k => match k with
  | _ => .int
abbrev wsJ30 : List Cond := u_ws RJ3 TJ3 0
theorem nmJ3 : ∀ a, a < 0 → ∀ b, b < 0 → a ≠ b → (TJ3 a).2.1 ≠ (TJ3 b).2.1 := by decide +kernel
theorem tyJ3_ok : ∀ k, k < 0 → parseFieldDescriptor (TJ3 k).2.2.1 = some (tyJ3 k) := by decide +kernel
abbrev cJ3_checkIndex_8e157 : ByteArray := prog_15_method_11_code
def yJ3_checkIndex_8e157 : MethodName := ⟨RJ3, "checkIndex", "(IILjava/util/function/BiFunction;)I"⟩
def RL : String := "BiteChildLaw"
abbrev cL_law : ByteArray := code
def yL_law : MethodName := ⟨RL, "law", "([I)Z"⟩
end
section
theorem dX0_init_0 : decode cX0_init 0 = .ok (.aload_n 0, 1) := by decide +kernel
theorem dX0_init_1 : decode cX0_init 1 = .ok (.invokespecial 3, 3) := by decide +kernel
theorem dX0_init_4 : decode cX0_init 4 = .ok (.aload_n 0, 1) := by decide +kernel
theorem dX0_init_5 : decode cX0_init 5 = .ok (.bipush 42, 2) := by decide +kernel
theorem dX0_init_7 : decode cX0_init 7 = .ok (.newarray .int, 2) := by decide +kernel
theorem dX0_init_9 : decode cX0_init 9 = .ok (.putfield 9, 3) := by decide +kernel
theorem dX0_init_12 : decode cX0_init 12 = .ok (.return_, 1) := by decide +kernel
theorem dX0_add_0 : decode cX0_add 0 = .ok (.aload_n 0, 1) := by decide +kernel
theorem dX0_add_1 : decode cX0_add 1 = .ok (.getfield 15, 3) := by decide +kernel
theorem dX0_add_4 : decode cX0_add 4 = .ok (.bipush 6, 2) := by decide +kernel
theorem dX0_add_6 : decode cX0_add 6 = .ok (.if_icmp .ge 95, 3) := by decide +kernel
theorem dX0_add_9 : decode cX0_add 9 = .ok (.aload_n 0, 1) := by decide +kernel
theorem dX0_add_10 : decode cX0_add 10 = .ok (.getfield 15, 3) := by decide +kernel
theorem dX0_add_13 : decode cX0_add 13 = .ok (.bipush 7, 2) := by decide +kernel
theorem dX0_add_15 : decode cX0_add 15 = .ok (.imul, 1) := by decide +kernel
theorem dX0_add_16 : decode cX0_add 16 = .ok (.istore 8, 2) := by decide +kernel
theorem dX0_add_18 : decode cX0_add 18 = .ok (.aload_n 0, 1) := by decide +kernel
theorem dX0_add_19 : decode cX0_add 19 = .ok (.getfield 9, 3) := by decide +kernel
theorem dX0_add_22 : decode cX0_add 22 = .ok (.iload 8, 2) := by decide +kernel
theorem dX0_add_24 : decode cX0_add 24 = .ok (.iload_n 1, 1) := by decide +kernel
theorem dX0_add_25 : decode cX0_add 25 = .ok (.iastore, 1) := by decide +kernel
theorem dX0_add_26 : decode cX0_add 26 = .ok (.aload_n 0, 1) := by decide +kernel
theorem dX0_add_27 : decode cX0_add 27 = .ok (.getfield 9, 3) := by decide +kernel
theorem dX0_add_30 : decode cX0_add 30 = .ok (.iload 8, 2) := by decide +kernel
theorem dX0_add_32 : decode cX0_add 32 = .ok (.iconst 1, 1) := by decide +kernel
theorem dX0_add_33 : decode cX0_add 33 = .ok (.iadd, 1) := by decide +kernel
theorem dX0_add_34 : decode cX0_add 34 = .ok (.iload_n 2, 1) := by decide +kernel
theorem dX0_add_35 : decode cX0_add 35 = .ok (.iastore, 1) := by decide +kernel
theorem dX0_add_36 : decode cX0_add 36 = .ok (.aload_n 0, 1) := by decide +kernel
theorem dX0_add_37 : decode cX0_add 37 = .ok (.getfield 9, 3) := by decide +kernel
theorem dX0_add_40 : decode cX0_add 40 = .ok (.iload 8, 2) := by decide +kernel
theorem dX0_add_42 : decode cX0_add 42 = .ok (.iconst 2, 1) := by decide +kernel
theorem dX0_add_43 : decode cX0_add 43 = .ok (.iadd, 1) := by decide +kernel
theorem dX0_add_44 : decode cX0_add 44 = .ok (.iload_n 3, 1) := by decide +kernel
theorem dX0_add_45 : decode cX0_add 45 = .ok (.iastore, 1) := by decide +kernel
theorem dX0_add_46 : decode cX0_add 46 = .ok (.aload_n 0, 1) := by decide +kernel
theorem dX0_add_47 : decode cX0_add 47 = .ok (.getfield 9, 3) := by decide +kernel
theorem dX0_add_50 : decode cX0_add 50 = .ok (.iload 8, 2) := by decide +kernel
theorem dX0_add_52 : decode cX0_add 52 = .ok (.iconst 3, 1) := by decide +kernel
theorem dX0_add_53 : decode cX0_add 53 = .ok (.iadd, 1) := by decide +kernel
theorem dX0_add_54 : decode cX0_add 54 = .ok (.iload 4, 2) := by decide +kernel
theorem dX0_add_56 : decode cX0_add 56 = .ok (.iastore, 1) := by decide +kernel
theorem dX0_add_57 : decode cX0_add 57 = .ok (.aload_n 0, 1) := by decide +kernel
theorem dX0_add_58 : decode cX0_add 58 = .ok (.getfield 9, 3) := by decide +kernel
theorem dX0_add_61 : decode cX0_add 61 = .ok (.iload 8, 2) := by decide +kernel
theorem dX0_add_63 : decode cX0_add 63 = .ok (.iconst 4, 1) := by decide +kernel
theorem dX0_add_64 : decode cX0_add 64 = .ok (.iadd, 1) := by decide +kernel
theorem dX0_add_65 : decode cX0_add 65 = .ok (.iload 5, 2) := by decide +kernel
theorem dX0_add_67 : decode cX0_add 67 = .ok (.iastore, 1) := by decide +kernel
theorem dX0_add_68 : decode cX0_add 68 = .ok (.aload_n 0, 1) := by decide +kernel
theorem dX0_add_69 : decode cX0_add 69 = .ok (.getfield 9, 3) := by decide +kernel
theorem dX0_add_72 : decode cX0_add 72 = .ok (.iload 8, 2) := by decide +kernel
theorem dX0_add_74 : decode cX0_add 74 = .ok (.iconst 5, 1) := by decide +kernel
theorem dX0_add_75 : decode cX0_add 75 = .ok (.iadd, 1) := by decide +kernel
theorem dX0_add_76 : decode cX0_add 76 = .ok (.iload 6, 2) := by decide +kernel
theorem dX0_add_78 : decode cX0_add 78 = .ok (.iastore, 1) := by decide +kernel
theorem dX0_add_79 : decode cX0_add 79 = .ok (.aload_n 0, 1) := by decide +kernel
theorem dX0_add_80 : decode cX0_add 80 = .ok (.getfield 9, 3) := by decide +kernel
theorem dX0_add_83 : decode cX0_add 83 = .ok (.iload 8, 2) := by decide +kernel
theorem dX0_add_85 : decode cX0_add 85 = .ok (.bipush 6, 2) := by decide +kernel
theorem dX0_add_87 : decode cX0_add 87 = .ok (.iadd, 1) := by decide +kernel
theorem dX0_add_88 : decode cX0_add 88 = .ok (.iload 7, 2) := by decide +kernel
theorem dX0_add_90 : decode cX0_add 90 = .ok (.iastore, 1) := by decide +kernel
theorem dX0_add_91 : decode cX0_add 91 = .ok (.aload_n 0, 1) := by decide +kernel
theorem dX0_add_92 : decode cX0_add 92 = .ok (.dup, 1) := by decide +kernel
theorem dX0_add_93 : decode cX0_add 93 = .ok (.getfield 15, 3) := by decide +kernel
theorem dX0_add_96 : decode cX0_add 96 = .ok (.iconst 1, 1) := by decide +kernel
theorem dX0_add_97 : decode cX0_add 97 = .ok (.iadd, 1) := by decide +kernel
theorem dX0_add_98 : decode cX0_add 98 = .ok (.putfield 15, 3) := by decide +kernel
theorem dX0_add_101 : decode cX0_add 101 = .ok (.aload_n 0, 1) := by decide +kernel
theorem dX0_add_102 : decode cX0_add 102 = .ok (.getfield 15, 3) := by decide +kernel
theorem dX0_add_105 : decode cX0_add 105 = .ok (.ireturn, 1) := by decide +kernel
theorem dX0_kindsOf_0 : decode cX0_kindsOf 0 = .ok (.bipush 63, 2) := by decide +kernel
theorem dX0_kindsOf_2 : decode cX0_kindsOf 2 = .ok (.istore_n 2, 1) := by decide +kernel
theorem dX0_kindsOf_3 : decode cX0_kindsOf 3 = .ok (.iconst 0, 1) := by decide +kernel
theorem dX0_kindsOf_4 : decode cX0_kindsOf 4 = .ok (.istore_n 3, 1) := by decide +kernel
theorem dX0_kindsOf_5 : decode cX0_kindsOf 5 = .ok (.iload_n 3, 1) := by decide +kernel
theorem dX0_kindsOf_6 : decode cX0_kindsOf 6 = .ok (.aload_n 0, 1) := by decide +kernel
theorem dX0_kindsOf_7 : decode cX0_kindsOf 7 = .ok (.getfield 15, 3) := by decide +kernel
theorem dX0_kindsOf_10 : decode cX0_kindsOf 10 = .ok (.if_icmp .ge 87, 3) := by decide +kernel
theorem dX0_kindsOf_13 : decode cX0_kindsOf 13 = .ok (.iload_n 3, 1) := by decide +kernel
theorem dX0_kindsOf_14 : decode cX0_kindsOf 14 = .ok (.bipush 7, 2) := by decide +kernel
theorem dX0_kindsOf_16 : decode cX0_kindsOf 16 = .ok (.imul, 1) := by decide +kernel
theorem dX0_kindsOf_17 : decode cX0_kindsOf 17 = .ok (.istore 4, 2) := by decide +kernel
theorem dX0_kindsOf_19 : decode cX0_kindsOf 19 = .ok (.aload_n 0, 1) := by decide +kernel
theorem dX0_kindsOf_20 : decode cX0_kindsOf 20 = .ok (.getfield 9, 3) := by decide +kernel
theorem dX0_kindsOf_23 : decode cX0_kindsOf 23 = .ok (.iload 4, 2) := by decide +kernel
theorem dX0_kindsOf_25 : decode cX0_kindsOf 25 = .ok (.iaload, 1) := by decide +kernel
theorem dX0_kindsOf_26 : decode cX0_kindsOf 26 = .ok (.iload_n 1, 1) := by decide +kernel
theorem dX0_kindsOf_27 : decode cX0_kindsOf 27 = .ok (.if_icmp .ne 64, 3) := by decide +kernel
theorem dX0_kindsOf_30 : decode cX0_kindsOf 30 = .ok (.iload_n 2, 1) := by decide +kernel
theorem dX0_kindsOf_31 : decode cX0_kindsOf 31 = .ok (.aload_n 0, 1) := by decide +kernel
theorem dX0_kindsOf_32 : decode cX0_kindsOf 32 = .ok (.getfield 9, 3) := by decide +kernel
theorem dX0_kindsOf_35 : decode cX0_kindsOf 35 = .ok (.iload 4, 2) := by decide +kernel
theorem dX0_kindsOf_37 : decode cX0_kindsOf 37 = .ok (.bipush 6, 2) := by decide +kernel
theorem dX0_kindsOf_39 : decode cX0_kindsOf 39 = .ok (.iadd, 1) := by decide +kernel
theorem dX0_kindsOf_40 : decode cX0_kindsOf 40 = .ok (.iaload, 1) := by decide +kernel
theorem dX0_kindsOf_41 : decode cX0_kindsOf 41 = .ok (.aload_n 0, 1) := by decide +kernel
theorem dX0_kindsOf_42 : decode cX0_kindsOf 42 = .ok (.getfield 9, 3) := by decide +kernel
theorem dX0_kindsOf_45 : decode cX0_kindsOf 45 = .ok (.iload 4, 2) := by decide +kernel
theorem dX0_kindsOf_47 : decode cX0_kindsOf 47 = .ok (.iconst 1, 1) := by decide +kernel
theorem dX0_kindsOf_48 : decode cX0_kindsOf 48 = .ok (.iadd, 1) := by decide +kernel
theorem dX0_kindsOf_49 : decode cX0_kindsOf 49 = .ok (.iaload, 1) := by decide +kernel
theorem dX0_kindsOf_50 : decode cX0_kindsOf 50 = .ok (.aload_n 0, 1) := by decide +kernel
theorem dX0_kindsOf_51 : decode cX0_kindsOf 51 = .ok (.getfield 9, 3) := by decide +kernel
theorem dX0_kindsOf_54 : decode cX0_kindsOf 54 = .ok (.iload 4, 2) := by decide +kernel
theorem dX0_kindsOf_56 : decode cX0_kindsOf 56 = .ok (.iconst 2, 1) := by decide +kernel
theorem dX0_kindsOf_57 : decode cX0_kindsOf 57 = .ok (.iadd, 1) := by decide +kernel
theorem dX0_kindsOf_58 : decode cX0_kindsOf 58 = .ok (.iaload, 1) := by decide +kernel
theorem dX0_kindsOf_59 : decode cX0_kindsOf 59 = .ok (.aload_n 0, 1) := by decide +kernel
theorem dX0_kindsOf_60 : decode cX0_kindsOf 60 = .ok (.getfield 9, 3) := by decide +kernel
theorem dX0_kindsOf_63 : decode cX0_kindsOf 63 = .ok (.iload 4, 2) := by decide +kernel
theorem dX0_kindsOf_65 : decode cX0_kindsOf 65 = .ok (.iconst 3, 1) := by decide +kernel
theorem dX0_kindsOf_66 : decode cX0_kindsOf 66 = .ok (.iadd, 1) := by decide +kernel
theorem dX0_kindsOf_67 : decode cX0_kindsOf 67 = .ok (.iaload, 1) := by decide +kernel
theorem dX0_kindsOf_68 : decode cX0_kindsOf 68 = .ok (.aload_n 0, 1) := by decide +kernel
theorem dX0_kindsOf_69 : decode cX0_kindsOf 69 = .ok (.getfield 9, 3) := by decide +kernel
theorem dX0_kindsOf_72 : decode cX0_kindsOf 72 = .ok (.iload 4, 2) := by decide +kernel
theorem dX0_kindsOf_74 : decode cX0_kindsOf 74 = .ok (.iconst 4, 1) := by decide +kernel
theorem dX0_kindsOf_75 : decode cX0_kindsOf 75 = .ok (.iadd, 1) := by decide +kernel
theorem dX0_kindsOf_76 : decode cX0_kindsOf 76 = .ok (.iaload, 1) := by decide +kernel
theorem dX0_kindsOf_77 : decode cX0_kindsOf 77 = .ok (.aload_n 0, 1) := by decide +kernel
theorem dX0_kindsOf_78 : decode cX0_kindsOf 78 = .ok (.getfield 9, 3) := by decide +kernel
theorem dX0_kindsOf_81 : decode cX0_kindsOf 81 = .ok (.iload 4, 2) := by decide +kernel
theorem dX0_kindsOf_83 : decode cX0_kindsOf 83 = .ok (.iconst 5, 1) := by decide +kernel
theorem dX0_kindsOf_84 : decode cX0_kindsOf 84 = .ok (.iadd, 1) := by decide +kernel
theorem dX0_kindsOf_85 : decode cX0_kindsOf 85 = .ok (.iaload, 1) := by decide +kernel
theorem dX0_kindsOf_86 : decode cX0_kindsOf 86 = .ok (.invokestatic 19, 3) := by decide +kernel
theorem dX0_kindsOf_89 : decode cX0_kindsOf 89 = .ok (.iand, 1) := by decide +kernel
theorem dX0_kindsOf_90 : decode cX0_kindsOf 90 = .ok (.istore_n 2, 1) := by decide +kernel
theorem dX0_kindsOf_91 : decode cX0_kindsOf 91 = .ok (.iinc 3 1, 3) := by decide +kernel
theorem dX0_kindsOf_94 : decode cX0_kindsOf 94 = .ok (.goto (-89), 3) := by decide +kernel
theorem dX0_kindsOf_97 : decode cX0_kindsOf 97 = .ok (.iload_n 2, 1) := by decide +kernel
theorem dX0_kindsOf_98 : decode cX0_kindsOf 98 = .ok (.ireturn, 1) := by decide +kernel
theorem dX0_copyFrom_0 : decode cX0_copyFrom 0 = .ok (.aload_n 0, 1) := by decide +kernel
theorem dX0_copyFrom_1 : decode cX0_copyFrom 1 = .ok (.aload_n 1, 1) := by decide +kernel
theorem dX0_copyFrom_2 : decode cX0_copyFrom 2 = .ok (.getfield 15, 3) := by decide +kernel
theorem dX0_copyFrom_5 : decode cX0_copyFrom 5 = .ok (.putfield 15, 3) := by decide +kernel
theorem dX0_copyFrom_8 : decode cX0_copyFrom 8 = .ok (.aload_n 1, 1) := by decide +kernel
theorem dX0_copyFrom_9 : decode cX0_copyFrom 9 = .ok (.getfield 9, 3) := by decide +kernel
theorem dX0_copyFrom_12 : decode cX0_copyFrom 12 = .ok (.iconst 0, 1) := by decide +kernel
theorem dX0_copyFrom_13 : decode cX0_copyFrom 13 = .ok (.aload_n 0, 1) := by decide +kernel
theorem dX0_copyFrom_14 : decode cX0_copyFrom 14 = .ok (.getfield 9, 3) := by decide +kernel
theorem dX0_copyFrom_17 : decode cX0_copyFrom 17 = .ok (.iconst 0, 1) := by decide +kernel
theorem dX0_copyFrom_18 : decode cX0_copyFrom 18 = .ok (.aload_n 0, 1) := by decide +kernel
theorem dX0_copyFrom_19 : decode cX0_copyFrom 19 = .ok (.getfield 9, 3) := by decide +kernel
theorem dX0_copyFrom_22 : decode cX0_copyFrom 22 = .ok (.arraylength, 1) := by decide +kernel
theorem dX0_copyFrom_23 : decode cX0_copyFrom 23 = .ok (.invokestatic 23, 3) := by decide +kernel
theorem dX0_copyFrom_26 : decode cX0_copyFrom 26 = .ok (.return_, 1) := by decide +kernel
theorem dX1_init_0 : decode cX1_init 0 = .ok (.aload_n 0, 1) := by decide +kernel
theorem dX1_init_1 : decode cX1_init 1 = .ok (.invokespecial 3, 3) := by decide +kernel
theorem dX1_init_4 : decode cX1_init 4 = .ok (.aload_n 0, 1) := by decide +kernel
theorem dX1_init_5 : decode cX1_init 5 = .ok (.bipush 8, 2) := by decide +kernel
theorem dX1_init_7 : decode cX1_init 7 = .ok (.anewarray 9, 3) := by decide +kernel
theorem dX1_init_10 : decode cX1_init 10 = .ok (.putfield 11, 3) := by decide +kernel
theorem dX1_init_13 : decode cX1_init 13 = .ok (.iconst 0, 1) := by decide +kernel
theorem dX1_init_14 : decode cX1_init 14 = .ok (.istore_n 1, 1) := by decide +kernel
theorem dX1_init_15 : decode cX1_init 15 = .ok (.iload_n 1, 1) := by decide +kernel
theorem dX1_init_16 : decode cX1_init 16 = .ok (.bipush 8, 2) := by decide +kernel
theorem dX1_init_18 : decode cX1_init 18 = .ok (.if_icmp .ge 22, 3) := by decide +kernel
theorem dX1_init_21 : decode cX1_init 21 = .ok (.aload_n 0, 1) := by decide +kernel
theorem dX1_init_22 : decode cX1_init 22 = .ok (.getfield 11, 3) := by decide +kernel
theorem dX1_init_25 : decode cX1_init 25 = .ok (.iload_n 1, 1) := by decide +kernel
theorem dX1_init_26 : decode cX1_init 26 = .ok (.new 9, 3) := by decide +kernel
theorem dX1_init_29 : decode cX1_init 29 = .ok (.dup, 1) := by decide +kernel
theorem dX1_init_30 : decode cX1_init 30 = .ok (.invokespecial 17, 3) := by decide +kernel
theorem dX1_init_33 : decode cX1_init 33 = .ok (.aastore, 1) := by decide +kernel
theorem dX1_init_34 : decode cX1_init 34 = .ok (.iinc 1 1, 3) := by decide +kernel
theorem dX1_init_37 : decode cX1_init 37 = .ok (.goto (-22), 3) := by decide +kernel
theorem dX1_init_40 : decode cX1_init 40 = .ok (.return_, 1) := by decide +kernel
theorem dX1_empty_0 : decode cX1_empty 0 = .ok (.aload_n 0, 1) := by decide +kernel
theorem dX1_empty_1 : decode cX1_empty 1 = .ok (.iconst 0, 1) := by decide +kernel
theorem dX1_empty_2 : decode cX1_empty 2 = .ok (.putfield 18, 3) := by decide +kernel
theorem dX1_empty_5 : decode cX1_empty 5 = .ok (.aload_n 0, 1) := by decide +kernel
theorem dX1_empty_6 : decode cX1_empty 6 = .ok (.iconst 0, 1) := by decide +kernel
theorem dX1_empty_7 : decode cX1_empty 7 = .ok (.putfield 22, 3) := by decide +kernel
theorem dX1_empty_10 : decode cX1_empty 10 = .ok (.return_, 1) := by decide +kernel
theorem dX1_keep_0 : decode cX1_keep 0 = .ok (.aload_n 0, 1) := by decide +kernel
theorem dX1_keep_1 : decode cX1_keep 1 = .ok (.getfield 22, 3) := by decide +kernel
theorem dX1_keep_4 : decode cX1_keep 4 = .ok (.bipush 8, 2) := by decide +kernel
theorem dX1_keep_6 : decode cX1_keep 6 = .ok (.if_icmp .ge 16, 3) := by decide +kernel
theorem dX1_keep_9 : decode cX1_keep 9 = .ok (.aload_n 0, 1) := by decide +kernel
theorem dX1_keep_10 : decode cX1_keep 10 = .ok (.dup, 1) := by decide +kernel
theorem dX1_keep_11 : decode cX1_keep 11 = .ok (.getfield 22, 3) := by decide +kernel
theorem dX1_keep_14 : decode cX1_keep 14 = .ok (.iconst 1, 1) := by decide +kernel
theorem dX1_keep_15 : decode cX1_keep 15 = .ok (.iadd, 1) := by decide +kernel
theorem dX1_keep_16 : decode cX1_keep 16 = .ok (.putfield 22, 3) := by decide +kernel
theorem dX1_keep_19 : decode cX1_keep 19 = .ok (.goto 16, 3) := by decide +kernel
theorem dX1_keep_22 : decode cX1_keep 22 = .ok (.aload_n 0, 1) := by decide +kernel
theorem dX1_keep_23 : decode cX1_keep 23 = .ok (.aload_n 0, 1) := by decide +kernel
theorem dX1_keep_24 : decode cX1_keep 24 = .ok (.getfield 18, 3) := by decide +kernel
theorem dX1_keep_27 : decode cX1_keep 27 = .ok (.iconst 1, 1) := by decide +kernel
theorem dX1_keep_28 : decode cX1_keep 28 = .ok (.iadd, 1) := by decide +kernel
theorem dX1_keep_29 : decode cX1_keep 29 = .ok (.bipush 8, 2) := by decide +kernel
theorem dX1_keep_31 : decode cX1_keep 31 = .ok (.irem, 1) := by decide +kernel
theorem dX1_keep_32 : decode cX1_keep 32 = .ok (.putfield 18, 3) := by decide +kernel
theorem dX1_keep_35 : decode cX1_keep 35 = .ok (.aload_n 0, 1) := by decide +kernel
theorem dX1_keep_36 : decode cX1_keep 36 = .ok (.getfield 11, 3) := by decide +kernel
theorem dX1_keep_39 : decode cX1_keep 39 = .ok (.aload_n 0, 1) := by decide +kernel
theorem dX1_keep_40 : decode cX1_keep 40 = .ok (.getfield 18, 3) := by decide +kernel
theorem dX1_keep_43 : decode cX1_keep 43 = .ok (.aload_n 0, 1) := by decide +kernel
theorem dX1_keep_44 : decode cX1_keep 44 = .ok (.getfield 22, 3) := by decide +kernel
theorem dX1_keep_47 : decode cX1_keep 47 = .ok (.iadd, 1) := by decide +kernel
theorem dX1_keep_48 : decode cX1_keep 48 = .ok (.iconst 1, 1) := by decide +kernel
theorem dX1_keep_49 : decode cX1_keep 49 = .ok (.isub, 1) := by decide +kernel
theorem dX1_keep_50 : decode cX1_keep 50 = .ok (.bipush 8, 2) := by decide +kernel
theorem dX1_keep_52 : decode cX1_keep 52 = .ok (.irem, 1) := by decide +kernel
theorem dX1_keep_53 : decode cX1_keep 53 = .ok (.aaload, 1) := by decide +kernel
theorem dX1_keep_54 : decode cX1_keep 54 = .ok (.aload_n 1, 1) := by decide +kernel
theorem dX1_keep_55 : decode cX1_keep 55 = .ok (.invokevirtual 25, 3) := by decide +kernel
theorem dX1_keep_58 : decode cX1_keep 58 = .ok (.return_, 1) := by decide +kernel
theorem dX1_giveBack_0 : decode cX1_giveBack 0 = .ok (.aload_n 0, 1) := by decide +kernel
theorem dX1_giveBack_1 : decode cX1_giveBack 1 = .ok (.getfield 22, 3) := by decide +kernel
theorem dX1_giveBack_4 : decode cX1_giveBack 4 = .ok (.ifCond .le 34, 3) := by decide +kernel
theorem dX1_giveBack_7 : decode cX1_giveBack 7 = .ok (.aload_n 0, 1) := by decide +kernel
theorem dX1_giveBack_8 : decode cX1_giveBack 8 = .ok (.dup, 1) := by decide +kernel
theorem dX1_giveBack_9 : decode cX1_giveBack 9 = .ok (.getfield 22, 3) := by decide +kernel
theorem dX1_giveBack_12 : decode cX1_giveBack 12 = .ok (.iconst 1, 1) := by decide +kernel
theorem dX1_giveBack_13 : decode cX1_giveBack 13 = .ok (.isub, 1) := by decide +kernel
theorem dX1_giveBack_14 : decode cX1_giveBack 14 = .ok (.putfield 22, 3) := by decide +kernel
theorem dX1_giveBack_17 : decode cX1_giveBack 17 = .ok (.aload_n 1, 1) := by decide +kernel
theorem dX1_giveBack_18 : decode cX1_giveBack 18 = .ok (.aload_n 0, 1) := by decide +kernel
theorem dX1_giveBack_19 : decode cX1_giveBack 19 = .ok (.getfield 11, 3) := by decide +kernel
theorem dX1_giveBack_22 : decode cX1_giveBack 22 = .ok (.aload_n 0, 1) := by decide +kernel
theorem dX1_giveBack_23 : decode cX1_giveBack 23 = .ok (.getfield 18, 3) := by decide +kernel
theorem dX1_giveBack_26 : decode cX1_giveBack 26 = .ok (.aload_n 0, 1) := by decide +kernel
theorem dX1_giveBack_27 : decode cX1_giveBack 27 = .ok (.getfield 22, 3) := by decide +kernel
theorem dX1_giveBack_30 : decode cX1_giveBack 30 = .ok (.iadd, 1) := by decide +kernel
theorem dX1_giveBack_31 : decode cX1_giveBack 31 = .ok (.bipush 8, 2) := by decide +kernel
theorem dX1_giveBack_33 : decode cX1_giveBack 33 = .ok (.irem, 1) := by decide +kernel
theorem dX1_giveBack_34 : decode cX1_giveBack 34 = .ok (.aaload, 1) := by decide +kernel
theorem dX1_giveBack_35 : decode cX1_giveBack 35 = .ok (.invokevirtual 25, 3) := by decide +kernel
theorem dX1_giveBack_38 : decode cX1_giveBack 38 = .ok (.return_, 1) := by decide +kernel
theorem dX1_copyFrom_0 : decode cX1_copyFrom 0 = .ok (.aload_n 0, 1) := by decide +kernel
theorem dX1_copyFrom_1 : decode cX1_copyFrom 1 = .ok (.aload_n 1, 1) := by decide +kernel
theorem dX1_copyFrom_2 : decode cX1_copyFrom 2 = .ok (.getfield 18, 3) := by decide +kernel
theorem dX1_copyFrom_5 : decode cX1_copyFrom 5 = .ok (.putfield 18, 3) := by decide +kernel
theorem dX1_copyFrom_8 : decode cX1_copyFrom 8 = .ok (.aload_n 0, 1) := by decide +kernel
theorem dX1_copyFrom_9 : decode cX1_copyFrom 9 = .ok (.aload_n 1, 1) := by decide +kernel
theorem dX1_copyFrom_10 : decode cX1_copyFrom 10 = .ok (.getfield 22, 3) := by decide +kernel
theorem dX1_copyFrom_13 : decode cX1_copyFrom 13 = .ok (.putfield 22, 3) := by decide +kernel
theorem dX1_copyFrom_16 : decode cX1_copyFrom 16 = .ok (.iconst 0, 1) := by decide +kernel
theorem dX1_copyFrom_17 : decode cX1_copyFrom 17 = .ok (.istore_n 2, 1) := by decide +kernel
theorem dX1_copyFrom_18 : decode cX1_copyFrom 18 = .ok (.iload_n 2, 1) := by decide +kernel
theorem dX1_copyFrom_19 : decode cX1_copyFrom 19 = .ok (.bipush 8, 2) := by decide +kernel
theorem dX1_copyFrom_21 : decode cX1_copyFrom 21 = .ok (.if_icmp .ge 24, 3) := by decide +kernel
theorem dX1_copyFrom_24 : decode cX1_copyFrom 24 = .ok (.aload_n 0, 1) := by decide +kernel
theorem dX1_copyFrom_25 : decode cX1_copyFrom 25 = .ok (.getfield 11, 3) := by decide +kernel
theorem dX1_copyFrom_28 : decode cX1_copyFrom 28 = .ok (.iload_n 2, 1) := by decide +kernel
theorem dX1_copyFrom_29 : decode cX1_copyFrom 29 = .ok (.aaload, 1) := by decide +kernel
theorem dX1_copyFrom_30 : decode cX1_copyFrom 30 = .ok (.aload_n 1, 1) := by decide +kernel
theorem dX1_copyFrom_31 : decode cX1_copyFrom 31 = .ok (.getfield 11, 3) := by decide +kernel
theorem dX1_copyFrom_34 : decode cX1_copyFrom 34 = .ok (.iload_n 2, 1) := by decide +kernel
theorem dX1_copyFrom_35 : decode cX1_copyFrom 35 = .ok (.aaload, 1) := by decide +kernel
theorem dX1_copyFrom_36 : decode cX1_copyFrom 36 = .ok (.invokevirtual 25, 3) := by decide +kernel
theorem dX1_copyFrom_39 : decode cX1_copyFrom 39 = .ok (.iinc 2 1, 3) := by decide +kernel
theorem dX1_copyFrom_42 : decode cX1_copyFrom 42 = .ok (.goto (-24), 3) := by decide +kernel
theorem dX1_copyFrom_45 : decode cX1_copyFrom 45 = .ok (.return_, 1) := by decide +kernel
theorem dX2_init_0 : decode cX2_init 0 = .ok (.aload_n 0, 1) := by decide +kernel
theorem dX2_init_1 : decode cX2_init 1 = .ok (.invokespecial 1, 3) := by decide +kernel
theorem dX2_init_4 : decode cX2_init 4 = .ok (.aload_n 0, 1) := by decide +kernel
theorem dX2_init_5 : decode cX2_init 5 = .ok (.new 7, 3) := by decide +kernel
theorem dX2_init_8 : decode cX2_init 8 = .ok (.dup, 1) := by decide +kernel
theorem dX2_init_9 : decode cX2_init 9 = .ok (.invokespecial 9, 3) := by decide +kernel
theorem dX2_init_12 : decode cX2_init 12 = .ok (.putfield 10, 3) := by decide +kernel
theorem dX2_init_15 : decode cX2_init 15 = .ok (.aload_n 0, 1) := by decide +kernel
theorem dX2_init_16 : decode cX2_init 16 = .ok (.new 16, 3) := by decide +kernel
theorem dX2_init_19 : decode cX2_init 19 = .ok (.dup, 1) := by decide +kernel
theorem dX2_init_20 : decode cX2_init 20 = .ok (.invokespecial 18, 3) := by decide +kernel
theorem dX2_init_23 : decode cX2_init 23 = .ok (.putfield 19, 3) := by decide +kernel
theorem dX2_init_26 : decode cX2_init 26 = .ok (.aload_n 0, 1) := by decide +kernel
theorem dX2_init_27 : decode cX2_init 27 = .ok (.new 23, 3) := by decide +kernel
theorem dX2_init_30 : decode cX2_init 30 = .ok (.dup, 1) := by decide +kernel
theorem dX2_init_31 : decode cX2_init 31 = .ok (.invokespecial 25, 3) := by decide +kernel
theorem dX2_init_34 : decode cX2_init 34 = .ok (.putfield 26, 3) := by decide +kernel
theorem dX2_init_37 : decode cX2_init 37 = .ok (.return_, 1) := by decide +kernel
theorem dX2_beginWith_0 : decode cX2_beginWith 0 = .ok (.aload_n 0, 1) := by decide +kernel
theorem dX2_beginWith_1 : decode cX2_beginWith 1 = .ok (.getfield 10, 3) := by decide +kernel
theorem dX2_beginWith_4 : decode cX2_beginWith 4 = .ok (.aload_n 1, 1) := by decide +kernel
theorem dX2_beginWith_5 : decode cX2_beginWith 5 = .ok (.invokevirtual 30, 3) := by decide +kernel
theorem dX2_beginWith_8 : decode cX2_beginWith 8 = .ok (.aload_n 0, 1) := by decide +kernel
theorem dX2_beginWith_9 : decode cX2_beginWith 9 = .ok (.getfield 19, 3) := by decide +kernel
theorem dX2_beginWith_12 : decode cX2_beginWith 12 = .ok (.invokevirtual 34, 3) := by decide +kernel
theorem dX2_beginWith_15 : decode cX2_beginWith 15 = .ok (.aload_n 0, 1) := by decide +kernel
theorem dX2_beginWith_16 : decode cX2_beginWith 16 = .ok (.getfield 26, 3) := by decide +kernel
theorem dX2_beginWith_19 : decode cX2_beginWith 19 = .ok (.iconst 0, 1) := by decide +kernel
theorem dX2_beginWith_20 : decode cX2_beginWith 20 = .ok (.putfield 37, 3) := by decide +kernel
theorem dX2_beginWith_23 : decode cX2_beginWith 23 = .ok (.return_, 1) := by decide +kernel
theorem dX2_copyFrom_0 : decode cX2_copyFrom 0 = .ok (.aload_n 0, 1) := by decide +kernel
theorem dX2_copyFrom_1 : decode cX2_copyFrom 1 = .ok (.getfield 10, 3) := by decide +kernel
theorem dX2_copyFrom_4 : decode cX2_copyFrom 4 = .ok (.aload_n 1, 1) := by decide +kernel
theorem dX2_copyFrom_5 : decode cX2_copyFrom 5 = .ok (.getfield 10, 3) := by decide +kernel
theorem dX2_copyFrom_8 : decode cX2_copyFrom 8 = .ok (.invokevirtual 30, 3) := by decide +kernel
theorem dX2_copyFrom_11 : decode cX2_copyFrom 11 = .ok (.aload_n 0, 1) := by decide +kernel
theorem dX2_copyFrom_12 : decode cX2_copyFrom 12 = .ok (.getfield 19, 3) := by decide +kernel
theorem dX2_copyFrom_15 : decode cX2_copyFrom 15 = .ok (.aload_n 1, 1) := by decide +kernel
theorem dX2_copyFrom_16 : decode cX2_copyFrom 16 = .ok (.getfield 19, 3) := by decide +kernel
theorem dX2_copyFrom_19 : decode cX2_copyFrom 19 = .ok (.invokevirtual 41, 3) := by decide +kernel
theorem dX2_copyFrom_22 : decode cX2_copyFrom 22 = .ok (.aload_n 0, 1) := by decide +kernel
theorem dX2_copyFrom_23 : decode cX2_copyFrom 23 = .ok (.getfield 26, 3) := by decide +kernel
theorem dX2_copyFrom_26 : decode cX2_copyFrom 26 = .ok (.aload_n 1, 1) := by decide +kernel
theorem dX2_copyFrom_27 : decode cX2_copyFrom 27 = .ok (.getfield 26, 3) := by decide +kernel
theorem dX2_copyFrom_30 : decode cX2_copyFrom 30 = .ok (.invokevirtual 44, 3) := by decide +kernel
theorem dX2_copyFrom_33 : decode cX2_copyFrom 33 = .ok (.return_, 1) := by decide +kernel
theorem dX3_init_0 : decode cX3_init 0 = .ok (.aload_n 0, 1) := by decide +kernel
theorem dX3_init_1 : decode cX3_init 1 = .ok (.invokespecial 3, 3) := by decide +kernel
theorem dX3_init_4 : decode cX3_init 4 = .ok (.aload_n 0, 1) := by decide +kernel
theorem dX3_init_5 : decode cX3_init 5 = .ok (.bipush 6, 2) := by decide +kernel
theorem dX3_init_7 : decode cX3_init 7 = .ok (.newarray .int, 2) := by decide +kernel
theorem dX3_init_9 : decode cX3_init 9 = .ok (.putfield 9, 3) := by decide +kernel
theorem dX3_init_12 : decode cX3_init 12 = .ok (.aload_n 0, 1) := by decide +kernel
theorem dX3_init_13 : decode cX3_init 13 = .ok (.bipush 6, 2) := by decide +kernel
theorem dX3_init_15 : decode cX3_init 15 = .ok (.newarray .int, 2) := by decide +kernel
theorem dX3_init_17 : decode cX3_init 17 = .ok (.putfield 15, 3) := by decide +kernel
theorem dX3_init_20 : decode cX3_init 20 = .ok (.aload_n 0, 1) := by decide +kernel
theorem dX3_init_21 : decode cX3_init 21 = .ok (.bipush 6, 2) := by decide +kernel
theorem dX3_init_23 : decode cX3_init 23 = .ok (.newarray .int, 2) := by decide +kernel
theorem dX3_init_25 : decode cX3_init 25 = .ok (.putfield 18, 3) := by decide +kernel
theorem dX3_init_28 : decode cX3_init 28 = .ok (.aload_n 0, 1) := by decide +kernel
theorem dX3_init_29 : decode cX3_init 29 = .ok (.bipush 6, 2) := by decide +kernel
theorem dX3_init_31 : decode cX3_init 31 = .ok (.newarray .int, 2) := by decide +kernel
theorem dX3_init_33 : decode cX3_init 33 = .ok (.putfield 21, 3) := by decide +kernel
theorem dX3_init_36 : decode cX3_init 36 = .ok (.aload_n 0, 1) := by decide +kernel
theorem dX3_init_37 : decode cX3_init 37 = .ok (.bipush 6, 2) := by decide +kernel
theorem dX3_init_39 : decode cX3_init 39 = .ok (.newarray .int, 2) := by decide +kernel
theorem dX3_init_41 : decode cX3_init 41 = .ok (.putfield 24, 3) := by decide +kernel
theorem dX3_init_44 : decode cX3_init 44 = .ok (.return_, 1) := by decide +kernel
theorem dX3_layAnew_0 : decode cX3_layAnew 0 = .ok (.aload_n 0, 1) := by decide +kernel
theorem dX3_layAnew_1 : decode cX3_layAnew 1 = .ok (.iload_n 1, 1) := by decide +kernel
theorem dX3_layAnew_2 : decode cX3_layAnew 2 = .ok (.putfield 27, 3) := by decide +kernel
theorem dX3_layAnew_5 : decode cX3_layAnew 5 = .ok (.aload_n 0, 1) := by decide +kernel
theorem dX3_layAnew_6 : decode cX3_layAnew 6 = .ok (.iconst 0, 1) := by decide +kernel
theorem dX3_layAnew_7 : decode cX3_layAnew 7 = .ok (.putfield 31, 3) := by decide +kernel
theorem dX3_layAnew_10 : decode cX3_layAnew 10 = .ok (.aload_n 0, 1) := by decide +kernel
theorem dX3_layAnew_11 : decode cX3_layAnew 11 = .ok (.iconst 0, 1) := by decide +kernel
theorem dX3_layAnew_12 : decode cX3_layAnew 12 = .ok (.putfield 34, 3) := by decide +kernel
theorem dX3_layAnew_15 : decode cX3_layAnew 15 = .ok (.aload_n 0, 1) := by decide +kernel
theorem dX3_layAnew_16 : decode cX3_layAnew 16 = .ok (.iconst 0, 1) := by decide +kernel
theorem dX3_layAnew_17 : decode cX3_layAnew 17 = .ok (.putfield 37, 3) := by decide +kernel
theorem dX3_layAnew_20 : decode cX3_layAnew 20 = .ok (.aload_n 0, 1) := by decide +kernel
theorem dX3_layAnew_21 : decode cX3_layAnew 21 = .ok (.iconst 0, 1) := by decide +kernel
theorem dX3_layAnew_22 : decode cX3_layAnew 22 = .ok (.putfield 40, 3) := by decide +kernel
theorem dX3_layAnew_25 : decode cX3_layAnew 25 = .ok (.return_, 1) := by decide +kernel
theorem dX3_copyFrom_0 : decode cX3_copyFrom 0 = .ok (.aload_n 0, 1) := by decide +kernel
theorem dX3_copyFrom_1 : decode cX3_copyFrom 1 = .ok (.aload_n 1, 1) := by decide +kernel
theorem dX3_copyFrom_2 : decode cX3_copyFrom 2 = .ok (.getfield 27, 3) := by decide +kernel
theorem dX3_copyFrom_5 : decode cX3_copyFrom 5 = .ok (.putfield 27, 3) := by decide +kernel
theorem dX3_copyFrom_8 : decode cX3_copyFrom 8 = .ok (.aload_n 0, 1) := by decide +kernel
theorem dX3_copyFrom_9 : decode cX3_copyFrom 9 = .ok (.aload_n 1, 1) := by decide +kernel
theorem dX3_copyFrom_10 : decode cX3_copyFrom 10 = .ok (.getfield 31, 3) := by decide +kernel
theorem dX3_copyFrom_13 : decode cX3_copyFrom 13 = .ok (.putfield 31, 3) := by decide +kernel
theorem dX3_copyFrom_16 : decode cX3_copyFrom 16 = .ok (.aload_n 0, 1) := by decide +kernel
theorem dX3_copyFrom_17 : decode cX3_copyFrom 17 = .ok (.aload_n 1, 1) := by decide +kernel
theorem dX3_copyFrom_18 : decode cX3_copyFrom 18 = .ok (.getfield 34, 3) := by decide +kernel
theorem dX3_copyFrom_21 : decode cX3_copyFrom 21 = .ok (.putfield 34, 3) := by decide +kernel
theorem dX3_copyFrom_24 : decode cX3_copyFrom 24 = .ok (.aload_n 0, 1) := by decide +kernel
theorem dX3_copyFrom_25 : decode cX3_copyFrom 25 = .ok (.aload_n 1, 1) := by decide +kernel
theorem dX3_copyFrom_26 : decode cX3_copyFrom 26 = .ok (.getfield 37, 3) := by decide +kernel
theorem dX3_copyFrom_29 : decode cX3_copyFrom 29 = .ok (.putfield 37, 3) := by decide +kernel
theorem dX3_copyFrom_32 : decode cX3_copyFrom 32 = .ok (.aload_n 0, 1) := by decide +kernel
theorem dX3_copyFrom_33 : decode cX3_copyFrom 33 = .ok (.aload_n 1, 1) := by decide +kernel
theorem dX3_copyFrom_34 : decode cX3_copyFrom 34 = .ok (.getfield 40, 3) := by decide +kernel
theorem dX3_copyFrom_37 : decode cX3_copyFrom 37 = .ok (.putfield 40, 3) := by decide +kernel
theorem dX3_copyFrom_40 : decode cX3_copyFrom 40 = .ok (.aload_n 1, 1) := by decide +kernel
theorem dX3_copyFrom_41 : decode cX3_copyFrom 41 = .ok (.getfield 9, 3) := by decide +kernel
theorem dX3_copyFrom_44 : decode cX3_copyFrom 44 = .ok (.iconst 0, 1) := by decide +kernel
theorem dX3_copyFrom_45 : decode cX3_copyFrom 45 = .ok (.aload_n 0, 1) := by decide +kernel
theorem dX3_copyFrom_46 : decode cX3_copyFrom 46 = .ok (.getfield 9, 3) := by decide +kernel
theorem dX3_copyFrom_49 : decode cX3_copyFrom 49 = .ok (.iconst 0, 1) := by decide +kernel
theorem dX3_copyFrom_50 : decode cX3_copyFrom 50 = .ok (.bipush 6, 2) := by decide +kernel
theorem dX3_copyFrom_52 : decode cX3_copyFrom 52 = .ok (.invokestatic 43, 3) := by decide +kernel
theorem dX3_copyFrom_55 : decode cX3_copyFrom 55 = .ok (.aload_n 1, 1) := by decide +kernel
theorem dX3_copyFrom_56 : decode cX3_copyFrom 56 = .ok (.getfield 15, 3) := by decide +kernel
theorem dX3_copyFrom_59 : decode cX3_copyFrom 59 = .ok (.iconst 0, 1) := by decide +kernel
theorem dX3_copyFrom_60 : decode cX3_copyFrom 60 = .ok (.aload_n 0, 1) := by decide +kernel
theorem dX3_copyFrom_61 : decode cX3_copyFrom 61 = .ok (.getfield 15, 3) := by decide +kernel
theorem dX3_copyFrom_64 : decode cX3_copyFrom 64 = .ok (.iconst 0, 1) := by decide +kernel
theorem dX3_copyFrom_65 : decode cX3_copyFrom 65 = .ok (.bipush 6, 2) := by decide +kernel
theorem dX3_copyFrom_67 : decode cX3_copyFrom 67 = .ok (.invokestatic 43, 3) := by decide +kernel
theorem dX3_copyFrom_70 : decode cX3_copyFrom 70 = .ok (.aload_n 1, 1) := by decide +kernel
theorem dX3_copyFrom_71 : decode cX3_copyFrom 71 = .ok (.getfield 18, 3) := by decide +kernel
theorem dX3_copyFrom_74 : decode cX3_copyFrom 74 = .ok (.iconst 0, 1) := by decide +kernel
theorem dX3_copyFrom_75 : decode cX3_copyFrom 75 = .ok (.aload_n 0, 1) := by decide +kernel
theorem dX3_copyFrom_76 : decode cX3_copyFrom 76 = .ok (.getfield 18, 3) := by decide +kernel
theorem dX3_copyFrom_79 : decode cX3_copyFrom 79 = .ok (.iconst 0, 1) := by decide +kernel
theorem dX3_copyFrom_80 : decode cX3_copyFrom 80 = .ok (.bipush 6, 2) := by decide +kernel
theorem dX3_copyFrom_82 : decode cX3_copyFrom 82 = .ok (.invokestatic 43, 3) := by decide +kernel
theorem dX3_copyFrom_85 : decode cX3_copyFrom 85 = .ok (.aload_n 1, 1) := by decide +kernel
theorem dX3_copyFrom_86 : decode cX3_copyFrom 86 = .ok (.getfield 21, 3) := by decide +kernel
theorem dX3_copyFrom_89 : decode cX3_copyFrom 89 = .ok (.iconst 0, 1) := by decide +kernel
theorem dX3_copyFrom_90 : decode cX3_copyFrom 90 = .ok (.aload_n 0, 1) := by decide +kernel
theorem dX3_copyFrom_91 : decode cX3_copyFrom 91 = .ok (.getfield 21, 3) := by decide +kernel
theorem dX3_copyFrom_94 : decode cX3_copyFrom 94 = .ok (.iconst 0, 1) := by decide +kernel
theorem dX3_copyFrom_95 : decode cX3_copyFrom 95 = .ok (.bipush 6, 2) := by decide +kernel
theorem dX3_copyFrom_97 : decode cX3_copyFrom 97 = .ok (.invokestatic 43, 3) := by decide +kernel
theorem dX3_copyFrom_100 : decode cX3_copyFrom 100 = .ok (.aload_n 1, 1) := by decide +kernel
theorem dX3_copyFrom_101 : decode cX3_copyFrom 101 = .ok (.getfield 24, 3) := by decide +kernel
theorem dX3_copyFrom_104 : decode cX3_copyFrom 104 = .ok (.iconst 0, 1) := by decide +kernel
theorem dX3_copyFrom_105 : decode cX3_copyFrom 105 = .ok (.aload_n 0, 1) := by decide +kernel
theorem dX3_copyFrom_106 : decode cX3_copyFrom 106 = .ok (.getfield 24, 3) := by decide +kernel
theorem dX3_copyFrom_109 : decode cX3_copyFrom 109 = .ok (.iconst 0, 1) := by decide +kernel
theorem dX3_copyFrom_110 : decode cX3_copyFrom 110 = .ok (.bipush 6, 2) := by decide +kernel
theorem dX3_copyFrom_112 : decode cX3_copyFrom 112 = .ok (.invokestatic 43, 3) := by decide +kernel
theorem dX3_copyFrom_115 : decode cX3_copyFrom 115 = .ok (.return_, 1) := by decide +kernel
theorem dX3_addChild_0 : decode cX3_addChild 0 = .ok (.aload_n 0, 1) := by decide +kernel
theorem dX3_addChild_1 : decode cX3_addChild 1 = .ok (.getfield 40, 3) := by decide +kernel
theorem dX3_addChild_4 : decode cX3_addChild 4 = .ok (.bipush 6, 2) := by decide +kernel
theorem dX3_addChild_6 : decode cX3_addChild 6 = .ok (.if_icmp .lt 6, 3) := by decide +kernel
theorem dX3_addChild_9 : decode cX3_addChild 9 = .ok (.bipush (-4), 2) := by decide +kernel
theorem dX3_addChild_11 : decode cX3_addChild 11 = .ok (.ireturn, 1) := by decide +kernel
theorem dX3_addChild_12 : decode cX3_addChild 12 = .ok (.aload_n 0, 1) := by decide +kernel
theorem dX3_addChild_13 : decode cX3_addChild 13 = .ok (.getfield 40, 3) := by decide +kernel
theorem dX3_addChild_16 : decode cX3_addChild 16 = .ok (.istore 5, 2) := by decide +kernel
theorem dX3_addChild_18 : decode cX3_addChild 18 = .ok (.aload_n 0, 1) := by decide +kernel
theorem dX3_addChild_19 : decode cX3_addChild 19 = .ok (.getfield 9, 3) := by decide +kernel
theorem dX3_addChild_22 : decode cX3_addChild 22 = .ok (.iload 5, 2) := by decide +kernel
theorem dX3_addChild_24 : decode cX3_addChild 24 = .ok (.iload_n 1, 1) := by decide +kernel
theorem dX3_addChild_25 : decode cX3_addChild 25 = .ok (.iastore, 1) := by decide +kernel
theorem dX3_addChild_26 : decode cX3_addChild 26 = .ok (.aload_n 0, 1) := by decide +kernel
theorem dX3_addChild_27 : decode cX3_addChild 27 = .ok (.getfield 15, 3) := by decide +kernel
theorem dX3_addChild_30 : decode cX3_addChild 30 = .ok (.iload 5, 2) := by decide +kernel
theorem dX3_addChild_32 : decode cX3_addChild 32 = .ok (.iload_n 2, 1) := by decide +kernel
theorem dX3_addChild_33 : decode cX3_addChild 33 = .ok (.iastore, 1) := by decide +kernel
theorem dX3_addChild_34 : decode cX3_addChild 34 = .ok (.aload_n 0, 1) := by decide +kernel
theorem dX3_addChild_35 : decode cX3_addChild 35 = .ok (.getfield 18, 3) := by decide +kernel
theorem dX3_addChild_38 : decode cX3_addChild 38 = .ok (.iload 5, 2) := by decide +kernel
theorem dX3_addChild_40 : decode cX3_addChild 40 = .ok (.iload_n 3, 1) := by decide +kernel
theorem dX3_addChild_41 : decode cX3_addChild 41 = .ok (.iastore, 1) := by decide +kernel
theorem dX3_addChild_42 : decode cX3_addChild 42 = .ok (.aload_n 0, 1) := by decide +kernel
theorem dX3_addChild_43 : decode cX3_addChild 43 = .ok (.getfield 21, 3) := by decide +kernel
theorem dX3_addChild_46 : decode cX3_addChild 46 = .ok (.iload 5, 2) := by decide +kernel
theorem dX3_addChild_48 : decode cX3_addChild 48 = .ok (.iload 4, 2) := by decide +kernel
theorem dX3_addChild_50 : decode cX3_addChild 50 = .ok (.iastore, 1) := by decide +kernel
theorem dX3_addChild_51 : decode cX3_addChild 51 = .ok (.aload_n 0, 1) := by decide +kernel
theorem dX3_addChild_52 : decode cX3_addChild 52 = .ok (.getfield 24, 3) := by decide +kernel
theorem dX3_addChild_55 : decode cX3_addChild 55 = .ok (.iload 5, 2) := by decide +kernel
theorem dX3_addChild_57 : decode cX3_addChild 57 = .ok (.iconst 0, 1) := by decide +kernel
theorem dX3_addChild_58 : decode cX3_addChild 58 = .ok (.iastore, 1) := by decide +kernel
theorem dX3_addChild_59 : decode cX3_addChild 59 = .ok (.aload_n 0, 1) := by decide +kernel
theorem dX3_addChild_60 : decode cX3_addChild 60 = .ok (.iload 5, 2) := by decide +kernel
theorem dX3_addChild_62 : decode cX3_addChild 62 = .ok (.iconst 1, 1) := by decide +kernel
theorem dX3_addChild_63 : decode cX3_addChild 63 = .ok (.iadd, 1) := by decide +kernel
theorem dX3_addChild_64 : decode cX3_addChild 64 = .ok (.putfield 40, 3) := by decide +kernel
theorem dX3_addChild_67 : decode cX3_addChild 67 = .ok (.iload 5, 2) := by decide +kernel
theorem dX3_addChild_69 : decode cX3_addChild 69 = .ok (.ireturn, 1) := by decide +kernel
theorem dX3_partOf_0 : decode cX3_partOf 0 = .ok (.iload_n 2, 1) := by decide +kernel
theorem dX3_partOf_1 : decode cX3_partOf 1 = .ok (.tableswitch 59 0 3 #[31, 38, 45, 52], 31) := by decide +kernel
theorem dX3_partOf_32 : decode cX3_partOf 32 = .ok (.aload_n 0, 1) := by decide +kernel
theorem dX3_partOf_33 : decode cX3_partOf 33 = .ok (.getfield 9, 3) := by decide +kernel
theorem dX3_partOf_36 : decode cX3_partOf 36 = .ok (.iload_n 1, 1) := by decide +kernel
theorem dX3_partOf_37 : decode cX3_partOf 37 = .ok (.iaload, 1) := by decide +kernel
theorem dX3_partOf_38 : decode cX3_partOf 38 = .ok (.ireturn, 1) := by decide +kernel
theorem dX3_partOf_39 : decode cX3_partOf 39 = .ok (.aload_n 0, 1) := by decide +kernel
theorem dX3_partOf_40 : decode cX3_partOf 40 = .ok (.getfield 15, 3) := by decide +kernel
theorem dX3_partOf_43 : decode cX3_partOf 43 = .ok (.iload_n 1, 1) := by decide +kernel
theorem dX3_partOf_44 : decode cX3_partOf 44 = .ok (.iaload, 1) := by decide +kernel
theorem dX3_partOf_45 : decode cX3_partOf 45 = .ok (.ireturn, 1) := by decide +kernel
theorem dX3_partOf_46 : decode cX3_partOf 46 = .ok (.aload_n 0, 1) := by decide +kernel
theorem dX3_partOf_47 : decode cX3_partOf 47 = .ok (.getfield 18, 3) := by decide +kernel
theorem dX3_partOf_50 : decode cX3_partOf 50 = .ok (.iload_n 1, 1) := by decide +kernel
theorem dX3_partOf_51 : decode cX3_partOf 51 = .ok (.iaload, 1) := by decide +kernel
theorem dX3_partOf_52 : decode cX3_partOf 52 = .ok (.ireturn, 1) := by decide +kernel
theorem dX3_partOf_53 : decode cX3_partOf 53 = .ok (.aload_n 0, 1) := by decide +kernel
theorem dX3_partOf_54 : decode cX3_partOf 54 = .ok (.getfield 21, 3) := by decide +kernel
theorem dX3_partOf_57 : decode cX3_partOf 57 = .ok (.iload_n 1, 1) := by decide +kernel
theorem dX3_partOf_58 : decode cX3_partOf 58 = .ok (.iaload, 1) := by decide +kernel
theorem dX3_partOf_59 : decode cX3_partOf 59 = .ok (.ireturn, 1) := by decide +kernel
theorem dX3_partOf_60 : decode cX3_partOf 60 = .ok (.aload_n 0, 1) := by decide +kernel
theorem dX3_partOf_61 : decode cX3_partOf 61 = .ok (.getfield 24, 3) := by decide +kernel
theorem dX3_partOf_64 : decode cX3_partOf 64 = .ok (.iload_n 1, 1) := by decide +kernel
theorem dX3_partOf_65 : decode cX3_partOf 65 = .ok (.iaload, 1) := by decide +kernel
theorem dX3_partOf_66 : decode cX3_partOf 66 = .ok (.ireturn, 1) := by decide +kernel
theorem dX3_childAt_0 : decode cX3_childAt 0 = .ok (.iconst 0, 1) := by decide +kernel
theorem dX3_childAt_1 : decode cX3_childAt 1 = .ok (.istore_n 2, 1) := by decide +kernel
theorem dX3_childAt_2 : decode cX3_childAt 2 = .ok (.iload_n 2, 1) := by decide +kernel
theorem dX3_childAt_3 : decode cX3_childAt 3 = .ok (.aload_n 0, 1) := by decide +kernel
theorem dX3_childAt_4 : decode cX3_childAt 4 = .ok (.getfield 40, 3) := by decide +kernel
theorem dX3_childAt_7 : decode cX3_childAt 7 = .ok (.if_icmp .ge 21, 3) := by decide +kernel
theorem dX3_childAt_10 : decode cX3_childAt 10 = .ok (.aload_n 0, 1) := by decide +kernel
theorem dX3_childAt_11 : decode cX3_childAt 11 = .ok (.getfield 15, 3) := by decide +kernel
theorem dX3_childAt_14 : decode cX3_childAt 14 = .ok (.iload_n 2, 1) := by decide +kernel
theorem dX3_childAt_15 : decode cX3_childAt 15 = .ok (.iaload, 1) := by decide +kernel
theorem dX3_childAt_16 : decode cX3_childAt 16 = .ok (.iload_n 1, 1) := by decide +kernel
theorem dX3_childAt_17 : decode cX3_childAt 17 = .ok (.if_icmp .ne 5, 3) := by decide +kernel
theorem dX3_childAt_20 : decode cX3_childAt 20 = .ok (.iload_n 2, 1) := by decide +kernel
theorem dX3_childAt_21 : decode cX3_childAt 21 = .ok (.ireturn, 1) := by decide +kernel
theorem dX3_childAt_22 : decode cX3_childAt 22 = .ok (.iinc 2 1, 3) := by decide +kernel
theorem dX3_childAt_25 : decode cX3_childAt 25 = .ok (.goto (-23), 3) := by decide +kernel
theorem dX3_childAt_28 : decode cX3_childAt 28 = .ok (.iconst (-1), 1) := by decide +kernel
theorem dX3_childAt_29 : decode cX3_childAt 29 = .ok (.ireturn, 1) := by decide +kernel
theorem dX3_takenSeats_0 : decode cX3_takenSeats 0 = .ok (.iconst 0, 1) := by decide +kernel
theorem dX3_takenSeats_1 : decode cX3_takenSeats 1 = .ok (.istore_n 1, 1) := by decide +kernel
theorem dX3_takenSeats_2 : decode cX3_takenSeats 2 = .ok (.iconst 0, 1) := by decide +kernel
theorem dX3_takenSeats_3 : decode cX3_takenSeats 3 = .ok (.istore_n 2, 1) := by decide +kernel
theorem dX3_takenSeats_4 : decode cX3_takenSeats 4 = .ok (.iload_n 2, 1) := by decide +kernel
theorem dX3_takenSeats_5 : decode cX3_takenSeats 5 = .ok (.aload_n 0, 1) := by decide +kernel
theorem dX3_takenSeats_6 : decode cX3_takenSeats 6 = .ok (.getfield 40, 3) := by decide +kernel
theorem dX3_takenSeats_9 : decode cX3_takenSeats 9 = .ok (.if_icmp .ge 20, 3) := by decide +kernel
theorem dX3_takenSeats_12 : decode cX3_takenSeats 12 = .ok (.iload_n 1, 1) := by decide +kernel
theorem dX3_takenSeats_13 : decode cX3_takenSeats 13 = .ok (.iconst 1, 1) := by decide +kernel
theorem dX3_takenSeats_14 : decode cX3_takenSeats 14 = .ok (.aload_n 0, 1) := by decide +kernel
theorem dX3_takenSeats_15 : decode cX3_takenSeats 15 = .ok (.getfield 15, 3) := by decide +kernel
theorem dX3_takenSeats_18 : decode cX3_takenSeats 18 = .ok (.iload_n 2, 1) := by decide +kernel
theorem dX3_takenSeats_19 : decode cX3_takenSeats 19 = .ok (.iaload, 1) := by decide +kernel
theorem dX3_takenSeats_20 : decode cX3_takenSeats 20 = .ok (.ishl, 1) := by decide +kernel
theorem dX3_takenSeats_21 : decode cX3_takenSeats 21 = .ok (.ior, 1) := by decide +kernel
theorem dX3_takenSeats_22 : decode cX3_takenSeats 22 = .ok (.istore_n 1, 1) := by decide +kernel
theorem dX3_takenSeats_23 : decode cX3_takenSeats 23 = .ok (.iinc 2 1, 3) := by decide +kernel
theorem dX3_takenSeats_26 : decode cX3_takenSeats 26 = .ok (.goto (-22), 3) := by decide +kernel
theorem dX3_takenSeats_29 : decode cX3_takenSeats 29 = .ok (.iload_n 1, 1) := by decide +kernel
theorem dX3_takenSeats_30 : decode cX3_takenSeats 30 = .ok (.ireturn, 1) := by decide +kernel
theorem dX3_nextSeat_0 : decode cX3_nextSeat 0 = .ok (.iload_n 0, 1) := by decide +kernel
theorem dX3_nextSeat_1 : decode cX3_nextSeat 1 = .ok (.iconst 1, 1) := by decide +kernel
theorem dX3_nextSeat_2 : decode cX3_nextSeat 2 = .ok (.iadd, 1) := by decide +kernel
theorem dX3_nextSeat_3 : decode cX3_nextSeat 3 = .ok (.bipush 8, 2) := by decide +kernel
theorem dX3_nextSeat_5 : decode cX3_nextSeat 5 = .ok (.irem, 1) := by decide +kernel
theorem dX3_nextSeat_6 : decode cX3_nextSeat 6 = .ok (.ireturn, 1) := by decide +kernel
theorem dX3_seatAhead_0 : decode cX3_seatAhead 0 = .ok (.iload_n 0, 1) := by decide +kernel
theorem dX3_seatAhead_1 : decode cX3_seatAhead 1 = .ok (.bipush 8, 2) := by decide +kernel
theorem dX3_seatAhead_3 : decode cX3_seatAhead 3 = .ok (.iadd, 1) := by decide +kernel
theorem dX3_seatAhead_4 : decode cX3_seatAhead 4 = .ok (.iconst 1, 1) := by decide +kernel
theorem dX3_seatAhead_5 : decode cX3_seatAhead 5 = .ok (.isub, 1) := by decide +kernel
theorem dX3_seatAhead_6 : decode cX3_seatAhead 6 = .ok (.bipush 8, 2) := by decide +kernel
theorem dX3_seatAhead_8 : decode cX3_seatAhead 8 = .ok (.irem, 1) := by decide +kernel
theorem dX3_seatAhead_9 : decode cX3_seatAhead 9 = .ok (.ireturn, 1) := by decide +kernel
theorem dX3_tightIn_0 : decode cX3_tightIn 0 = .ok (.iload_n 0, 1) := by decide +kernel
theorem dX3_tightIn_1 : decode cX3_tightIn 1 = .ok (.iload_n 1, 1) := by decide +kernel
theorem dX3_tightIn_2 : decode cX3_tightIn 2 = .ok (.invokestatic 49, 3) := by decide +kernel
theorem dX3_tightIn_5 : decode cX3_tightIn 5 = .ok (.ishr, 1) := by decide +kernel
theorem dX3_tightIn_6 : decode cX3_tightIn 6 = .ok (.iconst 1, 1) := by decide +kernel
theorem dX3_tightIn_7 : decode cX3_tightIn 7 = .ok (.iand, 1) := by decide +kernel
theorem dX3_tightIn_8 : decode cX3_tightIn 8 = .ok (.iload_n 0, 1) := by decide +kernel
theorem dX3_tightIn_9 : decode cX3_tightIn 9 = .ok (.iload_n 1, 1) := by decide +kernel
theorem dX3_tightIn_10 : decode cX3_tightIn 10 = .ok (.invokestatic 53, 3) := by decide +kernel
theorem dX3_tightIn_13 : decode cX3_tightIn 13 = .ok (.ishr, 1) := by decide +kernel
theorem dX3_tightIn_14 : decode cX3_tightIn 14 = .ok (.iconst 1, 1) := by decide +kernel
theorem dX3_tightIn_15 : decode cX3_tightIn 15 = .ok (.iand, 1) := by decide +kernel
theorem dX3_tightIn_16 : decode cX3_tightIn 16 = .ok (.iadd, 1) := by decide +kernel
theorem dX3_tightIn_17 : decode cX3_tightIn 17 = .ok (.ireturn, 1) := by decide +kernel
theorem dX3_tightOf_0 : decode cX3_tightOf 0 = .ok (.aload_n 0, 1) := by decide +kernel
theorem dX3_tightOf_1 : decode cX3_tightOf 1 = .ok (.invokevirtual 56, 3) := by decide +kernel
theorem dX3_tightOf_4 : decode cX3_tightOf 4 = .ok (.aload_n 0, 1) := by decide +kernel
theorem dX3_tightOf_5 : decode cX3_tightOf 5 = .ok (.getfield 15, 3) := by decide +kernel
theorem dX3_tightOf_8 : decode cX3_tightOf 8 = .ok (.iload_n 1, 1) := by decide +kernel
theorem dX3_tightOf_9 : decode cX3_tightOf 9 = .ok (.iaload, 1) := by decide +kernel
theorem dX3_tightOf_10 : decode cX3_tightOf 10 = .ok (.invokestatic 60, 3) := by decide +kernel
theorem dX3_tightOf_13 : decode cX3_tightOf 13 = .ok (.ireturn, 1) := by decide +kernel
theorem dX3_nearIf_0 : decode cX3_nearIf 0 = .ok (.aload_n 0, 1) := by decide +kernel
theorem dX3_nearIf_1 : decode cX3_nearIf 1 = .ok (.getfield 9, 3) := by decide +kernel
theorem dX3_nearIf_4 : decode cX3_nearIf 4 = .ok (.iload_n 1, 1) := by decide +kernel
theorem dX3_nearIf_5 : decode cX3_nearIf 5 = .ok (.iaload, 1) := by decide +kernel
theorem dX3_nearIf_6 : decode cX3_nearIf 6 = .ok (.aload_n 0, 1) := by decide +kernel
theorem dX3_nearIf_7 : decode cX3_nearIf 7 = .ok (.getfield 21, 3) := by decide +kernel
theorem dX3_nearIf_10 : decode cX3_nearIf 10 = .ok (.iload_n 1, 1) := by decide +kernel
theorem dX3_nearIf_11 : decode cX3_nearIf 11 = .ok (.iaload, 1) := by decide +kernel
theorem dX3_nearIf_12 : decode cX3_nearIf 12 = .ok (.iload_n 2, 1) := by decide +kernel
theorem dX3_nearIf_13 : decode cX3_nearIf 13 = .ok (.aload_n 0, 1) := by decide +kernel
theorem dX3_nearIf_14 : decode cX3_nearIf 14 = .ok (.getfield 18, 3) := by decide +kernel
theorem dX3_nearIf_17 : decode cX3_nearIf 17 = .ok (.iload_n 1, 1) := by decide +kernel
theorem dX3_nearIf_18 : decode cX3_nearIf 18 = .ok (.iaload, 1) := by decide +kernel
theorem dX3_nearIf_19 : decode cX3_nearIf 19 = .ok (.aload_n 0, 1) := by decide +kernel
theorem dX3_nearIf_20 : decode cX3_nearIf 20 = .ok (.getfield 24, 3) := by decide +kernel
theorem dX3_nearIf_23 : decode cX3_nearIf 23 = .ok (.iload_n 1, 1) := by decide +kernel
theorem dX3_nearIf_24 : decode cX3_nearIf 24 = .ok (.iaload, 1) := by decide +kernel
theorem dX3_nearIf_25 : decode cX3_nearIf 25 = .ok (.aload_n 0, 1) := by decide +kernel
theorem dX3_nearIf_26 : decode cX3_nearIf 26 = .ok (.getfield 37, 3) := by decide +kernel
theorem dX3_nearIf_29 : decode cX3_nearIf 29 = .ok (.invokestatic 64, 3) := by decide +kernel
theorem dX3_nearIf_32 : decode cX3_nearIf 32 = .ok (.ireturn, 1) := by decide +kernel
theorem dX3_nearOf_0 : decode cX3_nearOf 0 = .ok (.aload_n 0, 1) := by decide +kernel
theorem dX3_nearOf_1 : decode cX3_nearOf 1 = .ok (.iload_n 1, 1) := by decide +kernel
theorem dX3_nearOf_2 : decode cX3_nearOf 2 = .ok (.aload_n 0, 1) := by decide +kernel
theorem dX3_nearOf_3 : decode cX3_nearOf 3 = .ok (.iload_n 1, 1) := by decide +kernel
theorem dX3_nearOf_4 : decode cX3_nearOf 4 = .ok (.invokevirtual 68, 3) := by decide +kernel
theorem dX3_nearOf_7 : decode cX3_nearOf 7 = .ok (.invokevirtual 71, 3) := by decide +kernel
theorem dX3_nearOf_10 : decode cX3_nearOf 10 = .ok (.ireturn, 1) := by decide +kernel
theorem dX3_whomOf_0 : decode cX3_whomOf 0 = .ok (.aload_n 0, 1) := by decide +kernel
theorem dX3_whomOf_1 : decode cX3_whomOf 1 = .ok (.aload_n 0, 1) := by decide +kernel
theorem dX3_whomOf_2 : decode cX3_whomOf 2 = .ok (.getfield 15, 3) := by decide +kernel
theorem dX3_whomOf_5 : decode cX3_whomOf 5 = .ok (.iload_n 1, 1) := by decide +kernel
theorem dX3_whomOf_6 : decode cX3_whomOf 6 = .ok (.iaload, 1) := by decide +kernel
theorem dX3_whomOf_7 : decode cX3_whomOf 7 = .ok (.invokestatic 49, 3) := by decide +kernel
theorem dX3_whomOf_10 : decode cX3_whomOf 10 = .ok (.invokevirtual 74, 3) := by decide +kernel
theorem dX3_whomOf_13 : decode cX3_whomOf 13 = .ok (.istore_n 2, 1) := by decide +kernel
theorem dX3_whomOf_14 : decode cX3_whomOf 14 = .ok (.iload_n 2, 1) := by decide +kernel
theorem dX3_whomOf_15 : decode cX3_whomOf 15 = .ok (.iconst (-1), 1) := by decide +kernel
theorem dX3_whomOf_16 : decode cX3_whomOf 16 = .ok (.if_icmp .eq 7, 3) := by decide +kernel
theorem dX3_whomOf_19 : decode cX3_whomOf 19 = .ok (.iload_n 2, 1) := by decide +kernel
theorem dX3_whomOf_20 : decode cX3_whomOf 20 = .ok (.goto 16, 3) := by decide +kernel
theorem dX3_whomOf_23 : decode cX3_whomOf 23 = .ok (.aload_n 0, 1) := by decide +kernel
theorem dX3_whomOf_24 : decode cX3_whomOf 24 = .ok (.aload_n 0, 1) := by decide +kernel
theorem dX3_whomOf_25 : decode cX3_whomOf 25 = .ok (.getfield 15, 3) := by decide +kernel
theorem dX3_whomOf_28 : decode cX3_whomOf 28 = .ok (.iload_n 1, 1) := by decide +kernel
theorem dX3_whomOf_29 : decode cX3_whomOf 29 = .ok (.iaload, 1) := by decide +kernel
theorem dX3_whomOf_30 : decode cX3_whomOf 30 = .ok (.invokestatic 53, 3) := by decide +kernel
theorem dX3_whomOf_33 : decode cX3_whomOf 33 = .ok (.invokevirtual 74, 3) := by decide +kernel
theorem dX3_whomOf_36 : decode cX3_whomOf 36 = .ok (.ireturn, 1) := by decide +kernel
theorem dX3_isGuarded_0 : decode cX3_isGuarded 0 = .ok (.iload_n 1, 1) := by decide +kernel
theorem dX3_isGuarded_1 : decode cX3_isGuarded 1 = .ok (.aload_n 0, 1) := by decide +kernel
theorem dX3_isGuarded_2 : decode cX3_isGuarded 2 = .ok (.getfield 27, 3) := by decide +kernel
theorem dX3_isGuarded_5 : decode cX3_isGuarded 5 = .ok (.if_icmp .eq 25, 3) := by decide +kernel
theorem dX3_isGuarded_8 : decode cX3_isGuarded 8 = .ok (.iload_n 1, 1) := by decide +kernel
theorem dX3_isGuarded_9 : decode cX3_isGuarded 9 = .ok (.aload_n 0, 1) := by decide +kernel
theorem dX3_isGuarded_10 : decode cX3_isGuarded 10 = .ok (.getfield 27, 3) := by decide +kernel
theorem dX3_isGuarded_13 : decode cX3_isGuarded 13 = .ok (.invokestatic 49, 3) := by decide +kernel
theorem dX3_isGuarded_16 : decode cX3_isGuarded 16 = .ok (.if_icmp .eq 14, 3) := by decide +kernel
theorem dX3_isGuarded_19 : decode cX3_isGuarded 19 = .ok (.iload_n 1, 1) := by decide +kernel
theorem dX3_isGuarded_20 : decode cX3_isGuarded 20 = .ok (.aload_n 0, 1) := by decide +kernel
theorem dX3_isGuarded_21 : decode cX3_isGuarded 21 = .ok (.getfield 27, 3) := by decide +kernel
theorem dX3_isGuarded_24 : decode cX3_isGuarded 24 = .ok (.invokestatic 53, 3) := by decide +kernel
theorem dX3_isGuarded_27 : decode cX3_isGuarded 27 = .ok (.if_icmp .ne 7, 3) := by decide +kernel
theorem dX3_isGuarded_30 : decode cX3_isGuarded 30 = .ok (.iconst 1, 1) := by decide +kernel
theorem dX3_isGuarded_31 : decode cX3_isGuarded 31 = .ok (.goto 4, 3) := by decide +kernel
theorem dX3_isGuarded_34 : decode cX3_isGuarded 34 = .ok (.iconst 0, 1) := by decide +kernel
theorem dX3_isGuarded_35 : decode cX3_isGuarded 35 = .ok (.ireturn, 1) := by decide +kernel
theorem dX3_biters_0 : decode cX3_biters 0 = .ok (.aload_n 0, 1) := by decide +kernel
theorem dX3_biters_1 : decode cX3_biters 1 = .ok (.invokevirtual 56, 3) := by decide +kernel
theorem dX3_biters_4 : decode cX3_biters 4 = .ok (.istore_n 1, 1) := by decide +kernel
theorem dX3_biters_5 : decode cX3_biters 5 = .ok (.iconst 0, 1) := by decide +kernel
theorem dX3_biters_6 : decode cX3_biters 6 = .ok (.istore_n 2, 1) := by decide +kernel
theorem dX3_biters_7 : decode cX3_biters 7 = .ok (.iconst 0, 1) := by decide +kernel
theorem dX3_biters_8 : decode cX3_biters 8 = .ok (.istore_n 3, 1) := by decide +kernel
theorem dX3_biters_9 : decode cX3_biters 9 = .ok (.iload_n 3, 1) := by decide +kernel
theorem dX3_biters_10 : decode cX3_biters 10 = .ok (.aload_n 0, 1) := by decide +kernel
theorem dX3_biters_11 : decode cX3_biters 11 = .ok (.getfield 40, 3) := by decide +kernel
theorem dX3_biters_14 : decode cX3_biters 14 = .ok (.if_icmp .ge 57, 3) := by decide +kernel
theorem dX3_biters_17 : decode cX3_biters 17 = .ok (.iload_n 1, 1) := by decide +kernel
theorem dX3_biters_18 : decode cX3_biters 18 = .ok (.aload_n 0, 1) := by decide +kernel
theorem dX3_biters_19 : decode cX3_biters 19 = .ok (.getfield 15, 3) := by decide +kernel
theorem dX3_biters_22 : decode cX3_biters 22 = .ok (.iload_n 3, 1) := by decide +kernel
theorem dX3_biters_23 : decode cX3_biters 23 = .ok (.iaload, 1) := by decide +kernel
theorem dX3_biters_24 : decode cX3_biters 24 = .ok (.invokestatic 60, 3) := by decide +kernel
theorem dX3_biters_27 : decode cX3_biters 27 = .ok (.istore 4, 2) := by decide +kernel
theorem dX3_biters_29 : decode cX3_biters 29 = .ok (.iload 4, 2) := by decide +kernel
theorem dX3_biters_31 : decode cX3_biters 31 = .ok (.ifCond .le 34, 3) := by decide +kernel
theorem dX3_biters_34 : decode cX3_biters 34 = .ok (.aload_n 0, 1) := by decide +kernel
theorem dX3_biters_35 : decode cX3_biters 35 = .ok (.aload_n 0, 1) := by decide +kernel
theorem dX3_biters_36 : decode cX3_biters 36 = .ok (.getfield 15, 3) := by decide +kernel
theorem dX3_biters_39 : decode cX3_biters 39 = .ok (.iload_n 3, 1) := by decide +kernel
theorem dX3_biters_40 : decode cX3_biters 40 = .ok (.iaload, 1) := by decide +kernel
theorem dX3_biters_41 : decode cX3_biters 41 = .ok (.invokevirtual 77, 3) := by decide +kernel
theorem dX3_biters_44 : decode cX3_biters 44 = .ok (.ifCond .ne 21, 3) := by decide +kernel
theorem dX3_biters_47 : decode cX3_biters 47 = .ok (.aload_n 0, 1) := by decide +kernel
theorem dX3_biters_48 : decode cX3_biters 48 = .ok (.iload_n 3, 1) := by decide +kernel
theorem dX3_biters_49 : decode cX3_biters 49 = .ok (.iload 4, 2) := by decide +kernel
theorem dX3_biters_51 : decode cX3_biters 51 = .ok (.invokevirtual 71, 3) := by decide +kernel
theorem dX3_biters_54 : decode cX3_biters 54 = .ok (.bipush 12, 2) := by decide +kernel
theorem dX3_biters_56 : decode cX3_biters 56 = .ok (.if_icmp .lt 9, 3) := by decide +kernel
theorem dX3_biters_59 : decode cX3_biters 59 = .ok (.iload_n 2, 1) := by decide +kernel
theorem dX3_biters_60 : decode cX3_biters 60 = .ok (.iconst 1, 1) := by decide +kernel
theorem dX3_biters_61 : decode cX3_biters 61 = .ok (.iload_n 3, 1) := by decide +kernel
theorem dX3_biters_62 : decode cX3_biters 62 = .ok (.ishl, 1) := by decide +kernel
theorem dX3_biters_63 : decode cX3_biters 63 = .ok (.ior, 1) := by decide +kernel
theorem dX3_biters_64 : decode cX3_biters 64 = .ok (.istore_n 2, 1) := by decide +kernel
theorem dX3_biters_65 : decode cX3_biters 65 = .ok (.iinc 3 1, 3) := by decide +kernel
theorem dX3_biters_68 : decode cX3_biters 68 = .ok (.goto (-59), 3) := by decide +kernel
theorem dX3_biters_71 : decode cX3_biters 71 = .ok (.iload_n 2, 1) := by decide +kernel
theorem dX3_biters_72 : decode cX3_biters 72 = .ok (.ireturn, 1) := by decide +kernel
theorem dX3_timesBitten_0 : decode cX3_timesBitten 0 = .ok (.iconst 0, 1) := by decide +kernel
theorem dX3_timesBitten_1 : decode cX3_timesBitten 1 = .ok (.istore_n 3, 1) := by decide +kernel
theorem dX3_timesBitten_2 : decode cX3_timesBitten 2 = .ok (.iconst 0, 1) := by decide +kernel
theorem dX3_timesBitten_3 : decode cX3_timesBitten 3 = .ok (.istore 4, 2) := by decide +kernel
theorem dX3_timesBitten_5 : decode cX3_timesBitten 5 = .ok (.iload 4, 2) := by decide +kernel
theorem dX3_timesBitten_7 : decode cX3_timesBitten 7 = .ok (.aload_n 0, 1) := by decide +kernel
theorem dX3_timesBitten_8 : decode cX3_timesBitten 8 = .ok (.getfield 40, 3) := by decide +kernel
theorem dX3_timesBitten_11 : decode cX3_timesBitten 11 = .ok (.if_icmp .ge 32, 3) := by decide +kernel
theorem dX3_timesBitten_14 : decode cX3_timesBitten 14 = .ok (.iload_n 2, 1) := by decide +kernel
theorem dX3_timesBitten_15 : decode cX3_timesBitten 15 = .ok (.iload 4, 2) := by decide +kernel
theorem dX3_timesBitten_17 : decode cX3_timesBitten 17 = .ok (.ishr, 1) := by decide +kernel
theorem dX3_timesBitten_18 : decode cX3_timesBitten 18 = .ok (.iconst 1, 1) := by decide +kernel
theorem dX3_timesBitten_19 : decode cX3_timesBitten 19 = .ok (.iand, 1) := by decide +kernel
theorem dX3_timesBitten_20 : decode cX3_timesBitten 20 = .ok (.iconst 1, 1) := by decide +kernel
theorem dX3_timesBitten_21 : decode cX3_timesBitten 21 = .ok (.if_icmp .ne 16, 3) := by decide +kernel
theorem dX3_timesBitten_24 : decode cX3_timesBitten 24 = .ok (.aload_n 0, 1) := by decide +kernel
theorem dX3_timesBitten_25 : decode cX3_timesBitten 25 = .ok (.iload 4, 2) := by decide +kernel
theorem dX3_timesBitten_27 : decode cX3_timesBitten 27 = .ok (.invokevirtual 81, 3) := by decide +kernel
theorem dX3_timesBitten_30 : decode cX3_timesBitten 30 = .ok (.iload_n 1, 1) := by decide +kernel
theorem dX3_timesBitten_31 : decode cX3_timesBitten 31 = .ok (.if_icmp .ne 6, 3) := by decide +kernel
theorem dX3_timesBitten_34 : decode cX3_timesBitten 34 = .ok (.iinc 3 1, 3) := by decide +kernel
theorem dX3_timesBitten_37 : decode cX3_timesBitten 37 = .ok (.iinc 4 1, 3) := by decide +kernel
theorem dX3_timesBitten_40 : decode cX3_timesBitten 40 = .ok (.goto (-35), 3) := by decide +kernel
theorem dX3_timesBitten_43 : decode cX3_timesBitten 43 = .ok (.iload_n 3, 1) := by decide +kernel
theorem dX3_timesBitten_44 : decode cX3_timesBitten 44 = .ok (.ireturn, 1) := by decide +kernel
theorem dX3_giveCarrot_0 : decode cX3_giveCarrot 0 = .ok (.aload_n 0, 1) := by decide +kernel
theorem dX3_giveCarrot_1 : decode cX3_giveCarrot 1 = .ok (.getfield 21, 3) := by decide +kernel
theorem dX3_giveCarrot_4 : decode cX3_giveCarrot 4 = .ok (.iload_n 1, 1) := by decide +kernel
theorem dX3_giveCarrot_5 : decode cX3_giveCarrot 5 = .ok (.iconst 0, 1) := by decide +kernel
theorem dX3_giveCarrot_6 : decode cX3_giveCarrot 6 = .ok (.aload_n 0, 1) := by decide +kernel
theorem dX3_giveCarrot_7 : decode cX3_giveCarrot 7 = .ok (.getfield 21, 3) := by decide +kernel
theorem dX3_giveCarrot_10 : decode cX3_giveCarrot 10 = .ok (.iload_n 1, 1) := by decide +kernel
theorem dX3_giveCarrot_11 : decode cX3_giveCarrot 11 = .ok (.iaload, 1) := by decide +kernel
theorem dX3_giveCarrot_12 : decode cX3_giveCarrot 12 = .ok (.bipush 10, 2) := by decide +kernel
theorem dX3_giveCarrot_14 : decode cX3_giveCarrot 14 = .ok (.isub, 1) := by decide +kernel
theorem dX3_giveCarrot_15 : decode cX3_giveCarrot 15 = .ok (.invokestatic 84, 3) := by decide +kernel
theorem dX3_giveCarrot_18 : decode cX3_giveCarrot 18 = .ok (.iastore, 1) := by decide +kernel
theorem dX3_giveCarrot_19 : decode cX3_giveCarrot 19 = .ok (.aload_n 0, 1) := by decide +kernel
theorem dX3_giveCarrot_20 : decode cX3_giveCarrot 20 = .ok (.getfield 21, 3) := by decide +kernel
theorem dX3_giveCarrot_23 : decode cX3_giveCarrot 23 = .ok (.iload_n 1, 1) := by decide +kernel
theorem dX3_giveCarrot_24 : decode cX3_giveCarrot 24 = .ok (.iaload, 1) := by decide +kernel
theorem dX3_giveCarrot_25 : decode cX3_giveCarrot 25 = .ok (.ireturn, 1) := by decide +kernel
theorem dX3_passMinutes_0 : decode cX3_passMinutes 0 = .ok (.iconst 0, 1) := by decide +kernel
theorem dX3_passMinutes_1 : decode cX3_passMinutes 1 = .ok (.istore_n 2, 1) := by decide +kernel
theorem dX3_passMinutes_2 : decode cX3_passMinutes 2 = .ok (.iconst 0, 1) := by decide +kernel
theorem dX3_passMinutes_3 : decode cX3_passMinutes 3 = .ok (.istore_n 3, 1) := by decide +kernel
theorem dX3_passMinutes_4 : decode cX3_passMinutes 4 = .ok (.iload_n 3, 1) := by decide +kernel
theorem dX3_passMinutes_5 : decode cX3_passMinutes 5 = .ok (.iload_n 1, 1) := by decide +kernel
theorem dX3_passMinutes_6 : decode cX3_passMinutes 6 = .ok (.if_icmp .ge 16, 3) := by decide +kernel
theorem dX3_passMinutes_9 : decode cX3_passMinutes 9 = .ok (.iload_n 2, 1) := by decide +kernel
theorem dX3_passMinutes_10 : decode cX3_passMinutes 10 = .ok (.aload_n 0, 1) := by decide +kernel
theorem dX3_passMinutes_11 : decode cX3_passMinutes 11 = .ok (.invokevirtual 89, 3) := by decide +kernel
theorem dX3_passMinutes_14 : decode cX3_passMinutes 14 = .ok (.iadd, 1) := by decide +kernel
theorem dX3_passMinutes_15 : decode cX3_passMinutes 15 = .ok (.istore_n 2, 1) := by decide +kernel
theorem dX3_passMinutes_16 : decode cX3_passMinutes 16 = .ok (.iinc 3 1, 3) := by decide +kernel
theorem dX3_passMinutes_19 : decode cX3_passMinutes 19 = .ok (.goto (-15), 3) := by decide +kernel
theorem dX3_passMinutes_22 : decode cX3_passMinutes 22 = .ok (.iload_n 2, 1) := by decide +kernel
theorem dX3_passMinutes_23 : decode cX3_passMinutes 23 = .ok (.ireturn, 1) := by decide +kernel
theorem dX3_passMinute_0 : decode cX3_passMinute 0 = .ok (.aload_n 0, 1) := by decide +kernel
theorem dX3_passMinute_1 : decode cX3_passMinute 1 = .ok (.invokevirtual 92, 3) := by decide +kernel
theorem dX3_passMinute_4 : decode cX3_passMinute 4 = .ok (.istore_n 1, 1) := by decide +kernel
theorem dX3_passMinute_5 : decode cX3_passMinute 5 = .ok (.iconst 0, 1) := by decide +kernel
theorem dX3_passMinute_6 : decode cX3_passMinute 6 = .ok (.istore_n 2, 1) := by decide +kernel
theorem dX3_passMinute_7 : decode cX3_passMinute 7 = .ok (.iload_n 2, 1) := by decide +kernel
theorem dX3_passMinute_8 : decode cX3_passMinute 8 = .ok (.aload_n 0, 1) := by decide +kernel
theorem dX3_passMinute_9 : decode cX3_passMinute 9 = .ok (.getfield 40, 3) := by decide +kernel
theorem dX3_passMinute_12 : decode cX3_passMinute 12 = .ok (.if_icmp .ge 71, 3) := by decide +kernel
theorem dX3_passMinute_15 : decode cX3_passMinute 15 = .ok (.aload_n 0, 1) := by decide +kernel
theorem dX3_passMinute_16 : decode cX3_passMinute 16 = .ok (.getfield 24, 3) := by decide +kernel
theorem dX3_passMinute_19 : decode cX3_passMinute 19 = .ok (.iload_n 2, 1) := by decide +kernel
theorem dX3_passMinute_20 : decode cX3_passMinute 20 = .ok (.dup2, 1) := by decide +kernel
theorem dX3_passMinute_21 : decode cX3_passMinute 21 = .ok (.iaload, 1) := by decide +kernel
theorem dX3_passMinute_22 : decode cX3_passMinute 22 = .ok (.aload_n 0, 1) := by decide +kernel
theorem dX3_passMinute_23 : decode cX3_passMinute 23 = .ok (.iload_n 2, 1) := by decide +kernel
theorem dX3_passMinute_24 : decode cX3_passMinute 24 = .ok (.iload_n 1, 1) := by decide +kernel
theorem dX3_passMinute_25 : decode cX3_passMinute 25 = .ok (.invokevirtual 95, 3) := by decide +kernel
theorem dX3_passMinute_28 : decode cX3_passMinute 28 = .ok (.iadd, 1) := by decide +kernel
theorem dX3_passMinute_29 : decode cX3_passMinute 29 = .ok (.iastore, 1) := by decide +kernel
theorem dX3_passMinute_30 : decode cX3_passMinute 30 = .ok (.iload_n 1, 1) := by decide +kernel
theorem dX3_passMinute_31 : decode cX3_passMinute 31 = .ok (.iload_n 2, 1) := by decide +kernel
theorem dX3_passMinute_32 : decode cX3_passMinute 32 = .ok (.ishr, 1) := by decide +kernel
theorem dX3_passMinute_33 : decode cX3_passMinute 33 = .ok (.iconst 1, 1) := by decide +kernel
theorem dX3_passMinute_34 : decode cX3_passMinute 34 = .ok (.iand, 1) := by decide +kernel
theorem dX3_passMinute_35 : decode cX3_passMinute 35 = .ok (.iconst 1, 1) := by decide +kernel
theorem dX3_passMinute_36 : decode cX3_passMinute 36 = .ok (.if_icmp .ne 22, 3) := by decide +kernel
theorem dX3_passMinute_39 : decode cX3_passMinute 39 = .ok (.aload_n 0, 1) := by decide +kernel
theorem dX3_passMinute_40 : decode cX3_passMinute 40 = .ok (.getfield 21, 3) := by decide +kernel
theorem dX3_passMinute_43 : decode cX3_passMinute 43 = .ok (.iload_n 2, 1) := by decide +kernel
theorem dX3_passMinute_44 : decode cX3_passMinute 44 = .ok (.iconst 0, 1) := by decide +kernel
theorem dX3_passMinute_45 : decode cX3_passMinute 45 = .ok (.aload_n 0, 1) := by decide +kernel
theorem dX3_passMinute_46 : decode cX3_passMinute 46 = .ok (.getfield 21, 3) := by decide +kernel
theorem dX3_passMinute_49 : decode cX3_passMinute 49 = .ok (.iload_n 2, 1) := by decide +kernel
theorem dX3_passMinute_50 : decode cX3_passMinute 50 = .ok (.iaload, 1) := by decide +kernel
theorem dX3_passMinute_51 : decode cX3_passMinute 51 = .ok (.bipush 8, 2) := by decide +kernel
theorem dX3_passMinute_53 : decode cX3_passMinute 53 = .ok (.isub, 1) := by decide +kernel
theorem dX3_passMinute_54 : decode cX3_passMinute 54 = .ok (.invokestatic 84, 3) := by decide +kernel
theorem dX3_passMinute_57 : decode cX3_passMinute 57 = .ok (.iastore, 1) := by decide +kernel
theorem dX3_passMinute_58 : decode cX3_passMinute 58 = .ok (.aload_n 0, 1) := by decide +kernel
theorem dX3_passMinute_59 : decode cX3_passMinute 59 = .ok (.getfield 21, 3) := by decide +kernel
theorem dX3_passMinute_62 : decode cX3_passMinute 62 = .ok (.iload_n 2, 1) := by decide +kernel
theorem dX3_passMinute_63 : decode cX3_passMinute 63 = .ok (.bipush 30, 2) := by decide +kernel
theorem dX3_passMinute_65 : decode cX3_passMinute 65 = .ok (.aload_n 0, 1) := by decide +kernel
theorem dX3_passMinute_66 : decode cX3_passMinute 66 = .ok (.getfield 21, 3) := by decide +kernel
theorem dX3_passMinute_69 : decode cX3_passMinute 69 = .ok (.iload_n 2, 1) := by decide +kernel
theorem dX3_passMinute_70 : decode cX3_passMinute 70 = .ok (.iaload, 1) := by decide +kernel
theorem dX3_passMinute_71 : decode cX3_passMinute 71 = .ok (.iconst 1, 1) := by decide +kernel
theorem dX3_passMinute_72 : decode cX3_passMinute 72 = .ok (.iadd, 1) := by decide +kernel
theorem dX3_passMinute_73 : decode cX3_passMinute 73 = .ok (.invokestatic 98, 3) := by decide +kernel
theorem dX3_passMinute_76 : decode cX3_passMinute 76 = .ok (.iastore, 1) := by decide +kernel
theorem dX3_passMinute_77 : decode cX3_passMinute 77 = .ok (.iinc 2 1, 3) := by decide +kernel
theorem dX3_passMinute_80 : decode cX3_passMinute 80 = .ok (.goto (-73), 3) := by decide +kernel
theorem dX3_passMinute_83 : decode cX3_passMinute 83 = .ok (.aload_n 0, 1) := by decide +kernel
theorem dX3_passMinute_84 : decode cX3_passMinute 84 = .ok (.iload_n 1, 1) := by decide +kernel
theorem dX3_passMinute_85 : decode cX3_passMinute 85 = .ok (.invokestatic 101, 3) := by decide +kernel
theorem dX3_passMinute_88 : decode cX3_passMinute 88 = .ok (.putfield 37, 3) := by decide +kernel
theorem dX3_passMinute_91 : decode cX3_passMinute 91 = .ok (.aload_n 0, 1) := by decide +kernel
theorem dX3_passMinute_92 : decode cX3_passMinute 92 = .ok (.dup, 1) := by decide +kernel
theorem dX3_passMinute_93 : decode cX3_passMinute 93 = .ok (.getfield 34, 3) := by decide +kernel
theorem dX3_passMinute_96 : decode cX3_passMinute 96 = .ok (.aload_n 0, 1) := by decide +kernel
theorem dX3_passMinute_97 : decode cX3_passMinute 97 = .ok (.getfield 37, 3) := by decide +kernel
theorem dX3_passMinute_100 : decode cX3_passMinute 100 = .ok (.iadd, 1) := by decide +kernel
theorem dX3_passMinute_101 : decode cX3_passMinute 101 = .ok (.putfield 34, 3) := by decide +kernel
theorem dX3_passMinute_104 : decode cX3_passMinute 104 = .ok (.aload_n 0, 1) := by decide +kernel
theorem dX3_passMinute_105 : decode cX3_passMinute 105 = .ok (.dup, 1) := by decide +kernel
theorem dX3_passMinute_106 : decode cX3_passMinute 106 = .ok (.getfield 31, 3) := by decide +kernel
theorem dX3_passMinute_109 : decode cX3_passMinute 109 = .ok (.iconst 1, 1) := by decide +kernel
theorem dX3_passMinute_110 : decode cX3_passMinute 110 = .ok (.iadd, 1) := by decide +kernel
theorem dX3_passMinute_111 : decode cX3_passMinute 111 = .ok (.putfield 31, 3) := by decide +kernel
theorem dX3_passMinute_114 : decode cX3_passMinute 114 = .ok (.aload_n 0, 1) := by decide +kernel
theorem dX3_passMinute_115 : decode cX3_passMinute 115 = .ok (.getfield 37, 3) := by decide +kernel
theorem dX3_passMinute_118 : decode cX3_passMinute 118 = .ok (.ireturn, 1) := by decide +kernel
theorem dX4_init_0 : decode cX4_init 0 = .ok (.aload_n 0, 1) := by decide +kernel
theorem dX4_init_1 : decode cX4_init 1 = .ok (.invokespecial 3, 3) := by decide +kernel
theorem dX4_init_4 : decode cX4_init 4 = .ok (.aload_n 0, 1) := by decide +kernel
theorem dX4_init_5 : decode cX4_init 5 = .ok (.sipush 150, 3) := by decide +kernel
theorem dX4_init_8 : decode cX4_init 8 = .ok (.newarray .byte, 2) := by decide +kernel
theorem dX4_init_10 : decode cX4_init 10 = .ok (.putfield 9, 3) := by decide +kernel
theorem dX4_init_13 : decode cX4_init 13 = .ok (.return_, 1) := by decide +kernel
theorem dX4_append_0 : decode cX4_append 0 = .ok (.aload_n 0, 1) := by decide +kernel
theorem dX4_append_1 : decode cX4_append 1 = .ok (.getfield 15, 3) := by decide +kernel
theorem dX4_append_4 : decode cX4_append 4 = .ok (.sipush 150, 3) := by decide +kernel
theorem dX4_append_7 : decode cX4_append 7 = .ok (.if_icmp .ge 24, 3) := by decide +kernel
theorem dX4_append_10 : decode cX4_append 10 = .ok (.aload_n 0, 1) := by decide +kernel
theorem dX4_append_11 : decode cX4_append 11 = .ok (.getfield 9, 3) := by decide +kernel
theorem dX4_append_14 : decode cX4_append 14 = .ok (.aload_n 0, 1) := by decide +kernel
theorem dX4_append_15 : decode cX4_append 15 = .ok (.getfield 15, 3) := by decide +kernel
theorem dX4_append_18 : decode cX4_append 18 = .ok (.iload_n 1, 1) := by decide +kernel
theorem dX4_append_19 : decode cX4_append 19 = .ok (.i2b, 1) := by decide +kernel
theorem dX4_append_20 : decode cX4_append 20 = .ok (.bastore, 1) := by decide +kernel
theorem dX4_append_21 : decode cX4_append 21 = .ok (.aload_n 0, 1) := by decide +kernel
theorem dX4_append_22 : decode cX4_append 22 = .ok (.dup, 1) := by decide +kernel
theorem dX4_append_23 : decode cX4_append 23 = .ok (.getfield 15, 3) := by decide +kernel
theorem dX4_append_26 : decode cX4_append 26 = .ok (.iconst 1, 1) := by decide +kernel
theorem dX4_append_27 : decode cX4_append 27 = .ok (.iadd, 1) := by decide +kernel
theorem dX4_append_28 : decode cX4_append 28 = .ok (.putfield 15, 3) := by decide +kernel
theorem dX4_append_31 : decode cX4_append 31 = .ok (.aload_n 0, 1) := by decide +kernel
theorem dX4_append_32 : decode cX4_append 32 = .ok (.getfield 15, 3) := by decide +kernel
theorem dX4_append_35 : decode cX4_append 35 = .ok (.ireturn, 1) := by decide +kernel
theorem dX4_readInto_0 : decode cX4_readInto 0 = .ok (.aload_n 1, 1) := by decide +kernel
theorem dX4_readInto_1 : decode cX4_readInto 1 = .ok (.iconst 0, 1) := by decide +kernel
theorem dX4_readInto_2 : decode cX4_readInto 2 = .ok (.invokevirtual 19, 3) := by decide +kernel
theorem dX4_readInto_5 : decode cX4_readInto 5 = .ok (.aload_n 0, 1) := by decide +kernel
theorem dX4_readInto_6 : decode cX4_readInto 6 = .ok (.iconst 0, 1) := by decide +kernel
theorem dX4_readInto_7 : decode cX4_readInto 7 = .ok (.putfield 25, 3) := by decide +kernel
theorem dX4_readInto_10 : decode cX4_readInto 10 = .ok (.iconst 0, 1) := by decide +kernel
theorem dX4_readInto_11 : decode cX4_readInto 11 = .ok (.istore_n 2, 1) := by decide +kernel
theorem dX4_readInto_12 : decode cX4_readInto 12 = .ok (.aload_n 0, 1) := by decide +kernel
theorem dX4_readInto_13 : decode cX4_readInto 13 = .ok (.invokevirtual 28, 3) := by decide +kernel
theorem dX4_readInto_16 : decode cX4_readInto 16 = .ok (.aload_n 0, 1) := by decide +kernel
theorem dX4_readInto_17 : decode cX4_readInto 17 = .ok (.getfield 31, 3) := by decide +kernel
theorem dX4_readInto_20 : decode cX4_readInto 20 = .ok (.iconst 3, 1) := by decide +kernel
theorem dX4_readInto_21 : decode cX4_readInto 21 = .ok (.if_icmp .ne 15, 3) := by decide +kernel
theorem dX4_readInto_24 : decode cX4_readInto 24 = .ok (.aload_n 0, 1) := by decide +kernel
theorem dX4_readInto_25 : decode cX4_readInto 25 = .ok (.aload_n 1, 1) := by decide +kernel
theorem dX4_readInto_26 : decode cX4_readInto 26 = .ok (.invokevirtual 34, 3) := by decide +kernel
theorem dX4_readInto_29 : decode cX4_readInto 29 = .ok (.ifCond .eq 7, 3) := by decide +kernel
theorem dX4_readInto_32 : decode cX4_readInto 32 = .ok (.iconst 1, 1) := by decide +kernel
theorem dX4_readInto_33 : decode cX4_readInto 33 = .ok (.goto 4, 3) := by decide +kernel
theorem dX4_readInto_36 : decode cX4_readInto 36 = .ok (.iconst 0, 1) := by decide +kernel
theorem dX4_readInto_37 : decode cX4_readInto 37 = .ok (.istore_n 3, 1) := by decide +kernel
theorem dX4_readInto_38 : decode cX4_readInto 38 = .ok (.iload_n 3, 1) := by decide +kernel
theorem dX4_readInto_39 : decode cX4_readInto 39 = .ok (.ifCond .eq 72, 3) := by decide +kernel
theorem dX4_readInto_42 : decode cX4_readInto 42 = .ok (.aload_n 0, 1) := by decide +kernel
theorem dX4_readInto_43 : decode cX4_readInto 43 = .ok (.getfield 31, 3) := by decide +kernel
theorem dX4_readInto_46 : decode cX4_readInto 46 = .ok (.ifCond .eq 65, 3) := by decide +kernel
theorem dX4_readInto_49 : decode cX4_readInto 49 = .ok (.iload_n 2, 1) := by decide +kernel
theorem dX4_readInto_50 : decode cX4_readInto 50 = .ok (.sipush 150, 3) := by decide +kernel
theorem dX4_readInto_53 : decode cX4_readInto 53 = .ok (.if_icmp .ge 58, 3) := by decide +kernel
theorem dX4_readInto_56 : decode cX4_readInto 56 = .ok (.iinc 2 1, 3) := by decide +kernel
theorem dX4_readInto_59 : decode cX4_readInto 59 = .ok (.aload_n 0, 1) := by decide +kernel
theorem dX4_readInto_60 : decode cX4_readInto 60 = .ok (.invokevirtual 28, 3) := by decide +kernel
theorem dX4_readInto_63 : decode cX4_readInto 63 = .ok (.aload_n 0, 1) := by decide +kernel
theorem dX4_readInto_64 : decode cX4_readInto 64 = .ok (.getfield 31, 3) := by decide +kernel
theorem dX4_readInto_67 : decode cX4_readInto 67 = .ok (.iconst 4, 1) := by decide +kernel
theorem dX4_readInto_68 : decode cX4_readInto 68 = .ok (.if_icmp .ne 11, 3) := by decide +kernel
theorem dX4_readInto_71 : decode cX4_readInto 71 = .ok (.aload_n 0, 1) := by decide +kernel
theorem dX4_readInto_72 : decode cX4_readInto 72 = .ok (.aload_n 1, 1) := by decide +kernel
theorem dX4_readInto_73 : decode cX4_readInto 73 = .ok (.invokevirtual 38, 3) := by decide +kernel
theorem dX4_readInto_76 : decode cX4_readInto 76 = .ok (.goto 31, 3) := by decide +kernel
theorem dX4_readInto_79 : decode cX4_readInto 79 = .ok (.aload_n 0, 1) := by decide +kernel
theorem dX4_readInto_80 : decode cX4_readInto 80 = .ok (.getfield 31, 3) := by decide +kernel
theorem dX4_readInto_83 : decode cX4_readInto 83 = .ok (.iconst 5, 1) := by decide +kernel
theorem dX4_readInto_84 : decode cX4_readInto 84 = .ok (.if_icmp .ne 11, 3) := by decide +kernel
theorem dX4_readInto_87 : decode cX4_readInto 87 = .ok (.aload_n 0, 1) := by decide +kernel
theorem dX4_readInto_88 : decode cX4_readInto 88 = .ok (.aload_n 1, 1) := by decide +kernel
theorem dX4_readInto_89 : decode cX4_readInto 89 = .ok (.invokevirtual 41, 3) := by decide +kernel
theorem dX4_readInto_92 : decode cX4_readInto 92 = .ok (.goto 15, 3) := by decide +kernel
theorem dX4_readInto_95 : decode cX4_readInto 95 = .ok (.aload_n 0, 1) := by decide +kernel
theorem dX4_readInto_96 : decode cX4_readInto 96 = .ok (.getfield 31, 3) := by decide +kernel
theorem dX4_readInto_99 : decode cX4_readInto 99 = .ok (.ifCond .ne 7, 3) := by decide +kernel
theorem dX4_readInto_102 : decode cX4_readInto 102 = .ok (.iconst 1, 1) := by decide +kernel
theorem dX4_readInto_103 : decode cX4_readInto 103 = .ok (.goto 4, 3) := by decide +kernel
theorem dX4_readInto_106 : decode cX4_readInto 106 = .ok (.iconst 0, 1) := by decide +kernel
theorem dX4_readInto_107 : decode cX4_readInto 107 = .ok (.istore_n 3, 1) := by decide +kernel
theorem dX4_readInto_108 : decode cX4_readInto 108 = .ok (.goto (-70), 3) := by decide +kernel
theorem dX4_readInto_111 : decode cX4_readInto 111 = .ok (.iload_n 3, 1) := by decide +kernel
theorem dX4_readInto_112 : decode cX4_readInto 112 = .ok (.ifCond .eq 7, 3) := by decide +kernel
theorem dX4_readInto_115 : decode cX4_readInto 115 = .ok (.iload_n 2, 1) := by decide +kernel
theorem dX4_readInto_116 : decode cX4_readInto 116 = .ok (.goto 10, 3) := by decide +kernel
theorem dX4_readInto_119 : decode cX4_readInto 119 = .ok (.bipush (-10), 2) := by decide +kernel
theorem dX4_readInto_121 : decode cX4_readInto 121 = .ok (.aload_n 0, 1) := by decide +kernel
theorem dX4_readInto_122 : decode cX4_readInto 122 = .ok (.getfield 44, 3) := by decide +kernel
theorem dX4_readInto_125 : decode cX4_readInto 125 = .ok (.isub, 1) := by decide +kernel
theorem dX4_readInto_126 : decode cX4_readInto 126 = .ok (.ireturn, 1) := by decide +kernel
theorem dX4_readWoman_0 : decode cX4_readWoman 0 = .ok (.aload_n 0, 1) := by decide +kernel
theorem dX4_readWoman_1 : decode cX4_readWoman 1 = .ok (.bipush 7, 2) := by decide +kernel
theorem dX4_readWoman_3 : decode cX4_readWoman 3 = .ok (.invokevirtual 47, 3) := by decide +kernel
theorem dX4_readWoman_6 : decode cX4_readWoman 6 = .ok (.ifCond .ne 5, 3) := by decide +kernel
theorem dX4_readWoman_9 : decode cX4_readWoman 9 = .ok (.iconst 0, 1) := by decide +kernel
theorem dX4_readWoman_10 : decode cX4_readWoman 10 = .ok (.ireturn, 1) := by decide +kernel
theorem dX4_readWoman_11 : decode cX4_readWoman 11 = .ok (.aload_n 1, 1) := by decide +kernel
theorem dX4_readWoman_12 : decode cX4_readWoman 12 = .ok (.aload_n 0, 1) := by decide +kernel
theorem dX4_readWoman_13 : decode cX4_readWoman 13 = .ok (.getfield 51, 3) := by decide +kernel
theorem dX4_readWoman_16 : decode cX4_readWoman 16 = .ok (.putfield 54, 3) := by decide +kernel
theorem dX4_readWoman_19 : decode cX4_readWoman 19 = .ok (.aload_n 0, 1) := by decide +kernel
theorem dX4_readWoman_20 : decode cX4_readWoman 20 = .ok (.invokevirtual 57, 3) := by decide +kernel
theorem dX4_readWoman_23 : decode cX4_readWoman 23 = .ok (.ireturn, 1) := by decide +kernel
theorem dX4_readChild_0 : decode cX4_readChild 0 = .ok (.aload_n 1, 1) := by decide +kernel
theorem dX4_readChild_1 : decode cX4_readChild 1 = .ok (.getfield 61, 3) := by decide +kernel
theorem dX4_readChild_4 : decode cX4_readChild 4 = .ok (.bipush 6, 2) := by decide +kernel
theorem dX4_readChild_6 : decode cX4_readChild 6 = .ok (.if_icmp .ge 11, 3) := by decide +kernel
theorem dX4_readChild_9 : decode cX4_readChild 9 = .ok (.aload_n 0, 1) := by decide +kernel
theorem dX4_readChild_10 : decode cX4_readChild 10 = .ok (.iconst 5, 1) := by decide +kernel
theorem dX4_readChild_11 : decode cX4_readChild 11 = .ok (.invokevirtual 47, 3) := by decide +kernel
theorem dX4_readChild_14 : decode cX4_readChild 14 = .ok (.ifCond .ne 5, 3) := by decide +kernel
theorem dX4_readChild_17 : decode cX4_readChild 17 = .ok (.iconst 0, 1) := by decide +kernel
theorem dX4_readChild_18 : decode cX4_readChild 18 = .ok (.ireturn, 1) := by decide +kernel
theorem dX4_readChild_19 : decode cX4_readChild 19 = .ok (.aload_n 0, 1) := by decide +kernel
theorem dX4_readChild_20 : decode cX4_readChild 20 = .ok (.getfield 51, 3) := by decide +kernel
theorem dX4_readChild_23 : decode cX4_readChild 23 = .ok (.istore_n 2, 1) := by decide +kernel
theorem dX4_readChild_24 : decode cX4_readChild 24 = .ok (.aload_n 0, 1) := by decide +kernel
theorem dX4_readChild_25 : decode cX4_readChild 25 = .ok (.bipush 7, 2) := by decide +kernel
theorem dX4_readChild_27 : decode cX4_readChild 27 = .ok (.invokevirtual 47, 3) := by decide +kernel
theorem dX4_readChild_30 : decode cX4_readChild 30 = .ok (.ifCond .eq 15, 3) := by decide +kernel
theorem dX4_readChild_33 : decode cX4_readChild 33 = .ok (.aload_n 1, 1) := by decide +kernel
theorem dX4_readChild_34 : decode cX4_readChild 34 = .ok (.aload_n 0, 1) := by decide +kernel
theorem dX4_readChild_35 : decode cX4_readChild 35 = .ok (.getfield 51, 3) := by decide +kernel
theorem dX4_readChild_38 : decode cX4_readChild 38 = .ok (.invokevirtual 64, 3) := by decide +kernel
theorem dX4_readChild_41 : decode cX4_readChild 41 = .ok (.iconst (-1), 1) := by decide +kernel
theorem dX4_readChild_42 : decode cX4_readChild 42 = .ok (.if_icmp .eq 5, 3) := by decide +kernel
theorem dX4_readChild_45 : decode cX4_readChild 45 = .ok (.iconst 0, 1) := by decide +kernel
theorem dX4_readChild_46 : decode cX4_readChild 46 = .ok (.ireturn, 1) := by decide +kernel
theorem dX4_readChild_47 : decode cX4_readChild 47 = .ok (.aload_n 0, 1) := by decide +kernel
theorem dX4_readChild_48 : decode cX4_readChild 48 = .ok (.getfield 51, 3) := by decide +kernel
theorem dX4_readChild_51 : decode cX4_readChild 51 = .ok (.istore_n 3, 1) := by decide +kernel
theorem dX4_readChild_52 : decode cX4_readChild 52 = .ok (.aload_n 0, 1) := by decide +kernel
theorem dX4_readChild_53 : decode cX4_readChild 53 = .ok (.bipush 20, 2) := by decide +kernel
theorem dX4_readChild_55 : decode cX4_readChild 55 = .ok (.invokevirtual 47, 3) := by decide +kernel
theorem dX4_readChild_58 : decode cX4_readChild 58 = .ok (.ifCond .ne 5, 3) := by decide +kernel
theorem dX4_readChild_61 : decode cX4_readChild 61 = .ok (.iconst 0, 1) := by decide +kernel
theorem dX4_readChild_62 : decode cX4_readChild 62 = .ok (.ireturn, 1) := by decide +kernel
theorem dX4_readChild_63 : decode cX4_readChild 63 = .ok (.aload_n 0, 1) := by decide +kernel
theorem dX4_readChild_64 : decode cX4_readChild 64 = .ok (.getfield 51, 3) := by decide +kernel
theorem dX4_readChild_67 : decode cX4_readChild 67 = .ok (.istore 4, 2) := by decide +kernel
theorem dX4_readChild_69 : decode cX4_readChild 69 = .ok (.aload_n 0, 1) := by decide +kernel
theorem dX4_readChild_70 : decode cX4_readChild 70 = .ok (.bipush 30, 2) := by decide +kernel
theorem dX4_readChild_72 : decode cX4_readChild 72 = .ok (.invokevirtual 47, 3) := by decide +kernel
theorem dX4_readChild_75 : decode cX4_readChild 75 = .ok (.ifCond .ne 5, 3) := by decide +kernel
theorem dX4_readChild_78 : decode cX4_readChild 78 = .ok (.iconst 0, 1) := by decide +kernel
theorem dX4_readChild_79 : decode cX4_readChild 79 = .ok (.ireturn, 1) := by decide +kernel
theorem dX4_readChild_80 : decode cX4_readChild 80 = .ok (.aload_n 1, 1) := by decide +kernel
theorem dX4_readChild_81 : decode cX4_readChild 81 = .ok (.iload_n 2, 1) := by decide +kernel
theorem dX4_readChild_82 : decode cX4_readChild 82 = .ok (.iload_n 3, 1) := by decide +kernel
theorem dX4_readChild_83 : decode cX4_readChild 83 = .ok (.iload 4, 2) := by decide +kernel
theorem dX4_readChild_85 : decode cX4_readChild 85 = .ok (.aload_n 0, 1) := by decide +kernel
theorem dX4_readChild_86 : decode cX4_readChild 86 = .ok (.getfield 51, 3) := by decide +kernel
theorem dX4_readChild_89 : decode cX4_readChild 89 = .ok (.invokevirtual 68, 3) := by decide +kernel
theorem dX4_readChild_92 : decode cX4_readChild 92 = .ok (.pop, 1) := by decide +kernel
theorem dX4_readChild_93 : decode cX4_readChild 93 = .ok (.aload_n 0, 1) := by decide +kernel
theorem dX4_readChild_94 : decode cX4_readChild 94 = .ok (.invokevirtual 57, 3) := by decide +kernel
theorem dX4_readChild_97 : decode cX4_readChild 97 = .ok (.ireturn, 1) := by decide +kernel
theorem dX4_readCarrot_0 : decode cX4_readCarrot 0 = .ok (.aload_n 0, 1) := by decide +kernel
theorem dX4_readCarrot_1 : decode cX4_readCarrot 1 = .ok (.aload_n 1, 1) := by decide +kernel
theorem dX4_readCarrot_2 : decode cX4_readCarrot 2 = .ok (.getfield 61, 3) := by decide +kernel
theorem dX4_readCarrot_5 : decode cX4_readCarrot 5 = .ok (.iconst 1, 1) := by decide +kernel
theorem dX4_readCarrot_6 : decode cX4_readCarrot 6 = .ok (.isub, 1) := by decide +kernel
theorem dX4_readCarrot_7 : decode cX4_readCarrot 7 = .ok (.invokevirtual 47, 3) := by decide +kernel
theorem dX4_readCarrot_10 : decode cX4_readCarrot 10 = .ok (.ifCond .ne 5, 3) := by decide +kernel
theorem dX4_readCarrot_13 : decode cX4_readCarrot 13 = .ok (.iconst 0, 1) := by decide +kernel
theorem dX4_readCarrot_14 : decode cX4_readCarrot 14 = .ok (.ireturn, 1) := by decide +kernel
theorem dX4_readCarrot_15 : decode cX4_readCarrot 15 = .ok (.aload_n 1, 1) := by decide +kernel
theorem dX4_readCarrot_16 : decode cX4_readCarrot 16 = .ok (.aload_n 0, 1) := by decide +kernel
theorem dX4_readCarrot_17 : decode cX4_readCarrot 17 = .ok (.getfield 51, 3) := by decide +kernel
theorem dX4_readCarrot_20 : decode cX4_readCarrot 20 = .ok (.invokevirtual 72, 3) := by decide +kernel
theorem dX4_readCarrot_23 : decode cX4_readCarrot 23 = .ok (.pop, 1) := by decide +kernel
theorem dX4_readCarrot_24 : decode cX4_readCarrot 24 = .ok (.aload_n 0, 1) := by decide +kernel
theorem dX4_readCarrot_25 : decode cX4_readCarrot 25 = .ok (.invokevirtual 57, 3) := by decide +kernel
theorem dX4_readCarrot_28 : decode cX4_readCarrot 28 = .ok (.ireturn, 1) := by decide +kernel
theorem dX4_nextNumber_0 : decode cX4_nextNumber 0 = .ok (.aload_n 0, 1) := by decide +kernel
theorem dX4_nextNumber_1 : decode cX4_nextNumber 1 = .ok (.invokevirtual 28, 3) := by decide +kernel
theorem dX4_nextNumber_4 : decode cX4_nextNumber 4 = .ok (.aload_n 0, 1) := by decide +kernel
theorem dX4_nextNumber_5 : decode cX4_nextNumber 5 = .ok (.getfield 31, 3) := by decide +kernel
theorem dX4_nextNumber_8 : decode cX4_nextNumber 8 = .ok (.iconst 2, 1) := by decide +kernel
theorem dX4_nextNumber_9 : decode cX4_nextNumber 9 = .ok (.if_icmp .ne 15, 3) := by decide +kernel
theorem dX4_nextNumber_12 : decode cX4_nextNumber 12 = .ok (.aload_n 0, 1) := by decide +kernel
theorem dX4_nextNumber_13 : decode cX4_nextNumber 13 = .ok (.getfield 51, 3) := by decide +kernel
theorem dX4_nextNumber_16 : decode cX4_nextNumber 16 = .ok (.iload_n 1, 1) := by decide +kernel
theorem dX4_nextNumber_17 : decode cX4_nextNumber 17 = .ok (.if_icmp .gt 7, 3) := by decide +kernel
theorem dX4_nextNumber_20 : decode cX4_nextNumber 20 = .ok (.iconst 1, 1) := by decide +kernel
theorem dX4_nextNumber_21 : decode cX4_nextNumber 21 = .ok (.goto 4, 3) := by decide +kernel
theorem dX4_nextNumber_24 : decode cX4_nextNumber 24 = .ok (.iconst 0, 1) := by decide +kernel
theorem dX4_nextNumber_25 : decode cX4_nextNumber 25 = .ok (.ireturn, 1) := by decide +kernel
theorem dX4_nextMark_0 : decode cX4_nextMark 0 = .ok (.aload_n 0, 1) := by decide +kernel
theorem dX4_nextMark_1 : decode cX4_nextMark 1 = .ok (.invokevirtual 28, 3) := by decide +kernel
theorem dX4_nextMark_4 : decode cX4_nextMark 4 = .ok (.aload_n 0, 1) := by decide +kernel
theorem dX4_nextMark_5 : decode cX4_nextMark 5 = .ok (.getfield 31, 3) := by decide +kernel
theorem dX4_nextMark_8 : decode cX4_nextMark 8 = .ok (.iconst 1, 1) := by decide +kernel
theorem dX4_nextMark_9 : decode cX4_nextMark 9 = .ok (.if_icmp .ne 7, 3) := by decide +kernel
theorem dX4_nextMark_12 : decode cX4_nextMark 12 = .ok (.iconst 1, 1) := by decide +kernel
theorem dX4_nextMark_13 : decode cX4_nextMark 13 = .ok (.goto 4, 3) := by decide +kernel
theorem dX4_nextMark_16 : decode cX4_nextMark 16 = .ok (.iconst 0, 1) := by decide +kernel
theorem dX4_nextMark_17 : decode cX4_nextMark 17 = .ok (.ireturn, 1) := by decide +kernel
theorem dX4_nextToken_0 : decode cX4_nextToken 0 = .ok (.aload_n 0, 1) := by decide +kernel
theorem dX4_nextToken_1 : decode cX4_nextToken 1 = .ok (.getfield 25, 3) := by decide +kernel
theorem dX4_nextToken_4 : decode cX4_nextToken 4 = .ok (.aload_n 0, 1) := by decide +kernel
theorem dX4_nextToken_5 : decode cX4_nextToken 5 = .ok (.getfield 15, 3) := by decide +kernel
theorem dX4_nextToken_8 : decode cX4_nextToken 8 = .ok (.if_icmp .ge 30, 3) := by decide +kernel
theorem dX4_nextToken_11 : decode cX4_nextToken 11 = .ok (.aload_n 0, 1) := by decide +kernel
theorem dX4_nextToken_12 : decode cX4_nextToken 12 = .ok (.getfield 9, 3) := by decide +kernel
theorem dX4_nextToken_15 : decode cX4_nextToken 15 = .ok (.aload_n 0, 1) := by decide +kernel
theorem dX4_nextToken_16 : decode cX4_nextToken 16 = .ok (.getfield 25, 3) := by decide +kernel
theorem dX4_nextToken_19 : decode cX4_nextToken 19 = .ok (.baload, 1) := by decide +kernel
theorem dX4_nextToken_20 : decode cX4_nextToken 20 = .ok (.bipush 32, 2) := by decide +kernel
theorem dX4_nextToken_22 : decode cX4_nextToken 22 = .ok (.if_icmp .ne 16, 3) := by decide +kernel
theorem dX4_nextToken_25 : decode cX4_nextToken 25 = .ok (.aload_n 0, 1) := by decide +kernel
theorem dX4_nextToken_26 : decode cX4_nextToken 26 = .ok (.dup, 1) := by decide +kernel
theorem dX4_nextToken_27 : decode cX4_nextToken 27 = .ok (.getfield 25, 3) := by decide +kernel
theorem dX4_nextToken_30 : decode cX4_nextToken 30 = .ok (.iconst 1, 1) := by decide +kernel
theorem dX4_nextToken_31 : decode cX4_nextToken 31 = .ok (.iadd, 1) := by decide +kernel
theorem dX4_nextToken_32 : decode cX4_nextToken 32 = .ok (.putfield 25, 3) := by decide +kernel
theorem dX4_nextToken_35 : decode cX4_nextToken 35 = .ok (.goto (-35), 3) := by decide +kernel
theorem dX4_nextToken_38 : decode cX4_nextToken 38 = .ok (.aload_n 0, 1) := by decide +kernel
theorem dX4_nextToken_39 : decode cX4_nextToken 39 = .ok (.aload_n 0, 1) := by decide +kernel
theorem dX4_nextToken_40 : decode cX4_nextToken 40 = .ok (.getfield 25, 3) := by decide +kernel
theorem dX4_nextToken_43 : decode cX4_nextToken 43 = .ok (.putfield 44, 3) := by decide +kernel
theorem dX4_nextToken_46 : decode cX4_nextToken 46 = .ok (.aload_n 0, 1) := by decide +kernel
theorem dX4_nextToken_47 : decode cX4_nextToken 47 = .ok (.getfield 44, 3) := by decide +kernel
theorem dX4_nextToken_50 : decode cX4_nextToken 50 = .ok (.aload_n 0, 1) := by decide +kernel
theorem dX4_nextToken_51 : decode cX4_nextToken 51 = .ok (.getfield 15, 3) := by decide +kernel
theorem dX4_nextToken_54 : decode cX4_nextToken 54 = .ok (.if_icmp .lt 11, 3) := by decide +kernel
theorem dX4_nextToken_57 : decode cX4_nextToken 57 = .ok (.aload_n 0, 1) := by decide +kernel
theorem dX4_nextToken_58 : decode cX4_nextToken 58 = .ok (.iconst 0, 1) := by decide +kernel
theorem dX4_nextToken_59 : decode cX4_nextToken 59 = .ok (.putfield 31, 3) := by decide +kernel
theorem dX4_nextToken_62 : decode cX4_nextToken 62 = .ok (.goto 81, 3) := by decide +kernel
theorem dX4_nextToken_65 : decode cX4_nextToken 65 = .ok (.aload_n 0, 1) := by decide +kernel
theorem dX4_nextToken_66 : decode cX4_nextToken 66 = .ok (.getfield 9, 3) := by decide +kernel
theorem dX4_nextToken_69 : decode cX4_nextToken 69 = .ok (.aload_n 0, 1) := by decide +kernel
theorem dX4_nextToken_70 : decode cX4_nextToken 70 = .ok (.getfield 44, 3) := by decide +kernel
theorem dX4_nextToken_73 : decode cX4_nextToken 73 = .ok (.baload, 1) := by decide +kernel
theorem dX4_nextToken_74 : decode cX4_nextToken 74 = .ok (.invokestatic 75, 3) := by decide +kernel
theorem dX4_nextToken_77 : decode cX4_nextToken 77 = .ok (.ifCond .eq 10, 3) := by decide +kernel
theorem dX4_nextToken_80 : decode cX4_nextToken 80 = .ok (.aload_n 0, 1) := by decide +kernel
theorem dX4_nextToken_81 : decode cX4_nextToken 81 = .ok (.invokevirtual 78, 3) := by decide +kernel
theorem dX4_nextToken_84 : decode cX4_nextToken 84 = .ok (.goto 59, 3) := by decide +kernel
theorem dX4_nextToken_87 : decode cX4_nextToken 87 = .ok (.aload_n 0, 1) := by decide +kernel
theorem dX4_nextToken_88 : decode cX4_nextToken 88 = .ok (.getfield 9, 3) := by decide +kernel
theorem dX4_nextToken_91 : decode cX4_nextToken 91 = .ok (.aload_n 0, 1) := by decide +kernel
theorem dX4_nextToken_92 : decode cX4_nextToken 92 = .ok (.getfield 44, 3) := by decide +kernel
theorem dX4_nextToken_95 : decode cX4_nextToken 95 = .ok (.baload, 1) := by decide +kernel
theorem dX4_nextToken_96 : decode cX4_nextToken 96 = .ok (.invokestatic 81, 3) := by decide +kernel
theorem dX4_nextToken_99 : decode cX4_nextToken 99 = .ok (.ifCond .eq 10, 3) := by decide +kernel
theorem dX4_nextToken_102 : decode cX4_nextToken 102 = .ok (.aload_n 0, 1) := by decide +kernel
theorem dX4_nextToken_103 : decode cX4_nextToken 103 = .ok (.invokevirtual 84, 3) := by decide +kernel
theorem dX4_nextToken_106 : decode cX4_nextToken 106 = .ok (.goto 37, 3) := by decide +kernel
theorem dX4_nextToken_109 : decode cX4_nextToken 109 = .ok (.aload_n 0, 1) := by decide +kernel
theorem dX4_nextToken_110 : decode cX4_nextToken 110 = .ok (.aload_n 0, 1) := by decide +kernel
theorem dX4_nextToken_111 : decode cX4_nextToken 111 = .ok (.getfield 9, 3) := by decide +kernel
theorem dX4_nextToken_114 : decode cX4_nextToken 114 = .ok (.aload_n 0, 1) := by decide +kernel
theorem dX4_nextToken_115 : decode cX4_nextToken 115 = .ok (.getfield 44, 3) := by decide +kernel
theorem dX4_nextToken_118 : decode cX4_nextToken 118 = .ok (.baload, 1) := by decide +kernel
theorem dX4_nextToken_119 : decode cX4_nextToken 119 = .ok (.bipush 59, 2) := by decide +kernel
theorem dX4_nextToken_121 : decode cX4_nextToken 121 = .ok (.if_icmp .ne 7, 3) := by decide +kernel
theorem dX4_nextToken_124 : decode cX4_nextToken 124 = .ok (.iconst 1, 1) := by decide +kernel
theorem dX4_nextToken_125 : decode cX4_nextToken 125 = .ok (.goto 5, 3) := by decide +kernel
theorem dX4_nextToken_128 : decode cX4_nextToken 128 = .ok (.bipush 6, 2) := by decide +kernel
theorem dX4_nextToken_130 : decode cX4_nextToken 130 = .ok (.putfield 31, 3) := by decide +kernel
theorem dX4_nextToken_133 : decode cX4_nextToken 133 = .ok (.aload_n 0, 1) := by decide +kernel
theorem dX4_nextToken_134 : decode cX4_nextToken 134 = .ok (.dup, 1) := by decide +kernel
theorem dX4_nextToken_135 : decode cX4_nextToken 135 = .ok (.getfield 25, 3) := by decide +kernel
theorem dX4_nextToken_138 : decode cX4_nextToken 138 = .ok (.iconst 1, 1) := by decide +kernel
theorem dX4_nextToken_139 : decode cX4_nextToken 139 = .ok (.iadd, 1) := by decide +kernel
theorem dX4_nextToken_140 : decode cX4_nextToken 140 = .ok (.putfield 25, 3) := by decide +kernel
theorem dX4_nextToken_143 : decode cX4_nextToken 143 = .ok (.return_, 1) := by decide +kernel
theorem dX4_takeWord_0 : decode cX4_takeWord 0 = .ok (.aload_n 0, 1) := by decide +kernel
theorem dX4_takeWord_1 : decode cX4_takeWord 1 = .ok (.getfield 25, 3) := by decide +kernel
theorem dX4_takeWord_4 : decode cX4_takeWord 4 = .ok (.aload_n 0, 1) := by decide +kernel
theorem dX4_takeWord_5 : decode cX4_takeWord 5 = .ok (.getfield 15, 3) := by decide +kernel
theorem dX4_takeWord_8 : decode cX4_takeWord 8 = .ok (.if_icmp .ge 31, 3) := by decide +kernel
theorem dX4_takeWord_11 : decode cX4_takeWord 11 = .ok (.aload_n 0, 1) := by decide +kernel
theorem dX4_takeWord_12 : decode cX4_takeWord 12 = .ok (.getfield 9, 3) := by decide +kernel
theorem dX4_takeWord_15 : decode cX4_takeWord 15 = .ok (.aload_n 0, 1) := by decide +kernel
theorem dX4_takeWord_16 : decode cX4_takeWord 16 = .ok (.getfield 25, 3) := by decide +kernel
theorem dX4_takeWord_19 : decode cX4_takeWord 19 = .ok (.baload, 1) := by decide +kernel
theorem dX4_takeWord_20 : decode cX4_takeWord 20 = .ok (.invokestatic 75, 3) := by decide +kernel
theorem dX4_takeWord_23 : decode cX4_takeWord 23 = .ok (.ifCond .eq 16, 3) := by decide +kernel
theorem dX4_takeWord_26 : decode cX4_takeWord 26 = .ok (.aload_n 0, 1) := by decide +kernel
theorem dX4_takeWord_27 : decode cX4_takeWord 27 = .ok (.dup, 1) := by decide +kernel
theorem dX4_takeWord_28 : decode cX4_takeWord 28 = .ok (.getfield 25, 3) := by decide +kernel
theorem dX4_takeWord_31 : decode cX4_takeWord 31 = .ok (.iconst 1, 1) := by decide +kernel
theorem dX4_takeWord_32 : decode cX4_takeWord 32 = .ok (.iadd, 1) := by decide +kernel
theorem dX4_takeWord_33 : decode cX4_takeWord 33 = .ok (.putfield 25, 3) := by decide +kernel
theorem dX4_takeWord_36 : decode cX4_takeWord 36 = .ok (.goto (-36), 3) := by decide +kernel
theorem dX4_takeWord_39 : decode cX4_takeWord 39 = .ok (.aload_n 0, 1) := by decide +kernel
theorem dX4_takeWord_40 : decode cX4_takeWord 40 = .ok (.ldc 87, 2) := by decide +kernel
theorem dX4_takeWord_42 : decode cX4_takeWord 42 = .ok (.invokevirtual 89, 3) := by decide +kernel
theorem dX4_takeWord_45 : decode cX4_takeWord 45 = .ok (.ifCond .eq 11, 3) := by decide +kernel
theorem dX4_takeWord_48 : decode cX4_takeWord 48 = .ok (.aload_n 0, 1) := by decide +kernel
theorem dX4_takeWord_49 : decode cX4_takeWord 49 = .ok (.iconst 3, 1) := by decide +kernel
theorem dX4_takeWord_50 : decode cX4_takeWord 50 = .ok (.putfield 31, 3) := by decide +kernel
theorem dX4_takeWord_53 : decode cX4_takeWord 53 = .ok (.goto 39, 3) := by decide +kernel
theorem dX4_takeWord_56 : decode cX4_takeWord 56 = .ok (.aload_n 0, 1) := by decide +kernel
theorem dX4_takeWord_57 : decode cX4_takeWord 57 = .ok (.ldc 93, 2) := by decide +kernel
theorem dX4_takeWord_59 : decode cX4_takeWord 59 = .ok (.invokevirtual 89, 3) := by decide +kernel
theorem dX4_takeWord_62 : decode cX4_takeWord 62 = .ok (.ifCond .eq 11, 3) := by decide +kernel
theorem dX4_takeWord_65 : decode cX4_takeWord 65 = .ok (.aload_n 0, 1) := by decide +kernel
theorem dX4_takeWord_66 : decode cX4_takeWord 66 = .ok (.iconst 4, 1) := by decide +kernel
theorem dX4_takeWord_67 : decode cX4_takeWord 67 = .ok (.putfield 31, 3) := by decide +kernel
theorem dX4_takeWord_70 : decode cX4_takeWord 70 = .ok (.goto 22, 3) := by decide +kernel
theorem dX4_takeWord_73 : decode cX4_takeWord 73 = .ok (.aload_n 0, 1) := by decide +kernel
theorem dX4_takeWord_74 : decode cX4_takeWord 74 = .ok (.aload_n 0, 1) := by decide +kernel
theorem dX4_takeWord_75 : decode cX4_takeWord 75 = .ok (.ldc 95, 2) := by decide +kernel
theorem dX4_takeWord_77 : decode cX4_takeWord 77 = .ok (.invokevirtual 89, 3) := by decide +kernel
theorem dX4_takeWord_80 : decode cX4_takeWord 80 = .ok (.ifCond .eq 7, 3) := by decide +kernel
end
section
theorem dX4_takeWord_83 : decode cX4_takeWord 83 = .ok (.iconst 5, 1) := by decide +kernel
theorem dX4_takeWord_84 : decode cX4_takeWord 84 = .ok (.goto 5, 3) := by decide +kernel
theorem dX4_takeWord_87 : decode cX4_takeWord 87 = .ok (.bipush 6, 2) := by decide +kernel
theorem dX4_takeWord_89 : decode cX4_takeWord 89 = .ok (.putfield 31, 3) := by decide +kernel
theorem dX4_takeWord_92 : decode cX4_takeWord 92 = .ok (.return_, 1) := by decide +kernel
theorem dX4_takeFigures_0 : decode cX4_takeFigures 0 = .ok (.aload_n 0, 1) := by decide +kernel
theorem dX4_takeFigures_1 : decode cX4_takeFigures 1 = .ok (.iconst 0, 1) := by decide +kernel
theorem dX4_takeFigures_2 : decode cX4_takeFigures 2 = .ok (.putfield 51, 3) := by decide +kernel
theorem dX4_takeFigures_5 : decode cX4_takeFigures 5 = .ok (.aload_n 0, 1) := by decide +kernel
theorem dX4_takeFigures_6 : decode cX4_takeFigures 6 = .ok (.getfield 25, 3) := by decide +kernel
theorem dX4_takeFigures_9 : decode cX4_takeFigures 9 = .ok (.aload_n 0, 1) := by decide +kernel
theorem dX4_takeFigures_10 : decode cX4_takeFigures 10 = .ok (.getfield 15, 3) := by decide +kernel
theorem dX4_takeFigures_13 : decode cX4_takeFigures 13 = .ok (.if_icmp .ge 68, 3) := by decide +kernel
theorem dX4_takeFigures_16 : decode cX4_takeFigures 16 = .ok (.aload_n 0, 1) := by decide +kernel
theorem dX4_takeFigures_17 : decode cX4_takeFigures 17 = .ok (.getfield 9, 3) := by decide +kernel
theorem dX4_takeFigures_20 : decode cX4_takeFigures 20 = .ok (.aload_n 0, 1) := by decide +kernel
theorem dX4_takeFigures_21 : decode cX4_takeFigures 21 = .ok (.getfield 25, 3) := by decide +kernel
theorem dX4_takeFigures_24 : decode cX4_takeFigures 24 = .ok (.baload, 1) := by decide +kernel
theorem dX4_takeFigures_25 : decode cX4_takeFigures 25 = .ok (.invokestatic 81, 3) := by decide +kernel
theorem dX4_takeFigures_28 : decode cX4_takeFigures 28 = .ok (.ifCond .eq 53, 3) := by decide +kernel
theorem dX4_takeFigures_31 : decode cX4_takeFigures 31 = .ok (.aload_n 0, 1) := by decide +kernel
theorem dX4_takeFigures_32 : decode cX4_takeFigures 32 = .ok (.getfield 25, 3) := by decide +kernel
theorem dX4_takeFigures_35 : decode cX4_takeFigures 35 = .ok (.aload_n 0, 1) := by decide +kernel
theorem dX4_takeFigures_36 : decode cX4_takeFigures 36 = .ok (.getfield 44, 3) := by decide +kernel
theorem dX4_takeFigures_39 : decode cX4_takeFigures 39 = .ok (.isub, 1) := by decide +kernel
theorem dX4_takeFigures_40 : decode cX4_takeFigures 40 = .ok (.iconst 2, 1) := by decide +kernel
theorem dX4_takeFigures_41 : decode cX4_takeFigures 41 = .ok (.if_icmp .ge 27, 3) := by decide +kernel
theorem dX4_takeFigures_44 : decode cX4_takeFigures 44 = .ok (.aload_n 0, 1) := by decide +kernel
theorem dX4_takeFigures_45 : decode cX4_takeFigures 45 = .ok (.bipush 10, 2) := by decide +kernel
theorem dX4_takeFigures_47 : decode cX4_takeFigures 47 = .ok (.aload_n 0, 1) := by decide +kernel
theorem dX4_takeFigures_48 : decode cX4_takeFigures 48 = .ok (.getfield 51, 3) := by decide +kernel
theorem dX4_takeFigures_51 : decode cX4_takeFigures 51 = .ok (.imul, 1) := by decide +kernel
theorem dX4_takeFigures_52 : decode cX4_takeFigures 52 = .ok (.aload_n 0, 1) := by decide +kernel
theorem dX4_takeFigures_53 : decode cX4_takeFigures 53 = .ok (.getfield 9, 3) := by decide +kernel
theorem dX4_takeFigures_56 : decode cX4_takeFigures 56 = .ok (.aload_n 0, 1) := by decide +kernel
theorem dX4_takeFigures_57 : decode cX4_takeFigures 57 = .ok (.getfield 25, 3) := by decide +kernel
theorem dX4_takeFigures_60 : decode cX4_takeFigures 60 = .ok (.baload, 1) := by decide +kernel
theorem dX4_takeFigures_61 : decode cX4_takeFigures 61 = .ok (.iadd, 1) := by decide +kernel
theorem dX4_takeFigures_62 : decode cX4_takeFigures 62 = .ok (.bipush 48, 2) := by decide +kernel
theorem dX4_takeFigures_64 : decode cX4_takeFigures 64 = .ok (.isub, 1) := by decide +kernel
theorem dX4_takeFigures_65 : decode cX4_takeFigures 65 = .ok (.putfield 51, 3) := by decide +kernel
theorem dX4_takeFigures_68 : decode cX4_takeFigures 68 = .ok (.aload_n 0, 1) := by decide +kernel
theorem dX4_takeFigures_69 : decode cX4_takeFigures 69 = .ok (.dup, 1) := by decide +kernel
theorem dX4_takeFigures_70 : decode cX4_takeFigures 70 = .ok (.getfield 25, 3) := by decide +kernel
theorem dX4_takeFigures_73 : decode cX4_takeFigures 73 = .ok (.iconst 1, 1) := by decide +kernel
theorem dX4_takeFigures_74 : decode cX4_takeFigures 74 = .ok (.iadd, 1) := by decide +kernel
theorem dX4_takeFigures_75 : decode cX4_takeFigures 75 = .ok (.putfield 25, 3) := by decide +kernel
theorem dX4_takeFigures_78 : decode cX4_takeFigures 78 = .ok (.goto (-73), 3) := by decide +kernel
theorem dX4_takeFigures_81 : decode cX4_takeFigures 81 = .ok (.aload_n 0, 1) := by decide +kernel
theorem dX4_takeFigures_82 : decode cX4_takeFigures 82 = .ok (.aload_n 0, 1) := by decide +kernel
theorem dX4_takeFigures_83 : decode cX4_takeFigures 83 = .ok (.getfield 25, 3) := by decide +kernel
theorem dX4_takeFigures_86 : decode cX4_takeFigures 86 = .ok (.aload_n 0, 1) := by decide +kernel
theorem dX4_takeFigures_87 : decode cX4_takeFigures 87 = .ok (.getfield 44, 3) := by decide +kernel
theorem dX4_takeFigures_90 : decode cX4_takeFigures 90 = .ok (.isub, 1) := by decide +kernel
theorem dX4_takeFigures_91 : decode cX4_takeFigures 91 = .ok (.iconst 2, 1) := by decide +kernel
theorem dX4_takeFigures_92 : decode cX4_takeFigures 92 = .ok (.if_icmp .gt 7, 3) := by decide +kernel
theorem dX4_takeFigures_95 : decode cX4_takeFigures 95 = .ok (.iconst 2, 1) := by decide +kernel
theorem dX4_takeFigures_96 : decode cX4_takeFigures 96 = .ok (.goto 5, 3) := by decide +kernel
theorem dX4_takeFigures_99 : decode cX4_takeFigures 99 = .ok (.bipush 6, 2) := by decide +kernel
theorem dX4_takeFigures_101 : decode cX4_takeFigures 101 = .ok (.putfield 31, 3) := by decide +kernel
theorem dX4_takeFigures_104 : decode cX4_takeFigures 104 = .ok (.return_, 1) := by decide +kernel
theorem dX4_isWord_0 : decode cX4_isWord 0 = .ok (.aload_n 0, 1) := by decide +kernel
theorem dX4_isWord_1 : decode cX4_isWord 1 = .ok (.getfield 25, 3) := by decide +kernel
theorem dX4_isWord_4 : decode cX4_isWord 4 = .ok (.aload_n 0, 1) := by decide +kernel
theorem dX4_isWord_5 : decode cX4_isWord 5 = .ok (.getfield 44, 3) := by decide +kernel
theorem dX4_isWord_8 : decode cX4_isWord 8 = .ok (.isub, 1) := by decide +kernel
theorem dX4_isWord_9 : decode cX4_isWord 9 = .ok (.aload_n 1, 1) := by decide +kernel
theorem dX4_isWord_10 : decode cX4_isWord 10 = .ok (.invokevirtual 97, 3) := by decide +kernel
theorem dX4_isWord_13 : decode cX4_isWord 13 = .ok (.if_icmp .eq 5, 3) := by decide +kernel
theorem dX4_isWord_16 : decode cX4_isWord 16 = .ok (.iconst 0, 1) := by decide +kernel
theorem dX4_isWord_17 : decode cX4_isWord 17 = .ok (.ireturn, 1) := by decide +kernel
theorem dX4_isWord_18 : decode cX4_isWord 18 = .ok (.iconst 0, 1) := by decide +kernel
theorem dX4_isWord_19 : decode cX4_isWord 19 = .ok (.istore_n 2, 1) := by decide +kernel
theorem dX4_isWord_20 : decode cX4_isWord 20 = .ok (.iload_n 2, 1) := by decide +kernel
theorem dX4_isWord_21 : decode cX4_isWord 21 = .ok (.aload_n 1, 1) := by decide +kernel
theorem dX4_isWord_22 : decode cX4_isWord 22 = .ok (.invokevirtual 97, 3) := by decide +kernel
theorem dX4_isWord_25 : decode cX4_isWord 25 = .ok (.if_icmp .ge 30, 3) := by decide +kernel
theorem dX4_isWord_28 : decode cX4_isWord 28 = .ok (.aload_n 0, 1) := by decide +kernel
theorem dX4_isWord_29 : decode cX4_isWord 29 = .ok (.getfield 9, 3) := by decide +kernel
theorem dX4_isWord_32 : decode cX4_isWord 32 = .ok (.aload_n 0, 1) := by decide +kernel
theorem dX4_isWord_33 : decode cX4_isWord 33 = .ok (.getfield 44, 3) := by decide +kernel
theorem dX4_isWord_36 : decode cX4_isWord 36 = .ok (.iload_n 2, 1) := by decide +kernel
theorem dX4_isWord_37 : decode cX4_isWord 37 = .ok (.iadd, 1) := by decide +kernel
theorem dX4_isWord_38 : decode cX4_isWord 38 = .ok (.baload, 1) := by decide +kernel
theorem dX4_isWord_39 : decode cX4_isWord 39 = .ok (.aload_n 1, 1) := by decide +kernel
theorem dX4_isWord_40 : decode cX4_isWord 40 = .ok (.iload_n 2, 1) := by decide +kernel
theorem dX4_isWord_41 : decode cX4_isWord 41 = .ok (.invokevirtual 102, 3) := by decide +kernel
theorem dX4_isWord_44 : decode cX4_isWord 44 = .ok (.if_icmp .eq 5, 3) := by decide +kernel
theorem dX4_isWord_47 : decode cX4_isWord 47 = .ok (.iconst 0, 1) := by decide +kernel
theorem dX4_isWord_48 : decode cX4_isWord 48 = .ok (.ireturn, 1) := by decide +kernel
theorem dX4_isWord_49 : decode cX4_isWord 49 = .ok (.iinc 2 1, 3) := by decide +kernel
theorem dX4_isWord_52 : decode cX4_isWord 52 = .ok (.goto (-32), 3) := by decide +kernel
theorem dX4_isWord_55 : decode cX4_isWord 55 = .ok (.iconst 1, 1) := by decide +kernel
theorem dX4_isWord_56 : decode cX4_isWord 56 = .ok (.ireturn, 1) := by decide +kernel
theorem dX4_isLetter_0 : decode cX4_isLetter 0 = .ok (.iload_n 0, 1) := by decide +kernel
theorem dX4_isLetter_1 : decode cX4_isLetter 1 = .ok (.bipush 97, 2) := by decide +kernel
theorem dX4_isLetter_3 : decode cX4_isLetter 3 = .ok (.if_icmp .lt 13, 3) := by decide +kernel
theorem dX4_isLetter_6 : decode cX4_isLetter 6 = .ok (.iload_n 0, 1) := by decide +kernel
theorem dX4_isLetter_7 : decode cX4_isLetter 7 = .ok (.bipush 122, 2) := by decide +kernel
theorem dX4_isLetter_9 : decode cX4_isLetter 9 = .ok (.if_icmp .gt 7, 3) := by decide +kernel
theorem dX4_isLetter_12 : decode cX4_isLetter 12 = .ok (.iconst 1, 1) := by decide +kernel
theorem dX4_isLetter_13 : decode cX4_isLetter 13 = .ok (.goto 4, 3) := by decide +kernel
theorem dX4_isLetter_16 : decode cX4_isLetter 16 = .ok (.iconst 0, 1) := by decide +kernel
theorem dX4_isLetter_17 : decode cX4_isLetter 17 = .ok (.ireturn, 1) := by decide +kernel
theorem dX4_isFigure_0 : decode cX4_isFigure 0 = .ok (.iload_n 0, 1) := by decide +kernel
theorem dX4_isFigure_1 : decode cX4_isFigure 1 = .ok (.bipush 48, 2) := by decide +kernel
theorem dX4_isFigure_3 : decode cX4_isFigure 3 = .ok (.if_icmp .lt 13, 3) := by decide +kernel
theorem dX4_isFigure_6 : decode cX4_isFigure 6 = .ok (.iload_n 0, 1) := by decide +kernel
theorem dX4_isFigure_7 : decode cX4_isFigure 7 = .ok (.bipush 57, 2) := by decide +kernel
theorem dX4_isFigure_9 : decode cX4_isFigure 9 = .ok (.if_icmp .gt 7, 3) := by decide +kernel
theorem dX4_isFigure_12 : decode cX4_isFigure 12 = .ok (.iconst 1, 1) := by decide +kernel
theorem dX4_isFigure_13 : decode cX4_isFigure 13 = .ok (.goto 4, 3) := by decide +kernel
theorem dX4_isFigure_16 : decode cX4_isFigure 16 = .ok (.iconst 0, 1) := by decide +kernel
theorem dX4_isFigure_17 : decode cX4_isFigure 17 = .ok (.ireturn, 1) := by decide +kernel
theorem dX5_init_0 : decode cX5_init 0 = .ok (.aload_n 0, 1) := by decide +kernel
theorem dX5_init_1 : decode cX5_init 1 = .ok (.invokespecial 1, 3) := by decide +kernel
theorem dX5_init_4 : decode cX5_init 4 = .ok (.aload_n 0, 1) := by decide +kernel
theorem dX5_init_5 : decode cX5_init 5 = .ok (.new 7, 3) := by decide +kernel
theorem dX5_init_8 : decode cX5_init 8 = .ok (.dup, 1) := by decide +kernel
theorem dX5_init_9 : decode cX5_init 9 = .ok (.invokespecial 9, 3) := by decide +kernel
theorem dX5_init_12 : decode cX5_init 12 = .ok (.putfield 10, 3) := by decide +kernel
theorem dX5_init_15 : decode cX5_init 15 = .ok (.aload_n 0, 1) := by decide +kernel
theorem dX5_init_16 : decode cX5_init 16 = .ok (.iconst 2, 1) := by decide +kernel
theorem dX5_init_17 : decode cX5_init 17 = .ok (.anewarray 7, 3) := by decide +kernel
theorem dX5_init_20 : decode cX5_init 20 = .ok (.putfield 16, 3) := by decide +kernel
theorem dX5_init_23 : decode cX5_init 23 = .ok (.iconst 0, 1) := by decide +kernel
theorem dX5_init_24 : decode cX5_init 24 = .ok (.istore_n 1, 1) := by decide +kernel
theorem dX5_init_25 : decode cX5_init 25 = .ok (.iload_n 1, 1) := by decide +kernel
theorem dX5_init_26 : decode cX5_init 26 = .ok (.iconst 2, 1) := by decide +kernel
theorem dX5_init_27 : decode cX5_init 27 = .ok (.if_icmp .ge 22, 3) := by decide +kernel
theorem dX5_init_30 : decode cX5_init 30 = .ok (.aload_n 0, 1) := by decide +kernel
theorem dX5_init_31 : decode cX5_init 31 = .ok (.getfield 16, 3) := by decide +kernel
theorem dX5_init_34 : decode cX5_init 34 = .ok (.iload_n 1, 1) := by decide +kernel
theorem dX5_init_35 : decode cX5_init 35 = .ok (.new 7, 3) := by decide +kernel
theorem dX5_init_38 : decode cX5_init 38 = .ok (.dup, 1) := by decide +kernel
theorem dX5_init_39 : decode cX5_init 39 = .ok (.invokespecial 9, 3) := by decide +kernel
theorem dX5_init_42 : decode cX5_init 42 = .ok (.aastore, 1) := by decide +kernel
theorem dX5_init_43 : decode cX5_init 43 = .ok (.iinc 1 1, 3) := by decide +kernel
theorem dX5_init_46 : decode cX5_init 46 = .ok (.goto (-21), 3) := by decide +kernel
theorem dX5_init_49 : decode cX5_init 49 = .ok (.aload_n 0, 1) := by decide +kernel
theorem dX5_init_50 : decode cX5_init 50 = .ok (.iconst 2, 1) := by decide +kernel
theorem dX5_init_51 : decode cX5_init 51 = .ok (.newarray .boolean, 2) := by decide +kernel
theorem dX5_init_53 : decode cX5_init 53 = .ok (.putfield 20, 3) := by decide +kernel
theorem dX5_init_56 : decode cX5_init 56 = .ok (.aload_n 0, 1) := by decide +kernel
theorem dX5_init_57 : decode cX5_init 57 = .ok (.new 24, 3) := by decide +kernel
theorem dX5_init_60 : decode cX5_init 60 = .ok (.dup, 1) := by decide +kernel
theorem dX5_init_61 : decode cX5_init 61 = .ok (.invokespecial 26, 3) := by decide +kernel
theorem dX5_init_64 : decode cX5_init 64 = .ok (.putfield 27, 3) := by decide +kernel
theorem dX5_init_67 : decode cX5_init 67 = .ok (.aload_n 0, 1) := by decide +kernel
theorem dX5_init_68 : decode cX5_init 68 = .ok (.new 31, 3) := by decide +kernel
theorem dX5_init_71 : decode cX5_init 71 = .ok (.dup, 1) := by decide +kernel
theorem dX5_init_72 : decode cX5_init 72 = .ok (.invokespecial 33, 3) := by decide +kernel
theorem dX5_init_75 : decode cX5_init 75 = .ok (.putfield 34, 3) := by decide +kernel
theorem dX5_init_78 : decode cX5_init 78 = .ok (.aload_n 0, 1) := by decide +kernel
theorem dX5_init_79 : decode cX5_init 79 = .ok (.bipush 6, 2) := by decide +kernel
theorem dX5_init_81 : decode cX5_init 81 = .ok (.newarray .int, 2) := by decide +kernel
theorem dX5_init_83 : decode cX5_init 83 = .ok (.putfield 38, 3) := by decide +kernel
theorem dX5_init_86 : decode cX5_init 86 = .ok (.aload_n 0, 1) := by decide +kernel
theorem dX5_init_87 : decode cX5_init 87 = .ok (.iconst 3, 1) := by decide +kernel
theorem dX5_init_88 : decode cX5_init 88 = .ok (.newarray .int, 2) := by decide +kernel
theorem dX5_init_90 : decode cX5_init 90 = .ok (.putfield 42, 3) := by decide +kernel
theorem dX5_init_93 : decode cX5_init 93 = .ok (.aload_n 0, 1) := by decide +kernel
theorem dX5_init_94 : decode cX5_init 94 = .ok (.lconst 0, 1) := by decide +kernel
theorem dX5_init_95 : decode cX5_init 95 = .ok (.putfield 45, 3) := by decide +kernel
theorem dX5_init_98 : decode cX5_init 98 = .ok (.aload_n 0, 1) := by decide +kernel
theorem dX5_init_99 : decode cX5_init 99 = .ok (.lconst 1, 1) := by decide +kernel
theorem dX5_init_100 : decode cX5_init 100 = .ok (.putfield 49, 3) := by decide +kernel
theorem dX5_init_103 : decode cX5_init 103 = .ok (.return_, 1) := by decide +kernel
theorem dX5_table_0 : decode cX5_table 0 = .ok (.iload_n 1, 1) := by decide +kernel
theorem dX5_table_1 : decode cX5_table 1 = .ok (.invokestatic 52, 3) := by decide +kernel
theorem dX5_table_4 : decode cX5_table 4 = .ok (.ifCond .ne 10, 3) := by decide +kernel
theorem dX5_table_7 : decode cX5_table 7 = .ok (.aload_n 0, 1) := by decide +kernel
theorem dX5_table_8 : decode cX5_table 8 = .ok (.bipush (-2), 2) := by decide +kernel
theorem dX5_table_10 : decode cX5_table 10 = .ok (.invokevirtual 56, 3) := by decide +kernel
theorem dX5_table_13 : decode cX5_table 13 = .ok (.ireturn, 1) := by decide +kernel
theorem dX5_table_14 : decode cX5_table 14 = .ok (.aload_n 0, 1) := by decide +kernel
theorem dX5_table_15 : decode cX5_table 15 = .ok (.getfield 10, 3) := by decide +kernel
theorem dX5_table_18 : decode cX5_table 18 = .ok (.getfield 60, 3) := by decide +kernel
theorem dX5_table_21 : decode cX5_table 21 = .ok (.getfield 63, 3) := by decide +kernel
theorem dX5_table_24 : decode cX5_table 24 = .ok (.istore_n 2, 1) := by decide +kernel
theorem dX5_table_25 : decode cX5_table 25 = .ok (.aload_n 0, 1) := by decide +kernel
theorem dX5_table_26 : decode cX5_table 26 = .ok (.getfield 34, 3) := by decide +kernel
theorem dX5_table_29 : decode cX5_table 29 = .ok (.iload_n 1, 1) := by decide +kernel
theorem dX5_table_30 : decode cX5_table 30 = .ok (.invokevirtual 67, 3) := by decide +kernel
theorem dX5_table_33 : decode cX5_table 33 = .ok (.aload_n 0, 1) := by decide +kernel
theorem dX5_table_34 : decode cX5_table 34 = .ok (.getfield 10, 3) := by decide +kernel
theorem dX5_table_37 : decode cX5_table 37 = .ok (.aload_n 0, 1) := by decide +kernel
theorem dX5_table_38 : decode cX5_table 38 = .ok (.getfield 34, 3) := by decide +kernel
theorem dX5_table_41 : decode cX5_table 41 = .ok (.invokevirtual 71, 3) := by decide +kernel
theorem dX5_table_44 : decode cX5_table 44 = .ok (.iload_n 2, 1) := by decide +kernel
theorem dX5_table_45 : decode cX5_table 45 = .ok (.ireturn, 1) := by decide +kernel
theorem dX5_child_0 : decode cX5_child 0 = .ok (.iload_n 1, 1) := by decide +kernel
theorem dX5_child_1 : decode cX5_child 1 = .ok (.iconst 0, 1) := by decide +kernel
theorem dX5_child_2 : decode cX5_child 2 = .ok (.iconst 5, 1) := by decide +kernel
theorem dX5_child_3 : decode cX5_child 3 = .ok (.invokestatic 75, 3) := by decide +kernel
theorem dX5_child_6 : decode cX5_child 6 = .ok (.ifCond .eq 35, 3) := by decide +kernel
theorem dX5_child_9 : decode cX5_child 9 = .ok (.iload_n 2, 1) := by decide +kernel
theorem dX5_child_10 : decode cX5_child 10 = .ok (.invokestatic 52, 3) := by decide +kernel
theorem dX5_child_13 : decode cX5_child 13 = .ok (.ifCond .eq 28, 3) := by decide +kernel
theorem dX5_child_16 : decode cX5_child 16 = .ok (.iload_n 3, 1) := by decide +kernel
theorem dX5_child_17 : decode cX5_child 17 = .ok (.iconst 0, 1) := by decide +kernel
theorem dX5_child_18 : decode cX5_child 18 = .ok (.bipush 20, 2) := by decide +kernel
theorem dX5_child_20 : decode cX5_child 20 = .ok (.invokestatic 75, 3) := by decide +kernel
theorem dX5_child_23 : decode cX5_child 23 = .ok (.ifCond .eq 18, 3) := by decide +kernel
theorem dX5_child_26 : decode cX5_child 26 = .ok (.iload 4, 2) := by decide +kernel
theorem dX5_child_28 : decode cX5_child 28 = .ok (.iconst 0, 1) := by decide +kernel
theorem dX5_child_29 : decode cX5_child 29 = .ok (.bipush 30, 2) := by decide +kernel
theorem dX5_child_31 : decode cX5_child 31 = .ok (.invokestatic 75, 3) := by decide +kernel
theorem dX5_child_34 : decode cX5_child 34 = .ok (.ifCond .eq 7, 3) := by decide +kernel
theorem dX5_child_37 : decode cX5_child 37 = .ok (.iconst 1, 1) := by decide +kernel
theorem dX5_child_38 : decode cX5_child 38 = .ok (.goto 4, 3) := by decide +kernel
theorem dX5_child_41 : decode cX5_child 41 = .ok (.iconst 0, 1) := by decide +kernel
theorem dX5_child_42 : decode cX5_child 42 = .ok (.istore 5, 2) := by decide +kernel
theorem dX5_child_44 : decode cX5_child 44 = .ok (.iload 5, 2) := by decide +kernel
theorem dX5_child_46 : decode cX5_child 46 = .ok (.ifCond .ne 10, 3) := by decide +kernel
theorem dX5_child_49 : decode cX5_child 49 = .ok (.aload_n 0, 1) := by decide +kernel
theorem dX5_child_50 : decode cX5_child 50 = .ok (.bipush (-2), 2) := by decide +kernel
theorem dX5_child_52 : decode cX5_child 52 = .ok (.invokevirtual 56, 3) := by decide +kernel
theorem dX5_child_55 : decode cX5_child 55 = .ok (.ireturn, 1) := by decide +kernel
theorem dX5_child_56 : decode cX5_child 56 = .ok (.aload_n 0, 1) := by decide +kernel
theorem dX5_child_57 : decode cX5_child 57 = .ok (.getfield 10, 3) := by decide +kernel
theorem dX5_child_60 : decode cX5_child 60 = .ok (.getfield 60, 3) := by decide +kernel
theorem dX5_child_63 : decode cX5_child 63 = .ok (.iload_n 2, 1) := by decide +kernel
theorem dX5_child_64 : decode cX5_child 64 = .ok (.invokevirtual 79, 3) := by decide +kernel
theorem dX5_child_67 : decode cX5_child 67 = .ok (.iconst (-1), 1) := by decide +kernel
theorem dX5_child_68 : decode cX5_child 68 = .ok (.if_icmp .eq 10, 3) := by decide +kernel
theorem dX5_child_71 : decode cX5_child 71 = .ok (.aload_n 0, 1) := by decide +kernel
theorem dX5_child_72 : decode cX5_child 72 = .ok (.bipush (-3), 2) := by decide +kernel
theorem dX5_child_74 : decode cX5_child 74 = .ok (.invokevirtual 56, 3) := by decide +kernel
theorem dX5_child_77 : decode cX5_child 77 = .ok (.ireturn, 1) := by decide +kernel
theorem dX5_child_78 : decode cX5_child 78 = .ok (.aload_n 0, 1) := by decide +kernel
theorem dX5_child_79 : decode cX5_child 79 = .ok (.getfield 10, 3) := by decide +kernel
theorem dX5_child_82 : decode cX5_child 82 = .ok (.getfield 60, 3) := by decide +kernel
theorem dX5_child_85 : decode cX5_child 85 = .ok (.getfield 63, 3) := by decide +kernel
theorem dX5_child_88 : decode cX5_child 88 = .ok (.bipush 6, 2) := by decide +kernel
theorem dX5_child_90 : decode cX5_child 90 = .ok (.if_icmp .lt 10, 3) := by decide +kernel
theorem dX5_child_93 : decode cX5_child 93 = .ok (.aload_n 0, 1) := by decide +kernel
theorem dX5_child_94 : decode cX5_child 94 = .ok (.bipush (-4), 2) := by decide +kernel
theorem dX5_child_96 : decode cX5_child 96 = .ok (.invokevirtual 56, 3) := by decide +kernel
theorem dX5_child_99 : decode cX5_child 99 = .ok (.ireturn, 1) := by decide +kernel
theorem dX5_child_100 : decode cX5_child 100 = .ok (.aload_n 0, 1) := by decide +kernel
theorem dX5_child_101 : decode cX5_child 101 = .ok (.getfield 10, 3) := by decide +kernel
theorem dX5_child_104 : decode cX5_child 104 = .ok (.getfield 82, 3) := by decide +kernel
theorem dX5_child_107 : decode cX5_child 107 = .ok (.invokevirtual 86, 3) := by decide +kernel
theorem dX5_child_110 : decode cX5_child 110 = .ok (.aload_n 0, 1) := by decide +kernel
theorem dX5_child_111 : decode cX5_child 111 = .ok (.getfield 10, 3) := by decide +kernel
theorem dX5_child_114 : decode cX5_child 114 = .ok (.getfield 60, 3) := by decide +kernel
theorem dX5_child_117 : decode cX5_child 117 = .ok (.iload_n 1, 1) := by decide +kernel
theorem dX5_child_118 : decode cX5_child 118 = .ok (.iload_n 2, 1) := by decide +kernel
theorem dX5_child_119 : decode cX5_child 119 = .ok (.iload_n 3, 1) := by decide +kernel
theorem dX5_child_120 : decode cX5_child 120 = .ok (.iload 4, 2) := by decide +kernel
theorem dX5_child_122 : decode cX5_child 122 = .ok (.invokevirtual 91, 3) := by decide +kernel
theorem dX5_child_125 : decode cX5_child 125 = .ok (.ireturn, 1) := by decide +kernel
theorem dX5_type_0 : decode cX5_type 0 = .ok (.iload_n 1, 1) := by decide +kernel
theorem dX5_type_1 : decode cX5_type 1 = .ok (.iconst 0, 1) := by decide +kernel
theorem dX5_type_2 : decode cX5_type 2 = .ok (.bipush 127, 2) := by decide +kernel
theorem dX5_type_4 : decode cX5_type 4 = .ok (.invokestatic 75, 3) := by decide +kernel
theorem dX5_type_7 : decode cX5_type 7 = .ok (.ifCond .ne 10, 3) := by decide +kernel
theorem dX5_type_10 : decode cX5_type 10 = .ok (.aload_n 0, 1) := by decide +kernel
theorem dX5_type_11 : decode cX5_type 11 = .ok (.bipush (-2), 2) := by decide +kernel
theorem dX5_type_13 : decode cX5_type 13 = .ok (.invokevirtual 56, 3) := by decide +kernel
theorem dX5_type_16 : decode cX5_type 16 = .ok (.ireturn, 1) := by decide +kernel
theorem dX5_type_17 : decode cX5_type 17 = .ok (.aload_n 0, 1) := by decide +kernel
theorem dX5_type_18 : decode cX5_type 18 = .ok (.getfield 27, 3) := by decide +kernel
theorem dX5_type_21 : decode cX5_type 21 = .ok (.getfield 95, 3) := by decide +kernel
theorem dX5_type_24 : decode cX5_type 24 = .ok (.sipush 150, 3) := by decide +kernel
theorem dX5_type_27 : decode cX5_type 27 = .ok (.if_icmp .lt 10, 3) := by decide +kernel
theorem dX5_type_30 : decode cX5_type 30 = .ok (.aload_n 0, 1) := by decide +kernel
theorem dX5_type_31 : decode cX5_type 31 = .ok (.bipush (-4), 2) := by decide +kernel
theorem dX5_type_33 : decode cX5_type 33 = .ok (.invokevirtual 56, 3) := by decide +kernel
theorem dX5_type_36 : decode cX5_type 36 = .ok (.ireturn, 1) := by decide +kernel
theorem dX5_type_37 : decode cX5_type 37 = .ok (.aload_n 0, 1) := by decide +kernel
theorem dX5_type_38 : decode cX5_type 38 = .ok (.getfield 27, 3) := by decide +kernel
theorem dX5_type_41 : decode cX5_type 41 = .ok (.iload_n 1, 1) := by decide +kernel
theorem dX5_type_42 : decode cX5_type 42 = .ok (.invokevirtual 98, 3) := by decide +kernel
theorem dX5_type_45 : decode cX5_type 45 = .ok (.ireturn, 1) := by decide +kernel
theorem dX5_clear_0 : decode cX5_clear 0 = .ok (.aload_n 0, 1) := by decide +kernel
theorem dX5_clear_1 : decode cX5_clear 1 = .ok (.getfield 27, 3) := by decide +kernel
theorem dX5_clear_4 : decode cX5_clear 4 = .ok (.getfield 95, 3) := by decide +kernel
theorem dX5_clear_7 : decode cX5_clear 7 = .ok (.istore_n 1, 1) := by decide +kernel
theorem dX5_clear_8 : decode cX5_clear 8 = .ok (.aload_n 0, 1) := by decide +kernel
theorem dX5_clear_9 : decode cX5_clear 9 = .ok (.getfield 27, 3) := by decide +kernel
theorem dX5_clear_12 : decode cX5_clear 12 = .ok (.iconst 0, 1) := by decide +kernel
theorem dX5_clear_13 : decode cX5_clear 13 = .ok (.putfield 95, 3) := by decide +kernel
theorem dX5_clear_16 : decode cX5_clear 16 = .ok (.iload_n 1, 1) := by decide +kernel
theorem dX5_clear_17 : decode cX5_clear 17 = .ok (.ireturn, 1) := by decide +kernel
theorem dX5_read_0 : decode cX5_read 0 = .ok (.aload_n 0, 1) := by decide +kernel
theorem dX5_read_1 : decode cX5_read 1 = .ok (.getfield 27, 3) := by decide +kernel
theorem dX5_read_4 : decode cX5_read 4 = .ok (.aload_n 0, 1) := by decide +kernel
theorem dX5_read_5 : decode cX5_read 5 = .ok (.getfield 34, 3) := by decide +kernel
theorem dX5_read_8 : decode cX5_read 8 = .ok (.invokevirtual 101, 3) := by decide +kernel
theorem dX5_read_11 : decode cX5_read 11 = .ok (.istore_n 1, 1) := by decide +kernel
theorem dX5_read_12 : decode cX5_read 12 = .ok (.iload_n 1, 1) := by decide +kernel
theorem dX5_read_13 : decode cX5_read 13 = .ok (.ifCond .le 14, 3) := by decide +kernel
theorem dX5_read_16 : decode cX5_read 16 = .ok (.aload_n 0, 1) := by decide +kernel
theorem dX5_read_17 : decode cX5_read 17 = .ok (.getfield 10, 3) := by decide +kernel
theorem dX5_read_20 : decode cX5_read 20 = .ok (.aload_n 0, 1) := by decide +kernel
theorem dX5_read_21 : decode cX5_read 21 = .ok (.getfield 34, 3) := by decide +kernel
theorem dX5_read_24 : decode cX5_read 24 = .ok (.invokevirtual 71, 3) := by decide +kernel
theorem dX5_read_27 : decode cX5_read 27 = .ok (.iload_n 1, 1) := by decide +kernel
theorem dX5_read_28 : decode cX5_read 28 = .ok (.ireturn, 1) := by decide +kernel
theorem dX5_minute_0 : decode cX5_minute 0 = .ok (.iload_n 1, 1) := by decide +kernel
theorem dX5_minute_1 : decode cX5_minute 1 = .ok (.iconst 1, 1) := by decide +kernel
theorem dX5_minute_2 : decode cX5_minute 2 = .ok (.bipush 60, 2) := by decide +kernel
theorem dX5_minute_4 : decode cX5_minute 4 = .ok (.invokestatic 75, 3) := by decide +kernel
theorem dX5_minute_7 : decode cX5_minute 7 = .ok (.ifCond .ne 10, 3) := by decide +kernel
theorem dX5_minute_10 : decode cX5_minute 10 = .ok (.aload_n 0, 1) := by decide +kernel
theorem dX5_minute_11 : decode cX5_minute 11 = .ok (.bipush (-2), 2) := by decide +kernel
theorem dX5_minute_13 : decode cX5_minute 13 = .ok (.invokevirtual 56, 3) := by decide +kernel
theorem dX5_minute_16 : decode cX5_minute 16 = .ok (.ireturn, 1) := by decide +kernel
theorem dX5_minute_17 : decode cX5_minute 17 = .ok (.aload_n 0, 1) := by decide +kernel
theorem dX5_minute_18 : decode cX5_minute 18 = .ok (.getfield 10, 3) := by decide +kernel
theorem dX5_minute_21 : decode cX5_minute 21 = .ok (.getfield 82, 3) := by decide +kernel
theorem dX5_minute_24 : decode cX5_minute 24 = .ok (.aload_n 0, 1) := by decide +kernel
theorem dX5_minute_25 : decode cX5_minute 25 = .ok (.getfield 10, 3) := by decide +kernel
theorem dX5_minute_28 : decode cX5_minute 28 = .ok (.getfield 60, 3) := by decide +kernel
theorem dX5_minute_31 : decode cX5_minute 31 = .ok (.invokevirtual 105, 3) := by decide +kernel
theorem dX5_minute_34 : decode cX5_minute 34 = .ok (.aload_n 0, 1) := by decide +kernel
theorem dX5_minute_35 : decode cX5_minute 35 = .ok (.getfield 10, 3) := by decide +kernel
theorem dX5_minute_38 : decode cX5_minute 38 = .ok (.getfield 60, 3) := by decide +kernel
theorem dX5_minute_41 : decode cX5_minute 41 = .ok (.iload_n 1, 1) := by decide +kernel
theorem dX5_minute_42 : decode cX5_minute 42 = .ok (.sipush 999, 3) := by decide +kernel
theorem dX5_minute_45 : decode cX5_minute 45 = .ok (.aload_n 0, 1) := by decide +kernel
theorem dX5_minute_46 : decode cX5_minute 46 = .ok (.getfield 10, 3) := by decide +kernel
theorem dX5_minute_49 : decode cX5_minute 49 = .ok (.getfield 60, 3) := by decide +kernel
theorem dX5_minute_52 : decode cX5_minute 52 = .ok (.getfield 108, 3) := by decide +kernel
theorem dX5_minute_55 : decode cX5_minute 55 = .ok (.isub, 1) := by decide +kernel
theorem dX5_minute_56 : decode cX5_minute 56 = .ok (.invokestatic 111, 3) := by decide +kernel
theorem dX5_minute_59 : decode cX5_minute 59 = .ok (.invokevirtual 117, 3) := by decide +kernel
theorem dX5_minute_62 : decode cX5_minute 62 = .ok (.ireturn, 1) := by decide +kernel
theorem dX5_carrot_0 : decode cX5_carrot 0 = .ok (.aload_n 0, 1) := by decide +kernel
theorem dX5_carrot_1 : decode cX5_carrot 1 = .ok (.iload_n 1, 1) := by decide +kernel
theorem dX5_carrot_2 : decode cX5_carrot 2 = .ok (.invokevirtual 120, 3) := by decide +kernel
theorem dX5_carrot_5 : decode cX5_carrot 5 = .ok (.ifCond .ne 10, 3) := by decide +kernel
theorem dX5_carrot_8 : decode cX5_carrot 8 = .ok (.aload_n 0, 1) := by decide +kernel
theorem dX5_carrot_9 : decode cX5_carrot 9 = .ok (.bipush (-2), 2) := by decide +kernel
theorem dX5_carrot_11 : decode cX5_carrot 11 = .ok (.invokevirtual 56, 3) := by decide +kernel
theorem dX5_carrot_14 : decode cX5_carrot 14 = .ok (.ireturn, 1) := by decide +kernel
theorem dX5_carrot_15 : decode cX5_carrot 15 = .ok (.aload_n 0, 1) := by decide +kernel
theorem dX5_carrot_16 : decode cX5_carrot 16 = .ok (.getfield 10, 3) := by decide +kernel
theorem dX5_carrot_19 : decode cX5_carrot 19 = .ok (.getfield 82, 3) := by decide +kernel
theorem dX5_carrot_22 : decode cX5_carrot 22 = .ok (.aload_n 0, 1) := by decide +kernel
theorem dX5_carrot_23 : decode cX5_carrot 23 = .ok (.getfield 10, 3) := by decide +kernel
theorem dX5_carrot_26 : decode cX5_carrot 26 = .ok (.getfield 60, 3) := by decide +kernel
theorem dX5_carrot_29 : decode cX5_carrot 29 = .ok (.invokevirtual 105, 3) := by decide +kernel
theorem dX5_carrot_32 : decode cX5_carrot 32 = .ok (.aload_n 0, 1) := by decide +kernel
theorem dX5_carrot_33 : decode cX5_carrot 33 = .ok (.getfield 10, 3) := by decide +kernel
theorem dX5_carrot_36 : decode cX5_carrot 36 = .ok (.getfield 60, 3) := by decide +kernel
theorem dX5_carrot_39 : decode cX5_carrot 39 = .ok (.iload_n 1, 1) := by decide +kernel
theorem dX5_carrot_40 : decode cX5_carrot 40 = .ok (.invokevirtual 123, 3) := by decide +kernel
theorem dX5_carrot_43 : decode cX5_carrot 43 = .ok (.ireturn, 1) := by decide +kernel
theorem dX5_moves_0 : decode cX5_moves 0 = .ok (.aload_n 0, 1) := by decide +kernel
theorem dX5_moves_1 : decode cX5_moves 1 = .ok (.iload_n 1, 1) := by decide +kernel
theorem dX5_moves_2 : decode cX5_moves 2 = .ok (.invokevirtual 120, 3) := by decide +kernel
theorem dX5_moves_5 : decode cX5_moves 5 = .ok (.ifCond .eq 10, 3) := by decide +kernel
theorem dX5_moves_8 : decode cX5_moves 8 = .ok (.iload_n 2, 1) := by decide +kernel
theorem dX5_moves_9 : decode cX5_moves 9 = .ok (.invokestatic 52, 3) := by decide +kernel
theorem dX5_moves_12 : decode cX5_moves 12 = .ok (.ifCond .ne 10, 3) := by decide +kernel
theorem dX5_moves_15 : decode cX5_moves 15 = .ok (.aload_n 0, 1) := by decide +kernel
theorem dX5_moves_16 : decode cX5_moves 16 = .ok (.bipush (-2), 2) := by decide +kernel
theorem dX5_moves_18 : decode cX5_moves 18 = .ok (.invokevirtual 56, 3) := by decide +kernel
theorem dX5_moves_21 : decode cX5_moves 21 = .ok (.ireturn, 1) := by decide +kernel
theorem dX5_moves_22 : decode cX5_moves 22 = .ok (.aload_n 0, 1) := by decide +kernel
theorem dX5_moves_23 : decode cX5_moves 23 = .ok (.getfield 10, 3) := by decide +kernel
theorem dX5_moves_26 : decode cX5_moves 26 = .ok (.getfield 60, 3) := by decide +kernel
theorem dX5_moves_29 : decode cX5_moves 29 = .ok (.iload_n 2, 1) := by decide +kernel
theorem dX5_moves_30 : decode cX5_moves 30 = .ok (.invokevirtual 79, 3) := by decide +kernel
theorem dX5_moves_33 : decode cX5_moves 33 = .ok (.istore_n 3, 1) := by decide +kernel
theorem dX5_moves_34 : decode cX5_moves 34 = .ok (.iload_n 3, 1) := by decide +kernel
theorem dX5_moves_35 : decode cX5_moves 35 = .ok (.iconst (-1), 1) := by decide +kernel
theorem dX5_moves_36 : decode cX5_moves 36 = .ok (.if_icmp .eq 15, 3) := by decide +kernel
theorem dX5_moves_39 : decode cX5_moves 39 = .ok (.iload_n 3, 1) := by decide +kernel
theorem dX5_moves_40 : decode cX5_moves 40 = .ok (.iload_n 1, 1) := by decide +kernel
theorem dX5_moves_41 : decode cX5_moves 41 = .ok (.if_icmp .eq 10, 3) := by decide +kernel
theorem dX5_moves_44 : decode cX5_moves 44 = .ok (.aload_n 0, 1) := by decide +kernel
theorem dX5_moves_45 : decode cX5_moves 45 = .ok (.bipush (-3), 2) := by decide +kernel
theorem dX5_moves_47 : decode cX5_moves 47 = .ok (.invokevirtual 56, 3) := by decide +kernel
theorem dX5_moves_50 : decode cX5_moves 50 = .ok (.ireturn, 1) := by decide +kernel
theorem dX5_moves_51 : decode cX5_moves 51 = .ok (.aload_n 0, 1) := by decide +kernel
theorem dX5_moves_52 : decode cX5_moves 52 = .ok (.getfield 10, 3) := by decide +kernel
theorem dX5_moves_55 : decode cX5_moves 55 = .ok (.getfield 82, 3) := by decide +kernel
theorem dX5_moves_58 : decode cX5_moves 58 = .ok (.aload_n 0, 1) := by decide +kernel
theorem dX5_moves_59 : decode cX5_moves 59 = .ok (.getfield 10, 3) := by decide +kernel
theorem dX5_moves_62 : decode cX5_moves 62 = .ok (.getfield 60, 3) := by decide +kernel
theorem dX5_moves_65 : decode cX5_moves 65 = .ok (.invokevirtual 105, 3) := by decide +kernel
theorem dX5_moves_68 : decode cX5_moves 68 = .ok (.aload_n 0, 1) := by decide +kernel
theorem dX5_moves_69 : decode cX5_moves 69 = .ok (.getfield 10, 3) := by decide +kernel
theorem dX5_moves_72 : decode cX5_moves 72 = .ok (.getfield 60, 3) := by decide +kernel
theorem dX5_moves_75 : decode cX5_moves 75 = .ok (.getfield 126, 3) := by decide +kernel
theorem dX5_moves_78 : decode cX5_moves 78 = .ok (.iload_n 1, 1) := by decide +kernel
theorem dX5_moves_79 : decode cX5_moves 79 = .ok (.iaload, 1) := by decide +kernel
theorem dX5_moves_80 : decode cX5_moves 80 = .ok (.istore 4, 2) := by decide +kernel
theorem dX5_moves_82 : decode cX5_moves 82 = .ok (.aload_n 0, 1) := by decide +kernel
theorem dX5_moves_83 : decode cX5_moves 83 = .ok (.getfield 10, 3) := by decide +kernel
theorem dX5_moves_86 : decode cX5_moves 86 = .ok (.getfield 60, 3) := by decide +kernel
theorem dX5_moves_89 : decode cX5_moves 89 = .ok (.getfield 126, 3) := by decide +kernel
theorem dX5_moves_92 : decode cX5_moves 92 = .ok (.iload_n 1, 1) := by decide +kernel
theorem dX5_moves_93 : decode cX5_moves 93 = .ok (.iload_n 2, 1) := by decide +kernel
theorem dX5_moves_94 : decode cX5_moves 94 = .ok (.iastore, 1) := by decide +kernel
theorem dX5_moves_95 : decode cX5_moves 95 = .ok (.iload 4, 2) := by decide +kernel
theorem dX5_moves_97 : decode cX5_moves 97 = .ok (.ireturn, 1) := by decide +kernel
theorem dX5_woman_0 : decode cX5_woman 0 = .ok (.iload_n 1, 1) := by decide +kernel
theorem dX5_woman_1 : decode cX5_woman 1 = .ok (.invokestatic 52, 3) := by decide +kernel
theorem dX5_woman_4 : decode cX5_woman 4 = .ok (.ifCond .ne 10, 3) := by decide +kernel
theorem dX5_woman_7 : decode cX5_woman 7 = .ok (.aload_n 0, 1) := by decide +kernel
theorem dX5_woman_8 : decode cX5_woman 8 = .ok (.bipush (-2), 2) := by decide +kernel
theorem dX5_woman_10 : decode cX5_woman 10 = .ok (.invokevirtual 56, 3) := by decide +kernel
theorem dX5_woman_13 : decode cX5_woman 13 = .ok (.ireturn, 1) := by decide +kernel
theorem dX5_woman_14 : decode cX5_woman 14 = .ok (.aload_n 0, 1) := by decide +kernel
theorem dX5_woman_15 : decode cX5_woman 15 = .ok (.getfield 10, 3) := by decide +kernel
theorem dX5_woman_18 : decode cX5_woman 18 = .ok (.getfield 82, 3) := by decide +kernel
theorem dX5_woman_21 : decode cX5_woman 21 = .ok (.aload_n 0, 1) := by decide +kernel
theorem dX5_woman_22 : decode cX5_woman 22 = .ok (.getfield 10, 3) := by decide +kernel
theorem dX5_woman_25 : decode cX5_woman 25 = .ok (.getfield 60, 3) := by decide +kernel
theorem dX5_woman_28 : decode cX5_woman 28 = .ok (.invokevirtual 105, 3) := by decide +kernel
theorem dX5_woman_31 : decode cX5_woman 31 = .ok (.aload_n 0, 1) := by decide +kernel
theorem dX5_woman_32 : decode cX5_woman 32 = .ok (.getfield 10, 3) := by decide +kernel
theorem dX5_woman_35 : decode cX5_woman 35 = .ok (.getfield 60, 3) := by decide +kernel
theorem dX5_woman_38 : decode cX5_woman 38 = .ok (.getfield 129, 3) := by decide +kernel
theorem dX5_woman_41 : decode cX5_woman 41 = .ok (.istore_n 2, 1) := by decide +kernel
theorem dX5_woman_42 : decode cX5_woman 42 = .ok (.aload_n 0, 1) := by decide +kernel
theorem dX5_woman_43 : decode cX5_woman 43 = .ok (.getfield 10, 3) := by decide +kernel
theorem dX5_woman_46 : decode cX5_woman 46 = .ok (.getfield 60, 3) := by decide +kernel
theorem dX5_woman_49 : decode cX5_woman 49 = .ok (.iload_n 1, 1) := by decide +kernel
theorem dX5_woman_50 : decode cX5_woman 50 = .ok (.putfield 129, 3) := by decide +kernel
theorem dX5_woman_53 : decode cX5_woman 53 = .ok (.iload_n 2, 1) := by decide +kernel
theorem dX5_woman_54 : decode cX5_woman 54 = .ok (.ireturn, 1) := by decide +kernel
theorem dX5_undo_0 : decode cX5_undo 0 = .ok (.aload_n 0, 1) := by decide +kernel
theorem dX5_undo_1 : decode cX5_undo 1 = .ok (.getfield 10, 3) := by decide +kernel
theorem dX5_undo_4 : decode cX5_undo 4 = .ok (.getfield 82, 3) := by decide +kernel
theorem dX5_undo_7 : decode cX5_undo 7 = .ok (.getfield 132, 3) := by decide +kernel
theorem dX5_undo_10 : decode cX5_undo 10 = .ok (.ifCond .ne 10, 3) := by decide +kernel
theorem dX5_undo_13 : decode cX5_undo 13 = .ok (.aload_n 0, 1) := by decide +kernel
theorem dX5_undo_14 : decode cX5_undo 14 = .ok (.bipush (-3), 2) := by decide +kernel
theorem dX5_undo_16 : decode cX5_undo 16 = .ok (.invokevirtual 56, 3) := by decide +kernel
theorem dX5_undo_19 : decode cX5_undo 19 = .ok (.ireturn, 1) := by decide +kernel
theorem dX5_undo_20 : decode cX5_undo 20 = .ok (.aload_n 0, 1) := by decide +kernel
theorem dX5_undo_21 : decode cX5_undo 21 = .ok (.getfield 10, 3) := by decide +kernel
theorem dX5_undo_24 : decode cX5_undo 24 = .ok (.getfield 82, 3) := by decide +kernel
theorem dX5_undo_27 : decode cX5_undo 27 = .ok (.aload_n 0, 1) := by decide +kernel
theorem dX5_undo_28 : decode cX5_undo 28 = .ok (.getfield 10, 3) := by decide +kernel
theorem dX5_undo_31 : decode cX5_undo 31 = .ok (.getfield 60, 3) := by decide +kernel
theorem dX5_undo_34 : decode cX5_undo 34 = .ok (.invokevirtual 135, 3) := by decide +kernel
theorem dX5_undo_37 : decode cX5_undo 37 = .ok (.aload_n 0, 1) := by decide +kernel
theorem dX5_undo_38 : decode cX5_undo 38 = .ok (.getfield 10, 3) := by decide +kernel
theorem dX5_undo_41 : decode cX5_undo 41 = .ok (.getfield 60, 3) := by decide +kernel
theorem dX5_undo_44 : decode cX5_undo 44 = .ok (.getfield 108, 3) := by decide +kernel
theorem dX5_undo_47 : decode cX5_undo 47 = .ok (.ireturn, 1) := by decide +kernel
theorem dX5_of_0 : decode cX5_of 0 = .ok (.aload_n 0, 1) := by decide +kernel
theorem dX5_of_1 : decode cX5_of 1 = .ok (.iload_n 1, 1) := by decide +kernel
theorem dX5_of_2 : decode cX5_of 2 = .ok (.invokevirtual 120, 3) := by decide +kernel
theorem dX5_of_5 : decode cX5_of 5 = .ok (.ifCond .eq 12, 3) := by decide +kernel
theorem dX5_of_8 : decode cX5_of 8 = .ok (.iload_n 2, 1) := by decide +kernel
theorem dX5_of_9 : decode cX5_of 9 = .ok (.iconst 0, 1) := by decide +kernel
theorem dX5_of_10 : decode cX5_of 10 = .ok (.iconst 5, 1) := by decide +kernel
theorem dX5_of_11 : decode cX5_of 11 = .ok (.invokestatic 75, 3) := by decide +kernel
theorem dX5_of_14 : decode cX5_of 14 = .ok (.ifCond .ne 10, 3) := by decide +kernel
theorem dX5_of_17 : decode cX5_of 17 = .ok (.aload_n 0, 1) := by decide +kernel
theorem dX5_of_18 : decode cX5_of 18 = .ok (.bipush (-2), 2) := by decide +kernel
theorem dX5_of_20 : decode cX5_of 20 = .ok (.invokevirtual 56, 3) := by decide +kernel
theorem dX5_of_23 : decode cX5_of 23 = .ok (.ireturn, 1) := by decide +kernel
theorem dX5_of_24 : decode cX5_of 24 = .ok (.iload_n 2, 1) := by decide +kernel
theorem dX5_of_25 : decode cX5_of 25 = .ok (.iconst 5, 1) := by decide +kernel
theorem dX5_of_26 : decode cX5_of 26 = .ok (.if_icmp .ne 17, 3) := by decide +kernel
theorem dX5_of_29 : decode cX5_of 29 = .ok (.aload_n 0, 1) := by decide +kernel
theorem dX5_of_30 : decode cX5_of 30 = .ok (.getfield 10, 3) := by decide +kernel
theorem dX5_of_33 : decode cX5_of 33 = .ok (.getfield 60, 3) := by decide +kernel
theorem dX5_of_36 : decode cX5_of 36 = .ok (.iload_n 1, 1) := by decide +kernel
theorem dX5_of_37 : decode cX5_of 37 = .ok (.invokevirtual 138, 3) := by decide +kernel
theorem dX5_of_40 : decode cX5_of 40 = .ok (.goto 15, 3) := by decide +kernel
theorem dX5_of_43 : decode cX5_of 43 = .ok (.aload_n 0, 1) := by decide +kernel
theorem dX5_of_44 : decode cX5_of 44 = .ok (.getfield 10, 3) := by decide +kernel
theorem dX5_of_47 : decode cX5_of 47 = .ok (.getfield 60, 3) := by decide +kernel
theorem dX5_of_50 : decode cX5_of 50 = .ok (.iload_n 1, 1) := by decide +kernel
theorem dX5_of_51 : decode cX5_of 51 = .ok (.iload_n 2, 1) := by decide +kernel
theorem dX5_of_52 : decode cX5_of 52 = .ok (.invokevirtual 141, 3) := by decide +kernel
theorem dX5_of_55 : decode cX5_of 55 = .ok (.ireturn, 1) := by decide +kernel
theorem dX5_now_0 : decode cX5_now 0 = .ok (.aload_n 0, 1) := by decide +kernel
theorem dX5_now_1 : decode cX5_now 1 = .ok (.iload_n 1, 1) := by decide +kernel
theorem dX5_now_2 : decode cX5_now 2 = .ok (.invokevirtual 120, 3) := by decide +kernel
theorem dX5_now_5 : decode cX5_now 5 = .ok (.ifCond .eq 12, 3) := by decide +kernel
theorem dX5_now_8 : decode cX5_now 8 = .ok (.iload_n 2, 1) := by decide +kernel
theorem dX5_now_9 : decode cX5_now 9 = .ok (.iconst 0, 1) := by decide +kernel
theorem dX5_now_10 : decode cX5_now 10 = .ok (.iconst 2, 1) := by decide +kernel
theorem dX5_now_11 : decode cX5_now 11 = .ok (.invokestatic 75, 3) := by decide +kernel
theorem dX5_now_14 : decode cX5_now 14 = .ok (.ifCond .ne 13, 3) := by decide +kernel
theorem dX5_now_17 : decode cX5_now 17 = .ok (.aload_n 0, 1) := by decide +kernel
theorem dX5_now_18 : decode cX5_now 18 = .ok (.bipush (-2), 2) := by decide +kernel
theorem dX5_now_20 : decode cX5_now 20 = .ok (.invokevirtual 56, 3) := by decide +kernel
theorem dX5_now_23 : decode cX5_now 23 = .ok (.pop, 1) := by decide +kernel
theorem dX5_now_24 : decode cX5_now 24 = .ok (.bipush (-10), 2) := by decide +kernel
theorem dX5_now_26 : decode cX5_now 26 = .ok (.ireturn, 1) := by decide +kernel
theorem dX5_now_27 : decode cX5_now 27 = .ok (.iload_n 2, 1) := by decide +kernel
theorem dX5_now_28 : decode cX5_now 28 = .ok (.ifCond .ne 15, 3) := by decide +kernel
theorem dX5_now_31 : decode cX5_now 31 = .ok (.aload_n 0, 1) := by decide +kernel
theorem dX5_now_32 : decode cX5_now 32 = .ok (.getfield 10, 3) := by decide +kernel
theorem dX5_now_35 : decode cX5_now 35 = .ok (.getfield 60, 3) := by decide +kernel
theorem dX5_now_38 : decode cX5_now 38 = .ok (.iload_n 1, 1) := by decide +kernel
theorem dX5_now_39 : decode cX5_now 39 = .ok (.invokevirtual 144, 3) := by decide +kernel
theorem dX5_now_42 : decode cX5_now 42 = .ok (.ireturn, 1) := by decide +kernel
theorem dX5_now_43 : decode cX5_now 43 = .ok (.iload_n 2, 1) := by decide +kernel
theorem dX5_now_44 : decode cX5_now 44 = .ok (.iconst 1, 1) := by decide +kernel
theorem dX5_now_45 : decode cX5_now 45 = .ok (.if_icmp .ne 17, 3) := by decide +kernel
theorem dX5_now_48 : decode cX5_now 48 = .ok (.aload_n 0, 1) := by decide +kernel
theorem dX5_now_49 : decode cX5_now 49 = .ok (.getfield 10, 3) := by decide +kernel
theorem dX5_now_52 : decode cX5_now 52 = .ok (.getfield 60, 3) := by decide +kernel
theorem dX5_now_55 : decode cX5_now 55 = .ok (.iload_n 1, 1) := by decide +kernel
theorem dX5_now_56 : decode cX5_now 56 = .ok (.invokevirtual 147, 3) := by decide +kernel
theorem dX5_now_59 : decode cX5_now 59 = .ok (.goto 17, 3) := by decide +kernel
theorem dX5_now_62 : decode cX5_now 62 = .ok (.aload_n 0, 1) := by decide +kernel
theorem dX5_now_63 : decode cX5_now 63 = .ok (.getfield 10, 3) := by decide +kernel
theorem dX5_now_66 : decode cX5_now 66 = .ok (.getfield 60, 3) := by decide +kernel
theorem dX5_now_69 : decode cX5_now 69 = .ok (.invokevirtual 150, 3) := by decide +kernel
theorem dX5_now_72 : decode cX5_now 72 = .ok (.iload_n 1, 1) := by decide +kernel
theorem dX5_now_73 : decode cX5_now 73 = .ok (.ishr, 1) := by decide +kernel
theorem dX5_now_74 : decode cX5_now 74 = .ok (.iconst 1, 1) := by decide +kernel
theorem dX5_now_75 : decode cX5_now 75 = .ok (.iand, 1) := by decide +kernel
theorem dX5_now_76 : decode cX5_now 76 = .ok (.ireturn, 1) := by decide +kernel
theorem dX5_then_0 : decode cX5_then 0 = .ok (.iload_n 1, 1) := by decide +kernel
theorem dX5_then_1 : decode cX5_then 1 = .ok (.iconst 0, 1) := by decide +kernel
theorem dX5_then_2 : decode cX5_then 2 = .ok (.bipush 60, 2) := by decide +kernel
theorem dX5_then_4 : decode cX5_then 4 = .ok (.invokestatic 75, 3) := by decide +kernel
theorem dX5_then_7 : decode cX5_then 7 = .ok (.ifCond .eq 16, 3) := by decide +kernel
theorem dX5_then_10 : decode cX5_then 10 = .ok (.iload_n 2, 1) := by decide +kernel
theorem dX5_then_11 : decode cX5_then 11 = .ok (.iconst (-1), 1) := by decide +kernel
theorem dX5_then_12 : decode cX5_then 12 = .ok (.if_icmp .eq 18, 3) := by decide +kernel
theorem dX5_then_15 : decode cX5_then 15 = .ok (.aload_n 0, 1) := by decide +kernel
theorem dX5_then_16 : decode cX5_then 16 = .ok (.iload_n 2, 1) := by decide +kernel
theorem dX5_then_17 : decode cX5_then 17 = .ok (.invokevirtual 120, 3) := by decide +kernel
theorem dX5_then_20 : decode cX5_then 20 = .ok (.ifCond .ne 10, 3) := by decide +kernel
theorem dX5_then_23 : decode cX5_then 23 = .ok (.aload_n 0, 1) := by decide +kernel
theorem dX5_then_24 : decode cX5_then 24 = .ok (.bipush (-2), 2) := by decide +kernel
theorem dX5_then_26 : decode cX5_then 26 = .ok (.invokevirtual 56, 3) := by decide +kernel
theorem dX5_then_29 : decode cX5_then 29 = .ok (.ireturn, 1) := by decide +kernel
theorem dX5_then_30 : decode cX5_then 30 = .ok (.aload_n 0, 1) := by decide +kernel
theorem dX5_then_31 : decode cX5_then 31 = .ok (.getfield 34, 3) := by decide +kernel
theorem dX5_then_34 : decode cX5_then 34 = .ok (.aload_n 0, 1) := by decide +kernel
theorem dX5_then_35 : decode cX5_then 35 = .ok (.getfield 10, 3) := by decide +kernel
theorem dX5_then_38 : decode cX5_then 38 = .ok (.getfield 60, 3) := by decide +kernel
theorem dX5_then_41 : decode cX5_then 41 = .ok (.invokevirtual 154, 3) := by decide +kernel
theorem dX5_then_44 : decode cX5_then 44 = .ok (.aload_n 0, 1) := by decide +kernel
theorem dX5_then_45 : decode cX5_then 45 = .ok (.getfield 34, 3) := by decide +kernel
theorem dX5_then_48 : decode cX5_then 48 = .ok (.iload_n 1, 1) := by decide +kernel
theorem dX5_then_49 : decode cX5_then 49 = .ok (.invokevirtual 117, 3) := by decide +kernel
theorem dX5_then_52 : decode cX5_then 52 = .ok (.pop, 1) := by decide +kernel
theorem dX5_then_53 : decode cX5_then 53 = .ok (.iload_n 2, 1) := by decide +kernel
theorem dX5_then_54 : decode cX5_then 54 = .ok (.iconst (-1), 1) := by decide +kernel
theorem dX5_then_55 : decode cX5_then 55 = .ok (.if_icmp .ne 13, 3) := by decide +kernel
theorem dX5_then_58 : decode cX5_then 58 = .ok (.aload_n 0, 1) := by decide +kernel
theorem dX5_then_59 : decode cX5_then 59 = .ok (.getfield 34, 3) := by decide +kernel
theorem dX5_then_62 : decode cX5_then 62 = .ok (.getfield 157, 3) := by decide +kernel
theorem dX5_then_65 : decode cX5_then 65 = .ok (.goto 12, 3) := by decide +kernel
theorem dX5_then_68 : decode cX5_then 68 = .ok (.aload_n 0, 1) := by decide +kernel
theorem dX5_then_69 : decode cX5_then 69 = .ok (.getfield 34, 3) := by decide +kernel
theorem dX5_then_72 : decode cX5_then 72 = .ok (.getfield 160, 3) := by decide +kernel
theorem dX5_then_75 : decode cX5_then 75 = .ok (.iload_n 2, 1) := by decide +kernel
theorem dX5_then_76 : decode cX5_then 76 = .ok (.iaload, 1) := by decide +kernel
theorem dX5_then_77 : decode cX5_then 77 = .ok (.ireturn, 1) := by decide +kernel
theorem dX5_quiet_0 : decode cX5_quiet 0 = .ok (.aload_n 0, 1) := by decide +kernel
theorem dX5_quiet_1 : decode cX5_quiet 1 = .ok (.getfield 34, 3) := by decide +kernel
theorem dX5_quiet_4 : decode cX5_quiet 4 = .ok (.aload_n 0, 1) := by decide +kernel
theorem dX5_quiet_5 : decode cX5_quiet 5 = .ok (.getfield 10, 3) := by decide +kernel
theorem dX5_quiet_8 : decode cX5_quiet 8 = .ok (.getfield 60, 3) := by decide +kernel
theorem dX5_quiet_11 : decode cX5_quiet 11 = .ok (.invokevirtual 154, 3) := by decide +kernel
theorem dX5_quiet_14 : decode cX5_quiet 14 = .ok (.iconst 1, 1) := by decide +kernel
theorem dX5_quiet_15 : decode cX5_quiet 15 = .ok (.istore_n 1, 1) := by decide +kernel
theorem dX5_quiet_16 : decode cX5_quiet 16 = .ok (.iload_n 1, 1) := by decide +kernel
theorem dX5_quiet_17 : decode cX5_quiet 17 = .ok (.bipush 60, 2) := by decide +kernel
theorem dX5_quiet_19 : decode cX5_quiet 19 = .ok (.if_icmp .gt 21, 3) := by decide +kernel
theorem dX5_quiet_22 : decode cX5_quiet 22 = .ok (.aload_n 0, 1) := by decide +kernel
theorem dX5_quiet_23 : decode cX5_quiet 23 = .ok (.getfield 34, 3) := by decide +kernel
theorem dX5_quiet_26 : decode cX5_quiet 26 = .ok (.invokevirtual 163, 3) := by decide +kernel
theorem dX5_quiet_29 : decode cX5_quiet 29 = .ok (.ifCond .le 5, 3) := by decide +kernel
theorem dX5_quiet_32 : decode cX5_quiet 32 = .ok (.iload_n 1, 1) := by decide +kernel
theorem dX5_quiet_33 : decode cX5_quiet 33 = .ok (.ireturn, 1) := by decide +kernel
theorem dX5_quiet_34 : decode cX5_quiet 34 = .ok (.iinc 1 1, 3) := by decide +kernel
theorem dX5_quiet_37 : decode cX5_quiet 37 = .ok (.goto (-21), 3) := by decide +kernel
theorem dX5_quiet_40 : decode cX5_quiet 40 = .ok (.iconst (-1), 1) := by decide +kernel
theorem dX5_quiet_41 : decode cX5_quiet 41 = .ok (.ireturn, 1) := by decide +kernel
theorem dX5_stand_0 : decode cX5_stand 0 = .ok (.iload_n 1, 1) := by decide +kernel
theorem dX5_stand_1 : decode cX5_stand 1 = .ok (.iconst 1, 1) := by decide +kernel
theorem dX5_stand_2 : decode cX5_stand 2 = .ok (.bipush 60, 2) := by decide +kernel
theorem dX5_stand_4 : decode cX5_stand 4 = .ok (.invokestatic 75, 3) := by decide +kernel
theorem dX5_stand_7 : decode cX5_stand 7 = .ok (.ifCond .eq 12, 3) := by decide +kernel
theorem dX5_stand_10 : decode cX5_stand 10 = .ok (.iload_n 2, 1) := by decide +kernel
theorem dX5_stand_11 : decode cX5_stand 11 = .ok (.iconst 0, 1) := by decide +kernel
theorem dX5_stand_12 : decode cX5_stand 12 = .ok (.iconst 1, 1) := by decide +kernel
theorem dX5_stand_13 : decode cX5_stand 13 = .ok (.invokestatic 75, 3) := by decide +kernel
theorem dX5_stand_16 : decode cX5_stand 16 = .ok (.ifCond .ne 10, 3) := by decide +kernel
theorem dX5_stand_19 : decode cX5_stand 19 = .ok (.aload_n 0, 1) := by decide +kernel
theorem dX5_stand_20 : decode cX5_stand 20 = .ok (.bipush (-2), 2) := by decide +kernel
theorem dX5_stand_22 : decode cX5_stand 22 = .ok (.invokevirtual 56, 3) := by decide +kernel
theorem dX5_stand_25 : decode cX5_stand 25 = .ok (.ireturn, 1) := by decide +kernel
theorem dX5_stand_26 : decode cX5_stand 26 = .ok (.iconst (-1), 1) := by decide +kernel
theorem dX5_stand_27 : decode cX5_stand 27 = .ok (.istore_n 3, 1) := by decide +kernel
theorem dX5_stand_28 : decode cX5_stand 28 = .ok (.bipush 6, 2) := by decide +kernel
theorem dX5_stand_30 : decode cX5_stand 30 = .ok (.iload_n 1, 1) := by decide +kernel
theorem dX5_stand_31 : decode cX5_stand 31 = .ok (.imul, 1) := by decide +kernel
theorem dX5_stand_32 : decode cX5_stand 32 = .ok (.iconst 1, 1) := by decide +kernel
theorem dX5_stand_33 : decode cX5_stand 33 = .ok (.iadd, 1) := by decide +kernel
theorem dX5_stand_34 : decode cX5_stand 34 = .ok (.istore 4, 2) := by decide +kernel
theorem dX5_stand_36 : decode cX5_stand 36 = .ok (.iconst 0, 1) := by decide +kernel
theorem dX5_stand_37 : decode cX5_stand 37 = .ok (.istore 5, 2) := by decide +kernel
theorem dX5_stand_39 : decode cX5_stand 39 = .ok (.iload 5, 2) := by decide +kernel
theorem dX5_stand_41 : decode cX5_stand 41 = .ok (.bipush 8, 2) := by decide +kernel
theorem dX5_stand_43 : decode cX5_stand 43 = .ok (.if_icmp .ge 56, 3) := by decide +kernel
theorem dX5_stand_46 : decode cX5_stand 46 = .ok (.aload_n 0, 1) := by decide +kernel
theorem dX5_stand_47 : decode cX5_stand 47 = .ok (.getfield 34, 3) := by decide +kernel
theorem dX5_stand_50 : decode cX5_stand 50 = .ok (.aload_n 0, 1) := by decide +kernel
theorem dX5_stand_51 : decode cX5_stand 51 = .ok (.getfield 10, 3) := by decide +kernel
theorem dX5_stand_54 : decode cX5_stand 54 = .ok (.getfield 60, 3) := by decide +kernel
theorem dX5_stand_57 : decode cX5_stand 57 = .ok (.invokevirtual 154, 3) := by decide +kernel
theorem dX5_stand_60 : decode cX5_stand 60 = .ok (.aload_n 0, 1) := by decide +kernel
theorem dX5_stand_61 : decode cX5_stand 61 = .ok (.getfield 34, 3) := by decide +kernel
theorem dX5_stand_64 : decode cX5_stand 64 = .ok (.iload 5, 2) := by decide +kernel
theorem dX5_stand_66 : decode cX5_stand 66 = .ok (.putfield 129, 3) := by decide +kernel
theorem dX5_stand_69 : decode cX5_stand 69 = .ok (.aload_n 0, 1) := by decide +kernel
theorem dX5_stand_70 : decode cX5_stand 70 = .ok (.getfield 34, 3) := by decide +kernel
theorem dX5_stand_73 : decode cX5_stand 73 = .ok (.iload_n 1, 1) := by decide +kernel
theorem dX5_stand_74 : decode cX5_stand 74 = .ok (.invokevirtual 117, 3) := by decide +kernel
theorem dX5_stand_77 : decode cX5_stand 77 = .ok (.istore 6, 2) := by decide +kernel
theorem dX5_stand_79 : decode cX5_stand 79 = .ok (.iload 6, 2) := by decide +kernel
theorem dX5_stand_81 : decode cX5_stand 81 = .ok (.iload 4, 2) := by decide +kernel
theorem dX5_stand_83 : decode cX5_stand 83 = .ok (.if_icmp .ge 10, 3) := by decide +kernel
theorem dX5_stand_86 : decode cX5_stand 86 = .ok (.iload 6, 2) := by decide +kernel
theorem dX5_stand_88 : decode cX5_stand 88 = .ok (.istore 4, 2) := by decide +kernel
theorem dX5_stand_90 : decode cX5_stand 90 = .ok (.iload 5, 2) := by decide +kernel
theorem dX5_stand_92 : decode cX5_stand 92 = .ok (.istore_n 3, 1) := by decide +kernel
theorem dX5_stand_93 : decode cX5_stand 93 = .ok (.iinc 5 1, 3) := by decide +kernel
theorem dX5_stand_96 : decode cX5_stand 96 = .ok (.goto (-57), 3) := by decide +kernel
theorem dX5_stand_99 : decode cX5_stand 99 = .ok (.iload_n 2, 1) := by decide +kernel
theorem dX5_stand_100 : decode cX5_stand 100 = .ok (.ifCond .ne 7, 3) := by decide +kernel
theorem dX5_stand_103 : decode cX5_stand 103 = .ok (.iload_n 3, 1) := by decide +kernel
theorem dX5_stand_104 : decode cX5_stand 104 = .ok (.goto 5, 3) := by decide +kernel
theorem dX5_stand_107 : decode cX5_stand 107 = .ok (.iload 4, 2) := by decide +kernel
theorem dX5_stand_109 : decode cX5_stand 109 = .ok (.ireturn, 1) := by decide +kernel
theorem dX5_helps_0 : decode cX5_helps 0 = .ok (.iconst (-1), 1) := by decide +kernel
theorem dX5_helps_1 : decode cX5_helps 1 = .ok (.istore_n 1, 1) := by decide +kernel
theorem dX5_helps_2 : decode cX5_helps 2 = .ok (.aload_n 0, 1) := by decide +kernel
theorem dX5_helps_3 : decode cX5_helps 3 = .ok (.getfield 34, 3) := by decide +kernel
theorem dX5_helps_6 : decode cX5_helps 6 = .ok (.aload_n 0, 1) := by decide +kernel
theorem dX5_helps_7 : decode cX5_helps 7 = .ok (.getfield 10, 3) := by decide +kernel
theorem dX5_helps_10 : decode cX5_helps 10 = .ok (.getfield 60, 3) := by decide +kernel
theorem dX5_helps_13 : decode cX5_helps 13 = .ok (.invokevirtual 154, 3) := by decide +kernel
theorem dX5_helps_16 : decode cX5_helps 16 = .ok (.aload_n 0, 1) := by decide +kernel
theorem dX5_helps_17 : decode cX5_helps 17 = .ok (.getfield 34, 3) := by decide +kernel
theorem dX5_helps_20 : decode cX5_helps 20 = .ok (.bipush 20, 2) := by decide +kernel
theorem dX5_helps_22 : decode cX5_helps 22 = .ok (.invokevirtual 117, 3) := by decide +kernel
theorem dX5_helps_25 : decode cX5_helps 25 = .ok (.istore_n 2, 1) := by decide +kernel
theorem dX5_helps_26 : decode cX5_helps 26 = .ok (.iconst 0, 1) := by decide +kernel
theorem dX5_helps_27 : decode cX5_helps 27 = .ok (.istore_n 3, 1) := by decide +kernel
theorem dX5_helps_28 : decode cX5_helps 28 = .ok (.iload_n 3, 1) := by decide +kernel
theorem dX5_helps_29 : decode cX5_helps 29 = .ok (.aload_n 0, 1) := by decide +kernel
theorem dX5_helps_30 : decode cX5_helps 30 = .ok (.getfield 10, 3) := by decide +kernel
theorem dX5_helps_33 : decode cX5_helps 33 = .ok (.getfield 60, 3) := by decide +kernel
theorem dX5_helps_36 : decode cX5_helps 36 = .ok (.getfield 63, 3) := by decide +kernel
theorem dX5_helps_39 : decode cX5_helps 39 = .ok (.if_icmp .ge 51, 3) := by decide +kernel
theorem dX5_helps_42 : decode cX5_helps 42 = .ok (.iconst 0, 1) := by decide +kernel
theorem dX5_helps_43 : decode cX5_helps 43 = .ok (.istore 4, 2) := by decide +kernel
theorem dX5_helps_45 : decode cX5_helps 45 = .ok (.iload 4, 2) := by decide +kernel
theorem dX5_helps_47 : decode cX5_helps 47 = .ok (.bipush 10, 2) := by decide +kernel
theorem dX5_helps_49 : decode cX5_helps 49 = .ok (.if_icmp .ge 35, 3) := by decide +kernel
theorem dX5_helps_52 : decode cX5_helps 52 = .ok (.aload_n 0, 1) := by decide +kernel
theorem dX5_helps_53 : decode cX5_helps 53 = .ok (.iload_n 3, 1) := by decide +kernel
theorem dX5_helps_54 : decode cX5_helps 54 = .ok (.iload 4, 2) := by decide +kernel
theorem dX5_helps_56 : decode cX5_helps 56 = .ok (.invokevirtual 166, 3) := by decide +kernel
theorem dX5_helps_59 : decode cX5_helps 59 = .ok (.istore 5, 2) := by decide +kernel
theorem dX5_helps_61 : decode cX5_helps 61 = .ok (.iload 5, 2) := by decide +kernel
theorem dX5_helps_63 : decode cX5_helps 63 = .ok (.iload_n 2, 1) := by decide +kernel
theorem dX5_helps_64 : decode cX5_helps 64 = .ok (.if_icmp .ge 14, 3) := by decide +kernel
theorem dX5_helps_67 : decode cX5_helps 67 = .ok (.iload 5, 2) := by decide +kernel
theorem dX5_helps_69 : decode cX5_helps 69 = .ok (.istore_n 2, 1) := by decide +kernel
theorem dX5_helps_70 : decode cX5_helps 70 = .ok (.bipush 10, 2) := by decide +kernel
theorem dX5_helps_72 : decode cX5_helps 72 = .ok (.iload_n 3, 1) := by decide +kernel
theorem dX5_helps_73 : decode cX5_helps 73 = .ok (.imul, 1) := by decide +kernel
theorem dX5_helps_74 : decode cX5_helps 74 = .ok (.iload 4, 2) := by decide +kernel
theorem dX5_helps_76 : decode cX5_helps 76 = .ok (.iadd, 1) := by decide +kernel
theorem dX5_helps_77 : decode cX5_helps 77 = .ok (.istore_n 1, 1) := by decide +kernel
theorem dX5_helps_78 : decode cX5_helps 78 = .ok (.iinc 4 1, 3) := by decide +kernel
theorem dX5_helps_81 : decode cX5_helps 81 = .ok (.goto (-36), 3) := by decide +kernel
theorem dX5_helps_84 : decode cX5_helps 84 = .ok (.iinc 3 1, 3) := by decide +kernel
theorem dX5_helps_87 : decode cX5_helps 87 = .ok (.goto (-59), 3) := by decide +kernel
theorem dX5_helps_90 : decode cX5_helps 90 = .ok (.iload_n 1, 1) := by decide +kernel
theorem dX5_helps_91 : decode cX5_helps 91 = .ok (.ireturn, 1) := by decide +kernel
theorem dX5_seated_0 : decode cX5_seated 0 = .ok (.iload_n 1, 1) := by decide +kernel
theorem dX5_seated_1 : decode cX5_seated 1 = .ok (.iconst (-1), 1) := by decide +kernel
theorem dX5_seated_2 : decode cX5_seated 2 = .ok (.if_icmp .eq 21, 3) := by decide +kernel
theorem dX5_seated_5 : decode cX5_seated 5 = .ok (.aload_n 0, 1) := by decide +kernel
theorem dX5_seated_6 : decode cX5_seated 6 = .ok (.iload_n 1, 1) := by decide +kernel
theorem dX5_seated_7 : decode cX5_seated 7 = .ok (.invokevirtual 120, 3) := by decide +kernel
theorem dX5_seated_10 : decode cX5_seated 10 = .ok (.ifCond .ne 13, 3) := by decide +kernel
theorem dX5_seated_13 : decode cX5_seated 13 = .ok (.aload_n 0, 1) := by decide +kernel
theorem dX5_seated_14 : decode cX5_seated 14 = .ok (.bipush (-2), 2) := by decide +kernel
theorem dX5_seated_16 : decode cX5_seated 16 = .ok (.invokevirtual 56, 3) := by decide +kernel
theorem dX5_seated_19 : decode cX5_seated 19 = .ok (.pop, 1) := by decide +kernel
theorem dX5_seated_20 : decode cX5_seated 20 = .ok (.bipush (-10), 2) := by decide +kernel
theorem dX5_seated_22 : decode cX5_seated 22 = .ok (.ireturn, 1) := by decide +kernel
theorem dX5_seated_23 : decode cX5_seated 23 = .ok (.aload_n 0, 1) := by decide +kernel
theorem dX5_seated_24 : decode cX5_seated 24 = .ok (.getfield 10, 3) := by decide +kernel
theorem dX5_seated_27 : decode cX5_seated 27 = .ok (.getfield 60, 3) := by decide +kernel
theorem dX5_seated_30 : decode cX5_seated 30 = .ok (.getfield 63, 3) := by decide +kernel
theorem dX5_seated_33 : decode cX5_seated 33 = .ok (.istore_n 2, 1) := by decide +kernel
theorem dX5_seated_34 : decode cX5_seated 34 = .ok (.aload_n 0, 1) := by decide +kernel
theorem dX5_seated_35 : decode cX5_seated 35 = .ok (.getfield 34, 3) := by decide +kernel
theorem dX5_seated_38 : decode cX5_seated 38 = .ok (.aload_n 0, 1) := by decide +kernel
theorem dX5_seated_39 : decode cX5_seated 39 = .ok (.getfield 10, 3) := by decide +kernel
theorem dX5_seated_42 : decode cX5_seated 42 = .ok (.getfield 60, 3) := by decide +kernel
theorem dX5_seated_45 : decode cX5_seated 45 = .ok (.invokevirtual 154, 3) := by decide +kernel
theorem dX5_seated_48 : decode cX5_seated 48 = .ok (.aload_n 0, 1) := by decide +kernel
theorem dX5_seated_49 : decode cX5_seated 49 = .ok (.getfield 34, 3) := by decide +kernel
theorem dX5_seated_52 : decode cX5_seated 52 = .ok (.iconst 0, 1) := by decide +kernel
theorem dX5_seated_53 : decode cX5_seated 53 = .ok (.iload_n 2, 1) := by decide +kernel
theorem dX5_seated_54 : decode cX5_seated 54 = .ok (.iload_n 2, 1) := by decide +kernel
theorem dX5_seated_55 : decode cX5_seated 55 = .ok (.iconst 1, 1) := by decide +kernel
theorem dX5_seated_56 : decode cX5_seated 56 = .ok (.iadd, 1) := by decide +kernel
theorem dX5_seated_57 : decode cX5_seated 57 = .ok (.aload_n 0, 1) := by decide +kernel
theorem dX5_seated_58 : decode cX5_seated 58 = .ok (.getfield 38, 3) := by decide +kernel
theorem dX5_seated_61 : decode cX5_seated 61 = .ok (.invokestatic 169, 3) := by decide +kernel
theorem dX5_seated_64 : decode cX5_seated 64 = .ok (.istore_n 3, 1) := by decide +kernel
theorem dX5_seated_65 : decode cX5_seated 65 = .ok (.iload_n 1, 1) := by decide +kernel
theorem dX5_seated_66 : decode cX5_seated 66 = .ok (.iconst (-1), 1) := by decide +kernel
theorem dX5_seated_67 : decode cX5_seated 67 = .ok (.if_icmp .ne 7, 3) := by decide +kernel
theorem dX5_seated_70 : decode cX5_seated 70 = .ok (.iload_n 3, 1) := by decide +kernel
theorem dX5_seated_71 : decode cX5_seated 71 = .ok (.goto 9, 3) := by decide +kernel
theorem dX5_seated_74 : decode cX5_seated 74 = .ok (.aload_n 0, 1) := by decide +kernel
theorem dX5_seated_75 : decode cX5_seated 75 = .ok (.getfield 38, 3) := by decide +kernel
theorem dX5_seated_78 : decode cX5_seated 78 = .ok (.iload_n 1, 1) := by decide +kernel
theorem dX5_seated_79 : decode cX5_seated 79 = .ok (.iaload, 1) := by decide +kernel
theorem dX5_seated_80 : decode cX5_seated 80 = .ok (.ireturn, 1) := by decide +kernel
theorem dX5_words_0 : decode cX5_words 0 = .ok (.aload_n 0, 1) := by decide +kernel
theorem dX5_words_1 : decode cX5_words 1 = .ok (.iload_n 1, 1) := by decide +kernel
theorem dX5_words_2 : decode cX5_words 2 = .ok (.invokevirtual 120, 3) := by decide +kernel
theorem dX5_words_5 : decode cX5_words 5 = .ok (.ifCond .ne 10, 3) := by decide +kernel
theorem dX5_words_8 : decode cX5_words 8 = .ok (.aload_n 0, 1) := by decide +kernel
theorem dX5_words_9 : decode cX5_words 9 = .ok (.bipush (-2), 2) := by decide +kernel
theorem dX5_words_11 : decode cX5_words 11 = .ok (.invokevirtual 56, 3) := by decide +kernel
theorem dX5_words_14 : decode cX5_words 14 = .ok (.ireturn, 1) := by decide +kernel
theorem dX5_words_15 : decode cX5_words 15 = .ok (.aload_n 0, 1) := by decide +kernel
theorem dX5_words_16 : decode cX5_words 16 = .ok (.getfield 34, 3) := by decide +kernel
theorem dX5_words_19 : decode cX5_words 19 = .ok (.aload_n 0, 1) := by decide +kernel
theorem dX5_words_20 : decode cX5_words 20 = .ok (.getfield 10, 3) := by decide +kernel
theorem dX5_words_23 : decode cX5_words 23 = .ok (.getfield 60, 3) := by decide +kernel
theorem dX5_words_26 : decode cX5_words 26 = .ok (.invokevirtual 154, 3) := by decide +kernel
theorem dX5_words_29 : decode cX5_words 29 = .ok (.iconst 0, 1) := by decide +kernel
theorem dX5_words_30 : decode cX5_words 30 = .ok (.istore_n 2, 1) := by decide +kernel
theorem dX5_words_31 : decode cX5_words 31 = .ok (.iload_n 2, 1) := by decide +kernel
theorem dX5_words_32 : decode cX5_words 32 = .ok (.bipush 40, 2) := by decide +kernel
theorem dX5_words_34 : decode cX5_words 34 = .ok (.if_icmp .gt 47, 3) := by decide +kernel
theorem dX5_words_37 : decode cX5_words 37 = .ok (.aload_n 0, 1) := by decide +kernel
theorem dX5_words_38 : decode cX5_words 38 = .ok (.getfield 34, 3) := by decide +kernel
theorem dX5_words_41 : decode cX5_words 41 = .ok (.getfield 173, 3) := by decide +kernel
theorem dX5_words_44 : decode cX5_words 44 = .ok (.iload_n 1, 1) := by decide +kernel
theorem dX5_words_45 : decode cX5_words 45 = .ok (.aload_n 0, 1) := by decide +kernel
theorem dX5_words_46 : decode cX5_words 46 = .ok (.getfield 10, 3) := by decide +kernel
theorem dX5_words_49 : decode cX5_words 49 = .ok (.getfield 60, 3) := by decide +kernel
theorem dX5_words_52 : decode cX5_words 52 = .ok (.getfield 173, 3) := by decide +kernel
theorem dX5_words_55 : decode cX5_words 55 = .ok (.iload_n 1, 1) := by decide +kernel
theorem dX5_words_56 : decode cX5_words 56 = .ok (.iaload, 1) := by decide +kernel
theorem dX5_words_57 : decode cX5_words 57 = .ok (.iload_n 2, 1) := by decide +kernel
theorem dX5_words_58 : decode cX5_words 58 = .ok (.iadd, 1) := by decide +kernel
theorem dX5_words_59 : decode cX5_words 59 = .ok (.iastore, 1) := by decide +kernel
theorem dX5_words_60 : decode cX5_words 60 = .ok (.aload_n 0, 1) := by decide +kernel
theorem dX5_words_61 : decode cX5_words 61 = .ok (.getfield 34, 3) := by decide +kernel
theorem dX5_words_64 : decode cX5_words 64 = .ok (.iload_n 1, 1) := by decide +kernel
theorem dX5_words_65 : decode cX5_words 65 = .ok (.invokevirtual 144, 3) := by decide +kernel
theorem dX5_words_68 : decode cX5_words 68 = .ok (.bipush 12, 2) := by decide +kernel
theorem dX5_words_70 : decode cX5_words 70 = .ok (.if_icmp .ge 5, 3) := by decide +kernel
theorem dX5_words_73 : decode cX5_words 73 = .ok (.iload_n 2, 1) := by decide +kernel
theorem dX5_words_74 : decode cX5_words 74 = .ok (.ireturn, 1) := by decide +kernel
theorem dX5_words_75 : decode cX5_words 75 = .ok (.iinc 2 1, 3) := by decide +kernel
theorem dX5_words_78 : decode cX5_words 78 = .ok (.goto (-47), 3) := by decide +kernel
theorem dX5_words_81 : decode cX5_words 81 = .ok (.iconst (-1), 1) := by decide +kernel
theorem dX5_words_82 : decode cX5_words 82 = .ok (.ireturn, 1) := by decide +kernel
theorem dX5_say_0 : decode cX5_say 0 = .ok (.iconst (-1), 1) := by decide +kernel
theorem dX5_say_1 : decode cX5_say 1 = .ok (.istore_n 1, 1) := by decide +kernel
theorem dX5_say_2 : decode cX5_say 2 = .ok (.bipush 121, 2) := by decide +kernel
theorem dX5_say_4 : decode cX5_say 4 = .ok (.istore_n 2, 1) := by decide +kernel
theorem dX5_say_5 : decode cX5_say 5 = .ok (.iconst 0, 1) := by decide +kernel
theorem dX5_say_6 : decode cX5_say 6 = .ok (.istore_n 3, 1) := by decide +kernel
theorem dX5_say_7 : decode cX5_say 7 = .ok (.iload_n 3, 1) := by decide +kernel
theorem dX5_say_8 : decode cX5_say 8 = .ok (.aload_n 0, 1) := by decide +kernel
theorem dX5_say_9 : decode cX5_say 9 = .ok (.getfield 10, 3) := by decide +kernel
theorem dX5_say_12 : decode cX5_say 12 = .ok (.getfield 60, 3) := by decide +kernel
theorem dX5_say_15 : decode cX5_say 15 = .ok (.getfield 63, 3) := by decide +kernel
theorem dX5_say_18 : decode cX5_say 18 = .ok (.if_icmp .ge 59, 3) := by decide +kernel
theorem dX5_say_21 : decode cX5_say 21 = .ok (.aload_n 0, 1) := by decide +kernel
theorem dX5_say_22 : decode cX5_say 22 = .ok (.getfield 34, 3) := by decide +kernel
theorem dX5_say_25 : decode cX5_say 25 = .ok (.aload_n 0, 1) := by decide +kernel
theorem dX5_say_26 : decode cX5_say 26 = .ok (.getfield 10, 3) := by decide +kernel
theorem dX5_say_29 : decode cX5_say 29 = .ok (.getfield 60, 3) := by decide +kernel
theorem dX5_say_32 : decode cX5_say 32 = .ok (.invokevirtual 154, 3) := by decide +kernel
theorem dX5_say_35 : decode cX5_say 35 = .ok (.aload_n 0, 1) := by decide +kernel
theorem dX5_say_36 : decode cX5_say 36 = .ok (.getfield 34, 3) := by decide +kernel
theorem dX5_say_39 : decode cX5_say 39 = .ok (.getfield 173, 3) := by decide +kernel
theorem dX5_say_42 : decode cX5_say 42 = .ok (.iload_n 3, 1) := by decide +kernel
theorem dX5_say_43 : decode cX5_say 43 = .ok (.dup2, 1) := by decide +kernel
theorem dX5_say_44 : decode cX5_say 44 = .ok (.iaload, 1) := by decide +kernel
theorem dX5_say_45 : decode cX5_say 45 = .ok (.bipush 10, 2) := by decide +kernel
theorem dX5_say_47 : decode cX5_say 47 = .ok (.iadd, 1) := by decide +kernel
theorem dX5_say_48 : decode cX5_say 48 = .ok (.iastore, 1) := by decide +kernel
theorem dX5_say_49 : decode cX5_say 49 = .ok (.aload_n 0, 1) := by decide +kernel
theorem dX5_say_50 : decode cX5_say 50 = .ok (.getfield 34, 3) := by decide +kernel
theorem dX5_say_53 : decode cX5_say 53 = .ok (.bipush 20, 2) := by decide +kernel
theorem dX5_say_55 : decode cX5_say 55 = .ok (.invokevirtual 117, 3) := by decide +kernel
theorem dX5_say_58 : decode cX5_say 58 = .ok (.istore 4, 2) := by decide +kernel
theorem dX5_say_60 : decode cX5_say 60 = .ok (.iload 4, 2) := by decide +kernel
theorem dX5_say_62 : decode cX5_say 62 = .ok (.iload_n 2, 1) := by decide +kernel
theorem dX5_say_63 : decode cX5_say 63 = .ok (.if_icmp .ge 8, 3) := by decide +kernel
theorem dX5_say_66 : decode cX5_say 66 = .ok (.iload 4, 2) := by decide +kernel
theorem dX5_say_68 : decode cX5_say 68 = .ok (.istore_n 2, 1) := by decide +kernel
theorem dX5_say_69 : decode cX5_say 69 = .ok (.iload_n 3, 1) := by decide +kernel
theorem dX5_say_70 : decode cX5_say 70 = .ok (.istore_n 1, 1) := by decide +kernel
theorem dX5_say_71 : decode cX5_say 71 = .ok (.iinc 3 1, 3) := by decide +kernel
theorem dX5_say_74 : decode cX5_say 74 = .ok (.goto (-67), 3) := by decide +kernel
theorem dX5_say_77 : decode cX5_say 77 = .ok (.iload_n 1, 1) := by decide +kernel
theorem dX5_say_78 : decode cX5_say 78 = .ok (.ireturn, 1) := by decide +kernel
theorem dX5_note_0 : decode cX5_note 0 = .ok (.aload_n 0, 1) := by decide +kernel
theorem dX5_note_1 : decode cX5_note 1 = .ok (.iload_n 1, 1) := by decide +kernel
theorem dX5_note_2 : decode cX5_note 2 = .ok (.invokevirtual 120, 3) := by decide +kernel
theorem dX5_note_5 : decode cX5_note 5 = .ok (.ifCond .eq 70, 3) := by decide +kernel
theorem dX5_note_8 : decode cX5_note 8 = .ok (.iload_n 2, 1) := by decide +kernel
theorem dX5_note_9 : decode cX5_note 9 = .ok (.iconst 0, 1) := by decide +kernel
theorem dX5_note_10 : decode cX5_note 10 = .ok (.bipush 30, 2) := by decide +kernel
theorem dX5_note_12 : decode cX5_note 12 = .ok (.invokestatic 75, 3) := by decide +kernel
theorem dX5_note_15 : decode cX5_note 15 = .ok (.ifCond .eq 60, 3) := by decide +kernel
theorem dX5_note_18 : decode cX5_note 18 = .ok (.iload_n 3, 1) := by decide +kernel
theorem dX5_note_19 : decode cX5_note 19 = .ok (.iconst 0, 1) := by decide +kernel
theorem dX5_note_20 : decode cX5_note 20 = .ok (.iconst 2, 1) := by decide +kernel
theorem dX5_note_21 : decode cX5_note 21 = .ok (.invokestatic 75, 3) := by decide +kernel
theorem dX5_note_24 : decode cX5_note 24 = .ok (.ifCond .eq 51, 3) := by decide +kernel
theorem dX5_note_27 : decode cX5_note 27 = .ok (.iload 4, 2) := by decide +kernel
theorem dX5_note_29 : decode cX5_note 29 = .ok (.iconst 0, 1) := by decide +kernel
theorem dX5_note_30 : decode cX5_note 30 = .ok (.bipush 20, 2) := by decide +kernel
theorem dX5_note_32 : decode cX5_note 32 = .ok (.invokestatic 75, 3) := by decide +kernel
theorem dX5_note_35 : decode cX5_note 35 = .ok (.ifCond .eq 40, 3) := by decide +kernel
theorem dX5_note_38 : decode cX5_note 38 = .ok (.iload 5, 2) := by decide +kernel
theorem dX5_note_40 : decode cX5_note 40 = .ok (.iconst 0, 1) := by decide +kernel
theorem dX5_note_41 : decode cX5_note 41 = .ok (.bipush 9, 2) := by decide +kernel
theorem dX5_note_43 : decode cX5_note 43 = .ok (.invokestatic 75, 3) := by decide +kernel
theorem dX5_note_46 : decode cX5_note 46 = .ok (.ifCond .eq 29, 3) := by decide +kernel
theorem dX5_note_49 : decode cX5_note 49 = .ok (.iload 6, 2) := by decide +kernel
theorem dX5_note_51 : decode cX5_note 51 = .ok (.iconst 0, 1) := by decide +kernel
theorem dX5_note_52 : decode cX5_note 52 = .ok (.bipush 6, 2) := by decide +kernel
theorem dX5_note_54 : decode cX5_note 54 = .ok (.invokestatic 75, 3) := by decide +kernel
theorem dX5_note_57 : decode cX5_note 57 = .ok (.ifCond .eq 18, 3) := by decide +kernel
theorem dX5_note_60 : decode cX5_note 60 = .ok (.iload 7, 2) := by decide +kernel
theorem dX5_note_62 : decode cX5_note 62 = .ok (.iconst 0, 1) := by decide +kernel
theorem dX5_note_63 : decode cX5_note 63 = .ok (.bipush 60, 2) := by decide +kernel
theorem dX5_note_65 : decode cX5_note 65 = .ok (.invokestatic 75, 3) := by decide +kernel
theorem dX5_note_68 : decode cX5_note 68 = .ok (.ifCond .eq 7, 3) := by decide +kernel
theorem dX5_note_71 : decode cX5_note 71 = .ok (.iconst 1, 1) := by decide +kernel
theorem dX5_note_72 : decode cX5_note 72 = .ok (.goto 4, 3) := by decide +kernel
theorem dX5_note_75 : decode cX5_note 75 = .ok (.iconst 0, 1) := by decide +kernel
theorem dX5_note_76 : decode cX5_note 76 = .ok (.istore 8, 2) := by decide +kernel
theorem dX5_note_78 : decode cX5_note 78 = .ok (.iload 8, 2) := by decide +kernel
theorem dX5_note_80 : decode cX5_note 80 = .ok (.ifCond .ne 10, 3) := by decide +kernel
theorem dX5_note_83 : decode cX5_note 83 = .ok (.aload_n 0, 1) := by decide +kernel
theorem dX5_note_84 : decode cX5_note 84 = .ok (.bipush (-2), 2) := by decide +kernel
theorem dX5_note_86 : decode cX5_note 86 = .ok (.invokevirtual 56, 3) := by decide +kernel
theorem dX5_note_89 : decode cX5_note 89 = .ok (.ireturn, 1) := by decide +kernel
theorem dX5_note_90 : decode cX5_note 90 = .ok (.aload_n 0, 1) := by decide +kernel
theorem dX5_note_91 : decode cX5_note 91 = .ok (.getfield 10, 3) := by decide +kernel
theorem dX5_note_94 : decode cX5_note 94 = .ok (.getfield 176, 3) := by decide +kernel
theorem dX5_note_97 : decode cX5_note 97 = .ok (.getfield 180, 3) := by decide +kernel
theorem dX5_note_100 : decode cX5_note 100 = .ok (.bipush 6, 2) := by decide +kernel
theorem dX5_note_102 : decode cX5_note 102 = .ok (.if_icmp .lt 10, 3) := by decide +kernel
theorem dX5_note_105 : decode cX5_note 105 = .ok (.aload_n 0, 1) := by decide +kernel
theorem dX5_note_106 : decode cX5_note 106 = .ok (.bipush (-4), 2) := by decide +kernel
theorem dX5_note_108 : decode cX5_note 108 = .ok (.invokevirtual 56, 3) := by decide +kernel
theorem dX5_note_111 : decode cX5_note 111 = .ok (.ireturn, 1) := by decide +kernel
theorem dX5_note_112 : decode cX5_note 112 = .ok (.aload_n 0, 1) := by decide +kernel
theorem dX5_note_113 : decode cX5_note 113 = .ok (.getfield 10, 3) := by decide +kernel
theorem dX5_note_116 : decode cX5_note 116 = .ok (.getfield 176, 3) := by decide +kernel
theorem dX5_note_119 : decode cX5_note 119 = .ok (.iload_n 1, 1) := by decide +kernel
theorem dX5_note_120 : decode cX5_note 120 = .ok (.iload_n 2, 1) := by decide +kernel
theorem dX5_note_121 : decode cX5_note 121 = .ok (.iload_n 3, 1) := by decide +kernel
theorem dX5_note_122 : decode cX5_note 122 = .ok (.iload 4, 2) := by decide +kernel
theorem dX5_note_124 : decode cX5_note 124 = .ok (.iload 5, 2) := by decide +kernel
theorem dX5_note_126 : decode cX5_note 126 = .ok (.iload 6, 2) := by decide +kernel
theorem dX5_note_128 : decode cX5_note 128 = .ok (.iload 7, 2) := by decide +kernel
theorem dX5_note_130 : decode cX5_note 130 = .ok (.invokevirtual 183, 3) := by decide +kernel
theorem dX5_note_133 : decode cX5_note 133 = .ok (.ireturn, 1) := by decide +kernel
theorem dX5_forget_0 : decode cX5_forget 0 = .ok (.aload_n 0, 1) := by decide +kernel
theorem dX5_forget_1 : decode cX5_forget 1 = .ok (.getfield 10, 3) := by decide +kernel
theorem dX5_forget_4 : decode cX5_forget 4 = .ok (.getfield 176, 3) := by decide +kernel
theorem dX5_forget_7 : decode cX5_forget 7 = .ok (.getfield 180, 3) := by decide +kernel
theorem dX5_forget_10 : decode cX5_forget 10 = .ok (.istore_n 1, 1) := by decide +kernel
theorem dX5_forget_11 : decode cX5_forget 11 = .ok (.aload_n 0, 1) := by decide +kernel
theorem dX5_forget_12 : decode cX5_forget 12 = .ok (.getfield 10, 3) := by decide +kernel
theorem dX5_forget_15 : decode cX5_forget 15 = .ok (.getfield 176, 3) := by decide +kernel
theorem dX5_forget_18 : decode cX5_forget 18 = .ok (.iconst 0, 1) := by decide +kernel
theorem dX5_forget_19 : decode cX5_forget 19 = .ok (.putfield 180, 3) := by decide +kernel
theorem dX5_forget_22 : decode cX5_forget 22 = .ok (.iload_n 1, 1) := by decide +kernel
theorem dX5_forget_23 : decode cX5_forget 23 = .ok (.ireturn, 1) := by decide +kernel
theorem dX5_is_0 : decode cX5_is 0 = .ok (.aload_n 0, 1) := by decide +kernel
theorem dX5_is_1 : decode cX5_is 1 = .ok (.iload_n 1, 1) := by decide +kernel
theorem dX5_is_2 : decode cX5_is 2 = .ok (.invokevirtual 120, 3) := by decide +kernel
theorem dX5_is_5 : decode cX5_is 5 = .ok (.ifCond .eq 17, 3) := by decide +kernel
theorem dX5_is_8 : decode cX5_is 8 = .ok (.aload_n 0, 1) := by decide +kernel
theorem dX5_is_9 : decode cX5_is 9 = .ok (.getfield 10, 3) := by decide +kernel
theorem dX5_is_12 : decode cX5_is 12 = .ok (.getfield 176, 3) := by decide +kernel
theorem dX5_is_15 : decode cX5_is 15 = .ok (.iload_n 1, 1) := by decide +kernel
theorem dX5_is_16 : decode cX5_is 16 = .ok (.invokevirtual 187, 3) := by decide +kernel
theorem dX5_is_19 : decode cX5_is 19 = .ok (.goto 9, 3) := by decide +kernel
theorem dX5_is_22 : decode cX5_is 22 = .ok (.aload_n 0, 1) := by decide +kernel
theorem dX5_is_23 : decode cX5_is 23 = .ok (.bipush (-2), 2) := by decide +kernel
theorem dX5_is_25 : decode cX5_is 25 = .ok (.invokevirtual 56, 3) := by decide +kernel
theorem dX5_is_28 : decode cX5_is 28 = .ok (.ireturn, 1) := by decide +kernel
theorem dX5_look_0 : decode cX5_look 0 = .ok (.aload_n 0, 1) := by decide +kernel
theorem dX5_look_1 : decode cX5_look 1 = .ok (.iload_n 1, 1) := by decide +kernel
theorem dX5_look_2 : decode cX5_look 2 = .ok (.invokevirtual 120, 3) := by decide +kernel
theorem dX5_look_5 : decode cX5_look 5 = .ok (.ifCond .ne 10, 3) := by decide +kernel
theorem dX5_look_8 : decode cX5_look 8 = .ok (.aload_n 0, 1) := by decide +kernel
theorem dX5_look_9 : decode cX5_look 9 = .ok (.bipush (-2), 2) := by decide +kernel
theorem dX5_look_11 : decode cX5_look 11 = .ok (.invokevirtual 56, 3) := by decide +kernel
theorem dX5_look_14 : decode cX5_look 14 = .ok (.ireturn, 1) := by decide +kernel
theorem dX5_look_15 : decode cX5_look 15 = .ok (.aload_n 0, 1) := by decide +kernel
theorem dX5_look_16 : decode cX5_look 16 = .ok (.getfield 10, 3) := by decide +kernel
theorem dX5_look_19 : decode cX5_look 19 = .ok (.getfield 176, 3) := by decide +kernel
theorem dX5_look_22 : decode cX5_look 22 = .ok (.iload_n 1, 1) := by decide +kernel
theorem dX5_look_23 : decode cX5_look 23 = .ok (.invokevirtual 187, 3) := by decide +kernel
theorem dX5_look_26 : decode cX5_look 26 = .ok (.istore_n 2, 1) := by decide +kernel
theorem dX5_look_27 : decode cX5_look 27 = .ok (.iload_n 2, 1) := by decide +kernel
theorem dX5_look_28 : decode cX5_look 28 = .ok (.ifCond .ne 5, 3) := by decide +kernel
theorem dX5_look_31 : decode cX5_look 31 = .ok (.iconst (-1), 1) := by decide +kernel
theorem dX5_look_32 : decode cX5_look 32 = .ok (.ireturn, 1) := by decide +kernel
theorem dX5_look_33 : decode cX5_look 33 = .ok (.iconst (-1), 1) := by decide +kernel
theorem dX5_look_34 : decode cX5_look 34 = .ok (.istore_n 3, 1) := by decide +kernel
theorem dX5_look_35 : decode cX5_look 35 = .ok (.bipush 7, 2) := by decide +kernel
theorem dX5_look_37 : decode cX5_look 37 = .ok (.istore 4, 2) := by decide +kernel
theorem dX5_look_39 : decode cX5_look 39 = .ok (.iconst 0, 1) := by decide +kernel
theorem dX5_look_40 : decode cX5_look 40 = .ok (.istore 5, 2) := by decide +kernel
theorem dX5_look_42 : decode cX5_look 42 = .ok (.iload 5, 2) := by decide +kernel
theorem dX5_look_44 : decode cX5_look 44 = .ok (.iconst 2, 1) := by decide +kernel
theorem dX5_look_45 : decode cX5_look 45 = .ok (.if_icmp .gt 101, 3) := by decide +kernel
theorem dX5_look_48 : decode cX5_look 48 = .ok (.iconst 0, 1) := by decide +kernel
theorem dX5_look_49 : decode cX5_look 49 = .ok (.istore 6, 2) := by decide +kernel
theorem dX5_look_51 : decode cX5_look 51 = .ok (.iload 6, 2) := by decide +kernel
theorem dX5_look_53 : decode cX5_look 53 = .ok (.iconst 2, 1) := by decide +kernel
theorem dX5_look_54 : decode cX5_look 54 = .ok (.if_icmp .gt 86, 3) := by decide +kernel
theorem dX5_look_57 : decode cX5_look 57 = .ok (.iconst 0, 1) := by decide +kernel
theorem dX5_look_58 : decode cX5_look 58 = .ok (.istore 7, 2) := by decide +kernel
theorem dX5_look_60 : decode cX5_look 60 = .ok (.iload 7, 2) := by decide +kernel
theorem dX5_look_62 : decode cX5_look 62 = .ok (.iconst 2, 1) := by decide +kernel
theorem dX5_look_63 : decode cX5_look 63 = .ok (.if_icmp .gt 71, 3) := by decide +kernel
theorem dX5_look_66 : decode cX5_look 66 = .ok (.iload_n 2, 1) := by decide +kernel
theorem dX5_look_67 : decode cX5_look 67 = .ok (.aload_n 0, 1) := by decide +kernel
theorem dX5_look_68 : decode cX5_look 68 = .ok (.getfield 10, 3) := by decide +kernel
theorem dX5_look_71 : decode cX5_look 71 = .ok (.getfield 60, 3) := by decide +kernel
theorem dX5_look_74 : decode cX5_look 74 = .ok (.getfield 190, 3) := by decide +kernel
theorem dX5_look_77 : decode cX5_look 77 = .ok (.iload_n 1, 1) := by decide +kernel
theorem dX5_look_78 : decode cX5_look 78 = .ok (.iaload, 1) := by decide +kernel
theorem dX5_look_79 : decode cX5_look 79 = .ok (.iload 6, 2) := by decide +kernel
theorem dX5_look_81 : decode cX5_look 81 = .ok (.aload_n 0, 1) := by decide +kernel
theorem dX5_look_82 : decode cX5_look 82 = .ok (.getfield 10, 3) := by decide +kernel
theorem dX5_look_85 : decode cX5_look 85 = .ok (.getfield 60, 3) := by decide +kernel
theorem dX5_look_88 : decode cX5_look 88 = .ok (.getfield 173, 3) := by decide +kernel
theorem dX5_look_91 : decode cX5_look 91 = .ok (.iload_n 1, 1) := by decide +kernel
theorem dX5_look_92 : decode cX5_look 92 = .ok (.iaload, 1) := by decide +kernel
theorem dX5_look_93 : decode cX5_look 93 = .ok (.iload 7, 2) := by decide +kernel
theorem dX5_look_95 : decode cX5_look 95 = .ok (.iload 5, 2) := by decide +kernel
theorem dX5_look_97 : decode cX5_look 97 = .ok (.invokestatic 193, 3) := by decide +kernel
theorem dX5_look_100 : decode cX5_look 100 = .ok (.istore 8, 2) := by decide +kernel
theorem dX5_look_102 : decode cX5_look 102 = .ok (.iload 8, 2) := by decide +kernel
theorem dX5_look_104 : decode cX5_look 104 = .ok (.iload 4, 2) := by decide +kernel
theorem dX5_look_106 : decode cX5_look 106 = .ok (.if_icmp .ge 22, 3) := by decide +kernel
theorem dX5_look_109 : decode cX5_look 109 = .ok (.iload 8, 2) := by decide +kernel
theorem dX5_look_111 : decode cX5_look 111 = .ok (.istore 4, 2) := by decide +kernel
theorem dX5_look_113 : decode cX5_look 113 = .ok (.bipush 100, 2) := by decide +kernel
theorem dX5_look_115 : decode cX5_look 115 = .ok (.iload 5, 2) := by decide +kernel
theorem dX5_look_117 : decode cX5_look 117 = .ok (.imul, 1) := by decide +kernel
theorem dX5_look_118 : decode cX5_look 118 = .ok (.bipush 10, 2) := by decide +kernel
theorem dX5_look_120 : decode cX5_look 120 = .ok (.iload 6, 2) := by decide +kernel
theorem dX5_look_122 : decode cX5_look 122 = .ok (.imul, 1) := by decide +kernel
theorem dX5_look_123 : decode cX5_look 123 = .ok (.iadd, 1) := by decide +kernel
theorem dX5_look_124 : decode cX5_look 124 = .ok (.iload 7, 2) := by decide +kernel
theorem dX5_look_126 : decode cX5_look 126 = .ok (.iadd, 1) := by decide +kernel
theorem dX5_look_127 : decode cX5_look 127 = .ok (.istore_n 3, 1) := by decide +kernel
theorem dX5_look_128 : decode cX5_look 128 = .ok (.iinc 7 1, 3) := by decide +kernel
theorem dX5_look_131 : decode cX5_look 131 = .ok (.goto (-71), 3) := by decide +kernel
theorem dX5_look_134 : decode cX5_look 134 = .ok (.iinc 6 1, 3) := by decide +kernel
theorem dX5_look_137 : decode cX5_look 137 = .ok (.goto (-86), 3) := by decide +kernel
theorem dX5_look_140 : decode cX5_look 140 = .ok (.iinc 5 1, 3) := by decide +kernel
theorem dX5_look_143 : decode cX5_look 143 = .ok (.goto (-101), 3) := by decide +kernel
theorem dX5_look_146 : decode cX5_look 146 = .ok (.iload_n 3, 1) := by decide +kernel
theorem dX5_look_147 : decode cX5_look 147 = .ok (.ireturn, 1) := by decide +kernel
theorem dX5_who_0 : decode cX5_who 0 = .ok (.aload_n 0, 1) := by decide +kernel
theorem dX5_who_1 : decode cX5_who 1 = .ok (.iload_n 1, 1) := by decide +kernel
theorem dX5_who_2 : decode cX5_who 2 = .ok (.invokevirtual 120, 3) := by decide +kernel
theorem dX5_who_5 : decode cX5_who 5 = .ok (.ifCond .ne 10, 3) := by decide +kernel
theorem dX5_who_8 : decode cX5_who 8 = .ok (.aload_n 0, 1) := by decide +kernel
theorem dX5_who_9 : decode cX5_who 9 = .ok (.bipush (-2), 2) := by decide +kernel
theorem dX5_who_11 : decode cX5_who 11 = .ok (.invokevirtual 56, 3) := by decide +kernel
theorem dX5_who_14 : decode cX5_who 14 = .ok (.ireturn, 1) := by decide +kernel
theorem dX5_who_15 : decode cX5_who 15 = .ok (.iconst 0, 1) := by decide +kernel
theorem dX5_who_16 : decode cX5_who 16 = .ok (.istore_n 2, 1) := by decide +kernel
theorem dX5_who_17 : decode cX5_who 17 = .ok (.iconst 0, 1) := by decide +kernel
theorem dX5_who_18 : decode cX5_who 18 = .ok (.istore_n 3, 1) := by decide +kernel
theorem dX5_who_19 : decode cX5_who 19 = .ok (.iload_n 3, 1) := by decide +kernel
theorem dX5_who_20 : decode cX5_who 20 = .ok (.aload_n 0, 1) := by decide +kernel
theorem dX5_who_21 : decode cX5_who 21 = .ok (.getfield 10, 3) := by decide +kernel
theorem dX5_who_24 : decode cX5_who 24 = .ok (.getfield 60, 3) := by decide +kernel
theorem dX5_who_27 : decode cX5_who 27 = .ok (.getfield 63, 3) := by decide +kernel
theorem dX5_who_30 : decode cX5_who 30 = .ok (.if_icmp .ge 30, 3) := by decide +kernel
theorem dX5_who_33 : decode cX5_who 33 = .ok (.aload_n 0, 1) := by decide +kernel
theorem dX5_who_34 : decode cX5_who 34 = .ok (.getfield 10, 3) := by decide +kernel
theorem dX5_who_37 : decode cX5_who 37 = .ok (.getfield 60, 3) := by decide +kernel
theorem dX5_who_40 : decode cX5_who 40 = .ok (.iload_n 3, 1) := by decide +kernel
theorem dX5_who_41 : decode cX5_who 41 = .ok (.invokevirtual 147, 3) := by decide +kernel
theorem dX5_who_44 : decode cX5_who 44 = .ok (.iload_n 1, 1) := by decide +kernel
theorem dX5_who_45 : decode cX5_who 45 = .ok (.if_icmp .ne 9, 3) := by decide +kernel
theorem dX5_who_48 : decode cX5_who 48 = .ok (.iload_n 2, 1) := by decide +kernel
theorem dX5_who_49 : decode cX5_who 49 = .ok (.iconst 1, 1) := by decide +kernel
theorem dX5_who_50 : decode cX5_who 50 = .ok (.iload_n 3, 1) := by decide +kernel
theorem dX5_who_51 : decode cX5_who 51 = .ok (.ishl, 1) := by decide +kernel
theorem dX5_who_52 : decode cX5_who 52 = .ok (.ior, 1) := by decide +kernel
theorem dX5_who_53 : decode cX5_who 53 = .ok (.istore_n 2, 1) := by decide +kernel
theorem dX5_who_54 : decode cX5_who 54 = .ok (.iinc 3 1, 3) := by decide +kernel
theorem dX5_who_57 : decode cX5_who 57 = .ok (.goto (-38), 3) := by decide +kernel
theorem dX5_who_60 : decode cX5_who 60 = .ok (.iload_n 2, 1) := by decide +kernel
theorem dX5_who_61 : decode cX5_who 61 = .ok (.ireturn, 1) := by decide +kernel
theorem dX5_rings_0 : decode cX5_rings 0 = .ok (.aload_n 0, 1) := by decide +kernel
theorem dX5_rings_1 : decode cX5_rings 1 = .ok (.iload_n 1, 1) := by decide +kernel
theorem dX5_rings_2 : decode cX5_rings 2 = .ok (.invokevirtual 120, 3) := by decide +kernel
theorem dX5_rings_5 : decode cX5_rings 5 = .ok (.ifCond .eq 16, 3) := by decide +kernel
theorem dX5_rings_8 : decode cX5_rings 8 = .ok (.aload_n 0, 1) := by decide +kernel
theorem dX5_rings_9 : decode cX5_rings 9 = .ok (.iload_n 2, 1) := by decide +kernel
theorem dX5_rings_10 : decode cX5_rings 10 = .ok (.invokevirtual 120, 3) := by decide +kernel
theorem dX5_rings_13 : decode cX5_rings 13 = .ok (.ifCond .eq 8, 3) := by decide +kernel
theorem dX5_rings_16 : decode cX5_rings 16 = .ok (.iload_n 1, 1) := by decide +kernel
theorem dX5_rings_17 : decode cX5_rings 17 = .ok (.iload_n 2, 1) := by decide +kernel
theorem dX5_rings_18 : decode cX5_rings 18 = .ok (.if_icmp .ne 10, 3) := by decide +kernel
theorem dX5_rings_21 : decode cX5_rings 21 = .ok (.aload_n 0, 1) := by decide +kernel
theorem dX5_rings_22 : decode cX5_rings 22 = .ok (.bipush (-2), 2) := by decide +kernel
theorem dX5_rings_24 : decode cX5_rings 24 = .ok (.invokevirtual 56, 3) := by decide +kernel
theorem dX5_rings_27 : decode cX5_rings 27 = .ok (.ireturn, 1) := by decide +kernel
theorem dX5_rings_28 : decode cX5_rings 28 = .ok (.iconst 0, 1) := by decide +kernel
theorem dX5_rings_29 : decode cX5_rings 29 = .ok (.istore_n 3, 1) := by decide +kernel
theorem dX5_rings_30 : decode cX5_rings 30 = .ok (.iconst 0, 1) := by decide +kernel
theorem dX5_rings_31 : decode cX5_rings 31 = .ok (.istore 4, 2) := by decide +kernel
theorem dX5_rings_33 : decode cX5_rings 33 = .ok (.iload 4, 2) := by decide +kernel
theorem dX5_rings_35 : decode cX5_rings 35 = .ok (.iconst 4, 1) := by decide +kernel
theorem dX5_rings_36 : decode cX5_rings 36 = .ok (.if_icmp .ge 86, 3) := by decide +kernel
theorem dX5_rings_39 : decode cX5_rings 39 = .ok (.aload_n 0, 1) := by decide +kernel
theorem dX5_rings_40 : decode cX5_rings 40 = .ok (.iload_n 1, 1) := by decide +kernel
theorem dX5_rings_41 : decode cX5_rings 41 = .ok (.iload 4, 2) := by decide +kernel
theorem dX5_rings_43 : decode cX5_rings 43 = .ok (.iload_n 1, 1) := by decide +kernel
theorem dX5_rings_44 : decode cX5_rings 44 = .ok (.iload_n 2, 1) := by decide +kernel
theorem dX5_rings_45 : decode cX5_rings 45 = .ok (.invokevirtual 197, 3) := by decide +kernel
theorem dX5_rings_48 : decode cX5_rings 48 = .ok (.aload_n 0, 1) := by decide +kernel
theorem dX5_rings_49 : decode cX5_rings 49 = .ok (.iload_n 1, 1) := by decide +kernel
theorem dX5_rings_50 : decode cX5_rings 50 = .ok (.iload 4, 2) := by decide +kernel
theorem dX5_rings_52 : decode cX5_rings 52 = .ok (.iconst 1, 1) := by decide +kernel
theorem dX5_rings_53 : decode cX5_rings 53 = .ok (.ixor, 1) := by decide +kernel
theorem dX5_rings_54 : decode cX5_rings 54 = .ok (.iload_n 1, 1) := by decide +kernel
theorem dX5_rings_55 : decode cX5_rings 55 = .ok (.iload_n 2, 1) := by decide +kernel
theorem dX5_rings_56 : decode cX5_rings 56 = .ok (.invokevirtual 197, 3) := by decide +kernel
theorem dX5_rings_59 : decode cX5_rings 59 = .ok (.if_icmp .lt 7, 3) := by decide +kernel
theorem dX5_rings_62 : decode cX5_rings 62 = .ok (.iconst 1, 1) := by decide +kernel
theorem dX5_rings_63 : decode cX5_rings 63 = .ok (.goto 4, 3) := by decide +kernel
theorem dX5_rings_66 : decode cX5_rings 66 = .ok (.iconst 0, 1) := by decide +kernel
theorem dX5_rings_67 : decode cX5_rings 67 = .ok (.istore 5, 2) := by decide +kernel
theorem dX5_rings_69 : decode cX5_rings 69 = .ok (.aload_n 0, 1) := by decide +kernel
theorem dX5_rings_70 : decode cX5_rings 70 = .ok (.iload_n 2, 1) := by decide +kernel
theorem dX5_rings_71 : decode cX5_rings 71 = .ok (.iload 4, 2) := by decide +kernel
theorem dX5_rings_73 : decode cX5_rings 73 = .ok (.iload_n 1, 1) := by decide +kernel
theorem dX5_rings_74 : decode cX5_rings 74 = .ok (.iload_n 2, 1) := by decide +kernel
theorem dX5_rings_75 : decode cX5_rings 75 = .ok (.invokevirtual 197, 3) := by decide +kernel
theorem dX5_rings_78 : decode cX5_rings 78 = .ok (.aload_n 0, 1) := by decide +kernel
theorem dX5_rings_79 : decode cX5_rings 79 = .ok (.iload_n 2, 1) := by decide +kernel
theorem dX5_rings_80 : decode cX5_rings 80 = .ok (.iload 4, 2) := by decide +kernel
theorem dX5_rings_82 : decode cX5_rings 82 = .ok (.iconst 2, 1) := by decide +kernel
theorem dX5_rings_83 : decode cX5_rings 83 = .ok (.ixor, 1) := by decide +kernel
theorem dX5_rings_84 : decode cX5_rings 84 = .ok (.iload_n 1, 1) := by decide +kernel
theorem dX5_rings_85 : decode cX5_rings 85 = .ok (.iload_n 2, 1) := by decide +kernel
theorem dX5_rings_86 : decode cX5_rings 86 = .ok (.invokevirtual 197, 3) := by decide +kernel
theorem dX5_rings_89 : decode cX5_rings 89 = .ok (.if_icmp .lt 7, 3) := by decide +kernel
theorem dX5_rings_92 : decode cX5_rings 92 = .ok (.iconst 1, 1) := by decide +kernel
theorem dX5_rings_93 : decode cX5_rings 93 = .ok (.goto 4, 3) := by decide +kernel
theorem dX5_rings_96 : decode cX5_rings 96 = .ok (.iconst 0, 1) := by decide +kernel
theorem dX5_rings_97 : decode cX5_rings 97 = .ok (.istore 6, 2) := by decide +kernel
theorem dX5_rings_99 : decode cX5_rings 99 = .ok (.iload 5, 2) := by decide +kernel
theorem dX5_rings_101 : decode cX5_rings 101 = .ok (.ifCond .eq 15, 3) := by decide +kernel
theorem dX5_rings_104 : decode cX5_rings 104 = .ok (.iload 6, 2) := by decide +kernel
theorem dX5_rings_106 : decode cX5_rings 106 = .ok (.ifCond .eq 10, 3) := by decide +kernel
theorem dX5_rings_109 : decode cX5_rings 109 = .ok (.iload_n 3, 1) := by decide +kernel
theorem dX5_rings_110 : decode cX5_rings 110 = .ok (.iconst 1, 1) := by decide +kernel
theorem dX5_rings_111 : decode cX5_rings 111 = .ok (.iload 4, 2) := by decide +kernel
theorem dX5_rings_113 : decode cX5_rings 113 = .ok (.ishl, 1) := by decide +kernel
theorem dX5_rings_114 : decode cX5_rings 114 = .ok (.ior, 1) := by decide +kernel
theorem dX5_rings_115 : decode cX5_rings 115 = .ok (.istore_n 3, 1) := by decide +kernel
theorem dX5_rings_116 : decode cX5_rings 116 = .ok (.iinc 4 1, 3) := by decide +kernel
theorem dX5_rings_119 : decode cX5_rings 119 = .ok (.goto (-86), 3) := by decide +kernel
theorem dX5_rings_122 : decode cX5_rings 122 = .ok (.iload_n 3, 1) := by decide +kernel
theorem dX5_rings_123 : decode cX5_rings 123 = .ok (.ireturn, 1) := by decide +kernel
theorem dX5_eyes_0 : decode cX5_eyes 0 = .ok (.iload_n 1, 1) := by decide +kernel
theorem dX5_eyes_1 : decode cX5_eyes 1 = .ok (.iconst 0, 1) := by decide +kernel
theorem dX5_eyes_2 : decode cX5_eyes 2 = .ok (.bipush 10, 2) := by decide +kernel
theorem dX5_eyes_4 : decode cX5_eyes 4 = .ok (.invokestatic 75, 3) := by decide +kernel
theorem dX5_eyes_7 : decode cX5_eyes 7 = .ok (.ifCond .ne 10, 3) := by decide +kernel
end
section
theorem dX5_eyes_10 : decode cX5_eyes 10 = .ok (.aload_n 0, 1) := by decide +kernel
theorem dX5_eyes_11 : decode cX5_eyes 11 = .ok (.bipush (-2), 2) := by decide +kernel
theorem dX5_eyes_13 : decode cX5_eyes 13 = .ok (.invokevirtual 56, 3) := by decide +kernel
theorem dX5_eyes_16 : decode cX5_eyes 16 = .ok (.ireturn, 1) := by decide +kernel
theorem dX5_eyes_17 : decode cX5_eyes 17 = .ok (.aload_n 0, 1) := by decide +kernel
theorem dX5_eyes_18 : decode cX5_eyes 18 = .ok (.getfield 10, 3) := by decide +kernel
theorem dX5_eyes_21 : decode cX5_eyes 21 = .ok (.getfield 60, 3) := by decide +kernel
theorem dX5_eyes_24 : decode cX5_eyes 24 = .ok (.invokevirtual 150, 3) := by decide +kernel
theorem dX5_eyes_27 : decode cX5_eyes 27 = .ok (.invokestatic 200, 3) := by decide +kernel
theorem dX5_eyes_30 : decode cX5_eyes 30 = .ok (.bipush 10, 2) := by decide +kernel
theorem dX5_eyes_32 : decode cX5_eyes 32 = .ok (.iload_n 1, 1) := by decide +kernel
theorem dX5_eyes_33 : decode cX5_eyes 33 = .ok (.isub, 1) := by decide +kernel
theorem dX5_eyes_34 : decode cX5_eyes 34 = .ok (.imul, 1) := by decide +kernel
theorem dX5_eyes_35 : decode cX5_eyes 35 = .ok (.istore_n 2, 1) := by decide +kernel
theorem dX5_eyes_36 : decode cX5_eyes 36 = .ok (.bipush 10, 2) := by decide +kernel
theorem dX5_eyes_38 : decode cX5_eyes 38 = .ok (.istore_n 3, 1) := by decide +kernel
theorem dX5_eyes_39 : decode cX5_eyes 39 = .ok (.iload_n 3, 1) := by decide +kernel
theorem dX5_eyes_40 : decode cX5_eyes 40 = .ok (.iconst 1, 1) := by decide +kernel
theorem dX5_eyes_41 : decode cX5_eyes 41 = .ok (.if_icmp .le 22, 3) := by decide +kernel
theorem dX5_eyes_44 : decode cX5_eyes 44 = .ok (.iload_n 2, 1) := by decide +kernel
theorem dX5_eyes_45 : decode cX5_eyes 45 = .ok (.iload_n 3, 1) := by decide +kernel
theorem dX5_eyes_46 : decode cX5_eyes 46 = .ok (.irem, 1) := by decide +kernel
theorem dX5_eyes_47 : decode cX5_eyes 47 = .ok (.ifCond .ne 10, 3) := by decide +kernel
theorem dX5_eyes_50 : decode cX5_eyes 50 = .ok (.bipush 10, 2) := by decide +kernel
theorem dX5_eyes_52 : decode cX5_eyes 52 = .ok (.iload_n 3, 1) := by decide +kernel
theorem dX5_eyes_53 : decode cX5_eyes 53 = .ok (.irem, 1) := by decide +kernel
theorem dX5_eyes_54 : decode cX5_eyes 54 = .ok (.ifCond .eq 9, 3) := by decide +kernel
theorem dX5_eyes_57 : decode cX5_eyes 57 = .ok (.iinc 3 (-1), 3) := by decide +kernel
theorem dX5_eyes_60 : decode cX5_eyes 60 = .ok (.goto (-21), 3) := by decide +kernel
theorem dX5_eyes_63 : decode cX5_eyes 63 = .ok (.aload_n 0, 1) := by decide +kernel
theorem dX5_eyes_64 : decode cX5_eyes 64 = .ok (.iload_n 2, 1) := by decide +kernel
theorem dX5_eyes_65 : decode cX5_eyes 65 = .ok (.iload_n 3, 1) := by decide +kernel
theorem dX5_eyes_66 : decode cX5_eyes 66 = .ok (.idiv, 1) := by decide +kernel
theorem dX5_eyes_67 : decode cX5_eyes 67 = .ok (.i2l, 1) := by decide +kernel
theorem dX5_eyes_68 : decode cX5_eyes 68 = .ok (.putfield 45, 3) := by decide +kernel
theorem dX5_eyes_71 : decode cX5_eyes 71 = .ok (.aload_n 0, 1) := by decide +kernel
theorem dX5_eyes_72 : decode cX5_eyes 72 = .ok (.bipush 10, 2) := by decide +kernel
theorem dX5_eyes_74 : decode cX5_eyes 74 = .ok (.iload_n 3, 1) := by decide +kernel
theorem dX5_eyes_75 : decode cX5_eyes 75 = .ok (.idiv, 1) := by decide +kernel
theorem dX5_eyes_76 : decode cX5_eyes 76 = .ok (.i2l, 1) := by decide +kernel
theorem dX5_eyes_77 : decode cX5_eyes 77 = .ok (.putfield 49, 3) := by decide +kernel
theorem dX5_eyes_80 : decode cX5_eyes 80 = .ok (.iconst 1, 1) := by decide +kernel
theorem dX5_eyes_81 : decode cX5_eyes 81 = .ok (.ireturn, 1) := by decide +kernel
theorem dX5_weeks_0 : decode cX5_weeks 0 = .ok (.iload_n 1, 1) := by decide +kernel
theorem dX5_weeks_1 : decode cX5_weeks 1 = .ok (.iconst 0, 1) := by decide +kernel
theorem dX5_weeks_2 : decode cX5_weeks 2 = .ok (.ldc 205, 2) := by decide +kernel
theorem dX5_weeks_4 : decode cX5_weeks 4 = .ok (.invokestatic 75, 3) := by decide +kernel
theorem dX5_weeks_7 : decode cX5_weeks 7 = .ok (.ifCond .eq 13, 3) := by decide +kernel
theorem dX5_weeks_10 : decode cX5_weeks 10 = .ok (.iload_n 2, 1) := by decide +kernel
theorem dX5_weeks_11 : decode cX5_weeks 11 = .ok (.iconst 0, 1) := by decide +kernel
theorem dX5_weeks_12 : decode cX5_weeks 12 = .ok (.bipush 60, 2) := by decide +kernel
theorem dX5_weeks_14 : decode cX5_weeks 14 = .ok (.invokestatic 75, 3) := by decide +kernel
theorem dX5_weeks_17 : decode cX5_weeks 17 = .ok (.ifCond .ne 10, 3) := by decide +kernel
theorem dX5_weeks_20 : decode cX5_weeks 20 = .ok (.aload_n 0, 1) := by decide +kernel
theorem dX5_weeks_21 : decode cX5_weeks 21 = .ok (.bipush (-2), 2) := by decide +kernel
theorem dX5_weeks_23 : decode cX5_weeks 23 = .ok (.invokevirtual 56, 3) := by decide +kernel
theorem dX5_weeks_26 : decode cX5_weeks 26 = .ok (.ireturn, 1) := by decide +kernel
theorem dX5_weeks_27 : decode cX5_weeks 27 = .ok (.iload_n 1, 1) := by decide +kernel
theorem dX5_weeks_28 : decode cX5_weeks 28 = .ok (.i2l, 1) := by decide +kernel
theorem dX5_weeks_29 : decode cX5_weeks 29 = .ok (.lstore_n 3, 1) := by decide +kernel
theorem dX5_weeks_30 : decode cX5_weeks 30 = .ok (.iconst 0, 1) := by decide +kernel
theorem dX5_weeks_31 : decode cX5_weeks 31 = .ok (.istore 5, 2) := by decide +kernel
theorem dX5_weeks_33 : decode cX5_weeks 33 = .ok (.iconst 0, 1) := by decide +kernel
theorem dX5_weeks_34 : decode cX5_weeks 34 = .ok (.istore 6, 2) := by decide +kernel
theorem dX5_weeks_36 : decode cX5_weeks 36 = .ok (.iload 6, 2) := by decide +kernel
theorem dX5_weeks_38 : decode cX5_weeks 38 = .ok (.iload_n 2, 1) := by decide +kernel
theorem dX5_weeks_39 : decode cX5_weeks 39 = .ok (.if_icmp .ge 91, 3) := by decide +kernel
theorem dX5_weeks_42 : decode cX5_weeks 42 = .ok (.aload_n 0, 1) := by decide +kernel
theorem dX5_weeks_43 : decode cX5_weeks 43 = .ok (.getfield 34, 3) := by decide +kernel
theorem dX5_weeks_46 : decode cX5_weeks 46 = .ok (.aload_n 0, 1) := by decide +kernel
theorem dX5_weeks_47 : decode cX5_weeks 47 = .ok (.getfield 10, 3) := by decide +kernel
theorem dX5_weeks_50 : decode cX5_weeks 50 = .ok (.getfield 60, 3) := by decide +kernel
theorem dX5_weeks_53 : decode cX5_weeks 53 = .ok (.invokevirtual 154, 3) := by decide +kernel
theorem dX5_weeks_56 : decode cX5_weeks 56 = .ok (.iconst 0, 1) := by decide +kernel
theorem dX5_weeks_57 : decode cX5_weeks 57 = .ok (.istore 7, 2) := by decide +kernel
theorem dX5_weeks_59 : decode cX5_weeks 59 = .ok (.iload 7, 2) := by decide +kernel
theorem dX5_weeks_61 : decode cX5_weeks 61 = .ok (.aload_n 0, 1) := by decide +kernel
theorem dX5_weeks_62 : decode cX5_weeks 62 = .ok (.getfield 34, 3) := by decide +kernel
theorem dX5_weeks_65 : decode cX5_weeks 65 = .ok (.getfield 63, 3) := by decide +kernel
theorem dX5_weeks_68 : decode cX5_weeks 68 = .ok (.if_icmp .ge 43, 3) := by decide +kernel
theorem dX5_weeks_71 : decode cX5_weeks 71 = .ok (.lload_n 3, 1) := by decide +kernel
theorem dX5_weeks_72 : decode cX5_weeks 72 = .ok (.ldc2_w 206, 3) := by decide +kernel
theorem dX5_weeks_75 : decode cX5_weeks 75 = .ok (.lmul, 1) := by decide +kernel
theorem dX5_weeks_76 : decode cX5_weeks 76 = .ok (.ldc2_w 208, 3) := by decide +kernel
theorem dX5_weeks_79 : decode cX5_weeks 79 = .ok (.ladd, 1) := by decide +kernel
theorem dX5_weeks_80 : decode cX5_weeks 80 = .ok (.ldc2_w 210, 3) := by decide +kernel
theorem dX5_weeks_83 : decode cX5_weeks 83 = .ok (.lrem, 1) := by decide +kernel
theorem dX5_weeks_84 : decode cX5_weeks 84 = .ok (.lstore_n 3, 1) := by decide +kernel
theorem dX5_weeks_85 : decode cX5_weeks 85 = .ok (.aload_n 0, 1) := by decide +kernel
theorem dX5_weeks_86 : decode cX5_weeks 86 = .ok (.getfield 34, 3) := by decide +kernel
theorem dX5_weeks_89 : decode cX5_weeks 89 = .ok (.getfield 190, 3) := by decide +kernel
theorem dX5_weeks_92 : decode cX5_weeks 92 = .ok (.iload 7, 2) := by decide +kernel
theorem dX5_weeks_94 : decode cX5_weeks 94 = .ok (.lload_n 3, 1) := by decide +kernel
theorem dX5_weeks_95 : decode cX5_weeks 95 = .ok (.ldc2_w 212, 3) := by decide +kernel
theorem dX5_weeks_98 : decode cX5_weeks 98 = .ok (.ldiv, 1) := by decide +kernel
theorem dX5_weeks_99 : decode cX5_weeks 99 = .ok (.ldc2_w 214, 3) := by decide +kernel
theorem dX5_weeks_102 : decode cX5_weeks 102 = .ok (.lrem, 1) := by decide +kernel
theorem dX5_weeks_103 : decode cX5_weeks 103 = .ok (.l2i, 1) := by decide +kernel
theorem dX5_weeks_104 : decode cX5_weeks 104 = .ok (.iastore, 1) := by decide +kernel
theorem dX5_weeks_105 : decode cX5_weeks 105 = .ok (.iinc 7 1, 3) := by decide +kernel
theorem dX5_weeks_108 : decode cX5_weeks 108 = .ok (.goto (-49), 3) := by decide +kernel
theorem dX5_weeks_111 : decode cX5_weeks 111 = .ok (.iload 5, 2) := by decide +kernel
theorem dX5_weeks_113 : decode cX5_weeks 113 = .ok (.aload_n 0, 1) := by decide +kernel
theorem dX5_weeks_114 : decode cX5_weeks 114 = .ok (.getfield 34, 3) := by decide +kernel
theorem dX5_weeks_117 : decode cX5_weeks 117 = .ok (.iconst 3, 1) := by decide +kernel
theorem dX5_weeks_118 : decode cX5_weeks 118 = .ok (.invokevirtual 117, 3) := by decide +kernel
theorem dX5_weeks_121 : decode cX5_weeks 121 = .ok (.iadd, 1) := by decide +kernel
theorem dX5_weeks_122 : decode cX5_weeks 122 = .ok (.istore 5, 2) := by decide +kernel
theorem dX5_weeks_124 : decode cX5_weeks 124 = .ok (.iinc 6 1, 3) := by decide +kernel
theorem dX5_weeks_127 : decode cX5_weeks 127 = .ok (.goto (-91), 3) := by decide +kernel
theorem dX5_weeks_130 : decode cX5_weeks 130 = .ok (.iload 5, 2) := by decide +kernel
theorem dX5_weeks_132 : decode cX5_weeks 132 = .ok (.ireturn, 1) := by decide +kernel
theorem dX5_part_0 : decode cX5_part 0 = .ok (.iload_n 1, 1) := by decide +kernel
theorem dX5_part_1 : decode cX5_part 1 = .ok (.iconst 0, 1) := by decide +kernel
theorem dX5_part_2 : decode cX5_part 2 = .ok (.iconst 1, 1) := by decide +kernel
theorem dX5_part_3 : decode cX5_part 3 = .ok (.invokestatic 75, 3) := by decide +kernel
theorem dX5_part_6 : decode cX5_part 6 = .ok (.ifCond .ne 11, 3) := by decide +kernel
theorem dX5_part_9 : decode cX5_part 9 = .ok (.aload_n 0, 1) := by decide +kernel
theorem dX5_part_10 : decode cX5_part 10 = .ok (.bipush (-2), 2) := by decide +kernel
theorem dX5_part_12 : decode cX5_part 12 = .ok (.invokevirtual 56, 3) := by decide +kernel
theorem dX5_part_15 : decode cX5_part 15 = .ok (.i2l, 1) := by decide +kernel
theorem dX5_part_16 : decode cX5_part 16 = .ok (.lreturn, 1) := by decide +kernel
theorem dX5_part_17 : decode cX5_part 17 = .ok (.iload_n 1, 1) := by decide +kernel
theorem dX5_part_18 : decode cX5_part 18 = .ok (.ifCond .ne 10, 3) := by decide +kernel
theorem dX5_part_21 : decode cX5_part 21 = .ok (.aload_n 0, 1) := by decide +kernel
theorem dX5_part_22 : decode cX5_part 22 = .ok (.getfield 45, 3) := by decide +kernel
theorem dX5_part_25 : decode cX5_part 25 = .ok (.goto 7, 3) := by decide +kernel
theorem dX5_part_28 : decode cX5_part 28 = .ok (.aload_n 0, 1) := by decide +kernel
theorem dX5_part_29 : decode cX5_part 29 = .ok (.getfield 49, 3) := by decide +kernel
theorem dX5_part_32 : decode cX5_part 32 = .ok (.lreturn, 1) := by decide +kernel
theorem dX5_image_0 : decode cX5_image 0 = .ok (.iload_n 1, 1) := by decide +kernel
theorem dX5_image_1 : decode cX5_image 1 = .ok (.iconst 0, 1) := by decide +kernel
theorem dX5_image_2 : decode cX5_image 2 = .ok (.iconst 1, 1) := by decide +kernel
theorem dX5_image_3 : decode cX5_image 3 = .ok (.invokestatic 75, 3) := by decide +kernel
theorem dX5_image_6 : decode cX5_image 6 = .ok (.ifCond .ne 10, 3) := by decide +kernel
theorem dX5_image_9 : decode cX5_image 9 = .ok (.aload_n 0, 1) := by decide +kernel
theorem dX5_image_10 : decode cX5_image 10 = .ok (.bipush (-2), 2) := by decide +kernel
theorem dX5_image_12 : decode cX5_image 12 = .ok (.invokevirtual 56, 3) := by decide +kernel
theorem dX5_image_15 : decode cX5_image 15 = .ok (.ireturn, 1) := by decide +kernel
theorem dX5_image_16 : decode cX5_image 16 = .ok (.aload_n 0, 1) := by decide +kernel
theorem dX5_image_17 : decode cX5_image 17 = .ok (.getfield 16, 3) := by decide +kernel
theorem dX5_image_20 : decode cX5_image 20 = .ok (.iload_n 1, 1) := by decide +kernel
theorem dX5_image_21 : decode cX5_image 21 = .ok (.aaload, 1) := by decide +kernel
theorem dX5_image_22 : decode cX5_image 22 = .ok (.aload_n 0, 1) := by decide +kernel
theorem dX5_image_23 : decode cX5_image 23 = .ok (.getfield 10, 3) := by decide +kernel
theorem dX5_image_26 : decode cX5_image 26 = .ok (.invokevirtual 216, 3) := by decide +kernel
theorem dX5_image_29 : decode cX5_image 29 = .ok (.aload_n 0, 1) := by decide +kernel
theorem dX5_image_30 : decode cX5_image 30 = .ok (.getfield 20, 3) := by decide +kernel
theorem dX5_image_33 : decode cX5_image 33 = .ok (.iload_n 1, 1) := by decide +kernel
theorem dX5_image_34 : decode cX5_image 34 = .ok (.iconst 1, 1) := by decide +kernel
theorem dX5_image_35 : decode cX5_image 35 = .ok (.bastore, 1) := by decide +kernel
theorem dX5_image_36 : decode cX5_image 36 = .ok (.iconst 1, 1) := by decide +kernel
theorem dX5_image_37 : decode cX5_image 37 = .ok (.ireturn, 1) := by decide +kernel
theorem dX5_from_0 : decode cX5_from 0 = .ok (.iload_n 1, 1) := by decide +kernel
theorem dX5_from_1 : decode cX5_from 1 = .ok (.iconst 0, 1) := by decide +kernel
theorem dX5_from_2 : decode cX5_from 2 = .ok (.iconst 1, 1) := by decide +kernel
theorem dX5_from_3 : decode cX5_from 3 = .ok (.invokestatic 75, 3) := by decide +kernel
theorem dX5_from_6 : decode cX5_from 6 = .ok (.ifCond .ne 10, 3) := by decide +kernel
theorem dX5_from_9 : decode cX5_from 9 = .ok (.aload_n 0, 1) := by decide +kernel
theorem dX5_from_10 : decode cX5_from 10 = .ok (.bipush (-2), 2) := by decide +kernel
theorem dX5_from_12 : decode cX5_from 12 = .ok (.invokevirtual 56, 3) := by decide +kernel
theorem dX5_from_15 : decode cX5_from 15 = .ok (.ireturn, 1) := by decide +kernel
theorem dX5_from_16 : decode cX5_from 16 = .ok (.aload_n 0, 1) := by decide +kernel
theorem dX5_from_17 : decode cX5_from 17 = .ok (.getfield 20, 3) := by decide +kernel
theorem dX5_from_20 : decode cX5_from 20 = .ok (.iload_n 1, 1) := by decide +kernel
theorem dX5_from_21 : decode cX5_from 21 = .ok (.baload, 1) := by decide +kernel
theorem dX5_from_22 : decode cX5_from 22 = .ok (.ifCond .ne 10, 3) := by decide +kernel
theorem dX5_from_25 : decode cX5_from 25 = .ok (.aload_n 0, 1) := by decide +kernel
theorem dX5_from_26 : decode cX5_from 26 = .ok (.bipush (-3), 2) := by decide +kernel
theorem dX5_from_28 : decode cX5_from 28 = .ok (.invokevirtual 56, 3) := by decide +kernel
theorem dX5_from_31 : decode cX5_from 31 = .ok (.ireturn, 1) := by decide +kernel
theorem dX5_from_32 : decode cX5_from 32 = .ok (.aload_n 0, 1) := by decide +kernel
theorem dX5_from_33 : decode cX5_from 33 = .ok (.getfield 10, 3) := by decide +kernel
theorem dX5_from_36 : decode cX5_from 36 = .ok (.aload_n 0, 1) := by decide +kernel
theorem dX5_from_37 : decode cX5_from 37 = .ok (.getfield 16, 3) := by decide +kernel
theorem dX5_from_40 : decode cX5_from 40 = .ok (.iload_n 1, 1) := by decide +kernel
theorem dX5_from_41 : decode cX5_from 41 = .ok (.aaload, 1) := by decide +kernel
theorem dX5_from_42 : decode cX5_from 42 = .ok (.invokevirtual 216, 3) := by decide +kernel
theorem dX5_from_45 : decode cX5_from 45 = .ok (.iconst 1, 1) := by decide +kernel
theorem dX5_from_46 : decode cX5_from 46 = .ok (.ireturn, 1) := by decide +kernel
theorem dX5_status_0 : decode cX5_status 0 = .ok (.iload_n 1, 1) := by decide +kernel
theorem dX5_status_1 : decode cX5_status 1 = .ok (.iconst 0, 1) := by decide +kernel
theorem dX5_status_2 : decode cX5_status 2 = .ok (.iconst 2, 1) := by decide +kernel
theorem dX5_status_3 : decode cX5_status 3 = .ok (.invokestatic 75, 3) := by decide +kernel
theorem dX5_status_6 : decode cX5_status 6 = .ok (.ifCond .ne 12, 3) := by decide +kernel
theorem dX5_status_9 : decode cX5_status 9 = .ok (.aload_n 0, 1) := by decide +kernel
theorem dX5_status_10 : decode cX5_status 10 = .ok (.bipush (-2), 2) := by decide +kernel
theorem dX5_status_12 : decode cX5_status 12 = .ok (.invokevirtual 56, 3) := by decide +kernel
theorem dX5_status_15 : decode cX5_status 15 = .ok (.pop, 1) := by decide +kernel
theorem dX5_status_16 : decode cX5_status 16 = .ok (.iconst (-1), 1) := by decide +kernel
theorem dX5_status_17 : decode cX5_status 17 = .ok (.ireturn, 1) := by decide +kernel
theorem dX5_status_18 : decode cX5_status 18 = .ok (.aload_n 0, 1) := by decide +kernel
theorem dX5_status_19 : decode cX5_status 19 = .ok (.getfield 42, 3) := by decide +kernel
theorem dX5_status_22 : decode cX5_status 22 = .ok (.iload_n 1, 1) := by decide +kernel
theorem dX5_status_23 : decode cX5_status 23 = .ok (.iaload, 1) := by decide +kernel
theorem dX5_status_24 : decode cX5_status 24 = .ok (.ireturn, 1) := by decide +kernel
theorem dX5_count_0 : decode cX5_count 0 = .ok (.iload_n 1, 1) := by decide +kernel
theorem dX5_count_1 : decode cX5_count 1 = .ok (.iconst 0, 1) := by decide +kernel
theorem dX5_count_2 : decode cX5_count 2 = .ok (.bipush 7, 2) := by decide +kernel
theorem dX5_count_4 : decode cX5_count 4 = .ok (.invokestatic 75, 3) := by decide +kernel
theorem dX5_count_7 : decode cX5_count 7 = .ok (.ifCond .eq 11, 3) := by decide +kernel
theorem dX5_count_10 : decode cX5_count 10 = .ok (.aload_n 0, 1) := by decide +kernel
theorem dX5_count_11 : decode cX5_count 11 = .ok (.iload_n 1, 1) := by decide +kernel
theorem dX5_count_12 : decode cX5_count 12 = .ok (.invokevirtual 219, 3) := by decide +kernel
theorem dX5_count_15 : decode cX5_count 15 = .ok (.goto 9, 3) := by decide +kernel
theorem dX5_count_18 : decode cX5_count 18 = .ok (.aload_n 0, 1) := by decide +kernel
theorem dX5_count_19 : decode cX5_count 19 = .ok (.bipush (-2), 2) := by decide +kernel
theorem dX5_count_21 : decode cX5_count 21 = .ok (.invokevirtual 56, 3) := by decide +kernel
theorem dX5_count_24 : decode cX5_count 24 = .ok (.ireturn, 1) := by decide +kernel
theorem dX5_digest_0 : decode cX5_digest 0 = .ok (.ldc2_w 222, 3) := by decide +kernel
theorem dX5_digest_3 : decode cX5_digest 3 = .ok (.lstore_n 1, 1) := by decide +kernel
theorem dX5_digest_4 : decode cX5_digest 4 = .ok (.iconst 0, 1) := by decide +kernel
theorem dX5_digest_5 : decode cX5_digest 5 = .ok (.istore_n 3, 1) := by decide +kernel
theorem dX5_digest_6 : decode cX5_digest 6 = .ok (.iload_n 3, 1) := by decide +kernel
theorem dX5_digest_7 : decode cX5_digest 7 = .ok (.bipush 7, 2) := by decide +kernel
theorem dX5_digest_9 : decode cX5_digest 9 = .ok (.if_icmp .gt 22, 3) := by decide +kernel
theorem dX5_digest_12 : decode cX5_digest 12 = .ok (.ldc2_w 214, 3) := by decide +kernel
theorem dX5_digest_15 : decode cX5_digest 15 = .ok (.lload_n 1, 1) := by decide +kernel
theorem dX5_digest_16 : decode cX5_digest 16 = .ok (.lmul, 1) := by decide +kernel
theorem dX5_digest_17 : decode cX5_digest 17 = .ok (.aload_n 0, 1) := by decide +kernel
theorem dX5_digest_18 : decode cX5_digest 18 = .ok (.iload_n 3, 1) := by decide +kernel
theorem dX5_digest_19 : decode cX5_digest 19 = .ok (.invokevirtual 219, 3) := by decide +kernel
theorem dX5_digest_22 : decode cX5_digest 22 = .ok (.i2l, 1) := by decide +kernel
theorem dX5_digest_23 : decode cX5_digest 23 = .ok (.ladd, 1) := by decide +kernel
theorem dX5_digest_24 : decode cX5_digest 24 = .ok (.lstore_n 1, 1) := by decide +kernel
theorem dX5_digest_25 : decode cX5_digest 25 = .ok (.iinc 3 1, 3) := by decide +kernel
theorem dX5_digest_28 : decode cX5_digest 28 = .ok (.goto (-22), 3) := by decide +kernel
theorem dX5_digest_31 : decode cX5_digest 31 = .ok (.iconst 0, 1) := by decide +kernel
theorem dX5_digest_32 : decode cX5_digest 32 = .ok (.istore_n 3, 1) := by decide +kernel
theorem dX5_digest_33 : decode cX5_digest 33 = .ok (.iload_n 3, 1) := by decide +kernel
theorem dX5_digest_34 : decode cX5_digest 34 = .ok (.aload_n 0, 1) := by decide +kernel
theorem dX5_digest_35 : decode cX5_digest 35 = .ok (.getfield 10, 3) := by decide +kernel
theorem dX5_digest_38 : decode cX5_digest 38 = .ok (.getfield 60, 3) := by decide +kernel
theorem dX5_digest_41 : decode cX5_digest 41 = .ok (.getfield 63, 3) := by decide +kernel
theorem dX5_digest_44 : decode cX5_digest 44 = .ok (.if_icmp .ge 45, 3) := by decide +kernel
theorem dX5_digest_47 : decode cX5_digest 47 = .ok (.iconst 0, 1) := by decide +kernel
theorem dX5_digest_48 : decode cX5_digest 48 = .ok (.istore 4, 2) := by decide +kernel
theorem dX5_digest_50 : decode cX5_digest 50 = .ok (.iload 4, 2) := by decide +kernel
theorem dX5_digest_52 : decode cX5_digest 52 = .ok (.iconst 4, 1) := by decide +kernel
theorem dX5_digest_53 : decode cX5_digest 53 = .ok (.if_icmp .gt 30, 3) := by decide +kernel
theorem dX5_digest_56 : decode cX5_digest 56 = .ok (.ldc2_w 214, 3) := by decide +kernel
theorem dX5_digest_59 : decode cX5_digest 59 = .ok (.lload_n 1, 1) := by decide +kernel
theorem dX5_digest_60 : decode cX5_digest 60 = .ok (.lmul, 1) := by decide +kernel
theorem dX5_digest_61 : decode cX5_digest 61 = .ok (.aload_n 0, 1) := by decide +kernel
theorem dX5_digest_62 : decode cX5_digest 62 = .ok (.getfield 10, 3) := by decide +kernel
theorem dX5_digest_65 : decode cX5_digest 65 = .ok (.getfield 60, 3) := by decide +kernel
theorem dX5_digest_68 : decode cX5_digest 68 = .ok (.iload_n 3, 1) := by decide +kernel
theorem dX5_digest_69 : decode cX5_digest 69 = .ok (.iload 4, 2) := by decide +kernel
theorem dX5_digest_71 : decode cX5_digest 71 = .ok (.invokevirtual 141, 3) := by decide +kernel
theorem dX5_digest_74 : decode cX5_digest 74 = .ok (.i2l, 1) := by decide +kernel
theorem dX5_digest_75 : decode cX5_digest 75 = .ok (.ladd, 1) := by decide +kernel
theorem dX5_digest_76 : decode cX5_digest 76 = .ok (.lstore_n 1, 1) := by decide +kernel
theorem dX5_digest_77 : decode cX5_digest 77 = .ok (.iinc 4 1, 3) := by decide +kernel
theorem dX5_digest_80 : decode cX5_digest 80 = .ok (.goto (-30), 3) := by decide +kernel
theorem dX5_digest_83 : decode cX5_digest 83 = .ok (.iinc 3 1, 3) := by decide +kernel
theorem dX5_digest_86 : decode cX5_digest 86 = .ok (.goto (-53), 3) := by decide +kernel
theorem dX5_digest_89 : decode cX5_digest 89 = .ok (.iconst 0, 1) := by decide +kernel
theorem dX5_digest_90 : decode cX5_digest 90 = .ok (.istore_n 3, 1) := by decide +kernel
theorem dX5_digest_91 : decode cX5_digest 91 = .ok (.iload_n 3, 1) := by decide +kernel
theorem dX5_digest_92 : decode cX5_digest 92 = .ok (.aload_n 0, 1) := by decide +kernel
theorem dX5_digest_93 : decode cX5_digest 93 = .ok (.getfield 10, 3) := by decide +kernel
theorem dX5_digest_96 : decode cX5_digest 96 = .ok (.getfield 176, 3) := by decide +kernel
theorem dX5_digest_99 : decode cX5_digest 99 = .ok (.getfield 180, 3) := by decide +kernel
theorem dX5_digest_102 : decode cX5_digest 102 = .ok (.bipush 7, 2) := by decide +kernel
theorem dX5_digest_104 : decode cX5_digest 104 = .ok (.imul, 1) := by decide +kernel
theorem dX5_digest_105 : decode cX5_digest 105 = .ok (.if_icmp .ge 29, 3) := by decide +kernel
theorem dX5_digest_108 : decode cX5_digest 108 = .ok (.ldc2_w 214, 3) := by decide +kernel
theorem dX5_digest_111 : decode cX5_digest 111 = .ok (.lload_n 1, 1) := by decide +kernel
theorem dX5_digest_112 : decode cX5_digest 112 = .ok (.lmul, 1) := by decide +kernel
theorem dX5_digest_113 : decode cX5_digest 113 = .ok (.aload_n 0, 1) := by decide +kernel
theorem dX5_digest_114 : decode cX5_digest 114 = .ok (.getfield 10, 3) := by decide +kernel
theorem dX5_digest_117 : decode cX5_digest 117 = .ok (.getfield 176, 3) := by decide +kernel
theorem dX5_digest_120 : decode cX5_digest 120 = .ok (.getfield 224, 3) := by decide +kernel
theorem dX5_digest_123 : decode cX5_digest 123 = .ok (.iload_n 3, 1) := by decide +kernel
theorem dX5_digest_124 : decode cX5_digest 124 = .ok (.iaload, 1) := by decide +kernel
theorem dX5_digest_125 : decode cX5_digest 125 = .ok (.i2l, 1) := by decide +kernel
theorem dX5_digest_126 : decode cX5_digest 126 = .ok (.ladd, 1) := by decide +kernel
theorem dX5_digest_127 : decode cX5_digest 127 = .ok (.lstore_n 1, 1) := by decide +kernel
theorem dX5_digest_128 : decode cX5_digest 128 = .ok (.iinc 3 1, 3) := by decide +kernel
theorem dX5_digest_131 : decode cX5_digest 131 = .ok (.goto (-40), 3) := by decide +kernel
theorem dX5_digest_134 : decode cX5_digest 134 = .ok (.ldc2_w 214, 3) := by decide +kernel
theorem dX5_digest_137 : decode cX5_digest 137 = .ok (.lload_n 1, 1) := by decide +kernel
theorem dX5_digest_138 : decode cX5_digest 138 = .ok (.lmul, 1) := by decide +kernel
theorem dX5_digest_139 : decode cX5_digest 139 = .ok (.aload_n 0, 1) := by decide +kernel
theorem dX5_digest_140 : decode cX5_digest 140 = .ok (.getfield 45, 3) := by decide +kernel
theorem dX5_digest_143 : decode cX5_digest 143 = .ok (.ladd, 1) := by decide +kernel
theorem dX5_digest_144 : decode cX5_digest 144 = .ok (.lstore_n 1, 1) := by decide +kernel
theorem dX5_digest_145 : decode cX5_digest 145 = .ok (.ldc2_w 214, 3) := by decide +kernel
theorem dX5_digest_148 : decode cX5_digest 148 = .ok (.lload_n 1, 1) := by decide +kernel
theorem dX5_digest_149 : decode cX5_digest 149 = .ok (.lmul, 1) := by decide +kernel
theorem dX5_digest_150 : decode cX5_digest 150 = .ok (.aload_n 0, 1) := by decide +kernel
theorem dX5_digest_151 : decode cX5_digest 151 = .ok (.getfield 49, 3) := by decide +kernel
theorem dX5_digest_154 : decode cX5_digest 154 = .ok (.ladd, 1) := by decide +kernel
theorem dX5_digest_155 : decode cX5_digest 155 = .ok (.lreturn, 1) := by decide +kernel
theorem dX5_within_0 : decode cX5_within 0 = .ok (.iload_n 0, 1) := by decide +kernel
theorem dX5_within_1 : decode cX5_within 1 = .ok (.iload_n 1, 1) := by decide +kernel
theorem dX5_within_2 : decode cX5_within 2 = .ok (.if_icmp .lt 12, 3) := by decide +kernel
theorem dX5_within_5 : decode cX5_within 5 = .ok (.iload_n 0, 1) := by decide +kernel
theorem dX5_within_6 : decode cX5_within 6 = .ok (.iload_n 2, 1) := by decide +kernel
theorem dX5_within_7 : decode cX5_within 7 = .ok (.if_icmp .gt 7, 3) := by decide +kernel
theorem dX5_within_10 : decode cX5_within 10 = .ok (.iconst 1, 1) := by decide +kernel
theorem dX5_within_11 : decode cX5_within 11 = .ok (.goto 4, 3) := by decide +kernel
theorem dX5_within_14 : decode cX5_within 14 = .ok (.iconst 0, 1) := by decide +kernel
theorem dX5_within_15 : decode cX5_within 15 = .ok (.ireturn, 1) := by decide +kernel
theorem dX5_isSeat_0 : decode cX5_isSeat 0 = .ok (.iload_n 0, 1) := by decide +kernel
theorem dX5_isSeat_1 : decode cX5_isSeat 1 = .ok (.iconst 0, 1) := by decide +kernel
theorem dX5_isSeat_2 : decode cX5_isSeat 2 = .ok (.bipush 7, 2) := by decide +kernel
theorem dX5_isSeat_4 : decode cX5_isSeat 4 = .ok (.invokestatic 75, 3) := by decide +kernel
theorem dX5_isSeat_7 : decode cX5_isSeat 7 = .ok (.ireturn, 1) := by decide +kernel
theorem dX5_isChild_0 : decode cX5_isChild 0 = .ok (.iload_n 1, 1) := by decide +kernel
theorem dX5_isChild_1 : decode cX5_isChild 1 = .ok (.iconst 0, 1) := by decide +kernel
theorem dX5_isChild_2 : decode cX5_isChild 2 = .ok (.aload_n 0, 1) := by decide +kernel
theorem dX5_isChild_3 : decode cX5_isChild 3 = .ok (.getfield 10, 3) := by decide +kernel
theorem dX5_isChild_6 : decode cX5_isChild 6 = .ok (.getfield 60, 3) := by decide +kernel
theorem dX5_isChild_9 : decode cX5_isChild 9 = .ok (.getfield 63, 3) := by decide +kernel
theorem dX5_isChild_12 : decode cX5_isChild 12 = .ok (.iconst 1, 1) := by decide +kernel
theorem dX5_isChild_13 : decode cX5_isChild 13 = .ok (.isub, 1) := by decide +kernel
theorem dX5_isChild_14 : decode cX5_isChild 14 = .ok (.invokestatic 75, 3) := by decide +kernel
theorem dX5_isChild_17 : decode cX5_isChild 17 = .ok (.ireturn, 1) := by decide +kernel
theorem dX5_refuse_0 : decode cX5_refuse 0 = .ok (.bipush (-2), 2) := by decide +kernel
theorem dX5_refuse_2 : decode cX5_refuse 2 = .ok (.iload_n 1, 1) := by decide +kernel
theorem dX5_refuse_3 : decode cX5_refuse 3 = .ok (.isub, 1) := by decide +kernel
theorem dX5_refuse_4 : decode cX5_refuse 4 = .ok (.istore_n 2, 1) := by decide +kernel
theorem dX5_refuse_5 : decode cX5_refuse 5 = .ok (.iload_n 2, 1) := by decide +kernel
theorem dX5_refuse_6 : decode cX5_refuse 6 = .ok (.iconst 0, 1) := by decide +kernel
theorem dX5_refuse_7 : decode cX5_refuse 7 = .ok (.aload_n 0, 1) := by decide +kernel
theorem dX5_refuse_8 : decode cX5_refuse 8 = .ok (.getfield 42, 3) := by decide +kernel
theorem dX5_refuse_11 : decode cX5_refuse 11 = .ok (.arraylength, 1) := by decide +kernel
theorem dX5_refuse_12 : decode cX5_refuse 12 = .ok (.iconst 1, 1) := by decide +kernel
theorem dX5_refuse_13 : decode cX5_refuse 13 = .ok (.isub, 1) := by decide +kernel
theorem dX5_refuse_14 : decode cX5_refuse 14 = .ok (.invokestatic 75, 3) := by decide +kernel
theorem dX5_refuse_17 : decode cX5_refuse 17 = .ok (.ifCond .eq 13, 3) := by decide +kernel
theorem dX5_refuse_20 : decode cX5_refuse 20 = .ok (.aload_n 0, 1) := by decide +kernel
theorem dX5_refuse_21 : decode cX5_refuse 21 = .ok (.getfield 42, 3) := by decide +kernel
theorem dX5_refuse_24 : decode cX5_refuse 24 = .ok (.iload_n 2, 1) := by decide +kernel
theorem dX5_refuse_25 : decode cX5_refuse 25 = .ok (.dup2, 1) := by decide +kernel
theorem dX5_refuse_26 : decode cX5_refuse 26 = .ok (.iaload, 1) := by decide +kernel
theorem dX5_refuse_27 : decode cX5_refuse 27 = .ok (.iconst 1, 1) := by decide +kernel
theorem dX5_refuse_28 : decode cX5_refuse 28 = .ok (.iadd, 1) := by decide +kernel
theorem dX5_refuse_29 : decode cX5_refuse 29 = .ok (.iastore, 1) := by decide +kernel
theorem dX5_refuse_30 : decode cX5_refuse 30 = .ok (.iload_n 1, 1) := by decide +kernel
theorem dX5_refuse_31 : decode cX5_refuse 31 = .ok (.ireturn, 1) := by decide +kernel
theorem dX5_howMany_0 : decode cX5_howMany 0 = .ok (.iload_n 1, 1) := by decide +kernel
theorem dX5_howMany_1 : decode cX5_howMany 1 = .ok (.tableswitch 120 0 6 #[43, 54, 65, 76, 87, 98, 109], 43) := by decide +kernel
theorem dX5_howMany_44 : decode cX5_howMany 44 = .ok (.aload_n 0, 1) := by decide +kernel
theorem dX5_howMany_45 : decode cX5_howMany 45 = .ok (.getfield 10, 3) := by decide +kernel
theorem dX5_howMany_48 : decode cX5_howMany 48 = .ok (.getfield 60, 3) := by decide +kernel
theorem dX5_howMany_51 : decode cX5_howMany 51 = .ok (.getfield 63, 3) := by decide +kernel
theorem dX5_howMany_54 : decode cX5_howMany 54 = .ok (.ireturn, 1) := by decide +kernel
theorem dX5_howMany_55 : decode cX5_howMany 55 = .ok (.aload_n 0, 1) := by decide +kernel
theorem dX5_howMany_56 : decode cX5_howMany 56 = .ok (.getfield 10, 3) := by decide +kernel
theorem dX5_howMany_59 : decode cX5_howMany 59 = .ok (.getfield 60, 3) := by decide +kernel
theorem dX5_howMany_62 : decode cX5_howMany 62 = .ok (.getfield 108, 3) := by decide +kernel
theorem dX5_howMany_65 : decode cX5_howMany 65 = .ok (.ireturn, 1) := by decide +kernel
theorem dX5_howMany_66 : decode cX5_howMany 66 = .ok (.aload_n 0, 1) := by decide +kernel
theorem dX5_howMany_67 : decode cX5_howMany 67 = .ok (.getfield 10, 3) := by decide +kernel
theorem dX5_howMany_70 : decode cX5_howMany 70 = .ok (.getfield 60, 3) := by decide +kernel
theorem dX5_howMany_73 : decode cX5_howMany 73 = .ok (.getfield 157, 3) := by decide +kernel
theorem dX5_howMany_76 : decode cX5_howMany 76 = .ok (.ireturn, 1) := by decide +kernel
theorem dX5_howMany_77 : decode cX5_howMany 77 = .ok (.aload_n 0, 1) := by decide +kernel
theorem dX5_howMany_78 : decode cX5_howMany 78 = .ok (.getfield 10, 3) := by decide +kernel
theorem dX5_howMany_81 : decode cX5_howMany 81 = .ok (.getfield 60, 3) := by decide +kernel
theorem dX5_howMany_84 : decode cX5_howMany 84 = .ok (.getfield 227, 3) := by decide +kernel
theorem dX5_howMany_87 : decode cX5_howMany 87 = .ok (.ireturn, 1) := by decide +kernel
theorem dX5_howMany_88 : decode cX5_howMany 88 = .ok (.aload_n 0, 1) := by decide +kernel
theorem dX5_howMany_89 : decode cX5_howMany 89 = .ok (.getfield 10, 3) := by decide +kernel
theorem dX5_howMany_92 : decode cX5_howMany 92 = .ok (.getfield 60, 3) := by decide +kernel
theorem dX5_howMany_95 : decode cX5_howMany 95 = .ok (.getfield 129, 3) := by decide +kernel
theorem dX5_howMany_98 : decode cX5_howMany 98 = .ok (.ireturn, 1) := by decide +kernel
theorem dX5_howMany_99 : decode cX5_howMany 99 = .ok (.aload_n 0, 1) := by decide +kernel
theorem dX5_howMany_100 : decode cX5_howMany 100 = .ok (.getfield 10, 3) := by decide +kernel
theorem dX5_howMany_103 : decode cX5_howMany 103 = .ok (.getfield 176, 3) := by decide +kernel
theorem dX5_howMany_106 : decode cX5_howMany 106 = .ok (.getfield 180, 3) := by decide +kernel
theorem dX5_howMany_109 : decode cX5_howMany 109 = .ok (.ireturn, 1) := by decide +kernel
theorem dX5_howMany_110 : decode cX5_howMany 110 = .ok (.aload_n 0, 1) := by decide +kernel
theorem dX5_howMany_111 : decode cX5_howMany 111 = .ok (.getfield 10, 3) := by decide +kernel
theorem dX5_howMany_114 : decode cX5_howMany 114 = .ok (.getfield 82, 3) := by decide +kernel
theorem dX5_howMany_117 : decode cX5_howMany 117 = .ok (.getfield 132, 3) := by decide +kernel
theorem dX5_howMany_120 : decode cX5_howMany 120 = .ok (.ireturn, 1) := by decide +kernel
theorem dX5_howMany_121 : decode cX5_howMany 121 = .ok (.aload_n 0, 1) := by decide +kernel
theorem dX5_howMany_122 : decode cX5_howMany 122 = .ok (.getfield 27, 3) := by decide +kernel
theorem dX5_howMany_125 : decode cX5_howMany 125 = .ok (.getfield 95, 3) := by decide +kernel
theorem dX5_howMany_128 : decode cX5_howMany 128 = .ok (.ireturn, 1) := by decide +kernel
theorem dX5_bitesWithCarrot_0 : decode cX5_bitesWithCarrot 0 = .ok (.aload_n 0, 1) := by decide +kernel
theorem dX5_bitesWithCarrot_1 : decode cX5_bitesWithCarrot 1 = .ok (.getfield 34, 3) := by decide +kernel
theorem dX5_bitesWithCarrot_4 : decode cX5_bitesWithCarrot 4 = .ok (.aload_n 0, 1) := by decide +kernel
theorem dX5_bitesWithCarrot_5 : decode cX5_bitesWithCarrot 5 = .ok (.getfield 10, 3) := by decide +kernel
theorem dX5_bitesWithCarrot_8 : decode cX5_bitesWithCarrot 8 = .ok (.getfield 60, 3) := by decide +kernel
theorem dX5_bitesWithCarrot_11 : decode cX5_bitesWithCarrot 11 = .ok (.invokevirtual 154, 3) := by decide +kernel
theorem dX5_bitesWithCarrot_14 : decode cX5_bitesWithCarrot 14 = .ok (.aload_n 0, 1) := by decide +kernel
theorem dX5_bitesWithCarrot_15 : decode cX5_bitesWithCarrot 15 = .ok (.getfield 34, 3) := by decide +kernel
theorem dX5_bitesWithCarrot_18 : decode cX5_bitesWithCarrot 18 = .ok (.iload_n 2, 1) := by decide +kernel
theorem dX5_bitesWithCarrot_19 : decode cX5_bitesWithCarrot 19 = .ok (.invokevirtual 117, 3) := by decide +kernel
theorem dX5_bitesWithCarrot_22 : decode cX5_bitesWithCarrot 22 = .ok (.istore_n 3, 1) := by decide +kernel
theorem dX5_bitesWithCarrot_23 : decode cX5_bitesWithCarrot 23 = .ok (.aload_n 0, 1) := by decide +kernel
theorem dX5_bitesWithCarrot_24 : decode cX5_bitesWithCarrot 24 = .ok (.getfield 34, 3) := by decide +kernel
theorem dX5_bitesWithCarrot_27 : decode cX5_bitesWithCarrot 27 = .ok (.iload_n 1, 1) := by decide +kernel
theorem dX5_bitesWithCarrot_28 : decode cX5_bitesWithCarrot 28 = .ok (.invokevirtual 123, 3) := by decide +kernel
theorem dX5_bitesWithCarrot_31 : decode cX5_bitesWithCarrot 31 = .ok (.pop, 1) := by decide +kernel
theorem dX5_bitesWithCarrot_32 : decode cX5_bitesWithCarrot 32 = .ok (.iload_n 3, 1) := by decide +kernel
theorem dX5_bitesWithCarrot_33 : decode cX5_bitesWithCarrot 33 = .ok (.aload_n 0, 1) := by decide +kernel
theorem dX5_bitesWithCarrot_34 : decode cX5_bitesWithCarrot 34 = .ok (.getfield 34, 3) := by decide +kernel
theorem dX5_bitesWithCarrot_37 : decode cX5_bitesWithCarrot 37 = .ok (.bipush 20, 2) := by decide +kernel
theorem dX5_bitesWithCarrot_39 : decode cX5_bitesWithCarrot 39 = .ok (.iload_n 2, 1) := by decide +kernel
theorem dX5_bitesWithCarrot_40 : decode cX5_bitesWithCarrot 40 = .ok (.isub, 1) := by decide +kernel
theorem dX5_bitesWithCarrot_41 : decode cX5_bitesWithCarrot 41 = .ok (.invokevirtual 117, 3) := by decide +kernel
theorem dX5_bitesWithCarrot_44 : decode cX5_bitesWithCarrot 44 = .ok (.iadd, 1) := by decide +kernel
theorem dX5_bitesWithCarrot_45 : decode cX5_bitesWithCarrot 45 = .ok (.ireturn, 1) := by decide +kernel
theorem dX5_seatRest_0 : decode cX5_seatRest 0 = .ok (.aload_n 0, 1) := by decide +kernel
theorem dX5_seatRest_1 : decode cX5_seatRest 1 = .ok (.iload_n 1, 1) := by decide +kernel
theorem dX5_seatRest_2 : decode cX5_seatRest 2 = .ok (.putfield 63, 3) := by decide +kernel
theorem dX5_seatRest_5 : decode cX5_seatRest 5 = .ok (.aload_n 0, 1) := by decide +kernel
theorem dX5_seatRest_6 : decode cX5_seatRest 6 = .ok (.invokevirtual 150, 3) := by decide +kernel
theorem dX5_seatRest_9 : decode cX5_seatRest 9 = .ok (.invokestatic 200, 3) := by decide +kernel
theorem dX5_seatRest_12 : decode cX5_seatRest 12 = .ok (.istore 5, 2) := by decide +kernel
theorem dX5_seatRest_14 : decode cX5_seatRest 14 = .ok (.iload 5, 2) := by decide +kernel
theorem dX5_seatRest_16 : decode cX5_seatRest 16 = .ok (.iload_n 3, 1) := by decide +kernel
theorem dX5_seatRest_17 : decode cX5_seatRest 17 = .ok (.if_icmp .lt 5, 3) := by decide +kernel
theorem dX5_seatRest_20 : decode cX5_seatRest 20 = .ok (.iload_n 3, 1) := by decide +kernel
theorem dX5_seatRest_21 : decode cX5_seatRest 21 = .ok (.ireturn, 1) := by decide +kernel
theorem dX5_seatRest_22 : decode cX5_seatRest 22 = .ok (.iload_n 1, 1) := by decide +kernel
theorem dX5_seatRest_23 : decode cX5_seatRest 23 = .ok (.iload_n 2, 1) := by decide +kernel
theorem dX5_seatRest_24 : decode cX5_seatRest 24 = .ok (.if_icmp .ge 9, 3) := by decide +kernel
theorem dX5_seatRest_27 : decode cX5_seatRest 27 = .ok (.iload_n 1, 1) := by decide +kernel
theorem dX5_seatRest_28 : decode cX5_seatRest 28 = .ok (.bipush 6, 2) := by decide +kernel
theorem dX5_seatRest_30 : decode cX5_seatRest 30 = .ok (.if_icmp .lt 19, 3) := by decide +kernel
theorem dX5_seatRest_33 : decode cX5_seatRest 33 = .ok (.aload_n 0, 1) := by decide +kernel
theorem dX5_seatRest_34 : decode cX5_seatRest 34 = .ok (.getfield 126, 3) := by decide +kernel
theorem dX5_seatRest_37 : decode cX5_seatRest 37 = .ok (.iconst 0, 1) := by decide +kernel
theorem dX5_seatRest_38 : decode cX5_seatRest 38 = .ok (.aload 4, 2) := by decide +kernel
theorem dX5_seatRest_40 : decode cX5_seatRest 40 = .ok (.iconst 0, 1) := by decide +kernel
theorem dX5_seatRest_41 : decode cX5_seatRest 41 = .ok (.bipush 6, 2) := by decide +kernel
theorem dX5_seatRest_43 : decode cX5_seatRest 43 = .ok (.invokestatic 230, 3) := by decide +kernel
theorem dX5_seatRest_46 : decode cX5_seatRest 46 = .ok (.iload 5, 2) := by decide +kernel
theorem dX5_seatRest_48 : decode cX5_seatRest 48 = .ok (.ireturn, 1) := by decide +kernel
theorem dX5_seatRest_49 : decode cX5_seatRest 49 = .ok (.iload_n 3, 1) := by decide +kernel
theorem dX5_seatRest_50 : decode cX5_seatRest 50 = .ok (.istore 6, 2) := by decide +kernel
theorem dX5_seatRest_52 : decode cX5_seatRest 52 = .ok (.iconst 0, 1) := by decide +kernel
theorem dX5_seatRest_53 : decode cX5_seatRest 53 = .ok (.istore 7, 2) := by decide +kernel
theorem dX5_seatRest_55 : decode cX5_seatRest 55 = .ok (.iload 7, 2) := by decide +kernel
theorem dX5_seatRest_57 : decode cX5_seatRest 57 = .ok (.bipush 8, 2) := by decide +kernel
theorem dX5_seatRest_59 : decode cX5_seatRest 59 = .ok (.if_icmp .ge 46, 3) := by decide +kernel
theorem dX5_seatRest_62 : decode cX5_seatRest 62 = .ok (.aload_n 0, 1) := by decide +kernel
theorem dX5_seatRest_63 : decode cX5_seatRest 63 = .ok (.iload_n 1, 1) := by decide +kernel
theorem dX5_seatRest_64 : decode cX5_seatRest 64 = .ok (.putfield 63, 3) := by decide +kernel
theorem dX5_seatRest_67 : decode cX5_seatRest 67 = .ok (.aload_n 0, 1) := by decide +kernel
theorem dX5_seatRest_68 : decode cX5_seatRest 68 = .ok (.iload 7, 2) := by decide +kernel
theorem dX5_seatRest_70 : decode cX5_seatRest 70 = .ok (.invokevirtual 79, 3) := by decide +kernel
theorem dX5_seatRest_73 : decode cX5_seatRest 73 = .ok (.iconst (-1), 1) := by decide +kernel
theorem dX5_seatRest_74 : decode cX5_seatRest 74 = .ok (.if_icmp .ne 25, 3) := by decide +kernel
theorem dX5_seatRest_77 : decode cX5_seatRest 77 = .ok (.aload_n 0, 1) := by decide +kernel
theorem dX5_seatRest_78 : decode cX5_seatRest 78 = .ok (.getfield 126, 3) := by decide +kernel
theorem dX5_seatRest_81 : decode cX5_seatRest 81 = .ok (.iload_n 1, 1) := by decide +kernel
theorem dX5_seatRest_82 : decode cX5_seatRest 82 = .ok (.iload 7, 2) := by decide +kernel
theorem dX5_seatRest_84 : decode cX5_seatRest 84 = .ok (.iastore, 1) := by decide +kernel
theorem dX5_seatRest_85 : decode cX5_seatRest 85 = .ok (.aload_n 0, 1) := by decide +kernel
theorem dX5_seatRest_86 : decode cX5_seatRest 86 = .ok (.iload_n 1, 1) := by decide +kernel
theorem dX5_seatRest_87 : decode cX5_seatRest 87 = .ok (.iconst 1, 1) := by decide +kernel
theorem dX5_seatRest_88 : decode cX5_seatRest 88 = .ok (.iadd, 1) := by decide +kernel
theorem dX5_seatRest_89 : decode cX5_seatRest 89 = .ok (.iload_n 2, 1) := by decide +kernel
theorem dX5_seatRest_90 : decode cX5_seatRest 90 = .ok (.iload 6, 2) := by decide +kernel
theorem dX5_seatRest_92 : decode cX5_seatRest 92 = .ok (.aload 4, 2) := by decide +kernel
theorem dX5_seatRest_94 : decode cX5_seatRest 94 = .ok (.invokestatic 169, 3) := by decide +kernel
theorem dX5_seatRest_97 : decode cX5_seatRest 97 = .ok (.istore 6, 2) := by decide +kernel
theorem dX5_seatRest_99 : decode cX5_seatRest 99 = .ok (.iinc 7 1, 3) := by decide +kernel
theorem dX5_seatRest_102 : decode cX5_seatRest 102 = .ok (.goto (-47), 3) := by decide +kernel
theorem dX5_seatRest_105 : decode cX5_seatRest 105 = .ok (.iload 6, 2) := by decide +kernel
theorem dX5_seatRest_107 : decode cX5_seatRest 107 = .ok (.ireturn, 1) := by decide +kernel
theorem dX5_ringGain_0 : decode cX5_ringGain 0 = .ok (.iload_n 2, 1) := by decide +kernel
theorem dX5_ringGain_1 : decode cX5_ringGain 1 = .ok (.iconst 1, 1) := by decide +kernel
theorem dX5_ringGain_2 : decode cX5_ringGain 2 = .ok (.iand, 1) := by decide +kernel
theorem dX5_ringGain_3 : decode cX5_ringGain 3 = .ok (.ifCond .ne 7, 3) := by decide +kernel
theorem dX5_ringGain_6 : decode cX5_ringGain 6 = .ok (.iconst 1, 1) := by decide +kernel
theorem dX5_ringGain_7 : decode cX5_ringGain 7 = .ok (.goto 4, 3) := by decide +kernel
theorem dX5_ringGain_10 : decode cX5_ringGain 10 = .ok (.iconst 0, 1) := by decide +kernel
theorem dX5_ringGain_11 : decode cX5_ringGain 11 = .ok (.istore 5, 2) := by decide +kernel
theorem dX5_ringGain_13 : decode cX5_ringGain 13 = .ok (.iload_n 2, 1) := by decide +kernel
theorem dX5_ringGain_14 : decode cX5_ringGain 14 = .ok (.iconst 2, 1) := by decide +kernel
theorem dX5_ringGain_15 : decode cX5_ringGain 15 = .ok (.iand, 1) := by decide +kernel
theorem dX5_ringGain_16 : decode cX5_ringGain 16 = .ok (.ifCond .ne 7, 3) := by decide +kernel
theorem dX5_ringGain_19 : decode cX5_ringGain 19 = .ok (.iconst 1, 1) := by decide +kernel
theorem dX5_ringGain_20 : decode cX5_ringGain 20 = .ok (.goto 4, 3) := by decide +kernel
theorem dX5_ringGain_23 : decode cX5_ringGain 23 = .ok (.iconst 0, 1) := by decide +kernel
theorem dX5_ringGain_24 : decode cX5_ringGain 24 = .ok (.istore 6, 2) := by decide +kernel
theorem dX5_ringGain_26 : decode cX5_ringGain 26 = .ok (.aload_n 0, 1) := by decide +kernel
theorem dX5_ringGain_27 : decode cX5_ringGain 27 = .ok (.getfield 10, 3) := by decide +kernel
theorem dX5_ringGain_30 : decode cX5_ringGain 30 = .ok (.getfield 60, 3) := by decide +kernel
theorem dX5_ringGain_33 : decode cX5_ringGain 33 = .ok (.invokevirtual 150, 3) := by decide +kernel
theorem dX5_ringGain_36 : decode cX5_ringGain 36 = .ok (.istore 7, 2) := by decide +kernel
theorem dX5_ringGain_38 : decode cX5_ringGain 38 = .ok (.iload 5, 2) := by decide +kernel
theorem dX5_ringGain_40 : decode cX5_ringGain 40 = .ok (.ifCond .eq 13, 3) := by decide +kernel
theorem dX5_ringGain_43 : decode cX5_ringGain 43 = .ok (.iload 7, 2) := by decide +kernel
theorem dX5_ringGain_45 : decode cX5_ringGain 45 = .ok (.iconst 1, 1) := by decide +kernel
theorem dX5_ringGain_46 : decode cX5_ringGain 46 = .ok (.iload_n 3, 1) := by decide +kernel
theorem dX5_ringGain_47 : decode cX5_ringGain 47 = .ok (.ishl, 1) := by decide +kernel
theorem dX5_ringGain_48 : decode cX5_ringGain 48 = .ok (.iconst (-1), 1) := by decide +kernel
theorem dX5_ringGain_49 : decode cX5_ringGain 49 = .ok (.ixor, 1) := by decide +kernel
theorem dX5_ringGain_50 : decode cX5_ringGain 50 = .ok (.iand, 1) := by decide +kernel
theorem dX5_ringGain_51 : decode cX5_ringGain 51 = .ok (.istore 7, 2) := by decide +kernel
theorem dX5_ringGain_53 : decode cX5_ringGain 53 = .ok (.iload 6, 2) := by decide +kernel
theorem dX5_ringGain_55 : decode cX5_ringGain 55 = .ok (.ifCond .eq 14, 3) := by decide +kernel
theorem dX5_ringGain_58 : decode cX5_ringGain 58 = .ok (.iload 7, 2) := by decide +kernel
theorem dX5_ringGain_60 : decode cX5_ringGain 60 = .ok (.iconst 1, 1) := by decide +kernel
theorem dX5_ringGain_61 : decode cX5_ringGain 61 = .ok (.iload 4, 2) := by decide +kernel
theorem dX5_ringGain_63 : decode cX5_ringGain 63 = .ok (.ishl, 1) := by decide +kernel
theorem dX5_ringGain_64 : decode cX5_ringGain 64 = .ok (.iconst (-1), 1) := by decide +kernel
theorem dX5_ringGain_65 : decode cX5_ringGain 65 = .ok (.ixor, 1) := by decide +kernel
theorem dX5_ringGain_66 : decode cX5_ringGain 66 = .ok (.iand, 1) := by decide +kernel
theorem dX5_ringGain_67 : decode cX5_ringGain 67 = .ok (.istore 7, 2) := by decide +kernel
theorem dX5_ringGain_69 : decode cX5_ringGain 69 = .ok (.iload_n 1, 1) := by decide +kernel
theorem dX5_ringGain_70 : decode cX5_ringGain 70 = .ok (.iload_n 3, 1) := by decide +kernel
theorem dX5_ringGain_71 : decode cX5_ringGain 71 = .ok (.if_icmp .ne 8, 3) := by decide +kernel
theorem dX5_ringGain_74 : decode cX5_ringGain 74 = .ok (.iload 5, 2) := by decide +kernel
theorem dX5_ringGain_76 : decode cX5_ringGain 76 = .ok (.goto 5, 3) := by decide +kernel
theorem dX5_ringGain_79 : decode cX5_ringGain 79 = .ok (.iload 6, 2) := by decide +kernel
theorem dX5_ringGain_81 : decode cX5_ringGain 81 = .ok (.istore 8, 2) := by decide +kernel
theorem dX5_ringGain_83 : decode cX5_ringGain 83 = .ok (.iload 8, 2) := by decide +kernel
theorem dX5_ringGain_85 : decode cX5_ringGain 85 = .ok (.ifCond .eq 7, 3) := by decide +kernel
theorem dX5_ringGain_88 : decode cX5_ringGain 88 = .ok (.iconst 0, 1) := by decide +kernel
theorem dX5_ringGain_89 : decode cX5_ringGain 89 = .ok (.goto 4, 3) := by decide +kernel
theorem dX5_ringGain_92 : decode cX5_ringGain 92 = .ok (.iconst 1, 1) := by decide +kernel
theorem dX5_ringGain_93 : decode cX5_ringGain 93 = .ok (.iconst 2, 1) := by decide +kernel
theorem dX5_ringGain_94 : decode cX5_ringGain 94 = .ok (.aload_n 0, 1) := by decide +kernel
theorem dX5_ringGain_95 : decode cX5_ringGain 95 = .ok (.getfield 10, 3) := by decide +kernel
theorem dX5_ringGain_98 : decode cX5_ringGain 98 = .ok (.getfield 60, 3) := by decide +kernel
theorem dX5_ringGain_101 : decode cX5_ringGain 101 = .ok (.iload_n 1, 1) := by decide +kernel
theorem dX5_ringGain_102 : decode cX5_ringGain 102 = .ok (.iload 7, 2) := by decide +kernel
theorem dX5_ringGain_104 : decode cX5_ringGain 104 = .ok (.invokevirtual 236, 3) := by decide +kernel
theorem dX5_ringGain_107 : decode cX5_ringGain 107 = .ok (.imul, 1) := by decide +kernel
theorem dX5_ringGain_108 : decode cX5_ringGain 108 = .ok (.isub, 1) := by decide +kernel
theorem dX5_ringGain_109 : decode cX5_ringGain 109 = .ok (.ireturn, 1) := by decide +kernel
theorem dX5_mostAlike_0 : decode cX5_mostAlike 0 = .ok (.iconst 0, 1) := by decide +kernel
theorem dX5_mostAlike_1 : decode cX5_mostAlike 1 = .ok (.istore 6, 2) := by decide +kernel
theorem dX5_mostAlike_3 : decode cX5_mostAlike 3 = .ok (.iconst 0, 1) := by decide +kernel
theorem dX5_mostAlike_4 : decode cX5_mostAlike 4 = .ok (.istore 7, 2) := by decide +kernel
theorem dX5_mostAlike_6 : decode cX5_mostAlike 6 = .ok (.iload 7, 2) := by decide +kernel
theorem dX5_mostAlike_8 : decode cX5_mostAlike 8 = .ok (.bipush 6, 2) := by decide +kernel
theorem dX5_mostAlike_10 : decode cX5_mostAlike 10 = .ok (.if_icmp .ge 57, 3) := by decide +kernel
theorem dX5_mostAlike_13 : decode cX5_mostAlike 13 = .ok (.iload_n 0, 1) := by decide +kernel
theorem dX5_mostAlike_14 : decode cX5_mostAlike 14 = .ok (.iload 7, 2) := by decide +kernel
theorem dX5_mostAlike_16 : decode cX5_mostAlike 16 = .ok (.ishr, 1) := by decide +kernel
theorem dX5_mostAlike_17 : decode cX5_mostAlike 17 = .ok (.iconst 1, 1) := by decide +kernel
theorem dX5_mostAlike_18 : decode cX5_mostAlike 18 = .ok (.iand, 1) := by decide +kernel
theorem dX5_mostAlike_19 : decode cX5_mostAlike 19 = .ok (.iconst 1, 1) := by decide +kernel
theorem dX5_mostAlike_20 : decode cX5_mostAlike 20 = .ok (.if_icmp .ne 41, 3) := by decide +kernel
theorem dX5_mostAlike_23 : decode cX5_mostAlike 23 = .ok (.iload 7, 2) := by decide +kernel
theorem dX5_mostAlike_25 : decode cX5_mostAlike 25 = .ok (.iload_n 1, 1) := by decide +kernel
theorem dX5_mostAlike_26 : decode cX5_mostAlike 26 = .ok (.iload_n 2, 1) := by decide +kernel
theorem dX5_mostAlike_27 : decode cX5_mostAlike 27 = .ok (.iload_n 3, 1) := by decide +kernel
theorem dX5_mostAlike_28 : decode cX5_mostAlike 28 = .ok (.iload 4, 2) := by decide +kernel
theorem dX5_mostAlike_30 : decode cX5_mostAlike 30 = .ok (.iload 5, 2) := by decide +kernel
theorem dX5_mostAlike_32 : decode cX5_mostAlike 32 = .ok (.invokestatic 239, 3) := by decide +kernel
theorem dX5_mostAlike_35 : decode cX5_mostAlike 35 = .ok (.istore 8, 2) := by decide +kernel
theorem dX5_mostAlike_37 : decode cX5_mostAlike 37 = .ok (.iload 6, 2) := by decide +kernel
theorem dX5_mostAlike_39 : decode cX5_mostAlike 39 = .ok (.iload_n 0, 1) := by decide +kernel
theorem dX5_mostAlike_40 : decode cX5_mostAlike 40 = .ok (.iload 8, 2) := by decide +kernel
theorem dX5_mostAlike_42 : decode cX5_mostAlike 42 = .ok (.iload_n 1, 1) := by decide +kernel
theorem dX5_mostAlike_43 : decode cX5_mostAlike 43 = .ok (.iload_n 2, 1) := by decide +kernel
theorem dX5_mostAlike_44 : decode cX5_mostAlike 44 = .ok (.iload_n 3, 1) := by decide +kernel
theorem dX5_mostAlike_45 : decode cX5_mostAlike 45 = .ok (.iload 4, 2) := by decide +kernel
theorem dX5_mostAlike_47 : decode cX5_mostAlike 47 = .ok (.iload 5, 2) := by decide +kernel
theorem dX5_mostAlike_49 : decode cX5_mostAlike 49 = .ok (.invokestatic 242, 3) := by decide +kernel
theorem dX5_mostAlike_52 : decode cX5_mostAlike 52 = .ok (.iand, 1) := by decide +kernel
theorem dX5_mostAlike_53 : decode cX5_mostAlike 53 = .ok (.invokestatic 200, 3) := by decide +kernel
theorem dX5_mostAlike_56 : decode cX5_mostAlike 56 = .ok (.invokestatic 245, 3) := by decide +kernel
theorem dX5_mostAlike_59 : decode cX5_mostAlike 59 = .ok (.istore 6, 2) := by decide +kernel
theorem dX5_mostAlike_61 : decode cX5_mostAlike 61 = .ok (.iinc 7 1, 3) := by decide +kernel
theorem dX5_mostAlike_64 : decode cX5_mostAlike 64 = .ok (.goto (-58), 3) := by decide +kernel
theorem dX5_mostAlike_67 : decode cX5_mostAlike 67 = .ok (.iload 6, 2) := by decide +kernel
theorem dX5_mostAlike_69 : decode cX5_mostAlike 69 = .ok (.ireturn, 1) := by decide +kernel
theorem dX5_kindsSoNear_0 : decode cX5_kindsSoNear 0 = .ok (.iconst 0, 1) := by decide +kernel
theorem dX5_kindsSoNear_1 : decode cX5_kindsSoNear 1 = .ok (.istore 6, 2) := by decide +kernel
theorem dX5_kindsSoNear_3 : decode cX5_kindsSoNear 3 = .ok (.iconst 0, 1) := by decide +kernel
theorem dX5_kindsSoNear_4 : decode cX5_kindsSoNear 4 = .ok (.istore 7, 2) := by decide +kernel
theorem dX5_kindsSoNear_6 : decode cX5_kindsSoNear 6 = .ok (.iload 7, 2) := by decide +kernel
theorem dX5_kindsSoNear_8 : decode cX5_kindsSoNear 8 = .ok (.bipush 6, 2) := by decide +kernel
theorem dX5_kindsSoNear_10 : decode cX5_kindsSoNear 10 = .ok (.if_icmp .ge 34, 3) := by decide +kernel
theorem dX5_kindsSoNear_13 : decode cX5_kindsSoNear 13 = .ok (.iload 7, 2) := by decide +kernel
theorem dX5_kindsSoNear_15 : decode cX5_kindsSoNear 15 = .ok (.iload_n 1, 1) := by decide +kernel
theorem dX5_kindsSoNear_16 : decode cX5_kindsSoNear 16 = .ok (.iload_n 2, 1) := by decide +kernel
theorem dX5_kindsSoNear_17 : decode cX5_kindsSoNear 17 = .ok (.iload_n 3, 1) := by decide +kernel
theorem dX5_kindsSoNear_18 : decode cX5_kindsSoNear 18 = .ok (.iload 4, 2) := by decide +kernel
theorem dX5_kindsSoNear_20 : decode cX5_kindsSoNear 20 = .ok (.iload 5, 2) := by decide +kernel
theorem dX5_kindsSoNear_22 : decode cX5_kindsSoNear 22 = .ok (.invokestatic 239, 3) := by decide +kernel
theorem dX5_kindsSoNear_25 : decode cX5_kindsSoNear 25 = .ok (.iload_n 0, 1) := by decide +kernel
theorem dX5_kindsSoNear_26 : decode cX5_kindsSoNear 26 = .ok (.if_icmp .ne 12, 3) := by decide +kernel
theorem dX5_kindsSoNear_29 : decode cX5_kindsSoNear 29 = .ok (.iload 6, 2) := by decide +kernel
theorem dX5_kindsSoNear_31 : decode cX5_kindsSoNear 31 = .ok (.iconst 1, 1) := by decide +kernel
theorem dX5_kindsSoNear_32 : decode cX5_kindsSoNear 32 = .ok (.iload 7, 2) := by decide +kernel
theorem dX5_kindsSoNear_34 : decode cX5_kindsSoNear 34 = .ok (.ishl, 1) := by decide +kernel
theorem dX5_kindsSoNear_35 : decode cX5_kindsSoNear 35 = .ok (.ior, 1) := by decide +kernel
theorem dX5_kindsSoNear_36 : decode cX5_kindsSoNear 36 = .ok (.istore 6, 2) := by decide +kernel
theorem dX5_kindsSoNear_38 : decode cX5_kindsSoNear 38 = .ok (.iinc 7 1, 3) := by decide +kernel
theorem dX5_kindsSoNear_41 : decode cX5_kindsSoNear 41 = .ok (.goto (-35), 3) := by decide +kernel
theorem dX5_kindsSoNear_44 : decode cX5_kindsSoNear 44 = .ok (.iload 6, 2) := by decide +kernel
theorem dX5_kindsSoNear_46 : decode cX5_kindsSoNear 46 = .ok (.ireturn, 1) := by decide +kernel
theorem dX5_near_0 : decode cX5_near 0 = .ok (.iconst 0, 1) := by decide +kernel
theorem dX5_near_1 : decode cX5_near 1 = .ok (.iload_n 1, 1) := by decide +kernel
theorem dX5_near_2 : decode cX5_near 2 = .ok (.iconst 3, 1) := by decide +kernel
theorem dX5_near_3 : decode cX5_near 3 = .ok (.iload_n 2, 1) := by decide +kernel
theorem dX5_near_4 : decode cX5_near 4 = .ok (.imul, 1) := by decide +kernel
theorem dX5_near_5 : decode cX5_near 5 = .ok (.iadd, 1) := by decide +kernel
theorem dX5_near_6 : decode cX5_near 6 = .ok (.iload_n 3, 1) := by decide +kernel
theorem dX5_near_7 : decode cX5_near 7 = .ok (.iconst 2, 1) := by decide +kernel
theorem dX5_near_8 : decode cX5_near 8 = .ok (.idiv, 1) := by decide +kernel
theorem dX5_near_9 : decode cX5_near 9 = .ok (.isub, 1) := by decide +kernel
theorem dX5_near_10 : decode cX5_near 10 = .ok (.invokestatic 245, 3) := by decide +kernel
theorem dX5_near_13 : decode cX5_near 13 = .ok (.istore 6, 2) := by decide +kernel
theorem dX5_near_15 : decode cX5_near 15 = .ok (.iconst 0, 1) := by decide +kernel
theorem dX5_near_16 : decode cX5_near 16 = .ok (.iload 6, 2) := by decide +kernel
theorem dX5_near_18 : decode cX5_near 18 = .ok (.iload_n 3, 1) := by decide +kernel
theorem dX5_near_19 : decode cX5_near 19 = .ok (.iconst 2, 1) := by decide +kernel
theorem dX5_near_20 : decode cX5_near 20 = .ok (.idiv, 1) := by decide +kernel
theorem dX5_near_21 : decode cX5_near 21 = .ok (.isub, 1) := by decide +kernel
theorem dX5_near_22 : decode cX5_near 22 = .ok (.invokestatic 245, 3) := by decide +kernel
theorem dX5_near_25 : decode cX5_near 25 = .ok (.istore 7, 2) := by decide +kernel
theorem dX5_near_27 : decode cX5_near 27 = .ok (.iload 6, 2) := by decide +kernel
theorem dX5_near_29 : decode cX5_near 29 = .ok (.iconst 3, 1) := by decide +kernel
theorem dX5_near_30 : decode cX5_near 30 = .ok (.iload 5, 2) := by decide +kernel
theorem dX5_near_32 : decode cX5_near 32 = .ok (.imul, 1) := by decide +kernel
theorem dX5_near_33 : decode cX5_near 33 = .ok (.iadd, 1) := by decide +kernel
theorem dX5_near_34 : decode cX5_near 34 = .ok (.istore 8, 2) := by decide +kernel
theorem dX5_near_36 : decode cX5_near 36 = .ok (.iload_n 0, 1) := by decide +kernel
theorem dX5_near_37 : decode cX5_near 37 = .ok (.tableswitch 59 1 5 #[35, 40, 43, 46, 54], 35) := by decide +kernel
theorem dX5_near_72 : decode cX5_near 72 = .ok (.iload 6, 2) := by decide +kernel
theorem dX5_near_74 : decode cX5_near 74 = .ok (.iconst 4, 1) := by decide +kernel
theorem dX5_near_75 : decode cX5_near 75 = .ok (.iadd, 1) := by decide +kernel
theorem dX5_near_76 : decode cX5_near 76 = .ok (.ireturn, 1) := by decide +kernel
theorem dX5_near_77 : decode cX5_near 77 = .ok (.iload 7, 2) := by decide +kernel
theorem dX5_near_79 : decode cX5_near 79 = .ok (.ireturn, 1) := by decide +kernel
theorem dX5_near_80 : decode cX5_near 80 = .ok (.iload 8, 2) := by decide +kernel
theorem dX5_near_82 : decode cX5_near 82 = .ok (.ireturn, 1) := by decide +kernel
theorem dX5_near_83 : decode cX5_near 83 = .ok (.iload 8, 2) := by decide +kernel
theorem dX5_near_85 : decode cX5_near 85 = .ok (.iconst 2, 1) := by decide +kernel
theorem dX5_near_86 : decode cX5_near 86 = .ok (.iload 4, 2) := by decide +kernel
theorem dX5_near_88 : decode cX5_near 88 = .ok (.imul, 1) := by decide +kernel
theorem dX5_near_89 : decode cX5_near 89 = .ok (.iadd, 1) := by decide +kernel
theorem dX5_near_90 : decode cX5_near 90 = .ok (.ireturn, 1) := by decide +kernel
theorem dX5_near_91 : decode cX5_near 91 = .ok (.iload 7, 2) := by decide +kernel
theorem dX5_near_93 : decode cX5_near 93 = .ok (.iconst 2, 1) := by decide +kernel
theorem dX5_near_94 : decode cX5_near 94 = .ok (.idiv, 1) := by decide +kernel
theorem dX5_near_95 : decode cX5_near 95 = .ok (.ireturn, 1) := by decide +kernel
theorem dX5_near_96 : decode cX5_near 96 = .ok (.iload 6, 2) := by decide +kernel
theorem dX5_near_98 : decode cX5_near 98 = .ok (.ireturn, 1) := by decide +kernel
theorem dX6_init_0 : decode cX6_init 0 = .ok (.aload_n 0, 1) := by decide +kernel
theorem dX6_init_1 : decode cX6_init 1 = .ok (.invokespecial 1, 3) := by decide +kernel
theorem dX6_init_4 : decode cX6_init 4 = .ok (.aload_n 0, 1) := by decide +kernel
theorem dX6_init_5 : decode cX6_init 5 = .ok (.sipush 255, 3) := by decide +kernel
theorem dX6_init_8 : decode cX6_init 8 = .ok (.newarray .int, 2) := by decide +kernel
theorem dX6_init_10 : decode cX6_init 10 = .ok (.putfield 7, 3) := by decide +kernel
theorem dX6_init_13 : decode cX6_init 13 = .ok (.aload_n 0, 1) := by decide +kernel
theorem dX6_init_14 : decode cX6_init 14 = .ok (.sipush 255, 3) := by decide +kernel
theorem dX6_init_17 : decode cX6_init 17 = .ok (.newarray .int, 2) := by decide +kernel
theorem dX6_init_19 : decode cX6_init 19 = .ok (.putfield 13, 3) := by decide +kernel
theorem dX6_init_22 : decode cX6_init 22 = .ok (.aload_n 0, 1) := by decide +kernel
theorem dX6_init_23 : decode cX6_init 23 = .ok (.bipush 35, 2) := by decide +kernel
theorem dX6_init_25 : decode cX6_init 25 = .ok (.newarray .int, 2) := by decide +kernel
theorem dX6_init_27 : decode cX6_init 27 = .ok (.putfield 16, 3) := by decide +kernel
theorem dX6_init_30 : decode cX6_init 30 = .ok (.aload_n 0, 1) := by decide +kernel
theorem dX6_init_31 : decode cX6_init 31 = .ok (.sipush 510, 3) := by decide +kernel
theorem dX6_init_34 : decode cX6_init 34 = .ok (.newarray .int, 2) := by decide +kernel
theorem dX6_init_36 : decode cX6_init 36 = .ok (.putfield 19, 3) := by decide +kernel
theorem dX6_init_39 : decode cX6_init 39 = .ok (.aload_n 0, 1) := by decide +kernel
theorem dX6_init_40 : decode cX6_init 40 = .ok (.iconst 2, 1) := by decide +kernel
theorem dX6_init_41 : decode cX6_init 41 = .ok (.newarray .boolean, 2) := by decide +kernel
theorem dX6_init_43 : decode cX6_init 43 = .ok (.putfield 22, 3) := by decide +kernel
theorem dX6_init_46 : decode cX6_init 46 = .ok (.aload_n 0, 1) := by decide +kernel
theorem dX6_init_47 : decode cX6_init 47 = .ok (.sipush 150, 3) := by decide +kernel
theorem dX6_init_50 : decode cX6_init 50 = .ok (.newarray .int, 2) := by decide +kernel
theorem dX6_init_52 : decode cX6_init 52 = .ok (.putfield 26, 3) := by decide +kernel
theorem dX6_init_55 : decode cX6_init 55 = .ok (.aload_n 0, 1) := by decide +kernel
theorem dX6_init_56 : decode cX6_init 56 = .ok (.lconst 1, 1) := by decide +kernel
theorem dX6_init_57 : decode cX6_init 57 = .ok (.putfield 29, 3) := by decide +kernel
theorem dX6_init_60 : decode cX6_init 60 = .ok (.aload_n 0, 1) := by decide +kernel
theorem dX6_init_61 : decode cX6_init 61 = .ok (.bipush 6, 2) := by decide +kernel
theorem dX6_init_63 : decode cX6_init 63 = .ok (.newarray .int, 2) := by decide +kernel
theorem dX6_init_65 : decode cX6_init 65 = .ok (.putfield 33, 3) := by decide +kernel
theorem dX6_init_68 : decode cX6_init 68 = .ok (.aload_n 0, 1) := by decide +kernel
theorem dX6_init_69 : decode cX6_init 69 = .ok (.bipush 6, 2) := by decide +kernel
theorem dX6_init_71 : decode cX6_init 71 = .ok (.newarray .int, 2) := by decide +kernel
theorem dX6_init_73 : decode cX6_init 73 = .ok (.putfield 36, 3) := by decide +kernel
theorem dX6_init_76 : decode cX6_init 76 = .ok (.aload_n 0, 1) := by decide +kernel
theorem dX6_init_77 : decode cX6_init 77 = .ok (.getfield 7, 3) := by decide +kernel
theorem dX6_init_80 : decode cX6_init 80 = .ok (.iconst 0, 1) := by decide +kernel
theorem dX6_init_81 : decode cX6_init 81 = .ok (.invokestatic 39, 3) := by decide +kernel
theorem dX6_init_84 : decode cX6_init 84 = .ok (.return_, 1) := by decide +kernel
theorem dX6_in_0 : decode cX6_in 0 = .ok (.lload_n 0, 1) := by decide +kernel
theorem dX6_in_1 : decode cX6_in 1 = .ok (.lload_n 2, 1) := by decide +kernel
theorem dX6_in_2 : decode cX6_in 2 = .ok (.lcmp, 1) := by decide +kernel
theorem dX6_in_3 : decode cX6_in 3 = .ok (.ifCond .lt 14, 3) := by decide +kernel
theorem dX6_in_6 : decode cX6_in 6 = .ok (.lload_n 0, 1) := by decide +kernel
theorem dX6_in_7 : decode cX6_in 7 = .ok (.lload 4, 2) := by decide +kernel
theorem dX6_in_9 : decode cX6_in 9 = .ok (.lcmp, 1) := by decide +kernel
theorem dX6_in_10 : decode cX6_in 10 = .ok (.ifCond .gt 7, 3) := by decide +kernel
theorem dX6_in_13 : decode cX6_in 13 = .ok (.iconst 1, 1) := by decide +kernel
theorem dX6_in_14 : decode cX6_in 14 = .ok (.goto 4, 3) := by decide +kernel
theorem dX6_in_17 : decode cX6_in 17 = .ok (.iconst 0, 1) := by decide +kernel
theorem dX6_in_18 : decode cX6_in 18 = .ok (.ireturn, 1) := by decide +kernel
theorem dX6_has_0 : decode cX6_has 0 = .ok (.iload_n 0, 1) := by decide +kernel
theorem dX6_has_1 : decode cX6_has 1 = .ok (.iload_n 1, 1) := by decide +kernel
theorem dX6_has_2 : decode cX6_has 2 = .ok (.ishr, 1) := by decide +kernel
theorem dX6_has_3 : decode cX6_has 3 = .ok (.iconst 1, 1) := by decide +kernel
theorem dX6_has_4 : decode cX6_has 4 = .ok (.iand, 1) := by decide +kernel
theorem dX6_has_5 : decode cX6_has 5 = .ok (.iconst 1, 1) := by decide +kernel
theorem dX6_has_6 : decode cX6_has 6 = .ok (.if_icmp .ne 7, 3) := by decide +kernel
theorem dX6_has_9 : decode cX6_has 9 = .ok (.iconst 1, 1) := by decide +kernel
theorem dX6_has_10 : decode cX6_has 10 = .ok (.goto 4, 3) := by decide +kernel
theorem dX6_has_13 : decode cX6_has 13 = .ok (.iconst 0, 1) := by decide +kernel
theorem dX6_has_14 : decode cX6_has 14 = .ok (.ireturn, 1) := by decide +kernel
theorem dX6_bits_0 : decode cX6_bits 0 = .ok (.iconst 0, 1) := by decide +kernel
theorem dX6_bits_1 : decode cX6_bits 1 = .ok (.istore_n 1, 1) := by decide +kernel
theorem dX6_bits_2 : decode cX6_bits 2 = .ok (.iload_n 0, 1) := by decide +kernel
theorem dX6_bits_3 : decode cX6_bits 3 = .ok (.istore_n 2, 1) := by decide +kernel
theorem dX6_bits_4 : decode cX6_bits 4 = .ok (.iload_n 2, 1) := by decide +kernel
theorem dX6_bits_5 : decode cX6_bits 5 = .ok (.ifCond .eq 15, 3) := by decide +kernel
theorem dX6_bits_8 : decode cX6_bits 8 = .ok (.iinc 1 1, 3) := by decide +kernel
theorem dX6_bits_11 : decode cX6_bits 11 = .ok (.iload_n 2, 1) := by decide +kernel
theorem dX6_bits_12 : decode cX6_bits 12 = .ok (.iload_n 2, 1) := by decide +kernel
theorem dX6_bits_13 : decode cX6_bits 13 = .ok (.iconst 1, 1) := by decide +kernel
theorem dX6_bits_14 : decode cX6_bits 14 = .ok (.isub, 1) := by decide +kernel
theorem dX6_bits_15 : decode cX6_bits 15 = .ok (.iand, 1) := by decide +kernel
theorem dX6_bits_16 : decode cX6_bits 16 = .ok (.istore_n 2, 1) := by decide +kernel
theorem dX6_bits_17 : decode cX6_bits 17 = .ok (.goto (-13), 3) := by decide +kernel
theorem dX6_bits_20 : decode cX6_bits 20 = .ok (.iload_n 1, 1) := by decide +kernel
theorem dX6_bits_21 : decode cX6_bits 21 = .ok (.ireturn, 1) := by decide +kernel
theorem dX6_copies_0 : decode cX6_copies 0 = .ok (.iconst 0, 1) := by decide +kernel
theorem dX6_copies_1 : decode cX6_copies 1 = .ok (.istore 5, 2) := by decide +kernel
theorem dX6_copies_3 : decode cX6_copies 3 = .ok (.iload 5, 2) := by decide +kernel
theorem dX6_copies_5 : decode cX6_copies 5 = .ok (.iload 4, 2) := by decide +kernel
theorem dX6_copies_7 : decode cX6_copies 7 = .ok (.if_icmp .ge 21, 3) := by decide +kernel
theorem dX6_copies_10 : decode cX6_copies 10 = .ok (.aload_n 2, 1) := by decide +kernel
theorem dX6_copies_11 : decode cX6_copies 11 = .ok (.iload_n 3, 1) := by decide +kernel
theorem dX6_copies_12 : decode cX6_copies 12 = .ok (.iload 5, 2) := by decide +kernel
theorem dX6_copies_14 : decode cX6_copies 14 = .ok (.iadd, 1) := by decide +kernel
theorem dX6_copies_15 : decode cX6_copies 15 = .ok (.aload_n 0, 1) := by decide +kernel
theorem dX6_copies_16 : decode cX6_copies 16 = .ok (.iload_n 1, 1) := by decide +kernel
theorem dX6_copies_17 : decode cX6_copies 17 = .ok (.iload 5, 2) := by decide +kernel
theorem dX6_copies_19 : decode cX6_copies 19 = .ok (.iadd, 1) := by decide +kernel
theorem dX6_copies_20 : decode cX6_copies 20 = .ok (.iaload, 1) := by decide +kernel
theorem dX6_copies_21 : decode cX6_copies 21 = .ok (.iastore, 1) := by decide +kernel
theorem dX6_copies_22 : decode cX6_copies 22 = .ok (.iinc 5 1, 3) := by decide +kernel
theorem dX6_copies_25 : decode cX6_copies 25 = .ok (.goto (-22), 3) := by decide +kernel
theorem dX6_copies_28 : decode cX6_copies 28 = .ok (.return_, 1) := by decide +kernel
theorem dX6_begins_0 : decode cX6_begins 0 = .ok (.iconst 0, 1) := by decide +kernel
theorem dX6_begins_1 : decode cX6_begins 1 = .ok (.istore_n 2, 1) := by decide +kernel
theorem dX6_begins_2 : decode cX6_begins 2 = .ok (.iload_n 2, 1) := by decide +kernel
theorem dX6_begins_3 : decode cX6_begins 3 = .ok (.sipush 255, 3) := by decide +kernel
theorem dX6_begins_6 : decode cX6_begins 6 = .ok (.if_icmp .ge 23, 3) := by decide +kernel
theorem dX6_begins_9 : decode cX6_begins 9 = .ok (.aload_n 0, 1) := by decide +kernel
theorem dX6_begins_10 : decode cX6_begins 10 = .ok (.iload_n 2, 1) := by decide +kernel
theorem dX6_begins_11 : decode cX6_begins 11 = .ok (.iload_n 2, 1) := by decide +kernel
theorem dX6_begins_12 : decode cX6_begins 12 = .ok (.bipush 6, 2) := by decide +kernel
theorem dX6_begins_14 : decode cX6_begins 14 = .ok (.if_icmp .ge 7, 3) := by decide +kernel
theorem dX6_begins_17 : decode cX6_begins 17 = .ok (.iconst (-1), 1) := by decide +kernel
theorem dX6_begins_18 : decode cX6_begins 18 = .ok (.goto 4, 3) := by decide +kernel
theorem dX6_begins_21 : decode cX6_begins 21 = .ok (.iconst 0, 1) := by decide +kernel
theorem dX6_begins_22 : decode cX6_begins 22 = .ok (.iastore, 1) := by decide +kernel
theorem dX6_begins_23 : decode cX6_begins 23 = .ok (.iinc 2 1, 3) := by decide +kernel
theorem dX6_begins_26 : decode cX6_begins 26 = .ok (.goto (-24), 3) := by decide +kernel
theorem dX6_begins_29 : decode cX6_begins 29 = .ok (.aload_n 0, 1) := by decide +kernel
theorem dX6_begins_30 : decode cX6_begins 30 = .ok (.bipush 20, 2) := by decide +kernel
theorem dX6_begins_32 : decode cX6_begins 32 = .ok (.iload_n 1, 1) := by decide +kernel
theorem dX6_begins_33 : decode cX6_begins 33 = .ok (.iastore, 1) := by decide +kernel
theorem dX6_begins_34 : decode cX6_begins 34 = .ok (.return_, 1) := by decide +kernel
theorem dX6_bad_0 : decode cX6_bad 0 = .ok (.aload_n 0, 1) := by decide +kernel
theorem dX6_bad_1 : decode cX6_bad 1 = .ok (.dup, 1) := by decide +kernel
theorem dX6_bad_2 : decode cX6_bad 2 = .ok (.getfield 43, 3) := by decide +kernel
theorem dX6_bad_5 : decode cX6_bad 5 = .ok (.iconst 1, 1) := by decide +kernel
theorem dX6_bad_6 : decode cX6_bad 6 = .ok (.iadd, 1) := by decide +kernel
theorem dX6_bad_7 : decode cX6_bad 7 = .ok (.putfield 43, 3) := by decide +kernel
theorem dX6_bad_10 : decode cX6_bad 10 = .ok (.bipush (-2), 2) := by decide +kernel
theorem dX6_bad_12 : decode cX6_bad 12 = .ok (.ireturn, 1) := by decide +kernel
theorem dX6_worse_0 : decode cX6_worse 0 = .ok (.aload_n 0, 1) := by decide +kernel
theorem dX6_worse_1 : decode cX6_worse 1 = .ok (.dup, 1) := by decide +kernel
theorem dX6_worse_2 : decode cX6_worse 2 = .ok (.getfield 43, 3) := by decide +kernel
theorem dX6_worse_5 : decode cX6_worse 5 = .ok (.iconst 1, 1) := by decide +kernel
theorem dX6_worse_6 : decode cX6_worse 6 = .ok (.iadd, 1) := by decide +kernel
theorem dX6_worse_7 : decode cX6_worse 7 = .ok (.putfield 43, 3) := by decide +kernel
theorem dX6_worse_10 : decode cX6_worse 10 = .ok (.bipush (-10), 2) := by decide +kernel
theorem dX6_worse_12 : decode cX6_worse 12 = .ok (.ireturn, 1) := by decide +kernel
theorem dX6_no_0 : decode cX6_no 0 = .ok (.aload_n 0, 1) := by decide +kernel
theorem dX6_no_1 : decode cX6_no 1 = .ok (.dup, 1) := by decide +kernel
theorem dX6_no_2 : decode cX6_no 2 = .ok (.getfield 47, 3) := by decide +kernel
theorem dX6_no_5 : decode cX6_no 5 = .ok (.iconst 1, 1) := by decide +kernel
theorem dX6_no_6 : decode cX6_no 6 = .ok (.iadd, 1) := by decide +kernel
theorem dX6_no_7 : decode cX6_no 7 = .ok (.putfield 47, 3) := by decide +kernel
theorem dX6_no_10 : decode cX6_no 10 = .ok (.bipush (-3), 2) := by decide +kernel
theorem dX6_no_12 : decode cX6_no 12 = .ok (.ireturn, 1) := by decide +kernel
theorem dX6_full_0 : decode cX6_full 0 = .ok (.aload_n 0, 1) := by decide +kernel
theorem dX6_full_1 : decode cX6_full 1 = .ok (.dup, 1) := by decide +kernel
theorem dX6_full_2 : decode cX6_full 2 = .ok (.getfield 50, 3) := by decide +kernel
theorem dX6_full_5 : decode cX6_full 5 = .ok (.iconst 1, 1) := by decide +kernel
theorem dX6_full_6 : decode cX6_full 6 = .ok (.iadd, 1) := by decide +kernel
theorem dX6_full_7 : decode cX6_full 7 = .ok (.putfield 50, 3) := by decide +kernel
theorem dX6_full_10 : decode cX6_full 10 = .ok (.bipush (-4), 2) := by decide +kernel
theorem dX6_full_12 : decode cX6_full 12 = .ok (.ireturn, 1) := by decide +kernel
theorem dX6_isSeat_0 : decode cX6_isSeat 0 = .ok (.iload_n 0, 1) := by decide +kernel
theorem dX6_isSeat_1 : decode cX6_isSeat 1 = .ok (.i2l, 1) := by decide +kernel
theorem dX6_isSeat_2 : decode cX6_isSeat 2 = .ok (.lconst 0, 1) := by decide +kernel
theorem dX6_isSeat_3 : decode cX6_isSeat 3 = .ok (.ldc2_w 53, 3) := by decide +kernel
theorem dX6_isSeat_6 : decode cX6_isSeat 6 = .ok (.invokestatic 55, 3) := by decide +kernel
theorem dX6_isSeat_9 : decode cX6_isSeat 9 = .ok (.ireturn, 1) := by decide +kernel
theorem dX6_isChild_0 : decode cX6_isChild 0 = .ok (.iload_n 1, 1) := by decide +kernel
theorem dX6_isChild_1 : decode cX6_isChild 1 = .ok (.i2l, 1) := by decide +kernel
theorem dX6_isChild_2 : decode cX6_isChild 2 = .ok (.lconst 0, 1) := by decide +kernel
theorem dX6_isChild_3 : decode cX6_isChild 3 = .ok (.aload_n 0, 1) := by decide +kernel
theorem dX6_isChild_4 : decode cX6_isChild 4 = .ok (.getfield 7, 3) := by decide +kernel
theorem dX6_isChild_7 : decode cX6_isChild 7 = .ok (.bipush 22, 2) := by decide +kernel
theorem dX6_isChild_9 : decode cX6_isChild 9 = .ok (.iaload, 1) := by decide +kernel
theorem dX6_isChild_10 : decode cX6_isChild 10 = .ok (.iconst 1, 1) := by decide +kernel
theorem dX6_isChild_11 : decode cX6_isChild 11 = .ok (.isub, 1) := by decide +kernel
theorem dX6_isChild_12 : decode cX6_isChild 12 = .ok (.i2l, 1) := by decide +kernel
theorem dX6_isChild_13 : decode cX6_isChild 13 = .ok (.invokestatic 55, 3) := by decide +kernel
theorem dX6_isChild_16 : decode cX6_isChild 16 = .ok (.ireturn, 1) := by decide +kernel
theorem dX6_whoIs_0 : decode cX6_whoIs 0 = .ok (.iconst 0, 1) := by decide +kernel
theorem dX6_whoIs_1 : decode cX6_whoIs 1 = .ok (.istore_n 2, 1) := by decide +kernel
theorem dX6_whoIs_2 : decode cX6_whoIs 2 = .ok (.iload_n 2, 1) := by decide +kernel
theorem dX6_whoIs_3 : decode cX6_whoIs 3 = .ok (.aload_n 0, 1) := by decide +kernel
theorem dX6_whoIs_4 : decode cX6_whoIs 4 = .ok (.bipush 22, 2) := by decide +kernel
theorem dX6_whoIs_6 : decode cX6_whoIs 6 = .ok (.iaload, 1) := by decide +kernel
theorem dX6_whoIs_7 : decode cX6_whoIs 7 = .ok (.if_icmp .ge 20, 3) := by decide +kernel
theorem dX6_whoIs_10 : decode cX6_whoIs 10 = .ok (.aload_n 0, 1) := by decide +kernel
theorem dX6_whoIs_11 : decode cX6_whoIs 11 = .ok (.iconst 0, 1) := by decide +kernel
theorem dX6_whoIs_12 : decode cX6_whoIs 12 = .ok (.iload_n 2, 1) := by decide +kernel
theorem dX6_whoIs_13 : decode cX6_whoIs 13 = .ok (.iadd, 1) := by decide +kernel
theorem dX6_whoIs_14 : decode cX6_whoIs 14 = .ok (.iaload, 1) := by decide +kernel
theorem dX6_whoIs_15 : decode cX6_whoIs 15 = .ok (.iload_n 1, 1) := by decide +kernel
theorem dX6_whoIs_16 : decode cX6_whoIs 16 = .ok (.if_icmp .ne 5, 3) := by decide +kernel
theorem dX6_whoIs_19 : decode cX6_whoIs 19 = .ok (.iload_n 2, 1) := by decide +kernel
theorem dX6_whoIs_20 : decode cX6_whoIs 20 = .ok (.ireturn, 1) := by decide +kernel
theorem dX6_whoIs_21 : decode cX6_whoIs 21 = .ok (.iinc 2 1, 3) := by decide +kernel
theorem dX6_whoIs_24 : decode cX6_whoIs 24 = .ok (.goto (-22), 3) := by decide +kernel
theorem dX6_whoIs_27 : decode cX6_whoIs 27 = .ok (.iconst (-1), 1) := by decide +kernel
theorem dX6_whoIs_28 : decode cX6_whoIs 28 = .ok (.ireturn, 1) := by decide +kernel
theorem dX6_table_0 : decode cX6_table 0 = .ok (.iload_n 1, 1) := by decide +kernel
theorem dX6_table_1 : decode cX6_table 1 = .ok (.invokestatic 59, 3) := by decide +kernel
theorem dX6_table_4 : decode cX6_table 4 = .ok (.ifCond .ne 8, 3) := by decide +kernel
theorem dX6_table_7 : decode cX6_table 7 = .ok (.aload_n 0, 1) := by decide +kernel
theorem dX6_table_8 : decode cX6_table 8 = .ok (.invokevirtual 63, 3) := by decide +kernel
theorem dX6_table_11 : decode cX6_table 11 = .ok (.ireturn, 1) := by decide +kernel
theorem dX6_table_12 : decode cX6_table 12 = .ok (.aload_n 0, 1) := by decide +kernel
theorem dX6_table_13 : decode cX6_table 13 = .ok (.getfield 7, 3) := by decide +kernel
theorem dX6_table_16 : decode cX6_table 16 = .ok (.bipush 22, 2) := by decide +kernel
theorem dX6_table_18 : decode cX6_table 18 = .ok (.iaload, 1) := by decide +kernel
theorem dX6_table_19 : decode cX6_table 19 = .ok (.istore_n 2, 1) := by decide +kernel
theorem dX6_table_20 : decode cX6_table 20 = .ok (.aload_n 0, 1) := by decide +kernel
theorem dX6_table_21 : decode cX6_table 21 = .ok (.getfield 7, 3) := by decide +kernel
theorem dX6_table_24 : decode cX6_table 24 = .ok (.iload_n 1, 1) := by decide +kernel
theorem dX6_table_25 : decode cX6_table 25 = .ok (.invokestatic 39, 3) := by decide +kernel
theorem dX6_table_28 : decode cX6_table 28 = .ok (.iload_n 2, 1) := by decide +kernel
theorem dX6_table_29 : decode cX6_table 29 = .ok (.ireturn, 1) := by decide +kernel
theorem dX6_comes_0 : decode cX6_comes 0 = .ok (.aload_n 0, 1) := by decide +kernel
theorem dX6_comes_1 : decode cX6_comes 1 = .ok (.bipush 22, 2) := by decide +kernel
theorem dX6_comes_3 : decode cX6_comes 3 = .ok (.iaload, 1) := by decide +kernel
theorem dX6_comes_4 : decode cX6_comes 4 = .ok (.istore 5, 2) := by decide +kernel
theorem dX6_comes_6 : decode cX6_comes 6 = .ok (.aload_n 0, 1) := by decide +kernel
theorem dX6_comes_7 : decode cX6_comes 7 = .ok (.bipush 23, 2) := by decide +kernel
theorem dX6_comes_9 : decode cX6_comes 9 = .ok (.iload 5, 2) := by decide +kernel
theorem dX6_comes_11 : decode cX6_comes 11 = .ok (.iadd, 1) := by decide +kernel
theorem dX6_comes_12 : decode cX6_comes 12 = .ok (.iload_n 1, 1) := by decide +kernel
theorem dX6_comes_13 : decode cX6_comes 13 = .ok (.iastore, 1) := by decide +kernel
theorem dX6_comes_14 : decode cX6_comes 14 = .ok (.aload_n 0, 1) := by decide +kernel
theorem dX6_comes_15 : decode cX6_comes 15 = .ok (.iconst 0, 1) := by decide +kernel
theorem dX6_comes_16 : decode cX6_comes 16 = .ok (.iload 5, 2) := by decide +kernel
theorem dX6_comes_18 : decode cX6_comes 18 = .ok (.iadd, 1) := by decide +kernel
theorem dX6_comes_19 : decode cX6_comes 19 = .ok (.iload_n 2, 1) := by decide +kernel
theorem dX6_comes_20 : decode cX6_comes 20 = .ok (.iastore, 1) := by decide +kernel
theorem dX6_comes_21 : decode cX6_comes 21 = .ok (.aload_n 0, 1) := by decide +kernel
theorem dX6_comes_22 : decode cX6_comes 22 = .ok (.bipush 29, 2) := by decide +kernel
theorem dX6_comes_24 : decode cX6_comes 24 = .ok (.iload 5, 2) := by decide +kernel
theorem dX6_comes_26 : decode cX6_comes 26 = .ok (.iadd, 1) := by decide +kernel
theorem dX6_comes_27 : decode cX6_comes 27 = .ok (.iload_n 3, 1) := by decide +kernel
theorem dX6_comes_28 : decode cX6_comes 28 = .ok (.iastore, 1) := by decide +kernel
theorem dX6_comes_29 : decode cX6_comes 29 = .ok (.aload_n 0, 1) := by decide +kernel
theorem dX6_comes_30 : decode cX6_comes 30 = .ok (.bipush 6, 2) := by decide +kernel
theorem dX6_comes_32 : decode cX6_comes 32 = .ok (.iload 5, 2) := by decide +kernel
theorem dX6_comes_34 : decode cX6_comes 34 = .ok (.iadd, 1) := by decide +kernel
theorem dX6_comes_35 : decode cX6_comes 35 = .ok (.iload 4, 2) := by decide +kernel
theorem dX6_comes_37 : decode cX6_comes 37 = .ok (.iastore, 1) := by decide +kernel
theorem dX6_comes_38 : decode cX6_comes 38 = .ok (.aload_n 0, 1) := by decide +kernel
theorem dX6_comes_39 : decode cX6_comes 39 = .ok (.bipush 22, 2) := by decide +kernel
theorem dX6_comes_41 : decode cX6_comes 41 = .ok (.dup2, 1) := by decide +kernel
theorem dX6_comes_42 : decode cX6_comes 42 = .ok (.iaload, 1) := by decide +kernel
theorem dX6_comes_43 : decode cX6_comes 43 = .ok (.iconst 1, 1) := by decide +kernel
theorem dX6_comes_44 : decode cX6_comes 44 = .ok (.iadd, 1) := by decide +kernel
theorem dX6_comes_45 : decode cX6_comes 45 = .ok (.iastore, 1) := by decide +kernel
theorem dX6_comes_46 : decode cX6_comes 46 = .ok (.return_, 1) := by decide +kernel
theorem dX6_child_0 : decode cX6_child 0 = .ok (.iload_n 1, 1) := by decide +kernel
theorem dX6_child_1 : decode cX6_child 1 = .ok (.i2l, 1) := by decide +kernel
theorem dX6_child_2 : decode cX6_child 2 = .ok (.lconst 0, 1) := by decide +kernel
theorem dX6_child_3 : decode cX6_child 3 = .ok (.ldc2_w 67, 3) := by decide +kernel
theorem dX6_child_6 : decode cX6_child 6 = .ok (.invokestatic 55, 3) := by decide +kernel
theorem dX6_child_9 : decode cX6_child 9 = .ok (.ifCond .eq 35, 3) := by decide +kernel
theorem dX6_child_12 : decode cX6_child 12 = .ok (.iload_n 2, 1) := by decide +kernel
theorem dX6_child_13 : decode cX6_child 13 = .ok (.invokestatic 59, 3) := by decide +kernel
theorem dX6_child_16 : decode cX6_child 16 = .ok (.ifCond .eq 28, 3) := by decide +kernel
theorem dX6_child_19 : decode cX6_child 19 = .ok (.iload_n 3, 1) := by decide +kernel
theorem dX6_child_20 : decode cX6_child 20 = .ok (.i2l, 1) := by decide +kernel
theorem dX6_child_21 : decode cX6_child 21 = .ok (.lconst 0, 1) := by decide +kernel
theorem dX6_child_22 : decode cX6_child 22 = .ok (.ldc2_w 69, 3) := by decide +kernel
theorem dX6_child_25 : decode cX6_child 25 = .ok (.invokestatic 55, 3) := by decide +kernel
theorem dX6_child_28 : decode cX6_child 28 = .ok (.ifCond .eq 16, 3) := by decide +kernel
theorem dX6_child_31 : decode cX6_child 31 = .ok (.iload 4, 2) := by decide +kernel
theorem dX6_child_33 : decode cX6_child 33 = .ok (.i2l, 1) := by decide +kernel
theorem dX6_child_34 : decode cX6_child 34 = .ok (.lconst 0, 1) := by decide +kernel
theorem dX6_child_35 : decode cX6_child 35 = .ok (.ldc2_w 71, 3) := by decide +kernel
theorem dX6_child_38 : decode cX6_child 38 = .ok (.invokestatic 55, 3) := by decide +kernel
theorem dX6_child_41 : decode cX6_child 41 = .ok (.ifCond .ne 8, 3) := by decide +kernel
theorem dX6_child_44 : decode cX6_child 44 = .ok (.aload_n 0, 1) := by decide +kernel
theorem dX6_child_45 : decode cX6_child 45 = .ok (.invokevirtual 63, 3) := by decide +kernel
theorem dX6_child_48 : decode cX6_child 48 = .ok (.ireturn, 1) := by decide +kernel
theorem dX6_child_49 : decode cX6_child 49 = .ok (.aload_n 0, 1) := by decide +kernel
theorem dX6_child_50 : decode cX6_child 50 = .ok (.getfield 7, 3) := by decide +kernel
theorem dX6_child_53 : decode cX6_child 53 = .ok (.iload_n 2, 1) := by decide +kernel
theorem dX6_child_54 : decode cX6_child 54 = .ok (.invokestatic 73, 3) := by decide +kernel
theorem dX6_child_57 : decode cX6_child 57 = .ok (.iconst (-1), 1) := by decide +kernel
theorem dX6_child_58 : decode cX6_child 58 = .ok (.if_icmp .eq 8, 3) := by decide +kernel
theorem dX6_child_61 : decode cX6_child 61 = .ok (.aload_n 0, 1) := by decide +kernel
theorem dX6_child_62 : decode cX6_child 62 = .ok (.invokevirtual 77, 3) := by decide +kernel
theorem dX6_child_65 : decode cX6_child 65 = .ok (.ireturn, 1) := by decide +kernel
theorem dX6_child_66 : decode cX6_child 66 = .ok (.aload_n 0, 1) := by decide +kernel
theorem dX6_child_67 : decode cX6_child 67 = .ok (.getfield 7, 3) := by decide +kernel
theorem dX6_child_70 : decode cX6_child 70 = .ok (.bipush 22, 2) := by decide +kernel
theorem dX6_child_72 : decode cX6_child 72 = .ok (.iaload, 1) := by decide +kernel
theorem dX6_child_73 : decode cX6_child 73 = .ok (.bipush 6, 2) := by decide +kernel
theorem dX6_child_75 : decode cX6_child 75 = .ok (.if_icmp .ne 8, 3) := by decide +kernel
theorem dX6_child_78 : decode cX6_child 78 = .ok (.aload_n 0, 1) := by decide +kernel
theorem dX6_child_79 : decode cX6_child 79 = .ok (.invokevirtual 80, 3) := by decide +kernel
theorem dX6_child_82 : decode cX6_child 82 = .ok (.ireturn, 1) := by decide +kernel
theorem dX6_child_83 : decode cX6_child 83 = .ok (.aload_n 0, 1) := by decide +kernel
theorem dX6_child_84 : decode cX6_child 84 = .ok (.getfield 7, 3) := by decide +kernel
theorem dX6_child_87 : decode cX6_child 87 = .ok (.iload_n 1, 1) := by decide +kernel
theorem dX6_child_88 : decode cX6_child 88 = .ok (.iload_n 2, 1) := by decide +kernel
theorem dX6_child_89 : decode cX6_child 89 = .ok (.iload_n 3, 1) := by decide +kernel
theorem dX6_child_90 : decode cX6_child 90 = .ok (.iload 4, 2) := by decide +kernel
theorem dX6_child_92 : decode cX6_child 92 = .ok (.invokestatic 83, 3) := by decide +kernel
theorem dX6_child_95 : decode cX6_child 95 = .ok (.aload_n 0, 1) := by decide +kernel
theorem dX6_child_96 : decode cX6_child 96 = .ok (.getfield 7, 3) := by decide +kernel
theorem dX6_child_99 : decode cX6_child 99 = .ok (.bipush 78, 2) := by decide +kernel
theorem dX6_child_101 : decode cX6_child 101 = .ok (.iconst 0, 1) := by decide +kernel
theorem dX6_child_102 : decode cX6_child 102 = .ok (.iastore, 1) := by decide +kernel
theorem dX6_child_103 : decode cX6_child 103 = .ok (.aload_n 0, 1) := by decide +kernel
theorem dX6_child_104 : decode cX6_child 104 = .ok (.getfield 7, 3) := by decide +kernel
theorem dX6_child_107 : decode cX6_child 107 = .ok (.bipush 22, 2) := by decide +kernel
theorem dX6_child_109 : decode cX6_child 109 = .ok (.iaload, 1) := by decide +kernel
theorem dX6_child_110 : decode cX6_child 110 = .ok (.iconst 1, 1) := by decide +kernel
theorem dX6_child_111 : decode cX6_child 111 = .ok (.isub, 1) := by decide +kernel
theorem dX6_child_112 : decode cX6_child 112 = .ok (.ireturn, 1) := by decide +kernel
theorem dX6_type_0 : decode cX6_type 0 = .ok (.iload_n 1, 1) := by decide +kernel
theorem dX6_type_1 : decode cX6_type 1 = .ok (.i2l, 1) := by decide +kernel
theorem dX6_type_2 : decode cX6_type 2 = .ok (.lconst 0, 1) := by decide +kernel
theorem dX6_type_3 : decode cX6_type 3 = .ok (.ldc2_w 87, 3) := by decide +kernel
theorem dX6_type_6 : decode cX6_type 6 = .ok (.invokestatic 55, 3) := by decide +kernel
theorem dX6_type_9 : decode cX6_type 9 = .ok (.ifCond .ne 8, 3) := by decide +kernel
theorem dX6_type_12 : decode cX6_type 12 = .ok (.aload_n 0, 1) := by decide +kernel
theorem dX6_type_13 : decode cX6_type 13 = .ok (.invokevirtual 63, 3) := by decide +kernel
theorem dX6_type_16 : decode cX6_type 16 = .ok (.ireturn, 1) := by decide +kernel
theorem dX6_type_17 : decode cX6_type 17 = .ok (.aload_n 0, 1) := by decide +kernel
theorem dX6_type_18 : decode cX6_type 18 = .ok (.getfield 89, 3) := by decide +kernel
theorem dX6_type_21 : decode cX6_type 21 = .ok (.sipush 150, 3) := by decide +kernel
theorem dX6_type_24 : decode cX6_type 24 = .ok (.if_icmp .ne 8, 3) := by decide +kernel
theorem dX6_type_27 : decode cX6_type 27 = .ok (.aload_n 0, 1) := by decide +kernel
theorem dX6_type_28 : decode cX6_type 28 = .ok (.invokevirtual 80, 3) := by decide +kernel
theorem dX6_type_31 : decode cX6_type 31 = .ok (.ireturn, 1) := by decide +kernel
theorem dX6_type_32 : decode cX6_type 32 = .ok (.aload_n 0, 1) := by decide +kernel
theorem dX6_type_33 : decode cX6_type 33 = .ok (.getfield 26, 3) := by decide +kernel
theorem dX6_type_36 : decode cX6_type 36 = .ok (.aload_n 0, 1) := by decide +kernel
theorem dX6_type_37 : decode cX6_type 37 = .ok (.getfield 89, 3) := by decide +kernel
theorem dX6_type_40 : decode cX6_type 40 = .ok (.iload_n 1, 1) := by decide +kernel
theorem dX6_type_41 : decode cX6_type 41 = .ok (.iastore, 1) := by decide +kernel
theorem dX6_type_42 : decode cX6_type 42 = .ok (.aload_n 0, 1) := by decide +kernel
theorem dX6_type_43 : decode cX6_type 43 = .ok (.dup, 1) := by decide +kernel
theorem dX6_type_44 : decode cX6_type 44 = .ok (.getfield 89, 3) := by decide +kernel
theorem dX6_type_47 : decode cX6_type 47 = .ok (.iconst 1, 1) := by decide +kernel
theorem dX6_type_48 : decode cX6_type 48 = .ok (.iadd, 1) := by decide +kernel
theorem dX6_type_49 : decode cX6_type 49 = .ok (.putfield 89, 3) := by decide +kernel
theorem dX6_type_52 : decode cX6_type 52 = .ok (.aload_n 0, 1) := by decide +kernel
theorem dX6_type_53 : decode cX6_type 53 = .ok (.getfield 89, 3) := by decide +kernel
theorem dX6_type_56 : decode cX6_type 56 = .ok (.ireturn, 1) := by decide +kernel
theorem dX6_clear_0 : decode cX6_clear 0 = .ok (.aload_n 0, 1) := by decide +kernel
theorem dX6_clear_1 : decode cX6_clear 1 = .ok (.getfield 89, 3) := by decide +kernel
theorem dX6_clear_4 : decode cX6_clear 4 = .ok (.istore_n 1, 1) := by decide +kernel
theorem dX6_clear_5 : decode cX6_clear 5 = .ok (.aload_n 0, 1) := by decide +kernel
theorem dX6_clear_6 : decode cX6_clear 6 = .ok (.iconst 0, 1) := by decide +kernel
theorem dX6_clear_7 : decode cX6_clear 7 = .ok (.putfield 89, 3) := by decide +kernel
theorem dX6_clear_10 : decode cX6_clear 10 = .ok (.iload_n 1, 1) := by decide +kernel
theorem dX6_clear_11 : decode cX6_clear 11 = .ok (.ireturn, 1) := by decide +kernel
theorem dX6_here_0 : decode cX6_here 0 = .ok (.aload_n 0, 1) := by decide +kernel
theorem dX6_here_1 : decode cX6_here 1 = .ok (.getfield 92, 3) := by decide +kernel
theorem dX6_here_4 : decode cX6_here 4 = .ok (.aload_n 0, 1) := by decide +kernel
theorem dX6_here_5 : decode cX6_here 5 = .ok (.getfield 89, 3) := by decide +kernel
theorem dX6_here_8 : decode cX6_here 8 = .ok (.if_icmp .ge 15, 3) := by decide +kernel
theorem dX6_here_11 : decode cX6_here 11 = .ok (.aload_n 0, 1) := by decide +kernel
theorem dX6_here_12 : decode cX6_here 12 = .ok (.getfield 26, 3) := by decide +kernel
theorem dX6_here_15 : decode cX6_here 15 = .ok (.aload_n 0, 1) := by decide +kernel
theorem dX6_here_16 : decode cX6_here 16 = .ok (.getfield 92, 3) := by decide +kernel
theorem dX6_here_19 : decode cX6_here 19 = .ok (.iaload, 1) := by decide +kernel
theorem dX6_here_20 : decode cX6_here 20 = .ok (.goto 4, 3) := by decide +kernel
theorem dX6_here_23 : decode cX6_here 23 = .ok (.iconst (-1), 1) := by decide +kernel
theorem dX6_here_24 : decode cX6_here 24 = .ok (.ireturn, 1) := by decide +kernel
theorem dX6_step_0 : decode cX6_step 0 = .ok (.aload_n 0, 1) := by decide +kernel
theorem dX6_step_1 : decode cX6_step 1 = .ok (.invokevirtual 95, 3) := by decide +kernel
theorem dX6_step_4 : decode cX6_step 4 = .ok (.bipush 32, 2) := by decide +kernel
theorem dX6_step_6 : decode cX6_step 6 = .ok (.if_icmp .ne 16, 3) := by decide +kernel
theorem dX6_step_9 : decode cX6_step 9 = .ok (.aload_n 0, 1) := by decide +kernel
theorem dX6_step_10 : decode cX6_step 10 = .ok (.dup, 1) := by decide +kernel
theorem dX6_step_11 : decode cX6_step 11 = .ok (.getfield 92, 3) := by decide +kernel
theorem dX6_step_14 : decode cX6_step 14 = .ok (.iconst 1, 1) := by decide +kernel
theorem dX6_step_15 : decode cX6_step 15 = .ok (.iadd, 1) := by decide +kernel
theorem dX6_step_16 : decode cX6_step 16 = .ok (.putfield 92, 3) := by decide +kernel
theorem dX6_step_19 : decode cX6_step 19 = .ok (.goto (-19), 3) := by decide +kernel
theorem dX6_step_22 : decode cX6_step 22 = .ok (.aload_n 0, 1) := by decide +kernel
theorem dX6_step_23 : decode cX6_step 23 = .ok (.aload_n 0, 1) := by decide +kernel
theorem dX6_step_24 : decode cX6_step 24 = .ok (.getfield 92, 3) := by decide +kernel
theorem dX6_step_27 : decode cX6_step 27 = .ok (.putfield 98, 3) := by decide +kernel
theorem dX6_step_30 : decode cX6_step 30 = .ok (.aload_n 0, 1) := by decide +kernel
theorem dX6_step_31 : decode cX6_step 31 = .ok (.lconst 0, 1) := by decide +kernel
theorem dX6_step_32 : decode cX6_step 32 = .ok (.putfield 101, 3) := by decide +kernel
theorem dX6_step_35 : decode cX6_step 35 = .ok (.aload_n 0, 1) := by decide +kernel
theorem dX6_step_36 : decode cX6_step 36 = .ok (.iconst 0, 1) := by decide +kernel
theorem dX6_step_37 : decode cX6_step 37 = .ok (.putfield 104, 3) := by decide +kernel
theorem dX6_step_40 : decode cX6_step 40 = .ok (.aload_n 0, 1) := by decide +kernel
theorem dX6_step_41 : decode cX6_step 41 = .ok (.invokevirtual 95, 3) := by decide +kernel
theorem dX6_step_44 : decode cX6_step 44 = .ok (.istore_n 1, 1) := by decide +kernel
theorem dX6_step_45 : decode cX6_step 45 = .ok (.aload_n 0, 1) := by decide +kernel
theorem dX6_step_46 : decode cX6_step 46 = .ok (.iload_n 1, 1) := by decide +kernel
theorem dX6_step_47 : decode cX6_step 47 = .ok (.ifCond .ge 7, 3) := by decide +kernel
theorem dX6_step_50 : decode cX6_step 50 = .ok (.iconst 0, 1) := by decide +kernel
theorem dX6_step_51 : decode cX6_step 51 = .ok (.goto 50, 3) := by decide +kernel
theorem dX6_step_54 : decode cX6_step 54 = .ok (.iload_n 1, 1) := by decide +kernel
theorem dX6_step_55 : decode cX6_step 55 = .ok (.i2l, 1) := by decide +kernel
theorem dX6_step_56 : decode cX6_step 56 = .ok (.ldc2_w 107, 3) := by decide +kernel
theorem dX6_step_59 : decode cX6_step 59 = .ok (.ldc2_w 109, 3) := by decide +kernel
theorem dX6_step_62 : decode cX6_step 62 = .ok (.invokestatic 55, 3) := by decide +kernel
theorem dX6_step_65 : decode cX6_step 65 = .ok (.ifCond .eq 7, 3) := by decide +kernel
theorem dX6_step_68 : decode cX6_step 68 = .ok (.iconst 1, 1) := by decide +kernel
theorem dX6_step_69 : decode cX6_step 69 = .ok (.goto 32, 3) := by decide +kernel
theorem dX6_step_72 : decode cX6_step 72 = .ok (.iload_n 1, 1) := by decide +kernel
theorem dX6_step_73 : decode cX6_step 73 = .ok (.i2l, 1) := by decide +kernel
theorem dX6_step_74 : decode cX6_step 74 = .ok (.ldc2_w 111, 3) := by decide +kernel
theorem dX6_step_77 : decode cX6_step 77 = .ok (.ldc2_w 113, 3) := by decide +kernel
theorem dX6_step_80 : decode cX6_step 80 = .ok (.invokestatic 55, 3) := by decide +kernel
theorem dX6_step_83 : decode cX6_step 83 = .ok (.ifCond .eq 7, 3) := by decide +kernel
theorem dX6_step_86 : decode cX6_step 86 = .ok (.iconst 2, 1) := by decide +kernel
theorem dX6_step_87 : decode cX6_step 87 = .ok (.goto 14, 3) := by decide +kernel
theorem dX6_step_90 : decode cX6_step 90 = .ok (.iload_n 1, 1) := by decide +kernel
theorem dX6_step_91 : decode cX6_step 91 = .ok (.bipush 59, 2) := by decide +kernel
theorem dX6_step_93 : decode cX6_step 93 = .ok (.if_icmp .ne 7, 3) := by decide +kernel
theorem dX6_step_96 : decode cX6_step 96 = .ok (.iconst 3, 1) := by decide +kernel
theorem dX6_step_97 : decode cX6_step 97 = .ok (.goto 4, 3) := by decide +kernel
theorem dX6_step_100 : decode cX6_step 100 = .ok (.iconst 4, 1) := by decide +kernel
theorem dX6_step_101 : decode cX6_step 101 = .ok (.putfield 115, 3) := by decide +kernel
theorem dX6_step_104 : decode cX6_step 104 = .ok (.aload_n 0, 1) := by decide +kernel
theorem dX6_step_105 : decode cX6_step 105 = .ok (.getfield 115, 3) := by decide +kernel
theorem dX6_step_108 : decode cX6_step 108 = .ok (.iconst 2, 1) := by decide +kernel
theorem dX6_step_109 : decode cX6_step 109 = .ok (.if_icmp .le 13, 3) := by decide +kernel
theorem dX6_step_112 : decode cX6_step 112 = .ok (.aload_n 0, 1) := by decide +kernel
theorem dX6_step_113 : decode cX6_step 113 = .ok (.dup, 1) := by decide +kernel
theorem dX6_step_114 : decode cX6_step 114 = .ok (.getfield 92, 3) := by decide +kernel
theorem dX6_step_117 : decode cX6_step 117 = .ok (.iconst 1, 1) := by decide +kernel
theorem dX6_step_118 : decode cX6_step 118 = .ok (.iadd, 1) := by decide +kernel
theorem dX6_step_119 : decode cX6_step 119 = .ok (.putfield 92, 3) := by decide +kernel
theorem dX6_step_122 : decode cX6_step 122 = .ok (.aload_n 0, 1) := by decide +kernel
theorem dX6_step_123 : decode cX6_step 123 = .ok (.getfield 115, 3) := by decide +kernel
theorem dX6_step_126 : decode cX6_step 126 = .ok (.iconst 1, 1) := by decide +kernel
theorem dX6_step_127 : decode cX6_step 127 = .ok (.if_icmp .ne 71, 3) := by decide +kernel
theorem dX6_step_130 : decode cX6_step 130 = .ok (.aload_n 0, 1) := by decide +kernel
theorem dX6_step_131 : decode cX6_step 131 = .ok (.invokevirtual 95, 3) := by decide +kernel
theorem dX6_step_134 : decode cX6_step 134 = .ok (.i2l, 1) := by decide +kernel
theorem dX6_step_135 : decode cX6_step 135 = .ok (.ldc2_w 107, 3) := by decide +kernel
theorem dX6_step_138 : decode cX6_step 138 = .ok (.ldc2_w 109, 3) := by decide +kernel
theorem dX6_step_141 : decode cX6_step 141 = .ok (.invokestatic 55, 3) := by decide +kernel
theorem dX6_step_144 : decode cX6_step 144 = .ok (.ifCond .eq 54, 3) := by decide +kernel
theorem dX6_step_147 : decode cX6_step 147 = .ok (.aload_n 0, 1) := by decide +kernel
theorem dX6_step_148 : decode cX6_step 148 = .ok (.aload_n 0, 1) := by decide +kernel
theorem dX6_step_149 : decode cX6_step 149 = .ok (.getfield 92, 3) := by decide +kernel
theorem dX6_step_152 : decode cX6_step 152 = .ok (.aload_n 0, 1) := by decide +kernel
theorem dX6_step_153 : decode cX6_step 153 = .ok (.getfield 98, 3) := by decide +kernel
theorem dX6_step_156 : decode cX6_step 156 = .ok (.isub, 1) := by decide +kernel
theorem dX6_step_157 : decode cX6_step 157 = .ok (.bipush 6, 2) := by decide +kernel
theorem dX6_step_159 : decode cX6_step 159 = .ok (.if_icmp .ge 20, 3) := by decide +kernel
theorem dX6_step_162 : decode cX6_step 162 = .ok (.aload_n 0, 1) := by decide +kernel
theorem dX6_step_163 : decode cX6_step 163 = .ok (.getfield 101, 3) := by decide +kernel
theorem dX6_step_166 : decode cX6_step 166 = .ok (.ldc2_w 118, 3) := by decide +kernel
theorem dX6_step_169 : decode cX6_step 169 = .ok (.lmul, 1) := by decide +kernel
theorem dX6_step_170 : decode cX6_step 170 = .ok (.aload_n 0, 1) := by decide +kernel
theorem dX6_step_171 : decode cX6_step 171 = .ok (.invokevirtual 95, 3) := by decide +kernel
theorem dX6_step_174 : decode cX6_step 174 = .ok (.i2l, 1) := by decide +kernel
theorem dX6_step_175 : decode cX6_step 175 = .ok (.ladd, 1) := by decide +kernel
theorem dX6_step_176 : decode cX6_step 176 = .ok (.goto 6, 3) := by decide +kernel
theorem dX6_step_179 : decode cX6_step 179 = .ok (.ldc2_w 120, 3) := by decide +kernel
theorem dX6_step_182 : decode cX6_step 182 = .ok (.putfield 101, 3) := by decide +kernel
theorem dX6_step_185 : decode cX6_step 185 = .ok (.aload_n 0, 1) := by decide +kernel
theorem dX6_step_186 : decode cX6_step 186 = .ok (.dup, 1) := by decide +kernel
theorem dX6_step_187 : decode cX6_step 187 = .ok (.getfield 92, 3) := by decide +kernel
theorem dX6_step_190 : decode cX6_step 190 = .ok (.iconst 1, 1) := by decide +kernel
theorem dX6_step_191 : decode cX6_step 191 = .ok (.iadd, 1) := by decide +kernel
theorem dX6_step_192 : decode cX6_step 192 = .ok (.putfield 92, 3) := by decide +kernel
theorem dX6_step_195 : decode cX6_step 195 = .ok (.goto (-73), 3) := by decide +kernel
theorem dX6_step_198 : decode cX6_step 198 = .ok (.aload_n 0, 1) := by decide +kernel
end
section
theorem dX6_step_199 : decode cX6_step 199 = .ok (.getfield 115, 3) := by decide +kernel
theorem dX6_step_202 : decode cX6_step 202 = .ok (.iconst 2, 1) := by decide +kernel
theorem dX6_step_203 : decode cX6_step 203 = .ok (.if_icmp .ne 72, 3) := by decide +kernel
theorem dX6_step_206 : decode cX6_step 206 = .ok (.aload_n 0, 1) := by decide +kernel
theorem dX6_step_207 : decode cX6_step 207 = .ok (.invokevirtual 95, 3) := by decide +kernel
theorem dX6_step_210 : decode cX6_step 210 = .ok (.i2l, 1) := by decide +kernel
theorem dX6_step_211 : decode cX6_step 211 = .ok (.ldc2_w 111, 3) := by decide +kernel
theorem dX6_step_214 : decode cX6_step 214 = .ok (.ldc2_w 113, 3) := by decide +kernel
theorem dX6_step_217 : decode cX6_step 217 = .ok (.invokestatic 55, 3) := by decide +kernel
theorem dX6_step_220 : decode cX6_step 220 = .ok (.ifCond .eq 55, 3) := by decide +kernel
theorem dX6_step_223 : decode cX6_step 223 = .ok (.aload_n 0, 1) := by decide +kernel
theorem dX6_step_224 : decode cX6_step 224 = .ok (.aload_n 0, 1) := by decide +kernel
theorem dX6_step_225 : decode cX6_step 225 = .ok (.getfield 92, 3) := by decide +kernel
theorem dX6_step_228 : decode cX6_step 228 = .ok (.aload_n 0, 1) := by decide +kernel
theorem dX6_step_229 : decode cX6_step 229 = .ok (.getfield 98, 3) := by decide +kernel
theorem dX6_step_232 : decode cX6_step 232 = .ok (.isub, 1) := by decide +kernel
theorem dX6_step_233 : decode cX6_step 233 = .ok (.iconst 2, 1) := by decide +kernel
theorem dX6_step_234 : decode cX6_step 234 = .ok (.if_icmp .ge 21, 3) := by decide +kernel
theorem dX6_step_237 : decode cX6_step 237 = .ok (.bipush 10, 2) := by decide +kernel
theorem dX6_step_239 : decode cX6_step 239 = .ok (.aload_n 0, 1) := by decide +kernel
theorem dX6_step_240 : decode cX6_step 240 = .ok (.getfield 104, 3) := by decide +kernel
theorem dX6_step_243 : decode cX6_step 243 = .ok (.imul, 1) := by decide +kernel
theorem dX6_step_244 : decode cX6_step 244 = .ok (.aload_n 0, 1) := by decide +kernel
theorem dX6_step_245 : decode cX6_step 245 = .ok (.invokevirtual 95, 3) := by decide +kernel
theorem dX6_step_248 : decode cX6_step 248 = .ok (.iadd, 1) := by decide +kernel
theorem dX6_step_249 : decode cX6_step 249 = .ok (.bipush 48, 2) := by decide +kernel
theorem dX6_step_251 : decode cX6_step 251 = .ok (.isub, 1) := by decide +kernel
theorem dX6_step_252 : decode cX6_step 252 = .ok (.goto 7, 3) := by decide +kernel
theorem dX6_step_255 : decode cX6_step 255 = .ok (.aload_n 0, 1) := by decide +kernel
theorem dX6_step_256 : decode cX6_step 256 = .ok (.getfield 104, 3) := by decide +kernel
theorem dX6_step_259 : decode cX6_step 259 = .ok (.putfield 104, 3) := by decide +kernel
theorem dX6_step_262 : decode cX6_step 262 = .ok (.aload_n 0, 1) := by decide +kernel
theorem dX6_step_263 : decode cX6_step 263 = .ok (.dup, 1) := by decide +kernel
theorem dX6_step_264 : decode cX6_step 264 = .ok (.getfield 92, 3) := by decide +kernel
theorem dX6_step_267 : decode cX6_step 267 = .ok (.iconst 1, 1) := by decide +kernel
theorem dX6_step_268 : decode cX6_step 268 = .ok (.iadd, 1) := by decide +kernel
theorem dX6_step_269 : decode cX6_step 269 = .ok (.putfield 92, 3) := by decide +kernel
theorem dX6_step_272 : decode cX6_step 272 = .ok (.goto (-74), 3) := by decide +kernel
theorem dX6_step_275 : decode cX6_step 275 = .ok (.aload_n 0, 1) := by decide +kernel
theorem dX6_step_276 : decode cX6_step 276 = .ok (.aload_n 0, 1) := by decide +kernel
theorem dX6_step_277 : decode cX6_step 277 = .ok (.getfield 115, 3) := by decide +kernel
theorem dX6_step_280 : decode cX6_step 280 = .ok (.iconst 2, 1) := by decide +kernel
theorem dX6_step_281 : decode cX6_step 281 = .ok (.if_icmp .ne 20, 3) := by decide +kernel
theorem dX6_step_284 : decode cX6_step 284 = .ok (.aload_n 0, 1) := by decide +kernel
theorem dX6_step_285 : decode cX6_step 285 = .ok (.getfield 92, 3) := by decide +kernel
theorem dX6_step_288 : decode cX6_step 288 = .ok (.aload_n 0, 1) := by decide +kernel
theorem dX6_step_289 : decode cX6_step 289 = .ok (.getfield 98, 3) := by decide +kernel
theorem dX6_step_292 : decode cX6_step 292 = .ok (.isub, 1) := by decide +kernel
theorem dX6_step_293 : decode cX6_step 293 = .ok (.iconst 2, 1) := by decide +kernel
theorem dX6_step_294 : decode cX6_step 294 = .ok (.if_icmp .le 7, 3) := by decide +kernel
theorem dX6_step_297 : decode cX6_step 297 = .ok (.iconst 4, 1) := by decide +kernel
theorem dX6_step_298 : decode cX6_step 298 = .ok (.goto 7, 3) := by decide +kernel
theorem dX6_step_301 : decode cX6_step 301 = .ok (.aload_n 0, 1) := by decide +kernel
theorem dX6_step_302 : decode cX6_step 302 = .ok (.getfield 115, 3) := by decide +kernel
theorem dX6_step_305 : decode cX6_step 305 = .ok (.putfield 115, 3) := by decide +kernel
theorem dX6_step_308 : decode cX6_step 308 = .ok (.return_, 1) := by decide +kernel
theorem dX6_number_0 : decode cX6_number 0 = .ok (.aload_n 0, 1) := by decide +kernel
theorem dX6_number_1 : decode cX6_number 1 = .ok (.invokevirtual 122, 3) := by decide +kernel
theorem dX6_number_4 : decode cX6_number 4 = .ok (.aload_n 0, 1) := by decide +kernel
theorem dX6_number_5 : decode cX6_number 5 = .ok (.getfield 115, 3) := by decide +kernel
theorem dX6_number_8 : decode cX6_number 8 = .ok (.iconst 2, 1) := by decide +kernel
theorem dX6_number_9 : decode cX6_number 9 = .ok (.if_icmp .ne 15, 3) := by decide +kernel
theorem dX6_number_12 : decode cX6_number 12 = .ok (.aload_n 0, 1) := by decide +kernel
theorem dX6_number_13 : decode cX6_number 13 = .ok (.getfield 104, 3) := by decide +kernel
theorem dX6_number_16 : decode cX6_number 16 = .ok (.iload_n 1, 1) := by decide +kernel
theorem dX6_number_17 : decode cX6_number 17 = .ok (.if_icmp .gt 7, 3) := by decide +kernel
theorem dX6_number_20 : decode cX6_number 20 = .ok (.iconst 1, 1) := by decide +kernel
theorem dX6_number_21 : decode cX6_number 21 = .ok (.goto 4, 3) := by decide +kernel
theorem dX6_number_24 : decode cX6_number 24 = .ok (.iconst 0, 1) := by decide +kernel
theorem dX6_number_25 : decode cX6_number 25 = .ok (.ireturn, 1) := by decide +kernel
theorem dX6_readsTable_0 : decode cX6_readsTable 0 = .ok (.aload_n 0, 1) := by decide +kernel
theorem dX6_readsTable_1 : decode cX6_readsTable 1 = .ok (.bipush 7, 2) := by decide +kernel
theorem dX6_readsTable_3 : decode cX6_readsTable 3 = .ok (.invokevirtual 125, 3) := by decide +kernel
theorem dX6_readsTable_6 : decode cX6_readsTable 6 = .ok (.ifCond .ne 5, 3) := by decide +kernel
theorem dX6_readsTable_9 : decode cX6_readsTable 9 = .ok (.iconst 0, 1) := by decide +kernel
theorem dX6_readsTable_10 : decode cX6_readsTable 10 = .ok (.ireturn, 1) := by decide +kernel
theorem dX6_readsTable_11 : decode cX6_readsTable 11 = .ok (.aload_n 0, 1) := by decide +kernel
theorem dX6_readsTable_12 : decode cX6_readsTable 12 = .ok (.getfield 13, 3) := by decide +kernel
theorem dX6_readsTable_15 : decode cX6_readsTable 15 = .ok (.bipush 20, 2) := by decide +kernel
theorem dX6_readsTable_17 : decode cX6_readsTable 17 = .ok (.aload_n 0, 1) := by decide +kernel
theorem dX6_readsTable_18 : decode cX6_readsTable 18 = .ok (.getfield 104, 3) := by decide +kernel
theorem dX6_readsTable_21 : decode cX6_readsTable 21 = .ok (.iastore, 1) := by decide +kernel
theorem dX6_readsTable_22 : decode cX6_readsTable 22 = .ok (.iconst 1, 1) := by decide +kernel
theorem dX6_readsTable_23 : decode cX6_readsTable 23 = .ok (.ireturn, 1) := by decide +kernel
theorem dX6_readsChild_0 : decode cX6_readsChild 0 = .ok (.aload_n 0, 1) := by decide +kernel
theorem dX6_readsChild_1 : decode cX6_readsChild 1 = .ok (.getfield 13, 3) := by decide +kernel
theorem dX6_readsChild_4 : decode cX6_readsChild 4 = .ok (.bipush 22, 2) := by decide +kernel
theorem dX6_readsChild_6 : decode cX6_readsChild 6 = .ok (.iaload, 1) := by decide +kernel
theorem dX6_readsChild_7 : decode cX6_readsChild 7 = .ok (.bipush 6, 2) := by decide +kernel
theorem dX6_readsChild_9 : decode cX6_readsChild 9 = .ok (.if_icmp .eq 11, 3) := by decide +kernel
theorem dX6_readsChild_12 : decode cX6_readsChild 12 = .ok (.aload_n 0, 1) := by decide +kernel
theorem dX6_readsChild_13 : decode cX6_readsChild 13 = .ok (.iconst 5, 1) := by decide +kernel
theorem dX6_readsChild_14 : decode cX6_readsChild 14 = .ok (.invokevirtual 125, 3) := by decide +kernel
theorem dX6_readsChild_17 : decode cX6_readsChild 17 = .ok (.ifCond .ne 5, 3) := by decide +kernel
theorem dX6_readsChild_20 : decode cX6_readsChild 20 = .ok (.iconst 0, 1) := by decide +kernel
theorem dX6_readsChild_21 : decode cX6_readsChild 21 = .ok (.ireturn, 1) := by decide +kernel
theorem dX6_readsChild_22 : decode cX6_readsChild 22 = .ok (.aload_n 0, 1) := by decide +kernel
theorem dX6_readsChild_23 : decode cX6_readsChild 23 = .ok (.getfield 104, 3) := by decide +kernel
theorem dX6_readsChild_26 : decode cX6_readsChild 26 = .ok (.istore_n 1, 1) := by decide +kernel
theorem dX6_readsChild_27 : decode cX6_readsChild 27 = .ok (.aload_n 0, 1) := by decide +kernel
theorem dX6_readsChild_28 : decode cX6_readsChild 28 = .ok (.bipush 7, 2) := by decide +kernel
theorem dX6_readsChild_30 : decode cX6_readsChild 30 = .ok (.invokevirtual 125, 3) := by decide +kernel
theorem dX6_readsChild_33 : decode cX6_readsChild 33 = .ok (.ifCond .eq 18, 3) := by decide +kernel
theorem dX6_readsChild_36 : decode cX6_readsChild 36 = .ok (.aload_n 0, 1) := by decide +kernel
theorem dX6_readsChild_37 : decode cX6_readsChild 37 = .ok (.getfield 13, 3) := by decide +kernel
theorem dX6_readsChild_40 : decode cX6_readsChild 40 = .ok (.aload_n 0, 1) := by decide +kernel
theorem dX6_readsChild_41 : decode cX6_readsChild 41 = .ok (.getfield 104, 3) := by decide +kernel
theorem dX6_readsChild_44 : decode cX6_readsChild 44 = .ok (.invokestatic 73, 3) := by decide +kernel
theorem dX6_readsChild_47 : decode cX6_readsChild 47 = .ok (.iconst (-1), 1) := by decide +kernel
theorem dX6_readsChild_48 : decode cX6_readsChild 48 = .ok (.if_icmp .eq 5, 3) := by decide +kernel
theorem dX6_readsChild_51 : decode cX6_readsChild 51 = .ok (.iconst 0, 1) := by decide +kernel
theorem dX6_readsChild_52 : decode cX6_readsChild 52 = .ok (.ireturn, 1) := by decide +kernel
theorem dX6_readsChild_53 : decode cX6_readsChild 53 = .ok (.aload_n 0, 1) := by decide +kernel
theorem dX6_readsChild_54 : decode cX6_readsChild 54 = .ok (.getfield 104, 3) := by decide +kernel
theorem dX6_readsChild_57 : decode cX6_readsChild 57 = .ok (.istore_n 2, 1) := by decide +kernel
theorem dX6_readsChild_58 : decode cX6_readsChild 58 = .ok (.aload_n 0, 1) := by decide +kernel
theorem dX6_readsChild_59 : decode cX6_readsChild 59 = .ok (.bipush 20, 2) := by decide +kernel
theorem dX6_readsChild_61 : decode cX6_readsChild 61 = .ok (.invokevirtual 125, 3) := by decide +kernel
theorem dX6_readsChild_64 : decode cX6_readsChild 64 = .ok (.ifCond .ne 5, 3) := by decide +kernel
theorem dX6_readsChild_67 : decode cX6_readsChild 67 = .ok (.iconst 0, 1) := by decide +kernel
theorem dX6_readsChild_68 : decode cX6_readsChild 68 = .ok (.ireturn, 1) := by decide +kernel
theorem dX6_readsChild_69 : decode cX6_readsChild 69 = .ok (.aload_n 0, 1) := by decide +kernel
theorem dX6_readsChild_70 : decode cX6_readsChild 70 = .ok (.getfield 104, 3) := by decide +kernel
theorem dX6_readsChild_73 : decode cX6_readsChild 73 = .ok (.istore_n 3, 1) := by decide +kernel
theorem dX6_readsChild_74 : decode cX6_readsChild 74 = .ok (.aload_n 0, 1) := by decide +kernel
theorem dX6_readsChild_75 : decode cX6_readsChild 75 = .ok (.bipush 30, 2) := by decide +kernel
theorem dX6_readsChild_77 : decode cX6_readsChild 77 = .ok (.invokevirtual 125, 3) := by decide +kernel
theorem dX6_readsChild_80 : decode cX6_readsChild 80 = .ok (.ifCond .ne 5, 3) := by decide +kernel
theorem dX6_readsChild_83 : decode cX6_readsChild 83 = .ok (.iconst 0, 1) := by decide +kernel
theorem dX6_readsChild_84 : decode cX6_readsChild 84 = .ok (.ireturn, 1) := by decide +kernel
theorem dX6_readsChild_85 : decode cX6_readsChild 85 = .ok (.aload_n 0, 1) := by decide +kernel
theorem dX6_readsChild_86 : decode cX6_readsChild 86 = .ok (.getfield 13, 3) := by decide +kernel
theorem dX6_readsChild_89 : decode cX6_readsChild 89 = .ok (.iload_n 1, 1) := by decide +kernel
theorem dX6_readsChild_90 : decode cX6_readsChild 90 = .ok (.iload_n 2, 1) := by decide +kernel
theorem dX6_readsChild_91 : decode cX6_readsChild 91 = .ok (.iload_n 3, 1) := by decide +kernel
theorem dX6_readsChild_92 : decode cX6_readsChild 92 = .ok (.aload_n 0, 1) := by decide +kernel
theorem dX6_readsChild_93 : decode cX6_readsChild 93 = .ok (.getfield 104, 3) := by decide +kernel
theorem dX6_readsChild_96 : decode cX6_readsChild 96 = .ok (.invokestatic 83, 3) := by decide +kernel
theorem dX6_readsChild_99 : decode cX6_readsChild 99 = .ok (.iconst 1, 1) := by decide +kernel
theorem dX6_readsChild_100 : decode cX6_readsChild 100 = .ok (.ireturn, 1) := by decide +kernel
theorem dX6_lesser_0 : decode cX6_lesser 0 = .ok (.iload_n 0, 1) := by decide +kernel
theorem dX6_lesser_1 : decode cX6_lesser 1 = .ok (.iload_n 1, 1) := by decide +kernel
theorem dX6_lesser_2 : decode cX6_lesser 2 = .ok (.if_icmp .le 9, 3) := by decide +kernel
theorem dX6_lesser_5 : decode cX6_lesser 5 = .ok (.iload_n 0, 1) := by decide +kernel
theorem dX6_lesser_6 : decode cX6_lesser 6 = .ok (.iload_n 1, 1) := by decide +kernel
theorem dX6_lesser_7 : decode cX6_lesser 7 = .ok (.isub, 1) := by decide +kernel
theorem dX6_lesser_8 : decode cX6_lesser 8 = .ok (.goto 4, 3) := by decide +kernel
theorem dX6_lesser_11 : decode cX6_lesser 11 = .ok (.iconst 0, 1) := by decide +kernel
theorem dX6_lesser_12 : decode cX6_lesser 12 = .ok (.ireturn, 1) := by decide +kernel
theorem dX6_readsCarrot_0 : decode cX6_readsCarrot 0 = .ok (.aload_n 0, 1) := by decide +kernel
theorem dX6_readsCarrot_1 : decode cX6_readsCarrot 1 = .ok (.invokevirtual 122, 3) := by decide +kernel
theorem dX6_readsCarrot_4 : decode cX6_readsCarrot 4 = .ok (.aload_n 0, 1) := by decide +kernel
theorem dX6_readsCarrot_5 : decode cX6_readsCarrot 5 = .ok (.getfield 115, 3) := by decide +kernel
theorem dX6_readsCarrot_8 : decode cX6_readsCarrot 8 = .ok (.iconst 2, 1) := by decide +kernel
theorem dX6_readsCarrot_9 : decode cX6_readsCarrot 9 = .ok (.if_icmp .ne 17, 3) := by decide +kernel
theorem dX6_readsCarrot_12 : decode cX6_readsCarrot 12 = .ok (.aload_n 0, 1) := by decide +kernel
theorem dX6_readsCarrot_13 : decode cX6_readsCarrot 13 = .ok (.getfield 104, 3) := by decide +kernel
theorem dX6_readsCarrot_16 : decode cX6_readsCarrot 16 = .ok (.aload_n 0, 1) := by decide +kernel
theorem dX6_readsCarrot_17 : decode cX6_readsCarrot 17 = .ok (.getfield 13, 3) := by decide +kernel
theorem dX6_readsCarrot_20 : decode cX6_readsCarrot 20 = .ok (.bipush 22, 2) := by decide +kernel
theorem dX6_readsCarrot_22 : decode cX6_readsCarrot 22 = .ok (.iaload, 1) := by decide +kernel
theorem dX6_readsCarrot_23 : decode cX6_readsCarrot 23 = .ok (.if_icmp .lt 5, 3) := by decide +kernel
theorem dX6_readsCarrot_26 : decode cX6_readsCarrot 26 = .ok (.iconst 0, 1) := by decide +kernel
theorem dX6_readsCarrot_27 : decode cX6_readsCarrot 27 = .ok (.ireturn, 1) := by decide +kernel
theorem dX6_readsCarrot_28 : decode cX6_readsCarrot 28 = .ok (.aload_n 0, 1) := by decide +kernel
theorem dX6_readsCarrot_29 : decode cX6_readsCarrot 29 = .ok (.getfield 13, 3) := by decide +kernel
theorem dX6_readsCarrot_32 : decode cX6_readsCarrot 32 = .ok (.bipush 6, 2) := by decide +kernel
theorem dX6_readsCarrot_34 : decode cX6_readsCarrot 34 = .ok (.aload_n 0, 1) := by decide +kernel
theorem dX6_readsCarrot_35 : decode cX6_readsCarrot 35 = .ok (.getfield 104, 3) := by decide +kernel
theorem dX6_readsCarrot_38 : decode cX6_readsCarrot 38 = .ok (.iadd, 1) := by decide +kernel
theorem dX6_readsCarrot_39 : decode cX6_readsCarrot 39 = .ok (.aload_n 0, 1) := by decide +kernel
theorem dX6_readsCarrot_40 : decode cX6_readsCarrot 40 = .ok (.getfield 13, 3) := by decide +kernel
theorem dX6_readsCarrot_43 : decode cX6_readsCarrot 43 = .ok (.bipush 6, 2) := by decide +kernel
theorem dX6_readsCarrot_45 : decode cX6_readsCarrot 45 = .ok (.aload_n 0, 1) := by decide +kernel
theorem dX6_readsCarrot_46 : decode cX6_readsCarrot 46 = .ok (.getfield 104, 3) := by decide +kernel
theorem dX6_readsCarrot_49 : decode cX6_readsCarrot 49 = .ok (.iadd, 1) := by decide +kernel
theorem dX6_readsCarrot_50 : decode cX6_readsCarrot 50 = .ok (.iaload, 1) := by decide +kernel
theorem dX6_readsCarrot_51 : decode cX6_readsCarrot 51 = .ok (.bipush 10, 2) := by decide +kernel
theorem dX6_readsCarrot_53 : decode cX6_readsCarrot 53 = .ok (.invokestatic 128, 3) := by decide +kernel
theorem dX6_readsCarrot_56 : decode cX6_readsCarrot 56 = .ok (.iastore, 1) := by decide +kernel
theorem dX6_readsCarrot_57 : decode cX6_readsCarrot 57 = .ok (.iconst 1, 1) := by decide +kernel
theorem dX6_readsCarrot_58 : decode cX6_readsCarrot 58 = .ok (.ireturn, 1) := by decide +kernel
theorem dX6_readsItem_0 : decode cX6_readsItem 0 = .ok (.aload_n 0, 1) := by decide +kernel
theorem dX6_readsItem_1 : decode cX6_readsItem 1 = .ok (.getfield 115, 3) := by decide +kernel
theorem dX6_readsItem_4 : decode cX6_readsItem 4 = .ok (.iconst 1, 1) := by decide +kernel
theorem dX6_readsItem_5 : decode cX6_readsItem 5 = .ok (.if_icmp .eq 5, 3) := by decide +kernel
theorem dX6_readsItem_8 : decode cX6_readsItem 8 = .ok (.iconst 0, 1) := by decide +kernel
theorem dX6_readsItem_9 : decode cX6_readsItem 9 = .ok (.ireturn, 1) := by decide +kernel
theorem dX6_readsItem_10 : decode cX6_readsItem 10 = .ok (.aload_n 0, 1) := by decide +kernel
theorem dX6_readsItem_11 : decode cX6_readsItem 11 = .ok (.getfield 101, 3) := by decide +kernel
theorem dX6_readsItem_14 : decode cX6_readsItem 14 = .ok (.lstore_n 2, 1) := by decide +kernel
theorem dX6_readsItem_15 : decode cX6_readsItem 15 = .ok (.lload_n 2, 1) := by decide +kernel
theorem dX6_readsItem_16 : decode cX6_readsItem 16 = .ok (.ldc2_w 132, 3) := by decide +kernel
theorem dX6_readsItem_19 : decode cX6_readsItem 19 = .ok (.lcmp, 1) := by decide +kernel
theorem dX6_readsItem_20 : decode cX6_readsItem 20 = .ok (.ifCond .ne 20, 3) := by decide +kernel
theorem dX6_readsItem_23 : decode cX6_readsItem 23 = .ok (.iload_n 1, 1) := by decide +kernel
theorem dX6_readsItem_24 : decode cX6_readsItem 24 = .ok (.ifCond .eq 14, 3) := by decide +kernel
theorem dX6_readsItem_27 : decode cX6_readsItem 27 = .ok (.aload_n 0, 1) := by decide +kernel
theorem dX6_readsItem_28 : decode cX6_readsItem 28 = .ok (.invokevirtual 134, 3) := by decide +kernel
theorem dX6_readsItem_31 : decode cX6_readsItem 31 = .ok (.ifCond .eq 7, 3) := by decide +kernel
theorem dX6_readsItem_34 : decode cX6_readsItem 34 = .ok (.iconst 1, 1) := by decide +kernel
theorem dX6_readsItem_35 : decode cX6_readsItem 35 = .ok (.goto 4, 3) := by decide +kernel
theorem dX6_readsItem_38 : decode cX6_readsItem 38 = .ok (.iconst 0, 1) := by decide +kernel
theorem dX6_readsItem_39 : decode cX6_readsItem 39 = .ok (.ireturn, 1) := by decide +kernel
theorem dX6_readsItem_40 : decode cX6_readsItem 40 = .ok (.iload_n 1, 1) := by decide +kernel
theorem dX6_readsItem_41 : decode cX6_readsItem 41 = .ok (.ifCond .eq 5, 3) := by decide +kernel
theorem dX6_readsItem_44 : decode cX6_readsItem 44 = .ok (.iconst 0, 1) := by decide +kernel
theorem dX6_readsItem_45 : decode cX6_readsItem 45 = .ok (.ireturn, 1) := by decide +kernel
theorem dX6_readsItem_46 : decode cX6_readsItem 46 = .ok (.lload_n 2, 1) := by decide +kernel
theorem dX6_readsItem_47 : decode cX6_readsItem 47 = .ok (.ldc2_w 138, 3) := by decide +kernel
theorem dX6_readsItem_50 : decode cX6_readsItem 50 = .ok (.lcmp, 1) := by decide +kernel
theorem dX6_readsItem_51 : decode cX6_readsItem 51 = .ok (.ifCond .ne 10, 3) := by decide +kernel
theorem dX6_readsItem_54 : decode cX6_readsItem 54 = .ok (.aload_n 0, 1) := by decide +kernel
theorem dX6_readsItem_55 : decode cX6_readsItem 55 = .ok (.invokevirtual 140, 3) := by decide +kernel
theorem dX6_readsItem_58 : decode cX6_readsItem 58 = .ok (.goto 23, 3) := by decide +kernel
theorem dX6_readsItem_61 : decode cX6_readsItem 61 = .ok (.lload_n 2, 1) := by decide +kernel
theorem dX6_readsItem_62 : decode cX6_readsItem 62 = .ok (.ldc2_w 143, 3) := by decide +kernel
theorem dX6_readsItem_65 : decode cX6_readsItem 65 = .ok (.lcmp, 1) := by decide +kernel
theorem dX6_readsItem_66 : decode cX6_readsItem 66 = .ok (.ifCond .ne 14, 3) := by decide +kernel
theorem dX6_readsItem_69 : decode cX6_readsItem 69 = .ok (.aload_n 0, 1) := by decide +kernel
theorem dX6_readsItem_70 : decode cX6_readsItem 70 = .ok (.invokevirtual 145, 3) := by decide +kernel
theorem dX6_readsItem_73 : decode cX6_readsItem 73 = .ok (.ifCond .eq 7, 3) := by decide +kernel
theorem dX6_readsItem_76 : decode cX6_readsItem 76 = .ok (.iconst 1, 1) := by decide +kernel
theorem dX6_readsItem_77 : decode cX6_readsItem 77 = .ok (.goto 4, 3) := by decide +kernel
theorem dX6_readsItem_80 : decode cX6_readsItem 80 = .ok (.iconst 0, 1) := by decide +kernel
theorem dX6_readsItem_81 : decode cX6_readsItem 81 = .ok (.ireturn, 1) := by decide +kernel
theorem dX6_read_0 : decode cX6_read 0 = .ok (.aload_n 0, 1) := by decide +kernel
theorem dX6_read_1 : decode cX6_read 1 = .ok (.getfield 13, 3) := by decide +kernel
theorem dX6_read_4 : decode cX6_read 4 = .ok (.iconst 0, 1) := by decide +kernel
theorem dX6_read_5 : decode cX6_read 5 = .ok (.invokestatic 39, 3) := by decide +kernel
theorem dX6_read_8 : decode cX6_read 8 = .ok (.aload_n 0, 1) := by decide +kernel
theorem dX6_read_9 : decode cX6_read 9 = .ok (.iconst 0, 1) := by decide +kernel
theorem dX6_read_10 : decode cX6_read 10 = .ok (.putfield 92, 3) := by decide +kernel
theorem dX6_read_13 : decode cX6_read 13 = .ok (.iconst 0, 1) := by decide +kernel
theorem dX6_read_14 : decode cX6_read 14 = .ok (.istore_n 1, 1) := by decide +kernel
theorem dX6_read_15 : decode cX6_read 15 = .ok (.aload_n 0, 1) := by decide +kernel
theorem dX6_read_16 : decode cX6_read 16 = .ok (.invokevirtual 122, 3) := by decide +kernel
theorem dX6_read_19 : decode cX6_read 19 = .ok (.iload_n 1, 1) := by decide +kernel
theorem dX6_read_20 : decode cX6_read 20 = .ok (.ifCond .eq 10, 3) := by decide +kernel
theorem dX6_read_23 : decode cX6_read 23 = .ok (.aload_n 0, 1) := by decide +kernel
theorem dX6_read_24 : decode cX6_read 24 = .ok (.getfield 115, 3) := by decide +kernel
theorem dX6_read_27 : decode cX6_read 27 = .ok (.ifCond .eq 57, 3) := by decide +kernel
theorem dX6_read_30 : decode cX6_read 30 = .ok (.aload_n 0, 1) := by decide +kernel
theorem dX6_read_31 : decode cX6_read 31 = .ok (.iload_n 1, 1) := by decide +kernel
theorem dX6_read_32 : decode cX6_read 32 = .ok (.ifCond .ne 7, 3) := by decide +kernel
theorem dX6_read_35 : decode cX6_read 35 = .ok (.iconst 1, 1) := by decide +kernel
theorem dX6_read_36 : decode cX6_read 36 = .ok (.goto 4, 3) := by decide +kernel
theorem dX6_read_39 : decode cX6_read 39 = .ok (.iconst 0, 1) := by decide +kernel
theorem dX6_read_40 : decode cX6_read 40 = .ok (.invokevirtual 148, 3) := by decide +kernel
theorem dX6_read_43 : decode cX6_read 43 = .ok (.ifCond .ne 11, 3) := by decide +kernel
theorem dX6_read_46 : decode cX6_read 46 = .ok (.bipush (-10), 2) := by decide +kernel
theorem dX6_read_48 : decode cX6_read 48 = .ok (.aload_n 0, 1) := by decide +kernel
theorem dX6_read_49 : decode cX6_read 49 = .ok (.getfield 98, 3) := by decide +kernel
theorem dX6_read_52 : decode cX6_read 52 = .ok (.isub, 1) := by decide +kernel
theorem dX6_read_53 : decode cX6_read 53 = .ok (.ireturn, 1) := by decide +kernel
theorem dX6_read_54 : decode cX6_read 54 = .ok (.aload_n 0, 1) := by decide +kernel
theorem dX6_read_55 : decode cX6_read 55 = .ok (.invokevirtual 122, 3) := by decide +kernel
theorem dX6_read_58 : decode cX6_read 58 = .ok (.aload_n 0, 1) := by decide +kernel
theorem dX6_read_59 : decode cX6_read 59 = .ok (.getfield 115, 3) := by decide +kernel
theorem dX6_read_62 : decode cX6_read 62 = .ok (.iconst 3, 1) := by decide +kernel
theorem dX6_read_63 : decode cX6_read 63 = .ok (.if_icmp .eq 11, 3) := by decide +kernel
theorem dX6_read_66 : decode cX6_read 66 = .ok (.bipush (-10), 2) := by decide +kernel
theorem dX6_read_68 : decode cX6_read 68 = .ok (.aload_n 0, 1) := by decide +kernel
theorem dX6_read_69 : decode cX6_read 69 = .ok (.getfield 98, 3) := by decide +kernel
theorem dX6_read_72 : decode cX6_read 72 = .ok (.isub, 1) := by decide +kernel
theorem dX6_read_73 : decode cX6_read 73 = .ok (.ireturn, 1) := by decide +kernel
theorem dX6_read_74 : decode cX6_read 74 = .ok (.iinc 1 1, 3) := by decide +kernel
theorem dX6_read_77 : decode cX6_read 77 = .ok (.aload_n 0, 1) := by decide +kernel
theorem dX6_read_78 : decode cX6_read 78 = .ok (.invokevirtual 122, 3) := by decide +kernel
theorem dX6_read_81 : decode cX6_read 81 = .ok (.goto (-62), 3) := by decide +kernel
theorem dX6_read_84 : decode cX6_read 84 = .ok (.aload_n 0, 1) := by decide +kernel
theorem dX6_read_85 : decode cX6_read 85 = .ok (.getfield 13, 3) := by decide +kernel
theorem dX6_read_88 : decode cX6_read 88 = .ok (.iconst 0, 1) := by decide +kernel
theorem dX6_read_89 : decode cX6_read 89 = .ok (.aload_n 0, 1) := by decide +kernel
theorem dX6_read_90 : decode cX6_read 90 = .ok (.getfield 7, 3) := by decide +kernel
theorem dX6_read_93 : decode cX6_read 93 = .ok (.iconst 0, 1) := by decide +kernel
theorem dX6_read_94 : decode cX6_read 94 = .ok (.sipush 255, 3) := by decide +kernel
theorem dX6_read_97 : decode cX6_read 97 = .ok (.invokestatic 152, 3) := by decide +kernel
theorem dX6_read_100 : decode cX6_read 100 = .ok (.iload_n 1, 1) := by decide +kernel
theorem dX6_read_101 : decode cX6_read 101 = .ok (.ireturn, 1) := by decide +kernel
theorem dX6_nearAs_0 : decode cX6_nearAs 0 = .ok (.iload_n 1, 1) := by decide +kernel
theorem dX6_nearAs_1 : decode cX6_nearAs 1 = .ok (.iconst 3, 1) := by decide +kernel
theorem dX6_nearAs_2 : decode cX6_nearAs 2 = .ok (.iload_n 2, 1) := by decide +kernel
theorem dX6_nearAs_3 : decode cX6_nearAs 3 = .ok (.imul, 1) := by decide +kernel
theorem dX6_nearAs_4 : decode cX6_nearAs 4 = .ok (.iadd, 1) := by decide +kernel
theorem dX6_nearAs_5 : decode cX6_nearAs 5 = .ok (.iload_n 3, 1) := by decide +kernel
theorem dX6_nearAs_6 : decode cX6_nearAs 6 = .ok (.iconst 2, 1) := by decide +kernel
theorem dX6_nearAs_7 : decode cX6_nearAs 7 = .ok (.idiv, 1) := by decide +kernel
theorem dX6_nearAs_8 : decode cX6_nearAs 8 = .ok (.isub, 1) := by decide +kernel
theorem dX6_nearAs_9 : decode cX6_nearAs 9 = .ok (.istore 6, 2) := by decide +kernel
theorem dX6_nearAs_11 : decode cX6_nearAs 11 = .ok (.iload 6, 2) := by decide +kernel
theorem dX6_nearAs_13 : decode cX6_nearAs 13 = .ok (.ifCond .ge 7, 3) := by decide +kernel
theorem dX6_nearAs_16 : decode cX6_nearAs 16 = .ok (.iconst 0, 1) := by decide +kernel
theorem dX6_nearAs_17 : decode cX6_nearAs 17 = .ok (.goto 5, 3) := by decide +kernel
theorem dX6_nearAs_20 : decode cX6_nearAs 20 = .ok (.iload 6, 2) := by decide +kernel
theorem dX6_nearAs_22 : decode cX6_nearAs 22 = .ok (.istore 6, 2) := by decide +kernel
theorem dX6_nearAs_24 : decode cX6_nearAs 24 = .ok (.iload 6, 2) := by decide +kernel
theorem dX6_nearAs_26 : decode cX6_nearAs 26 = .ok (.iload_n 3, 1) := by decide +kernel
theorem dX6_nearAs_27 : decode cX6_nearAs 27 = .ok (.iconst 2, 1) := by decide +kernel
theorem dX6_nearAs_28 : decode cX6_nearAs 28 = .ok (.idiv, 1) := by decide +kernel
theorem dX6_nearAs_29 : decode cX6_nearAs 29 = .ok (.invokestatic 128, 3) := by decide +kernel
theorem dX6_nearAs_32 : decode cX6_nearAs 32 = .ok (.istore 7, 2) := by decide +kernel
theorem dX6_nearAs_34 : decode cX6_nearAs 34 = .ok (.iload_n 0, 1) := by decide +kernel
theorem dX6_nearAs_35 : decode cX6_nearAs 35 = .ok (.tableswitch 67 1 5 #[33, 38, 41, 49, 62], 33) := by decide +kernel
theorem dX6_nearAs_68 : decode cX6_nearAs 68 = .ok (.iload 6, 2) := by decide +kernel
theorem dX6_nearAs_70 : decode cX6_nearAs 70 = .ok (.iconst 4, 1) := by decide +kernel
theorem dX6_nearAs_71 : decode cX6_nearAs 71 = .ok (.iadd, 1) := by decide +kernel
theorem dX6_nearAs_72 : decode cX6_nearAs 72 = .ok (.ireturn, 1) := by decide +kernel
theorem dX6_nearAs_73 : decode cX6_nearAs 73 = .ok (.iload 7, 2) := by decide +kernel
theorem dX6_nearAs_75 : decode cX6_nearAs 75 = .ok (.ireturn, 1) := by decide +kernel
theorem dX6_nearAs_76 : decode cX6_nearAs 76 = .ok (.iload 6, 2) := by decide +kernel
theorem dX6_nearAs_78 : decode cX6_nearAs 78 = .ok (.iconst 3, 1) := by decide +kernel
theorem dX6_nearAs_79 : decode cX6_nearAs 79 = .ok (.iload 5, 2) := by decide +kernel
theorem dX6_nearAs_81 : decode cX6_nearAs 81 = .ok (.imul, 1) := by decide +kernel
theorem dX6_nearAs_82 : decode cX6_nearAs 82 = .ok (.iadd, 1) := by decide +kernel
theorem dX6_nearAs_83 : decode cX6_nearAs 83 = .ok (.ireturn, 1) := by decide +kernel
theorem dX6_nearAs_84 : decode cX6_nearAs 84 = .ok (.iload 6, 2) := by decide +kernel
theorem dX6_nearAs_86 : decode cX6_nearAs 86 = .ok (.iconst 3, 1) := by decide +kernel
theorem dX6_nearAs_87 : decode cX6_nearAs 87 = .ok (.iload 5, 2) := by decide +kernel
theorem dX6_nearAs_89 : decode cX6_nearAs 89 = .ok (.imul, 1) := by decide +kernel
theorem dX6_nearAs_90 : decode cX6_nearAs 90 = .ok (.iadd, 1) := by decide +kernel
theorem dX6_nearAs_91 : decode cX6_nearAs 91 = .ok (.iconst 2, 1) := by decide +kernel
theorem dX6_nearAs_92 : decode cX6_nearAs 92 = .ok (.iload 4, 2) := by decide +kernel
theorem dX6_nearAs_94 : decode cX6_nearAs 94 = .ok (.imul, 1) := by decide +kernel
theorem dX6_nearAs_95 : decode cX6_nearAs 95 = .ok (.iadd, 1) := by decide +kernel
theorem dX6_nearAs_96 : decode cX6_nearAs 96 = .ok (.ireturn, 1) := by decide +kernel
theorem dX6_nearAs_97 : decode cX6_nearAs 97 = .ok (.iload 7, 2) := by decide +kernel
theorem dX6_nearAs_99 : decode cX6_nearAs 99 = .ok (.iconst 2, 1) := by decide +kernel
theorem dX6_nearAs_100 : decode cX6_nearAs 100 = .ok (.idiv, 1) := by decide +kernel
theorem dX6_nearAs_101 : decode cX6_nearAs 101 = .ok (.ireturn, 1) := by decide +kernel
theorem dX6_nearAs_102 : decode cX6_nearAs 102 = .ok (.iload 6, 2) := by decide +kernel
theorem dX6_nearAs_104 : decode cX6_nearAs 104 = .ok (.ireturn, 1) := by decide +kernel
theorem dX6_tight_0 : decode cX6_tight 0 = .ok (.aload_n 0, 1) := by decide +kernel
theorem dX6_tight_1 : decode cX6_tight 1 = .ok (.aload_n 0, 1) := by decide +kernel
theorem dX6_tight_2 : decode cX6_tight 2 = .ok (.iconst 0, 1) := by decide +kernel
theorem dX6_tight_3 : decode cX6_tight 3 = .ok (.iload_n 1, 1) := by decide +kernel
theorem dX6_tight_4 : decode cX6_tight 4 = .ok (.iadd, 1) := by decide +kernel
theorem dX6_tight_5 : decode cX6_tight 5 = .ok (.iaload, 1) := by decide +kernel
theorem dX6_tight_6 : decode cX6_tight 6 = .ok (.iconst 1, 1) := by decide +kernel
theorem dX6_tight_7 : decode cX6_tight 7 = .ok (.iadd, 1) := by decide +kernel
theorem dX6_tight_8 : decode cX6_tight 8 = .ok (.bipush 8, 2) := by decide +kernel
theorem dX6_tight_10 : decode cX6_tight 10 = .ok (.irem, 1) := by decide +kernel
theorem dX6_tight_11 : decode cX6_tight 11 = .ok (.invokestatic 73, 3) := by decide +kernel
theorem dX6_tight_14 : decode cX6_tight 14 = .ok (.istore_n 2, 1) := by decide +kernel
theorem dX6_tight_15 : decode cX6_tight 15 = .ok (.aload_n 0, 1) := by decide +kernel
theorem dX6_tight_16 : decode cX6_tight 16 = .ok (.aload_n 0, 1) := by decide +kernel
theorem dX6_tight_17 : decode cX6_tight 17 = .ok (.iconst 0, 1) := by decide +kernel
theorem dX6_tight_18 : decode cX6_tight 18 = .ok (.iload_n 1, 1) := by decide +kernel
theorem dX6_tight_19 : decode cX6_tight 19 = .ok (.iadd, 1) := by decide +kernel
theorem dX6_tight_20 : decode cX6_tight 20 = .ok (.iaload, 1) := by decide +kernel
theorem dX6_tight_21 : decode cX6_tight 21 = .ok (.bipush 7, 2) := by decide +kernel
theorem dX6_tight_23 : decode cX6_tight 23 = .ok (.iadd, 1) := by decide +kernel
theorem dX6_tight_24 : decode cX6_tight 24 = .ok (.bipush 8, 2) := by decide +kernel
theorem dX6_tight_26 : decode cX6_tight 26 = .ok (.irem, 1) := by decide +kernel
theorem dX6_tight_27 : decode cX6_tight 27 = .ok (.invokestatic 73, 3) := by decide +kernel
theorem dX6_tight_30 : decode cX6_tight 30 = .ok (.istore_n 3, 1) := by decide +kernel
theorem dX6_tight_31 : decode cX6_tight 31 = .ok (.iload_n 2, 1) := by decide +kernel
theorem dX6_tight_32 : decode cX6_tight 32 = .ok (.iconst (-1), 1) := by decide +kernel
theorem dX6_tight_33 : decode cX6_tight 33 = .ok (.if_icmp .ne 7, 3) := by decide +kernel
theorem dX6_tight_36 : decode cX6_tight 36 = .ok (.iconst 0, 1) := by decide +kernel
theorem dX6_tight_37 : decode cX6_tight 37 = .ok (.goto 4, 3) := by decide +kernel
theorem dX6_tight_40 : decode cX6_tight 40 = .ok (.iconst 1, 1) := by decide +kernel
theorem dX6_tight_41 : decode cX6_tight 41 = .ok (.iload_n 3, 1) := by decide +kernel
theorem dX6_tight_42 : decode cX6_tight 42 = .ok (.iconst (-1), 1) := by decide +kernel
theorem dX6_tight_43 : decode cX6_tight 43 = .ok (.if_icmp .ne 7, 3) := by decide +kernel
theorem dX6_tight_46 : decode cX6_tight 46 = .ok (.iconst 0, 1) := by decide +kernel
theorem dX6_tight_47 : decode cX6_tight 47 = .ok (.goto 4, 3) := by decide +kernel
theorem dX6_tight_50 : decode cX6_tight 50 = .ok (.iconst 1, 1) := by decide +kernel
theorem dX6_tight_51 : decode cX6_tight 51 = .ok (.iadd, 1) := by decide +kernel
theorem dX6_tight_52 : decode cX6_tight 52 = .ok (.ireturn, 1) := by decide +kernel
theorem dX6_nearOf_0 : decode cX6_nearOf 0 = .ok (.aload_n 0, 1) := by decide +kernel
theorem dX6_nearOf_1 : decode cX6_nearOf 1 = .ok (.bipush 23, 2) := by decide +kernel
theorem dX6_nearOf_3 : decode cX6_nearOf 3 = .ok (.iload_n 1, 1) := by decide +kernel
theorem dX6_nearOf_4 : decode cX6_nearOf 4 = .ok (.iadd, 1) := by decide +kernel
theorem dX6_nearOf_5 : decode cX6_nearOf 5 = .ok (.iaload, 1) := by decide +kernel
theorem dX6_nearOf_6 : decode cX6_nearOf 6 = .ok (.aload_n 0, 1) := by decide +kernel
theorem dX6_nearOf_7 : decode cX6_nearOf 7 = .ok (.bipush 6, 2) := by decide +kernel
theorem dX6_nearOf_9 : decode cX6_nearOf 9 = .ok (.iload_n 1, 1) := by decide +kernel
theorem dX6_nearOf_10 : decode cX6_nearOf 10 = .ok (.iadd, 1) := by decide +kernel
theorem dX6_nearOf_11 : decode cX6_nearOf 11 = .ok (.iaload, 1) := by decide +kernel
theorem dX6_nearOf_12 : decode cX6_nearOf 12 = .ok (.aload_n 0, 1) := by decide +kernel
theorem dX6_nearOf_13 : decode cX6_nearOf 13 = .ok (.iload_n 1, 1) := by decide +kernel
theorem dX6_nearOf_14 : decode cX6_nearOf 14 = .ok (.invokestatic 156, 3) := by decide +kernel
theorem dX6_nearOf_17 : decode cX6_nearOf 17 = .ok (.aload_n 0, 1) := by decide +kernel
theorem dX6_nearOf_18 : decode cX6_nearOf 18 = .ok (.bipush 29, 2) := by decide +kernel
theorem dX6_nearOf_20 : decode cX6_nearOf 20 = .ok (.iload_n 1, 1) := by decide +kernel
theorem dX6_nearOf_21 : decode cX6_nearOf 21 = .ok (.iadd, 1) := by decide +kernel
theorem dX6_nearOf_22 : decode cX6_nearOf 22 = .ok (.iaload, 1) := by decide +kernel
theorem dX6_nearOf_23 : decode cX6_nearOf 23 = .ok (.aload_n 0, 1) := by decide +kernel
theorem dX6_nearOf_24 : decode cX6_nearOf 24 = .ok (.bipush 12, 2) := by decide +kernel
theorem dX6_nearOf_26 : decode cX6_nearOf 26 = .ok (.iload_n 1, 1) := by decide +kernel
theorem dX6_nearOf_27 : decode cX6_nearOf 27 = .ok (.iadd, 1) := by decide +kernel
theorem dX6_nearOf_28 : decode cX6_nearOf 28 = .ok (.iaload, 1) := by decide +kernel
theorem dX6_nearOf_29 : decode cX6_nearOf 29 = .ok (.aload_n 0, 1) := by decide +kernel
theorem dX6_nearOf_30 : decode cX6_nearOf 30 = .ok (.bipush 19, 2) := by decide +kernel
theorem dX6_nearOf_32 : decode cX6_nearOf 32 = .ok (.iaload, 1) := by decide +kernel
theorem dX6_nearOf_33 : decode cX6_nearOf 33 = .ok (.invokestatic 159, 3) := by decide +kernel
theorem dX6_nearOf_36 : decode cX6_nearOf 36 = .ok (.ireturn, 1) := by decide +kernel
theorem dX6_whom_0 : decode cX6_whom 0 = .ok (.aload_n 0, 1) := by decide +kernel
theorem dX6_whom_1 : decode cX6_whom 1 = .ok (.aload_n 0, 1) := by decide +kernel
theorem dX6_whom_2 : decode cX6_whom 2 = .ok (.iconst 0, 1) := by decide +kernel
theorem dX6_whom_3 : decode cX6_whom 3 = .ok (.iload_n 1, 1) := by decide +kernel
theorem dX6_whom_4 : decode cX6_whom 4 = .ok (.iadd, 1) := by decide +kernel
theorem dX6_whom_5 : decode cX6_whom 5 = .ok (.iaload, 1) := by decide +kernel
theorem dX6_whom_6 : decode cX6_whom 6 = .ok (.iconst 1, 1) := by decide +kernel
theorem dX6_whom_7 : decode cX6_whom 7 = .ok (.iadd, 1) := by decide +kernel
theorem dX6_whom_8 : decode cX6_whom 8 = .ok (.bipush 8, 2) := by decide +kernel
theorem dX6_whom_10 : decode cX6_whom 10 = .ok (.irem, 1) := by decide +kernel
theorem dX6_whom_11 : decode cX6_whom 11 = .ok (.invokestatic 73, 3) := by decide +kernel
theorem dX6_whom_14 : decode cX6_whom 14 = .ok (.istore_n 2, 1) := by decide +kernel
theorem dX6_whom_15 : decode cX6_whom 15 = .ok (.iload_n 2, 1) := by decide +kernel
theorem dX6_whom_16 : decode cX6_whom 16 = .ok (.iconst (-1), 1) := by decide +kernel
theorem dX6_whom_17 : decode cX6_whom 17 = .ok (.if_icmp .ne 21, 3) := by decide +kernel
theorem dX6_whom_20 : decode cX6_whom 20 = .ok (.aload_n 0, 1) := by decide +kernel
theorem dX6_whom_21 : decode cX6_whom 21 = .ok (.aload_n 0, 1) := by decide +kernel
theorem dX6_whom_22 : decode cX6_whom 22 = .ok (.iconst 0, 1) := by decide +kernel
theorem dX6_whom_23 : decode cX6_whom 23 = .ok (.iload_n 1, 1) := by decide +kernel
theorem dX6_whom_24 : decode cX6_whom 24 = .ok (.iadd, 1) := by decide +kernel
theorem dX6_whom_25 : decode cX6_whom 25 = .ok (.iaload, 1) := by decide +kernel
theorem dX6_whom_26 : decode cX6_whom 26 = .ok (.bipush 7, 2) := by decide +kernel
theorem dX6_whom_28 : decode cX6_whom 28 = .ok (.iadd, 1) := by decide +kernel
theorem dX6_whom_29 : decode cX6_whom 29 = .ok (.bipush 8, 2) := by decide +kernel
theorem dX6_whom_31 : decode cX6_whom 31 = .ok (.irem, 1) := by decide +kernel
theorem dX6_whom_32 : decode cX6_whom 32 = .ok (.invokestatic 73, 3) := by decide +kernel
theorem dX6_whom_35 : decode cX6_whom 35 = .ok (.goto 4, 3) := by decide +kernel
theorem dX6_whom_38 : decode cX6_whom 38 = .ok (.iload_n 2, 1) := by decide +kernel
theorem dX6_whom_39 : decode cX6_whom 39 = .ok (.ireturn, 1) := by decide +kernel
theorem dX6_isGuarded_0 : decode cX6_isGuarded 0 = .ok (.aload_n 0, 1) := by decide +kernel
theorem dX6_isGuarded_1 : decode cX6_isGuarded 1 = .ok (.iconst 0, 1) := by decide +kernel
theorem dX6_isGuarded_2 : decode cX6_isGuarded 2 = .ok (.iload_n 1, 1) := by decide +kernel
theorem dX6_isGuarded_3 : decode cX6_isGuarded 3 = .ok (.iadd, 1) := by decide +kernel
theorem dX6_isGuarded_4 : decode cX6_isGuarded 4 = .ok (.iaload, 1) := by decide +kernel
theorem dX6_isGuarded_5 : decode cX6_isGuarded 5 = .ok (.bipush 8, 2) := by decide +kernel
theorem dX6_isGuarded_7 : decode cX6_isGuarded 7 = .ok (.iadd, 1) := by decide +kernel
theorem dX6_isGuarded_8 : decode cX6_isGuarded 8 = .ok (.aload_n 0, 1) := by decide +kernel
theorem dX6_isGuarded_9 : decode cX6_isGuarded 9 = .ok (.bipush 20, 2) := by decide +kernel
theorem dX6_isGuarded_11 : decode cX6_isGuarded 11 = .ok (.iaload, 1) := by decide +kernel
theorem dX6_isGuarded_12 : decode cX6_isGuarded 12 = .ok (.isub, 1) := by decide +kernel
theorem dX6_isGuarded_13 : decode cX6_isGuarded 13 = .ok (.bipush 8, 2) := by decide +kernel
theorem dX6_isGuarded_15 : decode cX6_isGuarded 15 = .ok (.irem, 1) := by decide +kernel
theorem dX6_isGuarded_16 : decode cX6_isGuarded 16 = .ok (.istore_n 2, 1) := by decide +kernel
theorem dX6_isGuarded_17 : decode cX6_isGuarded 17 = .ok (.iload_n 2, 1) := by decide +kernel
theorem dX6_isGuarded_18 : decode cX6_isGuarded 18 = .ok (.ifCond .eq 14, 3) := by decide +kernel
theorem dX6_isGuarded_21 : decode cX6_isGuarded 21 = .ok (.iload_n 2, 1) := by decide +kernel
theorem dX6_isGuarded_22 : decode cX6_isGuarded 22 = .ok (.iconst 1, 1) := by decide +kernel
theorem dX6_isGuarded_23 : decode cX6_isGuarded 23 = .ok (.if_icmp .eq 9, 3) := by decide +kernel
theorem dX6_isGuarded_26 : decode cX6_isGuarded 26 = .ok (.iload_n 2, 1) := by decide +kernel
theorem dX6_isGuarded_27 : decode cX6_isGuarded 27 = .ok (.bipush 7, 2) := by decide +kernel
theorem dX6_isGuarded_29 : decode cX6_isGuarded 29 = .ok (.if_icmp .ne 7, 3) := by decide +kernel
theorem dX6_isGuarded_32 : decode cX6_isGuarded 32 = .ok (.iconst 1, 1) := by decide +kernel
theorem dX6_isGuarded_33 : decode cX6_isGuarded 33 = .ok (.goto 4, 3) := by decide +kernel
theorem dX6_isGuarded_36 : decode cX6_isGuarded 36 = .ok (.iconst 0, 1) := by decide +kernel
theorem dX6_isGuarded_37 : decode cX6_isGuarded 37 = .ok (.ireturn, 1) := by decide +kernel
theorem dX6_bites_0 : decode cX6_bites 0 = .ok (.aload_n 0, 1) := by decide +kernel
theorem dX6_bites_1 : decode cX6_bites 1 = .ok (.iload_n 1, 1) := by decide +kernel
theorem dX6_bites_2 : decode cX6_bites 2 = .ok (.invokestatic 163, 3) := by decide +kernel
theorem dX6_bites_5 : decode cX6_bites 5 = .ok (.bipush 11, 2) := by decide +kernel
theorem dX6_bites_7 : decode cX6_bites 7 = .ok (.if_icmp .le 24, 3) := by decide +kernel
theorem dX6_bites_10 : decode cX6_bites 10 = .ok (.aload_n 0, 1) := by decide +kernel
theorem dX6_bites_11 : decode cX6_bites 11 = .ok (.iload_n 1, 1) := by decide +kernel
theorem dX6_bites_12 : decode cX6_bites 12 = .ok (.invokestatic 166, 3) := by decide +kernel
theorem dX6_bites_15 : decode cX6_bites 15 = .ok (.ifCond .ne 16, 3) := by decide +kernel
theorem dX6_bites_18 : decode cX6_bites 18 = .ok (.aload_n 0, 1) := by decide +kernel
theorem dX6_bites_19 : decode cX6_bites 19 = .ok (.iload_n 1, 1) := by decide +kernel
theorem dX6_bites_20 : decode cX6_bites 20 = .ok (.invokestatic 170, 3) := by decide +kernel
theorem dX6_bites_23 : decode cX6_bites 23 = .ok (.iconst (-1), 1) := by decide +kernel
theorem dX6_bites_24 : decode cX6_bites 24 = .ok (.if_icmp .eq 7, 3) := by decide +kernel
theorem dX6_bites_27 : decode cX6_bites 27 = .ok (.iconst 1, 1) := by decide +kernel
theorem dX6_bites_28 : decode cX6_bites 28 = .ok (.goto 4, 3) := by decide +kernel
theorem dX6_bites_31 : decode cX6_bites 31 = .ok (.iconst 0, 1) := by decide +kernel
theorem dX6_bites_32 : decode cX6_bites 32 = .ok (.ireturn, 1) := by decide +kernel
theorem dX6_biters_0 : decode cX6_biters 0 = .ok (.iconst 0, 1) := by decide +kernel
theorem dX6_biters_1 : decode cX6_biters 1 = .ok (.istore_n 1, 1) := by decide +kernel
theorem dX6_biters_2 : decode cX6_biters 2 = .ok (.iconst 0, 1) := by decide +kernel
theorem dX6_biters_3 : decode cX6_biters 3 = .ok (.istore_n 2, 1) := by decide +kernel
theorem dX6_biters_4 : decode cX6_biters 4 = .ok (.iload_n 2, 1) := by decide +kernel
theorem dX6_biters_5 : decode cX6_biters 5 = .ok (.aload_n 0, 1) := by decide +kernel
theorem dX6_biters_6 : decode cX6_biters 6 = .ok (.bipush 22, 2) := by decide +kernel
theorem dX6_biters_8 : decode cX6_biters 8 = .ok (.iaload, 1) := by decide +kernel
theorem dX6_biters_9 : decode cX6_biters 9 = .ok (.if_icmp .ge 27, 3) := by decide +kernel
theorem dX6_biters_12 : decode cX6_biters 12 = .ok (.iload_n 1, 1) := by decide +kernel
theorem dX6_biters_13 : decode cX6_biters 13 = .ok (.aload_n 0, 1) := by decide +kernel
theorem dX6_biters_14 : decode cX6_biters 14 = .ok (.iload_n 2, 1) := by decide +kernel
theorem dX6_biters_15 : decode cX6_biters 15 = .ok (.invokestatic 173, 3) := by decide +kernel
theorem dX6_biters_18 : decode cX6_biters 18 = .ok (.ifCond .eq 9, 3) := by decide +kernel
theorem dX6_biters_21 : decode cX6_biters 21 = .ok (.iconst 1, 1) := by decide +kernel
theorem dX6_biters_22 : decode cX6_biters 22 = .ok (.iload_n 2, 1) := by decide +kernel
theorem dX6_biters_23 : decode cX6_biters 23 = .ok (.ishl, 1) := by decide +kernel
theorem dX6_biters_24 : decode cX6_biters 24 = .ok (.goto 4, 3) := by decide +kernel
theorem dX6_biters_27 : decode cX6_biters 27 = .ok (.iconst 0, 1) := by decide +kernel
theorem dX6_biters_28 : decode cX6_biters 28 = .ok (.ior, 1) := by decide +kernel
theorem dX6_biters_29 : decode cX6_biters 29 = .ok (.istore_n 1, 1) := by decide +kernel
theorem dX6_biters_30 : decode cX6_biters 30 = .ok (.iinc 2 1, 3) := by decide +kernel
theorem dX6_biters_33 : decode cX6_biters 33 = .ok (.goto (-29), 3) := by decide +kernel
theorem dX6_biters_36 : decode cX6_biters 36 = .ok (.iload_n 1, 1) := by decide +kernel
theorem dX6_biters_37 : decode cX6_biters 37 = .ok (.ireturn, 1) := by decide +kernel
theorem dX6_goes_0 : decode cX6_goes 0 = .ok (.aload_n 0, 1) := by decide +kernel
theorem dX6_goes_1 : decode cX6_goes 1 = .ok (.invokestatic 176, 3) := by decide +kernel
theorem dX6_goes_4 : decode cX6_goes 4 = .ok (.istore_n 1, 1) := by decide +kernel
theorem dX6_goes_5 : decode cX6_goes 5 = .ok (.iconst 0, 1) := by decide +kernel
theorem dX6_goes_6 : decode cX6_goes 6 = .ok (.istore_n 2, 1) := by decide +kernel
theorem dX6_goes_7 : decode cX6_goes 7 = .ok (.iload_n 2, 1) := by decide +kernel
theorem dX6_goes_8 : decode cX6_goes 8 = .ok (.aload_n 0, 1) := by decide +kernel
theorem dX6_goes_9 : decode cX6_goes 9 = .ok (.bipush 22, 2) := by decide +kernel
theorem dX6_goes_11 : decode cX6_goes 11 = .ok (.iaload, 1) := by decide +kernel
theorem dX6_goes_12 : decode cX6_goes 12 = .ok (.if_icmp .ge 73, 3) := by decide +kernel
theorem dX6_goes_15 : decode cX6_goes 15 = .ok (.iload_n 1, 1) := by decide +kernel
theorem dX6_goes_16 : decode cX6_goes 16 = .ok (.iload_n 2, 1) := by decide +kernel
theorem dX6_goes_17 : decode cX6_goes 17 = .ok (.invokestatic 180, 3) := by decide +kernel
theorem dX6_goes_20 : decode cX6_goes 20 = .ok (.ifCond .eq 34, 3) := by decide +kernel
theorem dX6_goes_23 : decode cX6_goes 23 = .ok (.aload_n 0, 1) := by decide +kernel
theorem dX6_goes_24 : decode cX6_goes 24 = .ok (.bipush 12, 2) := by decide +kernel
theorem dX6_goes_26 : decode cX6_goes 26 = .ok (.aload_n 0, 1) := by decide +kernel
theorem dX6_goes_27 : decode cX6_goes 27 = .ok (.iload_n 2, 1) := by decide +kernel
theorem dX6_goes_28 : decode cX6_goes 28 = .ok (.invokestatic 170, 3) := by decide +kernel
theorem dX6_goes_31 : decode cX6_goes 31 = .ok (.iadd, 1) := by decide +kernel
theorem dX6_goes_32 : decode cX6_goes 32 = .ok (.dup2, 1) := by decide +kernel
theorem dX6_goes_33 : decode cX6_goes 33 = .ok (.iaload, 1) := by decide +kernel
theorem dX6_goes_34 : decode cX6_goes 34 = .ok (.iconst 1, 1) := by decide +kernel
theorem dX6_goes_35 : decode cX6_goes 35 = .ok (.iadd, 1) := by decide +kernel
theorem dX6_goes_36 : decode cX6_goes 36 = .ok (.iastore, 1) := by decide +kernel
theorem dX6_goes_37 : decode cX6_goes 37 = .ok (.aload_n 0, 1) := by decide +kernel
theorem dX6_goes_38 : decode cX6_goes 38 = .ok (.bipush 6, 2) := by decide +kernel
theorem dX6_goes_40 : decode cX6_goes 40 = .ok (.iload_n 2, 1) := by decide +kernel
theorem dX6_goes_41 : decode cX6_goes 41 = .ok (.iadd, 1) := by decide +kernel
theorem dX6_goes_42 : decode cX6_goes 42 = .ok (.aload_n 0, 1) := by decide +kernel
theorem dX6_goes_43 : decode cX6_goes 43 = .ok (.bipush 6, 2) := by decide +kernel
theorem dX6_goes_45 : decode cX6_goes 45 = .ok (.iload_n 2, 1) := by decide +kernel
theorem dX6_goes_46 : decode cX6_goes 46 = .ok (.iadd, 1) := by decide +kernel
theorem dX6_goes_47 : decode cX6_goes 47 = .ok (.iaload, 1) := by decide +kernel
theorem dX6_goes_48 : decode cX6_goes 48 = .ok (.bipush 8, 2) := by decide +kernel
theorem dX6_goes_50 : decode cX6_goes 50 = .ok (.invokestatic 128, 3) := by decide +kernel
theorem dX6_goes_53 : decode cX6_goes 53 = .ok (.iastore, 1) := by decide +kernel
theorem dX6_goes_54 : decode cX6_goes 54 = .ok (.aload_n 0, 1) := by decide +kernel
theorem dX6_goes_55 : decode cX6_goes 55 = .ok (.bipush 6, 2) := by decide +kernel
theorem dX6_goes_57 : decode cX6_goes 57 = .ok (.iload_n 2, 1) := by decide +kernel
theorem dX6_goes_58 : decode cX6_goes 58 = .ok (.iadd, 1) := by decide +kernel
theorem dX6_goes_59 : decode cX6_goes 59 = .ok (.dup2, 1) := by decide +kernel
theorem dX6_goes_60 : decode cX6_goes 60 = .ok (.iaload, 1) := by decide +kernel
theorem dX6_goes_61 : decode cX6_goes 61 = .ok (.aload_n 0, 1) := by decide +kernel
theorem dX6_goes_62 : decode cX6_goes 62 = .ok (.bipush 6, 2) := by decide +kernel
theorem dX6_goes_64 : decode cX6_goes 64 = .ok (.iload_n 2, 1) := by decide +kernel
theorem dX6_goes_65 : decode cX6_goes 65 = .ok (.iadd, 1) := by decide +kernel
theorem dX6_goes_66 : decode cX6_goes 66 = .ok (.iaload, 1) := by decide +kernel
theorem dX6_goes_67 : decode cX6_goes 67 = .ok (.bipush 30, 2) := by decide +kernel
theorem dX6_goes_69 : decode cX6_goes 69 = .ok (.if_icmp .ge 7, 3) := by decide +kernel
theorem dX6_goes_72 : decode cX6_goes 72 = .ok (.iconst 1, 1) := by decide +kernel
theorem dX6_goes_73 : decode cX6_goes 73 = .ok (.goto 4, 3) := by decide +kernel
theorem dX6_goes_76 : decode cX6_goes 76 = .ok (.iconst 0, 1) := by decide +kernel
theorem dX6_goes_77 : decode cX6_goes 77 = .ok (.iadd, 1) := by decide +kernel
theorem dX6_goes_78 : decode cX6_goes 78 = .ok (.iastore, 1) := by decide +kernel
theorem dX6_goes_79 : decode cX6_goes 79 = .ok (.iinc 2 1, 3) := by decide +kernel
theorem dX6_goes_82 : decode cX6_goes 82 = .ok (.goto (-75), 3) := by decide +kernel
theorem dX6_goes_85 : decode cX6_goes 85 = .ok (.aload_n 0, 1) := by decide +kernel
theorem dX6_goes_86 : decode cX6_goes 86 = .ok (.bipush 19, 2) := by decide +kernel
theorem dX6_goes_88 : decode cX6_goes 88 = .ok (.iload_n 1, 1) := by decide +kernel
theorem dX6_goes_89 : decode cX6_goes 89 = .ok (.invokestatic 184, 3) := by decide +kernel
theorem dX6_goes_92 : decode cX6_goes 92 = .ok (.iastore, 1) := by decide +kernel
theorem dX6_goes_93 : decode cX6_goes 93 = .ok (.aload_n 0, 1) := by decide +kernel
theorem dX6_goes_94 : decode cX6_goes 94 = .ok (.bipush 18, 2) := by decide +kernel
theorem dX6_goes_96 : decode cX6_goes 96 = .ok (.dup2, 1) := by decide +kernel
theorem dX6_goes_97 : decode cX6_goes 97 = .ok (.iaload, 1) := by decide +kernel
theorem dX6_goes_98 : decode cX6_goes 98 = .ok (.aload_n 0, 1) := by decide +kernel
theorem dX6_goes_99 : decode cX6_goes 99 = .ok (.bipush 19, 2) := by decide +kernel
theorem dX6_goes_101 : decode cX6_goes 101 = .ok (.iaload, 1) := by decide +kernel
theorem dX6_goes_102 : decode cX6_goes 102 = .ok (.iadd, 1) := by decide +kernel
theorem dX6_goes_103 : decode cX6_goes 103 = .ok (.iastore, 1) := by decide +kernel
theorem dX6_goes_104 : decode cX6_goes 104 = .ok (.aload_n 0, 1) := by decide +kernel
theorem dX6_goes_105 : decode cX6_goes 105 = .ok (.bipush 21, 2) := by decide +kernel
theorem dX6_goes_107 : decode cX6_goes 107 = .ok (.dup2, 1) := by decide +kernel
theorem dX6_goes_108 : decode cX6_goes 108 = .ok (.iaload, 1) := by decide +kernel
theorem dX6_goes_109 : decode cX6_goes 109 = .ok (.iconst 1, 1) := by decide +kernel
theorem dX6_goes_110 : decode cX6_goes 110 = .ok (.iadd, 1) := by decide +kernel
theorem dX6_goes_111 : decode cX6_goes 111 = .ok (.iastore, 1) := by decide +kernel
theorem dX6_goes_112 : decode cX6_goes 112 = .ok (.return_, 1) := by decide +kernel
theorem dX6_remember_0 : decode cX6_remember 0 = .ok (.aload_n 0, 1) := by decide +kernel
theorem dX6_remember_1 : decode cX6_remember 1 = .ok (.getfield 7, 3) := by decide +kernel
theorem dX6_remember_4 : decode cX6_remember 4 = .ok (.bipush 78, 2) := by decide +kernel
theorem dX6_remember_6 : decode cX6_remember 6 = .ok (.iaload, 1) := by decide +kernel
theorem dX6_remember_7 : decode cX6_remember 7 = .ok (.bipush 8, 2) := by decide +kernel
theorem dX6_remember_9 : decode cX6_remember 9 = .ok (.if_icmp .ne 50, 3) := by decide +kernel
theorem dX6_remember_12 : decode cX6_remember 12 = .ok (.iconst 0, 1) := by decide +kernel
theorem dX6_remember_13 : decode cX6_remember 13 = .ok (.istore_n 1, 1) := by decide +kernel
theorem dX6_remember_14 : decode cX6_remember 14 = .ok (.iload_n 1, 1) := by decide +kernel
theorem dX6_remember_15 : decode cX6_remember 15 = .ok (.sipush 154, 3) := by decide +kernel
theorem dX6_remember_18 : decode cX6_remember 18 = .ok (.if_icmp .ge 30, 3) := by decide +kernel
theorem dX6_remember_21 : decode cX6_remember 21 = .ok (.aload_n 0, 1) := by decide +kernel
theorem dX6_remember_22 : decode cX6_remember 22 = .ok (.getfield 7, 3) := by decide +kernel
theorem dX6_remember_25 : decode cX6_remember 25 = .ok (.bipush 79, 2) := by decide +kernel
theorem dX6_remember_27 : decode cX6_remember 27 = .ok (.iload_n 1, 1) := by decide +kernel
theorem dX6_remember_28 : decode cX6_remember 28 = .ok (.iadd, 1) := by decide +kernel
theorem dX6_remember_29 : decode cX6_remember 29 = .ok (.aload_n 0, 1) := by decide +kernel
theorem dX6_remember_30 : decode cX6_remember 30 = .ok (.getfield 7, 3) := by decide +kernel
theorem dX6_remember_33 : decode cX6_remember 33 = .ok (.bipush 79, 2) := by decide +kernel
theorem dX6_remember_35 : decode cX6_remember 35 = .ok (.iload_n 1, 1) := by decide +kernel
theorem dX6_remember_36 : decode cX6_remember 36 = .ok (.iadd, 1) := by decide +kernel
theorem dX6_remember_37 : decode cX6_remember 37 = .ok (.bipush 22, 2) := by decide +kernel
theorem dX6_remember_39 : decode cX6_remember 39 = .ok (.iadd, 1) := by decide +kernel
theorem dX6_remember_40 : decode cX6_remember 40 = .ok (.iaload, 1) := by decide +kernel
theorem dX6_remember_41 : decode cX6_remember 41 = .ok (.iastore, 1) := by decide +kernel
theorem dX6_remember_42 : decode cX6_remember 42 = .ok (.iinc 1 1, 3) := by decide +kernel
theorem dX6_remember_45 : decode cX6_remember 45 = .ok (.goto (-31), 3) := by decide +kernel
theorem dX6_remember_48 : decode cX6_remember 48 = .ok (.aload_n 0, 1) := by decide +kernel
theorem dX6_remember_49 : decode cX6_remember 49 = .ok (.getfield 7, 3) := by decide +kernel
theorem dX6_remember_52 : decode cX6_remember 52 = .ok (.bipush 78, 2) := by decide +kernel
theorem dX6_remember_54 : decode cX6_remember 54 = .ok (.dup2, 1) := by decide +kernel
theorem dX6_remember_55 : decode cX6_remember 55 = .ok (.iaload, 1) := by decide +kernel
theorem dX6_remember_56 : decode cX6_remember 56 = .ok (.iconst 1, 1) := by decide +kernel
theorem dX6_remember_57 : decode cX6_remember 57 = .ok (.isub, 1) := by decide +kernel
theorem dX6_remember_58 : decode cX6_remember 58 = .ok (.iastore, 1) := by decide +kernel
theorem dX6_remember_59 : decode cX6_remember 59 = .ok (.aload_n 0, 1) := by decide +kernel
theorem dX6_remember_60 : decode cX6_remember 60 = .ok (.getfield 7, 3) := by decide +kernel
theorem dX6_remember_63 : decode cX6_remember 63 = .ok (.iconst 0, 1) := by decide +kernel
theorem dX6_remember_64 : decode cX6_remember 64 = .ok (.aload_n 0, 1) := by decide +kernel
theorem dX6_remember_65 : decode cX6_remember 65 = .ok (.getfield 7, 3) := by decide +kernel
theorem dX6_remember_68 : decode cX6_remember 68 = .ok (.bipush 79, 2) := by decide +kernel
theorem dX6_remember_70 : decode cX6_remember 70 = .ok (.bipush 22, 2) := by decide +kernel
theorem dX6_remember_72 : decode cX6_remember 72 = .ok (.aload_n 0, 1) := by decide +kernel
theorem dX6_remember_73 : decode cX6_remember 73 = .ok (.getfield 7, 3) := by decide +kernel
theorem dX6_remember_76 : decode cX6_remember 76 = .ok (.bipush 78, 2) := by decide +kernel
theorem dX6_remember_78 : decode cX6_remember 78 = .ok (.iaload, 1) := by decide +kernel
theorem dX6_remember_79 : decode cX6_remember 79 = .ok (.imul, 1) := by decide +kernel
theorem dX6_remember_80 : decode cX6_remember 80 = .ok (.iadd, 1) := by decide +kernel
theorem dX6_remember_81 : decode cX6_remember 81 = .ok (.bipush 22, 2) := by decide +kernel
theorem dX6_remember_83 : decode cX6_remember 83 = .ok (.invokestatic 152, 3) := by decide +kernel
theorem dX6_remember_86 : decode cX6_remember 86 = .ok (.aload_n 0, 1) := by decide +kernel
theorem dX6_remember_87 : decode cX6_remember 87 = .ok (.getfield 7, 3) := by decide +kernel
theorem dX6_remember_90 : decode cX6_remember 90 = .ok (.bipush 78, 2) := by decide +kernel
theorem dX6_remember_92 : decode cX6_remember 92 = .ok (.dup2, 1) := by decide +kernel
theorem dX6_remember_93 : decode cX6_remember 93 = .ok (.iaload, 1) := by decide +kernel
theorem dX6_remember_94 : decode cX6_remember 94 = .ok (.iconst 1, 1) := by decide +kernel
theorem dX6_remember_95 : decode cX6_remember 95 = .ok (.iadd, 1) := by decide +kernel
theorem dX6_remember_96 : decode cX6_remember 96 = .ok (.iastore, 1) := by decide +kernel
theorem dX6_remember_97 : decode cX6_remember 97 = .ok (.return_, 1) := by decide +kernel
theorem dX6_minute_0 : decode cX6_minute 0 = .ok (.iload_n 1, 1) := by decide +kernel
theorem dX6_minute_1 : decode cX6_minute 1 = .ok (.i2l, 1) := by decide +kernel
theorem dX6_minute_2 : decode cX6_minute 2 = .ok (.lconst 1, 1) := by decide +kernel
theorem dX6_minute_3 : decode cX6_minute 3 = .ok (.ldc2_w 188, 3) := by decide +kernel
theorem dX6_minute_6 : decode cX6_minute 6 = .ok (.invokestatic 55, 3) := by decide +kernel
theorem dX6_minute_9 : decode cX6_minute 9 = .ok (.ifCond .ne 8, 3) := by decide +kernel
theorem dX6_minute_12 : decode cX6_minute 12 = .ok (.aload_n 0, 1) := by decide +kernel
theorem dX6_minute_13 : decode cX6_minute 13 = .ok (.invokevirtual 63, 3) := by decide +kernel
theorem dX6_minute_16 : decode cX6_minute 16 = .ok (.ireturn, 1) := by decide +kernel
theorem dX6_minute_17 : decode cX6_minute 17 = .ok (.aload_n 0, 1) := by decide +kernel
theorem dX6_minute_18 : decode cX6_minute 18 = .ok (.invokevirtual 190, 3) := by decide +kernel
theorem dX6_minute_21 : decode cX6_minute 21 = .ok (.aload_n 0, 1) := by decide +kernel
theorem dX6_minute_22 : decode cX6_minute 22 = .ok (.getfield 7, 3) := by decide +kernel
theorem dX6_minute_25 : decode cX6_minute 25 = .ok (.bipush 18, 2) := by decide +kernel
theorem dX6_minute_27 : decode cX6_minute 27 = .ok (.iaload, 1) := by decide +kernel
theorem dX6_minute_28 : decode cX6_minute 28 = .ok (.istore_n 2, 1) := by decide +kernel
theorem dX6_minute_29 : decode cX6_minute 29 = .ok (.iconst 0, 1) := by decide +kernel
theorem dX6_minute_30 : decode cX6_minute 30 = .ok (.istore_n 3, 1) := by decide +kernel
theorem dX6_minute_31 : decode cX6_minute 31 = .ok (.iload_n 3, 1) := by decide +kernel
theorem dX6_minute_32 : decode cX6_minute 32 = .ok (.iload_n 1, 1) := by decide +kernel
theorem dX6_minute_33 : decode cX6_minute 33 = .ok (.if_icmp .ge 29, 3) := by decide +kernel
theorem dX6_minute_36 : decode cX6_minute 36 = .ok (.aload_n 0, 1) := by decide +kernel
theorem dX6_minute_37 : decode cX6_minute 37 = .ok (.getfield 7, 3) := by decide +kernel
theorem dX6_minute_40 : decode cX6_minute 40 = .ok (.bipush 21, 2) := by decide +kernel
theorem dX6_minute_42 : decode cX6_minute 42 = .ok (.iaload, 1) := by decide +kernel
theorem dX6_minute_43 : decode cX6_minute 43 = .ok (.sipush 999, 3) := by decide +kernel
theorem dX6_minute_46 : decode cX6_minute 46 = .ok (.if_icmp .ge 16, 3) := by decide +kernel
theorem dX6_minute_49 : decode cX6_minute 49 = .ok (.aload_n 0, 1) := by decide +kernel
theorem dX6_minute_50 : decode cX6_minute 50 = .ok (.getfield 7, 3) := by decide +kernel
theorem dX6_minute_53 : decode cX6_minute 53 = .ok (.invokestatic 193, 3) := by decide +kernel
theorem dX6_minute_56 : decode cX6_minute 56 = .ok (.iinc 3 1, 3) := by decide +kernel
theorem dX6_minute_59 : decode cX6_minute 59 = .ok (.goto (-28), 3) := by decide +kernel
theorem dX6_minute_62 : decode cX6_minute 62 = .ok (.aload_n 0, 1) := by decide +kernel
theorem dX6_minute_63 : decode cX6_minute 63 = .ok (.getfield 7, 3) := by decide +kernel
theorem dX6_minute_66 : decode cX6_minute 66 = .ok (.bipush 18, 2) := by decide +kernel
theorem dX6_minute_68 : decode cX6_minute 68 = .ok (.iaload, 1) := by decide +kernel
theorem dX6_minute_69 : decode cX6_minute 69 = .ok (.iload_n 2, 1) := by decide +kernel
theorem dX6_minute_70 : decode cX6_minute 70 = .ok (.isub, 1) := by decide +kernel
theorem dX6_minute_71 : decode cX6_minute 71 = .ok (.ireturn, 1) := by decide +kernel
theorem dX6_carrot_0 : decode cX6_carrot 0 = .ok (.aload_n 0, 1) := by decide +kernel
theorem dX6_carrot_1 : decode cX6_carrot 1 = .ok (.iload_n 1, 1) := by decide +kernel
theorem dX6_carrot_2 : decode cX6_carrot 2 = .ok (.invokevirtual 197, 3) := by decide +kernel
theorem dX6_carrot_5 : decode cX6_carrot 5 = .ok (.ifCond .ne 8, 3) := by decide +kernel
theorem dX6_carrot_8 : decode cX6_carrot 8 = .ok (.aload_n 0, 1) := by decide +kernel
theorem dX6_carrot_9 : decode cX6_carrot 9 = .ok (.invokevirtual 63, 3) := by decide +kernel
theorem dX6_carrot_12 : decode cX6_carrot 12 = .ok (.ireturn, 1) := by decide +kernel
theorem dX6_carrot_13 : decode cX6_carrot 13 = .ok (.aload_n 0, 1) := by decide +kernel
theorem dX6_carrot_14 : decode cX6_carrot 14 = .ok (.invokevirtual 190, 3) := by decide +kernel
theorem dX6_carrot_17 : decode cX6_carrot 17 = .ok (.aload_n 0, 1) := by decide +kernel
theorem dX6_carrot_18 : decode cX6_carrot 18 = .ok (.getfield 7, 3) := by decide +kernel
theorem dX6_carrot_21 : decode cX6_carrot 21 = .ok (.bipush 6, 2) := by decide +kernel
theorem dX6_carrot_23 : decode cX6_carrot 23 = .ok (.iload_n 1, 1) := by decide +kernel
theorem dX6_carrot_24 : decode cX6_carrot 24 = .ok (.iadd, 1) := by decide +kernel
theorem dX6_carrot_25 : decode cX6_carrot 25 = .ok (.aload_n 0, 1) := by decide +kernel
theorem dX6_carrot_26 : decode cX6_carrot 26 = .ok (.getfield 7, 3) := by decide +kernel
theorem dX6_carrot_29 : decode cX6_carrot 29 = .ok (.bipush 6, 2) := by decide +kernel
theorem dX6_carrot_31 : decode cX6_carrot 31 = .ok (.iload_n 1, 1) := by decide +kernel
theorem dX6_carrot_32 : decode cX6_carrot 32 = .ok (.iadd, 1) := by decide +kernel
theorem dX6_carrot_33 : decode cX6_carrot 33 = .ok (.iaload, 1) := by decide +kernel
theorem dX6_carrot_34 : decode cX6_carrot 34 = .ok (.bipush 10, 2) := by decide +kernel
theorem dX6_carrot_36 : decode cX6_carrot 36 = .ok (.invokestatic 128, 3) := by decide +kernel
theorem dX6_carrot_39 : decode cX6_carrot 39 = .ok (.iastore, 1) := by decide +kernel
theorem dX6_carrot_40 : decode cX6_carrot 40 = .ok (.aload_n 0, 1) := by decide +kernel
theorem dX6_carrot_41 : decode cX6_carrot 41 = .ok (.getfield 7, 3) := by decide +kernel
theorem dX6_carrot_44 : decode cX6_carrot 44 = .ok (.bipush 6, 2) := by decide +kernel
theorem dX6_carrot_46 : decode cX6_carrot 46 = .ok (.iload_n 1, 1) := by decide +kernel
theorem dX6_carrot_47 : decode cX6_carrot 47 = .ok (.iadd, 1) := by decide +kernel
theorem dX6_carrot_48 : decode cX6_carrot 48 = .ok (.iaload, 1) := by decide +kernel
theorem dX6_carrot_49 : decode cX6_carrot 49 = .ok (.ireturn, 1) := by decide +kernel
theorem dX6_moves_0 : decode cX6_moves 0 = .ok (.aload_n 0, 1) := by decide +kernel
theorem dX6_moves_1 : decode cX6_moves 1 = .ok (.iload_n 1, 1) := by decide +kernel
theorem dX6_moves_2 : decode cX6_moves 2 = .ok (.invokevirtual 197, 3) := by decide +kernel
theorem dX6_moves_5 : decode cX6_moves 5 = .ok (.ifCond .eq 10, 3) := by decide +kernel
theorem dX6_moves_8 : decode cX6_moves 8 = .ok (.iload_n 2, 1) := by decide +kernel
theorem dX6_moves_9 : decode cX6_moves 9 = .ok (.invokestatic 59, 3) := by decide +kernel
theorem dX6_moves_12 : decode cX6_moves 12 = .ok (.ifCond .ne 8, 3) := by decide +kernel
theorem dX6_moves_15 : decode cX6_moves 15 = .ok (.aload_n 0, 1) := by decide +kernel
theorem dX6_moves_16 : decode cX6_moves 16 = .ok (.invokevirtual 63, 3) := by decide +kernel
theorem dX6_moves_19 : decode cX6_moves 19 = .ok (.ireturn, 1) := by decide +kernel
theorem dX6_moves_20 : decode cX6_moves 20 = .ok (.aload_n 0, 1) := by decide +kernel
theorem dX6_moves_21 : decode cX6_moves 21 = .ok (.getfield 7, 3) := by decide +kernel
theorem dX6_moves_24 : decode cX6_moves 24 = .ok (.iload_n 2, 1) := by decide +kernel
theorem dX6_moves_25 : decode cX6_moves 25 = .ok (.invokestatic 73, 3) := by decide +kernel
theorem dX6_moves_28 : decode cX6_moves 28 = .ok (.istore_n 3, 1) := by decide +kernel
theorem dX6_moves_29 : decode cX6_moves 29 = .ok (.iload_n 3, 1) := by decide +kernel
theorem dX6_moves_30 : decode cX6_moves 30 = .ok (.iconst (-1), 1) := by decide +kernel
theorem dX6_moves_31 : decode cX6_moves 31 = .ok (.if_icmp .eq 13, 3) := by decide +kernel
theorem dX6_moves_34 : decode cX6_moves 34 = .ok (.iload_n 3, 1) := by decide +kernel
theorem dX6_moves_35 : decode cX6_moves 35 = .ok (.iload_n 1, 1) := by decide +kernel
theorem dX6_moves_36 : decode cX6_moves 36 = .ok (.if_icmp .eq 8, 3) := by decide +kernel
theorem dX6_moves_39 : decode cX6_moves 39 = .ok (.aload_n 0, 1) := by decide +kernel
theorem dX6_moves_40 : decode cX6_moves 40 = .ok (.invokevirtual 77, 3) := by decide +kernel
theorem dX6_moves_43 : decode cX6_moves 43 = .ok (.ireturn, 1) := by decide +kernel
theorem dX6_moves_44 : decode cX6_moves 44 = .ok (.aload_n 0, 1) := by decide +kernel
theorem dX6_moves_45 : decode cX6_moves 45 = .ok (.invokevirtual 190, 3) := by decide +kernel
theorem dX6_moves_48 : decode cX6_moves 48 = .ok (.aload_n 0, 1) := by decide +kernel
theorem dX6_moves_49 : decode cX6_moves 49 = .ok (.getfield 7, 3) := by decide +kernel
theorem dX6_moves_52 : decode cX6_moves 52 = .ok (.iconst 0, 1) := by decide +kernel
theorem dX6_moves_53 : decode cX6_moves 53 = .ok (.iload_n 1, 1) := by decide +kernel
theorem dX6_moves_54 : decode cX6_moves 54 = .ok (.iadd, 1) := by decide +kernel
theorem dX6_moves_55 : decode cX6_moves 55 = .ok (.iaload, 1) := by decide +kernel
theorem dX6_moves_56 : decode cX6_moves 56 = .ok (.istore 4, 2) := by decide +kernel
theorem dX6_moves_58 : decode cX6_moves 58 = .ok (.aload_n 0, 1) := by decide +kernel
theorem dX6_moves_59 : decode cX6_moves 59 = .ok (.getfield 7, 3) := by decide +kernel
theorem dX6_moves_62 : decode cX6_moves 62 = .ok (.iconst 0, 1) := by decide +kernel
theorem dX6_moves_63 : decode cX6_moves 63 = .ok (.iload_n 1, 1) := by decide +kernel
theorem dX6_moves_64 : decode cX6_moves 64 = .ok (.iadd, 1) := by decide +kernel
theorem dX6_moves_65 : decode cX6_moves 65 = .ok (.iload_n 2, 1) := by decide +kernel
theorem dX6_moves_66 : decode cX6_moves 66 = .ok (.iastore, 1) := by decide +kernel
theorem dX6_moves_67 : decode cX6_moves 67 = .ok (.iload 4, 2) := by decide +kernel
theorem dX6_moves_69 : decode cX6_moves 69 = .ok (.ireturn, 1) := by decide +kernel
theorem dX6_woman_0 : decode cX6_woman 0 = .ok (.iload_n 1, 1) := by decide +kernel
theorem dX6_woman_1 : decode cX6_woman 1 = .ok (.invokestatic 59, 3) := by decide +kernel
theorem dX6_woman_4 : decode cX6_woman 4 = .ok (.ifCond .ne 8, 3) := by decide +kernel
theorem dX6_woman_7 : decode cX6_woman 7 = .ok (.aload_n 0, 1) := by decide +kernel
theorem dX6_woman_8 : decode cX6_woman 8 = .ok (.invokevirtual 63, 3) := by decide +kernel
theorem dX6_woman_11 : decode cX6_woman 11 = .ok (.ireturn, 1) := by decide +kernel
theorem dX6_woman_12 : decode cX6_woman 12 = .ok (.aload_n 0, 1) := by decide +kernel
theorem dX6_woman_13 : decode cX6_woman 13 = .ok (.invokevirtual 190, 3) := by decide +kernel
theorem dX6_woman_16 : decode cX6_woman 16 = .ok (.aload_n 0, 1) := by decide +kernel
theorem dX6_woman_17 : decode cX6_woman 17 = .ok (.getfield 7, 3) := by decide +kernel
theorem dX6_woman_20 : decode cX6_woman 20 = .ok (.bipush 20, 2) := by decide +kernel
theorem dX6_woman_22 : decode cX6_woman 22 = .ok (.iaload, 1) := by decide +kernel
theorem dX6_woman_23 : decode cX6_woman 23 = .ok (.istore_n 2, 1) := by decide +kernel
theorem dX6_woman_24 : decode cX6_woman 24 = .ok (.aload_n 0, 1) := by decide +kernel
theorem dX6_woman_25 : decode cX6_woman 25 = .ok (.getfield 7, 3) := by decide +kernel
theorem dX6_woman_28 : decode cX6_woman 28 = .ok (.bipush 20, 2) := by decide +kernel
theorem dX6_woman_30 : decode cX6_woman 30 = .ok (.iload_n 1, 1) := by decide +kernel
theorem dX6_woman_31 : decode cX6_woman 31 = .ok (.iastore, 1) := by decide +kernel
theorem dX6_woman_32 : decode cX6_woman 32 = .ok (.iload_n 2, 1) := by decide +kernel
theorem dX6_woman_33 : decode cX6_woman 33 = .ok (.ireturn, 1) := by decide +kernel
theorem dX6_undo_0 : decode cX6_undo 0 = .ok (.aload_n 0, 1) := by decide +kernel
theorem dX6_undo_1 : decode cX6_undo 1 = .ok (.getfield 7, 3) := by decide +kernel
theorem dX6_undo_4 : decode cX6_undo 4 = .ok (.bipush 78, 2) := by decide +kernel
theorem dX6_undo_6 : decode cX6_undo 6 = .ok (.iaload, 1) := by decide +kernel
theorem dX6_undo_7 : decode cX6_undo 7 = .ok (.ifCond .ne 8, 3) := by decide +kernel
theorem dX6_undo_10 : decode cX6_undo 10 = .ok (.aload_n 0, 1) := by decide +kernel
theorem dX6_undo_11 : decode cX6_undo 11 = .ok (.invokevirtual 77, 3) := by decide +kernel
theorem dX6_undo_14 : decode cX6_undo 14 = .ok (.ireturn, 1) := by decide +kernel
theorem dX6_undo_15 : decode cX6_undo 15 = .ok (.aload_n 0, 1) := by decide +kernel
theorem dX6_undo_16 : decode cX6_undo 16 = .ok (.getfield 7, 3) := by decide +kernel
theorem dX6_undo_19 : decode cX6_undo 19 = .ok (.bipush 78, 2) := by decide +kernel
theorem dX6_undo_21 : decode cX6_undo 21 = .ok (.dup2, 1) := by decide +kernel
theorem dX6_undo_22 : decode cX6_undo 22 = .ok (.iaload, 1) := by decide +kernel
theorem dX6_undo_23 : decode cX6_undo 23 = .ok (.iconst 1, 1) := by decide +kernel
theorem dX6_undo_24 : decode cX6_undo 24 = .ok (.isub, 1) := by decide +kernel
theorem dX6_undo_25 : decode cX6_undo 25 = .ok (.iastore, 1) := by decide +kernel
theorem dX6_undo_26 : decode cX6_undo 26 = .ok (.aload_n 0, 1) := by decide +kernel
theorem dX6_undo_27 : decode cX6_undo 27 = .ok (.getfield 7, 3) := by decide +kernel
theorem dX6_undo_30 : decode cX6_undo 30 = .ok (.bipush 79, 2) := by decide +kernel
theorem dX6_undo_32 : decode cX6_undo 32 = .ok (.bipush 22, 2) := by decide +kernel
theorem dX6_undo_34 : decode cX6_undo 34 = .ok (.aload_n 0, 1) := by decide +kernel
theorem dX6_undo_35 : decode cX6_undo 35 = .ok (.getfield 7, 3) := by decide +kernel
theorem dX6_undo_38 : decode cX6_undo 38 = .ok (.bipush 78, 2) := by decide +kernel
theorem dX6_undo_40 : decode cX6_undo 40 = .ok (.iaload, 1) := by decide +kernel
theorem dX6_undo_41 : decode cX6_undo 41 = .ok (.imul, 1) := by decide +kernel
theorem dX6_undo_42 : decode cX6_undo 42 = .ok (.iadd, 1) := by decide +kernel
theorem dX6_undo_43 : decode cX6_undo 43 = .ok (.aload_n 0, 1) := by decide +kernel
theorem dX6_undo_44 : decode cX6_undo 44 = .ok (.getfield 7, 3) := by decide +kernel
theorem dX6_undo_47 : decode cX6_undo 47 = .ok (.iconst 0, 1) := by decide +kernel
theorem dX6_undo_48 : decode cX6_undo 48 = .ok (.bipush 22, 2) := by decide +kernel
theorem dX6_undo_50 : decode cX6_undo 50 = .ok (.invokestatic 152, 3) := by decide +kernel
theorem dX6_undo_53 : decode cX6_undo 53 = .ok (.aload_n 0, 1) := by decide +kernel
theorem dX6_undo_54 : decode cX6_undo 54 = .ok (.getfield 7, 3) := by decide +kernel
theorem dX6_undo_57 : decode cX6_undo 57 = .ok (.bipush 21, 2) := by decide +kernel
theorem dX6_undo_59 : decode cX6_undo 59 = .ok (.iaload, 1) := by decide +kernel
theorem dX6_undo_60 : decode cX6_undo 60 = .ok (.ireturn, 1) := by decide +kernel
theorem dX6_of_0 : decode cX6_of 0 = .ok (.aload_n 0, 1) := by decide +kernel
theorem dX6_of_1 : decode cX6_of 1 = .ok (.iload_n 1, 1) := by decide +kernel
theorem dX6_of_2 : decode cX6_of 2 = .ok (.invokevirtual 197, 3) := by decide +kernel
theorem dX6_of_5 : decode cX6_of 5 = .ok (.ifCond .eq 15, 3) := by decide +kernel
theorem dX6_of_8 : decode cX6_of 8 = .ok (.iload_n 2, 1) := by decide +kernel
theorem dX6_of_9 : decode cX6_of 9 = .ok (.i2l, 1) := by decide +kernel
theorem dX6_of_10 : decode cX6_of 10 = .ok (.lconst 0, 1) := by decide +kernel
theorem dX6_of_11 : decode cX6_of 11 = .ok (.ldc2_w 67, 3) := by decide +kernel
theorem dX6_of_14 : decode cX6_of 14 = .ok (.invokestatic 55, 3) := by decide +kernel
theorem dX6_of_17 : decode cX6_of 17 = .ok (.ifCond .ne 8, 3) := by decide +kernel
theorem dX6_of_20 : decode cX6_of 20 = .ok (.aload_n 0, 1) := by decide +kernel
theorem dX6_of_21 : decode cX6_of 21 = .ok (.invokevirtual 63, 3) := by decide +kernel
theorem dX6_of_24 : decode cX6_of 24 = .ok (.ireturn, 1) := by decide +kernel
theorem dX6_of_25 : decode cX6_of 25 = .ok (.iload_n 2, 1) := by decide +kernel
theorem dX6_of_26 : decode cX6_of 26 = .ok (.tableswitch 83 0 4 #[34, 44, 53, 63, 73], 34) := by decide +kernel
theorem dX6_of_60 : decode cX6_of 60 = .ok (.aload_n 0, 1) := by decide +kernel
theorem dX6_of_61 : decode cX6_of 61 = .ok (.getfield 7, 3) := by decide +kernel
theorem dX6_of_64 : decode cX6_of 64 = .ok (.bipush 23, 2) := by decide +kernel
theorem dX6_of_66 : decode cX6_of 66 = .ok (.iload_n 1, 1) := by decide +kernel
theorem dX6_of_67 : decode cX6_of 67 = .ok (.iadd, 1) := by decide +kernel
theorem dX6_of_68 : decode cX6_of 68 = .ok (.iaload, 1) := by decide +kernel
theorem dX6_of_69 : decode cX6_of 69 = .ok (.ireturn, 1) := by decide +kernel
theorem dX6_of_70 : decode cX6_of 70 = .ok (.aload_n 0, 1) := by decide +kernel
theorem dX6_of_71 : decode cX6_of 71 = .ok (.getfield 7, 3) := by decide +kernel
theorem dX6_of_74 : decode cX6_of 74 = .ok (.iconst 0, 1) := by decide +kernel
theorem dX6_of_75 : decode cX6_of 75 = .ok (.iload_n 1, 1) := by decide +kernel
theorem dX6_of_76 : decode cX6_of 76 = .ok (.iadd, 1) := by decide +kernel
theorem dX6_of_77 : decode cX6_of 77 = .ok (.iaload, 1) := by decide +kernel
theorem dX6_of_78 : decode cX6_of 78 = .ok (.ireturn, 1) := by decide +kernel
theorem dX6_of_79 : decode cX6_of 79 = .ok (.aload_n 0, 1) := by decide +kernel
theorem dX6_of_80 : decode cX6_of 80 = .ok (.getfield 7, 3) := by decide +kernel
theorem dX6_of_83 : decode cX6_of 83 = .ok (.bipush 29, 2) := by decide +kernel
theorem dX6_of_85 : decode cX6_of 85 = .ok (.iload_n 1, 1) := by decide +kernel
theorem dX6_of_86 : decode cX6_of 86 = .ok (.iadd, 1) := by decide +kernel
theorem dX6_of_87 : decode cX6_of 87 = .ok (.iaload, 1) := by decide +kernel
theorem dX6_of_88 : decode cX6_of 88 = .ok (.ireturn, 1) := by decide +kernel
theorem dX6_of_89 : decode cX6_of 89 = .ok (.aload_n 0, 1) := by decide +kernel
theorem dX6_of_90 : decode cX6_of 90 = .ok (.getfield 7, 3) := by decide +kernel
theorem dX6_of_93 : decode cX6_of 93 = .ok (.bipush 6, 2) := by decide +kernel
theorem dX6_of_95 : decode cX6_of 95 = .ok (.iload_n 1, 1) := by decide +kernel
theorem dX6_of_96 : decode cX6_of 96 = .ok (.iadd, 1) := by decide +kernel
theorem dX6_of_97 : decode cX6_of 97 = .ok (.iaload, 1) := by decide +kernel
theorem dX6_of_98 : decode cX6_of 98 = .ok (.ireturn, 1) := by decide +kernel
theorem dX6_of_99 : decode cX6_of 99 = .ok (.aload_n 0, 1) := by decide +kernel
theorem dX6_of_100 : decode cX6_of 100 = .ok (.getfield 7, 3) := by decide +kernel
theorem dX6_of_103 : decode cX6_of 103 = .ok (.bipush 12, 2) := by decide +kernel
theorem dX6_of_105 : decode cX6_of 105 = .ok (.iload_n 1, 1) := by decide +kernel
theorem dX6_of_106 : decode cX6_of 106 = .ok (.iadd, 1) := by decide +kernel
theorem dX6_of_107 : decode cX6_of 107 = .ok (.iaload, 1) := by decide +kernel
theorem dX6_of_108 : decode cX6_of 108 = .ok (.ireturn, 1) := by decide +kernel
theorem dX6_of_109 : decode cX6_of 109 = .ok (.aload_n 0, 1) := by decide +kernel
theorem dX6_of_110 : decode cX6_of 110 = .ok (.getfield 7, 3) := by decide +kernel
theorem dX6_of_113 : decode cX6_of 113 = .ok (.iload_n 1, 1) := by decide +kernel
theorem dX6_of_114 : decode cX6_of 114 = .ok (.invokestatic 156, 3) := by decide +kernel
theorem dX6_of_117 : decode cX6_of 117 = .ok (.ireturn, 1) := by decide +kernel
theorem dX6_now_0 : decode cX6_now 0 = .ok (.aload_n 0, 1) := by decide +kernel
theorem dX6_now_1 : decode cX6_now 1 = .ok (.iload_n 1, 1) := by decide +kernel
theorem dX6_now_2 : decode cX6_now 2 = .ok (.invokevirtual 197, 3) := by decide +kernel
theorem dX6_now_5 : decode cX6_now 5 = .ok (.ifCond .eq 15, 3) := by decide +kernel
theorem dX6_now_8 : decode cX6_now 8 = .ok (.iload_n 2, 1) := by decide +kernel
theorem dX6_now_9 : decode cX6_now 9 = .ok (.i2l, 1) := by decide +kernel
theorem dX6_now_10 : decode cX6_now 10 = .ok (.lconst 0, 1) := by decide +kernel
theorem dX6_now_11 : decode cX6_now 11 = .ok (.ldc2_w 200, 3) := by decide +kernel
theorem dX6_now_14 : decode cX6_now 14 = .ok (.invokestatic 55, 3) := by decide +kernel
theorem dX6_now_17 : decode cX6_now 17 = .ok (.ifCond .ne 8, 3) := by decide +kernel
theorem dX6_now_20 : decode cX6_now 20 = .ok (.aload_n 0, 1) := by decide +kernel
theorem dX6_now_21 : decode cX6_now 21 = .ok (.invokevirtual 202, 3) := by decide +kernel
theorem dX6_now_24 : decode cX6_now 24 = .ok (.ireturn, 1) := by decide +kernel
theorem dX6_now_25 : decode cX6_now 25 = .ok (.iload_n 2, 1) := by decide +kernel
theorem dX6_now_26 : decode cX6_now 26 = .ok (.ifCond .ne 14, 3) := by decide +kernel
theorem dX6_now_29 : decode cX6_now 29 = .ok (.aload_n 0, 1) := by decide +kernel
theorem dX6_now_30 : decode cX6_now 30 = .ok (.getfield 7, 3) := by decide +kernel
theorem dX6_now_33 : decode cX6_now 33 = .ok (.iload_n 1, 1) := by decide +kernel
theorem dX6_now_34 : decode cX6_now 34 = .ok (.invokestatic 163, 3) := by decide +kernel
theorem dX6_now_37 : decode cX6_now 37 = .ok (.goto 35, 3) := by decide +kernel
theorem dX6_now_40 : decode cX6_now 40 = .ok (.iload_n 2, 1) := by decide +kernel
theorem dX6_now_41 : decode cX6_now 41 = .ok (.iconst 1, 1) := by decide +kernel
theorem dX6_now_42 : decode cX6_now 42 = .ok (.if_icmp .ne 14, 3) := by decide +kernel
theorem dX6_now_45 : decode cX6_now 45 = .ok (.aload_n 0, 1) := by decide +kernel
theorem dX6_now_46 : decode cX6_now 46 = .ok (.getfield 7, 3) := by decide +kernel
theorem dX6_now_49 : decode cX6_now 49 = .ok (.iload_n 1, 1) := by decide +kernel
theorem dX6_now_50 : decode cX6_now 50 = .ok (.invokestatic 170, 3) := by decide +kernel
theorem dX6_now_53 : decode cX6_now 53 = .ok (.goto 19, 3) := by decide +kernel
theorem dX6_now_56 : decode cX6_now 56 = .ok (.aload_n 0, 1) := by decide +kernel
theorem dX6_now_57 : decode cX6_now 57 = .ok (.getfield 7, 3) := by decide +kernel
theorem dX6_now_60 : decode cX6_now 60 = .ok (.iload_n 1, 1) := by decide +kernel
theorem dX6_now_61 : decode cX6_now 61 = .ok (.invokestatic 173, 3) := by decide +kernel
theorem dX6_now_64 : decode cX6_now 64 = .ok (.ifCond .eq 7, 3) := by decide +kernel
theorem dX6_now_67 : decode cX6_now 67 = .ok (.iconst 1, 1) := by decide +kernel
theorem dX6_now_68 : decode cX6_now 68 = .ok (.goto 4, 3) := by decide +kernel
theorem dX6_now_71 : decode cX6_now 71 = .ok (.iconst 0, 1) := by decide +kernel
theorem dX6_now_72 : decode cX6_now 72 = .ok (.ireturn, 1) := by decide +kernel
theorem dX6_layAside_0 : decode cX6_layAside 0 = .ok (.aload_n 0, 1) := by decide +kernel
theorem dX6_layAside_1 : decode cX6_layAside 1 = .ok (.getfield 7, 3) := by decide +kernel
theorem dX6_layAside_4 : decode cX6_layAside 4 = .ok (.iconst 0, 1) := by decide +kernel
theorem dX6_layAside_5 : decode cX6_layAside 5 = .ok (.aload_n 0, 1) := by decide +kernel
theorem dX6_layAside_6 : decode cX6_layAside 6 = .ok (.getfield 16, 3) := by decide +kernel
theorem dX6_layAside_9 : decode cX6_layAside 9 = .ok (.iconst 0, 1) := by decide +kernel
theorem dX6_layAside_10 : decode cX6_layAside 10 = .ok (.bipush 35, 2) := by decide +kernel
theorem dX6_layAside_12 : decode cX6_layAside 12 = .ok (.invokestatic 152, 3) := by decide +kernel
theorem dX6_layAside_15 : decode cX6_layAside 15 = .ok (.return_, 1) := by decide +kernel
theorem dX6_bitesIn_0 : decode cX6_bitesIn 0 = .ok (.aload_n 0, 1) := by decide +kernel
theorem dX6_bitesIn_1 : decode cX6_bitesIn 1 = .ok (.getfield 16, 3) := by decide +kernel
theorem dX6_bitesIn_4 : decode cX6_bitesIn 4 = .ok (.bipush 18, 2) := by decide +kernel
theorem dX6_bitesIn_6 : decode cX6_bitesIn 6 = .ok (.iaload, 1) := by decide +kernel
theorem dX6_bitesIn_7 : decode cX6_bitesIn 7 = .ok (.istore_n 2, 1) := by decide +kernel
theorem dX6_bitesIn_8 : decode cX6_bitesIn 8 = .ok (.iconst 0, 1) := by decide +kernel
theorem dX6_bitesIn_9 : decode cX6_bitesIn 9 = .ok (.istore_n 3, 1) := by decide +kernel
theorem dX6_bitesIn_10 : decode cX6_bitesIn 10 = .ok (.iload_n 3, 1) := by decide +kernel
theorem dX6_bitesIn_11 : decode cX6_bitesIn 11 = .ok (.iload_n 1, 1) := by decide +kernel
theorem dX6_bitesIn_12 : decode cX6_bitesIn 12 = .ok (.if_icmp .ge 16, 3) := by decide +kernel
theorem dX6_bitesIn_15 : decode cX6_bitesIn 15 = .ok (.aload_n 0, 1) := by decide +kernel
theorem dX6_bitesIn_16 : decode cX6_bitesIn 16 = .ok (.getfield 16, 3) := by decide +kernel
theorem dX6_bitesIn_19 : decode cX6_bitesIn 19 = .ok (.invokestatic 193, 3) := by decide +kernel
theorem dX6_bitesIn_22 : decode cX6_bitesIn 22 = .ok (.iinc 3 1, 3) := by decide +kernel
theorem dX6_bitesIn_25 : decode cX6_bitesIn 25 = .ok (.goto (-15), 3) := by decide +kernel
theorem dX6_bitesIn_28 : decode cX6_bitesIn 28 = .ok (.aload_n 0, 1) := by decide +kernel
theorem dX6_bitesIn_29 : decode cX6_bitesIn 29 = .ok (.getfield 16, 3) := by decide +kernel
theorem dX6_bitesIn_32 : decode cX6_bitesIn 32 = .ok (.bipush 18, 2) := by decide +kernel
theorem dX6_bitesIn_34 : decode cX6_bitesIn 34 = .ok (.iaload, 1) := by decide +kernel
theorem dX6_bitesIn_35 : decode cX6_bitesIn 35 = .ok (.iload_n 2, 1) := by decide +kernel
theorem dX6_bitesIn_36 : decode cX6_bitesIn 36 = .ok (.isub, 1) := by decide +kernel
theorem dX6_bitesIn_37 : decode cX6_bitesIn 37 = .ok (.ireturn, 1) := by decide +kernel
theorem dX6_then_0 : decode cX6_then 0 = .ok (.iload_n 1, 1) := by decide +kernel
theorem dX6_then_1 : decode cX6_then 1 = .ok (.i2l, 1) := by decide +kernel
theorem dX6_then_2 : decode cX6_then 2 = .ok (.lconst 0, 1) := by decide +kernel
theorem dX6_then_3 : decode cX6_then 3 = .ok (.ldc2_w 188, 3) := by decide +kernel
theorem dX6_then_6 : decode cX6_then 6 = .ok (.invokestatic 55, 3) := by decide +kernel
theorem dX6_then_9 : decode cX6_then 9 = .ok (.ifCond .eq 16, 3) := by decide +kernel
theorem dX6_then_12 : decode cX6_then 12 = .ok (.iload_n 2, 1) := by decide +kernel
theorem dX6_then_13 : decode cX6_then 13 = .ok (.iconst (-1), 1) := by decide +kernel
theorem dX6_then_14 : decode cX6_then 14 = .ok (.if_icmp .eq 16, 3) := by decide +kernel
theorem dX6_then_17 : decode cX6_then 17 = .ok (.aload_n 0, 1) := by decide +kernel
theorem dX6_then_18 : decode cX6_then 18 = .ok (.iload_n 2, 1) := by decide +kernel
theorem dX6_then_19 : decode cX6_then 19 = .ok (.invokevirtual 197, 3) := by decide +kernel
theorem dX6_then_22 : decode cX6_then 22 = .ok (.ifCond .ne 8, 3) := by decide +kernel
theorem dX6_then_25 : decode cX6_then 25 = .ok (.aload_n 0, 1) := by decide +kernel
theorem dX6_then_26 : decode cX6_then 26 = .ok (.invokevirtual 63, 3) := by decide +kernel
theorem dX6_then_29 : decode cX6_then 29 = .ok (.ireturn, 1) := by decide +kernel
theorem dX6_then_30 : decode cX6_then 30 = .ok (.aload_n 0, 1) := by decide +kernel
theorem dX6_then_31 : decode cX6_then 31 = .ok (.invokevirtual 205, 3) := by decide +kernel
theorem dX6_then_34 : decode cX6_then 34 = .ok (.aload_n 0, 1) := by decide +kernel
theorem dX6_then_35 : decode cX6_then 35 = .ok (.iload_n 1, 1) := by decide +kernel
theorem dX6_then_36 : decode cX6_then 36 = .ok (.invokevirtual 208, 3) := by decide +kernel
theorem dX6_then_39 : decode cX6_then 39 = .ok (.istore_n 3, 1) := by decide +kernel
theorem dX6_then_40 : decode cX6_then 40 = .ok (.iload_n 2, 1) := by decide +kernel
theorem dX6_then_41 : decode cX6_then 41 = .ok (.iconst (-1), 1) := by decide +kernel
theorem dX6_then_42 : decode cX6_then 42 = .ok (.if_icmp .ne 13, 3) := by decide +kernel
theorem dX6_then_45 : decode cX6_then 45 = .ok (.aload_n 0, 1) := by decide +kernel
theorem dX6_then_46 : decode cX6_then 46 = .ok (.getfield 16, 3) := by decide +kernel
theorem dX6_then_49 : decode cX6_then 49 = .ok (.bipush 18, 2) := by decide +kernel
theorem dX6_then_51 : decode cX6_then 51 = .ok (.iaload, 1) := by decide +kernel
theorem dX6_then_52 : decode cX6_then 52 = .ok (.goto 12, 3) := by decide +kernel
theorem dX6_then_55 : decode cX6_then 55 = .ok (.aload_n 0, 1) := by decide +kernel
theorem dX6_then_56 : decode cX6_then 56 = .ok (.getfield 16, 3) := by decide +kernel
theorem dX6_then_59 : decode cX6_then 59 = .ok (.bipush 12, 2) := by decide +kernel
theorem dX6_then_61 : decode cX6_then 61 = .ok (.iload_n 2, 1) := by decide +kernel
theorem dX6_then_62 : decode cX6_then 62 = .ok (.iadd, 1) := by decide +kernel
theorem dX6_then_63 : decode cX6_then 63 = .ok (.iaload, 1) := by decide +kernel
theorem dX6_then_64 : decode cX6_then 64 = .ok (.ireturn, 1) := by decide +kernel
theorem dX6_quiet_0 : decode cX6_quiet 0 = .ok (.aload_n 0, 1) := by decide +kernel
theorem dX6_quiet_1 : decode cX6_quiet 1 = .ok (.invokevirtual 205, 3) := by decide +kernel
theorem dX6_quiet_4 : decode cX6_quiet 4 = .ok (.iconst 1, 1) := by decide +kernel
theorem dX6_quiet_5 : decode cX6_quiet 5 = .ok (.istore_n 1, 1) := by decide +kernel
theorem dX6_quiet_6 : decode cX6_quiet 6 = .ok (.iload_n 1, 1) := by decide +kernel
theorem dX6_quiet_7 : decode cX6_quiet 7 = .ok (.bipush 61, 2) := by decide +kernel
theorem dX6_quiet_9 : decode cX6_quiet 9 = .ok (.if_icmp .ge 19, 3) := by decide +kernel
theorem dX6_quiet_12 : decode cX6_quiet 12 = .ok (.aload_n 0, 1) := by decide +kernel
theorem dX6_quiet_13 : decode cX6_quiet 13 = .ok (.iconst 1, 1) := by decide +kernel
theorem dX6_quiet_14 : decode cX6_quiet 14 = .ok (.invokevirtual 208, 3) := by decide +kernel
theorem dX6_quiet_17 : decode cX6_quiet 17 = .ok (.ifCond .le 5, 3) := by decide +kernel
theorem dX6_quiet_20 : decode cX6_quiet 20 = .ok (.iload_n 1, 1) := by decide +kernel
theorem dX6_quiet_21 : decode cX6_quiet 21 = .ok (.ireturn, 1) := by decide +kernel
theorem dX6_quiet_22 : decode cX6_quiet 22 = .ok (.iinc 1 1, 3) := by decide +kernel
theorem dX6_quiet_25 : decode cX6_quiet 25 = .ok (.goto (-19), 3) := by decide +kernel
theorem dX6_quiet_28 : decode cX6_quiet 28 = .ok (.iconst (-1), 1) := by decide +kernel
theorem dX6_quiet_29 : decode cX6_quiet 29 = .ok (.ireturn, 1) := by decide +kernel
theorem dX6_stand_0 : decode cX6_stand 0 = .ok (.iload_n 1, 1) := by decide +kernel
theorem dX6_stand_1 : decode cX6_stand 1 = .ok (.i2l, 1) := by decide +kernel
theorem dX6_stand_2 : decode cX6_stand 2 = .ok (.lconst 1, 1) := by decide +kernel
theorem dX6_stand_3 : decode cX6_stand 3 = .ok (.ldc2_w 188, 3) := by decide +kernel
theorem dX6_stand_6 : decode cX6_stand 6 = .ok (.invokestatic 55, 3) := by decide +kernel
theorem dX6_stand_9 : decode cX6_stand 9 = .ok (.ifCond .eq 13, 3) := by decide +kernel
theorem dX6_stand_12 : decode cX6_stand 12 = .ok (.iload_n 2, 1) := by decide +kernel
theorem dX6_stand_13 : decode cX6_stand 13 = .ok (.i2l, 1) := by decide +kernel
theorem dX6_stand_14 : decode cX6_stand 14 = .ok (.lconst 0, 1) := by decide +kernel
theorem dX6_stand_15 : decode cX6_stand 15 = .ok (.lconst 1, 1) := by decide +kernel
theorem dX6_stand_16 : decode cX6_stand 16 = .ok (.invokestatic 55, 3) := by decide +kernel
theorem dX6_stand_19 : decode cX6_stand 19 = .ok (.ifCond .ne 8, 3) := by decide +kernel
theorem dX6_stand_22 : decode cX6_stand 22 = .ok (.aload_n 0, 1) := by decide +kernel
theorem dX6_stand_23 : decode cX6_stand 23 = .ok (.invokevirtual 63, 3) := by decide +kernel
theorem dX6_stand_26 : decode cX6_stand 26 = .ok (.ireturn, 1) := by decide +kernel
theorem dX6_stand_27 : decode cX6_stand 27 = .ok (.iconst (-1), 1) := by decide +kernel
theorem dX6_stand_28 : decode cX6_stand 28 = .ok (.istore_n 3, 1) := by decide +kernel
theorem dX6_stand_29 : decode cX6_stand 29 = .ok (.ldc 211, 2) := by decide +kernel
theorem dX6_stand_31 : decode cX6_stand 31 = .ok (.istore 4, 2) := by decide +kernel
theorem dX6_stand_33 : decode cX6_stand 33 = .ok (.iconst 0, 1) := by decide +kernel
theorem dX6_stand_34 : decode cX6_stand 34 = .ok (.istore 5, 2) := by decide +kernel
theorem dX6_stand_36 : decode cX6_stand 36 = .ok (.iload 5, 2) := by decide +kernel
theorem dX6_stand_38 : decode cX6_stand 38 = .ok (.bipush 8, 2) := by decide +kernel
theorem dX6_stand_40 : decode cX6_stand 40 = .ok (.if_icmp .ge 59, 3) := by decide +kernel
theorem dX6_stand_43 : decode cX6_stand 43 = .ok (.aload_n 0, 1) := by decide +kernel
theorem dX6_stand_44 : decode cX6_stand 44 = .ok (.invokevirtual 205, 3) := by decide +kernel
theorem dX6_stand_47 : decode cX6_stand 47 = .ok (.aload_n 0, 1) := by decide +kernel
theorem dX6_stand_48 : decode cX6_stand 48 = .ok (.getfield 16, 3) := by decide +kernel
theorem dX6_stand_51 : decode cX6_stand 51 = .ok (.bipush 20, 2) := by decide +kernel
theorem dX6_stand_53 : decode cX6_stand 53 = .ok (.iload 5, 2) := by decide +kernel
theorem dX6_stand_55 : decode cX6_stand 55 = .ok (.iastore, 1) := by decide +kernel
theorem dX6_stand_56 : decode cX6_stand 56 = .ok (.aload_n 0, 1) := by decide +kernel
theorem dX6_stand_57 : decode cX6_stand 57 = .ok (.iload_n 1, 1) := by decide +kernel
theorem dX6_stand_58 : decode cX6_stand 58 = .ok (.invokevirtual 208, 3) := by decide +kernel
theorem dX6_stand_61 : decode cX6_stand 61 = .ok (.istore 6, 2) := by decide +kernel
theorem dX6_stand_63 : decode cX6_stand 63 = .ok (.iload 6, 2) := by decide +kernel
theorem dX6_stand_65 : decode cX6_stand 65 = .ok (.iload 4, 2) := by decide +kernel
theorem dX6_stand_67 : decode cX6_stand 67 = .ok (.if_icmp .ge 8, 3) := by decide +kernel
theorem dX6_stand_70 : decode cX6_stand 70 = .ok (.iload 5, 2) := by decide +kernel
theorem dX6_stand_72 : decode cX6_stand 72 = .ok (.goto 4, 3) := by decide +kernel
theorem dX6_stand_75 : decode cX6_stand 75 = .ok (.iload_n 3, 1) := by decide +kernel
theorem dX6_stand_76 : decode cX6_stand 76 = .ok (.istore_n 3, 1) := by decide +kernel
theorem dX6_stand_77 : decode cX6_stand 77 = .ok (.iload 6, 2) := by decide +kernel
theorem dX6_stand_79 : decode cX6_stand 79 = .ok (.iload 4, 2) := by decide +kernel
theorem dX6_stand_81 : decode cX6_stand 81 = .ok (.if_icmp .ge 8, 3) := by decide +kernel
theorem dX6_stand_84 : decode cX6_stand 84 = .ok (.iload 6, 2) := by decide +kernel
theorem dX6_stand_86 : decode cX6_stand 86 = .ok (.goto 5, 3) := by decide +kernel
theorem dX6_stand_89 : decode cX6_stand 89 = .ok (.iload 4, 2) := by decide +kernel
theorem dX6_stand_91 : decode cX6_stand 91 = .ok (.istore 4, 2) := by decide +kernel
theorem dX6_stand_93 : decode cX6_stand 93 = .ok (.iinc 5 1, 3) := by decide +kernel
theorem dX6_stand_96 : decode cX6_stand 96 = .ok (.goto (-60), 3) := by decide +kernel
theorem dX6_stand_99 : decode cX6_stand 99 = .ok (.iload_n 2, 1) := by decide +kernel
theorem dX6_stand_100 : decode cX6_stand 100 = .ok (.ifCond .ne 7, 3) := by decide +kernel
theorem dX6_stand_103 : decode cX6_stand 103 = .ok (.iload_n 3, 1) := by decide +kernel
theorem dX6_stand_104 : decode cX6_stand 104 = .ok (.goto 5, 3) := by decide +kernel
theorem dX6_stand_107 : decode cX6_stand 107 = .ok (.iload 4, 2) := by decide +kernel
theorem dX6_stand_109 : decode cX6_stand 109 = .ok (.ireturn, 1) := by decide +kernel
theorem dX6_helps_0 : decode cX6_helps 0 = .ok (.aload_n 0, 1) := by decide +kernel
theorem dX6_helps_1 : decode cX6_helps 1 = .ok (.invokevirtual 205, 3) := by decide +kernel
theorem dX6_helps_4 : decode cX6_helps 4 = .ok (.aload_n 0, 1) := by decide +kernel
theorem dX6_helps_5 : decode cX6_helps 5 = .ok (.bipush 20, 2) := by decide +kernel
theorem dX6_helps_7 : decode cX6_helps 7 = .ok (.invokevirtual 208, 3) := by decide +kernel
theorem dX6_helps_10 : decode cX6_helps 10 = .ok (.istore_n 1, 1) := by decide +kernel
theorem dX6_helps_11 : decode cX6_helps 11 = .ok (.iconst (-1), 1) := by decide +kernel
theorem dX6_helps_12 : decode cX6_helps 12 = .ok (.istore_n 2, 1) := by decide +kernel
theorem dX6_helps_13 : decode cX6_helps 13 = .ok (.iconst 0, 1) := by decide +kernel
theorem dX6_helps_14 : decode cX6_helps 14 = .ok (.istore_n 3, 1) := by decide +kernel
theorem dX6_helps_15 : decode cX6_helps 15 = .ok (.iload_n 3, 1) := by decide +kernel
theorem dX6_helps_16 : decode cX6_helps 16 = .ok (.aload_n 0, 1) := by decide +kernel
theorem dX6_helps_17 : decode cX6_helps 17 = .ok (.getfield 7, 3) := by decide +kernel
theorem dX6_helps_20 : decode cX6_helps 20 = .ok (.bipush 22, 2) := by decide +kernel
theorem dX6_helps_22 : decode cX6_helps 22 = .ok (.iaload, 1) := by decide +kernel
theorem dX6_helps_23 : decode cX6_helps 23 = .ok (.if_icmp .ge 105, 3) := by decide +kernel
theorem dX6_helps_26 : decode cX6_helps 26 = .ok (.iconst 0, 1) := by decide +kernel
theorem dX6_helps_27 : decode cX6_helps 27 = .ok (.istore 4, 2) := by decide +kernel
theorem dX6_helps_29 : decode cX6_helps 29 = .ok (.iload 4, 2) := by decide +kernel
theorem dX6_helps_31 : decode cX6_helps 31 = .ok (.bipush 10, 2) := by decide +kernel
theorem dX6_helps_33 : decode cX6_helps 33 = .ok (.if_icmp .ge 89, 3) := by decide +kernel
theorem dX6_helps_36 : decode cX6_helps 36 = .ok (.aload_n 0, 1) := by decide +kernel
theorem dX6_helps_37 : decode cX6_helps 37 = .ok (.invokevirtual 205, 3) := by decide +kernel
theorem dX6_helps_40 : decode cX6_helps 40 = .ok (.aload_n 0, 1) := by decide +kernel
theorem dX6_helps_41 : decode cX6_helps 41 = .ok (.iload 4, 2) := by decide +kernel
theorem dX6_helps_43 : decode cX6_helps 43 = .ok (.invokevirtual 208, 3) := by decide +kernel
theorem dX6_helps_46 : decode cX6_helps 46 = .ok (.istore 5, 2) := by decide +kernel
theorem dX6_helps_48 : decode cX6_helps 48 = .ok (.aload_n 0, 1) := by decide +kernel
theorem dX6_helps_49 : decode cX6_helps 49 = .ok (.getfield 16, 3) := by decide +kernel
theorem dX6_helps_52 : decode cX6_helps 52 = .ok (.bipush 6, 2) := by decide +kernel
theorem dX6_helps_54 : decode cX6_helps 54 = .ok (.iload_n 3, 1) := by decide +kernel
theorem dX6_helps_55 : decode cX6_helps 55 = .ok (.iadd, 1) := by decide +kernel
theorem dX6_helps_56 : decode cX6_helps 56 = .ok (.aload_n 0, 1) := by decide +kernel
theorem dX6_helps_57 : decode cX6_helps 57 = .ok (.getfield 16, 3) := by decide +kernel
theorem dX6_helps_60 : decode cX6_helps 60 = .ok (.bipush 6, 2) := by decide +kernel
theorem dX6_helps_62 : decode cX6_helps 62 = .ok (.iload_n 3, 1) := by decide +kernel
theorem dX6_helps_63 : decode cX6_helps 63 = .ok (.iadd, 1) := by decide +kernel
theorem dX6_helps_64 : decode cX6_helps 64 = .ok (.iaload, 1) := by decide +kernel
theorem dX6_helps_65 : decode cX6_helps 65 = .ok (.bipush 10, 2) := by decide +kernel
theorem dX6_helps_67 : decode cX6_helps 67 = .ok (.invokestatic 128, 3) := by decide +kernel
theorem dX6_helps_70 : decode cX6_helps 70 = .ok (.iastore, 1) := by decide +kernel
theorem dX6_helps_71 : decode cX6_helps 71 = .ok (.iload 5, 2) := by decide +kernel
theorem dX6_helps_73 : decode cX6_helps 73 = .ok (.aload_n 0, 1) := by decide +kernel
theorem dX6_helps_74 : decode cX6_helps 74 = .ok (.bipush 20, 2) := by decide +kernel
theorem dX6_helps_76 : decode cX6_helps 76 = .ok (.iload 4, 2) := by decide +kernel
theorem dX6_helps_78 : decode cX6_helps 78 = .ok (.isub, 1) := by decide +kernel
theorem dX6_helps_79 : decode cX6_helps 79 = .ok (.invokevirtual 208, 3) := by decide +kernel
theorem dX6_helps_82 : decode cX6_helps 82 = .ok (.iadd, 1) := by decide +kernel
theorem dX6_helps_83 : decode cX6_helps 83 = .ok (.istore 5, 2) := by decide +kernel
theorem dX6_helps_85 : decode cX6_helps 85 = .ok (.iload 5, 2) := by decide +kernel
theorem dX6_helps_87 : decode cX6_helps 87 = .ok (.iload_n 1, 1) := by decide +kernel
theorem dX6_helps_88 : decode cX6_helps 88 = .ok (.if_icmp .ge 13, 3) := by decide +kernel
theorem dX6_helps_91 : decode cX6_helps 91 = .ok (.bipush 10, 2) := by decide +kernel
theorem dX6_helps_93 : decode cX6_helps 93 = .ok (.iload_n 3, 1) := by decide +kernel
theorem dX6_helps_94 : decode cX6_helps 94 = .ok (.imul, 1) := by decide +kernel
theorem dX6_helps_95 : decode cX6_helps 95 = .ok (.iload 4, 2) := by decide +kernel
theorem dX6_helps_97 : decode cX6_helps 97 = .ok (.iadd, 1) := by decide +kernel
theorem dX6_helps_98 : decode cX6_helps 98 = .ok (.goto 4, 3) := by decide +kernel
theorem dX6_helps_101 : decode cX6_helps 101 = .ok (.iload_n 2, 1) := by decide +kernel
theorem dX6_helps_102 : decode cX6_helps 102 = .ok (.istore_n 2, 1) := by decide +kernel
theorem dX6_helps_103 : decode cX6_helps 103 = .ok (.iload 5, 2) := by decide +kernel
theorem dX6_helps_105 : decode cX6_helps 105 = .ok (.iload_n 1, 1) := by decide +kernel
theorem dX6_helps_106 : decode cX6_helps 106 = .ok (.if_icmp .ge 8, 3) := by decide +kernel
theorem dX6_helps_109 : decode cX6_helps 109 = .ok (.iload 5, 2) := by decide +kernel
theorem dX6_helps_111 : decode cX6_helps 111 = .ok (.goto 4, 3) := by decide +kernel
end
section
theorem dX6_helps_114 : decode cX6_helps 114 = .ok (.iload_n 1, 1) := by decide +kernel
theorem dX6_helps_115 : decode cX6_helps 115 = .ok (.istore_n 1, 1) := by decide +kernel
theorem dX6_helps_116 : decode cX6_helps 116 = .ok (.iinc 4 1, 3) := by decide +kernel
theorem dX6_helps_119 : decode cX6_helps 119 = .ok (.goto (-90), 3) := by decide +kernel
theorem dX6_helps_122 : decode cX6_helps 122 = .ok (.iinc 3 1, 3) := by decide +kernel
theorem dX6_helps_125 : decode cX6_helps 125 = .ok (.goto (-110), 3) := by decide +kernel
theorem dX6_helps_128 : decode cX6_helps 128 = .ok (.iload_n 2, 1) := by decide +kernel
theorem dX6_helps_129 : decode cX6_helps 129 = .ok (.ireturn, 1) := by decide +kernel
theorem dX6_seatsAll_0 : decode cX6_seatsAll 0 = .ok (.aload_n 0, 1) := by decide +kernel
theorem dX6_seatsAll_1 : decode cX6_seatsAll 1 = .ok (.getfield 7, 3) := by decide +kernel
theorem dX6_seatsAll_4 : decode cX6_seatsAll 4 = .ok (.bipush 22, 2) := by decide +kernel
theorem dX6_seatsAll_6 : decode cX6_seatsAll 6 = .ok (.iaload, 1) := by decide +kernel
theorem dX6_seatsAll_7 : decode cX6_seatsAll 7 = .ok (.istore_n 1, 1) := by decide +kernel
theorem dX6_seatsAll_8 : decode cX6_seatsAll 8 = .ok (.ldc 211, 2) := by decide +kernel
theorem dX6_seatsAll_10 : decode cX6_seatsAll 10 = .ok (.istore_n 2, 1) := by decide +kernel
theorem dX6_seatsAll_11 : decode cX6_seatsAll 11 = .ok (.aload_n 0, 1) := by decide +kernel
theorem dX6_seatsAll_12 : decode cX6_seatsAll 12 = .ok (.invokevirtual 205, 3) := by decide +kernel
theorem dX6_seatsAll_15 : decode cX6_seatsAll 15 = .ok (.iconst 0, 1) := by decide +kernel
theorem dX6_seatsAll_16 : decode cX6_seatsAll 16 = .ok (.istore_n 3, 1) := by decide +kernel
theorem dX6_seatsAll_17 : decode cX6_seatsAll 17 = .ok (.aload_n 0, 1) := by decide +kernel
theorem dX6_seatsAll_18 : decode cX6_seatsAll 18 = .ok (.getfield 33, 3) := by decide +kernel
theorem dX6_seatsAll_21 : decode cX6_seatsAll 21 = .ok (.iconst 0, 1) := by decide +kernel
theorem dX6_seatsAll_22 : decode cX6_seatsAll 22 = .ok (.iconst (-1), 1) := by decide +kernel
theorem dX6_seatsAll_23 : decode cX6_seatsAll 23 = .ok (.iastore, 1) := by decide +kernel
theorem dX6_seatsAll_24 : decode cX6_seatsAll 24 = .ok (.iload_n 3, 1) := by decide +kernel
theorem dX6_seatsAll_25 : decode cX6_seatsAll 25 = .ok (.ifCond .lt 151, 3) := by decide +kernel
theorem dX6_seatsAll_28 : decode cX6_seatsAll 28 = .ok (.iload_n 3, 1) := by decide +kernel
theorem dX6_seatsAll_29 : decode cX6_seatsAll 29 = .ok (.iload_n 1, 1) := by decide +kernel
theorem dX6_seatsAll_30 : decode cX6_seatsAll 30 = .ok (.if_icmp .ne 45, 3) := by decide +kernel
theorem dX6_seatsAll_33 : decode cX6_seatsAll 33 = .ok (.aload_n 0, 1) := by decide +kernel
theorem dX6_seatsAll_34 : decode cX6_seatsAll 34 = .ok (.getfield 16, 3) := by decide +kernel
theorem dX6_seatsAll_37 : decode cX6_seatsAll 37 = .ok (.invokestatic 176, 3) := by decide +kernel
theorem dX6_seatsAll_40 : decode cX6_seatsAll 40 = .ok (.invokestatic 184, 3) := by decide +kernel
theorem dX6_seatsAll_43 : decode cX6_seatsAll 43 = .ok (.istore 4, 2) := by decide +kernel
theorem dX6_seatsAll_45 : decode cX6_seatsAll 45 = .ok (.iload 4, 2) := by decide +kernel
theorem dX6_seatsAll_47 : decode cX6_seatsAll 47 = .ok (.iload_n 2, 1) := by decide +kernel
theorem dX6_seatsAll_48 : decode cX6_seatsAll 48 = .ok (.if_icmp .ge 21, 3) := by decide +kernel
theorem dX6_seatsAll_51 : decode cX6_seatsAll 51 = .ok (.iload 4, 2) := by decide +kernel
theorem dX6_seatsAll_53 : decode cX6_seatsAll 53 = .ok (.istore_n 2, 1) := by decide +kernel
theorem dX6_seatsAll_54 : decode cX6_seatsAll 54 = .ok (.aload_n 0, 1) := by decide +kernel
theorem dX6_seatsAll_55 : decode cX6_seatsAll 55 = .ok (.getfield 16, 3) := by decide +kernel
theorem dX6_seatsAll_58 : decode cX6_seatsAll 58 = .ok (.iconst 0, 1) := by decide +kernel
theorem dX6_seatsAll_59 : decode cX6_seatsAll 59 = .ok (.aload_n 0, 1) := by decide +kernel
theorem dX6_seatsAll_60 : decode cX6_seatsAll 60 = .ok (.getfield 36, 3) := by decide +kernel
theorem dX6_seatsAll_63 : decode cX6_seatsAll 63 = .ok (.iconst 0, 1) := by decide +kernel
theorem dX6_seatsAll_64 : decode cX6_seatsAll 64 = .ok (.bipush 6, 2) := by decide +kernel
theorem dX6_seatsAll_66 : decode cX6_seatsAll 66 = .ok (.invokestatic 152, 3) := by decide +kernel
theorem dX6_seatsAll_69 : decode cX6_seatsAll 69 = .ok (.iinc 3 (-1), 3) := by decide +kernel
theorem dX6_seatsAll_72 : decode cX6_seatsAll 72 = .ok (.goto (-48), 3) := by decide +kernel
theorem dX6_seatsAll_75 : decode cX6_seatsAll 75 = .ok (.aload_n 0, 1) := by decide +kernel
theorem dX6_seatsAll_76 : decode cX6_seatsAll 76 = .ok (.getfield 33, 3) := by decide +kernel
theorem dX6_seatsAll_79 : decode cX6_seatsAll 79 = .ok (.iload_n 3, 1) := by decide +kernel
theorem dX6_seatsAll_80 : decode cX6_seatsAll 80 = .ok (.dup2, 1) := by decide +kernel
theorem dX6_seatsAll_81 : decode cX6_seatsAll 81 = .ok (.iaload, 1) := by decide +kernel
theorem dX6_seatsAll_82 : decode cX6_seatsAll 82 = .ok (.iconst 1, 1) := by decide +kernel
theorem dX6_seatsAll_83 : decode cX6_seatsAll 83 = .ok (.iadd, 1) := by decide +kernel
theorem dX6_seatsAll_84 : decode cX6_seatsAll 84 = .ok (.iastore, 1) := by decide +kernel
theorem dX6_seatsAll_85 : decode cX6_seatsAll 85 = .ok (.iload_n 3, 1) := by decide +kernel
theorem dX6_seatsAll_86 : decode cX6_seatsAll 86 = .ok (.istore 4, 2) := by decide +kernel
theorem dX6_seatsAll_88 : decode cX6_seatsAll 88 = .ok (.iload 4, 2) := by decide +kernel
theorem dX6_seatsAll_90 : decode cX6_seatsAll 90 = .ok (.iload_n 1, 1) := by decide +kernel
theorem dX6_seatsAll_91 : decode cX6_seatsAll 91 = .ok (.if_icmp .ge 19, 3) := by decide +kernel
theorem dX6_seatsAll_94 : decode cX6_seatsAll 94 = .ok (.aload_n 0, 1) := by decide +kernel
theorem dX6_seatsAll_95 : decode cX6_seatsAll 95 = .ok (.getfield 16, 3) := by decide +kernel
theorem dX6_seatsAll_98 : decode cX6_seatsAll 98 = .ok (.iconst 0, 1) := by decide +kernel
theorem dX6_seatsAll_99 : decode cX6_seatsAll 99 = .ok (.iload 4, 2) := by decide +kernel
theorem dX6_seatsAll_101 : decode cX6_seatsAll 101 = .ok (.iadd, 1) := by decide +kernel
theorem dX6_seatsAll_102 : decode cX6_seatsAll 102 = .ok (.iconst (-1), 1) := by decide +kernel
theorem dX6_seatsAll_103 : decode cX6_seatsAll 103 = .ok (.iastore, 1) := by decide +kernel
theorem dX6_seatsAll_104 : decode cX6_seatsAll 104 = .ok (.iinc 4 1, 3) := by decide +kernel
theorem dX6_seatsAll_107 : decode cX6_seatsAll 107 = .ok (.goto (-19), 3) := by decide +kernel
theorem dX6_seatsAll_110 : decode cX6_seatsAll 110 = .ok (.aload_n 0, 1) := by decide +kernel
theorem dX6_seatsAll_111 : decode cX6_seatsAll 111 = .ok (.getfield 33, 3) := by decide +kernel
theorem dX6_seatsAll_114 : decode cX6_seatsAll 114 = .ok (.iload_n 3, 1) := by decide +kernel
theorem dX6_seatsAll_115 : decode cX6_seatsAll 115 = .ok (.iaload, 1) := by decide +kernel
theorem dX6_seatsAll_116 : decode cX6_seatsAll 116 = .ok (.bipush 7, 2) := by decide +kernel
theorem dX6_seatsAll_118 : decode cX6_seatsAll 118 = .ok (.if_icmp .le 9, 3) := by decide +kernel
theorem dX6_seatsAll_121 : decode cX6_seatsAll 121 = .ok (.iinc 3 (-1), 3) := by decide +kernel
theorem dX6_seatsAll_124 : decode cX6_seatsAll 124 = .ok (.goto (-100), 3) := by decide +kernel
theorem dX6_seatsAll_127 : decode cX6_seatsAll 127 = .ok (.aload_n 0, 1) := by decide +kernel
theorem dX6_seatsAll_128 : decode cX6_seatsAll 128 = .ok (.getfield 16, 3) := by decide +kernel
theorem dX6_seatsAll_131 : decode cX6_seatsAll 131 = .ok (.aload_n 0, 1) := by decide +kernel
theorem dX6_seatsAll_132 : decode cX6_seatsAll 132 = .ok (.getfield 33, 3) := by decide +kernel
theorem dX6_seatsAll_135 : decode cX6_seatsAll 135 = .ok (.iload_n 3, 1) := by decide +kernel
theorem dX6_seatsAll_136 : decode cX6_seatsAll 136 = .ok (.iaload, 1) := by decide +kernel
theorem dX6_seatsAll_137 : decode cX6_seatsAll 137 = .ok (.invokestatic 73, 3) := by decide +kernel
theorem dX6_seatsAll_140 : decode cX6_seatsAll 140 = .ok (.iconst (-1), 1) := by decide +kernel
theorem dX6_seatsAll_141 : decode cX6_seatsAll 141 = .ok (.if_icmp .ne (-117), 3) := by decide +kernel
theorem dX6_seatsAll_144 : decode cX6_seatsAll 144 = .ok (.aload_n 0, 1) := by decide +kernel
theorem dX6_seatsAll_145 : decode cX6_seatsAll 145 = .ok (.getfield 16, 3) := by decide +kernel
theorem dX6_seatsAll_148 : decode cX6_seatsAll 148 = .ok (.iconst 0, 1) := by decide +kernel
theorem dX6_seatsAll_149 : decode cX6_seatsAll 149 = .ok (.iload_n 3, 1) := by decide +kernel
theorem dX6_seatsAll_150 : decode cX6_seatsAll 150 = .ok (.iadd, 1) := by decide +kernel
theorem dX6_seatsAll_151 : decode cX6_seatsAll 151 = .ok (.aload_n 0, 1) := by decide +kernel
theorem dX6_seatsAll_152 : decode cX6_seatsAll 152 = .ok (.getfield 33, 3) := by decide +kernel
theorem dX6_seatsAll_155 : decode cX6_seatsAll 155 = .ok (.iload_n 3, 1) := by decide +kernel
theorem dX6_seatsAll_156 : decode cX6_seatsAll 156 = .ok (.iaload, 1) := by decide +kernel
theorem dX6_seatsAll_157 : decode cX6_seatsAll 157 = .ok (.iastore, 1) := by decide +kernel
theorem dX6_seatsAll_158 : decode cX6_seatsAll 158 = .ok (.iinc 3 1, 3) := by decide +kernel
theorem dX6_seatsAll_161 : decode cX6_seatsAll 161 = .ok (.iload_n 3, 1) := by decide +kernel
theorem dX6_seatsAll_162 : decode cX6_seatsAll 162 = .ok (.iload_n 1, 1) := by decide +kernel
theorem dX6_seatsAll_163 : decode cX6_seatsAll 163 = .ok (.if_icmp .ge (-139), 3) := by decide +kernel
theorem dX6_seatsAll_166 : decode cX6_seatsAll 166 = .ok (.aload_n 0, 1) := by decide +kernel
theorem dX6_seatsAll_167 : decode cX6_seatsAll 167 = .ok (.getfield 33, 3) := by decide +kernel
theorem dX6_seatsAll_170 : decode cX6_seatsAll 170 = .ok (.iload_n 3, 1) := by decide +kernel
theorem dX6_seatsAll_171 : decode cX6_seatsAll 171 = .ok (.iconst (-1), 1) := by decide +kernel
theorem dX6_seatsAll_172 : decode cX6_seatsAll 172 = .ok (.iastore, 1) := by decide +kernel
theorem dX6_seatsAll_173 : decode cX6_seatsAll 173 = .ok (.goto (-149), 3) := by decide +kernel
theorem dX6_seatsAll_176 : decode cX6_seatsAll 176 = .ok (.iload_n 2, 1) := by decide +kernel
theorem dX6_seatsAll_177 : decode cX6_seatsAll 177 = .ok (.ireturn, 1) := by decide +kernel
theorem dX6_seated_0 : decode cX6_seated 0 = .ok (.iload_n 1, 1) := by decide +kernel
theorem dX6_seated_1 : decode cX6_seated 1 = .ok (.iconst (-1), 1) := by decide +kernel
theorem dX6_seated_2 : decode cX6_seated 2 = .ok (.if_icmp .eq 16, 3) := by decide +kernel
theorem dX6_seated_5 : decode cX6_seated 5 = .ok (.aload_n 0, 1) := by decide +kernel
theorem dX6_seated_6 : decode cX6_seated 6 = .ok (.iload_n 1, 1) := by decide +kernel
theorem dX6_seated_7 : decode cX6_seated 7 = .ok (.invokevirtual 197, 3) := by decide +kernel
theorem dX6_seated_10 : decode cX6_seated 10 = .ok (.ifCond .ne 8, 3) := by decide +kernel
theorem dX6_seated_13 : decode cX6_seated 13 = .ok (.aload_n 0, 1) := by decide +kernel
theorem dX6_seated_14 : decode cX6_seated 14 = .ok (.invokevirtual 202, 3) := by decide +kernel
theorem dX6_seated_17 : decode cX6_seated 17 = .ok (.ireturn, 1) := by decide +kernel
theorem dX6_seated_18 : decode cX6_seated 18 = .ok (.aload_n 0, 1) := by decide +kernel
theorem dX6_seated_19 : decode cX6_seated 19 = .ok (.invokevirtual 212, 3) := by decide +kernel
theorem dX6_seated_22 : decode cX6_seated 22 = .ok (.istore_n 2, 1) := by decide +kernel
theorem dX6_seated_23 : decode cX6_seated 23 = .ok (.iload_n 1, 1) := by decide +kernel
theorem dX6_seated_24 : decode cX6_seated 24 = .ok (.iconst (-1), 1) := by decide +kernel
theorem dX6_seated_25 : decode cX6_seated 25 = .ok (.if_icmp .ne 7, 3) := by decide +kernel
theorem dX6_seated_28 : decode cX6_seated 28 = .ok (.iload_n 2, 1) := by decide +kernel
theorem dX6_seated_29 : decode cX6_seated 29 = .ok (.goto 9, 3) := by decide +kernel
theorem dX6_seated_32 : decode cX6_seated 32 = .ok (.aload_n 0, 1) := by decide +kernel
theorem dX6_seated_33 : decode cX6_seated 33 = .ok (.getfield 36, 3) := by decide +kernel
theorem dX6_seated_36 : decode cX6_seated 36 = .ok (.iload_n 1, 1) := by decide +kernel
theorem dX6_seated_37 : decode cX6_seated 37 = .ok (.iaload, 1) := by decide +kernel
theorem dX6_seated_38 : decode cX6_seated 38 = .ok (.ireturn, 1) := by decide +kernel
theorem dX6_words_0 : decode cX6_words 0 = .ok (.aload_n 0, 1) := by decide +kernel
theorem dX6_words_1 : decode cX6_words 1 = .ok (.iload_n 1, 1) := by decide +kernel
theorem dX6_words_2 : decode cX6_words 2 = .ok (.invokevirtual 197, 3) := by decide +kernel
theorem dX6_words_5 : decode cX6_words 5 = .ok (.ifCond .ne 8, 3) := by decide +kernel
theorem dX6_words_8 : decode cX6_words 8 = .ok (.aload_n 0, 1) := by decide +kernel
theorem dX6_words_9 : decode cX6_words 9 = .ok (.invokevirtual 63, 3) := by decide +kernel
theorem dX6_words_12 : decode cX6_words 12 = .ok (.ireturn, 1) := by decide +kernel
theorem dX6_words_13 : decode cX6_words 13 = .ok (.iconst 0, 1) := by decide +kernel
theorem dX6_words_14 : decode cX6_words 14 = .ok (.istore_n 2, 1) := by decide +kernel
theorem dX6_words_15 : decode cX6_words 15 = .ok (.iload_n 2, 1) := by decide +kernel
theorem dX6_words_16 : decode cX6_words 16 = .ok (.bipush 41, 2) := by decide +kernel
theorem dX6_words_18 : decode cX6_words 18 = .ok (.if_icmp .ge 41, 3) := by decide +kernel
theorem dX6_words_21 : decode cX6_words 21 = .ok (.aload_n 0, 1) := by decide +kernel
theorem dX6_words_22 : decode cX6_words 22 = .ok (.invokevirtual 205, 3) := by decide +kernel
theorem dX6_words_25 : decode cX6_words 25 = .ok (.aload_n 0, 1) := by decide +kernel
theorem dX6_words_26 : decode cX6_words 26 = .ok (.getfield 16, 3) := by decide +kernel
theorem dX6_words_29 : decode cX6_words 29 = .ok (.bipush 29, 2) := by decide +kernel
theorem dX6_words_31 : decode cX6_words 31 = .ok (.iload_n 1, 1) := by decide +kernel
theorem dX6_words_32 : decode cX6_words 32 = .ok (.iadd, 1) := by decide +kernel
theorem dX6_words_33 : decode cX6_words 33 = .ok (.dup2, 1) := by decide +kernel
theorem dX6_words_34 : decode cX6_words 34 = .ok (.iaload, 1) := by decide +kernel
theorem dX6_words_35 : decode cX6_words 35 = .ok (.iload_n 2, 1) := by decide +kernel
theorem dX6_words_36 : decode cX6_words 36 = .ok (.iadd, 1) := by decide +kernel
theorem dX6_words_37 : decode cX6_words 37 = .ok (.iastore, 1) := by decide +kernel
theorem dX6_words_38 : decode cX6_words 38 = .ok (.aload_n 0, 1) := by decide +kernel
theorem dX6_words_39 : decode cX6_words 39 = .ok (.getfield 16, 3) := by decide +kernel
theorem dX6_words_42 : decode cX6_words 42 = .ok (.iload_n 1, 1) := by decide +kernel
theorem dX6_words_43 : decode cX6_words 43 = .ok (.invokestatic 163, 3) := by decide +kernel
theorem dX6_words_46 : decode cX6_words 46 = .ok (.bipush 12, 2) := by decide +kernel
theorem dX6_words_48 : decode cX6_words 48 = .ok (.if_icmp .ge 5, 3) := by decide +kernel
theorem dX6_words_51 : decode cX6_words 51 = .ok (.iload_n 2, 1) := by decide +kernel
theorem dX6_words_52 : decode cX6_words 52 = .ok (.ireturn, 1) := by decide +kernel
theorem dX6_words_53 : decode cX6_words 53 = .ok (.iinc 2 1, 3) := by decide +kernel
theorem dX6_words_56 : decode cX6_words 56 = .ok (.goto (-41), 3) := by decide +kernel
theorem dX6_words_59 : decode cX6_words 59 = .ok (.iconst (-1), 1) := by decide +kernel
theorem dX6_words_60 : decode cX6_words 60 = .ok (.ireturn, 1) := by decide +kernel
theorem dX6_say_0 : decode cX6_say 0 = .ok (.iconst (-1), 1) := by decide +kernel
theorem dX6_say_1 : decode cX6_say 1 = .ok (.istore_n 1, 1) := by decide +kernel
theorem dX6_say_2 : decode cX6_say 2 = .ok (.ldc 211, 2) := by decide +kernel
theorem dX6_say_4 : decode cX6_say 4 = .ok (.istore_n 2, 1) := by decide +kernel
theorem dX6_say_5 : decode cX6_say 5 = .ok (.iconst 0, 1) := by decide +kernel
theorem dX6_say_6 : decode cX6_say 6 = .ok (.istore_n 3, 1) := by decide +kernel
theorem dX6_say_7 : decode cX6_say 7 = .ok (.iload_n 3, 1) := by decide +kernel
theorem dX6_say_8 : decode cX6_say 8 = .ok (.aload_n 0, 1) := by decide +kernel
theorem dX6_say_9 : decode cX6_say 9 = .ok (.getfield 7, 3) := by decide +kernel
theorem dX6_say_12 : decode cX6_say 12 = .ok (.bipush 22, 2) := by decide +kernel
theorem dX6_say_14 : decode cX6_say 14 = .ok (.iaload, 1) := by decide +kernel
theorem dX6_say_15 : decode cX6_say 15 = .ok (.if_icmp .ge 60, 3) := by decide +kernel
theorem dX6_say_18 : decode cX6_say 18 = .ok (.aload_n 0, 1) := by decide +kernel
theorem dX6_say_19 : decode cX6_say 19 = .ok (.invokevirtual 205, 3) := by decide +kernel
theorem dX6_say_22 : decode cX6_say 22 = .ok (.aload_n 0, 1) := by decide +kernel
theorem dX6_say_23 : decode cX6_say 23 = .ok (.getfield 16, 3) := by decide +kernel
theorem dX6_say_26 : decode cX6_say 26 = .ok (.bipush 29, 2) := by decide +kernel
theorem dX6_say_28 : decode cX6_say 28 = .ok (.iload_n 3, 1) := by decide +kernel
theorem dX6_say_29 : decode cX6_say 29 = .ok (.iadd, 1) := by decide +kernel
theorem dX6_say_30 : decode cX6_say 30 = .ok (.dup2, 1) := by decide +kernel
theorem dX6_say_31 : decode cX6_say 31 = .ok (.iaload, 1) := by decide +kernel
theorem dX6_say_32 : decode cX6_say 32 = .ok (.bipush 10, 2) := by decide +kernel
theorem dX6_say_34 : decode cX6_say 34 = .ok (.iadd, 1) := by decide +kernel
theorem dX6_say_35 : decode cX6_say 35 = .ok (.iastore, 1) := by decide +kernel
theorem dX6_say_36 : decode cX6_say 36 = .ok (.aload_n 0, 1) := by decide +kernel
theorem dX6_say_37 : decode cX6_say 37 = .ok (.bipush 20, 2) := by decide +kernel
theorem dX6_say_39 : decode cX6_say 39 = .ok (.invokevirtual 208, 3) := by decide +kernel
theorem dX6_say_42 : decode cX6_say 42 = .ok (.istore 4, 2) := by decide +kernel
theorem dX6_say_44 : decode cX6_say 44 = .ok (.iload 4, 2) := by decide +kernel
theorem dX6_say_46 : decode cX6_say 46 = .ok (.iload_n 2, 1) := by decide +kernel
theorem dX6_say_47 : decode cX6_say 47 = .ok (.if_icmp .ge 7, 3) := by decide +kernel
theorem dX6_say_50 : decode cX6_say 50 = .ok (.iload_n 3, 1) := by decide +kernel
theorem dX6_say_51 : decode cX6_say 51 = .ok (.goto 4, 3) := by decide +kernel
theorem dX6_say_54 : decode cX6_say 54 = .ok (.iload_n 1, 1) := by decide +kernel
theorem dX6_say_55 : decode cX6_say 55 = .ok (.istore_n 1, 1) := by decide +kernel
theorem dX6_say_56 : decode cX6_say 56 = .ok (.iload 4, 2) := by decide +kernel
theorem dX6_say_58 : decode cX6_say 58 = .ok (.iload_n 2, 1) := by decide +kernel
theorem dX6_say_59 : decode cX6_say 59 = .ok (.if_icmp .ge 8, 3) := by decide +kernel
theorem dX6_say_62 : decode cX6_say 62 = .ok (.iload 4, 2) := by decide +kernel
theorem dX6_say_64 : decode cX6_say 64 = .ok (.goto 4, 3) := by decide +kernel
theorem dX6_say_67 : decode cX6_say 67 = .ok (.iload_n 2, 1) := by decide +kernel
theorem dX6_say_68 : decode cX6_say 68 = .ok (.istore_n 2, 1) := by decide +kernel
theorem dX6_say_69 : decode cX6_say 69 = .ok (.iinc 3 1, 3) := by decide +kernel
theorem dX6_say_72 : decode cX6_say 72 = .ok (.goto (-65), 3) := by decide +kernel
theorem dX6_say_75 : decode cX6_say 75 = .ok (.iload_n 1, 1) := by decide +kernel
theorem dX6_say_76 : decode cX6_say 76 = .ok (.ireturn, 1) := by decide +kernel
theorem dX6_note_0 : decode cX6_note 0 = .ok (.aload_n 0, 1) := by decide +kernel
theorem dX6_note_1 : decode cX6_note 1 = .ok (.iload_n 1, 1) := by decide +kernel
theorem dX6_note_2 : decode cX6_note 2 = .ok (.invokevirtual 197, 3) := by decide +kernel
theorem dX6_note_5 : decode cX6_note 5 = .ok (.ifCond .eq 79, 3) := by decide +kernel
theorem dX6_note_8 : decode cX6_note 8 = .ok (.iload_n 2, 1) := by decide +kernel
theorem dX6_note_9 : decode cX6_note 9 = .ok (.i2l, 1) := by decide +kernel
theorem dX6_note_10 : decode cX6_note 10 = .ok (.lconst 0, 1) := by decide +kernel
theorem dX6_note_11 : decode cX6_note 11 = .ok (.ldc2_w 71, 3) := by decide +kernel
theorem dX6_note_14 : decode cX6_note 14 = .ok (.invokestatic 55, 3) := by decide +kernel
theorem dX6_note_17 : decode cX6_note 17 = .ok (.ifCond .eq 67, 3) := by decide +kernel
theorem dX6_note_20 : decode cX6_note 20 = .ok (.iload_n 3, 1) := by decide +kernel
theorem dX6_note_21 : decode cX6_note 21 = .ok (.i2l, 1) := by decide +kernel
theorem dX6_note_22 : decode cX6_note 22 = .ok (.lconst 0, 1) := by decide +kernel
theorem dX6_note_23 : decode cX6_note 23 = .ok (.ldc2_w 200, 3) := by decide +kernel
theorem dX6_note_26 : decode cX6_note 26 = .ok (.invokestatic 55, 3) := by decide +kernel
theorem dX6_note_29 : decode cX6_note 29 = .ok (.ifCond .eq 55, 3) := by decide +kernel
theorem dX6_note_32 : decode cX6_note 32 = .ok (.iload 4, 2) := by decide +kernel
theorem dX6_note_34 : decode cX6_note 34 = .ok (.i2l, 1) := by decide +kernel
theorem dX6_note_35 : decode cX6_note 35 = .ok (.lconst 0, 1) := by decide +kernel
theorem dX6_note_36 : decode cX6_note 36 = .ok (.ldc2_w 69, 3) := by decide +kernel
theorem dX6_note_39 : decode cX6_note 39 = .ok (.invokestatic 55, 3) := by decide +kernel
theorem dX6_note_42 : decode cX6_note 42 = .ok (.ifCond .eq 42, 3) := by decide +kernel
theorem dX6_note_45 : decode cX6_note 45 = .ok (.iload 5, 2) := by decide +kernel
theorem dX6_note_47 : decode cX6_note 47 = .ok (.i2l, 1) := by decide +kernel
theorem dX6_note_48 : decode cX6_note 48 = .ok (.lconst 0, 1) := by decide +kernel
theorem dX6_note_49 : decode cX6_note 49 = .ok (.ldc2_w 215, 3) := by decide +kernel
theorem dX6_note_52 : decode cX6_note 52 = .ok (.invokestatic 55, 3) := by decide +kernel
theorem dX6_note_55 : decode cX6_note 55 = .ok (.ifCond .eq 29, 3) := by decide +kernel
theorem dX6_note_58 : decode cX6_note 58 = .ok (.iload 6, 2) := by decide +kernel
theorem dX6_note_60 : decode cX6_note 60 = .ok (.i2l, 1) := by decide +kernel
theorem dX6_note_61 : decode cX6_note 61 = .ok (.lconst 0, 1) := by decide +kernel
theorem dX6_note_62 : decode cX6_note 62 = .ok (.ldc2_w 217, 3) := by decide +kernel
theorem dX6_note_65 : decode cX6_note 65 = .ok (.invokestatic 55, 3) := by decide +kernel
theorem dX6_note_68 : decode cX6_note 68 = .ok (.ifCond .eq 16, 3) := by decide +kernel
theorem dX6_note_71 : decode cX6_note 71 = .ok (.iload 7, 2) := by decide +kernel
theorem dX6_note_73 : decode cX6_note 73 = .ok (.i2l, 1) := by decide +kernel
theorem dX6_note_74 : decode cX6_note 74 = .ok (.lconst 0, 1) := by decide +kernel
theorem dX6_note_75 : decode cX6_note 75 = .ok (.ldc2_w 188, 3) := by decide +kernel
theorem dX6_note_78 : decode cX6_note 78 = .ok (.invokestatic 55, 3) := by decide +kernel
theorem dX6_note_81 : decode cX6_note 81 = .ok (.ifCond .ne 8, 3) := by decide +kernel
theorem dX6_note_84 : decode cX6_note 84 = .ok (.aload_n 0, 1) := by decide +kernel
theorem dX6_note_85 : decode cX6_note 85 = .ok (.invokevirtual 63, 3) := by decide +kernel
theorem dX6_note_88 : decode cX6_note 88 = .ok (.ireturn, 1) := by decide +kernel
theorem dX6_note_89 : decode cX6_note 89 = .ok (.aload_n 0, 1) := by decide +kernel
theorem dX6_note_90 : decode cX6_note 90 = .ok (.getfield 7, 3) := by decide +kernel
theorem dX6_note_93 : decode cX6_note 93 = .ok (.bipush 35, 2) := by decide +kernel
theorem dX6_note_95 : decode cX6_note 95 = .ok (.iaload, 1) := by decide +kernel
theorem dX6_note_96 : decode cX6_note 96 = .ok (.bipush 6, 2) := by decide +kernel
theorem dX6_note_98 : decode cX6_note 98 = .ok (.if_icmp .ne 8, 3) := by decide +kernel
theorem dX6_note_101 : decode cX6_note 101 = .ok (.aload_n 0, 1) := by decide +kernel
theorem dX6_note_102 : decode cX6_note 102 = .ok (.invokevirtual 80, 3) := by decide +kernel
theorem dX6_note_105 : decode cX6_note 105 = .ok (.ireturn, 1) := by decide +kernel
theorem dX6_note_106 : decode cX6_note 106 = .ok (.bipush 36, 2) := by decide +kernel
theorem dX6_note_108 : decode cX6_note 108 = .ok (.bipush 7, 2) := by decide +kernel
theorem dX6_note_110 : decode cX6_note 110 = .ok (.aload_n 0, 1) := by decide +kernel
theorem dX6_note_111 : decode cX6_note 111 = .ok (.getfield 7, 3) := by decide +kernel
theorem dX6_note_114 : decode cX6_note 114 = .ok (.bipush 35, 2) := by decide +kernel
theorem dX6_note_116 : decode cX6_note 116 = .ok (.iaload, 1) := by decide +kernel
theorem dX6_note_117 : decode cX6_note 117 = .ok (.imul, 1) := by decide +kernel
theorem dX6_note_118 : decode cX6_note 118 = .ok (.iadd, 1) := by decide +kernel
theorem dX6_note_119 : decode cX6_note 119 = .ok (.istore 8, 2) := by decide +kernel
theorem dX6_note_121 : decode cX6_note 121 = .ok (.aload_n 0, 1) := by decide +kernel
theorem dX6_note_122 : decode cX6_note 122 = .ok (.getfield 7, 3) := by decide +kernel
theorem dX6_note_125 : decode cX6_note 125 = .ok (.iload 8, 2) := by decide +kernel
theorem dX6_note_127 : decode cX6_note 127 = .ok (.iload_n 1, 1) := by decide +kernel
theorem dX6_note_128 : decode cX6_note 128 = .ok (.iastore, 1) := by decide +kernel
theorem dX6_note_129 : decode cX6_note 129 = .ok (.aload_n 0, 1) := by decide +kernel
theorem dX6_note_130 : decode cX6_note 130 = .ok (.getfield 7, 3) := by decide +kernel
theorem dX6_note_133 : decode cX6_note 133 = .ok (.iload 8, 2) := by decide +kernel
theorem dX6_note_135 : decode cX6_note 135 = .ok (.iconst 1, 1) := by decide +kernel
theorem dX6_note_136 : decode cX6_note 136 = .ok (.iadd, 1) := by decide +kernel
theorem dX6_note_137 : decode cX6_note 137 = .ok (.iload_n 2, 1) := by decide +kernel
theorem dX6_note_138 : decode cX6_note 138 = .ok (.iastore, 1) := by decide +kernel
theorem dX6_note_139 : decode cX6_note 139 = .ok (.aload_n 0, 1) := by decide +kernel
theorem dX6_note_140 : decode cX6_note 140 = .ok (.getfield 7, 3) := by decide +kernel
theorem dX6_note_143 : decode cX6_note 143 = .ok (.iload 8, 2) := by decide +kernel
theorem dX6_note_145 : decode cX6_note 145 = .ok (.iconst 2, 1) := by decide +kernel
theorem dX6_note_146 : decode cX6_note 146 = .ok (.iadd, 1) := by decide +kernel
theorem dX6_note_147 : decode cX6_note 147 = .ok (.iload_n 3, 1) := by decide +kernel
theorem dX6_note_148 : decode cX6_note 148 = .ok (.iastore, 1) := by decide +kernel
theorem dX6_note_149 : decode cX6_note 149 = .ok (.aload_n 0, 1) := by decide +kernel
theorem dX6_note_150 : decode cX6_note 150 = .ok (.getfield 7, 3) := by decide +kernel
theorem dX6_note_153 : decode cX6_note 153 = .ok (.iload 8, 2) := by decide +kernel
theorem dX6_note_155 : decode cX6_note 155 = .ok (.iconst 3, 1) := by decide +kernel
theorem dX6_note_156 : decode cX6_note 156 = .ok (.iadd, 1) := by decide +kernel
theorem dX6_note_157 : decode cX6_note 157 = .ok (.iload 4, 2) := by decide +kernel
theorem dX6_note_159 : decode cX6_note 159 = .ok (.iastore, 1) := by decide +kernel
theorem dX6_note_160 : decode cX6_note 160 = .ok (.aload_n 0, 1) := by decide +kernel
theorem dX6_note_161 : decode cX6_note 161 = .ok (.getfield 7, 3) := by decide +kernel
theorem dX6_note_164 : decode cX6_note 164 = .ok (.iload 8, 2) := by decide +kernel
theorem dX6_note_166 : decode cX6_note 166 = .ok (.iconst 4, 1) := by decide +kernel
theorem dX6_note_167 : decode cX6_note 167 = .ok (.iadd, 1) := by decide +kernel
theorem dX6_note_168 : decode cX6_note 168 = .ok (.iload 5, 2) := by decide +kernel
theorem dX6_note_170 : decode cX6_note 170 = .ok (.iastore, 1) := by decide +kernel
theorem dX6_note_171 : decode cX6_note 171 = .ok (.aload_n 0, 1) := by decide +kernel
theorem dX6_note_172 : decode cX6_note 172 = .ok (.getfield 7, 3) := by decide +kernel
theorem dX6_note_175 : decode cX6_note 175 = .ok (.iload 8, 2) := by decide +kernel
theorem dX6_note_177 : decode cX6_note 177 = .ok (.iconst 5, 1) := by decide +kernel
theorem dX6_note_178 : decode cX6_note 178 = .ok (.iadd, 1) := by decide +kernel
theorem dX6_note_179 : decode cX6_note 179 = .ok (.iload 6, 2) := by decide +kernel
theorem dX6_note_181 : decode cX6_note 181 = .ok (.iastore, 1) := by decide +kernel
theorem dX6_note_182 : decode cX6_note 182 = .ok (.aload_n 0, 1) := by decide +kernel
theorem dX6_note_183 : decode cX6_note 183 = .ok (.getfield 7, 3) := by decide +kernel
theorem dX6_note_186 : decode cX6_note 186 = .ok (.iload 8, 2) := by decide +kernel
theorem dX6_note_188 : decode cX6_note 188 = .ok (.bipush 6, 2) := by decide +kernel
theorem dX6_note_190 : decode cX6_note 190 = .ok (.iadd, 1) := by decide +kernel
theorem dX6_note_191 : decode cX6_note 191 = .ok (.iload 7, 2) := by decide +kernel
theorem dX6_note_193 : decode cX6_note 193 = .ok (.iastore, 1) := by decide +kernel
theorem dX6_note_194 : decode cX6_note 194 = .ok (.aload_n 0, 1) := by decide +kernel
theorem dX6_note_195 : decode cX6_note 195 = .ok (.getfield 7, 3) := by decide +kernel
theorem dX6_note_198 : decode cX6_note 198 = .ok (.bipush 35, 2) := by decide +kernel
theorem dX6_note_200 : decode cX6_note 200 = .ok (.dup2, 1) := by decide +kernel
theorem dX6_note_201 : decode cX6_note 201 = .ok (.iaload, 1) := by decide +kernel
theorem dX6_note_202 : decode cX6_note 202 = .ok (.iconst 1, 1) := by decide +kernel
theorem dX6_note_203 : decode cX6_note 203 = .ok (.iadd, 1) := by decide +kernel
theorem dX6_note_204 : decode cX6_note 204 = .ok (.iastore, 1) := by decide +kernel
theorem dX6_note_205 : decode cX6_note 205 = .ok (.aload_n 0, 1) := by decide +kernel
theorem dX6_note_206 : decode cX6_note 206 = .ok (.getfield 7, 3) := by decide +kernel
theorem dX6_note_209 : decode cX6_note 209 = .ok (.bipush 35, 2) := by decide +kernel
theorem dX6_note_211 : decode cX6_note 211 = .ok (.iaload, 1) := by decide +kernel
theorem dX6_note_212 : decode cX6_note 212 = .ok (.ireturn, 1) := by decide +kernel
theorem dX6_forget_0 : decode cX6_forget 0 = .ok (.aload_n 0, 1) := by decide +kernel
theorem dX6_forget_1 : decode cX6_forget 1 = .ok (.getfield 7, 3) := by decide +kernel
theorem dX6_forget_4 : decode cX6_forget 4 = .ok (.bipush 35, 2) := by decide +kernel
theorem dX6_forget_6 : decode cX6_forget 6 = .ok (.iaload, 1) := by decide +kernel
theorem dX6_forget_7 : decode cX6_forget 7 = .ok (.istore_n 1, 1) := by decide +kernel
theorem dX6_forget_8 : decode cX6_forget 8 = .ok (.aload_n 0, 1) := by decide +kernel
theorem dX6_forget_9 : decode cX6_forget 9 = .ok (.getfield 7, 3) := by decide +kernel
theorem dX6_forget_12 : decode cX6_forget 12 = .ok (.bipush 35, 2) := by decide +kernel
theorem dX6_forget_14 : decode cX6_forget 14 = .ok (.iconst 0, 1) := by decide +kernel
theorem dX6_forget_15 : decode cX6_forget 15 = .ok (.iastore, 1) := by decide +kernel
theorem dX6_forget_16 : decode cX6_forget 16 = .ok (.iload_n 1, 1) := by decide +kernel
theorem dX6_forget_17 : decode cX6_forget 17 = .ok (.ireturn, 1) := by decide +kernel
theorem dX6_kindsOf_0 : decode cX6_kindsOf 0 = .ok (.iconst 0, 1) := by decide +kernel
theorem dX6_kindsOf_1 : decode cX6_kindsOf 1 = .ok (.istore_n 2, 1) := by decide +kernel
theorem dX6_kindsOf_2 : decode cX6_kindsOf 2 = .ok (.iconst 0, 1) := by decide +kernel
theorem dX6_kindsOf_3 : decode cX6_kindsOf 3 = .ok (.istore_n 3, 1) := by decide +kernel
theorem dX6_kindsOf_4 : decode cX6_kindsOf 4 = .ok (.iload_n 3, 1) := by decide +kernel
theorem dX6_kindsOf_5 : decode cX6_kindsOf 5 = .ok (.bipush 6, 2) := by decide +kernel
theorem dX6_kindsOf_7 : decode cX6_kindsOf 7 = .ok (.if_icmp .ge 140, 3) := by decide +kernel
theorem dX6_kindsOf_10 : decode cX6_kindsOf 10 = .ok (.iconst 1, 1) := by decide +kernel
theorem dX6_kindsOf_11 : decode cX6_kindsOf 11 = .ok (.istore 4, 2) := by decide +kernel
theorem dX6_kindsOf_13 : decode cX6_kindsOf 13 = .ok (.bipush 36, 2) := by decide +kernel
theorem dX6_kindsOf_15 : decode cX6_kindsOf 15 = .ok (.istore 5, 2) := by decide +kernel
theorem dX6_kindsOf_17 : decode cX6_kindsOf 17 = .ok (.iload 5, 2) := by decide +kernel
theorem dX6_kindsOf_19 : decode cX6_kindsOf 19 = .ok (.bipush 36, 2) := by decide +kernel
theorem dX6_kindsOf_21 : decode cX6_kindsOf 21 = .ok (.bipush 7, 2) := by decide +kernel
theorem dX6_kindsOf_23 : decode cX6_kindsOf 23 = .ok (.aload_n 0, 1) := by decide +kernel
theorem dX6_kindsOf_24 : decode cX6_kindsOf 24 = .ok (.getfield 7, 3) := by decide +kernel
theorem dX6_kindsOf_27 : decode cX6_kindsOf 27 = .ok (.bipush 35, 2) := by decide +kernel
theorem dX6_kindsOf_29 : decode cX6_kindsOf 29 = .ok (.iaload, 1) := by decide +kernel
theorem dX6_kindsOf_30 : decode cX6_kindsOf 30 = .ok (.imul, 1) := by decide +kernel
theorem dX6_kindsOf_31 : decode cX6_kindsOf 31 = .ok (.iadd, 1) := by decide +kernel
theorem dX6_kindsOf_32 : decode cX6_kindsOf 32 = .ok (.if_icmp .ge 94, 3) := by decide +kernel
theorem dX6_kindsOf_35 : decode cX6_kindsOf 35 = .ok (.iload 4, 2) := by decide +kernel
theorem dX6_kindsOf_37 : decode cX6_kindsOf 37 = .ok (.ifCond .eq 80, 3) := by decide +kernel
theorem dX6_kindsOf_40 : decode cX6_kindsOf 40 = .ok (.aload_n 0, 1) := by decide +kernel
theorem dX6_kindsOf_41 : decode cX6_kindsOf 41 = .ok (.getfield 7, 3) := by decide +kernel
theorem dX6_kindsOf_44 : decode cX6_kindsOf 44 = .ok (.iload 5, 2) := by decide +kernel
theorem dX6_kindsOf_46 : decode cX6_kindsOf 46 = .ok (.iaload, 1) := by decide +kernel
theorem dX6_kindsOf_47 : decode cX6_kindsOf 47 = .ok (.iload_n 1, 1) := by decide +kernel
theorem dX6_kindsOf_48 : decode cX6_kindsOf 48 = .ok (.if_icmp .ne 65, 3) := by decide +kernel
theorem dX6_kindsOf_51 : decode cX6_kindsOf 51 = .ok (.iload_n 3, 1) := by decide +kernel
theorem dX6_kindsOf_52 : decode cX6_kindsOf 52 = .ok (.aload_n 0, 1) := by decide +kernel
theorem dX6_kindsOf_53 : decode cX6_kindsOf 53 = .ok (.getfield 7, 3) := by decide +kernel
theorem dX6_kindsOf_56 : decode cX6_kindsOf 56 = .ok (.iload 5, 2) := by decide +kernel
theorem dX6_kindsOf_58 : decode cX6_kindsOf 58 = .ok (.iconst 1, 1) := by decide +kernel
theorem dX6_kindsOf_59 : decode cX6_kindsOf 59 = .ok (.iadd, 1) := by decide +kernel
theorem dX6_kindsOf_60 : decode cX6_kindsOf 60 = .ok (.iaload, 1) := by decide +kernel
theorem dX6_kindsOf_61 : decode cX6_kindsOf 61 = .ok (.aload_n 0, 1) := by decide +kernel
theorem dX6_kindsOf_62 : decode cX6_kindsOf 62 = .ok (.getfield 7, 3) := by decide +kernel
theorem dX6_kindsOf_65 : decode cX6_kindsOf 65 = .ok (.iload 5, 2) := by decide +kernel
theorem dX6_kindsOf_67 : decode cX6_kindsOf 67 = .ok (.iconst 2, 1) := by decide +kernel
theorem dX6_kindsOf_68 : decode cX6_kindsOf 68 = .ok (.iadd, 1) := by decide +kernel
theorem dX6_kindsOf_69 : decode cX6_kindsOf 69 = .ok (.iaload, 1) := by decide +kernel
theorem dX6_kindsOf_70 : decode cX6_kindsOf 70 = .ok (.aload_n 0, 1) := by decide +kernel
theorem dX6_kindsOf_71 : decode cX6_kindsOf 71 = .ok (.getfield 7, 3) := by decide +kernel
theorem dX6_kindsOf_74 : decode cX6_kindsOf 74 = .ok (.iload 5, 2) := by decide +kernel
theorem dX6_kindsOf_76 : decode cX6_kindsOf 76 = .ok (.iconst 3, 1) := by decide +kernel
theorem dX6_kindsOf_77 : decode cX6_kindsOf 77 = .ok (.iadd, 1) := by decide +kernel
theorem dX6_kindsOf_78 : decode cX6_kindsOf 78 = .ok (.iaload, 1) := by decide +kernel
theorem dX6_kindsOf_79 : decode cX6_kindsOf 79 = .ok (.aload_n 0, 1) := by decide +kernel
theorem dX6_kindsOf_80 : decode cX6_kindsOf 80 = .ok (.getfield 7, 3) := by decide +kernel
theorem dX6_kindsOf_83 : decode cX6_kindsOf 83 = .ok (.iload 5, 2) := by decide +kernel
theorem dX6_kindsOf_85 : decode cX6_kindsOf 85 = .ok (.iconst 4, 1) := by decide +kernel
theorem dX6_kindsOf_86 : decode cX6_kindsOf 86 = .ok (.iadd, 1) := by decide +kernel
theorem dX6_kindsOf_87 : decode cX6_kindsOf 87 = .ok (.iaload, 1) := by decide +kernel
theorem dX6_kindsOf_88 : decode cX6_kindsOf 88 = .ok (.aload_n 0, 1) := by decide +kernel
theorem dX6_kindsOf_89 : decode cX6_kindsOf 89 = .ok (.getfield 7, 3) := by decide +kernel
theorem dX6_kindsOf_92 : decode cX6_kindsOf 92 = .ok (.iload 5, 2) := by decide +kernel
theorem dX6_kindsOf_94 : decode cX6_kindsOf 94 = .ok (.iconst 5, 1) := by decide +kernel
theorem dX6_kindsOf_95 : decode cX6_kindsOf 95 = .ok (.iadd, 1) := by decide +kernel
theorem dX6_kindsOf_96 : decode cX6_kindsOf 96 = .ok (.iaload, 1) := by decide +kernel
theorem dX6_kindsOf_97 : decode cX6_kindsOf 97 = .ok (.invokestatic 159, 3) := by decide +kernel
theorem dX6_kindsOf_100 : decode cX6_kindsOf 100 = .ok (.aload_n 0, 1) := by decide +kernel
theorem dX6_kindsOf_101 : decode cX6_kindsOf 101 = .ok (.getfield 7, 3) := by decide +kernel
theorem dX6_kindsOf_104 : decode cX6_kindsOf 104 = .ok (.iload 5, 2) := by decide +kernel
theorem dX6_kindsOf_106 : decode cX6_kindsOf 106 = .ok (.bipush 6, 2) := by decide +kernel
theorem dX6_kindsOf_108 : decode cX6_kindsOf 108 = .ok (.iadd, 1) := by decide +kernel
theorem dX6_kindsOf_109 : decode cX6_kindsOf 109 = .ok (.iaload, 1) := by decide +kernel
theorem dX6_kindsOf_110 : decode cX6_kindsOf 110 = .ok (.if_icmp .ne 7, 3) := by decide +kernel
theorem dX6_kindsOf_113 : decode cX6_kindsOf 113 = .ok (.iconst 1, 1) := by decide +kernel
theorem dX6_kindsOf_114 : decode cX6_kindsOf 114 = .ok (.goto 4, 3) := by decide +kernel
theorem dX6_kindsOf_117 : decode cX6_kindsOf 117 = .ok (.iconst 0, 1) := by decide +kernel
theorem dX6_kindsOf_118 : decode cX6_kindsOf 118 = .ok (.istore 4, 2) := by decide +kernel
theorem dX6_kindsOf_120 : decode cX6_kindsOf 120 = .ok (.iinc 5 7, 3) := by decide +kernel
theorem dX6_kindsOf_123 : decode cX6_kindsOf 123 = .ok (.goto (-106), 3) := by decide +kernel
theorem dX6_kindsOf_126 : decode cX6_kindsOf 126 = .ok (.iload_n 2, 1) := by decide +kernel
theorem dX6_kindsOf_127 : decode cX6_kindsOf 127 = .ok (.iload 4, 2) := by decide +kernel
theorem dX6_kindsOf_129 : decode cX6_kindsOf 129 = .ok (.ifCond .eq 9, 3) := by decide +kernel
theorem dX6_kindsOf_132 : decode cX6_kindsOf 132 = .ok (.iconst 1, 1) := by decide +kernel
theorem dX6_kindsOf_133 : decode cX6_kindsOf 133 = .ok (.iload_n 3, 1) := by decide +kernel
theorem dX6_kindsOf_134 : decode cX6_kindsOf 134 = .ok (.ishl, 1) := by decide +kernel
theorem dX6_kindsOf_135 : decode cX6_kindsOf 135 = .ok (.goto 4, 3) := by decide +kernel
theorem dX6_kindsOf_138 : decode cX6_kindsOf 138 = .ok (.iconst 0, 1) := by decide +kernel
theorem dX6_kindsOf_139 : decode cX6_kindsOf 139 = .ok (.ior, 1) := by decide +kernel
theorem dX6_kindsOf_140 : decode cX6_kindsOf 140 = .ok (.istore_n 2, 1) := by decide +kernel
theorem dX6_kindsOf_141 : decode cX6_kindsOf 141 = .ok (.iinc 3 1, 3) := by decide +kernel
theorem dX6_kindsOf_144 : decode cX6_kindsOf 144 = .ok (.goto (-140), 3) := by decide +kernel
theorem dX6_kindsOf_147 : decode cX6_kindsOf 147 = .ok (.iload_n 2, 1) := by decide +kernel
theorem dX6_kindsOf_148 : decode cX6_kindsOf 148 = .ok (.ireturn, 1) := by decide +kernel
theorem dX6_is_0 : decode cX6_is 0 = .ok (.aload_n 0, 1) := by decide +kernel
theorem dX6_is_1 : decode cX6_is 1 = .ok (.iload_n 1, 1) := by decide +kernel
theorem dX6_is_2 : decode cX6_is 2 = .ok (.invokevirtual 197, 3) := by decide +kernel
theorem dX6_is_5 : decode cX6_is 5 = .ok (.ifCond .eq 11, 3) := by decide +kernel
theorem dX6_is_8 : decode cX6_is 8 = .ok (.aload_n 0, 1) := by decide +kernel
theorem dX6_is_9 : decode cX6_is 9 = .ok (.iload_n 1, 1) := by decide +kernel
theorem dX6_is_10 : decode cX6_is 10 = .ok (.invokevirtual 219, 3) := by decide +kernel
theorem dX6_is_13 : decode cX6_is 13 = .ok (.goto 7, 3) := by decide +kernel
theorem dX6_is_16 : decode cX6_is 16 = .ok (.aload_n 0, 1) := by decide +kernel
theorem dX6_is_17 : decode cX6_is 17 = .ok (.invokevirtual 63, 3) := by decide +kernel
theorem dX6_is_20 : decode cX6_is 20 = .ok (.ireturn, 1) := by decide +kernel
theorem dX6_alike_0 : decode cX6_alike 0 = .ok (.iconst 0, 1) := by decide +kernel
theorem dX6_alike_1 : decode cX6_alike 1 = .ok (.istore 7, 2) := by decide +kernel
theorem dX6_alike_3 : decode cX6_alike 3 = .ok (.iconst 0, 1) := by decide +kernel
theorem dX6_alike_4 : decode cX6_alike 4 = .ok (.istore 8, 2) := by decide +kernel
theorem dX6_alike_6 : decode cX6_alike 6 = .ok (.iload 8, 2) := by decide +kernel
theorem dX6_alike_8 : decode cX6_alike 8 = .ok (.bipush 6, 2) := by decide +kernel
theorem dX6_alike_10 : decode cX6_alike 10 = .ok (.if_icmp .ge 101, 3) := by decide +kernel
theorem dX6_alike_13 : decode cX6_alike 13 = .ok (.iconst 0, 1) := by decide +kernel
theorem dX6_alike_14 : decode cX6_alike 14 = .ok (.istore 9, 2) := by decide +kernel
theorem dX6_alike_16 : decode cX6_alike 16 = .ok (.iconst 0, 1) := by decide +kernel
theorem dX6_alike_17 : decode cX6_alike 17 = .ok (.istore 10, 2) := by decide +kernel
theorem dX6_alike_19 : decode cX6_alike 19 = .ok (.iload 10, 2) := by decide +kernel
theorem dX6_alike_21 : decode cX6_alike 21 = .ok (.bipush 6, 2) := by decide +kernel
theorem dX6_alike_23 : decode cX6_alike 23 = .ok (.if_icmp .ge 66, 3) := by decide +kernel
theorem dX6_alike_26 : decode cX6_alike 26 = .ok (.iload 9, 2) := by decide +kernel
theorem dX6_alike_28 : decode cX6_alike 28 = .ok (.iload_n 1, 1) := by decide +kernel
theorem dX6_alike_29 : decode cX6_alike 29 = .ok (.iload 8, 2) := by decide +kernel
theorem dX6_alike_31 : decode cX6_alike 31 = .ok (.invokestatic 180, 3) := by decide +kernel
theorem dX6_alike_34 : decode cX6_alike 34 = .ok (.ifCond .eq 45, 3) := by decide +kernel
theorem dX6_alike_37 : decode cX6_alike 37 = .ok (.iload_n 1, 1) := by decide +kernel
theorem dX6_alike_38 : decode cX6_alike 38 = .ok (.iload 10, 2) := by decide +kernel
theorem dX6_alike_40 : decode cX6_alike 40 = .ok (.invokestatic 180, 3) := by decide +kernel
theorem dX6_alike_43 : decode cX6_alike 43 = .ok (.ifCond .eq 36, 3) := by decide +kernel
theorem dX6_alike_46 : decode cX6_alike 46 = .ok (.iload 8, 2) := by decide +kernel
theorem dX6_alike_48 : decode cX6_alike 48 = .ok (.iload_n 2, 1) := by decide +kernel
theorem dX6_alike_49 : decode cX6_alike 49 = .ok (.iload_n 3, 1) := by decide +kernel
theorem dX6_alike_50 : decode cX6_alike 50 = .ok (.iload 4, 2) := by decide +kernel
theorem dX6_alike_52 : decode cX6_alike 52 = .ok (.iload 5, 2) := by decide +kernel
theorem dX6_alike_54 : decode cX6_alike 54 = .ok (.iload 6, 2) := by decide +kernel
theorem dX6_alike_56 : decode cX6_alike 56 = .ok (.invokestatic 159, 3) := by decide +kernel
theorem dX6_alike_59 : decode cX6_alike 59 = .ok (.iload 10, 2) := by decide +kernel
theorem dX6_alike_61 : decode cX6_alike 61 = .ok (.iload_n 2, 1) := by decide +kernel
theorem dX6_alike_62 : decode cX6_alike 62 = .ok (.iload_n 3, 1) := by decide +kernel
theorem dX6_alike_63 : decode cX6_alike 63 = .ok (.iload 4, 2) := by decide +kernel
theorem dX6_alike_65 : decode cX6_alike 65 = .ok (.iload 5, 2) := by decide +kernel
theorem dX6_alike_67 : decode cX6_alike 67 = .ok (.iload 6, 2) := by decide +kernel
theorem dX6_alike_69 : decode cX6_alike 69 = .ok (.invokestatic 159, 3) := by decide +kernel
theorem dX6_alike_72 : decode cX6_alike 72 = .ok (.if_icmp .ne 7, 3) := by decide +kernel
theorem dX6_alike_75 : decode cX6_alike 75 = .ok (.iconst 1, 1) := by decide +kernel
theorem dX6_alike_76 : decode cX6_alike 76 = .ok (.goto 4, 3) := by decide +kernel
theorem dX6_alike_79 : decode cX6_alike 79 = .ok (.iconst 0, 1) := by decide +kernel
theorem dX6_alike_80 : decode cX6_alike 80 = .ok (.iadd, 1) := by decide +kernel
theorem dX6_alike_81 : decode cX6_alike 81 = .ok (.istore 9, 2) := by decide +kernel
theorem dX6_alike_83 : decode cX6_alike 83 = .ok (.iinc 10 1, 3) := by decide +kernel
theorem dX6_alike_86 : decode cX6_alike 86 = .ok (.goto (-67), 3) := by decide +kernel
theorem dX6_alike_89 : decode cX6_alike 89 = .ok (.iload 9, 2) := by decide +kernel
theorem dX6_alike_91 : decode cX6_alike 91 = .ok (.iload 7, 2) := by decide +kernel
theorem dX6_alike_93 : decode cX6_alike 93 = .ok (.if_icmp .le 8, 3) := by decide +kernel
theorem dX6_alike_96 : decode cX6_alike 96 = .ok (.iload 9, 2) := by decide +kernel
theorem dX6_alike_98 : decode cX6_alike 98 = .ok (.goto 5, 3) := by decide +kernel
theorem dX6_alike_101 : decode cX6_alike 101 = .ok (.iload 7, 2) := by decide +kernel
theorem dX6_alike_103 : decode cX6_alike 103 = .ok (.istore 7, 2) := by decide +kernel
theorem dX6_alike_105 : decode cX6_alike 105 = .ok (.iinc 8 1, 3) := by decide +kernel
theorem dX6_alike_108 : decode cX6_alike 108 = .ok (.goto (-102), 3) := by decide +kernel
theorem dX6_alike_111 : decode cX6_alike 111 = .ok (.iload 7, 2) := by decide +kernel
theorem dX6_alike_113 : decode cX6_alike 113 = .ok (.ireturn, 1) := by decide +kernel
theorem dX6_look_0 : decode cX6_look 0 = .ok (.aload_n 0, 1) := by decide +kernel
theorem dX6_look_1 : decode cX6_look 1 = .ok (.iload_n 1, 1) := by decide +kernel
theorem dX6_look_2 : decode cX6_look 2 = .ok (.invokevirtual 197, 3) := by decide +kernel
theorem dX6_look_5 : decode cX6_look 5 = .ok (.ifCond .ne 8, 3) := by decide +kernel
theorem dX6_look_8 : decode cX6_look 8 = .ok (.aload_n 0, 1) := by decide +kernel
theorem dX6_look_9 : decode cX6_look 9 = .ok (.invokevirtual 63, 3) := by decide +kernel
theorem dX6_look_12 : decode cX6_look 12 = .ok (.ireturn, 1) := by decide +kernel
theorem dX6_look_13 : decode cX6_look 13 = .ok (.aload_n 0, 1) := by decide +kernel
theorem dX6_look_14 : decode cX6_look 14 = .ok (.iload_n 1, 1) := by decide +kernel
theorem dX6_look_15 : decode cX6_look 15 = .ok (.invokevirtual 219, 3) := by decide +kernel
theorem dX6_look_18 : decode cX6_look 18 = .ok (.istore_n 2, 1) := by decide +kernel
theorem dX6_look_19 : decode cX6_look 19 = .ok (.iload_n 2, 1) := by decide +kernel
theorem dX6_look_20 : decode cX6_look 20 = .ok (.ifCond .ne 5, 3) := by decide +kernel
theorem dX6_look_23 : decode cX6_look 23 = .ok (.iconst (-1), 1) := by decide +kernel
theorem dX6_look_24 : decode cX6_look 24 = .ok (.ireturn, 1) := by decide +kernel
theorem dX6_look_25 : decode cX6_look 25 = .ok (.iconst 0, 1) := by decide +kernel
theorem dX6_look_26 : decode cX6_look 26 = .ok (.istore_n 3, 1) := by decide +kernel
theorem dX6_look_27 : decode cX6_look 27 = .ok (.ldc 211, 2) := by decide +kernel
theorem dX6_look_29 : decode cX6_look 29 = .ok (.istore 4, 2) := by decide +kernel
theorem dX6_look_31 : decode cX6_look 31 = .ok (.iconst 0, 1) := by decide +kernel
theorem dX6_look_32 : decode cX6_look 32 = .ok (.istore 5, 2) := by decide +kernel
theorem dX6_look_34 : decode cX6_look 34 = .ok (.iload 5, 2) := by decide +kernel
theorem dX6_look_36 : decode cX6_look 36 = .ok (.bipush 27, 2) := by decide +kernel
theorem dX6_look_38 : decode cX6_look 38 = .ok (.if_icmp .ge 100, 3) := by decide +kernel
theorem dX6_look_41 : decode cX6_look 41 = .ok (.aload_n 0, 1) := by decide +kernel
theorem dX6_look_42 : decode cX6_look 42 = .ok (.iload_n 2, 1) := by decide +kernel
theorem dX6_look_43 : decode cX6_look 43 = .ok (.aload_n 0, 1) := by decide +kernel
theorem dX6_look_44 : decode cX6_look 44 = .ok (.getfield 7, 3) := by decide +kernel
theorem dX6_look_47 : decode cX6_look 47 = .ok (.bipush 6, 2) := by decide +kernel
theorem dX6_look_49 : decode cX6_look 49 = .ok (.iload_n 1, 1) := by decide +kernel
theorem dX6_look_50 : decode cX6_look 50 = .ok (.iadd, 1) := by decide +kernel
theorem dX6_look_51 : decode cX6_look 51 = .ok (.iaload, 1) := by decide +kernel
theorem dX6_look_52 : decode cX6_look 52 = .ok (.iload 5, 2) := by decide +kernel
theorem dX6_look_54 : decode cX6_look 54 = .ok (.iconst 3, 1) := by decide +kernel
theorem dX6_look_55 : decode cX6_look 55 = .ok (.idiv, 1) := by decide +kernel
theorem dX6_look_56 : decode cX6_look 56 = .ok (.iconst 3, 1) := by decide +kernel
theorem dX6_look_57 : decode cX6_look 57 = .ok (.irem, 1) := by decide +kernel
theorem dX6_look_58 : decode cX6_look 58 = .ok (.aload_n 0, 1) := by decide +kernel
theorem dX6_look_59 : decode cX6_look 59 = .ok (.getfield 7, 3) := by decide +kernel
theorem dX6_look_62 : decode cX6_look 62 = .ok (.bipush 29, 2) := by decide +kernel
theorem dX6_look_64 : decode cX6_look 64 = .ok (.iload_n 1, 1) := by decide +kernel
theorem dX6_look_65 : decode cX6_look 65 = .ok (.iadd, 1) := by decide +kernel
theorem dX6_look_66 : decode cX6_look 66 = .ok (.iaload, 1) := by decide +kernel
theorem dX6_look_67 : decode cX6_look 67 = .ok (.iload 5, 2) := by decide +kernel
theorem dX6_look_69 : decode cX6_look 69 = .ok (.iconst 3, 1) := by decide +kernel
theorem dX6_look_70 : decode cX6_look 70 = .ok (.irem, 1) := by decide +kernel
theorem dX6_look_71 : decode cX6_look 71 = .ok (.iload 5, 2) := by decide +kernel
theorem dX6_look_73 : decode cX6_look 73 = .ok (.bipush 9, 2) := by decide +kernel
theorem dX6_look_75 : decode cX6_look 75 = .ok (.idiv, 1) := by decide +kernel
theorem dX6_look_76 : decode cX6_look 76 = .ok (.invokevirtual 222, 3) := by decide +kernel
theorem dX6_look_79 : decode cX6_look 79 = .ok (.istore 6, 2) := by decide +kernel
theorem dX6_look_81 : decode cX6_look 81 = .ok (.iload 6, 2) := by decide +kernel
theorem dX6_look_83 : decode cX6_look 83 = .ok (.iload 4, 2) := by decide +kernel
theorem dX6_look_85 : decode cX6_look 85 = .ok (.if_icmp .ge 29, 3) := by decide +kernel
theorem dX6_look_88 : decode cX6_look 88 = .ok (.bipush 100, 2) := by decide +kernel
theorem dX6_look_90 : decode cX6_look 90 = .ok (.iload 5, 2) := by decide +kernel
theorem dX6_look_92 : decode cX6_look 92 = .ok (.bipush 9, 2) := by decide +kernel
theorem dX6_look_94 : decode cX6_look 94 = .ok (.idiv, 1) := by decide +kernel
theorem dX6_look_95 : decode cX6_look 95 = .ok (.imul, 1) := by decide +kernel
theorem dX6_look_96 : decode cX6_look 96 = .ok (.bipush 10, 2) := by decide +kernel
theorem dX6_look_98 : decode cX6_look 98 = .ok (.iload 5, 2) := by decide +kernel
theorem dX6_look_100 : decode cX6_look 100 = .ok (.iconst 3, 1) := by decide +kernel
theorem dX6_look_101 : decode cX6_look 101 = .ok (.idiv, 1) := by decide +kernel
theorem dX6_look_102 : decode cX6_look 102 = .ok (.iconst 3, 1) := by decide +kernel
theorem dX6_look_103 : decode cX6_look 103 = .ok (.irem, 1) := by decide +kernel
theorem dX6_look_104 : decode cX6_look 104 = .ok (.imul, 1) := by decide +kernel
theorem dX6_look_105 : decode cX6_look 105 = .ok (.iadd, 1) := by decide +kernel
theorem dX6_look_106 : decode cX6_look 106 = .ok (.iload 5, 2) := by decide +kernel
theorem dX6_look_108 : decode cX6_look 108 = .ok (.iconst 3, 1) := by decide +kernel
theorem dX6_look_109 : decode cX6_look 109 = .ok (.irem, 1) := by decide +kernel
theorem dX6_look_110 : decode cX6_look 110 = .ok (.iadd, 1) := by decide +kernel
theorem dX6_look_111 : decode cX6_look 111 = .ok (.goto 4, 3) := by decide +kernel
theorem dX6_look_114 : decode cX6_look 114 = .ok (.iload_n 3, 1) := by decide +kernel
theorem dX6_look_115 : decode cX6_look 115 = .ok (.istore_n 3, 1) := by decide +kernel
theorem dX6_look_116 : decode cX6_look 116 = .ok (.iload 6, 2) := by decide +kernel
theorem dX6_look_118 : decode cX6_look 118 = .ok (.iload 4, 2) := by decide +kernel
theorem dX6_look_120 : decode cX6_look 120 = .ok (.if_icmp .ge 8, 3) := by decide +kernel
theorem dX6_look_123 : decode cX6_look 123 = .ok (.iload 6, 2) := by decide +kernel
theorem dX6_look_125 : decode cX6_look 125 = .ok (.goto 5, 3) := by decide +kernel
theorem dX6_look_128 : decode cX6_look 128 = .ok (.iload 4, 2) := by decide +kernel
theorem dX6_look_130 : decode cX6_look 130 = .ok (.istore 4, 2) := by decide +kernel
theorem dX6_look_132 : decode cX6_look 132 = .ok (.iinc 5 1, 3) := by decide +kernel
theorem dX6_look_135 : decode cX6_look 135 = .ok (.goto (-101), 3) := by decide +kernel
theorem dX6_look_138 : decode cX6_look 138 = .ok (.iload_n 3, 1) := by decide +kernel
theorem dX6_look_139 : decode cX6_look 139 = .ok (.ireturn, 1) := by decide +kernel
theorem dX6_who_0 : decode cX6_who 0 = .ok (.aload_n 0, 1) := by decide +kernel
theorem dX6_who_1 : decode cX6_who 1 = .ok (.iload_n 1, 1) := by decide +kernel
theorem dX6_who_2 : decode cX6_who 2 = .ok (.invokevirtual 197, 3) := by decide +kernel
theorem dX6_who_5 : decode cX6_who 5 = .ok (.ifCond .ne 8, 3) := by decide +kernel
theorem dX6_who_8 : decode cX6_who 8 = .ok (.aload_n 0, 1) := by decide +kernel
theorem dX6_who_9 : decode cX6_who 9 = .ok (.invokevirtual 63, 3) := by decide +kernel
theorem dX6_who_12 : decode cX6_who 12 = .ok (.ireturn, 1) := by decide +kernel
theorem dX6_who_13 : decode cX6_who 13 = .ok (.iconst 0, 1) := by decide +kernel
theorem dX6_who_14 : decode cX6_who 14 = .ok (.istore_n 2, 1) := by decide +kernel
theorem dX6_who_15 : decode cX6_who 15 = .ok (.iconst 0, 1) := by decide +kernel
theorem dX6_who_16 : decode cX6_who 16 = .ok (.istore_n 3, 1) := by decide +kernel
theorem dX6_who_17 : decode cX6_who 17 = .ok (.iload_n 3, 1) := by decide +kernel
theorem dX6_who_18 : decode cX6_who 18 = .ok (.aload_n 0, 1) := by decide +kernel
theorem dX6_who_19 : decode cX6_who 19 = .ok (.getfield 7, 3) := by decide +kernel
theorem dX6_who_22 : decode cX6_who 22 = .ok (.bipush 22, 2) := by decide +kernel
theorem dX6_who_24 : decode cX6_who 24 = .ok (.iaload, 1) := by decide +kernel
theorem dX6_who_25 : decode cX6_who 25 = .ok (.if_icmp .ge 31, 3) := by decide +kernel
theorem dX6_who_28 : decode cX6_who 28 = .ok (.iload_n 2, 1) := by decide +kernel
theorem dX6_who_29 : decode cX6_who 29 = .ok (.aload_n 0, 1) := by decide +kernel
theorem dX6_who_30 : decode cX6_who 30 = .ok (.getfield 7, 3) := by decide +kernel
theorem dX6_who_33 : decode cX6_who 33 = .ok (.iload_n 3, 1) := by decide +kernel
theorem dX6_who_34 : decode cX6_who 34 = .ok (.invokestatic 170, 3) := by decide +kernel
theorem dX6_who_37 : decode cX6_who 37 = .ok (.iload_n 1, 1) := by decide +kernel
theorem dX6_who_38 : decode cX6_who 38 = .ok (.if_icmp .ne 9, 3) := by decide +kernel
theorem dX6_who_41 : decode cX6_who 41 = .ok (.iconst 1, 1) := by decide +kernel
theorem dX6_who_42 : decode cX6_who 42 = .ok (.iload_n 3, 1) := by decide +kernel
theorem dX6_who_43 : decode cX6_who 43 = .ok (.ishl, 1) := by decide +kernel
theorem dX6_who_44 : decode cX6_who 44 = .ok (.goto 4, 3) := by decide +kernel
theorem dX6_who_47 : decode cX6_who 47 = .ok (.iconst 0, 1) := by decide +kernel
theorem dX6_who_48 : decode cX6_who 48 = .ok (.ior, 1) := by decide +kernel
theorem dX6_who_49 : decode cX6_who 49 = .ok (.istore_n 2, 1) := by decide +kernel
theorem dX6_who_50 : decode cX6_who 50 = .ok (.iinc 3 1, 3) := by decide +kernel
theorem dX6_who_53 : decode cX6_who 53 = .ok (.goto (-36), 3) := by decide +kernel
theorem dX6_who_56 : decode cX6_who 56 = .ok (.iload_n 2, 1) := by decide +kernel
theorem dX6_who_57 : decode cX6_who 57 = .ok (.ireturn, 1) := by decide +kernel
theorem dX6_gets_0 : decode cX6_gets 0 = .ok (.aload_n 0, 1) := by decide +kernel
theorem dX6_gets_1 : decode cX6_gets 1 = .ok (.getfield 7, 3) := by decide +kernel
theorem dX6_gets_4 : decode cX6_gets 4 = .ok (.invokestatic 176, 3) := by decide +kernel
theorem dX6_gets_7 : decode cX6_gets 7 = .ok (.iload_n 2, 1) := by decide +kernel
theorem dX6_gets_8 : decode cX6_gets 8 = .ok (.iconst (-1), 1) := by decide +kernel
theorem dX6_gets_9 : decode cX6_gets 9 = .ok (.ixor, 1) := by decide +kernel
theorem dX6_gets_10 : decode cX6_gets 10 = .ok (.iand, 1) := by decide +kernel
theorem dX6_gets_11 : decode cX6_gets 11 = .ok (.istore_n 3, 1) := by decide +kernel
theorem dX6_gets_12 : decode cX6_gets 12 = .ok (.iload_n 2, 1) := by decide +kernel
theorem dX6_gets_13 : decode cX6_gets 13 = .ok (.iload_n 1, 1) := by decide +kernel
theorem dX6_gets_14 : decode cX6_gets 14 = .ok (.invokestatic 180, 3) := by decide +kernel
theorem dX6_gets_17 : decode cX6_gets 17 = .ok (.ifCond .eq 7, 3) := by decide +kernel
theorem dX6_gets_20 : decode cX6_gets 20 = .ok (.iconst 0, 1) := by decide +kernel
theorem dX6_gets_21 : decode cX6_gets 21 = .ok (.goto 4, 3) := by decide +kernel
theorem dX6_gets_24 : decode cX6_gets 24 = .ok (.iconst 1, 1) := by decide +kernel
theorem dX6_gets_25 : decode cX6_gets 25 = .ok (.istore 4, 2) := by decide +kernel
theorem dX6_gets_27 : decode cX6_gets 27 = .ok (.iconst 0, 1) := by decide +kernel
theorem dX6_gets_28 : decode cX6_gets 28 = .ok (.istore 5, 2) := by decide +kernel
theorem dX6_gets_30 : decode cX6_gets 30 = .ok (.iload 5, 2) := by decide +kernel
theorem dX6_gets_32 : decode cX6_gets 32 = .ok (.aload_n 0, 1) := by decide +kernel
theorem dX6_gets_33 : decode cX6_gets 33 = .ok (.getfield 7, 3) := by decide +kernel
theorem dX6_gets_36 : decode cX6_gets 36 = .ok (.bipush 22, 2) := by decide +kernel
theorem dX6_gets_38 : decode cX6_gets 38 = .ok (.iaload, 1) := by decide +kernel
theorem dX6_gets_39 : decode cX6_gets 39 = .ok (.if_icmp .ge 41, 3) := by decide +kernel
theorem dX6_gets_42 : decode cX6_gets 42 = .ok (.iload 4, 2) := by decide +kernel
theorem dX6_gets_44 : decode cX6_gets 44 = .ok (.iload_n 3, 1) := by decide +kernel
theorem dX6_gets_45 : decode cX6_gets 45 = .ok (.iload 5, 2) := by decide +kernel
theorem dX6_gets_47 : decode cX6_gets 47 = .ok (.invokestatic 180, 3) := by decide +kernel
theorem dX6_gets_50 : decode cX6_gets 50 = .ok (.ifCond .eq 20, 3) := by decide +kernel
theorem dX6_gets_53 : decode cX6_gets 53 = .ok (.aload_n 0, 1) := by decide +kernel
theorem dX6_gets_54 : decode cX6_gets 54 = .ok (.getfield 7, 3) := by decide +kernel
theorem dX6_gets_57 : decode cX6_gets 57 = .ok (.iload 5, 2) := by decide +kernel
theorem dX6_gets_59 : decode cX6_gets 59 = .ok (.invokestatic 170, 3) := by decide +kernel
theorem dX6_gets_62 : decode cX6_gets 62 = .ok (.iload_n 1, 1) := by decide +kernel
theorem dX6_gets_63 : decode cX6_gets 63 = .ok (.if_icmp .ne 7, 3) := by decide +kernel
theorem dX6_gets_66 : decode cX6_gets 66 = .ok (.iconst 2, 1) := by decide +kernel
theorem dX6_gets_67 : decode cX6_gets 67 = .ok (.goto 4, 3) := by decide +kernel
theorem dX6_gets_70 : decode cX6_gets 70 = .ok (.iconst 0, 1) := by decide +kernel
theorem dX6_gets_71 : decode cX6_gets 71 = .ok (.isub, 1) := by decide +kernel
theorem dX6_gets_72 : decode cX6_gets 72 = .ok (.istore 4, 2) := by decide +kernel
theorem dX6_gets_74 : decode cX6_gets 74 = .ok (.iinc 5 1, 3) := by decide +kernel
theorem dX6_gets_77 : decode cX6_gets 77 = .ok (.goto (-47), 3) := by decide +kernel
theorem dX6_gets_80 : decode cX6_gets 80 = .ok (.iload 4, 2) := by decide +kernel
theorem dX6_gets_82 : decode cX6_gets 82 = .ok (.ireturn, 1) := by decide +kernel
theorem dX6_rings_0 : decode cX6_rings 0 = .ok (.aload_n 0, 1) := by decide +kernel
theorem dX6_rings_1 : decode cX6_rings 1 = .ok (.iload_n 1, 1) := by decide +kernel
theorem dX6_rings_2 : decode cX6_rings 2 = .ok (.invokevirtual 197, 3) := by decide +kernel
theorem dX6_rings_5 : decode cX6_rings 5 = .ok (.ifCond .eq 16, 3) := by decide +kernel
theorem dX6_rings_8 : decode cX6_rings 8 = .ok (.aload_n 0, 1) := by decide +kernel
theorem dX6_rings_9 : decode cX6_rings 9 = .ok (.iload_n 2, 1) := by decide +kernel
theorem dX6_rings_10 : decode cX6_rings 10 = .ok (.invokevirtual 197, 3) := by decide +kernel
theorem dX6_rings_13 : decode cX6_rings 13 = .ok (.ifCond .eq 8, 3) := by decide +kernel
theorem dX6_rings_16 : decode cX6_rings 16 = .ok (.iload_n 1, 1) := by decide +kernel
theorem dX6_rings_17 : decode cX6_rings 17 = .ok (.iload_n 2, 1) := by decide +kernel
theorem dX6_rings_18 : decode cX6_rings 18 = .ok (.if_icmp .ne 8, 3) := by decide +kernel
theorem dX6_rings_21 : decode cX6_rings 21 = .ok (.aload_n 0, 1) := by decide +kernel
theorem dX6_rings_22 : decode cX6_rings 22 = .ok (.invokevirtual 63, 3) := by decide +kernel
theorem dX6_rings_25 : decode cX6_rings 25 = .ok (.ireturn, 1) := by decide +kernel
theorem dX6_rings_26 : decode cX6_rings 26 = .ok (.iconst 0, 1) := by decide +kernel
theorem dX6_rings_27 : decode cX6_rings 27 = .ok (.istore_n 3, 1) := by decide +kernel
theorem dX6_rings_28 : decode cX6_rings 28 = .ok (.iconst 0, 1) := by decide +kernel
theorem dX6_rings_29 : decode cX6_rings 29 = .ok (.istore 4, 2) := by decide +kernel
theorem dX6_rings_31 : decode cX6_rings 31 = .ok (.iload 4, 2) := by decide +kernel
theorem dX6_rings_33 : decode cX6_rings 33 = .ok (.iconst 4, 1) := by decide +kernel
theorem dX6_rings_34 : decode cX6_rings 34 = .ok (.if_icmp .ge 109, 3) := by decide +kernel
theorem dX6_rings_37 : decode cX6_rings 37 = .ok (.iload 4, 2) := by decide +kernel
theorem dX6_rings_39 : decode cX6_rings 39 = .ok (.iconst 0, 1) := by decide +kernel
theorem dX6_rings_40 : decode cX6_rings 40 = .ok (.invokestatic 180, 3) := by decide +kernel
theorem dX6_rings_43 : decode cX6_rings 43 = .ok (.ifCond .eq 7, 3) := by decide +kernel
theorem dX6_rings_46 : decode cX6_rings 46 = .ok (.iconst 0, 1) := by decide +kernel
theorem dX6_rings_47 : decode cX6_rings 47 = .ok (.goto 6, 3) := by decide +kernel
theorem dX6_rings_50 : decode cX6_rings 50 = .ok (.iconst 1, 1) := by decide +kernel
theorem dX6_rings_51 : decode cX6_rings 51 = .ok (.iload_n 1, 1) := by decide +kernel
theorem dX6_rings_52 : decode cX6_rings 52 = .ok (.ishl, 1) := by decide +kernel
theorem dX6_rings_53 : decode cX6_rings 53 = .ok (.iload 4, 2) := by decide +kernel
theorem dX6_rings_55 : decode cX6_rings 55 = .ok (.iconst 1, 1) := by decide +kernel
theorem dX6_rings_56 : decode cX6_rings 56 = .ok (.invokestatic 180, 3) := by decide +kernel
theorem dX6_rings_59 : decode cX6_rings 59 = .ok (.ifCond .eq 7, 3) := by decide +kernel
theorem dX6_rings_62 : decode cX6_rings 62 = .ok (.iconst 0, 1) := by decide +kernel
theorem dX6_rings_63 : decode cX6_rings 63 = .ok (.goto 6, 3) := by decide +kernel
theorem dX6_rings_66 : decode cX6_rings 66 = .ok (.iconst 1, 1) := by decide +kernel
theorem dX6_rings_67 : decode cX6_rings 67 = .ok (.iload_n 2, 1) := by decide +kernel
theorem dX6_rings_68 : decode cX6_rings 68 = .ok (.ishl, 1) := by decide +kernel
theorem dX6_rings_69 : decode cX6_rings 69 = .ok (.ior, 1) := by decide +kernel
theorem dX6_rings_70 : decode cX6_rings 70 = .ok (.istore 5, 2) := by decide +kernel
theorem dX6_rings_72 : decode cX6_rings 72 = .ok (.aload_n 0, 1) := by decide +kernel
theorem dX6_rings_73 : decode cX6_rings 73 = .ok (.iload_n 1, 1) := by decide +kernel
theorem dX6_rings_74 : decode cX6_rings 74 = .ok (.iload 5, 2) := by decide +kernel
theorem dX6_rings_76 : decode cX6_rings 76 = .ok (.invokevirtual 225, 3) := by decide +kernel
theorem dX6_rings_79 : decode cX6_rings 79 = .ok (.aload_n 0, 1) := by decide +kernel
theorem dX6_rings_80 : decode cX6_rings 80 = .ok (.iload_n 1, 1) := by decide +kernel
theorem dX6_rings_81 : decode cX6_rings 81 = .ok (.iload 5, 2) := by decide +kernel
theorem dX6_rings_83 : decode cX6_rings 83 = .ok (.iconst 1, 1) := by decide +kernel
theorem dX6_rings_84 : decode cX6_rings 84 = .ok (.iload_n 1, 1) := by decide +kernel
theorem dX6_rings_85 : decode cX6_rings 85 = .ok (.ishl, 1) := by decide +kernel
theorem dX6_rings_86 : decode cX6_rings 86 = .ok (.ixor, 1) := by decide +kernel
theorem dX6_rings_87 : decode cX6_rings 87 = .ok (.invokevirtual 225, 3) := by decide +kernel
theorem dX6_rings_90 : decode cX6_rings 90 = .ok (.if_icmp .lt 28, 3) := by decide +kernel
theorem dX6_rings_93 : decode cX6_rings 93 = .ok (.aload_n 0, 1) := by decide +kernel
theorem dX6_rings_94 : decode cX6_rings 94 = .ok (.iload_n 2, 1) := by decide +kernel
theorem dX6_rings_95 : decode cX6_rings 95 = .ok (.iload 5, 2) := by decide +kernel
theorem dX6_rings_97 : decode cX6_rings 97 = .ok (.invokevirtual 225, 3) := by decide +kernel
theorem dX6_rings_100 : decode cX6_rings 100 = .ok (.aload_n 0, 1) := by decide +kernel
theorem dX6_rings_101 : decode cX6_rings 101 = .ok (.iload_n 2, 1) := by decide +kernel
theorem dX6_rings_102 : decode cX6_rings 102 = .ok (.iload 5, 2) := by decide +kernel
theorem dX6_rings_104 : decode cX6_rings 104 = .ok (.iconst 1, 1) := by decide +kernel
theorem dX6_rings_105 : decode cX6_rings 105 = .ok (.iload_n 2, 1) := by decide +kernel
theorem dX6_rings_106 : decode cX6_rings 106 = .ok (.ishl, 1) := by decide +kernel
theorem dX6_rings_107 : decode cX6_rings 107 = .ok (.ixor, 1) := by decide +kernel
theorem dX6_rings_108 : decode cX6_rings 108 = .ok (.invokevirtual 225, 3) := by decide +kernel
theorem dX6_rings_111 : decode cX6_rings 111 = .ok (.if_icmp .lt 7, 3) := by decide +kernel
theorem dX6_rings_114 : decode cX6_rings 114 = .ok (.iconst 1, 1) := by decide +kernel
theorem dX6_rings_115 : decode cX6_rings 115 = .ok (.goto 4, 3) := by decide +kernel
theorem dX6_rings_118 : decode cX6_rings 118 = .ok (.iconst 0, 1) := by decide +kernel
theorem dX6_rings_119 : decode cX6_rings 119 = .ok (.istore 6, 2) := by decide +kernel
theorem dX6_rings_121 : decode cX6_rings 121 = .ok (.iload_n 3, 1) := by decide +kernel
theorem dX6_rings_122 : decode cX6_rings 122 = .ok (.iload 6, 2) := by decide +kernel
theorem dX6_rings_124 : decode cX6_rings 124 = .ok (.ifCond .eq 10, 3) := by decide +kernel
theorem dX6_rings_127 : decode cX6_rings 127 = .ok (.iconst 1, 1) := by decide +kernel
theorem dX6_rings_128 : decode cX6_rings 128 = .ok (.iload 4, 2) := by decide +kernel
theorem dX6_rings_130 : decode cX6_rings 130 = .ok (.ishl, 1) := by decide +kernel
theorem dX6_rings_131 : decode cX6_rings 131 = .ok (.goto 4, 3) := by decide +kernel
theorem dX6_rings_134 : decode cX6_rings 134 = .ok (.iconst 0, 1) := by decide +kernel
theorem dX6_rings_135 : decode cX6_rings 135 = .ok (.ior, 1) := by decide +kernel
theorem dX6_rings_136 : decode cX6_rings 136 = .ok (.istore_n 3, 1) := by decide +kernel
theorem dX6_rings_137 : decode cX6_rings 137 = .ok (.iinc 4 1, 3) := by decide +kernel
theorem dX6_rings_140 : decode cX6_rings 140 = .ok (.goto (-109), 3) := by decide +kernel
theorem dX6_rings_143 : decode cX6_rings 143 = .ok (.iload_n 3, 1) := by decide +kernel
theorem dX6_rings_144 : decode cX6_rings 144 = .ok (.ireturn, 1) := by decide +kernel
theorem dX6_eyes_0 : decode cX6_eyes 0 = .ok (.iload_n 1, 1) := by decide +kernel
theorem dX6_eyes_1 : decode cX6_eyes 1 = .ok (.i2l, 1) := by decide +kernel
theorem dX6_eyes_2 : decode cX6_eyes 2 = .ok (.lconst 0, 1) := by decide +kernel
theorem dX6_eyes_3 : decode cX6_eyes 3 = .ok (.ldc2_w 228, 3) := by decide +kernel
theorem dX6_eyes_6 : decode cX6_eyes 6 = .ok (.invokestatic 55, 3) := by decide +kernel
theorem dX6_eyes_9 : decode cX6_eyes 9 = .ok (.ifCond .ne 8, 3) := by decide +kernel
theorem dX6_eyes_12 : decode cX6_eyes 12 = .ok (.aload_n 0, 1) := by decide +kernel
theorem dX6_eyes_13 : decode cX6_eyes 13 = .ok (.invokevirtual 63, 3) := by decide +kernel
theorem dX6_eyes_16 : decode cX6_eyes 16 = .ok (.ireturn, 1) := by decide +kernel
theorem dX6_eyes_17 : decode cX6_eyes 17 = .ok (.aload_n 0, 1) := by decide +kernel
theorem dX6_eyes_18 : decode cX6_eyes 18 = .ok (.getfield 7, 3) := by decide +kernel
theorem dX6_eyes_21 : decode cX6_eyes 21 = .ok (.invokestatic 176, 3) := by decide +kernel
theorem dX6_eyes_24 : decode cX6_eyes 24 = .ok (.invokestatic 184, 3) := by decide +kernel
theorem dX6_eyes_27 : decode cX6_eyes 27 = .ok (.i2l, 1) := by decide +kernel
theorem dX6_eyes_28 : decode cX6_eyes 28 = .ok (.bipush 10, 2) := by decide +kernel
theorem dX6_eyes_30 : decode cX6_eyes 30 = .ok (.iload_n 1, 1) := by decide +kernel
theorem dX6_eyes_31 : decode cX6_eyes 31 = .ok (.isub, 1) := by decide +kernel
theorem dX6_eyes_32 : decode cX6_eyes 32 = .ok (.i2l, 1) := by decide +kernel
theorem dX6_eyes_33 : decode cX6_eyes 33 = .ok (.lmul, 1) := by decide +kernel
theorem dX6_eyes_34 : decode cX6_eyes 34 = .ok (.lstore_n 2, 1) := by decide +kernel
theorem dX6_eyes_35 : decode cX6_eyes 35 = .ok (.lload_n 2, 1) := by decide +kernel
theorem dX6_eyes_36 : decode cX6_eyes 36 = .ok (.lstore 4, 2) := by decide +kernel
theorem dX6_eyes_38 : decode cX6_eyes 38 = .ok (.ldc2_w 228, 3) := by decide +kernel
theorem dX6_eyes_41 : decode cX6_eyes 41 = .ok (.lstore 6, 2) := by decide +kernel
theorem dX6_eyes_43 : decode cX6_eyes 43 = .ok (.lload 6, 2) := by decide +kernel
theorem dX6_eyes_45 : decode cX6_eyes 45 = .ok (.lconst 0, 1) := by decide +kernel
theorem dX6_eyes_46 : decode cX6_eyes 46 = .ok (.lcmp, 1) := by decide +kernel
theorem dX6_eyes_47 : decode cX6_eyes 47 = .ok (.ifCond .eq 21, 3) := by decide +kernel
theorem dX6_eyes_50 : decode cX6_eyes 50 = .ok (.lload 4, 2) := by decide +kernel
theorem dX6_eyes_52 : decode cX6_eyes 52 = .ok (.lload 6, 2) := by decide +kernel
theorem dX6_eyes_54 : decode cX6_eyes 54 = .ok (.lrem, 1) := by decide +kernel
theorem dX6_eyes_55 : decode cX6_eyes 55 = .ok (.lstore 8, 2) := by decide +kernel
theorem dX6_eyes_57 : decode cX6_eyes 57 = .ok (.lload 6, 2) := by decide +kernel
theorem dX6_eyes_59 : decode cX6_eyes 59 = .ok (.lstore 4, 2) := by decide +kernel
theorem dX6_eyes_61 : decode cX6_eyes 61 = .ok (.lload 8, 2) := by decide +kernel
theorem dX6_eyes_63 : decode cX6_eyes 63 = .ok (.lstore 6, 2) := by decide +kernel
theorem dX6_eyes_65 : decode cX6_eyes 65 = .ok (.goto (-22), 3) := by decide +kernel
theorem dX6_eyes_68 : decode cX6_eyes 68 = .ok (.aload_n 0, 1) := by decide +kernel
theorem dX6_eyes_69 : decode cX6_eyes 69 = .ok (.lload_n 2, 1) := by decide +kernel
theorem dX6_eyes_70 : decode cX6_eyes 70 = .ok (.lload 4, 2) := by decide +kernel
theorem dX6_eyes_72 : decode cX6_eyes 72 = .ok (.ldiv, 1) := by decide +kernel
theorem dX6_eyes_73 : decode cX6_eyes 73 = .ok (.putfield 230, 3) := by decide +kernel
theorem dX6_eyes_76 : decode cX6_eyes 76 = .ok (.aload_n 0, 1) := by decide +kernel
theorem dX6_eyes_77 : decode cX6_eyes 77 = .ok (.ldc2_w 228, 3) := by decide +kernel
theorem dX6_eyes_80 : decode cX6_eyes 80 = .ok (.lload 4, 2) := by decide +kernel
theorem dX6_eyes_82 : decode cX6_eyes 82 = .ok (.ldiv, 1) := by decide +kernel
theorem dX6_eyes_83 : decode cX6_eyes 83 = .ok (.putfield 29, 3) := by decide +kernel
theorem dX6_eyes_86 : decode cX6_eyes 86 = .ok (.iconst 1, 1) := by decide +kernel
theorem dX6_eyes_87 : decode cX6_eyes 87 = .ok (.ireturn, 1) := by decide +kernel
theorem dX6_weeks_0 : decode cX6_weeks 0 = .ok (.iload_n 1, 1) := by decide +kernel
theorem dX6_weeks_1 : decode cX6_weeks 1 = .ok (.i2l, 1) := by decide +kernel
theorem dX6_weeks_2 : decode cX6_weeks 2 = .ok (.lconst 0, 1) := by decide +kernel
theorem dX6_weeks_3 : decode cX6_weeks 3 = .ok (.ldc2_w 233, 3) := by decide +kernel
theorem dX6_weeks_6 : decode cX6_weeks 6 = .ok (.invokestatic 55, 3) := by decide +kernel
theorem dX6_weeks_9 : decode cX6_weeks 9 = .ok (.ifCond .eq 15, 3) := by decide +kernel
theorem dX6_weeks_12 : decode cX6_weeks 12 = .ok (.iload_n 2, 1) := by decide +kernel
theorem dX6_weeks_13 : decode cX6_weeks 13 = .ok (.i2l, 1) := by decide +kernel
theorem dX6_weeks_14 : decode cX6_weeks 14 = .ok (.lconst 0, 1) := by decide +kernel
theorem dX6_weeks_15 : decode cX6_weeks 15 = .ok (.ldc2_w 188, 3) := by decide +kernel
theorem dX6_weeks_18 : decode cX6_weeks 18 = .ok (.invokestatic 55, 3) := by decide +kernel
theorem dX6_weeks_21 : decode cX6_weeks 21 = .ok (.ifCond .ne 8, 3) := by decide +kernel
theorem dX6_weeks_24 : decode cX6_weeks 24 = .ok (.aload_n 0, 1) := by decide +kernel
theorem dX6_weeks_25 : decode cX6_weeks 25 = .ok (.invokevirtual 63, 3) := by decide +kernel
theorem dX6_weeks_28 : decode cX6_weeks 28 = .ok (.ireturn, 1) := by decide +kernel
theorem dX6_weeks_29 : decode cX6_weeks 29 = .ok (.iload_n 1, 1) := by decide +kernel
theorem dX6_weeks_30 : decode cX6_weeks 30 = .ok (.i2l, 1) := by decide +kernel
theorem dX6_weeks_31 : decode cX6_weeks 31 = .ok (.lstore_n 3, 1) := by decide +kernel
theorem dX6_weeks_32 : decode cX6_weeks 32 = .ok (.iconst 0, 1) := by decide +kernel
theorem dX6_weeks_33 : decode cX6_weeks 33 = .ok (.istore 5, 2) := by decide +kernel
theorem dX6_weeks_35 : decode cX6_weeks 35 = .ok (.iconst 0, 1) := by decide +kernel
theorem dX6_weeks_36 : decode cX6_weeks 36 = .ok (.istore 6, 2) := by decide +kernel
theorem dX6_weeks_38 : decode cX6_weeks 38 = .ok (.iload 6, 2) := by decide +kernel
theorem dX6_weeks_40 : decode cX6_weeks 40 = .ok (.iload_n 2, 1) := by decide +kernel
theorem dX6_weeks_41 : decode cX6_weeks 41 = .ok (.if_icmp .ge 78, 3) := by decide +kernel
theorem dX6_weeks_44 : decode cX6_weeks 44 = .ok (.aload_n 0, 1) := by decide +kernel
theorem dX6_weeks_45 : decode cX6_weeks 45 = .ok (.invokevirtual 205, 3) := by decide +kernel
theorem dX6_weeks_48 : decode cX6_weeks 48 = .ok (.iconst 0, 1) := by decide +kernel
theorem dX6_weeks_49 : decode cX6_weeks 49 = .ok (.istore 7, 2) := by decide +kernel
theorem dX6_weeks_51 : decode cX6_weeks 51 = .ok (.iload 7, 2) := by decide +kernel
theorem dX6_weeks_53 : decode cX6_weeks 53 = .ok (.aload_n 0, 1) := by decide +kernel
theorem dX6_weeks_54 : decode cX6_weeks 54 = .ok (.getfield 7, 3) := by decide +kernel
theorem dX6_weeks_57 : decode cX6_weeks 57 = .ok (.bipush 22, 2) := by decide +kernel
theorem dX6_weeks_59 : decode cX6_weeks 59 = .ok (.iaload, 1) := by decide +kernel
theorem dX6_weeks_60 : decode cX6_weeks 60 = .ok (.if_icmp .ge 43, 3) := by decide +kernel
theorem dX6_weeks_63 : decode cX6_weeks 63 = .ok (.lload_n 3, 1) := by decide +kernel
theorem dX6_weeks_64 : decode cX6_weeks 64 = .ok (.ldc2_w 235, 3) := by decide +kernel
theorem dX6_weeks_67 : decode cX6_weeks 67 = .ok (.lmul, 1) := by decide +kernel
theorem dX6_weeks_68 : decode cX6_weeks 68 = .ok (.ldc2_w 237, 3) := by decide +kernel
theorem dX6_weeks_71 : decode cX6_weeks 71 = .ok (.ladd, 1) := by decide +kernel
theorem dX6_weeks_72 : decode cX6_weeks 72 = .ok (.ldc2_w 239, 3) := by decide +kernel
theorem dX6_weeks_75 : decode cX6_weeks 75 = .ok (.lrem, 1) := by decide +kernel
theorem dX6_weeks_76 : decode cX6_weeks 76 = .ok (.lstore_n 3, 1) := by decide +kernel
theorem dX6_weeks_77 : decode cX6_weeks 77 = .ok (.aload_n 0, 1) := by decide +kernel
theorem dX6_weeks_78 : decode cX6_weeks 78 = .ok (.getfield 16, 3) := by decide +kernel
theorem dX6_weeks_81 : decode cX6_weeks 81 = .ok (.bipush 6, 2) := by decide +kernel
theorem dX6_weeks_83 : decode cX6_weeks 83 = .ok (.iload 7, 2) := by decide +kernel
theorem dX6_weeks_85 : decode cX6_weeks 85 = .ok (.iadd, 1) := by decide +kernel
theorem dX6_weeks_86 : decode cX6_weeks 86 = .ok (.lload_n 3, 1) := by decide +kernel
theorem dX6_weeks_87 : decode cX6_weeks 87 = .ok (.ldc2_w 241, 3) := by decide +kernel
theorem dX6_weeks_90 : decode cX6_weeks 90 = .ok (.ldiv, 1) := by decide +kernel
theorem dX6_weeks_91 : decode cX6_weeks 91 = .ok (.ldc2_w 243, 3) := by decide +kernel
theorem dX6_weeks_94 : decode cX6_weeks 94 = .ok (.lrem, 1) := by decide +kernel
theorem dX6_weeks_95 : decode cX6_weeks 95 = .ok (.l2i, 1) := by decide +kernel
theorem dX6_weeks_96 : decode cX6_weeks 96 = .ok (.iastore, 1) := by decide +kernel
theorem dX6_weeks_97 : decode cX6_weeks 97 = .ok (.iinc 7 1, 3) := by decide +kernel
theorem dX6_weeks_100 : decode cX6_weeks 100 = .ok (.goto (-49), 3) := by decide +kernel
theorem dX6_weeks_103 : decode cX6_weeks 103 = .ok (.iload 5, 2) := by decide +kernel
theorem dX6_weeks_105 : decode cX6_weeks 105 = .ok (.aload_n 0, 1) := by decide +kernel
theorem dX6_weeks_106 : decode cX6_weeks 106 = .ok (.iconst 3, 1) := by decide +kernel
theorem dX6_weeks_107 : decode cX6_weeks 107 = .ok (.invokevirtual 208, 3) := by decide +kernel
theorem dX6_weeks_110 : decode cX6_weeks 110 = .ok (.iadd, 1) := by decide +kernel
theorem dX6_weeks_111 : decode cX6_weeks 111 = .ok (.istore 5, 2) := by decide +kernel
theorem dX6_weeks_113 : decode cX6_weeks 113 = .ok (.iinc 6 1, 3) := by decide +kernel
theorem dX6_weeks_116 : decode cX6_weeks 116 = .ok (.goto (-78), 3) := by decide +kernel
theorem dX6_weeks_119 : decode cX6_weeks 119 = .ok (.iload 5, 2) := by decide +kernel
theorem dX6_weeks_121 : decode cX6_weeks 121 = .ok (.ireturn, 1) := by decide +kernel
theorem dX6_part_0 : decode cX6_part 0 = .ok (.iload_n 1, 1) := by decide +kernel
theorem dX6_part_1 : decode cX6_part 1 = .ok (.i2l, 1) := by decide +kernel
theorem dX6_part_2 : decode cX6_part 2 = .ok (.lconst 0, 1) := by decide +kernel
theorem dX6_part_3 : decode cX6_part 3 = .ok (.lconst 1, 1) := by decide +kernel
theorem dX6_part_4 : decode cX6_part 4 = .ok (.invokestatic 55, 3) := by decide +kernel
theorem dX6_part_7 : decode cX6_part 7 = .ok (.ifCond .ne 9, 3) := by decide +kernel
theorem dX6_part_10 : decode cX6_part 10 = .ok (.aload_n 0, 1) := by decide +kernel
theorem dX6_part_11 : decode cX6_part 11 = .ok (.invokevirtual 63, 3) := by decide +kernel
theorem dX6_part_14 : decode cX6_part 14 = .ok (.i2l, 1) := by decide +kernel
theorem dX6_part_15 : decode cX6_part 15 = .ok (.lreturn, 1) := by decide +kernel
theorem dX6_part_16 : decode cX6_part 16 = .ok (.iload_n 1, 1) := by decide +kernel
theorem dX6_part_17 : decode cX6_part 17 = .ok (.ifCond .ne 10, 3) := by decide +kernel
theorem dX6_part_20 : decode cX6_part 20 = .ok (.aload_n 0, 1) := by decide +kernel
theorem dX6_part_21 : decode cX6_part 21 = .ok (.getfield 230, 3) := by decide +kernel
theorem dX6_part_24 : decode cX6_part 24 = .ok (.goto 7, 3) := by decide +kernel
theorem dX6_part_27 : decode cX6_part 27 = .ok (.aload_n 0, 1) := by decide +kernel
theorem dX6_part_28 : decode cX6_part 28 = .ok (.getfield 29, 3) := by decide +kernel
theorem dX6_part_31 : decode cX6_part 31 = .ok (.lreturn, 1) := by decide +kernel
theorem dX6_image_0 : decode cX6_image 0 = .ok (.iload_n 1, 1) := by decide +kernel
theorem dX6_image_1 : decode cX6_image 1 = .ok (.i2l, 1) := by decide +kernel
theorem dX6_image_2 : decode cX6_image 2 = .ok (.lconst 0, 1) := by decide +kernel
theorem dX6_image_3 : decode cX6_image 3 = .ok (.lconst 1, 1) := by decide +kernel
theorem dX6_image_4 : decode cX6_image 4 = .ok (.invokestatic 55, 3) := by decide +kernel
theorem dX6_image_7 : decode cX6_image 7 = .ok (.ifCond .ne 8, 3) := by decide +kernel
theorem dX6_image_10 : decode cX6_image 10 = .ok (.aload_n 0, 1) := by decide +kernel
theorem dX6_image_11 : decode cX6_image 11 = .ok (.invokevirtual 63, 3) := by decide +kernel
theorem dX6_image_14 : decode cX6_image 14 = .ok (.ireturn, 1) := by decide +kernel
theorem dX6_image_15 : decode cX6_image 15 = .ok (.aload_n 0, 1) := by decide +kernel
theorem dX6_image_16 : decode cX6_image 16 = .ok (.getfield 7, 3) := by decide +kernel
theorem dX6_image_19 : decode cX6_image 19 = .ok (.iconst 0, 1) := by decide +kernel
theorem dX6_image_20 : decode cX6_image 20 = .ok (.aload_n 0, 1) := by decide +kernel
theorem dX6_image_21 : decode cX6_image 21 = .ok (.getfield 19, 3) := by decide +kernel
theorem dX6_image_24 : decode cX6_image 24 = .ok (.sipush 255, 3) := by decide +kernel
theorem dX6_image_27 : decode cX6_image 27 = .ok (.iload_n 1, 1) := by decide +kernel
theorem dX6_image_28 : decode cX6_image 28 = .ok (.imul, 1) := by decide +kernel
theorem dX6_image_29 : decode cX6_image 29 = .ok (.sipush 255, 3) := by decide +kernel
theorem dX6_image_32 : decode cX6_image 32 = .ok (.invokestatic 152, 3) := by decide +kernel
theorem dX6_image_35 : decode cX6_image 35 = .ok (.aload_n 0, 1) := by decide +kernel
theorem dX6_image_36 : decode cX6_image 36 = .ok (.getfield 22, 3) := by decide +kernel
theorem dX6_image_39 : decode cX6_image 39 = .ok (.iload_n 1, 1) := by decide +kernel
theorem dX6_image_40 : decode cX6_image 40 = .ok (.iconst 1, 1) := by decide +kernel
theorem dX6_image_41 : decode cX6_image 41 = .ok (.bastore, 1) := by decide +kernel
theorem dX6_image_42 : decode cX6_image 42 = .ok (.iconst 1, 1) := by decide +kernel
theorem dX6_image_43 : decode cX6_image 43 = .ok (.ireturn, 1) := by decide +kernel
theorem dX6_from_0 : decode cX6_from 0 = .ok (.iload_n 1, 1) := by decide +kernel
theorem dX6_from_1 : decode cX6_from 1 = .ok (.i2l, 1) := by decide +kernel
theorem dX6_from_2 : decode cX6_from 2 = .ok (.lconst 0, 1) := by decide +kernel
theorem dX6_from_3 : decode cX6_from 3 = .ok (.lconst 1, 1) := by decide +kernel
theorem dX6_from_4 : decode cX6_from 4 = .ok (.invokestatic 55, 3) := by decide +kernel
theorem dX6_from_7 : decode cX6_from 7 = .ok (.ifCond .ne 8, 3) := by decide +kernel
theorem dX6_from_10 : decode cX6_from 10 = .ok (.aload_n 0, 1) := by decide +kernel
theorem dX6_from_11 : decode cX6_from 11 = .ok (.invokevirtual 63, 3) := by decide +kernel
theorem dX6_from_14 : decode cX6_from 14 = .ok (.ireturn, 1) := by decide +kernel
theorem dX6_from_15 : decode cX6_from 15 = .ok (.aload_n 0, 1) := by decide +kernel
theorem dX6_from_16 : decode cX6_from 16 = .ok (.getfield 22, 3) := by decide +kernel
theorem dX6_from_19 : decode cX6_from 19 = .ok (.iload_n 1, 1) := by decide +kernel
theorem dX6_from_20 : decode cX6_from 20 = .ok (.baload, 1) := by decide +kernel
theorem dX6_from_21 : decode cX6_from 21 = .ok (.ifCond .ne 8, 3) := by decide +kernel
theorem dX6_from_24 : decode cX6_from 24 = .ok (.aload_n 0, 1) := by decide +kernel
theorem dX6_from_25 : decode cX6_from 25 = .ok (.invokevirtual 77, 3) := by decide +kernel
theorem dX6_from_28 : decode cX6_from 28 = .ok (.ireturn, 1) := by decide +kernel
theorem dX6_from_29 : decode cX6_from 29 = .ok (.aload_n 0, 1) := by decide +kernel
theorem dX6_from_30 : decode cX6_from 30 = .ok (.getfield 19, 3) := by decide +kernel
theorem dX6_from_33 : decode cX6_from 33 = .ok (.sipush 255, 3) := by decide +kernel
theorem dX6_from_36 : decode cX6_from 36 = .ok (.iload_n 1, 1) := by decide +kernel
theorem dX6_from_37 : decode cX6_from 37 = .ok (.imul, 1) := by decide +kernel
theorem dX6_from_38 : decode cX6_from 38 = .ok (.aload_n 0, 1) := by decide +kernel
theorem dX6_from_39 : decode cX6_from 39 = .ok (.getfield 7, 3) := by decide +kernel
theorem dX6_from_42 : decode cX6_from 42 = .ok (.iconst 0, 1) := by decide +kernel
theorem dX6_from_43 : decode cX6_from 43 = .ok (.sipush 255, 3) := by decide +kernel
theorem dX6_from_46 : decode cX6_from 46 = .ok (.invokestatic 152, 3) := by decide +kernel
theorem dX6_from_49 : decode cX6_from 49 = .ok (.iconst 1, 1) := by decide +kernel
theorem dX6_from_50 : decode cX6_from 50 = .ok (.ireturn, 1) := by decide +kernel
theorem dX6_status_0 : decode cX6_status 0 = .ok (.iload_n 1, 1) := by decide +kernel
theorem dX6_status_1 : decode cX6_status 1 = .ok (.tableswitch 42 0 2 #[27, 32, 37], 27) := by decide +kernel
theorem dX6_status_28 : decode cX6_status 28 = .ok (.aload_n 0, 1) := by decide +kernel
theorem dX6_status_29 : decode cX6_status 29 = .ok (.getfield 43, 3) := by decide +kernel
theorem dX6_status_32 : decode cX6_status 32 = .ok (.ireturn, 1) := by decide +kernel
theorem dX6_status_33 : decode cX6_status 33 = .ok (.aload_n 0, 1) := by decide +kernel
theorem dX6_status_34 : decode cX6_status 34 = .ok (.getfield 47, 3) := by decide +kernel
theorem dX6_status_37 : decode cX6_status 37 = .ok (.ireturn, 1) := by decide +kernel
theorem dX6_status_38 : decode cX6_status 38 = .ok (.aload_n 0, 1) := by decide +kernel
theorem dX6_status_39 : decode cX6_status 39 = .ok (.getfield 50, 3) := by decide +kernel
theorem dX6_status_42 : decode cX6_status 42 = .ok (.ireturn, 1) := by decide +kernel
theorem dX6_status_43 : decode cX6_status 43 = .ok (.aload_n 0, 1) := by decide +kernel
theorem dX6_status_44 : decode cX6_status 44 = .ok (.dup, 1) := by decide +kernel
theorem dX6_status_45 : decode cX6_status 45 = .ok (.getfield 43, 3) := by decide +kernel
theorem dX6_status_48 : decode cX6_status 48 = .ok (.iconst 1, 1) := by decide +kernel
theorem dX6_status_49 : decode cX6_status 49 = .ok (.iadd, 1) := by decide +kernel
theorem dX6_status_50 : decode cX6_status 50 = .ok (.putfield 43, 3) := by decide +kernel
theorem dX6_status_53 : decode cX6_status 53 = .ok (.iconst (-1), 1) := by decide +kernel
theorem dX6_status_54 : decode cX6_status 54 = .ok (.ireturn, 1) := by decide +kernel
theorem dX6_counted_0 : decode cX6_counted 0 = .ok (.iload_n 1, 1) := by decide +kernel
theorem dX6_counted_1 : decode cX6_counted 1 = .ok (.tableswitch 99 0 6 #[43, 51, 59, 67, 75, 83, 91], 43) := by decide +kernel
theorem dX6_counted_44 : decode cX6_counted 44 = .ok (.aload_n 0, 1) := by decide +kernel
theorem dX6_counted_45 : decode cX6_counted 45 = .ok (.getfield 7, 3) := by decide +kernel
theorem dX6_counted_48 : decode cX6_counted 48 = .ok (.bipush 22, 2) := by decide +kernel
theorem dX6_counted_50 : decode cX6_counted 50 = .ok (.iaload, 1) := by decide +kernel
theorem dX6_counted_51 : decode cX6_counted 51 = .ok (.ireturn, 1) := by decide +kernel
theorem dX6_counted_52 : decode cX6_counted 52 = .ok (.aload_n 0, 1) := by decide +kernel
theorem dX6_counted_53 : decode cX6_counted 53 = .ok (.getfield 7, 3) := by decide +kernel
theorem dX6_counted_56 : decode cX6_counted 56 = .ok (.bipush 21, 2) := by decide +kernel
theorem dX6_counted_58 : decode cX6_counted 58 = .ok (.iaload, 1) := by decide +kernel
theorem dX6_counted_59 : decode cX6_counted 59 = .ok (.ireturn, 1) := by decide +kernel
theorem dX6_counted_60 : decode cX6_counted 60 = .ok (.aload_n 0, 1) := by decide +kernel
theorem dX6_counted_61 : decode cX6_counted 61 = .ok (.getfield 7, 3) := by decide +kernel
theorem dX6_counted_64 : decode cX6_counted 64 = .ok (.bipush 18, 2) := by decide +kernel
theorem dX6_counted_66 : decode cX6_counted 66 = .ok (.iaload, 1) := by decide +kernel
theorem dX6_counted_67 : decode cX6_counted 67 = .ok (.ireturn, 1) := by decide +kernel
theorem dX6_counted_68 : decode cX6_counted 68 = .ok (.aload_n 0, 1) := by decide +kernel
theorem dX6_counted_69 : decode cX6_counted 69 = .ok (.getfield 7, 3) := by decide +kernel
theorem dX6_counted_72 : decode cX6_counted 72 = .ok (.bipush 19, 2) := by decide +kernel
theorem dX6_counted_74 : decode cX6_counted 74 = .ok (.iaload, 1) := by decide +kernel
theorem dX6_counted_75 : decode cX6_counted 75 = .ok (.ireturn, 1) := by decide +kernel
theorem dX6_counted_76 : decode cX6_counted 76 = .ok (.aload_n 0, 1) := by decide +kernel
theorem dX6_counted_77 : decode cX6_counted 77 = .ok (.getfield 7, 3) := by decide +kernel
theorem dX6_counted_80 : decode cX6_counted 80 = .ok (.bipush 20, 2) := by decide +kernel
theorem dX6_counted_82 : decode cX6_counted 82 = .ok (.iaload, 1) := by decide +kernel
theorem dX6_counted_83 : decode cX6_counted 83 = .ok (.ireturn, 1) := by decide +kernel
theorem dX6_counted_84 : decode cX6_counted 84 = .ok (.aload_n 0, 1) := by decide +kernel
theorem dX6_counted_85 : decode cX6_counted 85 = .ok (.getfield 7, 3) := by decide +kernel
theorem dX6_counted_88 : decode cX6_counted 88 = .ok (.bipush 35, 2) := by decide +kernel
theorem dX6_counted_90 : decode cX6_counted 90 = .ok (.iaload, 1) := by decide +kernel
theorem dX6_counted_91 : decode cX6_counted 91 = .ok (.ireturn, 1) := by decide +kernel
theorem dX6_counted_92 : decode cX6_counted 92 = .ok (.aload_n 0, 1) := by decide +kernel
theorem dX6_counted_93 : decode cX6_counted 93 = .ok (.getfield 7, 3) := by decide +kernel
theorem dX6_counted_96 : decode cX6_counted 96 = .ok (.bipush 78, 2) := by decide +kernel
theorem dX6_counted_98 : decode cX6_counted 98 = .ok (.iaload, 1) := by decide +kernel
theorem dX6_counted_99 : decode cX6_counted 99 = .ok (.ireturn, 1) := by decide +kernel
theorem dX6_counted_100 : decode cX6_counted 100 = .ok (.aload_n 0, 1) := by decide +kernel
theorem dX6_counted_101 : decode cX6_counted 101 = .ok (.getfield 89, 3) := by decide +kernel
theorem dX6_counted_104 : decode cX6_counted 104 = .ok (.ireturn, 1) := by decide +kernel
theorem dX6_count_0 : decode cX6_count 0 = .ok (.iload_n 1, 1) := by decide +kernel
theorem dX6_count_1 : decode cX6_count 1 = .ok (.i2l, 1) := by decide +kernel
theorem dX6_count_2 : decode cX6_count 2 = .ok (.lconst 0, 1) := by decide +kernel
theorem dX6_count_3 : decode cX6_count 3 = .ok (.ldc2_w 53, 3) := by decide +kernel
theorem dX6_count_6 : decode cX6_count 6 = .ok (.invokestatic 55, 3) := by decide +kernel
theorem dX6_count_9 : decode cX6_count 9 = .ok (.ifCond .eq 11, 3) := by decide +kernel
theorem dX6_count_12 : decode cX6_count 12 = .ok (.aload_n 0, 1) := by decide +kernel
theorem dX6_count_13 : decode cX6_count 13 = .ok (.iload_n 1, 1) := by decide +kernel
theorem dX6_count_14 : decode cX6_count 14 = .ok (.invokevirtual 245, 3) := by decide +kernel
theorem dX6_count_17 : decode cX6_count 17 = .ok (.goto 7, 3) := by decide +kernel
theorem dX6_count_20 : decode cX6_count 20 = .ok (.aload_n 0, 1) := by decide +kernel
theorem dX6_count_21 : decode cX6_count 21 = .ok (.invokevirtual 63, 3) := by decide +kernel
theorem dX6_count_24 : decode cX6_count 24 = .ok (.ireturn, 1) := by decide +kernel
theorem dX6_digest_0 : decode cX6_digest 0 = .ok (.ldc2_w 248, 3) := by decide +kernel
theorem dX6_digest_3 : decode cX6_digest 3 = .ok (.lstore_n 1, 1) := by decide +kernel
theorem dX6_digest_4 : decode cX6_digest 4 = .ok (.iconst 0, 1) := by decide +kernel
theorem dX6_digest_5 : decode cX6_digest 5 = .ok (.istore_n 3, 1) := by decide +kernel
theorem dX6_digest_6 : decode cX6_digest 6 = .ok (.iload_n 3, 1) := by decide +kernel
theorem dX6_digest_7 : decode cX6_digest 7 = .ok (.bipush 8, 2) := by decide +kernel
theorem dX6_digest_9 : decode cX6_digest 9 = .ok (.if_icmp .ge 22, 3) := by decide +kernel
theorem dX6_digest_12 : decode cX6_digest 12 = .ok (.ldc2_w 243, 3) := by decide +kernel
theorem dX6_digest_15 : decode cX6_digest 15 = .ok (.lload_n 1, 1) := by decide +kernel
theorem dX6_digest_16 : decode cX6_digest 16 = .ok (.lmul, 1) := by decide +kernel
theorem dX6_digest_17 : decode cX6_digest 17 = .ok (.aload_n 0, 1) := by decide +kernel
theorem dX6_digest_18 : decode cX6_digest 18 = .ok (.iload_n 3, 1) := by decide +kernel
theorem dX6_digest_19 : decode cX6_digest 19 = .ok (.invokevirtual 245, 3) := by decide +kernel
theorem dX6_digest_22 : decode cX6_digest 22 = .ok (.i2l, 1) := by decide +kernel
theorem dX6_digest_23 : decode cX6_digest 23 = .ok (.ladd, 1) := by decide +kernel
theorem dX6_digest_24 : decode cX6_digest 24 = .ok (.lstore_n 1, 1) := by decide +kernel
theorem dX6_digest_25 : decode cX6_digest 25 = .ok (.iinc 3 1, 3) := by decide +kernel
theorem dX6_digest_28 : decode cX6_digest 28 = .ok (.goto (-22), 3) := by decide +kernel
theorem dX6_digest_31 : decode cX6_digest 31 = .ok (.iconst 0, 1) := by decide +kernel
theorem dX6_digest_32 : decode cX6_digest 32 = .ok (.istore_n 3, 1) := by decide +kernel
theorem dX6_digest_33 : decode cX6_digest 33 = .ok (.iload_n 3, 1) := by decide +kernel
theorem dX6_digest_34 : decode cX6_digest 34 = .ok (.aload_n 0, 1) := by decide +kernel
theorem dX6_digest_35 : decode cX6_digest 35 = .ok (.getfield 7, 3) := by decide +kernel
theorem dX6_digest_38 : decode cX6_digest 38 = .ok (.bipush 22, 2) := by decide +kernel
theorem dX6_digest_40 : decode cX6_digest 40 = .ok (.iaload, 1) := by decide +kernel
theorem dX6_digest_41 : decode cX6_digest 41 = .ok (.if_icmp .ge 93, 3) := by decide +kernel
theorem dX6_digest_44 : decode cX6_digest 44 = .ok (.ldc2_w 243, 3) := by decide +kernel
theorem dX6_digest_47 : decode cX6_digest 47 = .ok (.lload_n 1, 1) := by decide +kernel
theorem dX6_digest_48 : decode cX6_digest 48 = .ok (.lmul, 1) := by decide +kernel
theorem dX6_digest_49 : decode cX6_digest 49 = .ok (.aload_n 0, 1) := by decide +kernel
theorem dX6_digest_50 : decode cX6_digest 50 = .ok (.getfield 7, 3) := by decide +kernel
theorem dX6_digest_53 : decode cX6_digest 53 = .ok (.bipush 23, 2) := by decide +kernel
theorem dX6_digest_55 : decode cX6_digest 55 = .ok (.iload_n 3, 1) := by decide +kernel
theorem dX6_digest_56 : decode cX6_digest 56 = .ok (.iadd, 1) := by decide +kernel
theorem dX6_digest_57 : decode cX6_digest 57 = .ok (.iaload, 1) := by decide +kernel
theorem dX6_digest_58 : decode cX6_digest 58 = .ok (.i2l, 1) := by decide +kernel
theorem dX6_digest_59 : decode cX6_digest 59 = .ok (.ladd, 1) := by decide +kernel
theorem dX6_digest_60 : decode cX6_digest 60 = .ok (.lstore_n 1, 1) := by decide +kernel
theorem dX6_digest_61 : decode cX6_digest 61 = .ok (.ldc2_w 243, 3) := by decide +kernel
theorem dX6_digest_64 : decode cX6_digest 64 = .ok (.lload_n 1, 1) := by decide +kernel
theorem dX6_digest_65 : decode cX6_digest 65 = .ok (.lmul, 1) := by decide +kernel
theorem dX6_digest_66 : decode cX6_digest 66 = .ok (.aload_n 0, 1) := by decide +kernel
theorem dX6_digest_67 : decode cX6_digest 67 = .ok (.getfield 7, 3) := by decide +kernel
theorem dX6_digest_70 : decode cX6_digest 70 = .ok (.iconst 0, 1) := by decide +kernel
theorem dX6_digest_71 : decode cX6_digest 71 = .ok (.iload_n 3, 1) := by decide +kernel
theorem dX6_digest_72 : decode cX6_digest 72 = .ok (.iadd, 1) := by decide +kernel
theorem dX6_digest_73 : decode cX6_digest 73 = .ok (.iaload, 1) := by decide +kernel
theorem dX6_digest_74 : decode cX6_digest 74 = .ok (.i2l, 1) := by decide +kernel
theorem dX6_digest_75 : decode cX6_digest 75 = .ok (.ladd, 1) := by decide +kernel
theorem dX6_digest_76 : decode cX6_digest 76 = .ok (.lstore_n 1, 1) := by decide +kernel
theorem dX6_digest_77 : decode cX6_digest 77 = .ok (.ldc2_w 243, 3) := by decide +kernel
theorem dX6_digest_80 : decode cX6_digest 80 = .ok (.lload_n 1, 1) := by decide +kernel
theorem dX6_digest_81 : decode cX6_digest 81 = .ok (.lmul, 1) := by decide +kernel
theorem dX6_digest_82 : decode cX6_digest 82 = .ok (.aload_n 0, 1) := by decide +kernel
theorem dX6_digest_83 : decode cX6_digest 83 = .ok (.getfield 7, 3) := by decide +kernel
theorem dX6_digest_86 : decode cX6_digest 86 = .ok (.bipush 29, 2) := by decide +kernel
theorem dX6_digest_88 : decode cX6_digest 88 = .ok (.iload_n 3, 1) := by decide +kernel
theorem dX6_digest_89 : decode cX6_digest 89 = .ok (.iadd, 1) := by decide +kernel
theorem dX6_digest_90 : decode cX6_digest 90 = .ok (.iaload, 1) := by decide +kernel
theorem dX6_digest_91 : decode cX6_digest 91 = .ok (.i2l, 1) := by decide +kernel
theorem dX6_digest_92 : decode cX6_digest 92 = .ok (.ladd, 1) := by decide +kernel
theorem dX6_digest_93 : decode cX6_digest 93 = .ok (.lstore_n 1, 1) := by decide +kernel
theorem dX6_digest_94 : decode cX6_digest 94 = .ok (.ldc2_w 243, 3) := by decide +kernel
theorem dX6_digest_97 : decode cX6_digest 97 = .ok (.lload_n 1, 1) := by decide +kernel
theorem dX6_digest_98 : decode cX6_digest 98 = .ok (.lmul, 1) := by decide +kernel
theorem dX6_digest_99 : decode cX6_digest 99 = .ok (.aload_n 0, 1) := by decide +kernel
theorem dX6_digest_100 : decode cX6_digest 100 = .ok (.getfield 7, 3) := by decide +kernel
theorem dX6_digest_103 : decode cX6_digest 103 = .ok (.bipush 6, 2) := by decide +kernel
theorem dX6_digest_105 : decode cX6_digest 105 = .ok (.iload_n 3, 1) := by decide +kernel
theorem dX6_digest_106 : decode cX6_digest 106 = .ok (.iadd, 1) := by decide +kernel
theorem dX6_digest_107 : decode cX6_digest 107 = .ok (.iaload, 1) := by decide +kernel
theorem dX6_digest_108 : decode cX6_digest 108 = .ok (.i2l, 1) := by decide +kernel
theorem dX6_digest_109 : decode cX6_digest 109 = .ok (.ladd, 1) := by decide +kernel
theorem dX6_digest_110 : decode cX6_digest 110 = .ok (.lstore_n 1, 1) := by decide +kernel
theorem dX6_digest_111 : decode cX6_digest 111 = .ok (.ldc2_w 243, 3) := by decide +kernel
theorem dX6_digest_114 : decode cX6_digest 114 = .ok (.lload_n 1, 1) := by decide +kernel
theorem dX6_digest_115 : decode cX6_digest 115 = .ok (.lmul, 1) := by decide +kernel
theorem dX6_digest_116 : decode cX6_digest 116 = .ok (.aload_n 0, 1) := by decide +kernel
theorem dX6_digest_117 : decode cX6_digest 117 = .ok (.getfield 7, 3) := by decide +kernel
theorem dX6_digest_120 : decode cX6_digest 120 = .ok (.bipush 12, 2) := by decide +kernel
theorem dX6_digest_122 : decode cX6_digest 122 = .ok (.iload_n 3, 1) := by decide +kernel
theorem dX6_digest_123 : decode cX6_digest 123 = .ok (.iadd, 1) := by decide +kernel
theorem dX6_digest_124 : decode cX6_digest 124 = .ok (.iaload, 1) := by decide +kernel
theorem dX6_digest_125 : decode cX6_digest 125 = .ok (.i2l, 1) := by decide +kernel
theorem dX6_digest_126 : decode cX6_digest 126 = .ok (.ladd, 1) := by decide +kernel
theorem dX6_digest_127 : decode cX6_digest 127 = .ok (.lstore_n 1, 1) := by decide +kernel
theorem dX6_digest_128 : decode cX6_digest 128 = .ok (.iinc 3 1, 3) := by decide +kernel
end
section
theorem dX6_digest_131 : decode cX6_digest 131 = .ok (.goto (-98), 3) := by decide +kernel
theorem dX6_digest_134 : decode cX6_digest 134 = .ok (.iconst 0, 1) := by decide +kernel
theorem dX6_digest_135 : decode cX6_digest 135 = .ok (.istore_n 3, 1) := by decide +kernel
theorem dX6_digest_136 : decode cX6_digest 136 = .ok (.iload_n 3, 1) := by decide +kernel
theorem dX6_digest_137 : decode cX6_digest 137 = .ok (.bipush 7, 2) := by decide +kernel
theorem dX6_digest_139 : decode cX6_digest 139 = .ok (.aload_n 0, 1) := by decide +kernel
theorem dX6_digest_140 : decode cX6_digest 140 = .ok (.getfield 7, 3) := by decide +kernel
theorem dX6_digest_143 : decode cX6_digest 143 = .ok (.bipush 35, 2) := by decide +kernel
theorem dX6_digest_145 : decode cX6_digest 145 = .ok (.iaload, 1) := by decide +kernel
theorem dX6_digest_146 : decode cX6_digest 146 = .ok (.imul, 1) := by decide +kernel
theorem dX6_digest_147 : decode cX6_digest 147 = .ok (.if_icmp .ge 26, 3) := by decide +kernel
theorem dX6_digest_150 : decode cX6_digest 150 = .ok (.ldc2_w 243, 3) := by decide +kernel
theorem dX6_digest_153 : decode cX6_digest 153 = .ok (.lload_n 1, 1) := by decide +kernel
theorem dX6_digest_154 : decode cX6_digest 154 = .ok (.lmul, 1) := by decide +kernel
theorem dX6_digest_155 : decode cX6_digest 155 = .ok (.aload_n 0, 1) := by decide +kernel
theorem dX6_digest_156 : decode cX6_digest 156 = .ok (.getfield 7, 3) := by decide +kernel
theorem dX6_digest_159 : decode cX6_digest 159 = .ok (.bipush 36, 2) := by decide +kernel
theorem dX6_digest_161 : decode cX6_digest 161 = .ok (.iload_n 3, 1) := by decide +kernel
theorem dX6_digest_162 : decode cX6_digest 162 = .ok (.iadd, 1) := by decide +kernel
theorem dX6_digest_163 : decode cX6_digest 163 = .ok (.iaload, 1) := by decide +kernel
theorem dX6_digest_164 : decode cX6_digest 164 = .ok (.i2l, 1) := by decide +kernel
theorem dX6_digest_165 : decode cX6_digest 165 = .ok (.ladd, 1) := by decide +kernel
theorem dX6_digest_166 : decode cX6_digest 166 = .ok (.lstore_n 1, 1) := by decide +kernel
theorem dX6_digest_167 : decode cX6_digest 167 = .ok (.iinc 3 1, 3) := by decide +kernel
theorem dX6_digest_170 : decode cX6_digest 170 = .ok (.goto (-34), 3) := by decide +kernel
theorem dX6_digest_173 : decode cX6_digest 173 = .ok (.ldc2_w 243, 3) := by decide +kernel
theorem dX6_digest_176 : decode cX6_digest 176 = .ok (.ldc2_w 243, 3) := by decide +kernel
theorem dX6_digest_179 : decode cX6_digest 179 = .ok (.lload_n 1, 1) := by decide +kernel
theorem dX6_digest_180 : decode cX6_digest 180 = .ok (.lmul, 1) := by decide +kernel
theorem dX6_digest_181 : decode cX6_digest 181 = .ok (.aload_n 0, 1) := by decide +kernel
theorem dX6_digest_182 : decode cX6_digest 182 = .ok (.getfield 230, 3) := by decide +kernel
theorem dX6_digest_185 : decode cX6_digest 185 = .ok (.ladd, 1) := by decide +kernel
theorem dX6_digest_186 : decode cX6_digest 186 = .ok (.lmul, 1) := by decide +kernel
theorem dX6_digest_187 : decode cX6_digest 187 = .ok (.aload_n 0, 1) := by decide +kernel
theorem dX6_digest_188 : decode cX6_digest 188 = .ok (.getfield 29, 3) := by decide +kernel
theorem dX6_digest_191 : decode cX6_digest 191 = .ok (.ladd, 1) := by decide +kernel
theorem dX6_digest_192 : decode cX6_digest 192 = .ok (.lreturn, 1) := by decide +kernel
theorem dJ6_bitCount_0f7a4_0 : decode cJ6_bitCount_0f7a4 0 = .ok (.iload_n 0, 1) := by decide +kernel
theorem dJ6_bitCount_0f7a4_1 : decode cJ6_bitCount_0f7a4 1 = .ok (.iload_n 0, 1) := by decide +kernel
theorem dJ6_bitCount_0f7a4_2 : decode cJ6_bitCount_0f7a4 2 = .ok (.iconst 1, 1) := by decide +kernel
theorem dJ6_bitCount_0f7a4_3 : decode cJ6_bitCount_0f7a4 3 = .ok (.iushr, 1) := by decide +kernel
theorem dJ6_bitCount_0f7a4_4 : decode cJ6_bitCount_0f7a4 4 = .ok (.ldc_w 265, 3) := by decide +kernel
theorem dJ6_bitCount_0f7a4_7 : decode cJ6_bitCount_0f7a4 7 = .ok (.iand, 1) := by decide +kernel
theorem dJ6_bitCount_0f7a4_8 : decode cJ6_bitCount_0f7a4 8 = .ok (.isub, 1) := by decide +kernel
theorem dJ6_bitCount_0f7a4_9 : decode cJ6_bitCount_0f7a4 9 = .ok (.istore_n 0, 1) := by decide +kernel
theorem dJ6_bitCount_0f7a4_10 : decode cJ6_bitCount_0f7a4 10 = .ok (.iload_n 0, 1) := by decide +kernel
theorem dJ6_bitCount_0f7a4_11 : decode cJ6_bitCount_0f7a4 11 = .ok (.ldc_w 266, 3) := by decide +kernel
theorem dJ6_bitCount_0f7a4_14 : decode cJ6_bitCount_0f7a4 14 = .ok (.iand, 1) := by decide +kernel
theorem dJ6_bitCount_0f7a4_15 : decode cJ6_bitCount_0f7a4 15 = .ok (.iload_n 0, 1) := by decide +kernel
theorem dJ6_bitCount_0f7a4_16 : decode cJ6_bitCount_0f7a4 16 = .ok (.iconst 2, 1) := by decide +kernel
theorem dJ6_bitCount_0f7a4_17 : decode cJ6_bitCount_0f7a4 17 = .ok (.iushr, 1) := by decide +kernel
theorem dJ6_bitCount_0f7a4_18 : decode cJ6_bitCount_0f7a4 18 = .ok (.ldc_w 266, 3) := by decide +kernel
theorem dJ6_bitCount_0f7a4_21 : decode cJ6_bitCount_0f7a4 21 = .ok (.iand, 1) := by decide +kernel
theorem dJ6_bitCount_0f7a4_22 : decode cJ6_bitCount_0f7a4 22 = .ok (.iadd, 1) := by decide +kernel
theorem dJ6_bitCount_0f7a4_23 : decode cJ6_bitCount_0f7a4 23 = .ok (.istore_n 0, 1) := by decide +kernel
theorem dJ6_bitCount_0f7a4_24 : decode cJ6_bitCount_0f7a4 24 = .ok (.iload_n 0, 1) := by decide +kernel
theorem dJ6_bitCount_0f7a4_25 : decode cJ6_bitCount_0f7a4 25 = .ok (.iload_n 0, 1) := by decide +kernel
theorem dJ6_bitCount_0f7a4_26 : decode cJ6_bitCount_0f7a4 26 = .ok (.iconst 4, 1) := by decide +kernel
theorem dJ6_bitCount_0f7a4_27 : decode cJ6_bitCount_0f7a4 27 = .ok (.iushr, 1) := by decide +kernel
theorem dJ6_bitCount_0f7a4_28 : decode cJ6_bitCount_0f7a4 28 = .ok (.iadd, 1) := by decide +kernel
theorem dJ6_bitCount_0f7a4_29 : decode cJ6_bitCount_0f7a4 29 = .ok (.ldc_w 267, 3) := by decide +kernel
theorem dJ6_bitCount_0f7a4_32 : decode cJ6_bitCount_0f7a4 32 = .ok (.iand, 1) := by decide +kernel
theorem dJ6_bitCount_0f7a4_33 : decode cJ6_bitCount_0f7a4 33 = .ok (.istore_n 0, 1) := by decide +kernel
theorem dJ6_bitCount_0f7a4_34 : decode cJ6_bitCount_0f7a4 34 = .ok (.iload_n 0, 1) := by decide +kernel
theorem dJ6_bitCount_0f7a4_35 : decode cJ6_bitCount_0f7a4 35 = .ok (.iload_n 0, 1) := by decide +kernel
theorem dJ6_bitCount_0f7a4_36 : decode cJ6_bitCount_0f7a4 36 = .ok (.bipush 8, 2) := by decide +kernel
theorem dJ6_bitCount_0f7a4_38 : decode cJ6_bitCount_0f7a4 38 = .ok (.iushr, 1) := by decide +kernel
theorem dJ6_bitCount_0f7a4_39 : decode cJ6_bitCount_0f7a4 39 = .ok (.iadd, 1) := by decide +kernel
theorem dJ6_bitCount_0f7a4_40 : decode cJ6_bitCount_0f7a4 40 = .ok (.istore_n 0, 1) := by decide +kernel
theorem dJ6_bitCount_0f7a4_41 : decode cJ6_bitCount_0f7a4 41 = .ok (.iload_n 0, 1) := by decide +kernel
theorem dJ6_bitCount_0f7a4_42 : decode cJ6_bitCount_0f7a4 42 = .ok (.iload_n 0, 1) := by decide +kernel
theorem dJ6_bitCount_0f7a4_43 : decode cJ6_bitCount_0f7a4 43 = .ok (.bipush 16, 2) := by decide +kernel
theorem dJ6_bitCount_0f7a4_45 : decode cJ6_bitCount_0f7a4 45 = .ok (.iushr, 1) := by decide +kernel
theorem dJ6_bitCount_0f7a4_46 : decode cJ6_bitCount_0f7a4 46 = .ok (.iadd, 1) := by decide +kernel
theorem dJ6_bitCount_0f7a4_47 : decode cJ6_bitCount_0f7a4 47 = .ok (.istore_n 0, 1) := by decide +kernel
theorem dJ6_bitCount_0f7a4_48 : decode cJ6_bitCount_0f7a4 48 = .ok (.iload_n 0, 1) := by decide +kernel
theorem dJ6_bitCount_0f7a4_49 : decode cJ6_bitCount_0f7a4 49 = .ok (.bipush 63, 2) := by decide +kernel
theorem dJ6_bitCount_0f7a4_51 : decode cJ6_bitCount_0f7a4 51 = .ok (.iand, 1) := by decide +kernel
theorem dJ6_bitCount_0f7a4_52 : decode cJ6_bitCount_0f7a4 52 = .ok (.ireturn, 1) := by decide +kernel
theorem dJ9_max_7cf53_0 : decode cJ9_max_7cf53 0 = .ok (.iload_n 0, 1) := by decide +kernel
theorem dJ9_max_7cf53_1 : decode cJ9_max_7cf53 1 = .ok (.iload_n 1, 1) := by decide +kernel
theorem dJ9_max_7cf53_2 : decode cJ9_max_7cf53 2 = .ok (.if_icmp .lt 7, 3) := by decide +kernel
theorem dJ9_max_7cf53_5 : decode cJ9_max_7cf53 5 = .ok (.iload_n 0, 1) := by decide +kernel
theorem dJ9_max_7cf53_6 : decode cJ9_max_7cf53 6 = .ok (.goto 4, 3) := by decide +kernel
theorem dJ9_max_7cf53_9 : decode cJ9_max_7cf53 9 = .ok (.iload_n 1, 1) := by decide +kernel
theorem dJ9_max_7cf53_10 : decode cJ9_max_7cf53 10 = .ok (.ireturn, 1) := by decide +kernel
theorem dJ9_min_7cf53_0 : decode cJ9_min_7cf53 0 = .ok (.iload_n 0, 1) := by decide +kernel
theorem dJ9_min_7cf53_1 : decode cJ9_min_7cf53 1 = .ok (.iload_n 1, 1) := by decide +kernel
theorem dJ9_min_7cf53_2 : decode cJ9_min_7cf53 2 = .ok (.if_icmp .gt 7, 3) := by decide +kernel
theorem dJ9_min_7cf53_5 : decode cJ9_min_7cf53 5 = .ok (.iload_n 0, 1) := by decide +kernel
theorem dJ9_min_7cf53_6 : decode cJ9_min_7cf53 6 = .ok (.goto 4, 3) := by decide +kernel
theorem dJ9_min_7cf53_9 : decode cJ9_min_7cf53 9 = .ok (.iload_n 1, 1) := by decide +kernel
theorem dJ9_min_7cf53_10 : decode cJ9_min_7cf53 10 = .ok (.ireturn, 1) := by decide +kernel
theorem dJ0_length_8abf5_0 : decode cJ0_length_8abf5 0 = .ok (.aload_n 0, 1) := by decide +kernel
theorem dJ0_length_8abf5_1 : decode cJ0_length_8abf5 1 = .ok (.getfield 9, 3) := by decide +kernel
theorem dJ0_length_8abf5_4 : decode cJ0_length_8abf5 4 = .ok (.arraylength, 1) := by decide +kernel
theorem dJ0_length_8abf5_5 : decode cJ0_length_8abf5 5 = .ok (.aload_n 0, 1) := by decide +kernel
theorem dJ0_length_8abf5_6 : decode cJ0_length_8abf5 6 = .ok (.invokevirtual 335, 3) := by decide +kernel
theorem dJ0_length_8abf5_9 : decode cJ0_length_8abf5 9 = .ok (.ishr, 1) := by decide +kernel
theorem dJ0_length_8abf5_10 : decode cJ0_length_8abf5 10 = .ok (.ireturn, 1) := by decide +kernel
theorem dJ0_charAt_5068e_0 : decode cJ0_charAt_5068e 0 = .ok (.aload_n 0, 1) := by decide +kernel
theorem dJ0_charAt_5068e_1 : decode cJ0_charAt_5068e 1 = .ok (.invokevirtual 492, 3) := by decide +kernel
theorem dJ0_charAt_5068e_4 : decode cJ0_charAt_5068e 4 = .ok (.ifCond .eq 12, 3) := by decide +kernel
theorem dJ0_charAt_5068e_7 : decode cJ0_charAt_5068e 7 = .ok (.aload_n 0, 1) := by decide +kernel
theorem dJ0_charAt_5068e_8 : decode cJ0_charAt_5068e 8 = .ok (.getfield 9, 3) := by decide +kernel
theorem dJ0_charAt_5068e_11 : decode cJ0_charAt_5068e 11 = .ok (.iload_n 1, 1) := by decide +kernel
theorem dJ0_charAt_5068e_12 : decode cJ0_charAt_5068e 12 = .ok (.invokestatic 495, 3) := by decide +kernel
theorem dJ0_charAt_5068e_15 : decode cJ0_charAt_5068e 15 = .ok (.ireturn, 1) := by decide +kernel
theorem dJ0_charAt_5068e_16 : decode cJ0_charAt_5068e 16 = .ok (.aload_n 0, 1) := by decide +kernel
theorem dJ0_charAt_5068e_17 : decode cJ0_charAt_5068e 17 = .ok (.getfield 9, 3) := by decide +kernel
theorem dJ0_charAt_5068e_20 : decode cJ0_charAt_5068e 20 = .ok (.iload_n 1, 1) := by decide +kernel
theorem dJ0_charAt_5068e_21 : decode cJ0_charAt_5068e 21 = .ok (.invokestatic 498, 3) := by decide +kernel
theorem dJ0_charAt_5068e_24 : decode cJ0_charAt_5068e 24 = .ok (.ireturn, 1) := by decide +kernel
theorem dJ0_coder_7d493_0 : decode cJ0_coder_7d493 0 = .ok (.getstatic 38, 3) := by decide +kernel
theorem dJ0_coder_7d493_3 : decode cJ0_coder_7d493 3 = .ok (.ifCond .eq 10, 3) := by decide +kernel
theorem dJ0_coder_7d493_6 : decode cJ0_coder_7d493 6 = .ok (.aload_n 0, 1) := by decide +kernel
theorem dJ0_coder_7d493_7 : decode cJ0_coder_7d493 7 = .ok (.getfield 15, 3) := by decide +kernel
theorem dJ0_coder_7d493_10 : decode cJ0_coder_7d493 10 = .ok (.goto 4, 3) := by decide +kernel
theorem dJ0_coder_7d493_13 : decode cJ0_coder_7d493 13 = .ok (.iconst 1, 1) := by decide +kernel
theorem dJ0_coder_7d493_14 : decode cJ0_coder_7d493 14 = .ok (.ireturn, 1) := by decide +kernel
theorem dJ0_isLatin1_aae02_0 : decode cJ0_isLatin1_aae02 0 = .ok (.getstatic 38, 3) := by decide +kernel
theorem dJ0_isLatin1_aae02_3 : decode cJ0_isLatin1_aae02 3 = .ok (.ifCond .eq 14, 3) := by decide +kernel
theorem dJ0_isLatin1_aae02_6 : decode cJ0_isLatin1_aae02 6 = .ok (.aload_n 0, 1) := by decide +kernel
theorem dJ0_isLatin1_aae02_7 : decode cJ0_isLatin1_aae02 7 = .ok (.getfield 15, 3) := by decide +kernel
theorem dJ0_isLatin1_aae02_10 : decode cJ0_isLatin1_aae02 10 = .ok (.ifCond .ne 7, 3) := by decide +kernel
theorem dJ0_isLatin1_aae02_13 : decode cJ0_isLatin1_aae02 13 = .ok (.iconst 1, 1) := by decide +kernel
theorem dJ0_isLatin1_aae02_14 : decode cJ0_isLatin1_aae02 14 = .ok (.goto 4, 3) := by decide +kernel
theorem dJ0_isLatin1_aae02_17 : decode cJ0_isLatin1_aae02 17 = .ok (.iconst 0, 1) := by decide +kernel
theorem dJ0_isLatin1_aae02_18 : decode cJ0_isLatin1_aae02 18 = .ok (.ireturn, 1) := by decide +kernel
theorem dJ0_checkIndex_df160_0 : decode cJ0_checkIndex_df160 0 = .ok (.iload_n 0, 1) := by decide +kernel
theorem dJ0_checkIndex_df160_1 : decode cJ0_checkIndex_df160 1 = .ok (.iload_n 1, 1) := by decide +kernel
theorem dJ0_checkIndex_df160_2 : decode cJ0_checkIndex_df160 2 = .ok (.getstatic 1053, 3) := by decide +kernel
theorem dJ0_checkIndex_df160_5 : decode cJ0_checkIndex_df160 5 = .ok (.invokestatic 1059, 3) := by decide +kernel
theorem dJ0_checkIndex_df160_8 : decode cJ0_checkIndex_df160 8 = .ok (.pop, 1) := by decide +kernel
theorem dJ0_checkIndex_df160_9 : decode cJ0_checkIndex_df160 9 = .ok (.return_, 1) := by decide +kernel
theorem dJ1_charAt_3b067_0 : decode cJ1_charAt_3b067 0 = .ok (.iload_n 1, 1) := by decide +kernel
theorem dJ1_charAt_3b067_1 : decode cJ1_charAt_3b067 1 = .ok (.aload_n 0, 1) := by decide +kernel
theorem dJ1_charAt_3b067_2 : decode cJ1_charAt_3b067 2 = .ok (.arraylength, 1) := by decide +kernel
theorem dJ1_charAt_3b067_3 : decode cJ1_charAt_3b067 3 = .ok (.invokestatic 9, 3) := by decide +kernel
theorem dJ1_charAt_3b067_6 : decode cJ1_charAt_3b067 6 = .ok (.aload_n 0, 1) := by decide +kernel
theorem dJ1_charAt_3b067_7 : decode cJ1_charAt_3b067 7 = .ok (.iload_n 1, 1) := by decide +kernel
theorem dJ1_charAt_3b067_8 : decode cJ1_charAt_3b067 8 = .ok (.baload, 1) := by decide +kernel
theorem dJ1_charAt_3b067_9 : decode cJ1_charAt_3b067 9 = .ok (.sipush 255, 3) := by decide +kernel
theorem dJ1_charAt_3b067_12 : decode cJ1_charAt_3b067 12 = .ok (.iand, 1) := by decide +kernel
theorem dJ1_charAt_3b067_13 : decode cJ1_charAt_3b067 13 = .ok (.i2c, 1) := by decide +kernel
theorem dJ1_charAt_3b067_14 : decode cJ1_charAt_3b067 14 = .ok (.ireturn, 1) := by decide +kernel
theorem dJ2_getChar_3b067_0 : decode cJ2_getChar_3b067 0 = .ok (.getstatic 44, 3) := by decide +kernel
theorem dJ2_getChar_3b067_3 : decode cJ2_getChar_3b067 3 = .ok (.ifCond .ne 25, 3) := by decide +kernel
theorem dJ2_getChar_3b067_6 : decode cJ2_getChar_3b067 6 = .ok (.iload_n 1, 1) := by decide +kernel
theorem dJ2_getChar_3b067_7 : decode cJ2_getChar_3b067 7 = .ok (.ifCond .lt 11, 3) := by decide +kernel
theorem dJ2_getChar_3b067_10 : decode cJ2_getChar_3b067 10 = .ok (.iload_n 1, 1) := by decide +kernel
theorem dJ2_getChar_3b067_11 : decode cJ2_getChar_3b067 11 = .ok (.aload_n 0, 1) := by decide +kernel
theorem dJ2_getChar_3b067_12 : decode cJ2_getChar_3b067 12 = .ok (.invokestatic 48, 3) := by decide +kernel
theorem dJ2_getChar_3b067_15 : decode cJ2_getChar_3b067 15 = .ok (.if_icmp .lt 13, 3) := by decide +kernel
theorem dJ2_getChar_3b067_18 : decode cJ2_getChar_3b067 18 = .ok (.new 52, 3) := by decide +kernel
theorem dJ2_getChar_3b067_21 : decode cJ2_getChar_3b067 21 = .ok (.dup, 1) := by decide +kernel
theorem dJ2_getChar_3b067_22 : decode cJ2_getChar_3b067 22 = .ok (.ldc 54, 2) := by decide +kernel
theorem dJ2_getChar_3b067_24 : decode cJ2_getChar_3b067 24 = .ok (.invokespecial 56, 3) := by decide +kernel
theorem dJ2_getChar_3b067_27 : decode cJ2_getChar_3b067 27 = .ok (.athrow, 1) := by decide +kernel
theorem dJ2_getChar_3b067_28 : decode cJ2_getChar_3b067 28 = .ok (.iload_n 1, 1) := by decide +kernel
theorem dJ2_getChar_3b067_29 : decode cJ2_getChar_3b067 29 = .ok (.iconst 1, 1) := by decide +kernel
theorem dJ2_getChar_3b067_30 : decode cJ2_getChar_3b067 30 = .ok (.ishl, 1) := by decide +kernel
theorem dJ2_getChar_3b067_31 : decode cJ2_getChar_3b067 31 = .ok (.istore_n 1, 1) := by decide +kernel
theorem dJ2_getChar_3b067_32 : decode cJ2_getChar_3b067 32 = .ok (.aload_n 0, 1) := by decide +kernel
theorem dJ2_getChar_3b067_33 : decode cJ2_getChar_3b067 33 = .ok (.iload_n 1, 1) := by decide +kernel
theorem dJ2_getChar_3b067_34 : decode cJ2_getChar_3b067 34 = .ok (.iinc 1 1, 3) := by decide +kernel
theorem dJ2_getChar_3b067_37 : decode cJ2_getChar_3b067 37 = .ok (.baload, 1) := by decide +kernel
theorem dJ2_getChar_3b067_38 : decode cJ2_getChar_3b067 38 = .ok (.sipush 255, 3) := by decide +kernel
theorem dJ2_getChar_3b067_41 : decode cJ2_getChar_3b067 41 = .ok (.iand, 1) := by decide +kernel
theorem dJ2_getChar_3b067_42 : decode cJ2_getChar_3b067 42 = .ok (.getstatic 59, 3) := by decide +kernel
theorem dJ2_getChar_3b067_45 : decode cJ2_getChar_3b067 45 = .ok (.ishl, 1) := by decide +kernel
theorem dJ2_getChar_3b067_46 : decode cJ2_getChar_3b067 46 = .ok (.aload_n 0, 1) := by decide +kernel
theorem dJ2_getChar_3b067_47 : decode cJ2_getChar_3b067 47 = .ok (.iload_n 1, 1) := by decide +kernel
theorem dJ2_getChar_3b067_48 : decode cJ2_getChar_3b067 48 = .ok (.baload, 1) := by decide +kernel
theorem dJ2_getChar_3b067_49 : decode cJ2_getChar_3b067 49 = .ok (.sipush 255, 3) := by decide +kernel
theorem dJ2_getChar_3b067_52 : decode cJ2_getChar_3b067 52 = .ok (.iand, 1) := by decide +kernel
theorem dJ2_getChar_3b067_53 : decode cJ2_getChar_3b067 53 = .ok (.getstatic 63, 3) := by decide +kernel
theorem dJ2_getChar_3b067_56 : decode cJ2_getChar_3b067 56 = .ok (.ishl, 1) := by decide +kernel
theorem dJ2_getChar_3b067_57 : decode cJ2_getChar_3b067 57 = .ok (.ior, 1) := by decide +kernel
theorem dJ2_getChar_3b067_58 : decode cJ2_getChar_3b067 58 = .ok (.i2c, 1) := by decide +kernel
theorem dJ2_getChar_3b067_59 : decode cJ2_getChar_3b067 59 = .ok (.ireturn, 1) := by decide +kernel
theorem dJ2_length_9d52b_0 : decode cJ2_length_9d52b 0 = .ok (.aload_n 0, 1) := by decide +kernel
theorem dJ2_length_9d52b_1 : decode cJ2_length_9d52b 1 = .ok (.arraylength, 1) := by decide +kernel
theorem dJ2_length_9d52b_2 : decode cJ2_length_9d52b 2 = .ok (.iconst 1, 1) := by decide +kernel
theorem dJ2_length_9d52b_3 : decode cJ2_length_9d52b 3 = .ok (.ishr, 1) := by decide +kernel
theorem dJ2_length_9d52b_4 : decode cJ2_length_9d52b 4 = .ok (.ireturn, 1) := by decide +kernel
theorem dJ2_charAt_3b067_0 : decode cJ2_charAt_3b067 0 = .ok (.iload_n 1, 1) := by decide +kernel
theorem dJ2_charAt_3b067_1 : decode cJ2_charAt_3b067 1 = .ok (.aload_n 0, 1) := by decide +kernel
theorem dJ2_charAt_3b067_2 : decode cJ2_charAt_3b067 2 = .ok (.invokestatic 67, 3) := by decide +kernel
theorem dJ2_charAt_3b067_5 : decode cJ2_charAt_3b067 5 = .ok (.aload_n 0, 1) := by decide +kernel
theorem dJ2_charAt_3b067_6 : decode cJ2_charAt_3b067 6 = .ok (.iload_n 1, 1) := by decide +kernel
theorem dJ2_charAt_3b067_7 : decode cJ2_charAt_3b067 7 = .ok (.invokestatic 71, 3) := by decide +kernel
theorem dJ2_charAt_3b067_10 : decode cJ2_charAt_3b067 10 = .ok (.ireturn, 1) := by decide +kernel
theorem dJ2_checkIndex_2214a_0 : decode cJ2_checkIndex_2214a 0 = .ok (.iload_n 0, 1) := by decide +kernel
theorem dJ2_checkIndex_2214a_1 : decode cJ2_checkIndex_2214a 1 = .ok (.aload_n 1, 1) := by decide +kernel
theorem dJ2_checkIndex_2214a_2 : decode cJ2_checkIndex_2214a 2 = .ok (.invokestatic 48, 3) := by decide +kernel
theorem dJ2_checkIndex_2214a_5 : decode cJ2_checkIndex_2214a 5 = .ok (.invokestatic 414, 3) := by decide +kernel
theorem dJ2_checkIndex_2214a_8 : decode cJ2_checkIndex_2214a 8 = .ok (.return_, 1) := by decide +kernel
theorem dJ3_checkIndex_8e157_0 : decode cJ3_checkIndex_8e157 0 = .ok (.iload_n 0, 1) := by decide +kernel
theorem dJ3_checkIndex_8e157_1 : decode cJ3_checkIndex_8e157 1 = .ok (.ifCond .lt 8, 3) := by decide +kernel
theorem dJ3_checkIndex_8e157_4 : decode cJ3_checkIndex_8e157 4 = .ok (.iload_n 0, 1) := by decide +kernel
theorem dJ3_checkIndex_8e157_5 : decode cJ3_checkIndex_8e157 5 = .ok (.iload_n 1, 1) := by decide +kernel
theorem dJ3_checkIndex_8e157_6 : decode cJ3_checkIndex_8e157 6 = .ok (.if_icmp .lt 10, 3) := by decide +kernel
theorem dJ3_checkIndex_8e157_9 : decode cJ3_checkIndex_8e157 9 = .ok (.aload_n 2, 1) := by decide +kernel
theorem dJ3_checkIndex_8e157_10 : decode cJ3_checkIndex_8e157 10 = .ok (.iload_n 0, 1) := by decide +kernel
theorem dJ3_checkIndex_8e157_11 : decode cJ3_checkIndex_8e157 11 = .ok (.iload_n 1, 1) := by decide +kernel
theorem dJ3_checkIndex_8e157_12 : decode cJ3_checkIndex_8e157 12 = .ok (.invokestatic 95, 3) := by decide +kernel
theorem dJ3_checkIndex_8e157_15 : decode cJ3_checkIndex_8e157 15 = .ok (.athrow, 1) := by decide +kernel
theorem dJ3_checkIndex_8e157_16 : decode cJ3_checkIndex_8e157 16 = .ok (.iload_n 0, 1) := by decide +kernel
theorem dJ3_checkIndex_8e157_17 : decode cJ3_checkIndex_8e157 17 = .ok (.ireturn, 1) := by decide +kernel
theorem dL_law_0 : decode cL_law 0 = .ok (.new 7, 3) := by decide +kernel
theorem dL_law_3 : decode cL_law 3 = .ok (.dup, 1) := by decide +kernel
theorem dL_law_4 : decode cL_law 4 = .ok (.invokespecial 9, 3) := by decide +kernel
theorem dL_law_7 : decode cL_law 7 = .ok (.astore_n 1, 1) := by decide +kernel
theorem dL_law_8 : decode cL_law 8 = .ok (.new 10, 3) := by decide +kernel
theorem dL_law_11 : decode cL_law 11 = .ok (.dup, 1) := by decide +kernel
theorem dL_law_12 : decode cL_law 12 = .ok (.invokespecial 12, 3) := by decide +kernel
theorem dL_law_15 : decode cL_law 15 = .ok (.astore_n 2, 1) := by decide +kernel
theorem dL_law_16 : decode cL_law 16 = .ok (.iconst 0, 1) := by decide +kernel
theorem dL_law_17 : decode cL_law 17 = .ok (.istore_n 3, 1) := by decide +kernel
theorem dL_law_18 : decode cL_law 18 = .ok (.iload_n 3, 1) := by decide +kernel
theorem dL_law_19 : decode cL_law 19 = .ok (.aload_n 0, 1) := by decide +kernel
theorem dL_law_20 : decode cL_law 20 = .ok (.arraylength, 1) := by decide +kernel
theorem dL_law_21 : decode cL_law 21 = .ok (.bipush 8, 2) := by decide +kernel
theorem dL_law_23 : decode cL_law 23 = .ok (.isub, 1) := by decide +kernel
theorem dL_law_24 : decode cL_law 24 = .ok (.if_icmp .gt 1007, 3) := by decide +kernel
theorem dL_law_27 : decode cL_law 27 = .ok (.aload_n 0, 1) := by decide +kernel
theorem dL_law_28 : decode cL_law 28 = .ok (.iload_n 3, 1) := by decide +kernel
theorem dL_law_29 : decode cL_law 29 = .ok (.iaload, 1) := by decide +kernel
theorem dL_law_30 : decode cL_law 30 = .ok (.bipush 63, 2) := by decide +kernel
theorem dL_law_32 : decode cL_law 32 = .ok (.iand, 1) := by decide +kernel
theorem dL_law_33 : decode cL_law 33 = .ok (.tableswitch 992 0 32 #[147, 170, 223, 246, 259, 272, 295, 318, 351, 374, 387, 420, 453, 486, 499, 532, 545, 568, 591, 604, 691, 704, 727, 750, 773, 806, 829, 862, 886, 909, 932, 955, 978], 147) := by decide +kernel
theorem dL_law_180 : decode cL_law 180 = .ok (.aload_n 1, 1) := by decide +kernel
theorem dL_law_181 : decode cL_law 181 = .ok (.aload_n 0, 1) := by decide +kernel
theorem dL_law_182 : decode cL_law 182 = .ok (.iload_n 3, 1) := by decide +kernel
theorem dL_law_183 : decode cL_law 183 = .ok (.iconst 1, 1) := by decide +kernel
theorem dL_law_184 : decode cL_law 184 = .ok (.iadd, 1) := by decide +kernel
theorem dL_law_185 : decode cL_law 185 = .ok (.iaload, 1) := by decide +kernel
theorem dL_law_186 : decode cL_law 186 = .ok (.invokevirtual 13, 3) := by decide +kernel
theorem dL_law_189 : decode cL_law 189 = .ok (.aload_n 2, 1) := by decide +kernel
theorem dL_law_190 : decode cL_law 190 = .ok (.aload_n 0, 1) := by decide +kernel
theorem dL_law_191 : decode cL_law 191 = .ok (.iload_n 3, 1) := by decide +kernel
theorem dL_law_192 : decode cL_law 192 = .ok (.iconst 1, 1) := by decide +kernel
theorem dL_law_193 : decode cL_law 193 = .ok (.iadd, 1) := by decide +kernel
theorem dL_law_194 : decode cL_law 194 = .ok (.iaload, 1) := by decide +kernel
theorem dL_law_195 : decode cL_law 195 = .ok (.invokevirtual 17, 3) := by decide +kernel
theorem dL_law_198 : decode cL_law 198 = .ok (.if_icmp .eq 827, 3) := by decide +kernel
theorem dL_law_201 : decode cL_law 201 = .ok (.iconst 0, 1) := by decide +kernel
theorem dL_law_202 : decode cL_law 202 = .ok (.ireturn, 1) := by decide +kernel
theorem dL_law_203 : decode cL_law 203 = .ok (.aload_n 1, 1) := by decide +kernel
theorem dL_law_204 : decode cL_law 204 = .ok (.aload_n 0, 1) := by decide +kernel
theorem dL_law_205 : decode cL_law 205 = .ok (.iload_n 3, 1) := by decide +kernel
theorem dL_law_206 : decode cL_law 206 = .ok (.iconst 1, 1) := by decide +kernel
theorem dL_law_207 : decode cL_law 207 = .ok (.iadd, 1) := by decide +kernel
theorem dL_law_208 : decode cL_law 208 = .ok (.iaload, 1) := by decide +kernel
theorem dL_law_209 : decode cL_law 209 = .ok (.aload_n 0, 1) := by decide +kernel
theorem dL_law_210 : decode cL_law 210 = .ok (.iload_n 3, 1) := by decide +kernel
theorem dL_law_211 : decode cL_law 211 = .ok (.iconst 2, 1) := by decide +kernel
theorem dL_law_212 : decode cL_law 212 = .ok (.iadd, 1) := by decide +kernel
theorem dL_law_213 : decode cL_law 213 = .ok (.iaload, 1) := by decide +kernel
theorem dL_law_214 : decode cL_law 214 = .ok (.aload_n 0, 1) := by decide +kernel
theorem dL_law_215 : decode cL_law 215 = .ok (.iload_n 3, 1) := by decide +kernel
theorem dL_law_216 : decode cL_law 216 = .ok (.iconst 3, 1) := by decide +kernel
theorem dL_law_217 : decode cL_law 217 = .ok (.iadd, 1) := by decide +kernel
theorem dL_law_218 : decode cL_law 218 = .ok (.iaload, 1) := by decide +kernel
theorem dL_law_219 : decode cL_law 219 = .ok (.aload_n 0, 1) := by decide +kernel
theorem dL_law_220 : decode cL_law 220 = .ok (.iload_n 3, 1) := by decide +kernel
theorem dL_law_221 : decode cL_law 221 = .ok (.iconst 4, 1) := by decide +kernel
theorem dL_law_222 : decode cL_law 222 = .ok (.iadd, 1) := by decide +kernel
theorem dL_law_223 : decode cL_law 223 = .ok (.iaload, 1) := by decide +kernel
theorem dL_law_224 : decode cL_law 224 = .ok (.invokevirtual 18, 3) := by decide +kernel
theorem dL_law_227 : decode cL_law 227 = .ok (.aload_n 2, 1) := by decide +kernel
theorem dL_law_228 : decode cL_law 228 = .ok (.aload_n 0, 1) := by decide +kernel
theorem dL_law_229 : decode cL_law 229 = .ok (.iload_n 3, 1) := by decide +kernel
theorem dL_law_230 : decode cL_law 230 = .ok (.iconst 1, 1) := by decide +kernel
theorem dL_law_231 : decode cL_law 231 = .ok (.iadd, 1) := by decide +kernel
theorem dL_law_232 : decode cL_law 232 = .ok (.iaload, 1) := by decide +kernel
theorem dL_law_233 : decode cL_law 233 = .ok (.aload_n 0, 1) := by decide +kernel
theorem dL_law_234 : decode cL_law 234 = .ok (.iload_n 3, 1) := by decide +kernel
theorem dL_law_235 : decode cL_law 235 = .ok (.iconst 2, 1) := by decide +kernel
theorem dL_law_236 : decode cL_law 236 = .ok (.iadd, 1) := by decide +kernel
theorem dL_law_237 : decode cL_law 237 = .ok (.iaload, 1) := by decide +kernel
theorem dL_law_238 : decode cL_law 238 = .ok (.aload_n 0, 1) := by decide +kernel
theorem dL_law_239 : decode cL_law 239 = .ok (.iload_n 3, 1) := by decide +kernel
theorem dL_law_240 : decode cL_law 240 = .ok (.iconst 3, 1) := by decide +kernel
theorem dL_law_241 : decode cL_law 241 = .ok (.iadd, 1) := by decide +kernel
theorem dL_law_242 : decode cL_law 242 = .ok (.iaload, 1) := by decide +kernel
theorem dL_law_243 : decode cL_law 243 = .ok (.aload_n 0, 1) := by decide +kernel
theorem dL_law_244 : decode cL_law 244 = .ok (.iload_n 3, 1) := by decide +kernel
theorem dL_law_245 : decode cL_law 245 = .ok (.iconst 4, 1) := by decide +kernel
theorem dL_law_246 : decode cL_law 246 = .ok (.iadd, 1) := by decide +kernel
theorem dL_law_247 : decode cL_law 247 = .ok (.iaload, 1) := by decide +kernel
theorem dL_law_248 : decode cL_law 248 = .ok (.invokevirtual 22, 3) := by decide +kernel
theorem dL_law_251 : decode cL_law 251 = .ok (.if_icmp .eq 774, 3) := by decide +kernel
theorem dL_law_254 : decode cL_law 254 = .ok (.iconst 0, 1) := by decide +kernel
theorem dL_law_255 : decode cL_law 255 = .ok (.ireturn, 1) := by decide +kernel
theorem dL_law_256 : decode cL_law 256 = .ok (.aload_n 1, 1) := by decide +kernel
theorem dL_law_257 : decode cL_law 257 = .ok (.aload_n 0, 1) := by decide +kernel
theorem dL_law_258 : decode cL_law 258 = .ok (.iload_n 3, 1) := by decide +kernel
theorem dL_law_259 : decode cL_law 259 = .ok (.iconst 1, 1) := by decide +kernel
theorem dL_law_260 : decode cL_law 260 = .ok (.iadd, 1) := by decide +kernel
theorem dL_law_261 : decode cL_law 261 = .ok (.iaload, 1) := by decide +kernel
theorem dL_law_262 : decode cL_law 262 = .ok (.invokevirtual 23, 3) := by decide +kernel
theorem dL_law_265 : decode cL_law 265 = .ok (.aload_n 2, 1) := by decide +kernel
theorem dL_law_266 : decode cL_law 266 = .ok (.aload_n 0, 1) := by decide +kernel
theorem dL_law_267 : decode cL_law 267 = .ok (.iload_n 3, 1) := by decide +kernel
theorem dL_law_268 : decode cL_law 268 = .ok (.iconst 1, 1) := by decide +kernel
theorem dL_law_269 : decode cL_law 269 = .ok (.iadd, 1) := by decide +kernel
theorem dL_law_270 : decode cL_law 270 = .ok (.iaload, 1) := by decide +kernel
theorem dL_law_271 : decode cL_law 271 = .ok (.invokevirtual 26, 3) := by decide +kernel
theorem dL_law_274 : decode cL_law 274 = .ok (.if_icmp .eq 751, 3) := by decide +kernel
theorem dL_law_277 : decode cL_law 277 = .ok (.iconst 0, 1) := by decide +kernel
theorem dL_law_278 : decode cL_law 278 = .ok (.ireturn, 1) := by decide +kernel
theorem dL_law_279 : decode cL_law 279 = .ok (.aload_n 1, 1) := by decide +kernel
theorem dL_law_280 : decode cL_law 280 = .ok (.invokevirtual 27, 3) := by decide +kernel
theorem dL_law_283 : decode cL_law 283 = .ok (.aload_n 2, 1) := by decide +kernel
theorem dL_law_284 : decode cL_law 284 = .ok (.invokevirtual 31, 3) := by decide +kernel
theorem dL_law_287 : decode cL_law 287 = .ok (.if_icmp .eq 738, 3) := by decide +kernel
theorem dL_law_290 : decode cL_law 290 = .ok (.iconst 0, 1) := by decide +kernel
theorem dL_law_291 : decode cL_law 291 = .ok (.ireturn, 1) := by decide +kernel
theorem dL_law_292 : decode cL_law 292 = .ok (.aload_n 1, 1) := by decide +kernel
theorem dL_law_293 : decode cL_law 293 = .ok (.invokevirtual 32, 3) := by decide +kernel
theorem dL_law_296 : decode cL_law 296 = .ok (.aload_n 2, 1) := by decide +kernel
theorem dL_law_297 : decode cL_law 297 = .ok (.invokevirtual 35, 3) := by decide +kernel
theorem dL_law_300 : decode cL_law 300 = .ok (.if_icmp .eq 725, 3) := by decide +kernel
theorem dL_law_303 : decode cL_law 303 = .ok (.iconst 0, 1) := by decide +kernel
theorem dL_law_304 : decode cL_law 304 = .ok (.ireturn, 1) := by decide +kernel
theorem dL_law_305 : decode cL_law 305 = .ok (.aload_n 1, 1) := by decide +kernel
theorem dL_law_306 : decode cL_law 306 = .ok (.aload_n 0, 1) := by decide +kernel
theorem dL_law_307 : decode cL_law 307 = .ok (.iload_n 3, 1) := by decide +kernel
theorem dL_law_308 : decode cL_law 308 = .ok (.iconst 1, 1) := by decide +kernel
theorem dL_law_309 : decode cL_law 309 = .ok (.iadd, 1) := by decide +kernel
theorem dL_law_310 : decode cL_law 310 = .ok (.iaload, 1) := by decide +kernel
theorem dL_law_311 : decode cL_law 311 = .ok (.invokevirtual 36, 3) := by decide +kernel
theorem dL_law_314 : decode cL_law 314 = .ok (.aload_n 2, 1) := by decide +kernel
theorem dL_law_315 : decode cL_law 315 = .ok (.aload_n 0, 1) := by decide +kernel
theorem dL_law_316 : decode cL_law 316 = .ok (.iload_n 3, 1) := by decide +kernel
theorem dL_law_317 : decode cL_law 317 = .ok (.iconst 1, 1) := by decide +kernel
theorem dL_law_318 : decode cL_law 318 = .ok (.iadd, 1) := by decide +kernel
theorem dL_law_319 : decode cL_law 319 = .ok (.iaload, 1) := by decide +kernel
theorem dL_law_320 : decode cL_law 320 = .ok (.invokevirtual 39, 3) := by decide +kernel
theorem dL_law_323 : decode cL_law 323 = .ok (.if_icmp .eq 702, 3) := by decide +kernel
theorem dL_law_326 : decode cL_law 326 = .ok (.iconst 0, 1) := by decide +kernel
theorem dL_law_327 : decode cL_law 327 = .ok (.ireturn, 1) := by decide +kernel
theorem dL_law_328 : decode cL_law 328 = .ok (.aload_n 1, 1) := by decide +kernel
theorem dL_law_329 : decode cL_law 329 = .ok (.aload_n 0, 1) := by decide +kernel
theorem dL_law_330 : decode cL_law 330 = .ok (.iload_n 3, 1) := by decide +kernel
theorem dL_law_331 : decode cL_law 331 = .ok (.iconst 1, 1) := by decide +kernel
theorem dL_law_332 : decode cL_law 332 = .ok (.iadd, 1) := by decide +kernel
theorem dL_law_333 : decode cL_law 333 = .ok (.iaload, 1) := by decide +kernel
theorem dL_law_334 : decode cL_law 334 = .ok (.invokevirtual 40, 3) := by decide +kernel
theorem dL_law_337 : decode cL_law 337 = .ok (.aload_n 2, 1) := by decide +kernel
theorem dL_law_338 : decode cL_law 338 = .ok (.aload_n 0, 1) := by decide +kernel
theorem dL_law_339 : decode cL_law 339 = .ok (.iload_n 3, 1) := by decide +kernel
theorem dL_law_340 : decode cL_law 340 = .ok (.iconst 1, 1) := by decide +kernel
theorem dL_law_341 : decode cL_law 341 = .ok (.iadd, 1) := by decide +kernel
theorem dL_law_342 : decode cL_law 342 = .ok (.iaload, 1) := by decide +kernel
theorem dL_law_343 : decode cL_law 343 = .ok (.invokevirtual 43, 3) := by decide +kernel
theorem dL_law_346 : decode cL_law 346 = .ok (.if_icmp .eq 679, 3) := by decide +kernel
theorem dL_law_349 : decode cL_law 349 = .ok (.iconst 0, 1) := by decide +kernel
theorem dL_law_350 : decode cL_law 350 = .ok (.ireturn, 1) := by decide +kernel
theorem dL_law_351 : decode cL_law 351 = .ok (.aload_n 1, 1) := by decide +kernel
theorem dL_law_352 : decode cL_law 352 = .ok (.aload_n 0, 1) := by decide +kernel
theorem dL_law_353 : decode cL_law 353 = .ok (.iload_n 3, 1) := by decide +kernel
theorem dL_law_354 : decode cL_law 354 = .ok (.iconst 1, 1) := by decide +kernel
theorem dL_law_355 : decode cL_law 355 = .ok (.iadd, 1) := by decide +kernel
theorem dL_law_356 : decode cL_law 356 = .ok (.iaload, 1) := by decide +kernel
theorem dL_law_357 : decode cL_law 357 = .ok (.aload_n 0, 1) := by decide +kernel
theorem dL_law_358 : decode cL_law 358 = .ok (.iload_n 3, 1) := by decide +kernel
theorem dL_law_359 : decode cL_law 359 = .ok (.iconst 2, 1) := by decide +kernel
theorem dL_law_360 : decode cL_law 360 = .ok (.iadd, 1) := by decide +kernel
theorem dL_law_361 : decode cL_law 361 = .ok (.iaload, 1) := by decide +kernel
theorem dL_law_362 : decode cL_law 362 = .ok (.invokevirtual 44, 3) := by decide +kernel
theorem dL_law_365 : decode cL_law 365 = .ok (.aload_n 2, 1) := by decide +kernel
theorem dL_law_366 : decode cL_law 366 = .ok (.aload_n 0, 1) := by decide +kernel
theorem dL_law_367 : decode cL_law 367 = .ok (.iload_n 3, 1) := by decide +kernel
theorem dL_law_368 : decode cL_law 368 = .ok (.iconst 1, 1) := by decide +kernel
theorem dL_law_369 : decode cL_law 369 = .ok (.iadd, 1) := by decide +kernel
theorem dL_law_370 : decode cL_law 370 = .ok (.iaload, 1) := by decide +kernel
theorem dL_law_371 : decode cL_law 371 = .ok (.aload_n 0, 1) := by decide +kernel
theorem dL_law_372 : decode cL_law 372 = .ok (.iload_n 3, 1) := by decide +kernel
theorem dL_law_373 : decode cL_law 373 = .ok (.iconst 2, 1) := by decide +kernel
theorem dL_law_374 : decode cL_law 374 = .ok (.iadd, 1) := by decide +kernel
theorem dL_law_375 : decode cL_law 375 = .ok (.iaload, 1) := by decide +kernel
theorem dL_law_376 : decode cL_law 376 = .ok (.invokevirtual 48, 3) := by decide +kernel
theorem dL_law_379 : decode cL_law 379 = .ok (.if_icmp .eq 646, 3) := by decide +kernel
theorem dL_law_382 : decode cL_law 382 = .ok (.iconst 0, 1) := by decide +kernel
theorem dL_law_383 : decode cL_law 383 = .ok (.ireturn, 1) := by decide +kernel
theorem dL_law_384 : decode cL_law 384 = .ok (.aload_n 1, 1) := by decide +kernel
theorem dL_law_385 : decode cL_law 385 = .ok (.aload_n 0, 1) := by decide +kernel
theorem dL_law_386 : decode cL_law 386 = .ok (.iload_n 3, 1) := by decide +kernel
theorem dL_law_387 : decode cL_law 387 = .ok (.iconst 1, 1) := by decide +kernel
theorem dL_law_388 : decode cL_law 388 = .ok (.iadd, 1) := by decide +kernel
theorem dL_law_389 : decode cL_law 389 = .ok (.iaload, 1) := by decide +kernel
theorem dL_law_390 : decode cL_law 390 = .ok (.invokevirtual 49, 3) := by decide +kernel
theorem dL_law_393 : decode cL_law 393 = .ok (.aload_n 2, 1) := by decide +kernel
theorem dL_law_394 : decode cL_law 394 = .ok (.aload_n 0, 1) := by decide +kernel
theorem dL_law_395 : decode cL_law 395 = .ok (.iload_n 3, 1) := by decide +kernel
theorem dL_law_396 : decode cL_law 396 = .ok (.iconst 1, 1) := by decide +kernel
theorem dL_law_397 : decode cL_law 397 = .ok (.iadd, 1) := by decide +kernel
theorem dL_law_398 : decode cL_law 398 = .ok (.iaload, 1) := by decide +kernel
theorem dL_law_399 : decode cL_law 399 = .ok (.invokevirtual 52, 3) := by decide +kernel
theorem dL_law_402 : decode cL_law 402 = .ok (.if_icmp .eq 623, 3) := by decide +kernel
theorem dL_law_405 : decode cL_law 405 = .ok (.iconst 0, 1) := by decide +kernel
theorem dL_law_406 : decode cL_law 406 = .ok (.ireturn, 1) := by decide +kernel
theorem dL_law_407 : decode cL_law 407 = .ok (.aload_n 1, 1) := by decide +kernel
theorem dL_law_408 : decode cL_law 408 = .ok (.invokevirtual 53, 3) := by decide +kernel
theorem dL_law_411 : decode cL_law 411 = .ok (.aload_n 2, 1) := by decide +kernel
theorem dL_law_412 : decode cL_law 412 = .ok (.invokevirtual 56, 3) := by decide +kernel
theorem dL_law_415 : decode cL_law 415 = .ok (.if_icmp .eq 610, 3) := by decide +kernel
theorem dL_law_418 : decode cL_law 418 = .ok (.iconst 0, 1) := by decide +kernel
theorem dL_law_419 : decode cL_law 419 = .ok (.ireturn, 1) := by decide +kernel
theorem dL_law_420 : decode cL_law 420 = .ok (.aload_n 1, 1) := by decide +kernel
theorem dL_law_421 : decode cL_law 421 = .ok (.aload_n 0, 1) := by decide +kernel
theorem dL_law_422 : decode cL_law 422 = .ok (.iload_n 3, 1) := by decide +kernel
theorem dL_law_423 : decode cL_law 423 = .ok (.iconst 1, 1) := by decide +kernel
theorem dL_law_424 : decode cL_law 424 = .ok (.iadd, 1) := by decide +kernel
theorem dL_law_425 : decode cL_law 425 = .ok (.iaload, 1) := by decide +kernel
theorem dL_law_426 : decode cL_law 426 = .ok (.aload_n 0, 1) := by decide +kernel
theorem dL_law_427 : decode cL_law 427 = .ok (.iload_n 3, 1) := by decide +kernel
theorem dL_law_428 : decode cL_law 428 = .ok (.iconst 2, 1) := by decide +kernel
theorem dL_law_429 : decode cL_law 429 = .ok (.iadd, 1) := by decide +kernel
theorem dL_law_430 : decode cL_law 430 = .ok (.iaload, 1) := by decide +kernel
theorem dL_law_431 : decode cL_law 431 = .ok (.invokevirtual 57, 3) := by decide +kernel
theorem dL_law_434 : decode cL_law 434 = .ok (.aload_n 2, 1) := by decide +kernel
theorem dL_law_435 : decode cL_law 435 = .ok (.aload_n 0, 1) := by decide +kernel
theorem dL_law_436 : decode cL_law 436 = .ok (.iload_n 3, 1) := by decide +kernel
theorem dL_law_437 : decode cL_law 437 = .ok (.iconst 1, 1) := by decide +kernel
theorem dL_law_438 : decode cL_law 438 = .ok (.iadd, 1) := by decide +kernel
theorem dL_law_439 : decode cL_law 439 = .ok (.iaload, 1) := by decide +kernel
theorem dL_law_440 : decode cL_law 440 = .ok (.aload_n 0, 1) := by decide +kernel
theorem dL_law_441 : decode cL_law 441 = .ok (.iload_n 3, 1) := by decide +kernel
theorem dL_law_442 : decode cL_law 442 = .ok (.iconst 2, 1) := by decide +kernel
theorem dL_law_443 : decode cL_law 443 = .ok (.iadd, 1) := by decide +kernel
theorem dL_law_444 : decode cL_law 444 = .ok (.iaload, 1) := by decide +kernel
theorem dL_law_445 : decode cL_law 445 = .ok (.invokevirtual 60, 3) := by decide +kernel
theorem dL_law_448 : decode cL_law 448 = .ok (.if_icmp .eq 577, 3) := by decide +kernel
theorem dL_law_451 : decode cL_law 451 = .ok (.iconst 0, 1) := by decide +kernel
theorem dL_law_452 : decode cL_law 452 = .ok (.ireturn, 1) := by decide +kernel
theorem dL_law_453 : decode cL_law 453 = .ok (.aload_n 1, 1) := by decide +kernel
theorem dL_law_454 : decode cL_law 454 = .ok (.aload_n 0, 1) := by decide +kernel
theorem dL_law_455 : decode cL_law 455 = .ok (.iload_n 3, 1) := by decide +kernel
theorem dL_law_456 : decode cL_law 456 = .ok (.iconst 1, 1) := by decide +kernel
theorem dL_law_457 : decode cL_law 457 = .ok (.iadd, 1) := by decide +kernel
theorem dL_law_458 : decode cL_law 458 = .ok (.iaload, 1) := by decide +kernel
theorem dL_law_459 : decode cL_law 459 = .ok (.aload_n 0, 1) := by decide +kernel
theorem dL_law_460 : decode cL_law 460 = .ok (.iload_n 3, 1) := by decide +kernel
theorem dL_law_461 : decode cL_law 461 = .ok (.iconst 2, 1) := by decide +kernel
theorem dL_law_462 : decode cL_law 462 = .ok (.iadd, 1) := by decide +kernel
theorem dL_law_463 : decode cL_law 463 = .ok (.iaload, 1) := by decide +kernel
theorem dL_law_464 : decode cL_law 464 = .ok (.invokevirtual 61, 3) := by decide +kernel
theorem dL_law_467 : decode cL_law 467 = .ok (.aload_n 2, 1) := by decide +kernel
theorem dL_law_468 : decode cL_law 468 = .ok (.aload_n 0, 1) := by decide +kernel
theorem dL_law_469 : decode cL_law 469 = .ok (.iload_n 3, 1) := by decide +kernel
theorem dL_law_470 : decode cL_law 470 = .ok (.iconst 1, 1) := by decide +kernel
theorem dL_law_471 : decode cL_law 471 = .ok (.iadd, 1) := by decide +kernel
theorem dL_law_472 : decode cL_law 472 = .ok (.iaload, 1) := by decide +kernel
theorem dL_law_473 : decode cL_law 473 = .ok (.aload_n 0, 1) := by decide +kernel
theorem dL_law_474 : decode cL_law 474 = .ok (.iload_n 3, 1) := by decide +kernel
theorem dL_law_475 : decode cL_law 475 = .ok (.iconst 2, 1) := by decide +kernel
theorem dL_law_476 : decode cL_law 476 = .ok (.iadd, 1) := by decide +kernel
theorem dL_law_477 : decode cL_law 477 = .ok (.iaload, 1) := by decide +kernel
theorem dL_law_478 : decode cL_law 478 = .ok (.invokevirtual 64, 3) := by decide +kernel
theorem dL_law_481 : decode cL_law 481 = .ok (.if_icmp .eq 544, 3) := by decide +kernel
theorem dL_law_484 : decode cL_law 484 = .ok (.iconst 0, 1) := by decide +kernel
theorem dL_law_485 : decode cL_law 485 = .ok (.ireturn, 1) := by decide +kernel
theorem dL_law_486 : decode cL_law 486 = .ok (.aload_n 1, 1) := by decide +kernel
theorem dL_law_487 : decode cL_law 487 = .ok (.aload_n 0, 1) := by decide +kernel
theorem dL_law_488 : decode cL_law 488 = .ok (.iload_n 3, 1) := by decide +kernel
theorem dL_law_489 : decode cL_law 489 = .ok (.iconst 1, 1) := by decide +kernel
theorem dL_law_490 : decode cL_law 490 = .ok (.iadd, 1) := by decide +kernel
theorem dL_law_491 : decode cL_law 491 = .ok (.iaload, 1) := by decide +kernel
theorem dL_law_492 : decode cL_law 492 = .ok (.aload_n 0, 1) := by decide +kernel
theorem dL_law_493 : decode cL_law 493 = .ok (.iload_n 3, 1) := by decide +kernel
theorem dL_law_494 : decode cL_law 494 = .ok (.iconst 2, 1) := by decide +kernel
theorem dL_law_495 : decode cL_law 495 = .ok (.iadd, 1) := by decide +kernel
theorem dL_law_496 : decode cL_law 496 = .ok (.iaload, 1) := by decide +kernel
theorem dL_law_497 : decode cL_law 497 = .ok (.invokevirtual 65, 3) := by decide +kernel
theorem dL_law_500 : decode cL_law 500 = .ok (.aload_n 2, 1) := by decide +kernel
theorem dL_law_501 : decode cL_law 501 = .ok (.aload_n 0, 1) := by decide +kernel
theorem dL_law_502 : decode cL_law 502 = .ok (.iload_n 3, 1) := by decide +kernel
theorem dL_law_503 : decode cL_law 503 = .ok (.iconst 1, 1) := by decide +kernel
theorem dL_law_504 : decode cL_law 504 = .ok (.iadd, 1) := by decide +kernel
theorem dL_law_505 : decode cL_law 505 = .ok (.iaload, 1) := by decide +kernel
theorem dL_law_506 : decode cL_law 506 = .ok (.aload_n 0, 1) := by decide +kernel
theorem dL_law_507 : decode cL_law 507 = .ok (.iload_n 3, 1) := by decide +kernel
theorem dL_law_508 : decode cL_law 508 = .ok (.iconst 2, 1) := by decide +kernel
theorem dL_law_509 : decode cL_law 509 = .ok (.iadd, 1) := by decide +kernel
theorem dL_law_510 : decode cL_law 510 = .ok (.iaload, 1) := by decide +kernel
theorem dL_law_511 : decode cL_law 511 = .ok (.invokevirtual 68, 3) := by decide +kernel
theorem dL_law_514 : decode cL_law 514 = .ok (.if_icmp .eq 511, 3) := by decide +kernel
theorem dL_law_517 : decode cL_law 517 = .ok (.iconst 0, 1) := by decide +kernel
theorem dL_law_518 : decode cL_law 518 = .ok (.ireturn, 1) := by decide +kernel
theorem dL_law_519 : decode cL_law 519 = .ok (.aload_n 1, 1) := by decide +kernel
theorem dL_law_520 : decode cL_law 520 = .ok (.invokevirtual 69, 3) := by decide +kernel
theorem dL_law_523 : decode cL_law 523 = .ok (.aload_n 2, 1) := by decide +kernel
theorem dL_law_524 : decode cL_law 524 = .ok (.invokevirtual 72, 3) := by decide +kernel
theorem dL_law_527 : decode cL_law 527 = .ok (.if_icmp .eq 498, 3) := by decide +kernel
theorem dL_law_530 : decode cL_law 530 = .ok (.iconst 0, 1) := by decide +kernel
theorem dL_law_531 : decode cL_law 531 = .ok (.ireturn, 1) := by decide +kernel
theorem dL_law_532 : decode cL_law 532 = .ok (.aload_n 1, 1) := by decide +kernel
theorem dL_law_533 : decode cL_law 533 = .ok (.aload_n 0, 1) := by decide +kernel
theorem dL_law_534 : decode cL_law 534 = .ok (.iload_n 3, 1) := by decide +kernel
theorem dL_law_535 : decode cL_law 535 = .ok (.iconst 1, 1) := by decide +kernel
theorem dL_law_536 : decode cL_law 536 = .ok (.iadd, 1) := by decide +kernel
theorem dL_law_537 : decode cL_law 537 = .ok (.iaload, 1) := by decide +kernel
theorem dL_law_538 : decode cL_law 538 = .ok (.aload_n 0, 1) := by decide +kernel
theorem dL_law_539 : decode cL_law 539 = .ok (.iload_n 3, 1) := by decide +kernel
theorem dL_law_540 : decode cL_law 540 = .ok (.iconst 2, 1) := by decide +kernel
theorem dL_law_541 : decode cL_law 541 = .ok (.iadd, 1) := by decide +kernel
theorem dL_law_542 : decode cL_law 542 = .ok (.iaload, 1) := by decide +kernel
theorem dL_law_543 : decode cL_law 543 = .ok (.invokevirtual 73, 3) := by decide +kernel
theorem dL_law_546 : decode cL_law 546 = .ok (.aload_n 2, 1) := by decide +kernel
theorem dL_law_547 : decode cL_law 547 = .ok (.aload_n 0, 1) := by decide +kernel
theorem dL_law_548 : decode cL_law 548 = .ok (.iload_n 3, 1) := by decide +kernel
theorem dL_law_549 : decode cL_law 549 = .ok (.iconst 1, 1) := by decide +kernel
theorem dL_law_550 : decode cL_law 550 = .ok (.iadd, 1) := by decide +kernel
theorem dL_law_551 : decode cL_law 551 = .ok (.iaload, 1) := by decide +kernel
theorem dL_law_552 : decode cL_law 552 = .ok (.aload_n 0, 1) := by decide +kernel
theorem dL_law_553 : decode cL_law 553 = .ok (.iload_n 3, 1) := by decide +kernel
theorem dL_law_554 : decode cL_law 554 = .ok (.iconst 2, 1) := by decide +kernel
theorem dL_law_555 : decode cL_law 555 = .ok (.iadd, 1) := by decide +kernel
theorem dL_law_556 : decode cL_law 556 = .ok (.iaload, 1) := by decide +kernel
theorem dL_law_557 : decode cL_law 557 = .ok (.invokevirtual 76, 3) := by decide +kernel
theorem dL_law_560 : decode cL_law 560 = .ok (.if_icmp .eq 465, 3) := by decide +kernel
theorem dL_law_563 : decode cL_law 563 = .ok (.iconst 0, 1) := by decide +kernel
theorem dL_law_564 : decode cL_law 564 = .ok (.ireturn, 1) := by decide +kernel
theorem dL_law_565 : decode cL_law 565 = .ok (.aload_n 1, 1) := by decide +kernel
theorem dL_law_566 : decode cL_law 566 = .ok (.invokevirtual 77, 3) := by decide +kernel
theorem dL_law_569 : decode cL_law 569 = .ok (.aload_n 2, 1) := by decide +kernel
theorem dL_law_570 : decode cL_law 570 = .ok (.invokevirtual 80, 3) := by decide +kernel
theorem dL_law_573 : decode cL_law 573 = .ok (.if_icmp .eq 452, 3) := by decide +kernel
theorem dL_law_576 : decode cL_law 576 = .ok (.iconst 0, 1) := by decide +kernel
theorem dL_law_577 : decode cL_law 577 = .ok (.ireturn, 1) := by decide +kernel
theorem dL_law_578 : decode cL_law 578 = .ok (.aload_n 1, 1) := by decide +kernel
theorem dL_law_579 : decode cL_law 579 = .ok (.aload_n 0, 1) := by decide +kernel
theorem dL_law_580 : decode cL_law 580 = .ok (.iload_n 3, 1) := by decide +kernel
theorem dL_law_581 : decode cL_law 581 = .ok (.iconst 1, 1) := by decide +kernel
theorem dL_law_582 : decode cL_law 582 = .ok (.iadd, 1) := by decide +kernel
theorem dL_law_583 : decode cL_law 583 = .ok (.iaload, 1) := by decide +kernel
theorem dL_law_584 : decode cL_law 584 = .ok (.invokevirtual 81, 3) := by decide +kernel
theorem dL_law_587 : decode cL_law 587 = .ok (.aload_n 2, 1) := by decide +kernel
theorem dL_law_588 : decode cL_law 588 = .ok (.aload_n 0, 1) := by decide +kernel
theorem dL_law_589 : decode cL_law 589 = .ok (.iload_n 3, 1) := by decide +kernel
theorem dL_law_590 : decode cL_law 590 = .ok (.iconst 1, 1) := by decide +kernel
theorem dL_law_591 : decode cL_law 591 = .ok (.iadd, 1) := by decide +kernel
theorem dL_law_592 : decode cL_law 592 = .ok (.iaload, 1) := by decide +kernel
theorem dL_law_593 : decode cL_law 593 = .ok (.invokevirtual 84, 3) := by decide +kernel
theorem dL_law_596 : decode cL_law 596 = .ok (.if_icmp .eq 429, 3) := by decide +kernel
theorem dL_law_599 : decode cL_law 599 = .ok (.iconst 0, 1) := by decide +kernel
theorem dL_law_600 : decode cL_law 600 = .ok (.ireturn, 1) := by decide +kernel
theorem dL_law_601 : decode cL_law 601 = .ok (.aload_n 1, 1) := by decide +kernel
theorem dL_law_602 : decode cL_law 602 = .ok (.aload_n 0, 1) := by decide +kernel
theorem dL_law_603 : decode cL_law 603 = .ok (.iload_n 3, 1) := by decide +kernel
theorem dL_law_604 : decode cL_law 604 = .ok (.iconst 1, 1) := by decide +kernel
theorem dL_law_605 : decode cL_law 605 = .ok (.iadd, 1) := by decide +kernel
theorem dL_law_606 : decode cL_law 606 = .ok (.iaload, 1) := by decide +kernel
theorem dL_law_607 : decode cL_law 607 = .ok (.invokevirtual 85, 3) := by decide +kernel
theorem dL_law_610 : decode cL_law 610 = .ok (.aload_n 2, 1) := by decide +kernel
theorem dL_law_611 : decode cL_law 611 = .ok (.aload_n 0, 1) := by decide +kernel
theorem dL_law_612 : decode cL_law 612 = .ok (.iload_n 3, 1) := by decide +kernel
theorem dL_law_613 : decode cL_law 613 = .ok (.iconst 1, 1) := by decide +kernel
theorem dL_law_614 : decode cL_law 614 = .ok (.iadd, 1) := by decide +kernel
theorem dL_law_615 : decode cL_law 615 = .ok (.iaload, 1) := by decide +kernel
theorem dL_law_616 : decode cL_law 616 = .ok (.invokevirtual 88, 3) := by decide +kernel
theorem dL_law_619 : decode cL_law 619 = .ok (.if_icmp .eq 406, 3) := by decide +kernel
theorem dL_law_622 : decode cL_law 622 = .ok (.iconst 0, 1) := by decide +kernel
theorem dL_law_623 : decode cL_law 623 = .ok (.ireturn, 1) := by decide +kernel
theorem dL_law_624 : decode cL_law 624 = .ok (.aload_n 1, 1) := by decide +kernel
theorem dL_law_625 : decode cL_law 625 = .ok (.invokevirtual 89, 3) := by decide +kernel
theorem dL_law_628 : decode cL_law 628 = .ok (.aload_n 2, 1) := by decide +kernel
theorem dL_law_629 : decode cL_law 629 = .ok (.invokevirtual 92, 3) := by decide +kernel
theorem dL_law_632 : decode cL_law 632 = .ok (.if_icmp .eq 393, 3) := by decide +kernel
theorem dL_law_635 : decode cL_law 635 = .ok (.iconst 0, 1) := by decide +kernel
theorem dL_law_636 : decode cL_law 636 = .ok (.ireturn, 1) := by decide +kernel
theorem dL_law_637 : decode cL_law 637 = .ok (.aload_n 1, 1) := by decide +kernel
theorem dL_law_638 : decode cL_law 638 = .ok (.aload_n 0, 1) := by decide +kernel
theorem dL_law_639 : decode cL_law 639 = .ok (.iload_n 3, 1) := by decide +kernel
theorem dL_law_640 : decode cL_law 640 = .ok (.iconst 1, 1) := by decide +kernel
theorem dL_law_641 : decode cL_law 641 = .ok (.iadd, 1) := by decide +kernel
theorem dL_law_642 : decode cL_law 642 = .ok (.iaload, 1) := by decide +kernel
theorem dL_law_643 : decode cL_law 643 = .ok (.aload_n 0, 1) := by decide +kernel
theorem dL_law_644 : decode cL_law 644 = .ok (.iload_n 3, 1) := by decide +kernel
theorem dL_law_645 : decode cL_law 645 = .ok (.iconst 2, 1) := by decide +kernel
theorem dL_law_646 : decode cL_law 646 = .ok (.iadd, 1) := by decide +kernel
theorem dL_law_647 : decode cL_law 647 = .ok (.iaload, 1) := by decide +kernel
theorem dL_law_648 : decode cL_law 648 = .ok (.aload_n 0, 1) := by decide +kernel
theorem dL_law_649 : decode cL_law 649 = .ok (.iload_n 3, 1) := by decide +kernel
theorem dL_law_650 : decode cL_law 650 = .ok (.iconst 3, 1) := by decide +kernel
theorem dL_law_651 : decode cL_law 651 = .ok (.iadd, 1) := by decide +kernel
theorem dL_law_652 : decode cL_law 652 = .ok (.iaload, 1) := by decide +kernel
theorem dL_law_653 : decode cL_law 653 = .ok (.aload_n 0, 1) := by decide +kernel
theorem dL_law_654 : decode cL_law 654 = .ok (.iload_n 3, 1) := by decide +kernel
theorem dL_law_655 : decode cL_law 655 = .ok (.iconst 4, 1) := by decide +kernel
theorem dL_law_656 : decode cL_law 656 = .ok (.iadd, 1) := by decide +kernel
theorem dL_law_657 : decode cL_law 657 = .ok (.iaload, 1) := by decide +kernel
theorem dL_law_658 : decode cL_law 658 = .ok (.aload_n 0, 1) := by decide +kernel
theorem dL_law_659 : decode cL_law 659 = .ok (.iload_n 3, 1) := by decide +kernel
theorem dL_law_660 : decode cL_law 660 = .ok (.iconst 5, 1) := by decide +kernel
theorem dL_law_661 : decode cL_law 661 = .ok (.iadd, 1) := by decide +kernel
theorem dL_law_662 : decode cL_law 662 = .ok (.iaload, 1) := by decide +kernel
theorem dL_law_663 : decode cL_law 663 = .ok (.aload_n 0, 1) := by decide +kernel
theorem dL_law_664 : decode cL_law 664 = .ok (.iload_n 3, 1) := by decide +kernel
theorem dL_law_665 : decode cL_law 665 = .ok (.bipush 6, 2) := by decide +kernel
theorem dL_law_667 : decode cL_law 667 = .ok (.iadd, 1) := by decide +kernel
theorem dL_law_668 : decode cL_law 668 = .ok (.iaload, 1) := by decide +kernel
theorem dL_law_669 : decode cL_law 669 = .ok (.aload_n 0, 1) := by decide +kernel
theorem dL_law_670 : decode cL_law 670 = .ok (.iload_n 3, 1) := by decide +kernel
theorem dL_law_671 : decode cL_law 671 = .ok (.bipush 7, 2) := by decide +kernel
theorem dL_law_673 : decode cL_law 673 = .ok (.iadd, 1) := by decide +kernel
theorem dL_law_674 : decode cL_law 674 = .ok (.iaload, 1) := by decide +kernel
theorem dL_law_675 : decode cL_law 675 = .ok (.invokevirtual 93, 3) := by decide +kernel
theorem dL_law_678 : decode cL_law 678 = .ok (.aload_n 2, 1) := by decide +kernel
theorem dL_law_679 : decode cL_law 679 = .ok (.aload_n 0, 1) := by decide +kernel
theorem dL_law_680 : decode cL_law 680 = .ok (.iload_n 3, 1) := by decide +kernel
theorem dL_law_681 : decode cL_law 681 = .ok (.iconst 1, 1) := by decide +kernel
theorem dL_law_682 : decode cL_law 682 = .ok (.iadd, 1) := by decide +kernel
theorem dL_law_683 : decode cL_law 683 = .ok (.iaload, 1) := by decide +kernel
theorem dL_law_684 : decode cL_law 684 = .ok (.aload_n 0, 1) := by decide +kernel
theorem dL_law_685 : decode cL_law 685 = .ok (.iload_n 3, 1) := by decide +kernel
theorem dL_law_686 : decode cL_law 686 = .ok (.iconst 2, 1) := by decide +kernel
theorem dL_law_687 : decode cL_law 687 = .ok (.iadd, 1) := by decide +kernel
theorem dL_law_688 : decode cL_law 688 = .ok (.iaload, 1) := by decide +kernel
theorem dL_law_689 : decode cL_law 689 = .ok (.aload_n 0, 1) := by decide +kernel
theorem dL_law_690 : decode cL_law 690 = .ok (.iload_n 3, 1) := by decide +kernel
theorem dL_law_691 : decode cL_law 691 = .ok (.iconst 3, 1) := by decide +kernel
theorem dL_law_692 : decode cL_law 692 = .ok (.iadd, 1) := by decide +kernel
theorem dL_law_693 : decode cL_law 693 = .ok (.iaload, 1) := by decide +kernel
theorem dL_law_694 : decode cL_law 694 = .ok (.aload_n 0, 1) := by decide +kernel
theorem dL_law_695 : decode cL_law 695 = .ok (.iload_n 3, 1) := by decide +kernel
theorem dL_law_696 : decode cL_law 696 = .ok (.iconst 4, 1) := by decide +kernel
theorem dL_law_697 : decode cL_law 697 = .ok (.iadd, 1) := by decide +kernel
theorem dL_law_698 : decode cL_law 698 = .ok (.iaload, 1) := by decide +kernel
theorem dL_law_699 : decode cL_law 699 = .ok (.aload_n 0, 1) := by decide +kernel
theorem dL_law_700 : decode cL_law 700 = .ok (.iload_n 3, 1) := by decide +kernel
theorem dL_law_701 : decode cL_law 701 = .ok (.iconst 5, 1) := by decide +kernel
theorem dL_law_702 : decode cL_law 702 = .ok (.iadd, 1) := by decide +kernel
theorem dL_law_703 : decode cL_law 703 = .ok (.iaload, 1) := by decide +kernel
theorem dL_law_704 : decode cL_law 704 = .ok (.aload_n 0, 1) := by decide +kernel
theorem dL_law_705 : decode cL_law 705 = .ok (.iload_n 3, 1) := by decide +kernel
theorem dL_law_706 : decode cL_law 706 = .ok (.bipush 6, 2) := by decide +kernel
theorem dL_law_708 : decode cL_law 708 = .ok (.iadd, 1) := by decide +kernel
theorem dL_law_709 : decode cL_law 709 = .ok (.iaload, 1) := by decide +kernel
theorem dL_law_710 : decode cL_law 710 = .ok (.aload_n 0, 1) := by decide +kernel
theorem dL_law_711 : decode cL_law 711 = .ok (.iload_n 3, 1) := by decide +kernel
theorem dL_law_712 : decode cL_law 712 = .ok (.bipush 7, 2) := by decide +kernel
theorem dL_law_714 : decode cL_law 714 = .ok (.iadd, 1) := by decide +kernel
theorem dL_law_715 : decode cL_law 715 = .ok (.iaload, 1) := by decide +kernel
theorem dL_law_716 : decode cL_law 716 = .ok (.invokevirtual 97, 3) := by decide +kernel
theorem dL_law_719 : decode cL_law 719 = .ok (.if_icmp .eq 306, 3) := by decide +kernel
theorem dL_law_722 : decode cL_law 722 = .ok (.iconst 0, 1) := by decide +kernel
theorem dL_law_723 : decode cL_law 723 = .ok (.ireturn, 1) := by decide +kernel
theorem dL_law_724 : decode cL_law 724 = .ok (.aload_n 1, 1) := by decide +kernel
theorem dL_law_725 : decode cL_law 725 = .ok (.invokevirtual 98, 3) := by decide +kernel
theorem dL_law_728 : decode cL_law 728 = .ok (.aload_n 2, 1) := by decide +kernel
theorem dL_law_729 : decode cL_law 729 = .ok (.invokevirtual 101, 3) := by decide +kernel
theorem dL_law_732 : decode cL_law 732 = .ok (.if_icmp .eq 293, 3) := by decide +kernel
theorem dL_law_735 : decode cL_law 735 = .ok (.iconst 0, 1) := by decide +kernel
theorem dL_law_736 : decode cL_law 736 = .ok (.ireturn, 1) := by decide +kernel
theorem dL_law_737 : decode cL_law 737 = .ok (.aload_n 1, 1) := by decide +kernel
theorem dL_law_738 : decode cL_law 738 = .ok (.aload_n 0, 1) := by decide +kernel
theorem dL_law_739 : decode cL_law 739 = .ok (.iload_n 3, 1) := by decide +kernel
theorem dL_law_740 : decode cL_law 740 = .ok (.iconst 1, 1) := by decide +kernel
theorem dL_law_741 : decode cL_law 741 = .ok (.iadd, 1) := by decide +kernel
theorem dL_law_742 : decode cL_law 742 = .ok (.iaload, 1) := by decide +kernel
theorem dL_law_743 : decode cL_law 743 = .ok (.invokevirtual 102, 3) := by decide +kernel
theorem dL_law_746 : decode cL_law 746 = .ok (.aload_n 2, 1) := by decide +kernel
theorem dL_law_747 : decode cL_law 747 = .ok (.aload_n 0, 1) := by decide +kernel
theorem dL_law_748 : decode cL_law 748 = .ok (.iload_n 3, 1) := by decide +kernel
theorem dL_law_749 : decode cL_law 749 = .ok (.iconst 1, 1) := by decide +kernel
theorem dL_law_750 : decode cL_law 750 = .ok (.iadd, 1) := by decide +kernel
theorem dL_law_751 : decode cL_law 751 = .ok (.iaload, 1) := by decide +kernel
theorem dL_law_752 : decode cL_law 752 = .ok (.invokevirtual 105, 3) := by decide +kernel
theorem dL_law_755 : decode cL_law 755 = .ok (.if_icmp .eq 270, 3) := by decide +kernel
theorem dL_law_758 : decode cL_law 758 = .ok (.iconst 0, 1) := by decide +kernel
theorem dL_law_759 : decode cL_law 759 = .ok (.ireturn, 1) := by decide +kernel
theorem dL_law_760 : decode cL_law 760 = .ok (.aload_n 1, 1) := by decide +kernel
theorem dL_law_761 : decode cL_law 761 = .ok (.aload_n 0, 1) := by decide +kernel
theorem dL_law_762 : decode cL_law 762 = .ok (.iload_n 3, 1) := by decide +kernel
theorem dL_law_763 : decode cL_law 763 = .ok (.iconst 1, 1) := by decide +kernel
theorem dL_law_764 : decode cL_law 764 = .ok (.iadd, 1) := by decide +kernel
theorem dL_law_765 : decode cL_law 765 = .ok (.iaload, 1) := by decide +kernel
theorem dL_law_766 : decode cL_law 766 = .ok (.invokevirtual 106, 3) := by decide +kernel
theorem dL_law_769 : decode cL_law 769 = .ok (.aload_n 2, 1) := by decide +kernel
theorem dL_law_770 : decode cL_law 770 = .ok (.aload_n 0, 1) := by decide +kernel
theorem dL_law_771 : decode cL_law 771 = .ok (.iload_n 3, 1) := by decide +kernel
theorem dL_law_772 : decode cL_law 772 = .ok (.iconst 1, 1) := by decide +kernel
theorem dL_law_773 : decode cL_law 773 = .ok (.iadd, 1) := by decide +kernel
theorem dL_law_774 : decode cL_law 774 = .ok (.iaload, 1) := by decide +kernel
theorem dL_law_775 : decode cL_law 775 = .ok (.invokevirtual 109, 3) := by decide +kernel
theorem dL_law_778 : decode cL_law 778 = .ok (.if_icmp .eq 247, 3) := by decide +kernel
theorem dL_law_781 : decode cL_law 781 = .ok (.iconst 0, 1) := by decide +kernel
theorem dL_law_782 : decode cL_law 782 = .ok (.ireturn, 1) := by decide +kernel
theorem dL_law_783 : decode cL_law 783 = .ok (.aload_n 1, 1) := by decide +kernel
theorem dL_law_784 : decode cL_law 784 = .ok (.aload_n 0, 1) := by decide +kernel
theorem dL_law_785 : decode cL_law 785 = .ok (.iload_n 3, 1) := by decide +kernel
theorem dL_law_786 : decode cL_law 786 = .ok (.iconst 1, 1) := by decide +kernel
theorem dL_law_787 : decode cL_law 787 = .ok (.iadd, 1) := by decide +kernel
theorem dL_law_788 : decode cL_law 788 = .ok (.iaload, 1) := by decide +kernel
theorem dL_law_789 : decode cL_law 789 = .ok (.invokevirtual 110, 3) := by decide +kernel
theorem dL_law_792 : decode cL_law 792 = .ok (.aload_n 2, 1) := by decide +kernel
theorem dL_law_793 : decode cL_law 793 = .ok (.aload_n 0, 1) := by decide +kernel
theorem dL_law_794 : decode cL_law 794 = .ok (.iload_n 3, 1) := by decide +kernel
theorem dL_law_795 : decode cL_law 795 = .ok (.iconst 1, 1) := by decide +kernel
theorem dL_law_796 : decode cL_law 796 = .ok (.iadd, 1) := by decide +kernel
theorem dL_law_797 : decode cL_law 797 = .ok (.iaload, 1) := by decide +kernel
theorem dL_law_798 : decode cL_law 798 = .ok (.invokevirtual 113, 3) := by decide +kernel
theorem dL_law_801 : decode cL_law 801 = .ok (.if_icmp .eq 224, 3) := by decide +kernel
theorem dL_law_804 : decode cL_law 804 = .ok (.iconst 0, 1) := by decide +kernel
theorem dL_law_805 : decode cL_law 805 = .ok (.ireturn, 1) := by decide +kernel
theorem dL_law_806 : decode cL_law 806 = .ok (.aload_n 1, 1) := by decide +kernel
theorem dL_law_807 : decode cL_law 807 = .ok (.aload_n 0, 1) := by decide +kernel
theorem dL_law_808 : decode cL_law 808 = .ok (.iload_n 3, 1) := by decide +kernel
theorem dL_law_809 : decode cL_law 809 = .ok (.iconst 1, 1) := by decide +kernel
theorem dL_law_810 : decode cL_law 810 = .ok (.iadd, 1) := by decide +kernel
theorem dL_law_811 : decode cL_law 811 = .ok (.iaload, 1) := by decide +kernel
theorem dL_law_812 : decode cL_law 812 = .ok (.aload_n 0, 1) := by decide +kernel
theorem dL_law_813 : decode cL_law 813 = .ok (.iload_n 3, 1) := by decide +kernel
theorem dL_law_814 : decode cL_law 814 = .ok (.iconst 2, 1) := by decide +kernel
theorem dL_law_815 : decode cL_law 815 = .ok (.iadd, 1) := by decide +kernel
theorem dL_law_816 : decode cL_law 816 = .ok (.iaload, 1) := by decide +kernel
theorem dL_law_817 : decode cL_law 817 = .ok (.invokevirtual 114, 3) := by decide +kernel
theorem dL_law_820 : decode cL_law 820 = .ok (.aload_n 2, 1) := by decide +kernel
theorem dL_law_821 : decode cL_law 821 = .ok (.aload_n 0, 1) := by decide +kernel
theorem dL_law_822 : decode cL_law 822 = .ok (.iload_n 3, 1) := by decide +kernel
theorem dL_law_823 : decode cL_law 823 = .ok (.iconst 1, 1) := by decide +kernel
theorem dL_law_824 : decode cL_law 824 = .ok (.iadd, 1) := by decide +kernel
theorem dL_law_825 : decode cL_law 825 = .ok (.iaload, 1) := by decide +kernel
theorem dL_law_826 : decode cL_law 826 = .ok (.aload_n 0, 1) := by decide +kernel
theorem dL_law_827 : decode cL_law 827 = .ok (.iload_n 3, 1) := by decide +kernel
theorem dL_law_828 : decode cL_law 828 = .ok (.iconst 2, 1) := by decide +kernel
theorem dL_law_829 : decode cL_law 829 = .ok (.iadd, 1) := by decide +kernel
theorem dL_law_830 : decode cL_law 830 = .ok (.iaload, 1) := by decide +kernel
theorem dL_law_831 : decode cL_law 831 = .ok (.invokevirtual 117, 3) := by decide +kernel
theorem dL_law_834 : decode cL_law 834 = .ok (.if_icmp .eq 191, 3) := by decide +kernel
theorem dL_law_837 : decode cL_law 837 = .ok (.iconst 0, 1) := by decide +kernel
theorem dL_law_838 : decode cL_law 838 = .ok (.ireturn, 1) := by decide +kernel
theorem dL_law_839 : decode cL_law 839 = .ok (.aload_n 1, 1) := by decide +kernel
theorem dL_law_840 : decode cL_law 840 = .ok (.aload_n 0, 1) := by decide +kernel
theorem dL_law_841 : decode cL_law 841 = .ok (.iload_n 3, 1) := by decide +kernel
theorem dL_law_842 : decode cL_law 842 = .ok (.iconst 1, 1) := by decide +kernel
theorem dL_law_843 : decode cL_law 843 = .ok (.iadd, 1) := by decide +kernel
theorem dL_law_844 : decode cL_law 844 = .ok (.iaload, 1) := by decide +kernel
theorem dL_law_845 : decode cL_law 845 = .ok (.invokevirtual 118, 3) := by decide +kernel
theorem dL_law_848 : decode cL_law 848 = .ok (.aload_n 2, 1) := by decide +kernel
theorem dL_law_849 : decode cL_law 849 = .ok (.aload_n 0, 1) := by decide +kernel
theorem dL_law_850 : decode cL_law 850 = .ok (.iload_n 3, 1) := by decide +kernel
theorem dL_law_851 : decode cL_law 851 = .ok (.iconst 1, 1) := by decide +kernel
theorem dL_law_852 : decode cL_law 852 = .ok (.iadd, 1) := by decide +kernel
theorem dL_law_853 : decode cL_law 853 = .ok (.iaload, 1) := by decide +kernel
theorem dL_law_854 : decode cL_law 854 = .ok (.invokevirtual 121, 3) := by decide +kernel
theorem dL_law_857 : decode cL_law 857 = .ok (.if_icmp .eq 168, 3) := by decide +kernel
theorem dL_law_860 : decode cL_law 860 = .ok (.iconst 0, 1) := by decide +kernel
theorem dL_law_861 : decode cL_law 861 = .ok (.ireturn, 1) := by decide +kernel
theorem dL_law_862 : decode cL_law 862 = .ok (.aload_n 1, 1) := by decide +kernel
theorem dL_law_863 : decode cL_law 863 = .ok (.aload_n 0, 1) := by decide +kernel
theorem dL_law_864 : decode cL_law 864 = .ok (.iload_n 3, 1) := by decide +kernel
theorem dL_law_865 : decode cL_law 865 = .ok (.iconst 1, 1) := by decide +kernel
theorem dL_law_866 : decode cL_law 866 = .ok (.iadd, 1) := by decide +kernel
theorem dL_law_867 : decode cL_law 867 = .ok (.iaload, 1) := by decide +kernel
theorem dL_law_868 : decode cL_law 868 = .ok (.aload_n 0, 1) := by decide +kernel
theorem dL_law_869 : decode cL_law 869 = .ok (.iload_n 3, 1) := by decide +kernel
theorem dL_law_870 : decode cL_law 870 = .ok (.iconst 2, 1) := by decide +kernel
theorem dL_law_871 : decode cL_law 871 = .ok (.iadd, 1) := by decide +kernel
theorem dL_law_872 : decode cL_law 872 = .ok (.iaload, 1) := by decide +kernel
theorem dL_law_873 : decode cL_law 873 = .ok (.invokevirtual 122, 3) := by decide +kernel
theorem dL_law_876 : decode cL_law 876 = .ok (.aload_n 2, 1) := by decide +kernel
theorem dL_law_877 : decode cL_law 877 = .ok (.aload_n 0, 1) := by decide +kernel
theorem dL_law_878 : decode cL_law 878 = .ok (.iload_n 3, 1) := by decide +kernel
theorem dL_law_879 : decode cL_law 879 = .ok (.iconst 1, 1) := by decide +kernel
theorem dL_law_880 : decode cL_law 880 = .ok (.iadd, 1) := by decide +kernel
theorem dL_law_881 : decode cL_law 881 = .ok (.iaload, 1) := by decide +kernel
theorem dL_law_882 : decode cL_law 882 = .ok (.aload_n 0, 1) := by decide +kernel
theorem dL_law_883 : decode cL_law 883 = .ok (.iload_n 3, 1) := by decide +kernel
theorem dL_law_884 : decode cL_law 884 = .ok (.iconst 2, 1) := by decide +kernel
theorem dL_law_885 : decode cL_law 885 = .ok (.iadd, 1) := by decide +kernel
theorem dL_law_886 : decode cL_law 886 = .ok (.iaload, 1) := by decide +kernel
theorem dL_law_887 : decode cL_law 887 = .ok (.invokevirtual 125, 3) := by decide +kernel
theorem dL_law_890 : decode cL_law 890 = .ok (.if_icmp .eq 135, 3) := by decide +kernel
theorem dL_law_893 : decode cL_law 893 = .ok (.iconst 0, 1) := by decide +kernel
theorem dL_law_894 : decode cL_law 894 = .ok (.ireturn, 1) := by decide +kernel
theorem dL_law_895 : decode cL_law 895 = .ok (.aload_n 1, 1) := by decide +kernel
theorem dL_law_896 : decode cL_law 896 = .ok (.aload_n 0, 1) := by decide +kernel
theorem dL_law_897 : decode cL_law 897 = .ok (.iload_n 3, 1) := by decide +kernel
theorem dL_law_898 : decode cL_law 898 = .ok (.iconst 1, 1) := by decide +kernel
theorem dL_law_899 : decode cL_law 899 = .ok (.iadd, 1) := by decide +kernel
theorem dL_law_900 : decode cL_law 900 = .ok (.iaload, 1) := by decide +kernel
theorem dL_law_901 : decode cL_law 901 = .ok (.invokevirtual 126, 3) := by decide +kernel
theorem dL_law_904 : decode cL_law 904 = .ok (.aload_n 2, 1) := by decide +kernel
theorem dL_law_905 : decode cL_law 905 = .ok (.aload_n 0, 1) := by decide +kernel
theorem dL_law_906 : decode cL_law 906 = .ok (.iload_n 3, 1) := by decide +kernel
theorem dL_law_907 : decode cL_law 907 = .ok (.iconst 1, 1) := by decide +kernel
theorem dL_law_908 : decode cL_law 908 = .ok (.iadd, 1) := by decide +kernel
theorem dL_law_909 : decode cL_law 909 = .ok (.iaload, 1) := by decide +kernel
theorem dL_law_910 : decode cL_law 910 = .ok (.invokevirtual 130, 3) := by decide +kernel
theorem dL_law_913 : decode cL_law 913 = .ok (.lcmp, 1) := by decide +kernel
theorem dL_law_914 : decode cL_law 914 = .ok (.ifCond .eq 111, 3) := by decide +kernel
theorem dL_law_917 : decode cL_law 917 = .ok (.iconst 0, 1) := by decide +kernel
theorem dL_law_918 : decode cL_law 918 = .ok (.ireturn, 1) := by decide +kernel
theorem dL_law_919 : decode cL_law 919 = .ok (.aload_n 1, 1) := by decide +kernel
theorem dL_law_920 : decode cL_law 920 = .ok (.aload_n 0, 1) := by decide +kernel
theorem dL_law_921 : decode cL_law 921 = .ok (.iload_n 3, 1) := by decide +kernel
theorem dL_law_922 : decode cL_law 922 = .ok (.iconst 1, 1) := by decide +kernel
theorem dL_law_923 : decode cL_law 923 = .ok (.iadd, 1) := by decide +kernel
theorem dL_law_924 : decode cL_law 924 = .ok (.iaload, 1) := by decide +kernel
theorem dL_law_925 : decode cL_law 925 = .ok (.invokevirtual 131, 3) := by decide +kernel
theorem dL_law_928 : decode cL_law 928 = .ok (.aload_n 2, 1) := by decide +kernel
theorem dL_law_929 : decode cL_law 929 = .ok (.aload_n 0, 1) := by decide +kernel
theorem dL_law_930 : decode cL_law 930 = .ok (.iload_n 3, 1) := by decide +kernel
theorem dL_law_931 : decode cL_law 931 = .ok (.iconst 1, 1) := by decide +kernel
theorem dL_law_932 : decode cL_law 932 = .ok (.iadd, 1) := by decide +kernel
theorem dL_law_933 : decode cL_law 933 = .ok (.iaload, 1) := by decide +kernel
theorem dL_law_934 : decode cL_law 934 = .ok (.invokevirtual 134, 3) := by decide +kernel
theorem dL_law_937 : decode cL_law 937 = .ok (.if_icmp .eq 88, 3) := by decide +kernel
theorem dL_law_940 : decode cL_law 940 = .ok (.iconst 0, 1) := by decide +kernel
theorem dL_law_941 : decode cL_law 941 = .ok (.ireturn, 1) := by decide +kernel
theorem dL_law_942 : decode cL_law 942 = .ok (.aload_n 1, 1) := by decide +kernel
theorem dL_law_943 : decode cL_law 943 = .ok (.aload_n 0, 1) := by decide +kernel
theorem dL_law_944 : decode cL_law 944 = .ok (.iload_n 3, 1) := by decide +kernel
theorem dL_law_945 : decode cL_law 945 = .ok (.iconst 1, 1) := by decide +kernel
theorem dL_law_946 : decode cL_law 946 = .ok (.iadd, 1) := by decide +kernel
theorem dL_law_947 : decode cL_law 947 = .ok (.iaload, 1) := by decide +kernel
theorem dL_law_948 : decode cL_law 948 = .ok (.invokevirtual 135, 3) := by decide +kernel
theorem dL_law_951 : decode cL_law 951 = .ok (.aload_n 2, 1) := by decide +kernel
theorem dL_law_952 : decode cL_law 952 = .ok (.aload_n 0, 1) := by decide +kernel
theorem dL_law_953 : decode cL_law 953 = .ok (.iload_n 3, 1) := by decide +kernel
theorem dL_law_954 : decode cL_law 954 = .ok (.iconst 1, 1) := by decide +kernel
theorem dL_law_955 : decode cL_law 955 = .ok (.iadd, 1) := by decide +kernel
theorem dL_law_956 : decode cL_law 956 = .ok (.iaload, 1) := by decide +kernel
theorem dL_law_957 : decode cL_law 957 = .ok (.invokevirtual 138, 3) := by decide +kernel
theorem dL_law_960 : decode cL_law 960 = .ok (.if_icmp .eq 65, 3) := by decide +kernel
theorem dL_law_963 : decode cL_law 963 = .ok (.iconst 0, 1) := by decide +kernel
theorem dL_law_964 : decode cL_law 964 = .ok (.ireturn, 1) := by decide +kernel
theorem dL_law_965 : decode cL_law 965 = .ok (.aload_n 1, 1) := by decide +kernel
theorem dL_law_966 : decode cL_law 966 = .ok (.aload_n 0, 1) := by decide +kernel
theorem dL_law_967 : decode cL_law 967 = .ok (.iload_n 3, 1) := by decide +kernel
theorem dL_law_968 : decode cL_law 968 = .ok (.iconst 1, 1) := by decide +kernel
theorem dL_law_969 : decode cL_law 969 = .ok (.iadd, 1) := by decide +kernel
theorem dL_law_970 : decode cL_law 970 = .ok (.iaload, 1) := by decide +kernel
theorem dL_law_971 : decode cL_law 971 = .ok (.invokevirtual 139, 3) := by decide +kernel
theorem dL_law_974 : decode cL_law 974 = .ok (.aload_n 2, 1) := by decide +kernel
theorem dL_law_975 : decode cL_law 975 = .ok (.aload_n 0, 1) := by decide +kernel
theorem dL_law_976 : decode cL_law 976 = .ok (.iload_n 3, 1) := by decide +kernel
theorem dL_law_977 : decode cL_law 977 = .ok (.iconst 1, 1) := by decide +kernel
theorem dL_law_978 : decode cL_law 978 = .ok (.iadd, 1) := by decide +kernel
theorem dL_law_979 : decode cL_law 979 = .ok (.iaload, 1) := by decide +kernel
theorem dL_law_980 : decode cL_law 980 = .ok (.invokevirtual 142, 3) := by decide +kernel
theorem dL_law_983 : decode cL_law 983 = .ok (.if_icmp .eq 42, 3) := by decide +kernel
theorem dL_law_986 : decode cL_law 986 = .ok (.iconst 0, 1) := by decide +kernel
theorem dL_law_987 : decode cL_law 987 = .ok (.ireturn, 1) := by decide +kernel
theorem dL_law_988 : decode cL_law 988 = .ok (.aload_n 1, 1) := by decide +kernel
theorem dL_law_989 : decode cL_law 989 = .ok (.aload_n 0, 1) := by decide +kernel
theorem dL_law_990 : decode cL_law 990 = .ok (.iload_n 3, 1) := by decide +kernel
theorem dL_law_991 : decode cL_law 991 = .ok (.iconst 1, 1) := by decide +kernel
theorem dL_law_992 : decode cL_law 992 = .ok (.iadd, 1) := by decide +kernel
theorem dL_law_993 : decode cL_law 993 = .ok (.iaload, 1) := by decide +kernel
theorem dL_law_994 : decode cL_law 994 = .ok (.invokevirtual 143, 3) := by decide +kernel
theorem dL_law_997 : decode cL_law 997 = .ok (.aload_n 2, 1) := by decide +kernel
theorem dL_law_998 : decode cL_law 998 = .ok (.aload_n 0, 1) := by decide +kernel
theorem dL_law_999 : decode cL_law 999 = .ok (.iload_n 3, 1) := by decide +kernel
theorem dL_law_1000 : decode cL_law 1000 = .ok (.iconst 1, 1) := by decide +kernel
theorem dL_law_1001 : decode cL_law 1001 = .ok (.iadd, 1) := by decide +kernel
theorem dL_law_1002 : decode cL_law 1002 = .ok (.iaload, 1) := by decide +kernel
theorem dL_law_1003 : decode cL_law 1003 = .ok (.invokevirtual 146, 3) := by decide +kernel
theorem dL_law_1006 : decode cL_law 1006 = .ok (.if_icmp .eq 19, 3) := by decide +kernel
theorem dL_law_1009 : decode cL_law 1009 = .ok (.iconst 0, 1) := by decide +kernel
theorem dL_law_1010 : decode cL_law 1010 = .ok (.ireturn, 1) := by decide +kernel
theorem dL_law_1011 : decode cL_law 1011 = .ok (.aload_n 1, 1) := by decide +kernel
theorem dL_law_1012 : decode cL_law 1012 = .ok (.invokevirtual 147, 3) := by decide +kernel
theorem dL_law_1015 : decode cL_law 1015 = .ok (.aload_n 2, 1) := by decide +kernel
theorem dL_law_1016 : decode cL_law 1016 = .ok (.invokevirtual 151, 3) := by decide +kernel
theorem dL_law_1019 : decode cL_law 1019 = .ok (.lcmp, 1) := by decide +kernel
theorem dL_law_1020 : decode cL_law 1020 = .ok (.ifCond .eq 5, 3) := by decide +kernel
theorem dL_law_1023 : decode cL_law 1023 = .ok (.iconst 0, 1) := by decide +kernel
theorem dL_law_1024 : decode cL_law 1024 = .ok (.ireturn, 1) := by decide +kernel
theorem dL_law_1025 : decode cL_law 1025 = .ok (.iinc 3 8, 3) := by decide +kernel
theorem dL_law_1028 : decode cL_law 1028 = .ok (.goto (-1010), 3) := by decide +kernel
theorem dL_law_1031 : decode cL_law 1031 = .ok (.iconst 1, 1) := by decide +kernel
theorem dL_law_1032 : decode cL_law 1032 = .ok (.ireturn, 1) := by decide +kernel
end
section
/-! my own layer over the kit's rows: what is known of the tables (KK), a method's fixed things (Ex), the world (Wd), contracts (CT) -/
abbrev cls : List vw_C := [(RX0, TX0, 2), (RX1, TX1, 3), (RX2, TX2, 3), (RX3, TX3, 10), (RX4, TX4, 6), (RX5, TX5, 9), (RX6, TX6, 19)]
abbrev GG : Type := va_G × (Nat → ClassId)
abbrev gty (G : GG) : List (ClassId × FieldType) := [(G.2 0, .int), (G.2 1, .byte), (G.2 2, .boolean), (G.2 3, .object RX3), (G.2 4, .object RX2)]
def nestWord : Cond → Bool
  | .fieldLinkNest _ _ _ _ _ _ => true
  | .methodLinkNest _ _ _ _ => true
  | _ => false
def okw (w : Cond) : Prop := w ∈ lw_tbl ∧ (goodWord w = true ∨ nestWord w = true)
def KK (G : GG) (s : State) : Prop := va_K G.1 cls (gty G) s ∧ ∀ w, okw w → va_Nw w s
theorem nest_warm {w : Cond} (hn : nestWord w = true) {s U : State} (hW : s.WarmedH U.vm) (h : va_Nw w s) : va_Nw w U := by
  cases w <;> first | exact va_Nw.warmF hW h | exact va_Nw.warmM hW h | exact absurd hn (by simp [nestWord])
theorem nest_tab {w : Cond} (hn : nestWord w = true) : w.onTables = true := by
  cases w <;> first | rfl | exact absurd hn (by simp [nestWord])
theorem KK.warm {G : GG} {s U : State} (hW : s.WarmedH U.vm) (h : KK G s) : KK G U := by
  refine ⟨va_K.moved hW.alike h.1, fun w hw => ?_⟩
  rcases hw.2 with hg | hn
  · exact word_at hW (good_of_word hg) (h.2 w hw)
  · exact nest_warm hn hW (h.2 w hw)
theorem KK.w {G : GG} {s : State} (h : KK G s) {w : Cond} (hw : okw w) {args : Array Value} : w.before args s = true := by
  rcases hw.2 with hg | hn
  · exact word_at (State.WarmedH.refl s) (good_of_word hg) (h.2 w hw)
  · exact va_Nw.use (nest_tab hn) (h.2 w hw)
theorem KK.call {G : GG} {U : State} {g : JFrame} {mk : MethodId} {a : Array Value} (h : KK G U) : KK G (U.calling g mk a) := KK.warm (U := U.calling g mk a) (State.WarmedH.refl U) h
def va_B (ws : va_W) : Nat → Prop := fun q => ∃ (k : Nat) (e : va_E), ws[k]? = some (q, e)
def Wd (G : GG) (A : Nat → Prop) (s : State) (H : Heap) (locs : List Loc) (ws : va_W) : Prop := va_P G.1 cls ws H ∧ va_D A ws ∧ va_S A s.heap H locs
def Ex (G : GG) (p : Program) (s : State) (m : MethodId) (meth : Method) (c : Code) (cc : ByteArray) (nL : Nat) (ret : Option FieldType) (own : String) : Prop :=
  p.tables.exec = Jvm.exec ∧ c.code = cc ∧ c.maxLocals = nL ∧ s.vm.findClass own = some m.cls ∧ meth.sig.returnType = ret ∧ meth.locks = false ∧ KK G s
abbrev rmx (fr lo : Nat) : Room := { frames := fr, cells := 0, slots := 0, locals := lo }
def QcT (G : GG) (w : va_W) (o : Option Value) (w' : va_W) : Array Value → State → Outcome → State → Prop := fun _ st oc t => (oc = .returned o ∧ va_P G.1 cls w' t.heap) ∧ va_F (va_B w) st t
def PcT (G : GG) (av : List Value) (w : va_W) : Array Value → State → Prop := va_Pc av (fun U => KK G U ∧ va_P G.1 cls w U.heap ∧ va_D (fun _ => True) w)
/-- a contract of a method that makes nothing: with arguments av and the cells w it returns o, the cells are w', nothing else has changed -/
def CT (l : Launch) (G : GG) (y : MethodName) (cc : ByteArray) (maxL : Nat) (ret : Option FieldType) (fr lo : Nat) (av : List Value) (w : va_W) (o : Option Value) (w' : va_W) : Prop :=
  Met l y [.code y cc maxL ret] (rmx fr lo) (PcT G av w) (QcT G w o w') 0 0 (va_B w)
/-- what a method's end gives the goal -/
def Rt (G : GG) (s : State) (args : Array Value) (below : List Frame) (w : va_W) (o : Option Value) (w' : va_W) (Q : State → Prop) : Prop := ∀ t, MQ below (QcT G w o w') args s 0 0 (va_B w) t → Q t
theorem W.mono {p : Program} {l : Launch} {e : Env} {R : Room} {s : State} {m : MethodId} {args : Array Value} {below : List Frame} {meth : Method} {c : Code} {H : Heap} {locs : List Loc} {cells slots : Nat} {Q Q' : State → Prop} {g : JFrame} (h : ∀ t, Q t → Q' t) (k : W p l e R s m args below meth c H locs cells slots Q g) : W p l e R s m args below meth c H locs cells slots Q' g := fun T hT X => by
  obtain ⟨t, a, b⟩ := k T hT X
  exact ⟨t, a, h t b⟩
theorem CT.mk {l : Launch} {G : GG} {y : MethodName} {cc : ByteArray} {maxL : Nat} {ret : Option FieldType} {fr lo : Nat} {av : List Value} {w : va_W} {o : Option Value} {w' : va_W} {own : String} {la : List (Nat × Value)} (hy : plainName y.cls = true) (ho : y.cls = own) (hn : (lg_sl av).length ≤ maxL) (hla : lv_args 0 av = la)
    (body : ∀ (p : Program) (e : Env) (s : State) (m : MethodId) (args : Array Value) (below : List Frame) (meth : Method) (c : Code) (A : Nat → Prop) (Q : State → Prop), Ex G p s m meth c cc maxL ret own → (∀ q, A q → va_B w q) → Wd G A s s.heap [] w → Rt G s args below w o w' Q → ∀ ls : Array Slot, lv_has ls maxL la → W p l e (rmx fr lo) s m args below meth c s.heap [] 0 0 Q (F0 m 0 ls [])) : CT l G y cc maxL ret fr lo av w o w' := by
  refine Met.ofW (cc := cc) (maxL := maxL) (ret := ret) hy rfl ?_
  intro p e s m args below meth c s₁ B hml hv
  obtain ⟨rfl, hK, hP, hD⟩ := hv
  have hl := lv_entry av (n := maxL) hn
  rw [lg_entry_eq]
  subst hla
  exact body p e s m _ below meth c (va_B w) _ ⟨B.exec, B.bytes, hml, ho ▸ findClass_of_methodNamed B.named, B.returns, B.notSynchronized, hK⟩ (fun _ h => h) ⟨hP, ⟨hD.1, fun k q hk => ⟨k, q.2, hk⟩⟩, va_S.rf⟩ (fun _ h => h) _ hl
section XR
variable {p : Program} {l : Launch} {e : Env} {R : Room} {s : State} {m : MethodId} {args : Array Value} {below : List Frame} {meth : Method} {c : Code} {H : Heap} {locs : List Loc} {cells slots : Nat} {Q : State → Prop}
variable {G : GG} {A : Nat → Prop} {ws ws' w w' : va_W} {cc : ByteArray} {nL : Nat} {ret : Option FieldType} {own : String} {pc : Nat} {ls : Array Slot} {rest : List Value} {a : Nat} {v r : Int32} {v8 r8 : Int64}
/-- the end of a method -/
theorem Wd.F (hA : ∀ q, A q → va_B w q) (hw : Wd G A s H locs ws) : va_S (va_B w) s.heap H locs := ⟨hw.2.2.1, fun q h1 h2 => hw.2.2.2.1 q h1 (fun h => h2 (hA q h)), fun l hl => hA _ (hw.2.2.2.2 l hl)⟩
theorem x_iret (E : Ex G p s m meth c cc nL (some .int) own) (hA : ∀ q, A q → va_B w q) (rt : Rt G s args below w (some (.int r)) w' Q) (hw : Wd G A s H locs ws) (hdg : decode cc pc = .ok (.ireturn, 1)) (hv : v = r) (hww : ws = w') : W p l e R s m args below meth c H locs 0 0 Q (F0 m pc ls [.int v]) := by
  subst hv; subst hww
  exact W.mono rt (W.iret E.1 E.2.1 E.2.2.2.2.1 (fun t ht hW => ⟨⟨rfl, by rw [ht]; exact hw.1⟩, (Wd.F hA hw).F ht⟩) (Wd.F hA hw).2.2 hdg E.2.2.2.2.2.1)
theorem x_zret {ty : FieldType} (E : Ex G p s m meth c cc nL (some ty) own) (hA : ∀ q, A q → va_B w q) (rt : Rt G s args below w (some (.int r)) w' Q) (hw : Wd G A s H locs ws) (hn : narrow ty (.int v) = .int v) (hdg : decode cc pc = .ok (.ireturn, 1)) (hv : v = r) (hww : ws = w') : W p l e R s m args below meth c H locs 0 0 Q (F0 m pc ls [.int v]) := by
  subst hv; subst hww
  exact W.mono rt (W.zret E.1 E.2.1 E.2.2.2.2.1 hn (fun t ht hW => ⟨⟨rfl, by rw [ht]; exact hw.1⟩, (Wd.F hA hw).F ht⟩) (Wd.F hA hw).2.2 hdg E.2.2.2.2.2.1)
theorem x_lret (E : Ex G p s m meth c cc nL (some .long) own) (hA : ∀ q, A q → va_B w q) (rt : Rt G s args below w (some (.long r8)) w' Q) (hw : Wd G A s H locs ws) (hdg : decode cc pc = .ok (.lreturn, 1)) (hv : v8 = r8) (hww : ws = w') : W p l e R s m args below meth c H locs 0 0 Q (F0 m pc ls [.long v8]) := by
  subst hv; subst hww
  exact W.mono rt (W.lret E.1 E.2.1 E.2.2.2.2.1 (fun t ht hW => ⟨⟨rfl, by rw [ht]; exact hw.1⟩, (Wd.F hA hw).F ht⟩) (Wd.F hA hw).2.2 hdg E.2.2.2.2.2.1)
theorem x_vret (E : Ex G p s m meth c cc nL none own) (hA : ∀ q, A q → va_B w q) (rt : Rt G s args below w none w' Q) (hw : Wd G A s H locs ws) (hdg : decode cc pc = .ok (.return_, 1)) (hww : ws = w') : W p l e R s m args below meth c H locs 0 0 Q (F0 m pc ls []) := by
  subst hww
  exact W.mono rt (W.vret E.1 E.2.1 E.2.2.2.2.1 (fun t ht hW => ⟨⟨rfl, by rw [ht]; exact hw.1⟩, (Wd.F hA hw).F ht⟩) (Wd.F hA hw).2.2 hdg E.2.2.2.2.2.1)
/-- a field's words: of the class own's pool entry 'index', the field k of the class ci -/
def FW (own : String) (index ci k : Nat) : Prop := ∃ (C : String) (T : u_T) (N : Nat) (ty0 : Nat → FieldType), cls[ci]? = some (C, T, N) ∧ k < N ∧ (∀ x ∈ u_ws C T N, okw x) ∧ (∀ j, j < N → parseFieldDescriptor (T j).2.2.1 = some (ty0 j)) ∧ (∀ a, a < N → ∀ b, b < N → a ≠ b → (T a).2.1 ≠ (T b).2.1) ∧ (okw (.fieldLink own index (T k).1 (T k).2.1 (T k).2.2.1) ∨ ∃ host, okw (.fieldLinkNest own index (T k).1 (T k).2.1 (T k).2.2.1 host))
theorem x_get (E : Ex G p s m meth c cc nL ret own) (hw : Wd G A s H locs ws) {index ci k : Nat} (f : FW own index ci k) (q0 : Nat) {fs : List Value} (he : ws[q0]? = some (a, .inr (ci, fs))) {v : Value} (hv : fs[k]? = some v) (hdg : decode cc pc = .ok (.getfield index, 3))
    (kk : W p l e R s m args below meth c H locs cells slots Q (F0 m (pc + 3) ls (v :: rest))) : W p l e R s m args below meth c H locs cells slots Q (F0 m pc ls (.ref a :: rest)) := by
  obtain ⟨C, T, N, ty0, hc, hk, hl, hty, hnm, ho⟩ := f
  obtain ⟨hx, hb, hml, hown, hr, hlk, hK⟩ := E
  rcases ho with h | ⟨host, h⟩
  · exact va_get (Ts := u_ws C T N) hx hb (fun w' h' => hK.w (hl w' h')) (fun _ h => h) hown hK.1 hw.1 q0 he hc k hk (hK.w h) (fun _ h => h) hv hdg kk
  · exact va_getN (Ts := u_ws C T N) hx hb (fun w' h' => hK.w (hl w' h')) (fun _ h => h) hown hK.1 hw.1 q0 he hc k hk (hK.w h) (fun _ h => h) hv hdg kk
theorem x_put (E : Ex G p s m meth c cc nL ret own) (hw : Wd G A s H locs ws) {index ci k : Nat} (f : FW own index ci k) (q0 : Nat) {fs : List Value} (he : ws[q0]? = some (a, .inr (ci, fs))) {v : Value} {ty : FieldType} {C : String} {T : u_T} {N : Nat} (hc : cls[ci]? = some (C, T, N)) (hfin : (T k).2.2.2 = false) (hd : parseFieldDescriptor (T k).2.2.1 = some ty) (hn : narrow ty v = v) (hfit : fits ty v = true) (hlen : k < fs.length) (hdg : decode cc pc = .ok (.putfield index, 3)) (hws : ws.set q0 (a, .inr (ci, fs.set k v)) = ws')
    (kk : ∀ (H1 : Heap) (locs1 : List Loc), Wd G A s H1 locs1 ws' → W p l e R s m args below meth c H1 locs1 cells slots Q (F0 m (pc + 3) ls rest)) : W p l e R s m args below meth c H locs cells slots Q (F0 m pc ls (v :: .ref a :: rest)) := by
  obtain ⟨C2, T2, N2, ty0, hc2, hk, hl, hty, hnm, ho⟩ := f
  obtain ⟨hx, hb, hml, hown, hr, hlk, hK⟩ := E
  cases hc.symm.trans hc2
  subst hws
  rcases ho with h | ⟨host, h⟩
  · exact va_put (Ts := u_ws C T N) hx hb (fun w' h' => hK.w (hl w' h')) (fun _ h => h) ty0 hty hnm hown hK.1 hw.1 hw.2.1 hw.2.2 q0 he hc k hk (hK.w h) (fun _ h => h) hfin hd hn hfit hlen hdg (fun H1 locs1 h1 h2 h3 => kk H1 locs1 ⟨h1, h2, h3⟩)
  · exact va_putN (Ts := u_ws C T N) hx hb (fun w' h' => hK.w (hl w' h')) (fun _ h => h) ty0 hty hnm hown hK.1 hw.1 hw.2.1 hw.2.2 q0 he hc k hk (hK.w h) (fun _ h => h) hfin hd hn hfit hlen hdg (fun H1 locs1 h1 h2 h3 => kk H1 locs1 ⟨h1, h2, h3⟩)
/-- int arrays, at a place that is a natural number -/
theorem x_iald (E : Ex G p s m meth c cc nL ret own) (hw : Wd G A s H locs ws) (q0 : Nat) {n : Nat} {f : Nat → Int32} (ha : ws[q0]? = some (a, .inl (G.2 0, n, .inl f))) {i : Int32} (k : Nat) (hi : i = nI k) (hk : k < n) (hn : n < 2 ^ 31) (hdg : decode cc pc = .ok (.iaload, 1))
    (kk : W p l e R s m args below meth c H locs cells slots Q (F0 m (pc + 1) ls (.int (f k) :: rest))) : W p l e R s m args below meth c H locs cells slots Q (F0 m pc ls (.int i :: .ref a :: rest)) := by
  subst hi
  refine va_iald E.1 E.2.1 E.2.2.2.2.2.2.1 hw.1 q0 0 ha rfl (vp_in_nI hk hn) hdg ?_
  rw [nI_clamp (by omega)]
  exact kk
theorem x_bald (E : Ex G p s m meth c cc nL ret own) (hw : Wd G A s H locs ws) (q0 : Nat) {n : Nat} {f : Nat → Int32} (ha : ws[q0]? = some (a, .inl (G.2 1, n, .inl f))) {i : Int32} (k : Nat) (hi : i = nI k) (hk : k < n) (hn : n < 2 ^ 31) (hdg : decode cc pc = .ok (.baload, 1))
    (kk : W p l e R s m args below meth c H locs cells slots Q (F0 m (pc + 1) ls (.int (f k) :: rest))) : W p l e R s m args below meth c H locs cells slots Q (F0 m pc ls (.int i :: .ref a :: rest)) := by
  subst hi
  refine va_bald E.1 E.2.1 E.2.2.2.2.2.2.1 hw.1 q0 1 ha rfl (vp_in_nI hk hn) hdg ?_
  rw [nI_clamp (by omega)]
  exact kk
theorem x_zald (E : Ex G p s m meth c cc nL ret own) (hw : Wd G A s H locs ws) (q0 : Nat) {n : Nat} {f : Nat → Int32} (ha : ws[q0]? = some (a, .inl (G.2 2, n, .inl f))) {i : Int32} (k : Nat) (hi : i = nI k) (hk : k < n) (hn : n < 2 ^ 31) (hdg : decode cc pc = .ok (.baload, 1))
    (kk : W p l e R s m args below meth c H locs cells slots Q (F0 m (pc + 1) ls (.int (f k) :: rest))) : W p l e R s m args below meth c H locs cells slots Q (F0 m pc ls (.int i :: .ref a :: rest)) := by
  subst hi
  refine va_zald E.1 E.2.1 E.2.2.2.2.2.2.1 hw.1 q0 2 ha rfl (vp_in_nI hk hn) hdg ?_
  rw [nI_clamp (by omega)]
  exact kk
theorem x_iast (E : Ex G p s m meth c cc nL ret own) (hw : Wd G A s H locs ws) (q0 : Nat) {n : Nat} {f : Nat → Int32} (ha : ws[q0]? = some (a, .inl (G.2 0, n, .inl f))) {i x : Int32} (k : Nat) (hi : i = nI k) (hk : k < n) (hn : n < 2 ^ 31) (hdg : decode cc pc = .ok (.iastore, 1)) (hws : ws.set q0 (a, .inl (G.2 0, n, .inl (upd f k x))) = ws')
    (kk : ∀ (H1 : Heap) (locs1 : List Loc), Wd G A s H1 locs1 ws' → W p l e R s m args below meth c H1 locs1 cells slots Q (F0 m (pc + 1) ls rest)) : W p l e R s m args below meth c H locs cells slots Q (F0 m pc ls (.int x :: .int i :: .ref a :: rest)) := by
  subst hi
  refine va_iast E.1 E.2.1 E.2.2.2.2.2.2.1 hw.1 hw.2.1 hw.2.2 q0 0 ha rfl (vp_in_nI hk hn) hdg (fun H1 locs1 h1 h2 h3 => ?_)
  rw [nI_clamp (by omega)] at h1 h2
  subst hws
  exact kk H1 locs1 ⟨h1, h2, h3⟩
theorem x_bast (E : Ex G p s m meth c cc nL ret own) (hw : Wd G A s H locs ws) (q0 : Nat) {n : Nat} {f : Nat → Int32} (ha : ws[q0]? = some (a, .inl (G.2 1, n, .inl f))) {i x : Int32} (k : Nat) (hi : i = nI k) (hk : k < n) (hn : n < 2 ^ 31) (hdg : decode cc pc = .ok (.bastore, 1)) (hws : ws.set q0 (a, .inl (G.2 1, n, .inl (upd f k x.toInt8.toInt32))) = ws')
    (kk : ∀ (H1 : Heap) (locs1 : List Loc), Wd G A s H1 locs1 ws' → W p l e R s m args below meth c H1 locs1 cells slots Q (F0 m (pc + 1) ls rest)) : W p l e R s m args below meth c H locs cells slots Q (F0 m pc ls (.int x :: .int i :: .ref a :: rest)) := by
  subst hi
  refine va_bast E.1 E.2.1 E.2.2.2.2.2.2.1 hw.1 hw.2.1 hw.2.2 q0 1 ha rfl (vp_in_nI hk hn) hdg (fun H1 locs1 h1 h2 h3 => ?_)
  rw [nI_clamp (by omega), vp_nar_byte] at h1 h2
  subst hws
  exact kk H1 locs1 ⟨h1, h2, h3⟩
theorem x_zast (E : Ex G p s m meth c cc nL ret own) (hw : Wd G A s H locs ws) (q0 : Nat) {n : Nat} {f : Nat → Int32} (ha : ws[q0]? = some (a, .inl (G.2 2, n, .inl f))) {i x : Int32} (k : Nat) (hi : i = nI k) (hk : k < n) (hn : n < 2 ^ 31) (hdg : decode cc pc = .ok (.bastore, 1)) (hws : ws.set q0 (a, .inl (G.2 2, n, .inl (upd f k (vp_nar .boolean x)))) = ws')
    (kk : ∀ (H1 : Heap) (locs1 : List Loc), Wd G A s H1 locs1 ws' → W p l e R s m args below meth c H1 locs1 cells slots Q (F0 m (pc + 1) ls rest)) : W p l e R s m args below meth c H locs cells slots Q (F0 m pc ls (.int x :: .int i :: .ref a :: rest)) := by
  subst hi
  refine va_zast E.1 E.2.1 E.2.2.2.2.2.2.1 hw.1 hw.2.1 hw.2.2 q0 2 ha rfl (vp_in_nI hk hn) hdg (fun H1 locs1 h1 h2 h3 => ?_)
  rw [nI_clamp (by omega)] at h1 h2
  subst hws
  exact kk H1 locs1 ⟨h1, h2, h3⟩
/-- the same cells where an array's contents agree below its length -/
theorem arr_eq {cI : ClassId} {n : Nat} {f g : Nat → Int32} (h : ∀ j, j < n → f j = g j) : vp_cell cI (n, .inl f) = vp_cell cI (n, .inl g) := by
  show arrV cI n (fun j => .int (f j)) = arrV cI n (fun j => .int (g j))
  unfold arrV
  congr 2
  funext j
  show Value.int (f j.val) = Value.int (g j.val)
  rw [h j.val j.isLt]
theorem Wd.arr (hw : Wd G A s H locs ws) (q0 : Nat) {cA : ClassId} {n : Nat} {f g : Nat → Int32} (ha : ws[q0]? = some (a, .inl (cA, n, .inl f))) (h : ∀ j, j < n → f j = g j) (hws : ws.set q0 (a, .inl (cA, n, .inl g)) = ws') : Wd G A s H locs ws' := by
  subst hws
  refine ⟨hw.1.set hw.2.1 ha ?_ (fun _ _ => rfl), hw.2.1.set ha, hw.2.2⟩
  show H[a]? = some (vp_cell cA (n, .inl g))
  rw [← arr_eq h]
  exact hw.1 q0 _ ha
/-- the library's words: a static method of another class -/
def LW (own : String) (index : Nat) (y : MethodName) : Prop := okw (.methodLink own index y) ∧ okw (.static y) ∧ okw (.initialized y.cls)
theorem x_mmax (E : Ex G p s m meth c cc nL ret own) {index : Nat} (hl : LW own index Lib.Math.max.name) (hcode : okw (.code Lib.Math.max.name Lib.Math.max.code 2 (some .int))) (hls : ls.size = nL) (hframes : 1 ≤ R.frames) (hlocals : (rest.map fun v => v.category).sum + 13 ≤ R.locals) (hc : cells ≤ R.cells) (hs : slots ≤ R.slots) {x y : Int32} (hdg : decode cc pc = .ok (.invokestatic index, 3))
    (kk : W p l e R s m args below meth c H locs cells slots Q (F0 m (pc + 3) ls (.int (if x < y then y else x) :: rest))) : W p l e R s m args below meth c H locs cells slots Q (F0 m pc ls (.int y :: .int x :: rest)) :=
  va_mmax E.1 E.2.1 (by rw [hls]; exact E.2.2.1) E.2.2.2.1 (E.2.2.2.2.2.2.w hl.1) (E.2.2.2.2.2.2.w hl.2.1) (E.2.2.2.2.2.2.w hl.2.2) (E.2.2.2.2.2.2.w hcode) hframes hlocals hc hs hdg kk
theorem x_mmin (E : Ex G p s m meth c cc nL ret own) {index : Nat} (hl : LW own index Lib.Math.min.name) (hcode : okw (.code Lib.Math.min.name Lib.Math.min.code 2 (some .int))) (hls : ls.size = nL) (hframes : 1 ≤ R.frames) (hlocals : (rest.map fun v => v.category).sum + 13 ≤ R.locals) (hc : cells ≤ R.cells) (hs : slots ≤ R.slots) {x y v : Int32} (hdg : decode cc pc = .ok (.invokestatic index, 3)) (hv : (if y < x then y else x) = v)
    (kk : W p l e R s m args below meth c H locs cells slots Q (F0 m (pc + 3) ls (.int v :: rest))) : W p l e R s m args below meth c H locs cells slots Q (F0 m pc ls (.int y :: .int x :: rest)) := by
  refine va_mmin E.1 E.2.1 (by rw [hls]; exact E.2.2.1) E.2.2.2.1 (E.2.2.2.2.2.2.w hl.1) (E.2.2.2.2.2.2.w hl.2.1) (E.2.2.2.2.2.2.w hl.2.2) (E.2.2.2.2.2.2.w hcode) hframes hlocals hc hs hdg ?_
  subst hv
  exact kk
theorem x_copyi (E : Ex G p s m meth c cc nL ret own) (hw : Wd G A s H locs ws) {index : Nat} (hl : LW own index arraycopyName) (hnat : okw (.native arraycopyName)) (hls : ls.size = nL) (q0 q1 : Nat) {a0 n : Nat} {f g : Nat → Int32} (ha0 : ws[q0]? = some (a0, .inl (G.2 0, n, .inl f))) (ha1 : ws[q1]? = some (a, .inl (G.2 0, n, .inl g))) {sp dp x : Int32} (hsp : sp = 0) (hdp : dp = 0) (hx : x = nI n) (hn : n < 2 ^ 31)
    (hframes : 1 ≤ R.frames) (hlocals : (rest.map fun v => v.category).sum + (nativeFrameWords "java/lang/System" "arraycopy" 5 + 11) ≤ R.locals) (hdg : decode cc pc = .ok (.invokestatic index, 3)) (hws : ws.set q1 (a, .inl (G.2 0, n, .inl f)) = ws')
    (kk : ∀ (H1 : Heap) (locs1 : List Loc), Wd G A s H1 locs1 ws' → W p l e R s m args below meth c H1 locs1 cells slots Q (F0 m (pc + 3) ls rest)) : W p l e R s m args below meth c H locs cells slots Q (F0 m pc ls (.int x :: .int dp :: .ref a :: .int sp :: .ref a0 :: rest)) := by
  subst hsp; subst hdp; subst hx
  have e0 : (0 : Int32).toNatClampNeg = 0 := by decide
  have en : (nI n).toNatClampNeg = n := nI_clamp hn
  refine va_copyi (ty := .int) E.1 E.2.1 (by rw [hls]; exact E.2.2.1) E.2.2.2.1 (E.2.2.2.2.2.2.w hl.1) (E.2.2.2.2.2.2.w hnat) (E.2.2.2.2.2.2.w hl.2.1) (E.2.2.2.2.2.2.w hl.2.2) E.2.2.2.2.2.2.1 hw.1 hw.2.1 hw.2.2 q0 q1 0 0 ha0 ha1 rfl rfl rfl (by decide) (by decide) (nI_pos hn) (by rw [e0, en]; omega) (by rw [e0, en]; omega) (fun _ _ => rfl) hframes hlocals hdg (fun H1 locs1 h1 h2 h3 => ?_)
  rw [e0, en] at h1 h2
  refine kk H1 locs1 (Wd.arr (G := G) (ws := ws.set q1 (a, .inl (G.2 0, n, .inl (va_cpy f g 0 0 n)))) (a := a) ⟨h1, h2, h3⟩ q1 (g := f) (List.getElem?_set_self (List.getElem?_eq_some_iff.mp ha1).1) (fun j hj => ?_) ?_)
  · rw [pk_cpy_in (Nat.zero_le j) (by omega)]
    congr 1
    omega
  · rw [List.set_set]
    exact hws
theorem x_len (E : Ex G p s m meth c cc nL ret own) (hw : Wd G A s H locs ws) (q0 t0 : Nat) {cA : ClassId} {x : vp_A} (ha : ws[q0]? = some (a, .inl (cA, x))) {ty : FieldType} (ht : (gty G)[t0]? = some (cA, ty)) {v : Int32} (hv : Int32.ofNat x.1 = v) (hdg : decode cc pc = .ok (.arraylength, 1))
    (kk : W p l e R s m args below meth c H locs cells slots Q (F0 m (pc + 1) ls (.int v :: rest))) : W p l e R s m args below meth c H locs cells slots Q (F0 m pc ls (.ref a :: rest)) :=
  va_alen E.1 E.2.1 E.2.2.2.2.2.2.1 hw.1 q0 t0 ha ht hv hdg kk
theorem x_aldq (E : Ex G p s m meth c cc nL ret own) (hw : Wd G A s H locs ws) (q0 t0 : Nat) {cA : ClassId} {C : String} {n : Nat} {f : Nat → Option Nat} (ha : ws[q0]? = some (a, .inl (cA, n, .inr (.inr (.inr (.inr f)))))) (ht : (gty G)[t0]? = some (cA, .object C)) {i : Int32} (k : Nat) (hi : i = nI k) (hk : k < n) (hn : n < 2 ^ 31) {b : Nat} (hf : f k = some b) (hdg : decode cc pc = .ok (.aaload, 1))
    (kk : W p l e R s m args below meth c H locs cells slots Q (F0 m (pc + 1) ls (.ref b :: rest))) : W p l e R s m args below meth c H locs cells slots Q (F0 m pc ls (.int i :: .ref a :: rest)) := by
  subst hi
  refine va_aldq E.1 E.2.1 E.2.2.2.2.2.2.1 hw.1 q0 t0 ha ht (vp_in_nI hk hn) hdg ?_
  rw [nI_clamp (by omega), hf]
  exact kk
end XR
/-! calls -/
def setAll : va_W → List Nat → va_W → va_W
  | ws, i :: is, q :: qs => setAll (ws.set i q) is qs
  | ws, _, _ => ws
theorem setAll_out : ∀ (is : List Nat) (ws qs : va_W) (k : Nat), k ∉ is → (setAll ws is qs)[k]? = ws[k]?
  | [], ws, qs, k, _ => by cases qs <;> rfl
  | i :: is, ws, [], k, _ => rfl
  | i :: is, ws, q :: qs, k, h => by
    have h1 : k ≠ i := fun e => h (by rw [e]; exact List.mem_cons_self)
    have h2 : k ∉ is := fun e => h (List.mem_cons_of_mem _ e)
    show (setAll (ws.set i q) is qs)[k]? = _
    rw [setAll_out is _ qs k h2, List.getElem?_set_ne (Ne.symm h1)]
theorem setAll_in : ∀ (is : List Nat) (ws qs : va_W) (k : Nat), va_nd is = true → is.length = qs.length → (∀ i ∈ is, i < ws.length) → k ∈ is → ∃ (j : Nat) (q : Nat × va_E), is[j]? = some k ∧ qs[j]? = some q ∧ (setAll ws is qs)[k]? = some q
  | [], _, _, _, _, _, _, h => absurd h List.not_mem_nil
  | i :: is, ws, [], k, _, hl, _, _ => by simp at hl
  | i :: is, ws, q :: qs, k, hn, hl, hb, h => by
    simp only [va_nd, Bool.and_eq_true, decide_eq_true_eq] at hn
    by_cases hk : k ∈ is
    · obtain ⟨j, q', h1, h2, h3⟩ := setAll_in is (ws.set i q) qs k hn.2 (by simpa using hl) (fun i' hi' => by rw [List.length_set]; exact hb i' (List.mem_cons_of_mem _ hi')) hk
      exact ⟨j + 1, q', by simpa using h1, by simpa using h2, h3⟩
    · have hki : k = i := by
        rcases List.mem_cons.mp h with e | e
        · exact e
        · exact absurd e hk
      subst hki
      refine ⟨0, q, rfl, rfl, ?_⟩
      show (setAll (ws.set k q) is qs)[k]? = _
      rw [setAll_out is _ qs k hk, List.getElem?_set_self (hb k List.mem_cons_self)]
theorem setAll_len : ∀ (is : List Nat) (ws qs : va_W), (setAll ws is qs).length = ws.length
  | [], ws, qs => by cases qs <;> rfl
  | i :: is, ws, [] => rfl
  | i :: is, ws, q :: qs => by
    show (setAll (ws.set i q) is qs).length = _
    rw [setAll_len is _ qs, List.length_set]
theorem map_at {ws w : va_W} {is : List Nat} (hs : is.map (fun i => ws[i]?) = w.map some) {k : Nat} {q : Nat × va_E} (hq : w[k]? = some q) : ∃ i, is[k]? = some i ∧ ws[i]? = some q := by
  have h1 : (is.map (fun i => ws[i]?))[k]? = some (some q) := by rw [hs, List.getElem?_map, hq]; rfl
  rw [List.getElem?_map] at h1
  cases hi : is[k]? with
  | none => rw [hi] at h1; cases h1
  | some i => rw [hi] at h1; exact ⟨i, rfl, Option.some.inj h1⟩
theorem map_at' {ws w : va_W} {is : List Nat} (hs : is.map (fun i => ws[i]?) = w.map some) {k i : Nat} (hi : is[k]? = some i) : ∃ q, w[k]? = some q ∧ ws[i]? = some q := by
  have h1 : (w.map some)[k]? = some (ws[i]?) := by rw [← hs, List.getElem?_map, hi]; rfl
  rw [List.getElem?_map] at h1
  cases hq : w[k]? with
  | none => rw [hq] at h1; cases h1
  | some q => rw [hq] at h1; exact ⟨q, rfl, (Option.some.inj h1).symm⟩
theorem Wd.back {G : GG} {A : Nat → Prop} {s : State} {H H1 : Heap} {locs locs1 : List Loc} {ws w w' : va_W} (hw : Wd G A s H locs ws) (is : List Nat) (hC : is.map (fun i => ws[i]?) = w.map some) (hn : va_nd is = true) (ha : w'.map (·.1) = w.map (·.1)) (hk : ∀ q : Nat, q < H.size → ¬ va_B w q → H1[q]? = H[q]?) (hP1 : va_P G.1 cls w' H1) (hS : va_S A s.heap H1 locs1) : Wd G A s H1 locs1 (setAll ws is w') := by
  have hlen : is.length = w'.length := by
    have h1 := congrArg List.length hC
    have h2 := congrArg List.length ha
    simp only [List.length_map] at h1 h2
    omega
  have hb : ∀ i ∈ is, i < ws.length := fun i hi => by
    obtain ⟨j, hj⟩ := List.getElem?_of_mem hi
    obtain ⟨q, -, h2⟩ := map_at' hC hj
    exact (List.getElem?_eq_some_iff.mp h2).1
  have hadr : ∀ (k : Nat) (q q' : Nat × va_E), w[k]? = some q → w'[k]? = some q' → q'.1 = q.1 := fun k q q' h1 h2 => by
    have h3 : (w'.map (·.1))[k]? = (w.map (·.1))[k]? := by rw [ha]
    rw [List.getElem?_map, List.getElem?_map, h1, h2] at h3
    exact Option.some.inj h3
  have key : ∀ (k : Nat) (q : Nat × va_E), (setAll ws is w')[k]? = some q → ∃ q0, ws[k]? = some q0 ∧ q0.1 = q.1 ∧ va_at G.1 cls q H1 := by
    intro k q hq
    by_cases hki : k ∈ is
    · obtain ⟨j, q', h1, h2, h3⟩ := setAll_in is ws w' k hn hlen hb hki
      rw [h3] at hq
      cases hq
      obtain ⟨q0, h4, h5⟩ := map_at' hC h1
      exact ⟨q0, h5, (hadr j q0 q h4 h2).symm, hP1 j q h2⟩
    · rw [setAll_out is ws w' k hki] at hq
      refine ⟨q, hq, rfl, (hw.1 k q hq).kept (hk q.1 (hw.1 k q hq).lt (fun h => ?_))⟩
      obtain ⟨j, e, hj⟩ := h
      obtain ⟨i, h1, h2⟩ := map_at hC hj
      have := hw.2.1.1 k i q (q.1, e) hq h2 rfl
      exact hki (by rw [this]; exact List.mem_of_getElem? h1)
  refine ⟨fun k q hq => ?_, ⟨fun i j p q hi hj hpq => ?_, fun k q hq => ?_⟩, hS⟩
  · obtain ⟨q0, -, -, h⟩ := key k q hq
    exact h
  · obtain ⟨p0, h1, h2, -⟩ := key i p hi
    obtain ⟨q0, h3, h4, -⟩ := key j q hj
    exact hw.2.1.1 i j p0 q0 h1 h3 (h2.trans (hpq.trans h4.symm))
  · obtain ⟨q0, h1, h2, -⟩ := key k q hq
    rw [← h2]
    exact hw.2.1.2 k q0 h1
section XC
variable {p : Program} {l : Launch} {e : Env} {R : Room} {s : State} {m : MethodId} {args : Array Value} {below : List Frame} {meth : Method} {c : Code} {H : Heap} {locs : List Loc} {cells slots : Nat} {Q : State → Prop}
variable {G : GG} {A : Nat → Prop} {ws ws' w w' : va_W} {cc bytes : ByteArray} {nL maxL : Nat} {ret ret' : Option FieldType} {own : String} {pc index fr lo : Nat} {ls : Array Slot} {rest st0 st1 As : List Value} {b : Nat} {y : MethodName} {o : Option Value}
theorem x_goes {a : Array Value} {is : List Nat} (hr : va_Run p l e R s m args below meth c H locs cells slots 0 0 (F0 m pc ls st0) rest (QcT G w o w' a) (va_B w)) (hw : Wd G A s H locs ws) (hC : is.map (fun i => ws[i]?) = w.map some) (hn : va_nd is = true) (ha : w'.map (·.1) = w.map (·.1)) (hws : setAll ws is w' = ws') (hst : o.toList ++ rest = st1)
    (kk : ∀ (H1 : Heap) (locs1 : List Loc), Wd G A s H1 locs1 ws' → W p l e R s m args below meth c H1 locs1 cells slots Q (F0 m (pc + 3) ls st1)) : W p l e R s m args below meth c H locs cells slots Q (F0 m pc ls st0) := by
  intro T hT X
  obtain ⟨v, st₀, t, T', L, h0, X', hL, e1, e2, ⟨⟨hv, hp⟩, hz, hk⟩, st⟩ := hr T hT X
  cases hv
  rw [h0] at hz hk
  subst hws
  subst hst
  have hBA : ∀ q, va_B w q → A q := fun q ⟨k, e', h⟩ => by
    obtain ⟨i, -, h2⟩ := map_at hC h
    exact hw.2.1.2 i _ h2
  obtain ⟨t2, a1, b1⟩ := kk T'.heap (locs ++ L) (hw.back is hC hn ha (fun q h1 h2 => by rw [e1]; exact hk q h1 h2) (by rw [e1]; exact hp)
    ⟨Nat.le_trans hw.2.2.1 (by rw [e1]; exact hz), fun q h1 h2 => by rw [e1, hk q (Nat.lt_of_lt_of_le h1 hw.2.2.1) (fun z => h2 (hBA q z))]; exact hw.2.2.2.1 q h1 h2, fun q hq => by
      rcases List.mem_append.mp hq with h | h
      · exact hw.2.2.2.2 q h
      · exact hBA _ (hL q h)⟩) T' rfl X'
  exact ⟨t2, st t2 a1, b1⟩
/-- a call's words -/
def MW (own : String) (index : Nat) (y : MethodName) (bytes : ByteArray) (maxL : Nat) (ret : Option FieldType) (n : Nat) : Prop :=
  (okw (.methodLink own index y) ∨ ∃ host, okw (.methodLinkNest own index y host)) ∧ okw (.initialized y.cls) ∧ (okw (.code y bytes maxL ret) ∧ goodWord (.code y bytes maxL ret) = true) ∧ (y.cls ≠ "java/lang/invoke/MethodHandle" ∧ y.cls ≠ "java/lang/invoke/VarHandle" ∧ (parseMethodDescriptor y.desc).map (fun d => d.parameters.length) = some n)
def VW (own : String) (index : Nat) (y : MethodName) (bytes : ByteArray) (maxL : Nat) (ret : Option FieldType) (n : Nat) : Prop := MW own index y bytes maxL ret n ∧ okw (.instanceMethod y) ∧ okw (.selects y.cls y y)
def SW (own : String) (index : Nat) (y : MethodName) (bytes : ByteArray) (maxL : Nat) (ret : Option FieldType) (n : Nat) : Prop := MW own index y bytes maxL ret n ∧ okw (.static y)
theorem PcT.blind {av : List Value} : FrameBlind (PcT G av w) := fun _ _ _ _ q => ⟨q.1, KK.call q.2.1, q.2.2⟩
theorem x_cb {n : Nat} (hK : KK G s) (h : MW own index y bytes maxL ret n) (hl : okw (.methodLink own index y)) (hR : fr + 1 ≤ R.frames ∧ 8 + (maxL + 11) + lo ≤ R.locals) : CallB R s args own index y bytes maxL ret [.code y bytes maxL ret] (rmx fr lo) 0 0 n := by
  obtain ⟨-, h2, ⟨h3, hg⟩, h4, h5, h6⟩ := h
  refine ⟨rfl, rfl, hR.1, hR.2, fun w' hw' a' U hW => ?_, List.mem_cons_self, hK.w h3, hK.w h2, ⟨h4, h5⟩, fun sig hs => ?_, hK.w hl⟩
  · rw [List.mem_singleton.mp hw']
    exact word_at hW (good_of_word hg) (hK.w (args := args) h3)
  · rw [hs] at h6
    exact (Option.some.inj h6).symm
theorem x_cn {n : Nat} {host : String} (hK : KK G s) (h : MW own index y bytes maxL ret n) (hl : okw (.methodLinkNest own index y host)) (hR : fr + 1 ≤ R.frames ∧ 8 + (maxL + 11) + lo ≤ R.locals) : va_CN R s args own index y host bytes maxL ret [.code y bytes maxL ret] (rmx fr lo) 0 0 n := by
  obtain ⟨-, h2, ⟨h3, hg⟩, h4, h5, h6⟩ := h
  refine ⟨⟨rfl, rfl, hR.1, hR.2, fun w' hw' a' U hW => ?_, List.mem_cons_self⟩, hK.w h3, hK.w h2, ⟨h4, h5⟩, fun sig hs => ?_, hK.w hl⟩
  · rw [List.mem_singleton.mp hw']
    exact word_at hW (good_of_word hg) (hK.w (args := args) h3)
  · rw [hs] at h6
    exact (Option.some.inj h6).symm
theorem x_pre {is : List Nat} (hK : KK G s) (hw : Wd G A s H locs ws) (hC : is.map (fun i => ws[i]?) = w.map some) (hn : va_nd is = true) (av : List Value) : ∀ U : State, U.heap = H → s.WarmedH U.vm → PcT G av w av.toArray U := by
  intro U hU hW
  refine ⟨rfl, hK.warm hW, ?_, (hw.2.1.sub is hn hC).weaken (fun _ _ _ _ => trivial)⟩
  rw [hU]
  intro k q hq
  obtain ⟨i, -, h2⟩ := map_at hC hq
  exact hw.1 i q h2
/-- a call of an instance method -/
theorem x_callV {is : List Nat} {n ci q0 : Nat} {fs : List Value} {q : vw_C} (E : Ex G p s m meth c cc nL ret own) (hM : CT l G y bytes maxL ret' fr lo (.ref b :: As) w o w') (hv : VW own index y bytes maxL ret' n) (hw : Wd G A s H locs ws) (is0 : List Nat) (his : is0 = is) (hq : ws[q0]? = some (b, .inr (ci, fs))) (hc : cls[ci]? = some q) (hqc : q.1 = y.cls) (hC : is.map (fun i => ws[i]?) = w.map some) (hnd : va_nd is = true) (ha : w'.map (·.1) = w.map (·.1)) (hlsz : ls.size = nL)
    (hn : As.length = n) (hst0 : st0 = As.reverse ++ .ref b :: rest) (hroom : (rest.map fun v => v.category).sum ≤ 8) (hR : fr + 1 ≤ R.frames ∧ 8 + (maxL + 11) + lo ≤ R.locals) (hcl : cells ≤ R.cells) (hsl : slots ≤ R.slots) (hdg : decode cc pc = .ok (.invokevirtual index, 3)) (hws : setAll ws is w' = ws') (hst : o.toList ++ rest = st1)
    (kk : ∀ (H1 : Heap) (locs1 : List Loc), Wd G A s H1 locs1 ws' → W p l e R s m args below meth c H1 locs1 cells slots Q (F0 m (pc + 3) ls st1)) : W p l e R s m args below meth c H locs cells slots Q (F0 m pc ls st0) := by
  obtain ⟨hx, hb, hml, hown, hr, hlk, hK⟩ := E
  have hrc := va_recv hK.1 hw.1 hc hq
  rw [hqc] at hrc
  have hp : PreV s H y.cls b (PcT G (.ref b :: As) w) As := ⟨PcT.blind, hrc, x_pre hK hw hC hnd _⟩
  have hts : ∀ w ∈ ([] : List Cond), w.before args s = true := fun _ h => absurd h List.not_mem_nil
  subst hst0
  rcases hv.1.1 with h | ⟨host, h⟩
  · exact x_goes (va_runV (Ts := []) ⟨hx, hb, hml, hown, hts⟩ hM ⟨x_cb hK hv.1 h hR, hK.w hv.2.1, hK.w hv.2.2⟩ hp rfl hn hlsz rfl (lv_room hroom) hdg ⟨hcl, hsl⟩) hw hC hnd ha hws hst kk
  · exact x_goes (va_runVN (Ts := []) ⟨hx, hb, hml, hown, hts⟩ hM ⟨x_cn hK hv.1 h hR, hK.w hv.2.1, hK.w hv.2.2⟩ hp rfl hn hlsz rfl (lv_room hroom) hdg ⟨hcl, hsl⟩) hw hC hnd ha hws hst kk
/-- a call of a static method -/
theorem x_callS {is : List Nat} {n : Nat} (E : Ex G p s m meth c cc nL ret own) (hM : CT l G y bytes maxL ret' fr lo As w o w') (hv : SW own index y bytes maxL ret' n) (hw : Wd G A s H locs ws) (is0 : List Nat) (his : is0 = is) (hC : is.map (fun i => ws[i]?) = w.map some) (hnd : va_nd is = true) (ha : w'.map (·.1) = w.map (·.1)) (hlsz : ls.size = nL)
    (hn : As.length = n) (hst0 : st0 = As.reverse ++ rest) (hroom : (rest.map fun v => v.category).sum ≤ 8) (hR : fr + 1 ≤ R.frames ∧ 8 + (maxL + 11) + lo ≤ R.locals) (hcl : cells ≤ R.cells) (hsl : slots ≤ R.slots) (hdg : decode cc pc = .ok (.invokestatic index, 3)) (hws : setAll ws is w' = ws') (hst : o.toList ++ rest = st1)
    (kk : ∀ (H1 : Heap) (locs1 : List Loc), Wd G A s H1 locs1 ws' → W p l e R s m args below meth c H1 locs1 cells slots Q (F0 m (pc + 3) ls st1)) : W p l e R s m args below meth c H locs cells slots Q (F0 m pc ls st0) := by
  obtain ⟨hx, hb, hml, hown, hr, hlk, hK⟩ := E
  have hp : PreS s H (PcT G As w) As := ⟨PcT.blind, x_pre hK hw hC hnd _⟩
  have hts : ∀ w ∈ ([] : List Cond), w.before args s = true := fun _ h => absurd h List.not_mem_nil
  subst hst0
  rcases hv.1.1 with h | ⟨host, h⟩
  · exact x_goes (va_runS (Ts := []) ⟨hx, hb, hml, hown, hts⟩ hM ⟨x_cb hK hv.1 h hR, hK.w hv.2⟩ hp rfl hn hlsz rfl (lv_room hroom) hdg ⟨hcl, hsl⟩) hw hC hnd ha hws hst kk
  · exact x_goes (va_runSN (Ts := []) ⟨hx, hb, hml, hown, hts⟩ hM ⟨x_cn hK hv.1 h hR, hK.w hv.2, trivial⟩ hp rfl hn hlsz rfl (lv_room hroom) hdg ⟨hcl, hsl⟩) hw hC hnd ha hws hst kk
end XC
end
section
theorem inT1 {w : Cond} (i : Nat) (h : tables_1_1[i]? = some w) : w ∈ lw_tbl := List.mem_append_right _ (List.mem_append_left _ (List.mem_of_getElem? h))
theorem inT2 {w : Cond} (i : Nat) (h : tables_1_2[i]? = some w) : w ∈ lw_tbl := List.mem_append_right _ (List.mem_append_right _ (List.mem_append_left _ (List.mem_of_getElem? h)))
theorem inT3 {w : Cond} (i : Nat) (h : tables_1_3[i]? = some w) : w ∈ lw_tbl := List.mem_append_right _ (List.mem_append_right _ (List.mem_append_right _ (List.mem_append_left _ (List.mem_of_getElem? h))))
theorem inT4 {w : Cond} (i : Nat) (h : tables_1_4[i]? = some w) : w ∈ lw_tbl := List.mem_append_right _ (List.mem_append_right _ (List.mem_append_right _ (List.mem_append_right _ (List.mem_append_left _ (List.mem_of_getElem? h)))))
theorem inT5 {w : Cond} (i : Nat) (h : tables_1_5[i]? = some w) : w ∈ lw_tbl := List.mem_append_right _ (List.mem_append_right _ (List.mem_append_right _ (List.mem_append_right _ (List.mem_append_right _ (List.mem_of_getElem? h)))))
theorem inS {w : Cond} (i : Nat) (h : (k2_sels lw_privs)[i]? = some w) : w ∈ lw_tbl := List.mem_append_left _ (List.mem_of_getElem? h)
theorem lay_X0 : ∀ x ∈ u_ws RX0 TX0 2, okw x := by
  show ∀ x ∈ [u_lay RX0 TX0 0, u_lay RX0 TX0 1], okw x
  exact List.forall_mem_cons.mpr ⟨⟨inT1 109 rfl, Or.inl rfl⟩, List.forall_mem_cons.mpr ⟨⟨inT1 111 rfl, Or.inl rfl⟩, fun _ h => absurd h List.not_mem_nil⟩⟩
theorem lay_X1 : ∀ x ∈ u_ws RX1 TX1 3, okw x := by
  show ∀ x ∈ [u_lay RX1 TX1 0, u_lay RX1 TX1 1, u_lay RX1 TX1 2], okw x
  exact List.forall_mem_cons.mpr ⟨⟨inT1 91 rfl, Or.inl rfl⟩, List.forall_mem_cons.mpr ⟨⟨inT1 93 rfl, Or.inl rfl⟩, List.forall_mem_cons.mpr ⟨⟨inT1 95 rfl, Or.inl rfl⟩, fun _ h => absurd h List.not_mem_nil⟩⟩⟩
theorem lay_X2 : ∀ x ∈ u_ws RX2 TX2 3, okw x := by
  show ∀ x ∈ [u_lay RX2 TX2 0, u_lay RX2 TX2 1, u_lay RX2 TX2 2], okw x
  exact List.forall_mem_cons.mpr ⟨⟨inT1 120 rfl, Or.inl rfl⟩, List.forall_mem_cons.mpr ⟨⟨inT1 122 rfl, Or.inl rfl⟩, List.forall_mem_cons.mpr ⟨⟨inT1 124 rfl, Or.inl rfl⟩, fun _ h => absurd h List.not_mem_nil⟩⟩⟩
theorem lay_X3 : ∀ x ∈ u_ws RX3 TX3 10, okw x := by
  show ∀ x ∈ [u_lay RX3 TX3 0, u_lay RX3 TX3 1, u_lay RX3 TX3 2, u_lay RX3 TX3 3, u_lay RX3 TX3 4, u_lay RX3 TX3 5, u_lay RX3 TX3 6, u_lay RX3 TX3 7, u_lay RX3 TX3 8, u_lay RX3 TX3 9], okw x
  exact List.forall_mem_cons.mpr ⟨⟨inT1 56 rfl, Or.inl rfl⟩, List.forall_mem_cons.mpr ⟨⟨inT1 58 rfl, Or.inl rfl⟩, List.forall_mem_cons.mpr ⟨⟨inT1 60 rfl, Or.inl rfl⟩, List.forall_mem_cons.mpr ⟨⟨inT1 62 rfl, Or.inl rfl⟩, List.forall_mem_cons.mpr ⟨⟨inT1 64 rfl, Or.inl rfl⟩, List.forall_mem_cons.mpr ⟨⟨inT1 66 rfl, Or.inl rfl⟩, List.forall_mem_cons.mpr ⟨⟨inT1 68 rfl, Or.inl rfl⟩, List.forall_mem_cons.mpr ⟨⟨inT1 70 rfl, Or.inl rfl⟩, List.forall_mem_cons.mpr ⟨⟨inT1 72 rfl, Or.inl rfl⟩, List.forall_mem_cons.mpr ⟨⟨inT1 74 rfl, Or.inl rfl⟩, fun _ h => absurd h List.not_mem_nil⟩⟩⟩⟩⟩⟩⟩⟩⟩⟩
theorem lay_X4 : ∀ x ∈ u_ws RX4 TX4 6, okw x := by
  show ∀ x ∈ [u_lay RX4 TX4 0, u_lay RX4 TX4 1, u_lay RX4 TX4 2, u_lay RX4 TX4 3, u_lay RX4 TX4 4, u_lay RX4 TX4 5], okw x
  exact List.forall_mem_cons.mpr ⟨⟨inT1 141 rfl, Or.inl rfl⟩, List.forall_mem_cons.mpr ⟨⟨inT1 143 rfl, Or.inl rfl⟩, List.forall_mem_cons.mpr ⟨⟨inT1 145 rfl, Or.inl rfl⟩, List.forall_mem_cons.mpr ⟨⟨inT1 147 rfl, Or.inl rfl⟩, List.forall_mem_cons.mpr ⟨⟨inT1 149 rfl, Or.inl rfl⟩, List.forall_mem_cons.mpr ⟨⟨inT1 151 rfl, Or.inl rfl⟩, fun _ h => absurd h List.not_mem_nil⟩⟩⟩⟩⟩⟩
theorem lay_X5 : ∀ x ∈ u_ws RX5 TX5 9, okw x := by
  show ∀ x ∈ [u_lay RX5 TX5 0, u_lay RX5 TX5 1, u_lay RX5 TX5 2, u_lay RX5 TX5 3, u_lay RX5 TX5 4, u_lay RX5 TX5 5, u_lay RX5 TX5 6, u_lay RX5 TX5 7, u_lay RX5 TX5 8], okw x
  exact List.forall_mem_cons.mpr ⟨⟨inT1 167 rfl, Or.inl rfl⟩, List.forall_mem_cons.mpr ⟨⟨inT1 169 rfl, Or.inl rfl⟩, List.forall_mem_cons.mpr ⟨⟨inT1 171 rfl, Or.inl rfl⟩, List.forall_mem_cons.mpr ⟨⟨inT1 173 rfl, Or.inl rfl⟩, List.forall_mem_cons.mpr ⟨⟨inT1 175 rfl, Or.inl rfl⟩, List.forall_mem_cons.mpr ⟨⟨inT1 177 rfl, Or.inl rfl⟩, List.forall_mem_cons.mpr ⟨⟨inT1 179 rfl, Or.inl rfl⟩, List.forall_mem_cons.mpr ⟨⟨inT1 181 rfl, Or.inl rfl⟩, List.forall_mem_cons.mpr ⟨⟨inT1 183 rfl, Or.inl rfl⟩, fun _ h => absurd h List.not_mem_nil⟩⟩⟩⟩⟩⟩⟩⟩⟩
theorem lay_X6 : ∀ x ∈ u_ws RX6 TX6 19, okw x := by
  show ∀ x ∈ [u_lay RX6 TX6 0, u_lay RX6 TX6 1, u_lay RX6 TX6 2, u_lay RX6 TX6 3, u_lay RX6 TX6 4, u_lay RX6 TX6 5, u_lay RX6 TX6 6, u_lay RX6 TX6 7, u_lay RX6 TX6 8, u_lay RX6 TX6 9, u_lay RX6 TX6 10, u_lay RX6 TX6 11, u_lay RX6 TX6 12, u_lay RX6 TX6 13, u_lay RX6 TX6 14, u_lay RX6 TX6 15, u_lay RX6 TX6 16, u_lay RX6 TX6 17, u_lay RX6 TX6 18], okw x
  exact List.forall_mem_cons.mpr ⟨⟨inT3 156 rfl, Or.inl rfl⟩, List.forall_mem_cons.mpr ⟨⟨inT3 158 rfl, Or.inl rfl⟩, List.forall_mem_cons.mpr ⟨⟨inT3 160 rfl, Or.inl rfl⟩, List.forall_mem_cons.mpr ⟨⟨inT3 162 rfl, Or.inl rfl⟩, List.forall_mem_cons.mpr ⟨⟨inT3 164 rfl, Or.inl rfl⟩, List.forall_mem_cons.mpr ⟨⟨inT3 166 rfl, Or.inl rfl⟩, List.forall_mem_cons.mpr ⟨⟨inT3 168 rfl, Or.inl rfl⟩, List.forall_mem_cons.mpr ⟨⟨inT3 170 rfl, Or.inl rfl⟩, List.forall_mem_cons.mpr ⟨⟨inT3 172 rfl, Or.inl rfl⟩, List.forall_mem_cons.mpr ⟨⟨inT3 174 rfl, Or.inl rfl⟩, List.forall_mem_cons.mpr ⟨⟨inT3 176 rfl, Or.inl rfl⟩, List.forall_mem_cons.mpr ⟨⟨inT3 178 rfl, Or.inl rfl⟩, List.forall_mem_cons.mpr ⟨⟨inT3 180 rfl, Or.inl rfl⟩, List.forall_mem_cons.mpr ⟨⟨inT3 182 rfl, Or.inl rfl⟩, List.forall_mem_cons.mpr ⟨⟨inT3 184 rfl, Or.inl rfl⟩, List.forall_mem_cons.mpr ⟨⟨inT3 186 rfl, Or.inl rfl⟩, List.forall_mem_cons.mpr ⟨⟨inT3 188 rfl, Or.inl rfl⟩, List.forall_mem_cons.mpr ⟨⟨inT3 190 rfl, Or.inl rfl⟩, List.forall_mem_cons.mpr ⟨⟨inT3 192 rfl, Or.inl rfl⟩, fun _ h => absurd h List.not_mem_nil⟩⟩⟩⟩⟩⟩⟩⟩⟩⟩⟩⟩⟩⟩⟩⟩⟩⟩⟩
theorem vw_L_13 : VW RL 13 yX5_table cX5_table 3 (some .int) 1 := ⟨⟨Or.inl ⟨inT1 186 rfl, Or.inl rfl⟩, ⟨inT1 1 rfl, Or.inl rfl⟩, ⟨⟨inT1 189 rfl, Or.inl rfl⟩, rfl⟩, by decide +kernel⟩, ⟨inT1 187 rfl, Or.inl rfl⟩, ⟨inT1 188 rfl, Or.inl rfl⟩⟩
theorem vw_L_17 : VW RL 17 yX6_table cX6_table 3 (some .int) 1 := ⟨⟨Or.inl ⟨inT3 195 rfl, Or.inl rfl⟩, ⟨inT1 7 rfl, Or.inl rfl⟩, ⟨⟨inT3 198 rfl, Or.inl rfl⟩, rfl⟩, by decide +kernel⟩, ⟨inT3 196 rfl, Or.inl rfl⟩, ⟨inT3 197 rfl, Or.inl rfl⟩⟩
theorem vw_L_18 : VW RL 18 yX5_child cX5_child 6 (some .int) 4 := ⟨⟨Or.inl ⟨inT1 219 rfl, Or.inl rfl⟩, ⟨inT1 1 rfl, Or.inl rfl⟩, ⟨⟨inT1 222 rfl, Or.inl rfl⟩, rfl⟩, by decide +kernel⟩, ⟨inT1 220 rfl, Or.inl rfl⟩, ⟨inT1 221 rfl, Or.inl rfl⟩⟩
theorem vw_L_22 : VW RL 22 yX6_child cX6_child 5 (some .int) 4 := ⟨⟨Or.inl ⟨inT3 210 rfl, Or.inl rfl⟩, ⟨inT1 7 rfl, Or.inl rfl⟩, ⟨⟨inT3 213 rfl, Or.inl rfl⟩, rfl⟩, by decide +kernel⟩, ⟨inT3 211 rfl, Or.inl rfl⟩, ⟨inT3 212 rfl, Or.inl rfl⟩⟩
theorem vw_L_23 : VW RL 23 yX5_type cX5_type 2 (some .int) 1 := ⟨⟨Or.inl ⟨inT1 232 rfl, Or.inl rfl⟩, ⟨inT1 1 rfl, Or.inl rfl⟩, ⟨⟨inT1 235 rfl, Or.inl rfl⟩, rfl⟩, by decide +kernel⟩, ⟨inT1 233 rfl, Or.inl rfl⟩, ⟨inT1 234 rfl, Or.inl rfl⟩⟩
theorem vw_L_26 : VW RL 26 yX6_type cX6_type 2 (some .int) 1 := ⟨⟨Or.inl ⟨inT3 231 rfl, Or.inl rfl⟩, ⟨inT1 7 rfl, Or.inl rfl⟩, ⟨⟨inT3 234 rfl, Or.inl rfl⟩, rfl⟩, by decide +kernel⟩, ⟨inT3 232 rfl, Or.inl rfl⟩, ⟨inT3 233 rfl, Or.inl rfl⟩⟩
theorem vw_L_27 : VW RL 27 yX5_clear cX5_clear 2 (some .int) 0 := ⟨⟨Or.inl ⟨inT2 0 rfl, Or.inl rfl⟩, ⟨inT1 1 rfl, Or.inl rfl⟩, ⟨⟨inT2 3 rfl, Or.inl rfl⟩, rfl⟩, by decide +kernel⟩, ⟨inT2 1 rfl, Or.inl rfl⟩, ⟨inT2 2 rfl, Or.inl rfl⟩⟩
theorem vw_L_31 : VW RL 31 yX6_clear cX6_clear 2 (some .int) 0 := ⟨⟨Or.inl ⟨inT3 236 rfl, Or.inl rfl⟩, ⟨inT1 7 rfl, Or.inl rfl⟩, ⟨⟨inT3 239 rfl, Or.inl rfl⟩, rfl⟩, by decide +kernel⟩, ⟨inT3 237 rfl, Or.inl rfl⟩, ⟨inT3 238 rfl, Or.inl rfl⟩⟩
theorem vw_L_32 : VW RL 32 yX5_read cX5_read 2 (some .int) 0 := ⟨⟨Or.inl ⟨inT2 4 rfl, Or.inl rfl⟩, ⟨inT1 1 rfl, Or.inl rfl⟩, ⟨⟨inT2 7 rfl, Or.inl rfl⟩, rfl⟩, by decide +kernel⟩, ⟨inT2 5 rfl, Or.inl rfl⟩, ⟨inT2 6 rfl, Or.inl rfl⟩⟩
theorem vw_L_35 : VW RL 35 yX6_read cX6_read 2 (some .int) 0 := ⟨⟨Or.inl ⟨inT4 0 rfl, Or.inl rfl⟩, ⟨inT1 7 rfl, Or.inl rfl⟩, ⟨⟨inT4 3 rfl, Or.inl rfl⟩, rfl⟩, by decide +kernel⟩, ⟨inT4 1 rfl, Or.inl rfl⟩, ⟨inT4 2 rfl, Or.inl rfl⟩⟩
theorem vw_L_36 : VW RL 36 yX5_minute cX5_minute 2 (some .int) 1 := ⟨⟨Or.inl ⟨inT2 115 rfl, Or.inl rfl⟩, ⟨inT1 1 rfl, Or.inl rfl⟩, ⟨⟨inT2 118 rfl, Or.inl rfl⟩, rfl⟩, by decide +kernel⟩, ⟨inT2 116 rfl, Or.inl rfl⟩, ⟨inT2 117 rfl, Or.inl rfl⟩⟩
theorem vw_L_39 : VW RL 39 yX6_minute cX6_minute 4 (some .int) 1 := ⟨⟨Or.inl ⟨inT4 47 rfl, Or.inl rfl⟩, ⟨inT1 7 rfl, Or.inl rfl⟩, ⟨⟨inT4 50 rfl, Or.inl rfl⟩, rfl⟩, by decide +kernel⟩, ⟨inT4 48 rfl, Or.inl rfl⟩, ⟨inT4 49 rfl, Or.inl rfl⟩⟩
theorem vw_L_40 : VW RL 40 yX5_carrot cX5_carrot 2 (some .int) 1 := ⟨⟨Or.inl ⟨inT2 180 rfl, Or.inl rfl⟩, ⟨inT1 1 rfl, Or.inl rfl⟩, ⟨⟨inT2 183 rfl, Or.inl rfl⟩, rfl⟩, by decide +kernel⟩, ⟨inT2 181 rfl, Or.inl rfl⟩, ⟨inT2 182 rfl, Or.inl rfl⟩⟩
theorem vw_L_43 : VW RL 43 yX6_carrot cX6_carrot 2 (some .int) 1 := ⟨⟨Or.inl ⟨inT4 86 rfl, Or.inl rfl⟩, ⟨inT1 7 rfl, Or.inl rfl⟩, ⟨⟨inT4 89 rfl, Or.inl rfl⟩, rfl⟩, by decide +kernel⟩, ⟨inT4 87 rfl, Or.inl rfl⟩, ⟨inT4 88 rfl, Or.inl rfl⟩⟩
theorem vw_L_44 : VW RL 44 yX5_moves cX5_moves 5 (some .int) 2 := ⟨⟨Or.inl ⟨inT2 189 rfl, Or.inl rfl⟩, ⟨inT1 1 rfl, Or.inl rfl⟩, ⟨⟨inT2 192 rfl, Or.inl rfl⟩, rfl⟩, by decide +kernel⟩, ⟨inT2 190 rfl, Or.inl rfl⟩, ⟨inT2 191 rfl, Or.inl rfl⟩⟩
theorem vw_L_48 : VW RL 48 yX6_moves cX6_moves 5 (some .int) 2 := ⟨⟨Or.inl ⟨inT4 94 rfl, Or.inl rfl⟩, ⟨inT1 7 rfl, Or.inl rfl⟩, ⟨⟨inT4 97 rfl, Or.inl rfl⟩, rfl⟩, by decide +kernel⟩, ⟨inT4 95 rfl, Or.inl rfl⟩, ⟨inT4 96 rfl, Or.inl rfl⟩⟩
theorem vw_L_49 : VW RL 49 yX5_woman cX5_woman 3 (some .int) 1 := ⟨⟨Or.inl ⟨inT2 193 rfl, Or.inl rfl⟩, ⟨inT1 1 rfl, Or.inl rfl⟩, ⟨⟨inT2 196 rfl, Or.inl rfl⟩, rfl⟩, by decide +kernel⟩, ⟨inT2 194 rfl, Or.inl rfl⟩, ⟨inT2 195 rfl, Or.inl rfl⟩⟩
theorem vw_L_52 : VW RL 52 yX6_woman cX6_woman 3 (some .int) 1 := ⟨⟨Or.inl ⟨inT4 98 rfl, Or.inl rfl⟩, ⟨inT1 7 rfl, Or.inl rfl⟩, ⟨⟨inT4 101 rfl, Or.inl rfl⟩, rfl⟩, by decide +kernel⟩, ⟨inT4 99 rfl, Or.inl rfl⟩, ⟨inT4 100 rfl, Or.inl rfl⟩⟩
theorem vw_L_53 : VW RL 53 yX5_undo cX5_undo 1 (some .int) 0 := ⟨⟨Or.inl ⟨inT2 197 rfl, Or.inl rfl⟩, ⟨inT1 1 rfl, Or.inl rfl⟩, ⟨⟨inT2 200 rfl, Or.inl rfl⟩, rfl⟩, by decide +kernel⟩, ⟨inT2 198 rfl, Or.inl rfl⟩, ⟨inT2 199 rfl, Or.inl rfl⟩⟩
theorem vw_L_56 : VW RL 56 yX6_undo cX6_undo 1 (some .int) 0 := ⟨⟨Or.inl ⟨inT4 102 rfl, Or.inl rfl⟩, ⟨inT1 7 rfl, Or.inl rfl⟩, ⟨⟨inT4 105 rfl, Or.inl rfl⟩, rfl⟩, by decide +kernel⟩, ⟨inT4 103 rfl, Or.inl rfl⟩, ⟨inT4 104 rfl, Or.inl rfl⟩⟩
theorem vw_L_57 : VW RL 57 yX5_of cX5_of 3 (some .int) 2 := ⟨⟨Or.inl ⟨inT2 205 rfl, Or.inl rfl⟩, ⟨inT1 1 rfl, Or.inl rfl⟩, ⟨⟨inT2 208 rfl, Or.inl rfl⟩, rfl⟩, by decide +kernel⟩, ⟨inT2 206 rfl, Or.inl rfl⟩, ⟨inT2 207 rfl, Or.inl rfl⟩⟩
theorem vw_L_60 : VW RL 60 yX6_of cX6_of 3 (some .int) 2 := ⟨⟨Or.inl ⟨inT4 106 rfl, Or.inl rfl⟩, ⟨inT1 7 rfl, Or.inl rfl⟩, ⟨⟨inT4 109 rfl, Or.inl rfl⟩, rfl⟩, by decide +kernel⟩, ⟨inT4 107 rfl, Or.inl rfl⟩, ⟨inT4 108 rfl, Or.inl rfl⟩⟩
theorem vw_L_61 : VW RL 61 yX5_now cX5_now 3 (some .int) 2 := ⟨⟨Or.inl ⟨inT2 217 rfl, Or.inl rfl⟩, ⟨inT1 1 rfl, Or.inl rfl⟩, ⟨⟨inT2 220 rfl, Or.inl rfl⟩, rfl⟩, by decide +kernel⟩, ⟨inT2 218 rfl, Or.inl rfl⟩, ⟨inT2 219 rfl, Or.inl rfl⟩⟩
theorem vw_L_64 : VW RL 64 yX6_now cX6_now 3 (some .int) 2 := ⟨⟨Or.inl ⟨inT4 110 rfl, Or.inl rfl⟩, ⟨inT1 7 rfl, Or.inl rfl⟩, ⟨⟨inT4 113 rfl, Or.inl rfl⟩, rfl⟩, by decide +kernel⟩, ⟨inT4 111 rfl, Or.inl rfl⟩, ⟨inT4 112 rfl, Or.inl rfl⟩⟩
theorem vw_L_65 : VW RL 65 yX5_then cX5_then 3 (some .int) 2 := ⟨⟨Or.inl ⟨inT2 228 rfl, Or.inl rfl⟩, ⟨inT1 1 rfl, Or.inl rfl⟩, ⟨⟨inT2 231 rfl, Or.inl rfl⟩, rfl⟩, by decide +kernel⟩, ⟨inT2 229 rfl, Or.inl rfl⟩, ⟨inT2 230 rfl, Or.inl rfl⟩⟩
theorem vw_L_68 : VW RL 68 yX6_then cX6_then 4 (some .int) 2 := ⟨⟨Or.inl ⟨inT4 119 rfl, Or.inl rfl⟩, ⟨inT1 7 rfl, Or.inl rfl⟩, ⟨⟨inT4 122 rfl, Or.inl rfl⟩, rfl⟩, by decide +kernel⟩, ⟨inT4 120 rfl, Or.inl rfl⟩, ⟨inT4 121 rfl, Or.inl rfl⟩⟩
theorem vw_L_69 : VW RL 69 yX5_quiet cX5_quiet 2 (some .int) 0 := ⟨⟨Or.inl ⟨inT2 233 rfl, Or.inl rfl⟩, ⟨inT1 1 rfl, Or.inl rfl⟩, ⟨⟨inT2 236 rfl, Or.inl rfl⟩, rfl⟩, by decide +kernel⟩, ⟨inT2 234 rfl, Or.inl rfl⟩, ⟨inT2 235 rfl, Or.inl rfl⟩⟩
theorem vw_L_72 : VW RL 72 yX6_quiet cX6_quiet 2 (some .int) 0 := ⟨⟨Or.inl ⟨inT4 131 rfl, Or.inl rfl⟩, ⟨inT1 7 rfl, Or.inl rfl⟩, ⟨⟨inT4 134 rfl, Or.inl rfl⟩, rfl⟩, by decide +kernel⟩, ⟨inT4 132 rfl, Or.inl rfl⟩, ⟨inT4 133 rfl, Or.inl rfl⟩⟩
theorem vw_L_73 : VW RL 73 yX5_stand cX5_stand 7 (some .int) 2 := ⟨⟨Or.inl ⟨inT2 238 rfl, Or.inl rfl⟩, ⟨inT1 1 rfl, Or.inl rfl⟩, ⟨⟨inT3 1 rfl, Or.inl rfl⟩, rfl⟩, by decide +kernel⟩, ⟨inT2 239 rfl, Or.inl rfl⟩, ⟨inT3 0 rfl, Or.inl rfl⟩⟩
theorem vw_L_76 : VW RL 76 yX6_stand cX6_stand 7 (some .int) 2 := ⟨⟨Or.inl ⟨inT4 135 rfl, Or.inl rfl⟩, ⟨inT1 7 rfl, Or.inl rfl⟩, ⟨⟨inT4 138 rfl, Or.inl rfl⟩, rfl⟩, by decide +kernel⟩, ⟨inT4 136 rfl, Or.inl rfl⟩, ⟨inT4 137 rfl, Or.inl rfl⟩⟩
theorem vw_L_77 : VW RL 77 yX5_helps cX5_helps 6 (some .int) 0 := ⟨⟨Or.inl ⟨inT3 2 rfl, Or.inl rfl⟩, ⟨inT1 1 rfl, Or.inl rfl⟩, ⟨⟨inT3 5 rfl, Or.inl rfl⟩, rfl⟩, by decide +kernel⟩, ⟨inT3 3 rfl, Or.inl rfl⟩, ⟨inT3 4 rfl, Or.inl rfl⟩⟩
theorem vw_L_80 : VW RL 80 yX6_helps cX6_helps 6 (some .int) 0 := ⟨⟨Or.inl ⟨inT4 140 rfl, Or.inl rfl⟩, ⟨inT1 7 rfl, Or.inl rfl⟩, ⟨⟨inT4 143 rfl, Or.inl rfl⟩, rfl⟩, by decide +kernel⟩, ⟨inT4 141 rfl, Or.inl rfl⟩, ⟨inT4 142 rfl, Or.inl rfl⟩⟩
theorem vw_L_81 : VW RL 81 yX5_seated cX5_seated 4 (some .int) 1 := ⟨⟨Or.inl ⟨inT3 10 rfl, Or.inl rfl⟩, ⟨inT1 1 rfl, Or.inl rfl⟩, ⟨⟨inT3 13 rfl, Or.inl rfl⟩, rfl⟩, by decide +kernel⟩, ⟨inT3 11 rfl, Or.inl rfl⟩, ⟨inT3 12 rfl, Or.inl rfl⟩⟩
theorem vw_L_84 : VW RL 84 yX6_seated cX6_seated 3 (some .int) 1 := ⟨⟨Or.inl ⟨inT4 144 rfl, Or.inl rfl⟩, ⟨inT1 7 rfl, Or.inl rfl⟩, ⟨⟨inT4 147 rfl, Or.inl rfl⟩, rfl⟩, by decide +kernel⟩, ⟨inT4 145 rfl, Or.inl rfl⟩, ⟨inT4 146 rfl, Or.inl rfl⟩⟩
theorem vw_L_85 : VW RL 85 yX5_words cX5_words 3 (some .int) 1 := ⟨⟨Or.inl ⟨inT3 19 rfl, Or.inl rfl⟩, ⟨inT1 1 rfl, Or.inl rfl⟩, ⟨⟨inT3 22 rfl, Or.inl rfl⟩, rfl⟩, by decide +kernel⟩, ⟨inT3 20 rfl, Or.inl rfl⟩, ⟨inT3 21 rfl, Or.inl rfl⟩⟩
theorem vw_L_88 : VW RL 88 yX6_words cX6_words 3 (some .int) 1 := ⟨⟨Or.inl ⟨inT4 152 rfl, Or.inl rfl⟩, ⟨inT1 7 rfl, Or.inl rfl⟩, ⟨⟨inT4 155 rfl, Or.inl rfl⟩, rfl⟩, by decide +kernel⟩, ⟨inT4 153 rfl, Or.inl rfl⟩, ⟨inT4 154 rfl, Or.inl rfl⟩⟩
theorem vw_L_89 : VW RL 89 yX5_say cX5_say 5 (some .int) 0 := ⟨⟨Or.inl ⟨inT3 23 rfl, Or.inl rfl⟩, ⟨inT1 1 rfl, Or.inl rfl⟩, ⟨⟨inT3 26 rfl, Or.inl rfl⟩, rfl⟩, by decide +kernel⟩, ⟨inT3 24 rfl, Or.inl rfl⟩, ⟨inT3 25 rfl, Or.inl rfl⟩⟩
theorem vw_L_92 : VW RL 92 yX6_say cX6_say 5 (some .int) 0 := ⟨⟨Or.inl ⟨inT4 156 rfl, Or.inl rfl⟩, ⟨inT1 7 rfl, Or.inl rfl⟩, ⟨⟨inT4 159 rfl, Or.inl rfl⟩, rfl⟩, by decide +kernel⟩, ⟨inT4 157 rfl, Or.inl rfl⟩, ⟨inT4 158 rfl, Or.inl rfl⟩⟩
theorem vw_L_93 : VW RL 93 yX5_note cX5_note 9 (some .int) 7 := ⟨⟨Or.inl ⟨inT3 27 rfl, Or.inl rfl⟩, ⟨inT1 1 rfl, Or.inl rfl⟩, ⟨⟨inT3 30 rfl, Or.inl rfl⟩, rfl⟩, by decide +kernel⟩, ⟨inT3 28 rfl, Or.inl rfl⟩, ⟨inT3 29 rfl, Or.inl rfl⟩⟩
theorem vw_L_97 : VW RL 97 yX6_note cX6_note 9 (some .int) 7 := ⟨⟨Or.inl ⟨inT4 160 rfl, Or.inl rfl⟩, ⟨inT1 7 rfl, Or.inl rfl⟩, ⟨⟨inT4 163 rfl, Or.inl rfl⟩, rfl⟩, by decide +kernel⟩, ⟨inT4 161 rfl, Or.inl rfl⟩, ⟨inT4 162 rfl, Or.inl rfl⟩⟩
theorem vw_L_98 : VW RL 98 yX5_forget cX5_forget 2 (some .int) 0 := ⟨⟨Or.inl ⟨inT3 35 rfl, Or.inl rfl⟩, ⟨inT1 1 rfl, Or.inl rfl⟩, ⟨⟨inT3 38 rfl, Or.inl rfl⟩, rfl⟩, by decide +kernel⟩, ⟨inT3 36 rfl, Or.inl rfl⟩, ⟨inT3 37 rfl, Or.inl rfl⟩⟩
theorem vw_L_101 : VW RL 101 yX6_forget cX6_forget 2 (some .int) 0 := ⟨⟨Or.inl ⟨inT4 166 rfl, Or.inl rfl⟩, ⟨inT1 7 rfl, Or.inl rfl⟩, ⟨⟨inT4 169 rfl, Or.inl rfl⟩, rfl⟩, by decide +kernel⟩, ⟨inT4 167 rfl, Or.inl rfl⟩, ⟨inT4 168 rfl, Or.inl rfl⟩⟩
theorem vw_L_102 : VW RL 102 yX5_is cX5_is 2 (some .int) 1 := ⟨⟨Or.inl ⟨inT3 39 rfl, Or.inl rfl⟩, ⟨inT1 1 rfl, Or.inl rfl⟩, ⟨⟨inT3 42 rfl, Or.inl rfl⟩, rfl⟩, by decide +kernel⟩, ⟨inT3 40 rfl, Or.inl rfl⟩, ⟨inT3 41 rfl, Or.inl rfl⟩⟩
theorem vw_L_105 : VW RL 105 yX6_is cX6_is 2 (some .int) 1 := ⟨⟨Or.inl ⟨inT4 170 rfl, Or.inl rfl⟩, ⟨inT1 7 rfl, Or.inl rfl⟩, ⟨⟨inT4 173 rfl, Or.inl rfl⟩, rfl⟩, by decide +kernel⟩, ⟨inT4 171 rfl, Or.inl rfl⟩, ⟨inT4 172 rfl, Or.inl rfl⟩⟩
theorem vw_L_106 : VW RL 106 yX5_look cX5_look 9 (some .int) 1 := ⟨⟨Or.inl ⟨inT3 51 rfl, Or.inl rfl⟩, ⟨inT1 1 rfl, Or.inl rfl⟩, ⟨⟨inT3 54 rfl, Or.inl rfl⟩, rfl⟩, by decide +kernel⟩, ⟨inT3 52 rfl, Or.inl rfl⟩, ⟨inT3 53 rfl, Or.inl rfl⟩⟩
theorem vw_L_109 : VW RL 109 yX6_look cX6_look 7 (some .int) 1 := ⟨⟨Or.inl ⟨inT4 178 rfl, Or.inl rfl⟩, ⟨inT1 7 rfl, Or.inl rfl⟩, ⟨⟨inT4 181 rfl, Or.inl rfl⟩, rfl⟩, by decide +kernel⟩, ⟨inT4 179 rfl, Or.inl rfl⟩, ⟨inT4 180 rfl, Or.inl rfl⟩⟩
theorem vw_L_110 : VW RL 110 yX5_who cX5_who 4 (some .int) 1 := ⟨⟨Or.inl ⟨inT3 59 rfl, Or.inl rfl⟩, ⟨inT1 1 rfl, Or.inl rfl⟩, ⟨⟨inT3 62 rfl, Or.inl rfl⟩, rfl⟩, by decide +kernel⟩, ⟨inT3 60 rfl, Or.inl rfl⟩, ⟨inT3 61 rfl, Or.inl rfl⟩⟩
theorem vw_L_113 : VW RL 113 yX6_who cX6_who 4 (some .int) 1 := ⟨⟨Or.inl ⟨inT4 186 rfl, Or.inl rfl⟩, ⟨inT1 7 rfl, Or.inl rfl⟩, ⟨⟨inT4 189 rfl, Or.inl rfl⟩, rfl⟩, by decide +kernel⟩, ⟨inT4 187 rfl, Or.inl rfl⟩, ⟨inT4 188 rfl, Or.inl rfl⟩⟩
theorem vw_L_114 : VW RL 114 yX5_rings cX5_rings 7 (some .int) 2 := ⟨⟨Or.inl ⟨inT3 63 rfl, Or.inl rfl⟩, ⟨inT1 1 rfl, Or.inl rfl⟩, ⟨⟨inT3 66 rfl, Or.inl rfl⟩, rfl⟩, by decide +kernel⟩, ⟨inT3 64 rfl, Or.inl rfl⟩, ⟨inT3 65 rfl, Or.inl rfl⟩⟩
theorem vw_L_117 : VW RL 117 yX6_rings cX6_rings 7 (some .int) 2 := ⟨⟨Or.inl ⟨inT4 190 rfl, Or.inl rfl⟩, ⟨inT1 7 rfl, Or.inl rfl⟩, ⟨⟨inT4 193 rfl, Or.inl rfl⟩, rfl⟩, by decide +kernel⟩, ⟨inT4 191 rfl, Or.inl rfl⟩, ⟨inT4 192 rfl, Or.inl rfl⟩⟩
theorem vw_L_118 : VW RL 118 yX5_eyes cX5_eyes 4 (some .int) 1 := ⟨⟨Or.inl ⟨inT3 72 rfl, Or.inl rfl⟩, ⟨inT1 1 rfl, Or.inl rfl⟩, ⟨⟨inT3 75 rfl, Or.inl rfl⟩, rfl⟩, by decide +kernel⟩, ⟨inT3 73 rfl, Or.inl rfl⟩, ⟨inT3 74 rfl, Or.inl rfl⟩⟩
theorem vw_L_121 : VW RL 121 yX6_eyes cX6_eyes 10 (some .int) 1 := ⟨⟨Or.inl ⟨inT4 198 rfl, Or.inl rfl⟩, ⟨inT1 7 rfl, Or.inl rfl⟩, ⟨⟨inT4 201 rfl, Or.inl rfl⟩, rfl⟩, by decide +kernel⟩, ⟨inT4 199 rfl, Or.inl rfl⟩, ⟨inT4 200 rfl, Or.inl rfl⟩⟩
theorem vw_L_122 : VW RL 122 yX5_weeks cX5_weeks 8 (some .int) 2 := ⟨⟨Or.inl ⟨inT3 76 rfl, Or.inl rfl⟩, ⟨inT1 1 rfl, Or.inl rfl⟩, ⟨⟨inT3 79 rfl, Or.inl rfl⟩, rfl⟩, by decide +kernel⟩, ⟨inT3 77 rfl, Or.inl rfl⟩, ⟨inT3 78 rfl, Or.inl rfl⟩⟩
theorem vw_L_125 : VW RL 125 yX6_weeks cX6_weeks 8 (some .int) 2 := ⟨⟨Or.inl ⟨inT4 203 rfl, Or.inl rfl⟩, ⟨inT1 7 rfl, Or.inl rfl⟩, ⟨⟨inT4 206 rfl, Or.inl rfl⟩, rfl⟩, by decide +kernel⟩, ⟨inT4 204 rfl, Or.inl rfl⟩, ⟨inT4 205 rfl, Or.inl rfl⟩⟩
theorem vw_L_126 : VW RL 126 yX5_part cX5_part 2 (some .long) 1 := ⟨⟨Or.inl ⟨inT3 86 rfl, Or.inl rfl⟩, ⟨inT1 1 rfl, Or.inl rfl⟩, ⟨⟨inT3 89 rfl, Or.inl rfl⟩, rfl⟩, by decide +kernel⟩, ⟨inT3 87 rfl, Or.inl rfl⟩, ⟨inT3 88 rfl, Or.inl rfl⟩⟩
theorem vw_L_130 : VW RL 130 yX6_part cX6_part 2 (some .long) 1 := ⟨⟨Or.inl ⟨inT4 213 rfl, Or.inl rfl⟩, ⟨inT1 7 rfl, Or.inl rfl⟩, ⟨⟨inT4 216 rfl, Or.inl rfl⟩, rfl⟩, by decide +kernel⟩, ⟨inT4 214 rfl, Or.inl rfl⟩, ⟨inT4 215 rfl, Or.inl rfl⟩⟩
theorem vw_L_131 : VW RL 131 yX5_image cX5_image 2 (some .int) 1 := ⟨⟨Or.inl ⟨inT3 90 rfl, Or.inl rfl⟩, ⟨inT1 1 rfl, Or.inl rfl⟩, ⟨⟨inT3 93 rfl, Or.inl rfl⟩, rfl⟩, by decide +kernel⟩, ⟨inT3 91 rfl, Or.inl rfl⟩, ⟨inT3 92 rfl, Or.inl rfl⟩⟩
theorem vw_L_134 : VW RL 134 yX6_image cX6_image 2 (some .int) 1 := ⟨⟨Or.inl ⟨inT4 217 rfl, Or.inl rfl⟩, ⟨inT1 7 rfl, Or.inl rfl⟩, ⟨⟨inT4 220 rfl, Or.inl rfl⟩, rfl⟩, by decide +kernel⟩, ⟨inT4 218 rfl, Or.inl rfl⟩, ⟨inT4 219 rfl, Or.inl rfl⟩⟩
theorem vw_L_135 : VW RL 135 yX5_from cX5_from 2 (some .int) 1 := ⟨⟨Or.inl ⟨inT3 107 rfl, Or.inl rfl⟩, ⟨inT1 1 rfl, Or.inl rfl⟩, ⟨⟨inT3 110 rfl, Or.inl rfl⟩, rfl⟩, by decide +kernel⟩, ⟨inT3 108 rfl, Or.inl rfl⟩, ⟨inT3 109 rfl, Or.inl rfl⟩⟩
theorem vw_L_138 : VW RL 138 yX6_from cX6_from 2 (some .int) 1 := ⟨⟨Or.inl ⟨inT4 221 rfl, Or.inl rfl⟩, ⟨inT1 7 rfl, Or.inl rfl⟩, ⟨⟨inT4 224 rfl, Or.inl rfl⟩, rfl⟩, by decide +kernel⟩, ⟨inT4 222 rfl, Or.inl rfl⟩, ⟨inT4 223 rfl, Or.inl rfl⟩⟩
theorem vw_L_139 : VW RL 139 yX5_status cX5_status 2 (some .int) 1 := ⟨⟨Or.inl ⟨inT3 111 rfl, Or.inl rfl⟩, ⟨inT1 1 rfl, Or.inl rfl⟩, ⟨⟨inT3 114 rfl, Or.inl rfl⟩, rfl⟩, by decide +kernel⟩, ⟨inT3 112 rfl, Or.inl rfl⟩, ⟨inT3 113 rfl, Or.inl rfl⟩⟩
theorem vw_L_142 : VW RL 142 yX6_status cX6_status 2 (some .int) 1 := ⟨⟨Or.inl ⟨inT4 225 rfl, Or.inl rfl⟩, ⟨inT1 7 rfl, Or.inl rfl⟩, ⟨⟨inT4 228 rfl, Or.inl rfl⟩, rfl⟩, by decide +kernel⟩, ⟨inT4 226 rfl, Or.inl rfl⟩, ⟨inT4 227 rfl, Or.inl rfl⟩⟩
theorem vw_L_143 : VW RL 143 yX5_count cX5_count 2 (some .int) 1 := ⟨⟨Or.inl ⟨inT3 115 rfl, Or.inl rfl⟩, ⟨inT1 1 rfl, Or.inl rfl⟩, ⟨⟨inT3 118 rfl, Or.inl rfl⟩, rfl⟩, by decide +kernel⟩, ⟨inT3 116 rfl, Or.inl rfl⟩, ⟨inT3 117 rfl, Or.inl rfl⟩⟩
theorem vw_L_146 : VW RL 146 yX6_count cX6_count 2 (some .int) 1 := ⟨⟨Or.inl ⟨inT4 229 rfl, Or.inl rfl⟩, ⟨inT1 7 rfl, Or.inl rfl⟩, ⟨⟨inT4 232 rfl, Or.inl rfl⟩, rfl⟩, by decide +kernel⟩, ⟨inT4 230 rfl, Or.inl rfl⟩, ⟨inT4 231 rfl, Or.inl rfl⟩⟩
theorem vw_L_147 : VW RL 147 yX5_digest cX5_digest 5 (some .long) 0 := ⟨⟨Or.inl ⟨inT3 123 rfl, Or.inl rfl⟩, ⟨inT1 1 rfl, Or.inl rfl⟩, ⟨⟨inT3 126 rfl, Or.inl rfl⟩, rfl⟩, by decide +kernel⟩, ⟨inT3 124 rfl, Or.inl rfl⟩, ⟨inT3 125 rfl, Or.inl rfl⟩⟩
theorem vw_L_151 : VW RL 151 yX6_digest cX6_digest 4 (some .long) 0 := ⟨⟨Or.inl ⟨inT4 237 rfl, Or.inl rfl⟩, ⟨inT1 7 rfl, Or.inl rfl⟩, ⟨⟨inT5 0 rfl, Or.inl rfl⟩, rfl⟩, by decide +kernel⟩, ⟨inT4 238 rfl, Or.inl rfl⟩, ⟨inT4 239 rfl, Or.inl rfl⟩⟩
theorem fw_X0_9 : FW RX0 9 0 0 := ⟨RX0, TX0, 2, tyX0, rfl, by decide, lay_X0, tyX0_ok, nmX0, Or.inl ⟨inT1 104 rfl, Or.inl rfl⟩⟩
theorem fw_X0_15 : FW RX0 15 0 1 := ⟨RX0, TX0, 2, tyX0, rfl, by decide, lay_X0, tyX0_ok, nmX0, Or.inl ⟨inT1 106 rfl, Or.inl rfl⟩⟩
theorem sw_X0_19 : SW RX0 19 yX5_kindsSoNear cX5_kindsSoNear 8 (some .int) 6 := ⟨⟨Or.inr ⟨"BiteChild", ⟨inT3 47 rfl, Or.inr rfl⟩⟩, ⟨inT1 1 rfl, Or.inl rfl⟩, ⟨⟨inT3 49 rfl, Or.inl rfl⟩, rfl⟩, by decide +kernel⟩, ⟨inT3 48 rfl, Or.inl rfl⟩⟩
theorem lw_X0_23 : LW RX0 23 arraycopyName := ⟨⟨inT3 106 rfl, Or.inl rfl⟩, ⟨inT1 213 rfl, Or.inl rfl⟩, ⟨inT1 8 rfl, Or.inl rfl⟩⟩
theorem fw_X1_11 : FW RX1 11 1 0 := ⟨RX1, TX1, 3, tyX1, rfl, by decide, lay_X1, tyX1_ok, nmX1, Or.inl ⟨inT1 87 rfl, Or.inl rfl⟩⟩
theorem fw_X1_18 : FW RX1 18 1 1 := ⟨RX1, TX1, 3, tyX1, rfl, by decide, lay_X1, tyX1_ok, nmX1, Or.inl ⟨inT1 88 rfl, Or.inl rfl⟩⟩
theorem fw_X1_22 : FW RX1 22 1 2 := ⟨RX1, TX1, 3, tyX1, rfl, by decide, lay_X1, tyX1_ok, nmX1, Or.inl ⟨inT1 89 rfl, Or.inl rfl⟩⟩
theorem vw_X1_25 : VW RX1 25 yX3_copyFrom cX3_copyFrom 2 none 1 := ⟨⟨Or.inr ⟨"BiteChild", ⟨inT2 123 rfl, Or.inr rfl⟩⟩, ⟨inT1 3 rfl, Or.inl rfl⟩, ⟨⟨inT1 211 rfl, Or.inl rfl⟩, rfl⟩, by decide +kernel⟩, ⟨inT1 210 rfl, Or.inl rfl⟩, ⟨inS 3 rfl, Or.inl rfl⟩⟩
theorem fw_X2_10 : FW RX2 10 2 0 := ⟨RX2, TX2, 3, tyX2, rfl, by decide, lay_X2, tyX2_ok, nmX2, Or.inl ⟨inT1 114 rfl, Or.inl rfl⟩⟩
theorem fw_X2_19 : FW RX2 19 2 1 := ⟨RX2, TX2, 3, tyX2, rfl, by decide, lay_X2, tyX2_ok, nmX2, Or.inl ⟨inT1 116 rfl, Or.inl rfl⟩⟩
theorem fw_X2_26 : FW RX2 26 2 2 := ⟨RX2, TX2, 3, tyX2, rfl, by decide, lay_X2, tyX2_ok, nmX2, Or.inl ⟨inT1 118 rfl, Or.inl rfl⟩⟩
theorem vw_X2_30 : VW RX2 30 yX3_copyFrom cX3_copyFrom 2 none 1 := ⟨⟨Or.inr ⟨"BiteChild", ⟨inT1 208 rfl, Or.inr rfl⟩⟩, ⟨inT1 3 rfl, Or.inl rfl⟩, ⟨⟨inT1 211 rfl, Or.inl rfl⟩, rfl⟩, by decide +kernel⟩, ⟨inT1 210 rfl, Or.inl rfl⟩, ⟨inS 3 rfl, Or.inl rfl⟩⟩
theorem vw_X2_34 : VW RX2 34 yX1_empty cX1_empty 1 none 0 := ⟨⟨Or.inr ⟨"BiteChild", ⟨inT1 215 rfl, Or.inr rfl⟩⟩, ⟨inT1 4 rfl, Or.inl rfl⟩, ⟨⟨inT1 218 rfl, Or.inl rfl⟩, rfl⟩, by decide +kernel⟩, ⟨inT1 217 rfl, Or.inl rfl⟩, ⟨inS 4 rfl, Or.inl rfl⟩⟩
theorem fw_X2_37 : FW RX2 37 0 1 := ⟨RX0, TX0, 2, tyX0, rfl, by decide, lay_X0, tyX0_ok, nmX0, Or.inr ⟨"BiteChild", ⟨inT1 107 rfl, Or.inr rfl⟩⟩⟩
theorem vw_X2_41 : VW RX2 41 yX1_copyFrom cX1_copyFrom 3 none 1 := ⟨⟨Or.inr ⟨"BiteChild", ⟨inT3 98 rfl, Or.inr rfl⟩⟩, ⟨inT1 4 rfl, Or.inl rfl⟩, ⟨⟨inT3 101 rfl, Or.inl rfl⟩, rfl⟩, by decide +kernel⟩, ⟨inT3 100 rfl, Or.inl rfl⟩, ⟨inS 38 rfl, Or.inl rfl⟩⟩
theorem vw_X2_44 : VW RX2 44 yX0_copyFrom cX0_copyFrom 2 none 1 := ⟨⟨Or.inr ⟨"BiteChild", ⟨inT3 102 rfl, Or.inr rfl⟩⟩, ⟨inT1 5 rfl, Or.inl rfl⟩, ⟨⟨inT3 105 rfl, Or.inl rfl⟩, rfl⟩, by decide +kernel⟩, ⟨inT3 104 rfl, Or.inl rfl⟩, ⟨inS 39 rfl, Or.inl rfl⟩⟩
theorem fw_X3_9 : FW RX3 9 3 5 := ⟨RX3, TX3, 10, tyX3, rfl, by decide, lay_X3, tyX3_ok, nmX3, Or.inl ⟨inT1 47 rfl, Or.inl rfl⟩⟩
theorem fw_X3_15 : FW RX3 15 3 6 := ⟨RX3, TX3, 10, tyX3, rfl, by decide, lay_X3, tyX3_ok, nmX3, Or.inl ⟨inT1 48 rfl, Or.inl rfl⟩⟩
theorem fw_X3_18 : FW RX3 18 3 7 := ⟨RX3, TX3, 10, tyX3, rfl, by decide, lay_X3, tyX3_ok, nmX3, Or.inl ⟨inT1 50 rfl, Or.inl rfl⟩⟩
theorem fw_X3_21 : FW RX3 21 3 8 := ⟨RX3, TX3, 10, tyX3, rfl, by decide, lay_X3, tyX3_ok, nmX3, Or.inl ⟨inT1 52 rfl, Or.inl rfl⟩⟩
theorem fw_X3_24 : FW RX3 24 3 9 := ⟨RX3, TX3, 10, tyX3, rfl, by decide, lay_X3, tyX3_ok, nmX3, Or.inl ⟨inT1 54 rfl, Or.inl rfl⟩⟩
theorem fw_X3_27 : FW RX3 27 3 0 := ⟨RX3, TX3, 10, tyX3, rfl, by decide, lay_X3, tyX3_ok, nmX3, Or.inl ⟨inT1 35 rfl, Or.inl rfl⟩⟩
theorem fw_X3_31 : FW RX3 31 3 1 := ⟨RX3, TX3, 10, tyX3, rfl, by decide, lay_X3, tyX3_ok, nmX3, Or.inl ⟨inT1 38 rfl, Or.inl rfl⟩⟩
theorem fw_X3_34 : FW RX3 34 3 2 := ⟨RX3, TX3, 10, tyX3, rfl, by decide, lay_X3, tyX3_ok, nmX3, Or.inl ⟨inT1 40 rfl, Or.inl rfl⟩⟩
theorem fw_X3_37 : FW RX3 37 3 3 := ⟨RX3, TX3, 10, tyX3, rfl, by decide, lay_X3, tyX3_ok, nmX3, Or.inl ⟨inT1 42 rfl, Or.inl rfl⟩⟩
theorem fw_X3_40 : FW RX3 40 3 4 := ⟨RX3, TX3, 10, tyX3, rfl, by decide, lay_X3, tyX3_ok, nmX3, Or.inl ⟨inT1 45 rfl, Or.inl rfl⟩⟩
theorem lw_X3_43 : LW RX3 43 arraycopyName := ⟨⟨inT1 212 rfl, Or.inl rfl⟩, ⟨inT1 213 rfl, Or.inl rfl⟩, ⟨inT1 8 rfl, Or.inl rfl⟩⟩
theorem sw_X3_49 : SW RX3 49 yX3_nextSeat cX3_nextSeat 1 (some .int) 1 := ⟨⟨Or.inl ⟨inT2 146 rfl, Or.inl rfl⟩, ⟨inT1 3 rfl, Or.inl rfl⟩, ⟨⟨inT2 148 rfl, Or.inl rfl⟩, rfl⟩, by decide +kernel⟩, ⟨inT2 147 rfl, Or.inl rfl⟩⟩
theorem sw_X3_53 : SW RX3 53 yX3_seatAhead cX3_seatAhead 1 (some .int) 1 := ⟨⟨Or.inl ⟨inT2 149 rfl, Or.inl rfl⟩, ⟨inT1 3 rfl, Or.inl rfl⟩, ⟨⟨inT2 151 rfl, Or.inl rfl⟩, rfl⟩, by decide +kernel⟩, ⟨inT2 150 rfl, Or.inl rfl⟩⟩
theorem vw_X3_56 : VW RX3 56 yX3_takenSeats cX3_takenSeats 3 (some .int) 0 := ⟨⟨Or.inl ⟨inT2 139 rfl, Or.inl rfl⟩, ⟨inT1 3 rfl, Or.inl rfl⟩, ⟨⟨inT2 142 rfl, Or.inl rfl⟩, rfl⟩, by decide +kernel⟩, ⟨inT2 141 rfl, Or.inl rfl⟩, ⟨inS 23 rfl, Or.inl rfl⟩⟩
theorem sw_X3_60 : SW RX3 60 yX3_tightIn cX3_tightIn 2 (some .int) 2 := ⟨⟨Or.inl ⟨inT2 143 rfl, Or.inl rfl⟩, ⟨inT1 3 rfl, Or.inl rfl⟩, ⟨⟨inT2 145 rfl, Or.inl rfl⟩, rfl⟩, by decide +kernel⟩, ⟨inT2 144 rfl, Or.inl rfl⟩⟩
theorem sw_X3_64 : SW RX3 64 yX5_near cX5_near 9 (some .int) 6 := ⟨⟨Or.inr ⟨"BiteChild", ⟨inT2 160 rfl, Or.inr rfl⟩⟩, ⟨inT1 1 rfl, Or.inl rfl⟩, ⟨⟨inT2 162 rfl, Or.inl rfl⟩, rfl⟩, by decide +kernel⟩, ⟨inT2 161 rfl, Or.inl rfl⟩⟩
theorem vw_X3_68 : VW RX3 68 yX3_tightOf cX3_tightOf 2 (some .int) 1 := ⟨⟨Or.inl ⟨inT2 225 rfl, Or.inl rfl⟩, ⟨inT1 3 rfl, Or.inl rfl⟩, ⟨⟨inT2 212 rfl, Or.inl rfl⟩, rfl⟩, by decide +kernel⟩, ⟨inT2 211 rfl, Or.inl rfl⟩, ⟨inS 30 rfl, Or.inl rfl⟩⟩
theorem vw_X3_71 : VW RX3 71 yX3_nearIf cX3_nearIf 3 (some .int) 2 := ⟨⟨Or.inl ⟨inT2 156 rfl, Or.inl rfl⟩, ⟨inT1 3 rfl, Or.inl rfl⟩, ⟨⟨inT2 159 rfl, Or.inl rfl⟩, rfl⟩, by decide +kernel⟩, ⟨inT2 158 rfl, Or.inl rfl⟩, ⟨inS 25 rfl, Or.inl rfl⟩⟩
theorem vw_X3_74 : VW RX3 74 yX3_childAt cX3_childAt 3 (some .int) 1 := ⟨⟨Or.inl ⟨inT2 172 rfl, Or.inl rfl⟩, ⟨inT1 3 rfl, Or.inl rfl⟩, ⟨⟨inT1 226 rfl, Or.inl rfl⟩, rfl⟩, by decide +kernel⟩, ⟨inT1 225 rfl, Or.inl rfl⟩, ⟨inS 5 rfl, Or.inl rfl⟩⟩
theorem vw_X3_77 : VW RX3 77 yX3_isGuarded cX3_isGuarded 2 (some .boolean) 1 := ⟨⟨Or.inl ⟨inT2 152 rfl, Or.inl rfl⟩, ⟨inT1 3 rfl, Or.inl rfl⟩, ⟨⟨inT2 155 rfl, Or.inl rfl⟩, rfl⟩, by decide +kernel⟩, ⟨inT2 154 rfl, Or.inl rfl⟩, ⟨inS 24 rfl, Or.inl rfl⟩⟩
theorem vw_X3_81 : VW RX3 81 yX3_whomOf cX3_whomOf 3 (some .int) 1 := ⟨⟨Or.inl ⟨inT2 168 rfl, Or.inl rfl⟩, ⟨inT1 3 rfl, Or.inl rfl⟩, ⟨⟨inT2 171 rfl, Or.inl rfl⟩, rfl⟩, by decide +kernel⟩, ⟨inT2 170 rfl, Or.inl rfl⟩, ⟨inS 27 rfl, Or.inl rfl⟩⟩
theorem lw_X3_84 : LW RX3 84 Lib.Math.max.name := ⟨⟨inT2 112 rfl, Or.inl rfl⟩, ⟨inT2 113 rfl, Or.inl rfl⟩, ⟨inT1 13 rfl, Or.inl rfl⟩⟩
theorem vw_X3_89 : VW RX3 89 yX3_passMinute cX3_passMinute 3 (some .int) 0 := ⟨⟨Or.inl ⟨inT2 131 rfl, Or.inl rfl⟩, ⟨inT1 3 rfl, Or.inl rfl⟩, ⟨⟨inT2 134 rfl, Or.inl rfl⟩, rfl⟩, by decide +kernel⟩, ⟨inT2 133 rfl, Or.inl rfl⟩, ⟨inS 21 rfl, Or.inl rfl⟩⟩
theorem vw_X3_92 : VW RX3 92 yX3_biters cX3_biters 5 (some .int) 0 := ⟨⟨Or.inl ⟨inT2 135 rfl, Or.inl rfl⟩, ⟨inT1 3 rfl, Or.inl rfl⟩, ⟨⟨inT2 138 rfl, Or.inl rfl⟩, rfl⟩, by decide +kernel⟩, ⟨inT2 137 rfl, Or.inl rfl⟩, ⟨inS 22 rfl, Or.inl rfl⟩⟩
theorem vw_X3_95 : VW RX3 95 yX3_timesBitten cX3_timesBitten 5 (some .int) 2 := ⟨⟨Or.inl ⟨inT2 164 rfl, Or.inl rfl⟩, ⟨inT1 3 rfl, Or.inl rfl⟩, ⟨⟨inT2 167 rfl, Or.inl rfl⟩, rfl⟩, by decide +kernel⟩, ⟨inT2 166 rfl, Or.inl rfl⟩, ⟨inS 26 rfl, Or.inl rfl⟩⟩
theorem lw_X3_98 : LW RX3 98 Lib.Math.min.name := ⟨⟨inT2 173 rfl, Or.inl rfl⟩, ⟨inT2 125 rfl, Or.inl rfl⟩, ⟨inT1 13 rfl, Or.inl rfl⟩⟩
theorem sw_X3_101 : SW RX3 101 yJ6_bitCount_0f7a4 cJ6_bitCount_0f7a4 1 (some .int) 1 := ⟨⟨Or.inl ⟨inT2 174 rfl, Or.inl rfl⟩, ⟨inT1 14 rfl, Or.inl rfl⟩, ⟨⟨inT2 176 rfl, Or.inl rfl⟩, rfl⟩, by decide +kernel⟩, ⟨inT2 175 rfl, Or.inl rfl⟩⟩
theorem fw_X4_9 : FW RX4 9 4 0 := ⟨RX4, TX4, 6, tyX4, rfl, by decide, lay_X4, tyX4_ok, nmX4, Or.inl ⟨inT1 134 rfl, Or.inl rfl⟩⟩
theorem fw_X4_15 : FW RX4 15 4 1 := ⟨RX4, TX4, 6, tyX4, rfl, by decide, lay_X4, tyX4_ok, nmX4, Or.inl ⟨inT1 135 rfl, Or.inl rfl⟩⟩
theorem vw_X4_19 : VW RX4 19 yX3_layAnew cX3_layAnew 2 none 1 := ⟨⟨Or.inr ⟨"BiteChild", ⟨inT2 12 rfl, Or.inr rfl⟩⟩, ⟨inT1 3 rfl, Or.inl rfl⟩, ⟨⟨inT1 203 rfl, Or.inl rfl⟩, rfl⟩, by decide +kernel⟩, ⟨inT1 202 rfl, Or.inl rfl⟩, ⟨inS 1 rfl, Or.inl rfl⟩⟩
theorem fw_X4_25 : FW RX4 25 4 2 := ⟨RX4, TX4, 6, tyX4, rfl, by decide, lay_X4, tyX4_ok, nmX4, Or.inl ⟨inT1 137 rfl, Or.inl rfl⟩⟩
theorem vw_X4_28 : VW RX4 28 yX4_nextToken cX4_nextToken 1 none 0 := ⟨⟨Or.inl ⟨inT2 13 rfl, Or.inl rfl⟩, ⟨inT1 6 rfl, Or.inl rfl⟩, ⟨⟨inT2 16 rfl, Or.inl rfl⟩, rfl⟩, by decide +kernel⟩, ⟨inT2 15 rfl, Or.inl rfl⟩, ⟨inS 9 rfl, Or.inl rfl⟩⟩
theorem fw_X4_31 : FW RX4 31 4 4 := ⟨RX4, TX4, 6, tyX4, rfl, by decide, lay_X4, tyX4_ok, nmX4, Or.inl ⟨inT1 139 rfl, Or.inl rfl⟩⟩
theorem vw_X4_34 : VW RX4 34 yX4_readWoman cX4_readWoman 2 (some .boolean) 1 := ⟨⟨Or.inl ⟨inT2 86 rfl, Or.inl rfl⟩, ⟨inT1 6 rfl, Or.inl rfl⟩, ⟨⟨inT2 89 rfl, Or.inl rfl⟩, rfl⟩, by decide +kernel⟩, ⟨inT2 88 rfl, Or.inl rfl⟩, ⟨inS 13 rfl, Or.inl rfl⟩⟩
theorem vw_X4_38 : VW RX4 38 yX4_readChild cX4_readChild 5 (some .boolean) 1 := ⟨⟨Or.inl ⟨inT2 98 rfl, Or.inl rfl⟩, ⟨inT1 6 rfl, Or.inl rfl⟩, ⟨⟨inT2 101 rfl, Or.inl rfl⟩, rfl⟩, by decide +kernel⟩, ⟨inT2 100 rfl, Or.inl rfl⟩, ⟨inS 16 rfl, Or.inl rfl⟩⟩
theorem vw_X4_41 : VW RX4 41 yX4_readCarrot cX4_readCarrot 2 (some .boolean) 1 := ⟨⟨Or.inl ⟨inT2 104 rfl, Or.inl rfl⟩, ⟨inT1 6 rfl, Or.inl rfl⟩, ⟨⟨inT2 107 rfl, Or.inl rfl⟩, rfl⟩, by decide +kernel⟩, ⟨inT2 106 rfl, Or.inl rfl⟩, ⟨inS 17 rfl, Or.inl rfl⟩⟩
theorem fw_X4_44 : FW RX4 44 4 3 := ⟨RX4, TX4, 6, tyX4, rfl, by decide, lay_X4, tyX4_ok, nmX4, Or.inl ⟨inT1 138 rfl, Or.inl rfl⟩⟩
theorem vw_X4_47 : VW RX4 47 yX4_nextNumber cX4_nextNumber 2 (some .boolean) 1 := ⟨⟨Or.inl ⟨inT2 90 rfl, Or.inl rfl⟩, ⟨inT1 6 rfl, Or.inl rfl⟩, ⟨⟨inT2 93 rfl, Or.inl rfl⟩, rfl⟩, by decide +kernel⟩, ⟨inT2 92 rfl, Or.inl rfl⟩, ⟨inS 14 rfl, Or.inl rfl⟩⟩
theorem fw_X4_51 : FW RX4 51 4 5 := ⟨RX4, TX4, 6, tyX4, rfl, by decide, lay_X4, tyX4_ok, nmX4, Or.inl ⟨inT1 140 rfl, Or.inl rfl⟩⟩
theorem fw_X4_54 : FW RX4 54 3 0 := ⟨RX3, TX3, 10, tyX3, rfl, by decide, lay_X3, tyX3_ok, nmX3, Or.inr ⟨"BiteChild", ⟨inT1 36 rfl, Or.inr rfl⟩⟩⟩
theorem vw_X4_57 : VW RX4 57 yX4_nextMark cX4_nextMark 1 (some .boolean) 0 := ⟨⟨Or.inl ⟨inT2 94 rfl, Or.inl rfl⟩, ⟨inT1 6 rfl, Or.inl rfl⟩, ⟨⟨inT2 97 rfl, Or.inl rfl⟩, rfl⟩, by decide +kernel⟩, ⟨inT2 96 rfl, Or.inl rfl⟩, ⟨inS 15 rfl, Or.inl rfl⟩⟩
theorem fw_X4_61 : FW RX4 61 3 4 := ⟨RX3, TX3, 10, tyX3, rfl, by decide, lay_X3, tyX3_ok, nmX3, Or.inr ⟨"BiteChild", ⟨inT1 46 rfl, Or.inr rfl⟩⟩⟩
theorem vw_X4_64 : VW RX4 64 yX3_childAt cX3_childAt 3 (some .int) 1 := ⟨⟨Or.inr ⟨"BiteChild", ⟨inT2 102 rfl, Or.inr rfl⟩⟩, ⟨inT1 3 rfl, Or.inl rfl⟩, ⟨⟨inT1 226 rfl, Or.inl rfl⟩, rfl⟩, by decide +kernel⟩, ⟨inT1 225 rfl, Or.inl rfl⟩, ⟨inS 5 rfl, Or.inl rfl⟩⟩
theorem vw_X4_68 : VW RX4 68 yX3_addChild cX3_addChild 6 (some .int) 4 := ⟨⟨Or.inr ⟨"BiteChild", ⟨inT2 103 rfl, Or.inr rfl⟩⟩, ⟨inT1 3 rfl, Or.inl rfl⟩, ⟨⟨inT1 231 rfl, Or.inl rfl⟩, rfl⟩, by decide +kernel⟩, ⟨inT1 230 rfl, Or.inl rfl⟩, ⟨inS 6 rfl, Or.inl rfl⟩⟩
theorem vw_X4_72 : VW RX4 72 yX3_giveCarrot cX3_giveCarrot 2 (some .int) 1 := ⟨⟨Or.inr ⟨"BiteChild", ⟨inT2 108 rfl, Or.inr rfl⟩⟩, ⟨inT1 3 rfl, Or.inl rfl⟩, ⟨⟨inT2 111 rfl, Or.inl rfl⟩, rfl⟩, by decide +kernel⟩, ⟨inT2 110 rfl, Or.inl rfl⟩, ⟨inS 18 rfl, Or.inl rfl⟩⟩
theorem sw_X4_75 : SW RX4 75 yX4_isLetter cX4_isLetter 1 (some .boolean) 1 := ⟨⟨Or.inl ⟨inT2 17 rfl, Or.inl rfl⟩, ⟨inT1 6 rfl, Or.inl rfl⟩, ⟨⟨inT2 19 rfl, Or.inl rfl⟩, rfl⟩, by decide +kernel⟩, ⟨inT2 18 rfl, Or.inl rfl⟩⟩
theorem vw_X4_78 : VW RX4 78 yX4_takeWord cX4_takeWord 1 none 0 := ⟨⟨Or.inl ⟨inT2 20 rfl, Or.inl rfl⟩, ⟨inT1 6 rfl, Or.inl rfl⟩, ⟨⟨inT2 23 rfl, Or.inl rfl⟩, rfl⟩, by decide +kernel⟩, ⟨inT2 22 rfl, Or.inl rfl⟩, ⟨inS 10 rfl, Or.inl rfl⟩⟩
theorem sw_X4_81 : SW RX4 81 yX4_isFigure cX4_isFigure 1 (some .boolean) 1 := ⟨⟨Or.inl ⟨inT2 79 rfl, Or.inl rfl⟩, ⟨inT1 6 rfl, Or.inl rfl⟩, ⟨⟨inT2 81 rfl, Or.inl rfl⟩, rfl⟩, by decide +kernel⟩, ⟨inT2 80 rfl, Or.inl rfl⟩⟩
theorem vw_X4_84 : VW RX4 84 yX4_takeFigures cX4_takeFigures 1 none 0 := ⟨⟨Or.inl ⟨inT2 82 rfl, Or.inl rfl⟩, ⟨inT1 6 rfl, Or.inl rfl⟩, ⟨⟨inT2 85 rfl, Or.inl rfl⟩, rfl⟩, by decide +kernel⟩, ⟨inT2 84 rfl, Or.inl rfl⟩, ⟨inS 12 rfl, Or.inl rfl⟩⟩
theorem vw_X4_89 : VW RX4 89 yX4_isWord cX4_isWord 3 (some .boolean) 1 := ⟨⟨Or.inl ⟨inT2 25 rfl, Or.inl rfl⟩, ⟨inT1 6 rfl, Or.inl rfl⟩, ⟨⟨inT2 28 rfl, Or.inl rfl⟩, rfl⟩, by decide +kernel⟩, ⟨inT2 27 rfl, Or.inl rfl⟩, ⟨inS 11 rfl, Or.inl rfl⟩⟩
theorem vw_X4_97 : VW RX4 97 yJ0_length_8abf5 cJ0_length_8abf5 1 (some .int) 0 := ⟨⟨Or.inl ⟨inT2 29 rfl, Or.inl rfl⟩, ⟨inT1 9 rfl, Or.inl rfl⟩, ⟨⟨inT2 32 rfl, Or.inl rfl⟩, rfl⟩, by decide +kernel⟩, ⟨inT2 30 rfl, Or.inl rfl⟩, ⟨inT2 31 rfl, Or.inl rfl⟩⟩
theorem vw_X4_102 : VW RX4 102 yJ0_charAt_5068e cJ0_charAt_5068e 2 (some .char) 1 := ⟨⟨Or.inl ⟨inT2 39 rfl, Or.inl rfl⟩, ⟨inT1 9 rfl, Or.inl rfl⟩, ⟨⟨inT2 42 rfl, Or.inl rfl⟩, rfl⟩, by decide +kernel⟩, ⟨inT2 40 rfl, Or.inl rfl⟩, ⟨inT2 41 rfl, Or.inl rfl⟩⟩
theorem fw_X5_10 : FW RX5 10 5 0 := ⟨RX5, TX5, 9, tyX5, rfl, by decide, lay_X5, tyX5_ok, nmX5, Or.inl ⟨inT1 158 rfl, Or.inl rfl⟩⟩
theorem fw_X5_16 : FW RX5 16 5 1 := ⟨RX5, TX5, 9, tyX5, rfl, by decide, lay_X5, tyX5_ok, nmX5, Or.inl ⟨inT1 159 rfl, Or.inl rfl⟩⟩
theorem fw_X5_20 : FW RX5 20 5 2 := ⟨RX5, TX5, 9, tyX5, rfl, by decide, lay_X5, tyX5_ok, nmX5, Or.inl ⟨inT1 160 rfl, Or.inl rfl⟩⟩
theorem fw_X5_27 : FW RX5 27 5 3 := ⟨RX5, TX5, 9, tyX5, rfl, by decide, lay_X5, tyX5_ok, nmX5, Or.inl ⟨inT1 161 rfl, Or.inl rfl⟩⟩
theorem fw_X5_34 : FW RX5 34 5 4 := ⟨RX5, TX5, 9, tyX5, rfl, by decide, lay_X5, tyX5_ok, nmX5, Or.inl ⟨inT1 162 rfl, Or.inl rfl⟩⟩
theorem fw_X5_38 : FW RX5 38 5 5 := ⟨RX5, TX5, 9, tyX5, rfl, by decide, lay_X5, tyX5_ok, nmX5, Or.inl ⟨inT1 163 rfl, Or.inl rfl⟩⟩
theorem fw_X5_42 : FW RX5 42 5 6 := ⟨RX5, TX5, 9, tyX5, rfl, by decide, lay_X5, tyX5_ok, nmX5, Or.inl ⟨inT1 164 rfl, Or.inl rfl⟩⟩
theorem fw_X5_45 : FW RX5 45 5 7 := ⟨RX5, TX5, 9, tyX5, rfl, by decide, lay_X5, tyX5_ok, nmX5, Or.inl ⟨inT1 165 rfl, Or.inl rfl⟩⟩
theorem fw_X5_49 : FW RX5 49 5 8 := ⟨RX5, TX5, 9, tyX5, rfl, by decide, lay_X5, tyX5_ok, nmX5, Or.inl ⟨inT1 166 rfl, Or.inl rfl⟩⟩
theorem sw_X5_52 : SW RX5 52 yX5_isSeat cX5_isSeat 1 (some .boolean) 1 := ⟨⟨Or.inl ⟨inT1 190 rfl, Or.inl rfl⟩, ⟨inT1 1 rfl, Or.inl rfl⟩, ⟨⟨inT1 192 rfl, Or.inl rfl⟩, rfl⟩, by decide +kernel⟩, ⟨inT1 191 rfl, Or.inl rfl⟩⟩
theorem vw_X5_56 : VW RX5 56 yX5_refuse cX5_refuse 3 (some .int) 1 := ⟨⟨Or.inl ⟨inT1 196 rfl, Or.inl rfl⟩, ⟨inT1 1 rfl, Or.inl rfl⟩, ⟨⟨inT1 199 rfl, Or.inl rfl⟩, rfl⟩, by decide +kernel⟩, ⟨inT1 198 rfl, Or.inl rfl⟩, ⟨inS 0 rfl, Or.inl rfl⟩⟩
theorem fw_X5_60 : FW RX5 60 2 0 := ⟨RX2, TX2, 3, tyX2, rfl, by decide, lay_X2, tyX2_ok, nmX2, Or.inr ⟨"BiteChild", ⟨inT1 115 rfl, Or.inr rfl⟩⟩⟩
theorem fw_X5_63 : FW RX5 63 3 4 := ⟨RX3, TX3, 10, tyX3, rfl, by decide, lay_X3, tyX3_ok, nmX3, Or.inr ⟨"BiteChild", ⟨inT1 44 rfl, Or.inr rfl⟩⟩⟩
theorem vw_X5_67 : VW RX5 67 yX3_layAnew cX3_layAnew 2 none 1 := ⟨⟨Or.inr ⟨"BiteChild", ⟨inT1 200 rfl, Or.inr rfl⟩⟩, ⟨inT1 3 rfl, Or.inl rfl⟩, ⟨⟨inT1 203 rfl, Or.inl rfl⟩, rfl⟩, by decide +kernel⟩, ⟨inT1 202 rfl, Or.inl rfl⟩, ⟨inS 1 rfl, Or.inl rfl⟩⟩
theorem vw_X5_71 : VW RX5 71 yX2_beginWith cX2_beginWith 2 none 1 := ⟨⟨Or.inr ⟨"BiteChild", ⟨inT1 204 rfl, Or.inr rfl⟩⟩, ⟨inT1 2 rfl, Or.inl rfl⟩, ⟨⟨inT1 207 rfl, Or.inl rfl⟩, rfl⟩, by decide +kernel⟩, ⟨inT1 206 rfl, Or.inl rfl⟩, ⟨inS 2 rfl, Or.inl rfl⟩⟩
theorem sw_X5_75 : SW RX5 75 yX5_within cX5_within 3 (some .boolean) 3 := ⟨⟨Or.inl ⟨inT1 193 rfl, Or.inl rfl⟩, ⟨inT1 1 rfl, Or.inl rfl⟩, ⟨⟨inT1 195 rfl, Or.inl rfl⟩, rfl⟩, by decide +kernel⟩, ⟨inT1 194 rfl, Or.inl rfl⟩⟩
theorem vw_X5_79 : VW RX5 79 yX3_childAt cX3_childAt 3 (some .int) 1 := ⟨⟨Or.inr ⟨"BiteChild", ⟨inT1 223 rfl, Or.inr rfl⟩⟩, ⟨inT1 3 rfl, Or.inl rfl⟩, ⟨⟨inT1 226 rfl, Or.inl rfl⟩, rfl⟩, by decide +kernel⟩, ⟨inT1 225 rfl, Or.inl rfl⟩, ⟨inS 5 rfl, Or.inl rfl⟩⟩
theorem fw_X5_82 : FW RX5 82 2 1 := ⟨RX2, TX2, 3, tyX2, rfl, by decide, lay_X2, tyX2_ok, nmX2, Or.inr ⟨"BiteChild", ⟨inT1 117 rfl, Or.inr rfl⟩⟩⟩
theorem vw_X5_86 : VW RX5 86 yX1_empty cX1_empty 1 none 0 := ⟨⟨Or.inr ⟨"BiteChild", ⟨inT1 227 rfl, Or.inr rfl⟩⟩, ⟨inT1 4 rfl, Or.inl rfl⟩, ⟨⟨inT1 218 rfl, Or.inl rfl⟩, rfl⟩, by decide +kernel⟩, ⟨inT1 217 rfl, Or.inl rfl⟩, ⟨inS 4 rfl, Or.inl rfl⟩⟩
theorem vw_X5_91 : VW RX5 91 yX3_addChild cX3_addChild 6 (some .int) 4 := ⟨⟨Or.inr ⟨"BiteChild", ⟨inT1 228 rfl, Or.inr rfl⟩⟩, ⟨inT1 3 rfl, Or.inl rfl⟩, ⟨⟨inT1 231 rfl, Or.inl rfl⟩, rfl⟩, by decide +kernel⟩, ⟨inT1 230 rfl, Or.inl rfl⟩, ⟨inS 6 rfl, Or.inl rfl⟩⟩
theorem fw_X5_95 : FW RX5 95 4 1 := ⟨RX4, TX4, 6, tyX4, rfl, by decide, lay_X4, tyX4_ok, nmX4, Or.inr ⟨"BiteChild", ⟨inT1 136 rfl, Or.inr rfl⟩⟩⟩
theorem vw_X5_98 : VW RX5 98 yX4_append cX4_append 2 (some .int) 1 := ⟨⟨Or.inr ⟨"BiteChild", ⟨inT1 236 rfl, Or.inr rfl⟩⟩, ⟨inT1 6 rfl, Or.inl rfl⟩, ⟨⟨inT1 239 rfl, Or.inl rfl⟩, rfl⟩, by decide +kernel⟩, ⟨inT1 238 rfl, Or.inl rfl⟩, ⟨inS 7 rfl, Or.inl rfl⟩⟩
theorem vw_X5_101 : VW RX5 101 yX4_readInto cX4_readInto 4 (some .int) 1 := ⟨⟨Or.inr ⟨"BiteChild", ⟨inT2 8 rfl, Or.inr rfl⟩⟩, ⟨inT1 6 rfl, Or.inl rfl⟩, ⟨⟨inT2 11 rfl, Or.inl rfl⟩, rfl⟩, by decide +kernel⟩, ⟨inT2 10 rfl, Or.inl rfl⟩, ⟨inS 8 rfl, Or.inl rfl⟩⟩
theorem vw_X5_105 : VW RX5 105 yX1_keep cX1_keep 2 none 1 := ⟨⟨Or.inr ⟨"BiteChild", ⟨inT2 119 rfl, Or.inr rfl⟩⟩, ⟨inT1 4 rfl, Or.inl rfl⟩, ⟨⟨inT2 122 rfl, Or.inl rfl⟩, rfl⟩, by decide +kernel⟩, ⟨inT2 121 rfl, Or.inl rfl⟩, ⟨inS 19 rfl, Or.inl rfl⟩⟩
theorem fw_X5_108 : FW RX5 108 3 1 := ⟨RX3, TX3, 10, tyX3, rfl, by decide, lay_X3, tyX3_ok, nmX3, Or.inr ⟨"BiteChild", ⟨inT1 39 rfl, Or.inr rfl⟩⟩⟩
theorem lw_X5_111 : LW RX5 111 Lib.Math.min.name := ⟨⟨inT2 124 rfl, Or.inl rfl⟩, ⟨inT2 125 rfl, Or.inl rfl⟩, ⟨inT1 13 rfl, Or.inl rfl⟩⟩
theorem vw_X5_117 : VW RX5 117 yX3_passMinutes cX3_passMinutes 4 (some .int) 1 := ⟨⟨Or.inr ⟨"BiteChild", ⟨inT2 127 rfl, Or.inr rfl⟩⟩, ⟨inT1 3 rfl, Or.inl rfl⟩, ⟨⟨inT2 130 rfl, Or.inl rfl⟩, rfl⟩, by decide +kernel⟩, ⟨inT2 129 rfl, Or.inl rfl⟩, ⟨inS 20 rfl, Or.inl rfl⟩⟩
theorem vw_X5_120 : VW RX5 120 yX5_isChild cX5_isChild 2 (some .boolean) 1 := ⟨⟨Or.inl ⟨inT2 184 rfl, Or.inl rfl⟩, ⟨inT1 1 rfl, Or.inl rfl⟩, ⟨⟨inT2 187 rfl, Or.inl rfl⟩, rfl⟩, by decide +kernel⟩, ⟨inT2 186 rfl, Or.inl rfl⟩, ⟨inS 28 rfl, Or.inl rfl⟩⟩
theorem vw_X5_123 : VW RX5 123 yX3_giveCarrot cX3_giveCarrot 2 (some .int) 1 := ⟨⟨Or.inr ⟨"BiteChild", ⟨inT2 188 rfl, Or.inr rfl⟩⟩, ⟨inT1 3 rfl, Or.inl rfl⟩, ⟨⟨inT2 111 rfl, Or.inl rfl⟩, rfl⟩, by decide +kernel⟩, ⟨inT2 110 rfl, Or.inl rfl⟩, ⟨inS 18 rfl, Or.inl rfl⟩⟩
theorem fw_X5_126 : FW RX5 126 3 6 := ⟨RX3, TX3, 10, tyX3, rfl, by decide, lay_X3, tyX3_ok, nmX3, Or.inr ⟨"BiteChild", ⟨inT1 49 rfl, Or.inr rfl⟩⟩⟩
theorem fw_X5_129 : FW RX5 129 3 0 := ⟨RX3, TX3, 10, tyX3, rfl, by decide, lay_X3, tyX3_ok, nmX3, Or.inr ⟨"BiteChild", ⟨inT1 37 rfl, Or.inr rfl⟩⟩⟩
theorem fw_X5_132 : FW RX5 132 1 2 := ⟨RX1, TX1, 3, tyX1, rfl, by decide, lay_X1, tyX1_ok, nmX1, Or.inr ⟨"BiteChild", ⟨inT1 90 rfl, Or.inr rfl⟩⟩⟩
theorem vw_X5_135 : VW RX5 135 yX1_giveBack cX1_giveBack 2 none 1 := ⟨⟨Or.inr ⟨"BiteChild", ⟨inT2 201 rfl, Or.inr rfl⟩⟩, ⟨inT1 4 rfl, Or.inl rfl⟩, ⟨⟨inT2 204 rfl, Or.inl rfl⟩, rfl⟩, by decide +kernel⟩, ⟨inT2 203 rfl, Or.inl rfl⟩, ⟨inS 29 rfl, Or.inl rfl⟩⟩
theorem vw_X5_138 : VW RX5 138 yX3_tightOf cX3_tightOf 2 (some .int) 1 := ⟨⟨Or.inr ⟨"BiteChild", ⟨inT2 209 rfl, Or.inr rfl⟩⟩, ⟨inT1 3 rfl, Or.inl rfl⟩, ⟨⟨inT2 212 rfl, Or.inl rfl⟩, rfl⟩, by decide +kernel⟩, ⟨inT2 211 rfl, Or.inl rfl⟩, ⟨inS 30 rfl, Or.inl rfl⟩⟩
theorem vw_X5_141 : VW RX5 141 yX3_partOf cX3_partOf 3 (some .int) 2 := ⟨⟨Or.inr ⟨"BiteChild", ⟨inT2 213 rfl, Or.inr rfl⟩⟩, ⟨inT1 3 rfl, Or.inl rfl⟩, ⟨⟨inT2 216 rfl, Or.inl rfl⟩, rfl⟩, by decide +kernel⟩, ⟨inT2 215 rfl, Or.inl rfl⟩, ⟨inS 31 rfl, Or.inl rfl⟩⟩
theorem vw_X5_144 : VW RX5 144 yX3_nearOf cX3_nearOf 2 (some .int) 1 := ⟨⟨Or.inr ⟨"BiteChild", ⟨inT2 221 rfl, Or.inr rfl⟩⟩, ⟨inT1 3 rfl, Or.inl rfl⟩, ⟨⟨inT2 224 rfl, Or.inl rfl⟩, rfl⟩, by decide +kernel⟩, ⟨inT2 223 rfl, Or.inl rfl⟩, ⟨inS 32 rfl, Or.inl rfl⟩⟩
theorem vw_X5_147 : VW RX5 147 yX3_whomOf cX3_whomOf 3 (some .int) 1 := ⟨⟨Or.inr ⟨"BiteChild", ⟨inT2 226 rfl, Or.inr rfl⟩⟩, ⟨inT1 3 rfl, Or.inl rfl⟩, ⟨⟨inT2 171 rfl, Or.inl rfl⟩, rfl⟩, by decide +kernel⟩, ⟨inT2 170 rfl, Or.inl rfl⟩, ⟨inS 27 rfl, Or.inl rfl⟩⟩
theorem vw_X5_150 : VW RX5 150 yX3_biters cX3_biters 5 (some .int) 0 := ⟨⟨Or.inr ⟨"BiteChild", ⟨inT2 227 rfl, Or.inr rfl⟩⟩, ⟨inT1 3 rfl, Or.inl rfl⟩, ⟨⟨inT2 138 rfl, Or.inl rfl⟩, rfl⟩, by decide +kernel⟩, ⟨inT2 137 rfl, Or.inl rfl⟩, ⟨inS 22 rfl, Or.inl rfl⟩⟩
theorem vw_X5_154 : VW RX5 154 yX3_copyFrom cX3_copyFrom 2 none 1 := ⟨⟨Or.inr ⟨"BiteChild", ⟨inT2 232 rfl, Or.inr rfl⟩⟩, ⟨inT1 3 rfl, Or.inl rfl⟩, ⟨⟨inT1 211 rfl, Or.inl rfl⟩, rfl⟩, by decide +kernel⟩, ⟨inT1 210 rfl, Or.inl rfl⟩, ⟨inS 3 rfl, Or.inl rfl⟩⟩
theorem fw_X5_157 : FW RX5 157 3 2 := ⟨RX3, TX3, 10, tyX3, rfl, by decide, lay_X3, tyX3_ok, nmX3, Or.inr ⟨"BiteChild", ⟨inT1 41 rfl, Or.inr rfl⟩⟩⟩
theorem fw_X5_160 : FW RX5 160 3 9 := ⟨RX3, TX3, 10, tyX3, rfl, by decide, lay_X3, tyX3_ok, nmX3, Or.inr ⟨"BiteChild", ⟨inT1 55 rfl, Or.inr rfl⟩⟩⟩
theorem vw_X5_163 : VW RX5 163 yX3_passMinute cX3_passMinute 3 (some .int) 0 := ⟨⟨Or.inr ⟨"BiteChild", ⟨inT2 237 rfl, Or.inr rfl⟩⟩, ⟨inT1 3 rfl, Or.inl rfl⟩, ⟨⟨inT2 134 rfl, Or.inl rfl⟩, rfl⟩, by decide +kernel⟩, ⟨inT2 133 rfl, Or.inl rfl⟩, ⟨inS 21 rfl, Or.inl rfl⟩⟩
theorem vw_X5_166 : VW RX5 166 yX5_bitesWithCarrot cX5_bitesWithCarrot 4 (some .int) 2 := ⟨⟨Or.inl ⟨inT3 6 rfl, Or.inl rfl⟩, ⟨inT1 1 rfl, Or.inl rfl⟩, ⟨⟨inT3 9 rfl, Or.inl rfl⟩, rfl⟩, by decide +kernel⟩, ⟨inT3 8 rfl, Or.inl rfl⟩, ⟨inS 33 rfl, Or.inl rfl⟩⟩
theorem sw_X5_169 : SW RX5 169 yX5_seatRest cX5_seatRest 8 (some .int) 5 := ⟨⟨Or.inl ⟨inT3 14 rfl, Or.inl rfl⟩, ⟨inT1 1 rfl, Or.inl rfl⟩, ⟨⟨inT3 16 rfl, Or.inl rfl⟩, rfl⟩, by decide +kernel⟩, ⟨inT3 15 rfl, Or.inl rfl⟩⟩
theorem fw_X5_173 : FW RX5 173 3 7 := ⟨RX3, TX3, 10, tyX3, rfl, by decide, lay_X3, tyX3_ok, nmX3, Or.inr ⟨"BiteChild", ⟨inT1 51 rfl, Or.inr rfl⟩⟩⟩
theorem fw_X5_176 : FW RX5 176 2 2 := ⟨RX2, TX2, 3, tyX2, rfl, by decide, lay_X2, tyX2_ok, nmX2, Or.inr ⟨"BiteChild", ⟨inT1 119 rfl, Or.inr rfl⟩⟩⟩
theorem fw_X5_180 : FW RX5 180 0 1 := ⟨RX0, TX0, 2, tyX0, rfl, by decide, lay_X0, tyX0_ok, nmX0, Or.inr ⟨"BiteChild", ⟨inT1 108 rfl, Or.inr rfl⟩⟩⟩
theorem vw_X5_183 : VW RX5 183 yX0_add cX0_add 9 (some .int) 7 := ⟨⟨Or.inr ⟨"BiteChild", ⟨inT3 31 rfl, Or.inr rfl⟩⟩, ⟨inT1 5 rfl, Or.inl rfl⟩, ⟨⟨inT3 34 rfl, Or.inl rfl⟩, rfl⟩, by decide +kernel⟩, ⟨inT3 33 rfl, Or.inl rfl⟩, ⟨inS 34 rfl, Or.inl rfl⟩⟩
theorem vw_X5_187 : VW RX5 187 yX0_kindsOf cX0_kindsOf 5 (some .int) 1 := ⟨⟨Or.inr ⟨"BiteChild", ⟨inT3 43 rfl, Or.inr rfl⟩⟩, ⟨inT1 5 rfl, Or.inl rfl⟩, ⟨⟨inT3 46 rfl, Or.inl rfl⟩, rfl⟩, by decide +kernel⟩, ⟨inT3 45 rfl, Or.inl rfl⟩, ⟨inS 35 rfl, Or.inl rfl⟩⟩
theorem fw_X5_190 : FW RX5 190 3 8 := ⟨RX3, TX3, 10, tyX3, rfl, by decide, lay_X3, tyX3_ok, nmX3, Or.inr ⟨"BiteChild", ⟨inT1 53 rfl, Or.inr rfl⟩⟩⟩
theorem sw_X5_193 : SW RX5 193 yX5_mostAlike cX5_mostAlike 9 (some .int) 6 := ⟨⟨Or.inl ⟨inT3 55 rfl, Or.inl rfl⟩, ⟨inT1 1 rfl, Or.inl rfl⟩, ⟨⟨inT3 57 rfl, Or.inl rfl⟩, rfl⟩, by decide +kernel⟩, ⟨inT3 56 rfl, Or.inl rfl⟩⟩
theorem vw_X5_197 : VW RX5 197 yX5_ringGain cX5_ringGain 9 (some .int) 4 := ⟨⟨Or.inl ⟨inT3 67 rfl, Or.inl rfl⟩, ⟨inT1 1 rfl, Or.inl rfl⟩, ⟨⟨inT3 70 rfl, Or.inl rfl⟩, rfl⟩, by decide +kernel⟩, ⟨inT3 69 rfl, Or.inl rfl⟩, ⟨inS 36 rfl, Or.inl rfl⟩⟩
theorem sw_X5_200 : SW RX5 200 yJ6_bitCount_0f7a4 cJ6_bitCount_0f7a4 1 (some .int) 1 := ⟨⟨Or.inl ⟨inT3 17 rfl, Or.inl rfl⟩, ⟨inT1 14 rfl, Or.inl rfl⟩, ⟨⟨inT2 176 rfl, Or.inl rfl⟩, rfl⟩, by decide +kernel⟩, ⟨inT2 175 rfl, Or.inl rfl⟩⟩
theorem vw_X5_216 : VW RX5 216 yX2_copyFrom cX2_copyFrom 2 none 1 := ⟨⟨Or.inr ⟨"BiteChild", ⟨inT3 94 rfl, Or.inr rfl⟩⟩, ⟨inT1 2 rfl, Or.inl rfl⟩, ⟨⟨inT3 97 rfl, Or.inl rfl⟩, rfl⟩, by decide +kernel⟩, ⟨inT3 96 rfl, Or.inl rfl⟩, ⟨inS 37 rfl, Or.inl rfl⟩⟩
theorem vw_X5_219 : VW RX5 219 yX5_howMany cX5_howMany 2 (some .int) 1 := ⟨⟨Or.inl ⟨inT3 119 rfl, Or.inl rfl⟩, ⟨inT1 1 rfl, Or.inl rfl⟩, ⟨⟨inT3 122 rfl, Or.inl rfl⟩, rfl⟩, by decide +kernel⟩, ⟨inT3 121 rfl, Or.inl rfl⟩, ⟨inS 40 rfl, Or.inl rfl⟩⟩
theorem fw_X5_224 : FW RX5 224 0 0 := ⟨RX0, TX0, 2, tyX0, rfl, by decide, lay_X0, tyX0_ok, nmX0, Or.inr ⟨"BiteChild", ⟨inT1 105 rfl, Or.inr rfl⟩⟩⟩
theorem fw_X5_227 : FW RX5 227 3 3 := ⟨RX3, TX3, 10, tyX3, rfl, by decide, lay_X3, tyX3_ok, nmX3, Or.inr ⟨"BiteChild", ⟨inT1 43 rfl, Or.inr rfl⟩⟩⟩
theorem lw_X5_230 : LW RX5 230 arraycopyName := ⟨⟨inT3 18 rfl, Or.inl rfl⟩, ⟨inT1 213 rfl, Or.inl rfl⟩, ⟨inT1 8 rfl, Or.inl rfl⟩⟩
theorem vw_X5_236 : VW RX5 236 yX3_timesBitten cX3_timesBitten 5 (some .int) 2 := ⟨⟨Or.inr ⟨"BiteChild", ⟨inT3 71 rfl, Or.inr rfl⟩⟩, ⟨inT1 3 rfl, Or.inl rfl⟩, ⟨⟨inT2 167 rfl, Or.inl rfl⟩, rfl⟩, by decide +kernel⟩, ⟨inT2 166 rfl, Or.inl rfl⟩, ⟨inS 26 rfl, Or.inl rfl⟩⟩
theorem sw_X5_239 : SW RX5 239 yX5_near cX5_near 9 (some .int) 6 := ⟨⟨Or.inl ⟨inT3 50 rfl, Or.inl rfl⟩, ⟨inT1 1 rfl, Or.inl rfl⟩, ⟨⟨inT2 162 rfl, Or.inl rfl⟩, rfl⟩, by decide +kernel⟩, ⟨inT2 161 rfl, Or.inl rfl⟩⟩
theorem sw_X5_242 : SW RX5 242 yX5_kindsSoNear cX5_kindsSoNear 8 (some .int) 6 := ⟨⟨Or.inl ⟨inT3 58 rfl, Or.inl rfl⟩, ⟨inT1 1 rfl, Or.inl rfl⟩, ⟨⟨inT3 49 rfl, Or.inl rfl⟩, rfl⟩, by decide +kernel⟩, ⟨inT3 48 rfl, Or.inl rfl⟩⟩
theorem lw_X5_245 : LW RX5 245 Lib.Math.max.name := ⟨⟨inT2 163 rfl, Or.inl rfl⟩, ⟨inT2 113 rfl, Or.inl rfl⟩, ⟨inT1 13 rfl, Or.inl rfl⟩⟩
theorem fw_X6_7 : FW RX6 7 6 0 := ⟨RX6, TX6, 19, tyX6, rfl, by decide, lay_X6, tyX6_ok, nmX6, Or.inl ⟨inT3 137 rfl, Or.inl rfl⟩⟩
theorem fw_X6_13 : FW RX6 13 6 1 := ⟨RX6, TX6, 19, tyX6, rfl, by decide, lay_X6, tyX6_ok, nmX6, Or.inl ⟨inT3 138 rfl, Or.inl rfl⟩⟩
theorem fw_X6_16 : FW RX6 16 6 2 := ⟨RX6, TX6, 19, tyX6, rfl, by decide, lay_X6, tyX6_ok, nmX6, Or.inl ⟨inT3 139 rfl, Or.inl rfl⟩⟩
theorem fw_X6_19 : FW RX6 19 6 3 := ⟨RX6, TX6, 19, tyX6, rfl, by decide, lay_X6, tyX6_ok, nmX6, Or.inl ⟨inT3 140 rfl, Or.inl rfl⟩⟩
theorem fw_X6_22 : FW RX6 22 6 4 := ⟨RX6, TX6, 19, tyX6, rfl, by decide, lay_X6, tyX6_ok, nmX6, Or.inl ⟨inT3 141 rfl, Or.inl rfl⟩⟩
theorem fw_X6_26 : FW RX6 26 6 5 := ⟨RX6, TX6, 19, tyX6, rfl, by decide, lay_X6, tyX6_ok, nmX6, Or.inl ⟨inT3 142 rfl, Or.inl rfl⟩⟩
theorem fw_X6_29 : FW RX6 29 6 8 := ⟨RX6, TX6, 19, tyX6, rfl, by decide, lay_X6, tyX6_ok, nmX6, Or.inl ⟨inT3 145 rfl, Or.inl rfl⟩⟩
theorem fw_X6_33 : FW RX6 33 6 17 := ⟨RX6, TX6, 19, tyX6, rfl, by decide, lay_X6, tyX6_ok, nmX6, Or.inl ⟨inT3 154 rfl, Or.inl rfl⟩⟩
theorem fw_X6_36 : FW RX6 36 6 18 := ⟨RX6, TX6, 19, tyX6, rfl, by decide, lay_X6, tyX6_ok, nmX6, Or.inl ⟨inT3 155 rfl, Or.inl rfl⟩⟩
theorem sw_X6_39 : SW RX6 39 yX6_begins cX6_begins 3 none 2 := ⟨⟨Or.inl ⟨inT3 134 rfl, Or.inl rfl⟩, ⟨inT1 7 rfl, Or.inl rfl⟩, ⟨⟨inT3 136 rfl, Or.inl rfl⟩, rfl⟩, by decide +kernel⟩, ⟨inT3 135 rfl, Or.inl rfl⟩⟩
theorem fw_X6_43 : FW RX6 43 6 9 := ⟨RX6, TX6, 19, tyX6, rfl, by decide, lay_X6, tyX6_ok, nmX6, Or.inl ⟨inT3 146 rfl, Or.inl rfl⟩⟩
theorem fw_X6_47 : FW RX6 47 6 10 := ⟨RX6, TX6, 19, tyX6, rfl, by decide, lay_X6, tyX6_ok, nmX6, Or.inl ⟨inT3 147 rfl, Or.inl rfl⟩⟩
theorem fw_X6_50 : FW RX6 50 6 11 := ⟨RX6, TX6, 19, tyX6, rfl, by decide, lay_X6, tyX6_ok, nmX6, Or.inl ⟨inT3 148 rfl, Or.inl rfl⟩⟩
theorem sw_X6_55 : SW RX6 55 yX6_in cX6_in 6 (some .boolean) 3 := ⟨⟨Or.inl ⟨inT3 203 rfl, Or.inl rfl⟩, ⟨inT1 7 rfl, Or.inl rfl⟩, ⟨⟨inT3 205 rfl, Or.inl rfl⟩, rfl⟩, by decide +kernel⟩, ⟨inT3 204 rfl, Or.inl rfl⟩⟩
theorem sw_X6_59 : SW RX6 59 yX6_isSeat cX6_isSeat 1 (some .boolean) 1 := ⟨⟨Or.inl ⟨inT3 199 rfl, Or.inl rfl⟩, ⟨inT1 7 rfl, Or.inl rfl⟩, ⟨⟨inT3 201 rfl, Or.inl rfl⟩, rfl⟩, by decide +kernel⟩, ⟨inT3 200 rfl, Or.inl rfl⟩⟩
theorem vw_X6_63 : VW RX6 63 yX6_bad cX6_bad 1 (some .int) 0 := ⟨⟨Or.inl ⟨inT3 206 rfl, Or.inl rfl⟩, ⟨inT1 7 rfl, Or.inl rfl⟩, ⟨⟨inT3 209 rfl, Or.inl rfl⟩, rfl⟩, by decide +kernel⟩, ⟨inT3 208 rfl, Or.inl rfl⟩, ⟨inS 41 rfl, Or.inl rfl⟩⟩
theorem sw_X6_73 : SW RX6 73 yX6_whoIs cX6_whoIs 3 (some .int) 2 := ⟨⟨Or.inl ⟨inT3 217 rfl, Or.inl rfl⟩, ⟨inT1 7 rfl, Or.inl rfl⟩, ⟨⟨inT3 219 rfl, Or.inl rfl⟩, rfl⟩, by decide +kernel⟩, ⟨inT3 218 rfl, Or.inl rfl⟩⟩
theorem vw_X6_77 : VW RX6 77 yX6_no cX6_no 1 (some .int) 0 := ⟨⟨Or.inl ⟨inT3 220 rfl, Or.inl rfl⟩, ⟨inT1 7 rfl, Or.inl rfl⟩, ⟨⟨inT3 223 rfl, Or.inl rfl⟩, rfl⟩, by decide +kernel⟩, ⟨inT3 222 rfl, Or.inl rfl⟩, ⟨inS 42 rfl, Or.inl rfl⟩⟩
theorem vw_X6_80 : VW RX6 80 yX6_full cX6_full 1 (some .int) 0 := ⟨⟨Or.inl ⟨inT3 224 rfl, Or.inl rfl⟩, ⟨inT1 7 rfl, Or.inl rfl⟩, ⟨⟨inT3 227 rfl, Or.inl rfl⟩, rfl⟩, by decide +kernel⟩, ⟨inT3 226 rfl, Or.inl rfl⟩, ⟨inS 43 rfl, Or.inl rfl⟩⟩
theorem sw_X6_83 : SW RX6 83 yX6_comes cX6_comes 6 none 5 := ⟨⟨Or.inl ⟨inT3 228 rfl, Or.inl rfl⟩, ⟨inT1 7 rfl, Or.inl rfl⟩, ⟨⟨inT3 230 rfl, Or.inl rfl⟩, rfl⟩, by decide +kernel⟩, ⟨inT3 229 rfl, Or.inl rfl⟩⟩
theorem fw_X6_89 : FW RX6 89 6 6 := ⟨RX6, TX6, 19, tyX6, rfl, by decide, lay_X6, tyX6_ok, nmX6, Or.inl ⟨inT3 143 rfl, Or.inl rfl⟩⟩
theorem fw_X6_92 : FW RX6 92 6 12 := ⟨RX6, TX6, 19, tyX6, rfl, by decide, lay_X6, tyX6_ok, nmX6, Or.inl ⟨inT3 149 rfl, Or.inl rfl⟩⟩
theorem vw_X6_95 : VW RX6 95 yX6_here cX6_here 1 (some .int) 0 := ⟨⟨Or.inl ⟨inT4 8 rfl, Or.inl rfl⟩, ⟨inT1 7 rfl, Or.inl rfl⟩, ⟨⟨inT4 11 rfl, Or.inl rfl⟩, rfl⟩, by decide +kernel⟩, ⟨inT4 10 rfl, Or.inl rfl⟩, ⟨inS 45 rfl, Or.inl rfl⟩⟩
theorem fw_X6_98 : FW RX6 98 6 13 := ⟨RX6, TX6, 19, tyX6, rfl, by decide, lay_X6, tyX6_ok, nmX6, Or.inl ⟨inT3 150 rfl, Or.inl rfl⟩⟩
theorem fw_X6_101 : FW RX6 101 6 15 := ⟨RX6, TX6, 19, tyX6, rfl, by decide, lay_X6, tyX6_ok, nmX6, Or.inl ⟨inT3 152 rfl, Or.inl rfl⟩⟩
theorem fw_X6_104 : FW RX6 104 6 16 := ⟨RX6, TX6, 19, tyX6, rfl, by decide, lay_X6, tyX6_ok, nmX6, Or.inl ⟨inT3 153 rfl, Or.inl rfl⟩⟩
theorem fw_X6_115 : FW RX6 115 6 14 := ⟨RX6, TX6, 19, tyX6, rfl, by decide, lay_X6, tyX6_ok, nmX6, Or.inl ⟨inT3 151 rfl, Or.inl rfl⟩⟩
theorem vw_X6_122 : VW RX6 122 yX6_step cX6_step 2 none 0 := ⟨⟨Or.inl ⟨inT4 4 rfl, Or.inl rfl⟩, ⟨inT1 7 rfl, Or.inl rfl⟩, ⟨⟨inT4 7 rfl, Or.inl rfl⟩, rfl⟩, by decide +kernel⟩, ⟨inT4 6 rfl, Or.inl rfl⟩, ⟨inS 44 rfl, Or.inl rfl⟩⟩
theorem vw_X6_125 : VW RX6 125 yX6_number cX6_number 2 (some .boolean) 1 := ⟨⟨Or.inl ⟨inT4 27 rfl, Or.inl rfl⟩, ⟨inT1 7 rfl, Or.inl rfl⟩, ⟨⟨inT4 30 rfl, Or.inl rfl⟩, rfl⟩, by decide +kernel⟩, ⟨inT4 29 rfl, Or.inl rfl⟩, ⟨inS 48 rfl, Or.inl rfl⟩⟩
theorem sw_X6_128 : SW RX6 128 yX6_lesser cX6_lesser 2 (some .int) 2 := ⟨⟨Or.inl ⟨inT4 41 rfl, Or.inl rfl⟩, ⟨inT1 7 rfl, Or.inl rfl⟩, ⟨⟨inT4 43 rfl, Or.inl rfl⟩, rfl⟩, by decide +kernel⟩, ⟨inT4 42 rfl, Or.inl rfl⟩⟩
theorem vw_X6_134 : VW RX6 134 yX6_readsTable cX6_readsTable 1 (some .boolean) 0 := ⟨⟨Or.inl ⟨inT4 23 rfl, Or.inl rfl⟩, ⟨inT1 7 rfl, Or.inl rfl⟩, ⟨⟨inT4 26 rfl, Or.inl rfl⟩, rfl⟩, by decide +kernel⟩, ⟨inT4 25 rfl, Or.inl rfl⟩, ⟨inS 47 rfl, Or.inl rfl⟩⟩
theorem vw_X6_140 : VW RX6 140 yX6_readsChild cX6_readsChild 4 (some .boolean) 0 := ⟨⟨Or.inl ⟨inT4 32 rfl, Or.inl rfl⟩, ⟨inT1 7 rfl, Or.inl rfl⟩, ⟨⟨inT4 35 rfl, Or.inl rfl⟩, rfl⟩, by decide +kernel⟩, ⟨inT4 34 rfl, Or.inl rfl⟩, ⟨inS 49 rfl, Or.inl rfl⟩⟩
theorem vw_X6_145 : VW RX6 145 yX6_readsCarrot cX6_readsCarrot 1 (some .boolean) 0 := ⟨⟨Or.inl ⟨inT4 37 rfl, Or.inl rfl⟩, ⟨inT1 7 rfl, Or.inl rfl⟩, ⟨⟨inT4 40 rfl, Or.inl rfl⟩, rfl⟩, by decide +kernel⟩, ⟨inT4 39 rfl, Or.inl rfl⟩, ⟨inS 50 rfl, Or.inl rfl⟩⟩
theorem vw_X6_148 : VW RX6 148 yX6_readsItem cX6_readsItem 4 (some .boolean) 1 := ⟨⟨Or.inl ⟨inT4 18 rfl, Or.inl rfl⟩, ⟨inT1 7 rfl, Or.inl rfl⟩, ⟨⟨inT4 21 rfl, Or.inl rfl⟩, rfl⟩, by decide +kernel⟩, ⟨inT4 20 rfl, Or.inl rfl⟩, ⟨inS 46 rfl, Or.inl rfl⟩⟩
theorem sw_X6_152 : SW RX6 152 yX6_copies cX6_copies 6 none 5 := ⟨⟨Or.inl ⟨inT4 44 rfl, Or.inl rfl⟩, ⟨inT1 7 rfl, Or.inl rfl⟩, ⟨⟨inT4 46 rfl, Or.inl rfl⟩, rfl⟩, by decide +kernel⟩, ⟨inT4 45 rfl, Or.inl rfl⟩⟩
theorem sw_X6_156 : SW RX6 156 yX6_tight cX6_tight 4 (some .int) 2 := ⟨⟨Or.inl ⟨inT4 68 rfl, Or.inl rfl⟩, ⟨inT1 7 rfl, Or.inl rfl⟩, ⟨⟨inT4 70 rfl, Or.inl rfl⟩, rfl⟩, by decide +kernel⟩, ⟨inT4 69 rfl, Or.inl rfl⟩⟩
theorem sw_X6_159 : SW RX6 159 yX6_nearAs cX6_nearAs 8 (some .int) 6 := ⟨⟨Or.inl ⟨inT4 71 rfl, Or.inl rfl⟩, ⟨inT1 7 rfl, Or.inl rfl⟩, ⟨⟨inT4 73 rfl, Or.inl rfl⟩, rfl⟩, by decide +kernel⟩, ⟨inT4 72 rfl, Or.inl rfl⟩⟩
theorem sw_X6_163 : SW RX6 163 yX6_nearOf cX6_nearOf 2 (some .int) 2 := ⟨⟨Or.inl ⟨inT4 65 rfl, Or.inl rfl⟩, ⟨inT1 7 rfl, Or.inl rfl⟩, ⟨⟨inT4 67 rfl, Or.inl rfl⟩, rfl⟩, by decide +kernel⟩, ⟨inT4 66 rfl, Or.inl rfl⟩⟩
theorem sw_X6_166 : SW RX6 166 yX6_isGuarded cX6_isGuarded 3 (some .boolean) 2 := ⟨⟨Or.inl ⟨inT4 74 rfl, Or.inl rfl⟩, ⟨inT1 7 rfl, Or.inl rfl⟩, ⟨⟨inT4 76 rfl, Or.inl rfl⟩, rfl⟩, by decide +kernel⟩, ⟨inT4 75 rfl, Or.inl rfl⟩⟩
theorem sw_X6_170 : SW RX6 170 yX6_whom cX6_whom 3 (some .int) 2 := ⟨⟨Or.inl ⟨inT4 77 rfl, Or.inl rfl⟩, ⟨inT1 7 rfl, Or.inl rfl⟩, ⟨⟨inT4 79 rfl, Or.inl rfl⟩, rfl⟩, by decide +kernel⟩, ⟨inT4 78 rfl, Or.inl rfl⟩⟩
theorem sw_X6_173 : SW RX6 173 yX6_bites cX6_bites 2 (some .boolean) 2 := ⟨⟨Or.inl ⟨inT4 62 rfl, Or.inl rfl⟩, ⟨inT1 7 rfl, Or.inl rfl⟩, ⟨⟨inT4 64 rfl, Or.inl rfl⟩, rfl⟩, by decide +kernel⟩, ⟨inT4 63 rfl, Or.inl rfl⟩⟩
theorem sw_X6_176 : SW RX6 176 yX6_biters cX6_biters 3 (some .int) 1 := ⟨⟨Or.inl ⟨inT4 59 rfl, Or.inl rfl⟩, ⟨inT1 7 rfl, Or.inl rfl⟩, ⟨⟨inT4 61 rfl, Or.inl rfl⟩, rfl⟩, by decide +kernel⟩, ⟨inT4 60 rfl, Or.inl rfl⟩⟩
theorem sw_X6_180 : SW RX6 180 yX6_has cX6_has 2 (some .boolean) 2 := ⟨⟨Or.inl ⟨inT4 80 rfl, Or.inl rfl⟩, ⟨inT1 7 rfl, Or.inl rfl⟩, ⟨⟨inT4 82 rfl, Or.inl rfl⟩, rfl⟩, by decide +kernel⟩, ⟨inT4 81 rfl, Or.inl rfl⟩⟩
theorem sw_X6_184 : SW RX6 184 yX6_bits cX6_bits 3 (some .int) 1 := ⟨⟨Or.inl ⟨inT4 83 rfl, Or.inl rfl⟩, ⟨inT1 7 rfl, Or.inl rfl⟩, ⟨⟨inT4 85 rfl, Or.inl rfl⟩, rfl⟩, by decide +kernel⟩, ⟨inT4 84 rfl, Or.inl rfl⟩⟩
theorem vw_X6_190 : VW RX6 190 yX6_remember cX6_remember 2 none 0 := ⟨⟨Or.inl ⟨inT4 52 rfl, Or.inl rfl⟩, ⟨inT1 7 rfl, Or.inl rfl⟩, ⟨⟨inT4 55 rfl, Or.inl rfl⟩, rfl⟩, by decide +kernel⟩, ⟨inT4 54 rfl, Or.inl rfl⟩, ⟨inS 51 rfl, Or.inl rfl⟩⟩
theorem sw_X6_193 : SW RX6 193 yX6_goes cX6_goes 3 none 1 := ⟨⟨Or.inl ⟨inT4 56 rfl, Or.inl rfl⟩, ⟨inT1 7 rfl, Or.inl rfl⟩, ⟨⟨inT4 58 rfl, Or.inl rfl⟩, rfl⟩, by decide +kernel⟩, ⟨inT4 57 rfl, Or.inl rfl⟩⟩
theorem vw_X6_197 : VW RX6 197 yX6_isChild cX6_isChild 2 (some .boolean) 1 := ⟨⟨Or.inl ⟨inT4 90 rfl, Or.inl rfl⟩, ⟨inT1 7 rfl, Or.inl rfl⟩, ⟨⟨inT4 93 rfl, Or.inl rfl⟩, rfl⟩, by decide +kernel⟩, ⟨inT4 92 rfl, Or.inl rfl⟩, ⟨inS 52 rfl, Or.inl rfl⟩⟩
theorem vw_X6_202 : VW RX6 202 yX6_worse cX6_worse 1 (some .int) 0 := ⟨⟨Or.inl ⟨inT4 115 rfl, Or.inl rfl⟩, ⟨inT1 7 rfl, Or.inl rfl⟩, ⟨⟨inT4 118 rfl, Or.inl rfl⟩, rfl⟩, by decide +kernel⟩, ⟨inT4 117 rfl, Or.inl rfl⟩, ⟨inS 53 rfl, Or.inl rfl⟩⟩
theorem vw_X6_205 : VW RX6 205 yX6_layAside cX6_layAside 1 none 0 := ⟨⟨Or.inl ⟨inT4 123 rfl, Or.inl rfl⟩, ⟨inT1 7 rfl, Or.inl rfl⟩, ⟨⟨inT4 126 rfl, Or.inl rfl⟩, rfl⟩, by decide +kernel⟩, ⟨inT4 125 rfl, Or.inl rfl⟩, ⟨inS 54 rfl, Or.inl rfl⟩⟩
theorem vw_X6_208 : VW RX6 208 yX6_bitesIn cX6_bitesIn 4 (some .int) 1 := ⟨⟨Or.inl ⟨inT4 127 rfl, Or.inl rfl⟩, ⟨inT1 7 rfl, Or.inl rfl⟩, ⟨⟨inT4 130 rfl, Or.inl rfl⟩, rfl⟩, by decide +kernel⟩, ⟨inT4 129 rfl, Or.inl rfl⟩, ⟨inS 55 rfl, Or.inl rfl⟩⟩
theorem vw_X6_212 : VW RX6 212 yX6_seatsAll cX6_seatsAll 5 (some .int) 0 := ⟨⟨Or.inl ⟨inT4 148 rfl, Or.inl rfl⟩, ⟨inT1 7 rfl, Or.inl rfl⟩, ⟨⟨inT4 151 rfl, Or.inl rfl⟩, rfl⟩, by decide +kernel⟩, ⟨inT4 150 rfl, Or.inl rfl⟩, ⟨inS 56 rfl, Or.inl rfl⟩⟩
theorem vw_X6_219 : VW RX6 219 yX6_kindsOf cX6_kindsOf 6 (some .int) 1 := ⟨⟨Or.inl ⟨inT4 174 rfl, Or.inl rfl⟩, ⟨inT1 7 rfl, Or.inl rfl⟩, ⟨⟨inT4 177 rfl, Or.inl rfl⟩, rfl⟩, by decide +kernel⟩, ⟨inT4 176 rfl, Or.inl rfl⟩, ⟨inS 57 rfl, Or.inl rfl⟩⟩
theorem vw_X6_222 : VW RX6 222 yX6_alike cX6_alike 11 (some .int) 6 := ⟨⟨Or.inl ⟨inT4 182 rfl, Or.inl rfl⟩, ⟨inT1 7 rfl, Or.inl rfl⟩, ⟨⟨inT4 185 rfl, Or.inl rfl⟩, rfl⟩, by decide +kernel⟩, ⟨inT4 184 rfl, Or.inl rfl⟩, ⟨inS 58 rfl, Or.inl rfl⟩⟩
theorem vw_X6_225 : VW RX6 225 yX6_gets cX6_gets 6 (some .int) 2 := ⟨⟨Or.inl ⟨inT4 194 rfl, Or.inl rfl⟩, ⟨inT1 7 rfl, Or.inl rfl⟩, ⟨⟨inT4 197 rfl, Or.inl rfl⟩, rfl⟩, by decide +kernel⟩, ⟨inT4 196 rfl, Or.inl rfl⟩, ⟨inS 59 rfl, Or.inl rfl⟩⟩
theorem fw_X6_230 : FW RX6 230 6 7 := ⟨RX6, TX6, 19, tyX6, rfl, by decide, lay_X6, tyX6_ok, nmX6, Or.inl ⟨inT3 144 rfl, Or.inl rfl⟩⟩
theorem vw_X6_245 : VW RX6 245 yX6_counted cX6_counted 2 (some .int) 1 := ⟨⟨Or.inl ⟨inT4 233 rfl, Or.inl rfl⟩, ⟨inT1 7 rfl, Or.inl rfl⟩, ⟨⟨inT4 236 rfl, Or.inl rfl⟩, rfl⟩, by decide +kernel⟩, ⟨inT4 235 rfl, Or.inl rfl⟩, ⟨inS 60 rfl, Or.inl rfl⟩⟩
theorem kw_math_max : okw (.code Lib.Math.max.name Lib.Math.max.code 2 (some .int)) := ⟨inT2 114 rfl, Or.inl rfl⟩
theorem kw_math_min : okw (.code Lib.Math.min.name Lib.Math.min.code 2 (some .int)) := ⟨inT2 126 rfl, Or.inl rfl⟩
theorem kw_acopy : okw (.native arraycopyName) := ⟨inT1 214 rfl, Or.inl rfl⟩
theorem kc_J6_265 : okw (.constant RJ6 265 (1431655765)) := ⟨inT2 177 rfl, Or.inl rfl⟩
theorem kc_J6_266 : okw (.constant RJ6 266 (858993459)) := ⟨inT2 178 rfl, Or.inl rfl⟩
theorem kc_J6_267 : okw (.constant RJ6 267 (252645135)) := ⟨inT2 179 rfl, Or.inl rfl⟩
theorem kc_X5_205 : okw (.constant RX5 205 (999999)) := ⟨inT3 80 rfl, Or.inl rfl⟩
theorem kc_X5_206 : okw (.constantLong RX5 206 (1103515245)) := ⟨inT3 81 rfl, Or.inl rfl⟩
theorem kc_X5_208 : okw (.constantLong RX5 208 (12345)) := ⟨inT3 82 rfl, Or.inl rfl⟩
theorem kc_X5_210 : okw (.constantLong RX5 210 (2147483648)) := ⟨inT3 83 rfl, Or.inl rfl⟩
theorem kc_X5_212 : okw (.constantLong RX5 212 (65536)) := ⟨inT3 84 rfl, Or.inl rfl⟩
theorem kc_X5_214 : okw (.constantLong RX5 214 (31)) := ⟨inT3 85 rfl, Or.inl rfl⟩
theorem kc_X5_222 : okw (.constantLong RX5 222 (1429)) := ⟨inT3 127 rfl, Or.inl rfl⟩
theorem kc_X6_53 : okw (.constantLong RX6 53 (7)) := ⟨inT3 202 rfl, Or.inl rfl⟩
theorem kc_X6_67 : okw (.constantLong RX6 67 (5)) := ⟨inT3 214 rfl, Or.inl rfl⟩
theorem kc_X6_69 : okw (.constantLong RX6 69 (20)) := ⟨inT3 215 rfl, Or.inl rfl⟩
theorem kc_X6_71 : okw (.constantLong RX6 71 (30)) := ⟨inT3 216 rfl, Or.inl rfl⟩
theorem kc_X6_87 : okw (.constantLong RX6 87 (127)) := ⟨inT3 235 rfl, Or.inl rfl⟩
theorem kc_X6_107 : okw (.constantLong RX6 107 (97)) := ⟨inT4 12 rfl, Or.inl rfl⟩
theorem kc_X6_109 : okw (.constantLong RX6 109 (122)) := ⟨inT4 13 rfl, Or.inl rfl⟩
theorem kc_X6_111 : okw (.constantLong RX6 111 (48)) := ⟨inT4 14 rfl, Or.inl rfl⟩
theorem kc_X6_113 : okw (.constantLong RX6 113 (57)) := ⟨inT4 15 rfl, Or.inl rfl⟩
theorem kc_X6_118 : okw (.constantLong RX6 118 (256)) := ⟨inT4 16 rfl, Or.inl rfl⟩
theorem kc_X6_120 : okw (.constantLong RX6 120 (-1)) := ⟨inT4 17 rfl, Or.inl rfl⟩
theorem kc_X6_132 : okw (.constantLong RX6 132 (499850046565)) := ⟨inT4 22 rfl, Or.inl rfl⟩
theorem kc_X6_138 : okw (.constantLong RX6 138 (426953501796)) := ⟨inT4 31 rfl, Or.inl rfl⟩
theorem kc_X6_143 : okw (.constantLong RX6 143 (109270183079796)) := ⟨inT4 36 rfl, Or.inl rfl⟩
theorem kc_X6_188 : okw (.constantLong RX6 188 (60)) := ⟨inT4 51 rfl, Or.inl rfl⟩
theorem kc_X6_200 : okw (.constantLong RX6 200 (2)) := ⟨inT4 114 rfl, Or.inl rfl⟩
theorem kc_X6_211 : okw (.constant RX6 211 (1000000)) := ⟨inT4 139 rfl, Or.inl rfl⟩
theorem kc_X6_215 : okw (.constantLong RX6 215 (9)) := ⟨inT4 164 rfl, Or.inl rfl⟩
theorem kc_X6_217 : okw (.constantLong RX6 217 (6)) := ⟨inT4 165 rfl, Or.inl rfl⟩
theorem kc_X6_228 : okw (.constantLong RX6 228 (10)) := ⟨inT4 202 rfl, Or.inl rfl⟩
theorem kc_X6_233 : okw (.constantLong RX6 233 (999999)) := ⟨inT4 207 rfl, Or.inl rfl⟩
theorem kc_X6_235 : okw (.constantLong RX6 235 (1103515245)) := ⟨inT4 208 rfl, Or.inl rfl⟩
theorem kc_X6_237 : okw (.constantLong RX6 237 (12345)) := ⟨inT4 209 rfl, Or.inl rfl⟩
theorem kc_X6_239 : okw (.constantLong RX6 239 (2147483648)) := ⟨inT4 210 rfl, Or.inl rfl⟩
theorem kc_X6_241 : okw (.constantLong RX6 241 (65536)) := ⟨inT4 211 rfl, Or.inl rfl⟩
theorem kc_X6_243 : okw (.constantLong RX6 243 (31)) := ⟨inT4 212 rfl, Or.inl rfl⟩
theorem kc_X6_248 : okw (.constantLong RX6 248 (1429)) := ⟨inT5 1 rfl, Or.inl rfl⟩
end
section
/-! numbers, blocks of cells, and the words of a table -/
theorem ix_add {x y : Int32} {a b : Nat} (hx : x = nI a) (hy : y = nI b) : x + y = nI (a + b) := by rw [hx, hy, nI_add]
theorem ix_mul {x y : Int32} {a b : Nat} (hx : x = nI a) (hy : y = nI b) : x * y = nI (a * b) := by rw [hx, hy, pk_mul]
theorem ix_sub {x y : Int32} {a b : Nat} (hx : x = nI a) (hy : y = nI b) (h : b ≤ a) : x - y = nI (a - b) := by rw [hx, hy, pk_sub h]
theorem ix_rem {x y : Int32} {a b : Nat} (hx : x = nI a) (hy : y = nI b) (ha : a < 2 ^ 31) (h0 : 0 < b) (hb : b < 2 ^ 31) : x - x / y * y = nI (a % b) := by rw [hx, hy, pk_rem ha h0 hb]
theorem cv_le {x y : Int32} {a b : Nat} (hx : x = nI a) (hy : y = nI b) (ha : a < 2147483648) (hb : b < 2147483648) : x ≤ y ↔ a ≤ b := by rw [hx, hy]; exact nI_leI ha hb
theorem cv_lt {x y : Int32} {a b : Nat} (hx : x = nI a) (hy : y = nI b) (ha : a < 2147483648) (hb : b < 2147483648) : x < y ↔ a < b := by rw [hx, hy]; exact nI_ltI ha hb
theorem cv_eq {x y : Int32} {a b : Nat} (hx : x = nI a) (hy : y = nI b) (ha : a < 2147483648) (hb : b < 2147483648) : x = y ↔ a = b := by rw [hx, hy]; exact nI_eq ha hb
section XT
variable {p : Program} {l : Launch} {e : Env} {R : Room} {s : State} {m : MethodId} {args : Array Value} {below : List Frame} {meth : Method} {c : Code} {H : Heap} {locs : List Loc} {cells slots : Nat} {Q : State → Prop}
variable {pc : Nat} {ls : Array Slot} {rest : List Value}
theorem x_topi {x y : Int32} (h : x = y) (k : W p l e R s m args below meth c H locs cells slots Q (F0 m pc ls (.int y :: rest))) : W p l e R s m args below meth c H locs cells slots Q (F0 m pc ls (.int x :: rest)) := by subst h; exact k
theorem x_topl {x y : Int64} (h : x = y) (k : W p l e R s m args below meth c H locs cells slots Q (F0 m pc ls (.long y :: rest))) : W p l e R s m args below meth c H locs cells slots Q (F0 m pc ls (.long x :: rest)) := by subst h; exact k
end XT
def bI (b : Bool) : Int32 := if b then 1 else 0
theorem bI_0 {b : Bool} : bI b = 0 ↔ b = false := by cases b <;> decide
theorem bI_1 {b : Bool} : bI b = 1 ↔ b = true := by cases b <;> decide
theorem bI_n0 {b : Bool} : ¬ bI b = 0 ↔ b = true := by cases b <;> decide
def pre (f h : Nat → Int32) (k : Nat) : Nat → Int32 := fun j => if j < k then f j else h j
theorem pre_0 (f h : Nat → Int32) : pre f h 0 = h := by funext j; simp [pre]
theorem pre_get (f h : Nat → Int32) (k : Nat) : pre f h k k = h k := by simp [pre]
theorem pre_ge (f h : Nat → Int32) {k j : Nat} (hj : k ≤ j) : pre f h k j = h j := by simp [pre, Nat.not_lt.mpr hj]
theorem pre_lt (f h : Nat → Int32) {k j : Nat} (hj : j < k) : pre f h k j = f j := by simp [pre, hj]
theorem pre_upd (f h : Nat → Int32) (k : Nat) : upd (pre f h k) k (f k) = pre f h (k + 1) := by
  funext j
  simp only [upd, pre]
  by_cases hj : j = k
  · subst hj; simp
  · rw [if_neg hj]
    by_cases hk : j < k
    · rw [if_pos hk, if_pos (by omega)]
    · rw [if_neg hk, if_neg (by omega)]
theorem upd_at (f : Nat → Int32) (k : Nat) (x : Int32) : upd f k x k = x := by simp [upd]
theorem upd_ne (f : Nat → Int32) {k j : Nat} (x : Int32) (h : j ≠ k) : upd f k x j = f j := by simp [upd, h]
theorem upd_upd (f : Nat → Int32) (k : Nat) (x y : Int32) : upd (upd f k x) k y = upd f k y := by
  funext j; simp only [upd]; by_cases hj : j = k <;> simp [hj]
/-- the cells of a table -/
def tW (G : GG) (a : Nat → Nat) (wo mi bi la ch : Int32) (ki se wd hu bt : Nat → Int32) : va_W :=
  [(a 0, .inr (3, [.int wo, .int mi, .int bi, .int la, .int ch, .ref (a 1), .ref (a 2), .ref (a 3), .ref (a 4), .ref (a 5)])), (a 1, .inl (G.2 0, 6, .inl ki)), (a 2, .inl (G.2 0, 6, .inl se)), (a 3, .inl (G.2 0, 6, .inl wd)), (a 4, .inl (G.2 0, 6, .inl hu)), (a 5, .inl (G.2 0, 6, .inl bt))]
def aW (G : GG) (a n : Nat) (f : Nat → Int32) : va_W := [(a, .inl (G.2 0, n, .inl f))]
/-! pure words of the class's table -/
def nxS (w : Int32) : Int32 := (w + 1) - (w + 1) / 8 * 8
def ahS (w : Int32) : Int32 := ((w + 8) - 1) - ((w + 8) - 1) / 8 * 8
def nrP (h t w : Int32) : Int32 := if 0 < (h + 3 * t) - w / 2 then (h + 3 * t) - w / 2 else 0
def nrT (p w : Int32) : Int32 := if 0 < p - w / 2 then p - w / 2 else 0
def nr (k h t w b l : Int32) : Int32 :=
  if k = 1 then nrP h t w + 4 else if k = 2 then nrT (nrP h t w) w else if k = 3 then nrP h t w + 3 * l else if k = 4 then (nrP h t w + 3 * l) + 2 * b else if k = 5 then nrT (nrP h t w) w / 2 else nrP h t w
/-- the first of r places from i on where f has w; none: -1 -/
def fi (f : Nat → Int32) (w : Int32) : Nat → Nat → Int32
  | 0, _ => -1
  | r + 1, i => if f i = w then nI i else fi f w r (i + 1)
theorem fi_step {f : Nat → Int32} {w : Int32} {n k : Nat} (h : k < n) : fi f w (n - k) k = if f k = w then nI k else fi f w (n - (k + 1)) (k + 1) := by
  rw [show n - k = (n - (k + 1)) + 1 by omega]; rfl
theorem fi_end {f : Nat → Int32} {w : Int32} {n k : Nat} (h : n ≤ k) : fi f w (n - k) k = -1 := by
  rw [show n - k = 0 by omega]; rfl
/-- seats taken, as bits -/
def tk (se : Nat → Int32) : Nat → Int32
  | 0 => 0
  | k + 1 => tk se k ||| ((1 : Int32) <<< (se k &&& 31))
def tgI (taken w : Int32) : Int32 := ((taken >>> (nxS w &&& 31)) &&& 1) + ((taken >>> (ahS w &&& 31)) &&& 1)
def whm (se : Nat → Int32) (n : Nat) (w : Int32) : Int32 := if fi se (nxS w) n 0 = -1 then fi se (ahS w) n 0 else fi se (nxS w) n 0
def gdd (wo w : Int32) : Bool := decide (w = wo) || (decide (w = nxS wo) || decide (w = ahS wo))
/-- does child i bite, by the seats taken -/
def bitesC (wo la : Int32) (ki se wd hu bt : Nat → Int32) (taken : Int32) (i : Nat) : Bool :=
  !decide (tgI taken (se i) ≤ 0) && (!gdd wo (se i) && !decide (nr (ki i) (hu i) (tgI taken (se i)) (wd i) (bt i) la < 12))
def btS (f : Nat → Bool) : Nat → Int32
  | 0 => 0
  | k + 1 => if f k then btS f k ||| ((1 : Int32) <<< (nI k &&& 31)) else btS f k
def bitr (wo la : Int32) (n : Nat) (ki se wd hu bt : Nat → Int32) : Int32 := btS (bitesC wo la ki se wd hu bt (tk se n)) n
def hasB (x : Int32) (i : Nat) : Bool := decide ((x >>> (nI i &&& 31)) &&& 1 = 1)
/-- how often i is bitten by the first k children -/
def tmS (se : Nat → Int32) (n : Nat) (set i : Int32) : Nat → Int32
  | 0 => 0
  | k + 1 => if hasB set k && decide (whm se n (se k) = i) then tmS se n set i k + 1 else tmS se n set i k
def fH (set : Int32) (hu : Nat → Int32) (j : Nat) : Int32 :=
  let h1 := if hasB set j then (if 0 < hu j - 8 then hu j - 8 else 0) else hu j
  if h1 + 1 < 30 then h1 + 1 else 30
def fB (se : Nat → Int32) (n : Nat) (set : Int32) (bt : Nat → Int32) (j : Nat) : Int32 := bt j + tmS se n set (nI j) n
/-- the library's count of bits -/
def bcI (x : Int32) : Int32 :=
  let a := x - (((x.toUInt32 >>> ((1 : Int32).toUInt32 &&& Int32.toUInt32 31)).toInt32) &&& 1431655765)
  let b := (a &&& 858993459) + (((a.toUInt32 >>> ((2 : Int32).toUInt32 &&& Int32.toUInt32 31)).toInt32) &&& 858993459)
  let d := (b + (b.toUInt32 >>> ((4 : Int32).toUInt32 &&& Int32.toUInt32 31)).toInt32) &&& 252645135
  let e := d + (d.toUInt32 >>> ((8 : Int32).toUInt32 &&& Int32.toUInt32 31)).toInt32
  let f := e + (e.toUInt32 >>> ((16 : Int32).toUInt32 &&& Int32.toUInt32 31)).toInt32
  f &&& 63
end
section
set_option maxHeartbeats 1000000 in
set_option maxRecDepth 100000 in
theorem c_bitCount (l : Launch) (G : GG) (x : Int32) : CT l G yJ6_bitCount_0f7a4 cJ6_bitCount_0f7a4 1 (some .int) 0 0 [.int x] ([]) (some (.int (bcI x))) ([]) := by
  refine CT.mk (own := RJ6) (la := [(0, .int x)]) (by decide) rfl (Nat.le_of_ble_eq_true rfl) rfl ?_
  intro p e s m args below meth c A Q E hA hw rt ls hl
  have hx := E.1
  have hb := E.2.1
  refine lv_iload_n hx hb dJ6_bitCount_0f7a4_0 rfl (lv_at hl 0 rfl) ?_
  refine lv_iload_n hx hb dJ6_bitCount_0f7a4_1 rfl (lv_at hl 0 rfl) ?_
  refine lv_iconst (v := 1) hx hb dJ6_bitCount_0f7a4_2 rfl ?_
  refine lv_iushr (v := (x.toUInt32 >>> ((1 : Int32).toUInt32 &&& Int32.toUInt32 31)).toInt32) hx hb dJ6_bitCount_0f7a4_3 rfl ?_
  refine lv_ldcw hx hb E.2.2.2.1 (E.2.2.2.2.2.2.w kc_J6_265) dJ6_bitCount_0f7a4_4 ?_
  refine lv_iand hx hb dJ6_bitCount_0f7a4_7 ?_
  refine lv_isub hx hb dJ6_bitCount_0f7a4_8 ?_
  refine lv_istore_n (lv' := [(0, .int (x - (((x.toUInt32 >>> ((1 : Int32).toUInt32 &&& Int32.toUInt32 31)).toInt32) &&& 1431655765)))]) hx hb dJ6_bitCount_0f7a4_9 rfl hl (by decide) rfl (fun ls hl => ?_)
  refine lv_iload_n hx hb dJ6_bitCount_0f7a4_10 rfl (lv_at hl 0 rfl) ?_
  refine lv_ldcw hx hb E.2.2.2.1 (E.2.2.2.2.2.2.w kc_J6_266) dJ6_bitCount_0f7a4_11 ?_
  refine lv_iand hx hb dJ6_bitCount_0f7a4_14 ?_
  refine lv_iload_n hx hb dJ6_bitCount_0f7a4_15 rfl (lv_at hl 0 rfl) ?_
  refine lv_iconst (v := 2) hx hb dJ6_bitCount_0f7a4_16 rfl ?_
  refine lv_iushr (v := ((x - (((x.toUInt32 >>> ((1 : Int32).toUInt32 &&& Int32.toUInt32 31)).toInt32) &&& 1431655765)).toUInt32 >>> ((2 : Int32).toUInt32 &&& Int32.toUInt32 31)).toInt32) hx hb dJ6_bitCount_0f7a4_17 rfl ?_
  refine lv_ldcw hx hb E.2.2.2.1 (E.2.2.2.2.2.2.w kc_J6_266) dJ6_bitCount_0f7a4_18 ?_
  refine lv_iand hx hb dJ6_bitCount_0f7a4_21 ?_
  refine lv_iadd hx hb dJ6_bitCount_0f7a4_22 ?_
  refine lv_istore_n (lv' := [(0, .int (((x - (((x.toUInt32 >>> ((1 : Int32).toUInt32 &&& Int32.toUInt32 31)).toInt32) &&& 1431655765)) &&& 858993459) + ((((x - (((x.toUInt32 >>> ((1 : Int32).toUInt32 &&& Int32.toUInt32 31)).toInt32) &&& 1431655765)).toUInt32 >>> ((2 : Int32).toUInt32 &&& Int32.toUInt32 31)).toInt32) &&& 858993459)))]) hx hb dJ6_bitCount_0f7a4_23 rfl hl (by decide) rfl (fun ls hl => ?_)
  refine lv_iload_n hx hb dJ6_bitCount_0f7a4_24 rfl (lv_at hl 0 rfl) ?_
  refine lv_iload_n hx hb dJ6_bitCount_0f7a4_25 rfl (lv_at hl 0 rfl) ?_
  refine lv_iconst (v := 4) hx hb dJ6_bitCount_0f7a4_26 rfl ?_
  refine lv_iushr (v := ((((x - (((x.toUInt32 >>> ((1 : Int32).toUInt32 &&& Int32.toUInt32 31)).toInt32) &&& 1431655765)) &&& 858993459) + ((((x - (((x.toUInt32 >>> ((1 : Int32).toUInt32 &&& Int32.toUInt32 31)).toInt32) &&& 1431655765)).toUInt32 >>> ((2 : Int32).toUInt32 &&& Int32.toUInt32 31)).toInt32) &&& 858993459)).toUInt32 >>> ((4 : Int32).toUInt32 &&& Int32.toUInt32 31)).toInt32) hx hb dJ6_bitCount_0f7a4_27 rfl ?_
  refine lv_iadd hx hb dJ6_bitCount_0f7a4_28 ?_
  refine lv_ldcw hx hb E.2.2.2.1 (E.2.2.2.2.2.2.w kc_J6_267) dJ6_bitCount_0f7a4_29 ?_
  refine lv_iand hx hb dJ6_bitCount_0f7a4_32 ?_
  refine lv_istore_n (lv' := [(0, .int (((((x - (((x.toUInt32 >>> ((1 : Int32).toUInt32 &&& Int32.toUInt32 31)).toInt32) &&& 1431655765)) &&& 858993459) + ((((x - (((x.toUInt32 >>> ((1 : Int32).toUInt32 &&& Int32.toUInt32 31)).toInt32) &&& 1431655765)).toUInt32 >>> ((2 : Int32).toUInt32 &&& Int32.toUInt32 31)).toInt32) &&& 858993459)) + (((((x - (((x.toUInt32 >>> ((1 : Int32).toUInt32 &&& Int32.toUInt32 31)).toInt32) &&& 1431655765)) &&& 858993459) + ((((x - (((x.toUInt32 >>> ((1 : Int32).toUInt32 &&& Int32.toUInt32 31)).toInt32) &&& 1431655765)).toUInt32 >>> ((2 : Int32).toUInt32 &&& Int32.toUInt32 31)).toInt32) &&& 858993459)).toUInt32 >>> ((4 : Int32).toUInt32 &&& Int32.toUInt32 31)).toInt32)) &&& 252645135))]) hx hb dJ6_bitCount_0f7a4_33 rfl hl (by decide) rfl (fun ls hl => ?_)
  refine lv_iload_n hx hb dJ6_bitCount_0f7a4_34 rfl (lv_at hl 0 rfl) ?_
  refine lv_iload_n hx hb dJ6_bitCount_0f7a4_35 rfl (lv_at hl 0 rfl) ?_
  refine lv_bipush (v := 8) hx hb dJ6_bitCount_0f7a4_36 rfl ?_
  refine lv_iushr (v := ((((((x - (((x.toUInt32 >>> ((1 : Int32).toUInt32 &&& Int32.toUInt32 31)).toInt32) &&& 1431655765)) &&& 858993459) + ((((x - (((x.toUInt32 >>> ((1 : Int32).toUInt32 &&& Int32.toUInt32 31)).toInt32) &&& 1431655765)).toUInt32 >>> ((2 : Int32).toUInt32 &&& Int32.toUInt32 31)).toInt32) &&& 858993459)) + (((((x - (((x.toUInt32 >>> ((1 : Int32).toUInt32 &&& Int32.toUInt32 31)).toInt32) &&& 1431655765)) &&& 858993459) + ((((x - (((x.toUInt32 >>> ((1 : Int32).toUInt32 &&& Int32.toUInt32 31)).toInt32) &&& 1431655765)).toUInt32 >>> ((2 : Int32).toUInt32 &&& Int32.toUInt32 31)).toInt32) &&& 858993459)).toUInt32 >>> ((4 : Int32).toUInt32 &&& Int32.toUInt32 31)).toInt32)) &&& 252645135).toUInt32 >>> ((8 : Int32).toUInt32 &&& Int32.toUInt32 31)).toInt32) hx hb dJ6_bitCount_0f7a4_38 rfl ?_
  refine lv_iadd hx hb dJ6_bitCount_0f7a4_39 ?_
  refine lv_istore_n (lv' := [(0, .int ((((((x - (((x.toUInt32 >>> ((1 : Int32).toUInt32 &&& Int32.toUInt32 31)).toInt32) &&& 1431655765)) &&& 858993459) + ((((x - (((x.toUInt32 >>> ((1 : Int32).toUInt32 &&& Int32.toUInt32 31)).toInt32) &&& 1431655765)).toUInt32 >>> ((2 : Int32).toUInt32 &&& Int32.toUInt32 31)).toInt32) &&& 858993459)) + (((((x - (((x.toUInt32 >>> ((1 : Int32).toUInt32 &&& Int32.toUInt32 31)).toInt32) &&& 1431655765)) &&& 858993459) + ((((x - (((x.toUInt32 >>> ((1 : Int32).toUInt32 &&& Int32.toUInt32 31)).toInt32) &&& 1431655765)).toUInt32 >>> ((2 : Int32).toUInt32 &&& Int32.toUInt32 31)).toInt32) &&& 858993459)).toUInt32 >>> ((4 : Int32).toUInt32 &&& Int32.toUInt32 31)).toInt32)) &&& 252645135) + (((((((x - (((x.toUInt32 >>> ((1 : Int32).toUInt32 &&& Int32.toUInt32 31)).toInt32) &&& 1431655765)) &&& 858993459) + ((((x - (((x.toUInt32 >>> ((1 : Int32).toUInt32 &&& Int32.toUInt32 31)).toInt32) &&& 1431655765)).toUInt32 >>> ((2 : Int32).toUInt32 &&& Int32.toUInt32 31)).toInt32) &&& 858993459)) + (((((x - (((x.toUInt32 >>> ((1 : Int32).toUInt32 &&& Int32.toUInt32 31)).toInt32) &&& 1431655765)) &&& 858993459) + ((((x - (((x.toUInt32 >>> ((1 : Int32).toUInt32 &&& Int32.toUInt32 31)).toInt32) &&& 1431655765)).toUInt32 >>> ((2 : Int32).toUInt32 &&& Int32.toUInt32 31)).toInt32) &&& 858993459)).toUInt32 >>> ((4 : Int32).toUInt32 &&& Int32.toUInt32 31)).toInt32)) &&& 252645135).toUInt32 >>> ((8 : Int32).toUInt32 &&& Int32.toUInt32 31)).toInt32)))]) hx hb dJ6_bitCount_0f7a4_40 rfl hl (by decide) rfl (fun ls hl => ?_)
  refine lv_iload_n hx hb dJ6_bitCount_0f7a4_41 rfl (lv_at hl 0 rfl) ?_
  refine lv_iload_n hx hb dJ6_bitCount_0f7a4_42 rfl (lv_at hl 0 rfl) ?_
  refine lv_bipush (v := 16) hx hb dJ6_bitCount_0f7a4_43 rfl ?_
  refine lv_iushr (v := (((((((x - (((x.toUInt32 >>> ((1 : Int32).toUInt32 &&& Int32.toUInt32 31)).toInt32) &&& 1431655765)) &&& 858993459) + ((((x - (((x.toUInt32 >>> ((1 : Int32).toUInt32 &&& Int32.toUInt32 31)).toInt32) &&& 1431655765)).toUInt32 >>> ((2 : Int32).toUInt32 &&& Int32.toUInt32 31)).toInt32) &&& 858993459)) + (((((x - (((x.toUInt32 >>> ((1 : Int32).toUInt32 &&& Int32.toUInt32 31)).toInt32) &&& 1431655765)) &&& 858993459) + ((((x - (((x.toUInt32 >>> ((1 : Int32).toUInt32 &&& Int32.toUInt32 31)).toInt32) &&& 1431655765)).toUInt32 >>> ((2 : Int32).toUInt32 &&& Int32.toUInt32 31)).toInt32) &&& 858993459)).toUInt32 >>> ((4 : Int32).toUInt32 &&& Int32.toUInt32 31)).toInt32)) &&& 252645135) + (((((((x - (((x.toUInt32 >>> ((1 : Int32).toUInt32 &&& Int32.toUInt32 31)).toInt32) &&& 1431655765)) &&& 858993459) + ((((x - (((x.toUInt32 >>> ((1 : Int32).toUInt32 &&& Int32.toUInt32 31)).toInt32) &&& 1431655765)).toUInt32 >>> ((2 : Int32).toUInt32 &&& Int32.toUInt32 31)).toInt32) &&& 858993459)) + (((((x - (((x.toUInt32 >>> ((1 : Int32).toUInt32 &&& Int32.toUInt32 31)).toInt32) &&& 1431655765)) &&& 858993459) + ((((x - (((x.toUInt32 >>> ((1 : Int32).toUInt32 &&& Int32.toUInt32 31)).toInt32) &&& 1431655765)).toUInt32 >>> ((2 : Int32).toUInt32 &&& Int32.toUInt32 31)).toInt32) &&& 858993459)).toUInt32 >>> ((4 : Int32).toUInt32 &&& Int32.toUInt32 31)).toInt32)) &&& 252645135).toUInt32 >>> ((8 : Int32).toUInt32 &&& Int32.toUInt32 31)).toInt32)).toUInt32 >>> ((16 : Int32).toUInt32 &&& Int32.toUInt32 31)).toInt32) hx hb dJ6_bitCount_0f7a4_45 rfl ?_
  refine lv_iadd hx hb dJ6_bitCount_0f7a4_46 ?_
  refine lv_istore_n (lv' := [(0, .int (((((((x - (((x.toUInt32 >>> ((1 : Int32).toUInt32 &&& Int32.toUInt32 31)).toInt32) &&& 1431655765)) &&& 858993459) + ((((x - (((x.toUInt32 >>> ((1 : Int32).toUInt32 &&& Int32.toUInt32 31)).toInt32) &&& 1431655765)).toUInt32 >>> ((2 : Int32).toUInt32 &&& Int32.toUInt32 31)).toInt32) &&& 858993459)) + (((((x - (((x.toUInt32 >>> ((1 : Int32).toUInt32 &&& Int32.toUInt32 31)).toInt32) &&& 1431655765)) &&& 858993459) + ((((x - (((x.toUInt32 >>> ((1 : Int32).toUInt32 &&& Int32.toUInt32 31)).toInt32) &&& 1431655765)).toUInt32 >>> ((2 : Int32).toUInt32 &&& Int32.toUInt32 31)).toInt32) &&& 858993459)).toUInt32 >>> ((4 : Int32).toUInt32 &&& Int32.toUInt32 31)).toInt32)) &&& 252645135) + (((((((x - (((x.toUInt32 >>> ((1 : Int32).toUInt32 &&& Int32.toUInt32 31)).toInt32) &&& 1431655765)) &&& 858993459) + ((((x - (((x.toUInt32 >>> ((1 : Int32).toUInt32 &&& Int32.toUInt32 31)).toInt32) &&& 1431655765)).toUInt32 >>> ((2 : Int32).toUInt32 &&& Int32.toUInt32 31)).toInt32) &&& 858993459)) + (((((x - (((x.toUInt32 >>> ((1 : Int32).toUInt32 &&& Int32.toUInt32 31)).toInt32) &&& 1431655765)) &&& 858993459) + ((((x - (((x.toUInt32 >>> ((1 : Int32).toUInt32 &&& Int32.toUInt32 31)).toInt32) &&& 1431655765)).toUInt32 >>> ((2 : Int32).toUInt32 &&& Int32.toUInt32 31)).toInt32) &&& 858993459)).toUInt32 >>> ((4 : Int32).toUInt32 &&& Int32.toUInt32 31)).toInt32)) &&& 252645135).toUInt32 >>> ((8 : Int32).toUInt32 &&& Int32.toUInt32 31)).toInt32)) + ((((((((x - (((x.toUInt32 >>> ((1 : Int32).toUInt32 &&& Int32.toUInt32 31)).toInt32) &&& 1431655765)) &&& 858993459) + ((((x - (((x.toUInt32 >>> ((1 : Int32).toUInt32 &&& Int32.toUInt32 31)).toInt32) &&& 1431655765)).toUInt32 >>> ((2 : Int32).toUInt32 &&& Int32.toUInt32 31)).toInt32) &&& 858993459)) + (((((x - (((x.toUInt32 >>> ((1 : Int32).toUInt32 &&& Int32.toUInt32 31)).toInt32) &&& 1431655765)) &&& 858993459) + ((((x - (((x.toUInt32 >>> ((1 : Int32).toUInt32 &&& Int32.toUInt32 31)).toInt32) &&& 1431655765)).toUInt32 >>> ((2 : Int32).toUInt32 &&& Int32.toUInt32 31)).toInt32) &&& 858993459)).toUInt32 >>> ((4 : Int32).toUInt32 &&& Int32.toUInt32 31)).toInt32)) &&& 252645135) + (((((((x - (((x.toUInt32 >>> ((1 : Int32).toUInt32 &&& Int32.toUInt32 31)).toInt32) &&& 1431655765)) &&& 858993459) + ((((x - (((x.toUInt32 >>> ((1 : Int32).toUInt32 &&& Int32.toUInt32 31)).toInt32) &&& 1431655765)).toUInt32 >>> ((2 : Int32).toUInt32 &&& Int32.toUInt32 31)).toInt32) &&& 858993459)) + (((((x - (((x.toUInt32 >>> ((1 : Int32).toUInt32 &&& Int32.toUInt32 31)).toInt32) &&& 1431655765)) &&& 858993459) + ((((x - (((x.toUInt32 >>> ((1 : Int32).toUInt32 &&& Int32.toUInt32 31)).toInt32) &&& 1431655765)).toUInt32 >>> ((2 : Int32).toUInt32 &&& Int32.toUInt32 31)).toInt32) &&& 858993459)).toUInt32 >>> ((4 : Int32).toUInt32 &&& Int32.toUInt32 31)).toInt32)) &&& 252645135).toUInt32 >>> ((8 : Int32).toUInt32 &&& Int32.toUInt32 31)).toInt32)).toUInt32 >>> ((16 : Int32).toUInt32 &&& Int32.toUInt32 31)).toInt32)))]) hx hb dJ6_bitCount_0f7a4_47 rfl hl (by decide) rfl (fun ls hl => ?_)
  refine lv_iload_n hx hb dJ6_bitCount_0f7a4_48 rfl (lv_at hl 0 rfl) ?_
  refine lv_bipush (v := 63) hx hb dJ6_bitCount_0f7a4_49 rfl ?_
  refine lv_iand hx hb dJ6_bitCount_0f7a4_51 ?_
  exact x_iret E hA rt hw dJ6_bitCount_0f7a4_52 (rfl) rfl
set_option maxHeartbeats 1000000 in
set_option maxRecDepth 100000 in
theorem c_X3_nextSeat (l : Launch) (G : GG) (w : Int32) : CT l G yX3_nextSeat cX3_nextSeat 1 (some .int) 0 0 [.int w] ([]) (some (.int (nxS w))) ([]) := by
  refine CT.mk (own := RX3) (la := [(0, .int w)]) (by decide) rfl (Nat.le_of_ble_eq_true rfl) rfl ?_
  intro p e s m args below meth c A Q E hA hw rt ls hl
  have hx := E.1
  have hb := E.2.1
  refine lv_iload_n hx hb dX3_nextSeat_0 rfl (lv_at hl 0 rfl) ?_
  refine lv_iconst (v := 1) hx hb dX3_nextSeat_1 rfl ?_
  refine lv_iadd hx hb dX3_nextSeat_2 ?_
  refine lv_bipush (v := 8) hx hb dX3_nextSeat_3 rfl ?_
  refine lv_irem hx hb dX3_nextSeat_5 (by decide) ?_
  exact x_iret E hA rt hw dX3_nextSeat_6 (rfl) rfl
set_option maxHeartbeats 1000000 in
set_option maxRecDepth 100000 in
theorem c_X3_seatAhead (l : Launch) (G : GG) (w : Int32) : CT l G yX3_seatAhead cX3_seatAhead 1 (some .int) 0 0 [.int w] ([]) (some (.int (ahS w))) ([]) := by
  refine CT.mk (own := RX3) (la := [(0, .int w)]) (by decide) rfl (Nat.le_of_ble_eq_true rfl) rfl ?_
  intro p e s m args below meth c A Q E hA hw rt ls hl
  have hx := E.1
  have hb := E.2.1
  refine lv_iload_n hx hb dX3_seatAhead_0 rfl (lv_at hl 0 rfl) ?_
  refine lv_bipush (v := 8) hx hb dX3_seatAhead_1 rfl ?_
  refine lv_iadd hx hb dX3_seatAhead_3 ?_
  refine lv_iconst (v := 1) hx hb dX3_seatAhead_4 rfl ?_
  refine lv_isub hx hb dX3_seatAhead_5 ?_
  refine lv_bipush (v := 8) hx hb dX3_seatAhead_6 rfl ?_
  refine lv_irem hx hb dX3_seatAhead_8 (by decide) ?_
  exact x_iret E hA rt hw dX3_seatAhead_9 (rfl) rfl
set_option maxHeartbeats 1000000 in
set_option maxRecDepth 100000 in
theorem c_X3_tightIn (l : Launch) (G : GG) (tk : Int32) (w : Int32) : CT l G yX3_tightIn cX3_tightIn 2 (some .int) 1 20 [.int tk, .int w] ([]) (some (.int (tgI tk w))) ([]) := by
  refine CT.mk (own := RX3) (la := [(0, .int tk), (1, .int w)]) (by decide) rfl (Nat.le_of_ble_eq_true rfl) rfl ?_
  intro p e s m args below meth c A Q E hA hw rt ls hl
  have hx := E.1
  have hb := E.2.1
  refine lv_iload_n hx hb dX3_tightIn_0 rfl (lv_at hl 0 rfl) ?_
  refine lv_iload_n hx hb dX3_tightIn_1 rfl (lv_at hl 1 rfl) ?_
  refine x_callS (is := []) (As := [.int w]) (rest := [.int tk]) (st1 := [.int (nxS w), .int tk]) E (c_X3_nextSeat l G w) sw_X3_49 hw [] rfl rfl rfl rfl hl.1 rfl rfl (Nat.le_of_ble_eq_true rfl) ⟨Nat.le_of_ble_eq_true rfl, Nat.le_of_ble_eq_true rfl⟩ (Nat.zero_le _) (Nat.zero_le _) dX3_tightIn_2 rfl rfl (fun H locs hw => ?_)
  refine lv_ishr hx hb dX3_tightIn_5 ?_
  refine lv_iconst (v := 1) hx hb dX3_tightIn_6 rfl ?_
  refine lv_iand hx hb dX3_tightIn_7 ?_
  refine lv_iload_n hx hb dX3_tightIn_8 rfl (lv_at hl 0 rfl) ?_
  refine lv_iload_n hx hb dX3_tightIn_9 rfl (lv_at hl 1 rfl) ?_
  refine x_callS (is := []) (As := [.int w]) (rest := [.int tk, .int ((tk >>> ((nxS w) &&& 31)) &&& 1)]) (st1 := [.int (ahS w), .int tk, .int ((tk >>> ((nxS w) &&& 31)) &&& 1)]) E (c_X3_seatAhead l G w) sw_X3_53 hw [] rfl rfl rfl rfl hl.1 rfl rfl (Nat.le_of_ble_eq_true rfl) ⟨Nat.le_of_ble_eq_true rfl, Nat.le_of_ble_eq_true rfl⟩ (Nat.zero_le _) (Nat.zero_le _) dX3_tightIn_10 rfl rfl (fun H locs hw => ?_)
  refine lv_ishr hx hb dX3_tightIn_13 ?_
  refine lv_iconst (v := 1) hx hb dX3_tightIn_14 rfl ?_
  refine lv_iand hx hb dX3_tightIn_15 ?_
  refine lv_iadd hx hb dX3_tightIn_16 ?_
  exact x_iret E hA rt hw dX3_tightIn_17 (rfl) rfl
set_option maxHeartbeats 1000000 in
set_option maxRecDepth 100000 in
theorem c_X5_near (l : Launch) (G : GG) (k : Int32) (h : Int32) (t : Int32) (w : Int32) (b : Int32) (lt : Int32) : CT l G yX5_near cX5_near 9 (some .int) 1 13 [.int k, .int h, .int t, .int w, .int b, .int lt] ([]) (some (.int (nr k h t w b lt))) ([]) := by
  refine CT.mk (own := RX5) (la := [(0, .int k), (1, .int h), (2, .int t), (3, .int w), (4, .int b), (5, .int lt)]) (by decide) rfl (Nat.le_of_ble_eq_true rfl) rfl ?_
  intro p e s m args below meth c A Q E hA hw rt ls hl
  have hx := E.1
  have hb := E.2.1
  refine lv_iconst (v := 0) hx hb dX5_near_0 rfl ?_
  refine lv_iload_n hx hb dX5_near_1 rfl (lv_at hl 1 rfl) ?_
  refine lv_iconst (v := 3) hx hb dX5_near_2 rfl ?_
  refine lv_iload_n hx hb dX5_near_3 rfl (lv_at hl 2 rfl) ?_
  refine lv_imul hx hb dX5_near_4 ?_
  refine lv_iadd hx hb dX5_near_5 ?_
  refine lv_iload_n hx hb dX5_near_6 rfl (lv_at hl 3 rfl) ?_
  refine lv_iconst (v := 2) hx hb dX5_near_7 rfl ?_
  refine lv_idiv hx hb dX5_near_8 (by decide) ?_
  refine lv_isub hx hb dX5_near_9 ?_
  refine x_mmax E lw_X5_245 kw_math_max hl.1 (Nat.le_of_ble_eq_true rfl) (Nat.le_of_ble_eq_true rfl) (Nat.zero_le _) (Nat.zero_le _) dX5_near_10 ?_
  refine x_topi (y := nrP h t w) (rfl) ?_
  refine lv_istore (lv' := [(6, .int (nrP h t w)), (0, .int k), (1, .int h), (2, .int t), (3, .int w), (4, .int b), (5, .int lt)]) hx hb dX5_near_13 hl (by decide) rfl (fun ls hl => ?_)
  refine lv_iconst (v := 0) hx hb dX5_near_15 rfl ?_
  refine lv_iload hx hb dX5_near_16 (lv_at hl 0 rfl) ?_
  refine lv_iload_n hx hb dX5_near_18 rfl (lv_at hl 4 rfl) ?_
  refine lv_iconst (v := 2) hx hb dX5_near_19 rfl ?_
  refine lv_idiv hx hb dX5_near_20 (by decide) ?_
  refine lv_isub hx hb dX5_near_21 ?_
  refine x_mmax E lw_X5_245 kw_math_max hl.1 (Nat.le_of_ble_eq_true rfl) (Nat.le_of_ble_eq_true rfl) (Nat.zero_le _) (Nat.zero_le _) dX5_near_22 ?_
  refine x_topi (y := nrT (nrP h t w) w) (rfl) ?_
  refine lv_istore (lv' := [(7, .int (nrT (nrP h t w) w)), (6, .int (nrP h t w)), (0, .int k), (1, .int h), (2, .int t), (3, .int w), (4, .int b), (5, .int lt)]) hx hb dX5_near_25 hl (by decide) rfl (fun ls hl => ?_)
  refine lv_iload hx hb dX5_near_27 (lv_at hl 1 rfl) ?_
  refine lv_iconst (v := 3) hx hb dX5_near_29 rfl ?_
  refine lv_iload hx hb dX5_near_30 (lv_at hl 7 rfl) ?_
  refine lv_imul hx hb dX5_near_32 ?_
  refine lv_iadd hx hb dX5_near_33 ?_
  refine lv_istore (lv' := [(8, .int ((nrP h t w) + (3 * lt))), (7, .int (nrT (nrP h t w) w)), (6, .int (nrP h t w)), (0, .int k), (1, .int h), (2, .int t), (3, .int w), (4, .int b), (5, .int lt)]) hx hb dX5_near_34 hl (by decide) rfl (fun ls hl => ?_)
  refine lv_iload_n hx hb dX5_near_36 rfl (lv_at hl 3 rfl) ?_
  by_cases cq37_1 : k = (1 : Int32)
  · skip
    refine lv_tableIn (off := 35) (tgt := 72) hx hb dX5_near_37 (by rw [cq37_1]; decide) (by rw [cq37_1]; decide) (by rw [cq37_1]; rfl) rfl ?_
    refine lv_iload hx hb dX5_near_72 (lv_at hl 2 rfl) ?_
    refine lv_iconst (v := 4) hx hb dX5_near_74 rfl ?_
    refine lv_iadd hx hb dX5_near_75 ?_
    exact x_iret E hA rt hw dX5_near_76 (by simp [nr, cq37_1]) rfl
  by_cases cq37_2 : k = (2 : Int32)
  · skip
    refine lv_tableIn (off := 40) (tgt := 77) hx hb dX5_near_37 (by rw [cq37_2]; decide) (by rw [cq37_2]; decide) (by rw [cq37_2]; rfl) rfl ?_
    refine lv_iload hx hb dX5_near_77 (lv_at hl 1 rfl) ?_
    exact x_iret E hA rt hw dX5_near_79 (by simp [nr, cq37_1, cq37_2]) rfl
  by_cases cq37_3 : k = (3 : Int32)
  · skip
    refine lv_tableIn (off := 43) (tgt := 80) hx hb dX5_near_37 (by rw [cq37_3]; decide) (by rw [cq37_3]; decide) (by rw [cq37_3]; rfl) rfl ?_
    refine lv_iload hx hb dX5_near_80 (lv_at hl 0 rfl) ?_
    exact x_iret E hA rt hw dX5_near_82 (by simp [nr, cq37_1, cq37_2, cq37_3]) rfl
  by_cases cq37_4 : k = (4 : Int32)
  · skip
    refine lv_tableIn (off := 46) (tgt := 83) hx hb dX5_near_37 (by rw [cq37_4]; decide) (by rw [cq37_4]; decide) (by rw [cq37_4]; rfl) rfl ?_
    refine lv_iload hx hb dX5_near_83 (lv_at hl 0 rfl) ?_
    refine lv_iconst (v := 2) hx hb dX5_near_85 rfl ?_
    refine lv_iload hx hb dX5_near_86 (lv_at hl 7 rfl) ?_
    refine lv_imul hx hb dX5_near_88 ?_
    refine lv_iadd hx hb dX5_near_89 ?_
    exact x_iret E hA rt hw dX5_near_90 (by simp [nr, cq37_1, cq37_2, cq37_3, cq37_4]) rfl
  by_cases cq37_5 : k = (5 : Int32)
  · skip
    refine lv_tableIn (off := 54) (tgt := 91) hx hb dX5_near_37 (by rw [cq37_5]; decide) (by rw [cq37_5]; decide) (by rw [cq37_5]; rfl) rfl ?_
    refine lv_iload hx hb dX5_near_91 (lv_at hl 1 rfl) ?_
    refine lv_iconst (v := 2) hx hb dX5_near_93 rfl ?_
    refine lv_idiv hx hb dX5_near_94 (by decide) ?_
    exact x_iret E hA rt hw dX5_near_95 (by simp [nr, cq37_1, cq37_2, cq37_3, cq37_4, cq37_5]) rfl
  refine lv_tableOut (tgt := 96) hx hb dX5_near_37 (by have g1 := lv_neT (a := 1) cq37_1 rfl; have g2 := lv_neT (a := 2) cq37_2 rfl; have g3 := lv_neT (a := 3) cq37_3 rfl; have g4 := lv_neT (a := 4) cq37_4 rfl; have g5 := lv_neT (a := 5) cq37_5 rfl; omega) rfl ?_
  refine lv_iload hx hb dX5_near_96 (lv_at hl 2 rfl) ?_
  exact x_iret E hA rt hw dX5_near_98 (by simp [nr, cq37_1, cq37_2, cq37_3, cq37_4, cq37_5]) rfl
set_option maxHeartbeats 1000000 in
set_option maxRecDepth 100000 in
theorem c_X3_childAt (l : Launch) (G : GG) (a : Nat → Nat) (w : Int32) (wo : Int32) (mi : Int32) (bi : Int32) (la : Int32) (n : Nat) (ki : Nat → Int32) (se : Nat → Int32) (wd : Nat → Int32) (hu : Nat → Int32) (bt : Nat → Int32) (hn : n ≤ 6) : CT l G yX3_childAt cX3_childAt 3 (some .int) 0 0 [.ref (a 0), .int w] (tW G a wo mi bi la (nI n) ki se wd hu bt) (some (.int (fi se w n 0))) (tW G a wo mi bi la (nI n) ki se wd hu bt) := by
  refine CT.mk (own := RX3) (la := [(0, .ref (a 0)), (1, .int w)]) (by decide) rfl (Nat.le_of_ble_eq_true rfl) rfl ?_
  intro p e s m args below meth c A Q E hA hw rt ls hl
  have hx := E.1
  have hb := E.2.1
  refine lv_iconst (v := 0) hx hb dX3_childAt_0 rfl ?_
  refine lv_istore_n (lv' := [(2, .int 0), (0, .ref (a 0)), (1, .int w)]) hx hb dX3_childAt_1 rfl hl (by decide) rfl (fun ls hl => ?_)
  have lp2 : ∀ (fuel : Nat), ∀ (k : Nat) (hk : k ≤ n) (hiv : fi se w n 0 = fi se w (n - k) k), (n - k) < fuel → ∀ (H : Heap) (locs : List Loc) (ls : Array Slot), Wd G A s H locs (tW G a wo mi bi la (nI n) ki se wd hu bt) → lv_has ls 3 [(0, .ref (a 0)), (1, .int w), (2, .int (nI k))] → W p l e (rmx 0 0) s m args below meth c H locs 0 0 Q (F0 m 2 ls []) := by
    intro fuel
    induction fuel with
    | zero => intro k hk hiv hfu; exact absurd hfu (Nat.not_lt_zero _)
    | succ fuel ih2 =>
      intro k hk hiv hfu H locs ls hw hl
      refine lv_iload_n hx hb dX3_childAt_2 rfl (lv_at hl 2 rfl) ?_
      refine lv_aload_n hx hb dX3_childAt_3 rfl (lv_at hl 0 rfl) ?_
      refine x_get E hw fw_X3_40 0 rfl rfl dX3_childAt_4 ?_
      refine lv_icmp_ge (tgt := 28) hx hb dX3_childAt_7 rfl (fun cq7 => ?_) (fun cq7 => ?_)
      · skip
        have cq7 : n ≤ k := (cv_le (a := n) (b := k) rfl rfl (by omega) (by omega)).mp cq7
        refine lv_iconst (v := -1) hx hb dX3_childAt_28 rfl ?_
        exact x_iret E hA rt hw dX3_childAt_29 (by rw [hiv, fi_end (by omega)]) rfl
      · skip
        have cq7 : ¬ n ≤ k := fun h => cq7 ((cv_le (a := n) (b := k) rfl rfl (by omega) (by omega)).mpr h)
        refine lv_aload_n hx hb dX3_childAt_10 rfl (lv_at hl 0 rfl) ?_
        refine x_get E hw fw_X3_15 0 rfl rfl dX3_childAt_11 ?_
        refine lv_iload_n hx hb dX3_childAt_14 rfl (lv_at hl 2 rfl) ?_
        refine x_iald E hw 2 rfl k (rfl) (by omega) (by omega) dX3_childAt_15 ?_
        refine lv_iload_n hx hb dX3_childAt_16 rfl (lv_at hl 1 rfl) ?_
        refine lv_icmp_ne (tgt := 22) hx hb dX3_childAt_17 rfl (fun cq17 => ?_) (fun cq17 => ?_)
        · skip
          refine lv_iinc (v := nI (k + 1)) (lv' := [(2, .int (nI (k + 1))), (0, .ref (a 0)), (1, .int w)]) hx hb dX3_childAt_22 hl (k := 2) rfl (nI_add _ 1) (by decide) rfl (fun ls hl => ?_)
          refine lv_goto (tgt := 2) hx hb dX3_childAt_25 rfl ?_
          exact ih2 (k + 1) (by omega) (by rw [hiv, fi_step (by omega), if_neg cq17]) (by omega) _ _ _ hw (lv_sub hl [1, 2, 0] rfl)
        · skip
          refine lv_iload_n hx hb dX3_childAt_20 rfl (lv_at hl 2 rfl) ?_
          exact x_iret E hA rt hw dX3_childAt_21 (by rw [hiv, fi_step (by omega), if_pos cq17]) rfl
  exact lp2 (n - 0 + 1) 0 (by omega) (rfl) (by omega) _ _ _ hw (lv_sub hl [1, 2, 0] rfl)
set_option maxHeartbeats 1000000 in
set_option maxRecDepth 100000 in
theorem c_X3_takenSeats (l : Launch) (G : GG) (a : Nat → Nat) (wo : Int32) (mi : Int32) (bi : Int32) (la : Int32) (n : Nat) (ki : Nat → Int32) (se : Nat → Int32) (wd : Nat → Int32) (hu : Nat → Int32) (bt : Nat → Int32) (hn : n ≤ 6) : CT l G yX3_takenSeats cX3_takenSeats 3 (some .int) 0 0 [.ref (a 0)] (tW G a wo mi bi la (nI n) ki se wd hu bt) (some (.int (tk se n))) (tW G a wo mi bi la (nI n) ki se wd hu bt) := by
  refine CT.mk (own := RX3) (la := [(0, .ref (a 0))]) (by decide) rfl (Nat.le_of_ble_eq_true rfl) rfl ?_
  intro p e s m args below meth c A Q E hA hw rt ls hl
  have hx := E.1
  have hb := E.2.1
  refine lv_iconst (v := 0) hx hb dX3_takenSeats_0 rfl ?_
  refine lv_istore_n (lv' := [(1, .int 0), (0, .ref (a 0))]) hx hb dX3_takenSeats_1 rfl hl (by decide) rfl (fun ls hl => ?_)
  refine lv_iconst (v := 0) hx hb dX3_takenSeats_2 rfl ?_
  refine lv_istore_n (lv' := [(2, .int 0), (1, .int 0), (0, .ref (a 0))]) hx hb dX3_takenSeats_3 rfl hl (by decide) rfl (fun ls hl => ?_)
  have lp4 : ∀ (fuel : Nat), ∀ (k : Nat) (acc : Int32) (hk : k ≤ n) (hiv : acc = tk se k), (n - k) < fuel → ∀ (H : Heap) (locs : List Loc) (ls : Array Slot), Wd G A s H locs (tW G a wo mi bi la (nI n) ki se wd hu bt) → lv_has ls 3 [(0, .ref (a 0)), (1, .int acc), (2, .int (nI k))] → W p l e (rmx 0 0) s m args below meth c H locs 0 0 Q (F0 m 4 ls []) := by
    intro fuel
    induction fuel with
    | zero => intro k acc hk hiv hfu; exact absurd hfu (Nat.not_lt_zero _)
    | succ fuel ih4 =>
      intro k acc hk hiv hfu H locs ls hw hl
      refine lv_iload_n hx hb dX3_takenSeats_4 rfl (lv_at hl 2 rfl) ?_
      refine lv_aload_n hx hb dX3_takenSeats_5 rfl (lv_at hl 0 rfl) ?_
      refine x_get E hw fw_X3_40 0 rfl rfl dX3_takenSeats_6 ?_
      refine lv_icmp_ge (tgt := 29) hx hb dX3_takenSeats_9 rfl (fun cq9 => ?_) (fun cq9 => ?_)
      · skip
        have cq9 : n ≤ k := (cv_le (a := n) (b := k) rfl rfl (by omega) (by omega)).mp cq9
        refine lv_iload_n hx hb dX3_takenSeats_29 rfl (lv_at hl 1 rfl) ?_
        exact x_iret E hA rt hw dX3_takenSeats_30 (by rw [hiv, show k = n by omega]) rfl
      · skip
        have cq9 : ¬ n ≤ k := fun h => cq9 ((cv_le (a := n) (b := k) rfl rfl (by omega) (by omega)).mpr h)
        refine lv_iload_n hx hb dX3_takenSeats_12 rfl (lv_at hl 1 rfl) ?_
        refine lv_iconst (v := 1) hx hb dX3_takenSeats_13 rfl ?_
        refine lv_aload_n hx hb dX3_takenSeats_14 rfl (lv_at hl 0 rfl) ?_
        refine x_get E hw fw_X3_15 0 rfl rfl dX3_takenSeats_15 ?_
        refine lv_iload_n hx hb dX3_takenSeats_18 rfl (lv_at hl 2 rfl) ?_
        refine x_iald E hw 2 rfl k (rfl) (by omega) (by omega) dX3_takenSeats_19 ?_
        refine lv_ishl hx hb dX3_takenSeats_20 ?_
        refine lv_ior hx hb dX3_takenSeats_21 ?_
        refine lv_istore_n (lv' := [(1, .int (acc ||| ((1 : Int32) <<< ((se k) &&& 31)))), (0, .ref (a 0)), (2, .int (nI k))]) hx hb dX3_takenSeats_22 rfl hl (by decide) rfl (fun ls hl => ?_)
        refine lv_iinc (v := nI (k + 1)) (lv' := [(2, .int (nI (k + 1))), (1, .int (acc ||| ((1 : Int32) <<< ((se k) &&& 31)))), (0, .ref (a 0))]) hx hb dX3_takenSeats_23 hl (k := 2) rfl (nI_add _ 1) (by decide) rfl (fun ls hl => ?_)
        refine lv_goto (tgt := 4) hx hb dX3_takenSeats_26 rfl ?_
        exact ih4 (k + 1) (acc ||| ((1 : Int32) <<< ((se k) &&& 31))) (by omega) (by rw [hiv]; rfl) (by omega) _ _ _ hw (lv_sub hl [2, 1, 0] rfl)
  exact lp4 (n - 0 + 1) 0 0 (by omega) (rfl) (by omega) _ _ _ hw (lv_sub hl [2, 1, 0] rfl)
set_option maxHeartbeats 1000000 in
set_option maxRecDepth 100000 in
theorem c_X3_tightOf (l : Launch) (G : GG) (a : Nat → Nat) (i : Int32) (k : Nat) (hv_i : i = nI k) (wo : Int32) (mi : Int32) (bi : Int32) (la : Int32) (n : Nat) (ki : Nat → Int32) (se : Nat → Int32) (wd : Nat → Int32) (hu : Nat → Int32) (bt : Nat → Int32) (hn : n ≤ 6) (hk : k < 6) : CT l G yX3_tightOf cX3_tightOf 2 (some .int) 2 41 [.ref (a 0), .int i] (tW G a wo mi bi la (nI n) ki se wd hu bt) (some (.int (tgI (tk se n) (se k)))) (tW G a wo mi bi la (nI n) ki se wd hu bt) := by
  refine CT.mk (own := RX3) (la := [(0, .ref (a 0)), (1, .int i)]) (by decide) rfl (Nat.le_of_ble_eq_true rfl) rfl ?_
  intro p e s m args below meth c A Q E hA hw rt ls hl
  have hx := E.1
  have hb := E.2.1
  refine lv_aload_n hx hb dX3_tightOf_0 rfl (lv_at hl 0 rfl) ?_
  refine x_callV (is := [0, 1, 2, 3, 4, 5]) (q0 := 0) (As := []) (rest := []) (st1 := [.int (tk se n)]) (ws' := tW G a wo mi bi la (nI n) ki se wd hu bt) E (c_X3_takenSeats l G a wo mi bi la n ki se wd hu bt (by omega)) vw_X3_56 hw [0, 1, 2, 3, 4, 5] rfl rfl rfl rfl rfl rfl rfl hl.1 rfl rfl (Nat.le_of_ble_eq_true rfl) ⟨Nat.le_of_ble_eq_true rfl, Nat.le_of_ble_eq_true rfl⟩ (Nat.zero_le _) (Nat.zero_le _) dX3_tightOf_1 rfl rfl (fun H locs hw => ?_)
  refine lv_aload_n hx hb dX3_tightOf_4 rfl (lv_at hl 0 rfl) ?_
  refine x_get E hw fw_X3_15 0 rfl rfl dX3_tightOf_5 ?_
  refine lv_iload_n hx hb dX3_tightOf_8 rfl (lv_at hl 1 rfl) ?_
  refine x_iald E hw 2 rfl k (hv_i) (by omega) (by omega) dX3_tightOf_9 ?_
  refine x_callS (is := []) (As := [.int (tk se n), .int (se k)]) (rest := []) (st1 := [.int (tgI (tk se n) (se k))]) (ws' := tW G a wo mi bi la (nI n) ki se wd hu bt) E (c_X3_tightIn l G (tk se n) (se k)) sw_X3_60 hw [] rfl rfl rfl rfl hl.1 rfl rfl (Nat.le_of_ble_eq_true rfl) ⟨Nat.le_of_ble_eq_true rfl, Nat.le_of_ble_eq_true rfl⟩ (Nat.zero_le _) (Nat.zero_le _) dX3_tightOf_10 rfl rfl (fun H locs hw => ?_)
  exact x_iret E hA rt hw dX3_tightOf_13 (rfl) rfl
set_option maxHeartbeats 1000000 in
set_option maxRecDepth 100000 in
theorem c_X3_nearIf (l : Launch) (G : GG) (a : Nat → Nat) (i : Int32) (k : Nat) (hv_i : i = nI k) (t : Int32) (wo : Int32) (mi : Int32) (bi : Int32) (la : Int32) (n : Nat) (ki : Nat → Int32) (se : Nat → Int32) (wd : Nat → Int32) (hu : Nat → Int32) (bt : Nat → Int32) (hk : k < 6) : CT l G yX3_nearIf cX3_nearIf 3 (some .int) 2 41 [.ref (a 0), .int i, .int t] (tW G a wo mi bi la (nI n) ki se wd hu bt) (some (.int (nr (ki k) (hu k) t (wd k) (bt k) la))) (tW G a wo mi bi la (nI n) ki se wd hu bt) := by
  refine CT.mk (own := RX3) (la := [(0, .ref (a 0)), (1, .int i), (2, .int t)]) (by decide) rfl (Nat.le_of_ble_eq_true rfl) rfl ?_
  intro p e s m args below meth c A Q E hA hw rt ls hl
  have hx := E.1
  have hb := E.2.1
  refine lv_aload_n hx hb dX3_nearIf_0 rfl (lv_at hl 0 rfl) ?_
  refine x_get E hw fw_X3_9 0 rfl rfl dX3_nearIf_1 ?_
  refine lv_iload_n hx hb dX3_nearIf_4 rfl (lv_at hl 1 rfl) ?_
  refine x_iald E hw 1 rfl k (hv_i) (by omega) (by omega) dX3_nearIf_5 ?_
  refine lv_aload_n hx hb dX3_nearIf_6 rfl (lv_at hl 0 rfl) ?_
  refine x_get E hw fw_X3_21 0 rfl rfl dX3_nearIf_7 ?_
  refine lv_iload_n hx hb dX3_nearIf_10 rfl (lv_at hl 1 rfl) ?_
  refine x_iald E hw 4 rfl k (hv_i) (by omega) (by omega) dX3_nearIf_11 ?_
  refine lv_iload_n hx hb dX3_nearIf_12 rfl (lv_at hl 2 rfl) ?_
  refine lv_aload_n hx hb dX3_nearIf_13 rfl (lv_at hl 0 rfl) ?_
  refine x_get E hw fw_X3_18 0 rfl rfl dX3_nearIf_14 ?_
  refine lv_iload_n hx hb dX3_nearIf_17 rfl (lv_at hl 1 rfl) ?_
  refine x_iald E hw 3 rfl k (hv_i) (by omega) (by omega) dX3_nearIf_18 ?_
  refine lv_aload_n hx hb dX3_nearIf_19 rfl (lv_at hl 0 rfl) ?_
  refine x_get E hw fw_X3_24 0 rfl rfl dX3_nearIf_20 ?_
  refine lv_iload_n hx hb dX3_nearIf_23 rfl (lv_at hl 1 rfl) ?_
  refine x_iald E hw 5 rfl k (hv_i) (by omega) (by omega) dX3_nearIf_24 ?_
  refine lv_aload_n hx hb dX3_nearIf_25 rfl (lv_at hl 0 rfl) ?_
  refine x_get E hw fw_X3_37 0 rfl rfl dX3_nearIf_26 ?_
  refine x_callS (is := []) (As := [.int (ki k), .int (hu k), .int t, .int (wd k), .int (bt k), .int la]) (rest := []) (st1 := [.int (nr (ki k) (hu k) t (wd k) (bt k) la)]) (ws' := tW G a wo mi bi la (nI n) ki se wd hu bt) E (c_X5_near l G (ki k) (hu k) t (wd k) (bt k) la) sw_X3_64 hw [] rfl rfl rfl rfl hl.1 rfl rfl (Nat.le_of_ble_eq_true rfl) ⟨Nat.le_of_ble_eq_true rfl, Nat.le_of_ble_eq_true rfl⟩ (Nat.zero_le _) (Nat.zero_le _) dX3_nearIf_29 rfl rfl (fun H locs hw => ?_)
  exact x_iret E hA rt hw dX3_nearIf_32 (rfl) rfl
set_option maxHeartbeats 1000000 in
set_option maxRecDepth 100000 in
theorem c_X3_nearOf (l : Launch) (G : GG) (a : Nat → Nat) (i : Int32) (k : Nat) (hv_i : i = nI k) (wo : Int32) (mi : Int32) (bi : Int32) (la : Int32) (n : Nat) (ki : Nat → Int32) (se : Nat → Int32) (wd : Nat → Int32) (hu : Nat → Int32) (bt : Nat → Int32) (hn : n ≤ 6) (hk : k < 6) : CT l G yX3_nearOf cX3_nearOf 2 (some .int) 3 63 [.ref (a 0), .int i] (tW G a wo mi bi la (nI n) ki se wd hu bt) (some (.int (nr (ki k) (hu k) (tgI (tk se n) (se k)) (wd k) (bt k) la))) (tW G a wo mi bi la (nI n) ki se wd hu bt) := by
  refine CT.mk (own := RX3) (la := [(0, .ref (a 0)), (1, .int i)]) (by decide) rfl (Nat.le_of_ble_eq_true rfl) rfl ?_
  intro p e s m args below meth c A Q E hA hw rt ls hl
  have hx := E.1
  have hb := E.2.1
  refine lv_aload_n hx hb dX3_nearOf_0 rfl (lv_at hl 0 rfl) ?_
  refine lv_iload_n hx hb dX3_nearOf_1 rfl (lv_at hl 1 rfl) ?_
  refine lv_aload_n hx hb dX3_nearOf_2 rfl (lv_at hl 0 rfl) ?_
  refine lv_iload_n hx hb dX3_nearOf_3 rfl (lv_at hl 1 rfl) ?_
  refine x_callV (is := [0, 1, 2, 3, 4, 5]) (q0 := 0) (As := [.int i]) (rest := [.int i, .ref (a 0)]) (st1 := [.int (tgI (tk se n) (se k)), .int i, .ref (a 0)]) (ws' := tW G a wo mi bi la (nI n) ki se wd hu bt) E (c_X3_tightOf l G a i k (hv_i) wo mi bi la n ki se wd hu bt (by omega) (by omega)) vw_X3_68 hw [0, 1, 2, 3, 4, 5] rfl rfl rfl rfl rfl rfl rfl hl.1 rfl rfl (Nat.le_of_ble_eq_true rfl) ⟨Nat.le_of_ble_eq_true rfl, Nat.le_of_ble_eq_true rfl⟩ (Nat.zero_le _) (Nat.zero_le _) dX3_nearOf_4 rfl rfl (fun H locs hw => ?_)
  refine x_callV (is := [0, 1, 2, 3, 4, 5]) (q0 := 0) (As := [.int i, .int (tgI (tk se n) (se k))]) (rest := []) (st1 := [.int (nr (ki k) (hu k) (tgI (tk se n) (se k)) (wd k) (bt k) la)]) (ws' := tW G a wo mi bi la (nI n) ki se wd hu bt) E (c_X3_nearIf l G a i k (hv_i) (tgI (tk se n) (se k)) wo mi bi la n ki se wd hu bt (by omega)) vw_X3_71 hw [0, 1, 2, 3, 4, 5] rfl rfl rfl rfl rfl rfl rfl hl.1 rfl rfl (Nat.le_of_ble_eq_true rfl) ⟨Nat.le_of_ble_eq_true rfl, Nat.le_of_ble_eq_true rfl⟩ (Nat.zero_le _) (Nat.zero_le _) dX3_nearOf_7 rfl rfl (fun H locs hw => ?_)
  exact x_iret E hA rt hw dX3_nearOf_10 (rfl) rfl
set_option maxHeartbeats 1000000 in
set_option maxRecDepth 100000 in
theorem c_X3_whomOf (l : Launch) (G : GG) (a : Nat → Nat) (i : Int32) (k : Nat) (hv_i : i = nI k) (wo : Int32) (mi : Int32) (bi : Int32) (la : Int32) (n : Nat) (ki : Nat → Int32) (se : Nat → Int32) (wd : Nat → Int32) (hu : Nat → Int32) (bt : Nat → Int32) (hn : n ≤ 6) (hk : k < 6) : CT l G yX3_whomOf cX3_whomOf 3 (some .int) 1 22 [.ref (a 0), .int i] (tW G a wo mi bi la (nI n) ki se wd hu bt) (some (.int (whm se n (se k)))) (tW G a wo mi bi la (nI n) ki se wd hu bt) := by
  refine CT.mk (own := RX3) (la := [(0, .ref (a 0)), (1, .int i)]) (by decide) rfl (Nat.le_of_ble_eq_true rfl) rfl ?_
  intro p e s m args below meth c A Q E hA hw rt ls hl
  have hx := E.1
  have hb := E.2.1
  refine lv_aload_n hx hb dX3_whomOf_0 rfl (lv_at hl 0 rfl) ?_
  refine lv_aload_n hx hb dX3_whomOf_1 rfl (lv_at hl 0 rfl) ?_
  refine x_get E hw fw_X3_15 0 rfl rfl dX3_whomOf_2 ?_
  refine lv_iload_n hx hb dX3_whomOf_5 rfl (lv_at hl 1 rfl) ?_
  refine x_iald E hw 2 rfl k (hv_i) (by omega) (by omega) dX3_whomOf_6 ?_
  refine x_callS (is := []) (As := [.int (se k)]) (rest := [.ref (a 0)]) (st1 := [.int (nxS (se k)), .ref (a 0)]) (ws' := tW G a wo mi bi la (nI n) ki se wd hu bt) E (c_X3_nextSeat l G (se k)) sw_X3_49 hw [] rfl rfl rfl rfl hl.1 rfl rfl (Nat.le_of_ble_eq_true rfl) ⟨Nat.le_of_ble_eq_true rfl, Nat.le_of_ble_eq_true rfl⟩ (Nat.zero_le _) (Nat.zero_le _) dX3_whomOf_7 rfl rfl (fun H locs hw => ?_)
  refine x_callV (is := [0, 1, 2, 3, 4, 5]) (q0 := 0) (As := [.int (nxS (se k))]) (rest := []) (st1 := [.int (fi se (nxS (se k)) n 0)]) (ws' := tW G a wo mi bi la (nI n) ki se wd hu bt) E (c_X3_childAt l G a (nxS (se k)) wo mi bi la n ki se wd hu bt (by omega)) vw_X3_74 hw [0, 1, 2, 3, 4, 5] rfl rfl rfl rfl rfl rfl rfl hl.1 rfl rfl (Nat.le_of_ble_eq_true rfl) ⟨Nat.le_of_ble_eq_true rfl, Nat.le_of_ble_eq_true rfl⟩ (Nat.zero_le _) (Nat.zero_le _) dX3_whomOf_10 rfl rfl (fun H locs hw => ?_)
  refine lv_istore_n (lv' := [(2, .int (fi se (nxS (se k)) n 0)), (0, .ref (a 0)), (1, .int i)]) hx hb dX3_whomOf_13 rfl hl (by decide) rfl (fun ls hl => ?_)
  refine lv_iload_n hx hb dX3_whomOf_14 rfl (lv_at hl 0 rfl) ?_
  refine lv_iconst (v := -1) hx hb dX3_whomOf_15 rfl ?_
  refine lv_icmp_eq (tgt := 23) hx hb dX3_whomOf_16 rfl (fun cq16 => ?_) (fun cq16 => ?_)
  · skip
    refine lv_aload_n hx hb dX3_whomOf_23 rfl (lv_at hl 1 rfl) ?_
    refine lv_aload_n hx hb dX3_whomOf_24 rfl (lv_at hl 1 rfl) ?_
    refine x_get E hw fw_X3_15 0 rfl rfl dX3_whomOf_25 ?_
    refine lv_iload_n hx hb dX3_whomOf_28 rfl (lv_at hl 2 rfl) ?_
    refine x_iald E hw 2 rfl k (hv_i) (by omega) (by omega) dX3_whomOf_29 ?_
    refine x_callS (is := []) (As := [.int (se k)]) (rest := [.ref (a 0)]) (st1 := [.int (ahS (se k)), .ref (a 0)]) (ws' := tW G a wo mi bi la (nI n) ki se wd hu bt) E (c_X3_seatAhead l G (se k)) sw_X3_53 hw [] rfl rfl rfl rfl hl.1 rfl rfl (Nat.le_of_ble_eq_true rfl) ⟨Nat.le_of_ble_eq_true rfl, Nat.le_of_ble_eq_true rfl⟩ (Nat.zero_le _) (Nat.zero_le _) dX3_whomOf_30 rfl rfl (fun H locs hw => ?_)
    refine x_callV (is := [0, 1, 2, 3, 4, 5]) (q0 := 0) (As := [.int (ahS (se k))]) (rest := []) (st1 := [.int (fi se (ahS (se k)) n 0)]) (ws' := tW G a wo mi bi la (nI n) ki se wd hu bt) E (c_X3_childAt l G a (ahS (se k)) wo mi bi la n ki se wd hu bt (by omega)) vw_X3_74 hw [0, 1, 2, 3, 4, 5] rfl rfl rfl rfl rfl rfl rfl hl.1 rfl rfl (Nat.le_of_ble_eq_true rfl) ⟨Nat.le_of_ble_eq_true rfl, Nat.le_of_ble_eq_true rfl⟩ (Nat.zero_le _) (Nat.zero_le _) dX3_whomOf_33 rfl rfl (fun H locs hw => ?_)
    exact x_iret E hA rt hw dX3_whomOf_36 (by simp [whm, cq16]) rfl
  · skip
    refine lv_iload_n hx hb dX3_whomOf_19 rfl (lv_at hl 0 rfl) ?_
    refine lv_goto (tgt := 36) hx hb dX3_whomOf_20 rfl ?_
    exact x_iret E hA rt hw dX3_whomOf_36 (by simp [whm, cq16]) rfl
set_option maxHeartbeats 1000000 in
set_option maxRecDepth 100000 in
theorem c_X3_isGuarded (l : Launch) (G : GG) (a : Nat → Nat) (w : Int32) (wo : Int32) (mi : Int32) (bi : Int32) (la : Int32) (n : Nat) (ki : Nat → Int32) (se : Nat → Int32) (wd : Nat → Int32) (hu : Nat → Int32) (bt : Nat → Int32) : CT l G yX3_isGuarded cX3_isGuarded 2 (some .boolean) 1 20 [.ref (a 0), .int w] (tW G a wo mi bi la (nI n) ki se wd hu bt) (some (.int (bI (gdd wo w)))) (tW G a wo mi bi la (nI n) ki se wd hu bt) := by
  refine CT.mk (own := RX3) (la := [(0, .ref (a 0)), (1, .int w)]) (by decide) rfl (Nat.le_of_ble_eq_true rfl) rfl ?_
  intro p e s m args below meth c A Q E hA hw rt ls hl
  have hx := E.1
  have hb := E.2.1
  refine lv_iload_n hx hb dX3_isGuarded_0 rfl (lv_at hl 1 rfl) ?_
  refine lv_aload_n hx hb dX3_isGuarded_1 rfl (lv_at hl 0 rfl) ?_
  refine x_get E hw fw_X3_27 0 rfl rfl dX3_isGuarded_2 ?_
  refine lv_icmp_eq (tgt := 30) hx hb dX3_isGuarded_5 rfl (fun cq5 => ?_) (fun cq5 => ?_)
  · skip
    refine lv_iconst (v := 1) hx hb dX3_isGuarded_30 rfl ?_
    refine lv_goto (tgt := 35) hx hb dX3_isGuarded_31 rfl ?_
    exact x_zret E hA rt hw (by decide) dX3_isGuarded_35 (by simp [bI, gdd, cq5]) rfl
  · skip
    refine lv_iload_n hx hb dX3_isGuarded_8 rfl (lv_at hl 1 rfl) ?_
    refine lv_aload_n hx hb dX3_isGuarded_9 rfl (lv_at hl 0 rfl) ?_
    refine x_get E hw fw_X3_27 0 rfl rfl dX3_isGuarded_10 ?_
    refine x_callS (is := []) (As := [.int wo]) (rest := [.int w]) (st1 := [.int (nxS wo), .int w]) (ws' := tW G a wo mi bi la (nI n) ki se wd hu bt) E (c_X3_nextSeat l G wo) sw_X3_49 hw [] rfl rfl rfl rfl hl.1 rfl rfl (Nat.le_of_ble_eq_true rfl) ⟨Nat.le_of_ble_eq_true rfl, Nat.le_of_ble_eq_true rfl⟩ (Nat.zero_le _) (Nat.zero_le _) dX3_isGuarded_13 rfl rfl (fun H locs hw => ?_)
    refine lv_icmp_eq (tgt := 30) hx hb dX3_isGuarded_16 rfl (fun cq16 => ?_) (fun cq16 => ?_)
    · skip
      refine lv_iconst (v := 1) hx hb dX3_isGuarded_30 rfl ?_
      refine lv_goto (tgt := 35) hx hb dX3_isGuarded_31 rfl ?_
      exact x_zret E hA rt hw (by decide) dX3_isGuarded_35 (by simp [bI, gdd, cq5, cq16]) rfl
    · skip
      refine lv_iload_n hx hb dX3_isGuarded_19 rfl (lv_at hl 1 rfl) ?_
      refine lv_aload_n hx hb dX3_isGuarded_20 rfl (lv_at hl 0 rfl) ?_
      refine x_get E hw fw_X3_27 0 rfl rfl dX3_isGuarded_21 ?_
      refine x_callS (is := []) (As := [.int wo]) (rest := [.int w]) (st1 := [.int (ahS wo), .int w]) (ws' := tW G a wo mi bi la (nI n) ki se wd hu bt) E (c_X3_seatAhead l G wo) sw_X3_53 hw [] rfl rfl rfl rfl hl.1 rfl rfl (Nat.le_of_ble_eq_true rfl) ⟨Nat.le_of_ble_eq_true rfl, Nat.le_of_ble_eq_true rfl⟩ (Nat.zero_le _) (Nat.zero_le _) dX3_isGuarded_24 rfl rfl (fun H locs hw => ?_)
      refine lv_icmp_ne (tgt := 34) hx hb dX3_isGuarded_27 rfl (fun cq27 => ?_) (fun cq27 => ?_)
      · skip
        refine lv_iconst (v := 0) hx hb dX3_isGuarded_34 rfl ?_
        exact x_zret E hA rt hw (by decide) dX3_isGuarded_35 (by simp [bI, gdd, cq5, cq16, cq27]) rfl
      · skip
        refine lv_iconst (v := 1) hx hb dX3_isGuarded_30 rfl ?_
        refine lv_goto (tgt := 35) hx hb dX3_isGuarded_31 rfl ?_
        exact x_zret E hA rt hw (by decide) dX3_isGuarded_35 (by simp [bI, gdd, cq5, cq16, cq27]) rfl
set_option maxHeartbeats 1000000 in
set_option maxRecDepth 100000 in
theorem c_X3_biters (l : Launch) (G : GG) (a : Nat → Nat) (wo : Int32) (mi : Int32) (bi : Int32) (la : Int32) (n : Nat) (ki : Nat → Int32) (se : Nat → Int32) (wd : Nat → Int32) (hu : Nat → Int32) (bt : Nat → Int32) (hn : n ≤ 6) : CT l G yX3_biters cX3_biters 5 (some .int) 3 63 [.ref (a 0)] (tW G a wo mi bi la (nI n) ki se wd hu bt) (some (.int (bitr wo la n ki se wd hu bt))) (tW G a wo mi bi la (nI n) ki se wd hu bt) := by
  refine CT.mk (own := RX3) (la := [(0, .ref (a 0))]) (by decide) rfl (Nat.le_of_ble_eq_true rfl) rfl ?_
  intro p e s m args below meth c A Q E hA hw rt ls hl
  have hx := E.1
  have hb := E.2.1
  refine lv_aload_n hx hb dX3_biters_0 rfl (lv_at hl 0 rfl) ?_
  refine x_callV (is := [0, 1, 2, 3, 4, 5]) (q0 := 0) (As := []) (rest := []) (st1 := [.int (tk se n)]) (ws' := tW G a wo mi bi la (nI n) ki se wd hu bt) E (c_X3_takenSeats l G a wo mi bi la n ki se wd hu bt (by omega)) vw_X3_56 hw [0, 1, 2, 3, 4, 5] rfl rfl rfl rfl rfl rfl rfl hl.1 rfl rfl (Nat.le_of_ble_eq_true rfl) ⟨Nat.le_of_ble_eq_true rfl, Nat.le_of_ble_eq_true rfl⟩ (Nat.zero_le _) (Nat.zero_le _) dX3_biters_1 rfl rfl (fun H locs hw => ?_)
  refine lv_istore_n (lv' := [(1, .int (tk se n)), (0, .ref (a 0))]) hx hb dX3_biters_4 rfl hl (by decide) rfl (fun ls hl => ?_)
  refine lv_iconst (v := 0) hx hb dX3_biters_5 rfl ?_
  refine lv_istore_n (lv' := [(2, .int 0), (1, .int (tk se n)), (0, .ref (a 0))]) hx hb dX3_biters_6 rfl hl (by decide) rfl (fun ls hl => ?_)
  refine lv_iconst (v := 0) hx hb dX3_biters_7 rfl ?_
  refine lv_istore_n (lv' := [(3, .int 0), (2, .int 0), (1, .int (tk se n)), (0, .ref (a 0))]) hx hb dX3_biters_8 rfl hl (by decide) rfl (fun ls hl => ?_)
  have lp9 : ∀ (fuel : Nat), ∀ (k : Nat) (acc : Int32) (hk : k ≤ n) (hiv : acc = btS (bitesC wo la ki se wd hu bt (tk se n)) k), (n - k) < fuel → ∀ (H : Heap) (locs : List Loc) (ls : Array Slot), Wd G A s H locs (tW G a wo mi bi la (nI n) ki se wd hu bt) → lv_has ls 5 [(0, .ref (a 0)), (1, .int (tk se n)), (2, .int acc), (3, .int (nI k))] → W p l e (rmx 3 63) s m args below meth c H locs 0 0 Q (F0 m 9 ls []) := by
    intro fuel
    induction fuel with
    | zero => intro k acc hk hiv hfu; exact absurd hfu (Nat.not_lt_zero _)
    | succ fuel ih9 =>
      intro k acc hk hiv hfu H locs ls hw hl
      refine lv_iload_n hx hb dX3_biters_9 rfl (lv_at hl 3 rfl) ?_
      refine lv_aload_n hx hb dX3_biters_10 rfl (lv_at hl 0 rfl) ?_
      refine x_get E hw fw_X3_40 0 rfl rfl dX3_biters_11 ?_
      refine lv_icmp_ge (tgt := 71) hx hb dX3_biters_14 rfl (fun cq14 => ?_) (fun cq14 => ?_)
      · skip
        have cq14 : n ≤ k := (cv_le (a := n) (b := k) rfl rfl (by omega) (by omega)).mp cq14
        refine lv_iload_n hx hb dX3_biters_71 rfl (lv_at hl 2 rfl) ?_
        exact x_iret E hA rt hw dX3_biters_72 (by rw [hiv, show k = n by omega]; rfl) rfl
      · skip
        have cq14 : ¬ n ≤ k := fun h => cq14 ((cv_le (a := n) (b := k) rfl rfl (by omega) (by omega)).mpr h)
        refine lv_iload_n hx hb dX3_biters_17 rfl (lv_at hl 1 rfl) ?_
        refine lv_aload_n hx hb dX3_biters_18 rfl (lv_at hl 0 rfl) ?_
        refine x_get E hw fw_X3_15 0 rfl rfl dX3_biters_19 ?_
        refine lv_iload_n hx hb dX3_biters_22 rfl (lv_at hl 3 rfl) ?_
        refine x_iald E hw 2 rfl k (rfl) (by omega) (by omega) dX3_biters_23 ?_
        refine x_callS (is := []) (As := [.int (tk se n), .int (se k)]) (rest := []) (st1 := [.int (tgI (tk se n) (se k))]) (ws' := tW G a wo mi bi la (nI n) ki se wd hu bt) E (c_X3_tightIn l G (tk se n) (se k)) sw_X3_60 hw [] rfl rfl rfl rfl hl.1 rfl rfl (Nat.le_of_ble_eq_true rfl) ⟨Nat.le_of_ble_eq_true rfl, Nat.le_of_ble_eq_true rfl⟩ (Nat.zero_le _) (Nat.zero_le _) dX3_biters_24 rfl rfl (fun H locs hw => ?_)
        refine lv_istore (lv' := [(4, .int (tgI (tk se n) (se k))), (0, .ref (a 0)), (1, .int (tk se n)), (2, .int acc), (3, .int (nI k))]) hx hb dX3_biters_27 hl (by decide) rfl (fun ls hl => ?_)
        refine lv_iload hx hb dX3_biters_29 (lv_at hl 0 rfl) ?_
        refine lv_if_le (tgt := 65) hx hb dX3_biters_31 rfl (fun cq31 => ?_) (fun cq31 => ?_)
        · skip
          refine lv_iinc (v := nI (k + 1)) (lv' := [(3, .int (nI (k + 1))), (4, .int (tgI (tk se n) (se k))), (0, .ref (a 0)), (1, .int (tk se n)), (2, .int acc)]) hx hb dX3_biters_65 hl (k := 4) rfl (nI_add _ 1) (by decide) rfl (fun ls hl => ?_)
          refine lv_goto (tgt := 9) hx hb dX3_biters_68 rfl ?_
          exact ih9 (k + 1) acc (by omega) (by rw [hiv, btS]; simp [bitesC, cq14, cq31]) (by omega) _ _ _ hw (lv_sub hl [2, 3, 4, 0] rfl)
        · skip
          refine lv_aload_n hx hb dX3_biters_34 rfl (lv_at hl 1 rfl) ?_
          refine lv_aload_n hx hb dX3_biters_35 rfl (lv_at hl 1 rfl) ?_
          refine x_get E hw fw_X3_15 0 rfl rfl dX3_biters_36 ?_
          refine lv_iload_n hx hb dX3_biters_39 rfl (lv_at hl 4 rfl) ?_
          refine x_iald E hw 2 rfl k (rfl) (by omega) (by omega) dX3_biters_40 ?_
          refine x_callV (is := [0, 1, 2, 3, 4, 5]) (q0 := 0) (As := [.int (se k)]) (rest := []) (st1 := [.int (bI (gdd wo (se k)))]) (ws' := tW G a wo mi bi la (nI n) ki se wd hu bt) E (c_X3_isGuarded l G a (se k) wo mi bi la n ki se wd hu bt) vw_X3_77 hw [0, 1, 2, 3, 4, 5] rfl rfl rfl rfl rfl rfl rfl hl.1 rfl rfl (Nat.le_of_ble_eq_true rfl) ⟨Nat.le_of_ble_eq_true rfl, Nat.le_of_ble_eq_true rfl⟩ (Nat.zero_le _) (Nat.zero_le _) dX3_biters_41 rfl rfl (fun H locs hw => ?_)
          refine lv_if_ne (tgt := 65) hx hb dX3_biters_44 rfl (fun cq44 => ?_) (fun cq44 => ?_)
          · skip
            have cq44 := bI_n0.mp cq44
            refine lv_iinc (v := nI (k + 1)) (lv' := [(3, .int (nI (k + 1))), (4, .int (tgI (tk se n) (se k))), (0, .ref (a 0)), (1, .int (tk se n)), (2, .int acc)]) hx hb dX3_biters_65 hl (k := 4) rfl (nI_add _ 1) (by decide) rfl (fun ls hl => ?_)
            refine lv_goto (tgt := 9) hx hb dX3_biters_68 rfl ?_
            exact ih9 (k + 1) acc (by omega) (by rw [hiv, btS]; simp [bitesC, cq14, cq31, cq44]) (by omega) _ _ _ hw (lv_sub hl [2, 3, 4, 0] rfl)
          · skip
            have cq44 := bI_0.mp cq44
            refine lv_aload_n hx hb dX3_biters_47 rfl (lv_at hl 1 rfl) ?_
            refine lv_iload_n hx hb dX3_biters_48 rfl (lv_at hl 4 rfl) ?_
            refine lv_iload hx hb dX3_biters_49 (lv_at hl 0 rfl) ?_
            refine x_callV (is := [0, 1, 2, 3, 4, 5]) (q0 := 0) (As := [.int (nI k), .int (tgI (tk se n) (se k))]) (rest := []) (st1 := [.int (nr (ki k) (hu k) (tgI (tk se n) (se k)) (wd k) (bt k) la)]) (ws' := tW G a wo mi bi la (nI n) ki se wd hu bt) E (c_X3_nearIf l G a (nI k) k (rfl) (tgI (tk se n) (se k)) wo mi bi la n ki se wd hu bt (by omega)) vw_X3_71 hw [0, 1, 2, 3, 4, 5] rfl rfl rfl rfl rfl rfl rfl hl.1 rfl rfl (Nat.le_of_ble_eq_true rfl) ⟨Nat.le_of_ble_eq_true rfl, Nat.le_of_ble_eq_true rfl⟩ (Nat.zero_le _) (Nat.zero_le _) dX3_biters_51 rfl rfl (fun H locs hw => ?_)
            refine lv_bipush (v := 12) hx hb dX3_biters_54 rfl ?_
            refine lv_icmp_lt (tgt := 65) hx hb dX3_biters_56 rfl (fun cq56 => ?_) (fun cq56 => ?_)
            · skip
              refine lv_iinc (v := nI (k + 1)) (lv' := [(3, .int (nI (k + 1))), (4, .int (tgI (tk se n) (se k))), (0, .ref (a 0)), (1, .int (tk se n)), (2, .int acc)]) hx hb dX3_biters_65 hl (k := 4) rfl (nI_add _ 1) (by decide) rfl (fun ls hl => ?_)
              refine lv_goto (tgt := 9) hx hb dX3_biters_68 rfl ?_
              exact ih9 (k + 1) acc (by omega) (by rw [hiv, btS]; simp [bitesC, cq14, cq31, cq44, cq56]) (by omega) _ _ _ hw (lv_sub hl [2, 3, 4, 0] rfl)
            · skip
              refine lv_iload_n hx hb dX3_biters_59 rfl (lv_at hl 3 rfl) ?_
              refine lv_iconst (v := 1) hx hb dX3_biters_60 rfl ?_
              refine lv_iload_n hx hb dX3_biters_61 rfl (lv_at hl 4 rfl) ?_
              refine lv_ishl hx hb dX3_biters_62 ?_
              refine lv_ior hx hb dX3_biters_63 ?_
              refine lv_istore_n (lv' := [(2, .int (acc ||| ((1 : Int32) <<< ((nI k) &&& 31)))), (4, .int (tgI (tk se n) (se k))), (0, .ref (a 0)), (1, .int (tk se n)), (3, .int (nI k))]) hx hb dX3_biters_64 rfl hl (by decide) rfl (fun ls hl => ?_)
              refine lv_iinc (v := nI (k + 1)) (lv' := [(3, .int (nI (k + 1))), (2, .int (acc ||| ((1 : Int32) <<< ((nI k) &&& 31)))), (4, .int (tgI (tk se n) (se k))), (0, .ref (a 0)), (1, .int (tk se n))]) hx hb dX3_biters_65 hl (k := 4) rfl (nI_add _ 1) (by decide) rfl (fun ls hl => ?_)
              refine lv_goto (tgt := 9) hx hb dX3_biters_68 rfl ?_
              exact ih9 (k + 1) (acc ||| ((1 : Int32) <<< ((nI k) &&& 31))) (by omega) (by rw [hiv, btS]; simp [bitesC, cq14, cq31, cq44, cq56]) (by omega) _ _ _ hw (lv_sub hl [3, 4, 1, 0] rfl)
  exact lp9 (n - 0 + 1) 0 0 (by omega) (rfl) (by omega) _ _ _ hw (lv_sub hl [3, 2, 1, 0] rfl)
end
section
/-! a minute: the moving part of a table is (minute, bites, lately, hunger, bitten) -/
abbrev Dy : Type := Int32 × Int32 × Int32 × (Nat → Int32) × (Nat → Int32)
def pm1 (wo : Int32) (n : Nat) (ki se wd : Nat → Int32) (d : Dy) : Dy :=
  (d.1 + 1, d.2.1 + bcI (bitr wo d.2.2.1 n ki se wd d.2.2.2.1 d.2.2.2.2), bcI (bitr wo d.2.2.1 n ki se wd d.2.2.2.1 d.2.2.2.2),
    pre (fH (bitr wo d.2.2.1 n ki se wd d.2.2.2.1 d.2.2.2.2) d.2.2.2.1) d.2.2.2.1 n, pre (fB se n (bitr wo d.2.2.1 n ki se wd d.2.2.2.1 d.2.2.2.2) d.2.2.2.2) d.2.2.2.2 n)
def pmN (wo : Int32) (n : Nat) (ki se wd : Nat → Int32) : Nat → Dy → Dy
  | 0, d => d
  | k + 1, d => pm1 wo n ki se wd (pmN wo n ki se wd k d)
theorem fH_s1 {set : Int32} {hu hu' : Nat → Int32} {k : Nat} (hh : hu' = pre (fH set hu) hu k) (hb : hasB set k = true) : upd (upd hu' k (if 0 < hu' k - 8 then hu' k - 8 else 0)) k (if (upd hu' k (if 0 < hu' k - 8 then hu' k - 8 else 0)) k + 1 < 30 then (upd hu' k (if 0 < hu' k - 8 then hu' k - 8 else 0)) k + 1 else 30) = pre (fH set hu) hu (k + 1) := by
  subst hh
  rw [upd_at, upd_upd, ← pre_upd]
  congr 1
  simp only [fH, hb, pre_get, if_true]
theorem fH_s2 {set : Int32} {hu hu' : Nat → Int32} {k : Nat} (hh : hu' = pre (fH set hu) hu k) (hb : hasB set k = false) : upd hu' k (if hu' k + 1 < 30 then hu' k + 1 else 30) = pre (fH set hu) hu (k + 1) := by
  subst hh
  rw [← pre_upd]
  congr 1
  simp [fH, hb, pre_get]
theorem fB_s {se : Nat → Int32} {n : Nat} {set : Int32} {bt bt' : Nat → Int32} {k : Nat} (hh : bt' = pre (fB se n set bt) bt k) : upd bt' k (bt' k + tmS se n set (nI k) n) = pre (fB se n set bt) bt (k + 1) := by
  subst hh
  rw [← pre_upd]
  congr 1
  simp [fB, pre_get]
def mx0 (x : Int32) : Int32 := if 0 < x then x else 0
end
section
set_option maxHeartbeats 1000000 in
set_option maxRecDepth 100000 in
theorem c_X3_timesBitten (l : Launch) (G : GG) (a : Nat → Nat) (x : Int32) (set : Int32) (wo : Int32) (mi : Int32) (bi : Int32) (la : Int32) (n : Nat) (ki : Nat → Int32) (se : Nat → Int32) (wd : Nat → Int32) (hu : Nat → Int32) (bt : Nat → Int32) (hn : n ≤ 6) : CT l G yX3_timesBitten cX3_timesBitten 5 (some .int) 2 44 [.ref (a 0), .int x, .int set] (tW G a wo mi bi la (nI n) ki se wd hu bt) (some (.int (tmS se n set x n))) (tW G a wo mi bi la (nI n) ki se wd hu bt) := by
  refine CT.mk (own := RX3) (la := [(0, .ref (a 0)), (1, .int x), (2, .int set)]) (by decide) rfl (Nat.le_of_ble_eq_true rfl) rfl ?_
  intro p e s m args below meth c A Q E hA hw rt ls hl
  have hx := E.1
  have hb := E.2.1
  refine lv_iconst (v := 0) hx hb dX3_timesBitten_0 rfl ?_
  refine lv_istore_n (lv' := [(3, .int 0), (0, .ref (a 0)), (1, .int x), (2, .int set)]) hx hb dX3_timesBitten_1 rfl hl (by decide) rfl (fun ls hl => ?_)
  refine lv_iconst (v := 0) hx hb dX3_timesBitten_2 rfl ?_
  refine lv_istore (lv' := [(4, .int 0), (3, .int 0), (0, .ref (a 0)), (1, .int x), (2, .int set)]) hx hb dX3_timesBitten_3 hl (by decide) rfl (fun ls hl => ?_)
  have lp5 : ∀ (fuel : Nat), ∀ (k : Nat) (acc : Int32) (hk : k ≤ n) (hiv : acc = tmS se n set x k), (n - k) < fuel → ∀ (H : Heap) (locs : List Loc) (ls : Array Slot), Wd G A s H locs (tW G a wo mi bi la (nI n) ki se wd hu bt) → lv_has ls 5 [(0, .ref (a 0)), (1, .int x), (2, .int set), (3, .int acc), (4, .int (nI k))] → W p l e (rmx 2 44) s m args below meth c H locs 0 0 Q (F0 m 5 ls []) := by
    intro fuel
    induction fuel with
    | zero => intro k acc hk hiv hfu; exact absurd hfu (Nat.not_lt_zero _)
    | succ fuel ih5 =>
      intro k acc hk hiv hfu H locs ls hw hl
      refine lv_iload hx hb dX3_timesBitten_5 (lv_at hl 4 rfl) ?_
      refine lv_aload_n hx hb dX3_timesBitten_7 rfl (lv_at hl 0 rfl) ?_
      refine x_get E hw fw_X3_40 0 rfl rfl dX3_timesBitten_8 ?_
      refine lv_icmp_ge (tgt := 43) hx hb dX3_timesBitten_11 rfl (fun cq11 => ?_) (fun cq11 => ?_)
      · skip
        have cq11 : n ≤ k := (cv_le (a := n) (b := k) rfl rfl (by omega) (by omega)).mp cq11
        refine lv_iload_n hx hb dX3_timesBitten_43 rfl (lv_at hl 3 rfl) ?_
        exact x_iret E hA rt hw dX3_timesBitten_44 (by rw [hiv, show k = n by omega]) rfl
      · skip
        have cq11 : ¬ n ≤ k := fun h => cq11 ((cv_le (a := n) (b := k) rfl rfl (by omega) (by omega)).mpr h)
        refine lv_iload_n hx hb dX3_timesBitten_14 rfl (lv_at hl 2 rfl) ?_
        refine lv_iload hx hb dX3_timesBitten_15 (lv_at hl 4 rfl) ?_
        refine lv_ishr hx hb dX3_timesBitten_17 ?_
        refine lv_iconst (v := 1) hx hb dX3_timesBitten_18 rfl ?_
        refine lv_iand hx hb dX3_timesBitten_19 ?_
        refine lv_iconst (v := 1) hx hb dX3_timesBitten_20 rfl ?_
        refine lv_icmp_ne (tgt := 37) hx hb dX3_timesBitten_21 rfl (fun cq21 => ?_) (fun cq21 => ?_)
        · skip
          refine lv_iinc (v := nI (k + 1)) (lv' := [(4, .int (nI (k + 1))), (0, .ref (a 0)), (1, .int x), (2, .int set), (3, .int acc)]) hx hb dX3_timesBitten_37 hl (k := 4) rfl (nI_add _ 1) (by decide) rfl (fun ls hl => ?_)
          refine lv_goto (tgt := 5) hx hb dX3_timesBitten_40 rfl ?_
          exact ih5 (k + 1) acc (by omega) (by rw [hiv, tmS]; simp [hasB, cq11, cq21]) (by omega) _ _ _ hw (lv_sub hl [1, 2, 3, 4, 0] rfl)
        · skip
          refine lv_aload_n hx hb dX3_timesBitten_24 rfl (lv_at hl 0 rfl) ?_
          refine lv_iload hx hb dX3_timesBitten_25 (lv_at hl 4 rfl) ?_
          refine x_callV (is := [0, 1, 2, 3, 4, 5]) (q0 := 0) (As := [.int (nI k)]) (rest := []) (st1 := [.int (whm se n (se k))]) (ws' := tW G a wo mi bi la (nI n) ki se wd hu bt) E (c_X3_whomOf l G a (nI k) k (rfl) wo mi bi la n ki se wd hu bt (by omega) (by omega)) vw_X3_81 hw [0, 1, 2, 3, 4, 5] rfl rfl rfl rfl rfl rfl rfl hl.1 rfl rfl (Nat.le_of_ble_eq_true rfl) ⟨Nat.le_of_ble_eq_true rfl, Nat.le_of_ble_eq_true rfl⟩ (Nat.zero_le _) (Nat.zero_le _) dX3_timesBitten_27 rfl rfl (fun H locs hw => ?_)
          refine lv_iload_n hx hb dX3_timesBitten_30 rfl (lv_at hl 1 rfl) ?_
          refine lv_icmp_ne (tgt := 37) hx hb dX3_timesBitten_31 rfl (fun cq31 => ?_) (fun cq31 => ?_)
          · skip
            refine lv_iinc (v := nI (k + 1)) (lv' := [(4, .int (nI (k + 1))), (0, .ref (a 0)), (1, .int x), (2, .int set), (3, .int acc)]) hx hb dX3_timesBitten_37 hl (k := 4) rfl (nI_add _ 1) (by decide) rfl (fun ls hl => ?_)
            refine lv_goto (tgt := 5) hx hb dX3_timesBitten_40 rfl ?_
            exact ih5 (k + 1) acc (by omega) (by rw [hiv, tmS]; simp [hasB, cq11, cq21, cq31]) (by omega) _ _ _ hw (lv_sub hl [1, 2, 3, 4, 0] rfl)
          · skip
            refine lv_iinc (v := acc + 1) (lv' := [(3, .int (acc + 1)), (0, .ref (a 0)), (1, .int x), (2, .int set), (4, .int (nI k))]) hx hb dX3_timesBitten_34 hl (k := 3) rfl (rfl) (by decide) rfl (fun ls hl => ?_)
            refine lv_iinc (v := nI (k + 1)) (lv' := [(4, .int (nI (k + 1))), (3, .int (acc + 1)), (0, .ref (a 0)), (1, .int x), (2, .int set)]) hx hb dX3_timesBitten_37 hl (k := 4) rfl (nI_add _ 1) (by decide) rfl (fun ls hl => ?_)
            refine lv_goto (tgt := 5) hx hb dX3_timesBitten_40 rfl ?_
            exact ih5 (k + 1) (acc + 1) (by omega) (by rw [hiv, tmS]; simp [hasB, cq11, cq21, cq31]) (by omega) _ _ _ hw (lv_sub hl [2, 3, 4, 1, 0] rfl)
  exact lp5 (n - 0 + 1) 0 0 (by omega) (rfl) (by omega) _ _ _ hw (lv_sub hl [2, 3, 4, 1, 0] rfl)
set_option maxHeartbeats 1000000 in
set_option maxRecDepth 100000 in
theorem c_X3_giveCarrot (l : Launch) (G : GG) (a : Nat → Nat) (i : Int32) (k : Nat) (hv_i : i = nI k) (wo : Int32) (mi : Int32) (bi : Int32) (la : Int32) (n : Nat) (ki : Nat → Int32) (se : Nat → Int32) (wd : Nat → Int32) (hu : Nat → Int32) (bt : Nat → Int32) (hk : k < 6) : CT l G yX3_giveCarrot cX3_giveCarrot 2 (some .int) 1 15 [.ref (a 0), .int i] (tW G a wo mi bi la (nI n) ki se wd hu bt) (some (.int (mx0 (hu k - 10)))) (tW G a wo mi bi la (nI n) ki se wd (upd hu k (mx0 (hu k - 10))) bt) := by
  refine CT.mk (own := RX3) (la := [(0, .ref (a 0)), (1, .int i)]) (by decide) rfl (Nat.le_of_ble_eq_true rfl) rfl ?_
  intro p e s m args below meth c A Q E hA hw rt ls hl
  have hx := E.1
  have hb := E.2.1
  refine lv_aload_n hx hb dX3_giveCarrot_0 rfl (lv_at hl 0 rfl) ?_
  refine x_get E hw fw_X3_21 0 rfl rfl dX3_giveCarrot_1 ?_
  refine lv_iload_n hx hb dX3_giveCarrot_4 rfl (lv_at hl 1 rfl) ?_
  refine lv_iconst (v := 0) hx hb dX3_giveCarrot_5 rfl ?_
  refine lv_aload_n hx hb dX3_giveCarrot_6 rfl (lv_at hl 0 rfl) ?_
  refine x_get E hw fw_X3_21 0 rfl rfl dX3_giveCarrot_7 ?_
  refine lv_iload_n hx hb dX3_giveCarrot_10 rfl (lv_at hl 1 rfl) ?_
  refine x_iald E hw 4 rfl k (hv_i) (by omega) (by omega) dX3_giveCarrot_11 ?_
  refine lv_bipush (v := 10) hx hb dX3_giveCarrot_12 rfl ?_
  refine lv_isub hx hb dX3_giveCarrot_14 ?_
  refine x_mmax E lw_X3_84 kw_math_max hl.1 (Nat.le_of_ble_eq_true rfl) (Nat.le_of_ble_eq_true rfl) (Nat.zero_le _) (Nat.zero_le _) dX3_giveCarrot_15 ?_
  refine x_topi (y := mx0 (hu k - 10)) (rfl) ?_
  refine x_iast (ws' := tW G a wo mi bi la (nI n) ki se wd (upd hu k (mx0 (hu k - 10))) bt) E hw 4 rfl k (hv_i) (by omega) (by omega) dX3_giveCarrot_18 rfl (fun H locs hw => ?_)
  refine lv_aload_n hx hb dX3_giveCarrot_19 rfl (lv_at hl 0 rfl) ?_
  refine x_get E hw fw_X3_21 0 rfl rfl dX3_giveCarrot_20 ?_
  refine lv_iload_n hx hb dX3_giveCarrot_23 rfl (lv_at hl 1 rfl) ?_
  refine x_iald E hw 4 rfl k (hv_i) (by omega) (by omega) dX3_giveCarrot_24 ?_
  exact x_iret E hA rt hw dX3_giveCarrot_25 (upd_at _ _ _) rfl
set_option maxHeartbeats 1000000 in
set_option maxRecDepth 100000 in
theorem c_X3_addChild (l : Launch) (G : GG) (a : Nat → Nat) (xk : Int32) (xs : Int32) (xw : Int32) (xh : Int32) (wo : Int32) (mi : Int32) (bi : Int32) (la : Int32) (n : Nat) (ki : Nat → Int32) (se : Nat → Int32) (wd : Nat → Int32) (hu : Nat → Int32) (bt : Nat → Int32) (hn : n < 6) : CT l G yX3_addChild cX3_addChild 6 (some .int) 0 0 [.ref (a 0), .int xk, .int xs, .int xw, .int xh] (tW G a wo mi bi la (nI n) ki se wd hu bt) (some (.int (nI n))) (tW G a wo mi bi la (nI (n + 1)) (upd ki n xk) (upd se n xs) (upd wd n xw) (upd hu n xh) (upd bt n 0)) := by
  refine CT.mk (own := RX3) (la := [(0, .ref (a 0)), (1, .int xk), (2, .int xs), (3, .int xw), (4, .int xh)]) (by decide) rfl (Nat.le_of_ble_eq_true rfl) rfl ?_
  intro p e s m args below meth c A Q E hA hw rt ls hl
  have hx := E.1
  have hb := E.2.1
  refine lv_aload_n hx hb dX3_addChild_0 rfl (lv_at hl 0 rfl) ?_
  refine x_get E hw fw_X3_40 0 rfl rfl dX3_addChild_1 ?_
  refine lv_bipush (v := 6) hx hb dX3_addChild_4 rfl ?_
  refine lv_icmp_lt (tgt := 12) hx hb dX3_addChild_6 rfl (fun cq6 => ?_) (fun cq6 => ?_)
  · skip
    have cq6 : n < 6 := (cv_lt (a := n) (b := 6) rfl rfl (by omega) (by omega)).mp cq6
    refine lv_aload_n hx hb dX3_addChild_12 rfl (lv_at hl 0 rfl) ?_
    refine x_get E hw fw_X3_40 0 rfl rfl dX3_addChild_13 ?_
    refine lv_istore (lv' := [(5, .int (nI n)), (0, .ref (a 0)), (1, .int xk), (2, .int xs), (3, .int xw), (4, .int xh)]) hx hb dX3_addChild_16 hl (by decide) rfl (fun ls hl => ?_)
    refine lv_aload_n hx hb dX3_addChild_18 rfl (lv_at hl 1 rfl) ?_
    refine x_get E hw fw_X3_9 0 rfl rfl dX3_addChild_19 ?_
    refine lv_iload hx hb dX3_addChild_22 (lv_at hl 0 rfl) ?_
    refine lv_iload_n hx hb dX3_addChild_24 rfl (lv_at hl 2 rfl) ?_
    refine x_iast (ws' := tW G a wo mi bi la (nI n) (upd ki n xk) se wd hu bt) E hw 1 rfl n (rfl) (by omega) (by omega) dX3_addChild_25 rfl (fun H locs hw => ?_)
    refine lv_aload_n hx hb dX3_addChild_26 rfl (lv_at hl 1 rfl) ?_
    refine x_get E hw fw_X3_15 0 rfl rfl dX3_addChild_27 ?_
    refine lv_iload hx hb dX3_addChild_30 (lv_at hl 0 rfl) ?_
    refine lv_iload_n hx hb dX3_addChild_32 rfl (lv_at hl 3 rfl) ?_
    refine x_iast (ws' := tW G a wo mi bi la (nI n) (upd ki n xk) (upd se n xs) wd hu bt) E hw 2 rfl n (rfl) (by omega) (by omega) dX3_addChild_33 rfl (fun H locs hw => ?_)
    refine lv_aload_n hx hb dX3_addChild_34 rfl (lv_at hl 1 rfl) ?_
    refine x_get E hw fw_X3_18 0 rfl rfl dX3_addChild_35 ?_
    refine lv_iload hx hb dX3_addChild_38 (lv_at hl 0 rfl) ?_
    refine lv_iload_n hx hb dX3_addChild_40 rfl (lv_at hl 4 rfl) ?_
    refine x_iast (ws' := tW G a wo mi bi la (nI n) (upd ki n xk) (upd se n xs) (upd wd n xw) hu bt) E hw 3 rfl n (rfl) (by omega) (by omega) dX3_addChild_41 rfl (fun H locs hw => ?_)
    refine lv_aload_n hx hb dX3_addChild_42 rfl (lv_at hl 1 rfl) ?_
    refine x_get E hw fw_X3_21 0 rfl rfl dX3_addChild_43 ?_
    refine lv_iload hx hb dX3_addChild_46 (lv_at hl 0 rfl) ?_
    refine lv_iload hx hb dX3_addChild_48 (lv_at hl 5 rfl) ?_
    refine x_iast (ws' := tW G a wo mi bi la (nI n) (upd ki n xk) (upd se n xs) (upd wd n xw) (upd hu n xh) bt) E hw 4 rfl n (rfl) (by omega) (by omega) dX3_addChild_50 rfl (fun H locs hw => ?_)
    refine lv_aload_n hx hb dX3_addChild_51 rfl (lv_at hl 1 rfl) ?_
    refine x_get E hw fw_X3_24 0 rfl rfl dX3_addChild_52 ?_
    refine lv_iload hx hb dX3_addChild_55 (lv_at hl 0 rfl) ?_
    refine lv_iconst (v := 0) hx hb dX3_addChild_57 rfl ?_
    refine x_iast (ws' := tW G a wo mi bi la (nI n) (upd ki n xk) (upd se n xs) (upd wd n xw) (upd hu n xh) (upd bt n 0)) E hw 5 rfl n (rfl) (by omega) (by omega) dX3_addChild_58 rfl (fun H locs hw => ?_)
    refine lv_aload_n hx hb dX3_addChild_59 rfl (lv_at hl 1 rfl) ?_
    refine lv_iload hx hb dX3_addChild_60 (lv_at hl 0 rfl) ?_
    refine lv_iconst (v := 1) hx hb dX3_addChild_62 rfl ?_
    refine lv_iadd hx hb dX3_addChild_63 ?_
    refine x_topi (y := nI (n + 1)) (nI_add n 1) ?_
    refine x_put (ws' := tW G a wo mi bi la (nI (n + 1)) (upd ki n xk) (upd se n xs) (upd wd n xw) (upd hu n xh) (upd bt n 0)) (ty := .int) E hw fw_X3_40 0 rfl rfl rfl (by decide +kernel) rfl rfl (Nat.le_of_ble_eq_true rfl) dX3_addChild_64 rfl (fun H locs hw => ?_)
    refine lv_iload hx hb dX3_addChild_67 (lv_at hl 0 rfl) ?_
    exact x_iret E hA rt hw dX3_addChild_69 (rfl) rfl
  · skip
    have cq6 : ¬ n < 6 := fun h => cq6 ((cv_lt (a := n) (b := 6) rfl rfl (by omega) (by omega)).mpr h)
    exact absurd (by omega) cq6
set_option maxHeartbeats 1000000 in
set_option maxRecDepth 100000 in
theorem c_X3_partOf (l : Launch) (G : GG) (a : Nat → Nat) (i : Int32) (k : Nat) (hv_i : i = nI k) (wh : Int32) (wo : Int32) (mi : Int32) (bi : Int32) (la : Int32) (n : Nat) (ki : Nat → Int32) (se : Nat → Int32) (wd : Nat → Int32) (hu : Nat → Int32) (bt : Nat → Int32) (hk : k < 6) : CT l G yX3_partOf cX3_partOf 3 (some .int) 0 0 [.ref (a 0), .int i, .int wh] (tW G a wo mi bi la (nI n) ki se wd hu bt) (some (.int (if wh = 0 then ki k else if wh = 1 then se k else if wh = 2 then wd k else if wh = 3 then hu k else bt k))) (tW G a wo mi bi la (nI n) ki se wd hu bt) := by
  refine CT.mk (own := RX3) (la := [(0, .ref (a 0)), (1, .int i), (2, .int wh)]) (by decide) rfl (Nat.le_of_ble_eq_true rfl) rfl ?_
  intro p e s m args below meth c A Q E hA hw rt ls hl
  have hx := E.1
  have hb := E.2.1
  refine lv_iload_n hx hb dX3_partOf_0 rfl (lv_at hl 2 rfl) ?_
  by_cases cq1_0 : wh = (0 : Int32)
  · skip
    refine lv_tableIn (off := 31) (tgt := 32) hx hb dX3_partOf_1 (by rw [cq1_0]; decide) (by rw [cq1_0]; decide) (by rw [cq1_0]; rfl) rfl ?_
    refine lv_aload_n hx hb dX3_partOf_32 rfl (lv_at hl 0 rfl) ?_
    refine x_get E hw fw_X3_9 0 rfl rfl dX3_partOf_33 ?_
    refine lv_iload_n hx hb dX3_partOf_36 rfl (lv_at hl 1 rfl) ?_
    refine x_iald E hw 1 rfl k (hv_i) (by omega) (by omega) dX3_partOf_37 ?_
    exact x_iret E hA rt hw dX3_partOf_38 (by simp [cq1_0]) rfl
  by_cases cq1_1 : wh = (1 : Int32)
  · skip
    refine lv_tableIn (off := 38) (tgt := 39) hx hb dX3_partOf_1 (by rw [cq1_1]; decide) (by rw [cq1_1]; decide) (by rw [cq1_1]; rfl) rfl ?_
    refine lv_aload_n hx hb dX3_partOf_39 rfl (lv_at hl 0 rfl) ?_
    refine x_get E hw fw_X3_15 0 rfl rfl dX3_partOf_40 ?_
    refine lv_iload_n hx hb dX3_partOf_43 rfl (lv_at hl 1 rfl) ?_
    refine x_iald E hw 2 rfl k (hv_i) (by omega) (by omega) dX3_partOf_44 ?_
    exact x_iret E hA rt hw dX3_partOf_45 (by simp [cq1_0, cq1_1]) rfl
  by_cases cq1_2 : wh = (2 : Int32)
  · skip
    refine lv_tableIn (off := 45) (tgt := 46) hx hb dX3_partOf_1 (by rw [cq1_2]; decide) (by rw [cq1_2]; decide) (by rw [cq1_2]; rfl) rfl ?_
    refine lv_aload_n hx hb dX3_partOf_46 rfl (lv_at hl 0 rfl) ?_
    refine x_get E hw fw_X3_18 0 rfl rfl dX3_partOf_47 ?_
    refine lv_iload_n hx hb dX3_partOf_50 rfl (lv_at hl 1 rfl) ?_
    refine x_iald E hw 3 rfl k (hv_i) (by omega) (by omega) dX3_partOf_51 ?_
    exact x_iret E hA rt hw dX3_partOf_52 (by simp [cq1_0, cq1_1, cq1_2]) rfl
  by_cases cq1_3 : wh = (3 : Int32)
  · skip
    refine lv_tableIn (off := 52) (tgt := 53) hx hb dX3_partOf_1 (by rw [cq1_3]; decide) (by rw [cq1_3]; decide) (by rw [cq1_3]; rfl) rfl ?_
    refine lv_aload_n hx hb dX3_partOf_53 rfl (lv_at hl 0 rfl) ?_
    refine x_get E hw fw_X3_21 0 rfl rfl dX3_partOf_54 ?_
    refine lv_iload_n hx hb dX3_partOf_57 rfl (lv_at hl 1 rfl) ?_
    refine x_iald E hw 4 rfl k (hv_i) (by omega) (by omega) dX3_partOf_58 ?_
    exact x_iret E hA rt hw dX3_partOf_59 (by simp [cq1_0, cq1_1, cq1_2, cq1_3]) rfl
  refine lv_tableOut (tgt := 60) hx hb dX3_partOf_1 (by have g0 := lv_neT (a := 0) cq1_0 rfl; have g1 := lv_neT (a := 1) cq1_1 rfl; have g2 := lv_neT (a := 2) cq1_2 rfl; have g3 := lv_neT (a := 3) cq1_3 rfl; omega) rfl ?_
  refine lv_aload_n hx hb dX3_partOf_60 rfl (lv_at hl 0 rfl) ?_
  refine x_get E hw fw_X3_24 0 rfl rfl dX3_partOf_61 ?_
  refine lv_iload_n hx hb dX3_partOf_64 rfl (lv_at hl 1 rfl) ?_
  refine x_iald E hw 5 rfl k (hv_i) (by omega) (by omega) dX3_partOf_65 ?_
  exact x_iret E hA rt hw dX3_partOf_66 (by simp [cq1_0, cq1_1, cq1_2, cq1_3]) rfl
set_option maxHeartbeats 1000000 in
set_option maxRecDepth 100000 in
theorem c_X3_layAnew (l : Launch) (G : GG) (a : Nat → Nat) (x : Int32) (wo : Int32) (mi : Int32) (bi : Int32) (la : Int32) (ch : Int32) (ki : Nat → Int32) (se : Nat → Int32) (wd : Nat → Int32) (hu : Nat → Int32) (bt : Nat → Int32) : CT l G yX3_layAnew cX3_layAnew 2 none 0 0 [.ref (a 0), .int x] (tW G a wo mi bi la ch ki se wd hu bt) none (tW G a x 0 0 0 0 ki se wd hu bt) := by
  refine CT.mk (own := RX3) (la := [(0, .ref (a 0)), (1, .int x)]) (by decide) rfl (Nat.le_of_ble_eq_true rfl) rfl ?_
  intro p e s m args below meth c A Q E hA hw rt ls hl
  have hx := E.1
  have hb := E.2.1
  refine lv_aload_n hx hb dX3_layAnew_0 rfl (lv_at hl 0 rfl) ?_
  refine lv_iload_n hx hb dX3_layAnew_1 rfl (lv_at hl 1 rfl) ?_
  refine x_put (ws' := tW G a x mi bi la ch ki se wd hu bt) (ty := .int) E hw fw_X3_27 0 rfl rfl rfl (by decide +kernel) rfl rfl (Nat.le_of_ble_eq_true rfl) dX3_layAnew_2 rfl (fun H locs hw => ?_)
  refine lv_aload_n hx hb dX3_layAnew_5 rfl (lv_at hl 0 rfl) ?_
  refine lv_iconst (v := 0) hx hb dX3_layAnew_6 rfl ?_
  refine x_put (ws' := tW G a x 0 bi la ch ki se wd hu bt) (ty := .int) E hw fw_X3_31 0 rfl rfl rfl (by decide +kernel) rfl rfl (Nat.le_of_ble_eq_true rfl) dX3_layAnew_7 rfl (fun H locs hw => ?_)
  refine lv_aload_n hx hb dX3_layAnew_10 rfl (lv_at hl 0 rfl) ?_
  refine lv_iconst (v := 0) hx hb dX3_layAnew_11 rfl ?_
  refine x_put (ws' := tW G a x 0 0 la ch ki se wd hu bt) (ty := .int) E hw fw_X3_34 0 rfl rfl rfl (by decide +kernel) rfl rfl (Nat.le_of_ble_eq_true rfl) dX3_layAnew_12 rfl (fun H locs hw => ?_)
  refine lv_aload_n hx hb dX3_layAnew_15 rfl (lv_at hl 0 rfl) ?_
  refine lv_iconst (v := 0) hx hb dX3_layAnew_16 rfl ?_
  refine x_put (ws' := tW G a x 0 0 0 ch ki se wd hu bt) (ty := .int) E hw fw_X3_37 0 rfl rfl rfl (by decide +kernel) rfl rfl (Nat.le_of_ble_eq_true rfl) dX3_layAnew_17 rfl (fun H locs hw => ?_)
  refine lv_aload_n hx hb dX3_layAnew_20 rfl (lv_at hl 0 rfl) ?_
  refine lv_iconst (v := 0) hx hb dX3_layAnew_21 rfl ?_
  refine x_put (ws' := tW G a x 0 0 0 0 ki se wd hu bt) (ty := .int) E hw fw_X3_40 0 rfl rfl rfl (by decide +kernel) rfl rfl (Nat.le_of_ble_eq_true rfl) dX3_layAnew_22 rfl (fun H locs hw => ?_)
  exact x_vret E hA rt hw dX3_layAnew_25 rfl
set_option maxHeartbeats 1000000 in
set_option maxRecDepth 100000 in
theorem c_X3_copyFrom (l : Launch) (G : GG) (a : Nat → Nat) (b : Nat → Nat) (wo : Int32) (mi : Int32) (bi : Int32) (la : Int32) (ch : Int32) (ki : Nat → Int32) (se : Nat → Int32) (wd : Nat → Int32) (hu : Nat → Int32) (bt : Nat → Int32) (wo1 : Int32) (mi1 : Int32) (bi1 : Int32) (la1 : Int32) (ch1 : Int32) (ki1 : Nat → Int32) (se1 : Nat → Int32) (wd1 : Nat → Int32) (hu1 : Nat → Int32) (bt1 : Nat → Int32) : CT l G yX3_copyFrom cX3_copyFrom 2 none 1 18 [.ref (a 0), .ref (b 0)] ((tW G a wo mi bi la ch ki se wd hu bt) ++ (tW G b wo1 mi1 bi1 la1 ch1 ki1 se1 wd1 hu1 bt1)) none ((tW G a wo1 mi1 bi1 la1 ch1 ki1 se1 wd1 hu1 bt1) ++ (tW G b wo1 mi1 bi1 la1 ch1 ki1 se1 wd1 hu1 bt1)) := by
  refine CT.mk (own := RX3) (la := [(0, .ref (a 0)), (1, .ref (b 0))]) (by decide) rfl (Nat.le_of_ble_eq_true rfl) rfl ?_
  intro p e s m args below meth c A Q E hA hw rt ls hl
  have hx := E.1
  have hb := E.2.1
  refine lv_aload_n hx hb dX3_copyFrom_0 rfl (lv_at hl 0 rfl) ?_
  refine lv_aload_n hx hb dX3_copyFrom_1 rfl (lv_at hl 1 rfl) ?_
  refine x_get E hw fw_X3_27 6 rfl rfl dX3_copyFrom_2 ?_
  refine x_put (ws' := (tW G a wo1 mi bi la ch ki se wd hu bt) ++ (tW G b wo1 mi1 bi1 la1 ch1 ki1 se1 wd1 hu1 bt1)) (ty := .int) E hw fw_X3_27 0 rfl rfl rfl (by decide +kernel) rfl rfl (Nat.le_of_ble_eq_true rfl) dX3_copyFrom_5 rfl (fun H locs hw => ?_)
  refine lv_aload_n hx hb dX3_copyFrom_8 rfl (lv_at hl 0 rfl) ?_
  refine lv_aload_n hx hb dX3_copyFrom_9 rfl (lv_at hl 1 rfl) ?_
  refine x_get E hw fw_X3_31 6 rfl rfl dX3_copyFrom_10 ?_
  refine x_put (ws' := (tW G a wo1 mi1 bi la ch ki se wd hu bt) ++ (tW G b wo1 mi1 bi1 la1 ch1 ki1 se1 wd1 hu1 bt1)) (ty := .int) E hw fw_X3_31 0 rfl rfl rfl (by decide +kernel) rfl rfl (Nat.le_of_ble_eq_true rfl) dX3_copyFrom_13 rfl (fun H locs hw => ?_)
  refine lv_aload_n hx hb dX3_copyFrom_16 rfl (lv_at hl 0 rfl) ?_
  refine lv_aload_n hx hb dX3_copyFrom_17 rfl (lv_at hl 1 rfl) ?_
  refine x_get E hw fw_X3_34 6 rfl rfl dX3_copyFrom_18 ?_
  refine x_put (ws' := (tW G a wo1 mi1 bi1 la ch ki se wd hu bt) ++ (tW G b wo1 mi1 bi1 la1 ch1 ki1 se1 wd1 hu1 bt1)) (ty := .int) E hw fw_X3_34 0 rfl rfl rfl (by decide +kernel) rfl rfl (Nat.le_of_ble_eq_true rfl) dX3_copyFrom_21 rfl (fun H locs hw => ?_)
  refine lv_aload_n hx hb dX3_copyFrom_24 rfl (lv_at hl 0 rfl) ?_
  refine lv_aload_n hx hb dX3_copyFrom_25 rfl (lv_at hl 1 rfl) ?_
  refine x_get E hw fw_X3_37 6 rfl rfl dX3_copyFrom_26 ?_
  refine x_put (ws' := (tW G a wo1 mi1 bi1 la1 ch ki se wd hu bt) ++ (tW G b wo1 mi1 bi1 la1 ch1 ki1 se1 wd1 hu1 bt1)) (ty := .int) E hw fw_X3_37 0 rfl rfl rfl (by decide +kernel) rfl rfl (Nat.le_of_ble_eq_true rfl) dX3_copyFrom_29 rfl (fun H locs hw => ?_)
  refine lv_aload_n hx hb dX3_copyFrom_32 rfl (lv_at hl 0 rfl) ?_
  refine lv_aload_n hx hb dX3_copyFrom_33 rfl (lv_at hl 1 rfl) ?_
  refine x_get E hw fw_X3_40 6 rfl rfl dX3_copyFrom_34 ?_
  refine x_put (ws' := (tW G a wo1 mi1 bi1 la1 ch1 ki se wd hu bt) ++ (tW G b wo1 mi1 bi1 la1 ch1 ki1 se1 wd1 hu1 bt1)) (ty := .int) E hw fw_X3_40 0 rfl rfl rfl (by decide +kernel) rfl rfl (Nat.le_of_ble_eq_true rfl) dX3_copyFrom_37 rfl (fun H locs hw => ?_)
  refine lv_aload_n hx hb dX3_copyFrom_40 rfl (lv_at hl 1 rfl) ?_
  refine x_get E hw fw_X3_9 6 rfl rfl dX3_copyFrom_41 ?_
  refine lv_iconst (v := 0) hx hb dX3_copyFrom_44 rfl ?_
  refine lv_aload_n hx hb dX3_copyFrom_45 rfl (lv_at hl 0 rfl) ?_
  refine x_get E hw fw_X3_9 0 rfl rfl dX3_copyFrom_46 ?_
  refine lv_iconst (v := 0) hx hb dX3_copyFrom_49 rfl ?_
  refine lv_bipush (v := 6) hx hb dX3_copyFrom_50 rfl ?_
  refine x_copyi (ws' := (tW G a wo1 mi1 bi1 la1 ch1 ki1 se wd hu bt) ++ (tW G b wo1 mi1 bi1 la1 ch1 ki1 se1 wd1 hu1 bt1)) E hw lw_X3_43 kw_acopy hl.1 7 1 rfl rfl rfl rfl rfl (by omega) (Nat.le_of_ble_eq_true rfl) (Nat.le_of_ble_eq_true rfl) dX3_copyFrom_52 rfl (fun H locs hw => ?_)
  refine lv_aload_n hx hb dX3_copyFrom_55 rfl (lv_at hl 1 rfl) ?_
  refine x_get E hw fw_X3_15 6 rfl rfl dX3_copyFrom_56 ?_
  refine lv_iconst (v := 0) hx hb dX3_copyFrom_59 rfl ?_
  refine lv_aload_n hx hb dX3_copyFrom_60 rfl (lv_at hl 0 rfl) ?_
  refine x_get E hw fw_X3_15 0 rfl rfl dX3_copyFrom_61 ?_
  refine lv_iconst (v := 0) hx hb dX3_copyFrom_64 rfl ?_
  refine lv_bipush (v := 6) hx hb dX3_copyFrom_65 rfl ?_
  refine x_copyi (ws' := (tW G a wo1 mi1 bi1 la1 ch1 ki1 se1 wd hu bt) ++ (tW G b wo1 mi1 bi1 la1 ch1 ki1 se1 wd1 hu1 bt1)) E hw lw_X3_43 kw_acopy hl.1 8 2 rfl rfl rfl rfl rfl (by omega) (Nat.le_of_ble_eq_true rfl) (Nat.le_of_ble_eq_true rfl) dX3_copyFrom_67 rfl (fun H locs hw => ?_)
  refine lv_aload_n hx hb dX3_copyFrom_70 rfl (lv_at hl 1 rfl) ?_
  refine x_get E hw fw_X3_18 6 rfl rfl dX3_copyFrom_71 ?_
  refine lv_iconst (v := 0) hx hb dX3_copyFrom_74 rfl ?_
  refine lv_aload_n hx hb dX3_copyFrom_75 rfl (lv_at hl 0 rfl) ?_
  refine x_get E hw fw_X3_18 0 rfl rfl dX3_copyFrom_76 ?_
  refine lv_iconst (v := 0) hx hb dX3_copyFrom_79 rfl ?_
  refine lv_bipush (v := 6) hx hb dX3_copyFrom_80 rfl ?_
  refine x_copyi (ws' := (tW G a wo1 mi1 bi1 la1 ch1 ki1 se1 wd1 hu bt) ++ (tW G b wo1 mi1 bi1 la1 ch1 ki1 se1 wd1 hu1 bt1)) E hw lw_X3_43 kw_acopy hl.1 9 3 rfl rfl rfl rfl rfl (by omega) (Nat.le_of_ble_eq_true rfl) (Nat.le_of_ble_eq_true rfl) dX3_copyFrom_82 rfl (fun H locs hw => ?_)
  refine lv_aload_n hx hb dX3_copyFrom_85 rfl (lv_at hl 1 rfl) ?_
  refine x_get E hw fw_X3_21 6 rfl rfl dX3_copyFrom_86 ?_
  refine lv_iconst (v := 0) hx hb dX3_copyFrom_89 rfl ?_
  refine lv_aload_n hx hb dX3_copyFrom_90 rfl (lv_at hl 0 rfl) ?_
  refine x_get E hw fw_X3_21 0 rfl rfl dX3_copyFrom_91 ?_
  refine lv_iconst (v := 0) hx hb dX3_copyFrom_94 rfl ?_
  refine lv_bipush (v := 6) hx hb dX3_copyFrom_95 rfl ?_
  refine x_copyi (ws' := (tW G a wo1 mi1 bi1 la1 ch1 ki1 se1 wd1 hu1 bt) ++ (tW G b wo1 mi1 bi1 la1 ch1 ki1 se1 wd1 hu1 bt1)) E hw lw_X3_43 kw_acopy hl.1 10 4 rfl rfl rfl rfl rfl (by omega) (Nat.le_of_ble_eq_true rfl) (Nat.le_of_ble_eq_true rfl) dX3_copyFrom_97 rfl (fun H locs hw => ?_)
  refine lv_aload_n hx hb dX3_copyFrom_100 rfl (lv_at hl 1 rfl) ?_
  refine x_get E hw fw_X3_24 6 rfl rfl dX3_copyFrom_101 ?_
  refine lv_iconst (v := 0) hx hb dX3_copyFrom_104 rfl ?_
  refine lv_aload_n hx hb dX3_copyFrom_105 rfl (lv_at hl 0 rfl) ?_
  refine x_get E hw fw_X3_24 0 rfl rfl dX3_copyFrom_106 ?_
  refine lv_iconst (v := 0) hx hb dX3_copyFrom_109 rfl ?_
  refine lv_bipush (v := 6) hx hb dX3_copyFrom_110 rfl ?_
  refine x_copyi (ws' := (tW G a wo1 mi1 bi1 la1 ch1 ki1 se1 wd1 hu1 bt1) ++ (tW G b wo1 mi1 bi1 la1 ch1 ki1 se1 wd1 hu1 bt1)) E hw lw_X3_43 kw_acopy hl.1 11 5 rfl rfl rfl rfl rfl (by omega) (Nat.le_of_ble_eq_true rfl) (Nat.le_of_ble_eq_true rfl) dX3_copyFrom_112 rfl (fun H locs hw => ?_)
  exact x_vret E hA rt hw dX3_copyFrom_115 rfl
set_option maxHeartbeats 1000000 in
set_option maxRecDepth 100000 in
theorem c_X3_passMinute (l : Launch) (G : GG) (a : Nat → Nat) (wo : Int32) (mi : Int32) (bi : Int32) (la : Int32) (n : Nat) (ki : Nat → Int32) (se : Nat → Int32) (wd : Nat → Int32) (hu : Nat → Int32) (bt : Nat → Int32) (hn : n ≤ 6) : CT l G yX3_passMinute cX3_passMinute 3 (some .int) 4 87 [.ref (a 0)] (tW G a wo mi bi la (nI n) ki se wd hu bt) (some (.int (bcI (bitr wo la n ki se wd hu bt)))) (tW G a wo (mi + 1) (bi + bcI (bitr wo la n ki se wd hu bt)) (bcI (bitr wo la n ki se wd hu bt)) (nI n) ki se wd (pre (fH (bitr wo la n ki se wd hu bt) hu) hu n) (pre (fB se n (bitr wo la n ki se wd hu bt) bt) bt n)) := by
  refine CT.mk (own := RX3) (la := [(0, .ref (a 0))]) (by decide) rfl (Nat.le_of_ble_eq_true rfl) rfl ?_
  intro p e s m args below meth c A Q E hA hw rt ls hl
  have hx := E.1
  have hb := E.2.1
  refine lv_aload_n hx hb dX3_passMinute_0 rfl (lv_at hl 0 rfl) ?_
  refine x_callV (is := [0, 1, 2, 3, 4, 5]) (q0 := 0) (As := []) (rest := []) (st1 := [.int (bitr wo la n ki se wd hu bt)]) (ws' := tW G a wo mi bi la (nI n) ki se wd hu bt) E (c_X3_biters l G a wo mi bi la n ki se wd hu bt (by omega)) vw_X3_92 hw [0, 1, 2, 3, 4, 5] rfl rfl rfl rfl rfl rfl rfl hl.1 rfl rfl (Nat.le_of_ble_eq_true rfl) ⟨Nat.le_of_ble_eq_true rfl, Nat.le_of_ble_eq_true rfl⟩ (Nat.zero_le _) (Nat.zero_le _) dX3_passMinute_1 rfl rfl (fun H locs hw => ?_)
  refine lv_istore_n (lv' := [(1, .int (bitr wo la n ki se wd hu bt)), (0, .ref (a 0))]) hx hb dX3_passMinute_4 rfl hl (by decide) rfl (fun ls hl => ?_)
  refine lv_iconst (v := 0) hx hb dX3_passMinute_5 rfl ?_
  refine lv_istore_n (lv' := [(2, .int 0), (1, .int (bitr wo la n ki se wd hu bt)), (0, .ref (a 0))]) hx hb dX3_passMinute_6 rfl hl (by decide) rfl (fun ls hl => ?_)
  have lp7 : ∀ (fuel : Nat), ∀ (k : Nat) (hu' : Nat → Int32) (bt' : Nat → Int32) (hk : k ≤ n) (hh : hu' = pre (fH (bitr wo la n ki se wd hu bt) hu) hu k) (hbt : bt' = pre (fB se n (bitr wo la n ki se wd hu bt) bt) bt k), (n - k) < fuel → ∀ (H : Heap) (locs : List Loc) (ls : Array Slot), Wd G A s H locs (tW G a wo mi bi la (nI n) ki se wd hu' bt') → lv_has ls 3 [(0, .ref (a 0)), (1, .int (bitr wo la n ki se wd hu bt)), (2, .int (nI k))] → W p l e (rmx 4 87) s m args below meth c H locs 0 0 Q (F0 m 7 ls []) := by
    intro fuel
    induction fuel with
    | zero => intro k hu' bt' hk hh hbt hfu; exact absurd hfu (Nat.not_lt_zero _)
    | succ fuel ih7 =>
      intro k hu' bt' hk hh hbt hfu H locs ls hw hl
      refine lv_iload_n hx hb dX3_passMinute_7 rfl (lv_at hl 2 rfl) ?_
      refine lv_aload_n hx hb dX3_passMinute_8 rfl (lv_at hl 0 rfl) ?_
      refine x_get E hw fw_X3_40 0 rfl rfl dX3_passMinute_9 ?_
      refine lv_icmp_ge (tgt := 83) hx hb dX3_passMinute_12 rfl (fun cq12 => ?_) (fun cq12 => ?_)
      · skip
        have cq12 : n ≤ k := (cv_le (a := n) (b := k) rfl rfl (by omega) (by omega)).mp cq12
        have ek : k = n := by omega
        refine lv_aload_n hx hb dX3_passMinute_83 rfl (lv_at hl 0 rfl) ?_
        refine lv_iload_n hx hb dX3_passMinute_84 rfl (lv_at hl 1 rfl) ?_
        refine x_callS (is := []) (As := [.int (bitr wo la n ki se wd hu bt)]) (rest := [.ref (a 0)]) (st1 := [.int (bcI (bitr wo la n ki se wd hu bt)), .ref (a 0)]) (ws' := tW G a wo mi bi la (nI n) ki se wd hu' bt') E (c_bitCount l G (bitr wo la n ki se wd hu bt)) sw_X3_101 hw [] rfl rfl rfl rfl hl.1 rfl rfl (Nat.le_of_ble_eq_true rfl) ⟨Nat.le_of_ble_eq_true rfl, Nat.le_of_ble_eq_true rfl⟩ (Nat.zero_le _) (Nat.zero_le _) dX3_passMinute_85 rfl rfl (fun H locs hw => ?_)
        refine x_put (ws' := tW G a wo mi bi (bcI (bitr wo la n ki se wd hu bt)) (nI n) ki se wd hu' bt') (ty := .int) E hw fw_X3_37 0 rfl rfl rfl (by decide +kernel) rfl rfl (Nat.le_of_ble_eq_true rfl) dX3_passMinute_88 rfl (fun H locs hw => ?_)
        refine lv_aload_n hx hb dX3_passMinute_91 rfl (lv_at hl 0 rfl) ?_
        refine lv_dup hx hb dX3_passMinute_92 rfl ?_
        refine x_get E hw fw_X3_34 0 rfl rfl dX3_passMinute_93 ?_
        refine lv_aload_n hx hb dX3_passMinute_96 rfl (lv_at hl 0 rfl) ?_
        refine x_get E hw fw_X3_37 0 rfl rfl dX3_passMinute_97 ?_
        refine lv_iadd hx hb dX3_passMinute_100 ?_
        refine x_put (ws' := tW G a wo mi (bi + (bcI (bitr wo la n ki se wd hu bt))) (bcI (bitr wo la n ki se wd hu bt)) (nI n) ki se wd hu' bt') (ty := .int) E hw fw_X3_34 0 rfl rfl rfl (by decide +kernel) rfl rfl (Nat.le_of_ble_eq_true rfl) dX3_passMinute_101 rfl (fun H locs hw => ?_)
        refine lv_aload_n hx hb dX3_passMinute_104 rfl (lv_at hl 0 rfl) ?_
        refine lv_dup hx hb dX3_passMinute_105 rfl ?_
        refine x_get E hw fw_X3_31 0 rfl rfl dX3_passMinute_106 ?_
        refine lv_iconst (v := 1) hx hb dX3_passMinute_109 rfl ?_
        refine lv_iadd hx hb dX3_passMinute_110 ?_
        refine x_put (ws' := tW G a wo (mi + 1) (bi + (bcI (bitr wo la n ki se wd hu bt))) (bcI (bitr wo la n ki se wd hu bt)) (nI n) ki se wd hu' bt') (ty := .int) E hw fw_X3_31 0 rfl rfl rfl (by decide +kernel) rfl rfl (Nat.le_of_ble_eq_true rfl) dX3_passMinute_111 rfl (fun H locs hw => ?_)
        refine lv_aload_n hx hb dX3_passMinute_114 rfl (lv_at hl 0 rfl) ?_
        refine x_get E hw fw_X3_37 0 rfl rfl dX3_passMinute_115 ?_
        exact x_iret E hA rt hw dX3_passMinute_118 (rfl) (by rw [hh, hbt, ek])
      · skip
        have cq12 : ¬ n ≤ k := fun h => cq12 ((cv_le (a := n) (b := k) rfl rfl (by omega) (by omega)).mpr h)
        refine lv_aload_n hx hb dX3_passMinute_15 rfl (lv_at hl 0 rfl) ?_
        refine x_get E hw fw_X3_24 0 rfl rfl dX3_passMinute_16 ?_
        refine lv_iload_n hx hb dX3_passMinute_19 rfl (lv_at hl 2 rfl) ?_
        refine lv_dup2_11 hx hb dX3_passMinute_20 rfl rfl ?_
        refine x_iald E hw 5 rfl k (rfl) (by omega) (by omega) dX3_passMinute_21 ?_
        refine lv_aload_n hx hb dX3_passMinute_22 rfl (lv_at hl 0 rfl) ?_
        refine lv_iload_n hx hb dX3_passMinute_23 rfl (lv_at hl 2 rfl) ?_
        refine lv_iload_n hx hb dX3_passMinute_24 rfl (lv_at hl 1 rfl) ?_
        refine x_callV (is := [0, 1, 2, 3, 4, 5]) (q0 := 0) (As := [.int (nI k), .int (bitr wo la n ki se wd hu bt)]) (rest := [.int (bt' k), .int (nI k), .ref (a 5)]) (st1 := [.int (tmS se n (bitr wo la n ki se wd hu bt) (nI k) n), .int (bt' k), .int (nI k), .ref (a 5)]) (ws' := tW G a wo mi bi la (nI n) ki se wd hu' bt') E (c_X3_timesBitten l G a (nI k) (bitr wo la n ki se wd hu bt) wo mi bi la n ki se wd hu' bt' (by omega)) vw_X3_95 hw [0, 1, 2, 3, 4, 5] rfl rfl rfl rfl rfl rfl rfl hl.1 rfl rfl (Nat.le_of_ble_eq_true rfl) ⟨Nat.le_of_ble_eq_true rfl, Nat.le_of_ble_eq_true rfl⟩ (Nat.zero_le _) (Nat.zero_le _) dX3_passMinute_25 rfl rfl (fun H locs hw => ?_)
        refine lv_iadd hx hb dX3_passMinute_28 ?_
        refine x_iast (ws' := tW G a wo mi bi la (nI n) ki se wd hu' (upd bt' k ((bt' k) + (tmS se n (bitr wo la n ki se wd hu bt) (nI k) n)))) E hw 5 rfl k (rfl) (by omega) (by omega) dX3_passMinute_29 rfl (fun H locs hw => ?_)
        refine lv_iload_n hx hb dX3_passMinute_30 rfl (lv_at hl 1 rfl) ?_
        refine lv_iload_n hx hb dX3_passMinute_31 rfl (lv_at hl 2 rfl) ?_
        refine lv_ishr hx hb dX3_passMinute_32 ?_
        refine lv_iconst (v := 1) hx hb dX3_passMinute_33 rfl ?_
        refine lv_iand hx hb dX3_passMinute_34 ?_
        refine lv_iconst (v := 1) hx hb dX3_passMinute_35 rfl ?_
        refine lv_icmp_ne (tgt := 58) hx hb dX3_passMinute_36 rfl (fun cq36 => ?_) (fun cq36 => ?_)
        · skip
          refine lv_aload_n hx hb dX3_passMinute_58 rfl (lv_at hl 0 rfl) ?_
          refine x_get E hw fw_X3_21 0 rfl rfl dX3_passMinute_59 ?_
          refine lv_iload_n hx hb dX3_passMinute_62 rfl (lv_at hl 2 rfl) ?_
          refine lv_bipush (v := 30) hx hb dX3_passMinute_63 rfl ?_
          refine lv_aload_n hx hb dX3_passMinute_65 rfl (lv_at hl 0 rfl) ?_
          refine x_get E hw fw_X3_21 0 rfl rfl dX3_passMinute_66 ?_
          refine lv_iload_n hx hb dX3_passMinute_69 rfl (lv_at hl 2 rfl) ?_
          refine x_iald E hw 4 rfl k (rfl) (by omega) (by omega) dX3_passMinute_70 ?_
          refine lv_iconst (v := 1) hx hb dX3_passMinute_71 rfl ?_
          refine lv_iadd hx hb dX3_passMinute_72 ?_
          refine x_mmin (v := (if ((hu' k) + 1) < 30 then ((hu' k) + 1) else 30)) E lw_X3_98 kw_math_min hl.1 (Nat.le_of_ble_eq_true rfl) (Nat.le_of_ble_eq_true rfl) (Nat.zero_le _) (Nat.zero_le _) dX3_passMinute_73 rfl ?_
          refine x_iast (ws' := tW G a wo mi bi la (nI n) ki se wd (upd hu' k (if ((hu' k) + 1) < 30 then ((hu' k) + 1) else 30)) (upd bt' k ((bt' k) + (tmS se n (bitr wo la n ki se wd hu bt) (nI k) n)))) E hw 4 rfl k (rfl) (by omega) (by omega) dX3_passMinute_76 rfl (fun H locs hw => ?_)
          refine lv_iinc (v := nI (k + 1)) (lv' := [(2, .int (nI (k + 1))), (0, .ref (a 0)), (1, .int (bitr wo la n ki se wd hu bt))]) hx hb dX3_passMinute_77 hl (k := 2) rfl (nI_add _ 1) (by decide) rfl (fun ls hl => ?_)
          refine lv_goto (tgt := 7) hx hb dX3_passMinute_80 rfl ?_
          exact ih7 (k + 1) (upd hu' k (if ((hu' k) + 1) < 30 then ((hu' k) + 1) else 30)) (upd bt' k ((bt' k) + (tmS se n (bitr wo la n ki se wd hu bt) (nI k) n))) (by omega) (fH_s2 hh (by simp [hasB, cq36])) (fB_s hbt) (by omega) _ _ _ hw (lv_sub hl [1, 2, 0] rfl)
        · skip
          refine lv_aload_n hx hb dX3_passMinute_39 rfl (lv_at hl 0 rfl) ?_
          refine x_get E hw fw_X3_21 0 rfl rfl dX3_passMinute_40 ?_
          refine lv_iload_n hx hb dX3_passMinute_43 rfl (lv_at hl 2 rfl) ?_
          refine lv_iconst (v := 0) hx hb dX3_passMinute_44 rfl ?_
          refine lv_aload_n hx hb dX3_passMinute_45 rfl (lv_at hl 0 rfl) ?_
          refine x_get E hw fw_X3_21 0 rfl rfl dX3_passMinute_46 ?_
          refine lv_iload_n hx hb dX3_passMinute_49 rfl (lv_at hl 2 rfl) ?_
          refine x_iald E hw 4 rfl k (rfl) (by omega) (by omega) dX3_passMinute_50 ?_
          refine lv_bipush (v := 8) hx hb dX3_passMinute_51 rfl ?_
          refine lv_isub hx hb dX3_passMinute_53 ?_
          refine x_mmax E lw_X3_84 kw_math_max hl.1 (Nat.le_of_ble_eq_true rfl) (Nat.le_of_ble_eq_true rfl) (Nat.zero_le _) (Nat.zero_le _) dX3_passMinute_54 ?_
          refine x_iast (ws' := tW G a wo mi bi la (nI n) ki se wd (upd hu' k (if 0 < ((hu' k) - 8) then ((hu' k) - 8) else 0)) (upd bt' k ((bt' k) + (tmS se n (bitr wo la n ki se wd hu bt) (nI k) n)))) E hw 4 rfl k (rfl) (by omega) (by omega) dX3_passMinute_57 rfl (fun H locs hw => ?_)
          refine lv_aload_n hx hb dX3_passMinute_58 rfl (lv_at hl 0 rfl) ?_
          refine x_get E hw fw_X3_21 0 rfl rfl dX3_passMinute_59 ?_
          refine lv_iload_n hx hb dX3_passMinute_62 rfl (lv_at hl 2 rfl) ?_
          refine lv_bipush (v := 30) hx hb dX3_passMinute_63 rfl ?_
          refine lv_aload_n hx hb dX3_passMinute_65 rfl (lv_at hl 0 rfl) ?_
          refine x_get E hw fw_X3_21 0 rfl rfl dX3_passMinute_66 ?_
          refine lv_iload_n hx hb dX3_passMinute_69 rfl (lv_at hl 2 rfl) ?_
          refine x_iald E hw 4 rfl k (rfl) (by omega) (by omega) dX3_passMinute_70 ?_
          refine lv_iconst (v := 1) hx hb dX3_passMinute_71 rfl ?_
          refine lv_iadd hx hb dX3_passMinute_72 ?_
          refine x_mmin (v := (if (((upd hu' k (if 0 < ((hu' k) - 8) then ((hu' k) - 8) else 0)) k) + 1) < 30 then (((upd hu' k (if 0 < ((hu' k) - 8) then ((hu' k) - 8) else 0)) k) + 1) else 30)) E lw_X3_98 kw_math_min hl.1 (Nat.le_of_ble_eq_true rfl) (Nat.le_of_ble_eq_true rfl) (Nat.zero_le _) (Nat.zero_le _) dX3_passMinute_73 rfl ?_
          refine x_iast (ws' := tW G a wo mi bi la (nI n) ki se wd (upd (upd hu' k (if 0 < ((hu' k) - 8) then ((hu' k) - 8) else 0)) k (if (((upd hu' k (if 0 < ((hu' k) - 8) then ((hu' k) - 8) else 0)) k) + 1) < 30 then (((upd hu' k (if 0 < ((hu' k) - 8) then ((hu' k) - 8) else 0)) k) + 1) else 30)) (upd bt' k ((bt' k) + (tmS se n (bitr wo la n ki se wd hu bt) (nI k) n)))) E hw 4 rfl k (rfl) (by omega) (by omega) dX3_passMinute_76 rfl (fun H locs hw => ?_)
          refine lv_iinc (v := nI (k + 1)) (lv' := [(2, .int (nI (k + 1))), (0, .ref (a 0)), (1, .int (bitr wo la n ki se wd hu bt))]) hx hb dX3_passMinute_77 hl (k := 2) rfl (nI_add _ 1) (by decide) rfl (fun ls hl => ?_)
          refine lv_goto (tgt := 7) hx hb dX3_passMinute_80 rfl ?_
          exact ih7 (k + 1) (upd (upd hu' k (if 0 < ((hu' k) - 8) then ((hu' k) - 8) else 0)) k (if (((upd hu' k (if 0 < ((hu' k) - 8) then ((hu' k) - 8) else 0)) k) + 1) < 30 then (((upd hu' k (if 0 < ((hu' k) - 8) then ((hu' k) - 8) else 0)) k) + 1) else 30)) (upd bt' k ((bt' k) + (tmS se n (bitr wo la n ki se wd hu bt) (nI k) n))) (by omega) (fH_s1 hh (by simp [hasB, cq36])) (fB_s hbt) (by omega) _ _ _ hw (lv_sub hl [1, 2, 0] rfl)
  exact lp7 (n - 0 + 1) 0 hu bt (by omega) ((pre_0 _ _).symm) ((pre_0 _ _).symm) (by omega) _ _ _ hw (lv_sub hl [2, 1, 0] rfl)
set_option maxHeartbeats 1000000 in
set_option maxRecDepth 100000 in
theorem c_X3_passMinutes (l : Launch) (G : GG) (a : Nat → Nat) (x : Int32) (mm : Nat) (hv_x : x = nI mm) (wo : Int32) (mi : Int32) (bi : Int32) (la : Int32) (n : Nat) (ki : Nat → Int32) (se : Nat → Int32) (wd : Nat → Int32) (hu : Nat → Int32) (bt : Nat → Int32) (hn : n ≤ 6) (hmm : mm < 2147483648) : CT l G yX3_passMinutes cX3_passMinutes 4 (some .int) 5 109 [.ref (a 0), .int x] (tW G a wo mi bi la (nI n) ki se wd hu bt) (some (.int ((pmN wo n ki se wd mm (mi, bi, la, hu, bt)).2.1 - bi))) (tW G a wo ((pmN wo n ki se wd mm (mi, bi, la, hu, bt)).1) ((pmN wo n ki se wd mm (mi, bi, la, hu, bt)).2.1) ((pmN wo n ki se wd mm (mi, bi, la, hu, bt)).2.2.1) (nI n) ki se wd ((pmN wo n ki se wd mm (mi, bi, la, hu, bt)).2.2.2.1) ((pmN wo n ki se wd mm (mi, bi, la, hu, bt)).2.2.2.2)) := by
  refine CT.mk (own := RX3) (la := [(0, .ref (a 0)), (1, .int x)]) (by decide) rfl (Nat.le_of_ble_eq_true rfl) rfl ?_
  intro p e s m args below meth c A Q E hA hw rt ls hl
  have hx := E.1
  have hb := E.2.1
  refine lv_iconst (v := 0) hx hb dX3_passMinutes_0 rfl ?_
  refine lv_istore_n (lv' := [(2, .int 0), (0, .ref (a 0)), (1, .int x)]) hx hb dX3_passMinutes_1 rfl hl (by decide) rfl (fun ls hl => ?_)
  refine lv_iconst (v := 0) hx hb dX3_passMinutes_2 rfl ?_
  refine lv_istore_n (lv' := [(3, .int 0), (2, .int 0), (0, .ref (a 0)), (1, .int x)]) hx hb dX3_passMinutes_3 rfl hl (by decide) rfl (fun ls hl => ?_)
  have lp4 : ∀ (fuel : Nat), ∀ (k : Nat) (acc : Int32) (mi' : Int32) (bi' : Int32) (la' : Int32) (hu' : Nat → Int32) (bt' : Nat → Int32) (hk : k ≤ mm) (hiv : acc = bi' - bi) (hdv : (mi', bi', la', hu', bt') = pmN wo n ki se wd k (mi, bi, la, hu, bt)), (mm - k) < fuel → ∀ (H : Heap) (locs : List Loc) (ls : Array Slot), Wd G A s H locs (tW G a wo mi' bi' la' (nI n) ki se wd hu' bt') → lv_has ls 4 [(0, .ref (a 0)), (1, .int x), (2, .int acc), (3, .int (nI k))] → W p l e (rmx 5 109) s m args below meth c H locs 0 0 Q (F0 m 4 ls []) := by
    intro fuel
    induction fuel with
    | zero => intro k acc mi' bi' la' hu' bt' hk hiv hdv hfu; exact absurd hfu (Nat.not_lt_zero _)
    | succ fuel ih4 =>
      intro k acc mi' bi' la' hu' bt' hk hiv hdv hfu H locs ls hw hl
      refine lv_iload_n hx hb dX3_passMinutes_4 rfl (lv_at hl 3 rfl) ?_
      refine lv_iload_n hx hb dX3_passMinutes_5 rfl (lv_at hl 1 rfl) ?_
      refine lv_icmp_ge (tgt := 22) hx hb dX3_passMinutes_6 rfl (fun cq6 => ?_) (fun cq6 => ?_)
      · skip
        have cq6 : mm ≤ k := (cv_le (a := mm) (b := k) hv_x rfl (by omega) (by omega)).mp cq6
        have ek : k = mm := by omega
        rw [ek] at hdv
        refine lv_iload_n hx hb dX3_passMinutes_22 rfl (lv_at hl 2 rfl) ?_
        exact x_iret E hA rt hw dX3_passMinutes_23 (by rw [hiv, ← hdv]) (by rw [← hdv])
      · skip
        have cq6 : ¬ mm ≤ k := fun h => cq6 ((cv_le (a := mm) (b := k) hv_x rfl (by omega) (by omega)).mpr h)
        refine lv_iload_n hx hb dX3_passMinutes_9 rfl (lv_at hl 2 rfl) ?_
        refine lv_aload_n hx hb dX3_passMinutes_10 rfl (lv_at hl 0 rfl) ?_
        refine x_callV (is := [0, 1, 2, 3, 4, 5]) (q0 := 0) (As := []) (rest := [.int acc]) (st1 := [.int (bcI (bitr wo la' n ki se wd hu' bt')), .int acc]) (ws' := tW G a wo (mi' + 1) (bi' + bcI (bitr wo la' n ki se wd hu' bt')) (bcI (bitr wo la' n ki se wd hu' bt')) (nI n) ki se wd (pre (fH (bitr wo la' n ki se wd hu' bt') hu') hu' n) (pre (fB se n (bitr wo la' n ki se wd hu' bt') bt') bt' n)) E (c_X3_passMinute l G a wo mi' bi' la' n ki se wd hu' bt' (by omega)) vw_X3_89 hw [0, 1, 2, 3, 4, 5] rfl rfl rfl rfl rfl rfl rfl hl.1 rfl rfl (Nat.le_of_ble_eq_true rfl) ⟨Nat.le_of_ble_eq_true rfl, Nat.le_of_ble_eq_true rfl⟩ (Nat.zero_le _) (Nat.zero_le _) dX3_passMinutes_11 rfl rfl (fun H locs hw => ?_)
        refine lv_iadd hx hb dX3_passMinutes_14 ?_
        refine lv_istore_n (lv' := [(2, .int (acc + (bcI (bitr wo la' n ki se wd hu' bt')))), (0, .ref (a 0)), (1, .int x), (3, .int (nI k))]) hx hb dX3_passMinutes_15 rfl hl (by decide) rfl (fun ls hl => ?_)
        refine lv_iinc (v := nI (k + 1)) (lv' := [(3, .int (nI (k + 1))), (2, .int (acc + (bcI (bitr wo la' n ki se wd hu' bt')))), (0, .ref (a 0)), (1, .int x)]) hx hb dX3_passMinutes_16 hl (k := 3) rfl (nI_add _ 1) (by decide) rfl (fun ls hl => ?_)
        refine lv_goto (tgt := 4) hx hb dX3_passMinutes_19 rfl ?_
        exact ih4 (k + 1) (acc + (bcI (bitr wo la' n ki se wd hu' bt'))) (mi' + 1) (bi' + bcI (bitr wo la' n ki se wd hu' bt')) (bcI (bitr wo la' n ki se wd hu' bt')) (pre (fH (bitr wo la' n ki se wd hu' bt') hu') hu' n) (pre (fB se n (bitr wo la' n ki se wd hu' bt') bt') bt' n) (by omega) (by rw [hiv]; grind) (by rw [pmN, ← hdv]; rfl) (by omega) _ _ _ hw (lv_sub hl [2, 3, 1, 0] rfl)
  exact lp4 (mm - 0 + 1) 0 0 mi bi la hu bt (by omega) (by grind) (rfl) (by omega) _ _ _ hw (lv_sub hl [2, 3, 1, 0] rfl)
end
section
/-! pure words of the reference -/
theorem ix_0add {y : Int32} {b : Nat} (hy : y = nI b) : 0 + y = nI b := by rw [hy, show (0 : Int32) = nI 0 from rfl, nI_add, Nat.zero_add]
def inL (v a b : Int64) : Bool := !decide (v < a) && !decide (b < v)
def inI (x a b : Int32) : Bool := !decide (x < a) && !decide (b < x)
theorem inL_I (x a b : Int32) {A B : Int64} (hA : a.toInt64 = A) (hB : b.toInt64 = B) : inL x.toInt64 A B = inI x a b := by
  subst hA; subst hB
  simp [inL, inI, Int64.lt_iff_toInt_lt, Int32.lt_iff_toInt_lt, Int32.toInt_toInt64]
def hasI (set x : Int32) : Bool := decide ((set >>> (x &&& 31)) &&& 1 = 1)
def bitsF : Nat → Int32 → Int32 → Int32
  | 0, _, c => c
  | f + 1, x, c => if x = 0 then c else bitsF f (x &&& (x - 1)) (c + 1)
def bitsV (x : Int32) : Int32 := bitsF x.toBitVec.toNat x 0
theorem bitsF_0 (f : Nat) (c : Int32) : bitsF f 0 c = c := by cases f <;> simp [bitsF]
theorem i32_pos {x : Int32} (h : ¬ x = 0) : 0 < x.toBitVec.toNat := by
  refine Nat.pos_of_ne_zero (fun e => h ?_)
  apply Int32.toBitVec_inj.mp
  apply BitVec.eq_of_toNat_eq
  rw [e]; rfl
theorem bits_lt {x : Int32} (h : ¬ x = 0) : (x &&& (x - 1)).toBitVec.toNat < x.toBitVec.toNat := by
  have h0 := i32_pos h
  have h1 : (x &&& (x - 1)).toBitVec.toNat ≤ (x - 1).toBitVec.toNat := by
    rw [Int32.toBitVec_and, BitVec.toNat_and]
    exact Nat.and_le_right
  have h2 : (x - 1).toBitVec.toNat = x.toBitVec.toNat - 1 := by
    rw [Int32.toBitVec_sub, BitVec.toNat_sub]
    have h3 := x.toBitVec.isLt
    have h4 : (1 : Int32).toBitVec.toNat = 1 := rfl
    rw [h4]
    omega
  omega
theorem bitsF_step {f : Nat} {x c : Int32} (h : ¬ x = 0) (hf : x.toBitVec.toNat ≤ f) : bitsF f x c = bitsF (f - 1) (x &&& (x - 1)) (c + 1) := by
  have := i32_pos h
  rw [show f = (f - 1) + 1 by omega, bitsF, if_neg h]
  simp
theorem cpy_0 {α : Type} (f g : Nat → α) (i j : Nat) : va_cpy f g i j 0 = g := by
  funext k
  rw [pk_cpy_out]
  omega
theorem cpy_step (f g : Nat → Int32) (i j k : Nat) : upd (va_cpy f g i j k) (j + k) (f (i + k)) = va_cpy f g i j (k + 1) := by
  funext q
  simp only [upd, va_cpy]
  by_cases hq : q = j + k
  · subst hq
    rw [if_pos rfl, if_pos (by omega)]
    congr 1
    omega
  · rw [if_neg hq]
    by_cases h1 : j ≤ q ∧ q < j + k
    · rw [if_pos h1, if_pos (by omega)]
    · rw [if_neg h1, if_neg (by omega)]
theorem cpy_stepS (f : Nat → Int32) (i j m k : Nat) (hk : k < m) (hd : i + m ≤ j ∨ j + m ≤ i) : upd (va_cpy f f i j k) (j + k) (va_cpy f f i j k (i + k)) = va_cpy f f i j (k + 1) := by
  rw [pk_cpy_out (by omega), cpy_step]
def bg0 (j : Nat) : Int32 := if j < 6 then -1 else 0
def ah7 (w : Int32) : Int32 := (w + 7) - (w + 7) / 8 * 8
def lsr (v y : Int32) : Int32 := if v ≤ y then 0 else v - y
def nmP (h t w : Int32) : Int32 := if 0 ≤ (h + 3 * t) - w / 2 then (h + 3 * t) - w / 2 else 0
def nm (k h t w b l : Int32) : Int32 :=
  if k = 1 then nmP h t w + 4 else if k = 2 then lsr (nmP h t w) (w / 2) else if k = 3 then nmP h t w + 3 * l else if k = 4 then (nmP h t w + 3 * l) + 2 * b else if k = 5 then lsr (nmP h t w) (w / 2) / 2 else nmP h t w
def tgM (t : Nat → Int32) (n : Nat) (w : Int32) : Int32 := (if fi t (nxS w) n 0 = -1 then 0 else 1) + (if fi t (ah7 w) n 0 = -1 then 0 else 1)
def whM (t : Nat → Int32) (n : Nat) (w : Int32) : Int32 := if fi t (nxS w) n 0 = -1 then fi t (ah7 w) n 0 else fi t (nxS w) n 0
def farM (wo w : Int32) : Int32 := ((w + 8) - wo) - ((w + 8) - wo) / 8 * 8
def gdM (wo w : Int32) : Bool := decide (farM wo w = 0) || (decide (farM wo w = 1) || decide (farM wo w = 7))
def nmOf (t : Nat → Int32) (n k : Nat) : Int32 := nm (t (23 + k)) (t (6 + k)) (tgM t n (t k)) (t (29 + k)) (t (12 + k)) (t 19)
def bitesM (t : Nat → Int32) (n k : Nat) : Bool := !decide (nmOf t n k ≤ 11) && (!gdM (t 20) (t k) && !decide (whM t n (t k) = -1))
def btM (f : Nat → Bool) : Nat → Int32
  | 0 => 0
  | k + 1 => btM f k ||| (if f k then (1 : Int32) <<< (nI k &&& 31) else 0)
def bitrM (t : Nat → Int32) (n : Nat) : Int32 := btM (bitesM t n) n
/-- one child's part of a minute -/
def gS (set : Int32) (j : Nat → Nat) (u : Nat → Int32) (k : Nat) : Nat → Int32 :=
  let u1 := if hasI set (nI k) then upd (upd u (12 + j k) (u (12 + j k) + 1)) (6 + k) (lsr ((upd u (12 + j k) (u (12 + j k) + 1)) (6 + k)) 8) else u
  upd u1 (6 + k) (u1 (6 + k) + (if 30 ≤ u1 (6 + k) then 0 else 1))
def gM (set : Int32) (j : Nat → Nat) (t : Nat → Int32) : Nat → Nat → Int32
  | 0 => t
  | k + 1 => gS set j (gM set j t k) k
def gE1 (u : Nat → Int32) (b : Int32) : Nat → Int32 := upd u 19 b
def gE2 (u : Nat → Int32) : Nat → Int32 := upd u 18 (u 18 + u 19)
def gE3 (u : Nat → Int32) : Nat → Int32 := upd u 21 (u 21 + 1)
def whJ (t : Nat → Int32) (n k : Nat) : Nat := (whM t n (t k)).toNatClampNeg
def goM (t : Nat → Int32) (n : Nat) : Nat → Int32 := gE3 (gE2 (gE1 (gM (bitrM t n) (whJ t n) t n) (bitsV (bitrM t n))))
theorem gS_out {set : Int32} {j : Nat → Nat} {u : Nat → Int32} {k i : Nat} (hk : k < 6) (hj : j k < 6) (hi : i < 6 ∨ 18 ≤ i) : gS set j u k i = u i := by
  simp only [gS]
  rw [upd_ne _ _ (by omega)]
  by_cases h : hasI set (nI k) = true
  · rw [if_pos h, upd_ne _ _ (by omega), upd_ne _ _ (by omega)]
  · rw [if_neg h]
theorem fi_congr {f g : Nat → Int32} {w : Int32} : ∀ (r i : Nat), (∀ j, i ≤ j → j < i + r → f j = g j) → fi f w r i = fi g w r i
  | 0, _, _ => rfl
  | r + 1, i, h => by
    simp only [fi]
    rw [h i (Nat.le_refl i) (by omega), fi_congr r (i + 1) (fun j h1 h2 => h j (by omega) (by omega))]
theorem whM_congr {f g : Nat → Int32} {n : Nat} (h : ∀ j, j < n → f j = g j) (w : Int32) : whM f n w = whM g n w := by
  have e : ∀ w, fi f w n 0 = fi g w n 0 := fun w => fi_congr n 0 (fun j _ h2 => h j (by omega))
  simp only [whM, e]
/-- what fi answers: none, or a place below r + i -/
theorem fi_or {f : Nat → Int32} {w : Int32} : ∀ (r i : Nat), fi f w r i = -1 ∨ ∃ j, i ≤ j ∧ j < i + r ∧ fi f w r i = nI j ∧ f j = w
  | 0, _ => Or.inl rfl
  | r + 1, i => by
    simp only [fi]
    by_cases h : f i = w
    · rw [if_pos h]
      exact Or.inr ⟨i, Nat.le_refl i, by omega, rfl, h⟩
    · rw [if_neg h]
      rcases fi_or (f := f) (w := w) r (i + 1) with e | ⟨j, h1, h2, h3, h4⟩
      · exact Or.inl e
      · exact Or.inr ⟨j, by omega, by omega, h3, h4⟩
theorem whM_or {t : Nat → Int32} {n : Nat} {w : Int32} (h : ¬ whM t n w = -1) : ∃ j, j < n ∧ whM t n w = nI j := by
  simp only [whM] at h ⊢
  by_cases h1 : fi t (nxS w) n 0 = -1
  · rw [if_pos h1] at h ⊢
    rcases fi_or (f := t) (w := ah7 w) n 0 with e | ⟨j, -, h2, h3, -⟩
    · exact absurd e h
    · exact ⟨j, by omega, h3⟩
  · rw [if_neg h1]
    rcases fi_or (f := t) (w := nxS w) n 0 with e | ⟨j, -, h2, h3, -⟩
    · exact absurd e h1
    · exact ⟨j, by omega, h3⟩
def bt (x : Int32) (i : Nat) : Bool := x.toBitVec.getLsbD i
theorem b_ext {x y : Int32} (h : ∀ i, i < 32 → bt x i = bt y i) : x = y := Int32.toBitVec_inj.mp (BitVec.eq_of_getLsbD_eq (fun i hi => h i hi))
theorem b_or (x y : Int32) (i : Nat) : bt (x ||| y) i = (bt x i || bt y i) := by unfold bt; rw [Int32.toBitVec_or, BitVec.getLsbD_or]
theorem b_and (x y : Int32) (i : Nat) : bt (x &&& y) i = (bt x i && bt y i) := by unfold bt; rw [Int32.toBitVec_and, BitVec.getLsbD_and]
theorem b_xor (x y : Int32) (i : Nat) : bt (x ^^^ y) i = (bt x i ^^ bt y i) := by unfold bt; rw [Int32.toBitVec_xor, BitVec.getLsbD_xor]
theorem b_big {x : Int32} {i : Nat} (h : 32 ≤ i) : bt x i = false := BitVec.getLsbD_of_ge _ _ h
theorem b_255 (i : Nat) : bt 255 i = decide (i < 8) := by
  rcases Nat.lt_or_ge i 32 with h | h
  · exact (by decide +kernel : ∀ i, i < 32 → bt 255 i = decide (i < 8)) i h
  · rw [b_big h, decide_eq_false (by omega)]
theorem b_65535 (i : Nat) : bt 65535 i = decide (i < 16) := by
  rcases Nat.lt_or_ge i 32 with h | h
  · exact (by decide +kernel : ∀ i, i < 32 → bt 65535 i = decide (i < 16)) i h
  · rw [b_big h, decide_eq_false (by omega)]
theorem b_m1 : ∀ i, i < 32 → bt (-1) i = true := by decide +kernel
theorem b_0 (i : Nat) : bt 0 i = false := BitVec.getLsbD_zero
theorem s_l : ∀ n, n < 32 → ((nI n &&& 31).toBitVec.smod 32).toNat = n := by decide +kernel
theorem s_u : ∀ n, n < 32 → (((nI n).toUInt32 &&& Int32.toUInt32 31).toBitVec % 32).toNat = n := by decide +kernel
theorem b_shl (n : Nat) (hn : n < 32) (x : Int32) {i : Nat} (hi : i < 32) : bt (x <<< (nI n &&& 31)) i = (decide (n ≤ i) && bt x (i - n)) := by
  unfold bt
  rw [Int32.toBitVec_shiftLeft]
  show (x.toBitVec <<< ((nI n &&& 31).toBitVec.smod 32).toNat).getLsbD i = _
  rw [s_l n hn, BitVec.getLsbD_shiftLeft]
  rcases Nat.lt_or_ge i n with h | h
  · simp [h, Nat.not_le.mpr h]
  · simp [hi, h, Nat.not_lt.mpr h]
theorem b_ushr (n : Nat) (hn : n < 32) (x : Int32) (i : Nat) : bt ((x.toUInt32 >>> ((nI n).toUInt32 &&& Int32.toUInt32 31)).toInt32) i = bt x (n + i) := by
  show (x.toUInt32 >>> ((nI n).toUInt32 &&& Int32.toUInt32 31)).toBitVec.getLsbD i = x.toUInt32.toBitVec.getLsbD (n + i)
  rw [UInt32.toBitVec_shiftRight]
  show (x.toUInt32.toBitVec >>> (((nI n).toUInt32 &&& Int32.toUInt32 31).toBitVec % 32).toNat).getLsbD i = _
  rw [s_u n hn, BitVec.getLsbD_ushiftRight]
theorem b_sshr (n : Nat) (hn : n < 32) (x : Int32) {i : Nat} (hi : i < 32) : bt (x >>> (nI n &&& 31)) i = if n + i < 32 then bt x (n + i) else bt x 31 := by
  unfold bt
  rw [Int32.toBitVec_shiftRight]
  show (x.toBitVec.sshiftRight ((nI n &&& 31).toBitVec.smod 32).toNat).getLsbD i = _
  rw [s_l n hn, BitVec.getLsbD_sshiftRight, BitVec.msb_eq_getLsbD_last]
  simp [hi]
theorem b_one : ∀ i, i < 32 → bt 1 i = decide (i = 0) := by decide +kernel
theorem and1 (y : Int32) : y &&& 1 = 1 ↔ bt y 0 = true := by
  constructor
  · intro h
    have h1 : bt (y &&& 1) 0 = bt 1 0 := by rw [h]
    rw [b_and, b_one 0 (by omega)] at h1
    simpa using h1
  · intro h
    apply b_ext
    intro i hi
    rw [b_and, b_one i hi]
    by_cases h0 : i = 0
    · subst h0; rw [h]; rfl
    · simp [h0]
theorem hasI_bt {x : Int32} {i : Nat} (hi : i < 32) : hasI x (nI i) = bt x i := by
  have h1 : bt (x >>> (nI i &&& 31)) 0 = bt x i := by rw [b_sshr i hi x (by omega)]; simp [hi]
  unfold hasI
  rw [← h1]
  by_cases h : bt (x >>> (nI i &&& 31)) 0 = true
  · rw [h, decide_eq_true ((and1 _).mpr h)]
  · rw [decide_eq_false (fun q => h ((and1 _).mp q))]
    exact (Bool.not_eq_true _ ▸ h).symm
theorem bt_sh {k i : Nat} (hk : k < 32) (hi : i < 32) : bt ((1 : Int32) <<< (nI k &&& 31)) i = decide (i = k) := by
  rw [b_shl k hk 1 hi]
  by_cases h : k ≤ i
  · rw [b_one (i - k) (by omega), decide_eq_true h, Bool.true_and]
    by_cases h2 : i = k
    · rw [decide_eq_true h2, decide_eq_true (by omega)]
    · rw [decide_eq_false h2, decide_eq_false (by omega)]
  · rw [decide_eq_false h, Bool.false_and, decide_eq_false (by omega)]
theorem btM_bt {f : Nat → Bool} {i : Nat} (hi : i < 32) : ∀ n, n ≤ 32 → bt (btM f n) i = (decide (i < n) && f i)
  | 0, _ => by simp [btM, b_0]
  | n + 1, h => by
    simp only [btM]
    rw [b_or, btM_bt hi n (by omega)]
    by_cases hf : f n = true
    · rw [if_pos hf, bt_sh (by omega) hi]
      by_cases h1 : i = n
      · subst h1; simp [hf]
      · by_cases h2 : i < n
        · simp [h1, h2, show i < n + 1 by omega]
        · simp [h1, h2, show ¬ i < n + 1 by omega]
    · rw [if_neg hf, b_0]
      by_cases h1 : i = n
      · subst h1; simp [hf]
      · by_cases h2 : i < n
        · simp [h2, show i < n + 1 by omega]
        · simp [h2, show ¬ i < n + 1 by omega]
theorem btS_M (f : Nat → Bool) : ∀ n, btS f n = btM f n
  | 0 => rfl
  | n + 1 => by
    simp only [btS, btM]
    rw [btS_M f n]
    by_cases hf : f n = true
    · rw [if_pos hf, if_pos hf]
    · rw [if_neg hf, if_neg hf]
      apply b_ext
      intro i _
      rw [b_or, b_0, Bool.or_false]
theorem bitrM_has {t : Nat → Int32} {n k : Nat} (hn : n ≤ 6) (h : hasI (bitrM t n) (nI k) = true) (hk : k < n) : ∃ j, j < n ∧ whM t n (t k) = nI j := by
  rw [hasI_bt (by omega), bitrM, btM_bt (by omega) n (by omega)] at h
  simp only [Bool.and_eq_true, decide_eq_true_eq] at h
  have h2 := h.2
  simp only [bitesM, Bool.and_eq_true, Bool.not_eq_true', decide_eq_false_iff_not] at h2
  exact whM_or h2.2.2
end
section
set_option maxHeartbeats 1000000 in
set_option maxRecDepth 100000 in
theorem c_X6_in (l : Launch) (G : GG) (v : Int64) (aa : Int64) (bb : Int64) : CT l G yX6_in cX6_in 6 (some .boolean) 0 0 [.long v, .long aa, .long bb] ([]) (some (.int (bI (inL v aa bb)))) ([]) := by
  refine CT.mk (own := RX6) (la := [(0, .long v), (2, .long aa), (4, .long bb)]) (by decide) rfl (Nat.le_of_ble_eq_true rfl) rfl ?_
  intro p e s m args below meth c A Q E hA hw rt ls hl
  have hx := E.1
  have hb := E.2.1
  refine lv_lload_n hx hb dX6_in_0 rfl (lv_at hl 0 rfl) ?_
  refine lv_lload_n hx hb dX6_in_1 rfl (lv_at hl 1 rfl) ?_
  refine W.lcmp hx hb dX6_in_2 ?_
  refine lv_if_lt (tgt := 17) hx hb dX6_in_3 rfl (fun cq3 => ?_) (fun cq3 => ?_)
  · skip
    have cq3 := (lg_cmp_lt v aa).mp cq3
    refine lv_iconst (v := 0) hx hb dX6_in_17 rfl ?_
    exact x_zret E hA rt hw (by decide) dX6_in_18 (by simp [bI, inL, cq3]) rfl
  · skip
    have cq3 := mt (lg_cmp_lt v aa).mpr cq3
    refine lv_lload_n hx hb dX6_in_6 rfl (lv_at hl 0 rfl) ?_
    refine lv_lload hx hb dX6_in_7 (lv_at hl 2 rfl) ?_
    refine W.lcmp hx hb dX6_in_9 ?_
    refine lv_if_gt (tgt := 17) hx hb dX6_in_10 rfl (fun cq10 => ?_) (fun cq10 => ?_)
    · skip
      have cq10 := (lg_cmp_gt v bb).mp cq10
      refine lv_iconst (v := 0) hx hb dX6_in_17 rfl ?_
      exact x_zret E hA rt hw (by decide) dX6_in_18 (by simp [bI, inL, cq3, cq10]) rfl
    · skip
      have cq10 := mt (lg_cmp_gt v bb).mpr cq10
      refine lv_iconst (v := 1) hx hb dX6_in_13 rfl ?_
      refine lv_goto (tgt := 18) hx hb dX6_in_14 rfl ?_
      exact x_zret E hA rt hw (by decide) dX6_in_18 (by simp [bI, inL, cq3, cq10]) rfl
set_option maxHeartbeats 1000000 in
set_option maxRecDepth 100000 in
theorem c_X6_has (l : Launch) (G : GG) (set : Int32) (x : Int32) : CT l G yX6_has cX6_has 2 (some .boolean) 0 0 [.int set, .int x] ([]) (some (.int (bI (hasI set x)))) ([]) := by
  refine CT.mk (own := RX6) (la := [(0, .int set), (1, .int x)]) (by decide) rfl (Nat.le_of_ble_eq_true rfl) rfl ?_
  intro p e s m args below meth c A Q E hA hw rt ls hl
  have hx := E.1
  have hb := E.2.1
  refine lv_iload_n hx hb dX6_has_0 rfl (lv_at hl 0 rfl) ?_
  refine lv_iload_n hx hb dX6_has_1 rfl (lv_at hl 1 rfl) ?_
  refine lv_ishr hx hb dX6_has_2 ?_
  refine lv_iconst (v := 1) hx hb dX6_has_3 rfl ?_
  refine lv_iand hx hb dX6_has_4 ?_
  refine lv_iconst (v := 1) hx hb dX6_has_5 rfl ?_
  refine lv_icmp_ne (tgt := 13) hx hb dX6_has_6 rfl (fun cq6 => ?_) (fun cq6 => ?_)
  · skip
    refine lv_iconst (v := 0) hx hb dX6_has_13 rfl ?_
    exact x_zret E hA rt hw (by decide) dX6_has_14 (by simp [bI, hasI, cq6]) rfl
  · skip
    refine lv_iconst (v := 1) hx hb dX6_has_9 rfl ?_
    refine lv_goto (tgt := 14) hx hb dX6_has_10 rfl ?_
    exact x_zret E hA rt hw (by decide) dX6_has_14 (by simp [bI, hasI, cq6]) rfl
set_option maxHeartbeats 1000000 in
set_option maxRecDepth 100000 in
theorem c_X6_bits (l : Launch) (G : GG) (x : Int32) : CT l G yX6_bits cX6_bits 3 (some .int) 0 0 [.int x] ([]) (some (.int (bitsV x))) ([]) := by
  refine CT.mk (own := RX6) (la := [(0, .int x)]) (by decide) rfl (Nat.le_of_ble_eq_true rfl) rfl ?_
  intro p e s m args below meth c A Q E hA hw rt ls hl
  have hx := E.1
  have hb := E.2.1
  refine lv_iconst (v := 0) hx hb dX6_bits_0 rfl ?_
  refine lv_istore_n (lv' := [(1, .int 0), (0, .int x)]) hx hb dX6_bits_1 rfl hl (by decide) rfl (fun ls hl => ?_)
  refine lv_iload_n hx hb dX6_bits_2 rfl (lv_at hl 1 rfl) ?_
  refine lv_istore_n (lv' := [(2, .int x), (1, .int 0), (0, .int x)]) hx hb dX6_bits_3 rfl hl (by decide) rfl (fun ls hl => ?_)
  have lp4 : ∀ (fuel : Nat), ∀ (lf : Int32) (cn : Int32) (ff : Nat) (hff : lf.toBitVec.toNat ≤ ff) (hR : bitsV x = bitsF ff lf cn), ff < fuel → ∀ (H : Heap) (locs : List Loc) (ls : Array Slot), Wd G A s H locs ([]) → lv_has ls 3 [(0, .int x), (1, .int cn), (2, .int lf)] → W p l e (rmx 0 0) s m args below meth c H locs 0 0 Q (F0 m 4 ls []) := by
    intro fuel
    induction fuel with
    | zero => intro lf cn ff hff hR hfu; exact absurd hfu (Nat.not_lt_zero _)
    | succ fuel ih4 =>
      intro lf cn ff hff hR hfu H locs ls hw hl
      refine lv_iload_n hx hb dX6_bits_4 rfl (lv_at hl 2 rfl) ?_
      refine lv_if_eq (tgt := 20) hx hb dX6_bits_5 rfl (fun cq5 => ?_) (fun cq5 => ?_)
      · skip
        refine lv_iload_n hx hb dX6_bits_20 rfl (lv_at hl 1 rfl) ?_
        exact x_iret E hA rt hw dX6_bits_21 (by rw [hR, cq5, bitsF_0]) rfl
      · skip
        refine lv_iinc (v := cn + 1) (lv' := [(1, .int (cn + 1)), (0, .int x), (2, .int lf)]) hx hb dX6_bits_8 hl (k := 1) rfl (rfl) (by decide) rfl (fun ls hl => ?_)
        refine lv_iload_n hx hb dX6_bits_11 rfl (lv_at hl 2 rfl) ?_
        refine lv_iload_n hx hb dX6_bits_12 rfl (lv_at hl 2 rfl) ?_
        refine lv_iconst (v := 1) hx hb dX6_bits_13 rfl ?_
        refine lv_isub hx hb dX6_bits_14 ?_
        refine lv_iand hx hb dX6_bits_15 ?_
        refine lv_istore_n (lv' := [(2, .int (lf &&& (lf - 1))), (1, .int (cn + 1)), (0, .int x)]) hx hb dX6_bits_16 rfl hl (by decide) rfl (fun ls hl => ?_)
        refine lv_goto (tgt := 4) hx hb dX6_bits_17 rfl ?_
        exact ih4 (lf &&& (lf - 1)) (cn + 1) (ff - 1) (by have g1 := bits_lt cq5; omega) (by rw [hR, bitsF_step cq5 hff]) (by have g1 := i32_pos cq5; omega) _ _ _ hw (lv_sub hl [2, 1, 0] rfl)
  exact lp4 (x.toBitVec.toNat + 1) x 0 x.toBitVec.toNat (Nat.le_refl _) (rfl) (by omega) _ _ _ hw (lv_sub hl [2, 1, 0] rfl)
set_option maxHeartbeats 1000000 in
set_option maxRecDepth 100000 in
theorem c_copies (l : Launch) (G : GG) (q : Nat) (r : Nat) (xi : Int32) (i : Nat) (hv_xi : xi = nI i) (xj : Int32) (j : Nat) (hv_xj : xj = nI j) (xm : Int32) (mm : Nat) (hv_xm : xm = nI mm) (f : Nat → Int32) (g : Nat → Int32) (n1 : Nat) (n2 : Nat) (h1 : i + mm ≤ n1) (h2 : j + mm ≤ n2) (h3 : n1 < 2147483648) (h4 : n2 < 2147483648) : CT l G yX6_copies cX6_copies 6 none 0 0 [.ref q, .int xi, .ref r, .int xj, .int xm] ((aW G q n1 f) ++ (aW G r n2 g)) none ((aW G q n1 f) ++ (aW G r n2 (va_cpy f g i j mm))) := by
  refine CT.mk (own := RX6) (la := [(0, .ref q), (1, .int xi), (2, .ref r), (3, .int xj), (4, .int xm)]) (by decide) rfl (Nat.le_of_ble_eq_true rfl) rfl ?_
  intro p e s m args below meth c A Q E hA hw rt ls hl
  have hx := E.1
  have hb := E.2.1
  refine lv_iconst (v := 0) hx hb dX6_copies_0 rfl ?_
  refine lv_istore (lv' := [(5, .int 0), (0, .ref q), (1, .int xi), (2, .ref r), (3, .int xj), (4, .int xm)]) hx hb dX6_copies_1 hl (by decide) rfl (fun ls hl => ?_)
  have lp3 : ∀ (fuel : Nat), ∀ (k : Nat) (g' : Nat → Int32) (hk : k ≤ mm) (hg : g' = va_cpy f g i j k), (mm - k) < fuel → ∀ (H : Heap) (locs : List Loc) (ls : Array Slot), Wd G A s H locs ((aW G q n1 f) ++ (aW G r n2 g')) → lv_has ls 6 [(0, .ref q), (1, .int xi), (2, .ref r), (3, .int xj), (4, .int xm), (5, .int (nI k))] → W p l e (rmx 0 0) s m args below meth c H locs 0 0 Q (F0 m 3 ls []) := by
    intro fuel
    induction fuel with
    | zero => intro k g' hk hg hfu; exact absurd hfu (Nat.not_lt_zero _)
    | succ fuel ih3 =>
      intro k g' hk hg hfu H locs ls hw hl
      refine lv_iload hx hb dX6_copies_3 (lv_at hl 5 rfl) ?_
      refine lv_iload hx hb dX6_copies_5 (lv_at hl 4 rfl) ?_
      refine lv_icmp_ge (tgt := 28) hx hb dX6_copies_7 rfl (fun cq7 => ?_) (fun cq7 => ?_)
      · skip
        have cq7 : mm ≤ k := (cv_le (a := mm) (b := k) hv_xm rfl (by omega) (by omega)).mp cq7
        have ek : k = mm := by omega
        exact x_vret E hA rt hw dX6_copies_28 (by rw [hg, ek])
      · skip
        have cq7 : ¬ mm ≤ k := fun h => cq7 ((cv_le (a := mm) (b := k) hv_xm rfl (by omega) (by omega)).mpr h)
        refine lv_aload_n hx hb dX6_copies_10 rfl (lv_at hl 2 rfl) ?_
        refine lv_iload_n hx hb dX6_copies_11 rfl (lv_at hl 3 rfl) ?_
        refine lv_iload hx hb dX6_copies_12 (lv_at hl 5 rfl) ?_
        refine lv_iadd hx hb dX6_copies_14 ?_
        refine lv_aload_n hx hb dX6_copies_15 rfl (lv_at hl 0 rfl) ?_
        refine lv_iload_n hx hb dX6_copies_16 rfl (lv_at hl 1 rfl) ?_
        refine lv_iload hx hb dX6_copies_17 (lv_at hl 5 rfl) ?_
        refine lv_iadd hx hb dX6_copies_19 ?_
        refine x_iald E hw 0 rfl (i + k) ((ix_add (a := i) (b := k) hv_xi rfl)) (by omega) (by omega) dX6_copies_20 ?_
        refine x_iast (ws' := (aW G q n1 f) ++ (aW G r n2 (upd g' (j + k) (f (i + k))))) E hw 1 rfl (j + k) ((ix_add (a := j) (b := k) hv_xj rfl)) (by omega) (by omega) dX6_copies_21 rfl (fun H locs hw => ?_)
        refine lv_iinc (v := nI (k + 1)) (lv' := [(5, .int (nI (k + 1))), (0, .ref q), (1, .int xi), (2, .ref r), (3, .int xj), (4, .int xm)]) hx hb dX6_copies_22 hl (k := 5) rfl (nI_add _ 1) (by decide) rfl (fun ls hl => ?_)
        refine lv_goto (tgt := 3) hx hb dX6_copies_25 rfl ?_
        exact ih3 (k + 1) (upd g' (j + k) (f (i + k))) (by omega) (by rw [hg, cpy_step]) (by omega) _ _ _ hw (lv_sub hl [1, 2, 3, 4, 5, 0] rfl)
  exact lp3 (mm - 0 + 1) 0 g (by omega) ((cpy_0 _ _ _ _).symm) (by omega) _ _ _ hw (lv_sub hl [1, 2, 3, 4, 5, 0] rfl)
set_option maxHeartbeats 1000000 in
set_option maxRecDepth 100000 in
theorem c_copiesS (l : Launch) (G : GG) (q : Nat) (xi : Int32) (i : Nat) (hv_xi : xi = nI i) (xj : Int32) (j : Nat) (hv_xj : xj = nI j) (xm : Int32) (mm : Nat) (hv_xm : xm = nI mm) (f : Nat → Int32) (n1 : Nat) (h1 : i + mm ≤ n1) (h2 : j + mm ≤ n1) (h3 : n1 < 2147483648) (hds : i + mm ≤ j ∨ j + mm ≤ i) : CT l G yX6_copies cX6_copies 6 none 0 0 [.ref q, .int xi, .ref q, .int xj, .int xm] (aW G q n1 f) none (aW G q n1 (va_cpy f f i j mm)) := by
  refine CT.mk (own := RX6) (la := [(0, .ref q), (1, .int xi), (2, .ref q), (3, .int xj), (4, .int xm)]) (by decide) rfl (Nat.le_of_ble_eq_true rfl) rfl ?_
  intro p e s m args below meth c A Q E hA hw rt ls hl
  have hx := E.1
  have hb := E.2.1
  refine lv_iconst (v := 0) hx hb dX6_copies_0 rfl ?_
  refine lv_istore (lv' := [(5, .int 0), (0, .ref q), (1, .int xi), (2, .ref q), (3, .int xj), (4, .int xm)]) hx hb dX6_copies_1 hl (by decide) rfl (fun ls hl => ?_)
  have lp3 : ∀ (fuel : Nat), ∀ (k : Nat) (g' : Nat → Int32) (hk : k ≤ mm) (hg : g' = va_cpy f f i j k), (mm - k) < fuel → ∀ (H : Heap) (locs : List Loc) (ls : Array Slot), Wd G A s H locs (aW G q n1 g') → lv_has ls 6 [(0, .ref q), (1, .int xi), (2, .ref q), (3, .int xj), (4, .int xm), (5, .int (nI k))] → W p l e (rmx 0 0) s m args below meth c H locs 0 0 Q (F0 m 3 ls []) := by
    intro fuel
    induction fuel with
    | zero => intro k g' hk hg hfu; exact absurd hfu (Nat.not_lt_zero _)
    | succ fuel ih3 =>
      intro k g' hk hg hfu H locs ls hw hl
      refine lv_iload hx hb dX6_copies_3 (lv_at hl 5 rfl) ?_
      refine lv_iload hx hb dX6_copies_5 (lv_at hl 4 rfl) ?_
      refine lv_icmp_ge (tgt := 28) hx hb dX6_copies_7 rfl (fun cq7 => ?_) (fun cq7 => ?_)
      · skip
        have cq7 : mm ≤ k := (cv_le (a := mm) (b := k) hv_xm rfl (by omega) (by omega)).mp cq7
        have ek : k = mm := by omega
        exact x_vret E hA rt hw dX6_copies_28 (by rw [hg, ek])
      · skip
        have cq7 : ¬ mm ≤ k := fun h => cq7 ((cv_le (a := mm) (b := k) hv_xm rfl (by omega) (by omega)).mpr h)
        refine lv_aload_n hx hb dX6_copies_10 rfl (lv_at hl 2 rfl) ?_
        refine lv_iload_n hx hb dX6_copies_11 rfl (lv_at hl 3 rfl) ?_
        refine lv_iload hx hb dX6_copies_12 (lv_at hl 5 rfl) ?_
        refine lv_iadd hx hb dX6_copies_14 ?_
        refine lv_aload_n hx hb dX6_copies_15 rfl (lv_at hl 0 rfl) ?_
        refine lv_iload_n hx hb dX6_copies_16 rfl (lv_at hl 1 rfl) ?_
        refine lv_iload hx hb dX6_copies_17 (lv_at hl 5 rfl) ?_
        refine lv_iadd hx hb dX6_copies_19 ?_
        refine x_iald E hw 0 rfl (i + k) ((ix_add (a := i) (b := k) hv_xi rfl)) (by omega) (by omega) dX6_copies_20 ?_
        refine x_iast (ws' := aW G q n1 (upd g' (j + k) (g' (i + k)))) E hw 0 rfl (j + k) ((ix_add (a := j) (b := k) hv_xj rfl)) (by omega) (by omega) dX6_copies_21 rfl (fun H locs hw => ?_)
        refine lv_iinc (v := nI (k + 1)) (lv' := [(5, .int (nI (k + 1))), (0, .ref q), (1, .int xi), (2, .ref q), (3, .int xj), (4, .int xm)]) hx hb dX6_copies_22 hl (k := 5) rfl (nI_add _ 1) (by decide) rfl (fun ls hl => ?_)
        refine lv_goto (tgt := 3) hx hb dX6_copies_25 rfl ?_
        exact ih3 (k + 1) (upd g' (j + k) (g' (i + k))) (by omega) (by rw [hg, cpy_stepS f i j mm k (by omega) hds]) (by omega) _ _ _ hw (lv_sub hl [1, 2, 3, 4, 5, 0] rfl)
  exact lp3 (mm - 0 + 1) 0 f (by omega) ((cpy_0 _ _ _ _).symm) (by omega) _ _ _ hw (lv_sub hl [1, 2, 3, 4, 5, 0] rfl)
set_option maxHeartbeats 1000000 in
set_option maxRecDepth 100000 in
theorem c_X6_begins (l : Launch) (G : GG) (q : Nat) (x : Int32) (t : Nat → Int32) : CT l G yX6_begins cX6_begins 3 none 0 0 [.ref q, .int x] (aW G q 255 t) none (aW G q 255 (upd (pre bg0 t 255) 20 x)) := by
  refine CT.mk (own := RX6) (la := [(0, .ref q), (1, .int x)]) (by decide) rfl (Nat.le_of_ble_eq_true rfl) rfl ?_
  intro p e s m args below meth c A Q E hA hw rt ls hl
  have hx := E.1
  have hb := E.2.1
  refine lv_iconst (v := 0) hx hb dX6_begins_0 rfl ?_
  refine lv_istore_n (lv' := [(2, .int 0), (0, .ref q), (1, .int x)]) hx hb dX6_begins_1 rfl hl (by decide) rfl (fun ls hl => ?_)
  have lp2 : ∀ (fuel : Nat), ∀ (k : Nat) (t' : Nat → Int32) (hk : k ≤ 255) (ht : t' = pre bg0 t k), (255 - k) < fuel → ∀ (H : Heap) (locs : List Loc) (ls : Array Slot), Wd G A s H locs (aW G q 255 t') → lv_has ls 3 [(0, .ref q), (1, .int x), (2, .int (nI k))] → W p l e (rmx 0 0) s m args below meth c H locs 0 0 Q (F0 m 2 ls []) := by
    intro fuel
    induction fuel with
    | zero => intro k t' hk ht hfu; exact absurd hfu (Nat.not_lt_zero _)
    | succ fuel ih2 =>
      intro k t' hk ht hfu H locs ls hw hl
      refine lv_iload_n hx hb dX6_begins_2 rfl (lv_at hl 2 rfl) ?_
      refine lv_sipush (v := 255) hx hb dX6_begins_3 rfl ?_
      refine lv_icmp_ge (tgt := 29) hx hb dX6_begins_6 rfl (fun cq6 => ?_) (fun cq6 => ?_)
      · skip
        have cq6 : 255 ≤ k := (cv_le (a := 255) (b := k) rfl rfl (by omega) (by omega)).mp cq6
        have ek : k = 255 := by omega
        refine lv_aload_n hx hb dX6_begins_29 rfl (lv_at hl 0 rfl) ?_
        refine lv_bipush (v := 20) hx hb dX6_begins_30 rfl ?_
        refine lv_iload_n hx hb dX6_begins_32 rfl (lv_at hl 1 rfl) ?_
        refine x_iast (ws' := aW G q 255 (upd t' 20 x)) E hw 0 rfl 20 (rfl) (by omega) (by omega) dX6_begins_33 rfl (fun H locs hw => ?_)
        exact x_vret E hA rt hw dX6_begins_34 (by rw [ht, ek])
      · skip
        have cq6 : ¬ 255 ≤ k := fun h => cq6 ((cv_le (a := 255) (b := k) rfl rfl (by omega) (by omega)).mpr h)
        refine lv_aload_n hx hb dX6_begins_9 rfl (lv_at hl 0 rfl) ?_
        refine lv_iload_n hx hb dX6_begins_10 rfl (lv_at hl 2 rfl) ?_
        refine lv_iload_n hx hb dX6_begins_11 rfl (lv_at hl 2 rfl) ?_
        refine lv_bipush (v := 6) hx hb dX6_begins_12 rfl ?_
        refine lv_icmp_ge (tgt := 21) hx hb dX6_begins_14 rfl (fun cq14 => ?_) (fun cq14 => ?_)
        · skip
          have cq14 : 6 ≤ k := (cv_le (a := 6) (b := k) rfl rfl (by omega) (by omega)).mp cq14
          refine lv_iconst (v := 0) hx hb dX6_begins_21 rfl ?_
          refine x_iast (ws' := aW G q 255 (upd t' k 0)) E hw 0 rfl k (rfl) (by omega) (by omega) dX6_begins_22 rfl (fun H locs hw => ?_)
          refine lv_iinc (v := nI (k + 1)) (lv' := [(2, .int (nI (k + 1))), (0, .ref q), (1, .int x)]) hx hb dX6_begins_23 hl (k := 2) rfl (nI_add _ 1) (by decide) rfl (fun ls hl => ?_)
          refine lv_goto (tgt := 2) hx hb dX6_begins_26 rfl ?_
          exact ih2 (k + 1) (upd t' k 0) (by omega) (by rw [ht, ← pre_upd, bg0, if_neg (by omega)]) (by omega) _ _ _ hw (lv_sub hl [1, 2, 0] rfl)
        · skip
          have cq14 : ¬ 6 ≤ k := fun h => cq14 ((cv_le (a := 6) (b := k) rfl rfl (by omega) (by omega)).mpr h)
          refine lv_iconst (v := -1) hx hb dX6_begins_17 rfl ?_
          refine lv_goto (tgt := 22) hx hb dX6_begins_18 rfl ?_
          refine x_iast (ws' := aW G q 255 (upd t' k (-1))) E hw 0 rfl k (rfl) (by omega) (by omega) dX6_begins_22 rfl (fun H locs hw => ?_)
          refine lv_iinc (v := nI (k + 1)) (lv' := [(2, .int (nI (k + 1))), (0, .ref q), (1, .int x)]) hx hb dX6_begins_23 hl (k := 2) rfl (nI_add _ 1) (by decide) rfl (fun ls hl => ?_)
          refine lv_goto (tgt := 2) hx hb dX6_begins_26 rfl ?_
          exact ih2 (k + 1) (upd t' k (-1)) (by omega) (by rw [ht, ← pre_upd, bg0, if_pos (by omega)]) (by omega) _ _ _ hw (lv_sub hl [1, 2, 0] rfl)
  exact lp2 (255 - 0 + 1) 0 t (by omega) ((pre_0 _ _).symm) (by omega) _ _ _ hw (lv_sub hl [1, 2, 0] rfl)
set_option maxHeartbeats 1000000 in
set_option maxRecDepth 100000 in
theorem c_X6_whoIs (l : Launch) (G : GG) (q : Nat) (w : Int32) (t : Nat → Int32) (len : Nat) (n : Nat) (h35 : 35 ≤ len) (hlen : len < 2147483648) (hc : t 22 = nI n) (hn : n ≤ 6) : CT l G yX6_whoIs cX6_whoIs 3 (some .int) 0 0 [.ref q, .int w] (aW G q len t) (some (.int (fi t w n 0))) (aW G q len t) := by
  refine CT.mk (own := RX6) (la := [(0, .ref q), (1, .int w)]) (by decide) rfl (Nat.le_of_ble_eq_true rfl) rfl ?_
  intro p e s m args below meth c A Q E hA hw rt ls hl
  have hx := E.1
  have hb := E.2.1
  refine lv_iconst (v := 0) hx hb dX6_whoIs_0 rfl ?_
  refine lv_istore_n (lv' := [(2, .int 0), (0, .ref q), (1, .int w)]) hx hb dX6_whoIs_1 rfl hl (by decide) rfl (fun ls hl => ?_)
  have lp2 : ∀ (fuel : Nat), ∀ (k : Nat) (hk : k ≤ n) (hiv : fi t w n 0 = fi t w (n - k) k), (n - k) < fuel → ∀ (H : Heap) (locs : List Loc) (ls : Array Slot), Wd G A s H locs (aW G q len t) → lv_has ls 3 [(0, .ref q), (1, .int w), (2, .int (nI k))] → W p l e (rmx 0 0) s m args below meth c H locs 0 0 Q (F0 m 2 ls []) := by
    intro fuel
    induction fuel with
    | zero => intro k hk hiv hfu; exact absurd hfu (Nat.not_lt_zero _)
    | succ fuel ih2 =>
      intro k hk hiv hfu H locs ls hw hl
      refine lv_iload_n hx hb dX6_whoIs_2 rfl (lv_at hl 2 rfl) ?_
      refine lv_aload_n hx hb dX6_whoIs_3 rfl (lv_at hl 0 rfl) ?_
      refine lv_bipush (v := 22) hx hb dX6_whoIs_4 rfl ?_
      refine x_iald E hw 0 rfl 22 (rfl) (by omega) (by omega) dX6_whoIs_6 ?_
      refine lv_icmp_ge (tgt := 27) hx hb dX6_whoIs_7 rfl (fun cq7 => ?_) (fun cq7 => ?_)
      · skip
        have cq7 : n ≤ k := (cv_le (a := n) (b := k) hc rfl (by omega) (by omega)).mp cq7
        refine lv_iconst (v := -1) hx hb dX6_whoIs_27 rfl ?_
        exact x_iret E hA rt hw dX6_whoIs_28 (by rw [hiv, fi_end (by omega)]) rfl
      · skip
        have cq7 : ¬ n ≤ k := fun h => cq7 ((cv_le (a := n) (b := k) hc rfl (by omega) (by omega)).mpr h)
        refine lv_aload_n hx hb dX6_whoIs_10 rfl (lv_at hl 0 rfl) ?_
        refine lv_iconst (v := 0) hx hb dX6_whoIs_11 rfl ?_
        refine lv_iload_n hx hb dX6_whoIs_12 rfl (lv_at hl 2 rfl) ?_
        refine lv_iadd hx hb dX6_whoIs_13 ?_
        refine x_iald E hw 0 rfl k ((ix_0add (b := k) rfl)) (by omega) (by omega) dX6_whoIs_14 ?_
        refine lv_iload_n hx hb dX6_whoIs_15 rfl (lv_at hl 1 rfl) ?_
        refine lv_icmp_ne (tgt := 21) hx hb dX6_whoIs_16 rfl (fun cq16 => ?_) (fun cq16 => ?_)
        · skip
          refine lv_iinc (v := nI (k + 1)) (lv' := [(2, .int (nI (k + 1))), (0, .ref q), (1, .int w)]) hx hb dX6_whoIs_21 hl (k := 2) rfl (nI_add _ 1) (by decide) rfl (fun ls hl => ?_)
          refine lv_goto (tgt := 2) hx hb dX6_whoIs_24 rfl ?_
          exact ih2 (k + 1) (by omega) (by rw [hiv, fi_step (by omega), if_neg cq16]) (by omega) _ _ _ hw (lv_sub hl [1, 2, 0] rfl)
        · skip
          refine lv_iload_n hx hb dX6_whoIs_19 rfl (lv_at hl 2 rfl) ?_
          exact x_iret E hA rt hw dX6_whoIs_20 (by rw [hiv, fi_step (by omega), if_pos cq16]) rfl
  exact lp2 (n - 0 + 1) 0 (by omega) (rfl) (by omega) _ _ _ hw (lv_sub hl [1, 2, 0] rfl)
set_option maxHeartbeats 1000000 in
set_option maxRecDepth 100000 in
theorem c_X6_comes (l : Launch) (G : GG) (q : Nat) (xk : Int32) (xs : Int32) (xw : Int32) (xh : Int32) (t : Nat → Int32) (len : Nat) (n : Nat) (h35 : 35 ≤ len) (hlen : len < 2147483648) (hc : t 22 = nI n) (hn : n < 6) : CT l G yX6_comes cX6_comes 6 none 0 0 [.ref q, .int xk, .int xs, .int xw, .int xh] (aW G q len t) none (aW G q len (upd (upd (upd (upd (upd t (23 + n) xk) n xs) (29 + n) xw) (6 + n) xh) 22 (nI (n + 1)))) := by
  refine CT.mk (own := RX6) (la := [(0, .ref q), (1, .int xk), (2, .int xs), (3, .int xw), (4, .int xh)]) (by decide) rfl (Nat.le_of_ble_eq_true rfl) rfl ?_
  intro p e s m args below meth c A Q E hA hw rt ls hl
  have hx := E.1
  have hb := E.2.1
  refine lv_aload_n hx hb dX6_comes_0 rfl (lv_at hl 0 rfl) ?_
  refine lv_bipush (v := 22) hx hb dX6_comes_1 rfl ?_
  refine x_iald E hw 0 rfl 22 (rfl) (by omega) (by omega) dX6_comes_3 ?_
  refine lv_istore (lv' := [(5, .int (t 22)), (0, .ref q), (1, .int xk), (2, .int xs), (3, .int xw), (4, .int xh)]) hx hb dX6_comes_4 hl (by decide) rfl (fun ls hl => ?_)
  refine lv_aload_n hx hb dX6_comes_6 rfl (lv_at hl 1 rfl) ?_
  refine lv_bipush (v := 23) hx hb dX6_comes_7 rfl ?_
  refine lv_iload hx hb dX6_comes_9 (lv_at hl 0 rfl) ?_
  refine lv_iadd hx hb dX6_comes_11 ?_
  refine lv_iload_n hx hb dX6_comes_12 rfl (lv_at hl 2 rfl) ?_
  refine x_iast (ws' := aW G q len (upd t (23 + n) xk)) E hw 0 rfl (23 + n) ((ix_add (a := 23) (b := n) rfl hc)) (by omega) (by omega) dX6_comes_13 rfl (fun H locs hw => ?_)
  refine lv_aload_n hx hb dX6_comes_14 rfl (lv_at hl 1 rfl) ?_
  refine lv_iconst (v := 0) hx hb dX6_comes_15 rfl ?_
  refine lv_iload hx hb dX6_comes_16 (lv_at hl 0 rfl) ?_
  refine lv_iadd hx hb dX6_comes_18 ?_
  refine lv_iload_n hx hb dX6_comes_19 rfl (lv_at hl 3 rfl) ?_
  refine x_iast (ws' := aW G q len (upd (upd t (23 + n) xk) n xs)) E hw 0 rfl n ((ix_0add (b := n) hc)) (by omega) (by omega) dX6_comes_20 rfl (fun H locs hw => ?_)
  refine lv_aload_n hx hb dX6_comes_21 rfl (lv_at hl 1 rfl) ?_
  refine lv_bipush (v := 29) hx hb dX6_comes_22 rfl ?_
  refine lv_iload hx hb dX6_comes_24 (lv_at hl 0 rfl) ?_
  refine lv_iadd hx hb dX6_comes_26 ?_
  refine lv_iload_n hx hb dX6_comes_27 rfl (lv_at hl 4 rfl) ?_
  refine x_iast (ws' := aW G q len (upd (upd (upd t (23 + n) xk) n xs) (29 + n) xw)) E hw 0 rfl (29 + n) ((ix_add (a := 29) (b := n) rfl hc)) (by omega) (by omega) dX6_comes_28 rfl (fun H locs hw => ?_)
  refine lv_aload_n hx hb dX6_comes_29 rfl (lv_at hl 1 rfl) ?_
  refine lv_bipush (v := 6) hx hb dX6_comes_30 rfl ?_
  refine lv_iload hx hb dX6_comes_32 (lv_at hl 0 rfl) ?_
  refine lv_iadd hx hb dX6_comes_34 ?_
  refine lv_iload hx hb dX6_comes_35 (lv_at hl 5 rfl) ?_
  refine x_iast (ws' := aW G q len (upd (upd (upd (upd t (23 + n) xk) n xs) (29 + n) xw) (6 + n) xh)) E hw 0 rfl (6 + n) ((ix_add (a := 6) (b := n) rfl hc)) (by omega) (by omega) dX6_comes_37 rfl (fun H locs hw => ?_)
  refine lv_aload_n hx hb dX6_comes_38 rfl (lv_at hl 1 rfl) ?_
  refine lv_bipush (v := 22) hx hb dX6_comes_39 rfl ?_
  refine lv_dup2_11 hx hb dX6_comes_41 rfl rfl ?_
  refine x_iald E hw 0 rfl 22 (rfl) (by omega) (by omega) dX6_comes_42 ?_
  refine lv_iconst (v := 1) hx hb dX6_comes_43 rfl ?_
  refine lv_iadd hx hb dX6_comes_44 ?_
  refine x_topi (y := nI (n + 1)) (by rw [upd_ne _ _ (by omega), upd_ne _ _ (by omega), upd_ne _ _ (by omega), upd_ne _ _ (by omega), hc]; exact nI_add n 1) ?_
  refine x_iast (ws' := aW G q len (upd (upd (upd (upd (upd t (23 + n) xk) n xs) (29 + n) xw) (6 + n) xh) 22 (nI (n + 1)))) E hw 0 rfl 22 (rfl) (by omega) (by omega) dX6_comes_45 rfl (fun H locs hw => ?_)
  exact x_vret E hA rt hw dX6_comes_46 rfl
set_option maxHeartbeats 1000000 in
set_option maxRecDepth 100000 in
theorem c_X6_lesser (l : Launch) (G : GG) (v : Int32) (y : Int32) : CT l G yX6_lesser cX6_lesser 2 (some .int) 0 0 [.int v, .int y] ([]) (some (.int (lsr v y))) ([]) := by
  refine CT.mk (own := RX6) (la := [(0, .int v), (1, .int y)]) (by decide) rfl (Nat.le_of_ble_eq_true rfl) rfl ?_
  intro p e s m args below meth c A Q E hA hw rt ls hl
  have hx := E.1
  have hb := E.2.1
  refine lv_iload_n hx hb dX6_lesser_0 rfl (lv_at hl 0 rfl) ?_
  refine lv_iload_n hx hb dX6_lesser_1 rfl (lv_at hl 1 rfl) ?_
  refine lv_icmp_le (tgt := 11) hx hb dX6_lesser_2 rfl (fun cq2 => ?_) (fun cq2 => ?_)
  · skip
    refine lv_iconst (v := 0) hx hb dX6_lesser_11 rfl ?_
    exact x_iret E hA rt hw dX6_lesser_12 (by simp [lsr, cq2]) rfl
  · skip
    refine lv_iload_n hx hb dX6_lesser_5 rfl (lv_at hl 0 rfl) ?_
    refine lv_iload_n hx hb dX6_lesser_6 rfl (lv_at hl 1 rfl) ?_
    refine lv_isub hx hb dX6_lesser_7 ?_
    refine lv_goto (tgt := 12) hx hb dX6_lesser_8 rfl ?_
    exact x_iret E hA rt hw dX6_lesser_12 (by simp [lsr, cq2]) rfl
set_option maxHeartbeats 1000000 in
set_option maxRecDepth 100000 in
theorem c_X6_nearAs (l : Launch) (G : GG) (k : Int32) (h : Int32) (t : Int32) (w : Int32) (b : Int32) (lt : Int32) : CT l G yX6_nearAs cX6_nearAs 8 (some .int) 1 21 [.int k, .int h, .int t, .int w, .int b, .int lt] ([]) (some (.int (nm k h t w b lt))) ([]) := by
  refine CT.mk (own := RX6) (la := [(0, .int k), (1, .int h), (2, .int t), (3, .int w), (4, .int b), (5, .int lt)]) (by decide) rfl (Nat.le_of_ble_eq_true rfl) rfl ?_
  intro p e s m args below meth c A Q E hA hw rt ls hl
  have hx := E.1
  have hb := E.2.1
  refine lv_iload_n hx hb dX6_nearAs_0 rfl (lv_at hl 1 rfl) ?_
  refine lv_iconst (v := 3) hx hb dX6_nearAs_1 rfl ?_
  refine lv_iload_n hx hb dX6_nearAs_2 rfl (lv_at hl 2 rfl) ?_
  refine lv_imul hx hb dX6_nearAs_3 ?_
  refine lv_iadd hx hb dX6_nearAs_4 ?_
  refine lv_iload_n hx hb dX6_nearAs_5 rfl (lv_at hl 3 rfl) ?_
  refine lv_iconst (v := 2) hx hb dX6_nearAs_6 rfl ?_
  refine lv_idiv hx hb dX6_nearAs_7 (by decide) ?_
  refine lv_isub hx hb dX6_nearAs_8 ?_
  refine lv_istore (lv' := [(6, .int ((h + (3 * t)) - (w / 2))), (0, .int k), (1, .int h), (2, .int t), (3, .int w), (4, .int b), (5, .int lt)]) hx hb dX6_nearAs_9 hl (by decide) rfl (fun ls hl => ?_)
  have jn22 : ∀ (H : Heap) (locs : List Loc) (ls : Array Slot), Wd G A s H locs ([]) → lv_has ls 8 [(0, .int k), (1, .int h), (2, .int t), (3, .int w), (4, .int b), (5, .int lt), (6, .int ((h + (3 * t)) - (w / 2)))] → W p l e (rmx 1 21) s m args below meth c H locs 0 0 Q (F0 m 22 ls [.int (nmP h t w)]) := by
    intro   H locs ls hw hl
    refine lv_istore (lv' := [(6, .int (nmP h t w)), (0, .int k), (1, .int h), (2, .int t), (3, .int w), (4, .int b), (5, .int lt)]) hx hb dX6_nearAs_22 hl (by decide) rfl (fun ls hl => ?_)
    refine lv_iload hx hb dX6_nearAs_24 (lv_at hl 0 rfl) ?_
    refine lv_iload_n hx hb dX6_nearAs_26 rfl (lv_at hl 4 rfl) ?_
    refine lv_iconst (v := 2) hx hb dX6_nearAs_27 rfl ?_
    refine lv_idiv hx hb dX6_nearAs_28 (by decide) ?_
    refine x_callS (is := []) (As := [.int (nmP h t w), .int (w / 2)]) (rest := []) (st1 := [.int (lsr (nmP h t w) (w / 2))]) E (c_X6_lesser l G (nmP h t w) (w / 2)) sw_X6_128 hw [] rfl rfl rfl rfl hl.1 rfl rfl (Nat.le_of_ble_eq_true rfl) ⟨Nat.le_of_ble_eq_true rfl, Nat.le_of_ble_eq_true rfl⟩ (Nat.zero_le _) (Nat.zero_le _) dX6_nearAs_29 rfl rfl (fun H locs hw => ?_)
    refine lv_istore (lv' := [(7, .int (lsr (nmP h t w) (w / 2))), (6, .int (nmP h t w)), (0, .int k), (1, .int h), (2, .int t), (3, .int w), (4, .int b), (5, .int lt)]) hx hb dX6_nearAs_32 hl (by decide) rfl (fun ls hl => ?_)
    refine lv_iload_n hx hb dX6_nearAs_34 rfl (lv_at hl 2 rfl) ?_
    by_cases cq35_1 : k = (1 : Int32)
    · skip
      refine lv_tableIn (off := 33) (tgt := 68) hx hb dX6_nearAs_35 (by rw [cq35_1]; decide) (by rw [cq35_1]; decide) (by rw [cq35_1]; rfl) rfl ?_
      refine lv_iload hx hb dX6_nearAs_68 (lv_at hl 1 rfl) ?_
      refine lv_iconst (v := 4) hx hb dX6_nearAs_70 rfl ?_
      refine lv_iadd hx hb dX6_nearAs_71 ?_
      exact x_iret E hA rt hw dX6_nearAs_72 (by simp [nm, cq35_1]) rfl
    by_cases cq35_2 : k = (2 : Int32)
    · skip
      refine lv_tableIn (off := 38) (tgt := 73) hx hb dX6_nearAs_35 (by rw [cq35_2]; decide) (by rw [cq35_2]; decide) (by rw [cq35_2]; rfl) rfl ?_
      refine lv_iload hx hb dX6_nearAs_73 (lv_at hl 0 rfl) ?_
      exact x_iret E hA rt hw dX6_nearAs_75 (by simp [nm, cq35_1, cq35_2]) rfl
    by_cases cq35_3 : k = (3 : Int32)
    · skip
      refine lv_tableIn (off := 41) (tgt := 76) hx hb dX6_nearAs_35 (by rw [cq35_3]; decide) (by rw [cq35_3]; decide) (by rw [cq35_3]; rfl) rfl ?_
      refine lv_iload hx hb dX6_nearAs_76 (lv_at hl 1 rfl) ?_
      refine lv_iconst (v := 3) hx hb dX6_nearAs_78 rfl ?_
      refine lv_iload hx hb dX6_nearAs_79 (lv_at hl 7 rfl) ?_
      refine lv_imul hx hb dX6_nearAs_81 ?_
      refine lv_iadd hx hb dX6_nearAs_82 ?_
      exact x_iret E hA rt hw dX6_nearAs_83 (by simp [nm, cq35_1, cq35_2, cq35_3]) rfl
    by_cases cq35_4 : k = (4 : Int32)
    · skip
      refine lv_tableIn (off := 49) (tgt := 84) hx hb dX6_nearAs_35 (by rw [cq35_4]; decide) (by rw [cq35_4]; decide) (by rw [cq35_4]; rfl) rfl ?_
      refine lv_iload hx hb dX6_nearAs_84 (lv_at hl 1 rfl) ?_
      refine lv_iconst (v := 3) hx hb dX6_nearAs_86 rfl ?_
      refine lv_iload hx hb dX6_nearAs_87 (lv_at hl 7 rfl) ?_
      refine lv_imul hx hb dX6_nearAs_89 ?_
      refine lv_iadd hx hb dX6_nearAs_90 ?_
      refine lv_iconst (v := 2) hx hb dX6_nearAs_91 rfl ?_
      refine lv_iload hx hb dX6_nearAs_92 (lv_at hl 6 rfl) ?_
      refine lv_imul hx hb dX6_nearAs_94 ?_
      refine lv_iadd hx hb dX6_nearAs_95 ?_
      exact x_iret E hA rt hw dX6_nearAs_96 (by simp [nm, cq35_1, cq35_2, cq35_3, cq35_4]) rfl
    by_cases cq35_5 : k = (5 : Int32)
    · skip
      refine lv_tableIn (off := 62) (tgt := 97) hx hb dX6_nearAs_35 (by rw [cq35_5]; decide) (by rw [cq35_5]; decide) (by rw [cq35_5]; rfl) rfl ?_
      refine lv_iload hx hb dX6_nearAs_97 (lv_at hl 0 rfl) ?_
      refine lv_iconst (v := 2) hx hb dX6_nearAs_99 rfl ?_
      refine lv_idiv hx hb dX6_nearAs_100 (by decide) ?_
      exact x_iret E hA rt hw dX6_nearAs_101 (by simp [nm, cq35_1, cq35_2, cq35_3, cq35_4, cq35_5]) rfl
    refine lv_tableOut (tgt := 102) hx hb dX6_nearAs_35 (by have g1 := lv_neT (a := 1) cq35_1 rfl; have g2 := lv_neT (a := 2) cq35_2 rfl; have g3 := lv_neT (a := 3) cq35_3 rfl; have g4 := lv_neT (a := 4) cq35_4 rfl; have g5 := lv_neT (a := 5) cq35_5 rfl; omega) rfl ?_
    refine lv_iload hx hb dX6_nearAs_102 (lv_at hl 1 rfl) ?_
    exact x_iret E hA rt hw dX6_nearAs_104 (by simp [nm, cq35_1, cq35_2, cq35_3, cq35_4, cq35_5]) rfl
  refine lv_iload hx hb dX6_nearAs_11 (lv_at hl 0 rfl) ?_
  refine lv_if_ge (tgt := 20) hx hb dX6_nearAs_13 rfl (fun cq13 => ?_) (fun cq13 => ?_)
  · skip
    refine lv_iload hx hb dX6_nearAs_20 (lv_at hl 0 rfl) ?_
    refine x_topi (y := nmP h t w) (by simp [nmP, cq13]) ?_
    exact jn22    _ _ _ hw (lv_sub hl [1, 2, 3, 4, 5, 6, 0] rfl)
  · skip
    refine lv_iconst (v := 0) hx hb dX6_nearAs_16 rfl ?_
    refine lv_goto (tgt := 22) hx hb dX6_nearAs_17 rfl ?_
    refine x_topi (y := nmP h t w) (by simp [nmP, cq13]) ?_
    exact jn22    _ _ _ hw (lv_sub hl [1, 2, 3, 4, 5, 6, 0] rfl)
set_option maxHeartbeats 1000000 in
set_option maxRecDepth 100000 in
theorem c_X6_tight (l : Launch) (G : GG) (q : Nat) (i : Int32) (k : Nat) (hv_i : i = nI k) (t : Nat → Int32) (len : Nat) (n : Nat) (h35 : 35 ≤ len) (hlen : len < 2147483648) (hc : t 22 = nI n) (hn : n ≤ 6) (hk : k < 6) : CT l G yX6_tight cX6_tight 4 (some .int) 1 22 [.ref q, .int i] (aW G q len t) (some (.int (tgM t n (t k)))) (aW G q len t) := by
  refine CT.mk (own := RX6) (la := [(0, .ref q), (1, .int i)]) (by decide) rfl (Nat.le_of_ble_eq_true rfl) rfl ?_
  intro p e s m args below meth c A Q E hA hw rt ls hl
  have hx := E.1
  have hb := E.2.1
  refine lv_aload_n hx hb dX6_tight_0 rfl (lv_at hl 0 rfl) ?_
  refine lv_aload_n hx hb dX6_tight_1 rfl (lv_at hl 0 rfl) ?_
  refine lv_iconst (v := 0) hx hb dX6_tight_2 rfl ?_
  refine lv_iload_n hx hb dX6_tight_3 rfl (lv_at hl 1 rfl) ?_
  refine lv_iadd hx hb dX6_tight_4 ?_
  refine x_iald E hw 0 rfl k ((ix_0add (b := k) hv_i)) (by omega) (by omega) dX6_tight_5 ?_
  refine lv_iconst (v := 1) hx hb dX6_tight_6 rfl ?_
  refine lv_iadd hx hb dX6_tight_7 ?_
  refine lv_bipush (v := 8) hx hb dX6_tight_8 rfl ?_
  refine lv_irem hx hb dX6_tight_10 (by decide) ?_
  refine x_topi (y := nxS (t k)) (rfl) ?_
  refine x_callS (is := [0]) (As := [.ref q, .int (nxS (t k))]) (rest := []) (st1 := [.int (fi t (nxS (t k)) n 0)]) (ws' := aW G q len t) E (c_X6_whoIs l G q (nxS (t k)) t len n (by omega) (by omega) (hc) (by omega)) sw_X6_73 hw [0] rfl rfl rfl rfl hl.1 rfl rfl (Nat.le_of_ble_eq_true rfl) ⟨Nat.le_of_ble_eq_true rfl, Nat.le_of_ble_eq_true rfl⟩ (Nat.zero_le _) (Nat.zero_le _) dX6_tight_11 rfl rfl (fun H locs hw => ?_)
  refine lv_istore_n (lv' := [(2, .int (fi t (nxS (t k)) n 0)), (0, .ref q), (1, .int i)]) hx hb dX6_tight_14 rfl hl (by decide) rfl (fun ls hl => ?_)
  refine lv_aload_n hx hb dX6_tight_15 rfl (lv_at hl 1 rfl) ?_
  refine lv_aload_n hx hb dX6_tight_16 rfl (lv_at hl 1 rfl) ?_
  refine lv_iconst (v := 0) hx hb dX6_tight_17 rfl ?_
  refine lv_iload_n hx hb dX6_tight_18 rfl (lv_at hl 2 rfl) ?_
  refine lv_iadd hx hb dX6_tight_19 ?_
  refine x_iald E hw 0 rfl k ((ix_0add (b := k) hv_i)) (by omega) (by omega) dX6_tight_20 ?_
  refine lv_bipush (v := 7) hx hb dX6_tight_21 rfl ?_
  refine lv_iadd hx hb dX6_tight_23 ?_
  refine lv_bipush (v := 8) hx hb dX6_tight_24 rfl ?_
  refine lv_irem hx hb dX6_tight_26 (by decide) ?_
  refine x_topi (y := ah7 (t k)) (rfl) ?_
  refine x_callS (is := [0]) (As := [.ref q, .int (ah7 (t k))]) (rest := []) (st1 := [.int (fi t (ah7 (t k)) n 0)]) (ws' := aW G q len t) E (c_X6_whoIs l G q (ah7 (t k)) t len n (by omega) (by omega) (hc) (by omega)) sw_X6_73 hw [0] rfl rfl rfl rfl hl.1 rfl rfl (Nat.le_of_ble_eq_true rfl) ⟨Nat.le_of_ble_eq_true rfl, Nat.le_of_ble_eq_true rfl⟩ (Nat.zero_le _) (Nat.zero_le _) dX6_tight_27 rfl rfl (fun H locs hw => ?_)
  refine lv_istore_n (lv' := [(3, .int (fi t (ah7 (t k)) n 0)), (2, .int (fi t (nxS (t k)) n 0)), (0, .ref q), (1, .int i)]) hx hb dX6_tight_30 rfl hl (by decide) rfl (fun ls hl => ?_)
  refine lv_iload_n hx hb dX6_tight_31 rfl (lv_at hl 1 rfl) ?_
  refine lv_iconst (v := -1) hx hb dX6_tight_32 rfl ?_
  refine lv_icmp_ne (tgt := 40) hx hb dX6_tight_33 rfl (fun cq33 => ?_) (fun cq33 => ?_)
  · skip
    refine lv_iconst (v := 1) hx hb dX6_tight_40 rfl ?_
    refine lv_iload_n hx hb dX6_tight_41 rfl (lv_at hl 0 rfl) ?_
    refine lv_iconst (v := -1) hx hb dX6_tight_42 rfl ?_
    refine lv_icmp_ne (tgt := 50) hx hb dX6_tight_43 rfl (fun cq43 => ?_) (fun cq43 => ?_)
    · skip
      refine lv_iconst (v := 1) hx hb dX6_tight_50 rfl ?_
      refine lv_iadd hx hb dX6_tight_51 ?_
      exact x_iret E hA rt hw dX6_tight_52 (by simp [tgM, cq33, cq43]) rfl
    · skip
      refine lv_iconst (v := 0) hx hb dX6_tight_46 rfl ?_
      refine lv_goto (tgt := 51) hx hb dX6_tight_47 rfl ?_
      refine lv_iadd hx hb dX6_tight_51 ?_
      exact x_iret E hA rt hw dX6_tight_52 (by simp [tgM, cq33, cq43]) rfl
  · skip
    refine lv_iconst (v := 0) hx hb dX6_tight_36 rfl ?_
    refine lv_goto (tgt := 41) hx hb dX6_tight_37 rfl ?_
    refine lv_iload_n hx hb dX6_tight_41 rfl (lv_at hl 0 rfl) ?_
    refine lv_iconst (v := -1) hx hb dX6_tight_42 rfl ?_
    refine lv_icmp_ne (tgt := 50) hx hb dX6_tight_43 rfl (fun cq43 => ?_) (fun cq43 => ?_)
    · skip
      refine lv_iconst (v := 1) hx hb dX6_tight_50 rfl ?_
      refine lv_iadd hx hb dX6_tight_51 ?_
      exact x_iret E hA rt hw dX6_tight_52 (by simp [tgM, cq33, cq43]) rfl
    · skip
      refine lv_iconst (v := 0) hx hb dX6_tight_46 rfl ?_
      refine lv_goto (tgt := 51) hx hb dX6_tight_47 rfl ?_
      refine lv_iadd hx hb dX6_tight_51 ?_
      exact x_iret E hA rt hw dX6_tight_52 (by simp [tgM, cq33, cq43]) rfl
set_option maxHeartbeats 1000000 in
set_option maxRecDepth 100000 in
theorem c_X6_nearOf (l : Launch) (G : GG) (q : Nat) (i : Int32) (k : Nat) (hv_i : i = nI k) (t : Nat → Int32) (len : Nat) (n : Nat) (h35 : 35 ≤ len) (hlen : len < 2147483648) (hc : t 22 = nI n) (hn : n ≤ 6) (hk : k < 6) : CT l G yX6_nearOf cX6_nearOf 2 (some .int) 2 48 [.ref q, .int i] (aW G q len t) (some (.int (nmOf t n k))) (aW G q len t) := by
  refine CT.mk (own := RX6) (la := [(0, .ref q), (1, .int i)]) (by decide) rfl (Nat.le_of_ble_eq_true rfl) rfl ?_
  intro p e s m args below meth c A Q E hA hw rt ls hl
  have hx := E.1
  have hb := E.2.1
  refine lv_aload_n hx hb dX6_nearOf_0 rfl (lv_at hl 0 rfl) ?_
  refine lv_bipush (v := 23) hx hb dX6_nearOf_1 rfl ?_
  refine lv_iload_n hx hb dX6_nearOf_3 rfl (lv_at hl 1 rfl) ?_
  refine lv_iadd hx hb dX6_nearOf_4 ?_
  refine x_iald E hw 0 rfl (23 + k) ((ix_add (a := 23) (b := k) rfl hv_i)) (by omega) (by omega) dX6_nearOf_5 ?_
  refine lv_aload_n hx hb dX6_nearOf_6 rfl (lv_at hl 0 rfl) ?_
  refine lv_bipush (v := 6) hx hb dX6_nearOf_7 rfl ?_
  refine lv_iload_n hx hb dX6_nearOf_9 rfl (lv_at hl 1 rfl) ?_
  refine lv_iadd hx hb dX6_nearOf_10 ?_
  refine x_iald E hw 0 rfl (6 + k) ((ix_add (a := 6) (b := k) rfl hv_i)) (by omega) (by omega) dX6_nearOf_11 ?_
  refine lv_aload_n hx hb dX6_nearOf_12 rfl (lv_at hl 0 rfl) ?_
  refine lv_iload_n hx hb dX6_nearOf_13 rfl (lv_at hl 1 rfl) ?_
  refine x_callS (is := [0]) (As := [.ref q, .int i]) (rest := [.int (t (6 + k)), .int (t (23 + k))]) (st1 := [.int (tgM t n (t k)), .int (t (6 + k)), .int (t (23 + k))]) (ws' := aW G q len t) E (c_X6_tight l G q i k (hv_i) t len n (by omega) (by omega) (hc) (by omega) (by omega)) sw_X6_156 hw [0] rfl rfl rfl rfl hl.1 rfl rfl (Nat.le_of_ble_eq_true rfl) ⟨Nat.le_of_ble_eq_true rfl, Nat.le_of_ble_eq_true rfl⟩ (Nat.zero_le _) (Nat.zero_le _) dX6_nearOf_14 rfl rfl (fun H locs hw => ?_)
  refine lv_aload_n hx hb dX6_nearOf_17 rfl (lv_at hl 0 rfl) ?_
  refine lv_bipush (v := 29) hx hb dX6_nearOf_18 rfl ?_
  refine lv_iload_n hx hb dX6_nearOf_20 rfl (lv_at hl 1 rfl) ?_
  refine lv_iadd hx hb dX6_nearOf_21 ?_
  refine x_iald E hw 0 rfl (29 + k) ((ix_add (a := 29) (b := k) rfl hv_i)) (by omega) (by omega) dX6_nearOf_22 ?_
  refine lv_aload_n hx hb dX6_nearOf_23 rfl (lv_at hl 0 rfl) ?_
  refine lv_bipush (v := 12) hx hb dX6_nearOf_24 rfl ?_
  refine lv_iload_n hx hb dX6_nearOf_26 rfl (lv_at hl 1 rfl) ?_
  refine lv_iadd hx hb dX6_nearOf_27 ?_
  refine x_iald E hw 0 rfl (12 + k) ((ix_add (a := 12) (b := k) rfl hv_i)) (by omega) (by omega) dX6_nearOf_28 ?_
  refine lv_aload_n hx hb dX6_nearOf_29 rfl (lv_at hl 0 rfl) ?_
  refine lv_bipush (v := 19) hx hb dX6_nearOf_30 rfl ?_
  refine x_iald E hw 0 rfl 19 (rfl) (by omega) (by omega) dX6_nearOf_32 ?_
  refine x_callS (is := []) (As := [.int (t (23 + k)), .int (t (6 + k)), .int (tgM t n (t k)), .int (t (29 + k)), .int (t (12 + k)), .int (t 19)]) (rest := []) (st1 := [.int (nm (t (23 + k)) (t (6 + k)) (tgM t n (t k)) (t (29 + k)) (t (12 + k)) (t 19))]) (ws' := aW G q len t) E (c_X6_nearAs l G (t (23 + k)) (t (6 + k)) (tgM t n (t k)) (t (29 + k)) (t (12 + k)) (t 19)) sw_X6_159 hw [] rfl rfl rfl rfl hl.1 rfl rfl (Nat.le_of_ble_eq_true rfl) ⟨Nat.le_of_ble_eq_true rfl, Nat.le_of_ble_eq_true rfl⟩ (Nat.zero_le _) (Nat.zero_le _) dX6_nearOf_33 rfl rfl (fun H locs hw => ?_)
  exact x_iret E hA rt hw dX6_nearOf_36 (rfl) rfl
set_option maxHeartbeats 1000000 in
set_option maxRecDepth 100000 in
theorem c_X6_whom (l : Launch) (G : GG) (q : Nat) (i : Int32) (k : Nat) (hv_i : i = nI k) (t : Nat → Int32) (len : Nat) (n : Nat) (h35 : 35 ≤ len) (hlen : len < 2147483648) (hc : t 22 = nI n) (hn : n ≤ 6) (hk : k < 6) : CT l G yX6_whom cX6_whom 3 (some .int) 1 22 [.ref q, .int i] (aW G q len t) (some (.int (whM t n (t k)))) (aW G q len t) := by
  refine CT.mk (own := RX6) (la := [(0, .ref q), (1, .int i)]) (by decide) rfl (Nat.le_of_ble_eq_true rfl) rfl ?_
  intro p e s m args below meth c A Q E hA hw rt ls hl
  have hx := E.1
  have hb := E.2.1
  refine lv_aload_n hx hb dX6_whom_0 rfl (lv_at hl 0 rfl) ?_
  refine lv_aload_n hx hb dX6_whom_1 rfl (lv_at hl 0 rfl) ?_
  refine lv_iconst (v := 0) hx hb dX6_whom_2 rfl ?_
  refine lv_iload_n hx hb dX6_whom_3 rfl (lv_at hl 1 rfl) ?_
  refine lv_iadd hx hb dX6_whom_4 ?_
  refine x_iald E hw 0 rfl k ((ix_0add (b := k) hv_i)) (by omega) (by omega) dX6_whom_5 ?_
  refine lv_iconst (v := 1) hx hb dX6_whom_6 rfl ?_
  refine lv_iadd hx hb dX6_whom_7 ?_
  refine lv_bipush (v := 8) hx hb dX6_whom_8 rfl ?_
  refine lv_irem hx hb dX6_whom_10 (by decide) ?_
  refine x_topi (y := nxS (t k)) (rfl) ?_
  refine x_callS (is := [0]) (As := [.ref q, .int (nxS (t k))]) (rest := []) (st1 := [.int (fi t (nxS (t k)) n 0)]) (ws' := aW G q len t) E (c_X6_whoIs l G q (nxS (t k)) t len n (by omega) (by omega) (hc) (by omega)) sw_X6_73 hw [0] rfl rfl rfl rfl hl.1 rfl rfl (Nat.le_of_ble_eq_true rfl) ⟨Nat.le_of_ble_eq_true rfl, Nat.le_of_ble_eq_true rfl⟩ (Nat.zero_le _) (Nat.zero_le _) dX6_whom_11 rfl rfl (fun H locs hw => ?_)
  refine lv_istore_n (lv' := [(2, .int (fi t (nxS (t k)) n 0)), (0, .ref q), (1, .int i)]) hx hb dX6_whom_14 rfl hl (by decide) rfl (fun ls hl => ?_)
  refine lv_iload_n hx hb dX6_whom_15 rfl (lv_at hl 0 rfl) ?_
  refine lv_iconst (v := -1) hx hb dX6_whom_16 rfl ?_
  refine lv_icmp_ne (tgt := 38) hx hb dX6_whom_17 rfl (fun cq17 => ?_) (fun cq17 => ?_)
  · skip
    refine lv_iload_n hx hb dX6_whom_38 rfl (lv_at hl 0 rfl) ?_
    exact x_iret E hA rt hw dX6_whom_39 (by simp [whM, cq17]) rfl
  · skip
    refine lv_aload_n hx hb dX6_whom_20 rfl (lv_at hl 1 rfl) ?_
    refine lv_aload_n hx hb dX6_whom_21 rfl (lv_at hl 1 rfl) ?_
    refine lv_iconst (v := 0) hx hb dX6_whom_22 rfl ?_
    refine lv_iload_n hx hb dX6_whom_23 rfl (lv_at hl 2 rfl) ?_
    refine lv_iadd hx hb dX6_whom_24 ?_
    refine x_iald E hw 0 rfl k ((ix_0add (b := k) hv_i)) (by omega) (by omega) dX6_whom_25 ?_
    refine lv_bipush (v := 7) hx hb dX6_whom_26 rfl ?_
    refine lv_iadd hx hb dX6_whom_28 ?_
    refine lv_bipush (v := 8) hx hb dX6_whom_29 rfl ?_
    refine lv_irem hx hb dX6_whom_31 (by decide) ?_
    refine x_topi (y := ah7 (t k)) (rfl) ?_
    refine x_callS (is := [0]) (As := [.ref q, .int (ah7 (t k))]) (rest := []) (st1 := [.int (fi t (ah7 (t k)) n 0)]) (ws' := aW G q len t) E (c_X6_whoIs l G q (ah7 (t k)) t len n (by omega) (by omega) (hc) (by omega)) sw_X6_73 hw [0] rfl rfl rfl rfl hl.1 rfl rfl (Nat.le_of_ble_eq_true rfl) ⟨Nat.le_of_ble_eq_true rfl, Nat.le_of_ble_eq_true rfl⟩ (Nat.zero_le _) (Nat.zero_le _) dX6_whom_32 rfl rfl (fun H locs hw => ?_)
    refine lv_goto (tgt := 39) hx hb dX6_whom_35 rfl ?_
    exact x_iret E hA rt hw dX6_whom_39 (by simp [whM, cq17]) rfl
set_option maxHeartbeats 1000000 in
set_option maxRecDepth 100000 in
theorem c_X6_isGuarded (l : Launch) (G : GG) (q : Nat) (i : Int32) (k : Nat) (hv_i : i = nI k) (t : Nat → Int32) (len : Nat) (h35 : 35 ≤ len) (hlen : len < 2147483648) (hk : k < 6) : CT l G yX6_isGuarded cX6_isGuarded 3 (some .boolean) 0 0 [.ref q, .int i] (aW G q len t) (some (.int (bI (gdM (t 20) (t k))))) (aW G q len t) := by
  refine CT.mk (own := RX6) (la := [(0, .ref q), (1, .int i)]) (by decide) rfl (Nat.le_of_ble_eq_true rfl) rfl ?_
  intro p e s m args below meth c A Q E hA hw rt ls hl
  have hx := E.1
  have hb := E.2.1
  refine lv_aload_n hx hb dX6_isGuarded_0 rfl (lv_at hl 0 rfl) ?_
  refine lv_iconst (v := 0) hx hb dX6_isGuarded_1 rfl ?_
  refine lv_iload_n hx hb dX6_isGuarded_2 rfl (lv_at hl 1 rfl) ?_
  refine lv_iadd hx hb dX6_isGuarded_3 ?_
  refine x_iald E hw 0 rfl k ((ix_0add (b := k) hv_i)) (by omega) (by omega) dX6_isGuarded_4 ?_
  refine lv_bipush (v := 8) hx hb dX6_isGuarded_5 rfl ?_
  refine lv_iadd hx hb dX6_isGuarded_7 ?_
  refine lv_aload_n hx hb dX6_isGuarded_8 rfl (lv_at hl 0 rfl) ?_
  refine lv_bipush (v := 20) hx hb dX6_isGuarded_9 rfl ?_
  refine x_iald E hw 0 rfl 20 (rfl) (by omega) (by omega) dX6_isGuarded_11 ?_
  refine lv_isub hx hb dX6_isGuarded_12 ?_
  refine lv_bipush (v := 8) hx hb dX6_isGuarded_13 rfl ?_
  refine lv_irem hx hb dX6_isGuarded_15 (by decide) ?_
  refine x_topi (y := farM (t 20) (t k)) (rfl) ?_
  refine lv_istore_n (lv' := [(2, .int (farM (t 20) (t k))), (0, .ref q), (1, .int i)]) hx hb dX6_isGuarded_16 rfl hl (by decide) rfl (fun ls hl => ?_)
  refine lv_iload_n hx hb dX6_isGuarded_17 rfl (lv_at hl 0 rfl) ?_
  refine lv_if_eq (tgt := 32) hx hb dX6_isGuarded_18 rfl (fun cq18 => ?_) (fun cq18 => ?_)
  · skip
    refine lv_iconst (v := 1) hx hb dX6_isGuarded_32 rfl ?_
    refine lv_goto (tgt := 37) hx hb dX6_isGuarded_33 rfl ?_
    exact x_zret E hA rt hw (by decide) dX6_isGuarded_37 (by simp [bI, gdM, cq18]) rfl
  · skip
    refine lv_iload_n hx hb dX6_isGuarded_21 rfl (lv_at hl 0 rfl) ?_
    refine lv_iconst (v := 1) hx hb dX6_isGuarded_22 rfl ?_
    refine lv_icmp_eq (tgt := 32) hx hb dX6_isGuarded_23 rfl (fun cq23 => ?_) (fun cq23 => ?_)
    · skip
      refine lv_iconst (v := 1) hx hb dX6_isGuarded_32 rfl ?_
      refine lv_goto (tgt := 37) hx hb dX6_isGuarded_33 rfl ?_
      exact x_zret E hA rt hw (by decide) dX6_isGuarded_37 (by simp [bI, gdM, cq18, cq23]) rfl
    · skip
      refine lv_iload_n hx hb dX6_isGuarded_26 rfl (lv_at hl 0 rfl) ?_
      refine lv_bipush (v := 7) hx hb dX6_isGuarded_27 rfl ?_
      refine lv_icmp_ne (tgt := 36) hx hb dX6_isGuarded_29 rfl (fun cq29 => ?_) (fun cq29 => ?_)
      · skip
        refine lv_iconst (v := 0) hx hb dX6_isGuarded_36 rfl ?_
        exact x_zret E hA rt hw (by decide) dX6_isGuarded_37 (by simp [bI, gdM, cq18, cq23, cq29]) rfl
      · skip
        refine lv_iconst (v := 1) hx hb dX6_isGuarded_32 rfl ?_
        refine lv_goto (tgt := 37) hx hb dX6_isGuarded_33 rfl ?_
        exact x_zret E hA rt hw (by decide) dX6_isGuarded_37 (by simp [bI, gdM, cq18, cq23, cq29]) rfl
set_option maxHeartbeats 1000000 in
set_option maxRecDepth 100000 in
theorem c_X6_bites (l : Launch) (G : GG) (q : Nat) (i : Int32) (k : Nat) (hv_i : i = nI k) (t : Nat → Int32) (len : Nat) (n : Nat) (h35 : 35 ≤ len) (hlen : len < 2147483648) (hc : t 22 = nI n) (hn : n ≤ 6) (hk : k < 6) : CT l G yX6_bites cX6_bites 2 (some .boolean) 3 69 [.ref q, .int i] (aW G q len t) (some (.int (bI (bitesM t n k)))) (aW G q len t) := by
  refine CT.mk (own := RX6) (la := [(0, .ref q), (1, .int i)]) (by decide) rfl (Nat.le_of_ble_eq_true rfl) rfl ?_
  intro p e s m args below meth c A Q E hA hw rt ls hl
  have hx := E.1
  have hb := E.2.1
  refine lv_aload_n hx hb dX6_bites_0 rfl (lv_at hl 0 rfl) ?_
  refine lv_iload_n hx hb dX6_bites_1 rfl (lv_at hl 1 rfl) ?_
  refine x_callS (is := [0]) (As := [.ref q, .int i]) (rest := []) (st1 := [.int (nmOf t n k)]) (ws' := aW G q len t) E (c_X6_nearOf l G q i k (hv_i) t len n (by omega) (by omega) (hc) (by omega) (by omega)) sw_X6_163 hw [0] rfl rfl rfl rfl hl.1 rfl rfl (Nat.le_of_ble_eq_true rfl) ⟨Nat.le_of_ble_eq_true rfl, Nat.le_of_ble_eq_true rfl⟩ (Nat.zero_le _) (Nat.zero_le _) dX6_bites_2 rfl rfl (fun H locs hw => ?_)
  refine lv_bipush (v := 11) hx hb dX6_bites_5 rfl ?_
  refine lv_icmp_le (tgt := 31) hx hb dX6_bites_7 rfl (fun cq7 => ?_) (fun cq7 => ?_)
  · skip
    refine lv_iconst (v := 0) hx hb dX6_bites_31 rfl ?_
    exact x_zret E hA rt hw (by decide) dX6_bites_32 (by simp [bI, bitesM, cq7]) rfl
  · skip
    refine lv_aload_n hx hb dX6_bites_10 rfl (lv_at hl 0 rfl) ?_
    refine lv_iload_n hx hb dX6_bites_11 rfl (lv_at hl 1 rfl) ?_
    refine x_callS (is := [0]) (As := [.ref q, .int i]) (rest := []) (st1 := [.int (bI (gdM (t 20) (t k)))]) (ws' := aW G q len t) E (c_X6_isGuarded l G q i k (hv_i) t len (by omega) (by omega) (by omega)) sw_X6_166 hw [0] rfl rfl rfl rfl hl.1 rfl rfl (Nat.le_of_ble_eq_true rfl) ⟨Nat.le_of_ble_eq_true rfl, Nat.le_of_ble_eq_true rfl⟩ (Nat.zero_le _) (Nat.zero_le _) dX6_bites_12 rfl rfl (fun H locs hw => ?_)
    refine lv_if_ne (tgt := 31) hx hb dX6_bites_15 rfl (fun cq15 => ?_) (fun cq15 => ?_)
    · skip
      have cq15 := bI_n0.mp cq15
      refine lv_iconst (v := 0) hx hb dX6_bites_31 rfl ?_
      exact x_zret E hA rt hw (by decide) dX6_bites_32 (by simp [bI, bitesM, cq7, cq15]) rfl
    · skip
      have cq15 := bI_0.mp cq15
      refine lv_aload_n hx hb dX6_bites_18 rfl (lv_at hl 0 rfl) ?_
      refine lv_iload_n hx hb dX6_bites_19 rfl (lv_at hl 1 rfl) ?_
      refine x_callS (is := [0]) (As := [.ref q, .int i]) (rest := []) (st1 := [.int (whM t n (t k))]) (ws' := aW G q len t) E (c_X6_whom l G q i k (hv_i) t len n (by omega) (by omega) (hc) (by omega) (by omega)) sw_X6_170 hw [0] rfl rfl rfl rfl hl.1 rfl rfl (Nat.le_of_ble_eq_true rfl) ⟨Nat.le_of_ble_eq_true rfl, Nat.le_of_ble_eq_true rfl⟩ (Nat.zero_le _) (Nat.zero_le _) dX6_bites_20 rfl rfl (fun H locs hw => ?_)
      refine lv_iconst (v := -1) hx hb dX6_bites_23 rfl ?_
      refine lv_icmp_eq (tgt := 31) hx hb dX6_bites_24 rfl (fun cq24 => ?_) (fun cq24 => ?_)
      · skip
        refine lv_iconst (v := 0) hx hb dX6_bites_31 rfl ?_
        exact x_zret E hA rt hw (by decide) dX6_bites_32 (by simp [bI, bitesM, cq7, cq15, cq24]) rfl
      · skip
        refine lv_iconst (v := 1) hx hb dX6_bites_27 rfl ?_
        refine lv_goto (tgt := 32) hx hb dX6_bites_28 rfl ?_
        exact x_zret E hA rt hw (by decide) dX6_bites_32 (by simp [bI, bitesM, cq7, cq15, cq24]) rfl
set_option maxHeartbeats 1000000 in
set_option maxRecDepth 100000 in
theorem c_X6_biters (l : Launch) (G : GG) (q : Nat) (t : Nat → Int32) (len : Nat) (n : Nat) (h35 : 35 ≤ len) (hlen : len < 2147483648) (hc : t 22 = nI n) (hn : n ≤ 6) : CT l G yX6_biters cX6_biters 3 (some .int) 4 90 [.ref q] (aW G q len t) (some (.int (bitrM t n))) (aW G q len t) := by
  refine CT.mk (own := RX6) (la := [(0, .ref q)]) (by decide) rfl (Nat.le_of_ble_eq_true rfl) rfl ?_
  intro p e s m args below meth c A Q E hA hw rt ls hl
  have hx := E.1
  have hb := E.2.1
  refine lv_iconst (v := 0) hx hb dX6_biters_0 rfl ?_
  refine lv_istore_n (lv' := [(1, .int 0), (0, .ref q)]) hx hb dX6_biters_1 rfl hl (by decide) rfl (fun ls hl => ?_)
  refine lv_iconst (v := 0) hx hb dX6_biters_2 rfl ?_
  refine lv_istore_n (lv' := [(2, .int 0), (1, .int 0), (0, .ref q)]) hx hb dX6_biters_3 rfl hl (by decide) rfl (fun ls hl => ?_)
  have lp4 : ∀ (fuel : Nat), ∀ (k : Nat) (acc : Int32) (hk : k ≤ n) (hiv : acc = btM (bitesM t n) k), (n - k) < fuel → ∀ (H : Heap) (locs : List Loc) (ls : Array Slot), Wd G A s H locs (aW G q len t) → lv_has ls 3 [(0, .ref q), (1, .int acc), (2, .int (nI k))] → W p l e (rmx 4 90) s m args below meth c H locs 0 0 Q (F0 m 4 ls []) := by
    intro fuel
    induction fuel with
    | zero => intro k acc hk hiv hfu; exact absurd hfu (Nat.not_lt_zero _)
    | succ fuel ih4 =>
      intro k acc hk hiv hfu H locs ls hw hl
      refine lv_iload_n hx hb dX6_biters_4 rfl (lv_at hl 2 rfl) ?_
      refine lv_aload_n hx hb dX6_biters_5 rfl (lv_at hl 0 rfl) ?_
      refine lv_bipush (v := 22) hx hb dX6_biters_6 rfl ?_
      refine x_iald E hw 0 rfl 22 (rfl) (by omega) (by omega) dX6_biters_8 ?_
      refine lv_icmp_ge (tgt := 36) hx hb dX6_biters_9 rfl (fun cq9 => ?_) (fun cq9 => ?_)
      · skip
        have cq9 : n ≤ k := (cv_le (a := n) (b := k) hc rfl (by omega) (by omega)).mp cq9
        refine lv_iload_n hx hb dX6_biters_36 rfl (lv_at hl 1 rfl) ?_
        exact x_iret E hA rt hw dX6_biters_37 (by rw [hiv, show k = n by omega]; rfl) rfl
      · skip
        have cq9 : ¬ n ≤ k := fun h => cq9 ((cv_le (a := n) (b := k) hc rfl (by omega) (by omega)).mpr h)
        refine lv_iload_n hx hb dX6_biters_12 rfl (lv_at hl 1 rfl) ?_
        refine lv_aload_n hx hb dX6_biters_13 rfl (lv_at hl 0 rfl) ?_
        refine lv_iload_n hx hb dX6_biters_14 rfl (lv_at hl 2 rfl) ?_
        refine x_callS (is := [0]) (As := [.ref q, .int (nI k)]) (rest := [.int acc]) (st1 := [.int (bI (bitesM t n k)), .int acc]) (ws' := aW G q len t) E (c_X6_bites l G q (nI k) k (rfl) t len n (by omega) (by omega) (hc) (by omega) (by omega)) sw_X6_173 hw [0] rfl rfl rfl rfl hl.1 rfl rfl (Nat.le_of_ble_eq_true rfl) ⟨Nat.le_of_ble_eq_true rfl, Nat.le_of_ble_eq_true rfl⟩ (Nat.zero_le _) (Nat.zero_le _) dX6_biters_15 rfl rfl (fun H locs hw => ?_)
        refine lv_if_eq (tgt := 27) hx hb dX6_biters_18 rfl (fun cq18 => ?_) (fun cq18 => ?_)
        · skip
          have cq18 := bI_0.mp cq18
          refine lv_iconst (v := 0) hx hb dX6_biters_27 rfl ?_
          refine lv_ior hx hb dX6_biters_28 ?_
          refine lv_istore_n (lv' := [(1, .int (acc ||| 0)), (0, .ref q), (2, .int (nI k))]) hx hb dX6_biters_29 rfl hl (by decide) rfl (fun ls hl => ?_)
          refine lv_iinc (v := nI (k + 1)) (lv' := [(2, .int (nI (k + 1))), (1, .int (acc ||| 0)), (0, .ref q)]) hx hb dX6_biters_30 hl (k := 2) rfl (nI_add _ 1) (by decide) rfl (fun ls hl => ?_)
          refine lv_goto (tgt := 4) hx hb dX6_biters_33 rfl ?_
          exact ih4 (k + 1) (acc ||| 0) (by omega) (by rw [hiv, btM]; simp [cq9, cq18]) (by omega) _ _ _ hw (lv_sub hl [2, 1, 0] rfl)
        · skip
          have cq18 := bI_n0.mp cq18
          refine lv_iconst (v := 1) hx hb dX6_biters_21 rfl ?_
          refine lv_iload_n hx hb dX6_biters_22 rfl (lv_at hl 2 rfl) ?_
          refine lv_ishl hx hb dX6_biters_23 ?_
          refine lv_goto (tgt := 28) hx hb dX6_biters_24 rfl ?_
          refine lv_ior hx hb dX6_biters_28 ?_
          refine lv_istore_n (lv' := [(1, .int (acc ||| ((1 : Int32) <<< ((nI k) &&& 31)))), (0, .ref q), (2, .int (nI k))]) hx hb dX6_biters_29 rfl hl (by decide) rfl (fun ls hl => ?_)
          refine lv_iinc (v := nI (k + 1)) (lv' := [(2, .int (nI (k + 1))), (1, .int (acc ||| ((1 : Int32) <<< ((nI k) &&& 31)))), (0, .ref q)]) hx hb dX6_biters_30 hl (k := 2) rfl (nI_add _ 1) (by decide) rfl (fun ls hl => ?_)
          refine lv_goto (tgt := 4) hx hb dX6_biters_33 rfl ?_
          exact ih4 (k + 1) (acc ||| ((1 : Int32) <<< ((nI k) &&& 31))) (by omega) (by rw [hiv, btM]; simp [cq9, cq18]) (by omega) _ _ _ hw (lv_sub hl [2, 1, 0] rfl)
  exact lp4 (n - 0 + 1) 0 0 (by omega) (rfl) (by omega) _ _ _ hw (lv_sub hl [2, 1, 0] rfl)
end
section
/-! contracts that leave some cells open: what the cells are behind the method is F u for some u -/
def QcE {σ : Type} (G : GG) (w : va_W) (o : Option Value) (F : σ → va_W) : Array Value → State → Outcome → State → Prop := fun _ st oc t => (oc = .returned o ∧ ∃ u : σ, va_P G.1 cls (F u) t.heap) ∧ va_F (va_B w) st t
def CE {σ : Type} (l : Launch) (G : GG) (y : MethodName) (cc : ByteArray) (maxL : Nat) (ret : Option FieldType) (fr lo : Nat) (av : List Value) (w : va_W) (o : Option Value) (F : σ → va_W) : Prop :=
  Met l y [.code y cc maxL ret] (rmx fr lo) (PcT G av w) (QcE G w o F) 0 0 (va_B w)
def RtE {σ : Type} (G : GG) (s : State) (args : Array Value) (below : List Frame) (w : va_W) (o : Option Value) (F : σ → va_W) (Q : State → Prop) : Prop := ∀ t, MQ below (QcE G w o F) args s 0 0 (va_B w) t → Q t
theorem CE.mk {σ : Type} {l : Launch} {G : GG} {y : MethodName} {cc : ByteArray} {maxL : Nat} {ret : Option FieldType} {fr lo : Nat} {av : List Value} {w : va_W} {o : Option Value} {F : σ → va_W} {own : String} {la : List (Nat × Value)} (hy : plainName y.cls = true) (ho : y.cls = own) (hn : (lg_sl av).length ≤ maxL) (hla : lv_args 0 av = la)
    (body : ∀ (p : Program) (e : Env) (s : State) (m : MethodId) (args : Array Value) (below : List Frame) (meth : Method) (c : Code) (A : Nat → Prop) (Q : State → Prop), Ex G p s m meth c cc maxL ret own → (∀ q, A q → va_B w q) → Wd G A s s.heap [] w → RtE G s args below w o F Q → ∀ ls : Array Slot, lv_has ls maxL la → W p l e (rmx fr lo) s m args below meth c s.heap [] 0 0 Q (F0 m 0 ls [])) : CE l G y cc maxL ret fr lo av w o F := by
  refine Met.ofW (cc := cc) (maxL := maxL) (ret := ret) hy rfl ?_
  intro p e s m args below meth c s₁ B hml hv
  obtain ⟨rfl, hK, hP, hD⟩ := hv
  have hl := lv_entry av (n := maxL) hn
  rw [lg_entry_eq]
  subst hla
  exact body p e s m _ below meth c (va_B w) _ ⟨B.exec, B.bytes, hml, ho ▸ findClass_of_methodNamed B.named, B.returns, B.notSynchronized, hK⟩ (fun _ h => h) ⟨hP, ⟨hD.1, fun k q hk => ⟨k, q.2, hk⟩⟩, va_S.rf⟩ (fun _ h => h) _ hl
theorem CT.toE {σ : Type} {l : Launch} {G : GG} {y : MethodName} {cc : ByteArray} {maxL : Nat} {ret : Option FieldType} {fr lo : Nat} {av : List Value} {w w' : va_W} {o : Option Value} {F : σ → va_W} (u : σ) (h : CT l G y cc maxL ret fr lo av w o w') (hw : w' = F u) : CE l G y cc maxL ret fr lo av w o F := by
  subst hw
  intro p e h1 h2 h3 s m args below h4 h5 h6 h7
  obtain ⟨k, oc, a1, a2, a3, ⟨⟨b1, b2⟩, b3⟩, b4⟩ := h p e h1 h2 h3 s m args below h4 h5 h6 h7
  exact ⟨k, oc, a1, a2, a3, ⟨⟨b1, u, b2⟩, b3⟩, b4⟩
section XE
variable {σ : Type} {p : Program} {l : Launch} {e : Env} {R : Room} {s : State} {m : MethodId} {args : Array Value} {below : List Frame} {meth : Method} {c : Code} {H : Heap} {locs : List Loc} {cells slots : Nat} {Q : State → Prop}
variable {G : GG} {A : Nat → Prop} {ws w : va_W} {F : σ → va_W} {cc bytes : ByteArray} {nL maxL : Nat} {ret ret' : Option FieldType} {own : String} {pc index fr lo : Nat} {ls : Array Slot} {rest st0 st1 As : List Value} {b : Nat} {y : MethodName} {o : Option Value} {v r : Int32} {v8 r8 : Int64}
theorem x_iretE (u : σ) (E : Ex G p s m meth c cc nL (some .int) own) (hA : ∀ q, A q → va_B w q) (rt : RtE G s args below w (some (.int r)) F Q) (hw : Wd G A s H locs ws) (hdg : decode cc pc = .ok (.ireturn, 1)) (hv : v = r) (hww : ws = F u) : W p l e R s m args below meth c H locs 0 0 Q (F0 m pc ls [.int v]) := by
  subst hv; subst hww
  exact W.mono rt (W.iret E.1 E.2.1 E.2.2.2.2.1 (fun t ht hW => ⟨⟨rfl, u, by rw [ht]; exact hw.1⟩, (Wd.F hA hw).F ht⟩) (Wd.F hA hw).2.2 hdg E.2.2.2.2.2.1)
theorem x_vretE (u : σ) (E : Ex G p s m meth c cc nL none own) (hA : ∀ q, A q → va_B w q) (rt : RtE G s args below w none F Q) (hw : Wd G A s H locs ws) (hdg : decode cc pc = .ok (.return_, 1)) (hww : ws = F u) : W p l e R s m args below meth c H locs 0 0 Q (F0 m pc ls []) := by
  subst hww
  exact W.mono rt (W.vret E.1 E.2.1 E.2.2.2.2.1 (fun t ht hW => ⟨⟨rfl, u, by rw [ht]; exact hw.1⟩, (Wd.F hA hw).F ht⟩) (Wd.F hA hw).2.2 hdg E.2.2.2.2.2.1)
theorem x_goesE {a : Array Value} {is : List Nat} (hr : va_Run p l e R s m args below meth c H locs cells slots 0 0 (F0 m pc ls st0) rest (QcE G w o F a) (va_B w)) (hw : Wd G A s H locs ws) (hC : is.map (fun i => ws[i]?) = w.map some) (hn : va_nd is = true) (ha : ∀ u, (F u).map (·.1) = w.map (·.1)) {ws' : σ → va_W} (hws : ∀ u, setAll ws is (F u) = ws' u) (hst : o.toList ++ rest = st1)
    (kk : ∀ (u : σ) (H1 : Heap) (locs1 : List Loc), Wd G A s H1 locs1 (ws' u) → W p l e R s m args below meth c H1 locs1 cells slots Q (F0 m (pc + 3) ls st1)) : W p l e R s m args below meth c H locs cells slots Q (F0 m pc ls st0) := by
  intro T hT X
  obtain ⟨v, st₀, t, T', L, h0, X', hL, e1, e2, ⟨⟨hv, u, hp⟩, hz, hk⟩, st⟩ := hr T hT X
  cases hv
  rw [h0] at hz hk
  subst hst
  have hBA : ∀ q, va_B w q → A q := fun q ⟨k, e', h⟩ => by
    obtain ⟨i, -, h2⟩ := map_at hC h
    exact hw.2.1.2 i _ h2
  obtain ⟨t2, a1, b1⟩ := kk u T'.heap (locs ++ L) (hws u ▸ hw.back is hC hn (ha u) (fun q h1 h2 => by rw [e1]; exact hk q h1 h2) (by rw [e1]; exact hp)
    ⟨Nat.le_trans hw.2.2.1 (by rw [e1]; exact hz), fun q h1 h2 => by rw [e1, hk q (Nat.lt_of_lt_of_le h1 hw.2.2.1) (fun z => h2 (hBA q z))]; exact hw.2.2.2.1 q h1 h2, fun q hq => by
      rcases List.mem_append.mp hq with h | h
      · exact hw.2.2.2.2 q h
      · exact hBA _ (hL q h)⟩) T' rfl X'
  exact ⟨t2, st t2 a1, b1⟩
theorem x_callVE {is : List Nat} {n ci q0 : Nat} {fs : List Value} {q : vw_C} (E : Ex G p s m meth c cc nL ret own) (hM : CE l G y bytes maxL ret' fr lo (.ref b :: As) w o F) (hv : VW own index y bytes maxL ret' n) (hw : Wd G A s H locs ws) (is0 : List Nat) (his : is0 = is) (hq : ws[q0]? = some (b, .inr (ci, fs))) (hc : cls[ci]? = some q) (hqc : q.1 = y.cls) (hC : is.map (fun i => ws[i]?) = w.map some) (hnd : va_nd is = true) (ha : ∀ u, (F u).map (·.1) = w.map (·.1)) (hlsz : ls.size = nL)
    (hn : As.length = n) (hst0 : st0 = As.reverse ++ .ref b :: rest) (hroom : (rest.map fun v => v.category).sum ≤ 8) (hR : fr + 1 ≤ R.frames ∧ 8 + (maxL + 11) + lo ≤ R.locals) (hcl : cells ≤ R.cells) (hsl : slots ≤ R.slots) (hdg : decode cc pc = .ok (.invokevirtual index, 3)) {ws' : σ → va_W} (hws : ∀ u, setAll ws is (F u) = ws' u) (hst : o.toList ++ rest = st1)
    (kk : ∀ (u : σ) (H1 : Heap) (locs1 : List Loc), Wd G A s H1 locs1 (ws' u) → W p l e R s m args below meth c H1 locs1 cells slots Q (F0 m (pc + 3) ls st1)) : W p l e R s m args below meth c H locs cells slots Q (F0 m pc ls st0) := by
  obtain ⟨hx, hb, hml, hown, hr, hlk, hK⟩ := E
  have hrc := va_recv hK.1 hw.1 hc hq
  rw [hqc] at hrc
  have hp : PreV s H y.cls b (PcT G (.ref b :: As) w) As := ⟨PcT.blind, hrc, x_pre hK hw hC hnd _⟩
  have hts : ∀ w ∈ ([] : List Cond), w.before args s = true := fun _ h => absurd h List.not_mem_nil
  subst hst0
  rcases hv.1.1 with h | ⟨host, h⟩
  · exact x_goesE (va_runV (Ts := []) ⟨hx, hb, hml, hown, hts⟩ hM ⟨x_cb hK hv.1 h hR, hK.w hv.2.1, hK.w hv.2.2⟩ hp rfl hn hlsz rfl (lv_room hroom) hdg ⟨hcl, hsl⟩) hw hC hnd ha hws hst kk
  · exact x_goesE (va_runVN (Ts := []) ⟨hx, hb, hml, hown, hts⟩ hM ⟨x_cn hK hv.1 h hR, hK.w hv.2.1, hK.w hv.2.2⟩ hp rfl hn hlsz rfl (lv_room hroom) hdg ⟨hcl, hsl⟩) hw hC hnd ha hws hst kk
end XE
/-- the cells of the reference -/
def mW (G : GG) (b : Nat → Nat) (nw rd asd img kpt txt : Nat → Int32) (sz : Int32) (abv blw : Int64) (bds nos fls att bgn tkn : Int32) (wrd : Int64) (vlu : Int32) (sts bst : Nat → Int32) : va_W :=
  [(b 0, .inr (6, [.ref (b 1), .ref (b 2), .ref (b 3), .ref (b 4), .ref (b 5), .ref (b 6), .int sz, .long abv, .long blw, .int bds, .int nos, .int fls, .int att, .int bgn, .int tkn, .long wrd, .int vlu, .ref (b 7), .ref (b 8)])),
   (b 1, .inl (G.2 0, 255, .inl nw)), (b 2, .inl (G.2 0, 255, .inl rd)), (b 3, .inl (G.2 0, 35, .inl asd)), (b 4, .inl (G.2 0, 510, .inl img)), (b 5, .inl (G.2 2, 2, .inl kpt)), (b 6, .inl (G.2 0, 150, .inl txt)), (b 7, .inl (G.2 0, 6, .inl sts)), (b 8, .inl (G.2 0, 6, .inl bst))]
theorem whJ_lt {t : Nat → Int32} {n k : Nat} (hn : n ≤ 6) : whJ t n k < 6 := by
  by_cases h : whM t n (t k) = -1
  · rw [whJ, h]; decide
  · obtain ⟨j, h1, h2⟩ := whM_or h
    rw [whJ, h2, nI_clamp (by omega)]; omega
theorem gM_out {set : Int32} {t : Nat → Int32} {n : Nat} (hn : n ≤ 6) {i : Nat} (hi : i < 6 ∨ 18 ≤ i) : ∀ k, k ≤ n → gM set (whJ t n) t k i = t i
  | 0, _ => rfl
  | k + 1, h => by
    simp only [gM]
    rw [gS_out (by omega) (whJ_lt hn) hi, gM_out hn hi k (by omega)]
theorem bI_nar (b : Bool) : narrow .boolean (.int (bI b)) = .int (bI b) := by cases b <;> decide
end
section
set_option maxHeartbeats 1000000 in
set_option maxRecDepth 100000 in
theorem c_X6_goes (l : Launch) (G : GG) (q : Nat) (t : Nat → Int32) (len : Nat) (n : Nat) (h35 : 35 ≤ len) (hlen : len < 2147483648) (hc : t 22 = nI n) (hn : n ≤ 6) : CT l G yX6_goes cX6_goes 3 none 5 112 [.ref q] (aW G q len t) none (aW G q len (goM t n)) := by
  refine CT.mk (own := RX6) (la := [(0, .ref q)]) (by decide) rfl (Nat.le_of_ble_eq_true rfl) rfl ?_
  intro p e s m args below meth c A Q E hA hw rt ls hl
  have hx := E.1
  have hb := E.2.1
  refine lv_aload_n hx hb dX6_goes_0 rfl (lv_at hl 0 rfl) ?_
  refine x_callS (is := [0]) (As := [.ref q]) (rest := []) (st1 := [.int (bitrM t n)]) (ws' := aW G q len t) E (c_X6_biters l G q t len n (by omega) (by omega) (hc) (by omega)) sw_X6_176 hw [0] rfl rfl rfl rfl hl.1 rfl rfl (Nat.le_of_ble_eq_true rfl) ⟨Nat.le_of_ble_eq_true rfl, Nat.le_of_ble_eq_true rfl⟩ (Nat.zero_le _) (Nat.zero_le _) dX6_goes_1 rfl rfl (fun H locs hw => ?_)
  refine lv_istore_n (lv' := [(1, .int (bitrM t n)), (0, .ref q)]) hx hb dX6_goes_4 rfl hl (by decide) rfl (fun ls hl => ?_)
  refine lv_iconst (v := 0) hx hb dX6_goes_5 rfl ?_
  refine lv_istore_n (lv' := [(2, .int 0), (1, .int (bitrM t n)), (0, .ref q)]) hx hb dX6_goes_6 rfl hl (by decide) rfl (fun ls hl => ?_)
  have lp7 : ∀ (fuel : Nat), ∀ (k : Nat) (u : Nat → Int32) (hk : k ≤ n) (huu : u = gM (bitrM t n) (whJ t n) t k), (n - k) < fuel → ∀ (H : Heap) (locs : List Loc) (ls : Array Slot), Wd G A s H locs (aW G q len u) → lv_has ls 3 [(0, .ref q), (1, .int (bitrM t n)), (2, .int (nI k))] → W p l e (rmx 5 112) s m args below meth c H locs 0 0 Q (F0 m 7 ls []) := by
    intro fuel
    induction fuel with
    | zero => intro k u hk huu hfu; exact absurd hfu (Nat.not_lt_zero _)
    | succ fuel ih7 =>
      intro k u hk huu hfu H locs ls hw hl
      have ho : ∀ i, i < 6 ∨ 18 ≤ i → u i = t i := fun i hi => by rw [huu]; exact gM_out hn hi k hk
      refine lv_iload_n hx hb dX6_goes_7 rfl (lv_at hl 2 rfl) ?_
      refine lv_aload_n hx hb dX6_goes_8 rfl (lv_at hl 0 rfl) ?_
      refine lv_bipush (v := 22) hx hb dX6_goes_9 rfl ?_
      refine x_iald E hw 0 rfl 22 (rfl) (by omega) (by omega) dX6_goes_11 ?_
      refine lv_icmp_ge (tgt := 85) hx hb dX6_goes_12 rfl (fun cq12 => ?_) (fun cq12 => ?_)
      · skip
        have cq12 : n ≤ k := (cv_le (a := n) (b := k) ((ho 22 (by omega)).trans hc) rfl (by omega) (by omega)).mp cq12
        have ek : k = n := by omega
        refine lv_aload_n hx hb dX6_goes_85 rfl (lv_at hl 0 rfl) ?_
        refine lv_bipush (v := 19) hx hb dX6_goes_86 rfl ?_
        refine lv_iload_n hx hb dX6_goes_88 rfl (lv_at hl 1 rfl) ?_
        refine x_callS (is := []) (As := [.int (bitrM t n)]) (rest := [.int 19, .ref q]) (st1 := [.int (bitsV (bitrM t n)), .int 19, .ref q]) (ws' := aW G q len u) E (c_X6_bits l G (bitrM t n)) sw_X6_184 hw [] rfl rfl rfl rfl hl.1 rfl rfl (Nat.le_of_ble_eq_true rfl) ⟨Nat.le_of_ble_eq_true rfl, Nat.le_of_ble_eq_true rfl⟩ (Nat.zero_le _) (Nat.zero_le _) dX6_goes_89 rfl rfl (fun H locs hw => ?_)
        refine x_iast (ws' := aW G q len (upd u 19 (bitsV (bitrM t n)))) E hw 0 rfl 19 (rfl) (by omega) (by omega) dX6_goes_92 rfl (fun H locs hw => ?_)
        refine lv_aload_n hx hb dX6_goes_93 rfl (lv_at hl 0 rfl) ?_
        refine lv_bipush (v := 18) hx hb dX6_goes_94 rfl ?_
        refine lv_dup2_11 hx hb dX6_goes_96 rfl rfl ?_
        refine x_iald E hw 0 rfl 18 (rfl) (by omega) (by omega) dX6_goes_97 ?_
        refine lv_aload_n hx hb dX6_goes_98 rfl (lv_at hl 0 rfl) ?_
        refine lv_bipush (v := 19) hx hb dX6_goes_99 rfl ?_
        refine x_iald E hw 0 rfl 19 (rfl) (by omega) (by omega) dX6_goes_101 ?_
        refine lv_iadd hx hb dX6_goes_102 ?_
        refine x_iast (ws' := aW G q len (upd (upd u 19 (bitsV (bitrM t n))) 18 (((upd u 19 (bitsV (bitrM t n))) 18) + ((upd u 19 (bitsV (bitrM t n))) 19)))) E hw 0 rfl 18 (rfl) (by omega) (by omega) dX6_goes_103 rfl (fun H locs hw => ?_)
        refine lv_aload_n hx hb dX6_goes_104 rfl (lv_at hl 0 rfl) ?_
        refine lv_bipush (v := 21) hx hb dX6_goes_105 rfl ?_
        refine lv_dup2_11 hx hb dX6_goes_107 rfl rfl ?_
        refine x_iald E hw 0 rfl 21 (rfl) (by omega) (by omega) dX6_goes_108 ?_
        refine lv_iconst (v := 1) hx hb dX6_goes_109 rfl ?_
        refine lv_iadd hx hb dX6_goes_110 ?_
        refine x_iast (ws' := aW G q len (upd (upd (upd u 19 (bitsV (bitrM t n))) 18 (((upd u 19 (bitsV (bitrM t n))) 18) + ((upd u 19 (bitsV (bitrM t n))) 19))) 21 (((upd (upd u 19 (bitsV (bitrM t n))) 18 (((upd u 19 (bitsV (bitrM t n))) 18) + ((upd u 19 (bitsV (bitrM t n))) 19))) 21) + 1))) E hw 0 rfl 21 (rfl) (by omega) (by omega) dX6_goes_111 rfl (fun H locs hw => ?_)
        exact x_vret E hA rt hw dX6_goes_112 (by rw [huu, ek]; rfl)
      · skip
        have cq12 : ¬ n ≤ k := fun h => cq12 ((cv_le (a := n) (b := k) ((ho 22 (by omega)).trans hc) rfl (by omega) (by omega)).mpr h)
        refine lv_iload_n hx hb dX6_goes_15 rfl (lv_at hl 1 rfl) ?_
        refine lv_iload_n hx hb dX6_goes_16 rfl (lv_at hl 2 rfl) ?_
        refine x_callS (is := []) (As := [.int (bitrM t n), .int (nI k)]) (rest := []) (st1 := [.int (bI (hasI (bitrM t n) (nI k)))]) (ws' := aW G q len u) E (c_X6_has l G (bitrM t n) (nI k)) sw_X6_180 hw [] rfl rfl rfl rfl hl.1 rfl rfl (Nat.le_of_ble_eq_true rfl) ⟨Nat.le_of_ble_eq_true rfl, Nat.le_of_ble_eq_true rfl⟩ (Nat.zero_le _) (Nat.zero_le _) dX6_goes_17 rfl rfl (fun H locs hw => ?_)
        refine lv_if_eq (tgt := 54) hx hb dX6_goes_20 rfl (fun cq20 => ?_) (fun cq20 => ?_)
        · skip
          have cq20 := bI_0.mp cq20
          refine lv_aload_n hx hb dX6_goes_54 rfl (lv_at hl 0 rfl) ?_
          refine lv_bipush (v := 6) hx hb dX6_goes_55 rfl ?_
          refine lv_iload_n hx hb dX6_goes_57 rfl (lv_at hl 2 rfl) ?_
          refine lv_iadd hx hb dX6_goes_58 ?_
          refine lv_dup2_11 hx hb dX6_goes_59 rfl rfl ?_
          refine x_iald E hw 0 rfl (6 + k) ((ix_add (a := 6) (b := k) rfl rfl)) (by omega) (by omega) dX6_goes_60 ?_
          refine lv_aload_n hx hb dX6_goes_61 rfl (lv_at hl 0 rfl) ?_
          refine lv_bipush (v := 6) hx hb dX6_goes_62 rfl ?_
          refine lv_iload_n hx hb dX6_goes_64 rfl (lv_at hl 2 rfl) ?_
          refine lv_iadd hx hb dX6_goes_65 ?_
          refine x_iald E hw 0 rfl (6 + k) ((ix_add (a := 6) (b := k) rfl rfl)) (by omega) (by omega) dX6_goes_66 ?_
          refine lv_bipush (v := 30) hx hb dX6_goes_67 rfl ?_
          refine lv_icmp_ge (tgt := 76) hx hb dX6_goes_69 rfl (fun cq69 => ?_) (fun cq69 => ?_)
          · skip
            refine lv_iconst (v := 0) hx hb dX6_goes_76 rfl ?_
            refine lv_iadd hx hb dX6_goes_77 ?_
            refine x_iast (ws' := aW G q len (upd u (6 + k) ((u (6 + k)) + 0))) E hw 0 rfl (6 + k) ((ix_add (a := 6) (b := k) rfl rfl)) (by omega) (by omega) dX6_goes_78 rfl (fun H locs hw => ?_)
            refine lv_iinc (v := nI (k + 1)) (lv' := [(2, .int (nI (k + 1))), (0, .ref q), (1, .int (bitrM t n))]) hx hb dX6_goes_79 hl (k := 2) rfl (nI_add _ 1) (by decide) rfl (fun ls hl => ?_)
            refine lv_goto (tgt := 7) hx hb dX6_goes_82 rfl ?_
            exact ih7 (k + 1) (upd u (6 + k) ((u (6 + k)) + 0)) (by omega) (by rw [gM, ← huu]; simp [gS, cq20, cq69]) (by omega) _ _ _ hw (lv_sub hl [1, 2, 0] rfl)
          · skip
            refine lv_iconst (v := 1) hx hb dX6_goes_72 rfl ?_
            refine lv_goto (tgt := 77) hx hb dX6_goes_73 rfl ?_
            refine lv_iadd hx hb dX6_goes_77 ?_
            refine x_iast (ws' := aW G q len (upd u (6 + k) ((u (6 + k)) + 1))) E hw 0 rfl (6 + k) ((ix_add (a := 6) (b := k) rfl rfl)) (by omega) (by omega) dX6_goes_78 rfl (fun H locs hw => ?_)
            refine lv_iinc (v := nI (k + 1)) (lv' := [(2, .int (nI (k + 1))), (0, .ref q), (1, .int (bitrM t n))]) hx hb dX6_goes_79 hl (k := 2) rfl (nI_add _ 1) (by decide) rfl (fun ls hl => ?_)
            refine lv_goto (tgt := 7) hx hb dX6_goes_82 rfl ?_
            exact ih7 (k + 1) (upd u (6 + k) ((u (6 + k)) + 1)) (by omega) (by rw [gM, ← huu]; simp [gS, cq20, cq69]) (by omega) _ _ _ hw (lv_sub hl [1, 2, 0] rfl)
        · skip
          have cq20 := bI_n0.mp cq20
          obtain ⟨jw, hjw, ejw⟩ := bitrM_has hn cq20 (by omega)
          have hjk : whJ t n k = jw := by rw [whJ, ejw, nI_clamp (by omega)]
          refine lv_aload_n hx hb dX6_goes_23 rfl (lv_at hl 0 rfl) ?_
          refine lv_bipush (v := 12) hx hb dX6_goes_24 rfl ?_
          refine lv_aload_n hx hb dX6_goes_26 rfl (lv_at hl 0 rfl) ?_
          refine lv_iload_n hx hb dX6_goes_27 rfl (lv_at hl 2 rfl) ?_
          refine x_callS (is := [0]) (As := [.ref q, .int (nI k)]) (rest := [.int 12, .ref q]) (st1 := [.int (whM u n (u k)), .int 12, .ref q]) (ws' := aW G q len u) E (c_X6_whom l G q (nI k) k (rfl) u len n (by omega) (by omega) ((ho 22 (by omega)).trans hc) (by omega) (by omega)) sw_X6_170 hw [0] rfl rfl rfl rfl hl.1 rfl rfl (Nat.le_of_ble_eq_true rfl) ⟨Nat.le_of_ble_eq_true rfl, Nat.le_of_ble_eq_true rfl⟩ (Nat.zero_le _) (Nat.zero_le _) dX6_goes_28 rfl rfl (fun H locs hw => ?_)
          refine x_topi (y := nI jw) (by rw [whM_congr (fun i hi => ho i (by omega)), ho k (by omega)]; exact ejw) ?_
          refine lv_iadd hx hb dX6_goes_31 ?_
          refine lv_dup2_11 hx hb dX6_goes_32 rfl rfl ?_
          refine x_iald E hw 0 rfl (12 + jw) ((ix_add (a := 12) (b := jw) rfl rfl)) (by omega) (by omega) dX6_goes_33 ?_
          refine lv_iconst (v := 1) hx hb dX6_goes_34 rfl ?_
          refine lv_iadd hx hb dX6_goes_35 ?_
          refine x_iast (ws' := aW G q len (upd u (12 + jw) ((u (12 + jw)) + 1))) E hw 0 rfl (12 + jw) ((ix_add (a := 12) (b := jw) rfl rfl)) (by omega) (by omega) dX6_goes_36 rfl (fun H locs hw => ?_)
          refine lv_aload_n hx hb dX6_goes_37 rfl (lv_at hl 0 rfl) ?_
          refine lv_bipush (v := 6) hx hb dX6_goes_38 rfl ?_
          refine lv_iload_n hx hb dX6_goes_40 rfl (lv_at hl 2 rfl) ?_
          refine lv_iadd hx hb dX6_goes_41 ?_
          refine lv_aload_n hx hb dX6_goes_42 rfl (lv_at hl 0 rfl) ?_
          refine lv_bipush (v := 6) hx hb dX6_goes_43 rfl ?_
          refine lv_iload_n hx hb dX6_goes_45 rfl (lv_at hl 2 rfl) ?_
          refine lv_iadd hx hb dX6_goes_46 ?_
          refine x_iald E hw 0 rfl (6 + k) ((ix_add (a := 6) (b := k) rfl rfl)) (by omega) (by omega) dX6_goes_47 ?_
          refine lv_bipush (v := 8) hx hb dX6_goes_48 rfl ?_
          refine x_callS (is := []) (As := [.int ((upd u (12 + jw) ((u (12 + jw)) + 1)) (6 + k)), .int 8]) (rest := [.int (6 + (nI k)), .ref q]) (st1 := [.int (lsr ((upd u (12 + jw) ((u (12 + jw)) + 1)) (6 + k)) 8), .int (6 + (nI k)), .ref q]) (ws' := aW G q len (upd u (12 + jw) ((u (12 + jw)) + 1))) E (c_X6_lesser l G ((upd u (12 + jw) ((u (12 + jw)) + 1)) (6 + k)) 8) sw_X6_128 hw [] rfl rfl rfl rfl hl.1 rfl rfl (Nat.le_of_ble_eq_true rfl) ⟨Nat.le_of_ble_eq_true rfl, Nat.le_of_ble_eq_true rfl⟩ (Nat.zero_le _) (Nat.zero_le _) dX6_goes_50 rfl rfl (fun H locs hw => ?_)
          refine x_iast (ws' := aW G q len (upd (upd u (12 + jw) ((u (12 + jw)) + 1)) (6 + k) (lsr ((upd u (12 + jw) ((u (12 + jw)) + 1)) (6 + k)) 8))) E hw 0 rfl (6 + k) ((ix_add (a := 6) (b := k) rfl rfl)) (by omega) (by omega) dX6_goes_53 rfl (fun H locs hw => ?_)
          refine lv_aload_n hx hb dX6_goes_54 rfl (lv_at hl 0 rfl) ?_
          refine lv_bipush (v := 6) hx hb dX6_goes_55 rfl ?_
          refine lv_iload_n hx hb dX6_goes_57 rfl (lv_at hl 2 rfl) ?_
          refine lv_iadd hx hb dX6_goes_58 ?_
          refine lv_dup2_11 hx hb dX6_goes_59 rfl rfl ?_
          refine x_iald E hw 0 rfl (6 + k) ((ix_add (a := 6) (b := k) rfl rfl)) (by omega) (by omega) dX6_goes_60 ?_
          refine lv_aload_n hx hb dX6_goes_61 rfl (lv_at hl 0 rfl) ?_
          refine lv_bipush (v := 6) hx hb dX6_goes_62 rfl ?_
          refine lv_iload_n hx hb dX6_goes_64 rfl (lv_at hl 2 rfl) ?_
          refine lv_iadd hx hb dX6_goes_65 ?_
          refine x_iald E hw 0 rfl (6 + k) ((ix_add (a := 6) (b := k) rfl rfl)) (by omega) (by omega) dX6_goes_66 ?_
          refine lv_bipush (v := 30) hx hb dX6_goes_67 rfl ?_
          refine lv_icmp_ge (tgt := 76) hx hb dX6_goes_69 rfl (fun cq69 => ?_) (fun cq69 => ?_)
          · skip
            refine lv_iconst (v := 0) hx hb dX6_goes_76 rfl ?_
            refine lv_iadd hx hb dX6_goes_77 ?_
            refine x_iast (ws' := aW G q len (upd (upd (upd u (12 + jw) ((u (12 + jw)) + 1)) (6 + k) (lsr ((upd u (12 + jw) ((u (12 + jw)) + 1)) (6 + k)) 8)) (6 + k) (((upd (upd u (12 + jw) ((u (12 + jw)) + 1)) (6 + k) (lsr ((upd u (12 + jw) ((u (12 + jw)) + 1)) (6 + k)) 8)) (6 + k)) + 0))) E hw 0 rfl (6 + k) ((ix_add (a := 6) (b := k) rfl rfl)) (by omega) (by omega) dX6_goes_78 rfl (fun H locs hw => ?_)
            refine lv_iinc (v := nI (k + 1)) (lv' := [(2, .int (nI (k + 1))), (0, .ref q), (1, .int (bitrM t n))]) hx hb dX6_goes_79 hl (k := 2) rfl (nI_add _ 1) (by decide) rfl (fun ls hl => ?_)
            refine lv_goto (tgt := 7) hx hb dX6_goes_82 rfl ?_
            exact ih7 (k + 1) (upd (upd (upd u (12 + jw) ((u (12 + jw)) + 1)) (6 + k) (lsr ((upd u (12 + jw) ((u (12 + jw)) + 1)) (6 + k)) 8)) (6 + k) (((upd (upd u (12 + jw) ((u (12 + jw)) + 1)) (6 + k) (lsr ((upd u (12 + jw) ((u (12 + jw)) + 1)) (6 + k)) 8)) (6 + k)) + 0)) (by omega) (by rw [gM, ← huu]; simp [gS, cq20, cq69, hjk]) (by omega) _ _ _ hw (lv_sub hl [1, 2, 0] rfl)
          · skip
            refine lv_iconst (v := 1) hx hb dX6_goes_72 rfl ?_
            refine lv_goto (tgt := 77) hx hb dX6_goes_73 rfl ?_
            refine lv_iadd hx hb dX6_goes_77 ?_
            refine x_iast (ws' := aW G q len (upd (upd (upd u (12 + jw) ((u (12 + jw)) + 1)) (6 + k) (lsr ((upd u (12 + jw) ((u (12 + jw)) + 1)) (6 + k)) 8)) (6 + k) (((upd (upd u (12 + jw) ((u (12 + jw)) + 1)) (6 + k) (lsr ((upd u (12 + jw) ((u (12 + jw)) + 1)) (6 + k)) 8)) (6 + k)) + 1))) E hw 0 rfl (6 + k) ((ix_add (a := 6) (b := k) rfl rfl)) (by omega) (by omega) dX6_goes_78 rfl (fun H locs hw => ?_)
            refine lv_iinc (v := nI (k + 1)) (lv' := [(2, .int (nI (k + 1))), (0, .ref q), (1, .int (bitrM t n))]) hx hb dX6_goes_79 hl (k := 2) rfl (nI_add _ 1) (by decide) rfl (fun ls hl => ?_)
            refine lv_goto (tgt := 7) hx hb dX6_goes_82 rfl ?_
            exact ih7 (k + 1) (upd (upd (upd u (12 + jw) ((u (12 + jw)) + 1)) (6 + k) (lsr ((upd u (12 + jw) ((u (12 + jw)) + 1)) (6 + k)) 8)) (6 + k) (((upd (upd u (12 + jw) ((u (12 + jw)) + 1)) (6 + k) (lsr ((upd u (12 + jw) ((u (12 + jw)) + 1)) (6 + k)) 8)) (6 + k)) + 1)) (by omega) (by rw [gM, ← huu]; simp [gS, cq20, cq69, hjk]) (by omega) _ _ _ hw (lv_sub hl [1, 2, 0] rfl)
  exact lp7 (n - 0 + 1) 0 t (by omega) (rfl) (by omega) _ _ _ hw (lv_sub hl [2, 1, 0] rfl)
set_option maxHeartbeats 1000000 in
set_option maxRecDepth 100000 in
theorem c_X6_bad (l : Launch) (G : GG) (b : Nat → Nat) (nw : Nat → Int32) (rd : Nat → Int32) (asd : Nat → Int32) (img : Nat → Int32) (kpt : Nat → Int32) (txt : Nat → Int32) (sz : Int32) (abv : Int64) (blw : Int64) (bds : Int32) (nos : Int32) (fls : Int32) (att : Int32) (bgn : Int32) (tkn : Int32) (wrd : Int64) (vlu : Int32) (sts : Nat → Int32) (bst : Nat → Int32) : CT l G yX6_bad cX6_bad 1 (some .int) 0 0 [.ref (b 0)] (mW G b nw rd asd img kpt txt sz abv blw bds nos fls att bgn tkn wrd vlu sts bst) (some (.int (-2))) (mW G b nw rd asd img kpt txt sz abv blw (bds + 1) nos fls att bgn tkn wrd vlu sts bst) := by
  refine CT.mk (own := RX6) (la := [(0, .ref (b 0))]) (by decide) rfl (Nat.le_of_ble_eq_true rfl) rfl ?_
  intro p e s m args below meth c A Q E hA hw rt ls hl
  have hx := E.1
  have hb := E.2.1
  refine lv_aload_n hx hb dX6_bad_0 rfl (lv_at hl 0 rfl) ?_
  refine lv_dup hx hb dX6_bad_1 rfl ?_
  refine x_get E hw fw_X6_43 0 rfl rfl dX6_bad_2 ?_
  refine lv_iconst (v := 1) hx hb dX6_bad_5 rfl ?_
  refine lv_iadd hx hb dX6_bad_6 ?_
  refine x_put (ws' := mW G b nw rd asd img kpt txt sz abv blw (bds + 1) nos fls att bgn tkn wrd vlu sts bst) (ty := .int) E hw fw_X6_43 0 rfl rfl rfl (by decide +kernel) rfl rfl (Nat.le_of_ble_eq_true rfl) dX6_bad_7 rfl (fun H locs hw => ?_)
  refine lv_bipush (v := -2) hx hb dX6_bad_10 rfl ?_
  exact x_iret E hA rt hw dX6_bad_12 (rfl) rfl
set_option maxHeartbeats 1000000 in
set_option maxRecDepth 100000 in
theorem c_X6_worse (l : Launch) (G : GG) (b : Nat → Nat) (nw : Nat → Int32) (rd : Nat → Int32) (asd : Nat → Int32) (img : Nat → Int32) (kpt : Nat → Int32) (txt : Nat → Int32) (sz : Int32) (abv : Int64) (blw : Int64) (bds : Int32) (nos : Int32) (fls : Int32) (att : Int32) (bgn : Int32) (tkn : Int32) (wrd : Int64) (vlu : Int32) (sts : Nat → Int32) (bst : Nat → Int32) : CT l G yX6_worse cX6_worse 1 (some .int) 0 0 [.ref (b 0)] (mW G b nw rd asd img kpt txt sz abv blw bds nos fls att bgn tkn wrd vlu sts bst) (some (.int (-10))) (mW G b nw rd asd img kpt txt sz abv blw (bds + 1) nos fls att bgn tkn wrd vlu sts bst) := by
  refine CT.mk (own := RX6) (la := [(0, .ref (b 0))]) (by decide) rfl (Nat.le_of_ble_eq_true rfl) rfl ?_
  intro p e s m args below meth c A Q E hA hw rt ls hl
  have hx := E.1
  have hb := E.2.1
  refine lv_aload_n hx hb dX6_worse_0 rfl (lv_at hl 0 rfl) ?_
  refine lv_dup hx hb dX6_worse_1 rfl ?_
  refine x_get E hw fw_X6_43 0 rfl rfl dX6_worse_2 ?_
  refine lv_iconst (v := 1) hx hb dX6_worse_5 rfl ?_
  refine lv_iadd hx hb dX6_worse_6 ?_
  refine x_put (ws' := mW G b nw rd asd img kpt txt sz abv blw (bds + 1) nos fls att bgn tkn wrd vlu sts bst) (ty := .int) E hw fw_X6_43 0 rfl rfl rfl (by decide +kernel) rfl rfl (Nat.le_of_ble_eq_true rfl) dX6_worse_7 rfl (fun H locs hw => ?_)
  refine lv_bipush (v := -10) hx hb dX6_worse_10 rfl ?_
  exact x_iret E hA rt hw dX6_worse_12 (rfl) rfl
set_option maxHeartbeats 1000000 in
set_option maxRecDepth 100000 in
theorem c_X6_no (l : Launch) (G : GG) (b : Nat → Nat) (nw : Nat → Int32) (rd : Nat → Int32) (asd : Nat → Int32) (img : Nat → Int32) (kpt : Nat → Int32) (txt : Nat → Int32) (sz : Int32) (abv : Int64) (blw : Int64) (bds : Int32) (nos : Int32) (fls : Int32) (att : Int32) (bgn : Int32) (tkn : Int32) (wrd : Int64) (vlu : Int32) (sts : Nat → Int32) (bst : Nat → Int32) : CT l G yX6_no cX6_no 1 (some .int) 0 0 [.ref (b 0)] (mW G b nw rd asd img kpt txt sz abv blw bds nos fls att bgn tkn wrd vlu sts bst) (some (.int (-3))) (mW G b nw rd asd img kpt txt sz abv blw bds (nos + 1) fls att bgn tkn wrd vlu sts bst) := by
  refine CT.mk (own := RX6) (la := [(0, .ref (b 0))]) (by decide) rfl (Nat.le_of_ble_eq_true rfl) rfl ?_
  intro p e s m args below meth c A Q E hA hw rt ls hl
  have hx := E.1
  have hb := E.2.1
  refine lv_aload_n hx hb dX6_no_0 rfl (lv_at hl 0 rfl) ?_
  refine lv_dup hx hb dX6_no_1 rfl ?_
  refine x_get E hw fw_X6_47 0 rfl rfl dX6_no_2 ?_
  refine lv_iconst (v := 1) hx hb dX6_no_5 rfl ?_
  refine lv_iadd hx hb dX6_no_6 ?_
  refine x_put (ws' := mW G b nw rd asd img kpt txt sz abv blw bds (nos + 1) fls att bgn tkn wrd vlu sts bst) (ty := .int) E hw fw_X6_47 0 rfl rfl rfl (by decide +kernel) rfl rfl (Nat.le_of_ble_eq_true rfl) dX6_no_7 rfl (fun H locs hw => ?_)
  refine lv_bipush (v := -3) hx hb dX6_no_10 rfl ?_
  exact x_iret E hA rt hw dX6_no_12 (rfl) rfl
set_option maxHeartbeats 1000000 in
set_option maxRecDepth 100000 in
theorem c_X6_full (l : Launch) (G : GG) (b : Nat → Nat) (nw : Nat → Int32) (rd : Nat → Int32) (asd : Nat → Int32) (img : Nat → Int32) (kpt : Nat → Int32) (txt : Nat → Int32) (sz : Int32) (abv : Int64) (blw : Int64) (bds : Int32) (nos : Int32) (fls : Int32) (att : Int32) (bgn : Int32) (tkn : Int32) (wrd : Int64) (vlu : Int32) (sts : Nat → Int32) (bst : Nat → Int32) : CT l G yX6_full cX6_full 1 (some .int) 0 0 [.ref (b 0)] (mW G b nw rd asd img kpt txt sz abv blw bds nos fls att bgn tkn wrd vlu sts bst) (some (.int (-4))) (mW G b nw rd asd img kpt txt sz abv blw bds nos (fls + 1) att bgn tkn wrd vlu sts bst) := by
  refine CT.mk (own := RX6) (la := [(0, .ref (b 0))]) (by decide) rfl (Nat.le_of_ble_eq_true rfl) rfl ?_
  intro p e s m args below meth c A Q E hA hw rt ls hl
  have hx := E.1
  have hb := E.2.1
  refine lv_aload_n hx hb dX6_full_0 rfl (lv_at hl 0 rfl) ?_
  refine lv_dup hx hb dX6_full_1 rfl ?_
  refine x_get E hw fw_X6_50 0 rfl rfl dX6_full_2 ?_
  refine lv_iconst (v := 1) hx hb dX6_full_5 rfl ?_
  refine lv_iadd hx hb dX6_full_6 ?_
  refine x_put (ws' := mW G b nw rd asd img kpt txt sz abv blw bds nos (fls + 1) att bgn tkn wrd vlu sts bst) (ty := .int) E hw fw_X6_50 0 rfl rfl rfl (by decide +kernel) rfl rfl (Nat.le_of_ble_eq_true rfl) dX6_full_7 rfl (fun H locs hw => ?_)
  refine lv_bipush (v := -4) hx hb dX6_full_10 rfl ?_
  exact x_iret E hA rt hw dX6_full_12 (rfl) rfl
set_option maxHeartbeats 1000000 in
set_option maxRecDepth 100000 in
theorem c_X6_isSeat (l : Launch) (G : GG) (x : Int32) : CT l G yX6_isSeat cX6_isSeat 1 (some .boolean) 1 25 [.int x] ([]) (some (.int (bI (inI x 0 7)))) ([]) := by
  refine CT.mk (own := RX6) (la := [(0, .int x)]) (by decide) rfl (Nat.le_of_ble_eq_true rfl) rfl ?_
  intro p e s m args below meth c A Q E hA hw rt ls hl
  have hx := E.1
  have hb := E.2.1
  refine lv_iload_n hx hb dX6_isSeat_0 rfl (lv_at hl 0 rfl) ?_
  refine lv_i2l (v := x.toInt64) hx hb dX6_isSeat_1 rfl ?_
  refine lv_lconst (v := 0) hx hb dX6_isSeat_2 rfl ?_
  refine lv_ldc2 hx hb E.2.2.2.1 (E.2.2.2.2.2.2.w kc_X6_53) dX6_isSeat_3 ?_
  refine x_callS (is := []) (As := [.long x.toInt64, .long 0, .long 7]) (rest := []) (st1 := [.int (bI (inL x.toInt64 0 7))]) E (c_X6_in l G x.toInt64 0 7) sw_X6_55 hw [] rfl rfl rfl rfl hl.1 rfl rfl (Nat.le_of_ble_eq_true rfl) ⟨Nat.le_of_ble_eq_true rfl, Nat.le_of_ble_eq_true rfl⟩ (Nat.zero_le _) (Nat.zero_le _) dX6_isSeat_6 rfl rfl (fun H locs hw => ?_)
  refine x_topi (y := bI (inI x 0 7)) (congrArg bI (inL_I x 0 7 rfl rfl)) ?_
  exact x_zret E hA rt hw (bI_nar _) dX6_isSeat_9 (rfl) rfl
set_option maxHeartbeats 1000000 in
set_option maxRecDepth 100000 in
theorem c_X6_isChild (l : Launch) (G : GG) (b : Nat → Nat) (x : Int32) (nw : Nat → Int32) (rd : Nat → Int32) (asd : Nat → Int32) (img : Nat → Int32) (kpt : Nat → Int32) (txt : Nat → Int32) (sz : Int32) (abv : Int64) (blw : Int64) (bds : Int32) (nos : Int32) (fls : Int32) (att : Int32) (bgn : Int32) (tkn : Int32) (wrd : Int64) (vlu : Int32) (sts : Nat → Int32) (bst : Nat → Int32) : CT l G yX6_isChild cX6_isChild 2 (some .boolean) 1 25 [.ref (b 0), .int x] (mW G b nw rd asd img kpt txt sz abv blw bds nos fls att bgn tkn wrd vlu sts bst) (some (.int (bI (inI x 0 (nw 22 - 1))))) (mW G b nw rd asd img kpt txt sz abv blw bds nos fls att bgn tkn wrd vlu sts bst) := by
  refine CT.mk (own := RX6) (la := [(0, .ref (b 0)), (1, .int x)]) (by decide) rfl (Nat.le_of_ble_eq_true rfl) rfl ?_
  intro p e s m args below meth c A Q E hA hw rt ls hl
  have hx := E.1
  have hb := E.2.1
  refine lv_iload_n hx hb dX6_isChild_0 rfl (lv_at hl 1 rfl) ?_
  refine lv_i2l (v := x.toInt64) hx hb dX6_isChild_1 rfl ?_
  refine lv_lconst (v := 0) hx hb dX6_isChild_2 rfl ?_
  refine lv_aload_n hx hb dX6_isChild_3 rfl (lv_at hl 0 rfl) ?_
  refine x_get E hw fw_X6_7 0 rfl rfl dX6_isChild_4 ?_
  refine lv_bipush (v := 22) hx hb dX6_isChild_7 rfl ?_
  refine x_iald E hw 1 rfl 22 (rfl) (by omega) (by omega) dX6_isChild_9 ?_
  refine lv_iconst (v := 1) hx hb dX6_isChild_10 rfl ?_
  refine lv_isub hx hb dX6_isChild_11 ?_
  refine lv_i2l (v := ((nw 22) - 1).toInt64) hx hb dX6_isChild_12 rfl ?_
  refine x_callS (is := []) (As := [.long x.toInt64, .long 0, .long (((nw 22) - 1).toInt64)]) (rest := []) (st1 := [.int (bI (inL x.toInt64 0 (((nw 22) - 1).toInt64)))]) (ws' := mW G b nw rd asd img kpt txt sz abv blw bds nos fls att bgn tkn wrd vlu sts bst) E (c_X6_in l G x.toInt64 0 (((nw 22) - 1).toInt64)) sw_X6_55 hw [] rfl rfl rfl rfl hl.1 rfl rfl (Nat.le_of_ble_eq_true rfl) ⟨Nat.le_of_ble_eq_true rfl, Nat.le_of_ble_eq_true rfl⟩ (Nat.zero_le _) (Nat.zero_le _) dX6_isChild_13 rfl rfl (fun H locs hw => ?_)
  refine x_topi (y := bI (inI x 0 ((nw 22) - 1))) (congrArg bI (inL_I x 0 ((nw 22) - 1) rfl rfl)) ?_
  exact x_zret E hA rt hw (bI_nar _) dX6_isChild_16 (rfl) rfl
end
section
/-! pure words of the reference's calls -/
def cmM (t : Nat → Int32) (n : Nat) (xk xs xw xh : Int32) : Nat → Int32 := upd (upd (upd (upd (upd t (23 + n) xk) n xs) (29 + n) xw) (6 + n) xh) 22 (nI (n + 1))
def shf (t : Nat → Int32) (k : Nat) : Nat → Int32 := fun j => if 79 ≤ j ∧ j < 79 + k then t (j + 22) else t j
theorem shf_0 (t : Nat → Int32) : shf t 0 = t := by funext j; simp only [shf]; rw [if_neg (by omega)]
theorem shf_out {t : Nat → Int32} {k j : Nat} (h : j < 79 ∨ 79 + k ≤ j) : shf t k j = t j := by simp only [shf]; rw [if_neg (by omega)]
theorem shf_in {t : Nat → Int32} {k j : Nat} (h : 79 ≤ j) (h2 : j < 79 + k) : shf t k j = t (j + 22) := by simp only [shf]; rw [if_pos ⟨h, h2⟩]
theorem shf_step (t : Nat → Int32) (k : Nat) : upd (shf t k) (79 + k) (shf t k (79 + k + 22)) = shf t (k + 1) := by
  rw [shf_out (by omega)]
  funext j
  by_cases hj : j = 79 + k
  · subst hj; rw [upd_at, shf_in (by omega) (by omega)]
  · rw [upd_ne _ _ hj]
    by_cases h1 : 79 ≤ j ∧ j < 79 + k
    · rw [shf_in h1.1 h1.2, shf_in h1.1 (by omega)]
    · rw [shf_out (by omega), shf_out (by omega)]
def rmF (t : Nat → Int32) (v : Nat) : Nat → Int32 := upd (va_cpy t t 0 (79 + 22 * v) 22) 78 (nI (v + 1))
def rmb (t : Nat → Int32) (u : Nat) : Nat → Int32 := if u = 8 then rmF (upd (shf t 154) 78 (nI 7)) 7 else rmF t u
theorem rmF_lo {t : Nat → Int32} {v j : Nat} (h : j < 78) : rmF t v j = t j := by rw [rmF, upd_ne _ _ (by omega), pk_cpy_out (by omega)]
theorem rmb_lo {t : Nat → Int32} {u j : Nat} (h : j < 78) : rmb t u j = t j := by
  unfold rmb
  by_cases hu : u = 8
  · rw [if_pos hu, rmF_lo h, upd_ne _ _ (by omega), shf_out (by omega)]
  · rw [if_neg hu, rmF_lo h]
theorem goM_out {t : Nat → Int32} {n i : Nat} (hn : n ≤ 6) (hi : i < 6 ∨ i = 20 ∨ 22 ≤ i) : goM t n i = t i := by
  simp only [goM, gE3, gE2, gE1]
  rw [upd_ne _ _ (by omega), upd_ne _ _ (by omega), upd_ne _ _ (by omega), gM_out hn (by omega) n (Nat.le_refl n)]
/-- minutes, as long as the minute is below 999 -/
def mnL (n : Nat) : Nat → (Nat → Int32) → Nat → Int32
  | 0, t => t
  | r + 1, t => if 999 ≤ t 21 then t else mnL n r (goM t n)
theorem mnL_step {n mm k : Nat} {t : Nat → Int32} (h : k < mm) (hm : ¬ 999 ≤ t 21) : mnL n (mm - k) t = mnL n (mm - (k + 1)) (goM t n) := by
  rw [show mm - k = (mm - (k + 1)) + 1 by omega, mnL, if_neg hm]
theorem mnL_end {n mm k : Nat} {t : Nat → Int32} (h : mm ≤ k) : mnL n (mm - k) t = t := by rw [show mm - k = 0 by omega]; rfl
theorem mnL_999 {n r : Nat} {t : Nat → Int32} (h : 999 ≤ t 21) : mnL n r t = t := by cases r <;> simp [mnL, h]
def und (t : Nat → Int32) (v : Nat) : Nat → Int32 := va_cpy (upd t 78 (nI v)) (upd t 78 (nI v)) (79 + 22 * v) 0 22
theorem inI_nat {x : Int32} {a b : Nat} (ha : a < 2147483648) (hb : b < 2147483648) {A B : Int32} (hA : A = nI a) (hB : B = nI b) (h : inI x A B = true) : ∃ k, a ≤ k ∧ k ≤ b ∧ x = nI k := by
  subst hA; subst hB
  simp only [inI, Bool.and_eq_true, Bool.not_eq_true', decide_eq_false_iff_not] at h
  have e1 := (nI_toInt ha)
  have e2 := (nI_toInt hb)
  have h1 := h.1
  have h2 := h.2
  rw [Int32.lt_iff_toInt_lt] at h1 h2
  have h3 : ¬ x < 0 := by
    rw [Int32.lt_iff_toInt_lt, Int32.toInt_zero]
    omega
  obtain ⟨k, hk, rfl⟩ := nI_of h3
  rw [nI_toInt hk] at h1 h2
  exact ⟨k, by omega, by omega, rfl⟩
theorem inI_child {x c : Int32} {n : Nat} (hc : c = nI n) (hn : n ≤ 6) (h : inI x 0 (c - 1) = true) : ∃ k, k < n ∧ x = nI k := by
  subst hc
  rcases Nat.eq_zero_or_pos n with h0 | h0
  · subst h0
    exfalso
    simp only [inI, Bool.and_eq_true, Bool.not_eq_true', decide_eq_false_iff_not] at h
    have h1 := h.1
    have h2 := h.2
    rw [show nI 0 - 1 = (-1 : Int32) by decide] at h2
    rw [Int32.lt_iff_toInt_lt] at h1 h2
    rw [show (0 : Int32).toInt = 0 by decide] at h1
    rw [show (-1 : Int32).toInt = -1 by decide] at h2
    omega
  · obtain ⟨k, -, h2, h3⟩ := inI_nat (a := 0) (b := n - 1) (by omega) (by omega) rfl (show nI n - 1 = nI (n - 1) from pk_sub (a := n) (b := 1) h0) h
    exact ⟨k, by omega, h3⟩
end
section
set_option maxHeartbeats 1000000 in
set_option maxRecDepth 100000 in
theorem c_X6_table (l : Launch) (G : GG) (b : Nat → Nat) (x : Int32) (nw : Nat → Int32) (rd : Nat → Int32) (asd : Nat → Int32) (img : Nat → Int32) (kpt : Nat → Int32) (txt : Nat → Int32) (sz : Int32) (abv : Int64) (blw : Int64) (bds : Int32) (nos : Int32) (fls : Int32) (att : Int32) (bgn : Int32) (tkn : Int32) (wrd : Int64) (vlu : Int32) (sts : Nat → Int32) (bst : Nat → Int32) : CT l G yX6_table cX6_table 3 (some .int) 2 45 [.ref (b 0), .int x] (mW G b nw rd asd img kpt txt sz abv blw bds nos fls att bgn tkn wrd vlu sts bst) (some (.int (if inI x 0 7 then nw 22 else -2))) (mW G b (if inI x 0 7 then upd (pre bg0 nw 255) 20 x else nw) rd asd img kpt txt sz abv blw (if inI x 0 7 then bds else bds + 1) nos fls att bgn tkn wrd vlu sts bst) := by
  refine CT.mk (own := RX6) (la := [(0, .ref (b 0)), (1, .int x)]) (by decide) rfl (Nat.le_of_ble_eq_true rfl) rfl ?_
  intro p e s m args below meth c A Q E hA hw rt ls hl
  have hx := E.1
  have hb := E.2.1
  refine lv_iload_n hx hb dX6_table_0 rfl (lv_at hl 1 rfl) ?_
  refine x_callS (is := []) (As := [.int x]) (rest := []) (st1 := [.int (bI (inI x 0 7))]) (ws' := mW G b nw rd asd img kpt txt sz abv blw bds nos fls att bgn tkn wrd vlu sts bst) E (c_X6_isSeat l G x) sw_X6_59 hw [] rfl rfl rfl rfl hl.1 rfl rfl (Nat.le_of_ble_eq_true rfl) ⟨Nat.le_of_ble_eq_true rfl, Nat.le_of_ble_eq_true rfl⟩ (Nat.zero_le _) (Nat.zero_le _) dX6_table_1 rfl rfl (fun H locs hw => ?_)
  refine lv_if_ne (tgt := 12) hx hb dX6_table_4 rfl (fun cq4 => ?_) (fun cq4 => ?_)
  · skip
    have cq4 := bI_n0.mp cq4
    refine lv_aload_n hx hb dX6_table_12 rfl (lv_at hl 0 rfl) ?_
    refine x_get E hw fw_X6_7 0 rfl rfl dX6_table_13 ?_
    refine lv_bipush (v := 22) hx hb dX6_table_16 rfl ?_
    refine x_iald E hw 1 rfl 22 (rfl) (by omega) (by omega) dX6_table_18 ?_
    refine lv_istore_n (lv' := [(2, .int (nw 22)), (0, .ref (b 0)), (1, .int x)]) hx hb dX6_table_19 rfl hl (by decide) rfl (fun ls hl => ?_)
    refine lv_aload_n hx hb dX6_table_20 rfl (lv_at hl 1 rfl) ?_
    refine x_get E hw fw_X6_7 0 rfl rfl dX6_table_21 ?_
    refine lv_iload_n hx hb dX6_table_24 rfl (lv_at hl 2 rfl) ?_
    refine x_callS (is := [1]) (As := [.ref (b 1), .int x]) (rest := []) (st1 := []) (ws' := mW G b (upd (pre bg0 nw 255) 20 x) rd asd img kpt txt sz abv blw bds nos fls att bgn tkn wrd vlu sts bst) E (c_X6_begins l G (b 1) x nw) sw_X6_39 hw [1] rfl rfl rfl rfl hl.1 rfl rfl (Nat.le_of_ble_eq_true rfl) ⟨Nat.le_of_ble_eq_true rfl, Nat.le_of_ble_eq_true rfl⟩ (Nat.zero_le _) (Nat.zero_le _) dX6_table_25 rfl rfl (fun H locs hw => ?_)
    refine lv_iload_n hx hb dX6_table_28 rfl (lv_at hl 0 rfl) ?_
    exact x_iret E hA rt hw dX6_table_29 (by simp [cq4]) (by simp [cq4])
  · skip
    have cq4 := bI_0.mp cq4
    refine lv_aload_n hx hb dX6_table_7 rfl (lv_at hl 0 rfl) ?_
    refine x_callV (is := [0, 1, 2, 3, 4, 5, 6, 7, 8]) (q0 := 0) (As := []) (rest := []) (st1 := [.int (-2)]) (ws' := mW G b nw rd asd img kpt txt sz abv blw (bds + 1) nos fls att bgn tkn wrd vlu sts bst) E (c_X6_bad l G b nw rd asd img kpt txt sz abv blw bds nos fls att bgn tkn wrd vlu sts bst) vw_X6_63 hw [0, 1, 2, 3, 4, 5, 6, 7, 8] rfl rfl rfl rfl rfl rfl rfl hl.1 rfl rfl (Nat.le_of_ble_eq_true rfl) ⟨Nat.le_of_ble_eq_true rfl, Nat.le_of_ble_eq_true rfl⟩ (Nat.zero_le _) (Nat.zero_le _) dX6_table_8 rfl rfl (fun H locs hw => ?_)
    exact x_iret E hA rt hw dX6_table_11 (by simp [cq4]) (by simp [cq4])
set_option maxHeartbeats 1000000 in
set_option maxRecDepth 100000 in
theorem c_X6_child (l : Launch) (G : GG) (b : Nat → Nat) (xk : Int32) (xs : Int32) (xw : Int32) (xh : Int32) (nw : Nat → Int32) (rd : Nat → Int32) (asd : Nat → Int32) (img : Nat → Int32) (kpt : Nat → Int32) (txt : Nat → Int32) (sz : Int32) (abv : Int64) (blw : Int64) (bds : Int32) (nos : Int32) (fls : Int32) (att : Int32) (bgn : Int32) (tkn : Int32) (wrd : Int64) (vlu : Int32) (sts : Nat → Int32) (bst : Nat → Int32) (n : Nat) (hc : nw 22 = nI n) (hn : n ≤ 6) : CT l G yX6_child cX6_child 5 (some .int) 2 45 [.ref (b 0), .int xk, .int xs, .int xw, .int xh] (mW G b nw rd asd img kpt txt sz abv blw bds nos fls att bgn tkn wrd vlu sts bst) (some (.int (if (inI xk 0 5 && (inI xs 0 7 && (inI xw 0 20 && inI xh 0 30))) = true then (if fi nw xs n 0 = -1 then (if n = 6 then -4 else nI n) else -3) else -2))) (mW G b (if (inI xk 0 5 && (inI xs 0 7 && (inI xw 0 20 && inI xh 0 30))) = true ∧ fi nw xs n 0 = -1 ∧ ¬ n = 6 then upd (cmM nw n xk xs xw xh) 78 0 else nw) rd asd img kpt txt sz abv blw (if (inI xk 0 5 && (inI xs 0 7 && (inI xw 0 20 && inI xh 0 30))) = true then bds else bds + 1) (if (inI xk 0 5 && (inI xs 0 7 && (inI xw 0 20 && inI xh 0 30))) = true ∧ ¬ fi nw xs n 0 = -1 then nos + 1 else nos) (if (inI xk 0 5 && (inI xs 0 7 && (inI xw 0 20 && inI xh 0 30))) = true ∧ fi nw xs n 0 = -1 ∧ n = 6 then fls + 1 else fls) att bgn tkn wrd vlu sts bst) := by
  refine CT.mk (own := RX6) (la := [(0, .ref (b 0)), (1, .int xk), (2, .int xs), (3, .int xw), (4, .int xh)]) (by decide) rfl (Nat.le_of_ble_eq_true rfl) rfl ?_
  intro p e s m args below meth c A Q E hA hw rt ls hl
  have hx := E.1
  have hb := E.2.1
  refine lv_iload_n hx hb dX6_child_0 rfl (lv_at hl 1 rfl) ?_
  refine lv_i2l (v := xk.toInt64) hx hb dX6_child_1 rfl ?_
  refine lv_lconst (v := 0) hx hb dX6_child_2 rfl ?_
  refine lv_ldc2 hx hb E.2.2.2.1 (E.2.2.2.2.2.2.w kc_X6_67) dX6_child_3 ?_
  refine x_callS (is := []) (As := [.long xk.toInt64, .long 0, .long 5]) (rest := []) (st1 := [.int (bI (inL xk.toInt64 0 5))]) (ws' := mW G b nw rd asd img kpt txt sz abv blw bds nos fls att bgn tkn wrd vlu sts bst) E (c_X6_in l G xk.toInt64 0 5) sw_X6_55 hw [] rfl rfl rfl rfl hl.1 rfl rfl (Nat.le_of_ble_eq_true rfl) ⟨Nat.le_of_ble_eq_true rfl, Nat.le_of_ble_eq_true rfl⟩ (Nat.zero_le _) (Nat.zero_le _) dX6_child_6 rfl rfl (fun H locs hw => ?_)
  refine x_topi (y := bI (inI xk 0 5)) (congrArg bI (inL_I xk 0 5 rfl rfl)) ?_
  refine lv_if_eq (tgt := 44) hx hb dX6_child_9 rfl (fun cq9 => ?_) (fun cq9 => ?_)
  · skip
    have cq9 := bI_0.mp cq9
    refine lv_aload_n hx hb dX6_child_44 rfl (lv_at hl 0 rfl) ?_
    refine x_callV (is := [0, 1, 2, 3, 4, 5, 6, 7, 8]) (q0 := 0) (As := []) (rest := []) (st1 := [.int (-2)]) (ws' := mW G b nw rd asd img kpt txt sz abv blw (bds + 1) nos fls att bgn tkn wrd vlu sts bst) E (c_X6_bad l G b nw rd asd img kpt txt sz abv blw bds nos fls att bgn tkn wrd vlu sts bst) vw_X6_63 hw [0, 1, 2, 3, 4, 5, 6, 7, 8] rfl rfl rfl rfl rfl rfl rfl hl.1 rfl rfl (Nat.le_of_ble_eq_true rfl) ⟨Nat.le_of_ble_eq_true rfl, Nat.le_of_ble_eq_true rfl⟩ (Nat.zero_le _) (Nat.zero_le _) dX6_child_45 rfl rfl (fun H locs hw => ?_)
    exact x_iret E hA rt hw dX6_child_48 (by simp [cq9]) (by simp [cmM, cq9])
  · skip
    have cq9 := bI_n0.mp cq9
    refine lv_iload_n hx hb dX6_child_12 rfl (lv_at hl 2 rfl) ?_
    refine x_callS (is := []) (As := [.int xs]) (rest := []) (st1 := [.int (bI (inI xs 0 7))]) (ws' := mW G b nw rd asd img kpt txt sz abv blw bds nos fls att bgn tkn wrd vlu sts bst) E (c_X6_isSeat l G xs) sw_X6_59 hw [] rfl rfl rfl rfl hl.1 rfl rfl (Nat.le_of_ble_eq_true rfl) ⟨Nat.le_of_ble_eq_true rfl, Nat.le_of_ble_eq_true rfl⟩ (Nat.zero_le _) (Nat.zero_le _) dX6_child_13 rfl rfl (fun H locs hw => ?_)
    refine lv_if_eq (tgt := 44) hx hb dX6_child_16 rfl (fun cq16 => ?_) (fun cq16 => ?_)
    · skip
      have cq16 := bI_0.mp cq16
      refine lv_aload_n hx hb dX6_child_44 rfl (lv_at hl 0 rfl) ?_
      refine x_callV (is := [0, 1, 2, 3, 4, 5, 6, 7, 8]) (q0 := 0) (As := []) (rest := []) (st1 := [.int (-2)]) (ws' := mW G b nw rd asd img kpt txt sz abv blw (bds + 1) nos fls att bgn tkn wrd vlu sts bst) E (c_X6_bad l G b nw rd asd img kpt txt sz abv blw bds nos fls att bgn tkn wrd vlu sts bst) vw_X6_63 hw [0, 1, 2, 3, 4, 5, 6, 7, 8] rfl rfl rfl rfl rfl rfl rfl hl.1 rfl rfl (Nat.le_of_ble_eq_true rfl) ⟨Nat.le_of_ble_eq_true rfl, Nat.le_of_ble_eq_true rfl⟩ (Nat.zero_le _) (Nat.zero_le _) dX6_child_45 rfl rfl (fun H locs hw => ?_)
      exact x_iret E hA rt hw dX6_child_48 (by simp [cq9, cq16]) (by simp [cmM, cq9, cq16])
    · skip
      have cq16 := bI_n0.mp cq16
      refine lv_iload_n hx hb dX6_child_19 rfl (lv_at hl 3 rfl) ?_
      refine lv_i2l (v := xw.toInt64) hx hb dX6_child_20 rfl ?_
      refine lv_lconst (v := 0) hx hb dX6_child_21 rfl ?_
      refine lv_ldc2 hx hb E.2.2.2.1 (E.2.2.2.2.2.2.w kc_X6_69) dX6_child_22 ?_
      refine x_callS (is := []) (As := [.long xw.toInt64, .long 0, .long 20]) (rest := []) (st1 := [.int (bI (inL xw.toInt64 0 20))]) (ws' := mW G b nw rd asd img kpt txt sz abv blw bds nos fls att bgn tkn wrd vlu sts bst) E (c_X6_in l G xw.toInt64 0 20) sw_X6_55 hw [] rfl rfl rfl rfl hl.1 rfl rfl (Nat.le_of_ble_eq_true rfl) ⟨Nat.le_of_ble_eq_true rfl, Nat.le_of_ble_eq_true rfl⟩ (Nat.zero_le _) (Nat.zero_le _) dX6_child_25 rfl rfl (fun H locs hw => ?_)
      refine x_topi (y := bI (inI xw 0 20)) (congrArg bI (inL_I xw 0 20 rfl rfl)) ?_
      refine lv_if_eq (tgt := 44) hx hb dX6_child_28 rfl (fun cq28 => ?_) (fun cq28 => ?_)
      · skip
        have cq28 := bI_0.mp cq28
        refine lv_aload_n hx hb dX6_child_44 rfl (lv_at hl 0 rfl) ?_
        refine x_callV (is := [0, 1, 2, 3, 4, 5, 6, 7, 8]) (q0 := 0) (As := []) (rest := []) (st1 := [.int (-2)]) (ws' := mW G b nw rd asd img kpt txt sz abv blw (bds + 1) nos fls att bgn tkn wrd vlu sts bst) E (c_X6_bad l G b nw rd asd img kpt txt sz abv blw bds nos fls att bgn tkn wrd vlu sts bst) vw_X6_63 hw [0, 1, 2, 3, 4, 5, 6, 7, 8] rfl rfl rfl rfl rfl rfl rfl hl.1 rfl rfl (Nat.le_of_ble_eq_true rfl) ⟨Nat.le_of_ble_eq_true rfl, Nat.le_of_ble_eq_true rfl⟩ (Nat.zero_le _) (Nat.zero_le _) dX6_child_45 rfl rfl (fun H locs hw => ?_)
        exact x_iret E hA rt hw dX6_child_48 (by simp [cq9, cq16, cq28]) (by simp [cmM, cq9, cq16, cq28])
      · skip
        have cq28 := bI_n0.mp cq28
        refine lv_iload hx hb dX6_child_31 (lv_at hl 4 rfl) ?_
        refine lv_i2l (v := xh.toInt64) hx hb dX6_child_33 rfl ?_
        refine lv_lconst (v := 0) hx hb dX6_child_34 rfl ?_
        refine lv_ldc2 hx hb E.2.2.2.1 (E.2.2.2.2.2.2.w kc_X6_71) dX6_child_35 ?_
        refine x_callS (is := []) (As := [.long xh.toInt64, .long 0, .long 30]) (rest := []) (st1 := [.int (bI (inL xh.toInt64 0 30))]) (ws' := mW G b nw rd asd img kpt txt sz abv blw bds nos fls att bgn tkn wrd vlu sts bst) E (c_X6_in l G xh.toInt64 0 30) sw_X6_55 hw [] rfl rfl rfl rfl hl.1 rfl rfl (Nat.le_of_ble_eq_true rfl) ⟨Nat.le_of_ble_eq_true rfl, Nat.le_of_ble_eq_true rfl⟩ (Nat.zero_le _) (Nat.zero_le _) dX6_child_38 rfl rfl (fun H locs hw => ?_)
        refine x_topi (y := bI (inI xh 0 30)) (congrArg bI (inL_I xh 0 30 rfl rfl)) ?_
        refine lv_if_ne (tgt := 49) hx hb dX6_child_41 rfl (fun cq41 => ?_) (fun cq41 => ?_)
        · skip
          have cq41 := bI_n0.mp cq41
          refine lv_aload_n hx hb dX6_child_49 rfl (lv_at hl 0 rfl) ?_
          refine x_get E hw fw_X6_7 0 rfl rfl dX6_child_50 ?_
          refine lv_iload_n hx hb dX6_child_53 rfl (lv_at hl 2 rfl) ?_
          refine x_callS (is := [1]) (As := [.ref (b 1), .int xs]) (rest := []) (st1 := [.int (fi nw xs n 0)]) (ws' := mW G b nw rd asd img kpt txt sz abv blw bds nos fls att bgn tkn wrd vlu sts bst) E (c_X6_whoIs l G (b 1) xs nw 255 n (by omega) (by omega) (hc) (by omega)) sw_X6_73 hw [1] rfl rfl rfl rfl hl.1 rfl rfl (Nat.le_of_ble_eq_true rfl) ⟨Nat.le_of_ble_eq_true rfl, Nat.le_of_ble_eq_true rfl⟩ (Nat.zero_le _) (Nat.zero_le _) dX6_child_54 rfl rfl (fun H locs hw => ?_)
          refine lv_iconst (v := -1) hx hb dX6_child_57 rfl ?_
          refine lv_icmp_eq (tgt := 66) hx hb dX6_child_58 rfl (fun cq58 => ?_) (fun cq58 => ?_)
          · skip
            refine lv_aload_n hx hb dX6_child_66 rfl (lv_at hl 0 rfl) ?_
            refine x_get E hw fw_X6_7 0 rfl rfl dX6_child_67 ?_
            refine lv_bipush (v := 22) hx hb dX6_child_70 rfl ?_
            refine x_iald E hw 1 rfl 22 (rfl) (by omega) (by omega) dX6_child_72 ?_
            refine lv_bipush (v := 6) hx hb dX6_child_73 rfl ?_
            refine lv_icmp_ne (tgt := 83) hx hb dX6_child_75 rfl (fun cq75 => ?_) (fun cq75 => ?_)
            · skip
              have cq75 : ¬ n = 6 := fun h => cq75 ((cv_eq (a := n) (b := 6) hc rfl (by omega) (by omega)).mpr h)
              refine lv_aload_n hx hb dX6_child_83 rfl (lv_at hl 0 rfl) ?_
              refine x_get E hw fw_X6_7 0 rfl rfl dX6_child_84 ?_
              refine lv_iload_n hx hb dX6_child_87 rfl (lv_at hl 1 rfl) ?_
              refine lv_iload_n hx hb dX6_child_88 rfl (lv_at hl 2 rfl) ?_
              refine lv_iload_n hx hb dX6_child_89 rfl (lv_at hl 3 rfl) ?_
              refine lv_iload hx hb dX6_child_90 (lv_at hl 4 rfl) ?_
              refine x_callS (is := [1]) (As := [.ref (b 1), .int xk, .int xs, .int xw, .int xh]) (rest := []) (st1 := []) (ws' := mW G b (upd (upd (upd (upd (upd nw (23 + n) xk) n xs) (29 + n) xw) (6 + n) xh) 22 (nI (n + 1))) rd asd img kpt txt sz abv blw bds nos fls att bgn tkn wrd vlu sts bst) E (c_X6_comes l G (b 1) xk xs xw xh nw 255 n (by omega) (by omega) (hc) (by omega)) sw_X6_83 hw [1] rfl rfl rfl rfl hl.1 rfl rfl (Nat.le_of_ble_eq_true rfl) ⟨Nat.le_of_ble_eq_true rfl, Nat.le_of_ble_eq_true rfl⟩ (Nat.zero_le _) (Nat.zero_le _) dX6_child_92 rfl rfl (fun H locs hw => ?_)
              refine lv_aload_n hx hb dX6_child_95 rfl (lv_at hl 0 rfl) ?_
              refine x_get E hw fw_X6_7 0 rfl rfl dX6_child_96 ?_
              refine lv_bipush (v := 78) hx hb dX6_child_99 rfl ?_
              refine lv_iconst (v := 0) hx hb dX6_child_101 rfl ?_
              refine x_iast (ws' := mW G b (upd (upd (upd (upd (upd (upd nw (23 + n) xk) n xs) (29 + n) xw) (6 + n) xh) 22 (nI (n + 1))) 78 0) rd asd img kpt txt sz abv blw bds nos fls att bgn tkn wrd vlu sts bst) E hw 1 rfl 78 (rfl) (by omega) (by omega) dX6_child_102 rfl (fun H locs hw => ?_)
              refine lv_aload_n hx hb dX6_child_103 rfl (lv_at hl 0 rfl) ?_
              refine x_get E hw fw_X6_7 0 rfl rfl dX6_child_104 ?_
              refine lv_bipush (v := 22) hx hb dX6_child_107 rfl ?_
              refine x_iald E hw 1 rfl 22 (rfl) (by omega) (by omega) dX6_child_109 ?_
              refine lv_iconst (v := 1) hx hb dX6_child_110 rfl ?_
              refine lv_isub hx hb dX6_child_111 ?_
              refine x_topi (y := nI n) (by rw [upd_ne _ _ (by omega), upd_at]; exact nI_pred n) ?_
              exact x_iret E hA rt hw dX6_child_112 (by simp [cq9, cq16, cq28, cq41, cq58, cq75]) (by simp [cmM, cq9, cq16, cq28, cq41, cq58, cq75])
            · skip
              have cq75 : n = 6 := (cv_eq (a := n) (b := 6) hc rfl (by omega) (by omega)).mp cq75
              rw [cq75] at cq58
              refine lv_aload_n hx hb dX6_child_78 rfl (lv_at hl 0 rfl) ?_
              refine x_callV (is := [0, 1, 2, 3, 4, 5, 6, 7, 8]) (q0 := 0) (As := []) (rest := []) (st1 := [.int (-4)]) (ws' := mW G b nw rd asd img kpt txt sz abv blw bds nos (fls + 1) att bgn tkn wrd vlu sts bst) E (c_X6_full l G b nw rd asd img kpt txt sz abv blw bds nos fls att bgn tkn wrd vlu sts bst) vw_X6_80 hw [0, 1, 2, 3, 4, 5, 6, 7, 8] rfl rfl rfl rfl rfl rfl rfl hl.1 rfl rfl (Nat.le_of_ble_eq_true rfl) ⟨Nat.le_of_ble_eq_true rfl, Nat.le_of_ble_eq_true rfl⟩ (Nat.zero_le _) (Nat.zero_le _) dX6_child_79 rfl rfl (fun H locs hw => ?_)
              exact x_iret E hA rt hw dX6_child_82 (by simp [cq9, cq16, cq28, cq41, cq58, cq75]) (by simp [cmM, cq9, cq16, cq28, cq41, cq58, cq75])
          · skip
            refine lv_aload_n hx hb dX6_child_61 rfl (lv_at hl 0 rfl) ?_
            refine x_callV (is := [0, 1, 2, 3, 4, 5, 6, 7, 8]) (q0 := 0) (As := []) (rest := []) (st1 := [.int (-3)]) (ws' := mW G b nw rd asd img kpt txt sz abv blw bds (nos + 1) fls att bgn tkn wrd vlu sts bst) E (c_X6_no l G b nw rd asd img kpt txt sz abv blw bds nos fls att bgn tkn wrd vlu sts bst) vw_X6_77 hw [0, 1, 2, 3, 4, 5, 6, 7, 8] rfl rfl rfl rfl rfl rfl rfl hl.1 rfl rfl (Nat.le_of_ble_eq_true rfl) ⟨Nat.le_of_ble_eq_true rfl, Nat.le_of_ble_eq_true rfl⟩ (Nat.zero_le _) (Nat.zero_le _) dX6_child_62 rfl rfl (fun H locs hw => ?_)
            exact x_iret E hA rt hw dX6_child_65 (by simp [cq9, cq16, cq28, cq41, cq58]) (by simp [cmM, cq9, cq16, cq28, cq41, cq58])
        · skip
          have cq41 := bI_0.mp cq41
          refine lv_aload_n hx hb dX6_child_44 rfl (lv_at hl 0 rfl) ?_
          refine x_callV (is := [0, 1, 2, 3, 4, 5, 6, 7, 8]) (q0 := 0) (As := []) (rest := []) (st1 := [.int (-2)]) (ws' := mW G b nw rd asd img kpt txt sz abv blw (bds + 1) nos fls att bgn tkn wrd vlu sts bst) E (c_X6_bad l G b nw rd asd img kpt txt sz abv blw bds nos fls att bgn tkn wrd vlu sts bst) vw_X6_63 hw [0, 1, 2, 3, 4, 5, 6, 7, 8] rfl rfl rfl rfl rfl rfl rfl hl.1 rfl rfl (Nat.le_of_ble_eq_true rfl) ⟨Nat.le_of_ble_eq_true rfl, Nat.le_of_ble_eq_true rfl⟩ (Nat.zero_le _) (Nat.zero_le _) dX6_child_45 rfl rfl (fun H locs hw => ?_)
          exact x_iret E hA rt hw dX6_child_48 (by simp [cq9, cq16, cq28, cq41]) (by simp [cmM, cq9, cq16, cq28, cq41])
set_option maxHeartbeats 1000000 in
set_option maxRecDepth 100000 in
theorem c_X6_type (l : Launch) (G : GG) (b : Nat → Nat) (x : Int32) (nw : Nat → Int32) (rd : Nat → Int32) (asd : Nat → Int32) (img : Nat → Int32) (kpt : Nat → Int32) (txt : Nat → Int32) (sz : Int32) (abv : Int64) (blw : Int64) (bds : Int32) (nos : Int32) (fls : Int32) (att : Int32) (bgn : Int32) (tkn : Int32) (wrd : Int64) (vlu : Int32) (sts : Nat → Int32) (bst : Nat → Int32) (z : Nat) (hz : sz = nI z) (hz1 : z ≤ 150) : CT l G yX6_type cX6_type 2 (some .int) 1 25 [.ref (b 0), .int x] (mW G b nw rd asd img kpt txt sz abv blw bds nos fls att bgn tkn wrd vlu sts bst) (some (.int (if inI x 0 127 then (if z = 150 then -4 else sz + 1) else -2))) (mW G b nw rd asd img kpt (if inI x 0 127 = true ∧ ¬ z = 150 then upd txt z x else txt) (if inI x 0 127 = true ∧ ¬ z = 150 then sz + 1 else sz) abv blw (if inI x 0 127 then bds else bds + 1) nos (if inI x 0 127 = true ∧ z = 150 then fls + 1 else fls) att bgn tkn wrd vlu sts bst) := by
  refine CT.mk (own := RX6) (la := [(0, .ref (b 0)), (1, .int x)]) (by decide) rfl (Nat.le_of_ble_eq_true rfl) rfl ?_
  intro p e s m args below meth c A Q E hA hw rt ls hl
  have hx := E.1
  have hb := E.2.1
  refine lv_iload_n hx hb dX6_type_0 rfl (lv_at hl 1 rfl) ?_
  refine lv_i2l (v := x.toInt64) hx hb dX6_type_1 rfl ?_
  refine lv_lconst (v := 0) hx hb dX6_type_2 rfl ?_
  refine lv_ldc2 hx hb E.2.2.2.1 (E.2.2.2.2.2.2.w kc_X6_87) dX6_type_3 ?_
  refine x_callS (is := []) (As := [.long x.toInt64, .long 0, .long 127]) (rest := []) (st1 := [.int (bI (inL x.toInt64 0 127))]) (ws' := mW G b nw rd asd img kpt txt sz abv blw bds nos fls att bgn tkn wrd vlu sts bst) E (c_X6_in l G x.toInt64 0 127) sw_X6_55 hw [] rfl rfl rfl rfl hl.1 rfl rfl (Nat.le_of_ble_eq_true rfl) ⟨Nat.le_of_ble_eq_true rfl, Nat.le_of_ble_eq_true rfl⟩ (Nat.zero_le _) (Nat.zero_le _) dX6_type_6 rfl rfl (fun H locs hw => ?_)
  refine x_topi (y := bI (inI x 0 127)) (congrArg bI (inL_I x 0 127 rfl rfl)) ?_
  refine lv_if_ne (tgt := 17) hx hb dX6_type_9 rfl (fun cq9 => ?_) (fun cq9 => ?_)
  · skip
    have cq9 := bI_n0.mp cq9
    refine lv_aload_n hx hb dX6_type_17 rfl (lv_at hl 0 rfl) ?_
    refine x_get E hw fw_X6_89 0 rfl rfl dX6_type_18 ?_
    refine lv_sipush (v := 150) hx hb dX6_type_21 rfl ?_
    refine lv_icmp_ne (tgt := 32) hx hb dX6_type_24 rfl (fun cq24 => ?_) (fun cq24 => ?_)
    · skip
      have cq24 : ¬ z = 150 := fun h => cq24 ((cv_eq (a := z) (b := 150) hz rfl (by omega) (by omega)).mpr h)
      refine lv_aload_n hx hb dX6_type_32 rfl (lv_at hl 0 rfl) ?_
      refine x_get E hw fw_X6_26 0 rfl rfl dX6_type_33 ?_
      refine lv_aload_n hx hb dX6_type_36 rfl (lv_at hl 0 rfl) ?_
      refine x_get E hw fw_X6_89 0 rfl rfl dX6_type_37 ?_
      refine lv_iload_n hx hb dX6_type_40 rfl (lv_at hl 1 rfl) ?_
      refine x_iast (ws' := mW G b nw rd asd img kpt (upd txt z x) sz abv blw bds nos fls att bgn tkn wrd vlu sts bst) E hw 6 rfl z (hz) (by omega) (by omega) dX6_type_41 rfl (fun H locs hw => ?_)
      refine lv_aload_n hx hb dX6_type_42 rfl (lv_at hl 0 rfl) ?_
      refine lv_dup hx hb dX6_type_43 rfl ?_
      refine x_get E hw fw_X6_89 0 rfl rfl dX6_type_44 ?_
      refine lv_iconst (v := 1) hx hb dX6_type_47 rfl ?_
      refine lv_iadd hx hb dX6_type_48 ?_
      refine x_put (ws' := mW G b nw rd asd img kpt (upd txt z x) (sz + 1) abv blw bds nos fls att bgn tkn wrd vlu sts bst) (ty := .int) E hw fw_X6_89 0 rfl rfl rfl (by decide +kernel) rfl rfl (Nat.le_of_ble_eq_true rfl) dX6_type_49 rfl (fun H locs hw => ?_)
      refine lv_aload_n hx hb dX6_type_52 rfl (lv_at hl 0 rfl) ?_
      refine x_get E hw fw_X6_89 0 rfl rfl dX6_type_53 ?_
      exact x_iret E hA rt hw dX6_type_56 (by simp [cq9, cq24]) (by simp [cq9, cq24])
    · skip
      have cq24 : z = 150 := (cv_eq (a := z) (b := 150) hz rfl (by omega) (by omega)).mp cq24
      refine lv_aload_n hx hb dX6_type_27 rfl (lv_at hl 0 rfl) ?_
      refine x_callV (is := [0, 1, 2, 3, 4, 5, 6, 7, 8]) (q0 := 0) (As := []) (rest := []) (st1 := [.int (-4)]) (ws' := mW G b nw rd asd img kpt txt sz abv blw bds nos (fls + 1) att bgn tkn wrd vlu sts bst) E (c_X6_full l G b nw rd asd img kpt txt sz abv blw bds nos fls att bgn tkn wrd vlu sts bst) vw_X6_80 hw [0, 1, 2, 3, 4, 5, 6, 7, 8] rfl rfl rfl rfl rfl rfl rfl hl.1 rfl rfl (Nat.le_of_ble_eq_true rfl) ⟨Nat.le_of_ble_eq_true rfl, Nat.le_of_ble_eq_true rfl⟩ (Nat.zero_le _) (Nat.zero_le _) dX6_type_28 rfl rfl (fun H locs hw => ?_)
      exact x_iret E hA rt hw dX6_type_31 (by simp [cq9, cq24]) (by simp [cq9, cq24])
  · skip
    have cq9 := bI_0.mp cq9
    refine lv_aload_n hx hb dX6_type_12 rfl (lv_at hl 0 rfl) ?_
    refine x_callV (is := [0, 1, 2, 3, 4, 5, 6, 7, 8]) (q0 := 0) (As := []) (rest := []) (st1 := [.int (-2)]) (ws' := mW G b nw rd asd img kpt txt sz abv blw (bds + 1) nos fls att bgn tkn wrd vlu sts bst) E (c_X6_bad l G b nw rd asd img kpt txt sz abv blw bds nos fls att bgn tkn wrd vlu sts bst) vw_X6_63 hw [0, 1, 2, 3, 4, 5, 6, 7, 8] rfl rfl rfl rfl rfl rfl rfl hl.1 rfl rfl (Nat.le_of_ble_eq_true rfl) ⟨Nat.le_of_ble_eq_true rfl, Nat.le_of_ble_eq_true rfl⟩ (Nat.zero_le _) (Nat.zero_le _) dX6_type_13 rfl rfl (fun H locs hw => ?_)
    exact x_iret E hA rt hw dX6_type_16 (by simp [cq9]) (by simp [cq9])
set_option maxHeartbeats 1000000 in
set_option maxRecDepth 100000 in
theorem c_X6_clear (l : Launch) (G : GG) (b : Nat → Nat) (nw : Nat → Int32) (rd : Nat → Int32) (asd : Nat → Int32) (img : Nat → Int32) (kpt : Nat → Int32) (txt : Nat → Int32) (sz : Int32) (abv : Int64) (blw : Int64) (bds : Int32) (nos : Int32) (fls : Int32) (att : Int32) (bgn : Int32) (tkn : Int32) (wrd : Int64) (vlu : Int32) (sts : Nat → Int32) (bst : Nat → Int32) : CT l G yX6_clear cX6_clear 2 (some .int) 0 0 [.ref (b 0)] (mW G b nw rd asd img kpt txt sz abv blw bds nos fls att bgn tkn wrd vlu sts bst) (some (.int sz)) (mW G b nw rd asd img kpt txt 0 abv blw bds nos fls att bgn tkn wrd vlu sts bst) := by
  refine CT.mk (own := RX6) (la := [(0, .ref (b 0))]) (by decide) rfl (Nat.le_of_ble_eq_true rfl) rfl ?_
  intro p e s m args below meth c A Q E hA hw rt ls hl
  have hx := E.1
  have hb := E.2.1
  refine lv_aload_n hx hb dX6_clear_0 rfl (lv_at hl 0 rfl) ?_
  refine x_get E hw fw_X6_89 0 rfl rfl dX6_clear_1 ?_
  refine lv_istore_n (lv' := [(1, .int sz), (0, .ref (b 0))]) hx hb dX6_clear_4 rfl hl (by decide) rfl (fun ls hl => ?_)
  refine lv_aload_n hx hb dX6_clear_5 rfl (lv_at hl 1 rfl) ?_
  refine lv_iconst (v := 0) hx hb dX6_clear_6 rfl ?_
  refine x_put (ws' := mW G b nw rd asd img kpt txt 0 abv blw bds nos fls att bgn tkn wrd vlu sts bst) (ty := .int) E hw fw_X6_89 0 rfl rfl rfl (by decide +kernel) rfl rfl (Nat.le_of_ble_eq_true rfl) dX6_clear_7 rfl (fun H locs hw => ?_)
  refine lv_iload_n hx hb dX6_clear_10 rfl (lv_at hl 0 rfl) ?_
  exact x_iret E hA rt hw dX6_clear_11 (rfl) rfl
set_option maxHeartbeats 1000000 in
set_option maxRecDepth 100000 in
theorem c_X6_remember (l : Launch) (G : GG) (b : Nat → Nat) (nw : Nat → Int32) (rd : Nat → Int32) (asd : Nat → Int32) (img : Nat → Int32) (kpt : Nat → Int32) (txt : Nat → Int32) (sz : Int32) (abv : Int64) (blw : Int64) (bds : Int32) (nos : Int32) (fls : Int32) (att : Int32) (bgn : Int32) (tkn : Int32) (wrd : Int64) (vlu : Int32) (sts : Nat → Int32) (bst : Nat → Int32) (n : Nat) (u : Nat) (hu8 : nw 78 = nI u) (hu : u ≤ 8) : CT l G yX6_remember cX6_remember 2 none 1 25 [.ref (b 0)] (mW G b nw rd asd img kpt txt sz abv blw bds nos fls att bgn tkn wrd vlu sts bst) none (mW G b (rmb nw u) rd asd img kpt txt sz abv blw bds nos fls att bgn tkn wrd vlu sts bst) := by
  refine CT.mk (own := RX6) (la := [(0, .ref (b 0))]) (by decide) rfl (Nat.le_of_ble_eq_true rfl) rfl ?_
  intro p e s m args below meth c A Q E hA hw rt ls hl
  have hx := E.1
  have hb := E.2.1
  refine lv_aload_n hx hb dX6_remember_0 rfl (lv_at hl 0 rfl) ?_
  refine x_get E hw fw_X6_7 0 rfl rfl dX6_remember_1 ?_
  refine lv_bipush (v := 78) hx hb dX6_remember_4 rfl ?_
  refine x_iald E hw 1 rfl 78 (rfl) (by omega) (by omega) dX6_remember_6 ?_
  refine lv_bipush (v := 8) hx hb dX6_remember_7 rfl ?_
  refine lv_icmp_ne (tgt := 59) hx hb dX6_remember_9 rfl (fun cq9 => ?_) (fun cq9 => ?_)
  · skip
    have cq9 : ¬ u = 8 := fun h => cq9 ((cv_eq (a := u) (b := 8) hu8 rfl (by omega) (by omega)).mpr h)
    refine lv_aload_n hx hb dX6_remember_59 rfl (lv_at hl 0 rfl) ?_
    refine x_get E hw fw_X6_7 0 rfl rfl dX6_remember_60 ?_
    refine lv_iconst (v := 0) hx hb dX6_remember_63 rfl ?_
    refine lv_aload_n hx hb dX6_remember_64 rfl (lv_at hl 0 rfl) ?_
    refine x_get E hw fw_X6_7 0 rfl rfl dX6_remember_65 ?_
    refine lv_bipush (v := 79) hx hb dX6_remember_68 rfl ?_
    refine lv_bipush (v := 22) hx hb dX6_remember_70 rfl ?_
    refine lv_aload_n hx hb dX6_remember_72 rfl (lv_at hl 0 rfl) ?_
    refine x_get E hw fw_X6_7 0 rfl rfl dX6_remember_73 ?_
    refine lv_bipush (v := 78) hx hb dX6_remember_76 rfl ?_
    refine x_iald E hw 1 rfl 78 (rfl) (by omega) (by omega) dX6_remember_78 ?_
    refine lv_imul hx hb dX6_remember_79 ?_
    refine lv_iadd hx hb dX6_remember_80 ?_
    refine lv_bipush (v := 22) hx hb dX6_remember_81 rfl ?_
    refine x_callS (is := [1]) (As := [.ref (b 1), .int 0, .ref (b 1), .int (79 + (22 * (nw 78))), .int 22]) (rest := []) (st1 := []) (ws' := mW G b (va_cpy nw nw 0 (79 + (22 * u)) 22) rd asd img kpt txt sz abv blw bds nos fls att bgn tkn wrd vlu sts bst) E (c_copiesS l G (b 1) 0 0 (rfl) (79 + (22 * (nw 78))) (79 + (22 * u)) ((ix_add (a := 79) (b := 22 * u) rfl (ix_mul (a := 22) (b := u) rfl hu8))) 22 22 (rfl) nw 255 (by omega) (by omega) (by omega) (by omega)) sw_X6_152 hw [1] rfl rfl rfl rfl hl.1 rfl rfl (Nat.le_of_ble_eq_true rfl) ⟨Nat.le_of_ble_eq_true rfl, Nat.le_of_ble_eq_true rfl⟩ (Nat.zero_le _) (Nat.zero_le _) dX6_remember_83 rfl rfl (fun H locs hw => ?_)
    refine lv_aload_n hx hb dX6_remember_86 rfl (lv_at hl 0 rfl) ?_
    refine x_get E hw fw_X6_7 0 rfl rfl dX6_remember_87 ?_
    refine lv_bipush (v := 78) hx hb dX6_remember_90 rfl ?_
    refine lv_dup2_11 hx hb dX6_remember_92 rfl rfl ?_
    refine x_iald E hw 1 rfl 78 (rfl) (by omega) (by omega) dX6_remember_93 ?_
    refine lv_iconst (v := 1) hx hb dX6_remember_94 rfl ?_
    refine lv_iadd hx hb dX6_remember_95 ?_
    refine x_topi (y := nI (u + 1)) (by rw [pk_cpy_out (by omega), hu8]; exact nI_add u 1) ?_
    refine x_iast (ws' := mW G b (upd (va_cpy nw nw 0 (79 + (22 * u)) 22) 78 (nI (u + 1))) rd asd img kpt txt sz abv blw bds nos fls att bgn tkn wrd vlu sts bst) E hw 1 rfl 78 (rfl) (by omega) (by omega) dX6_remember_96 rfl (fun H locs hw => ?_)
    exact x_vret E hA rt hw dX6_remember_97 (by simp [rmb, rmF, cq9])
  · skip
    have cq9 : u = 8 := (cv_eq (a := u) (b := 8) hu8 rfl (by omega) (by omega)).mp cq9
    refine lv_iconst (v := 0) hx hb dX6_remember_12 rfl ?_
    refine lv_istore_n (lv' := [(1, .int 0), (0, .ref (b 0))]) hx hb dX6_remember_13 rfl hl (by decide) rfl (fun ls hl => ?_)
    have lp14 : ∀ (fuel : Nat), ∀ (k : Nat) (t : Nat → Int32) (hk : k ≤ 154) (ht : t = shf nw k), (154 - k) < fuel → ∀ (H : Heap) (locs : List Loc) (ls : Array Slot), Wd G A s H locs (mW G b t rd asd img kpt txt sz abv blw bds nos fls att bgn tkn wrd vlu sts bst) → lv_has ls 2 [(0, .ref (b 0)), (1, .int (nI k))] → W p l e (rmx 1 25) s m args below meth c H locs 0 0 Q (F0 m 14 ls []) := by
      intro fuel
      induction fuel with
      | zero => intro k t hk ht hfu; exact absurd hfu (Nat.not_lt_zero _)
      | succ fuel ih14 =>
        intro k t hk ht hfu H locs ls hw hl
        refine lv_iload_n hx hb dX6_remember_14 rfl (lv_at hl 1 rfl) ?_
        refine lv_sipush (v := 154) hx hb dX6_remember_15 rfl ?_
        refine lv_icmp_ge (tgt := 48) hx hb dX6_remember_18 rfl (fun cq18 => ?_) (fun cq18 => ?_)
        · skip
          have cq18 : 154 ≤ k := (cv_le (a := 154) (b := k) rfl rfl (by omega) (by omega)).mp cq18
          have ek : k = 154 := by omega
          rw [ht, ek] at hw
          refine lv_aload_n hx hb dX6_remember_48 rfl (lv_at hl 0 rfl) ?_
          refine x_get E hw fw_X6_7 0 rfl rfl dX6_remember_49 ?_
          refine lv_bipush (v := 78) hx hb dX6_remember_52 rfl ?_
          refine lv_dup2_11 hx hb dX6_remember_54 rfl rfl ?_
          refine x_iald E hw 1 rfl 78 (rfl) (by omega) (by omega) dX6_remember_55 ?_
          refine lv_iconst (v := 1) hx hb dX6_remember_56 rfl ?_
          refine lv_isub hx hb dX6_remember_57 ?_
          refine x_topi (y := nI 7) (by rw [shf_out (by omega), hu8, cq9]; rfl) ?_
          refine x_iast (ws' := mW G b (upd (shf nw 154) 78 (nI 7)) rd asd img kpt txt sz abv blw bds nos fls att bgn tkn wrd vlu sts bst) E hw 1 rfl 78 (rfl) (by omega) (by omega) dX6_remember_58 rfl (fun H locs hw => ?_)
          refine lv_aload_n hx hb dX6_remember_59 rfl (lv_at hl 0 rfl) ?_
          refine x_get E hw fw_X6_7 0 rfl rfl dX6_remember_60 ?_
          refine lv_iconst (v := 0) hx hb dX6_remember_63 rfl ?_
          refine lv_aload_n hx hb dX6_remember_64 rfl (lv_at hl 0 rfl) ?_
          refine x_get E hw fw_X6_7 0 rfl rfl dX6_remember_65 ?_
          refine lv_bipush (v := 79) hx hb dX6_remember_68 rfl ?_
          refine lv_bipush (v := 22) hx hb dX6_remember_70 rfl ?_
          refine lv_aload_n hx hb dX6_remember_72 rfl (lv_at hl 0 rfl) ?_
          refine x_get E hw fw_X6_7 0 rfl rfl dX6_remember_73 ?_
          refine lv_bipush (v := 78) hx hb dX6_remember_76 rfl ?_
          refine x_iald E hw 1 rfl 78 (rfl) (by omega) (by omega) dX6_remember_78 ?_
          refine lv_imul hx hb dX6_remember_79 ?_
          refine lv_iadd hx hb dX6_remember_80 ?_
          refine lv_bipush (v := 22) hx hb dX6_remember_81 rfl ?_
          refine x_callS (is := [1]) (As := [.ref (b 1), .int 0, .ref (b 1), .int (79 + (22 * ((upd (shf nw 154) 78 (nI 7)) 78))), .int 22]) (rest := []) (st1 := []) (ws' := mW G b (va_cpy (upd (shf nw 154) 78 (nI 7)) (upd (shf nw 154) 78 (nI 7)) 0 (79 + (22 * 7)) 22) rd asd img kpt txt sz abv blw bds nos fls att bgn tkn wrd vlu sts bst) E (c_copiesS l G (b 1) 0 0 (rfl) (79 + (22 * ((upd (shf nw 154) 78 (nI 7)) 78))) (79 + (22 * 7)) ((ix_add (a := 79) (b := 22 * 7) rfl (ix_mul (a := 22) (b := 7) rfl (upd_at _ _ _)))) 22 22 (rfl) (upd (shf nw 154) 78 (nI 7)) 255 (by omega) (by omega) (by omega) (by omega)) sw_X6_152 hw [1] rfl rfl rfl rfl hl.1 rfl rfl (Nat.le_of_ble_eq_true rfl) ⟨Nat.le_of_ble_eq_true rfl, Nat.le_of_ble_eq_true rfl⟩ (Nat.zero_le _) (Nat.zero_le _) dX6_remember_83 rfl rfl (fun H locs hw => ?_)
          refine lv_aload_n hx hb dX6_remember_86 rfl (lv_at hl 0 rfl) ?_
          refine x_get E hw fw_X6_7 0 rfl rfl dX6_remember_87 ?_
          refine lv_bipush (v := 78) hx hb dX6_remember_90 rfl ?_
          refine lv_dup2_11 hx hb dX6_remember_92 rfl rfl ?_
          refine x_iald E hw 1 rfl 78 (rfl) (by omega) (by omega) dX6_remember_93 ?_
          refine lv_iconst (v := 1) hx hb dX6_remember_94 rfl ?_
          refine lv_iadd hx hb dX6_remember_95 ?_
          refine x_topi (y := nI 8) (by rw [pk_cpy_out (by omega), upd_at]; rfl) ?_
          refine x_iast (ws' := mW G b (upd (va_cpy (upd (shf nw 154) 78 (nI 7)) (upd (shf nw 154) 78 (nI 7)) 0 (79 + (22 * 7)) 22) 78 (nI 8)) rd asd img kpt txt sz abv blw bds nos fls att bgn tkn wrd vlu sts bst) E hw 1 rfl 78 (rfl) (by omega) (by omega) dX6_remember_96 rfl (fun H locs hw => ?_)
          exact x_vret E hA rt hw dX6_remember_97 (by simp [rmb, rmF, cq9])
        · skip
          have cq18 : ¬ 154 ≤ k := fun h => cq18 ((cv_le (a := 154) (b := k) rfl rfl (by omega) (by omega)).mpr h)
          refine lv_aload_n hx hb dX6_remember_21 rfl (lv_at hl 0 rfl) ?_
          refine x_get E hw fw_X6_7 0 rfl rfl dX6_remember_22 ?_
          refine lv_bipush (v := 79) hx hb dX6_remember_25 rfl ?_
          refine lv_iload_n hx hb dX6_remember_27 rfl (lv_at hl 1 rfl) ?_
          refine lv_iadd hx hb dX6_remember_28 ?_
          refine lv_aload_n hx hb dX6_remember_29 rfl (lv_at hl 0 rfl) ?_
          refine x_get E hw fw_X6_7 0 rfl rfl dX6_remember_30 ?_
          refine lv_bipush (v := 79) hx hb dX6_remember_33 rfl ?_
          refine lv_iload_n hx hb dX6_remember_35 rfl (lv_at hl 1 rfl) ?_
          refine lv_iadd hx hb dX6_remember_36 ?_
          refine lv_bipush (v := 22) hx hb dX6_remember_37 rfl ?_
          refine lv_iadd hx hb dX6_remember_39 ?_
          refine x_iald E hw 1 rfl ((79 + k) + 22) ((ix_add (a := 79 + k) (b := 22) (ix_add (a := 79) (b := k) rfl rfl) rfl)) (by omega) (by omega) dX6_remember_40 ?_
          refine x_iast (ws' := mW G b (upd t (79 + k) (t ((79 + k) + 22))) rd asd img kpt txt sz abv blw bds nos fls att bgn tkn wrd vlu sts bst) E hw 1 rfl (79 + k) ((ix_add (a := 79) (b := k) rfl rfl)) (by omega) (by omega) dX6_remember_41 rfl (fun H locs hw => ?_)
          refine lv_iinc (v := nI (k + 1)) (lv' := [(1, .int (nI (k + 1))), (0, .ref (b 0))]) hx hb dX6_remember_42 hl (k := 1) rfl (nI_add _ 1) (by decide) rfl (fun ls hl => ?_)
          refine lv_goto (tgt := 14) hx hb dX6_remember_45 rfl ?_
          exact ih14 (k + 1) (upd t (79 + k) (t ((79 + k) + 22))) (by omega) (by rw [ht, shf_step]) (by omega) _ _ _ hw (lv_sub hl [1, 0] rfl)
    exact lp14 (154 - 0 + 1) 0 nw (by omega) ((shf_0 _).symm) (by omega) _ _ _ hw (lv_sub hl [1, 0] rfl)
set_option maxHeartbeats 1000000 in
set_option maxRecDepth 100000 in
theorem c_X6_minute (l : Launch) (G : GG) (b : Nat → Nat) (x : Int32) (nw : Nat → Int32) (rd : Nat → Int32) (asd : Nat → Int32) (img : Nat → Int32) (kpt : Nat → Int32) (txt : Nat → Int32) (sz : Int32) (abv : Int64) (blw : Int64) (bds : Int32) (nos : Int32) (fls : Int32) (att : Int32) (bgn : Int32) (tkn : Int32) (wrd : Int64) (vlu : Int32) (sts : Nat → Int32) (bst : Nat → Int32) (n : Nat) (u : Nat) (hc : nw 22 = nI n) (hn : n ≤ 6) (hu8 : nw 78 = nI u) (hu : u ≤ 8) : CT l G yX6_minute cX6_minute 4 (some .int) 6 134 [.ref (b 0), .int x] (mW G b nw rd asd img kpt txt sz abv blw bds nos fls att bgn tkn wrd vlu sts bst) (some (.int (if inI x 1 60 then (mnL n x.toNatClampNeg (rmb nw u)) 18 - (rmb nw u) 18 else -2))) (mW G b (if inI x 1 60 then mnL n x.toNatClampNeg (rmb nw u) else nw) rd asd img kpt txt sz abv blw (if inI x 1 60 then bds else bds + 1) nos fls att bgn tkn wrd vlu sts bst) := by
  refine CT.mk (own := RX6) (la := [(0, .ref (b 0)), (1, .int x)]) (by decide) rfl (Nat.le_of_ble_eq_true rfl) rfl ?_
  intro p e s m args below meth c A Q E hA hw rt ls hl
  have hx := E.1
  have hb := E.2.1
  refine lv_iload_n hx hb dX6_minute_0 rfl (lv_at hl 1 rfl) ?_
  refine lv_i2l (v := x.toInt64) hx hb dX6_minute_1 rfl ?_
  refine lv_lconst (v := 1) hx hb dX6_minute_2 rfl ?_
  refine lv_ldc2 hx hb E.2.2.2.1 (E.2.2.2.2.2.2.w kc_X6_188) dX6_minute_3 ?_
  refine x_callS (is := []) (As := [.long x.toInt64, .long 1, .long 60]) (rest := []) (st1 := [.int (bI (inL x.toInt64 1 60))]) (ws' := mW G b nw rd asd img kpt txt sz abv blw bds nos fls att bgn tkn wrd vlu sts bst) E (c_X6_in l G x.toInt64 1 60) sw_X6_55 hw [] rfl rfl rfl rfl hl.1 rfl rfl (Nat.le_of_ble_eq_true rfl) ⟨Nat.le_of_ble_eq_true rfl, Nat.le_of_ble_eq_true rfl⟩ (Nat.zero_le _) (Nat.zero_le _) dX6_minute_6 rfl rfl (fun H locs hw => ?_)
  refine x_topi (y := bI (inI x 1 60)) (congrArg bI (inL_I x 1 60 rfl rfl)) ?_
  refine lv_if_ne (tgt := 17) hx hb dX6_minute_9 rfl (fun cq9 => ?_) (fun cq9 => ?_)
  · skip
    have cq9 := bI_n0.mp cq9
    obtain ⟨mm, hm1, hm2, em⟩ := inI_nat (a := 1) (b := 60) (by omega) (by omega) rfl rfl cq9
    have exm : x.toNatClampNeg = mm := by rw [em, nI_clamp (by omega)]
    refine lv_aload_n hx hb dX6_minute_17 rfl (lv_at hl 0 rfl) ?_
    refine x_callV (is := [0, 1, 2, 3, 4, 5, 6, 7, 8]) (q0 := 0) (As := []) (rest := []) (st1 := []) (ws' := mW G b (rmb nw u) rd asd img kpt txt sz abv blw bds nos fls att bgn tkn wrd vlu sts bst) E (c_X6_remember l G b nw rd asd img kpt txt sz abv blw bds nos fls att bgn tkn wrd vlu sts bst n u (hu8) (by omega)) vw_X6_190 hw [0, 1, 2, 3, 4, 5, 6, 7, 8] rfl rfl rfl rfl rfl rfl rfl hl.1 rfl rfl (Nat.le_of_ble_eq_true rfl) ⟨Nat.le_of_ble_eq_true rfl, Nat.le_of_ble_eq_true rfl⟩ (Nat.zero_le _) (Nat.zero_le _) dX6_minute_18 rfl rfl (fun H locs hw => ?_)
    refine lv_aload_n hx hb dX6_minute_21 rfl (lv_at hl 0 rfl) ?_
    refine x_get E hw fw_X6_7 0 rfl rfl dX6_minute_22 ?_
    refine lv_bipush (v := 18) hx hb dX6_minute_25 rfl ?_
    refine x_iald E hw 1 rfl 18 (rfl) (by omega) (by omega) dX6_minute_27 ?_
    refine lv_istore_n (lv' := [(2, .int ((rmb nw u) 18)), (0, .ref (b 0)), (1, .int x)]) hx hb dX6_minute_28 rfl hl (by decide) rfl (fun ls hl => ?_)
    refine lv_iconst (v := 0) hx hb dX6_minute_29 rfl ?_
    refine lv_istore_n (lv' := [(3, .int 0), (2, .int ((rmb nw u) 18)), (0, .ref (b 0)), (1, .int x)]) hx hb dX6_minute_30 rfl hl (by decide) rfl (fun ls hl => ?_)
    have lp31 : ∀ (fuel : Nat), ∀ (k : Nat) (t : Nat → Int32) (hk : k ≤ mm) (ht : mnL n mm (rmb nw u) = mnL n (mm - k) t) (h22 : t 22 = nI n), (mm - k) < fuel → ∀ (H : Heap) (locs : List Loc) (ls : Array Slot), Wd G A s H locs (mW G b t rd asd img kpt txt sz abv blw bds nos fls att bgn tkn wrd vlu sts bst) → lv_has ls 4 [(0, .ref (b 0)), (1, .int x), (2, .int ((rmb nw u) 18)), (3, .int (nI k))] → W p l e (rmx 6 134) s m args below meth c H locs 0 0 Q (F0 m 31 ls []) := by
      intro fuel
      induction fuel with
      | zero => intro k t hk ht h22 hfu; exact absurd hfu (Nat.not_lt_zero _)
      | succ fuel ih31 =>
        intro k t hk ht h22 hfu H locs ls hw hl
        refine lv_iload_n hx hb dX6_minute_31 rfl (lv_at hl 3 rfl) ?_
        refine lv_iload_n hx hb dX6_minute_32 rfl (lv_at hl 1 rfl) ?_
        refine lv_icmp_ge (tgt := 62) hx hb dX6_minute_33 rfl (fun cq33 => ?_) (fun cq33 => ?_)
        · skip
          have cq33 : mm ≤ k := (cv_le (a := mm) (b := k) em rfl (by omega) (by omega)).mp cq33
          refine lv_aload_n hx hb dX6_minute_62 rfl (lv_at hl 0 rfl) ?_
          refine x_get E hw fw_X6_7 0 rfl rfl dX6_minute_63 ?_
          refine lv_bipush (v := 18) hx hb dX6_minute_66 rfl ?_
          refine x_iald E hw 1 rfl 18 (rfl) (by omega) (by omega) dX6_minute_68 ?_
          refine lv_iload_n hx hb dX6_minute_69 rfl (lv_at hl 2 rfl) ?_
          refine lv_isub hx hb dX6_minute_70 ?_
          exact x_iret E hA rt hw dX6_minute_71 (by rw [if_pos cq9, exm, ht, mnL_end (by omega)]) (by rw [if_pos cq9, if_pos cq9, exm, ht, mnL_end (by omega)])
        · skip
          have cq33 : ¬ mm ≤ k := fun h => cq33 ((cv_le (a := mm) (b := k) em rfl (by omega) (by omega)).mpr h)
          refine lv_aload_n hx hb dX6_minute_36 rfl (lv_at hl 0 rfl) ?_
          refine x_get E hw fw_X6_7 0 rfl rfl dX6_minute_37 ?_
          refine lv_bipush (v := 21) hx hb dX6_minute_40 rfl ?_
          refine x_iald E hw 1 rfl 21 (rfl) (by omega) (by omega) dX6_minute_42 ?_
          refine lv_sipush (v := 999) hx hb dX6_minute_43 rfl ?_
          refine lv_icmp_ge (tgt := 62) hx hb dX6_minute_46 rfl (fun cq46 => ?_) (fun cq46 => ?_)
          · skip
            refine lv_aload_n hx hb dX6_minute_62 rfl (lv_at hl 0 rfl) ?_
            refine x_get E hw fw_X6_7 0 rfl rfl dX6_minute_63 ?_
            refine lv_bipush (v := 18) hx hb dX6_minute_66 rfl ?_
            refine x_iald E hw 1 rfl 18 (rfl) (by omega) (by omega) dX6_minute_68 ?_
            refine lv_iload_n hx hb dX6_minute_69 rfl (lv_at hl 2 rfl) ?_
            refine lv_isub hx hb dX6_minute_70 ?_
            exact x_iret E hA rt hw dX6_minute_71 (by rw [if_pos cq9, exm, ht, mnL_999 cq46]) (by rw [if_pos cq9, if_pos cq9, exm, ht, mnL_999 cq46])
          · skip
            refine lv_aload_n hx hb dX6_minute_49 rfl (lv_at hl 0 rfl) ?_
            refine x_get E hw fw_X6_7 0 rfl rfl dX6_minute_50 ?_
            refine x_callS (is := [1]) (As := [.ref (b 1)]) (rest := []) (st1 := []) (ws' := mW G b (goM t n) rd asd img kpt txt sz abv blw bds nos fls att bgn tkn wrd vlu sts bst) E (c_X6_goes l G (b 1) t 255 n (by omega) (by omega) (h22) (by omega)) sw_X6_193 hw [1] rfl rfl rfl rfl hl.1 rfl rfl (Nat.le_of_ble_eq_true rfl) ⟨Nat.le_of_ble_eq_true rfl, Nat.le_of_ble_eq_true rfl⟩ (Nat.zero_le _) (Nat.zero_le _) dX6_minute_53 rfl rfl (fun H locs hw => ?_)
            refine lv_iinc (v := nI (k + 1)) (lv' := [(3, .int (nI (k + 1))), (0, .ref (b 0)), (1, .int x), (2, .int ((rmb nw u) 18))]) hx hb dX6_minute_56 hl (k := 3) rfl (nI_add _ 1) (by decide) rfl (fun ls hl => ?_)
            refine lv_goto (tgt := 31) hx hb dX6_minute_59 rfl ?_
            exact ih31 (k + 1) (goM t n) (by omega) (by rw [ht, mnL_step (by omega) cq46]) (by rw [goM_out hn (by omega)]; exact h22) (by omega) _ _ _ hw (lv_sub hl [1, 2, 3, 0] rfl)
    exact lp31 (mm - 0 + 1) 0 (rmb nw u) (by omega) (rfl) (by rw [rmb_lo (by omega)]; exact hc) (by omega) _ _ _ hw (lv_sub hl [2, 3, 1, 0] rfl)
  · skip
    have cq9 := bI_0.mp cq9
    refine lv_aload_n hx hb dX6_minute_12 rfl (lv_at hl 0 rfl) ?_
    refine x_callV (is := [0, 1, 2, 3, 4, 5, 6, 7, 8]) (q0 := 0) (As := []) (rest := []) (st1 := [.int (-2)]) (ws' := mW G b nw rd asd img kpt txt sz abv blw (bds + 1) nos fls att bgn tkn wrd vlu sts bst) E (c_X6_bad l G b nw rd asd img kpt txt sz abv blw bds nos fls att bgn tkn wrd vlu sts bst) vw_X6_63 hw [0, 1, 2, 3, 4, 5, 6, 7, 8] rfl rfl rfl rfl rfl rfl rfl hl.1 rfl rfl (Nat.le_of_ble_eq_true rfl) ⟨Nat.le_of_ble_eq_true rfl, Nat.le_of_ble_eq_true rfl⟩ (Nat.zero_le _) (Nat.zero_le _) dX6_minute_13 rfl rfl (fun H locs hw => ?_)
    exact x_iret E hA rt hw dX6_minute_16 (by simp [cq9]) (by simp [cq9])
set_option maxHeartbeats 1000000 in
set_option maxRecDepth 100000 in
theorem c_X6_carrot (l : Launch) (G : GG) (b : Nat → Nat) (x : Int32) (nw : Nat → Int32) (rd : Nat → Int32) (asd : Nat → Int32) (img : Nat → Int32) (kpt : Nat → Int32) (txt : Nat → Int32) (sz : Int32) (abv : Int64) (blw : Int64) (bds : Int32) (nos : Int32) (fls : Int32) (att : Int32) (bgn : Int32) (tkn : Int32) (wrd : Int64) (vlu : Int32) (sts : Nat → Int32) (bst : Nat → Int32) (n : Nat) (u : Nat) (hc : nw 22 = nI n) (hn : n ≤ 6) (hu8 : nw 78 = nI u) (hu : u ≤ 8) : CT l G yX6_carrot cX6_carrot 2 (some .int) 2 46 [.ref (b 0), .int x] (mW G b nw rd asd img kpt txt sz abv blw bds nos fls att bgn tkn wrd vlu sts bst) (some (.int (if inI x 0 (nw 22 - 1) then lsr ((rmb nw u) (6 + x.toNatClampNeg)) 10 else -2))) (mW G b (if inI x 0 (nw 22 - 1) then upd (rmb nw u) (6 + x.toNatClampNeg) (lsr ((rmb nw u) (6 + x.toNatClampNeg)) 10) else nw) rd asd img kpt txt sz abv blw (if inI x 0 (nw 22 - 1) then bds else bds + 1) nos fls att bgn tkn wrd vlu sts bst) := by
  refine CT.mk (own := RX6) (la := [(0, .ref (b 0)), (1, .int x)]) (by decide) rfl (Nat.le_of_ble_eq_true rfl) rfl ?_
  intro p e s m args below meth c A Q E hA hw rt ls hl
  have hx := E.1
  have hb := E.2.1
  refine lv_aload_n hx hb dX6_carrot_0 rfl (lv_at hl 0 rfl) ?_
  refine lv_iload_n hx hb dX6_carrot_1 rfl (lv_at hl 1 rfl) ?_
  refine x_callV (is := [0, 1, 2, 3, 4, 5, 6, 7, 8]) (q0 := 0) (As := [.int x]) (rest := []) (st1 := [.int (bI (inI x 0 (nw 22 - 1)))]) (ws' := mW G b nw rd asd img kpt txt sz abv blw bds nos fls att bgn tkn wrd vlu sts bst) E (c_X6_isChild l G b x nw rd asd img kpt txt sz abv blw bds nos fls att bgn tkn wrd vlu sts bst) vw_X6_197 hw [0, 1, 2, 3, 4, 5, 6, 7, 8] rfl rfl rfl rfl rfl rfl rfl hl.1 rfl rfl (Nat.le_of_ble_eq_true rfl) ⟨Nat.le_of_ble_eq_true rfl, Nat.le_of_ble_eq_true rfl⟩ (Nat.zero_le _) (Nat.zero_le _) dX6_carrot_2 rfl rfl (fun H locs hw => ?_)
  refine lv_if_ne (tgt := 13) hx hb dX6_carrot_5 rfl (fun cq5 => ?_) (fun cq5 => ?_)
  · skip
    have cq5 := bI_n0.mp cq5
    obtain ⟨k, hk, ek⟩ := inI_child hc hn cq5
    have exk : x.toNatClampNeg = k := by rw [ek, nI_clamp (by omega)]
    refine lv_aload_n hx hb dX6_carrot_13 rfl (lv_at hl 0 rfl) ?_
    refine x_callV (is := [0, 1, 2, 3, 4, 5, 6, 7, 8]) (q0 := 0) (As := []) (rest := []) (st1 := []) (ws' := mW G b (rmb nw u) rd asd img kpt txt sz abv blw bds nos fls att bgn tkn wrd vlu sts bst) E (c_X6_remember l G b nw rd asd img kpt txt sz abv blw bds nos fls att bgn tkn wrd vlu sts bst n u (hu8) (by omega)) vw_X6_190 hw [0, 1, 2, 3, 4, 5, 6, 7, 8] rfl rfl rfl rfl rfl rfl rfl hl.1 rfl rfl (Nat.le_of_ble_eq_true rfl) ⟨Nat.le_of_ble_eq_true rfl, Nat.le_of_ble_eq_true rfl⟩ (Nat.zero_le _) (Nat.zero_le _) dX6_carrot_14 rfl rfl (fun H locs hw => ?_)
    refine lv_aload_n hx hb dX6_carrot_17 rfl (lv_at hl 0 rfl) ?_
    refine x_get E hw fw_X6_7 0 rfl rfl dX6_carrot_18 ?_
    refine lv_bipush (v := 6) hx hb dX6_carrot_21 rfl ?_
    refine lv_iload_n hx hb dX6_carrot_23 rfl (lv_at hl 1 rfl) ?_
    refine lv_iadd hx hb dX6_carrot_24 ?_
    refine lv_aload_n hx hb dX6_carrot_25 rfl (lv_at hl 0 rfl) ?_
    refine x_get E hw fw_X6_7 0 rfl rfl dX6_carrot_26 ?_
    refine lv_bipush (v := 6) hx hb dX6_carrot_29 rfl ?_
    refine lv_iload_n hx hb dX6_carrot_31 rfl (lv_at hl 1 rfl) ?_
    refine lv_iadd hx hb dX6_carrot_32 ?_
    refine x_iald E hw 1 rfl (6 + k) ((ix_add (a := 6) (b := k) rfl ek)) (by omega) (by omega) dX6_carrot_33 ?_
    refine lv_bipush (v := 10) hx hb dX6_carrot_34 rfl ?_
    refine x_callS (is := []) (As := [.int ((rmb nw u) (6 + k)), .int 10]) (rest := [.int (6 + x), .ref (b 1)]) (st1 := [.int (lsr ((rmb nw u) (6 + k)) 10), .int (6 + x), .ref (b 1)]) (ws' := mW G b (rmb nw u) rd asd img kpt txt sz abv blw bds nos fls att bgn tkn wrd vlu sts bst) E (c_X6_lesser l G ((rmb nw u) (6 + k)) 10) sw_X6_128 hw [] rfl rfl rfl rfl hl.1 rfl rfl (Nat.le_of_ble_eq_true rfl) ⟨Nat.le_of_ble_eq_true rfl, Nat.le_of_ble_eq_true rfl⟩ (Nat.zero_le _) (Nat.zero_le _) dX6_carrot_36 rfl rfl (fun H locs hw => ?_)
    refine x_iast (ws' := mW G b (upd (rmb nw u) (6 + k) (lsr ((rmb nw u) (6 + k)) 10)) rd asd img kpt txt sz abv blw bds nos fls att bgn tkn wrd vlu sts bst) E hw 1 rfl (6 + k) ((ix_add (a := 6) (b := k) rfl ek)) (by omega) (by omega) dX6_carrot_39 rfl (fun H locs hw => ?_)
    refine lv_aload_n hx hb dX6_carrot_40 rfl (lv_at hl 0 rfl) ?_
    refine x_get E hw fw_X6_7 0 rfl rfl dX6_carrot_41 ?_
    refine lv_bipush (v := 6) hx hb dX6_carrot_44 rfl ?_
    refine lv_iload_n hx hb dX6_carrot_46 rfl (lv_at hl 1 rfl) ?_
    refine lv_iadd hx hb dX6_carrot_47 ?_
    refine x_iald E hw 1 rfl (6 + k) ((ix_add (a := 6) (b := k) rfl ek)) (by omega) (by omega) dX6_carrot_48 ?_
    exact x_iret E hA rt hw dX6_carrot_49 (by rw [if_pos cq5, exk, upd_at]) (by simp [cq5, exk])
  · skip
    have cq5 := bI_0.mp cq5
    refine lv_aload_n hx hb dX6_carrot_8 rfl (lv_at hl 0 rfl) ?_
    refine x_callV (is := [0, 1, 2, 3, 4, 5, 6, 7, 8]) (q0 := 0) (As := []) (rest := []) (st1 := [.int (-2)]) (ws' := mW G b nw rd asd img kpt txt sz abv blw (bds + 1) nos fls att bgn tkn wrd vlu sts bst) E (c_X6_bad l G b nw rd asd img kpt txt sz abv blw bds nos fls att bgn tkn wrd vlu sts bst) vw_X6_63 hw [0, 1, 2, 3, 4, 5, 6, 7, 8] rfl rfl rfl rfl rfl rfl rfl hl.1 rfl rfl (Nat.le_of_ble_eq_true rfl) ⟨Nat.le_of_ble_eq_true rfl, Nat.le_of_ble_eq_true rfl⟩ (Nat.zero_le _) (Nat.zero_le _) dX6_carrot_9 rfl rfl (fun H locs hw => ?_)
    exact x_iret E hA rt hw dX6_carrot_12 (by simp [cq5]) (by simp [cq5])
set_option maxHeartbeats 1000000 in
set_option maxRecDepth 100000 in
theorem c_X6_moves (l : Launch) (G : GG) (b : Nat → Nat) (x : Int32) (y : Int32) (nw : Nat → Int32) (rd : Nat → Int32) (asd : Nat → Int32) (img : Nat → Int32) (kpt : Nat → Int32) (txt : Nat → Int32) (sz : Int32) (abv : Int64) (blw : Int64) (bds : Int32) (nos : Int32) (fls : Int32) (att : Int32) (bgn : Int32) (tkn : Int32) (wrd : Int64) (vlu : Int32) (sts : Nat → Int32) (bst : Nat → Int32) (n : Nat) (u : Nat) (hc : nw 22 = nI n) (hn : n ≤ 6) (hu8 : nw 78 = nI u) (hu : u ≤ 8) : CT l G yX6_moves cX6_moves 5 (some .int) 2 46 [.ref (b 0), .int x, .int y] (mW G b nw rd asd img kpt txt sz abv blw bds nos fls att bgn tkn wrd vlu sts bst) (some (.int (if inI x 0 (nw 22 - 1) = true ∧ inI y 0 7 = true then (if (¬ fi nw y n 0 = -1 ∧ ¬ fi nw y n 0 = x) then -3 else (rmb nw u) x.toNatClampNeg) else -2))) (mW G b (if (inI x 0 (nw 22 - 1) = true ∧ inI y 0 7 = true) ∧ ¬ (¬ fi nw y n 0 = -1 ∧ ¬ fi nw y n 0 = x) then upd (rmb nw u) x.toNatClampNeg y else nw) rd asd img kpt txt sz abv blw (if inI x 0 (nw 22 - 1) = true ∧ inI y 0 7 = true then bds else bds + 1) (if (inI x 0 (nw 22 - 1) = true ∧ inI y 0 7 = true) ∧ (¬ fi nw y n 0 = -1 ∧ ¬ fi nw y n 0 = x) then nos + 1 else nos) fls att bgn tkn wrd vlu sts bst) := by
  refine CT.mk (own := RX6) (la := [(0, .ref (b 0)), (1, .int x), (2, .int y)]) (by decide) rfl (Nat.le_of_ble_eq_true rfl) rfl ?_
  intro p e s m args below meth c A Q E hA hw rt ls hl
  have hx := E.1
  have hb := E.2.1
  refine lv_aload_n hx hb dX6_moves_0 rfl (lv_at hl 0 rfl) ?_
  refine lv_iload_n hx hb dX6_moves_1 rfl (lv_at hl 1 rfl) ?_
  refine x_callV (is := [0, 1, 2, 3, 4, 5, 6, 7, 8]) (q0 := 0) (As := [.int x]) (rest := []) (st1 := [.int (bI (inI x 0 (nw 22 - 1)))]) (ws' := mW G b nw rd asd img kpt txt sz abv blw bds nos fls att bgn tkn wrd vlu sts bst) E (c_X6_isChild l G b x nw rd asd img kpt txt sz abv blw bds nos fls att bgn tkn wrd vlu sts bst) vw_X6_197 hw [0, 1, 2, 3, 4, 5, 6, 7, 8] rfl rfl rfl rfl rfl rfl rfl hl.1 rfl rfl (Nat.le_of_ble_eq_true rfl) ⟨Nat.le_of_ble_eq_true rfl, Nat.le_of_ble_eq_true rfl⟩ (Nat.zero_le _) (Nat.zero_le _) dX6_moves_2 rfl rfl (fun H locs hw => ?_)
  refine lv_if_eq (tgt := 15) hx hb dX6_moves_5 rfl (fun cq5 => ?_) (fun cq5 => ?_)
  · skip
    have cq5 := bI_0.mp cq5
    refine lv_aload_n hx hb dX6_moves_15 rfl (lv_at hl 0 rfl) ?_
    refine x_callV (is := [0, 1, 2, 3, 4, 5, 6, 7, 8]) (q0 := 0) (As := []) (rest := []) (st1 := [.int (-2)]) (ws' := mW G b nw rd asd img kpt txt sz abv blw (bds + 1) nos fls att bgn tkn wrd vlu sts bst) E (c_X6_bad l G b nw rd asd img kpt txt sz abv blw bds nos fls att bgn tkn wrd vlu sts bst) vw_X6_63 hw [0, 1, 2, 3, 4, 5, 6, 7, 8] rfl rfl rfl rfl rfl rfl rfl hl.1 rfl rfl (Nat.le_of_ble_eq_true rfl) ⟨Nat.le_of_ble_eq_true rfl, Nat.le_of_ble_eq_true rfl⟩ (Nat.zero_le _) (Nat.zero_le _) dX6_moves_16 rfl rfl (fun H locs hw => ?_)
    exact x_iret E hA rt hw dX6_moves_19 (by simp [cq5]) (by simp [cq5])
  · skip
    have cq5 := bI_n0.mp cq5
    obtain ⟨k, hk, ek⟩ := inI_child hc hn cq5
    have exk : x.toNatClampNeg = k := by rw [ek, nI_clamp (by omega)]
    refine lv_iload_n hx hb dX6_moves_8 rfl (lv_at hl 2 rfl) ?_
    refine x_callS (is := []) (As := [.int y]) (rest := []) (st1 := [.int (bI (inI y 0 7))]) (ws' := mW G b nw rd asd img kpt txt sz abv blw bds nos fls att bgn tkn wrd vlu sts bst) E (c_X6_isSeat l G y) sw_X6_59 hw [] rfl rfl rfl rfl hl.1 rfl rfl (Nat.le_of_ble_eq_true rfl) ⟨Nat.le_of_ble_eq_true rfl, Nat.le_of_ble_eq_true rfl⟩ (Nat.zero_le _) (Nat.zero_le _) dX6_moves_9 rfl rfl (fun H locs hw => ?_)
    refine lv_if_ne (tgt := 20) hx hb dX6_moves_12 rfl (fun cq12 => ?_) (fun cq12 => ?_)
    · skip
      have cq12 := bI_n0.mp cq12
      refine lv_aload_n hx hb dX6_moves_20 rfl (lv_at hl 0 rfl) ?_
      refine x_get E hw fw_X6_7 0 rfl rfl dX6_moves_21 ?_
      refine lv_iload_n hx hb dX6_moves_24 rfl (lv_at hl 2 rfl) ?_
      refine x_callS (is := [1]) (As := [.ref (b 1), .int y]) (rest := []) (st1 := [.int (fi nw y n 0)]) (ws' := mW G b nw rd asd img kpt txt sz abv blw bds nos fls att bgn tkn wrd vlu sts bst) E (c_X6_whoIs l G (b 1) y nw 255 n (by omega) (by omega) (hc) (by omega)) sw_X6_73 hw [1] rfl rfl rfl rfl hl.1 rfl rfl (Nat.le_of_ble_eq_true rfl) ⟨Nat.le_of_ble_eq_true rfl, Nat.le_of_ble_eq_true rfl⟩ (Nat.zero_le _) (Nat.zero_le _) dX6_moves_25 rfl rfl (fun H locs hw => ?_)
      refine lv_istore_n (lv' := [(3, .int (fi nw y n 0)), (0, .ref (b 0)), (1, .int x), (2, .int y)]) hx hb dX6_moves_28 rfl hl (by decide) rfl (fun ls hl => ?_)
      refine lv_iload_n hx hb dX6_moves_29 rfl (lv_at hl 0 rfl) ?_
      refine lv_iconst (v := -1) hx hb dX6_moves_30 rfl ?_
      refine lv_icmp_eq (tgt := 44) hx hb dX6_moves_31 rfl (fun cq31 => ?_) (fun cq31 => ?_)
      · skip
        refine lv_aload_n hx hb dX6_moves_44 rfl (lv_at hl 1 rfl) ?_
        refine x_callV (is := [0, 1, 2, 3, 4, 5, 6, 7, 8]) (q0 := 0) (As := []) (rest := []) (st1 := []) (ws' := mW G b (rmb nw u) rd asd img kpt txt sz abv blw bds nos fls att bgn tkn wrd vlu sts bst) E (c_X6_remember l G b nw rd asd img kpt txt sz abv blw bds nos fls att bgn tkn wrd vlu sts bst n u (hu8) (by omega)) vw_X6_190 hw [0, 1, 2, 3, 4, 5, 6, 7, 8] rfl rfl rfl rfl rfl rfl rfl hl.1 rfl rfl (Nat.le_of_ble_eq_true rfl) ⟨Nat.le_of_ble_eq_true rfl, Nat.le_of_ble_eq_true rfl⟩ (Nat.zero_le _) (Nat.zero_le _) dX6_moves_45 rfl rfl (fun H locs hw => ?_)
        refine lv_aload_n hx hb dX6_moves_48 rfl (lv_at hl 1 rfl) ?_
        refine x_get E hw fw_X6_7 0 rfl rfl dX6_moves_49 ?_
        refine lv_iconst (v := 0) hx hb dX6_moves_52 rfl ?_
        refine lv_iload_n hx hb dX6_moves_53 rfl (lv_at hl 2 rfl) ?_
        refine lv_iadd hx hb dX6_moves_54 ?_
        refine x_iald E hw 1 rfl k ((ix_0add (b := k) ek)) (by omega) (by omega) dX6_moves_55 ?_
        refine lv_istore (lv' := [(4, .int ((rmb nw u) k)), (3, .int (fi nw y n 0)), (0, .ref (b 0)), (1, .int x), (2, .int y)]) hx hb dX6_moves_56 hl (by decide) rfl (fun ls hl => ?_)
        refine lv_aload_n hx hb dX6_moves_58 rfl (lv_at hl 2 rfl) ?_
        refine x_get E hw fw_X6_7 0 rfl rfl dX6_moves_59 ?_
        refine lv_iconst (v := 0) hx hb dX6_moves_62 rfl ?_
        refine lv_iload_n hx hb dX6_moves_63 rfl (lv_at hl 3 rfl) ?_
        refine lv_iadd hx hb dX6_moves_64 ?_
        refine lv_iload_n hx hb dX6_moves_65 rfl (lv_at hl 4 rfl) ?_
        refine x_iast (ws' := mW G b (upd (rmb nw u) k y) rd asd img kpt txt sz abv blw bds nos fls att bgn tkn wrd vlu sts bst) E hw 1 rfl k ((ix_0add (b := k) ek)) (by omega) (by omega) dX6_moves_66 rfl (fun H locs hw => ?_)
        refine lv_iload hx hb dX6_moves_67 (lv_at hl 0 rfl) ?_
        exact x_iret E hA rt hw dX6_moves_69 (by simp [cq5, cq12, cq31, exk]) (by simp [cq5, cq12, cq31, exk])
      · skip
        refine lv_iload_n hx hb dX6_moves_34 rfl (lv_at hl 0 rfl) ?_
        refine lv_iload_n hx hb dX6_moves_35 rfl (lv_at hl 2 rfl) ?_
        refine lv_icmp_eq (tgt := 44) hx hb dX6_moves_36 rfl (fun cq36 => ?_) (fun cq36 => ?_)
        · skip
          refine lv_aload_n hx hb dX6_moves_44 rfl (lv_at hl 1 rfl) ?_
          refine x_callV (is := [0, 1, 2, 3, 4, 5, 6, 7, 8]) (q0 := 0) (As := []) (rest := []) (st1 := []) (ws' := mW G b (rmb nw u) rd asd img kpt txt sz abv blw bds nos fls att bgn tkn wrd vlu sts bst) E (c_X6_remember l G b nw rd asd img kpt txt sz abv blw bds nos fls att bgn tkn wrd vlu sts bst n u (hu8) (by omega)) vw_X6_190 hw [0, 1, 2, 3, 4, 5, 6, 7, 8] rfl rfl rfl rfl rfl rfl rfl hl.1 rfl rfl (Nat.le_of_ble_eq_true rfl) ⟨Nat.le_of_ble_eq_true rfl, Nat.le_of_ble_eq_true rfl⟩ (Nat.zero_le _) (Nat.zero_le _) dX6_moves_45 rfl rfl (fun H locs hw => ?_)
          refine lv_aload_n hx hb dX6_moves_48 rfl (lv_at hl 1 rfl) ?_
          refine x_get E hw fw_X6_7 0 rfl rfl dX6_moves_49 ?_
          refine lv_iconst (v := 0) hx hb dX6_moves_52 rfl ?_
          refine lv_iload_n hx hb dX6_moves_53 rfl (lv_at hl 2 rfl) ?_
          refine lv_iadd hx hb dX6_moves_54 ?_
          refine x_iald E hw 1 rfl k ((ix_0add (b := k) ek)) (by omega) (by omega) dX6_moves_55 ?_
          refine lv_istore (lv' := [(4, .int ((rmb nw u) k)), (3, .int (fi nw y n 0)), (0, .ref (b 0)), (1, .int x), (2, .int y)]) hx hb dX6_moves_56 hl (by decide) rfl (fun ls hl => ?_)
          refine lv_aload_n hx hb dX6_moves_58 rfl (lv_at hl 2 rfl) ?_
          refine x_get E hw fw_X6_7 0 rfl rfl dX6_moves_59 ?_
          refine lv_iconst (v := 0) hx hb dX6_moves_62 rfl ?_
          refine lv_iload_n hx hb dX6_moves_63 rfl (lv_at hl 3 rfl) ?_
          refine lv_iadd hx hb dX6_moves_64 ?_
          refine lv_iload_n hx hb dX6_moves_65 rfl (lv_at hl 4 rfl) ?_
          refine x_iast (ws' := mW G b (upd (rmb nw u) k y) rd asd img kpt txt sz abv blw bds nos fls att bgn tkn wrd vlu sts bst) E hw 1 rfl k ((ix_0add (b := k) ek)) (by omega) (by omega) dX6_moves_66 rfl (fun H locs hw => ?_)
          refine lv_iload hx hb dX6_moves_67 (lv_at hl 0 rfl) ?_
          exact x_iret E hA rt hw dX6_moves_69 (by simp [cq5, cq12, cq31, cq36, exk]) (by simp [cq5, cq12, cq31, cq36, exk])
        · skip
          refine lv_aload_n hx hb dX6_moves_39 rfl (lv_at hl 1 rfl) ?_
          refine x_callV (is := [0, 1, 2, 3, 4, 5, 6, 7, 8]) (q0 := 0) (As := []) (rest := []) (st1 := [.int (-3)]) (ws' := mW G b nw rd asd img kpt txt sz abv blw bds (nos + 1) fls att bgn tkn wrd vlu sts bst) E (c_X6_no l G b nw rd asd img kpt txt sz abv blw bds nos fls att bgn tkn wrd vlu sts bst) vw_X6_77 hw [0, 1, 2, 3, 4, 5, 6, 7, 8] rfl rfl rfl rfl rfl rfl rfl hl.1 rfl rfl (Nat.le_of_ble_eq_true rfl) ⟨Nat.le_of_ble_eq_true rfl, Nat.le_of_ble_eq_true rfl⟩ (Nat.zero_le _) (Nat.zero_le _) dX6_moves_40 rfl rfl (fun H locs hw => ?_)
          exact x_iret E hA rt hw dX6_moves_43 (by simp [cq5, cq12, cq31, cq36]) (by simp [cq5, cq12, cq31, cq36, exk])
    · skip
      have cq12 := bI_0.mp cq12
      refine lv_aload_n hx hb dX6_moves_15 rfl (lv_at hl 0 rfl) ?_
      refine x_callV (is := [0, 1, 2, 3, 4, 5, 6, 7, 8]) (q0 := 0) (As := []) (rest := []) (st1 := [.int (-2)]) (ws' := mW G b nw rd asd img kpt txt sz abv blw (bds + 1) nos fls att bgn tkn wrd vlu sts bst) E (c_X6_bad l G b nw rd asd img kpt txt sz abv blw bds nos fls att bgn tkn wrd vlu sts bst) vw_X6_63 hw [0, 1, 2, 3, 4, 5, 6, 7, 8] rfl rfl rfl rfl rfl rfl rfl hl.1 rfl rfl (Nat.le_of_ble_eq_true rfl) ⟨Nat.le_of_ble_eq_true rfl, Nat.le_of_ble_eq_true rfl⟩ (Nat.zero_le _) (Nat.zero_le _) dX6_moves_16 rfl rfl (fun H locs hw => ?_)
      exact x_iret E hA rt hw dX6_moves_19 (by simp [cq5, cq12]) (by simp [cq5, cq12, exk])
set_option maxHeartbeats 1000000 in
set_option maxRecDepth 100000 in
theorem c_X6_woman (l : Launch) (G : GG) (b : Nat → Nat) (x : Int32) (nw : Nat → Int32) (rd : Nat → Int32) (asd : Nat → Int32) (img : Nat → Int32) (kpt : Nat → Int32) (txt : Nat → Int32) (sz : Int32) (abv : Int64) (blw : Int64) (bds : Int32) (nos : Int32) (fls : Int32) (att : Int32) (bgn : Int32) (tkn : Int32) (wrd : Int64) (vlu : Int32) (sts : Nat → Int32) (bst : Nat → Int32) (n : Nat) (u : Nat) (hu8 : nw 78 = nI u) (hu : u ≤ 8) : CT l G yX6_woman cX6_woman 3 (some .int) 2 46 [.ref (b 0), .int x] (mW G b nw rd asd img kpt txt sz abv blw bds nos fls att bgn tkn wrd vlu sts bst) (some (.int (if inI x 0 7 then (rmb nw u) 20 else -2))) (mW G b (if inI x 0 7 then upd (rmb nw u) 20 x else nw) rd asd img kpt txt sz abv blw (if inI x 0 7 then bds else bds + 1) nos fls att bgn tkn wrd vlu sts bst) := by
  refine CT.mk (own := RX6) (la := [(0, .ref (b 0)), (1, .int x)]) (by decide) rfl (Nat.le_of_ble_eq_true rfl) rfl ?_
  intro p e s m args below meth c A Q E hA hw rt ls hl
  have hx := E.1
  have hb := E.2.1
  refine lv_iload_n hx hb dX6_woman_0 rfl (lv_at hl 1 rfl) ?_
  refine x_callS (is := []) (As := [.int x]) (rest := []) (st1 := [.int (bI (inI x 0 7))]) (ws' := mW G b nw rd asd img kpt txt sz abv blw bds nos fls att bgn tkn wrd vlu sts bst) E (c_X6_isSeat l G x) sw_X6_59 hw [] rfl rfl rfl rfl hl.1 rfl rfl (Nat.le_of_ble_eq_true rfl) ⟨Nat.le_of_ble_eq_true rfl, Nat.le_of_ble_eq_true rfl⟩ (Nat.zero_le _) (Nat.zero_le _) dX6_woman_1 rfl rfl (fun H locs hw => ?_)
  refine lv_if_ne (tgt := 12) hx hb dX6_woman_4 rfl (fun cq4 => ?_) (fun cq4 => ?_)
  · skip
    have cq4 := bI_n0.mp cq4
    refine lv_aload_n hx hb dX6_woman_12 rfl (lv_at hl 0 rfl) ?_
    refine x_callV (is := [0, 1, 2, 3, 4, 5, 6, 7, 8]) (q0 := 0) (As := []) (rest := []) (st1 := []) (ws' := mW G b (rmb nw u) rd asd img kpt txt sz abv blw bds nos fls att bgn tkn wrd vlu sts bst) E (c_X6_remember l G b nw rd asd img kpt txt sz abv blw bds nos fls att bgn tkn wrd vlu sts bst n u (hu8) (by omega)) vw_X6_190 hw [0, 1, 2, 3, 4, 5, 6, 7, 8] rfl rfl rfl rfl rfl rfl rfl hl.1 rfl rfl (Nat.le_of_ble_eq_true rfl) ⟨Nat.le_of_ble_eq_true rfl, Nat.le_of_ble_eq_true rfl⟩ (Nat.zero_le _) (Nat.zero_le _) dX6_woman_13 rfl rfl (fun H locs hw => ?_)
    refine lv_aload_n hx hb dX6_woman_16 rfl (lv_at hl 0 rfl) ?_
    refine x_get E hw fw_X6_7 0 rfl rfl dX6_woman_17 ?_
    refine lv_bipush (v := 20) hx hb dX6_woman_20 rfl ?_
    refine x_iald E hw 1 rfl 20 (rfl) (by omega) (by omega) dX6_woman_22 ?_
    refine lv_istore_n (lv' := [(2, .int ((rmb nw u) 20)), (0, .ref (b 0)), (1, .int x)]) hx hb dX6_woman_23 rfl hl (by decide) rfl (fun ls hl => ?_)
    refine lv_aload_n hx hb dX6_woman_24 rfl (lv_at hl 1 rfl) ?_
    refine x_get E hw fw_X6_7 0 rfl rfl dX6_woman_25 ?_
    refine lv_bipush (v := 20) hx hb dX6_woman_28 rfl ?_
    refine lv_iload_n hx hb dX6_woman_30 rfl (lv_at hl 2 rfl) ?_
    refine x_iast (ws' := mW G b (upd (rmb nw u) 20 x) rd asd img kpt txt sz abv blw bds nos fls att bgn tkn wrd vlu sts bst) E hw 1 rfl 20 (rfl) (by omega) (by omega) dX6_woman_31 rfl (fun H locs hw => ?_)
    refine lv_iload_n hx hb dX6_woman_32 rfl (lv_at hl 0 rfl) ?_
    exact x_iret E hA rt hw dX6_woman_33 (by simp [cq4]) (by simp [cq4])
  · skip
    have cq4 := bI_0.mp cq4
    refine lv_aload_n hx hb dX6_woman_7 rfl (lv_at hl 0 rfl) ?_
    refine x_callV (is := [0, 1, 2, 3, 4, 5, 6, 7, 8]) (q0 := 0) (As := []) (rest := []) (st1 := [.int (-2)]) (ws' := mW G b nw rd asd img kpt txt sz abv blw (bds + 1) nos fls att bgn tkn wrd vlu sts bst) E (c_X6_bad l G b nw rd asd img kpt txt sz abv blw bds nos fls att bgn tkn wrd vlu sts bst) vw_X6_63 hw [0, 1, 2, 3, 4, 5, 6, 7, 8] rfl rfl rfl rfl rfl rfl rfl hl.1 rfl rfl (Nat.le_of_ble_eq_true rfl) ⟨Nat.le_of_ble_eq_true rfl, Nat.le_of_ble_eq_true rfl⟩ (Nat.zero_le _) (Nat.zero_le _) dX6_woman_8 rfl rfl (fun H locs hw => ?_)
    exact x_iret E hA rt hw dX6_woman_11 (by simp [cq4]) (by simp [cq4])
set_option maxHeartbeats 1000000 in
set_option maxRecDepth 100000 in
theorem c_X6_undo (l : Launch) (G : GG) (b : Nat → Nat) (nw : Nat → Int32) (rd : Nat → Int32) (asd : Nat → Int32) (img : Nat → Int32) (kpt : Nat → Int32) (txt : Nat → Int32) (sz : Int32) (abv : Int64) (blw : Int64) (bds : Int32) (nos : Int32) (fls : Int32) (att : Int32) (bgn : Int32) (tkn : Int32) (wrd : Int64) (vlu : Int32) (sts : Nat → Int32) (bst : Nat → Int32) (n : Nat) (u : Nat) (hu8 : nw 78 = nI u) (hu : u ≤ 8) : CT l G yX6_undo cX6_undo 1 (some .int) 1 25 [.ref (b 0)] (mW G b nw rd asd img kpt txt sz abv blw bds nos fls att bgn tkn wrd vlu sts bst) (some (.int (if u = 0 then -3 else (und nw (u - 1)) 21))) (mW G b (if u = 0 then nw else und nw (u - 1)) rd asd img kpt txt sz abv blw bds (if u = 0 then nos + 1 else nos) fls att bgn tkn wrd vlu sts bst) := by
  refine CT.mk (own := RX6) (la := [(0, .ref (b 0))]) (by decide) rfl (Nat.le_of_ble_eq_true rfl) rfl ?_
  intro p e s m args below meth c A Q E hA hw rt ls hl
  have hx := E.1
  have hb := E.2.1
  refine lv_aload_n hx hb dX6_undo_0 rfl (lv_at hl 0 rfl) ?_
  refine x_get E hw fw_X6_7 0 rfl rfl dX6_undo_1 ?_
  refine lv_bipush (v := 78) hx hb dX6_undo_4 rfl ?_
  refine x_iald E hw 1 rfl 78 (rfl) (by omega) (by omega) dX6_undo_6 ?_
  refine lv_if_ne (tgt := 15) hx hb dX6_undo_7 rfl (fun cq7 => ?_) (fun cq7 => ?_)
  · skip
    have cq7 : ¬ u = 0 := fun h => cq7 ((cv_eq (a := u) (b := 0) hu8 rfl (by omega) (by omega)).mpr h)
    refine lv_aload_n hx hb dX6_undo_15 rfl (lv_at hl 0 rfl) ?_
    refine x_get E hw fw_X6_7 0 rfl rfl dX6_undo_16 ?_
    refine lv_bipush (v := 78) hx hb dX6_undo_19 rfl ?_
    refine lv_dup2_11 hx hb dX6_undo_21 rfl rfl ?_
    refine x_iald E hw 1 rfl 78 (rfl) (by omega) (by omega) dX6_undo_22 ?_
    refine lv_iconst (v := 1) hx hb dX6_undo_23 rfl ?_
    refine lv_isub hx hb dX6_undo_24 ?_
    refine x_topi (y := nI (u - 1)) (by rw [hu8]; exact pk_sub (a := u) (b := 1) (by omega)) ?_
    refine x_iast (ws' := mW G b (upd nw 78 (nI (u - 1))) rd asd img kpt txt sz abv blw bds nos fls att bgn tkn wrd vlu sts bst) E hw 1 rfl 78 (rfl) (by omega) (by omega) dX6_undo_25 rfl (fun H locs hw => ?_)
    refine lv_aload_n hx hb dX6_undo_26 rfl (lv_at hl 0 rfl) ?_
    refine x_get E hw fw_X6_7 0 rfl rfl dX6_undo_27 ?_
    refine lv_bipush (v := 79) hx hb dX6_undo_30 rfl ?_
    refine lv_bipush (v := 22) hx hb dX6_undo_32 rfl ?_
    refine lv_aload_n hx hb dX6_undo_34 rfl (lv_at hl 0 rfl) ?_
    refine x_get E hw fw_X6_7 0 rfl rfl dX6_undo_35 ?_
    refine lv_bipush (v := 78) hx hb dX6_undo_38 rfl ?_
    refine x_iald E hw 1 rfl 78 (rfl) (by omega) (by omega) dX6_undo_40 ?_
    refine lv_imul hx hb dX6_undo_41 ?_
    refine lv_iadd hx hb dX6_undo_42 ?_
    refine lv_aload_n hx hb dX6_undo_43 rfl (lv_at hl 0 rfl) ?_
    refine x_get E hw fw_X6_7 0 rfl rfl dX6_undo_44 ?_
    refine lv_iconst (v := 0) hx hb dX6_undo_47 rfl ?_
    refine lv_bipush (v := 22) hx hb dX6_undo_48 rfl ?_
    refine x_callS (is := [1]) (As := [.ref (b 1), .int (79 + (22 * ((upd nw 78 (nI (u - 1))) 78))), .ref (b 1), .int 0, .int 22]) (rest := []) (st1 := []) (ws' := mW G b (va_cpy (upd nw 78 (nI (u - 1))) (upd nw 78 (nI (u - 1))) (79 + (22 * (u - 1))) 0 22) rd asd img kpt txt sz abv blw bds nos fls att bgn tkn wrd vlu sts bst) E (c_copiesS l G (b 1) (79 + (22 * ((upd nw 78 (nI (u - 1))) 78))) (79 + (22 * (u - 1))) ((ix_add (a := 79) (b := 22 * (u - 1)) rfl (ix_mul (a := 22) (b := u - 1) rfl (upd_at _ _ _)))) 0 0 (rfl) 22 22 (rfl) (upd nw 78 (nI (u - 1))) 255 (by omega) (by omega) (by omega) (by omega)) sw_X6_152 hw [1] rfl rfl rfl rfl hl.1 rfl rfl (Nat.le_of_ble_eq_true rfl) ⟨Nat.le_of_ble_eq_true rfl, Nat.le_of_ble_eq_true rfl⟩ (Nat.zero_le _) (Nat.zero_le _) dX6_undo_50 rfl rfl (fun H locs hw => ?_)
    refine lv_aload_n hx hb dX6_undo_53 rfl (lv_at hl 0 rfl) ?_
    refine x_get E hw fw_X6_7 0 rfl rfl dX6_undo_54 ?_
    refine lv_bipush (v := 21) hx hb dX6_undo_57 rfl ?_
    refine x_iald E hw 1 rfl 21 (rfl) (by omega) (by omega) dX6_undo_59 ?_
    exact x_iret E hA rt hw dX6_undo_60 (by simp [und, cq7]) (by simp [und, cq7])
  · skip
    have cq7 : u = 0 := (cv_eq (a := u) (b := 0) hu8 rfl (by omega) (by omega)).mp cq7
    refine lv_aload_n hx hb dX6_undo_10 rfl (lv_at hl 0 rfl) ?_
    refine x_callV (is := [0, 1, 2, 3, 4, 5, 6, 7, 8]) (q0 := 0) (As := []) (rest := []) (st1 := [.int (-3)]) (ws' := mW G b nw rd asd img kpt txt sz abv blw bds (nos + 1) fls att bgn tkn wrd vlu sts bst) E (c_X6_no l G b nw rd asd img kpt txt sz abv blw bds nos fls att bgn tkn wrd vlu sts bst) vw_X6_77 hw [0, 1, 2, 3, 4, 5, 6, 7, 8] rfl rfl rfl rfl rfl rfl rfl hl.1 rfl rfl (Nat.le_of_ble_eq_true rfl) ⟨Nat.le_of_ble_eq_true rfl, Nat.le_of_ble_eq_true rfl⟩ (Nat.zero_le _) (Nat.zero_le _) dX6_undo_11 rfl rfl (fun H locs hw => ?_)
    exact x_iret E hA rt hw dX6_undo_14 (by simp [und, cq7]) (by simp [und, cq7])
end
