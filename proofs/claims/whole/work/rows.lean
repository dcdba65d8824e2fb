section
-- ===== PART A: goes FIRST, ahead of the names: the tables' words, and 'selects' of the private methods out of them =====
/-- a private method of a class that the tables say can be made, by its rows of tables_1 -/
def lw_okq (q : MethodName × Nat) : Prop := (q.1.cls ≠ "java/lang/invoke/MethodHandle" ∧ q.1.cls ≠ "java/lang/invoke/VarHandle") ∧ Cond.instantiable q.1.cls q.2 ∈ tables_1 ∧ Cond.privateMethod q.1 ∈ tables_1 ∧ Cond.instanceMethod q.1 ∈ tables_1
theorem lw_p0 : lw_okq (⟨"BiteChild", "refuse", "(I)I"⟩, 9) := ⟨⟨by decide +kernel, by decide +kernel⟩, List.mem_of_getElem? (i := 16) (by decide +kernel), List.mem_of_getElem? (i := 197) (by decide +kernel), List.mem_of_getElem? (i := 198) (by decide +kernel)⟩
theorem lw_p1 : lw_okq (⟨"BiteChild$Table", "layAnew", "(I)V"⟩, 10) := ⟨⟨by decide +kernel, by decide +kernel⟩, List.mem_of_getElem? (i := 30) (by decide +kernel), List.mem_of_getElem? (i := 201) (by decide +kernel), List.mem_of_getElem? (i := 202) (by decide +kernel)⟩
theorem lw_p2 : lw_okq (⟨"BiteChild$Scene", "beginWith", "(LBiteChild$Table;)V"⟩, 3) := ⟨⟨by decide +kernel, by decide +kernel⟩, List.mem_of_getElem? (i := 24) (by decide +kernel), List.mem_of_getElem? (i := 205) (by decide +kernel), List.mem_of_getElem? (i := 206) (by decide +kernel)⟩
theorem lw_p3 : lw_okq (⟨"BiteChild$Table", "copyFrom", "(LBiteChild$Table;)V"⟩, 10) := ⟨⟨by decide +kernel, by decide +kernel⟩, List.mem_of_getElem? (i := 30) (by decide +kernel), List.mem_of_getElem? (i := 209) (by decide +kernel), List.mem_of_getElem? (i := 210) (by decide +kernel)⟩
theorem lw_p4 : lw_okq (⟨"BiteChild$Past", "empty", "()V"⟩, 3) := ⟨⟨by decide +kernel, by decide +kernel⟩, List.mem_of_getElem? (i := 79) (by decide +kernel), List.mem_of_getElem? (i := 216) (by decide +kernel), List.mem_of_getElem? (i := 217) (by decide +kernel)⟩
theorem lw_p5 : lw_okq (⟨"BiteChild$Table", "childAt", "(I)I"⟩, 10) := ⟨⟨by decide +kernel, by decide +kernel⟩, List.mem_of_getElem? (i := 30) (by decide +kernel), List.mem_of_getElem? (i := 224) (by decide +kernel), List.mem_of_getElem? (i := 225) (by decide +kernel)⟩
theorem lw_p6 : lw_okq (⟨"BiteChild$Table", "addChild", "(IIII)I"⟩, 10) := ⟨⟨by decide +kernel, by decide +kernel⟩, List.mem_of_getElem? (i := 30) (by decide +kernel), List.mem_of_getElem? (i := 229) (by decide +kernel), List.mem_of_getElem? (i := 230) (by decide +kernel)⟩
theorem lw_p7 : lw_okq (⟨"BiteChild$Text", "append", "(I)I"⟩, 6) := ⟨⟨by decide +kernel, by decide +kernel⟩, List.mem_of_getElem? (i := 129) (by decide +kernel), List.mem_of_getElem? (i := 237) (by decide +kernel), List.mem_of_getElem? (i := 238) (by decide +kernel)⟩
theorem lw_p8 : lw_okq (⟨"BiteChild$Text", "readInto", "(LBiteChild$Table;)I"⟩, 6) := ⟨⟨by decide +kernel, by decide +kernel⟩, List.mem_of_getElem? (i := 129) (by decide +kernel), List.mem_of_getElem? (i := 249) (by decide +kernel), List.mem_of_getElem? (i := 250) (by decide +kernel)⟩
theorem lw_p9 : lw_okq (⟨"BiteChild$Text", "nextToken", "()V"⟩, 6) := ⟨⟨by decide +kernel, by decide +kernel⟩, List.mem_of_getElem? (i := 129) (by decide +kernel), List.mem_of_getElem? (i := 254) (by decide +kernel), List.mem_of_getElem? (i := 255) (by decide +kernel)⟩
theorem lw_p10 : lw_okq (⟨"BiteChild$Text", "takeWord", "()V"⟩, 6) := ⟨⟨by decide +kernel, by decide +kernel⟩, List.mem_of_getElem? (i := 129) (by decide +kernel), List.mem_of_getElem? (i := 261) (by decide +kernel), List.mem_of_getElem? (i := 262) (by decide +kernel)⟩
theorem lw_p11 : lw_okq (⟨"BiteChild$Text", "isWord", "(Ljava/lang/String;)Z"⟩, 6) := ⟨⟨by decide +kernel, by decide +kernel⟩, List.mem_of_getElem? (i := 129) (by decide +kernel), List.mem_of_getElem? (i := 266) (by decide +kernel), List.mem_of_getElem? (i := 267) (by decide +kernel)⟩
theorem lw_p12 : lw_okq (⟨"BiteChild$Text", "takeFigures", "()V"⟩, 6) := ⟨⟨by decide +kernel, by decide +kernel⟩, List.mem_of_getElem? (i := 129) (by decide +kernel), List.mem_of_getElem? (i := 323) (by decide +kernel), List.mem_of_getElem? (i := 324) (by decide +kernel)⟩
theorem lw_p13 : lw_okq (⟨"BiteChild$Text", "readWoman", "(LBiteChild$Table;)Z"⟩, 6) := ⟨⟨by decide +kernel, by decide +kernel⟩, List.mem_of_getElem? (i := 129) (by decide +kernel), List.mem_of_getElem? (i := 327) (by decide +kernel), List.mem_of_getElem? (i := 328) (by decide +kernel)⟩
theorem lw_p14 : lw_okq (⟨"BiteChild$Text", "nextNumber", "(I)Z"⟩, 6) := ⟨⟨by decide +kernel, by decide +kernel⟩, List.mem_of_getElem? (i := 129) (by decide +kernel), List.mem_of_getElem? (i := 331) (by decide +kernel), List.mem_of_getElem? (i := 332) (by decide +kernel)⟩
theorem lw_p15 : lw_okq (⟨"BiteChild$Text", "nextMark", "()Z"⟩, 6) := ⟨⟨by decide +kernel, by decide +kernel⟩, List.mem_of_getElem? (i := 129) (by decide +kernel), List.mem_of_getElem? (i := 335) (by decide +kernel), List.mem_of_getElem? (i := 336) (by decide +kernel)⟩
def lw_privs_1 : List (MethodName × Nat) := [(⟨"BiteChild", "refuse", "(I)I"⟩, 9), (⟨"BiteChild$Table", "layAnew", "(I)V"⟩, 10), (⟨"BiteChild$Scene", "beginWith", "(LBiteChild$Table;)V"⟩, 3), (⟨"BiteChild$Table", "copyFrom", "(LBiteChild$Table;)V"⟩, 10), (⟨"BiteChild$Past", "empty", "()V"⟩, 3), (⟨"BiteChild$Table", "childAt", "(I)I"⟩, 10), (⟨"BiteChild$Table", "addChild", "(IIII)I"⟩, 10), (⟨"BiteChild$Text", "append", "(I)I"⟩, 6), (⟨"BiteChild$Text", "readInto", "(LBiteChild$Table;)I"⟩, 6), (⟨"BiteChild$Text", "nextToken", "()V"⟩, 6), (⟨"BiteChild$Text", "takeWord", "()V"⟩, 6), (⟨"BiteChild$Text", "isWord", "(Ljava/lang/String;)Z"⟩, 6), (⟨"BiteChild$Text", "takeFigures", "()V"⟩, 6), (⟨"BiteChild$Text", "readWoman", "(LBiteChild$Table;)Z"⟩, 6), (⟨"BiteChild$Text", "nextNumber", "(I)Z"⟩, 6), (⟨"BiteChild$Text", "nextMark", "()Z"⟩, 6)]
theorem lw_r1 : ∀ q ∈ lw_privs_1, lw_okq q := List.forall_mem_cons.mpr ⟨lw_p0, List.forall_mem_cons.mpr ⟨lw_p1, List.forall_mem_cons.mpr ⟨lw_p2, List.forall_mem_cons.mpr ⟨lw_p3, List.forall_mem_cons.mpr ⟨lw_p4, List.forall_mem_cons.mpr ⟨lw_p5, List.forall_mem_cons.mpr ⟨lw_p6, List.forall_mem_cons.mpr ⟨lw_p7, List.forall_mem_cons.mpr ⟨lw_p8, List.forall_mem_cons.mpr ⟨lw_p9, List.forall_mem_cons.mpr ⟨lw_p10, List.forall_mem_cons.mpr ⟨lw_p11, List.forall_mem_cons.mpr ⟨lw_p12, List.forall_mem_cons.mpr ⟨lw_p13, List.forall_mem_cons.mpr ⟨lw_p14, List.forall_mem_cons.mpr ⟨lw_p15, fun _ h => absurd h List.not_mem_nil⟩⟩⟩⟩⟩⟩⟩⟩⟩⟩⟩⟩⟩⟩⟩⟩
theorem lw_p16 : lw_okq (⟨"BiteChild$Text", "readChild", "(LBiteChild$Table;)Z"⟩, 6) := ⟨⟨by decide +kernel, by decide +kernel⟩, List.mem_of_getElem? (i := 129) (by decide +kernel), List.mem_of_getElem? (i := 339) (by decide +kernel), List.mem_of_getElem? (i := 340) (by decide +kernel)⟩
theorem lw_p17 : lw_okq (⟨"BiteChild$Text", "readCarrot", "(LBiteChild$Table;)Z"⟩, 6) := ⟨⟨by decide +kernel, by decide +kernel⟩, List.mem_of_getElem? (i := 129) (by decide +kernel), List.mem_of_getElem? (i := 345) (by decide +kernel), List.mem_of_getElem? (i := 346) (by decide +kernel)⟩
theorem lw_p18 : lw_okq (⟨"BiteChild$Table", "giveCarrot", "(I)I"⟩, 10) := ⟨⟨by decide +kernel, by decide +kernel⟩, List.mem_of_getElem? (i := 30) (by decide +kernel), List.mem_of_getElem? (i := 349) (by decide +kernel), List.mem_of_getElem? (i := 350) (by decide +kernel)⟩
theorem lw_p19 : lw_okq (⟨"BiteChild$Past", "keep", "(LBiteChild$Table;)V"⟩, 3) := ⟨⟨by decide +kernel, by decide +kernel⟩, List.mem_of_getElem? (i := 79) (by decide +kernel), List.mem_of_getElem? (i := 360) (by decide +kernel), List.mem_of_getElem? (i := 361) (by decide +kernel)⟩
theorem lw_p20 : lw_okq (⟨"BiteChild$Table", "passMinutes", "(I)I"⟩, 10) := ⟨⟨by decide +kernel, by decide +kernel⟩, List.mem_of_getElem? (i := 30) (by decide +kernel), List.mem_of_getElem? (i := 368) (by decide +kernel), List.mem_of_getElem? (i := 369) (by decide +kernel)⟩
theorem lw_p21 : lw_okq (⟨"BiteChild$Table", "passMinute", "()I"⟩, 10) := ⟨⟨by decide +kernel, by decide +kernel⟩, List.mem_of_getElem? (i := 30) (by decide +kernel), List.mem_of_getElem? (i := 372) (by decide +kernel), List.mem_of_getElem? (i := 373) (by decide +kernel)⟩
theorem lw_p22 : lw_okq (⟨"BiteChild$Table", "biters", "()I"⟩, 10) := ⟨⟨by decide +kernel, by decide +kernel⟩, List.mem_of_getElem? (i := 30) (by decide +kernel), List.mem_of_getElem? (i := 376) (by decide +kernel), List.mem_of_getElem? (i := 377) (by decide +kernel)⟩
theorem lw_p23 : lw_okq (⟨"BiteChild$Table", "takenSeats", "()I"⟩, 10) := ⟨⟨by decide +kernel, by decide +kernel⟩, List.mem_of_getElem? (i := 30) (by decide +kernel), List.mem_of_getElem? (i := 380) (by decide +kernel), List.mem_of_getElem? (i := 381) (by decide +kernel)⟩
theorem lw_p24 : lw_okq (⟨"BiteChild$Table", "isGuarded", "(I)Z"⟩, 10) := ⟨⟨by decide +kernel, by decide +kernel⟩, List.mem_of_getElem? (i := 30) (by decide +kernel), List.mem_of_getElem? (i := 393) (by decide +kernel), List.mem_of_getElem? (i := 394) (by decide +kernel)⟩
theorem lw_p25 : lw_okq (⟨"BiteChild$Table", "nearIf", "(II)I"⟩, 10) := ⟨⟨by decide +kernel, by decide +kernel⟩, List.mem_of_getElem? (i := 30) (by decide +kernel), List.mem_of_getElem? (i := 397) (by decide +kernel), List.mem_of_getElem? (i := 398) (by decide +kernel)⟩
theorem lw_p26 : lw_okq (⟨"BiteChild$Table", "timesBitten", "(II)I"⟩, 10) := ⟨⟨by decide +kernel, by decide +kernel⟩, List.mem_of_getElem? (i := 30) (by decide +kernel), List.mem_of_getElem? (i := 405) (by decide +kernel), List.mem_of_getElem? (i := 406) (by decide +kernel)⟩
theorem lw_p27 : lw_okq (⟨"BiteChild$Table", "whomOf", "(I)I"⟩, 10) := ⟨⟨by decide +kernel, by decide +kernel⟩, List.mem_of_getElem? (i := 30) (by decide +kernel), List.mem_of_getElem? (i := 409) (by decide +kernel), List.mem_of_getElem? (i := 410) (by decide +kernel)⟩
theorem lw_p28 : lw_okq (⟨"BiteChild", "isChild", "(I)Z"⟩, 9) := ⟨⟨by decide +kernel, by decide +kernel⟩, List.mem_of_getElem? (i := 16) (by decide +kernel), List.mem_of_getElem? (i := 425) (by decide +kernel), List.mem_of_getElem? (i := 426) (by decide +kernel)⟩
theorem lw_p29 : lw_okq (⟨"BiteChild$Past", "giveBack", "(LBiteChild$Table;)V"⟩, 3) := ⟨⟨by decide +kernel, by decide +kernel⟩, List.mem_of_getElem? (i := 79) (by decide +kernel), List.mem_of_getElem? (i := 442) (by decide +kernel), List.mem_of_getElem? (i := 443) (by decide +kernel)⟩
theorem lw_p30 : lw_okq (⟨"BiteChild$Table", "tightOf", "(I)I"⟩, 10) := ⟨⟨by decide +kernel, by decide +kernel⟩, List.mem_of_getElem? (i := 30) (by decide +kernel), List.mem_of_getElem? (i := 450) (by decide +kernel), List.mem_of_getElem? (i := 451) (by decide +kernel)⟩
theorem lw_p31 : lw_okq (⟨"BiteChild$Table", "partOf", "(II)I"⟩, 10) := ⟨⟨by decide +kernel, by decide +kernel⟩, List.mem_of_getElem? (i := 30) (by decide +kernel), List.mem_of_getElem? (i := 454) (by decide +kernel), List.mem_of_getElem? (i := 455) (by decide +kernel)⟩
def lw_privs_2 : List (MethodName × Nat) := [(⟨"BiteChild$Text", "readChild", "(LBiteChild$Table;)Z"⟩, 6), (⟨"BiteChild$Text", "readCarrot", "(LBiteChild$Table;)Z"⟩, 6), (⟨"BiteChild$Table", "giveCarrot", "(I)I"⟩, 10), (⟨"BiteChild$Past", "keep", "(LBiteChild$Table;)V"⟩, 3), (⟨"BiteChild$Table", "passMinutes", "(I)I"⟩, 10), (⟨"BiteChild$Table", "passMinute", "()I"⟩, 10), (⟨"BiteChild$Table", "biters", "()I"⟩, 10), (⟨"BiteChild$Table", "takenSeats", "()I"⟩, 10), (⟨"BiteChild$Table", "isGuarded", "(I)Z"⟩, 10), (⟨"BiteChild$Table", "nearIf", "(II)I"⟩, 10), (⟨"BiteChild$Table", "timesBitten", "(II)I"⟩, 10), (⟨"BiteChild$Table", "whomOf", "(I)I"⟩, 10), (⟨"BiteChild", "isChild", "(I)Z"⟩, 9), (⟨"BiteChild$Past", "giveBack", "(LBiteChild$Table;)V"⟩, 3), (⟨"BiteChild$Table", "tightOf", "(I)I"⟩, 10), (⟨"BiteChild$Table", "partOf", "(II)I"⟩, 10)]
theorem lw_r2 : ∀ q ∈ lw_privs_2, lw_okq q := List.forall_mem_cons.mpr ⟨lw_p16, List.forall_mem_cons.mpr ⟨lw_p17, List.forall_mem_cons.mpr ⟨lw_p18, List.forall_mem_cons.mpr ⟨lw_p19, List.forall_mem_cons.mpr ⟨lw_p20, List.forall_mem_cons.mpr ⟨lw_p21, List.forall_mem_cons.mpr ⟨lw_p22, List.forall_mem_cons.mpr ⟨lw_p23, List.forall_mem_cons.mpr ⟨lw_p24, List.forall_mem_cons.mpr ⟨lw_p25, List.forall_mem_cons.mpr ⟨lw_p26, List.forall_mem_cons.mpr ⟨lw_p27, List.forall_mem_cons.mpr ⟨lw_p28, List.forall_mem_cons.mpr ⟨lw_p29, List.forall_mem_cons.mpr ⟨lw_p30, List.forall_mem_cons.mpr ⟨lw_p31, fun _ h => absurd h List.not_mem_nil⟩⟩⟩⟩⟩⟩⟩⟩⟩⟩⟩⟩⟩⟩⟩⟩
theorem lw_p32 : lw_okq (⟨"BiteChild$Table", "nearOf", "(I)I"⟩, 10) := ⟨⟨by decide +kernel, by decide +kernel⟩, List.mem_of_getElem? (i := 30) (by decide +kernel), List.mem_of_getElem? (i := 462) (by decide +kernel), List.mem_of_getElem? (i := 463) (by decide +kernel)⟩
theorem lw_p33 : lw_okq (⟨"BiteChild", "bitesWithCarrot", "(II)I"⟩, 9) := ⟨⟨by decide +kernel, by decide +kernel⟩, List.mem_of_getElem? (i := 16) (by decide +kernel), List.mem_of_getElem? (i := 487) (by decide +kernel), List.mem_of_getElem? (i := 488) (by decide +kernel)⟩
theorem lw_p34 : lw_okq (⟨"BiteChild$Notes", "add", "(IIIIIII)I"⟩, 2) := ⟨⟨by decide +kernel, by decide +kernel⟩, List.mem_of_getElem? (i := 99) (by decide +kernel), List.mem_of_getElem? (i := 512) (by decide +kernel), List.mem_of_getElem? (i := 513) (by decide +kernel)⟩
theorem lw_p35 : lw_okq (⟨"BiteChild$Notes", "kindsOf", "(I)I"⟩, 2) := ⟨⟨by decide +kernel, by decide +kernel⟩, List.mem_of_getElem? (i := 99) (by decide +kernel), List.mem_of_getElem? (i := 524) (by decide +kernel), List.mem_of_getElem? (i := 525) (by decide +kernel)⟩
theorem lw_p36 : lw_okq (⟨"BiteChild", "ringGain", "(IIII)I"⟩, 9) := ⟨⟨by decide +kernel, by decide +kernel⟩, List.mem_of_getElem? (i := 16) (by decide +kernel), List.mem_of_getElem? (i := 548) (by decide +kernel), List.mem_of_getElem? (i := 549) (by decide +kernel)⟩
theorem lw_p37 : lw_okq (⟨"BiteChild$Scene", "copyFrom", "(LBiteChild$Scene;)V"⟩, 3) := ⟨⟨by decide +kernel, by decide +kernel⟩, List.mem_of_getElem? (i := 24) (by decide +kernel), List.mem_of_getElem? (i := 575) (by decide +kernel), List.mem_of_getElem? (i := 576) (by decide +kernel)⟩
theorem lw_p38 : lw_okq (⟨"BiteChild$Past", "copyFrom", "(LBiteChild$Past;)V"⟩, 3) := ⟨⟨by decide +kernel, by decide +kernel⟩, List.mem_of_getElem? (i := 79) (by decide +kernel), List.mem_of_getElem? (i := 579) (by decide +kernel), List.mem_of_getElem? (i := 580) (by decide +kernel)⟩
theorem lw_p39 : lw_okq (⟨"BiteChild$Notes", "copyFrom", "(LBiteChild$Notes;)V"⟩, 2) := ⟨⟨by decide +kernel, by decide +kernel⟩, List.mem_of_getElem? (i := 99) (by decide +kernel), List.mem_of_getElem? (i := 583) (by decide +kernel), List.mem_of_getElem? (i := 584) (by decide +kernel)⟩
theorem lw_p40 : lw_okq (⟨"BiteChild", "howMany", "(I)I"⟩, 9) := ⟨⟨by decide +kernel, by decide +kernel⟩, List.mem_of_getElem? (i := 16) (by decide +kernel), List.mem_of_getElem? (i := 600) (by decide +kernel), List.mem_of_getElem? (i := 601) (by decide +kernel)⟩
theorem lw_p41 : lw_okq (⟨"BiteChildModel", "bad", "()I"⟩, 19) := ⟨⟨by decide +kernel, by decide +kernel⟩, List.mem_of_getElem? (i := 609) (by decide +kernel), List.mem_of_getElem? (i := 687) (by decide +kernel), List.mem_of_getElem? (i := 688) (by decide +kernel)⟩
theorem lw_p42 : lw_okq (⟨"BiteChildModel", "no", "()I"⟩, 19) := ⟨⟨by decide +kernel, by decide +kernel⟩, List.mem_of_getElem? (i := 609) (by decide +kernel), List.mem_of_getElem? (i := 701) (by decide +kernel), List.mem_of_getElem? (i := 702) (by decide +kernel)⟩
theorem lw_p43 : lw_okq (⟨"BiteChildModel", "full", "()I"⟩, 19) := ⟨⟨by decide +kernel, by decide +kernel⟩, List.mem_of_getElem? (i := 609) (by decide +kernel), List.mem_of_getElem? (i := 705) (by decide +kernel), List.mem_of_getElem? (i := 706) (by decide +kernel)⟩
theorem lw_p44 : lw_okq (⟨"BiteChildModel", "step", "()V"⟩, 19) := ⟨⟨by decide +kernel, by decide +kernel⟩, List.mem_of_getElem? (i := 609) (by decide +kernel), List.mem_of_getElem? (i := 725) (by decide +kernel), List.mem_of_getElem? (i := 726) (by decide +kernel)⟩
theorem lw_p45 : lw_okq (⟨"BiteChildModel", "here", "()I"⟩, 19) := ⟨⟨by decide +kernel, by decide +kernel⟩, List.mem_of_getElem? (i := 609) (by decide +kernel), List.mem_of_getElem? (i := 729) (by decide +kernel), List.mem_of_getElem? (i := 730) (by decide +kernel)⟩
theorem lw_p46 : lw_okq (⟨"BiteChildModel", "readsItem", "(Z)Z"⟩, 19) := ⟨⟨by decide +kernel, by decide +kernel⟩, List.mem_of_getElem? (i := 609) (by decide +kernel), List.mem_of_getElem? (i := 739) (by decide +kernel), List.mem_of_getElem? (i := 740) (by decide +kernel)⟩
theorem lw_p47 : lw_okq (⟨"BiteChildModel", "readsTable", "()Z"⟩, 19) := ⟨⟨by decide +kernel, by decide +kernel⟩, List.mem_of_getElem? (i := 609) (by decide +kernel), List.mem_of_getElem? (i := 744) (by decide +kernel), List.mem_of_getElem? (i := 745) (by decide +kernel)⟩
def lw_privs_3 : List (MethodName × Nat) := [(⟨"BiteChild$Table", "nearOf", "(I)I"⟩, 10), (⟨"BiteChild", "bitesWithCarrot", "(II)I"⟩, 9), (⟨"BiteChild$Notes", "add", "(IIIIIII)I"⟩, 2), (⟨"BiteChild$Notes", "kindsOf", "(I)I"⟩, 2), (⟨"BiteChild", "ringGain", "(IIII)I"⟩, 9), (⟨"BiteChild$Scene", "copyFrom", "(LBiteChild$Scene;)V"⟩, 3), (⟨"BiteChild$Past", "copyFrom", "(LBiteChild$Past;)V"⟩, 3), (⟨"BiteChild$Notes", "copyFrom", "(LBiteChild$Notes;)V"⟩, 2), (⟨"BiteChild", "howMany", "(I)I"⟩, 9), (⟨"BiteChildModel", "bad", "()I"⟩, 19), (⟨"BiteChildModel", "no", "()I"⟩, 19), (⟨"BiteChildModel", "full", "()I"⟩, 19), (⟨"BiteChildModel", "step", "()V"⟩, 19), (⟨"BiteChildModel", "here", "()I"⟩, 19), (⟨"BiteChildModel", "readsItem", "(Z)Z"⟩, 19), (⟨"BiteChildModel", "readsTable", "()Z"⟩, 19)]
theorem lw_r3 : ∀ q ∈ lw_privs_3, lw_okq q := List.forall_mem_cons.mpr ⟨lw_p32, List.forall_mem_cons.mpr ⟨lw_p33, List.forall_mem_cons.mpr ⟨lw_p34, List.forall_mem_cons.mpr ⟨lw_p35, List.forall_mem_cons.mpr ⟨lw_p36, List.forall_mem_cons.mpr ⟨lw_p37, List.forall_mem_cons.mpr ⟨lw_p38, List.forall_mem_cons.mpr ⟨lw_p39, List.forall_mem_cons.mpr ⟨lw_p40, List.forall_mem_cons.mpr ⟨lw_p41, List.forall_mem_cons.mpr ⟨lw_p42, List.forall_mem_cons.mpr ⟨lw_p43, List.forall_mem_cons.mpr ⟨lw_p44, List.forall_mem_cons.mpr ⟨lw_p45, List.forall_mem_cons.mpr ⟨lw_p46, List.forall_mem_cons.mpr ⟨lw_p47, fun _ h => absurd h List.not_mem_nil⟩⟩⟩⟩⟩⟩⟩⟩⟩⟩⟩⟩⟩⟩⟩⟩
theorem lw_p48 : lw_okq (⟨"BiteChildModel", "number", "(I)Z"⟩, 19) := ⟨⟨by decide +kernel, by decide +kernel⟩, List.mem_of_getElem? (i := 609) (by decide +kernel), List.mem_of_getElem? (i := 748) (by decide +kernel), List.mem_of_getElem? (i := 749) (by decide +kernel)⟩
theorem lw_p49 : lw_okq (⟨"BiteChildModel", "readsChild", "()Z"⟩, 19) := ⟨⟨by decide +kernel, by decide +kernel⟩, List.mem_of_getElem? (i := 609) (by decide +kernel), List.mem_of_getElem? (i := 753) (by decide +kernel), List.mem_of_getElem? (i := 754) (by decide +kernel)⟩
theorem lw_p50 : lw_okq (⟨"BiteChildModel", "readsCarrot", "()Z"⟩, 19) := ⟨⟨by decide +kernel, by decide +kernel⟩, List.mem_of_getElem? (i := 609) (by decide +kernel), List.mem_of_getElem? (i := 758) (by decide +kernel), List.mem_of_getElem? (i := 759) (by decide +kernel)⟩
theorem lw_p51 : lw_okq (⟨"BiteChildModel", "remember", "()V"⟩, 19) := ⟨⟨by decide +kernel, by decide +kernel⟩, List.mem_of_getElem? (i := 609) (by decide +kernel), List.mem_of_getElem? (i := 773) (by decide +kernel), List.mem_of_getElem? (i := 774) (by decide +kernel)⟩
theorem lw_p52 : lw_okq (⟨"BiteChildModel", "isChild", "(I)Z"⟩, 19) := ⟨⟨by decide +kernel, by decide +kernel⟩, List.mem_of_getElem? (i := 609) (by decide +kernel), List.mem_of_getElem? (i := 811) (by decide +kernel), List.mem_of_getElem? (i := 812) (by decide +kernel)⟩
theorem lw_p53 : lw_okq (⟨"BiteChildModel", "worse", "()I"⟩, 19) := ⟨⟨by decide +kernel, by decide +kernel⟩, List.mem_of_getElem? (i := 609) (by decide +kernel), List.mem_of_getElem? (i := 836) (by decide +kernel), List.mem_of_getElem? (i := 837) (by decide +kernel)⟩
theorem lw_p54 : lw_okq (⟨"BiteChildModel", "layAside", "()V"⟩, 19) := ⟨⟨by decide +kernel, by decide +kernel⟩, List.mem_of_getElem? (i := 609) (by decide +kernel), List.mem_of_getElem? (i := 844) (by decide +kernel), List.mem_of_getElem? (i := 845) (by decide +kernel)⟩
theorem lw_p55 : lw_okq (⟨"BiteChildModel", "bitesIn", "(I)I"⟩, 19) := ⟨⟨by decide +kernel, by decide +kernel⟩, List.mem_of_getElem? (i := 609) (by decide +kernel), List.mem_of_getElem? (i := 848) (by decide +kernel), List.mem_of_getElem? (i := 849) (by decide +kernel)⟩
theorem lw_p56 : lw_okq (⟨"BiteChildModel", "seatsAll", "()I"⟩, 19) := ⟨⟨by decide +kernel, by decide +kernel⟩, List.mem_of_getElem? (i := 609) (by decide +kernel), List.mem_of_getElem? (i := 869) (by decide +kernel), List.mem_of_getElem? (i := 870) (by decide +kernel)⟩
theorem lw_p57 : lw_okq (⟨"BiteChildModel", "kindsOf", "(I)I"⟩, 19) := ⟨⟨by decide +kernel, by decide +kernel⟩, List.mem_of_getElem? (i := 609) (by decide +kernel), List.mem_of_getElem? (i := 895) (by decide +kernel), List.mem_of_getElem? (i := 896) (by decide +kernel)⟩
theorem lw_p58 : lw_okq (⟨"BiteChildModel", "alike", "(IIIIII)I"⟩, 19) := ⟨⟨by decide +kernel, by decide +kernel⟩, List.mem_of_getElem? (i := 609) (by decide +kernel), List.mem_of_getElem? (i := 903) (by decide +kernel), List.mem_of_getElem? (i := 904) (by decide +kernel)⟩
theorem lw_p59 : lw_okq (⟨"BiteChildModel", "gets", "(II)I"⟩, 19) := ⟨⟨by decide +kernel, by decide +kernel⟩, List.mem_of_getElem? (i := 609) (by decide +kernel), List.mem_of_getElem? (i := 915) (by decide +kernel), List.mem_of_getElem? (i := 916) (by decide +kernel)⟩
theorem lw_p60 : lw_okq (⟨"BiteChildModel", "counted", "(I)I"⟩, 19) := ⟨⟨by decide +kernel, by decide +kernel⟩, List.mem_of_getElem? (i := 609) (by decide +kernel), List.mem_of_getElem? (i := 954) (by decide +kernel), List.mem_of_getElem? (i := 955) (by decide +kernel)⟩
def lw_privs_4 : List (MethodName × Nat) := [(⟨"BiteChildModel", "number", "(I)Z"⟩, 19), (⟨"BiteChildModel", "readsChild", "()Z"⟩, 19), (⟨"BiteChildModel", "readsCarrot", "()Z"⟩, 19), (⟨"BiteChildModel", "remember", "()V"⟩, 19), (⟨"BiteChildModel", "isChild", "(I)Z"⟩, 19), (⟨"BiteChildModel", "worse", "()I"⟩, 19), (⟨"BiteChildModel", "layAside", "()V"⟩, 19), (⟨"BiteChildModel", "bitesIn", "(I)I"⟩, 19), (⟨"BiteChildModel", "seatsAll", "()I"⟩, 19), (⟨"BiteChildModel", "kindsOf", "(I)I"⟩, 19), (⟨"BiteChildModel", "alike", "(IIIIII)I"⟩, 19), (⟨"BiteChildModel", "gets", "(II)I"⟩, 19), (⟨"BiteChildModel", "counted", "(I)I"⟩, 19)]
theorem lw_r4 : ∀ q ∈ lw_privs_4, lw_okq q := List.forall_mem_cons.mpr ⟨lw_p48, List.forall_mem_cons.mpr ⟨lw_p49, List.forall_mem_cons.mpr ⟨lw_p50, List.forall_mem_cons.mpr ⟨lw_p51, List.forall_mem_cons.mpr ⟨lw_p52, List.forall_mem_cons.mpr ⟨lw_p53, List.forall_mem_cons.mpr ⟨lw_p54, List.forall_mem_cons.mpr ⟨lw_p55, List.forall_mem_cons.mpr ⟨lw_p56, List.forall_mem_cons.mpr ⟨lw_p57, List.forall_mem_cons.mpr ⟨lw_p58, List.forall_mem_cons.mpr ⟨lw_p59, List.forall_mem_cons.mpr ⟨lw_p60, fun _ h => absurd h List.not_mem_nil⟩⟩⟩⟩⟩⟩⟩⟩⟩⟩⟩⟩⟩
def lw_privs : List (MethodName × Nat) := lw_privs_1 ++ (lw_privs_2 ++ (lw_privs_3 ++ (lw_privs_4)))
def lw_tbl : List Cond := k2_sels lw_privs ++ tables_1
theorem lw_privs_ok : ∀ q ∈ lw_privs, lw_okq q := by
  show ∀ q ∈ lw_privs_1 ++ (lw_privs_2 ++ (lw_privs_3 ++ (lw_privs_4))), lw_okq q
  exact List.forall_mem_append.mpr ⟨lw_r1, List.forall_mem_append.mpr ⟨lw_r2, List.forall_mem_append.mpr ⟨lw_r3, lw_r4⟩⟩⟩
end
section

/-! ===== BEGIN printed: names, fields, word lists, decode rows ===== -/
def RX0 : String := "BiteChild$Notes"
def TX0 : u_T := fun k => match k with
  | 0 => ("BiteChild$Notes", "parts", "[I", true)
  | _ => ("BiteChild$Notes", "size", "I", false)
def tyX0 : Nat → FieldType := fun k => match k with
  | 0 => .array .int
  | _ => .int
abbrev wsX00 : List Cond := u_ws RX0 TX0 2
theorem nmX0 : ∀ a, a < 2 → ∀ b, b < 2 → a ≠ b → (TX0 a).2.1 ≠ (TX0 b).2.1 := by decide +kernel
theorem tyX0_ok : ∀ k, k < 2 → parseFieldDescriptor (TX0 k).2.2.1 = some (tyX0 k) := by decide +kernel
abbrev cX0_init : ByteArray := prog_2_method_1_code
def yX0_init : MethodName := ⟨RX0, "<init>", "()V"⟩
abbrev cX0_add : ByteArray := prog_2_method_2_code
def yX0_add : MethodName := ⟨RX0, "add", "(IIIIIII)I"⟩
abbrev cX0_kindsOf : ByteArray := prog_2_method_3_code
def yX0_kindsOf : MethodName := ⟨RX0, "kindsOf", "(I)I"⟩
abbrev cX0_copyFrom : ByteArray := prog_2_method_4_code
def yX0_copyFrom : MethodName := ⟨RX0, "copyFrom", "(LBiteChild$Notes;)V"⟩
def RX1 : String := "BiteChild$Past"
def TX1 : u_T := fun k => match k with
  | 0 => ("BiteChild$Past", "tables", "[LBiteChild$Table;", true)
  | 1 => ("BiteChild$Past", "oldest", "I", false)
  | _ => ("BiteChild$Past", "size", "I", false)
def tyX1 : Nat → FieldType := fun k => match k with
  | 0 => .array (.object "BiteChild$Table")
  | 1 => .int
  | _ => .int
abbrev wsX10 : List Cond := u_ws RX1 TX1 3
theorem nmX1 : ∀ a, a < 3 → ∀ b, b < 3 → a ≠ b → (TX1 a).2.1 ≠ (TX1 b).2.1 := by decide +kernel
theorem tyX1_ok : ∀ k, k < 3 → parseFieldDescriptor (TX1 k).2.2.1 = some (tyX1 k) := by decide +kernel
abbrev cX1_init : ByteArray := prog_3_method_1_code
def yX1_init : MethodName := ⟨RX1, "<init>", "()V"⟩
abbrev cX1_empty : ByteArray := prog_3_method_2_code
def yX1_empty : MethodName := ⟨RX1, "empty", "()V"⟩
abbrev cX1_keep : ByteArray := prog_3_method_3_code
def yX1_keep : MethodName := ⟨RX1, "keep", "(LBiteChild$Table;)V"⟩
abbrev cX1_giveBack : ByteArray := prog_3_method_4_code
def yX1_giveBack : MethodName := ⟨RX1, "giveBack", "(LBiteChild$Table;)V"⟩
abbrev cX1_copyFrom : ByteArray := prog_3_method_5_code
def yX1_copyFrom : MethodName := ⟨RX1, "copyFrom", "(LBiteChild$Past;)V"⟩
def RX2 : String := "BiteChild$Scene"
def TX2 : u_T := fun k => match k with
  | 0 => ("BiteChild$Scene", "table", "LBiteChild$Table;", true)
  | 1 => ("BiteChild$Scene", "past", "LBiteChild$Past;", true)
  | _ => ("BiteChild$Scene", "notes", "LBiteChild$Notes;", true)
def tyX2 : Nat → FieldType := fun k => match k with
  | 0 => .object "BiteChild$Table"
  | 1 => .object "BiteChild$Past"
  | _ => .object "BiteChild$Notes"
abbrev wsX20 : List Cond := u_ws RX2 TX2 3
theorem nmX2 : ∀ a, a < 3 → ∀ b, b < 3 → a ≠ b → (TX2 a).2.1 ≠ (TX2 b).2.1 := by decide +kernel
theorem tyX2_ok : ∀ k, k < 3 → parseFieldDescriptor (TX2 k).2.2.1 = some (tyX2 k) := by decide +kernel
abbrev cX2_init : ByteArray := prog_4_method_1_code
def yX2_init : MethodName := ⟨RX2, "<init>", "()V"⟩
abbrev cX2_beginWith : ByteArray := prog_4_method_2_code
def yX2_beginWith : MethodName := ⟨RX2, "beginWith", "(LBiteChild$Table;)V"⟩
abbrev cX2_copyFrom : ByteArray := prog_4_method_3_code
def yX2_copyFrom : MethodName := ⟨RX2, "copyFrom", "(LBiteChild$Scene;)V"⟩
def RX3 : String := "BiteChild$Table"
def TX3 : u_T := fun k => match k with
  | 0 => ("BiteChild$Table", "woman", "I", false)
  | 1 => ("BiteChild$Table", "minute", "I", false)
  | 2 => ("BiteChild$Table", "bites", "I", false)
  | 3 => ("BiteChild$Table", "lately", "I", false)
  | 4 => ("BiteChild$Table", "children", "I", false)
  | 5 => ("BiteChild$Table", "kind", "[I", true)
  | 6 => ("BiteChild$Table", "seat", "[I", true)
  | 7 => ("BiteChild$Table", "words", "[I", true)
  | 8 => ("BiteChild$Table", "hunger", "[I", true)
  | _ => ("BiteChild$Table", "bitten", "[I", true)
def tyX3 : Nat → FieldType := fun k => match k with
  | 0 => .int
  | 1 => .int
  | 2 => .int
  | 3 => .int
  | 4 => .int
  | 5 => .array .int
  | 6 => .array .int
  | 7 => .array .int
  | 8 => .array .int
  | _ => .array .int
abbrev wsX30 : List Cond := u_ws RX3 TX3 10
theorem nmX3 : ∀ a, a < 10 → ∀ b, b < 10 → a ≠ b → (TX3 a).2.1 ≠ (TX3 b).2.1 := by decide +kernel
theorem tyX3_ok : ∀ k, k < 10 → parseFieldDescriptor (TX3 k).2.2.1 = some (tyX3 k) := by decide +kernel
abbrev cX3_init : ByteArray := prog_5_method_1_code
def yX3_init : MethodName := ⟨RX3, "<init>", "()V"⟩
abbrev cX3_layAnew : ByteArray := prog_5_method_2_code
def yX3_layAnew : MethodName := ⟨RX3, "layAnew", "(I)V"⟩
abbrev cX3_copyFrom : ByteArray := prog_5_method_3_code
def yX3_copyFrom : MethodName := ⟨RX3, "copyFrom", "(LBiteChild$Table;)V"⟩
abbrev cX3_addChild : ByteArray := prog_5_method_4_code
def yX3_addChild : MethodName := ⟨RX3, "addChild", "(IIII)I"⟩
abbrev cX3_partOf : ByteArray := prog_5_method_5_code
def yX3_partOf : MethodName := ⟨RX3, "partOf", "(II)I"⟩
abbrev cX3_childAt : ByteArray := prog_5_method_6_code
def yX3_childAt : MethodName := ⟨RX3, "childAt", "(I)I"⟩
abbrev cX3_takenSeats : ByteArray := prog_5_method_7_code
def yX3_takenSeats : MethodName := ⟨RX3, "takenSeats", "()I"⟩
abbrev cX3_nextSeat : ByteArray := prog_5_method_8_code
def yX3_nextSeat : MethodName := ⟨RX3, "nextSeat", "(I)I"⟩
abbrev cX3_seatAhead : ByteArray := prog_5_method_9_code
def yX3_seatAhead : MethodName := ⟨RX3, "seatAhead", "(I)I"⟩
abbrev cX3_tightIn : ByteArray := prog_5_method_10_code
def yX3_tightIn : MethodName := ⟨RX3, "tightIn", "(II)I"⟩
abbrev cX3_tightOf : ByteArray := prog_5_method_11_code
def yX3_tightOf : MethodName := ⟨RX3, "tightOf", "(I)I"⟩
abbrev cX3_nearIf : ByteArray := prog_5_method_12_code
def yX3_nearIf : MethodName := ⟨RX3, "nearIf", "(II)I"⟩
abbrev cX3_nearOf : ByteArray := prog_5_method_13_code
def yX3_nearOf : MethodName := ⟨RX3, "nearOf", "(I)I"⟩
abbrev cX3_whomOf : ByteArray := prog_5_method_14_code
def yX3_whomOf : MethodName := ⟨RX3, "whomOf", "(I)I"⟩
abbrev cX3_isGuarded : ByteArray := prog_5_method_15_code
def yX3_isGuarded : MethodName := ⟨RX3, "isGuarded", "(I)Z"⟩
abbrev cX3_biters : ByteArray := prog_5_method_16_code
def yX3_biters : MethodName := ⟨RX3, "biters", "()I"⟩
abbrev cX3_timesBitten : ByteArray := prog_5_method_17_code
def yX3_timesBitten : MethodName := ⟨RX3, "timesBitten", "(II)I"⟩
abbrev cX3_giveCarrot : ByteArray := prog_5_method_18_code
def yX3_giveCarrot : MethodName := ⟨RX3, "giveCarrot", "(I)I"⟩
abbrev cX3_passMinutes : ByteArray := prog_5_method_19_code
def yX3_passMinutes : MethodName := ⟨RX3, "passMinutes", "(I)I"⟩
abbrev cX3_passMinute : ByteArray := prog_5_method_20_code
def yX3_passMinute : MethodName := ⟨RX3, "passMinute", "()I"⟩
def RX4 : String := "BiteChild$Text"
def TX4 : u_T := fun k => match k with
  | 0 => ("BiteChild$Text", "bytes", "[B", true)
  | 1 => ("BiteChild$Text", "length", "I", false)
  | 2 => ("BiteChild$Text", "place", "I", false)
  | 3 => ("BiteChild$Text", "start", "I", false)
  | 4 => ("BiteChild$Text", "token", "I", false)
  | _ => ("BiteChild$Text", "value", "I", false)
def tyX4 : Nat → FieldType := fun k => match k with
  | 0 => .array .byte
  | 1 => .int
  | 2 => .int
  | 3 => .int
  | 4 => .int
  | _ => .int
abbrev wsX40 : List Cond := u_ws RX4 TX4 6
theorem nmX4 : ∀ a, a < 6 → ∀ b, b < 6 → a ≠ b → (TX4 a).2.1 ≠ (TX4 b).2.1 := by decide +kernel
theorem tyX4_ok : ∀ k, k < 6 → parseFieldDescriptor (TX4 k).2.2.1 = some (tyX4 k) := by decide +kernel
abbrev cX4_init : ByteArray := prog_6_method_1_code
def yX4_init : MethodName := ⟨RX4, "<init>", "()V"⟩
abbrev cX4_append : ByteArray := prog_6_method_2_code
def yX4_append : MethodName := ⟨RX4, "append", "(I)I"⟩
abbrev cX4_readInto : ByteArray := prog_6_method_3_code
def yX4_readInto : MethodName := ⟨RX4, "readInto", "(LBiteChild$Table;)I"⟩
abbrev cX4_readWoman : ByteArray := prog_6_method_4_code
def yX4_readWoman : MethodName := ⟨RX4, "readWoman", "(LBiteChild$Table;)Z"⟩
abbrev cX4_readChild : ByteArray := prog_6_method_5_code
def yX4_readChild : MethodName := ⟨RX4, "readChild", "(LBiteChild$Table;)Z"⟩
abbrev cX4_readCarrot : ByteArray := prog_6_method_6_code
def yX4_readCarrot : MethodName := ⟨RX4, "readCarrot", "(LBiteChild$Table;)Z"⟩
abbrev cX4_nextNumber : ByteArray := prog_6_method_7_code
def yX4_nextNumber : MethodName := ⟨RX4, "nextNumber", "(I)Z"⟩
abbrev cX4_nextMark : ByteArray := prog_6_method_8_code
def yX4_nextMark : MethodName := ⟨RX4, "nextMark", "()Z"⟩
abbrev cX4_nextToken : ByteArray := prog_6_method_9_code
def yX4_nextToken : MethodName := ⟨RX4, "nextToken", "()V"⟩
abbrev cX4_takeWord : ByteArray := prog_6_method_10_code
def yX4_takeWord : MethodName := ⟨RX4, "takeWord", "()V"⟩
abbrev cX4_takeFigures : ByteArray := prog_6_method_11_code
def yX4_takeFigures : MethodName := ⟨RX4, "takeFigures", "()V"⟩
abbrev cX4_isWord : ByteArray := prog_6_method_12_code
def yX4_isWord : MethodName := ⟨RX4, "isWord", "(Ljava/lang/String;)Z"⟩
abbrev cX4_isLetter : ByteArray := prog_6_method_13_code
def yX4_isLetter : MethodName := ⟨RX4, "isLetter", "(I)Z"⟩
abbrev cX4_isFigure : ByteArray := prog_6_method_14_code
def yX4_isFigure : MethodName := ⟨RX4, "isFigure", "(I)Z"⟩
def RX5 : String := "BiteChild"
def TX5 : u_T := fun k => match k with
  | 0 => ("BiteChild", "scene", "LBiteChild$Scene;", true)
  | 1 => ("BiteChild", "images", "[LBiteChild$Scene;", true)
  | 2 => ("BiteChild", "imageKept", "[Z", true)
  | 3 => ("BiteChild", "text", "LBiteChild$Text;", true)
  | 4 => ("BiteChild", "trial", "LBiteChild$Table;", true)
  | 5 => ("BiteChild", "seating", "[I", true)
  | 6 => ("BiteChild", "refused", "[I", true)
  | 7 => ("BiteChild", "above", "J", false)
  | _ => ("BiteChild", "below", "J", false)
def tyX5 : Nat → FieldType := fun k => match k with
  | 0 => .object "BiteChild$Scene"
  | 1 => .array (.object "BiteChild$Scene")
  | 2 => .array .boolean
  | 3 => .object "BiteChild$Text"
  | 4 => .object "BiteChild$Table"
  | 5 => .array .int
  | 6 => .array .int
  | 7 => .long
  | _ => .long
abbrev wsX50 : List Cond := u_ws RX5 TX5 9
theorem nmX5 : ∀ a, a < 9 → ∀ b, b < 9 → a ≠ b → (TX5 a).2.1 ≠ (TX5 b).2.1 := by decide +kernel
theorem tyX5_ok : ∀ k, k < 9 → parseFieldDescriptor (TX5 k).2.2.1 = some (tyX5 k) := by decide +kernel
abbrev cX5_init : ByteArray := prog_1_method_1_code
def yX5_init : MethodName := ⟨RX5, "<init>", "()V"⟩
abbrev cX5_table : ByteArray := prog_1_method_2_code
def yX5_table : MethodName := ⟨RX5, "table", "(I)I"⟩
abbrev cX5_child : ByteArray := prog_1_method_3_code
def yX5_child : MethodName := ⟨RX5, "child", "(IIII)I"⟩
abbrev cX5_type : ByteArray := prog_1_method_4_code
def yX5_type : MethodName := ⟨RX5, "type", "(I)I"⟩
abbrev cX5_clear : ByteArray := prog_1_method_5_code
def yX5_clear : MethodName := ⟨RX5, "clear", "()I"⟩
abbrev cX5_read : ByteArray := prog_1_method_6_code
def yX5_read : MethodName := ⟨RX5, "read", "()I"⟩
abbrev cX5_minute : ByteArray := prog_1_method_7_code
def yX5_minute : MethodName := ⟨RX5, "minute", "(I)I"⟩
abbrev cX5_carrot : ByteArray := prog_1_method_8_code
def yX5_carrot : MethodName := ⟨RX5, "carrot", "(I)I"⟩
abbrev cX5_moves : ByteArray := prog_1_method_9_code
def yX5_moves : MethodName := ⟨RX5, "moves", "(II)I"⟩
abbrev cX5_woman : ByteArray := prog_1_method_10_code
def yX5_woman : MethodName := ⟨RX5, "woman", "(I)I"⟩
abbrev cX5_undo : ByteArray := prog_1_method_11_code
def yX5_undo : MethodName := ⟨RX5, "undo", "()I"⟩
abbrev cX5_of : ByteArray := prog_1_method_12_code
def yX5_of : MethodName := ⟨RX5, "of", "(II)I"⟩
abbrev cX5_now : ByteArray := prog_1_method_13_code
def yX5_now : MethodName := ⟨RX5, "now", "(II)I"⟩
abbrev cX5_then : ByteArray := prog_1_method_14_code
def yX5_then : MethodName := ⟨RX5, "then", "(II)I"⟩
abbrev cX5_quiet : ByteArray := prog_1_method_15_code
def yX5_quiet : MethodName := ⟨RX5, "quiet", "()I"⟩
abbrev cX5_stand : ByteArray := prog_1_method_16_code
def yX5_stand : MethodName := ⟨RX5, "stand", "(II)I"⟩
abbrev cX5_helps : ByteArray := prog_1_method_17_code
def yX5_helps : MethodName := ⟨RX5, "helps", "()I"⟩
abbrev cX5_seated : ByteArray := prog_1_method_18_code
def yX5_seated : MethodName := ⟨RX5, "seated", "(I)I"⟩
abbrev cX5_words : ByteArray := prog_1_method_19_code
def yX5_words : MethodName := ⟨RX5, "words", "(I)I"⟩
abbrev cX5_say : ByteArray := prog_1_method_20_code
def yX5_say : MethodName := ⟨RX5, "say", "()I"⟩
abbrev cX5_note : ByteArray := prog_1_method_21_code
def yX5_note : MethodName := ⟨RX5, "note", "(IIIIIII)I"⟩
abbrev cX5_forget : ByteArray := prog_1_method_22_code
def yX5_forget : MethodName := ⟨RX5, "forget", "()I"⟩
abbrev cX5_is : ByteArray := prog_1_method_23_code
def yX5_is : MethodName := ⟨RX5, "is", "(I)I"⟩
abbrev cX5_look : ByteArray := prog_1_method_24_code
def yX5_look : MethodName := ⟨RX5, "look", "(I)I"⟩
abbrev cX5_who : ByteArray := prog_1_method_25_code
def yX5_who : MethodName := ⟨RX5, "who", "(I)I"⟩
abbrev cX5_rings : ByteArray := prog_1_method_26_code
def yX5_rings : MethodName := ⟨RX5, "rings", "(II)I"⟩
abbrev cX5_eyes : ByteArray := prog_1_method_27_code
def yX5_eyes : MethodName := ⟨RX5, "eyes", "(I)I"⟩
abbrev cX5_weeks : ByteArray := prog_1_method_28_code
def yX5_weeks : MethodName := ⟨RX5, "weeks", "(II)I"⟩
abbrev cX5_part : ByteArray := prog_1_method_29_code
def yX5_part : MethodName := ⟨RX5, "part", "(I)J"⟩
abbrev cX5_image : ByteArray := prog_1_method_30_code
def yX5_image : MethodName := ⟨RX5, "image", "(I)I"⟩
abbrev cX5_from : ByteArray := prog_1_method_31_code
def yX5_from : MethodName := ⟨RX5, "from", "(I)I"⟩
abbrev cX5_status : ByteArray := prog_1_method_32_code
def yX5_status : MethodName := ⟨RX5, "status", "(I)I"⟩
abbrev cX5_count : ByteArray := prog_1_method_33_code
def yX5_count : MethodName := ⟨RX5, "count", "(I)I"⟩
abbrev cX5_digest : ByteArray := prog_1_method_34_code
def yX5_digest : MethodName := ⟨RX5, "digest", "()J"⟩
abbrev cX5_within : ByteArray := prog_1_method_35_code
def yX5_within : MethodName := ⟨RX5, "within", "(III)Z"⟩
abbrev cX5_isSeat : ByteArray := prog_1_method_36_code
def yX5_isSeat : MethodName := ⟨RX5, "isSeat", "(I)Z"⟩
abbrev cX5_isChild : ByteArray := prog_1_method_37_code
def yX5_isChild : MethodName := ⟨RX5, "isChild", "(I)Z"⟩
abbrev cX5_refuse : ByteArray := prog_1_method_38_code
def yX5_refuse : MethodName := ⟨RX5, "refuse", "(I)I"⟩
abbrev cX5_howMany : ByteArray := prog_1_method_39_code
def yX5_howMany : MethodName := ⟨RX5, "howMany", "(I)I"⟩
abbrev cX5_bitesWithCarrot : ByteArray := prog_1_method_40_code
def yX5_bitesWithCarrot : MethodName := ⟨RX5, "bitesWithCarrot", "(II)I"⟩
abbrev cX5_seatRest : ByteArray := prog_1_method_41_code
def yX5_seatRest : MethodName := ⟨RX5, "seatRest", "(LBiteChild$Table;III[I)I"⟩
abbrev cX5_ringGain : ByteArray := prog_1_method_42_code
def yX5_ringGain : MethodName := ⟨RX5, "ringGain", "(IIII)I"⟩
abbrev cX5_mostAlike : ByteArray := prog_1_method_43_code
def yX5_mostAlike : MethodName := ⟨RX5, "mostAlike", "(IIIIII)I"⟩
abbrev cX5_kindsSoNear : ByteArray := prog_1_method_44_code
def yX5_kindsSoNear : MethodName := ⟨RX5, "kindsSoNear", "(IIIIII)I"⟩
abbrev cX5_near : ByteArray := prog_1_method_45_code
def yX5_near : MethodName := ⟨RX5, "near", "(IIIIII)I"⟩
def RX6 : String := "BiteChildModel"
def TX6 : u_T := fun k => match k with
  | 0 => ("BiteChildModel", "now", "[I", true)
  | 1 => ("BiteChildModel", "read", "[I", true)
  | 2 => ("BiteChildModel", "aside", "[I", true)
  | 3 => ("BiteChildModel", "images", "[I", true)
  | 4 => ("BiteChildModel", "kept", "[Z", true)
  | 5 => ("BiteChildModel", "text", "[I", true)
  | 6 => ("BiteChildModel", "size", "I", false)
  | 7 => ("BiteChildModel", "above", "J", false)
  | 8 => ("BiteChildModel", "below", "J", false)
  | 9 => ("BiteChildModel", "bads", "I", false)
  | 10 => ("BiteChildModel", "noes", "I", false)
  | 11 => ("BiteChildModel", "fulls", "I", false)
  | 12 => ("BiteChildModel", "at", "I", false)
  | 13 => ("BiteChildModel", "begin", "I", false)
  | 14 => ("BiteChildModel", "token", "I", false)
  | 15 => ("BiteChildModel", "word", "J", false)
  | 16 => ("BiteChildModel", "value", "I", false)
  | 17 => ("BiteChildModel", "seats", "[I", true)
  | _ => ("BiteChildModel", "best", "[I", true)
def tyX6 : Nat → FieldType := fun k => match k with
  | 0 => .array .int
  | 1 => .array .int
  | 2 => .array .int
  | 3 => .array .int
  | 4 => .array .boolean
  | 5 => .array .int
  | 6 => .int
  | 7 => .long
  | 8 => .long
  | 9 => .int
  | 10 => .int
  | 11 => .int
  | 12 => .int
  | 13 => .int
  | 14 => .int
  | 15 => .long
  | 16 => .int
  | 17 => .array .int
  | _ => .array .int
abbrev wsX60 : List Cond := u_ws RX6 TX6 19
theorem nmX6 : ∀ a, a < 19 → ∀ b, b < 19 → a ≠ b → (TX6 a).2.1 ≠ (TX6 b).2.1 := by decide +kernel
theorem tyX6_ok : ∀ k, k < 19 → parseFieldDescriptor (TX6 k).2.2.1 = some (tyX6 k) := by decide +kernel
abbrev cX6_init : ByteArray := prog_8_method_1_code
def yX6_init : MethodName := ⟨RX6, "<init>", "()V"⟩
abbrev cX6_in : ByteArray := prog_8_method_3_code
def yX6_in : MethodName := ⟨RX6, "in", "(JJJ)Z"⟩
abbrev cX6_has : ByteArray := prog_8_method_4_code
def yX6_has : MethodName := ⟨RX6, "has", "(II)Z"⟩
abbrev cX6_bits : ByteArray := prog_8_method_5_code
def yX6_bits : MethodName := ⟨RX6, "bits", "(I)I"⟩
abbrev cX6_copies : ByteArray := prog_8_method_6_code
def yX6_copies : MethodName := ⟨RX6, "copies", "([II[III)V"⟩
abbrev cX6_begins : ByteArray := prog_8_method_7_code
def yX6_begins : MethodName := ⟨RX6, "begins", "([II)V"⟩
abbrev cX6_bad : ByteArray := prog_8_method_8_code
def yX6_bad : MethodName := ⟨RX6, "bad", "()I"⟩
abbrev cX6_worse : ByteArray := prog_8_method_9_code
def yX6_worse : MethodName := ⟨RX6, "worse", "()I"⟩
abbrev cX6_no : ByteArray := prog_8_method_10_code
def yX6_no : MethodName := ⟨RX6, "no", "()I"⟩
abbrev cX6_full : ByteArray := prog_8_method_11_code
def yX6_full : MethodName := ⟨RX6, "full", "()I"⟩
abbrev cX6_isSeat : ByteArray := prog_8_method_12_code
def yX6_isSeat : MethodName := ⟨RX6, "isSeat", "(I)Z"⟩
abbrev cX6_isChild : ByteArray := prog_8_method_13_code
def yX6_isChild : MethodName := ⟨RX6, "isChild", "(I)Z"⟩
abbrev cX6_whoIs : ByteArray := prog_8_method_14_code
def yX6_whoIs : MethodName := ⟨RX6, "whoIs", "([II)I"⟩
abbrev cX6_table : ByteArray := prog_8_method_15_code
def yX6_table : MethodName := ⟨RX6, "table", "(I)I"⟩
abbrev cX6_comes : ByteArray := prog_8_method_16_code
def yX6_comes : MethodName := ⟨RX6, "comes", "([IIIII)V"⟩
abbrev cX6_child : ByteArray := prog_8_method_17_code
def yX6_child : MethodName := ⟨RX6, "child", "(IIII)I"⟩
abbrev cX6_type : ByteArray := prog_8_method_18_code
def yX6_type : MethodName := ⟨RX6, "type", "(I)I"⟩
abbrev cX6_clear : ByteArray := prog_8_method_19_code
def yX6_clear : MethodName := ⟨RX6, "clear", "()I"⟩
abbrev cX6_here : ByteArray := prog_8_method_20_code
def yX6_here : MethodName := ⟨RX6, "here", "()I"⟩
abbrev cX6_step : ByteArray := prog_8_method_21_code
def yX6_step : MethodName := ⟨RX6, "step", "()V"⟩
abbrev cX6_number : ByteArray := prog_8_method_22_code
def yX6_number : MethodName := ⟨RX6, "number", "(I)Z"⟩
abbrev cX6_readsTable : ByteArray := prog_8_method_23_code
def yX6_readsTable : MethodName := ⟨RX6, "readsTable", "()Z"⟩
abbrev cX6_readsChild : ByteArray := prog_8_method_24_code
def yX6_readsChild : MethodName := ⟨RX6, "readsChild", "()Z"⟩
abbrev cX6_lesser : ByteArray := prog_8_method_25_code
def yX6_lesser : MethodName := ⟨RX6, "lesser", "(II)I"⟩
abbrev cX6_readsCarrot : ByteArray := prog_8_method_26_code
def yX6_readsCarrot : MethodName := ⟨RX6, "readsCarrot", "()Z"⟩
abbrev cX6_readsItem : ByteArray := prog_8_method_27_code
def yX6_readsItem : MethodName := ⟨RX6, "readsItem", "(Z)Z"⟩
abbrev cX6_read : ByteArray := prog_8_method_28_code
def yX6_read : MethodName := ⟨RX6, "read", "()I"⟩
abbrev cX6_nearAs : ByteArray := prog_8_method_29_code
def yX6_nearAs : MethodName := ⟨RX6, "nearAs", "(IIIIII)I"⟩
abbrev cX6_tight : ByteArray := prog_8_method_30_code
def yX6_tight : MethodName := ⟨RX6, "tight", "([II)I"⟩
abbrev cX6_nearOf : ByteArray := prog_8_method_31_code
def yX6_nearOf : MethodName := ⟨RX6, "nearOf", "([II)I"⟩
abbrev cX6_whom : ByteArray := prog_8_method_32_code
def yX6_whom : MethodName := ⟨RX6, "whom", "([II)I"⟩
abbrev cX6_isGuarded : ByteArray := prog_8_method_33_code
def yX6_isGuarded : MethodName := ⟨RX6, "isGuarded", "([II)Z"⟩
abbrev cX6_bites : ByteArray := prog_8_method_34_code
def yX6_bites : MethodName := ⟨RX6, "bites", "([II)Z"⟩
abbrev cX6_biters : ByteArray := prog_8_method_35_code
def yX6_biters : MethodName := ⟨RX6, "biters", "([I)I"⟩
abbrev cX6_goes : ByteArray := prog_8_method_36_code
def yX6_goes : MethodName := ⟨RX6, "goes", "([I)V"⟩
abbrev cX6_remember : ByteArray := prog_8_method_37_code
def yX6_remember : MethodName := ⟨RX6, "remember", "()V"⟩
abbrev cX6_minute : ByteArray := prog_8_method_38_code
def yX6_minute : MethodName := ⟨RX6, "minute", "(I)I"⟩
abbrev cX6_carrot : ByteArray := prog_8_method_39_code
def yX6_carrot : MethodName := ⟨RX6, "carrot", "(I)I"⟩
abbrev cX6_moves : ByteArray := prog_8_method_40_code
def yX6_moves : MethodName := ⟨RX6, "moves", "(II)I"⟩
abbrev cX6_woman : ByteArray := prog_8_method_41_code
def yX6_woman : MethodName := ⟨RX6, "woman", "(I)I"⟩
abbrev cX6_undo : ByteArray := prog_8_method_42_code
def yX6_undo : MethodName := ⟨RX6, "undo", "()I"⟩
abbrev cX6_of : ByteArray := prog_8_method_43_code
def yX6_of : MethodName := ⟨RX6, "of", "(II)I"⟩
abbrev cX6_now : ByteArray := prog_8_method_44_code
def yX6_now : MethodName := ⟨RX6, "now", "(II)I"⟩
abbrev cX6_layAside : ByteArray := prog_8_method_45_code
def yX6_layAside : MethodName := ⟨RX6, "layAside", "()V"⟩
abbrev cX6_bitesIn : ByteArray := prog_8_method_46_code
def yX6_bitesIn : MethodName := ⟨RX6, "bitesIn", "(I)I"⟩
abbrev cX6_then : ByteArray := prog_8_method_47_code
def yX6_then : MethodName := ⟨RX6, "then", "(II)I"⟩
abbrev cX6_quiet : ByteArray := prog_8_method_48_code
def yX6_quiet : MethodName := ⟨RX6, "quiet", "()I"⟩
abbrev cX6_stand : ByteArray := prog_8_method_49_code
def yX6_stand : MethodName := ⟨RX6, "stand", "(II)I"⟩
abbrev cX6_helps : ByteArray := prog_8_method_50_code
def yX6_helps : MethodName := ⟨RX6, "helps", "()I"⟩
abbrev cX6_seatsAll : ByteArray := prog_8_method_51_code
def yX6_seatsAll : MethodName := ⟨RX6, "seatsAll", "()I"⟩
abbrev cX6_seated : ByteArray := prog_8_method_52_code
def yX6_seated : MethodName := ⟨RX6, "seated", "(I)I"⟩
abbrev cX6_words : ByteArray := prog_8_method_53_code
def yX6_words : MethodName := ⟨RX6, "words", "(I)I"⟩
abbrev cX6_say : ByteArray := prog_8_method_54_code
def yX6_say : MethodName := ⟨RX6, "say", "()I"⟩
abbrev cX6_note : ByteArray := prog_8_method_55_code
def yX6_note : MethodName := ⟨RX6, "note", "(IIIIIII)I"⟩
abbrev cX6_forget : ByteArray := prog_8_method_56_code
def yX6_forget : MethodName := ⟨RX6, "forget", "()I"⟩
abbrev cX6_kindsOf : ByteArray := prog_8_method_57_code
def yX6_kindsOf : MethodName := ⟨RX6, "kindsOf", "(I)I"⟩
abbrev cX6_is : ByteArray := prog_8_method_58_code
def yX6_is : MethodName := ⟨RX6, "is", "(I)I"⟩
abbrev cX6_alike : ByteArray := prog_8_method_59_code
def yX6_alike : MethodName := ⟨RX6, "alike", "(IIIIII)I"⟩
abbrev cX6_look : ByteArray := prog_8_method_60_code
def yX6_look : MethodName := ⟨RX6, "look", "(I)I"⟩
abbrev cX6_who : ByteArray := prog_8_method_61_code
def yX6_who : MethodName := ⟨RX6, "who", "(I)I"⟩
abbrev cX6_gets : ByteArray := prog_8_method_62_code
def yX6_gets : MethodName := ⟨RX6, "gets", "(II)I"⟩
abbrev cX6_rings : ByteArray := prog_8_method_63_code
def yX6_rings : MethodName := ⟨RX6, "rings", "(II)I"⟩
abbrev cX6_eyes : ByteArray := prog_8_method_64_code
def yX6_eyes : MethodName := ⟨RX6, "eyes", "(I)I"⟩
abbrev cX6_weeks : ByteArray := prog_8_method_65_code
def yX6_weeks : MethodName := ⟨RX6, "weeks", "(II)I"⟩
abbrev cX6_part : ByteArray := prog_8_method_66_code
def yX6_part : MethodName := ⟨RX6, "part", "(I)J"⟩
abbrev cX6_image : ByteArray := prog_8_method_67_code
def yX6_image : MethodName := ⟨RX6, "image", "(I)I"⟩
abbrev cX6_from : ByteArray := prog_8_method_68_code
def yX6_from : MethodName := ⟨RX6, "from", "(I)I"⟩
abbrev cX6_status : ByteArray := prog_8_method_69_code
def yX6_status : MethodName := ⟨RX6, "status", "(I)I"⟩
abbrev cX6_counted : ByteArray := prog_8_method_70_code
def yX6_counted : MethodName := ⟨RX6, "counted", "(I)I"⟩
abbrev cX6_count : ByteArray := prog_8_method_71_code
def yX6_count : MethodName := ⟨RX6, "count", "(I)I"⟩
abbrev cX6_digest : ByteArray := prog_8_method_72_code
def yX6_digest : MethodName := ⟨RX6, "digest", "()J"⟩
def RJ6 : String := "java/lang/Integer"
def TJ6 : u_T := fun k => match k with
  | _ => ("", "", "", false)
def tyJ6 : Nat → FieldType := fun k => match k with
  | _ => .int
abbrev wsJ60 : List Cond := u_ws RJ6 TJ6 0
theorem nmJ6 : ∀ a, a < 0 → ∀ b, b < 0 → a ≠ b → (TJ6 a).2.1 ≠ (TJ6 b).2.1 := by decide +kernel
theorem tyJ6_ok : ∀ k, k < 0 → parseFieldDescriptor (TJ6 k).2.2.1 = some (tyJ6 k) := by decide +kernel
abbrev cJ6_bitCount_0f7a4 : ByteArray := prog_9_method_49_code
def yJ6_bitCount_0f7a4 : MethodName := ⟨RJ6, "bitCount", "(I)I"⟩
def RJ9 : String := "java/lang/Math"
def TJ9 : u_T := fun k => match k with
  | _ => ("", "", "", false)
def tyJ9 : Nat → FieldType := fun k => match k with
  | _ => .int
abbrev wsJ90 : List Cond := u_ws RJ9 TJ9 0
theorem nmJ9 : ∀ a, a < 0 → ∀ b, b < 0 → a ≠ b → (TJ9 a).2.1 ≠ (TJ9 b).2.1 := by decide +kernel
theorem tyJ9_ok : ∀ k, k < 0 → parseFieldDescriptor (TJ9 k).2.2.1 = some (tyJ9 k) := by decide +kernel
abbrev cJ9_max_7cf53 : ByteArray := prog_10_method_65_code
def yJ9_max_7cf53 : MethodName := ⟨RJ9, "max", "(II)I"⟩
abbrev cJ9_min_7cf53 : ByteArray := prog_10_method_69_code
def yJ9_min_7cf53 : MethodName := ⟨RJ9, "min", "(II)I"⟩
def RJ0 : String := "java/lang/String"
def TJ0 : u_T := fun k => match k with
  | _ => ("", "", "", false)
def tyJ0 : Nat → FieldType := fun k => match k with
  | _ => .int
abbrev wsJ00 : List Cond := u_ws RJ0 TJ0 0
theorem nmJ0 : ∀ a, a < 0 → ∀ b, b < 0 → a ≠ b → (TJ0 a).2.1 ≠ (TJ0 b).2.1 := by decide +kernel
theorem tyJ0_ok : ∀ k, k < 0 → parseFieldDescriptor (TJ0 k).2.2.1 = some (tyJ0 k) := by decide +kernel
abbrev cJ0_length_8abf5 : ByteArray := prog_11_method_54_code
def yJ0_length_8abf5 : MethodName := ⟨RJ0, "length", "()I"⟩
abbrev cJ0_charAt_5068e : ByteArray := prog_11_method_56_code
def yJ0_charAt_5068e : MethodName := ⟨RJ0, "charAt", "(I)C"⟩
abbrev cJ0_coder_7d493 : ByteArray := prog_11_method_152_code
def yJ0_coder_7d493 : MethodName := ⟨RJ0, "coder", "()B"⟩
abbrev cJ0_isLatin1_aae02 : ByteArray := prog_11_method_154_code
def yJ0_isLatin1_aae02 : MethodName := ⟨RJ0, "isLatin1", "()Z"⟩
abbrev cJ0_checkIndex_df160 : ByteArray := prog_11_method_155_code
def yJ0_checkIndex_df160 : MethodName := ⟨RJ0, "checkIndex", "(II)V"⟩
def RJ1 : String := "java/lang/StringLatin1"
def TJ1 : u_T := fun k => match k with
  | _ => ("", "", "", false)
def tyJ1 : Nat → FieldType := fun k => match k with
  | _ => .int
abbrev wsJ10 : List Cond := u_ws RJ1 TJ1 0
theorem nmJ1 : ∀ a, a < 0 → ∀ b, b < 0 → a ≠ b → (TJ1 a).2.1 ≠ (TJ1 b).2.1 := by decide +kernel
theorem tyJ1_ok : ∀ k, k < 0 → parseFieldDescriptor (TJ1 k).2.2.1 = some (tyJ1 k) := by decide +kernel
abbrev cJ1_charAt_3b067 : ByteArray := prog_12_method_2_code
def yJ1_charAt_3b067 : MethodName := ⟨RJ1, "charAt", "([BI)C"⟩
def RJ2 : String := "java/lang/StringUTF16"
def TJ2 : u_T := fun k => match k with
  | _ => ("", "", "", false)
def tyJ2 : Nat → FieldType := fun k => match k with
  | _ => .int
abbrev wsJ20 : List Cond := u_ws RJ2 TJ2 0
theorem nmJ2 : ∀ a, a < 0 → ∀ b, b < 0 → a ≠ b → (TJ2 a).2.1 ≠ (TJ2 b).2.1 := by decide +kernel
theorem tyJ2_ok : ∀ k, k < 0 → parseFieldDescriptor (TJ2 k).2.2.1 = some (tyJ2 k) := by decide +kernel
abbrev cJ2_getChar_3b067 : ByteArray := prog_13_method_5_code
def yJ2_getChar_3b067 : MethodName := ⟨RJ2, "getChar", "([BI)C"⟩
abbrev cJ2_length_9d52b : ByteArray := prog_13_method_6_code
def yJ2_length_9d52b : MethodName := ⟨RJ2, "length", "([B)I"⟩
abbrev cJ2_charAt_3b067 : ByteArray := prog_13_method_83_code
def yJ2_charAt_3b067 : MethodName := ⟨RJ2, "charAt", "([BI)C"⟩
abbrev cJ2_checkIndex_2214a : ByteArray := prog_13_method_91_code
def yJ2_checkIndex_2214a : MethodName := ⟨RJ2, "checkIndex", "(I[B)V"⟩
def RJ10 : String := "java/lang/System"
def TJ10 : u_T := fun k => match k with
  | _ => ("", "", "", false)
def tyJ10 : Nat → FieldType := fun k => match k with
  | _ => .int
abbrev wsJ100 : List Cond := u_ws RJ10 TJ10 0
theorem nmJ10 : ∀ a, a < 0 → ∀ b, b < 0 → a ≠ b → (TJ10 a).2.1 ≠ (TJ10 b).2.1 := by decide +kernel
theorem tyJ10_ok : ∀ k, k < 0 → parseFieldDescriptor (TJ10 k).2.2.1 = some (tyJ10 k) := by decide +kernel
def RJ3 : String := "jdk/internal/util/Preconditions"
def TJ3 : u_T := fun k => match k with
  | _ => ("", "", "", false)
def tyJ3 : Nat → FieldType := fun k => match k with
  | _ => .int
abbrev wsJ30 : List Cond := u_ws RJ3 TJ3 0
theorem nmJ3 : ∀ a, a < 0 → ∀ b, b < 0 → a ≠ b → (TJ3 a).2.1 ≠ (TJ3 b).2.1 := by decide +kernel
theorem tyJ3_ok : ∀ k, k < 0 → parseFieldDescriptor (TJ3 k).2.2.1 = some (tyJ3 k) := by decide +kernel
abbrev cJ3_checkIndex_8e157 : ByteArray := prog_15_method_11_code
def yJ3_checkIndex_8e157 : MethodName := ⟨RJ3, "checkIndex", "(IILjava/util/function/BiFunction;)I"⟩
def RL : String := "BiteChildLaw"
abbrev cL_law : ByteArray := code
def yL_law : MethodName := ⟨RL, "law", "([I)Z"⟩
end
section
/-! my own layer over the kit's rows: what is known of the tables (KK), a method's fixed things (Ex), the world (Wd), contracts (CT) -/
abbrev cls : List vw_C := [(RX0, TX0, 2), (RX1, TX1, 3), (RX2, TX2, 3), (RX3, TX3, 10), (RX4, TX4, 6), (RX5, TX5, 9), (RX6, TX6, 19)]
abbrev GG : Type := va_G × (Nat → ClassId)
abbrev gty (G : GG) : List (ClassId × FieldType) := [(G.2 0, .int), (G.2 1, .byte), (G.2 2, .boolean), (G.2 3, .object RX3), (G.2 4, .object RX2)]
def nestWord : Cond → Bool
  | .fieldLinkNest _ _ _ _ _ _ => true
  | .methodLinkNest _ _ _ _ => true
  | _ => false
def okw (w : Cond) : Prop := w ∈ lw_tbl ∧ (goodWord w = true ∨ nestWord w = true)
def KK (G : GG) (s : State) : Prop := va_K G.1 cls (gty G) s ∧ ∀ w, okw w → va_Nw w s
theorem nest_warm {w : Cond} (hn : nestWord w = true) {s U : State} (hW : s.WarmedH U.vm) (h : va_Nw w s) : va_Nw w U := by
  cases w <;> first | exact va_Nw.warmF hW h | exact va_Nw.warmM hW h | exact absurd hn (by simp [nestWord])
theorem nest_tab {w : Cond} (hn : nestWord w = true) : w.onTables = true := by
  cases w <;> first | rfl | exact absurd hn (by simp [nestWord])
theorem KK.warm {G : GG} {s U : State} (hW : s.WarmedH U.vm) (h : KK G s) : KK G U := by
  refine ⟨va_K.moved hW.alike h.1, fun w hw => ?_⟩
  rcases hw.2 with hg | hn
  · exact word_at hW (good_of_word hg) (h.2 w hw)
  · exact nest_warm hn hW (h.2 w hw)
theorem KK.w {G : GG} {s : State} (h : KK G s) {w : Cond} (hw : okw w) {args : Array Value} : w.before args s = true := by
  rcases hw.2 with hg | hn
  · exact word_at (State.WarmedH.refl s) (good_of_word hg) (h.2 w hw)
  · exact va_Nw.use (nest_tab hn) (h.2 w hw)
theorem KK.call {G : GG} {U : State} {g : JFrame} {mk : MethodId} {a : Array Value} (h : KK G U) : KK G (U.calling g mk a) := KK.warm (U := U.calling g mk a) (State.WarmedH.refl U) h
def va_B (ws : va_W) : Nat → Prop := fun q => ∃ (k : Nat) (e : va_E), ws[k]? = some (q, e)
def Wd (G : GG) (A : Nat → Prop) (s : State) (H : Heap) (locs : List Loc) (ws : va_W) : Prop := va_P G.1 cls ws H ∧ va_D A ws ∧ va_S A s.heap H locs
def Ex (G : GG) (p : Program) (s : State) (m : MethodId) (meth : Method) (c : Code) (cc : ByteArray) (nL : Nat) (ret : Option FieldType) (own : String) : Prop :=
  p.tables.exec = Jvm.exec ∧ c.code = cc ∧ c.maxLocals = nL ∧ s.vm.findClass own = some m.cls ∧ meth.sig.returnType = ret ∧ meth.locks = false ∧ KK G s
abbrev rmx (fr lo : Nat) : Room := { frames := fr, cells := 0, slots := 0, locals := lo }
def QcT (G : GG) (w : va_W) (o : Option Value) (w' : va_W) : Array Value → State → Outcome → State → Prop := fun _ st oc t => (oc = .returned o ∧ va_P G.1 cls w' t.heap) ∧ va_F (va_B w) st t
def PcT (G : GG) (av : List Value) (w : va_W) : Array Value → State → Prop := va_Pc av (fun U => KK G U ∧ va_P G.1 cls w U.heap ∧ va_D (fun _ => True) w)
/-- a contract of a method that makes nothing: with arguments av and the cells w it returns o, the cells are w', nothing else has changed -/
def CT (l : Launch) (G : GG) (y : MethodName) (cc : ByteArray) (maxL : Nat) (ret : Option FieldType) (fr lo : Nat) (av : List Value) (w : va_W) (o : Option Value) (w' : va_W) : Prop :=
  Met l y [.code y cc maxL ret] (rmx fr lo) (PcT G av w) (QcT G w o w') 0 0 (va_B w)
theorem CT.mk {l : Launch} {G : GG} {y : MethodName} {cc : ByteArray} {maxL : Nat} {ret : Option FieldType} {fr lo : Nat} {av : List Value} {w : va_W} {o : Option Value} {w' : va_W} {own : String} (hy : plainName y.cls = true) (ho : y.cls = own) (hn : (lg_sl av).length ≤ maxL)
    (body : ∀ (p : Program) (e : Env) (s : State) (m : MethodId) (below : List Frame) (meth : Method) (c : Code), Ex G p s m meth c cc maxL ret own → Wd G (va_B w) s s.heap [] w → ∀ ls : Array Slot, lv_has ls maxL (lv_args 0 av) → W p l e (rmx fr lo) s m av.toArray below meth c s.heap [] 0 0 (MQ below (QcT G w o w') av.toArray s 0 0 (va_B w)) (F0 m 0 ls [])) : CT l G y cc maxL ret fr lo av w o w' := by
  refine Met.ofW (cc := cc) (maxL := maxL) (ret := ret) hy rfl ?_
  intro p e s m args below meth c s₁ B hml hv
  obtain ⟨rfl, hK, hP, hD⟩ := hv
  have hl := lv_entry av (n := maxL) hn
  rw [lg_entry_eq]
  exact body p e s m below meth c ⟨B.exec, B.bytes, hml, ho ▸ findClass_of_methodNamed B.named, B.returns, B.notSynchronized, hK⟩ ⟨hP, ⟨hD.1, fun k q hk => ⟨k, q.2, hk⟩⟩, va_S.rf⟩ _ hl
section XR
variable {p : Program} {l : Launch} {e : Env} {R : Room} {s : State} {m : MethodId} {args : Array Value} {below : List Frame} {meth : Method} {c : Code} {H : Heap} {locs : List Loc} {cells slots : Nat} {Q : State → Prop}
variable {G : GG} {A : Nat → Prop} {ws ws' w w' : va_W} {cc : ByteArray} {nL : Nat} {ret : Option FieldType} {own : String} {pc : Nat} {ls : Array Slot} {rest : List Value} {a : Nat}
/-- the end of a method -/
theorem x_iret (E : Ex G p s m meth c cc nL (some .int) own) (hw : Wd G (va_B w) s H locs ws) {v r : Int32} (hdg : decode cc pc = .ok (.ireturn, 1)) (hv : v = r) (hww : ws = w') : W p l e R s m args below meth c H locs 0 0 (MQ below (QcT G w (some (.int r)) w') args s 0 0 (va_B w)) (F0 m pc ls [.int v]) := by
  subst hv; subst hww
  exact W.iret E.1 E.2.1 E.2.2.2.2.1 (fun t ht hW => ⟨⟨rfl, by rw [ht]; exact hw.1⟩, hw.2.2.F ht⟩) hw.2.2.2.2 hdg E.2.2.2.2.2.1
theorem x_zret {ty : FieldType} (E : Ex G p s m meth c cc nL (some ty) own) (hw : Wd G (va_B w) s H locs ws) {v r : Int32} (hn : narrow ty (.int v) = .int v) (hdg : decode cc pc = .ok (.ireturn, 1)) (hv : v = r) (hww : ws = w') : W p l e R s m args below meth c H locs 0 0 (MQ below (QcT G w (some (.int r)) w') args s 0 0 (va_B w)) (F0 m pc ls [.int v]) := by
  subst hv; subst hww
  exact W.zret E.1 E.2.1 E.2.2.2.2.1 hn (fun t ht hW => ⟨⟨rfl, by rw [ht]; exact hw.1⟩, hw.2.2.F ht⟩) hw.2.2.2.2 hdg E.2.2.2.2.2.1
theorem x_lret (E : Ex G p s m meth c cc nL (some .long) own) (hw : Wd G (va_B w) s H locs ws) {v r : Int64} (hdg : decode cc pc = .ok (.lreturn, 1)) (hv : v = r) (hww : ws = w') : W p l e R s m args below meth c H locs 0 0 (MQ below (QcT G w (some (.long r)) w') args s 0 0 (va_B w)) (F0 m pc ls [.long v]) := by
  subst hv; subst hww
  exact W.lret E.1 E.2.1 E.2.2.2.2.1 (fun t ht hW => ⟨⟨rfl, by rw [ht]; exact hw.1⟩, hw.2.2.F ht⟩) hw.2.2.2.2 hdg E.2.2.2.2.2.1
theorem x_vret (E : Ex G p s m meth c cc nL none own) (hw : Wd G (va_B w) s H locs ws) (hdg : decode cc pc = .ok (.return_, 1)) (hww : ws = w') : W p l e R s m args below meth c H locs 0 0 (MQ below (QcT G w none w') args s 0 0 (va_B w)) (F0 m pc ls []) := by
  subst hww
  exact W.vret E.1 E.2.1 E.2.2.2.2.1 (fun t ht hW => ⟨⟨rfl, by rw [ht]; exact hw.1⟩, hw.2.2.F ht⟩) hw.2.2.2.2 hdg E.2.2.2.2.2.1
/-- a field's words: of the class own's pool entry 'index', the field k of the class ci -/
def FW (own : String) (index ci k : Nat) : Prop := ∃ (C : String) (T : u_T) (N : Nat) (ty0 : Nat → FieldType), cls[ci]? = some (C, T, N) ∧ k < N ∧ (∀ x ∈ u_ws C T N, okw x) ∧ (∀ j, j < N → parseFieldDescriptor (T j).2.2.1 = some (ty0 j)) ∧ (∀ a, a < N → ∀ b, b < N → a ≠ b → (T a).2.1 ≠ (T b).2.1) ∧ (okw (.fieldLink own index (T k).1 (T k).2.1 (T k).2.2.1) ∨ ∃ host, okw (.fieldLinkNest own index (T k).1 (T k).2.1 (T k).2.2.1 host))
theorem x_get (E : Ex G p s m meth c cc nL ret own) (hw : Wd G A s H locs ws) {index ci k : Nat} (f : FW own index ci k) (q0 : Nat) {fs : List Value} (he : ws[q0]? = some (a, .inr (ci, fs))) {v : Value} (hv : fs[k]? = some v) (hdg : decode cc pc = .ok (.getfield index, 3))
    (kk : W p l e R s m args below meth c H locs cells slots Q (F0 m (pc + 3) ls (v :: rest))) : W p l e R s m args below meth c H locs cells slots Q (F0 m pc ls (.ref a :: rest)) := by
  obtain ⟨C, T, N, ty0, hc, hk, hl, hty, hnm, ho⟩ := f
  obtain ⟨hx, hb, hml, hown, hr, hlk, hK⟩ := E
  rcases ho with h | ⟨host, h⟩
  · exact va_get (Ts := u_ws C T N) hx hb (fun w' h' => hK.w (hl w' h')) (fun _ h => h) hown hK.1 hw.1 q0 he hc k hk (hK.w h) (fun _ h => h) hv hdg kk
  · exact va_getN (Ts := u_ws C T N) hx hb (fun w' h' => hK.w (hl w' h')) (fun _ h => h) hown hK.1 hw.1 q0 he hc k hk (hK.w h) (fun _ h => h) hv hdg kk
theorem x_put (E : Ex G p s m meth c cc nL ret own) (hw : Wd G A s H locs ws) {index ci k : Nat} (f : FW own index ci k) (q0 : Nat) {fs : List Value} (he : ws[q0]? = some (a, .inr (ci, fs))) {v : Value} {ty : FieldType} {C : String} {T : u_T} {N : Nat} (hc : cls[ci]? = some (C, T, N)) (hfin : (T k).2.2.2 = false) (hd : parseFieldDescriptor (T k).2.2.1 = some ty) (hn : narrow ty v = v) (hfit : fits ty v = true) (hlen : k < fs.length) (hdg : decode cc pc = .ok (.putfield index, 3)) (hws : ws.set q0 (a, .inr (ci, fs.set k v)) = ws')
    (kk : ∀ (H1 : Heap) (locs1 : List Loc), Wd G A s H1 locs1 ws' → W p l e R s m args below meth c H1 locs1 cells slots Q (F0 m (pc + 3) ls rest)) : W p l e R s m args below meth c H locs cells slots Q (F0 m pc ls (v :: .ref a :: rest)) := by
  obtain ⟨C2, T2, N2, ty0, hc2, hk, hl, hty, hnm, ho⟩ := f
  obtain ⟨hx, hb, hml, hown, hr, hlk, hK⟩ := E
  cases hc.symm.trans hc2
  subst hws
  rcases ho with h | ⟨host, h⟩
  · exact va_put (Ts := u_ws C T N) hx hb (fun w' h' => hK.w (hl w' h')) (fun _ h => h) ty0 hty hnm hown hK.1 hw.1 hw.2.1 hw.2.2 q0 he hc k hk (hK.w h) (fun _ h => h) hfin hd hn hfit hlen hdg (fun H1 locs1 h1 h2 h3 => kk H1 locs1 ⟨h1, h2, h3⟩)
  · exact va_putN (Ts := u_ws C T N) hx hb (fun w' h' => hK.w (hl w' h')) (fun _ h => h) ty0 hty hnm hown hK.1 hw.1 hw.2.1 hw.2.2 q0 he hc k hk (hK.w h) (fun _ h => h) hfin hd hn hfit hlen hdg (fun H1 locs1 h1 h2 h3 => kk H1 locs1 ⟨h1, h2, h3⟩)
/-- int arrays, at a place that is a natural number -/
theorem x_iald (E : Ex G p s m meth c cc nL ret own) (hw : Wd G A s H locs ws) (q0 : Nat) {n : Nat} {f : Nat → Int32} (ha : ws[q0]? = some (a, .inl (G.2 0, n, .inl f))) {i : Int32} (k : Nat) (hi : i = nI k) (hk : k < n) (hn : n < 2 ^ 31) (hdg : decode cc pc = .ok (.iaload, 1))
    (kk : W p l e R s m args below meth c H locs cells slots Q (F0 m (pc + 1) ls (.int (f k) :: rest))) : W p l e R s m args below meth c H locs cells slots Q (F0 m pc ls (.int i :: .ref a :: rest)) := by
  subst hi
  refine va_iald E.1 E.2.1 E.2.2.2.2.2.2.1 hw.1 q0 0 ha rfl (vp_in_nI hk hn) hdg ?_
  rw [nI_clamp (by omega)]
  exact kk
theorem x_bald (E : Ex G p s m meth c cc nL ret own) (hw : Wd G A s H locs ws) (q0 : Nat) {n : Nat} {f : Nat → Int32} (ha : ws[q0]? = some (a, .inl (G.2 1, n, .inl f))) {i : Int32} (k : Nat) (hi : i = nI k) (hk : k < n) (hn : n < 2 ^ 31) (hdg : decode cc pc = .ok (.baload, 1))
    (kk : W p l e R s m args below meth c H locs cells slots Q (F0 m (pc + 1) ls (.int (f k) :: rest))) : W p l e R s m args below meth c H locs cells slots Q (F0 m pc ls (.int i :: .ref a :: rest)) := by
  subst hi
  refine va_bald E.1 E.2.1 E.2.2.2.2.2.2.1 hw.1 q0 1 ha rfl (vp_in_nI hk hn) hdg ?_
  rw [nI_clamp (by omega)]
  exact kk
theorem x_zald (E : Ex G p s m meth c cc nL ret own) (hw : Wd G A s H locs ws) (q0 : Nat) {n : Nat} {f : Nat → Int32} (ha : ws[q0]? = some (a, .inl (G.2 2, n, .inl f))) {i : Int32} (k : Nat) (hi : i = nI k) (hk : k < n) (hn : n < 2 ^ 31) (hdg : decode cc pc = .ok (.baload, 1))
    (kk : W p l e R s m args below meth c H locs cells slots Q (F0 m (pc + 1) ls (.int (f k) :: rest))) : W p l e R s m args below meth c H locs cells slots Q (F0 m pc ls (.int i :: .ref a :: rest)) := by
  subst hi
  refine va_zald E.1 E.2.1 E.2.2.2.2.2.2.1 hw.1 q0 2 ha rfl (vp_in_nI hk hn) hdg ?_
  rw [nI_clamp (by omega)]
  exact kk
theorem x_iast (E : Ex G p s m meth c cc nL ret own) (hw : Wd G A s H locs ws) (q0 : Nat) {n : Nat} {f : Nat → Int32} (ha : ws[q0]? = some (a, .inl (G.2 0, n, .inl f))) {i x : Int32} (k : Nat) (hi : i = nI k) (hk : k < n) (hn : n < 2 ^ 31) (hdg : decode cc pc = .ok (.iastore, 1)) (hws : ws.set q0 (a, .inl (G.2 0, n, .inl (upd f k x))) = ws')
    (kk : ∀ (H1 : Heap) (locs1 : List Loc), Wd G A s H1 locs1 ws' → W p l e R s m args below meth c H1 locs1 cells slots Q (F0 m (pc + 1) ls rest)) : W p l e R s m args below meth c H locs cells slots Q (F0 m pc ls (.int x :: .int i :: .ref a :: rest)) := by
  subst hi
  refine va_iast E.1 E.2.1 E.2.2.2.2.2.2.1 hw.1 hw.2.1 hw.2.2 q0 0 ha rfl (vp_in_nI hk hn) hdg (fun H1 locs1 h1 h2 h3 => ?_)
  rw [nI_clamp (by omega)] at h1 h2
  subst hws
  exact kk H1 locs1 ⟨h1, h2, h3⟩
theorem x_bast (E : Ex G p s m meth c cc nL ret own) (hw : Wd G A s H locs ws) (q0 : Nat) {n : Nat} {f : Nat → Int32} (ha : ws[q0]? = some (a, .inl (G.2 1, n, .inl f))) {i x : Int32} (k : Nat) (hi : i = nI k) (hk : k < n) (hn : n < 2 ^ 31) (hdg : decode cc pc = .ok (.bastore, 1)) (hws : ws.set q0 (a, .inl (G.2 1, n, .inl (upd f k x.toInt8.toInt32))) = ws')
    (kk : ∀ (H1 : Heap) (locs1 : List Loc), Wd G A s H1 locs1 ws' → W p l e R s m args below meth c H1 locs1 cells slots Q (F0 m (pc + 1) ls rest)) : W p l e R s m args below meth c H locs cells slots Q (F0 m pc ls (.int x :: .int i :: .ref a :: rest)) := by
  subst hi
  refine va_bast E.1 E.2.1 E.2.2.2.2.2.2.1 hw.1 hw.2.1 hw.2.2 q0 1 ha rfl (vp_in_nI hk hn) hdg (fun H1 locs1 h1 h2 h3 => ?_)
  rw [nI_clamp (by omega), vp_nar_byte] at h1 h2
  subst hws
  exact kk H1 locs1 ⟨h1, h2, h3⟩
theorem x_zast (E : Ex G p s m meth c cc nL ret own) (hw : Wd G A s H locs ws) (q0 : Nat) {n : Nat} {f : Nat → Int32} (ha : ws[q0]? = some (a, .inl (G.2 2, n, .inl f))) {i x : Int32} (k : Nat) (hi : i = nI k) (hk : k < n) (hn : n < 2 ^ 31) (hdg : decode cc pc = .ok (.bastore, 1)) (hws : ws.set q0 (a, .inl (G.2 2, n, .inl (upd f k (vp_nar .boolean x)))) = ws')
    (kk : ∀ (H1 : Heap) (locs1 : List Loc), Wd G A s H1 locs1 ws' → W p l e R s m args below meth c H1 locs1 cells slots Q (F0 m (pc + 1) ls rest)) : W p l e R s m args below meth c H locs cells slots Q (F0 m pc ls (.int x :: .int i :: .ref a :: rest)) := by
  subst hi
  refine va_zast E.1 E.2.1 E.2.2.2.2.2.2.1 hw.1 hw.2.1 hw.2.2 q0 2 ha rfl (vp_in_nI hk hn) hdg (fun H1 locs1 h1 h2 h3 => ?_)
  rw [nI_clamp (by omega)] at h1 h2
  subst hws
  exact kk H1 locs1 ⟨h1, h2, h3⟩
end XR
/-! calls -/
def setAll : va_W → List Nat → va_W → va_W
  | ws, i :: is, q :: qs => setAll (ws.set i q) is qs
  | ws, _, _ => ws
theorem setAll_out : ∀ (is : List Nat) (ws qs : va_W) (k : Nat), k ∉ is → (setAll ws is qs)[k]? = ws[k]?
  | [], ws, qs, k, _ => by cases qs <;> rfl
  | i :: is, ws, [], k, _ => rfl
  | i :: is, ws, q :: qs, k, h => by
    have h1 : k ≠ i := fun e => h (by rw [e]; exact List.mem_cons_self)
    have h2 : k ∉ is := fun e => h (List.mem_cons_of_mem _ e)
    show (setAll (ws.set i q) is qs)[k]? = _
    rw [setAll_out is _ qs k h2, List.getElem?_set_ne (Ne.symm h1)]
theorem setAll_in : ∀ (is : List Nat) (ws qs : va_W) (k : Nat), va_nd is = true → is.length = qs.length → (∀ i ∈ is, i < ws.length) → k ∈ is → ∃ (j : Nat) (q : Nat × va_E), is[j]? = some k ∧ qs[j]? = some q ∧ (setAll ws is qs)[k]? = some q
  | [], _, _, _, _, _, _, h => absurd h List.not_mem_nil
  | i :: is, ws, [], k, _, hl, _, _ => by simp at hl
  | i :: is, ws, q :: qs, k, hn, hl, hb, h => by
    simp only [va_nd, Bool.and_eq_true, decide_eq_true_eq] at hn
    by_cases hk : k ∈ is
    · obtain ⟨j, q', h1, h2, h3⟩ := setAll_in is (ws.set i q) qs k hn.2 (by simpa using hl) (fun i' hi' => by rw [List.length_set]; exact hb i' (List.mem_cons_of_mem _ hi')) hk
      exact ⟨j + 1, q', by simpa using h1, by simpa using h2, h3⟩
    · have hki : k = i := by
        rcases List.mem_cons.mp h with e | e
        · exact e
        · exact absurd e hk
      subst hki
      refine ⟨0, q, rfl, rfl, ?_⟩
      show (setAll (ws.set k q) is qs)[k]? = _
      rw [setAll_out is _ qs k hk, List.getElem?_set_self (hb k List.mem_cons_self)]
theorem setAll_len : ∀ (is : List Nat) (ws qs : va_W), (setAll ws is qs).length = ws.length
  | [], ws, qs => by cases qs <;> rfl
  | i :: is, ws, [] => rfl
  | i :: is, ws, q :: qs => by
    show (setAll (ws.set i q) is qs).length = _
    rw [setAll_len is _ qs, List.length_set]
theorem map_at {ws w : va_W} {is : List Nat} (hs : is.map (fun i => ws[i]?) = w.map some) {k : Nat} {q : Nat × va_E} (hq : w[k]? = some q) : ∃ i, is[k]? = some i ∧ ws[i]? = some q := by
  have h1 : (is.map (fun i => ws[i]?))[k]? = some (some q) := by rw [hs, List.getElem?_map, hq]; rfl
  rw [List.getElem?_map] at h1
  cases hi : is[k]? with
  | none => rw [hi] at h1; cases h1
  | some i => rw [hi] at h1; exact ⟨i, rfl, Option.some.inj h1⟩
theorem map_at' {ws w : va_W} {is : List Nat} (hs : is.map (fun i => ws[i]?) = w.map some) {k i : Nat} (hi : is[k]? = some i) : ∃ q, w[k]? = some q ∧ ws[i]? = some q := by
  have h1 : (w.map some)[k]? = some (ws[i]?) := by rw [← hs, List.getElem?_map, hi]; rfl
  rw [List.getElem?_map] at h1
  cases hq : w[k]? with
  | none => rw [hq] at h1; cases h1
  | some q => rw [hq] at h1; exact ⟨q, rfl, (Option.some.inj h1).symm⟩
theorem Wd.back {G : GG} {A : Nat → Prop} {s : State} {H H1 : Heap} {locs locs1 : List Loc} {ws w w' : va_W} (hw : Wd G A s H locs ws) (is : List Nat) (hC : is.map (fun i => ws[i]?) = w.map some) (hn : va_nd is = true) (ha : w'.map (·.1) = w.map (·.1)) (hk : ∀ q : Nat, q < H.size → ¬ va_B w q → H1[q]? = H[q]?) (hP1 : va_P G.1 cls w' H1) (hS : va_S A s.heap H1 locs1) : Wd G A s H1 locs1 (setAll ws is w') := by
  have hlen : is.length = w'.length := by
    have h1 := congrArg List.length hC
    have h2 := congrArg List.length ha
    simp only [List.length_map] at h1 h2
    omega
  have hb : ∀ i ∈ is, i < ws.length := fun i hi => by
    obtain ⟨j, hj⟩ := List.getElem?_of_mem hi
    obtain ⟨q, -, h2⟩ := map_at' hC hj
    exact (List.getElem?_eq_some_iff.mp h2).1
  have hadr : ∀ (k : Nat) (q q' : Nat × va_E), w[k]? = some q → w'[k]? = some q' → q'.1 = q.1 := fun k q q' h1 h2 => by
    have h3 : (w'.map (·.1))[k]? = (w.map (·.1))[k]? := by rw [ha]
    rw [List.getElem?_map, List.getElem?_map, h1, h2] at h3
    exact Option.some.inj h3
  have key : ∀ (k : Nat) (q : Nat × va_E), (setAll ws is w')[k]? = some q → ∃ q0, ws[k]? = some q0 ∧ q0.1 = q.1 ∧ va_at G.1 cls q H1 := by
    intro k q hq
    by_cases hki : k ∈ is
    · obtain ⟨j, q', h1, h2, h3⟩ := setAll_in is ws w' k hn hlen hb hki
      rw [h3] at hq
      cases hq
      obtain ⟨q0, h4, h5⟩ := map_at' hC h1
      exact ⟨q0, h5, (hadr j q0 q h4 h2).symm, hP1 j q h2⟩
    · rw [setAll_out is ws w' k hki] at hq
      refine ⟨q, hq, rfl, (hw.1 k q hq).kept (hk q.1 (hw.1 k q hq).lt (fun h => ?_))⟩
      obtain ⟨j, e, hj⟩ := h
      obtain ⟨i, h1, h2⟩ := map_at hC hj
      have := hw.2.1.1 k i q (q.1, e) hq h2 rfl
      exact hki (by rw [this]; exact List.mem_of_getElem? h1)
  refine ⟨fun k q hq => ?_, ⟨fun i j p q hi hj hpq => ?_, fun k q hq => ?_⟩, hS⟩
  · obtain ⟨q0, -, -, h⟩ := key k q hq
    exact h
  · obtain ⟨p0, h1, h2, -⟩ := key i p hi
    obtain ⟨q0, h3, h4, -⟩ := key j q hj
    exact hw.2.1.1 i j p0 q0 h1 h3 (h2.trans (hpq.trans h4.symm))
  · obtain ⟨q0, h1, h2, -⟩ := key k q hq
    rw [← h2]
    exact hw.2.1.2 k q0 h1
section XC
variable {p : Program} {l : Launch} {e : Env} {R : Room} {s : State} {m : MethodId} {args : Array Value} {below : List Frame} {meth : Method} {c : Code} {H : Heap} {locs : List Loc} {cells slots : Nat} {Q : State → Prop}
variable {G : GG} {A : Nat → Prop} {ws ws' w w' : va_W} {cc bytes : ByteArray} {nL maxL : Nat} {ret ret' : Option FieldType} {own : String} {pc index fr lo : Nat} {ls : Array Slot} {rest st0 st1 As : List Value} {b : Nat} {y : MethodName} {o : Option Value}
theorem x_goes {a : Array Value} {is : List Nat} (hr : va_Run p l e R s m args below meth c H locs cells slots 0 0 (F0 m pc ls st0) rest (QcT G w o w' a) (va_B w)) (hw : Wd G A s H locs ws) (hC : is.map (fun i => ws[i]?) = w.map some) (hn : va_nd is = true) (ha : w'.map (·.1) = w.map (·.1)) (hws : setAll ws is w' = ws') (hst : o.toList ++ rest = st1)
    (kk : ∀ (H1 : Heap) (locs1 : List Loc), Wd G A s H1 locs1 ws' → W p l e R s m args below meth c H1 locs1 cells slots Q (F0 m (pc + 3) ls st1)) : W p l e R s m args below meth c H locs cells slots Q (F0 m pc ls st0) := by
  intro T hT X
  obtain ⟨v, st₀, t, T', L, h0, X', hL, e1, e2, ⟨⟨hv, hp⟩, hz, hk⟩, st⟩ := hr T hT X
  cases hv
  rw [h0] at hz hk
  subst hws
  subst hst
  have hBA : ∀ q, va_B w q → A q := fun q ⟨k, e', h⟩ => by
    obtain ⟨i, -, h2⟩ := map_at hC h
    exact hw.2.1.2 i _ h2
  obtain ⟨t2, a1, b1⟩ := kk T'.heap (locs ++ L) (hw.back is hC hn ha (fun q h1 h2 => by rw [e1]; exact hk q h1 h2) (by rw [e1]; exact hp)
    ⟨Nat.le_trans hw.2.2.1 (by rw [e1]; exact hz), fun q h1 h2 => by rw [e1, hk q (Nat.lt_of_lt_of_le h1 hw.2.2.1) (fun z => h2 (hBA q z))]; exact hw.2.2.2.1 q h1 h2, fun q hq => by
      rcases List.mem_append.mp hq with h | h
      · exact hw.2.2.2.2 q h
      · exact hBA _ (hL q h)⟩) T' rfl X'
  exact ⟨t2, st t2 a1, b1⟩
/-- a call's words -/
def MW (own : String) (index : Nat) (y : MethodName) (bytes : ByteArray) (maxL : Nat) (ret : Option FieldType) (n : Nat) : Prop :=
  (okw (.methodLink own index y) ∨ ∃ host, okw (.methodLinkNest own index y host)) ∧ okw (.initialized y.cls) ∧ (okw (.code y bytes maxL ret) ∧ goodWord (.code y bytes maxL ret) = true) ∧ (y.cls ≠ "java/lang/invoke/MethodHandle" ∧ y.cls ≠ "java/lang/invoke/VarHandle" ∧ (parseMethodDescriptor y.desc).map (fun d => d.parameters.length) = some n)
def VW (own : String) (index : Nat) (y : MethodName) (bytes : ByteArray) (maxL : Nat) (ret : Option FieldType) (n : Nat) : Prop := MW own index y bytes maxL ret n ∧ okw (.instanceMethod y) ∧ okw (.selects y.cls y y)
def SW (own : String) (index : Nat) (y : MethodName) (bytes : ByteArray) (maxL : Nat) (ret : Option FieldType) (n : Nat) : Prop := MW own index y bytes maxL ret n ∧ okw (.static y)
theorem PcT.blind {av : List Value} : FrameBlind (PcT G av w) := fun _ _ _ _ q => ⟨q.1, KK.call q.2.1, q.2.2⟩
theorem x_cb {n : Nat} (hK : KK G s) (h : MW own index y bytes maxL ret n) (hl : okw (.methodLink own index y)) (hR : fr + 1 ≤ R.frames ∧ 8 + (maxL + 11) + lo ≤ R.locals) : CallB R s args own index y bytes maxL ret [.code y bytes maxL ret] (rmx fr lo) 0 0 n := by
  obtain ⟨-, h2, ⟨h3, hg⟩, h4, h5, h6⟩ := h
  refine ⟨rfl, rfl, hR.1, hR.2, fun w' hw' a' U hW => ?_, List.mem_cons_self, hK.w h3, hK.w h2, ⟨h4, h5⟩, fun sig hs => ?_, hK.w hl⟩
  · rw [List.mem_singleton.mp hw']
    exact word_at hW (good_of_word hg) (hK.w (args := args) h3)
  · rw [hs] at h6
    exact (Option.some.inj h6).symm
theorem x_cn {n : Nat} {host : String} (hK : KK G s) (h : MW own index y bytes maxL ret n) (hl : okw (.methodLinkNest own index y host)) (hR : fr + 1 ≤ R.frames ∧ 8 + (maxL + 11) + lo ≤ R.locals) : va_CN R s args own index y host bytes maxL ret [.code y bytes maxL ret] (rmx fr lo) 0 0 n := by
  obtain ⟨-, h2, ⟨h3, hg⟩, h4, h5, h6⟩ := h
  refine ⟨⟨rfl, rfl, hR.1, hR.2, fun w' hw' a' U hW => ?_, List.mem_cons_self⟩, hK.w h3, hK.w h2, ⟨h4, h5⟩, fun sig hs => ?_, hK.w hl⟩
  · rw [List.mem_singleton.mp hw']
    exact word_at hW (good_of_word hg) (hK.w (args := args) h3)
  · rw [hs] at h6
    exact (Option.some.inj h6).symm
theorem x_pre {is : List Nat} (hK : KK G s) (hw : Wd G A s H locs ws) (hC : is.map (fun i => ws[i]?) = w.map some) (hn : va_nd is = true) (av : List Value) : ∀ U : State, U.heap = H → s.WarmedH U.vm → PcT G av w av.toArray U := by
  intro U hU hW
  refine ⟨rfl, hK.warm hW, ?_, (hw.2.1.sub is hn hC).weaken (fun _ _ _ _ => trivial)⟩
  rw [hU]
  intro k q hq
  obtain ⟨i, -, h2⟩ := map_at hC hq
  exact hw.1 i q h2
/-- a call of an instance method -/
theorem x_callV {is : List Nat} {n ci q0 : Nat} {fs : List Value} {q : vw_C} (E : Ex G p s m meth c cc nL ret own) (hM : CT l G y bytes maxL ret' fr lo (.ref b :: As) w o w') (hv : VW own index y bytes maxL ret' n) (hw : Wd G A s H locs ws) (is0 : List Nat) (his : is0 = is) (hq : ws[q0]? = some (b, .inr (ci, fs))) (hc : cls[ci]? = some q) (hqc : q.1 = y.cls) (hC : is.map (fun i => ws[i]?) = w.map some) (hnd : va_nd is = true) (ha : w'.map (·.1) = w.map (·.1)) (hlsz : ls.size = nL)
    (hn : As.length = n) (hst0 : st0 = As.reverse ++ .ref b :: rest) (hroom : (rest.map fun v => v.category).sum ≤ 8) (hR : fr + 1 ≤ R.frames ∧ 8 + (maxL + 11) + lo ≤ R.locals) (hcl : cells ≤ R.cells) (hsl : slots ≤ R.slots) (hdg : decode cc pc = .ok (.invokevirtual index, 3)) (hws : setAll ws is w' = ws') (hst : o.toList ++ rest = st1)
    (kk : ∀ (H1 : Heap) (locs1 : List Loc), Wd G A s H1 locs1 ws' → W p l e R s m args below meth c H1 locs1 cells slots Q (F0 m (pc + 3) ls st1)) : W p l e R s m args below meth c H locs cells slots Q (F0 m pc ls st0) := by
  obtain ⟨hx, hb, hml, hown, hr, hlk, hK⟩ := E
  have hrc := va_recv hK.1 hw.1 hc hq
  rw [hqc] at hrc
  have hp : PreV s H y.cls b (PcT G (.ref b :: As) w) As := ⟨PcT.blind, hrc, x_pre hK hw hC hnd _⟩
  have hts : ∀ w ∈ ([] : List Cond), w.before args s = true := fun _ h => absurd h List.not_mem_nil
  subst hst0
  rcases hv.1.1 with h | ⟨host, h⟩
  · exact x_goes (va_runV (Ts := []) ⟨hx, hb, hml, hown, hts⟩ hM ⟨x_cb hK hv.1 h hR, hK.w hv.2.1, hK.w hv.2.2⟩ hp rfl hn hlsz rfl (lv_room hroom) hdg ⟨hcl, hsl⟩) hw hC hnd ha hws hst kk
  · exact x_goes (va_runVN (Ts := []) ⟨hx, hb, hml, hown, hts⟩ hM ⟨x_cn hK hv.1 h hR, hK.w hv.2.1, hK.w hv.2.2⟩ hp rfl hn hlsz rfl (lv_room hroom) hdg ⟨hcl, hsl⟩) hw hC hnd ha hws hst kk
/-- a call of a static method -/
theorem x_callS {is : List Nat} {n : Nat} (E : Ex G p s m meth c cc nL ret own) (hM : CT l G y bytes maxL ret' fr lo As w o w') (hv : SW own index y bytes maxL ret' n) (hw : Wd G A s H locs ws) (is0 : List Nat) (his : is0 = is) (hC : is.map (fun i => ws[i]?) = w.map some) (hnd : va_nd is = true) (ha : w'.map (·.1) = w.map (·.1)) (hlsz : ls.size = nL)
    (hn : As.length = n) (hst0 : st0 = As.reverse ++ rest) (hroom : (rest.map fun v => v.category).sum ≤ 8) (hR : fr + 1 ≤ R.frames ∧ 8 + (maxL + 11) + lo ≤ R.locals) (hcl : cells ≤ R.cells) (hsl : slots ≤ R.slots) (hdg : decode cc pc = .ok (.invokestatic index, 3)) (hws : setAll ws is w' = ws') (hst : o.toList ++ rest = st1)
    (kk : ∀ (H1 : Heap) (locs1 : List Loc), Wd G A s H1 locs1 ws' → W p l e R s m args below meth c H1 locs1 cells slots Q (F0 m (pc + 3) ls st1)) : W p l e R s m args below meth c H locs cells slots Q (F0 m pc ls st0) := by
  obtain ⟨hx, hb, hml, hown, hr, hlk, hK⟩ := E
  have hp : PreS s H (PcT G As w) As := ⟨PcT.blind, x_pre hK hw hC hnd _⟩
  have hts : ∀ w ∈ ([] : List Cond), w.before args s = true := fun _ h => absurd h List.not_mem_nil
  subst hst0
  rcases hv.1.1 with h | ⟨host, h⟩
  · exact x_goes (va_runS (Ts := []) ⟨hx, hb, hml, hown, hts⟩ hM ⟨x_cb hK hv.1 h hR, hK.w hv.2⟩ hp rfl hn hlsz rfl (lv_room hroom) hdg ⟨hcl, hsl⟩) hw hC hnd ha hws hst kk
  · exact x_goes (va_runSN (Ts := []) ⟨hx, hb, hml, hown, hts⟩ hM ⟨x_cn hK hv.1 h hR, hK.w hv.2, trivial⟩ hp rfl hn hlsz rfl (lv_room hroom) hdg ⟨hcl, hsl⟩) hw hC hnd ha hws hst kk
end XC
end
