-- ===== PART A: goes FIRST, ahead of the names: the tables' words, and 'selects' of the private methods out of them =====
/-- a private method of a class that the tables say can be made, by its rows of tables_1 -/
def lw_okq (q : MethodName × Nat) : Prop := (q.1.cls ≠ "java/lang/invoke/MethodHandle" ∧ q.1.cls ≠ "java/lang/invoke/VarHandle") ∧ Cond.instantiable q.1.cls q.2 ∈ tables_1 ∧ Cond.privateMethod q.1 ∈ tables_1 ∧ Cond.instanceMethod q.1 ∈ tables_1
theorem lw_p0 : lw_okq (⟨"JumpDesk", "sheetAt", "(I)LJumpDesk$Sheet;"⟩, 11) := ⟨⟨by decide +kernel, by decide +kernel⟩, List.mem_of_getElem? (i := 14) (by decide +kernel), List.mem_of_getElem? (i := 300) (by decide +kernel), List.mem_of_getElem? (i := 301) (by decide +kernel)⟩
theorem lw_p1 : lw_okq (⟨"JumpDesk$Sheet", "begin", "(I)V"⟩, 4) := ⟨⟨by decide +kernel, by decide +kernel⟩, List.mem_of_getElem? (i := 79) (by decide +kernel), List.mem_of_getElem? (i := 304) (by decide +kernel), List.mem_of_getElem? (i := 305) (by decide +kernel)⟩
theorem lw_p2 : lw_okq (⟨"JumpDesk$Sheet", "has", "(I)Z"⟩, 4) := ⟨⟨by decide +kernel, by decide +kernel⟩, List.mem_of_getElem? (i := 79) (by decide +kernel), List.mem_of_getElem? (i := 315) (by decide +kernel), List.mem_of_getElem? (i := 316) (by decide +kernel)⟩
theorem lw_p3 : lw_okq (⟨"JumpDesk$Sheet", "write", "(IF)V"⟩, 4) := ⟨⟨by decide +kernel, by decide +kernel⟩, List.mem_of_getElem? (i := 79) (by decide +kernel), List.mem_of_getElem? (i := 319) (by decide +kernel), List.mem_of_getElem? (i := 320) (by decide +kernel)⟩
theorem lw_p4 : lw_okq (⟨"JumpDesk$Sheet", "blank", "(I)V"⟩, 4) := ⟨⟨by decide +kernel, by decide +kernel⟩, List.mem_of_getElem? (i := 79) (by decide +kernel), List.mem_of_getElem? (i := 328) (by decide +kernel), List.mem_of_getElem? (i := 329) (by decide +kernel)⟩
theorem lw_p5 : lw_okq (⟨"JumpDesk$Sheet", "filled", "(I)F"⟩, 4) := ⟨⟨by decide +kernel, by decide +kernel⟩, List.mem_of_getElem? (i := 79) (by decide +kernel), List.mem_of_getElem? (i := 341) (by decide +kernel), List.mem_of_getElem? (i := 342) (by decide +kernel)⟩
theorem lw_p6 : lw_okq (⟨"JumpDesk$Sheet", "knownBelow", "(I)I"⟩, 4) := ⟨⟨by decide +kernel, by decide +kernel⟩, List.mem_of_getElem? (i := 79) (by decide +kernel), List.mem_of_getElem? (i := 345) (by decide +kernel), List.mem_of_getElem? (i := 346) (by decide +kernel)⟩
theorem lw_p7 : lw_okq (⟨"JumpDesk$Sheet", "knownAbove", "(I)I"⟩, 4) := ⟨⟨by decide +kernel, by decide +kernel⟩, List.mem_of_getElem? (i := 79) (by decide +kernel), List.mem_of_getElem? (i := 349) (by decide +kernel), List.mem_of_getElem? (i := 350) (by decide +kernel)⟩
theorem lw_p8 : lw_okq (⟨"JumpDesk$Sheet", "windOf", "(I)I"⟩, 4) := ⟨⟨by decide +kernel, by decide +kernel⟩, List.mem_of_getElem? (i := 79) (by decide +kernel), List.mem_of_getElem? (i := 361) (by decide +kernel), List.mem_of_getElem? (i := 362) (by decide +kernel)⟩
theorem lw_p9 : lw_okq (⟨"JumpDesk$Air", "blowAt", "(III)V"⟩, 2) := ⟨⟨by decide +kernel, by decide +kernel⟩, List.mem_of_getElem? (i := 24) (by decide +kernel), List.mem_of_getElem? (i := 373) (by decide +kernel), List.mem_of_getElem? (i := 374) (by decide +kernel)⟩
theorem lw_p10 : lw_okq (⟨"JumpDesk$Air", "alongX", "(I)I"⟩, 2) := ⟨⟨by decide +kernel, by decide +kernel⟩, List.mem_of_getElem? (i := 24) (by decide +kernel), List.mem_of_getElem? (i := 385) (by decide +kernel), List.mem_of_getElem? (i := 386) (by decide +kernel)⟩
theorem lw_p11 : lw_okq (⟨"JumpDesk$Air", "alongY", "(I)I"⟩, 2) := ⟨⟨by decide +kernel, by decide +kernel⟩, List.mem_of_getElem? (i := 24) (by decide +kernel), List.mem_of_getElem? (i := 389) (by decide +kernel), List.mem_of_getElem? (i := 390) (by decide +kernel)⟩
theorem lw_p12 : lw_okq (⟨"JumpDesk", "jumperAt", "(I)LJumpDesk$Jumper;"⟩, 11) := ⟨⟨by decide +kernel, by decide +kernel⟩, List.mem_of_getElem? (i := 14) (by decide +kernel), List.mem_of_getElem? (i := 397) (by decide +kernel), List.mem_of_getElem? (i := 398) (by decide +kernel)⟩
theorem lw_p13 : lw_okq (⟨"JumpDesk$Jumper", "become", "(III)V"⟩, 4) := ⟨⟨by decide +kernel, by decide +kernel⟩, List.mem_of_getElem? (i := 101) (by decide +kernel), List.mem_of_getElem? (i := 401) (by decide +kernel), List.mem_of_getElem? (i := 402) (by decide +kernel)⟩
theorem lw_p14 : lw_okq (⟨"JumpDesk$Group", "become", "(IIII)V"⟩, 7) := ⟨⟨by decide +kernel, by decide +kernel⟩, List.mem_of_getElem? (i := 123) (by decide +kernel), List.mem_of_getElem? (i := 409) (by decide +kernel), List.mem_of_getElem? (i := 410) (by decide +kernel)⟩
theorem lw_p15 : lw_okq (⟨"JumpDesk", "groupAt", "(I)LJumpDesk$Group;"⟩, 11) := ⟨⟨by decide +kernel, by decide +kernel⟩, List.mem_of_getElem? (i := 14) (by decide +kernel), List.mem_of_getElem? (i := 417) (by decide +kernel), List.mem_of_getElem? (i := 418) (by decide +kernel)⟩
def lw_privs_1 : List (MethodName × Nat) := [(⟨"JumpDesk", "sheetAt", "(I)LJumpDesk$Sheet;"⟩, 11), (⟨"JumpDesk$Sheet", "begin", "(I)V"⟩, 4), (⟨"JumpDesk$Sheet", "has", "(I)Z"⟩, 4), (⟨"JumpDesk$Sheet", "write", "(IF)V"⟩, 4), (⟨"JumpDesk$Sheet", "blank", "(I)V"⟩, 4), (⟨"JumpDesk$Sheet", "filled", "(I)F"⟩, 4), (⟨"JumpDesk$Sheet", "knownBelow", "(I)I"⟩, 4), (⟨"JumpDesk$Sheet", "knownAbove", "(I)I"⟩, 4), (⟨"JumpDesk$Sheet", "windOf", "(I)I"⟩, 4), (⟨"JumpDesk$Air", "blowAt", "(III)V"⟩, 2), (⟨"JumpDesk$Air", "alongX", "(I)I"⟩, 2), (⟨"JumpDesk$Air", "alongY", "(I)I"⟩, 2), (⟨"JumpDesk", "jumperAt", "(I)LJumpDesk$Jumper;"⟩, 11), (⟨"JumpDesk$Jumper", "become", "(III)V"⟩, 4), (⟨"JumpDesk$Group", "become", "(IIII)V"⟩, 7), (⟨"JumpDesk", "groupAt", "(I)LJumpDesk$Group;"⟩, 11)]
theorem lw_r1 : ∀ q ∈ lw_privs_1, lw_okq q := List.forall_mem_cons.mpr ⟨lw_p0, List.forall_mem_cons.mpr ⟨lw_p1, List.forall_mem_cons.mpr ⟨lw_p2, List.forall_mem_cons.mpr ⟨lw_p3, List.forall_mem_cons.mpr ⟨lw_p4, List.forall_mem_cons.mpr ⟨lw_p5, List.forall_mem_cons.mpr ⟨lw_p6, List.forall_mem_cons.mpr ⟨lw_p7, List.forall_mem_cons.mpr ⟨lw_p8, List.forall_mem_cons.mpr ⟨lw_p9, List.forall_mem_cons.mpr ⟨lw_p10, List.forall_mem_cons.mpr ⟨lw_p11, List.forall_mem_cons.mpr ⟨lw_p12, List.forall_mem_cons.mpr ⟨lw_p13, List.forall_mem_cons.mpr ⟨lw_p14, List.forall_mem_cons.mpr ⟨lw_p15, fun _ h => absurd h List.not_mem_nil⟩⟩⟩⟩⟩⟩⟩⟩⟩⟩⟩⟩⟩⟩⟩⟩
theorem lw_p16 : lw_okq (⟨"JumpDesk", "isInSomeLoad", "(LJumpDesk$Group;Z)Z"⟩, 11) := ⟨⟨by decide +kernel, by decide +kernel⟩, List.mem_of_getElem? (i := 14) (by decide +kernel), List.mem_of_getElem? (i := 421) (by decide +kernel), List.mem_of_getElem? (i := 422) (by decide +kernel)⟩
theorem lw_p17 : lw_okq (⟨"JumpDesk$Load", "holds", "(LJumpDesk$Group;)Z"⟩, 9) := ⟨⟨by decide +kernel, by decide +kernel⟩, List.mem_of_getElem? (i := 188) (by decide +kernel), List.mem_of_getElem? (i := 425) (by decide +kernel), List.mem_of_getElem? (i := 426) (by decide +kernel)⟩
theorem lw_p18 : lw_okq (⟨"JumpDesk$Group", "holds", "(LJumpDesk$Jumper;)Z"⟩, 7) := ⟨⟨by decide +kernel, by decide +kernel⟩, List.mem_of_getElem? (i := 123) (by decide +kernel), List.mem_of_getElem? (i := 429) (by decide +kernel), List.mem_of_getElem? (i := 430) (by decide +kernel)⟩
theorem lw_p19 : lw_okq (⟨"JumpDesk$Group", "add", "(LJumpDesk$Jumper;)V"⟩, 7) := ⟨⟨by decide +kernel, by decide +kernel⟩, List.mem_of_getElem? (i := 123) (by decide +kernel), List.mem_of_getElem? (i := 433) (by decide +kernel), List.mem_of_getElem? (i := 434) (by decide +kernel)⟩
theorem lw_p20 : lw_okq (⟨"JumpDesk$Group", "tell", "(I)I"⟩, 7) := ⟨⟨by decide +kernel, by decide +kernel⟩, List.mem_of_getElem? (i := 123) (by decide +kernel), List.mem_of_getElem? (i := 441) (by decide +kernel), List.mem_of_getElem? (i := 442) (by decide +kernel)⟩
theorem lw_p21 : lw_okq (⟨"JumpDesk$Group", "weight", "()I"⟩, 7) := ⟨⟨by decide +kernel, by decide +kernel⟩, List.mem_of_getElem? (i := 123) (by decide +kernel), List.mem_of_getElem? (i := 445) (by decide +kernel), List.mem_of_getElem? (i := 446) (by decide +kernel)⟩
theorem lw_p22 : lw_okq (⟨"JumpDesk", "planeAt", "(I)LJumpDesk$Plane;"⟩, 11) := ⟨⟨by decide +kernel, by decide +kernel⟩, List.mem_of_getElem? (i := 14) (by decide +kernel), List.mem_of_getElem? (i := 453) (by decide +kernel), List.mem_of_getElem? (i := 454) (by decide +kernel)⟩
theorem lw_p23 : lw_okq (⟨"JumpDesk$Plane", "become", "(IIII)V"⟩, 5) := ⟨⟨by decide +kernel, by decide +kernel⟩, List.mem_of_getElem? (i := 159) (by decide +kernel), List.mem_of_getElem? (i := 458) (by decide +kernel), List.mem_of_getElem? (i := 459) (by decide +kernel)⟩
theorem lw_p24 : lw_okq (⟨"JumpDesk$Load", "begin", "(LJumpDesk$Plane;LJumpDesk$Air;)V"⟩, 9) := ⟨⟨by decide +kernel, by decide +kernel⟩, List.mem_of_getElem? (i := 188) (by decide +kernel), List.mem_of_getElem? (i := 472) (by decide +kernel), List.mem_of_getElem? (i := 473) (by decide +kernel)⟩
theorem lw_p25 : lw_okq (⟨"JumpDesk", "loadAt", "(I)LJumpDesk$Load;"⟩, 11) := ⟨⟨by decide +kernel, by decide +kernel⟩, List.mem_of_getElem? (i := 14) (by decide +kernel), List.mem_of_getElem? (i := 480) (by decide +kernel), List.mem_of_getElem? (i := 481) (by decide +kernel)⟩
theorem lw_p26 : lw_okq (⟨"JumpDesk$Load", "add", "(LJumpDesk$Group;I)V"⟩, 9) := ⟨⟨by decide +kernel, by decide +kernel⟩, List.mem_of_getElem? (i := 188) (by decide +kernel), List.mem_of_getElem? (i := 487) (by decide +kernel), List.mem_of_getElem? (i := 488) (by decide +kernel)⟩
theorem lw_p27 : lw_okq (⟨"JumpDesk$Load", "has", "(I)Z"⟩, 9) := ⟨⟨by decide +kernel, by decide +kernel⟩, List.mem_of_getElem? (i := 188) (by decide +kernel), List.mem_of_getElem? (i := 495) (by decide +kernel), List.mem_of_getElem? (i := 496) (by decide +kernel)⟩
theorem lw_p28 : lw_okq (⟨"JumpDesk$Load", "remove", "(I)V"⟩, 9) := ⟨⟨by decide +kernel, by decide +kernel⟩, List.mem_of_getElem? (i := 188) (by decide +kernel), List.mem_of_getElem? (i := 499) (by decide +kernel), List.mem_of_getElem? (i := 500) (by decide +kernel)⟩
theorem lw_p29 : lw_okq (⟨"JumpDesk$Load", "tell", "(I)I"⟩, 9) := ⟨⟨by decide +kernel, by decide +kernel⟩, List.mem_of_getElem? (i := 188) (by decide +kernel), List.mem_of_getElem? (i := 518) (by decide +kernel), List.mem_of_getElem? (i := 519) (by decide +kernel)⟩
theorem lw_p30 : lw_okq (⟨"JumpDesk$Load", "tellOfPlace", "(I)I"⟩, 9) := ⟨⟨by decide +kernel, by decide +kernel⟩, List.mem_of_getElem? (i := 188) (by decide +kernel), List.mem_of_getElem? (i := 522) (by decide +kernel), List.mem_of_getElem? (i := 523) (by decide +kernel)⟩
theorem lw_p31 : lw_okq (⟨"JumpDesk$Load", "secondOf", "(I)I"⟩, 9) := ⟨⟨by decide +kernel, by decide +kernel⟩, List.mem_of_getElem? (i := 188) (by decide +kernel), List.mem_of_getElem? (i := 526) (by decide +kernel), List.mem_of_getElem? (i := 527) (by decide +kernel)⟩
def lw_privs_2 : List (MethodName × Nat) := [(⟨"JumpDesk", "isInSomeLoad", "(LJumpDesk$Group;Z)Z"⟩, 11), (⟨"JumpDesk$Load", "holds", "(LJumpDesk$Group;)Z"⟩, 9), (⟨"JumpDesk$Group", "holds", "(LJumpDesk$Jumper;)Z"⟩, 7), (⟨"JumpDesk$Group", "add", "(LJumpDesk$Jumper;)V"⟩, 7), (⟨"JumpDesk$Group", "tell", "(I)I"⟩, 7), (⟨"JumpDesk$Group", "weight", "()I"⟩, 7), (⟨"JumpDesk", "planeAt", "(I)LJumpDesk$Plane;"⟩, 11), (⟨"JumpDesk$Plane", "become", "(IIII)V"⟩, 5), (⟨"JumpDesk$Load", "begin", "(LJumpDesk$Plane;LJumpDesk$Air;)V"⟩, 9), (⟨"JumpDesk", "loadAt", "(I)LJumpDesk$Load;"⟩, 11), (⟨"JumpDesk$Load", "add", "(LJumpDesk$Group;I)V"⟩, 9), (⟨"JumpDesk$Load", "has", "(I)Z"⟩, 9), (⟨"JumpDesk$Load", "remove", "(I)V"⟩, 9), (⟨"JumpDesk$Load", "tell", "(I)I"⟩, 9), (⟨"JumpDesk$Load", "tellOfPlace", "(I)I"⟩, 9), (⟨"JumpDesk$Load", "secondOf", "(I)I"⟩, 9)]
theorem lw_r2 : ∀ q ∈ lw_privs_2, lw_okq q := List.forall_mem_cons.mpr ⟨lw_p16, List.forall_mem_cons.mpr ⟨lw_p17, List.forall_mem_cons.mpr ⟨lw_p18, List.forall_mem_cons.mpr ⟨lw_p19, List.forall_mem_cons.mpr ⟨lw_p20, List.forall_mem_cons.mpr ⟨lw_p21, List.forall_mem_cons.mpr ⟨lw_p22, List.forall_mem_cons.mpr ⟨lw_p23, List.forall_mem_cons.mpr ⟨lw_p24, List.forall_mem_cons.mpr ⟨lw_p25, List.forall_mem_cons.mpr ⟨lw_p26, List.forall_mem_cons.mpr ⟨lw_p27, List.forall_mem_cons.mpr ⟨lw_p28, List.forall_mem_cons.mpr ⟨lw_p29, List.forall_mem_cons.mpr ⟨lw_p30, List.forall_mem_cons.mpr ⟨lw_p31, fun _ h => absurd h List.not_mem_nil⟩⟩⟩⟩⟩⟩⟩⟩⟩⟩⟩⟩⟩⟩⟩⟩
theorem lw_p32 : lw_okq (⟨"JumpDesk$Fall", "follow", "(LJumpDesk$Group;LJumpDesk$Plane;LJumpDesk$Air;)V"⟩, 5) := ⟨⟨by decide +kernel, by decide +kernel⟩, List.mem_of_getElem? (i := 236) (by decide +kernel), List.mem_of_getElem? (i := 535) (by decide +kernel), List.mem_of_getElem? (i := 536) (by decide +kernel)⟩
theorem lw_p33 : lw_okq (⟨"JumpDesk$Fall", "drift", "(ILJumpDesk$Air;)V"⟩, 5) := ⟨⟨by decide +kernel, by decide +kernel⟩, List.mem_of_getElem? (i := 236) (by decide +kernel), List.mem_of_getElem? (i := 539) (by decide +kernel), List.mem_of_getElem? (i := 540) (by decide +kernel)⟩
theorem lw_p34 : lw_okq (⟨"JumpDesk$Fall", "fall", "(ILJumpDesk$Group;I)V"⟩, 5) := ⟨⟨by decide +kernel, by decide +kernel⟩, List.mem_of_getElem? (i := 236) (by decide +kernel), List.mem_of_getElem? (i := 548) (by decide +kernel), List.mem_of_getElem? (i := 549) (by decide +kernel)⟩
theorem lw_p35 : lw_okq (⟨"JumpDesk$Fall", "track", "(II)V"⟩, 5) := ⟨⟨by decide +kernel, by decide +kernel⟩, List.mem_of_getElem? (i := 236) (by decide +kernel), List.mem_of_getElem? (i := 552) (by decide +kernel), List.mem_of_getElem? (i := 553) (by decide +kernel)⟩
theorem lw_p36 : lw_okq (⟨"JumpDesk$Group", "dropIn", "(I)I"⟩, 7) := ⟨⟨by decide +kernel, by decide +kernel⟩, List.mem_of_getElem? (i := 123) (by decide +kernel), List.mem_of_getElem? (i := 556) (by decide +kernel), List.mem_of_getElem? (i := 557) (by decide +kernel)⟩
theorem lw_p37 : lw_okq (⟨"JumpDesk$Group", "opensBehind", "(II)Z"⟩, 7) := ⟨⟨by decide +kernel, by decide +kernel⟩, List.mem_of_getElem? (i := 123) (by decide +kernel), List.mem_of_getElem? (i := 562) (by decide +kernel), List.mem_of_getElem? (i := 563) (by decide +kernel)⟩
theorem lw_p38 : lw_okq (⟨"JumpDesk$Load", "leavesAtX", "(I)I"⟩, 9) := ⟨⟨by decide +kernel, by decide +kernel⟩, List.mem_of_getElem? (i := 188) (by decide +kernel), List.mem_of_getElem? (i := 567) (by decide +kernel), List.mem_of_getElem? (i := 568) (by decide +kernel)⟩
theorem lw_p39 : lw_okq (⟨"JumpDesk$Fall", "stateAt", "(I)I"⟩, 5) := ⟨⟨by decide +kernel, by decide +kernel⟩, List.mem_of_getElem? (i := 236) (by decide +kernel), List.mem_of_getElem? (i := 571) (by decide +kernel), List.mem_of_getElem? (i := 572) (by decide +kernel)⟩
theorem lw_p40 : lw_okq (⟨"JumpDesk$Fall", "nearTo", "(LJumpDesk$Fall;IIJ)J"⟩, 5) := ⟨⟨by decide +kernel, by decide +kernel⟩, List.mem_of_getElem? (i := 236) (by decide +kernel), List.mem_of_getElem? (i := 582) (by decide +kernel), List.mem_of_getElem? (i := 583) (by decide +kernel)⟩
theorem lw_p41 : lw_okq (⟨"JumpDesk", "leastPause", "(LJumpDesk$Fall;LJumpDesk$Fall;I)I"⟩, 11) := ⟨⟨by decide +kernel, by decide +kernel⟩, List.mem_of_getElem? (i := 14) (by decide +kernel), List.mem_of_getElem? (i := 595) (by decide +kernel), List.mem_of_getElem? (i := 596) (by decide +kernel)⟩
theorem lw_p42 : lw_okq (⟨"JumpDesk", "areFree", "(LJumpDesk$Fall;LJumpDesk$Fall;II)Z"⟩, 11) := ⟨⟨by decide +kernel, by decide +kernel⟩, List.mem_of_getElem? (i := 14) (by decide +kernel), List.mem_of_getElem? (i := 599) (by decide +kernel), List.mem_of_getElem? (i := 600) (by decide +kernel)⟩
theorem lw_p43 : lw_okq (⟨"JumpDesk", "measurePauses", "(LJumpDesk$Load;)V"⟩, 11) := ⟨⟨by decide +kernel, by decide +kernel⟩, List.mem_of_getElem? (i := 14) (by decide +kernel), List.mem_of_getElem? (i := 607) (by decide +kernel), List.mem_of_getElem? (i := 608) (by decide +kernel)⟩
theorem lw_p44 : lw_okq (⟨"JumpDesk", "followAll", "(LJumpDesk$Load;)V"⟩, 11) := ⟨⟨by decide +kernel, by decide +kernel⟩, List.mem_of_getElem? (i := 14) (by decide +kernel), List.mem_of_getElem? (i := 611) (by decide +kernel), List.mem_of_getElem? (i := 612) (by decide +kernel)⟩
theorem lw_p45 : lw_okq (⟨"JumpDesk", "mayLeaveAhead", "(LJumpDesk$Group;LJumpDesk$Group;)Z"⟩, 11) := ⟨⟨by decide +kernel, by decide +kernel⟩, List.mem_of_getElem? (i := 14) (by decide +kernel), List.mem_of_getElem? (i := 615) (by decide +kernel), List.mem_of_getElem? (i := 616) (by decide +kernel)⟩
theorem lw_p46 : lw_okq (⟨"JumpDesk$Line", "measure", "(LJumpDesk$Group;LJumpDesk$Group;I)V"⟩, 5) := ⟨⟨by decide +kernel, by decide +kernel⟩, List.mem_of_getElem? (i := 57) (by decide +kernel), List.mem_of_getElem? (i := 619) (by decide +kernel), List.mem_of_getElem? (i := 620) (by decide +kernel)⟩
theorem lw_p47 : lw_okq (⟨"JumpDesk$Line", "begin", "(LJumpDesk$Load;)V"⟩, 5) := ⟨⟨by decide +kernel, by decide +kernel⟩, List.mem_of_getElem? (i := 57) (by decide +kernel), List.mem_of_getElem? (i := 623) (by decide +kernel), List.mem_of_getElem? (i := 624) (by decide +kernel)⟩
def lw_privs_3 : List (MethodName × Nat) := [(⟨"JumpDesk$Fall", "follow", "(LJumpDesk$Group;LJumpDesk$Plane;LJumpDesk$Air;)V"⟩, 5), (⟨"JumpDesk$Fall", "drift", "(ILJumpDesk$Air;)V"⟩, 5), (⟨"JumpDesk$Fall", "fall", "(ILJumpDesk$Group;I)V"⟩, 5), (⟨"JumpDesk$Fall", "track", "(II)V"⟩, 5), (⟨"JumpDesk$Group", "dropIn", "(I)I"⟩, 7), (⟨"JumpDesk$Group", "opensBehind", "(II)Z"⟩, 7), (⟨"JumpDesk$Load", "leavesAtX", "(I)I"⟩, 9), (⟨"JumpDesk$Fall", "stateAt", "(I)I"⟩, 5), (⟨"JumpDesk$Fall", "nearTo", "(LJumpDesk$Fall;IIJ)J"⟩, 5), (⟨"JumpDesk", "leastPause", "(LJumpDesk$Fall;LJumpDesk$Fall;I)I"⟩, 11), (⟨"JumpDesk", "areFree", "(LJumpDesk$Fall;LJumpDesk$Fall;II)Z"⟩, 11), (⟨"JumpDesk", "measurePauses", "(LJumpDesk$Load;)V"⟩, 11), (⟨"JumpDesk", "followAll", "(LJumpDesk$Load;)V"⟩, 11), (⟨"JumpDesk", "mayLeaveAhead", "(LJumpDesk$Group;LJumpDesk$Group;)Z"⟩, 11), (⟨"JumpDesk$Line", "measure", "(LJumpDesk$Group;LJumpDesk$Group;I)V"⟩, 5), (⟨"JumpDesk$Line", "begin", "(LJumpDesk$Load;)V"⟩, 5)]
theorem lw_r3 : ∀ q ∈ lw_privs_3, lw_okq q := List.forall_mem_cons.mpr ⟨lw_p32, List.forall_mem_cons.mpr ⟨lw_p33, List.forall_mem_cons.mpr ⟨lw_p34, List.forall_mem_cons.mpr ⟨lw_p35, List.forall_mem_cons.mpr ⟨lw_p36, List.forall_mem_cons.mpr ⟨lw_p37, List.forall_mem_cons.mpr ⟨lw_p38, List.forall_mem_cons.mpr ⟨lw_p39, List.forall_mem_cons.mpr ⟨lw_p40, List.forall_mem_cons.mpr ⟨lw_p41, List.forall_mem_cons.mpr ⟨lw_p42, List.forall_mem_cons.mpr ⟨lw_p43, List.forall_mem_cons.mpr ⟨lw_p44, List.forall_mem_cons.mpr ⟨lw_p45, List.forall_mem_cons.mpr ⟨lw_p46, List.forall_mem_cons.mpr ⟨lw_p47, fun _ h => absurd h List.not_mem_nil⟩⟩⟩⟩⟩⟩⟩⟩⟩⟩⟩⟩⟩⟩⟩⟩
theorem lw_p48 : lw_okq (⟨"JumpDesk$Line", "findShortest", "()Z"⟩, 5) := ⟨⟨by decide +kernel, by decide +kernel⟩, List.mem_of_getElem? (i := 57) (by decide +kernel), List.mem_of_getElem? (i := 627) (by decide +kernel), List.mem_of_getElem? (i := 628) (by decide +kernel)⟩
theorem lw_p49 : lw_okq (⟨"JumpDesk$Line", "sumOfRow", "()I"⟩, 5) := ⟨⟨by decide +kernel, by decide +kernel⟩, List.mem_of_getElem? (i := 57) (by decide +kernel), List.mem_of_getElem? (i := 631) (by decide +kernel), List.mem_of_getElem? (i := 632) (by decide +kernel)⟩
theorem lw_p50 : lw_okq (⟨"JumpDesk$Line", "pauseBetween", "(II)I"⟩, 5) := ⟨⟨by decide +kernel, by decide +kernel⟩, List.mem_of_getElem? (i := 57) (by decide +kernel), List.mem_of_getElem? (i := 635) (by decide +kernel), List.mem_of_getElem? (i := 636) (by decide +kernel)⟩
theorem lw_p51 : lw_okq (⟨"JumpDesk$Line", "stepRow", "()Z"⟩, 5) := ⟨⟨by decide +kernel, by decide +kernel⟩, List.mem_of_getElem? (i := 57) (by decide +kernel), List.mem_of_getElem? (i := 642) (by decide +kernel), List.mem_of_getElem? (i := 643) (by decide +kernel)⟩
theorem lw_p52 : lw_okq (⟨"JumpDesk$Line", "swap", "(II)V"⟩, 5) := ⟨⟨by decide +kernel, by decide +kernel⟩, List.mem_of_getElem? (i := 57) (by decide +kernel), List.mem_of_getElem? (i := 646) (by decide +kernel), List.mem_of_getElem? (i := 647) (by decide +kernel)⟩
theorem lw_p53 : lw_okq (⟨"JumpDesk$Line", "giveTo", "(LJumpDesk$Load;[LJumpDesk$Group;)V"⟩, 5) := ⟨⟨by decide +kernel, by decide +kernel⟩, List.mem_of_getElem? (i := 57) (by decide +kernel), List.mem_of_getElem? (i := 650) (by decide +kernel), List.mem_of_getElem? (i := 651) (by decide +kernel)⟩
theorem lw_p54 : lw_okq (⟨"JumpDesk", "roomAlongX", "(LJumpDesk$Group;LJumpDesk$Fall;)I"⟩, 11) := ⟨⟨by decide +kernel, by decide +kernel⟩, List.mem_of_getElem? (i := 14) (by decide +kernel), List.mem_of_getElem? (i := 659) (by decide +kernel), List.mem_of_getElem? (i := 660) (by decide +kernel)⟩
theorem lw_p55 : lw_okq (⟨"JumpDesk$Fall", "downY", "()I"⟩, 5) := ⟨⟨by decide +kernel, by decide +kernel⟩, List.mem_of_getElem? (i := 236) (by decide +kernel), List.mem_of_getElem? (i := 663) (by decide +kernel), List.mem_of_getElem? (i := 664) (by decide +kernel)⟩
theorem lw_p56 : lw_okq (⟨"JumpDesk", "reachSquare", "(LJumpDesk$Group;LJumpDesk$Fall;)J"⟩, 11) := ⟨⟨by decide +kernel, by decide +kernel⟩, List.mem_of_getElem? (i := 14) (by decide +kernel), List.mem_of_getElem? (i := 667) (by decide +kernel), List.mem_of_getElem? (i := 668) (by decide +kernel)⟩
theorem lw_p57 : lw_okq (⟨"JumpDesk$Fall", "secondsOpen", "()I"⟩, 5) := ⟨⟨by decide +kernel, by decide +kernel⟩, List.mem_of_getElem? (i := 236) (by decide +kernel), List.mem_of_getElem? (i := 671) (by decide +kernel), List.mem_of_getElem? (i := 672) (by decide +kernel)⟩
theorem lw_p58 : lw_okq (⟨"JumpDesk$Fall", "downX", "()I"⟩, 5) := ⟨⟨by decide +kernel, by decide +kernel⟩, List.mem_of_getElem? (i := 236) (by decide +kernel), List.mem_of_getElem? (i := 680) (by decide +kernel), List.mem_of_getElem? (i := 681) (by decide +kernel)⟩
theorem lw_p59 : lw_okq (⟨"JumpDesk$Load", "lacksJumpers", "()Z"⟩, 9) := ⟨⟨by decide +kernel, by decide +kernel⟩, List.mem_of_getElem? (i := 188) (by decide +kernel), List.mem_of_getElem? (i := 688) (by decide +kernel), List.mem_of_getElem? (i := 689) (by decide +kernel)⟩
theorem lw_p60 : lw_okq (⟨"JumpDesk$Load", "jumperCount", "()I"⟩, 9) := ⟨⟨by decide +kernel, by decide +kernel⟩, List.mem_of_getElem? (i := 188) (by decide +kernel), List.mem_of_getElem? (i := 692) (by decide +kernel), List.mem_of_getElem? (i := 693) (by decide +kernel)⟩
theorem lw_p61 : lw_okq (⟨"JumpDesk$Load", "weight", "()I"⟩, 9) := ⟨⟨by decide +kernel, by decide +kernel⟩, List.mem_of_getElem? (i := 188) (by decide +kernel), List.mem_of_getElem? (i := 696) (by decide +kernel), List.mem_of_getElem? (i := 697) (by decide +kernel)⟩
theorem lw_p62 : lw_okq (⟨"JumpDesk$Load", "isWornOn", "(I)Z"⟩, 9) := ⟨⟨by decide +kernel, by decide +kernel⟩, List.mem_of_getElem? (i := 188) (by decide +kernel), List.mem_of_getElem? (i := 701) (by decide +kernel), List.mem_of_getElem? (i := 702) (by decide +kernel)⟩
theorem lw_p63 : lw_okq (⟨"JumpDesk$Group", "isWornOn", "(I)Z"⟩, 7) := ⟨⟨by decide +kernel, by decide +kernel⟩, List.mem_of_getElem? (i := 123) (by decide +kernel), List.mem_of_getElem? (i := 705) (by decide +kernel), List.mem_of_getElem? (i := 706) (by decide +kernel)⟩
def lw_privs_4 : List (MethodName × Nat) := [(⟨"JumpDesk$Line", "findShortest", "()Z"⟩, 5), (⟨"JumpDesk$Line", "sumOfRow", "()I"⟩, 5), (⟨"JumpDesk$Line", "pauseBetween", "(II)I"⟩, 5), (⟨"JumpDesk$Line", "stepRow", "()Z"⟩, 5), (⟨"JumpDesk$Line", "swap", "(II)V"⟩, 5), (⟨"JumpDesk$Line", "giveTo", "(LJumpDesk$Load;[LJumpDesk$Group;)V"⟩, 5), (⟨"JumpDesk", "roomAlongX", "(LJumpDesk$Group;LJumpDesk$Fall;)I"⟩, 11), (⟨"JumpDesk$Fall", "downY", "()I"⟩, 5), (⟨"JumpDesk", "reachSquare", "(LJumpDesk$Group;LJumpDesk$Fall;)J"⟩, 11), (⟨"JumpDesk$Fall", "secondsOpen", "()I"⟩, 5), (⟨"JumpDesk$Fall", "downX", "()I"⟩, 5), (⟨"JumpDesk$Load", "lacksJumpers", "()Z"⟩, 9), (⟨"JumpDesk$Load", "jumperCount", "()I"⟩, 9), (⟨"JumpDesk$Load", "weight", "()I"⟩, 9), (⟨"JumpDesk$Load", "isWornOn", "(I)Z"⟩, 9), (⟨"JumpDesk$Group", "isWornOn", "(I)Z"⟩, 7)]
theorem lw_r4 : ∀ q ∈ lw_privs_4, lw_okq q := List.forall_mem_cons.mpr ⟨lw_p48, List.forall_mem_cons.mpr ⟨lw_p49, List.forall_mem_cons.mpr ⟨lw_p50, List.forall_mem_cons.mpr ⟨lw_p51, List.forall_mem_cons.mpr ⟨lw_p52, List.forall_mem_cons.mpr ⟨lw_p53, List.forall_mem_cons.mpr ⟨lw_p54, List.forall_mem_cons.mpr ⟨lw_p55, List.forall_mem_cons.mpr ⟨lw_p56, List.forall_mem_cons.mpr ⟨lw_p57, List.forall_mem_cons.mpr ⟨lw_p58, List.forall_mem_cons.mpr ⟨lw_p59, List.forall_mem_cons.mpr ⟨lw_p60, List.forall_mem_cons.mpr ⟨lw_p61, List.forall_mem_cons.mpr ⟨lw_p62, List.forall_mem_cons.mpr ⟨lw_p63, fun _ h => absurd h List.not_mem_nil⟩⟩⟩⟩⟩⟩⟩⟩⟩⟩⟩⟩⟩⟩⟩⟩
theorem lw_p64 : lw_okq (⟨"JumpDesk$Load", "holdsOneTwice", "()Z"⟩, 9) := ⟨⟨by decide +kernel, by decide +kernel⟩, List.mem_of_getElem? (i := 188) (by decide +kernel), List.mem_of_getElem? (i := 709) (by decide +kernel), List.mem_of_getElem? (i := 710) (by decide +kernel)⟩
theorem lw_p65 : lw_okq (⟨"JumpDesk$Group", "sharesOneWith", "(LJumpDesk$Group;)Z"⟩, 7) := ⟨⟨by decide +kernel, by decide +kernel⟩, List.mem_of_getElem? (i := 123) (by decide +kernel), List.mem_of_getElem? (i := 713) (by decide +kernel), List.mem_of_getElem? (i := 714) (by decide +kernel)⟩
theorem lw_p66 : lw_okq (⟨"JumpDesk$Load", "lacksHelp", "()Z"⟩, 9) := ⟨⟨by decide +kernel, by decide +kernel⟩, List.mem_of_getElem? (i := 188) (by decide +kernel), List.mem_of_getElem? (i := 718) (by decide +kernel), List.mem_of_getElem? (i := 719) (by decide +kernel)⟩
theorem lw_p67 : lw_okq (⟨"JumpDesk$Group", "lacksHelp", "()Z"⟩, 7) := ⟨⟨by decide +kernel, by decide +kernel⟩, List.mem_of_getElem? (i := 123) (by decide +kernel), List.mem_of_getElem? (i := 722) (by decide +kernel), List.mem_of_getElem? (i := 723) (by decide +kernel)⟩
theorem lw_p68 : lw_okq (⟨"JumpDesk$Group", "countOf", "(I)I"⟩, 7) := ⟨⟨by decide +kernel, by decide +kernel⟩, List.mem_of_getElem? (i := 123) (by decide +kernel), List.mem_of_getElem? (i := 726) (by decide +kernel), List.mem_of_getElem? (i := 727) (by decide +kernel)⟩
theorem lw_p69 : lw_okq (⟨"JumpDesk", "whyByFall", "(LJumpDesk$Load;)I"⟩, 11) := ⟨⟨by decide +kernel, by decide +kernel⟩, List.mem_of_getElem? (i := 14) (by decide +kernel), List.mem_of_getElem? (i := 730) (by decide +kernel), List.mem_of_getElem? (i := 731) (by decide +kernel)⟩
theorem lw_p70 : lw_okq (⟨"JumpDesk", "isTooWindy", "(LJumpDesk$Load;)Z"⟩, 11) := ⟨⟨by decide +kernel, by decide +kernel⟩, List.mem_of_getElem? (i := 14) (by decide +kernel), List.mem_of_getElem? (i := 734) (by decide +kernel), List.mem_of_getElem? (i := 735) (by decide +kernel)⟩
theorem lw_p71 : lw_okq (⟨"JumpDesk$Air", "squareOnGround", "()I"⟩, 2) := ⟨⟨by decide +kernel, by decide +kernel⟩, List.mem_of_getElem? (i := 24) (by decide +kernel), List.mem_of_getElem? (i := 738) (by decide +kernel), List.mem_of_getElem? (i := 739) (by decide +kernel)⟩
theorem lw_p72 : lw_okq (⟨"JumpDesk", "ranksAllow", "(LJumpDesk$Load;)Z"⟩, 11) := ⟨⟨by decide +kernel, by decide +kernel⟩, List.mem_of_getElem? (i := 14) (by decide +kernel), List.mem_of_getElem? (i := 742) (by decide +kernel), List.mem_of_getElem? (i := 743) (by decide +kernel)⟩
theorem lw_p73 : lw_okq (⟨"JumpDesk", "allFree", "(LJumpDesk$Load;)Z"⟩, 11) := ⟨⟨by decide +kernel, by decide +kernel⟩, List.mem_of_getElem? (i := 14) (by decide +kernel), List.mem_of_getElem? (i := 746) (by decide +kernel), List.mem_of_getElem? (i := 747) (by decide +kernel)⟩
theorem lw_p74 : lw_okq (⟨"JumpDesk", "allHome", "(LJumpDesk$Load;)Z"⟩, 11) := ⟨⟨by decide +kernel, by decide +kernel⟩, List.mem_of_getElem? (i := 14) (by decide +kernel), List.mem_of_getElem? (i := 750) (by decide +kernel), List.mem_of_getElem? (i := 751) (by decide +kernel)⟩
theorem lw_p75 : lw_okq (⟨"JumpDesk$Load", "goUp", "()V"⟩, 9) := ⟨⟨by decide +kernel, by decide +kernel⟩, List.mem_of_getElem? (i := 188) (by decide +kernel), List.mem_of_getElem? (i := 759) (by decide +kernel), List.mem_of_getElem? (i := 760) (by decide +kernel)⟩
theorem lw_p76 : lw_okq (⟨"JumpDesk$Plane", "becomeAs", "(LJumpDesk$Plane;)V"⟩, 5) := ⟨⟨by decide +kernel, by decide +kernel⟩, List.mem_of_getElem? (i := 159) (by decide +kernel), List.mem_of_getElem? (i := 763) (by decide +kernel), List.mem_of_getElem? (i := 764) (by decide +kernel)⟩
theorem lw_p77 : lw_okq (⟨"JumpDesk$Air", "blowAs", "(LJumpDesk$Air;)V"⟩, 2) := ⟨⟨by decide +kernel, by decide +kernel⟩, List.mem_of_getElem? (i := 24) (by decide +kernel), List.mem_of_getElem? (i := 768) (by decide +kernel), List.mem_of_getElem? (i := 769) (by decide +kernel)⟩
theorem lw_p78 : lw_okq (⟨"JumpDesk", "leftCount", "()I"⟩, 11) := ⟨⟨by decide +kernel, by decide +kernel⟩, List.mem_of_getElem? (i := 14) (by decide +kernel), List.mem_of_getElem? (i := 776) (by decide +kernel), List.mem_of_getElem? (i := 777) (by decide +kernel)⟩
theorem lw_p79 : lw_okq (⟨"JumpDesk", "upCount", "()I"⟩, 11) := ⟨⟨by decide +kernel, by decide +kernel⟩, List.mem_of_getElem? (i := 14) (by decide +kernel), List.mem_of_getElem? (i := 780) (by decide +kernel), List.mem_of_getElem? (i := 781) (by decide +kernel)⟩
def lw_privs_5 : List (MethodName × Nat) := [(⟨"JumpDesk$Load", "holdsOneTwice", "()Z"⟩, 9), (⟨"JumpDesk$Group", "sharesOneWith", "(LJumpDesk$Group;)Z"⟩, 7), (⟨"JumpDesk$Load", "lacksHelp", "()Z"⟩, 9), (⟨"JumpDesk$Group", "lacksHelp", "()Z"⟩, 7), (⟨"JumpDesk$Group", "countOf", "(I)I"⟩, 7), (⟨"JumpDesk", "whyByFall", "(LJumpDesk$Load;)I"⟩, 11), (⟨"JumpDesk", "isTooWindy", "(LJumpDesk$Load;)Z"⟩, 11), (⟨"JumpDesk$Air", "squareOnGround", "()I"⟩, 2), (⟨"JumpDesk", "ranksAllow", "(LJumpDesk$Load;)Z"⟩, 11), (⟨"JumpDesk", "allFree", "(LJumpDesk$Load;)Z"⟩, 11), (⟨"JumpDesk", "allHome", "(LJumpDesk$Load;)Z"⟩, 11), (⟨"JumpDesk$Load", "goUp", "()V"⟩, 9), (⟨"JumpDesk$Plane", "becomeAs", "(LJumpDesk$Plane;)V"⟩, 5), (⟨"JumpDesk$Air", "blowAs", "(LJumpDesk$Air;)V"⟩, 2), (⟨"JumpDesk", "leftCount", "()I"⟩, 11), (⟨"JumpDesk", "upCount", "()I"⟩, 11)]
theorem lw_r5 : ∀ q ∈ lw_privs_5, lw_okq q := List.forall_mem_cons.mpr ⟨lw_p64, List.forall_mem_cons.mpr ⟨lw_p65, List.forall_mem_cons.mpr ⟨lw_p66, List.forall_mem_cons.mpr ⟨lw_p67, List.forall_mem_cons.mpr ⟨lw_p68, List.forall_mem_cons.mpr ⟨lw_p69, List.forall_mem_cons.mpr ⟨lw_p70, List.forall_mem_cons.mpr ⟨lw_p71, List.forall_mem_cons.mpr ⟨lw_p72, List.forall_mem_cons.mpr ⟨lw_p73, List.forall_mem_cons.mpr ⟨lw_p74, List.forall_mem_cons.mpr ⟨lw_p75, List.forall_mem_cons.mpr ⟨lw_p76, List.forall_mem_cons.mpr ⟨lw_p77, List.forall_mem_cons.mpr ⟨lw_p78, List.forall_mem_cons.mpr ⟨lw_p79, fun _ h => absurd h List.not_mem_nil⟩⟩⟩⟩⟩⟩⟩⟩⟩⟩⟩⟩⟩⟩⟩⟩
theorem lw_p80 : lw_okq (⟨"JumpDeskModel", "filled", "(II)F"⟩, 48) := ⟨⟨by decide +kernel, by decide +kernel⟩, List.mem_of_getElem? (i := 784) (by decide +kernel), List.mem_of_getElem? (i := 965) (by decide +kernel), List.mem_of_getElem? (i := 966) (by decide +kernel)⟩
theorem lw_p81 : lw_okq (⟨"JumpDeskModel", "nearest", "(III)I"⟩, 48) := ⟨⟨by decide +kernel, by decide +kernel⟩, List.mem_of_getElem? (i := 784) (by decide +kernel), List.mem_of_getElem? (i := 969) (by decide +kernel), List.mem_of_getElem? (i := 970) (by decide +kernel)⟩
theorem lw_p82 : lw_okq (⟨"JumpDeskModel", "tenTimes", "(II)I"⟩, 48) := ⟨⟨by decide +kernel, by decide +kernel⟩, List.mem_of_getElem? (i := 784) (by decide +kernel), List.mem_of_getElem? (i := 978) (by decide +kernel), List.mem_of_getElem? (i := 979) (by decide +kernel)⟩
theorem lw_p83 : lw_okq (⟨"JumpDeskModel", "isGroup", "(I)Z"⟩, 48) := ⟨⟨by decide +kernel, by decide +kernel⟩, List.mem_of_getElem? (i := 784) (by decide +kernel), List.mem_of_getElem? (i := 1014) (by decide +kernel), List.mem_of_getElem? (i := 1015) (by decide +kernel)⟩
theorem lw_p84 : lw_okq (⟨"JumpDeskModel", "isInSome", "(IZ)Z"⟩, 48) := ⟨⟨by decide +kernel, by decide +kernel⟩, List.mem_of_getElem? (i := 784) (by decide +kernel), List.mem_of_getElem? (i := 1018) (by decide +kernel), List.mem_of_getElem? (i := 1019) (by decide +kernel)⟩
theorem lw_p85 : lw_okq (⟨"JumpDeskModel", "hasJumper", "(II)Z"⟩, 48) := ⟨⟨by decide +kernel, by decide +kernel⟩, List.mem_of_getElem? (i := 784) (by decide +kernel), List.mem_of_getElem? (i := 1022) (by decide +kernel), List.mem_of_getElem? (i := 1023) (by decide +kernel)⟩
theorem lw_p86 : lw_okq (⟨"JumpDeskModel", "weightIn", "(I)I"⟩, 48) := ⟨⟨by decide +kernel, by decide +kernel⟩, List.mem_of_getElem? (i := 784) (by decide +kernel), List.mem_of_getElem? (i := 1030) (by decide +kernel), List.mem_of_getElem? (i := 1031) (by decide +kernel)⟩
theorem lw_p87 : lw_okq (⟨"JumpDeskModel", "isLoad", "(I)Z"⟩, 48) := ⟨⟨by decide +kernel, by decide +kernel⟩, List.mem_of_getElem? (i := 784) (by decide +kernel), List.mem_of_getElem? (i := 1056) (by decide +kernel), List.mem_of_getElem? (i := 1057) (by decide +kernel)⟩
theorem lw_p88 : lw_okq (⟨"JumpDeskModel", "isIn", "(II)Z"⟩, 48) := ⟨⟨by decide +kernel, by decide +kernel⟩, List.mem_of_getElem? (i := 784) (by decide +kernel), List.mem_of_getElem? (i := 1065) (by decide +kernel), List.mem_of_getElem? (i := 1066) (by decide +kernel)⟩
theorem lw_p89 : lw_okq (⟨"JumpDeskModel", "leavesAt", "(II)I"⟩, 48) := ⟨⟨by decide +kernel, by decide +kernel⟩, List.mem_of_getElem? (i := 784) (by decide +kernel), List.mem_of_getElem? (i := 1083) (by decide +kernel), List.mem_of_getElem? (i := 1084) (by decide +kernel)⟩
theorem lw_p90 : lw_okq (⟨"JumpDeskModel", "takeLoad", "(I)V"⟩, 48) := ⟨⟨by decide +kernel, by decide +kernel⟩, List.mem_of_getElem? (i := 784) (by decide +kernel), List.mem_of_getElem? (i := 1092) (by decide +kernel), List.mem_of_getElem? (i := 1093) (by decide +kernel)⟩
theorem lw_p91 : lw_okq (⟨"JumpDeskModel", "takePlane", "(I)V"⟩, 48) := ⟨⟨by decide +kernel, by decide +kernel⟩, List.mem_of_getElem? (i := 784) (by decide +kernel), List.mem_of_getElem? (i := 1096) (by decide +kernel), List.mem_of_getElem? (i := 1097) (by decide +kernel)⟩
theorem lw_p92 : lw_okq (⟨"JumpDeskModel", "layOut", "(II)V"⟩, 48) := ⟨⟨by decide +kernel, by decide +kernel⟩, List.mem_of_getElem? (i := 784) (by decide +kernel), List.mem_of_getElem? (i := 1100) (by decide +kernel), List.mem_of_getElem? (i := 1101) (by decide +kernel)⟩
theorem lw_p93 : lw_okq (⟨"JumpDeskModel", "fall", "(III)V"⟩, 48) := ⟨⟨by decide +kernel, by decide +kernel⟩, List.mem_of_getElem? (i := 784) (by decide +kernel), List.mem_of_getElem? (i := 1104) (by decide +kernel), List.mem_of_getElem? (i := 1105) (by decide +kernel)⟩
theorem lw_p94 : lw_okq (⟨"JumpDeskModel", "nearOf", "(III)J"⟩, 48) := ⟨⟨by decide +kernel, by decide +kernel⟩, List.mem_of_getElem? (i := 784) (by decide +kernel), List.mem_of_getElem? (i := 1116) (by decide +kernel), List.mem_of_getElem? (i := 1117) (by decide +kernel)⟩
theorem lw_p95 : lw_okq (⟨"JumpDeskModel", "nearBy", "(I)J"⟩, 48) := ⟨⟨by decide +kernel, by decide +kernel⟩, List.mem_of_getElem? (i := 784) (by decide +kernel), List.mem_of_getElem? (i := 1120) (by decide +kernel), List.mem_of_getElem? (i := 1121) (by decide +kernel)⟩
def lw_privs_6 : List (MethodName × Nat) := [(⟨"JumpDeskModel", "filled", "(II)F"⟩, 48), (⟨"JumpDeskModel", "nearest", "(III)I"⟩, 48), (⟨"JumpDeskModel", "tenTimes", "(II)I"⟩, 48), (⟨"JumpDeskModel", "isGroup", "(I)Z"⟩, 48), (⟨"JumpDeskModel", "isInSome", "(IZ)Z"⟩, 48), (⟨"JumpDeskModel", "hasJumper", "(II)Z"⟩, 48), (⟨"JumpDeskModel", "weightIn", "(I)I"⟩, 48), (⟨"JumpDeskModel", "isLoad", "(I)Z"⟩, 48), (⟨"JumpDeskModel", "isIn", "(II)Z"⟩, 48), (⟨"JumpDeskModel", "leavesAt", "(II)I"⟩, 48), (⟨"JumpDeskModel", "takeLoad", "(I)V"⟩, 48), (⟨"JumpDeskModel", "takePlane", "(I)V"⟩, 48), (⟨"JumpDeskModel", "layOut", "(II)V"⟩, 48), (⟨"JumpDeskModel", "fall", "(III)V"⟩, 48), (⟨"JumpDeskModel", "nearOf", "(III)J"⟩, 48), (⟨"JumpDeskModel", "nearBy", "(I)J"⟩, 48)]
theorem lw_r6 : ∀ q ∈ lw_privs_6, lw_okq q := List.forall_mem_cons.mpr ⟨lw_p80, List.forall_mem_cons.mpr ⟨lw_p81, List.forall_mem_cons.mpr ⟨lw_p82, List.forall_mem_cons.mpr ⟨lw_p83, List.forall_mem_cons.mpr ⟨lw_p84, List.forall_mem_cons.mpr ⟨lw_p85, List.forall_mem_cons.mpr ⟨lw_p86, List.forall_mem_cons.mpr ⟨lw_p87, List.forall_mem_cons.mpr ⟨lw_p88, List.forall_mem_cons.mpr ⟨lw_p89, List.forall_mem_cons.mpr ⟨lw_p90, List.forall_mem_cons.mpr ⟨lw_p91, List.forall_mem_cons.mpr ⟨lw_p92, List.forall_mem_cons.mpr ⟨lw_p93, List.forall_mem_cons.mpr ⟨lw_p94, List.forall_mem_cons.mpr ⟨lw_p95, fun _ h => absurd h List.not_mem_nil⟩⟩⟩⟩⟩⟩⟩⟩⟩⟩⟩⟩⟩⟩⟩⟩
theorem lw_p96 : lw_okq (⟨"JumpDeskModel", "betweenOf", "(II)I"⟩, 48) := ⟨⟨by decide +kernel, by decide +kernel⟩, List.mem_of_getElem? (i := 784) (by decide +kernel), List.mem_of_getElem? (i := 1129) (by decide +kernel), List.mem_of_getElem? (i := 1130) (by decide +kernel)⟩
theorem lw_p97 : lw_okq (⟨"JumpDeskModel", "isFree", "(J)Z"⟩, 48) := ⟨⟨by decide +kernel, by decide +kernel⟩, List.mem_of_getElem? (i := 784) (by decide +kernel), List.mem_of_getElem? (i := 1133) (by decide +kernel), List.mem_of_getElem? (i := 1134) (by decide +kernel)⟩
theorem lw_p98 : lw_okq (⟨"JumpDeskModel", "sortGroups", "(I)V"⟩, 48) := ⟨⟨by decide +kernel, by decide +kernel⟩, List.mem_of_getElem? (i := 784) (by decide +kernel), List.mem_of_getElem? (i := 1141) (by decide +kernel), List.mem_of_getElem? (i := 1142) (by decide +kernel)⟩
theorem lw_p99 : lw_okq (⟨"JumpDeskModel", "sumOf", "(I)I"⟩, 48) := ⟨⟨by decide +kernel, by decide +kernel⟩, List.mem_of_getElem? (i := 784) (by decide +kernel), List.mem_of_getElem? (i := 1145) (by decide +kernel), List.mem_of_getElem? (i := 1146) (by decide +kernel)⟩
theorem lw_p100 : lw_okq (⟨"JumpDeskModel", "rankOf", "(I)I"⟩, 48) := ⟨⟨by decide +kernel, by decide +kernel⟩, List.mem_of_getElem? (i := 784) (by decide +kernel), List.mem_of_getElem? (i := 1149) (by decide +kernel), List.mem_of_getElem? (i := 1150) (by decide +kernel)⟩
theorem lw_p101 : lw_okq (⟨"JumpDeskModel", "nextOrder", "(I)Z"⟩, 48) := ⟨⟨by decide +kernel, by decide +kernel⟩, List.mem_of_getElem? (i := 784) (by decide +kernel), List.mem_of_getElem? (i := 1153) (by decide +kernel), List.mem_of_getElem? (i := 1154) (by decide +kernel)⟩
theorem lw_p102 : lw_okq (⟨"JumpDeskModel", "findStarts", "(I)V"⟩, 48) := ⟨⟨by decide +kernel, by decide +kernel⟩, List.mem_of_getElem? (i := 784) (by decide +kernel), List.mem_of_getElem? (i := 1162) (by decide +kernel), List.mem_of_getElem? (i := 1163) (by decide +kernel)⟩
theorem lw_p103 : lw_okq (⟨"JumpDeskModel", "barOf", "(II)I"⟩, 48) := ⟨⟨by decide +kernel, by decide +kernel⟩, List.mem_of_getElem? (i := 784) (by decide +kernel), List.mem_of_getElem? (i := 1175) (by decide +kernel), List.mem_of_getElem? (i := 1176) (by decide +kernel)⟩
theorem lw_p104 : lw_okq (⟨"JumpDeskModel", "hasEmpty", "(I)Z"⟩, 48) := ⟨⟨by decide +kernel, by decide +kernel⟩, List.mem_of_getElem? (i := 784) (by decide +kernel), List.mem_of_getElem? (i := 1179) (by decide +kernel), List.mem_of_getElem? (i := 1180) (by decide +kernel)⟩
theorem lw_p105 : lw_okq (⟨"JumpDeskModel", "jumpersIn", "(I)I"⟩, 48) := ⟨⟨by decide +kernel, by decide +kernel⟩, List.mem_of_getElem? (i := 784) (by decide +kernel), List.mem_of_getElem? (i := 1183) (by decide +kernel), List.mem_of_getElem? (i := 1184) (by decide +kernel)⟩
theorem lw_p106 : lw_okq (⟨"JumpDeskModel", "weightOn", "(I)I"⟩, 48) := ⟨⟨by decide +kernel, by decide +kernel⟩, List.mem_of_getElem? (i := 784) (by decide +kernel), List.mem_of_getElem? (i := 1187) (by decide +kernel), List.mem_of_getElem? (i := 1188) (by decide +kernel)⟩
theorem lw_p107 : lw_okq (⟨"JumpDeskModel", "hasOldGear", "(II)Z"⟩, 48) := ⟨⟨by decide +kernel, by decide +kernel⟩, List.mem_of_getElem? (i := 784) (by decide +kernel), List.mem_of_getElem? (i := 1191) (by decide +kernel), List.mem_of_getElem? (i := 1192) (by decide +kernel)⟩
theorem lw_p108 : lw_okq (⟨"JumpDeskModel", "hasTwice", "(I)Z"⟩, 48) := ⟨⟨by decide +kernel, by decide +kernel⟩, List.mem_of_getElem? (i := 784) (by decide +kernel), List.mem_of_getElem? (i := 1195) (by decide +kernel), List.mem_of_getElem? (i := 1196) (by decide +kernel)⟩
theorem lw_p109 : lw_okq (⟨"JumpDeskModel", "hasAlone", "(I)Z"⟩, 48) := ⟨⟨by decide +kernel, by decide +kernel⟩, List.mem_of_getElem? (i := 784) (by decide +kernel), List.mem_of_getElem? (i := 1199) (by decide +kernel), List.mem_of_getElem? (i := 1200) (by decide +kernel)⟩
theorem lw_p110 : lw_okq (⟨"JumpDeskModel", "sortsIn", "(II)I"⟩, 48) := ⟨⟨by decide +kernel, by decide +kernel⟩, List.mem_of_getElem? (i := 784) (by decide +kernel), List.mem_of_getElem? (i := 1203) (by decide +kernel), List.mem_of_getElem? (i := 1204) (by decide +kernel)⟩
theorem lw_p111 : lw_okq (⟨"JumpDeskModel", "blowsTooMuch", "(I)Z"⟩, 48) := ⟨⟨by decide +kernel, by decide +kernel⟩, List.mem_of_getElem? (i := 784) (by decide +kernel), List.mem_of_getElem? (i := 1207) (by decide +kernel), List.mem_of_getElem? (i := 1208) (by decide +kernel)⟩
def lw_privs_7 : List (MethodName × Nat) := [(⟨"JumpDeskModel", "betweenOf", "(II)I"⟩, 48), (⟨"JumpDeskModel", "isFree", "(J)Z"⟩, 48), (⟨"JumpDeskModel", "sortGroups", "(I)V"⟩, 48), (⟨"JumpDeskModel", "sumOf", "(I)I"⟩, 48), (⟨"JumpDeskModel", "rankOf", "(I)I"⟩, 48), (⟨"JumpDeskModel", "nextOrder", "(I)Z"⟩, 48), (⟨"JumpDeskModel", "findStarts", "(I)V"⟩, 48), (⟨"JumpDeskModel", "barOf", "(II)I"⟩, 48), (⟨"JumpDeskModel", "hasEmpty", "(I)Z"⟩, 48), (⟨"JumpDeskModel", "jumpersIn", "(I)I"⟩, 48), (⟨"JumpDeskModel", "weightOn", "(I)I"⟩, 48), (⟨"JumpDeskModel", "hasOldGear", "(II)Z"⟩, 48), (⟨"JumpDeskModel", "hasTwice", "(I)Z"⟩, 48), (⟨"JumpDeskModel", "hasAlone", "(I)Z"⟩, 48), (⟨"JumpDeskModel", "sortsIn", "(II)I"⟩, 48), (⟨"JumpDeskModel", "blowsTooMuch", "(I)Z"⟩, 48)]
theorem lw_r7 : ∀ q ∈ lw_privs_7, lw_okq q := List.forall_mem_cons.mpr ⟨lw_p96, List.forall_mem_cons.mpr ⟨lw_p97, List.forall_mem_cons.mpr ⟨lw_p98, List.forall_mem_cons.mpr ⟨lw_p99, List.forall_mem_cons.mpr ⟨lw_p100, List.forall_mem_cons.mpr ⟨lw_p101, List.forall_mem_cons.mpr ⟨lw_p102, List.forall_mem_cons.mpr ⟨lw_p103, List.forall_mem_cons.mpr ⟨lw_p104, List.forall_mem_cons.mpr ⟨lw_p105, List.forall_mem_cons.mpr ⟨lw_p106, List.forall_mem_cons.mpr ⟨lw_p107, List.forall_mem_cons.mpr ⟨lw_p108, List.forall_mem_cons.mpr ⟨lw_p109, List.forall_mem_cons.mpr ⟨lw_p110, List.forall_mem_cons.mpr ⟨lw_p111, fun _ h => absurd h List.not_mem_nil⟩⟩⟩⟩⟩⟩⟩⟩⟩⟩⟩⟩⟩⟩⟩⟩
theorem lw_p112 : lw_okq (⟨"JumpDeskModel", "areRanksWrong", "(I)Z"⟩, 48) := ⟨⟨by decide +kernel, by decide +kernel⟩, List.mem_of_getElem? (i := 784) (by decide +kernel), List.mem_of_getElem? (i := 1211) (by decide +kernel), List.mem_of_getElem? (i := 1212) (by decide +kernel)⟩
theorem lw_p113 : lw_okq (⟨"JumpDeskModel", "areSomeNear", "(I)Z"⟩, 48) := ⟨⟨by decide +kernel, by decide +kernel⟩, List.mem_of_getElem? (i := 784) (by decide +kernel), List.mem_of_getElem? (i := 1215) (by decide +kernel), List.mem_of_getElem? (i := 1216) (by decide +kernel)⟩
theorem lw_p114 : lw_okq (⟨"JumpDeskModel", "isSomeOut", "(I)Z"⟩, 48) := ⟨⟨by decide +kernel, by decide +kernel⟩, List.mem_of_getElem? (i := 784) (by decide +kernel), List.mem_of_getElem? (i := 1219) (by decide +kernel), List.mem_of_getElem? (i := 1220) (by decide +kernel)⟩
def lw_privs_8 : List (MethodName × Nat) := [(⟨"JumpDeskModel", "areRanksWrong", "(I)Z"⟩, 48), (⟨"JumpDeskModel", "areSomeNear", "(I)Z"⟩, 48), (⟨"JumpDeskModel", "isSomeOut", "(I)Z"⟩, 48)]
theorem lw_r8 : ∀ q ∈ lw_privs_8, lw_okq q := List.forall_mem_cons.mpr ⟨lw_p112, List.forall_mem_cons.mpr ⟨lw_p113, List.forall_mem_cons.mpr ⟨lw_p114, fun _ h => absurd h List.not_mem_nil⟩⟩⟩
def lw_privs : List (MethodName × Nat) := lw_privs_1 ++ (lw_privs_2 ++ (lw_privs_3 ++ (lw_privs_4 ++ (lw_privs_5 ++ (lw_privs_6 ++ (lw_privs_7 ++ (lw_privs_8)))))))
def lw_tbl : List Cond := k2_sels lw_privs ++ tables_1
theorem lw_privs_ok : ∀ q ∈ lw_privs, lw_okq q := by
  show ∀ q ∈ lw_privs_1 ++ (lw_privs_2 ++ (lw_privs_3 ++ (lw_privs_4 ++ (lw_privs_5 ++ (lw_privs_6 ++ (lw_privs_7 ++ (lw_privs_8))))))), lw_okq q
  exact List.forall_mem_append.mpr ⟨lw_r1, List.forall_mem_append.mpr ⟨lw_r2, List.forall_mem_append.mpr ⟨lw_r3, List.forall_mem_append.mpr ⟨lw_r4, List.forall_mem_append.mpr ⟨lw_r5, List.forall_mem_append.mpr ⟨lw_r6, List.forall_mem_append.mpr ⟨lw_r7, lw_r8⟩⟩⟩⟩⟩⟩⟩
/-- the streams that the claim lets the run draw from -/
abbrev lw_cs : List Choice := [Jvm.Choice.named "NaN.bits"]
theorem lw_bits : nanBits ∈ lw_cs := by first | decide | exact List.mem_cons_self | simp [lw_cs, nanBits]
/-! ===== BEGIN words of one list among another's, by their places ===== -/
theorem goodIn_r {big : List Cond} (ws : List Cond) (ps : List Nat) (hp : ws = ps.filterMap (fun i => big[i]?)) (h : ws.all goodWord = true) : GoodIn big ws := by
  intro w hw
  have h1 := List.all_eq_true.mp h w hw
  rw [hp] at hw
  obtain ⟨i, -, hi⟩ := List.mem_filterMap.mp hw
  have hm : w ∈ big := by first | exact List.mem_of_getElem? hi | exact List.getElem?_mem hi
  exact ⟨hm, good_of_word h1⟩
theorem goodIn_app {big a b : List Cond} (ha : GoodIn big a) (hb : GoodIn big b) : GoodIn big (a ++ b) := fun w h => (List.mem_append.mp h).elim (ha w) (hb w)
theorem goodIn_ca {big a b : List Cond} {c : Cond} (ha : GoodIn big (c :: a)) (hb : GoodIn big b) : GoodIn big (c :: (a ++ b)) := fun w h => (List.mem_cons.mp h).elim (fun e => ha w (List.mem_cons.mpr (Or.inl e))) (fun h => (List.mem_append.mp h).elim (fun h => ha w (List.mem_cons.mpr (Or.inr h))) (hb w))
theorem goodIn_sub {big ws : List Cond} (hm : ∀ w ∈ ws, w ∈ big) (h : ws.all goodWord = true) : GoodIn big ws := fun w hw => ⟨hm w hw, good_of_word (List.all_eq_true.mp h w hw)⟩
/-! ===== END ===== -/

/-! ===== BEGIN printed: names, fields, word lists, decode rows ===== -/
def RX0 : String := "JumpDesk$Air"
def TX0 : u_T := fun k => match k with
  | 0 => ("JumpDesk$Air", "x", "[I", true)
  | _ => ("JumpDesk$Air", "y", "[I", true)
def tyX0 : Nat → FieldType := fun k => match k with
  | 0 => .array .int
  | _ => .array .int
abbrev wsX00 : List Cond := u_ws RX0 TX0 2
theorem nmX0 : ∀ a, a < 2 → ∀ b, b < 2 → a ≠ b → (TX0 a).2.1 ≠ (TX0 b).2.1 := by decide +kernel
theorem tyX0_ok : ∀ k, k < 2 → parseFieldDescriptor (TX0 k).2.2.1 = some (tyX0 k) := by decide +kernel
abbrev cX0_init : ByteArray := prog_2_method_1_code
def yX0_init : MethodName := ⟨RX0, "<init>", "()V"⟩
abbrev cX0_blowAt : ByteArray := prog_2_method_2_code
def yX0_blowAt : MethodName := ⟨RX0, "blowAt", "(III)V"⟩
abbrev cX0_blowAs : ByteArray := prog_2_method_3_code
def yX0_blowAs : MethodName := ⟨RX0, "blowAs", "(LJumpDesk$Air;)V"⟩
abbrev cX0_alongX : ByteArray := prog_2_method_4_code
def yX0_alongX : MethodName := ⟨RX0, "alongX", "(I)I"⟩
abbrev cX0_alongY : ByteArray := prog_2_method_5_code
def yX0_alongY : MethodName := ⟨RX0, "alongY", "(I)I"⟩
abbrev cX0_squareOnGround : ByteArray := prog_2_method_6_code
def yX0_squareOnGround : MethodName := ⟨RX0, "squareOnGround", "()I"⟩
def RX1 : String := "JumpDesk$Fall"
def TX1 : u_T := fun k => match k with
  | 0 => ("JumpDesk$Fall", "x", "[I", true)
  | 1 => ("JumpDesk$Fall", "y", "[I", true)
  | 2 => ("JumpDesk$Fall", "height", "[I", true)
  | 3 => ("JumpDesk$Fall", "opened", "I", false)
  | _ => ("JumpDesk$Fall", "down", "I", false)
def tyX1 : Nat → FieldType := fun k => match k with
  | 0 => .array .int
  | 1 => .array .int
  | 2 => .array .int
  | 3 => .int
  | _ => .int
abbrev wsX10 : List Cond := u_ws RX1 TX1 5
theorem nmX1 : ∀ a, a < 5 → ∀ b, b < 5 → a ≠ b → (TX1 a).2.1 ≠ (TX1 b).2.1 := by decide +kernel
theorem tyX1_ok : ∀ k, k < 5 → parseFieldDescriptor (TX1 k).2.2.1 = some (tyX1 k) := by decide +kernel
abbrev cX1_init : ByteArray := prog_3_method_1_code
def yX1_init : MethodName := ⟨RX1, "<init>", "()V"⟩
abbrev cX1_follow : ByteArray := prog_3_method_2_code
def yX1_follow : MethodName := ⟨RX1, "follow", "(LJumpDesk$Group;LJumpDesk$Plane;LJumpDesk$Air;)V"⟩
abbrev cX1_drift : ByteArray := prog_3_method_3_code
def yX1_drift : MethodName := ⟨RX1, "drift", "(ILJumpDesk$Air;)V"⟩
abbrev cX1_fall : ByteArray := prog_3_method_4_code
def yX1_fall : MethodName := ⟨RX1, "fall", "(ILJumpDesk$Group;I)V"⟩
abbrev cX1_track : ByteArray := prog_3_method_5_code
def yX1_track : MethodName := ⟨RX1, "track", "(II)V"⟩
abbrev cX1_stateAt : ByteArray := prog_3_method_6_code
def yX1_stateAt : MethodName := ⟨RX1, "stateAt", "(I)I"⟩
abbrev cX1_secondsOpen : ByteArray := prog_3_method_7_code
def yX1_secondsOpen : MethodName := ⟨RX1, "secondsOpen", "()I"⟩
abbrev cX1_downX : ByteArray := prog_3_method_8_code
def yX1_downX : MethodName := ⟨RX1, "downX", "()I"⟩
abbrev cX1_downY : ByteArray := prog_3_method_9_code
def yX1_downY : MethodName := ⟨RX1, "downY", "()I"⟩
abbrev cX1_nearTo : ByteArray := prog_3_method_10_code
def yX1_nearTo : MethodName := ⟨RX1, "nearTo", "(LJumpDesk$Fall;IIJ)J"⟩
def RX2 : String := "JumpDesk$Group"
def TX2 : u_T := fun k => match k with
  | 0 => ("JumpDesk$Group", "number", "I", true)
  | 1 => ("JumpDesk$Group", "members", "[LJumpDesk$Jumper;", true)
  | 2 => ("JumpDesk$Group", "count", "I", false)
  | 3 => ("JumpDesk$Group", "kind", "I", false)
  | 4 => ("JumpDesk$Group", "opens", "I", false)
  | 5 => ("JumpDesk$Group", "forward", "I", false)
  | _ => ("JumpDesk$Group", "direction", "I", false)
def tyX2 : Nat → FieldType := fun k => match k with
  | 0 => .int
  | 1 => .array (.object "JumpDesk$Jumper")
  | 2 => .int
  | 3 => .int
  | 4 => .int
  | 5 => .int
  | _ => .int
abbrev wsX20 : List Cond := u_ws RX2 TX2 7
theorem nmX2 : ∀ a, a < 7 → ∀ b, b < 7 → a ≠ b → (TX2 a).2.1 ≠ (TX2 b).2.1 := by decide +kernel
theorem tyX2_ok : ∀ k, k < 7 → parseFieldDescriptor (TX2 k).2.2.1 = some (tyX2 k) := by decide +kernel
abbrev cX2_init : ByteArray := prog_4_method_1_code
def yX2_init : MethodName := ⟨RX2, "<init>", "(I)V"⟩
abbrev cX2_become : ByteArray := prog_4_method_2_code
def yX2_become : MethodName := ⟨RX2, "become", "(IIII)V"⟩
abbrev cX2_holds : ByteArray := prog_4_method_3_code
def yX2_holds : MethodName := ⟨RX2, "holds", "(LJumpDesk$Jumper;)Z"⟩
abbrev cX2_add : ByteArray := prog_4_method_4_code
def yX2_add : MethodName := ⟨RX2, "add", "(LJumpDesk$Jumper;)V"⟩
abbrev cX2_tell : ByteArray := prog_4_method_5_code
def yX2_tell : MethodName := ⟨RX2, "tell", "(I)I"⟩
abbrev cX2_weight : ByteArray := prog_4_method_6_code
def yX2_weight : MethodName := ⟨RX2, "weight", "()I"⟩
abbrev cX2_countOf : ByteArray := prog_4_method_7_code
def yX2_countOf : MethodName := ⟨RX2, "countOf", "(I)I"⟩
abbrev cX2_lacksHelp : ByteArray := prog_4_method_8_code
def yX2_lacksHelp : MethodName := ⟨RX2, "lacksHelp", "()Z"⟩
abbrev cX2_isWornOn : ByteArray := prog_4_method_9_code
def yX2_isWornOn : MethodName := ⟨RX2, "isWornOn", "(I)Z"⟩
abbrev cX2_sharesOneWith : ByteArray := prog_4_method_10_code
def yX2_sharesOneWith : MethodName := ⟨RX2, "sharesOneWith", "(LJumpDesk$Group;)Z"⟩
abbrev cX2_dropIn : ByteArray := prog_4_method_11_code
def yX2_dropIn : MethodName := ⟨RX2, "dropIn", "(I)I"⟩
abbrev cX2_opensBehind : ByteArray := prog_4_method_12_code
def yX2_opensBehind : MethodName := ⟨RX2, "opensBehind", "(II)Z"⟩
def RX3 : String := "JumpDesk$Jumper"
def TX3 : u_T := fun k => match k with
  | 0 => ("JumpDesk$Jumper", "number", "I", true)
  | 1 => ("JumpDesk$Jumper", "sort", "I", false)
  | 2 => ("JumpDesk$Jumper", "weight", "I", false)
  | _ => ("JumpDesk$Jumper", "day", "I", false)
def tyX3 : Nat → FieldType := fun k => match k with
  | 0 => .int
  | 1 => .int
  | 2 => .int
  | _ => .int
abbrev wsX30 : List Cond := u_ws RX3 TX3 4
theorem nmX3 : ∀ a, a < 4 → ∀ b, b < 4 → a ≠ b → (TX3 a).2.1 ≠ (TX3 b).2.1 := by decide +kernel
theorem tyX3_ok : ∀ k, k < 4 → parseFieldDescriptor (TX3 k).2.2.1 = some (tyX3 k) := by decide +kernel
abbrev cX3_init : ByteArray := prog_5_method_1_code
def yX3_init : MethodName := ⟨RX3, "<init>", "(I)V"⟩
abbrev cX3_become : ByteArray := prog_5_method_2_code
def yX3_become : MethodName := ⟨RX3, "become", "(III)V"⟩
def RX4 : String := "JumpDesk$Line"
def TX4 : u_T := fun k => match k with
  | 0 => ("JumpDesk$Line", "pauses", "[I", true)
  | 1 => ("JumpDesk$Line", "row", "[I", true)
  | 2 => ("JumpDesk$Line", "best", "[I", true)
  | 3 => ("JumpDesk$Line", "count", "I", false)
  | _ => ("JumpDesk$Line", "shortest", "I", false)
def tyX4 : Nat → FieldType := fun k => match k with
  | 0 => .array .int
  | 1 => .array .int
  | 2 => .array .int
  | 3 => .int
  | _ => .int
abbrev wsX40 : List Cond := u_ws RX4 TX4 5
theorem nmX4 : ∀ a, a < 5 → ∀ b, b < 5 → a ≠ b → (TX4 a).2.1 ≠ (TX4 b).2.1 := by decide +kernel
theorem tyX4_ok : ∀ k, k < 5 → parseFieldDescriptor (TX4 k).2.2.1 = some (tyX4 k) := by decide +kernel
abbrev cX4_init : ByteArray := prog_6_method_1_code
def yX4_init : MethodName := ⟨RX4, "<init>", "()V"⟩
abbrev cX4_measure : ByteArray := prog_6_method_2_code
def yX4_measure : MethodName := ⟨RX4, "measure", "(LJumpDesk$Group;LJumpDesk$Group;I)V"⟩
abbrev cX4_pauseBetween : ByteArray := prog_6_method_3_code
def yX4_pauseBetween : MethodName := ⟨RX4, "pauseBetween", "(II)I"⟩
abbrev cX4_begin : ByteArray := prog_6_method_4_code
def yX4_begin : MethodName := ⟨RX4, "begin", "(LJumpDesk$Load;)V"⟩
abbrev cX4_findShortest : ByteArray := prog_6_method_5_code
def yX4_findShortest : MethodName := ⟨RX4, "findShortest", "()Z"⟩
abbrev cX4_sumOfRow : ByteArray := prog_6_method_6_code
def yX4_sumOfRow : MethodName := ⟨RX4, "sumOfRow", "()I"⟩
abbrev cX4_stepRow : ByteArray := prog_6_method_7_code
def yX4_stepRow : MethodName := ⟨RX4, "stepRow", "()Z"⟩
abbrev cX4_swap : ByteArray := prog_6_method_8_code
def yX4_swap : MethodName := ⟨RX4, "swap", "(II)V"⟩
abbrev cX4_giveTo : ByteArray := prog_6_method_9_code
def yX4_giveTo : MethodName := ⟨RX4, "giveTo", "(LJumpDesk$Load;[LJumpDesk$Group;)V"⟩
def RX5 : String := "JumpDesk$Load"
def TX5 : u_T := fun k => match k with
  | 0 => ("JumpDesk$Load", "groups", "[LJumpDesk$Group;", true)
  | 1 => ("JumpDesk$Load", "pauses", "[I", true)
  | 2 => ("JumpDesk$Load", "ownPlane", "LJumpDesk$Plane;", true)
  | 3 => ("JumpDesk$Load", "ownAir", "LJumpDesk$Air;", true)
  | 4 => ("JumpDesk$Load", "plane", "LJumpDesk$Plane;", false)
  | 5 => ("JumpDesk$Load", "air", "LJumpDesk$Air;", false)
  | 6 => ("JumpDesk$Load", "count", "I", false)
  | 7 => ("JumpDesk$Load", "start", "I", false)
  | _ => ("JumpDesk$Load", "left", "Z", false)
def tyX5 : Nat → FieldType := fun k => match k with
  | 0 => .array (.object "JumpDesk$Group")
  | 1 => .array .int
  | 2 => .object "JumpDesk$Plane"
  | 3 => .object "JumpDesk$Air"
  | 4 => .object "JumpDesk$Plane"
  | 5 => .object "JumpDesk$Air"
  | 6 => .int
  | 7 => .int
  | _ => .boolean
abbrev wsX50 : List Cond := u_ws RX5 TX5 9
theorem nmX5 : ∀ a, a < 9 → ∀ b, b < 9 → a ≠ b → (TX5 a).2.1 ≠ (TX5 b).2.1 := by decide +kernel
theorem tyX5_ok : ∀ k, k < 9 → parseFieldDescriptor (TX5 k).2.2.1 = some (tyX5 k) := by decide +kernel
abbrev cX5_init : ByteArray := prog_7_method_1_code
def yX5_init : MethodName := ⟨RX5, "<init>", "()V"⟩
abbrev cX5_begin : ByteArray := prog_7_method_2_code
def yX5_begin : MethodName := ⟨RX5, "begin", "(LJumpDesk$Plane;LJumpDesk$Air;)V"⟩
abbrev cX5_goUp : ByteArray := prog_7_method_3_code
def yX5_goUp : MethodName := ⟨RX5, "goUp", "()V"⟩
abbrev cX5_has : ByteArray := prog_7_method_4_code
def yX5_has : MethodName := ⟨RX5, "has", "(I)Z"⟩
abbrev cX5_holds : ByteArray := prog_7_method_5_code
def yX5_holds : MethodName := ⟨RX5, "holds", "(LJumpDesk$Group;)Z"⟩
abbrev cX5_add : ByteArray := prog_7_method_6_code
def yX5_add : MethodName := ⟨RX5, "add", "(LJumpDesk$Group;I)V"⟩
abbrev cX5_remove : ByteArray := prog_7_method_7_code
def yX5_remove : MethodName := ⟨RX5, "remove", "(I)V"⟩
abbrev cX5_tell : ByteArray := prog_7_method_8_code
def yX5_tell : MethodName := ⟨RX5, "tell", "(I)I"⟩
abbrev cX5_tellOfPlace : ByteArray := prog_7_method_9_code
def yX5_tellOfPlace : MethodName := ⟨RX5, "tellOfPlace", "(I)I"⟩
abbrev cX5_secondOf : ByteArray := prog_7_method_10_code
def yX5_secondOf : MethodName := ⟨RX5, "secondOf", "(I)I"⟩
abbrev cX5_leavesAtX : ByteArray := prog_7_method_11_code
def yX5_leavesAtX : MethodName := ⟨RX5, "leavesAtX", "(I)I"⟩
abbrev cX5_lacksJumpers : ByteArray := prog_7_method_12_code
def yX5_lacksJumpers : MethodName := ⟨RX5, "lacksJumpers", "()Z"⟩
abbrev cX5_jumperCount : ByteArray := prog_7_method_13_code
def yX5_jumperCount : MethodName := ⟨RX5, "jumperCount", "()I"⟩
abbrev cX5_weight : ByteArray := prog_7_method_14_code
def yX5_weight : MethodName := ⟨RX5, "weight", "()I"⟩
abbrev cX5_isWornOn : ByteArray := prog_7_method_15_code
def yX5_isWornOn : MethodName := ⟨RX5, "isWornOn", "(I)Z"⟩
abbrev cX5_holdsOneTwice : ByteArray := prog_7_method_16_code
def yX5_holdsOneTwice : MethodName := ⟨RX5, "holdsOneTwice", "()Z"⟩
abbrev cX5_lacksHelp : ByteArray := prog_7_method_17_code
def yX5_lacksHelp : MethodName := ⟨RX5, "lacksHelp", "()Z"⟩
def RX6 : String := "JumpDesk$Plane"
def TX6 : u_T := fun k => match k with
  | 0 => ("JumpDesk$Plane", "number", "I", false)
  | 1 => ("JumpDesk$Plane", "seats", "I", false)
  | 2 => ("JumpDesk$Plane", "bears", "I", false)
  | 3 => ("JumpDesk$Plane", "speed", "I", false)
  | _ => ("JumpDesk$Plane", "height", "I", false)
def tyX6 : Nat → FieldType := fun k => match k with
  | 0 => .int
  | 1 => .int
  | 2 => .int
  | 3 => .int
  | _ => .int
abbrev wsX60 : List Cond := u_ws RX6 TX6 5
theorem nmX6 : ∀ a, a < 5 → ∀ b, b < 5 → a ≠ b → (TX6 a).2.1 ≠ (TX6 b).2.1 := by decide +kernel
theorem tyX6_ok : ∀ k, k < 5 → parseFieldDescriptor (TX6 k).2.2.1 = some (tyX6 k) := by decide +kernel
abbrev cX6_init : ByteArray := prog_8_method_1_code
def yX6_init : MethodName := ⟨RX6, "<init>", "(I)V"⟩
abbrev cX6_become : ByteArray := prog_8_method_2_code
def yX6_become : MethodName := ⟨RX6, "become", "(IIII)V"⟩
abbrev cX6_becomeAs : ByteArray := prog_8_method_3_code
def yX6_becomeAs : MethodName := ⟨RX6, "becomeAs", "(LJumpDesk$Plane;)V"⟩
def RX7 : String := "JumpDesk$Sheet"
def TX7 : u_T := fun k => match k with
  | 0 => ("JumpDesk$Sheet", "numbers", "[F", true)
  | 1 => ("JumpDesk$Sheet", "gaps", "[Z", true)
  | 2 => ("JumpDesk$Sheet", "length", "I", false)
  | _ => ("JumpDesk$Sheet", "there", "Z", false)
def tyX7 : Nat → FieldType := fun k => match k with
  | 0 => .array .float
  | 1 => .array .boolean
  | 2 => .int
  | _ => .boolean
abbrev wsX70 : List Cond := u_ws RX7 TX7 4
theorem nmX7 : ∀ a, a < 4 → ∀ b, b < 4 → a ≠ b → (TX7 a).2.1 ≠ (TX7 b).2.1 := by decide +kernel
theorem tyX7_ok : ∀ k, k < 4 → parseFieldDescriptor (TX7 k).2.2.1 = some (tyX7 k) := by decide +kernel
abbrev cX7_init : ByteArray := prog_9_method_1_code
def yX7_init : MethodName := ⟨RX7, "<init>", "()V"⟩
abbrev cX7_begin : ByteArray := prog_9_method_2_code
def yX7_begin : MethodName := ⟨RX7, "begin", "(I)V"⟩
abbrev cX7_has : ByteArray := prog_9_method_3_code
def yX7_has : MethodName := ⟨RX7, "has", "(I)Z"⟩
abbrev cX7_write : ByteArray := prog_9_method_4_code
def yX7_write : MethodName := ⟨RX7, "write", "(IF)V"⟩
abbrev cX7_blank : ByteArray := prog_9_method_5_code
def yX7_blank : MethodName := ⟨RX7, "blank", "(I)V"⟩
abbrev cX7_filled : ByteArray := prog_9_method_6_code
def yX7_filled : MethodName := ⟨RX7, "filled", "(I)F"⟩
abbrev cX7_knownBelow : ByteArray := prog_9_method_7_code
def yX7_knownBelow : MethodName := ⟨RX7, "knownBelow", "(I)I"⟩
abbrev cX7_knownAbove : ByteArray := prog_9_method_8_code
def yX7_knownAbove : MethodName := ⟨RX7, "knownAbove", "(I)I"⟩
abbrev cX7_windOf : ByteArray := prog_9_method_9_code
def yX7_windOf : MethodName := ⟨RX7, "windOf", "(I)I"⟩
def RX8 : String := "JumpDesk"
def TX8 : u_T := fun k => match k with
  | 0 => ("JumpDesk", "sheets", "[LJumpDesk$Sheet;", true)
  | 1 => ("JumpDesk", "air", "LJumpDesk$Air;", true)
  | 2 => ("JumpDesk", "jumpers", "[LJumpDesk$Jumper;", true)
  | 3 => ("JumpDesk", "groups", "[LJumpDesk$Group;", true)
  | 4 => ("JumpDesk", "planes", "[LJumpDesk$Plane;", true)
  | 5 => ("JumpDesk", "loads", "[LJumpDesk$Load;", true)
  | 6 => ("JumpDesk", "rules", "[I", true)
  | 7 => ("JumpDesk", "falls", "[LJumpDesk$Fall;", true)
  | 8 => ("JumpDesk", "line", "LJumpDesk$Line;", true)
  | 9 => ("JumpDesk", "groupCount", "I", false)
  | _ => ("JumpDesk", "loadCount", "I", false)
def tyX8 : Nat → FieldType := fun k => match k with
  | 0 => .array (.object "JumpDesk$Sheet")
  | 1 => .object "JumpDesk$Air"
  | 2 => .array (.object "JumpDesk$Jumper")
  | 3 => .array (.object "JumpDesk$Group")
  | 4 => .array (.object "JumpDesk$Plane")
  | 5 => .array (.object "JumpDesk$Load")
  | 6 => .array .int
  | 7 => .array (.object "JumpDesk$Fall")
  | 8 => .object "JumpDesk$Line"
  | 9 => .int
  | _ => .int
abbrev wsX80 : List Cond := u_ws RX8 TX8 11
theorem nmX8 : ∀ a, a < 11 → ∀ b, b < 11 → a ≠ b → (TX8 a).2.1 ≠ (TX8 b).2.1 := by decide +kernel
theorem tyX8_ok : ∀ k, k < 11 → parseFieldDescriptor (TX8 k).2.2.1 = some (tyX8 k) := by decide +kernel
abbrev cX8_init : ByteArray := prog_1_method_1_code
def yX8_init : MethodName := ⟨RX8, "<init>", "()V"⟩
abbrev cX8_sheet : ByteArray := prog_1_method_2_code
def yX8_sheet : MethodName := ⟨RX8, "sheet", "(II)I"⟩
abbrev cX8_cell : ByteArray := prog_1_method_3_code
def yX8_cell : MethodName := ⟨RX8, "cell", "(IIII)I"⟩
abbrev cX8_gap : ByteArray := prog_1_method_4_code
def yX8_gap : MethodName := ⟨RX8, "gap", "(II)I"⟩
abbrev cX8_lose : ByteArray := prog_1_method_5_code
def yX8_lose : MethodName := ⟨RX8, "lose", "(I)I"⟩
abbrev cX8_told : ByteArray := prog_1_method_6_code
def yX8_told : MethodName := ⟨RX8, "told", "(II)I"⟩
abbrev cX8_winds : ByteArray := prog_1_method_7_code
def yX8_winds : MethodName := ⟨RX8, "winds", "(II)I"⟩
abbrev cX8_wind : ByteArray := prog_1_method_8_code
def yX8_wind : MethodName := ⟨RX8, "wind", "(III)I"⟩
abbrev cX8_blows : ByteArray := prog_1_method_9_code
def yX8_blows : MethodName := ⟨RX8, "blows", "(II)I"⟩
abbrev cX8_jumper : ByteArray := prog_1_method_10_code
def yX8_jumper : MethodName := ⟨RX8, "jumper", "(IIII)I"⟩
abbrev cX8_group : ByteArray := prog_1_method_11_code
def yX8_group : MethodName := ⟨RX8, "group", "(IIII)I"⟩
abbrev cX8_join : ByteArray := prog_1_method_12_code
def yX8_join : MethodName := ⟨RX8, "join", "(II)I"⟩
abbrev cX8_of : ByteArray := prog_1_method_13_code
def yX8_of : MethodName := ⟨RX8, "of", "(II)I"⟩
abbrev cX8_plane : ByteArray := prog_1_method_14_code
def yX8_plane : MethodName := ⟨RX8, "plane", "(IIIII)I"⟩
abbrev cX8_rule : ByteArray := prog_1_method_15_code
def yX8_rule : MethodName := ⟨RX8, "rule", "(II)I"⟩
abbrev cX8_load : ByteArray := prog_1_method_16_code
def yX8_load : MethodName := ⟨RX8, "load", "(I)I"⟩
abbrev cX8_put : ByteArray := prog_1_method_17_code
def yX8_put : MethodName := ⟨RX8, "put", "(III)I"⟩
abbrev cX8_out : ByteArray := prog_1_method_18_code
def yX8_out : MethodName := ⟨RX8, "out", "(II)I"⟩
abbrev cX8_pause : ByteArray := prog_1_method_19_code
def yX8_pause : MethodName := ⟨RX8, "pause", "(III)I"⟩
abbrev cX8_start : ByteArray := prog_1_method_20_code
def yX8_start : MethodName := ⟨RX8, "start", "(II)I"⟩
abbrev cX8_in : ByteArray := prog_1_method_21_code
def yX8_in : MethodName := ⟨RX8, "in", "(II)I"⟩
abbrev cX8_where : ByteArray := prog_1_method_22_code
def yX8_where : MethodName := ⟨RX8, "where", "(IIII)I"⟩
abbrev cX8_near : ByteArray := prog_1_method_23_code
def yX8_near : MethodName := ⟨RX8, "near", "(III)J"⟩
abbrev cX8_between : ByteArray := prog_1_method_24_code
def yX8_between : MethodName := ⟨RX8, "between", "(III)I"⟩
abbrev cX8_order : ByteArray := prog_1_method_25_code
def yX8_order : MethodName := ⟨RX8, "order", "(I)I"⟩
abbrev cX8_spot : ByteArray := prog_1_method_26_code
def yX8_spot : MethodName := ⟨RX8, "spot", "(II)I"⟩
abbrev cX8_why : ByteArray := prog_1_method_27_code
def yX8_why : MethodName := ⟨RX8, "why", "(II)I"⟩
abbrev cX8_leave : ByteArray := prog_1_method_28_code
def yX8_leave : MethodName := ⟨RX8, "leave", "(II)I"⟩
abbrev cX8_many : ByteArray := prog_1_method_29_code
def yX8_many : MethodName := ⟨RX8, "many", "(I)I"⟩
abbrev cX8_within : ByteArray := prog_1_method_30_code
def yX8_within : MethodName := ⟨RX8, "within", "(III)Z"⟩
abbrev cX8_isWind : ByteArray := prog_1_method_31_code
def yX8_isWind : MethodName := ⟨RX8, "isWind", "(I)Z"⟩
abbrev cX8_isPause : ByteArray := prog_1_method_32_code
def yX8_isPause : MethodName := ⟨RX8, "isPause", "(I)Z"⟩
abbrev cX8_sheetAt : ByteArray := prog_1_method_33_code
def yX8_sheetAt : MethodName := ⟨RX8, "sheetAt", "(I)LJumpDesk$Sheet;"⟩
abbrev cX8_jumperAt : ByteArray := prog_1_method_34_code
def yX8_jumperAt : MethodName := ⟨RX8, "jumperAt", "(I)LJumpDesk$Jumper;"⟩
abbrev cX8_planeAt : ByteArray := prog_1_method_35_code
def yX8_planeAt : MethodName := ⟨RX8, "planeAt", "(I)LJumpDesk$Plane;"⟩
abbrev cX8_groupAt : ByteArray := prog_1_method_36_code
def yX8_groupAt : MethodName := ⟨RX8, "groupAt", "(I)LJumpDesk$Group;"⟩
abbrev cX8_loadAt : ByteArray := prog_1_method_37_code
def yX8_loadAt : MethodName := ⟨RX8, "loadAt", "(I)LJumpDesk$Load;"⟩
abbrev cX8_tellsWinds : ByteArray := prog_1_method_38_code
def yX8_tellsWinds : MethodName := ⟨RX8, "tellsWinds", "(LJumpDesk$Sheet;)Z"⟩
abbrev cX8_isInSomeLoad : ByteArray := prog_1_method_39_code
def yX8_isInSomeLoad : MethodName := ⟨RX8, "isInSomeLoad", "(LJumpDesk$Group;Z)Z"⟩
abbrev cX8_leftCount : ByteArray := prog_1_method_40_code
def yX8_leftCount : MethodName := ⟨RX8, "leftCount", "()I"⟩
abbrev cX8_upCount : ByteArray := prog_1_method_41_code
def yX8_upCount : MethodName := ⟨RX8, "upCount", "()I"⟩
abbrev cX8_whyByFall : ByteArray := prog_1_method_42_code
def yX8_whyByFall : MethodName := ⟨RX8, "whyByFall", "(LJumpDesk$Load;)I"⟩
abbrev cX8_isTooWindy : ByteArray := prog_1_method_43_code
def yX8_isTooWindy : MethodName := ⟨RX8, "isTooWindy", "(LJumpDesk$Load;)Z"⟩
abbrev cX8_mayLeaveAhead : ByteArray := prog_1_method_44_code
def yX8_mayLeaveAhead : MethodName := ⟨RX8, "mayLeaveAhead", "(LJumpDesk$Group;LJumpDesk$Group;)Z"⟩
abbrev cX8_ranksAllow : ByteArray := prog_1_method_45_code
def yX8_ranksAllow : MethodName := ⟨RX8, "ranksAllow", "(LJumpDesk$Load;)Z"⟩
abbrev cX8_followAll : ByteArray := prog_1_method_46_code
def yX8_followAll : MethodName := ⟨RX8, "followAll", "(LJumpDesk$Load;)V"⟩
abbrev cX8_areFree : ByteArray := prog_1_method_47_code
def yX8_areFree : MethodName := ⟨RX8, "areFree", "(LJumpDesk$Fall;LJumpDesk$Fall;II)Z"⟩
abbrev cX8_allFree : ByteArray := prog_1_method_48_code
def yX8_allFree : MethodName := ⟨RX8, "allFree", "(LJumpDesk$Load;)Z"⟩
abbrev cX8_leastPause : ByteArray := prog_1_method_49_code
def yX8_leastPause : MethodName := ⟨RX8, "leastPause", "(LJumpDesk$Fall;LJumpDesk$Fall;I)I"⟩
abbrev cX8_measurePauses : ByteArray := prog_1_method_50_code
def yX8_measurePauses : MethodName := ⟨RX8, "measurePauses", "(LJumpDesk$Load;)V"⟩
abbrev cX8_reachSquare : ByteArray := prog_1_method_51_code
def yX8_reachSquare : MethodName := ⟨RX8, "reachSquare", "(LJumpDesk$Group;LJumpDesk$Fall;)J"⟩
abbrev cX8_allHome : ByteArray := prog_1_method_52_code
def yX8_allHome : MethodName := ⟨RX8, "allHome", "(LJumpDesk$Load;)Z"⟩
abbrev cX8_roomAlongX : ByteArray := prog_1_method_53_code
def yX8_roomAlongX : MethodName := ⟨RX8, "roomAlongX", "(LJumpDesk$Group;LJumpDesk$Fall;)I"⟩
abbrev cX8_wholeRoot : ByteArray := prog_1_method_54_code
def yX8_wholeRoot : MethodName := ⟨RX8, "wholeRoot", "(J)I"⟩
def RX9 : String := "JumpDeskModel"
def TX9 : u_T := fun k => match k with
  | 0 => ("JumpDeskModel", "sheetSize", "[I", true)
  | 1 => ("JumpDeskModel", "sheet", "[F", true)
  | 2 => ("JumpDeskModel", "isGap", "[Z", true)
  | 3 => ("JumpDeskModel", "windX", "[I", true)
  | 4 => ("JumpDeskModel", "windY", "[I", true)
  | 5 => ("JumpDeskModel", "sortOf", "[I", true)
  | 6 => ("JumpDeskModel", "weightOf", "[I", true)
  | 7 => ("JumpDeskModel", "dayOf", "[I", true)
  | 8 => ("JumpDeskModel", "groups", "I", false)
  | 9 => ("JumpDeskModel", "kindOf", "[I", true)
  | 10 => ("JumpDeskModel", "opensOf", "[I", true)
  | 11 => ("JumpDeskModel", "forwardOf", "[I", true)
  | 12 => ("JumpDeskModel", "directionOf", "[I", true)
  | 13 => ("JumpDeskModel", "sizeOf", "[I", true)
  | 14 => ("JumpDeskModel", "jumperOf", "[I", true)
  | 15 => ("JumpDeskModel", "seats", "[I", true)
  | 16 => ("JumpDeskModel", "bears", "[I", true)
  | 17 => ("JumpDeskModel", "speeds", "[I", true)
  | 18 => ("JumpDeskModel", "heights", "[I", true)
  | 19 => ("JumpDeskModel", "rules", "[I", true)
  | 20 => ("JumpDeskModel", "loads", "I", false)
  | 21 => ("JumpDeskModel", "planeOf", "[I", true)
  | 22 => ("JumpDeskModel", "manyOf", "[I", true)
  | 23 => ("JumpDeskModel", "groupAt", "[I", true)
  | 24 => ("JumpDeskModel", "pauseAt", "[I", true)
  | 25 => ("JumpDeskModel", "startOf", "[I", true)
  | 26 => ("JumpDeskModel", "hasLeft", "[Z", true)
  | 27 => ("JumpDeskModel", "leftWindX", "[I", true)
  | 28 => ("JumpDeskModel", "leftWindY", "[I", true)
  | 29 => ("JumpDeskModel", "leftSpeed", "[I", true)
  | 30 => ("JumpDeskModel", "leftHeight", "[I", true)
  | 31 => ("JumpDeskModel", "went", "I", false)
  | 32 => ("JumpDeskModel", "byX", "[I", true)
  | 33 => ("JumpDeskModel", "byY", "[I", true)
  | 34 => ("JumpDeskModel", "bySpeed", "I", false)
  | 35 => ("JumpDeskModel", "byHeight", "I", false)
  | 36 => ("JumpDeskModel", "wayX", "[I", true)
  | 37 => ("JumpDeskModel", "wayY", "[I", true)
  | 38 => ("JumpDeskModel", "wayHeight", "[I", true)
  | 39 => ("JumpDeskModel", "wayState", "[I", true)
  | 40 => ("JumpDeskModel", "downAt", "[I", true)
  | 41 => ("JumpDeskModel", "openFor", "[I", true)
  | 42 => ("JumpDeskModel", "sorted", "[I", true)
  | 43 => ("JumpDeskModel", "pauses", "[I", true)
  | 44 => ("JumpDeskModel", "tried", "[I", true)
  | 45 => ("JumpDeskModel", "best", "[I", true)
  | 46 => ("JumpDeskModel", "lowest", "J", false)
  | _ => ("JumpDeskModel", "highest", "J", false)
def tyX9 : Nat → FieldType := fun k => match k with
  | 0 => .array .int
  | 1 => .array .float
  | 2 => .array .boolean
  | 3 => .array .int
  | 4 => .array .int
  | 5 => .array .int
  | 6 => .array .int
  | 7 => .array .int
  | 8 => .int
  | 9 => .array .int
  | 10 => .array .int
  | 11 => .array .int
  | 12 => .array .int
  | 13 => .array .int
  | 14 => .array .int
  | 15 => .array .int
  | 16 => .array .int
  | 17 => .array .int
  | 18 => .array .int
  | 19 => .array .int
  | 20 => .int
  | 21 => .array .int
  | 22 => .array .int
  | 23 => .array .int
  | 24 => .array .int
  | 25 => .array .int
  | 26 => .array .boolean
  | 27 => .array .int
  | 28 => .array .int
  | 29 => .array .int
  | 30 => .array .int
  | 31 => .int
  | 32 => .array .int
  | 33 => .array .int
  | 34 => .int
  | 35 => .int
  | 36 => .array .int
  | 37 => .array .int
  | 38 => .array .int
  | 39 => .array .int
  | 40 => .array .int
  | 41 => .array .int
  | 42 => .array .int
  | 43 => .array .int
  | 44 => .array .int
  | 45 => .array .int
  | 46 => .long
  | _ => .long
abbrev wsX90 : List Cond := u_ws RX9 TX9 48
theorem nmX9 : ∀ a, a < 48 → ∀ b, b < 48 → a ≠ b → (TX9 a).2.1 ≠ (TX9 b).2.1 := by decide +kernel
theorem tyX9_ok : ∀ k, k < 48 → parseFieldDescriptor (TX9 k).2.2.1 = some (tyX9 k) := by decide +kernel
abbrev cX9_init : ByteArray := prog_11_method_1_code
def yX9_init : MethodName := ⟨RX9, "<init>", "()V"⟩
abbrev cX9_in : ByteArray := prog_11_method_2_code
def yX9_in : MethodName := ⟨RX9, "in", "(JJJ)Z"⟩
abbrev cX9_isSheet : ByteArray := prog_11_method_3_code
def yX9_isSheet : MethodName := ⟨RX9, "isSheet", "(I)Z"⟩
abbrev cX9_isGroup : ByteArray := prog_11_method_4_code
def yX9_isGroup : MethodName := ⟨RX9, "isGroup", "(I)Z"⟩
abbrev cX9_isLoad : ByteArray := prog_11_method_5_code
def yX9_isLoad : MethodName := ⟨RX9, "isLoad", "(I)Z"⟩
abbrev cX9_isIn : ByteArray := prog_11_method_6_code
def yX9_isIn : MethodName := ⟨RX9, "isIn", "(II)Z"⟩
abbrev cX9_sheet : ByteArray := prog_11_method_7_code
def yX9_sheet : MethodName := ⟨RX9, "sheet", "(II)I"⟩
abbrev cX9_cell : ByteArray := prog_11_method_8_code
def yX9_cell : MethodName := ⟨RX9, "cell", "(IIII)I"⟩
abbrev cX9_gap : ByteArray := prog_11_method_9_code
def yX9_gap : MethodName := ⟨RX9, "gap", "(II)I"⟩
abbrev cX9_lose : ByteArray := prog_11_method_10_code
def yX9_lose : MethodName := ⟨RX9, "lose", "(I)I"⟩
abbrev cX9_nearest : ByteArray := prog_11_method_11_code
def yX9_nearest : MethodName := ⟨RX9, "nearest", "(III)I"⟩
abbrev cX9_filled : ByteArray := prog_11_method_12_code
def yX9_filled : MethodName := ⟨RX9, "filled", "(II)F"⟩
abbrev cX9_told : ByteArray := prog_11_method_13_code
def yX9_told : MethodName := ⟨RX9, "told", "(II)I"⟩
abbrev cX9_tenTimes : ByteArray := prog_11_method_14_code
def yX9_tenTimes : MethodName := ⟨RX9, "tenTimes", "(II)I"⟩
abbrev cX9_winds : ByteArray := prog_11_method_15_code
def yX9_winds : MethodName := ⟨RX9, "winds", "(II)I"⟩
abbrev cX9_wind : ByteArray := prog_11_method_16_code
def yX9_wind : MethodName := ⟨RX9, "wind", "(III)I"⟩
abbrev cX9_blows : ByteArray := prog_11_method_17_code
def yX9_blows : MethodName := ⟨RX9, "blows", "(II)I"⟩
abbrev cX9_jumper : ByteArray := prog_11_method_18_code
def yX9_jumper : MethodName := ⟨RX9, "jumper", "(IIII)I"⟩
abbrev cX9_group : ByteArray := prog_11_method_19_code
def yX9_group : MethodName := ⟨RX9, "group", "(IIII)I"⟩
abbrev cX9_isInSome : ByteArray := prog_11_method_20_code
def yX9_isInSome : MethodName := ⟨RX9, "isInSome", "(IZ)Z"⟩
abbrev cX9_hasJumper : ByteArray := prog_11_method_21_code
def yX9_hasJumper : MethodName := ⟨RX9, "hasJumper", "(II)Z"⟩
abbrev cX9_join : ByteArray := prog_11_method_22_code
def yX9_join : MethodName := ⟨RX9, "join", "(II)I"⟩
abbrev cX9_weightIn : ByteArray := prog_11_method_23_code
def yX9_weightIn : MethodName := ⟨RX9, "weightIn", "(I)I"⟩
abbrev cX9_of : ByteArray := prog_11_method_24_code
def yX9_of : MethodName := ⟨RX9, "of", "(II)I"⟩
abbrev cX9_plane : ByteArray := prog_11_method_25_code
def yX9_plane : MethodName := ⟨RX9, "plane", "(IIIII)I"⟩
abbrev cX9_rule : ByteArray := prog_11_method_26_code
def yX9_rule : MethodName := ⟨RX9, "rule", "(II)I"⟩
abbrev cX9_load : ByteArray := prog_11_method_27_code
def yX9_load : MethodName := ⟨RX9, "load", "(I)I"⟩
abbrev cX9_put : ByteArray := prog_11_method_28_code
def yX9_put : MethodName := ⟨RX9, "put", "(III)I"⟩
abbrev cX9_out : ByteArray := prog_11_method_29_code
def yX9_out : MethodName := ⟨RX9, "out", "(II)I"⟩
abbrev cX9_pause : ByteArray := prog_11_method_30_code
def yX9_pause : MethodName := ⟨RX9, "pause", "(III)I"⟩
abbrev cX9_start : ByteArray := prog_11_method_31_code
def yX9_start : MethodName := ⟨RX9, "start", "(II)I"⟩
abbrev cX9_leavesAt : ByteArray := prog_11_method_32_code
def yX9_leavesAt : MethodName := ⟨RX9, "leavesAt", "(II)I"⟩
abbrev cX9_in_ : ByteArray := prog_11_method_33_code
def yX9_in_ : MethodName := ⟨RX9, "in", "(II)I"⟩
abbrev cX9_takePlane : ByteArray := prog_11_method_34_code
def yX9_takePlane : MethodName := ⟨RX9, "takePlane", "(I)V"⟩
abbrev cX9_takeLoad : ByteArray := prog_11_method_35_code
def yX9_takeLoad : MethodName := ⟨RX9, "takeLoad", "(I)V"⟩
abbrev cX9_least : ByteArray := prog_11_method_36_code
def yX9_least : MethodName := ⟨RX9, "least", "(II)I"⟩
abbrev cX9_layOut : ByteArray := prog_11_method_37_code
def yX9_layOut : MethodName := ⟨RX9, "layOut", "(II)V"⟩
abbrev cX9_fall : ByteArray := prog_11_method_38_code
def yX9_fall : MethodName := ⟨RX9, "fall", "(III)V"⟩
abbrev cX9_where : ByteArray := prog_11_method_39_code
def yX9_where : MethodName := ⟨RX9, "where", "(IIII)I"⟩
abbrev cX9_nearBy : ByteArray := prog_11_method_40_code
def yX9_nearBy : MethodName := ⟨RX9, "nearBy", "(I)J"⟩
abbrev cX9_nearOf : ByteArray := prog_11_method_41_code
def yX9_nearOf : MethodName := ⟨RX9, "nearOf", "(III)J"⟩
abbrev cX9_near : ByteArray := prog_11_method_42_code
def yX9_near : MethodName := ⟨RX9, "near", "(III)J"⟩
abbrev cX9_isFree : ByteArray := prog_11_method_43_code
def yX9_isFree : MethodName := ⟨RX9, "isFree", "(J)Z"⟩
abbrev cX9_betweenOf : ByteArray := prog_11_method_44_code
def yX9_betweenOf : MethodName := ⟨RX9, "betweenOf", "(II)I"⟩
abbrev cX9_between : ByteArray := prog_11_method_45_code
def yX9_between : MethodName := ⟨RX9, "between", "(III)I"⟩
abbrev cX9_nextOrder : ByteArray := prog_11_method_46_code
def yX9_nextOrder : MethodName := ⟨RX9, "nextOrder", "(I)Z"⟩
abbrev cX9_rankOf : ByteArray := prog_11_method_47_code
def yX9_rankOf : MethodName := ⟨RX9, "rankOf", "(I)I"⟩
abbrev cX9_sumOf : ByteArray := prog_11_method_48_code
def yX9_sumOf : MethodName := ⟨RX9, "sumOf", "(I)I"⟩
abbrev cX9_sortGroups : ByteArray := prog_11_method_49_code
def yX9_sortGroups : MethodName := ⟨RX9, "sortGroups", "(I)V"⟩
abbrev cX9_order : ByteArray := prog_11_method_50_code
def yX9_order : MethodName := ⟨RX9, "order", "(I)I"⟩
abbrev cX9_root : ByteArray := prog_11_method_51_code
def yX9_root : MethodName := ⟨RX9, "root", "(J)J"⟩
abbrev cX9_findStarts : ByteArray := prog_11_method_52_code
def yX9_findStarts : MethodName := ⟨RX9, "findStarts", "(I)V"⟩
abbrev cX9_spot : ByteArray := prog_11_method_53_code
def yX9_spot : MethodName := ⟨RX9, "spot", "(II)I"⟩
abbrev cX9_jumpersIn : ByteArray := prog_11_method_54_code
def yX9_jumpersIn : MethodName := ⟨RX9, "jumpersIn", "(I)I"⟩
abbrev cX9_hasEmpty : ByteArray := prog_11_method_55_code
def yX9_hasEmpty : MethodName := ⟨RX9, "hasEmpty", "(I)Z"⟩
abbrev cX9_weightOn : ByteArray := prog_11_method_56_code
def yX9_weightOn : MethodName := ⟨RX9, "weightOn", "(I)I"⟩
abbrev cX9_hasOldGear : ByteArray := prog_11_method_57_code
def yX9_hasOldGear : MethodName := ⟨RX9, "hasOldGear", "(II)Z"⟩
abbrev cX9_hasTwice : ByteArray := prog_11_method_58_code
def yX9_hasTwice : MethodName := ⟨RX9, "hasTwice", "(I)Z"⟩
abbrev cX9_sortsIn : ByteArray := prog_11_method_59_code
def yX9_sortsIn : MethodName := ⟨RX9, "sortsIn", "(II)I"⟩
abbrev cX9_hasAlone : ByteArray := prog_11_method_60_code
def yX9_hasAlone : MethodName := ⟨RX9, "hasAlone", "(I)Z"⟩
abbrev cX9_blowsTooMuch : ByteArray := prog_11_method_61_code
def yX9_blowsTooMuch : MethodName := ⟨RX9, "blowsTooMuch", "(I)Z"⟩
abbrev cX9_areRanksWrong : ByteArray := prog_11_method_62_code
def yX9_areRanksWrong : MethodName := ⟨RX9, "areRanksWrong", "(I)Z"⟩
abbrev cX9_areSomeNear : ByteArray := prog_11_method_63_code
def yX9_areSomeNear : MethodName := ⟨RX9, "areSomeNear", "(I)Z"⟩
abbrev cX9_isSomeOut : ByteArray := prog_11_method_64_code
def yX9_isSomeOut : MethodName := ⟨RX9, "isSomeOut", "(I)Z"⟩
abbrev cX9_barOf : ByteArray := prog_11_method_65_code
def yX9_barOf : MethodName := ⟨RX9, "barOf", "(II)I"⟩
abbrev cX9_why : ByteArray := prog_11_method_66_code
def yX9_why : MethodName := ⟨RX9, "why", "(II)I"⟩
abbrev cX9_leave : ByteArray := prog_11_method_67_code
def yX9_leave : MethodName := ⟨RX9, "leave", "(II)I"⟩
abbrev cX9_many : ByteArray := prog_11_method_68_code
def yX9_many : MethodName := ⟨RX9, "many", "(I)I"⟩
def RJx8e188 : String := "java/lang/Cloneable"
def TJx8e188 : u_T := fun k => match k with
  | _ => ("", "", "", false)
def tyJx8e188 : Nat → FieldType := fun k => match k with
  | _ => .int
abbrev wsJx8e1880 : List Cond := u_ws RJx8e188 TJx8e188 0
theorem nmJx8e188 : ∀ a, a < 0 → ∀ b, b < 0 → a ≠ b → (TJx8e188 a).2.1 ≠ (TJx8e188 b).2.1 := by decide +kernel
theorem tyJx8e188_ok : ∀ k, k < 0 → parseFieldDescriptor (TJx8e188 k).2.2.1 = some (tyJx8e188 k) := by decide +kernel
def RJ9 : String := "java/lang/Math"
def TJ9 : u_T := fun k => match k with
  | _ => ("", "", "", false)
def tyJ9 : Nat → FieldType := fun k => match k with
  | _ => .int
abbrev wsJ90 : List Cond := u_ws RJ9 TJ9 0
theorem nmJ9 : ∀ a, a < 0 → ∀ b, b < 0 → a ≠ b → (TJ9 a).2.1 ≠ (TJ9 b).2.1 := by decide +kernel
theorem tyJ9_ok : ∀ k, k < 0 → parseFieldDescriptor (TJ9 k).2.2.1 = some (tyJ9 k) := by decide +kernel
abbrev cJ9_max_7cf53 : ByteArray := prog_13_method_65_code
def yJ9_max_7cf53 : MethodName := ⟨RJ9, "max", "(II)I"⟩
abbrev cJ9_min_7cf53 : ByteArray := prog_13_method_69_code
def yJ9_min_7cf53 : MethodName := ⟨RJ9, "min", "(II)I"⟩
abbrev cJ9_min_f86c9 : ByteArray := prog_13_method_70_code
def yJ9_min_f86c9 : MethodName := ⟨RJ9, "min", "(JJ)J"⟩
def RJ10 : String := "java/lang/System"
def TJ10 : u_T := fun k => match k with
  | _ => ("", "", "", false)
def tyJ10 : Nat → FieldType := fun k => match k with
  | _ => .int
abbrev wsJ100 : List Cond := u_ws RJ10 TJ10 0
theorem nmJ10 : ∀ a, a < 0 → ∀ b, b < 0 → a ≠ b → (TJ10 a).2.1 ≠ (TJ10 b).2.1 := by decide +kernel
theorem tyJ10_ok : ∀ k, k < 0 → parseFieldDescriptor (TJ10 k).2.2.1 = some (tyJ10 k) := by decide +kernel
def RL : String := "JumpDeskLaw"
abbrev cL_law : ByteArray := code
def yL_law : MethodName := ⟨RL, "law", "([I)Z"⟩
def wsL_law_r1 : List Cond := [Cond.classLink RL 7 RX8, Cond.instantiable RX8 11, Cond.initialized RX8, Cond.classLink RL 10 RX9, Cond.instantiable RX9 48, Cond.initialized RX9, Cond.methodLink RL 9 yX8_init, Cond.instanceMethod yX8_init, Cond.code yX8_init cX8_init 2 none, Cond.methodLink RX8 1 objectInit, Cond.instanceMethod objectInit, Cond.code objectInit ⟨#[0xb1]⟩ 1 none, Cond.classLink RX8 9 RX7, Cond.fieldLink RX8 11 "JumpDesk" "sheets" "[LJumpDesk$Sheet;", Cond.classLink RX8 15 RX0, Cond.instantiable RX0 2, Cond.initialized RX0, Cond.fieldLink RX8 18 "JumpDesk" "air" "LJumpDesk$Air;", Cond.classLink RX8 22 RX3, Cond.fieldLink RX8 24 "JumpDesk" "jumpers" "[LJumpDesk$Jumper;", Cond.classLink RX8 28 RX2, Cond.fieldLink RX8 30 "JumpDesk" "groups" "[LJumpDesk$Group;", Cond.classLink RX8 34 RX6, Cond.fieldLink RX8 36 "JumpDesk" "planes" "[LJumpDesk$Plane;"]
def wsL_law_r2 : List Cond := [Cond.classLink RX8 40 RX5, Cond.fieldLink RX8 42 "JumpDesk" "loads" "[LJumpDesk$Load;", Cond.fieldLink RX8 46 "JumpDesk" "FIRST_RULES" "[I", Cond.methodLink RX8 50 ⟨"[I", "clone", "()Ljava/lang/Object;"⟩, Cond.sameMethod "[I" "java/lang/Object" "clone" "()Ljava/lang/Object;", Cond.native ⟨"java/lang/Object", "clone", "()Ljava/lang/Object;"⟩, Cond.instanceMethod ⟨"java/lang/Object", "clone", "()Ljava/lang/Object;"⟩, Cond.selects "[I" ⟨"[I", "clone", "()Ljava/lang/Object;"⟩ ⟨"java/lang/Object", "clone", "()Ljava/lang/Object;"⟩, Cond.classLink RX8 51 "[I", Cond.fieldLink RX8 55 "JumpDesk" "rules" "[I", Cond.classLink RX8 58 RX1, Cond.fieldLink RX8 60 "JumpDesk" "falls" "[LJumpDesk$Fall;", Cond.classLink RX8 64 RX4, Cond.instantiable RX4 5, Cond.initialized RX4, Cond.fieldLink RX8 67 "JumpDesk" "line" "LJumpDesk$Line;", Cond.fieldLink RX8 71 "JumpDesk" "groupCount" "I", Cond.fieldLink RX8 75 "JumpDesk" "loadCount" "I", Cond.instantiable RX7 4, Cond.initialized RX7, Cond.instantiable RX3 4, Cond.initialized RX3, Cond.instantiable RX2 7, Cond.initialized RX2]
def wsL_law_r3 : List Cond := [Cond.instantiable RX6 5, Cond.initialized RX6, Cond.instantiable RX5 9, Cond.initialized RX5, Cond.instantiable RX1 5, Cond.initialized RX1, Cond.instanceMethod yX0_init, Cond.code yX0_init cX0_init 1 none, Cond.methodLink RX0 3 objectInit, Cond.arrayClass .int, Cond.fieldLink RX0 9 "JumpDesk$Air" "x" "[I", Cond.fieldLink RX0 15 "JumpDesk$Air" "y" "[I", Cond.instanceMethod yX4_init, Cond.code yX4_init cX4_init 1 none, Cond.methodLink RX4 3 objectInit, Cond.fieldLink RX4 9 "JumpDesk$Line" "pauses" "[I", Cond.fieldLink RX4 15 "JumpDesk$Line" "row" "[I", Cond.fieldLink RX4 18 "JumpDesk$Line" "best" "[I", Cond.fieldLink RX4 21 "JumpDesk$Line" "count" "I", Cond.fieldLink RX4 25 "JumpDesk$Line" "shortest" "I", Cond.instanceMethod yX7_init, Cond.code yX7_init cX7_init 1 none, Cond.methodLink RX7 3 objectInit, Cond.arrayClass .float]
def wsL_law_r4 : List Cond := [Cond.fieldLink RX7 9 "JumpDesk$Sheet" "numbers" "[F", Cond.arrayClass .boolean, Cond.fieldLink RX7 15 "JumpDesk$Sheet" "gaps" "[Z", Cond.fieldLink RX7 19 "JumpDesk$Sheet" "length" "I", Cond.fieldLink RX7 23 "JumpDesk$Sheet" "there" "Z", Cond.instanceMethod yX3_init, Cond.code yX3_init cX3_init 2 none, Cond.methodLink RX3 3 objectInit, Cond.fieldLink RX3 9 "JumpDesk$Jumper" "sort" "I", Cond.fieldLink RX3 15 "JumpDesk$Jumper" "weight" "I", Cond.fieldLink RX3 18 "JumpDesk$Jumper" "day" "I", Cond.fieldLink RX3 21 "JumpDesk$Jumper" "number" "I", Cond.instanceMethod yX2_init, Cond.code yX2_init cX2_init 2 none, Cond.methodLink RX2 3 objectInit, Cond.classLink RX2 9 RX3, Cond.fieldLink RX2 11 "JumpDesk$Group" "members" "[LJumpDesk$Jumper;", Cond.fieldLink RX2 17 "JumpDesk$Group" "count" "I", Cond.fieldLink RX2 21 "JumpDesk$Group" "kind" "I", Cond.fieldLink RX2 24 "JumpDesk$Group" "opens" "I", Cond.fieldLink RX2 27 "JumpDesk$Group" "forward" "I", Cond.fieldLink RX2 30 "JumpDesk$Group" "direction" "I", Cond.fieldLink RX2 33 "JumpDesk$Group" "number" "I", Cond.instanceMethod yX6_init]
def wsL_law_r5 : List Cond := [Cond.code yX6_init cX6_init 2 none, Cond.methodLink RX6 1 objectInit, Cond.fieldLink RX6 7 "JumpDesk$Plane" "seats" "I", Cond.fieldLink RX6 13 "JumpDesk$Plane" "bears" "I", Cond.fieldLink RX6 16 "JumpDesk$Plane" "speed" "I", Cond.constant RX6 19 (40000), Cond.fieldLink RX6 20 "JumpDesk$Plane" "height" "I", Cond.fieldLink RX6 23 "JumpDesk$Plane" "number" "I", Cond.instanceMethod yX5_init, Cond.code yX5_init cX5_init 1 none, Cond.methodLink RX5 3 objectInit, Cond.classLink RX5 9 RX2, Cond.fieldLink RX5 11 "JumpDesk$Load" "groups" "[LJumpDesk$Group;", Cond.fieldLink RX5 17 "JumpDesk$Load" "pauses" "[I", Cond.classLink RX5 21 RX6, Cond.fieldLink RX5 26 "JumpDesk$Load" "ownPlane" "LJumpDesk$Plane;", Cond.classLink RX5 30 RX0, Cond.fieldLink RX5 33 "JumpDesk$Load" "ownAir" "LJumpDesk$Air;", Cond.fieldLink RX5 37 "JumpDesk$Load" "plane" "LJumpDesk$Plane;", Cond.fieldLink RX5 40 "JumpDesk$Load" "air" "LJumpDesk$Air;", Cond.fieldLink RX5 43 "JumpDesk$Load" "count" "I", Cond.fieldLink RX5 47 "JumpDesk$Load" "start" "I", Cond.fieldLink RX5 50 "JumpDesk$Load" "left" "Z", Cond.instanceMethod yX1_init]
def wsL_law_r6 : List Cond := [Cond.code yX1_init cX1_init 1 none, Cond.methodLink RX1 3 objectInit, Cond.fieldLink RX1 9 "JumpDesk$Fall" "x" "[I", Cond.fieldLink RX1 15 "JumpDesk$Fall" "y" "[I", Cond.fieldLink RX1 18 "JumpDesk$Fall" "height" "[I", Cond.fieldLink RX1 21 "JumpDesk$Fall" "opened" "I", Cond.fieldLink RX1 25 "JumpDesk$Fall" "down" "I", Cond.methodLink RL 12 yX9_init, Cond.instanceMethod yX9_init, Cond.code yX9_init cX9_init 2 none, Cond.methodLink RX9 1 objectInit, Cond.fieldLink RX9 7 "JumpDeskModel" "sheetSize" "[I", Cond.fieldLink RX9 13 "JumpDeskModel" "sheet" "[F", Cond.fieldLink RX9 17 "JumpDeskModel" "isGap" "[Z", Cond.fieldLink RX9 21 "JumpDeskModel" "windX" "[I", Cond.fieldLink RX9 24 "JumpDeskModel" "windY" "[I", Cond.fieldLink RX9 27 "JumpDeskModel" "sortOf" "[I", Cond.fieldLink RX9 30 "JumpDeskModel" "weightOf" "[I", Cond.fieldLink RX9 33 "JumpDeskModel" "dayOf" "[I", Cond.fieldLink RX9 36 "JumpDeskModel" "kindOf" "[I", Cond.fieldLink RX9 39 "JumpDeskModel" "opensOf" "[I", Cond.fieldLink RX9 42 "JumpDeskModel" "forwardOf" "[I", Cond.fieldLink RX9 45 "JumpDeskModel" "directionOf" "[I", Cond.fieldLink RX9 48 "JumpDeskModel" "sizeOf" "[I"]
def wsL_law_r7 : List Cond := [Cond.fieldLink RX9 51 "JumpDeskModel" "jumperOf" "[I", Cond.fieldLink RX9 54 "JumpDeskModel" "seats" "[I", Cond.fieldLink RX9 57 "JumpDeskModel" "bears" "[I", Cond.fieldLink RX9 60 "JumpDeskModel" "speeds" "[I", Cond.fieldLink RX9 63 "JumpDeskModel" "heights" "[I", Cond.fieldLink RX9 66 "JumpDeskModel" "rules" "[I", Cond.fieldLink RX9 69 "JumpDeskModel" "planeOf" "[I", Cond.fieldLink RX9 72 "JumpDeskModel" "manyOf" "[I", Cond.fieldLink RX9 75 "JumpDeskModel" "groupAt" "[I", Cond.fieldLink RX9 78 "JumpDeskModel" "pauseAt" "[I", Cond.fieldLink RX9 81 "JumpDeskModel" "startOf" "[I", Cond.fieldLink RX9 84 "JumpDeskModel" "hasLeft" "[Z", Cond.fieldLink RX9 87 "JumpDeskModel" "leftWindX" "[I", Cond.fieldLink RX9 90 "JumpDeskModel" "leftWindY" "[I", Cond.fieldLink RX9 93 "JumpDeskModel" "leftSpeed" "[I", Cond.fieldLink RX9 96 "JumpDeskModel" "leftHeight" "[I", Cond.fieldLink RX9 99 "JumpDeskModel" "byX" "[I", Cond.fieldLink RX9 102 "JumpDeskModel" "byY" "[I", Cond.fieldLink RX9 105 "JumpDeskModel" "wayX" "[I", Cond.fieldLink RX9 108 "JumpDeskModel" "wayY" "[I", Cond.fieldLink RX9 111 "JumpDeskModel" "wayHeight" "[I", Cond.fieldLink RX9 114 "JumpDeskModel" "wayState" "[I", Cond.fieldLink RX9 117 "JumpDeskModel" "downAt" "[I", Cond.fieldLink RX9 120 "JumpDeskModel" "openFor" "[I"]
def wsL_law_r8 : List Cond := [Cond.fieldLink RX9 123 "JumpDeskModel" "sorted" "[I", Cond.fieldLink RX9 126 "JumpDeskModel" "pauses" "[I", Cond.fieldLink RX9 129 "JumpDeskModel" "tried" "[I", Cond.fieldLink RX9 132 "JumpDeskModel" "best" "[I", Cond.constant RX9 135 (40000), Cond.methodLink RL 13 yX8_sheet, Cond.instanceMethod yX8_sheet, Cond.selects RX8 yX8_sheet yX8_sheet, Cond.code yX8_sheet cX8_sheet 4 (some .int), Cond.methodLink RX8 86 yX8_sheetAt, Cond.instanceMethod yX8_sheetAt, Cond.selects RX8 yX8_sheetAt yX8_sheetAt, Cond.code yX8_sheetAt cX8_sheetAt 2 (some (.object "JumpDesk$Sheet")), Cond.instanceMethod yX7_begin, Cond.selects RX7 yX7_begin yX7_begin, Cond.code yX7_begin cX7_begin 3 none, Cond.methodLink RL 17 yX9_sheet, Cond.instanceMethod yX9_sheet, Cond.selects RX9 yX9_sheet yX9_sheet, Cond.code yX9_sheet cX9_sheet 4 (some .int), Cond.methodLink RX9 153 yX9_isSheet, Cond.static yX9_isSheet, Cond.code yX9_isSheet cX9_isSheet 1 (some .boolean), Cond.constantLong RX9 136 (2)]
def wsL_law_r9 : List Cond := [Cond.methodLink RX9 138 yX9_in, Cond.static yX9_in, Cond.code yX9_in cX9_in 6 (some .boolean), Cond.methodLink RL 18 yX8_cell, Cond.instanceMethod yX8_cell, Cond.selects RX8 yX8_cell yX8_cell, Cond.code yX8_cell cX8_cell 6 (some .int), Cond.methodLink RX8 93 yX8_within, Cond.static yX8_within, Cond.code yX8_within cX8_within 3 (some .boolean), Cond.instanceMethod yX7_has, Cond.selects RX7 yX7_has yX7_has, Cond.code yX7_has cX7_has 2 (some .boolean), Cond.instanceMethod yX7_write, Cond.selects RX7 yX7_write yX7_write, Cond.code yX7_write cX7_write 3 none, Cond.methodLink RX7 27 yX7_has, Cond.methodLink RL 22 yX9_cell, Cond.instanceMethod yX9_cell, Cond.selects RX9 yX9_cell yX9_cell, Cond.code yX9_cell cX9_cell 5 (some .int), Cond.constantLong RX9 156 (20), Cond.methodLink RL 23 yX8_gap, Cond.instanceMethod yX8_gap]
def wsL_law_r10 : List Cond := [Cond.selects RX8 yX8_gap yX8_gap, Cond.code yX8_gap cX8_gap 4 (some .int), Cond.instanceMethod yX7_blank, Cond.selects RX7 yX7_blank yX7_blank, Cond.code yX7_blank cX7_blank 2 none, Cond.methodLink RL 26 yX9_gap, Cond.instanceMethod yX9_gap, Cond.selects RX9 yX9_gap yX9_gap, Cond.code yX9_gap cX9_gap 3 (some .int), Cond.methodLink RL 27 yX8_lose, Cond.instanceMethod yX8_lose, Cond.selects RX8 yX8_lose yX8_lose, Cond.code yX8_lose cX8_lose 3 (some .int), Cond.methodLink RL 31 yX9_lose, Cond.instanceMethod yX9_lose, Cond.selects RX9 yX9_lose yX9_lose, Cond.code yX9_lose cX9_lose 2 (some .int), Cond.methodLink RL 32 yX8_told, Cond.instanceMethod yX8_told, Cond.selects RX8 yX8_told yX8_told, Cond.code yX8_told cX8_told 4 (some .int), Cond.constant RX8 112 (-2147483648), Cond.constantFloat RX8 117 (1148846080), Cond.instanceMethod yX7_filled]
def wsL_law_r11 : List Cond := [Cond.selects RX7 yX7_filled yX7_filled, Cond.code yX7_filled cX7_filled 4 (some .float), Cond.methodLink RX7 31 yX7_knownBelow, Cond.instanceMethod yX7_knownBelow, Cond.selects RX7 yX7_knownBelow yX7_knownBelow, Cond.code yX7_knownBelow cX7_knownBelow 3 (some .int), Cond.methodLink RX7 35 yX7_knownAbove, Cond.instanceMethod yX7_knownAbove, Cond.selects RX7 yX7_knownAbove yX7_knownAbove, Cond.code yX7_knownAbove cX7_knownAbove 3 (some .int), Cond.methodLink RL 35 yX9_told, Cond.instanceMethod yX9_told, Cond.selects RX9 yX9_told yX9_told, Cond.code yX9_told cX9_told 3 (some .int), Cond.constant RX9 164 (-2147483648), Cond.constantFloat RX9 169 (1148846080), Cond.methodLink RX9 165 yX9_filled, Cond.instanceMethod yX9_filled, Cond.selects RX9 yX9_filled yX9_filled, Cond.code yX9_filled cX9_filled 5 (some .float), Cond.methodLink RX9 158 yX9_nearest, Cond.instanceMethod yX9_nearest, Cond.selects RX9 yX9_nearest yX9_nearest, Cond.code yX9_nearest cX9_nearest 5 (some .int)]
def wsL_law_r12 : List Cond := [Cond.methodLink RL 36 yX8_winds, Cond.instanceMethod yX8_winds, Cond.selects RX8 yX8_winds yX8_winds, Cond.code yX8_winds cX8_winds 6 (some .int), Cond.methodLink RX8 118 yX8_tellsWinds, Cond.static yX8_tellsWinds, Cond.code yX8_tellsWinds cX8_tellsWinds 2 (some .boolean), Cond.instanceMethod yX7_windOf, Cond.selects RX7 yX7_windOf yX7_windOf, Cond.code yX7_windOf cX7_windOf 2 (some .int), Cond.methodLink RX7 38 Lib.Math.min.name, Cond.static Lib.Math.min.name, Cond.initialized "java/lang/Math", Cond.code Lib.Math.min.name Lib.Math.min.code 2 (some .int), Cond.constantFloat RX7 48 (1092616192), Cond.methodLink RX7 44 yX7_filled, Cond.methodLink RX8 130 yX8_isWind, Cond.static yX8_isWind, Cond.code yX8_isWind cX8_isWind 1 (some .boolean), Cond.instanceMethod yX0_blowAt, Cond.selects RX0 yX0_blowAt yX0_blowAt, Cond.code yX0_blowAt cX0_blowAt 4 none, Cond.methodLink RL 39 yX9_winds, Cond.instanceMethod yX9_winds]
def wsL_law_r13 : List Cond := [Cond.selects RX9 yX9_winds yX9_winds, Cond.code yX9_winds cX9_winds 5 (some .int), Cond.constantLong RX9 175 (-300), Cond.constantLong RX9 177 (300), Cond.methodLink RX9 171 yX9_tenTimes, Cond.instanceMethod yX9_tenTimes, Cond.selects RX9 yX9_tenTimes yX9_tenTimes, Cond.code yX9_tenTimes cX9_tenTimes 4 (some .int), Cond.constantFloat RX9 170 (1092616192), Cond.methodLink RL 40 yX8_wind, Cond.instanceMethod yX8_wind, Cond.selects RX8 yX8_wind yX8_wind, Cond.code yX8_wind cX8_wind 4 (some .int), Cond.methodLink RL 44 yX9_wind, Cond.instanceMethod yX9_wind, Cond.selects RX9 yX9_wind yX9_wind, Cond.code yX9_wind cX9_wind 4 (some .int), Cond.constantLong RX9 179 (11), Cond.methodLink RL 45 yX8_blows, Cond.instanceMethod yX8_blows, Cond.selects RX8 yX8_blows yX8_blows, Cond.code yX8_blows cX8_blows 3 (some .int), Cond.instanceMethod yX0_alongX, Cond.selects RX0 yX0_alongX yX0_alongX]
def wsL_law_r14 : List Cond := [Cond.code yX0_alongX cX0_alongX 2 (some .int), Cond.instanceMethod yX0_alongY, Cond.selects RX0 yX0_alongY yX0_alongY, Cond.code yX0_alongY cX0_alongY 2 (some .int), Cond.methodLink RL 48 yX9_blows, Cond.instanceMethod yX9_blows, Cond.selects RX9 yX9_blows yX9_blows, Cond.code yX9_blows cX9_blows 3 (some .int), Cond.methodLink RL 49 yX8_jumper, Cond.instanceMethod yX8_jumper, Cond.selects RX8 yX8_jumper yX8_jumper, Cond.code yX8_jumper cX8_jumper 6 (some .int), Cond.methodLink RX8 139 yX8_jumperAt, Cond.instanceMethod yX8_jumperAt, Cond.selects RX8 yX8_jumperAt yX8_jumperAt, Cond.code yX8_jumperAt cX8_jumperAt 2 (some (.object "JumpDesk$Jumper")), Cond.instanceMethod yX3_become, Cond.selects RX3 yX3_become yX3_become, Cond.code yX3_become cX3_become 4 none, Cond.methodLink RL 52 yX9_jumper, Cond.instanceMethod yX9_jumper, Cond.selects RX9 yX9_jumper yX9_jumper, Cond.code yX9_jumper cX9_jumper 5 (some .int), Cond.constantLong RX9 181 (31)]
def wsL_law_r15 : List Cond := [Cond.constantLong RX9 183 (40), Cond.constantLong RX9 185 (200), Cond.constantLong RX9 187 (1000), Cond.methodLink RL 53 yX8_group, Cond.instanceMethod yX8_group, Cond.selects RX8 yX8_group yX8_group, Cond.code yX8_group cX8_group 5 (some .int), Cond.instanceMethod yX2_become, Cond.selects RX2 yX2_become yX2_become, Cond.code yX2_become cX2_become 5 none, Cond.methodLink RL 56 yX9_group, Cond.instanceMethod yX9_group, Cond.selects RX9 yX9_group yX9_group, Cond.code yX9_group cX9_group 5 (some .int), Cond.constantLong RX9 189 (3), Cond.constantLong RX9 191 (6000), Cond.constantLong RX9 193 (15000), Cond.constantLong RX9 195 (150), Cond.fieldLink RX9 142 "JumpDeskModel" "groups" "I", Cond.methodLink RL 57 yX8_join, Cond.instanceMethod yX8_join, Cond.selects RX8 yX8_join yX8_join, Cond.code yX8_join cX8_join 5 (some .int), Cond.methodLink RX8 149 yX8_groupAt]
def wsL_law_r16 : List Cond := [Cond.instanceMethod yX8_groupAt, Cond.selects RX8 yX8_groupAt yX8_groupAt, Cond.code yX8_groupAt cX8_groupAt 2 (some (.object "JumpDesk$Group")), Cond.methodLink RX8 153 yX8_isInSomeLoad, Cond.instanceMethod yX8_isInSomeLoad, Cond.selects RX8 yX8_isInSomeLoad yX8_isInSomeLoad, Cond.code yX8_isInSomeLoad cX8_isInSomeLoad 4 (some .boolean), Cond.instanceMethod yX5_holds, Cond.selects RX5 yX5_holds yX5_holds, Cond.code yX5_holds cX5_holds 3 (some .boolean), Cond.instanceMethod yX2_holds, Cond.selects RX2 yX2_holds yX2_holds, Cond.code yX2_holds cX2_holds 3 (some .boolean), Cond.instanceMethod yX2_add, Cond.selects RX2 yX2_add yX2_add, Cond.code yX2_add cX2_add 2 none, Cond.methodLink RL 60 yX9_join, Cond.instanceMethod yX9_join, Cond.selects RX9 yX9_join yX9_join, Cond.code yX9_join cX9_join 3 (some .int), Cond.methodLink RX9 197 yX9_isGroup, Cond.instanceMethod yX9_isGroup, Cond.selects RX9 yX9_isGroup yX9_isGroup, Cond.code yX9_isGroup cX9_isGroup 2 (some .boolean)]
def wsL_law_r17 : List Cond := [Cond.methodLink RX9 200 yX9_isInSome, Cond.instanceMethod yX9_isInSome, Cond.selects RX9 yX9_isInSome yX9_isInSome, Cond.code yX9_isInSome cX9_isInSome 6 (some .boolean), Cond.fieldLink RX9 146 "JumpDeskModel" "loads" "I", Cond.methodLink RX9 204 yX9_hasJumper, Cond.instanceMethod yX9_hasJumper, Cond.selects RX9 yX9_hasJumper yX9_hasJumper, Cond.code yX9_hasJumper cX9_hasJumper 5 (some .boolean), Cond.methodLink RL 61 yX8_of, Cond.instanceMethod yX8_of, Cond.selects RX8 yX8_of yX8_of, Cond.code yX8_of cX8_of 4 (some .int), Cond.instanceMethod yX2_tell, Cond.selects RX2 yX2_tell yX2_tell, Cond.code yX2_tell cX2_tell 2 (some .int), Cond.methodLink RX2 36 yX2_weight, Cond.instanceMethod yX2_weight, Cond.selects RX2 yX2_weight yX2_weight, Cond.code yX2_weight cX2_weight 3 (some .int), Cond.methodLink RL 64 yX9_of, Cond.instanceMethod yX9_of, Cond.selects RX9 yX9_of yX9_of, Cond.code yX9_of cX9_of 3 (some .int)]
def wsL_law_r18 : List Cond := [Cond.methodLink RX9 208 yX9_weightIn, Cond.instanceMethod yX9_weightIn, Cond.selects RX9 yX9_weightIn yX9_weightIn, Cond.code yX9_weightIn cX9_weightIn 4 (some .int), Cond.methodLink RL 65 yX8_plane, Cond.instanceMethod yX8_plane, Cond.selects RX8 yX8_plane yX8_plane, Cond.code yX8_plane cX8_plane 7 (some .int), Cond.constant RX8 175 (47000), Cond.methodLink RX8 171 yX8_planeAt, Cond.instanceMethod yX8_planeAt, Cond.selects RX8 yX8_planeAt yX8_planeAt, Cond.code yX8_planeAt cX8_planeAt 2 (some (.object "JumpDesk$Plane")), Cond.instanceMethod yX6_become, Cond.selects RX6 yX6_become yX6_become, Cond.code yX6_become cX6_become 5 none, Cond.methodLink RL 69 yX9_plane, Cond.instanceMethod yX9_plane, Cond.selects RX9 yX9_plane yX9_plane, Cond.code yX9_plane cX9_plane 6 (some .int), Cond.constantLong RX9 212 (100), Cond.constantLong RX9 214 (4000), Cond.constantLong RX9 216 (600), Cond.constantLong RX9 218 (47000)]
def wsL_law_r19 : List Cond := [Cond.methodLink RL 70 yX8_rule, Cond.instanceMethod yX8_rule, Cond.selects RX8 yX8_rule yX8_rule, Cond.code yX8_rule cX8_rule 4 (some .int), Cond.fieldLink RX8 177 "JumpDesk" "MOST_RULES" "[I", Cond.methodLink RL 73 yX9_rule, Cond.instanceMethod yX9_rule, Cond.selects RX9 yX9_rule yX9_rule, Cond.code yX9_rule cX9_rule 5 (some .int), Cond.constantLong RX9 220 (9), Cond.constant RX9 222 (180000), Cond.methodLink RL 74 yX8_load, Cond.instanceMethod yX8_load, Cond.selects RX8 yX8_load yX8_load, Cond.code yX8_load cX8_load 3 (some .int), Cond.instanceMethod yX5_begin, Cond.selects RX5 yX5_begin yX5_begin, Cond.code yX5_begin cX5_begin 3 none, Cond.methodLink RL 77 yX9_load, Cond.instanceMethod yX9_load, Cond.selects RX9 yX9_load yX9_load, Cond.code yX9_load cX9_load 2 (some .int), Cond.methodLink RL 78 yX8_put, Cond.instanceMethod yX8_put]
def wsL_law_r20 : List Cond := [Cond.selects RX8 yX8_put yX8_put, Cond.code yX8_put cX8_put 6 (some .int), Cond.methodLink RX8 183 yX8_loadAt, Cond.instanceMethod yX8_loadAt, Cond.selects RX8 yX8_loadAt yX8_loadAt, Cond.code yX8_loadAt cX8_loadAt 2 (some (.object "JumpDesk$Load")), Cond.methodLink RX8 187 yX8_isPause, Cond.static yX8_isPause, Cond.code yX8_isPause cX8_isPause 1 (some .boolean), Cond.instanceMethod yX5_add, Cond.selects RX5 yX5_add yX5_add, Cond.code yX5_add cX5_add 3 none, Cond.methodLink RL 81 yX9_put, Cond.instanceMethod yX9_put, Cond.selects RX9 yX9_put yX9_put, Cond.code yX9_put cX9_put 4 (some .int), Cond.constantLong RX9 223 (60), Cond.methodLink RX9 149 yX9_isLoad, Cond.instanceMethod yX9_isLoad, Cond.selects RX9 yX9_isLoad yX9_isLoad, Cond.code yX9_isLoad cX9_isLoad 2 (some .boolean), Cond.methodLink RL 82 yX8_out, Cond.instanceMethod yX8_out, Cond.selects RX8 yX8_out yX8_out]
def wsL_law_r21 : List Cond := [Cond.code yX8_out cX8_out 4 (some .int), Cond.instanceMethod yX5_has, Cond.selects RX5 yX5_has yX5_has, Cond.code yX5_has cX5_has 2 (some .boolean), Cond.instanceMethod yX5_remove, Cond.selects RX5 yX5_remove yX5_remove, Cond.code yX5_remove cX5_remove 3 none, Cond.methodLink RX5 62 yX5_has, Cond.methodLink RL 85 yX9_out, Cond.instanceMethod yX9_out, Cond.selects RX9 yX9_out yX9_out, Cond.code yX9_out cX9_out 4 (some .int), Cond.methodLink RX9 225 yX9_isIn, Cond.instanceMethod yX9_isIn, Cond.selects RX9 yX9_isIn yX9_isIn, Cond.code yX9_isIn cX9_isIn 3 (some .boolean), Cond.methodLink RL 86 yX8_pause, Cond.instanceMethod yX8_pause, Cond.selects RX8 yX8_pause yX8_pause, Cond.code yX8_pause cX8_pause 5 (some .int), Cond.methodLink RL 89 yX9_pause, Cond.instanceMethod yX9_pause, Cond.selects RX9 yX9_pause yX9_pause, Cond.code yX9_pause cX9_pause 4 (some .int)]
def wsL_law_r22 : List Cond := [Cond.methodLink RL 90 yX8_start, Cond.instanceMethod yX8_start, Cond.selects RX8 yX8_start yX8_start, Cond.code yX8_start cX8_start 4 (some .int), Cond.constant RX8 204 (-50000), Cond.constant RX8 205 (50000), Cond.methodLink RL 93 yX9_start, Cond.instanceMethod yX9_start, Cond.selects RX9 yX9_start yX9_start, Cond.code yX9_start cX9_start 3 (some .int), Cond.constantLong RX9 228 (-50000), Cond.constantLong RX9 230 (50000), Cond.methodLink RL 94 yX8_in, Cond.instanceMethod yX8_in, Cond.selects RX8 yX8_in yX8_in, Cond.code yX8_in cX8_in 4 (some .int), Cond.instanceMethod yX5_tell, Cond.selects RX5 yX5_tell yX5_tell, Cond.code yX5_tell cX5_tell 2 (some .int), Cond.methodLink RX5 69 yX5_tellOfPlace, Cond.instanceMethod yX5_tellOfPlace, Cond.selects RX5 yX5_tellOfPlace yX5_tellOfPlace, Cond.code yX5_tellOfPlace cX5_tellOfPlace 3 (some .int), Cond.methodLink RX5 74 yX5_secondOf]
def wsL_law_r23 : List Cond := [Cond.instanceMethod yX5_secondOf, Cond.selects RX5 yX5_secondOf yX5_secondOf, Cond.code yX5_secondOf cX5_secondOf 4 (some .int), Cond.methodLink RL 97 yX9_in_, Cond.instanceMethod yX9_in_, Cond.selects RX9 yX9_in_ yX9_in_, Cond.code yX9_in_ cX9_in_ 5 (some .int), Cond.methodLink RX9 232 yX9_leavesAt, Cond.instanceMethod yX9_leavesAt, Cond.selects RX9 yX9_leavesAt yX9_leavesAt, Cond.code yX9_leavesAt cX9_leavesAt 5 (some .int), Cond.methodLink RL 98 yX8_where, Cond.instanceMethod yX8_where, Cond.selects RX8 yX8_where yX8_where, Cond.code yX8_where cX8_where 8 (some .int), Cond.constant RX8 210 (-1000000), Cond.methodLink RX8 224 Lib.Math.min.name, Cond.instanceMethod yX1_follow, Cond.selects RX1 yX1_follow yX1_follow, Cond.code yX1_follow cX1_follow 5 none, Cond.methodLink RX1 36 Lib.Math.max.name, Cond.static Lib.Math.max.name, Cond.code Lib.Math.max.name Lib.Math.max.code 2 (some .int), Cond.methodLink RX1 32 yX1_drift]
def wsL_law_r24 : List Cond := [Cond.instanceMethod yX1_drift, Cond.selects RX1 yX1_drift yX1_drift, Cond.code yX1_drift cX1_drift 4 none, Cond.methodLink RX1 45 yX1_fall, Cond.instanceMethod yX1_fall, Cond.selects RX1 yX1_fall yX1_fall, Cond.code yX1_fall cX1_fall 4 none, Cond.methodLink RX1 66 yX1_track, Cond.instanceMethod yX1_track, Cond.selects RX1 yX1_track yX1_track, Cond.code yX1_track cX1_track 3 none, Cond.instanceMethod yX2_dropIn, Cond.selects RX2 yX2_dropIn yX2_dropIn, Cond.code yX2_dropIn cX2_dropIn 3 (some .int), Cond.instanceMethod yX2_opensBehind, Cond.selects RX2 yX2_opensBehind yX2_opensBehind, Cond.code yX2_opensBehind cX2_opensBehind 3 (some .boolean), Cond.instanceMethod yX5_leavesAtX, Cond.selects RX5 yX5_leavesAtX yX5_leavesAtX, Cond.code yX5_leavesAtX cX5_leavesAtX 2 (some .int), Cond.instanceMethod yX1_stateAt, Cond.selects RX1 yX1_stateAt yX1_stateAt, Cond.code yX1_stateAt cX1_stateAt 2 (some .int), Cond.methodLink RL 101 yX9_where]
def wsL_law_r25 : List Cond := [Cond.instanceMethod yX9_where, Cond.selects RX9 yX9_where yX9_where, Cond.code yX9_where cX9_where 5 (some .int), Cond.constant RX9 252 (-1000000), Cond.fieldLink RX9 235 "JumpDeskModel" "bySpeed" "I", Cond.methodLink RX9 253 yX9_takeLoad, Cond.instanceMethod yX9_takeLoad, Cond.selects RX9 yX9_takeLoad yX9_takeLoad, Cond.code yX9_takeLoad cX9_takeLoad 3 none, Cond.fieldLink RX9 238 "JumpDeskModel" "byHeight" "I", Cond.methodLink RX9 241 yX9_takePlane, Cond.instanceMethod yX9_takePlane, Cond.selects RX9 yX9_takePlane yX9_takePlane, Cond.code yX9_takePlane cX9_takePlane 3 none, Cond.methodLink RX9 256 yX9_layOut, Cond.instanceMethod yX9_layOut, Cond.selects RX9 yX9_layOut yX9_layOut, Cond.code yX9_layOut cX9_layOut 7 none, Cond.methodLink RX9 245 yX9_fall, Cond.instanceMethod yX9_fall, Cond.selects RX9 yX9_fall yX9_fall, Cond.code yX9_fall cX9_fall 6 none, Cond.methodLink RX9 249 yX9_least, Cond.static yX9_least]
def wsL_law_r26 : List Cond := [Cond.code yX9_least cX9_least 2 (some .int), Cond.methodLink RL 102 yX8_near, Cond.instanceMethod yX8_near, Cond.selects RX8 yX8_near yX8_near, Cond.code yX8_near cX8_near 8 (some .long), Cond.constantLong RX8 245 (-1), Cond.methodLink RX8 247 Lib.Math.max.name, Cond.instanceMethod yX1_nearTo, Cond.selects RX1 yX1_nearTo yX1_nearTo, Cond.code yX1_nearTo cX1_nearTo 18 (some .long), Cond.constantLong RX1 77 (1152921504606846976), Cond.methodLink RX1 79 Lib.Math.min.name, Cond.methodLink RX1 82 Lib.MathLoose.min_long.x, Cond.static Lib.MathLoose.min_long.x, Cond.code Lib.MathLoose.min_long.x Lib.MathLoose.min_long.code 4 (some .long), Cond.methodLink RL 106 yX9_near, Cond.instanceMethod yX9_near, Cond.selects RX9 yX9_near yX9_near, Cond.code yX9_near cX9_near 4 (some .long), Cond.constantLong RX9 266 (-1), Cond.methodLink RX9 268 yX9_nearOf, Cond.instanceMethod yX9_nearOf, Cond.selects RX9 yX9_nearOf yX9_nearOf, Cond.code yX9_nearOf cX9_nearOf 6 (some .long)]
def wsL_law_r27 : List Cond := [Cond.methodLink RX9 262 yX9_nearBy, Cond.instanceMethod yX9_nearBy, Cond.selects RX9 yX9_nearBy yX9_nearBy, Cond.code yX9_nearBy cX9_nearBy 14 (some .long), Cond.constantLong RX9 260 (1152921504606846976), Cond.methodLink RL 107 yX8_between, Cond.instanceMethod yX8_between, Cond.selects RX8 yX8_between yX8_between, Cond.code yX8_between cX8_between 8 (some .int), Cond.methodLink RX8 260 yX8_leastPause, Cond.instanceMethod yX8_leastPause, Cond.selects RX8 yX8_leastPause yX8_leastPause, Cond.code yX8_leastPause cX8_leastPause 5 (some .int), Cond.methodLink RX8 363 yX8_areFree, Cond.instanceMethod yX8_areFree, Cond.selects RX8 yX8_areFree yX8_areFree, Cond.code yX8_areFree cX8_areFree 7 (some .boolean), Cond.methodLink RL 110 yX9_between, Cond.instanceMethod yX9_between, Cond.selects RX9 yX9_between yX9_between, Cond.code yX9_between cX9_between 4 (some .int), Cond.methodLink RX9 276 yX9_betweenOf, Cond.instanceMethod yX9_betweenOf, Cond.selects RX9 yX9_betweenOf yX9_betweenOf]
def wsL_law_r28 : List Cond := [Cond.code yX9_betweenOf cX9_betweenOf 4 (some .int), Cond.methodLink RX9 272 yX9_isFree, Cond.instanceMethod yX9_isFree, Cond.selects RX9 yX9_isFree yX9_isFree, Cond.code yX9_isFree cX9_isFree 3 (some .boolean), Cond.methodLink RL 111 yX8_order, Cond.instanceMethod yX8_order, Cond.selects RX8 yX8_order yX8_order, Cond.code yX8_order cX8_order 3 (some .int), Cond.methodLink RX8 264 yX8_measurePauses, Cond.instanceMethod yX8_measurePauses, Cond.selects RX8 yX8_measurePauses yX8_measurePauses, Cond.code yX8_measurePauses cX8_measurePauses 8 none, Cond.methodLink RX8 282 yX8_followAll, Cond.instanceMethod yX8_followAll, Cond.selects RX8 yX8_followAll yX8_followAll, Cond.code yX8_followAll cX8_followAll 3 none, Cond.methodLink RX8 359 yX8_mayLeaveAhead, Cond.instanceMethod yX8_mayLeaveAhead, Cond.selects RX8 yX8_mayLeaveAhead yX8_mayLeaveAhead, Cond.code yX8_mayLeaveAhead cX8_mayLeaveAhead 3 (some .boolean), Cond.instanceMethod yX4_measure, Cond.selects RX4 yX4_measure yX4_measure, Cond.code yX4_measure cX4_measure 4 none]
def wsL_law_r29 : List Cond := [Cond.instanceMethod yX4_begin, Cond.selects RX4 yX4_begin yX4_begin, Cond.code yX4_begin cX4_begin 5 none, Cond.instanceMethod yX4_findShortest, Cond.selects RX4 yX4_findShortest yX4_findShortest, Cond.code yX4_findShortest cX4_findShortest 4 (some .boolean), Cond.methodLink RX4 44 arraycopyName, Cond.native arraycopyName, Cond.static arraycopyName, Cond.initialized "java/lang/System", Cond.methodLink RX4 40 yX4_sumOfRow, Cond.instanceMethod yX4_sumOfRow, Cond.selects RX4 yX4_sumOfRow yX4_sumOfRow, Cond.code yX4_sumOfRow cX4_sumOfRow 4 (some .int), Cond.methodLink RX4 54 yX4_pauseBetween, Cond.instanceMethod yX4_pauseBetween, Cond.selects RX4 yX4_pauseBetween yX4_pauseBetween, Cond.code yX4_pauseBetween cX4_pauseBetween 3 (some .int), Cond.methodLink RX4 50 yX4_stepRow, Cond.instanceMethod yX4_stepRow, Cond.selects RX4 yX4_stepRow yX4_stepRow, Cond.code yX4_stepRow cX4_stepRow 5 (some .boolean), Cond.methodLink RX4 58 yX4_swap, Cond.instanceMethod yX4_swap]
def wsL_law_r30 : List Cond := [Cond.selects RX4 yX4_swap yX4_swap, Cond.code yX4_swap cX4_swap 4 none, Cond.instanceMethod yX4_giveTo, Cond.selects RX4 yX4_giveTo yX4_giveTo, Cond.code yX4_giveTo cX4_giveTo 4 none, Cond.methodLink RL 114 yX9_order, Cond.instanceMethod yX9_order, Cond.selects RX9 yX9_order yX9_order, Cond.code yX9_order cX9_order 7 (some .int), Cond.methodLink RX9 282 yX9_sortGroups, Cond.instanceMethod yX9_sortGroups, Cond.selects RX9 yX9_sortGroups yX9_sortGroups, Cond.code yX9_sortGroups cX9_sortGroups 5 none, Cond.methodLink RX9 285 yX9_sumOf, Cond.instanceMethod yX9_sumOf, Cond.selects RX9 yX9_sumOf yX9_sumOf, Cond.code yX9_sumOf cX9_sumOf 6 (some .int), Cond.methodLink RX9 279 yX9_rankOf, Cond.instanceMethod yX9_rankOf, Cond.selects RX9 yX9_rankOf yX9_rankOf, Cond.code yX9_rankOf cX9_rankOf 2 (some .int), Cond.methodLink RX9 288 yX9_nextOrder, Cond.instanceMethod yX9_nextOrder, Cond.selects RX9 yX9_nextOrder yX9_nextOrder]
def wsL_law_r31 : List Cond := [Cond.code yX9_nextOrder cX9_nextOrder 7 (some .boolean), Cond.methodLink RL 115 yX8_spot, Cond.instanceMethod yX8_spot, Cond.selects RX8 yX8_spot yX8_spot, Cond.code yX8_spot cX8_spot 9 (some .int), Cond.constant RX8 281 (-100002), Cond.constant RX8 289 (-100001), Cond.methodLink RX8 285 yX8_roomAlongX, Cond.instanceMethod yX8_roomAlongX, Cond.selects RX8 yX8_roomAlongX yX8_roomAlongX, Cond.code yX8_roomAlongX cX8_roomAlongX 7 (some .int), Cond.instanceMethod yX1_downY, Cond.selects RX1 yX1_downY yX1_downY, Cond.code yX1_downY cX1_downY 1 (some .int), Cond.methodLink RX8 380 yX8_reachSquare, Cond.instanceMethod yX8_reachSquare, Cond.selects RX8 yX8_reachSquare yX8_reachSquare, Cond.code yX8_reachSquare cX8_reachSquare 5 (some .long), Cond.instanceMethod yX1_secondsOpen, Cond.selects RX1 yX1_secondsOpen yX1_secondsOpen, Cond.code yX1_secondsOpen cX1_secondsOpen 1 (some .int), Cond.methodLink RX8 384 yX8_wholeRoot, Cond.static yX8_wholeRoot, Cond.code yX8_wholeRoot cX8_wholeRoot 6 (some .int)]
def wsL_law_r32 : List Cond := [Cond.constant RX8 388 (1048576), Cond.instanceMethod yX1_downX, Cond.selects RX1 yX1_downX yX1_downX, Cond.code yX1_downX cX1_downX 1 (some .int), Cond.methodLink RL 118 yX9_spot, Cond.instanceMethod yX9_spot, Cond.selects RX9 yX9_spot yX9_spot, Cond.code yX9_spot cX9_spot 3 (some .int), Cond.constant RX9 304 (-100002), Cond.fieldLink RX9 293 "JumpDeskModel" "lowest" "J", Cond.fieldLink RX9 297 "JumpDeskModel" "highest" "J", Cond.constant RX9 308 (-100001), Cond.methodLink RX9 305 yX9_findStarts, Cond.instanceMethod yX9_findStarts, Cond.selects RX9 yX9_findStarts yX9_findStarts, Cond.code yX9_findStarts cX9_findStarts 14 none, Cond.methodLink RX9 300 yX9_root, Cond.static yX9_root, Cond.code yX9_root cX9_root 6 (some .long), Cond.constantLong RX9 291 (1073741824), Cond.methodLink RL 119 yX8_why, Cond.instanceMethod yX8_why, Cond.selects RX8 yX8_why yX8_why, Cond.code yX8_why cX8_why 4 (some .int)]
def wsL_law_r33 : List Cond := [Cond.instanceMethod yX5_lacksJumpers, Cond.selects RX5 yX5_lacksJumpers yX5_lacksJumpers, Cond.code yX5_lacksJumpers cX5_lacksJumpers 2 (some .boolean), Cond.instanceMethod yX5_jumperCount, Cond.selects RX5 yX5_jumperCount yX5_jumperCount, Cond.code yX5_jumperCount cX5_jumperCount 3 (some .int), Cond.instanceMethod yX5_weight, Cond.selects RX5 yX5_weight yX5_weight, Cond.code yX5_weight cX5_weight 3 (some .int), Cond.instanceMethod yX5_isWornOn, Cond.selects RX5 yX5_isWornOn yX5_isWornOn, Cond.code yX5_isWornOn cX5_isWornOn 3 (some .boolean), Cond.instanceMethod yX2_isWornOn, Cond.selects RX2 yX2_isWornOn yX2_isWornOn, Cond.code yX2_isWornOn cX2_isWornOn 3 (some .boolean), Cond.instanceMethod yX5_holdsOneTwice, Cond.selects RX5 yX5_holdsOneTwice yX5_holdsOneTwice, Cond.code yX5_holdsOneTwice cX5_holdsOneTwice 3 (some .boolean), Cond.instanceMethod yX2_sharesOneWith, Cond.selects RX2 yX2_sharesOneWith yX2_sharesOneWith, Cond.code yX2_sharesOneWith cX2_sharesOneWith 3 (some .boolean), Cond.methodLink RX2 53 yX2_holds, Cond.instanceMethod yX5_lacksHelp, Cond.selects RX5 yX5_lacksHelp yX5_lacksHelp]
def wsL_law_r34 : List Cond := [Cond.code yX5_lacksHelp cX5_lacksHelp 2 (some .boolean), Cond.instanceMethod yX2_lacksHelp, Cond.selects RX2 yX2_lacksHelp yX2_lacksHelp, Cond.code yX2_lacksHelp cX2_lacksHelp 2 (some .boolean), Cond.methodLink RX2 46 yX2_countOf, Cond.instanceMethod yX2_countOf, Cond.selects RX2 yX2_countOf yX2_countOf, Cond.code yX2_countOf cX2_countOf 4 (some .int), Cond.methodLink RX8 318 yX8_whyByFall, Cond.instanceMethod yX8_whyByFall, Cond.selects RX8 yX8_whyByFall yX8_whyByFall, Cond.code yX8_whyByFall cX8_whyByFall 2 (some .int), Cond.methodLink RX8 340 yX8_isTooWindy, Cond.instanceMethod yX8_isTooWindy, Cond.selects RX8 yX8_isTooWindy yX8_isTooWindy, Cond.code yX8_isTooWindy cX8_isTooWindy 4 (some .boolean), Cond.instanceMethod yX0_squareOnGround, Cond.selects RX0 yX0_squareOnGround yX0_squareOnGround, Cond.code yX0_squareOnGround cX0_squareOnGround 1 (some .int), Cond.methodLink RX8 344 yX8_ranksAllow, Cond.instanceMethod yX8_ranksAllow, Cond.selects RX8 yX8_ranksAllow yX8_ranksAllow, Cond.code yX8_ranksAllow cX8_ranksAllow 3 (some .boolean), Cond.methodLink RX8 347 yX8_allFree]
def wsL_law_r35 : List Cond := [Cond.instanceMethod yX8_allFree, Cond.selects RX8 yX8_allFree yX8_allFree, Cond.code yX8_allFree cX8_allFree 5 (some .boolean), Cond.methodLink RX8 350 yX8_allHome, Cond.instanceMethod yX8_allHome, Cond.selects RX8 yX8_allHome yX8_allHome, Cond.code yX8_allHome cX8_allHome 7 (some .boolean), Cond.methodLink RL 122 yX9_why, Cond.instanceMethod yX9_why, Cond.selects RX9 yX9_why yX9_why, Cond.code yX9_why cX9_why 3 (some .int), Cond.methodLink RX9 342 yX9_barOf, Cond.instanceMethod yX9_barOf, Cond.selects RX9 yX9_barOf yX9_barOf, Cond.code yX9_barOf cX9_barOf 4 (some .int), Cond.methodLink RX9 312 yX9_hasEmpty, Cond.instanceMethod yX9_hasEmpty, Cond.selects RX9 yX9_hasEmpty yX9_hasEmpty, Cond.code yX9_hasEmpty cX9_hasEmpty 4 (some .boolean), Cond.methodLink RX9 315 yX9_jumpersIn, Cond.instanceMethod yX9_jumpersIn, Cond.selects RX9 yX9_jumpersIn yX9_jumpersIn, Cond.code yX9_jumpersIn cX9_jumpersIn 4 (some .int), Cond.methodLink RX9 318 yX9_weightOn]
def wsL_law_r36 : List Cond := [Cond.instanceMethod yX9_weightOn, Cond.selects RX9 yX9_weightOn yX9_weightOn, Cond.code yX9_weightOn cX9_weightOn 4 (some .int), Cond.methodLink RX9 321 yX9_hasOldGear, Cond.instanceMethod yX9_hasOldGear, Cond.selects RX9 yX9_hasOldGear yX9_hasOldGear, Cond.code yX9_hasOldGear cX9_hasOldGear 7 (some .boolean), Cond.methodLink RX9 324 yX9_hasTwice, Cond.instanceMethod yX9_hasTwice, Cond.selects RX9 yX9_hasTwice yX9_hasTwice, Cond.code yX9_hasTwice cX9_hasTwice 6 (some .boolean), Cond.methodLink RX9 327 yX9_hasAlone, Cond.instanceMethod yX9_hasAlone, Cond.selects RX9 yX9_hasAlone yX9_hasAlone, Cond.code yX9_hasAlone cX9_hasAlone 6 (some .boolean), Cond.methodLink RX9 309 yX9_sortsIn, Cond.instanceMethod yX9_sortsIn, Cond.selects RX9 yX9_sortsIn yX9_sortsIn, Cond.code yX9_sortsIn cX9_sortsIn 5 (some .int), Cond.methodLink RX9 330 yX9_blowsTooMuch, Cond.instanceMethod yX9_blowsTooMuch, Cond.selects RX9 yX9_blowsTooMuch yX9_blowsTooMuch, Cond.code yX9_blowsTooMuch cX9_blowsTooMuch 5 (some .boolean), Cond.methodLink RX9 333 yX9_areRanksWrong]
def wsL_law_r37 : List Cond := [Cond.instanceMethod yX9_areRanksWrong, Cond.selects RX9 yX9_areRanksWrong yX9_areRanksWrong, Cond.code yX9_areRanksWrong cX9_areRanksWrong 4 (some .boolean), Cond.methodLink RX9 336 yX9_areSomeNear, Cond.instanceMethod yX9_areSomeNear, Cond.selects RX9 yX9_areSomeNear yX9_areSomeNear, Cond.code yX9_areSomeNear cX9_areSomeNear 5 (some .boolean), Cond.methodLink RX9 339 yX9_isSomeOut, Cond.instanceMethod yX9_isSomeOut, Cond.selects RX9 yX9_isSomeOut yX9_isSomeOut, Cond.code yX9_isSomeOut cX9_isSomeOut 2 (some .boolean), Cond.methodLink RL 123 yX8_leave, Cond.instanceMethod yX8_leave, Cond.selects RX8 yX8_leave yX8_leave, Cond.code yX8_leave cX8_leave 5 (some .int), Cond.methodLink RX8 322 yX8_why, Cond.instanceMethod yX5_goUp, Cond.selects RX5 yX5_goUp yX5_goUp, Cond.code yX5_goUp cX5_goUp 1 none, Cond.instanceMethod yX6_becomeAs, Cond.selects RX6 yX6_becomeAs yX6_becomeAs, Cond.code yX6_becomeAs cX6_becomeAs 2 none, Cond.methodLink RX6 26 yX6_become, Cond.instanceMethod yX0_blowAs]
def wsL_law_r38 : List Cond := [Cond.selects RX0 yX0_blowAs yX0_blowAs, Cond.code yX0_blowAs cX0_blowAs 3 none, Cond.methodLink RL 126 yX9_leave, Cond.instanceMethod yX9_leave, Cond.selects RX9 yX9_leave yX9_leave, Cond.code yX9_leave cX9_leave 4 (some .int), Cond.fieldLink RX9 345 "JumpDeskModel" "went" "I", Cond.methodLink RL 127 yX8_many, Cond.instanceMethod yX8_many, Cond.selects RX8 yX8_many yX8_many, Cond.code yX8_many cX8_many 2 (some .int), Cond.methodLink RX8 328 yX8_leftCount, Cond.instanceMethod yX8_leftCount, Cond.selects RX8 yX8_leftCount yX8_leftCount, Cond.code yX8_leftCount cX8_leftCount 3 (some .int), Cond.methodLink RX8 331 yX8_upCount, Cond.instanceMethod yX8_upCount, Cond.selects RX8 yX8_upCount yX8_upCount, Cond.code yX8_upCount cX8_upCount 3 (some .int), Cond.methodLink RL 130 yX9_many, Cond.instanceMethod yX9_many, Cond.selects RX9 yX9_many yX9_many, Cond.code yX9_many cX9_many 4 (some .int)]
def wsL_law : List Cond := (wsL_law_r1 ++ (wsL_law_r2 ++ (wsL_law_r3 ++ (wsL_law_r4 ++ (wsL_law_r5 ++ (wsL_law_r6 ++ (wsL_law_r7 ++ (wsL_law_r8 ++ (wsL_law_r9 ++ (wsL_law_r10 ++ (wsL_law_r11 ++ (wsL_law_r12 ++ (wsL_law_r13 ++ (wsL_law_r14 ++ (wsL_law_r15 ++ (wsL_law_r16 ++ (wsL_law_r17 ++ (wsL_law_r18 ++ (wsL_law_r19 ++ (wsL_law_r20 ++ (wsL_law_r21 ++ (wsL_law_r22 ++ (wsL_law_r23 ++ (wsL_law_r24 ++ (wsL_law_r25 ++ (wsL_law_r26 ++ (wsL_law_r27 ++ (wsL_law_r28 ++ (wsL_law_r29 ++ (wsL_law_r30 ++ (wsL_law_r31 ++ (wsL_law_r32 ++ (wsL_law_r33 ++ (wsL_law_r34 ++ (wsL_law_r35 ++ (wsL_law_r36 ++ (wsL_law_r37 ++ wsL_law_r38))))))))))))))))))))))))))))))))))))) ++ wsX80 ++ wsX90 ++ wsX00 ++ wsX40 ++ wsX70 ++ wsX30 ++ wsX20 ++ wsX60 ++ wsX50 ++ wsX10 ++ ([] : List Cond)
theorem inlX0 : ∀ w ∈ wsX00, w ∈ wsL_law := fun _ h => List.mem_append_left _ (List.mem_append_left _ (List.mem_append_left _ (List.mem_append_left _ (List.mem_append_left _ (List.mem_append_left _ (List.mem_append_left _ (List.mem_append_left _ (List.mem_append_right _ h))))))))
theorem inlX1 : ∀ w ∈ wsX10, w ∈ wsL_law := fun _ h => List.mem_append_left _ (List.mem_append_right _ h)
theorem inlX2 : ∀ w ∈ wsX20, w ∈ wsL_law := fun _ h => List.mem_append_left _ (List.mem_append_left _ (List.mem_append_left _ (List.mem_append_left _ (List.mem_append_right _ h))))
theorem inlX3 : ∀ w ∈ wsX30, w ∈ wsL_law := fun _ h => List.mem_append_left _ (List.mem_append_left _ (List.mem_append_left _ (List.mem_append_left _ (List.mem_append_left _ (List.mem_append_right _ h)))))
theorem inlX4 : ∀ w ∈ wsX40, w ∈ wsL_law := fun _ h => List.mem_append_left _ (List.mem_append_left _ (List.mem_append_left _ (List.mem_append_left _ (List.mem_append_left _ (List.mem_append_left _ (List.mem_append_left _ (List.mem_append_right _ h)))))))
theorem inlX5 : ∀ w ∈ wsX50, w ∈ wsL_law := fun _ h => List.mem_append_left _ (List.mem_append_left _ (List.mem_append_right _ h))
theorem inlX6 : ∀ w ∈ wsX60, w ∈ wsL_law := fun _ h => List.mem_append_left _ (List.mem_append_left _ (List.mem_append_left _ (List.mem_append_right _ h)))
theorem inlX7 : ∀ w ∈ wsX70, w ∈ wsL_law := fun _ h => List.mem_append_left _ (List.mem_append_left _ (List.mem_append_left _ (List.mem_append_left _ (List.mem_append_left _ (List.mem_append_left _ (List.mem_append_right _ h))))))
theorem inlX8 : ∀ w ∈ wsX80, w ∈ wsL_law := fun _ h => List.mem_append_left _ (List.mem_append_left _ (List.mem_append_left _ (List.mem_append_left _ (List.mem_append_left _ (List.mem_append_left _ (List.mem_append_left _ (List.mem_append_left _ (List.mem_append_left _ (List.mem_append_left _ (List.mem_append_right _ h))))))))))
theorem inlX9 : ∀ w ∈ wsX90, w ∈ wsL_law := fun _ h => List.mem_append_left _ (List.mem_append_left _ (List.mem_append_left _ (List.mem_append_left _ (List.mem_append_left _ (List.mem_append_left _ (List.mem_append_left _ (List.mem_append_left _ (List.mem_append_left _ (List.mem_append_right _ h)))))))))
abbrev vwCl : List vw_C := [(RX0, TX0, 2), (RX1, TX1, 5), (RX2, TX2, 7), (RX3, TX3, 4), (RX4, TX4, 5), (RX5, TX5, 9), (RX6, TX6, 5), (RX7, TX7, 4), (RX8, TX8, 11), (RX9, TX9, 48)]
