section
-- ===== PART A: goes FIRST, ahead of the names: the tables' words, and 'selects' of the private methods out of them =====
/-- a private method of a class that the tables say can be made, by its rows of tables_1 -/
def lw_okq (q : MethodName × Nat) : Prop := (q.1.cls ≠ "java/lang/invoke/MethodHandle" ∧ q.1.cls ≠ "java/lang/invoke/VarHandle") ∧ Cond.instantiable q.1.cls q.2 ∈ tables_1 ∧ Cond.privateMethod q.1 ∈ tables_1 ∧ Cond.instanceMethod q.1 ∈ tables_1
theorem lw_p0 : lw_okq (⟨"JumpDesk", "sheetAt", "(I)LJumpDesk$Sheet;"⟩, 11) := ⟨⟨by decide +kernel, by decide +kernel⟩, List.mem_of_getElem? (i := 14) (by decide +kernel), List.mem_of_getElem? (i := 300) (by decide +kernel), List.mem_of_getElem? (i := 301) (by decide +kernel)⟩
theorem lw_p1 : lw_okq (⟨"JumpDesk$Sheet", "begin", "(I)V"⟩, 4) := ⟨⟨by decide +kernel, by decide +kernel⟩, List.mem_of_getElem? (i := 79) (by decide +kernel), List.mem_of_getElem? (i := 304) (by decide +kernel), List.mem_of_getElem? (i := 305) (by decide +kernel)⟩
theorem lw_p2 : lw_okq (⟨"JumpDesk$Sheet", "has", "(I)Z"⟩, 4) := ⟨⟨by decide +kernel, by decide +kernel⟩, List.mem_of_getElem? (i := 79) (by decide +kernel), List.mem_of_getElem? (i := 315) (by decide +kernel), List.mem_of_getElem? (i := 316) (by decide +kernel)⟩
theorem lw_p3 : lw_okq (⟨"JumpDesk$Sheet", "write", "(IF)V"⟩, 4) := ⟨⟨by decide +kernel, by decide +kernel⟩, List.mem_of_getElem? (i := 79) (by decide +kernel), List.mem_of_getElem? (i := 319) (by decide +kernel), List.mem_of_getElem? (i := 320) (by decide +kernel)⟩
theorem lw_p4 : lw_okq (⟨"JumpDesk$Sheet", "blank", "(I)V"⟩, 4) := ⟨⟨by decide +kernel, by decide +kernel⟩, List.mem_of_getElem? (i := 79) (by decide +kernel), List.mem_of_getElem? (i := 328) (by decide +kernel), List.mem_of_getElem? (i := 329) (by decide +kernel)⟩
theorem lw_p5 : lw_okq (⟨"JumpDesk$Sheet", "filled", "(I)F"⟩, 4) := ⟨⟨by decide +kernel, by decide +kernel⟩, List.mem_of_getElem? (i := 79) (by decide +kernel), List.mem_of_getElem? (i := 341) (by decide +kernel), List.mem_of_getElem? (i := 342) (by decide +kernel)⟩
theorem lw_p6 : lw_okq (⟨"JumpDesk$Sheet", "knownBelow", "(I)I"⟩, 4) := ⟨⟨by decide +kernel, by decide +kernel⟩, List.mem_of_getElem? (i := 79) (by decide +kernel), List.mem_of_getElem? (i := 345) (by decide +kernel), List.mem_of_getElem? (i := 346) (by decide +kernel)⟩
theorem lw_p7 : lw_okq (⟨"JumpDesk$Sheet", "knownAbove", "(I)I"⟩, 4) := ⟨⟨by decide +kernel, by decide +kernel⟩, List.mem_of_getElem? (i := 79) (by decide +kernel), List.mem_of_getElem? (i := 349) (by decide +kernel), List.mem_of_getElem? (i := 350) (by decide +kernel)⟩
theorem lw_p8 : lw_okq (⟨"JumpDesk$Sheet", "windOf", "(I)I"⟩, 4) := ⟨⟨by decide +kernel, by decide +kernel⟩, List.mem_of_getElem? (i := 79) (by decide +kernel), List.mem_of_getElem? (i := 361) (by decide +kernel), List.mem_of_getElem? (i := 362) (by decide +kernel)⟩
theorem lw_p9 : lw_okq (⟨"JumpDesk$Air", "blowAt", "(III)V"⟩, 2) := ⟨⟨by decide +kernel, by decide +kernel⟩, List.mem_of_getElem? (i := 24) (by decide +kernel), List.mem_of_getElem? (i := 373) (by decide +kernel), List.mem_of_getElem? (i := 374) (by decide +kernel)⟩
theorem lw_p10 : lw_okq (⟨"JumpDesk$Air", "alongX", "(I)I"⟩, 2) := ⟨⟨by decide +kernel, by decide +kernel⟩, List.mem_of_getElem? (i := 24) (by decide +kernel), List.mem_of_getElem? (i := 385) (by decide +kernel), List.mem_of_getElem? (i := 386) (by decide +kernel)⟩
theorem lw_p11 : lw_okq (⟨"JumpDesk$Air", "alongY", "(I)I"⟩, 2) := ⟨⟨by decide +kernel, by decide +kernel⟩, List.mem_of_getElem? (i := 24) (by decide +kernel), List.mem_of_getElem? (i := 389) (by decide +kernel), List.mem_of_getElem? (i := 390) (by decide +kernel)⟩
theorem lw_p12 : lw_okq (⟨"JumpDesk", "jumperAt", "(I)LJumpDesk$Jumper;"⟩, 11) := ⟨⟨by decide +kernel, by decide +kernel⟩, List.mem_of_getElem? (i := 14) (by decide +kernel), List.mem_of_getElem? (i := 397) (by decide +kernel), List.mem_of_getElem? (i := 398) (by decide +kernel)⟩
theorem lw_p13 : lw_okq (⟨"JumpDesk$Jumper", "become", "(III)V"⟩, 4) := ⟨⟨by decide +kernel, by decide +kernel⟩, List.mem_of_getElem? (i := 101) (by decide +kernel), List.mem_of_getElem? (i := 401) (by decide +kernel), List.mem_of_getElem? (i := 402) (by decide +kernel)⟩
theorem lw_p14 : lw_okq (⟨"JumpDesk$Group", "become", "(IIII)V"⟩, 7) := ⟨⟨by decide +kernel, by decide +kernel⟩, List.mem_of_getElem? (i := 123) (by decide +kernel), List.mem_of_getElem? (i := 409) (by decide +kernel), List.mem_of_getElem? (i := 410) (by decide +kernel)⟩
theorem lw_p15 : lw_okq (⟨"JumpDesk", "groupAt", "(I)LJumpDesk$Group;"⟩, 11) := ⟨⟨by decide +kernel, by decide +kernel⟩, List.mem_of_getElem? (i := 14) (by decide +kernel), List.mem_of_getElem? (i := 417) (by decide +kernel), List.mem_of_getElem? (i := 418) (by decide +kernel)⟩
def lw_privs_1 : List (MethodName × Nat) := [(⟨"JumpDesk", "sheetAt", "(I)LJumpDesk$Sheet;"⟩, 11), (⟨"JumpDesk$Sheet", "begin", "(I)V"⟩, 4), (⟨"JumpDesk$Sheet", "has", "(I)Z"⟩, 4), (⟨"JumpDesk$Sheet", "write", "(IF)V"⟩, 4), (⟨"JumpDesk$Sheet", "blank", "(I)V"⟩, 4), (⟨"JumpDesk$Sheet", "filled", "(I)F"⟩, 4), (⟨"JumpDesk$Sheet", "knownBelow", "(I)I"⟩, 4), (⟨"JumpDesk$Sheet", "knownAbove", "(I)I"⟩, 4), (⟨"JumpDesk$Sheet", "windOf", "(I)I"⟩, 4), (⟨"JumpDesk$Air", "blowAt", "(III)V"⟩, 2), (⟨"JumpDesk$Air", "alongX", "(I)I"⟩, 2), (⟨"JumpDesk$Air", "alongY", "(I)I"⟩, 2), (⟨"JumpDesk", "jumperAt", "(I)LJumpDesk$Jumper;"⟩, 11), (⟨"JumpDesk$Jumper", "become", "(III)V"⟩, 4), (⟨"JumpDesk$Group", "become", "(IIII)V"⟩, 7), (⟨"JumpDesk", "groupAt", "(I)LJumpDesk$Group;"⟩, 11)]
theorem lw_r1 : ∀ q ∈ lw_privs_1, lw_okq q := List.forall_mem_cons.mpr ⟨lw_p0, List.forall_mem_cons.mpr ⟨lw_p1, List.forall_mem_cons.mpr ⟨lw_p2, List.forall_mem_cons.mpr ⟨lw_p3, List.forall_mem_cons.mpr ⟨lw_p4, List.forall_mem_cons.mpr ⟨lw_p5, List.forall_mem_cons.mpr ⟨lw_p6, List.forall_mem_cons.mpr ⟨lw_p7, List.forall_mem_cons.mpr ⟨lw_p8, List.forall_mem_cons.mpr ⟨lw_p9, List.forall_mem_cons.mpr ⟨lw_p10, List.forall_mem_cons.mpr ⟨lw_p11, List.forall_mem_cons.mpr ⟨lw_p12, List.forall_mem_cons.mpr ⟨lw_p13, List.forall_mem_cons.mpr ⟨lw_p14, List.forall_mem_cons.mpr ⟨lw_p15, fun _ h => absurd h List.not_mem_nil⟩⟩⟩⟩⟩⟩⟩⟩⟩⟩⟩⟩⟩⟩⟩⟩
theorem lw_p16 : lw_okq (⟨"JumpDesk", "isInSomeLoad", "(LJumpDesk$Group;Z)Z"⟩, 11) := ⟨⟨by decide +kernel, by decide +kernel⟩, List.mem_of_getElem? (i := 14) (by decide +kernel), List.mem_of_getElem? (i := 421) (by decide +kernel), List.mem_of_getElem? (i := 422) (by decide +kernel)⟩
theorem lw_p17 : lw_okq (⟨"JumpDesk$Load", "holds", "(LJumpDesk$Group;)Z"⟩, 9) := ⟨⟨by decide +kernel, by decide +kernel⟩, List.mem_of_getElem? (i := 188) (by decide +kernel), List.mem_of_getElem? (i := 425) (by decide +kernel), List.mem_of_getElem? (i := 426) (by decide +kernel)⟩
theorem lw_p18 : lw_okq (⟨"JumpDesk$Group", "holds", "(LJumpDesk$Jumper;)Z"⟩, 7) := ⟨⟨by decide +kernel, by decide +kernel⟩, List.mem_of_getElem? (i := 123) (by decide +kernel), List.mem_of_getElem? (i := 429) (by decide +kernel), List.mem_of_getElem? (i := 430) (by decide +kernel)⟩
theorem lw_p19 : lw_okq (⟨"JumpDesk$Group", "add", "(LJumpDesk$Jumper;)V"⟩, 7) := ⟨⟨by decide +kernel, by decide +kernel⟩, List.mem_of_getElem? (i := 123) (by decide +kernel), List.mem_of_getElem? (i := 433) (by decide +kernel), List.mem_of_getElem? (i := 434) (by decide +kernel)⟩
theorem lw_p20 : lw_okq (⟨"JumpDesk$Group", "tell", "(I)I"⟩, 7) := ⟨⟨by decide +kernel, by decide +kernel⟩, List.mem_of_getElem? (i := 123) (by decide +kernel), List.mem_of_getElem? (i := 441) (by decide +kernel), List.mem_of_getElem? (i := 442) (by decide +kernel)⟩
theorem lw_p21 : lw_okq (⟨"JumpDesk$Group", "weight", "()I"⟩, 7) := ⟨⟨by decide +kernel, by decide +kernel⟩, List.mem_of_getElem? (i := 123) (by decide +kernel), List.mem_of_getElem? (i := 445) (by decide +kernel), List.mem_of_getElem? (i := 446) (by decide +kernel)⟩
theorem lw_p22 : lw_okq (⟨"JumpDesk", "planeAt", "(I)LJumpDesk$Plane;"⟩, 11) := ⟨⟨by decide +kernel, by decide +kernel⟩, List.mem_of_getElem? (i := 14) (by decide +kernel), List.mem_of_getElem? (i := 453) (by decide +kernel), List.mem_of_getElem? (i := 454) (by decide +kernel)⟩
theorem lw_p23 : lw_okq (⟨"JumpDesk$Plane", "become", "(IIII)V"⟩, 5) := ⟨⟨by decide +kernel, by decide +kernel⟩, List.mem_of_getElem? (i := 159) (by decide +kernel), List.mem_of_getElem? (i := 458) (by decide +kernel), List.mem_of_getElem? (i := 459) (by decide +kernel)⟩
theorem lw_p24 : lw_okq (⟨"JumpDesk$Load", "begin", "(LJumpDesk$Plane;LJumpDesk$Air;)V"⟩, 9) := ⟨⟨by decide +kernel, by decide +kernel⟩, List.mem_of_getElem? (i := 188) (by decide +kernel), List.mem_of_getElem? (i := 472) (by decide +kernel), List.mem_of_getElem? (i := 473) (by decide +kernel)⟩
theorem lw_p25 : lw_okq (⟨"JumpDesk", "loadAt", "(I)LJumpDesk$Load;"⟩, 11) := ⟨⟨by decide +kernel, by decide +kernel⟩, List.mem_of_getElem? (i := 14) (by decide +kernel), List.mem_of_getElem? (i := 480) (by decide +kernel), List.mem_of_getElem? (i := 481) (by decide +kernel)⟩
theorem lw_p26 : lw_okq (⟨"JumpDesk$Load", "add", "(LJumpDesk$Group;I)V"⟩, 9) := ⟨⟨by decide +kernel, by decide +kernel⟩, List.mem_of_getElem? (i := 188) (by decide +kernel), List.mem_of_getElem? (i := 487) (by decide +kernel), List.mem_of_getElem? (i := 488) (by decide +kernel)⟩
theorem lw_p27 : lw_okq (⟨"JumpDesk$Load", "has", "(I)Z"⟩, 9) := ⟨⟨by decide +kernel, by decide +kernel⟩, List.mem_of_getElem? (i := 188) (by decide +kernel), List.mem_of_getElem? (i := 495) (by decide +kernel), List.mem_of_getElem? (i := 496) (by decide +kernel)⟩
theorem lw_p28 : lw_okq (⟨"JumpDesk$Load", "remove", "(I)V"⟩, 9) := ⟨⟨by decide +kernel, by decide +kernel⟩, List.mem_of_getElem? (i := 188) (by decide +kernel), List.mem_of_getElem? (i := 499) (by decide +kernel), List.mem_of_getElem? (i := 500) (by decide +kernel)⟩
theorem lw_p29 : lw_okq (⟨"JumpDesk$Load", "tell", "(I)I"⟩, 9) := ⟨⟨by decide +kernel, by decide +kernel⟩, List.mem_of_getElem? (i := 188) (by decide +kernel), List.mem_of_getElem? (i := 518) (by decide +kernel), List.mem_of_getElem? (i := 519) (by decide +kernel)⟩
theorem lw_p30 : lw_okq (⟨"JumpDesk$Load", "tellOfPlace", "(I)I"⟩, 9) := ⟨⟨by decide +kernel, by decide +kernel⟩, List.mem_of_getElem? (i := 188) (by decide +kernel), List.mem_of_getElem? (i := 522) (by decide +kernel), List.mem_of_getElem? (i := 523) (by decide +kernel)⟩
theorem lw_p31 : lw_okq (⟨"JumpDesk$Load", "secondOf", "(I)I"⟩, 9) := ⟨⟨by decide +kernel, by decide +kernel⟩, List.mem_of_getElem? (i := 188) (by decide +kernel), List.mem_of_getElem? (i := 526) (by decide +kernel), List.mem_of_getElem? (i := 527) (by decide +kernel)⟩
def lw_privs_2 : List (MethodName × Nat) := [(⟨"JumpDesk", "isInSomeLoad", "(LJumpDesk$Group;Z)Z"⟩, 11), (⟨"JumpDesk$Load", "holds", "(LJumpDesk$Group;)Z"⟩, 9), (⟨"JumpDesk$Group", "holds", "(LJumpDesk$Jumper;)Z"⟩, 7), (⟨"JumpDesk$Group", "add", "(LJumpDesk$Jumper;)V"⟩, 7), (⟨"JumpDesk$Group", "tell", "(I)I"⟩, 7), (⟨"JumpDesk$Group", "weight", "()I"⟩, 7), (⟨"JumpDesk", "planeAt", "(I)LJumpDesk$Plane;"⟩, 11), (⟨"JumpDesk$Plane", "become", "(IIII)V"⟩, 5), (⟨"JumpDesk$Load", "begin", "(LJumpDesk$Plane;LJumpDesk$Air;)V"⟩, 9), (⟨"JumpDesk", "loadAt", "(I)LJumpDesk$Load;"⟩, 11), (⟨"JumpDesk$Load", "add", "(LJumpDesk$Group;I)V"⟩, 9), (⟨"JumpDesk$Load", "has", "(I)Z"⟩, 9), (⟨"JumpDesk$Load", "remove", "(I)V"⟩, 9), (⟨"JumpDesk$Load", "tell", "(I)I"⟩, 9), (⟨"JumpDesk$Load", "tellOfPlace", "(I)I"⟩, 9), (⟨"JumpDesk$Load", "secondOf", "(I)I"⟩, 9)]
theorem lw_r2 : ∀ q ∈ lw_privs_2, lw_okq q := List.forall_mem_cons.mpr ⟨lw_p16, List.forall_mem_cons.mpr ⟨lw_p17, List.forall_mem_cons.mpr ⟨lw_p18, List.forall_mem_cons.mpr ⟨lw_p19, List.forall_mem_cons.mpr ⟨lw_p20, List.forall_mem_cons.mpr ⟨lw_p21, List.forall_mem_cons.mpr ⟨lw_p22, List.forall_mem_cons.mpr ⟨lw_p23, List.forall_mem_cons.mpr ⟨lw_p24, List.forall_mem_cons.mpr ⟨lw_p25, List.forall_mem_cons.mpr ⟨lw_p26, List.forall_mem_cons.mpr ⟨lw_p27, List.forall_mem_cons.mpr ⟨lw_p28, List.forall_mem_cons.mpr ⟨lw_p29, List.forall_mem_cons.mpr ⟨lw_p30, List.forall_mem_cons.mpr ⟨lw_p31, fun _ h => absurd h List.not_mem_nil⟩⟩⟩⟩⟩⟩⟩⟩⟩⟩⟩⟩⟩⟩⟩⟩
theorem lw_p32 : lw_okq (⟨"JumpDesk$Fall", "follow", "(LJumpDesk$Group;LJumpDesk$Plane;LJumpDesk$Air;)V"⟩, 5) := ⟨⟨by decide +kernel, by decide +kernel⟩, List.mem_of_getElem? (i := 236) (by decide +kernel), List.mem_of_getElem? (i := 535) (by decide +kernel), List.mem_of_getElem? (i := 536) (by decide +kernel)⟩
theorem lw_p33 : lw_okq (⟨"JumpDesk$Fall", "drift", "(ILJumpDesk$Air;)V"⟩, 5) := ⟨⟨by decide +kernel, by decide +kernel⟩, List.mem_of_getElem? (i := 236) (by decide +kernel), List.mem_of_getElem? (i := 539) (by decide +kernel), List.mem_of_getElem? (i := 540) (by decide +kernel)⟩
theorem lw_p34 : lw_okq (⟨"JumpDesk$Fall", "fall", "(ILJumpDesk$Group;I)V"⟩, 5) := ⟨⟨by decide +kernel, by decide +kernel⟩, List.mem_of_getElem? (i := 236) (by decide +kernel), List.mem_of_getElem? (i := 548) (by decide +kernel), List.mem_of_getElem? (i := 549) (by decide +kernel)⟩
theorem lw_p35 : lw_okq (⟨"JumpDesk$Fall", "track", "(II)V"⟩, 5) := ⟨⟨by decide +kernel, by decide +kernel⟩, List.mem_of_getElem? (i := 236) (by decide +kernel), List.mem_of_getElem? (i := 552) (by decide +kernel), List.mem_of_getElem? (i := 553) (by decide +kernel)⟩
theorem lw_p36 : lw_okq (⟨"JumpDesk$Group", "dropIn", "(I)I"⟩, 7) := ⟨⟨by decide +kernel, by decide +kernel⟩, List.mem_of_getElem? (i := 123) (by decide +kernel), List.mem_of_getElem? (i := 556) (by decide +kernel), List.mem_of_getElem? (i := 557) (by decide +kernel)⟩
theorem lw_p37 : lw_okq (⟨"JumpDesk$Group", "opensBehind", "(II)Z"⟩, 7) := ⟨⟨by decide +kernel, by decide +kernel⟩, List.mem_of_getElem? (i := 123) (by decide +kernel), List.mem_of_getElem? (i := 562) (by decide +kernel), List.mem_of_getElem? (i := 563) (by decide +kernel)⟩
theorem lw_p38 : lw_okq (⟨"JumpDesk$Load", "leavesAtX", "(I)I"⟩, 9) := ⟨⟨by decide +kernel, by decide +kernel⟩, List.mem_of_getElem? (i := 188) (by decide +kernel), List.mem_of_getElem? (i := 567) (by decide +kernel), List.mem_of_getElem? (i := 568) (by decide +kernel)⟩
theorem lw_p39 : lw_okq (⟨"JumpDesk$Fall", "stateAt", "(I)I"⟩, 5) := ⟨⟨by decide +kernel, by decide +kernel⟩, List.mem_of_getElem? (i := 236) (by decide +kernel), List.mem_of_getElem? (i := 571) (by decide +kernel), List.mem_of_getElem? (i := 572) (by decide +kernel)⟩
theorem lw_p40 : lw_okq (⟨"JumpDesk$Fall", "nearTo", "(LJumpDesk$Fall;IIJ)J"⟩, 5) := ⟨⟨by decide +kernel, by decide +kernel⟩, List.mem_of_getElem? (i := 236) (by decide +kernel), List.mem_of_getElem? (i := 582) (by decide +kernel), List.mem_of_getElem? (i := 583) (by decide +kernel)⟩
theorem lw_p41 : lw_okq (⟨"JumpDesk", "leastPause", "(LJumpDesk$Fall;LJumpDesk$Fall;I)I"⟩, 11) := ⟨⟨by decide +kernel, by decide +kernel⟩, List.mem_of_getElem? (i := 14) (by decide +kernel), List.mem_of_getElem? (i := 595) (by decide +kernel), List.mem_of_getElem? (i := 596) (by decide +kernel)⟩
theorem lw_p42 : lw_okq (⟨"JumpDesk", "areFree", "(LJumpDesk$Fall;LJumpDesk$Fall;II)Z"⟩, 11) := ⟨⟨by decide +kernel, by decide +kernel⟩, List.mem_of_getElem? (i := 14) (by decide +kernel), List.mem_of_getElem? (i := 599) (by decide +kernel), List.mem_of_getElem? (i := 600) (by decide +kernel)⟩
theorem lw_p43 : lw_okq (⟨"JumpDesk", "measurePauses", "(LJumpDesk$Load;)V"⟩, 11) := ⟨⟨by decide +kernel, by decide +kernel⟩, List.mem_of_getElem? (i := 14) (by decide +kernel), List.mem_of_getElem? (i := 607) (by decide +kernel), List.mem_of_getElem? (i := 608) (by decide +kernel)⟩
theorem lw_p44 : lw_okq (⟨"JumpDesk", "followAll", "(LJumpDesk$Load;)V"⟩, 11) := ⟨⟨by decide +kernel, by decide +kernel⟩, List.mem_of_getElem? (i := 14) (by decide +kernel), List.mem_of_getElem? (i := 611) (by decide +kernel), List.mem_of_getElem? (i := 612) (by decide +kernel)⟩
theorem lw_p45 : lw_okq (⟨"JumpDesk", "mayLeaveAhead", "(LJumpDesk$Group;LJumpDesk$Group;)Z"⟩, 11) := ⟨⟨by decide +kernel, by decide +kernel⟩, List.mem_of_getElem? (i := 14) (by decide +kernel), List.mem_of_getElem? (i := 615) (by decide +kernel), List.mem_of_getElem? (i := 616) (by decide +kernel)⟩
theorem lw_p46 : lw_okq (⟨"JumpDesk$Line", "measure", "(LJumpDesk$Group;LJumpDesk$Group;I)V"⟩, 5) := ⟨⟨by decide +kernel, by decide +kernel⟩, List.mem_of_getElem? (i := 57) (by decide +kernel), List.mem_of_getElem? (i := 619) (by decide +kernel), List.mem_of_getElem? (i := 620) (by decide +kernel)⟩
theorem lw_p47 : lw_okq (⟨"JumpDesk$Line", "begin", "(LJumpDesk$Load;)V"⟩, 5) := ⟨⟨by decide +kernel, by decide +kernel⟩, List.mem_of_getElem? (i := 57) (by decide +kernel), List.mem_of_getElem? (i := 623) (by decide +kernel), List.mem_of_getElem? (i := 624) (by decide +kernel)⟩
def lw_privs_3 : List (MethodName × Nat) := [(⟨"JumpDesk$Fall", "follow", "(LJumpDesk$Group;LJumpDesk$Plane;LJumpDesk$Air;)V"⟩, 5), (⟨"JumpDesk$Fall", "drift", "(ILJumpDesk$Air;)V"⟩, 5), (⟨"JumpDesk$Fall", "fall", "(ILJumpDesk$Group;I)V"⟩, 5), (⟨"JumpDesk$Fall", "track", "(II)V"⟩, 5), (⟨"JumpDesk$Group", "dropIn", "(I)I"⟩, 7), (⟨"JumpDesk$Group", "opensBehind", "(II)Z"⟩, 7), (⟨"JumpDesk$Load", "leavesAtX", "(I)I"⟩, 9), (⟨"JumpDesk$Fall", "stateAt", "(I)I"⟩, 5), (⟨"JumpDesk$Fall", "nearTo", "(LJumpDesk$Fall;IIJ)J"⟩, 5), (⟨"JumpDesk", "leastPause", "(LJumpDesk$Fall;LJumpDesk$Fall;I)I"⟩, 11), (⟨"JumpDesk", "areFree", "(LJumpDesk$Fall;LJumpDesk$Fall;II)Z"⟩, 11), (⟨"JumpDesk", "measurePauses", "(LJumpDesk$Load;)V"⟩, 11), (⟨"JumpDesk", "followAll", "(LJumpDesk$Load;)V"⟩, 11), (⟨"JumpDesk", "mayLeaveAhead", "(LJumpDesk$Group;LJumpDesk$Group;)Z"⟩, 11), (⟨"JumpDesk$Line", "measure", "(LJumpDesk$Group;LJumpDesk$Group;I)V"⟩, 5), (⟨"JumpDesk$Line", "begin", "(LJumpDesk$Load;)V"⟩, 5)]
theorem lw_r3 : ∀ q ∈ lw_privs_3, lw_okq q := List.forall_mem_cons.mpr ⟨lw_p32, List.forall_mem_cons.mpr ⟨lw_p33, List.forall_mem_cons.mpr ⟨lw_p34, List.forall_mem_cons.mpr ⟨lw_p35, List.forall_mem_cons.mpr ⟨lw_p36, List.forall_mem_cons.mpr ⟨lw_p37, List.forall_mem_cons.mpr ⟨lw_p38, List.forall_mem_cons.mpr ⟨lw_p39, List.forall_mem_cons.mpr ⟨lw_p40, List.forall_mem_cons.mpr ⟨lw_p41, List.forall_mem_cons.mpr ⟨lw_p42, List.forall_mem_cons.mpr ⟨lw_p43, List.forall_mem_cons.mpr ⟨lw_p44, List.forall_mem_cons.mpr ⟨lw_p45, List.forall_mem_cons.mpr ⟨lw_p46, List.forall_mem_cons.mpr ⟨lw_p47, fun _ h => absurd h List.not_mem_nil⟩⟩⟩⟩⟩⟩⟩⟩⟩⟩⟩⟩⟩⟩⟩⟩
theorem lw_p48 : lw_okq (⟨"JumpDesk$Line", "findShortest", "()Z"⟩, 5) := ⟨⟨by decide +kernel, by decide +kernel⟩, List.mem_of_getElem? (i := 57) (by decide +kernel), List.mem_of_getElem? (i := 627) (by decide +kernel), List.mem_of_getElem? (i := 628) (by decide +kernel)⟩
theorem lw_p49 : lw_okq (⟨"JumpDesk$Line", "sumOfRow", "()I"⟩, 5) := ⟨⟨by decide +kernel, by decide +kernel⟩, List.mem_of_getElem? (i := 57) (by decide +kernel), List.mem_of_getElem? (i := 631) (by decide +kernel), List.mem_of_getElem? (i := 632) (by decide +kernel)⟩
theorem lw_p50 : lw_okq (⟨"JumpDesk$Line", "pauseBetween", "(II)I"⟩, 5) := ⟨⟨by decide +kernel, by decide +kernel⟩, List.mem_of_getElem? (i := 57) (by decide +kernel), List.mem_of_getElem? (i := 635) (by decide +kernel), List.mem_of_getElem? (i := 636) (by decide +kernel)⟩
theorem lw_p51 : lw_okq (⟨"JumpDesk$Line", "stepRow", "()Z"⟩, 5) := ⟨⟨by decide +kernel, by decide +kernel⟩, List.mem_of_getElem? (i := 57) (by decide +kernel), List.mem_of_getElem? (i := 642) (by decide +kernel), List.mem_of_getElem? (i := 643) (by decide +kernel)⟩
theorem lw_p52 : lw_okq (⟨"JumpDesk$Line", "swap", "(II)V"⟩, 5) := ⟨⟨by decide +kernel, by decide +kernel⟩, List.mem_of_getElem? (i := 57) (by decide +kernel), List.mem_of_getElem? (i := 646) (by decide +kernel), List.mem_of_getElem? (i := 647) (by decide +kernel)⟩
theorem lw_p53 : lw_okq (⟨"JumpDesk$Line", "giveTo", "(LJumpDesk$Load;[LJumpDesk$Group;)V"⟩, 5) := ⟨⟨by decide +kernel, by decide +kernel⟩, List.mem_of_getElem? (i := 57) (by decide +kernel), List.mem_of_getElem? (i := 650) (by decide +kernel), List.mem_of_getElem? (i := 651) (by decide +kernel)⟩
theorem lw_p54 : lw_okq (⟨"JumpDesk", "roomAlongX", "(LJumpDesk$Group;LJumpDesk$Fall;)I"⟩, 11) := ⟨⟨by decide +kernel, by decide +kernel⟩, List.mem_of_getElem? (i := 14) (by decide +kernel), List.mem_of_getElem? (i := 659) (by decide +kernel), List.mem_of_getElem? (i := 660) (by decide +kernel)⟩
theorem lw_p55 : lw_okq (⟨"JumpDesk$Fall", "downY", "()I"⟩, 5) := ⟨⟨by decide +kernel, by decide +kernel⟩, List.mem_of_getElem? (i := 236) (by decide +kernel), List.mem_of_getElem? (i := 663) (by decide +kernel), List.mem_of_getElem? (i := 664) (by decide +kernel)⟩
theorem lw_p56 : lw_okq (⟨"JumpDesk", "reachSquare", "(LJumpDesk$Group;LJumpDesk$Fall;)J"⟩, 11) := ⟨⟨by decide +kernel, by decide +kernel⟩, List.mem_of_getElem? (i := 14) (by decide +kernel), List.mem_of_getElem? (i := 667) (by decide +kernel), List.mem_of_getElem? (i := 668) (by decide +kernel)⟩
theorem lw_p57 : lw_okq (⟨"JumpDesk$Fall", "secondsOpen", "()I"⟩, 5) := ⟨⟨by decide +kernel, by decide +kernel⟩, List.mem_of_getElem? (i := 236) (by decide +kernel), List.mem_of_getElem? (i := 671) (by decide +kernel), List.mem_of_getElem? (i := 672) (by decide +kernel)⟩
theorem lw_p58 : lw_okq (⟨"JumpDesk$Fall", "downX", "()I"⟩, 5) := ⟨⟨by decide +kernel, by decide +kernel⟩, List.mem_of_getElem? (i := 236) (by decide +kernel), List.mem_of_getElem? (i := 680) (by decide +kernel), List.mem_of_getElem? (i := 681) (by decide +kernel)⟩
theorem lw_p59 : lw_okq (⟨"JumpDesk$Load", "lacksJumpers", "()Z"⟩, 9) := ⟨⟨by decide +kernel, by decide +kernel⟩, List.mem_of_getElem? (i := 188) (by decide +kernel), List.mem_of_getElem? (i := 688) (by decide +kernel), List.mem_of_getElem? (i := 689) (by decide +kernel)⟩
theorem lw_p60 : lw_okq (⟨"JumpDesk$Load", "jumperCount", "()I"⟩, 9) := ⟨⟨by decide +kernel, by decide +kernel⟩, List.mem_of_getElem? (i := 188) (by decide +kernel), List.mem_of_getElem? (i := 692) (by decide +kernel), List.mem_of_getElem? (i := 693) (by decide +kernel)⟩
theorem lw_p61 : lw_okq (⟨"JumpDesk$Load", "weight", "()I"⟩, 9) := ⟨⟨by decide +kernel, by decide +kernel⟩, List.mem_of_getElem? (i := 188) (by decide +kernel), List.mem_of_getElem? (i := 696) (by decide +kernel), List.mem_of_getElem? (i := 697) (by decide +kernel)⟩
theorem lw_p62 : lw_okq (⟨"JumpDesk$Load", "isWornOn", "(I)Z"⟩, 9) := ⟨⟨by decide +kernel, by decide +kernel⟩, List.mem_of_getElem? (i := 188) (by decide +kernel), List.mem_of_getElem? (i := 701) (by decide +kernel), List.mem_of_getElem? (i := 702) (by decide +kernel)⟩
theorem lw_p63 : lw_okq (⟨"JumpDesk$Group", "isWornOn", "(I)Z"⟩, 7) := ⟨⟨by decide +kernel, by decide +kernel⟩, List.mem_of_getElem? (i := 123) (by decide +kernel), List.mem_of_getElem? (i := 705) (by decide +kernel), List.mem_of_getElem? (i := 706) (by decide +kernel)⟩
def lw_privs_4 : List (MethodName × Nat) := [(⟨"JumpDesk$Line", "findShortest", "()Z"⟩, 5), (⟨"JumpDesk$Line", "sumOfRow", "()I"⟩, 5), (⟨"JumpDesk$Line", "pauseBetween", "(II)I"⟩, 5), (⟨"JumpDesk$Line", "stepRow", "()Z"⟩, 5), (⟨"JumpDesk$Line", "swap", "(II)V"⟩, 5), (⟨"JumpDesk$Line", "giveTo", "(LJumpDesk$Load;[LJumpDesk$Group;)V"⟩, 5), (⟨"JumpDesk", "roomAlongX", "(LJumpDesk$Group;LJumpDesk$Fall;)I"⟩, 11), (⟨"JumpDesk$Fall", "downY", "()I"⟩, 5), (⟨"JumpDesk", "reachSquare", "(LJumpDesk$Group;LJumpDesk$Fall;)J"⟩, 11), (⟨"JumpDesk$Fall", "secondsOpen", "()I"⟩, 5), (⟨"JumpDesk$Fall", "downX", "()I"⟩, 5), (⟨"JumpDesk$Load", "lacksJumpers", "()Z"⟩, 9), (⟨"JumpDesk$Load", "jumperCount", "()I"⟩, 9), (⟨"JumpDesk$Load", "weight", "()I"⟩, 9), (⟨"JumpDesk$Load", "isWornOn", "(I)Z"⟩, 9), (⟨"JumpDesk$Group", "isWornOn", "(I)Z"⟩, 7)]
theorem lw_r4 : ∀ q ∈ lw_privs_4, lw_okq q := List.forall_mem_cons.mpr ⟨lw_p48, List.forall_mem_cons.mpr ⟨lw_p49, List.forall_mem_cons.mpr ⟨lw_p50, List.forall_mem_cons.mpr ⟨lw_p51, List.forall_mem_cons.mpr ⟨lw_p52, List.forall_mem_cons.mpr ⟨lw_p53, List.forall_mem_cons.mpr ⟨lw_p54, List.forall_mem_cons.mpr ⟨lw_p55, List.forall_mem_cons.mpr ⟨lw_p56, List.forall_mem_cons.mpr ⟨lw_p57, List.forall_mem_cons.mpr ⟨lw_p58, List.forall_mem_cons.mpr ⟨lw_p59, List.forall_mem_cons.mpr ⟨lw_p60, List.forall_mem_cons.mpr ⟨lw_p61, List.forall_mem_cons.mpr ⟨lw_p62, List.forall_mem_cons.mpr ⟨lw_p63, fun _ h => absurd h List.not_mem_nil⟩⟩⟩⟩⟩⟩⟩⟩⟩⟩⟩⟩⟩⟩⟩⟩
theorem lw_p64 : lw_okq (⟨"JumpDesk$Load", "holdsOneTwice", "()Z"⟩, 9) := ⟨⟨by decide +kernel, by decide +kernel⟩, List.mem_of_getElem? (i := 188) (by decide +kernel), List.mem_of_getElem? (i := 709) (by decide +kernel), List.mem_of_getElem? (i := 710) (by decide +kernel)⟩
theorem lw_p65 : lw_okq (⟨"JumpDesk$Group", "sharesOneWith", "(LJumpDesk$Group;)Z"⟩, 7) := ⟨⟨by decide +kernel, by decide +kernel⟩, List.mem_of_getElem? (i := 123) (by decide +kernel), List.mem_of_getElem? (i := 713) (by decide +kernel), List.mem_of_getElem? (i := 714) (by decide +kernel)⟩
theorem lw_p66 : lw_okq (⟨"JumpDesk$Load", "lacksHelp", "()Z"⟩, 9) := ⟨⟨by decide +kernel, by decide +kernel⟩, List.mem_of_getElem? (i := 188) (by decide +kernel), List.mem_of_getElem? (i := 718) (by decide +kernel), List.mem_of_getElem? (i := 719) (by decide +kernel)⟩
theorem lw_p67 : lw_okq (⟨"JumpDesk$Group", "lacksHelp", "()Z"⟩, 7) := ⟨⟨by decide +kernel, by decide +kernel⟩, List.mem_of_getElem? (i := 123) (by decide +kernel), List.mem_of_getElem? (i := 722) (by decide +kernel), List.mem_of_getElem? (i := 723) (by decide +kernel)⟩
theorem lw_p68 : lw_okq (⟨"JumpDesk$Group", "countOf", "(I)I"⟩, 7) := ⟨⟨by decide +kernel, by decide +kernel⟩, List.mem_of_getElem? (i := 123) (by decide +kernel), List.mem_of_getElem? (i := 726) (by decide +kernel), List.mem_of_getElem? (i := 727) (by decide +kernel)⟩
theorem lw_p69 : lw_okq (⟨"JumpDesk", "whyByFall", "(LJumpDesk$Load;)I"⟩, 11) := ⟨⟨by decide +kernel, by decide +kernel⟩, List.mem_of_getElem? (i := 14) (by decide +kernel), List.mem_of_getElem? (i := 730) (by decide +kernel), List.mem_of_getElem? (i := 731) (by decide +kernel)⟩
theorem lw_p70 : lw_okq (⟨"JumpDesk", "isTooWindy", "(LJumpDesk$Load;)Z"⟩, 11) := ⟨⟨by decide +kernel, by decide +kernel⟩, List.mem_of_getElem? (i := 14) (by decide +kernel), List.mem_of_getElem? (i := 734) (by decide +kernel), List.mem_of_getElem? (i := 735) (by decide +kernel)⟩
theorem lw_p71 : lw_okq (⟨"JumpDesk$Air", "squareOnGround", "()I"⟩, 2) := ⟨⟨by decide +kernel, by decide +kernel⟩, List.mem_of_getElem? (i := 24) (by decide +kernel), List.mem_of_getElem? (i := 738) (by decide +kernel), List.mem_of_getElem? (i := 739) (by decide +kernel)⟩
theorem lw_p72 : lw_okq (⟨"JumpDesk", "ranksAllow", "(LJumpDesk$Load;)Z"⟩, 11) := ⟨⟨by decide +kernel, by decide +kernel⟩, List.mem_of_getElem? (i := 14) (by decide +kernel), List.mem_of_getElem? (i := 742) (by decide +kernel), List.mem_of_getElem? (i := 743) (by decide +kernel)⟩
theorem lw_p73 : lw_okq (⟨"JumpDesk", "allFree", "(LJumpDesk$Load;)Z"⟩, 11) := ⟨⟨by decide +kernel, by decide +kernel⟩, List.mem_of_getElem? (i := 14) (by decide +kernel), List.mem_of_getElem? (i := 746) (by decide +kernel), List.mem_of_getElem? (i := 747) (by decide +kernel)⟩
theorem lw_p74 : lw_okq (⟨"JumpDesk", "allHome", "(LJumpDesk$Load;)Z"⟩, 11) := ⟨⟨by decide +kernel, by decide +kernel⟩, List.mem_of_getElem? (i := 14) (by decide +kernel), List.mem_of_getElem? (i := 750) (by decide +kernel), List.mem_of_getElem? (i := 751) (by decide +kernel)⟩
theorem lw_p75 : lw_okq (⟨"JumpDesk$Load", "goUp", "()V"⟩, 9) := ⟨⟨by decide +kernel, by decide +kernel⟩, List.mem_of_getElem? (i := 188) (by decide +kernel), List.mem_of_getElem? (i := 759) (by decide +kernel), List.mem_of_getElem? (i := 760) (by decide +kernel)⟩
theorem lw_p76 : lw_okq (⟨"JumpDesk$Plane", "becomeAs", "(LJumpDesk$Plane;)V"⟩, 5) := ⟨⟨by decide +kernel, by decide +kernel⟩, List.mem_of_getElem? (i := 159) (by decide +kernel), List.mem_of_getElem? (i := 763) (by decide +kernel), List.mem_of_getElem? (i := 764) (by decide +kernel)⟩
theorem lw_p77 : lw_okq (⟨"JumpDesk$Air", "blowAs", "(LJumpDesk$Air;)V"⟩, 2) := ⟨⟨by decide +kernel, by decide +kernel⟩, List.mem_of_getElem? (i := 24) (by decide +kernel), List.mem_of_getElem? (i := 768) (by decide +kernel), List.mem_of_getElem? (i := 769) (by decide +kernel)⟩
theorem lw_p78 : lw_okq (⟨"JumpDesk", "leftCount", "()I"⟩, 11) := ⟨⟨by decide +kernel, by decide +kernel⟩, List.mem_of_getElem? (i := 14) (by decide +kernel), List.mem_of_getElem? (i := 776) (by decide +kernel), List.mem_of_getElem? (i := 777) (by decide +kernel)⟩
theorem lw_p79 : lw_okq (⟨"JumpDesk", "upCount", "()I"⟩, 11) := ⟨⟨by decide +kernel, by decide +kernel⟩, List.mem_of_getElem? (i := 14) (by decide +kernel), List.mem_of_getElem? (i := 780) (by decide +kernel), List.mem_of_getElem? (i := 781) (by decide +kernel)⟩
def lw_privs_5 : List (MethodName × Nat) := [(⟨"JumpDesk$Load", "holdsOneTwice", "()Z"⟩, 9), (⟨"JumpDesk$Group", "sharesOneWith", "(LJumpDesk$Group;)Z"⟩, 7), (⟨"JumpDesk$Load", "lacksHelp", "()Z"⟩, 9), (⟨"JumpDesk$Group", "lacksHelp", "()Z"⟩, 7), (⟨"JumpDesk$Group", "countOf", "(I)I"⟩, 7), (⟨"JumpDesk", "whyByFall", "(LJumpDesk$Load;)I"⟩, 11), (⟨"JumpDesk", "isTooWindy", "(LJumpDesk$Load;)Z"⟩, 11), (⟨"JumpDesk$Air", "squareOnGround", "()I"⟩, 2), (⟨"JumpDesk", "ranksAllow", "(LJumpDesk$Load;)Z"⟩, 11), (⟨"JumpDesk", "allFree", "(LJumpDesk$Load;)Z"⟩, 11), (⟨"JumpDesk", "allHome", "(LJumpDesk$Load;)Z"⟩, 11), (⟨"JumpDesk$Load", "goUp", "()V"⟩, 9), (⟨"JumpDesk$Plane", "becomeAs", "(LJumpDesk$Plane;)V"⟩, 5), (⟨"JumpDesk$Air", "blowAs", "(LJumpDesk$Air;)V"⟩, 2), (⟨"JumpDesk", "leftCount", "()I"⟩, 11), (⟨"JumpDesk", "upCount", "()I"⟩, 11)]
theorem lw_r5 : ∀ q ∈ lw_privs_5, lw_okq q := List.forall_mem_cons.mpr ⟨lw_p64, List.forall_mem_cons.mpr ⟨lw_p65, List.forall_mem_cons.mpr ⟨lw_p66, List.forall_mem_cons.mpr ⟨lw_p67, List.forall_mem_cons.mpr ⟨lw_p68, List.forall_mem_cons.mpr ⟨lw_p69, List.forall_mem_cons.mpr ⟨lw_p70, List.forall_mem_cons.mpr ⟨lw_p71, List.forall_mem_cons.mpr ⟨lw_p72, List.forall_mem_cons.mpr ⟨lw_p73, List.forall_mem_cons.mpr ⟨lw_p74, List.forall_mem_cons.mpr ⟨lw_p75, List.forall_mem_cons.mpr ⟨lw_p76, List.forall_mem_cons.mpr ⟨lw_p77, List.forall_mem_cons.mpr ⟨lw_p78, List.forall_mem_cons.mpr ⟨lw_p79, fun _ h => absurd h List.not_mem_nil⟩⟩⟩⟩⟩⟩⟩⟩⟩⟩⟩⟩⟩⟩⟩⟩
theorem lw_p80 : lw_okq (⟨"JumpDeskModel", "filled", "(II)F"⟩, 48) := ⟨⟨by decide +kernel, by decide +kernel⟩, List.mem_of_getElem? (i := 784) (by decide +kernel), List.mem_of_getElem? (i := 965) (by decide +kernel), List.mem_of_getElem? (i := 966) (by decide +kernel)⟩
theorem lw_p81 : lw_okq (⟨"JumpDeskModel", "nearest", "(III)I"⟩, 48) := ⟨⟨by decide +kernel, by decide +kernel⟩, List.mem_of_getElem? (i := 784) (by decide +kernel), List.mem_of_getElem? (i := 969) (by decide +kernel), List.mem_of_getElem? (i := 970) (by decide +kernel)⟩
theorem lw_p82 : lw_okq (⟨"JumpDeskModel", "tenTimes", "(II)I"⟩, 48) := ⟨⟨by decide +kernel, by decide +kernel⟩, List.mem_of_getElem? (i := 784) (by decide +kernel), List.mem_of_getElem? (i := 978) (by decide +kernel), List.mem_of_getElem? (i := 979) (by decide +kernel)⟩
theorem lw_p83 : lw_okq (⟨"JumpDeskModel", "isGroup", "(I)Z"⟩, 48) := ⟨⟨by decide +kernel, by decide +kernel⟩, List.mem_of_getElem? (i := 784) (by decide +kernel), List.mem_of_getElem? (i := 1014) (by decide +kernel), List.mem_of_getElem? (i := 1015) (by decide +kernel)⟩
theorem lw_p84 : lw_okq (⟨"JumpDeskModel", "isInSome", "(IZ)Z"⟩, 48) := ⟨⟨by decide +kernel, by decide +kernel⟩, List.mem_of_getElem? (i := 784) (by decide +kernel), List.mem_of_getElem? (i := 1018) (by decide +kernel), List.mem_of_getElem? (i := 1019) (by decide +kernel)⟩
theorem lw_p85 : lw_okq (⟨"JumpDeskModel", "hasJumper", "(II)Z"⟩, 48) := ⟨⟨by decide +kernel, by decide +kernel⟩, List.mem_of_getElem? (i := 784) (by decide +kernel), List.mem_of_getElem? (i := 1022) (by decide +kernel), List.mem_of_getElem? (i := 1023) (by decide +kernel)⟩
theorem lw_p86 : lw_okq (⟨"JumpDeskModel", "weightIn", "(I)I"⟩, 48) := ⟨⟨by decide +kernel, by decide +kernel⟩, List.mem_of_getElem? (i := 784) (by decide +kernel), List.mem_of_getElem? (i := 1030) (by decide +kernel), List.mem_of_getElem? (i := 1031) (by decide +kernel)⟩
theorem lw_p87 : lw_okq (⟨"JumpDeskModel", "isLoad", "(I)Z"⟩, 48) := ⟨⟨by decide +kernel, by decide +kernel⟩, List.mem_of_getElem? (i := 784) (by decide +kernel), List.mem_of_getElem? (i := 1056) (by decide +kernel), List.mem_of_getElem? (i := 1057) (by decide +kernel)⟩
theorem lw_p88 : lw_okq (⟨"JumpDeskModel", "isIn", "(II)Z"⟩, 48) := ⟨⟨by decide +kernel, by decide +kernel⟩, List.mem_of_getElem? (i := 784) (by decide +kernel), List.mem_of_getElem? (i := 1065) (by decide +kernel), List.mem_of_getElem? (i := 1066) (by decide +kernel)⟩
theorem lw_p89 : lw_okq (⟨"JumpDeskModel", "leavesAt", "(II)I"⟩, 48) := ⟨⟨by decide +kernel, by decide +kernel⟩, List.mem_of_getElem? (i := 784) (by decide +kernel), List.mem_of_getElem? (i := 1083) (by decide +kernel), List.mem_of_getElem? (i := 1084) (by decide +kernel)⟩
theorem lw_p90 : lw_okq (⟨"JumpDeskModel", "takeLoad", "(I)V"⟩, 48) := ⟨⟨by decide +kernel, by decide +kernel⟩, List.mem_of_getElem? (i := 784) (by decide +kernel), List.mem_of_getElem? (i := 1092) (by decide +kernel), List.mem_of_getElem? (i := 1093) (by decide +kernel)⟩
theorem lw_p91 : lw_okq (⟨"JumpDeskModel", "takePlane", "(I)V"⟩, 48) := ⟨⟨by decide +kernel, by decide +kernel⟩, List.mem_of_getElem? (i := 784) (by decide +kernel), List.mem_of_getElem? (i := 1096) (by decide +kernel), List.mem_of_getElem? (i := 1097) (by decide +kernel)⟩
theorem lw_p92 : lw_okq (⟨"JumpDeskModel", "layOut", "(II)V"⟩, 48) := ⟨⟨by decide +kernel, by decide +kernel⟩, List.mem_of_getElem? (i := 784) (by decide +kernel), List.mem_of_getElem? (i := 1100) (by decide +kernel), List.mem_of_getElem? (i := 1101) (by decide +kernel)⟩
theorem lw_p93 : lw_okq (⟨"JumpDeskModel", "fall", "(III)V"⟩, 48) := ⟨⟨by decide +kernel, by decide +kernel⟩, List.mem_of_getElem? (i := 784) (by decide +kernel), List.mem_of_getElem? (i := 1104) (by decide +kernel), List.mem_of_getElem? (i := 1105) (by decide +kernel)⟩
theorem lw_p94 : lw_okq (⟨"JumpDeskModel", "nearOf", "(III)J"⟩, 48) := ⟨⟨by decide +kernel, by decide +kernel⟩, List.mem_of_getElem? (i := 784) (by decide +kernel), List.mem_of_getElem? (i := 1116) (by decide +kernel), List.mem_of_getElem? (i := 1117) (by decide +kernel)⟩
theorem lw_p95 : lw_okq (⟨"JumpDeskModel", "nearBy", "(I)J"⟩, 48) := ⟨⟨by decide +kernel, by decide +kernel⟩, List.mem_of_getElem? (i := 784) (by decide +kernel), List.mem_of_getElem? (i := 1120) (by decide +kernel), List.mem_of_getElem? (i := 1121) (by decide +kernel)⟩
def lw_privs_6 : List (MethodName × Nat) := [(⟨"JumpDeskModel", "filled", "(II)F"⟩, 48), (⟨"JumpDeskModel", "nearest", "(III)I"⟩, 48), (⟨"JumpDeskModel", "tenTimes", "(II)I"⟩, 48), (⟨"JumpDeskModel", "isGroup", "(I)Z"⟩, 48), (⟨"JumpDeskModel", "isInSome", "(IZ)Z"⟩, 48), (⟨"JumpDeskModel", "hasJumper", "(II)Z"⟩, 48), (⟨"JumpDeskModel", "weightIn", "(I)I"⟩, 48), (⟨"JumpDeskModel", "isLoad", "(I)Z"⟩, 48), (⟨"JumpDeskModel", "isIn", "(II)Z"⟩, 48), (⟨"JumpDeskModel", "leavesAt", "(II)I"⟩, 48), (⟨"JumpDeskModel", "takeLoad", "(I)V"⟩, 48), (⟨"JumpDeskModel", "takePlane", "(I)V"⟩, 48), (⟨"JumpDeskModel", "layOut", "(II)V"⟩, 48), (⟨"JumpDeskModel", "fall", "(III)V"⟩, 48), (⟨"JumpDeskModel", "nearOf", "(III)J"⟩, 48), (⟨"JumpDeskModel", "nearBy", "(I)J"⟩, 48)]
theorem lw_r6 : ∀ q ∈ lw_privs_6, lw_okq q := List.forall_mem_cons.mpr ⟨lw_p80, List.forall_mem_cons.mpr ⟨lw_p81, List.forall_mem_cons.mpr ⟨lw_p82, List.forall_mem_cons.mpr ⟨lw_p83, List.forall_mem_cons.mpr ⟨lw_p84, List.forall_mem_cons.mpr ⟨lw_p85, List.forall_mem_cons.mpr ⟨lw_p86, List.forall_mem_cons.mpr ⟨lw_p87, List.forall_mem_cons.mpr ⟨lw_p88, List.forall_mem_cons.mpr ⟨lw_p89, List.forall_mem_cons.mpr ⟨lw_p90, List.forall_mem_cons.mpr ⟨lw_p91, List.forall_mem_cons.mpr ⟨lw_p92, List.forall_mem_cons.mpr ⟨lw_p93, List.forall_mem_cons.mpr ⟨lw_p94, List.forall_mem_cons.mpr ⟨lw_p95, fun _ h => absurd h List.not_mem_nil⟩⟩⟩⟩⟩⟩⟩⟩⟩⟩⟩⟩⟩⟩⟩⟩
theorem lw_p96 : lw_okq (⟨"JumpDeskModel", "betweenOf", "(II)I"⟩, 48) := ⟨⟨by decide +kernel, by decide +kernel⟩, List.mem_of_getElem? (i := 784) (by decide +kernel), List.mem_of_getElem? (i := 1129) (by decide +kernel), List.mem_of_getElem? (i := 1130) (by decide +kernel)⟩
theorem lw_p97 : lw_okq (⟨"JumpDeskModel", "isFree", "(J)Z"⟩, 48) := ⟨⟨by decide +kernel, by decide +kernel⟩, List.mem_of_getElem? (i := 784) (by decide +kernel), List.mem_of_getElem? (i := 1133) (by decide +kernel), List.mem_of_getElem? (i := 1134) (by decide +kernel)⟩
theorem lw_p98 : lw_okq (⟨"JumpDeskModel", "sortGroups", "(I)V"⟩, 48) := ⟨⟨by decide +kernel, by decide +kernel⟩, List.mem_of_getElem? (i := 784) (by decide +kernel), List.mem_of_getElem? (i := 1141) (by decide +kernel), List.mem_of_getElem? (i := 1142) (by decide +kernel)⟩
theorem lw_p99 : lw_okq (⟨"JumpDeskModel", "sumOf", "(I)I"⟩, 48) := ⟨⟨by decide +kernel, by decide +kernel⟩, List.mem_of_getElem? (i := 784) (by decide +kernel), List.mem_of_getElem? (i := 1145) (by decide +kernel), List.mem_of_getElem? (i := 1146) (by decide +kernel)⟩
theorem lw_p100 : lw_okq (⟨"JumpDeskModel", "rankOf", "(I)I"⟩, 48) := ⟨⟨by decide +kernel, by decide +kernel⟩, List.mem_of_getElem? (i := 784) (by decide +kernel), List.mem_of_getElem? (i := 1149) (by decide +kernel), List.mem_of_getElem? (i := 1150) (by decide +kernel)⟩
theorem lw_p101 : lw_okq (⟨"JumpDeskModel", "nextOrder", "(I)Z"⟩, 48) := ⟨⟨by decide +kernel, by decide +kernel⟩, List.mem_of_getElem? (i := 784) (by decide +kernel), List.mem_of_getElem? (i := 1153) (by decide +kernel), List.mem_of_getElem? (i := 1154) (by decide +kernel)⟩
theorem lw_p102 : lw_okq (⟨"JumpDeskModel", "findStarts", "(I)V"⟩, 48) := ⟨⟨by decide +kernel, by decide +kernel⟩, List.mem_of_getElem? (i := 784) (by decide +kernel), List.mem_of_getElem? (i := 1162) (by decide +kernel), List.mem_of_getElem? (i := 1163) (by decide +kernel)⟩
theorem lw_p103 : lw_okq (⟨"JumpDeskModel", "barOf", "(II)I"⟩, 48) := ⟨⟨by decide +kernel, by decide +kernel⟩, List.mem_of_getElem? (i := 784) (by decide +kernel), List.mem_of_getElem? (i := 1175) (by decide +kernel), List.mem_of_getElem? (i := 1176) (by decide +kernel)⟩
theorem lw_p104 : lw_okq (⟨"JumpDeskModel", "hasEmpty", "(I)Z"⟩, 48) := ⟨⟨by decide +kernel, by decide +kernel⟩, List.mem_of_getElem? (i := 784) (by decide +kernel), List.mem_of_getElem? (i := 1179) (by decide +kernel), List.mem_of_getElem? (i := 1180) (by decide +kernel)⟩
theorem lw_p105 : lw_okq (⟨"JumpDeskModel", "jumpersIn", "(I)I"⟩, 48) := ⟨⟨by decide +kernel, by decide +kernel⟩, List.mem_of_getElem? (i := 784) (by decide +kernel), List.mem_of_getElem? (i := 1183) (by decide +kernel), List.mem_of_getElem? (i := 1184) (by decide +kernel)⟩
theorem lw_p106 : lw_okq (⟨"JumpDeskModel", "weightOn", "(I)I"⟩, 48) := ⟨⟨by decide +kernel, by decide +kernel⟩, List.mem_of_getElem? (i := 784) (by decide +kernel), List.mem_of_getElem? (i := 1187) (by decide +kernel), List.mem_of_getElem? (i := 1188) (by decide +kernel)⟩
theorem lw_p107 : lw_okq (⟨"JumpDeskModel", "hasOldGear", "(II)Z"⟩, 48) := ⟨⟨by decide +kernel, by decide +kernel⟩, List.mem_of_getElem? (i := 784) (by decide +kernel), List.mem_of_getElem? (i := 1191) (by decide +kernel), List.mem_of_getElem? (i := 1192) (by decide +kernel)⟩
theorem lw_p108 : lw_okq (⟨"JumpDeskModel", "hasTwice", "(I)Z"⟩, 48) := ⟨⟨by decide +kernel, by decide +kernel⟩, List.mem_of_getElem? (i := 784) (by decide +kernel), List.mem_of_getElem? (i := 1195) (by decide +kernel), List.mem_of_getElem? (i := 1196) (by decide +kernel)⟩
theorem lw_p109 : lw_okq (⟨"JumpDeskModel", "hasAlone", "(I)Z"⟩, 48) := ⟨⟨by decide +kernel, by decide +kernel⟩, List.mem_of_getElem? (i := 784) (by decide +kernel), List.mem_of_getElem? (i := 1199) (by decide +kernel), List.mem_of_getElem? (i := 1200) (by decide +kernel)⟩
theorem lw_p110 : lw_okq (⟨"JumpDeskModel", "sortsIn", "(II)I"⟩, 48) := ⟨⟨by decide +kernel, by decide +kernel⟩, List.mem_of_getElem? (i := 784) (by decide +kernel), List.mem_of_getElem? (i := 1203) (by decide +kernel), List.mem_of_getElem? (i := 1204) (by decide +kernel)⟩
theorem lw_p111 : lw_okq (⟨"JumpDeskModel", "blowsTooMuch", "(I)Z"⟩, 48) := ⟨⟨by decide +kernel, by decide +kernel⟩, List.mem_of_getElem? (i := 784) (by decide +kernel), List.mem_of_getElem? (i := 1207) (by decide +kernel), List.mem_of_getElem? (i := 1208) (by decide +kernel)⟩
def lw_privs_7 : List (MethodName × Nat) := [(⟨"JumpDeskModel", "betweenOf", "(II)I"⟩, 48), (⟨"JumpDeskModel", "isFree", "(J)Z"⟩, 48), (⟨"JumpDeskModel", "sortGroups", "(I)V"⟩, 48), (⟨"JumpDeskModel", "sumOf", "(I)I"⟩, 48), (⟨"JumpDeskModel", "rankOf", "(I)I"⟩, 48), (⟨"JumpDeskModel", "nextOrder", "(I)Z"⟩, 48), (⟨"JumpDeskModel", "findStarts", "(I)V"⟩, 48), (⟨"JumpDeskModel", "barOf", "(II)I"⟩, 48), (⟨"JumpDeskModel", "hasEmpty", "(I)Z"⟩, 48), (⟨"JumpDeskModel", "jumpersIn", "(I)I"⟩, 48), (⟨"JumpDeskModel", "weightOn", "(I)I"⟩, 48), (⟨"JumpDeskModel", "hasOldGear", "(II)Z"⟩, 48), (⟨"JumpDeskModel", "hasTwice", "(I)Z"⟩, 48), (⟨"JumpDeskModel", "hasAlone", "(I)Z"⟩, 48), (⟨"JumpDeskModel", "sortsIn", "(II)I"⟩, 48), (⟨"JumpDeskModel", "blowsTooMuch", "(I)Z"⟩, 48)]
theorem lw_r7 : ∀ q ∈ lw_privs_7, lw_okq q := List.forall_mem_cons.mpr ⟨lw_p96, List.forall_mem_cons.mpr ⟨lw_p97, List.forall_mem_cons.mpr ⟨lw_p98, List.forall_mem_cons.mpr ⟨lw_p99, List.forall_mem_cons.mpr ⟨lw_p100, List.forall_mem_cons.mpr ⟨lw_p101, List.forall_mem_cons.mpr ⟨lw_p102, List.forall_mem_cons.mpr ⟨lw_p103, List.forall_mem_cons.mpr ⟨lw_p104, List.forall_mem_cons.mpr ⟨lw_p105, List.forall_mem_cons.mpr ⟨lw_p106, List.forall_mem_cons.mpr ⟨lw_p107, List.forall_mem_cons.mpr ⟨lw_p108, List.forall_mem_cons.mpr ⟨lw_p109, List.forall_mem_cons.mpr ⟨lw_p110, List.forall_mem_cons.mpr ⟨lw_p111, fun _ h => absurd h List.not_mem_nil⟩⟩⟩⟩⟩⟩⟩⟩⟩⟩⟩⟩⟩⟩⟩⟩
theorem lw_p112 : lw_okq (⟨"JumpDeskModel", "areRanksWrong", "(I)Z"⟩, 48) := ⟨⟨by decide +kernel, by decide +kernel⟩, List.mem_of_getElem? (i := 784) (by decide +kernel), List.mem_of_getElem? (i := 1211) (by decide +kernel), List.mem_of_getElem? (i := 1212) (by decide +kernel)⟩
theorem lw_p113 : lw_okq (⟨"JumpDeskModel", "areSomeNear", "(I)Z"⟩, 48) := ⟨⟨by decide +kernel, by decide +kernel⟩, List.mem_of_getElem? (i := 784) (by decide +kernel), List.mem_of_getElem? (i := 1215) (by decide +kernel), List.mem_of_getElem? (i := 1216) (by decide +kernel)⟩
theorem lw_p114 : lw_okq (⟨"JumpDeskModel", "isSomeOut", "(I)Z"⟩, 48) := ⟨⟨by decide +kernel, by decide +kernel⟩, List.mem_of_getElem? (i := 784) (by decide +kernel), List.mem_of_getElem? (i := 1219) (by decide +kernel), List.mem_of_getElem? (i := 1220) (by decide +kernel)⟩
def lw_privs_8 : List (MethodName × Nat) := [(⟨"JumpDeskModel", "areRanksWrong", "(I)Z"⟩, 48), (⟨"JumpDeskModel", "areSomeNear", "(I)Z"⟩, 48), (⟨"JumpDeskModel", "isSomeOut", "(I)Z"⟩, 48)]
theorem lw_r8 : ∀ q ∈ lw_privs_8, lw_okq q := List.forall_mem_cons.mpr ⟨lw_p112, List.forall_mem_cons.mpr ⟨lw_p113, List.forall_mem_cons.mpr ⟨lw_p114, fun _ h => absurd h List.not_mem_nil⟩⟩⟩
def lw_privs : List (MethodName × Nat) := lw_privs_1 ++ (lw_privs_2 ++ (lw_privs_3 ++ (lw_privs_4 ++ (lw_privs_5 ++ (lw_privs_6 ++ (lw_privs_7 ++ (lw_privs_8)))))))
def lw_tbl : List Cond := k2_sels lw_privs ++ tables_1
theorem lw_privs_ok : ∀ q ∈ lw_privs, lw_okq q := by
  show ∀ q ∈ lw_privs_1 ++ (lw_privs_2 ++ (lw_privs_3 ++ (lw_privs_4 ++ (lw_privs_5 ++ (lw_privs_6 ++ (lw_privs_7 ++ (lw_privs_8))))))), lw_okq q
  exact List.forall_mem_append.mpr ⟨lw_r1, List.forall_mem_append.mpr ⟨lw_r2, List.forall_mem_append.mpr ⟨lw_r3, List.forall_mem_append.mpr ⟨lw_r4, List.forall_mem_append.mpr ⟨lw_r5, List.forall_mem_append.mpr ⟨lw_r6, List.forall_mem_append.mpr ⟨lw_r7, lw_r8⟩⟩⟩⟩⟩⟩⟩
/-- the streams that the claim lets the run draw from -/
abbrev lw_cs : List Choice := [Jvm.Choice.named "NaN.bits"]
theorem lw_bits : nanBits ∈ lw_cs := by first | decide | exact List.mem_cons_self | simp [lw_cs, nanBits]
/-! ===== BEGIN words of one list among another's, by their places ===== -/
theorem goodIn_r {big : List Cond} (ws : List Cond) (ps : List Nat) (hp : ws = ps.filterMap (fun i => big[i]?)) (h : ws.all goodWord = true) : GoodIn big ws := by
  intro w hw
  have h1 := List.all_eq_true.mp h w hw
  rw [hp] at hw
  obtain ⟨i, -, hi⟩ := List.mem_filterMap.mp hw
  have hm : w ∈ big := by first | exact List.mem_of_getElem? hi | exact List.getElem?_mem hi
  exact ⟨hm, good_of_word h1⟩
theorem goodIn_app {big a b : List Cond} (ha : GoodIn big a) (hb : GoodIn big b) : GoodIn big (a ++ b) := fun w h => (List.mem_append.mp h).elim (ha w) (hb w)
theorem goodIn_ca {big a b : List Cond} {c : Cond} (ha : GoodIn big (c :: a)) (hb : GoodIn big b) : GoodIn big (c :: (a ++ b)) := fun w h => (List.mem_cons.mp h).elim (fun e => ha w (List.mem_cons.mpr (Or.inl e))) (fun h => (List.mem_append.mp h).elim (fun h => ha w (List.mem_cons.mpr (Or.inr h))) (hb w))
theorem goodIn_sub {big ws : List Cond} (hm : ∀ w ∈ ws, w ∈ big) (h : ws.all goodWord = true) : GoodIn big ws := fun w hw => ⟨hm w hw, good_of_word (List.all_eq_true.mp h w hw)⟩
/-! ===== END ===== -/

/-! ===== BEGIN printed: names, fields, word lists, decode rows ===== -/
def RX0 : String := "JumpDesk$Air"
def TX0 : u_T := fun k => match k with
  | 0 => ("JumpDesk$Air", "x", "[I", true)
  | _ => ("JumpDesk$Air", "y", "[I", true)
def tyX0 : Nat → FieldType := fun k => match k with
  | 0 => .array .int
  | _ => .array .int
abbrev wsX00 : List Cond := u_ws RX0 TX0 2
theorem nmX0 : ∀ a, a < 2 → ∀ b, b < 2 → a ≠ b → (TX0 a).2.1 ≠ (TX0 b).2.1 := by decide +kernel
theorem tyX0_ok : ∀ k, k < 2 → parseFieldDescriptor (TX0 k).2.2.1 = some (tyX0 k) := by decide +kernel
abbrev cX0_init : ByteArray := prog_2_method_1_code
def yX0_init : MethodName := ⟨RX0, "<init>", "()V"⟩
abbrev cX0_blowAt : ByteArray := prog_2_method_2_code
def yX0_blowAt : MethodName := ⟨RX0, "blowAt", "(III)V"⟩
abbrev cX0_blowAs : ByteArray := prog_2_method_3_code
def yX0_blowAs : MethodName := ⟨RX0, "blowAs", "(LJumpDesk$Air;)V"⟩
abbrev cX0_alongX : ByteArray := prog_2_method_4_code
def yX0_alongX : MethodName := ⟨RX0, "alongX", "(I)I"⟩
abbrev cX0_alongY : ByteArray := prog_2_method_5_code
def yX0_alongY : MethodName := ⟨RX0, "alongY", "(I)I"⟩
abbrev cX0_squareOnGround : ByteArray := prog_2_method_6_code
def yX0_squareOnGround : MethodName := ⟨RX0, "squareOnGround", "()I"⟩
def RX1 : String := "JumpDesk$Fall"
def TX1 : u_T := fun k => match k with
  | 0 => ("JumpDesk$Fall", "x", "[I", true)
  | 1 => ("JumpDesk$Fall", "y", "[I", true)
  | 2 => ("JumpDesk$Fall", "height", "[I", true)
  | 3 => ("JumpDesk$Fall", "opened", "I", false)
  | _ => ("JumpDesk$Fall", "down", "I", false)
def tyX1 : Nat → FieldType := fun k => match k with
  | 0 => .array .int
  | 1 => .array .int
  | 2 => .array .int
  | 3 => .int
  | _ => .int
abbrev wsX10 : List Cond := u_ws RX1 TX1 5
theorem nmX1 : ∀ a, a < 5 → ∀ b, b < 5 → a ≠ b → (TX1 a).2.1 ≠ (TX1 b).2.1 := by decide +kernel
theorem tyX1_ok : ∀ k, k < 5 → parseFieldDescriptor (TX1 k).2.2.1 = some (tyX1 k) := by decide +kernel
abbrev cX1_init : ByteArray := prog_3_method_1_code
def yX1_init : MethodName := ⟨RX1, "<init>", "()V"⟩
abbrev cX1_follow : ByteArray := prog_3_method_2_code
def yX1_follow : MethodName := ⟨RX1, "follow", "(LJumpDesk$Group;LJumpDesk$Plane;LJumpDesk$Air;)V"⟩
abbrev cX1_drift : ByteArray := prog_3_method_3_code
def yX1_drift : MethodName := ⟨RX1, "drift", "(ILJumpDesk$Air;)V"⟩
abbrev cX1_fall : ByteArray := prog_3_method_4_code
def yX1_fall : MethodName := ⟨RX1, "fall", "(ILJumpDesk$Group;I)V"⟩
abbrev cX1_track : ByteArray := prog_3_method_5_code
def yX1_track : MethodName := ⟨RX1, "track", "(II)V"⟩
abbrev cX1_stateAt : ByteArray := prog_3_method_6_code
def yX1_stateAt : MethodName := ⟨RX1, "stateAt", "(I)I"⟩
abbrev cX1_secondsOpen : ByteArray := prog_3_method_7_code
def yX1_secondsOpen : MethodName := ⟨RX1, "secondsOpen", "()I"⟩
abbrev cX1_downX : ByteArray := prog_3_method_8_code
def yX1_downX : MethodName := ⟨RX1, "downX", "()I"⟩
abbrev cX1_downY : ByteArray := prog_3_method_9_code
def yX1_downY : MethodName := ⟨RX1, "downY", "()I"⟩
abbrev cX1_nearTo : ByteArray := prog_3_method_10_code
def yX1_nearTo : MethodName := ⟨RX1, "nearTo", "(LJumpDesk$Fall;IIJ)J"⟩
def RX2 : String := "JumpDesk$Group"
def TX2 : u_T := fun k => match k with
  | 0 => ("JumpDesk$Group", "number", "I", true)
  | 1 => ("JumpDesk$Group", "members", "[LJumpDesk$Jumper;", true)
  | 2 => ("JumpDesk$Group", "count", "I", false)
  | 3 => ("JumpDesk$Group", "kind", "I", false)
  | 4 => ("JumpDesk$Group", "opens", "I", false)
  | 5 => ("JumpDesk$Group", "forward", "I", false)
  | _ => ("JumpDesk$Group", "direction", "I", false)
def tyX2 : Nat → FieldType := fun k => match k with
  | 0 => .int
  | 1 => .array (.object "JumpDesk$Jumper")
  | 2 => .int
  | 3 => .int
  | 4 => .int
  | 5 => .int
  | _ => .int
abbrev wsX20 : List Cond := u_ws RX2 TX2 7
theorem nmX2 : ∀ a, a < 7 → ∀ b, b < 7 → a ≠ b → (TX2 a).2.1 ≠ (TX2 b).2.1 := by decide +kernel
theorem tyX2_ok : ∀ k, k < 7 → parseFieldDescriptor (TX2 k).2.2.1 = some (tyX2 k) := by decide +kernel
abbrev cX2_init : ByteArray := prog_4_method_1_code
def yX2_init : MethodName := ⟨RX2, "<init>", "(I)V"⟩
abbrev cX2_become : ByteArray := prog_4_method_2_code
def yX2_become : MethodName := ⟨RX2, "become", "(IIII)V"⟩
abbrev cX2_holds : ByteArray := prog_4_method_3_code
def yX2_holds : MethodName := ⟨RX2, "holds", "(LJumpDesk$Jumper;)Z"⟩
abbrev cX2_add : ByteArray := prog_4_method_4_code
def yX2_add : MethodName := ⟨RX2, "add", "(LJumpDesk$Jumper;)V"⟩
abbrev cX2_tell : ByteArray := prog_4_method_5_code
def yX2_tell : MethodName := ⟨RX2, "tell", "(I)I"⟩
abbrev cX2_weight : ByteArray := prog_4_method_6_code
def yX2_weight : MethodName := ⟨RX2, "weight", "()I"⟩
abbrev cX2_countOf : ByteArray := prog_4_method_7_code
def yX2_countOf : MethodName := ⟨RX2, "countOf", "(I)I"⟩
abbrev cX2_lacksHelp : ByteArray := prog_4_method_8_code
def yX2_lacksHelp : MethodName := ⟨RX2, "lacksHelp", "()Z"⟩
abbrev cX2_isWornOn : ByteArray := prog_4_method_9_code
def yX2_isWornOn : MethodName := ⟨RX2, "isWornOn", "(I)Z"⟩
abbrev cX2_sharesOneWith : ByteArray := prog_4_method_10_code
def yX2_sharesOneWith : MethodName := ⟨RX2, "sharesOneWith", "(LJumpDesk$Group;)Z"⟩
abbrev cX2_dropIn : ByteArray := prog_4_method_11_code
def yX2_dropIn : MethodName := ⟨RX2, "dropIn", "(I)I"⟩
abbrev cX2_opensBehind : ByteArray := prog_4_method_12_code
def yX2_opensBehind : MethodName := ⟨RX2, "opensBehind", "(II)Z"⟩
def RX3 : String := "JumpDesk$Jumper"
def TX3 : u_T := fun k => match k with
  | 0 => ("JumpDesk$Jumper", "number", "I", true)
  | 1 => ("JumpDesk$Jumper", "sort", "I", false)
  | 2 => ("JumpDesk$Jumper", "weight", "I", false)
  | _ => ("JumpDesk$Jumper", "day", "I", false)
def tyX3 : Nat → FieldType := fun k => match k with
  | 0 => .int
  | 1 => .int
  | 2 => .int
  | _ => .int
abbrev wsX30 : List Cond := u_ws RX3 TX3 4
theorem nmX3 : ∀ a, a < 4 → ∀ b, b < 4 → a ≠ b → (TX3 a).2.1 ≠ (TX3 b).2.1 := by decide +kernel
theorem tyX3_ok : ∀ k, k < 4 → parseFieldDescriptor (TX3 k).2.2.1 = some (tyX3 k) := by decide +kernel
abbrev cX3_init : ByteArray := prog_5_method_1_code
def yX3_init : MethodName := ⟨RX3, "<init>", "(I)V"⟩
abbrev cX3_become : ByteArray := prog_5_method_2_code
def yX3_become : MethodName := ⟨RX3, "become", "(III)V"⟩
def RX4 : String := "JumpDesk$Line"
def TX4 : u_T := fun k => match k with
  | 0 => ("JumpDesk$Line", "pauses", "[I", true)
  | 1 => ("JumpDesk$Line", "row", "[I", true)
  | 2 => ("JumpDesk$Line", "best", "[I", true)
  | 3 => ("JumpDesk$Line", "count", "I", false)
  | _ => ("JumpDesk$Line", "shortest", "I", false)
def tyX4 : Nat → FieldType := fun k => match k with
  | 0 => .array .int
  | 1 => .array .int
  | 2 => .array .int
  | 3 => .int
  | _ => .int
abbrev wsX40 : List Cond := u_ws RX4 TX4 5
theorem nmX4 : ∀ a, a < 5 → ∀ b, b < 5 → a ≠ b → (TX4 a).2.1 ≠ (TX4 b).2.1 := by decide +kernel
theorem tyX4_ok : ∀ k, k < 5 → parseFieldDescriptor (TX4 k).2.2.1 = some (tyX4 k) := by decide +kernel
abbrev cX4_init : ByteArray := prog_6_method_1_code
def yX4_init : MethodName := ⟨RX4, "<init>", "()V"⟩
abbrev cX4_measure : ByteArray := prog_6_method_2_code
def yX4_measure : MethodName := ⟨RX4, "measure", "(LJumpDesk$Group;LJumpDesk$Group;I)V"⟩
abbrev cX4_pauseBetween : ByteArray := prog_6_method_3_code
def yX4_pauseBetween : MethodName := ⟨RX4, "pauseBetween", "(II)I"⟩
abbrev cX4_begin : ByteArray := prog_6_method_4_code
def yX4_begin : MethodName := ⟨RX4, "begin", "(LJumpDesk$Load;)V"⟩
abbrev cX4_findShortest : ByteArray := prog_6_method_5_code
def yX4_findShortest : MethodName := ⟨RX4, "findShortest", "()Z"⟩
abbrev cX4_sumOfRow : ByteArray := prog_6_method_6_code
def yX4_sumOfRow : MethodName := ⟨RX4, "sumOfRow", "()I"⟩
abbrev cX4_stepRow : ByteArray := prog_6_method_7_code
def yX4_stepRow : MethodName := ⟨RX4, "stepRow", "()Z"⟩
abbrev cX4_swap : ByteArray := prog_6_method_8_code
def yX4_swap : MethodName := ⟨RX4, "swap", "(II)V"⟩
abbrev cX4_giveTo : ByteArray := prog_6_method_9_code
def yX4_giveTo : MethodName := ⟨RX4, "giveTo", "(LJumpDesk$Load;[LJumpDesk$Group;)V"⟩
def RX5 : String := "JumpDesk$Load"
def TX5 : u_T := fun k => match k with
  | 0 => ("JumpDesk$Load", "groups", "[LJumpDesk$Group;", true)
  | 1 => ("JumpDesk$Load", "pauses", "[I", true)
  | 2 => ("JumpDesk$Load", "ownPlane", "LJumpDesk$Plane;", true)
  | 3 => ("JumpDesk$Load", "ownAir", "LJumpDesk$Air;", true)
  | 4 => ("JumpDesk$Load", "plane", "LJumpDesk$Plane;", false)
  | 5 => ("JumpDesk$Load", "air", "LJumpDesk$Air;", false)
  | 6 => ("JumpDesk$Load", "count", "I", false)
  | 7 => ("JumpDesk$Load", "start", "I", false)
  | _ => ("JumpDesk$Load", "left", "Z", false)
def tyX5 : Nat → FieldType := fun k => match k with
  | 0 => .array (.object "JumpDesk$Group")
  | 1 => .array .int
  | 2 => .object "JumpDesk$Plane"
  | 3 => .object "JumpDesk$Air"
  | 4 => .object "JumpDesk$Plane"
  | 5 => .object "JumpDesk$Air"
  | 6 => .int
  | 7 => .int
  | _ => .boolean
abbrev wsX50 : List Cond := u_ws RX5 TX5 9
theorem nmX5 : ∀ a, a < 9 → ∀ b, b < 9 → a ≠ b → (TX5 a).2.1 ≠ (TX5 b).2.1 := by decide +kernel
theorem tyX5_ok : ∀ k, k < 9 → parseFieldDescriptor (TX5 k).2.2.1 = some (tyX5 k) := by decide +kernel
abbrev cX5_init : ByteArray := prog_7_method_1_code
def yX5_init : MethodName := ⟨RX5, "<init>", "()V"⟩
abbrev cX5_begin : ByteArray := prog_7_method_2_code
def yX5_begin : MethodName := ⟨RX5, "begin", "(LJumpDesk$Plane;LJumpDesk$Air;)V"⟩
abbrev cX5_goUp : ByteArray := prog_7_method_3_code
def yX5_goUp : MethodName := ⟨RX5, "goUp", "()V"⟩
abbrev cX5_has : ByteArray := prog_7_method_4_code
def yX5_has : MethodName := ⟨RX5, "has", "(I)Z"⟩
abbrev cX5_holds : ByteArray := prog_7_method_5_code
def yX5_holds : MethodName := ⟨RX5, "holds", "(LJumpDesk$Group;)Z"⟩
abbrev cX5_add : ByteArray := prog_7_method_6_code
def yX5_add : MethodName := ⟨RX5, "add", "(LJumpDesk$Group;I)V"⟩
abbrev cX5_remove : ByteArray := prog_7_method_7_code
def yX5_remove : MethodName := ⟨RX5, "remove", "(I)V"⟩
abbrev cX5_tell : ByteArray := prog_7_method_8_code
def yX5_tell : MethodName := ⟨RX5, "tell", "(I)I"⟩
abbrev cX5_tellOfPlace : ByteArray := prog_7_method_9_code
def yX5_tellOfPlace : MethodName := ⟨RX5, "tellOfPlace", "(I)I"⟩
abbrev cX5_secondOf : ByteArray := prog_7_method_10_code
def yX5_secondOf : MethodName := ⟨RX5, "secondOf", "(I)I"⟩
abbrev cX5_leavesAtX : ByteArray := prog_7_method_11_code
def yX5_leavesAtX : MethodName := ⟨RX5, "leavesAtX", "(I)I"⟩
abbrev cX5_lacksJumpers : ByteArray := prog_7_method_12_code
def yX5_lacksJumpers : MethodName := ⟨RX5, "lacksJumpers", "()Z"⟩
abbrev cX5_jumperCount : ByteArray := prog_7_method_13_code
def yX5_jumperCount : MethodName := ⟨RX5, "jumperCount", "()I"⟩
abbrev cX5_weight : ByteArray := prog_7_method_14_code
def yX5_weight : MethodName := ⟨RX5, "weight", "()I"⟩
abbrev cX5_isWornOn : ByteArray := prog_7_method_15_code
def yX5_isWornOn : MethodName := ⟨RX5, "isWornOn", "(I)Z"⟩
abbrev cX5_holdsOneTwice : ByteArray := prog_7_method_16_code
def yX5_holdsOneTwice : MethodName := ⟨RX5, "holdsOneTwice", "()Z"⟩
abbrev cX5_lacksHelp : ByteArray := prog_7_method_17_code
def yX5_lacksHelp : MethodName := ⟨RX5, "lacksHelp", "()Z"⟩
def RX6 : String := "JumpDesk$Plane"
def TX6 : u_T := fun k => match k with
  | 0 => ("JumpDesk$Plane", "number", "I", false)
  | 1 => ("JumpDesk$Plane", "seats", "I", false)
  | 2 => ("JumpDesk$Plane", "bears", "I", false)
  | 3 => ("JumpDesk$Plane", "speed", "I", false)
  | _ => ("JumpDesk$Plane", "height", "I", false)
def tyX6 : Nat → FieldType := fun k => match k with
  | 0 => .int
  | 1 => .int
  | 2 => .int
  | 3 => .int
  | _ => .int
abbrev wsX60 : List Cond := u_ws RX6 TX6 5
theorem nmX6 : ∀ a, a < 5 → ∀ b, b < 5 → a ≠ b → (TX6 a).2.1 ≠ (TX6 b).2.1 := by decide +kernel
theorem tyX6_ok : ∀ k, k < 5 → parseFieldDescriptor (TX6 k).2.2.1 = some (tyX6 k) := by decide +kernel
abbrev cX6_init : ByteArray := prog_8_method_1_code
def yX6_init : MethodName := ⟨RX6, "<init>", "(I)V"⟩
abbrev cX6_become : ByteArray := prog_8_method_2_code
def yX6_become : MethodName := ⟨RX6, "become", "(IIII)V"⟩
abbrev cX6_becomeAs : ByteArray := prog_8_method_3_code
def yX6_becomeAs : MethodName := ⟨RX6, "becomeAs", "(LJumpDesk$Plane;)V"⟩
def RX7 : String := "JumpDesk$Sheet"
def TX7 : u_T := fun k => match k with
  | 0 => ("JumpDesk$Sheet", "numbers", "[F", true)
  | 1 => ("JumpDesk$Sheet", "gaps", "[Z", true)
  | 2 => ("JumpDesk$Sheet", "length", "I", false)
  | _ => ("JumpDesk$Sheet", "there", "Z", false)
def tyX7 : Nat → FieldType := fun k => match k with
  | 0 => .array .float
  | 1 => .array .boolean
  | 2 => .int
  | _ => .boolean
abbrev wsX70 : List Cond := u_ws RX7 TX7 4
theorem nmX7 : ∀ a, a < 4 → ∀ b, b < 4 → a ≠ b → (TX7 a).2.1 ≠ (TX7 b).2.1 := by decide +kernel
theorem tyX7_ok : ∀ k, k < 4 → parseFieldDescriptor (TX7 k).2.2.1 = some (tyX7 k) := by decide +kernel
abbrev cX7_init : ByteArray := prog_9_method_1_code
def yX7_init : MethodName := ⟨RX7, "<init>", "()V"⟩
abbrev cX7_begin : ByteArray := prog_9_method_2_code
def yX7_begin : MethodName := ⟨RX7, "begin", "(I)V"⟩
abbrev cX7_has : ByteArray := prog_9_method_3_code
def yX7_has : MethodName := ⟨RX7, "has", "(I)Z"⟩
abbrev cX7_write : ByteArray := prog_9_method_4_code
def yX7_write : MethodName := ⟨RX7, "write", "(IF)V"⟩
abbrev cX7_blank : ByteArray := prog_9_method_5_code
def yX7_blank : MethodName := ⟨RX7, "blank", "(I)V"⟩
abbrev cX7_filled : ByteArray := prog_9_method_6_code
def yX7_filled : MethodName := ⟨RX7, "filled", "(I)F"⟩
abbrev cX7_knownBelow : ByteArray := prog_9_method_7_code
def yX7_knownBelow : MethodName := ⟨RX7, "knownBelow", "(I)I"⟩
abbrev cX7_knownAbove : ByteArray := prog_9_method_8_code
def yX7_knownAbove : MethodName := ⟨RX7, "knownAbove", "(I)I"⟩
abbrev cX7_windOf : ByteArray := prog_9_method_9_code
def yX7_windOf : MethodName := ⟨RX7, "windOf", "(I)I"⟩
def RX8 : String := "JumpDesk"
def TX8 : u_T := fun k => match k with
  | 0 => ("JumpDesk", "sheets", "[LJumpDesk$Sheet;", true)
  | 1 => ("JumpDesk", "air", "LJumpDesk$Air;", true)
  | 2 => ("JumpDesk", "jumpers", "[LJumpDesk$Jumper;", true)
  | 3 => ("JumpDesk", "groups", "[LJumpDesk$Group;", true)
  | 4 => ("JumpDesk", "planes", "[LJumpDesk$Plane;", true)
  | 5 => ("JumpDesk", "loads", "[LJumpDesk$Load;", true)
  | 6 => ("JumpDesk", "rules", "[I", true)
  | 7 => ("JumpDesk", "falls", "[LJumpDesk$Fall;", true)
  | 8 => ("JumpDesk", "line", "LJumpDesk$Line;", true)
  | 9 => ("JumpDesk", "groupCount", "I", false)
  | _ => ("JumpDesk", "loadCount", "I", false)
def tyX8 : Nat → FieldType := fun k => match k with
  | 0 => .array (.object "JumpDesk$Sheet")
  | 1 => .object "JumpDesk$Air"
  | 2 => .array (.object "JumpDesk$Jumper")
  | 3 => .array (.object "JumpDesk$Group")
  | 4 => .array (.object "JumpDesk$Plane")
  | 5 => .array (.object "JumpDesk$Load")
  | 6 => .array .int
  | 7 => .array (.object "JumpDesk$Fall")
  | 8 => .object "JumpDesk$Line"
  | 9 => .int
  | _ => .int
abbrev wsX80 : List Cond := u_ws RX8 TX8 11
theorem nmX8 : ∀ a, a < 11 → ∀ b, b < 11 → a ≠ b → (TX8 a).2.1 ≠ (TX8 b).2.1 := by decide +kernel
theorem tyX8_ok : ∀ k, k < 11 → parseFieldDescriptor (TX8 k).2.2.1 = some (tyX8 k) := by decide +kernel
abbrev cX8_init : ByteArray := prog_1_method_1_code
def yX8_init : MethodName := ⟨RX8, "<init>", "()V"⟩
abbrev cX8_sheet : ByteArray := prog_1_method_2_code
def yX8_sheet : MethodName := ⟨RX8, "sheet", "(II)I"⟩
abbrev cX8_cell : ByteArray := prog_1_method_3_code
def yX8_cell : MethodName := ⟨RX8, "cell", "(IIII)I"⟩
abbrev cX8_gap : ByteArray := prog_1_method_4_code
def yX8_gap : MethodName := ⟨RX8, "gap", "(II)I"⟩
abbrev cX8_lose : ByteArray := prog_1_method_5_code
def yX8_lose : MethodName := ⟨RX8, "lose", "(I)I"⟩
abbrev cX8_told : ByteArray := prog_1_method_6_code
def yX8_told : MethodName := ⟨RX8, "told", "(II)I"⟩
abbrev cX8_winds : ByteArray := prog_1_method_7_code
def yX8_winds : MethodName := ⟨RX8, "winds", "(II)I"⟩
abbrev cX8_wind : ByteArray := prog_1_method_8_code
def yX8_wind : MethodName := ⟨RX8, "wind", "(III)I"⟩
abbrev cX8_blows : ByteArray := prog_1_method_9_code
def yX8_blows : MethodName := ⟨RX8, "blows", "(II)I"⟩
abbrev cX8_jumper : ByteArray := prog_1_method_10_code
def yX8_jumper : MethodName := ⟨RX8, "jumper", "(IIII)I"⟩
abbrev cX8_group : ByteArray := prog_1_method_11_code
def yX8_group : MethodName := ⟨RX8, "group", "(IIII)I"⟩
abbrev cX8_join : ByteArray := prog_1_method_12_code
def yX8_join : MethodName := ⟨RX8, "join", "(II)I"⟩
abbrev cX8_of : ByteArray := prog_1_method_13_code
def yX8_of : MethodName := ⟨RX8, "of", "(II)I"⟩
abbrev cX8_plane : ByteArray := prog_1_method_14_code
def yX8_plane : MethodName := ⟨RX8, "plane", "(IIIII)I"⟩
abbrev cX8_rule : ByteArray := prog_1_method_15_code
def yX8_rule : MethodName := ⟨RX8, "rule", "(II)I"⟩
abbrev cX8_load : ByteArray := prog_1_method_16_code
def yX8_load : MethodName := ⟨RX8, "load", "(I)I"⟩
abbrev cX8_put : ByteArray := prog_1_method_17_code
def yX8_put : MethodName := ⟨RX8, "put", "(III)I"⟩
abbrev cX8_out : ByteArray := prog_1_method_18_code
def yX8_out : MethodName := ⟨RX8, "out", "(II)I"⟩
abbrev cX8_pause : ByteArray := prog_1_method_19_code
def yX8_pause : MethodName := ⟨RX8, "pause", "(III)I"⟩
abbrev cX8_start : ByteArray := prog_1_method_20_code
def yX8_start : MethodName := ⟨RX8, "start", "(II)I"⟩
abbrev cX8_in : ByteArray := prog_1_method_21_code
def yX8_in : MethodName := ⟨RX8, "in", "(II)I"⟩
abbrev cX8_where : ByteArray := prog_1_method_22_code
def yX8_where : MethodName := ⟨RX8, "where", "(IIII)I"⟩
abbrev cX8_near : ByteArray := prog_1_method_23_code
def yX8_near : MethodName := ⟨RX8, "near", "(III)J"⟩
abbrev cX8_between : ByteArray := prog_1_method_24_code
def yX8_between : MethodName := ⟨RX8, "between", "(III)I"⟩
abbrev cX8_order : ByteArray := prog_1_method_25_code
def yX8_order : MethodName := ⟨RX8, "order", "(I)I"⟩
abbrev cX8_spot : ByteArray := prog_1_method_26_code
def yX8_spot : MethodName := ⟨RX8, "spot", "(II)I"⟩
abbrev cX8_why : ByteArray := prog_1_method_27_code
def yX8_why : MethodName := ⟨RX8, "why", "(II)I"⟩
abbrev cX8_leave : ByteArray := prog_1_method_28_code
def yX8_leave : MethodName := ⟨RX8, "leave", "(II)I"⟩
abbrev cX8_many : ByteArray := prog_1_method_29_code
def yX8_many : MethodName := ⟨RX8, "many", "(I)I"⟩
abbrev cX8_within : ByteArray := prog_1_method_30_code
def yX8_within : MethodName := ⟨RX8, "within", "(III)Z"⟩
abbrev cX8_isWind : ByteArray := prog_1_method_31_code
def yX8_isWind : MethodName := ⟨RX8, "isWind", "(I)Z"⟩
abbrev cX8_isPause : ByteArray := prog_1_method_32_code
def yX8_isPause : MethodName := ⟨RX8, "isPause", "(I)Z"⟩
abbrev cX8_sheetAt : ByteArray := prog_1_method_33_code
def yX8_sheetAt : MethodName := ⟨RX8, "sheetAt", "(I)LJumpDesk$Sheet;"⟩
abbrev cX8_jumperAt : ByteArray := prog_1_method_34_code
def yX8_jumperAt : MethodName := ⟨RX8, "jumperAt", "(I)LJumpDesk$Jumper;"⟩
abbrev cX8_planeAt : ByteArray := prog_1_method_35_code
def yX8_planeAt : MethodName := ⟨RX8, "planeAt", "(I)LJumpDesk$Plane;"⟩
abbrev cX8_groupAt : ByteArray := prog_1_method_36_code
def yX8_groupAt : MethodName := ⟨RX8, "groupAt", "(I)LJumpDesk$Group;"⟩
abbrev cX8_loadAt : ByteArray := prog_1_method_37_code
def yX8_loadAt : MethodName := ⟨RX8, "loadAt", "(I)LJumpDesk$Load;"⟩
abbrev cX8_tellsWinds : ByteArray := prog_1_method_38_code
def yX8_tellsWinds : MethodName := ⟨RX8, "tellsWinds", "(LJumpDesk$Sheet;)Z"⟩
abbrev cX8_isInSomeLoad : ByteArray := prog_1_method_39_code
def yX8_isInSomeLoad : MethodName := ⟨RX8, "isInSomeLoad", "(LJumpDesk$Group;Z)Z"⟩
abbrev cX8_leftCount : ByteArray := prog_1_method_40_code
def yX8_leftCount : MethodName := ⟨RX8, "leftCount", "()I"⟩
abbrev cX8_upCount : ByteArray := prog_1_method_41_code
def yX8_upCount : MethodName := ⟨RX8, "upCount", "()I"⟩
abbrev cX8_whyByFall : ByteArray := prog_1_method_42_code
def yX8_whyByFall : MethodName := ⟨RX8, "whyByFall", "(LJumpDesk$Load;)I"⟩
abbrev cX8_isTooWindy : ByteArray := prog_1_method_43_code
def yX8_isTooWindy : MethodName := ⟨RX8, "isTooWindy", "(LJumpDesk$Load;)Z"⟩
abbrev cX8_mayLeaveAhead : ByteArray := prog_1_method_44_code
def yX8_mayLeaveAhead : MethodName := ⟨RX8, "mayLeaveAhead", "(LJumpDesk$Group;LJumpDesk$Group;)Z"⟩
abbrev cX8_ranksAllow : ByteArray := prog_1_method_45_code
def yX8_ranksAllow : MethodName := ⟨RX8, "ranksAllow", "(LJumpDesk$Load;)Z"⟩
abbrev cX8_followAll : ByteArray := prog_1_method_46_code
def yX8_followAll : MethodName := ⟨RX8, "followAll", "(LJumpDesk$Load;)V"⟩
abbrev cX8_areFree : ByteArray := prog_1_method_47_code
def yX8_areFree : MethodName := ⟨RX8, "areFree", "(LJumpDesk$Fall;LJumpDesk$Fall;II)Z"⟩
abbrev cX8_allFree : ByteArray := prog_1_method_48_code
def yX8_allFree : MethodName := ⟨RX8, "allFree", "(LJumpDesk$Load;)Z"⟩
abbrev cX8_leastPause : ByteArray := prog_1_method_49_code
def yX8_leastPause : MethodName := ⟨RX8, "leastPause", "(LJumpDesk$Fall;LJumpDesk$Fall;I)I"⟩
abbrev cX8_measurePauses : ByteArray := prog_1_method_50_code
def yX8_measurePauses : MethodName := ⟨RX8, "measurePauses", "(LJumpDesk$Load;)V"⟩
abbrev cX8_reachSquare : ByteArray := prog_1_method_51_code
def yX8_reachSquare : MethodName := ⟨RX8, "reachSquare", "(LJumpDesk$Group;LJumpDesk$Fall;)J"⟩
abbrev cX8_allHome : ByteArray := prog_1_method_52_code
def yX8_allHome : MethodName := ⟨RX8, "allHome", "(LJumpDesk$Load;)Z"⟩
abbrev cX8_roomAlongX : ByteArray := prog_1_method_53_code
def yX8_roomAlongX : MethodName := ⟨RX8, "roomAlongX", "(LJumpDesk$Group;LJumpDesk$Fall;)I"⟩
abbrev cX8_wholeRoot : ByteArray := prog_1_method_54_code
def yX8_wholeRoot : MethodName := ⟨RX8, "wholeRoot", "(J)I"⟩
def RX9 : String := "JumpDeskModel"
def TX9 : u_T := fun k => match k with
  | 0 => ("JumpDeskModel", "sheetSize", "[I", true)
  | 1 => ("JumpDeskModel", "sheet", "[F", true)
  | 2 => ("JumpDeskModel", "isGap", "[Z", true)
  | 3 => ("JumpDeskModel", "windX", "[I", true)
  | 4 => ("JumpDeskModel", "windY", "[I", true)
  | 5 => ("JumpDeskModel", "sortOf", "[I", true)
  | 6 => ("JumpDeskModel", "weightOf", "[I", true)
  | 7 => ("JumpDeskModel", "dayOf", "[I", true)
  | 8 => ("JumpDeskModel", "groups", "I", false)
  | 9 => ("JumpDeskModel", "kindOf", "[I", true)
  | 10 => ("JumpDeskModel", "opensOf", "[I", true)
  | 11 => ("JumpDeskModel", "forwardOf", "[I", true)
  | 12 => ("JumpDeskModel", "directionOf", "[I", true)
  | 13 => ("JumpDeskModel", "sizeOf", "[I", true)
  | 14 => ("JumpDeskModel", "jumperOf", "[I", true)
  | 15 => ("JumpDeskModel", "seats", "[I", true)
  | 16 => ("JumpDeskModel", "bears", "[I", true)
  | 17 => ("JumpDeskModel", "speeds", "[I", true)
  | 18 => ("JumpDeskModel", "heights", "[I", true)
  | 19 => ("JumpDeskModel", "rules", "[I", true)
  | 20 => ("JumpDeskModel", "loads", "I", false)
  | 21 => ("JumpDeskModel", "planeOf", "[I", true)
  | 22 => ("JumpDeskModel", "manyOf", "[I", true)
  | 23 => ("JumpDeskModel", "groupAt", "[I", true)
  | 24 => ("JumpDeskModel", "pauseAt", "[I", true)
  | 25 => ("JumpDeskModel", "startOf", "[I", true)
  | 26 => ("JumpDeskModel", "hasLeft", "[Z", true)
  | 27 => ("JumpDeskModel", "leftWindX", "[I", true)
  | 28 => ("JumpDeskModel", "leftWindY", "[I", true)
  | 29 => ("JumpDeskModel", "leftSpeed", "[I", true)
  | 30 => ("JumpDeskModel", "leftHeight", "[I", true)
  | 31 => ("JumpDeskModel", "went", "I", false)
  | 32 => ("JumpDeskModel", "byX", "[I", true)
  | 33 => ("JumpDeskModel", "byY", "[I", true)
  | 34 => ("JumpDeskModel", "bySpeed", "I", false)
  | 35 => ("JumpDeskModel", "byHeight", "I", false)
  | 36 => ("JumpDeskModel", "wayX", "[I", true)
  | 37 => ("JumpDeskModel", "wayY", "[I", true)
  | 38 => ("JumpDeskModel", "wayHeight", "[I", true)
  | 39 => ("JumpDeskModel", "wayState", "[I", true)
  | 40 => ("JumpDeskModel", "downAt", "[I", true)
  | 41 => ("JumpDeskModel", "openFor", "[I", true)
  | 42 => ("JumpDeskModel", "sorted", "[I", true)
  | 43 => ("JumpDeskModel", "pauses", "[I", true)
  | 44 => ("JumpDeskModel", "tried", "[I", true)
  | 45 => ("JumpDeskModel", "best", "[I", true)
  | 46 => ("JumpDeskModel", "lowest", "J", false)
  | _ => ("JumpDeskModel", "highest", "J", false)
def tyX9 : Nat → FieldType := fun k => match k with
  | 0 => .array .int
  | 1 => .array .float
  | 2 => .array .boolean
  | 3 => .array .int
  | 4 => .array .int
  | 5 => .array .int
  | 6 => .array .int
  | 7 => .array .int
  | 8 => .int
  | 9 => .array .int
  | 10 => .array .int
  | 11 => .array .int
  | 12 => .array .int
  | 13 => .array .int
  | 14 => .array .int
  | 15 => .array .int
  | 16 => .array .int
  | 17 => .array .int
  | 18 => .array .int
  | 19 => .array .int
  | 20 => .int
  | 21 => .array .int
  | 22 => .array .int
  | 23 => .array .int
  | 24 => .array .int
  | 25 => .array .int
  | 26 => .array .boolean
  | 27 => .array .int
  | 28 => .array .int
  | 29 => .array .int
  | 30 => .array .int
  | 31 => .int
  | 32 => .array .int
  | 33 => .array .int
  | 34 => .int
  | 35 => .int
  | 36 => .array .int
  | 37 => .array .int
  | 38 => .array .int
  | 39 => .array .int
  | 40 => .array .int
  | 41 => .array .int
  | 42 => .array .int
  | 43 => .array .int
  | 44 => .array .int
  | 45 => .array .int
  | 46 => .long
  | _ => .long
abbrev wsX90 : List Cond := u_ws RX9 TX9 48
theorem nmX9 : ∀ a, a < 48 → ∀ b, b < 48 → a ≠ b → (TX9 a).2.1 ≠ (TX9 b).2.1 := by decide +kernel
theorem tyX9_ok : ∀ k, k < 48 → parseFieldDescriptor (TX9 k).2.2.1 = some (tyX9 k) := by decide +kernel
abbrev cX9_init : ByteArray := prog_11_method_1_code
def yX9_init : MethodName := ⟨RX9, "<init>", "()V"⟩
abbrev cX9_in : ByteArray := prog_11_method_2_code
def yX9_in : MethodName := ⟨RX9, "in", "(JJJ)Z"⟩
abbrev cX9_isSheet : ByteArray := prog_11_method_3_code
def yX9_isSheet : MethodName := ⟨RX9, "isSheet", "(I)Z"⟩
abbrev cX9_isGroup : ByteArray := prog_11_method_4_code
def yX9_isGroup : MethodName := ⟨RX9, "isGroup", "(I)Z"⟩
abbrev cX9_isLoad : ByteArray := prog_11_method_5_code
def yX9_isLoad : MethodName := ⟨RX9, "isLoad", "(I)Z"⟩
abbrev cX9_isIn : ByteArray := prog_11_method_6_code
def yX9_isIn : MethodName := ⟨RX9, "isIn", "(II)Z"⟩
abbrev cX9_sheet : ByteArray := prog_11_method_7_code
def yX9_sheet : MethodName := ⟨RX9, "sheet", "(II)I"⟩
abbrev cX9_cell : ByteArray := prog_11_method_8_code
def yX9_cell : MethodName := ⟨RX9, "cell", "(IIII)I"⟩
abbrev cX9_gap : ByteArray := prog_11_method_9_code
def yX9_gap : MethodName := ⟨RX9, "gap", "(II)I"⟩
abbrev cX9_lose : ByteArray := prog_11_method_10_code
def yX9_lose : MethodName := ⟨RX9, "lose", "(I)I"⟩
abbrev cX9_nearest : ByteArray := prog_11_method_11_code
def yX9_nearest : MethodName := ⟨RX9, "nearest", "(III)I"⟩
abbrev cX9_filled : ByteArray := prog_11_method_12_code
def yX9_filled : MethodName := ⟨RX9, "filled", "(II)F"⟩
abbrev cX9_told : ByteArray := prog_11_method_13_code
def yX9_told : MethodName := ⟨RX9, "told", "(II)I"⟩
abbrev cX9_tenTimes : ByteArray := prog_11_method_14_code
def yX9_tenTimes : MethodName := ⟨RX9, "tenTimes", "(II)I"⟩
abbrev cX9_winds : ByteArray := prog_11_method_15_code
def yX9_winds : MethodName := ⟨RX9, "winds", "(II)I"⟩
abbrev cX9_wind : ByteArray := prog_11_method_16_code
def yX9_wind : MethodName := ⟨RX9, "wind", "(III)I"⟩
abbrev cX9_blows : ByteArray := prog_11_method_17_code
def yX9_blows : MethodName := ⟨RX9, "blows", "(II)I"⟩
abbrev cX9_jumper : ByteArray := prog_11_method_18_code
def yX9_jumper : MethodName := ⟨RX9, "jumper", "(IIII)I"⟩
abbrev cX9_group : ByteArray := prog_11_method_19_code
def yX9_group : MethodName := ⟨RX9, "group", "(IIII)I"⟩
abbrev cX9_isInSome : ByteArray := prog_11_method_20_code
def yX9_isInSome : MethodName := ⟨RX9, "isInSome", "(IZ)Z"⟩
abbrev cX9_hasJumper : ByteArray := prog_11_method_21_code
def yX9_hasJumper : MethodName := ⟨RX9, "hasJumper", "(II)Z"⟩
abbrev cX9_join : ByteArray := prog_11_method_22_code
def yX9_join : MethodName := ⟨RX9, "join", "(II)I"⟩
abbrev cX9_weightIn : ByteArray := prog_11_method_23_code
def yX9_weightIn : MethodName := ⟨RX9, "weightIn", "(I)I"⟩
abbrev cX9_of : ByteArray := prog_11_method_24_code
def yX9_of : MethodName := ⟨RX9, "of", "(II)I"⟩
abbrev cX9_plane : ByteArray := prog_11_method_25_code
def yX9_plane : MethodName := ⟨RX9, "plane", "(IIIII)I"⟩
abbrev cX9_rule : ByteArray := prog_11_method_26_code
def yX9_rule : MethodName := ⟨RX9, "rule", "(II)I"⟩
abbrev cX9_load : ByteArray := prog_11_method_27_code
def yX9_load : MethodName := ⟨RX9, "load", "(I)I"⟩
abbrev cX9_put : ByteArray := prog_11_method_28_code
def yX9_put : MethodName := ⟨RX9, "put", "(III)I"⟩
abbrev cX9_out : ByteArray := prog_11_method_29_code
def yX9_out : MethodName := ⟨RX9, "out", "(II)I"⟩
abbrev cX9_pause : ByteArray := prog_11_method_30_code
def yX9_pause : MethodName := ⟨RX9, "pause", "(III)I"⟩
abbrev cX9_start : ByteArray := prog_11_method_31_code
def yX9_start : MethodName := ⟨RX9, "start", "(II)I"⟩
abbrev cX9_leavesAt : ByteArray := prog_11_method_32_code
def yX9_leavesAt : MethodName := ⟨RX9, "leavesAt", "(II)I"⟩
abbrev cX9_in_ : ByteArray := prog_11_method_33_code
def yX9_in_ : MethodName := ⟨RX9, "in", "(II)I"⟩
abbrev cX9_takePlane : ByteArray := prog_11_method_34_code
def yX9_takePlane : MethodName := ⟨RX9, "takePlane", "(I)V"⟩
abbrev cX9_takeLoad : ByteArray := prog_11_method_35_code
def yX9_takeLoad : MethodName := ⟨RX9, "takeLoad", "(I)V"⟩
abbrev cX9_least : ByteArray := prog_11_method_36_code
def yX9_least : MethodName := ⟨RX9, "least", "(II)I"⟩
abbrev cX9_layOut : ByteArray := prog_11_method_37_code
def yX9_layOut : MethodName := ⟨RX9, "layOut", "(II)V"⟩
abbrev cX9_fall : ByteArray := prog_11_method_38_code
def yX9_fall : MethodName := ⟨RX9, "fall", "(III)V"⟩
abbrev cX9_where : ByteArray := prog_11_method_39_code
def yX9_where : MethodName := ⟨RX9, "where", "(IIII)I"⟩
abbrev cX9_nearBy : ByteArray := prog_11_method_40_code
def yX9_nearBy : MethodName := ⟨RX9, "nearBy", "(I)J"⟩
abbrev cX9_nearOf : ByteArray := prog_11_method_41_code
def yX9_nearOf : MethodName := ⟨RX9, "nearOf", "(III)J"⟩
abbrev cX9_near : ByteArray := prog_11_method_42_code
def yX9_near : MethodName := ⟨RX9, "near", "(III)J"⟩
abbrev cX9_isFree : ByteArray := prog_11_method_43_code
def yX9_isFree : MethodName := ⟨RX9, "isFree", "(J)Z"⟩
abbrev cX9_betweenOf : ByteArray := prog_11_method_44_code
def yX9_betweenOf : MethodName := ⟨RX9, "betweenOf", "(II)I"⟩
abbrev cX9_between : ByteArray := prog_11_method_45_code
def yX9_between : MethodName := ⟨RX9, "between", "(III)I"⟩
abbrev cX9_nextOrder : ByteArray := prog_11_method_46_code
def yX9_nextOrder : MethodName := ⟨RX9, "nextOrder", "(I)Z"⟩
abbrev cX9_rankOf : ByteArray := prog_11_method_47_code
def yX9_rankOf : MethodName := ⟨RX9, "rankOf", "(I)I"⟩
abbrev cX9_sumOf : ByteArray := prog_11_method_48_code
def yX9_sumOf : MethodName := ⟨RX9, "sumOf", "(I)I"⟩
abbrev cX9_sortGroups : ByteArray := prog_11_method_49_code
def yX9_sortGroups : MethodName := ⟨RX9, "sortGroups", "(I)V"⟩
abbrev cX9_order : ByteArray := prog_11_method_50_code
def yX9_order : MethodName := ⟨RX9, "order", "(I)I"⟩
abbrev cX9_root : ByteArray := prog_11_method_51_code
def yX9_root : MethodName := ⟨RX9, "root", "(J)J"⟩
abbrev cX9_findStarts : ByteArray := prog_11_method_52_code
def yX9_findStarts : MethodName := ⟨RX9, "findStarts", "(I)V"⟩
abbrev cX9_spot : ByteArray := prog_11_method_53_code
def yX9_spot : MethodName := ⟨RX9, "spot", "(II)I"⟩
abbrev cX9_jumpersIn : ByteArray := prog_11_method_54_code
def yX9_jumpersIn : MethodName := ⟨RX9, "jumpersIn", "(I)I"⟩
abbrev cX9_hasEmpty : ByteArray := prog_11_method_55_code
def yX9_hasEmpty : MethodName := ⟨RX9, "hasEmpty", "(I)Z"⟩
abbrev cX9_weightOn : ByteArray := prog_11_method_56_code
def yX9_weightOn : MethodName := ⟨RX9, "weightOn", "(I)I"⟩
abbrev cX9_hasOldGear : ByteArray := prog_11_method_57_code
def yX9_hasOldGear : MethodName := ⟨RX9, "hasOldGear", "(II)Z"⟩
abbrev cX9_hasTwice : ByteArray := prog_11_method_58_code
def yX9_hasTwice : MethodName := ⟨RX9, "hasTwice", "(I)Z"⟩
abbrev cX9_sortsIn : ByteArray := prog_11_method_59_code
def yX9_sortsIn : MethodName := ⟨RX9, "sortsIn", "(II)I"⟩
abbrev cX9_hasAlone : ByteArray := prog_11_method_60_code
def yX9_hasAlone : MethodName := ⟨RX9, "hasAlone", "(I)Z"⟩
abbrev cX9_blowsTooMuch : ByteArray := prog_11_method_61_code
def yX9_blowsTooMuch : MethodName := ⟨RX9, "blowsTooMuch", "(I)Z"⟩
abbrev cX9_areRanksWrong : ByteArray := prog_11_method_62_code
def yX9_areRanksWrong : MethodName := ⟨RX9, "areRanksWrong", "(I)Z"⟩
abbrev cX9_areSomeNear : ByteArray := prog_11_method_63_code
def yX9_areSomeNear : MethodName := ⟨RX9, "areSomeNear", "(I)Z"⟩
abbrev cX9_isSomeOut : ByteArray := prog_11_method_64_code
def yX9_isSomeOut : MethodName := ⟨RX9, "isSomeOut", "(I)Z"⟩
abbrev cX9_barOf : ByteArray := prog_11_method_65_code
def yX9_barOf : MethodName := ⟨RX9, "barOf", "(II)I"⟩
abbrev cX9_why : ByteArray := prog_11_method_66_code
def yX9_why : MethodName := ⟨RX9, "why", "(II)I"⟩
abbrev cX9_leave : ByteArray := prog_11_method_67_code
def yX9_leave : MethodName := ⟨RX9, "leave", "(II)I"⟩
abbrev cX9_many : ByteArray := prog_11_method_68_code
def yX9_many : MethodName := ⟨RX9, "many", "(I)I"⟩
def RJx8e188 : String := "java/lang/Cloneable"
def TJx8e188 : u_T := fun k => match k with
  | _ => ("", "", "", false)
def tyJx8e188 : Nat → FieldType := fun k => match k with
  | _ => .int
abbrev wsJx8e1880 : List Cond := u_ws RJx8e188 TJx8e188 0
theorem nmJx8e188 : ∀ a, a < 0 → ∀ b, b < 0 → a ≠ b → (TJx8e188 a).2.1 ≠ (TJx8e188 b).2.1 := by decide +kernel
theorem tyJx8e188_ok : ∀ k, k < 0 → parseFieldDescriptor (TJx8e188 k).2.2.1 = some (tyJx8e188 k) := by decide +kernel
def RJ9 : String := "java/lang/Math"
def TJ9 : u_T := fun k => match k with
  | _ => ("", "", "", false)
def tyJ9 : Nat → FieldType := fun k => match k with
  | _ => .int
abbrev wsJ90 : List Cond := u_ws RJ9 TJ9 0
theorem nmJ9 : ∀ a, a < 0 → ∀ b, b < 0 → a ≠ b → (TJ9 a).2.1 ≠ (TJ9 b).2.1 := by decide +kernel
theorem tyJ9_ok : ∀ k, k < 0 → parseFieldDescriptor (TJ9 k).2.2.1 = some (tyJ9 k) := by decide +kernel
abbrev cJ9_max_7cf53 : ByteArray := prog_13_method_65_code
def yJ9_max_7cf53 : MethodName := ⟨RJ9, "max", "(II)I"⟩
abbrev cJ9_min_7cf53 : ByteArray := prog_13_method_69_code
def yJ9_min_7cf53 : MethodName := ⟨RJ9, "min", "(II)I"⟩
abbrev cJ9_min_f86c9 : ByteArray := prog_13_method_70_code
def yJ9_min_f86c9 : MethodName := ⟨RJ9, "min", "(JJ)J"⟩
def RJ10 : String := "java/lang/System"
def TJ10 : u_T := fun k => match k with
  | _ => ("", "", "", false)
def tyJ10 : Nat → FieldType := fun k => match k with
  | _ => .int
abbrev wsJ100 : List Cond := u_ws RJ10 TJ10 0
theorem nmJ10 : ∀ a, a < 0 → ∀ b, b < 0 → a ≠ b → (TJ10 a).2.1 ≠ (TJ10 b).2.1 := by decide +kernel
theorem tyJ10_ok : ∀ k, k < 0 → parseFieldDescriptor (TJ10 k).2.2.1 = some (tyJ10 k) := by decide +kernel
def RL : String := "JumpDeskLaw"
abbrev cL_law : ByteArray := code
def yL_law : MethodName := ⟨RL, "law", "([I)Z"⟩
def wsL_law_r1 : List Cond := [Cond.classLink RL 7 RX8, Cond.instantiable RX8 11, Cond.initialized RX8, Cond.classLink RL 10 RX9, Cond.instantiable RX9 48, Cond.initialized RX9, Cond.methodLink RL 9 yX8_init, Cond.instanceMethod yX8_init, Cond.code yX8_init cX8_init 2 none, Cond.methodLink RX8 3 objectInit, Cond.instanceMethod objectInit, Cond.code objectInit ⟨#[0xb1]⟩ 1 none, Cond.classLink RX8 11 RX7, Cond.fieldLink RX8 13 "JumpDesk" "sheets" "[LJumpDesk$Sheet;", Cond.classLink RX8 17 RX0, Cond.instantiable RX0 2, Cond.initialized RX0, Cond.fieldLink RX8 20 "JumpDesk" "air" "LJumpDesk$Air;", Cond.classLink RX8 24 RX3, Cond.fieldLink RX8 26 "JumpDesk" "jumpers" "[LJumpDesk$Jumper;", Cond.classLink RX8 30 RX2, Cond.fieldLink RX8 32 "JumpDesk" "groups" "[LJumpDesk$Group;", Cond.classLink RX8 36 RX6, Cond.fieldLink RX8 38 "JumpDesk" "planes" "[LJumpDesk$Plane;"]
def wsL_law_r2 : List Cond := [Cond.classLink RX8 42 RX5, Cond.fieldLink RX8 44 "JumpDesk" "loads" "[LJumpDesk$Load;", Cond.fieldLink RX8 48 "JumpDesk" "FIRST_RULES" "[I", Cond.methodLink RX8 52 ⟨"[I", "clone", "()Ljava/lang/Object;"⟩, Cond.sameMethod "[I" "java/lang/Object" "clone" "()Ljava/lang/Object;", Cond.native ⟨"java/lang/Object", "clone", "()Ljava/lang/Object;"⟩, Cond.instanceMethod ⟨"java/lang/Object", "clone", "()Ljava/lang/Object;"⟩, Cond.selects "[I" ⟨"[I", "clone", "()Ljava/lang/Object;"⟩ ⟨"java/lang/Object", "clone", "()Ljava/lang/Object;"⟩, Cond.classLink RX8 53 "[I", Cond.fieldLink RX8 57 "JumpDesk" "rules" "[I", Cond.classLink RX8 60 RX1, Cond.fieldLink RX8 62 "JumpDesk" "falls" "[LJumpDesk$Fall;", Cond.classLink RX8 66 RX4, Cond.instantiable RX4 5, Cond.initialized RX4, Cond.fieldLink RX8 69 "JumpDesk" "line" "LJumpDesk$Line;", Cond.fieldLink RX8 73 "JumpDesk" "groupCount" "I", Cond.fieldLink RX8 77 "JumpDesk" "loadCount" "I", Cond.instantiable RX7 4, Cond.initialized RX7, Cond.instantiable RX3 4, Cond.initialized RX3, Cond.instantiable RX2 7, Cond.initialized RX2]
def wsL_law_r3 : List Cond := [Cond.instantiable RX6 5, Cond.initialized RX6, Cond.instantiable RX5 9, Cond.initialized RX5, Cond.instantiable RX1 5, Cond.initialized RX1, Cond.instanceMethod yX0_init, Cond.code yX0_init cX0_init 1 none, Cond.methodLink RX0 3 objectInit, Cond.arrayClass .int, Cond.fieldLink RX0 9 "JumpDesk$Air" "x" "[I", Cond.fieldLink RX0 15 "JumpDesk$Air" "y" "[I", Cond.instanceMethod yX4_init, Cond.code yX4_init cX4_init 1 none, Cond.methodLink RX4 3 objectInit, Cond.fieldLink RX4 9 "JumpDesk$Line" "pauses" "[I", Cond.fieldLink RX4 15 "JumpDesk$Line" "row" "[I", Cond.fieldLink RX4 18 "JumpDesk$Line" "best" "[I", Cond.fieldLink RX4 21 "JumpDesk$Line" "count" "I", Cond.fieldLink RX4 25 "JumpDesk$Line" "shortest" "I", Cond.instanceMethod yX7_init, Cond.code yX7_init cX7_init 1 none, Cond.methodLink RX7 3 objectInit, Cond.arrayClass .float]
def wsL_law_r4 : List Cond := [Cond.fieldLink RX7 9 "JumpDesk$Sheet" "numbers" "[F", Cond.arrayClass .boolean, Cond.fieldLink RX7 15 "JumpDesk$Sheet" "gaps" "[Z", Cond.fieldLink RX7 19 "JumpDesk$Sheet" "length" "I", Cond.fieldLink RX7 23 "JumpDesk$Sheet" "there" "Z", Cond.instanceMethod yX3_init, Cond.code yX3_init cX3_init 2 none, Cond.methodLink RX3 3 objectInit, Cond.fieldLink RX3 9 "JumpDesk$Jumper" "sort" "I", Cond.fieldLink RX3 15 "JumpDesk$Jumper" "weight" "I", Cond.fieldLink RX3 18 "JumpDesk$Jumper" "day" "I", Cond.fieldLink RX3 21 "JumpDesk$Jumper" "number" "I", Cond.instanceMethod yX2_init, Cond.code yX2_init cX2_init 2 none, Cond.methodLink RX2 3 objectInit, Cond.classLink RX2 9 RX3, Cond.fieldLink RX2 11 "JumpDesk$Group" "members" "[LJumpDesk$Jumper;", Cond.fieldLink RX2 17 "JumpDesk$Group" "count" "I", Cond.fieldLink RX2 21 "JumpDesk$Group" "kind" "I", Cond.fieldLink RX2 24 "JumpDesk$Group" "opens" "I", Cond.fieldLink RX2 27 "JumpDesk$Group" "forward" "I", Cond.fieldLink RX2 30 "JumpDesk$Group" "direction" "I", Cond.fieldLink RX2 33 "JumpDesk$Group" "number" "I", Cond.instanceMethod yX6_init]
def wsL_law_r5 : List Cond := [Cond.code yX6_init cX6_init 2 none, Cond.methodLink RX6 1 objectInit, Cond.fieldLink RX6 7 "JumpDesk$Plane" "seats" "I", Cond.fieldLink RX6 13 "JumpDesk$Plane" "bears" "I", Cond.fieldLink RX6 16 "JumpDesk$Plane" "speed" "I", Cond.constant RX6 19 (40000), Cond.fieldLink RX6 20 "JumpDesk$Plane" "height" "I", Cond.fieldLink RX6 23 "JumpDesk$Plane" "number" "I", Cond.instanceMethod yX5_init, Cond.code yX5_init cX5_init 1 none, Cond.methodLink RX5 3 objectInit, Cond.classLink RX5 9 RX2, Cond.fieldLink RX5 11 "JumpDesk$Load" "groups" "[LJumpDesk$Group;", Cond.fieldLink RX5 17 "JumpDesk$Load" "pauses" "[I", Cond.classLink RX5 21 RX6, Cond.fieldLink RX5 26 "JumpDesk$Load" "ownPlane" "LJumpDesk$Plane;", Cond.classLink RX5 30 RX0, Cond.fieldLink RX5 33 "JumpDesk$Load" "ownAir" "LJumpDesk$Air;", Cond.fieldLink RX5 37 "JumpDesk$Load" "plane" "LJumpDesk$Plane;", Cond.fieldLink RX5 40 "JumpDesk$Load" "air" "LJumpDesk$Air;", Cond.fieldLink RX5 43 "JumpDesk$Load" "count" "I", Cond.fieldLink RX5 47 "JumpDesk$Load" "start" "I", Cond.fieldLink RX5 50 "JumpDesk$Load" "left" "Z", Cond.instanceMethod yX1_init]
def wsL_law_r6 : List Cond := [Cond.code yX1_init cX1_init 1 none, Cond.methodLink RX1 3 objectInit, Cond.fieldLink RX1 9 "JumpDesk$Fall" "x" "[I", Cond.fieldLink RX1 15 "JumpDesk$Fall" "y" "[I", Cond.fieldLink RX1 18 "JumpDesk$Fall" "height" "[I", Cond.fieldLink RX1 21 "JumpDesk$Fall" "opened" "I", Cond.fieldLink RX1 25 "JumpDesk$Fall" "down" "I", Cond.methodLink RL 12 yX9_init, Cond.instanceMethod yX9_init, Cond.code yX9_init cX9_init 2 none, Cond.methodLink RX9 1 objectInit, Cond.fieldLink RX9 7 "JumpDeskModel" "sheetSize" "[I", Cond.fieldLink RX9 13 "JumpDeskModel" "sheet" "[F", Cond.fieldLink RX9 17 "JumpDeskModel" "isGap" "[Z", Cond.fieldLink RX9 21 "JumpDeskModel" "windX" "[I", Cond.fieldLink RX9 24 "JumpDeskModel" "windY" "[I", Cond.fieldLink RX9 27 "JumpDeskModel" "sortOf" "[I", Cond.fieldLink RX9 30 "JumpDeskModel" "weightOf" "[I", Cond.fieldLink RX9 33 "JumpDeskModel" "dayOf" "[I", Cond.fieldLink RX9 36 "JumpDeskModel" "kindOf" "[I", Cond.fieldLink RX9 39 "JumpDeskModel" "opensOf" "[I", Cond.fieldLink RX9 42 "JumpDeskModel" "forwardOf" "[I", Cond.fieldLink RX9 45 "JumpDeskModel" "directionOf" "[I", Cond.fieldLink RX9 48 "JumpDeskModel" "sizeOf" "[I"]
def wsL_law_r7 : List Cond := [Cond.fieldLink RX9 51 "JumpDeskModel" "jumperOf" "[I", Cond.fieldLink RX9 54 "JumpDeskModel" "seats" "[I", Cond.fieldLink RX9 57 "JumpDeskModel" "bears" "[I", Cond.fieldLink RX9 60 "JumpDeskModel" "speeds" "[I", Cond.fieldLink RX9 63 "JumpDeskModel" "heights" "[I", Cond.fieldLink RX9 66 "JumpDeskModel" "rules" "[I", Cond.fieldLink RX9 69 "JumpDeskModel" "planeOf" "[I", Cond.fieldLink RX9 72 "JumpDeskModel" "manyOf" "[I", Cond.fieldLink RX9 75 "JumpDeskModel" "groupAt" "[I", Cond.fieldLink RX9 78 "JumpDeskModel" "pauseAt" "[I", Cond.fieldLink RX9 81 "JumpDeskModel" "startOf" "[I", Cond.fieldLink RX9 84 "JumpDeskModel" "hasLeft" "[Z", Cond.fieldLink RX9 87 "JumpDeskModel" "leftWindX" "[I", Cond.fieldLink RX9 90 "JumpDeskModel" "leftWindY" "[I", Cond.fieldLink RX9 93 "JumpDeskModel" "leftSpeed" "[I", Cond.fieldLink RX9 96 "JumpDeskModel" "leftHeight" "[I", Cond.fieldLink RX9 99 "JumpDeskModel" "byX" "[I", Cond.fieldLink RX9 102 "JumpDeskModel" "byY" "[I", Cond.fieldLink RX9 105 "JumpDeskModel" "wayX" "[I", Cond.fieldLink RX9 108 "JumpDeskModel" "wayY" "[I", Cond.fieldLink RX9 111 "JumpDeskModel" "wayHeight" "[I", Cond.fieldLink RX9 114 "JumpDeskModel" "wayState" "[I", Cond.fieldLink RX9 117 "JumpDeskModel" "downAt" "[I", Cond.fieldLink RX9 120 "JumpDeskModel" "openFor" "[I"]
def wsL_law_r8 : List Cond := [Cond.fieldLink RX9 123 "JumpDeskModel" "sorted" "[I", Cond.fieldLink RX9 126 "JumpDeskModel" "pauses" "[I", Cond.fieldLink RX9 129 "JumpDeskModel" "tried" "[I", Cond.fieldLink RX9 132 "JumpDeskModel" "best" "[I", Cond.constant RX9 135 (40000), Cond.methodLink RL 13 yX8_sheet, Cond.instanceMethod yX8_sheet, Cond.selects RX8 yX8_sheet yX8_sheet, Cond.code yX8_sheet cX8_sheet 4 (some .int), Cond.methodLink RX8 88 yX8_sheetAt, Cond.instanceMethod yX8_sheetAt, Cond.selects RX8 yX8_sheetAt yX8_sheetAt, Cond.code yX8_sheetAt cX8_sheetAt 2 (some (.object "JumpDesk$Sheet")), Cond.instanceMethod yX7_begin, Cond.selects RX7 yX7_begin yX7_begin, Cond.code yX7_begin cX7_begin 3 none, Cond.methodLink RL 17 yX9_sheet, Cond.instanceMethod yX9_sheet, Cond.selects RX9 yX9_sheet yX9_sheet, Cond.code yX9_sheet cX9_sheet 4 (some .int), Cond.methodLink RX9 153 yX9_isSheet, Cond.static yX9_isSheet, Cond.code yX9_isSheet cX9_isSheet 1 (some .boolean), Cond.constantLong RX9 136 (2)]
def wsL_law_r9 : List Cond := [Cond.methodLink RX9 138 yX9_in, Cond.static yX9_in, Cond.code yX9_in cX9_in 6 (some .boolean), Cond.methodLink RL 18 yX8_cell, Cond.instanceMethod yX8_cell, Cond.selects RX8 yX8_cell yX8_cell, Cond.code yX8_cell cX8_cell 6 (some .int), Cond.methodLink RX8 95 yX8_within, Cond.static yX8_within, Cond.code yX8_within cX8_within 3 (some .boolean), Cond.instanceMethod yX7_has, Cond.selects RX7 yX7_has yX7_has, Cond.code yX7_has cX7_has 2 (some .boolean), Cond.instanceMethod yX7_write, Cond.selects RX7 yX7_write yX7_write, Cond.code yX7_write cX7_write 3 none, Cond.methodLink RX7 27 yX7_has, Cond.methodLink RL 22 yX9_cell, Cond.instanceMethod yX9_cell, Cond.selects RX9 yX9_cell yX9_cell, Cond.code yX9_cell cX9_cell 5 (some .int), Cond.constantLong RX9 156 (20), Cond.methodLink RL 23 yX8_gap, Cond.instanceMethod yX8_gap]
def wsL_law_r10 : List Cond := [Cond.selects RX8 yX8_gap yX8_gap, Cond.code yX8_gap cX8_gap 4 (some .int), Cond.instanceMethod yX7_blank, Cond.selects RX7 yX7_blank yX7_blank, Cond.code yX7_blank cX7_blank 2 none, Cond.methodLink RL 26 yX9_gap, Cond.instanceMethod yX9_gap, Cond.selects RX9 yX9_gap yX9_gap, Cond.code yX9_gap cX9_gap 3 (some .int), Cond.methodLink RL 27 yX8_lose, Cond.instanceMethod yX8_lose, Cond.selects RX8 yX8_lose yX8_lose, Cond.code yX8_lose cX8_lose 3 (some .int), Cond.methodLink RL 31 yX9_lose, Cond.instanceMethod yX9_lose, Cond.selects RX9 yX9_lose yX9_lose, Cond.code yX9_lose cX9_lose 2 (some .int), Cond.methodLink RL 32 yX8_told, Cond.instanceMethod yX8_told, Cond.selects RX8 yX8_told yX8_told, Cond.code yX8_told cX8_told 4 (some .int), Cond.constant RX8 114 (-2147483648), Cond.constantFloat RX8 119 (1148846080), Cond.instanceMethod yX7_filled]
def wsL_law_r11 : List Cond := [Cond.selects RX7 yX7_filled yX7_filled, Cond.code yX7_filled cX7_filled 4 (some .float), Cond.methodLink RX7 31 yX7_knownBelow, Cond.instanceMethod yX7_knownBelow, Cond.selects RX7 yX7_knownBelow yX7_knownBelow, Cond.code yX7_knownBelow cX7_knownBelow 3 (some .int), Cond.methodLink RX7 35 yX7_knownAbove, Cond.instanceMethod yX7_knownAbove, Cond.selects RX7 yX7_knownAbove yX7_knownAbove, Cond.code yX7_knownAbove cX7_knownAbove 3 (some .int), Cond.methodLink RL 35 yX9_told, Cond.instanceMethod yX9_told, Cond.selects RX9 yX9_told yX9_told, Cond.code yX9_told cX9_told 3 (some .int), Cond.constant RX9 164 (-2147483648), Cond.constantFloat RX9 169 (1148846080), Cond.methodLink RX9 165 yX9_filled, Cond.instanceMethod yX9_filled, Cond.selects RX9 yX9_filled yX9_filled, Cond.code yX9_filled cX9_filled 5 (some .float), Cond.methodLink RX9 158 yX9_nearest, Cond.instanceMethod yX9_nearest, Cond.selects RX9 yX9_nearest yX9_nearest, Cond.code yX9_nearest cX9_nearest 5 (some .int)]
def wsL_law_r12 : List Cond := [Cond.methodLink RL 36 yX8_winds, Cond.instanceMethod yX8_winds, Cond.selects RX8 yX8_winds yX8_winds, Cond.code yX8_winds cX8_winds 6 (some .int), Cond.methodLink RX8 120 yX8_tellsWinds, Cond.static yX8_tellsWinds, Cond.code yX8_tellsWinds cX8_tellsWinds 2 (some .boolean), Cond.instanceMethod yX7_windOf, Cond.selects RX7 yX7_windOf yX7_windOf, Cond.code yX7_windOf cX7_windOf 2 (some .int), Cond.methodLink RX7 38 Lib.Math.min.name, Cond.static Lib.Math.min.name, Cond.initialized "java/lang/Math", Cond.code Lib.Math.min.name Lib.Math.min.code 2 (some .int), Cond.constantFloat RX7 48 (1092616192), Cond.methodLink RX7 44 yX7_filled, Cond.methodLink RX8 132 yX8_isWind, Cond.static yX8_isWind, Cond.code yX8_isWind cX8_isWind 1 (some .boolean), Cond.instanceMethod yX0_blowAt, Cond.selects RX0 yX0_blowAt yX0_blowAt, Cond.code yX0_blowAt cX0_blowAt 4 none, Cond.methodLink RL 39 yX9_winds, Cond.instanceMethod yX9_winds]
def wsL_law_r13 : List Cond := [Cond.selects RX9 yX9_winds yX9_winds, Cond.code yX9_winds cX9_winds 5 (some .int), Cond.constantLong RX9 175 (-300), Cond.constantLong RX9 177 (300), Cond.methodLink RX9 171 yX9_tenTimes, Cond.instanceMethod yX9_tenTimes, Cond.selects RX9 yX9_tenTimes yX9_tenTimes, Cond.code yX9_tenTimes cX9_tenTimes 4 (some .int), Cond.constantFloat RX9 170 (1092616192), Cond.methodLink RL 40 yX8_wind, Cond.instanceMethod yX8_wind, Cond.selects RX8 yX8_wind yX8_wind, Cond.code yX8_wind cX8_wind 4 (some .int), Cond.methodLink RL 44 yX9_wind, Cond.instanceMethod yX9_wind, Cond.selects RX9 yX9_wind yX9_wind, Cond.code yX9_wind cX9_wind 4 (some .int), Cond.constantLong RX9 179 (11), Cond.methodLink RL 45 yX8_blows, Cond.instanceMethod yX8_blows, Cond.selects RX8 yX8_blows yX8_blows, Cond.code yX8_blows cX8_blows 3 (some .int), Cond.instanceMethod yX0_alongX, Cond.selects RX0 yX0_alongX yX0_alongX]
def wsL_law_r14 : List Cond := [Cond.code yX0_alongX cX0_alongX 2 (some .int), Cond.instanceMethod yX0_alongY, Cond.selects RX0 yX0_alongY yX0_alongY, Cond.code yX0_alongY cX0_alongY 2 (some .int), Cond.methodLink RL 48 yX9_blows, Cond.instanceMethod yX9_blows, Cond.selects RX9 yX9_blows yX9_blows, Cond.code yX9_blows cX9_blows 3 (some .int), Cond.methodLink RL 49 yX8_jumper, Cond.instanceMethod yX8_jumper, Cond.selects RX8 yX8_jumper yX8_jumper, Cond.code yX8_jumper cX8_jumper 6 (some .int), Cond.methodLink RX8 141 yX8_jumperAt, Cond.instanceMethod yX8_jumperAt, Cond.selects RX8 yX8_jumperAt yX8_jumperAt, Cond.code yX8_jumperAt cX8_jumperAt 2 (some (.object "JumpDesk$Jumper")), Cond.instanceMethod yX3_become, Cond.selects RX3 yX3_become yX3_become, Cond.code yX3_become cX3_become 4 none, Cond.methodLink RL 52 yX9_jumper, Cond.instanceMethod yX9_jumper, Cond.selects RX9 yX9_jumper yX9_jumper, Cond.code yX9_jumper cX9_jumper 5 (some .int), Cond.constantLong RX9 181 (31)]
def wsL_law_r15 : List Cond := [Cond.constantLong RX9 183 (40), Cond.constantLong RX9 185 (200), Cond.constantLong RX9 187 (1000), Cond.methodLink RL 53 yX8_group, Cond.instanceMethod yX8_group, Cond.selects RX8 yX8_group yX8_group, Cond.code yX8_group cX8_group 5 (some .int), Cond.instanceMethod yX2_become, Cond.selects RX2 yX2_become yX2_become, Cond.code yX2_become cX2_become 5 none, Cond.methodLink RL 56 yX9_group, Cond.instanceMethod yX9_group, Cond.selects RX9 yX9_group yX9_group, Cond.code yX9_group cX9_group 5 (some .int), Cond.constantLong RX9 189 (3), Cond.constantLong RX9 191 (6000), Cond.constantLong RX9 193 (15000), Cond.constantLong RX9 195 (150), Cond.fieldLink RX9 142 "JumpDeskModel" "groups" "I", Cond.methodLink RL 57 yX8_join, Cond.instanceMethod yX8_join, Cond.selects RX8 yX8_join yX8_join, Cond.code yX8_join cX8_join 5 (some .int), Cond.methodLink RX8 151 yX8_groupAt]
def wsL_law_r16 : List Cond := [Cond.instanceMethod yX8_groupAt, Cond.selects RX8 yX8_groupAt yX8_groupAt, Cond.code yX8_groupAt cX8_groupAt 2 (some (.object "JumpDesk$Group")), Cond.methodLink RX8 155 yX8_isInSomeLoad, Cond.instanceMethod yX8_isInSomeLoad, Cond.selects RX8 yX8_isInSomeLoad yX8_isInSomeLoad, Cond.code yX8_isInSomeLoad cX8_isInSomeLoad 4 (some .boolean), Cond.instanceMethod yX5_holds, Cond.selects RX5 yX5_holds yX5_holds, Cond.code yX5_holds cX5_holds 3 (some .boolean), Cond.instanceMethod yX2_holds, Cond.selects RX2 yX2_holds yX2_holds, Cond.code yX2_holds cX2_holds 3 (some .boolean), Cond.instanceMethod yX2_add, Cond.selects RX2 yX2_add yX2_add, Cond.code yX2_add cX2_add 2 none, Cond.methodLink RL 60 yX9_join, Cond.instanceMethod yX9_join, Cond.selects RX9 yX9_join yX9_join, Cond.code yX9_join cX9_join 3 (some .int), Cond.methodLink RX9 197 yX9_isGroup, Cond.instanceMethod yX9_isGroup, Cond.selects RX9 yX9_isGroup yX9_isGroup, Cond.code yX9_isGroup cX9_isGroup 2 (some .boolean)]
def wsL_law_r17 : List Cond := [Cond.methodLink RX9 200 yX9_isInSome, Cond.instanceMethod yX9_isInSome, Cond.selects RX9 yX9_isInSome yX9_isInSome, Cond.code yX9_isInSome cX9_isInSome 6 (some .boolean), Cond.fieldLink RX9 146 "JumpDeskModel" "loads" "I", Cond.methodLink RX9 204 yX9_hasJumper, Cond.instanceMethod yX9_hasJumper, Cond.selects RX9 yX9_hasJumper yX9_hasJumper, Cond.code yX9_hasJumper cX9_hasJumper 5 (some .boolean), Cond.methodLink RL 61 yX8_of, Cond.instanceMethod yX8_of, Cond.selects RX8 yX8_of yX8_of, Cond.code yX8_of cX8_of 4 (some .int), Cond.instanceMethod yX2_tell, Cond.selects RX2 yX2_tell yX2_tell, Cond.code yX2_tell cX2_tell 2 (some .int), Cond.methodLink RX2 36 yX2_weight, Cond.instanceMethod yX2_weight, Cond.selects RX2 yX2_weight yX2_weight, Cond.code yX2_weight cX2_weight 3 (some .int), Cond.methodLink RL 64 yX9_of, Cond.instanceMethod yX9_of, Cond.selects RX9 yX9_of yX9_of, Cond.code yX9_of cX9_of 3 (some .int)]
def wsL_law_r18 : List Cond := [Cond.methodLink RX9 208 yX9_weightIn, Cond.instanceMethod yX9_weightIn, Cond.selects RX9 yX9_weightIn yX9_weightIn, Cond.code yX9_weightIn cX9_weightIn 4 (some .int), Cond.methodLink RL 65 yX8_plane, Cond.instanceMethod yX8_plane, Cond.selects RX8 yX8_plane yX8_plane, Cond.code yX8_plane cX8_plane 7 (some .int), Cond.constant RX8 177 (47000), Cond.methodLink RX8 173 yX8_planeAt, Cond.instanceMethod yX8_planeAt, Cond.selects RX8 yX8_planeAt yX8_planeAt, Cond.code yX8_planeAt cX8_planeAt 2 (some (.object "JumpDesk$Plane")), Cond.instanceMethod yX6_become, Cond.selects RX6 yX6_become yX6_become, Cond.code yX6_become cX6_become 5 none, Cond.methodLink RL 69 yX9_plane, Cond.instanceMethod yX9_plane, Cond.selects RX9 yX9_plane yX9_plane, Cond.code yX9_plane cX9_plane 6 (some .int), Cond.constantLong RX9 212 (100), Cond.constantLong RX9 214 (4000), Cond.constantLong RX9 216 (600), Cond.constantLong RX9 218 (47000)]
def wsL_law_r19 : List Cond := [Cond.methodLink RL 70 yX8_rule, Cond.instanceMethod yX8_rule, Cond.selects RX8 yX8_rule yX8_rule, Cond.code yX8_rule cX8_rule 4 (some .int), Cond.fieldLink RX8 179 "JumpDesk" "MOST_RULES" "[I", Cond.methodLink RL 73 yX9_rule, Cond.instanceMethod yX9_rule, Cond.selects RX9 yX9_rule yX9_rule, Cond.code yX9_rule cX9_rule 5 (some .int), Cond.constantLong RX9 220 (9), Cond.constant RX9 222 (180000), Cond.methodLink RL 74 yX8_load, Cond.instanceMethod yX8_load, Cond.selects RX8 yX8_load yX8_load, Cond.code yX8_load cX8_load 3 (some .int), Cond.instanceMethod yX5_begin, Cond.selects RX5 yX5_begin yX5_begin, Cond.code yX5_begin cX5_begin 3 none, Cond.methodLink RL 77 yX9_load, Cond.instanceMethod yX9_load, Cond.selects RX9 yX9_load yX9_load, Cond.code yX9_load cX9_load 2 (some .int), Cond.methodLink RL 78 yX8_put, Cond.instanceMethod yX8_put]
def wsL_law_r20 : List Cond := [Cond.selects RX8 yX8_put yX8_put, Cond.code yX8_put cX8_put 6 (some .int), Cond.methodLink RX8 185 yX8_loadAt, Cond.instanceMethod yX8_loadAt, Cond.selects RX8 yX8_loadAt yX8_loadAt, Cond.code yX8_loadAt cX8_loadAt 2 (some (.object "JumpDesk$Load")), Cond.methodLink RX8 189 yX8_isPause, Cond.static yX8_isPause, Cond.code yX8_isPause cX8_isPause 1 (some .boolean), Cond.instanceMethod yX5_add, Cond.selects RX5 yX5_add yX5_add, Cond.code yX5_add cX5_add 3 none, Cond.methodLink RL 81 yX9_put, Cond.instanceMethod yX9_put, Cond.selects RX9 yX9_put yX9_put, Cond.code yX9_put cX9_put 4 (some .int), Cond.constantLong RX9 223 (60), Cond.methodLink RX9 149 yX9_isLoad, Cond.instanceMethod yX9_isLoad, Cond.selects RX9 yX9_isLoad yX9_isLoad, Cond.code yX9_isLoad cX9_isLoad 2 (some .boolean), Cond.methodLink RL 82 yX8_out, Cond.instanceMethod yX8_out, Cond.selects RX8 yX8_out yX8_out]
def wsL_law_r21 : List Cond := [Cond.code yX8_out cX8_out 4 (some .int), Cond.instanceMethod yX5_has, Cond.selects RX5 yX5_has yX5_has, Cond.code yX5_has cX5_has 2 (some .boolean), Cond.instanceMethod yX5_remove, Cond.selects RX5 yX5_remove yX5_remove, Cond.code yX5_remove cX5_remove 3 none, Cond.methodLink RX5 62 yX5_has, Cond.methodLink RL 85 yX9_out, Cond.instanceMethod yX9_out, Cond.selects RX9 yX9_out yX9_out, Cond.code yX9_out cX9_out 4 (some .int), Cond.methodLink RX9 225 yX9_isIn, Cond.instanceMethod yX9_isIn, Cond.selects RX9 yX9_isIn yX9_isIn, Cond.code yX9_isIn cX9_isIn 3 (some .boolean), Cond.methodLink RL 86 yX8_pause, Cond.instanceMethod yX8_pause, Cond.selects RX8 yX8_pause yX8_pause, Cond.code yX8_pause cX8_pause 5 (some .int), Cond.methodLink RL 89 yX9_pause, Cond.instanceMethod yX9_pause, Cond.selects RX9 yX9_pause yX9_pause, Cond.code yX9_pause cX9_pause 4 (some .int)]
def wsL_law_r22 : List Cond := [Cond.methodLink RL 90 yX8_start, Cond.instanceMethod yX8_start, Cond.selects RX8 yX8_start yX8_start, Cond.code yX8_start cX8_start 4 (some .int), Cond.constant RX8 206 (-50000), Cond.constant RX8 207 (50000), Cond.methodLink RL 93 yX9_start, Cond.instanceMethod yX9_start, Cond.selects RX9 yX9_start yX9_start, Cond.code yX9_start cX9_start 3 (some .int), Cond.constantLong RX9 228 (-50000), Cond.constantLong RX9 230 (50000), Cond.methodLink RL 94 yX8_in, Cond.instanceMethod yX8_in, Cond.selects RX8 yX8_in yX8_in, Cond.code yX8_in cX8_in 4 (some .int), Cond.instanceMethod yX5_tell, Cond.selects RX5 yX5_tell yX5_tell, Cond.code yX5_tell cX5_tell 2 (some .int), Cond.methodLink RX5 69 yX5_tellOfPlace, Cond.instanceMethod yX5_tellOfPlace, Cond.selects RX5 yX5_tellOfPlace yX5_tellOfPlace, Cond.code yX5_tellOfPlace cX5_tellOfPlace 3 (some .int), Cond.methodLink RX5 74 yX5_secondOf]
def wsL_law_r23 : List Cond := [Cond.instanceMethod yX5_secondOf, Cond.selects RX5 yX5_secondOf yX5_secondOf, Cond.code yX5_secondOf cX5_secondOf 4 (some .int), Cond.methodLink RL 97 yX9_in_, Cond.instanceMethod yX9_in_, Cond.selects RX9 yX9_in_ yX9_in_, Cond.code yX9_in_ cX9_in_ 5 (some .int), Cond.methodLink RX9 232 yX9_leavesAt, Cond.instanceMethod yX9_leavesAt, Cond.selects RX9 yX9_leavesAt yX9_leavesAt, Cond.code yX9_leavesAt cX9_leavesAt 5 (some .int), Cond.methodLink RL 98 yX8_where, Cond.instanceMethod yX8_where, Cond.selects RX8 yX8_where yX8_where, Cond.code yX8_where cX8_where 8 (some .int), Cond.constant RX8 212 (-1000000), Cond.methodLink RX8 226 Lib.Math.min.name, Cond.instanceMethod yX1_follow, Cond.selects RX1 yX1_follow yX1_follow, Cond.code yX1_follow cX1_follow 5 none, Cond.methodLink RX1 36 Lib.Math.max.name, Cond.static Lib.Math.max.name, Cond.code Lib.Math.max.name Lib.Math.max.code 2 (some .int), Cond.methodLink RX1 32 yX1_drift]
def wsL_law_r24 : List Cond := [Cond.instanceMethod yX1_drift, Cond.selects RX1 yX1_drift yX1_drift, Cond.code yX1_drift cX1_drift 4 none, Cond.methodLink RX1 45 yX1_fall, Cond.instanceMethod yX1_fall, Cond.selects RX1 yX1_fall yX1_fall, Cond.code yX1_fall cX1_fall 4 none, Cond.methodLink RX1 66 yX1_track, Cond.instanceMethod yX1_track, Cond.selects RX1 yX1_track yX1_track, Cond.code yX1_track cX1_track 3 none, Cond.instanceMethod yX2_dropIn, Cond.selects RX2 yX2_dropIn yX2_dropIn, Cond.code yX2_dropIn cX2_dropIn 3 (some .int), Cond.instanceMethod yX2_opensBehind, Cond.selects RX2 yX2_opensBehind yX2_opensBehind, Cond.code yX2_opensBehind cX2_opensBehind 3 (some .boolean), Cond.instanceMethod yX5_leavesAtX, Cond.selects RX5 yX5_leavesAtX yX5_leavesAtX, Cond.code yX5_leavesAtX cX5_leavesAtX 2 (some .int), Cond.instanceMethod yX1_stateAt, Cond.selects RX1 yX1_stateAt yX1_stateAt, Cond.code yX1_stateAt cX1_stateAt 2 (some .int), Cond.methodLink RL 101 yX9_where]
def wsL_law_r25 : List Cond := [Cond.instanceMethod yX9_where, Cond.selects RX9 yX9_where yX9_where, Cond.code yX9_where cX9_where 5 (some .int), Cond.constant RX9 252 (-1000000), Cond.fieldLink RX9 235 "JumpDeskModel" "bySpeed" "I", Cond.methodLink RX9 253 yX9_takeLoad, Cond.instanceMethod yX9_takeLoad, Cond.selects RX9 yX9_takeLoad yX9_takeLoad, Cond.code yX9_takeLoad cX9_takeLoad 3 none, Cond.fieldLink RX9 238 "JumpDeskModel" "byHeight" "I", Cond.methodLink RX9 241 yX9_takePlane, Cond.instanceMethod yX9_takePlane, Cond.selects RX9 yX9_takePlane yX9_takePlane, Cond.code yX9_takePlane cX9_takePlane 3 none, Cond.methodLink RX9 256 yX9_layOut, Cond.instanceMethod yX9_layOut, Cond.selects RX9 yX9_layOut yX9_layOut, Cond.code yX9_layOut cX9_layOut 7 none, Cond.methodLink RX9 245 yX9_fall, Cond.instanceMethod yX9_fall, Cond.selects RX9 yX9_fall yX9_fall, Cond.code yX9_fall cX9_fall 6 none, Cond.methodLink RX9 249 yX9_least, Cond.static yX9_least]
def wsL_law_r26 : List Cond := [Cond.code yX9_least cX9_least 2 (some .int), Cond.methodLink RL 102 yX8_near, Cond.instanceMethod yX8_near, Cond.selects RX8 yX8_near yX8_near, Cond.code yX8_near cX8_near 8 (some .long), Cond.constantLong RX8 247 (-1), Cond.methodLink RX8 249 Lib.Math.max.name, Cond.instanceMethod yX1_nearTo, Cond.selects RX1 yX1_nearTo yX1_nearTo, Cond.code yX1_nearTo cX1_nearTo 18 (some .long), Cond.constantLong RX1 77 (1152921504606846976), Cond.methodLink RX1 79 Lib.Math.min.name, Cond.methodLink RX1 82 Lib.MathLoose.min_long.x, Cond.static Lib.MathLoose.min_long.x, Cond.code Lib.MathLoose.min_long.x Lib.MathLoose.min_long.code 4 (some .long), Cond.methodLink RL 106 yX9_near, Cond.instanceMethod yX9_near, Cond.selects RX9 yX9_near yX9_near, Cond.code yX9_near cX9_near 4 (some .long), Cond.constantLong RX9 266 (-1), Cond.methodLink RX9 268 yX9_nearOf, Cond.instanceMethod yX9_nearOf, Cond.selects RX9 yX9_nearOf yX9_nearOf, Cond.code yX9_nearOf cX9_nearOf 6 (some .long)]
def wsL_law_r27 : List Cond := [Cond.methodLink RX9 262 yX9_nearBy, Cond.instanceMethod yX9_nearBy, Cond.selects RX9 yX9_nearBy yX9_nearBy, Cond.code yX9_nearBy cX9_nearBy 14 (some .long), Cond.constantLong RX9 260 (1152921504606846976), Cond.methodLink RL 107 yX8_between, Cond.instanceMethod yX8_between, Cond.selects RX8 yX8_between yX8_between, Cond.code yX8_between cX8_between 8 (some .int), Cond.methodLink RX8 262 yX8_leastPause, Cond.instanceMethod yX8_leastPause, Cond.selects RX8 yX8_leastPause yX8_leastPause, Cond.code yX8_leastPause cX8_leastPause 5 (some .int), Cond.methodLink RX8 365 yX8_areFree, Cond.instanceMethod yX8_areFree, Cond.selects RX8 yX8_areFree yX8_areFree, Cond.code yX8_areFree cX8_areFree 7 (some .boolean), Cond.methodLink RL 110 yX9_between, Cond.instanceMethod yX9_between, Cond.selects RX9 yX9_between yX9_between, Cond.code yX9_between cX9_between 4 (some .int), Cond.methodLink RX9 276 yX9_betweenOf, Cond.instanceMethod yX9_betweenOf, Cond.selects RX9 yX9_betweenOf yX9_betweenOf]
def wsL_law_r28 : List Cond := [Cond.code yX9_betweenOf cX9_betweenOf 4 (some .int), Cond.methodLink RX9 272 yX9_isFree, Cond.instanceMethod yX9_isFree, Cond.selects RX9 yX9_isFree yX9_isFree, Cond.code yX9_isFree cX9_isFree 3 (some .boolean), Cond.methodLink RL 111 yX8_order, Cond.instanceMethod yX8_order, Cond.selects RX8 yX8_order yX8_order, Cond.code yX8_order cX8_order 3 (some .int), Cond.methodLink RX8 266 yX8_measurePauses, Cond.instanceMethod yX8_measurePauses, Cond.selects RX8 yX8_measurePauses yX8_measurePauses, Cond.code yX8_measurePauses cX8_measurePauses 8 none, Cond.methodLink RX8 284 yX8_followAll, Cond.instanceMethod yX8_followAll, Cond.selects RX8 yX8_followAll yX8_followAll, Cond.code yX8_followAll cX8_followAll 3 none, Cond.methodLink RX8 361 yX8_mayLeaveAhead, Cond.instanceMethod yX8_mayLeaveAhead, Cond.selects RX8 yX8_mayLeaveAhead yX8_mayLeaveAhead, Cond.code yX8_mayLeaveAhead cX8_mayLeaveAhead 3 (some .boolean), Cond.instanceMethod yX4_measure, Cond.selects RX4 yX4_measure yX4_measure, Cond.code yX4_measure cX4_measure 4 none]
def wsL_law_r29 : List Cond := [Cond.instanceMethod yX4_begin, Cond.selects RX4 yX4_begin yX4_begin, Cond.code yX4_begin cX4_begin 5 none, Cond.instanceMethod yX4_findShortest, Cond.selects RX4 yX4_findShortest yX4_findShortest, Cond.code yX4_findShortest cX4_findShortest 4 (some .boolean), Cond.methodLink RX4 44 arraycopyName, Cond.native arraycopyName, Cond.static arraycopyName, Cond.initialized "java/lang/System", Cond.methodLink RX4 40 yX4_sumOfRow, Cond.instanceMethod yX4_sumOfRow, Cond.selects RX4 yX4_sumOfRow yX4_sumOfRow, Cond.code yX4_sumOfRow cX4_sumOfRow 4 (some .int), Cond.methodLink RX4 54 yX4_pauseBetween, Cond.instanceMethod yX4_pauseBetween, Cond.selects RX4 yX4_pauseBetween yX4_pauseBetween, Cond.code yX4_pauseBetween cX4_pauseBetween 3 (some .int), Cond.methodLink RX4 50 yX4_stepRow, Cond.instanceMethod yX4_stepRow, Cond.selects RX4 yX4_stepRow yX4_stepRow, Cond.code yX4_stepRow cX4_stepRow 5 (some .boolean), Cond.methodLink RX4 58 yX4_swap, Cond.instanceMethod yX4_swap]
def wsL_law_r30 : List Cond := [Cond.selects RX4 yX4_swap yX4_swap, Cond.code yX4_swap cX4_swap 4 none, Cond.instanceMethod yX4_giveTo, Cond.selects RX4 yX4_giveTo yX4_giveTo, Cond.code yX4_giveTo cX4_giveTo 4 none, Cond.methodLink RL 114 yX9_order, Cond.instanceMethod yX9_order, Cond.selects RX9 yX9_order yX9_order, Cond.code yX9_order cX9_order 7 (some .int), Cond.methodLink RX9 282 yX9_sortGroups, Cond.instanceMethod yX9_sortGroups, Cond.selects RX9 yX9_sortGroups yX9_sortGroups, Cond.code yX9_sortGroups cX9_sortGroups 5 none, Cond.methodLink RX9 285 yX9_sumOf, Cond.instanceMethod yX9_sumOf, Cond.selects RX9 yX9_sumOf yX9_sumOf, Cond.code yX9_sumOf cX9_sumOf 6 (some .int), Cond.methodLink RX9 279 yX9_rankOf, Cond.instanceMethod yX9_rankOf, Cond.selects RX9 yX9_rankOf yX9_rankOf, Cond.code yX9_rankOf cX9_rankOf 2 (some .int), Cond.methodLink RX9 288 yX9_nextOrder, Cond.instanceMethod yX9_nextOrder, Cond.selects RX9 yX9_nextOrder yX9_nextOrder]
def wsL_law_r31 : List Cond := [Cond.code yX9_nextOrder cX9_nextOrder 7 (some .boolean), Cond.methodLink RL 115 yX8_spot, Cond.instanceMethod yX8_spot, Cond.selects RX8 yX8_spot yX8_spot, Cond.code yX8_spot cX8_spot 9 (some .int), Cond.constant RX8 283 (-100002), Cond.constant RX8 291 (-100001), Cond.methodLink RX8 287 yX8_roomAlongX, Cond.instanceMethod yX8_roomAlongX, Cond.selects RX8 yX8_roomAlongX yX8_roomAlongX, Cond.code yX8_roomAlongX cX8_roomAlongX 7 (some .int), Cond.instanceMethod yX1_downY, Cond.selects RX1 yX1_downY yX1_downY, Cond.code yX1_downY cX1_downY 1 (some .int), Cond.methodLink RX8 382 yX8_reachSquare, Cond.instanceMethod yX8_reachSquare, Cond.selects RX8 yX8_reachSquare yX8_reachSquare, Cond.code yX8_reachSquare cX8_reachSquare 5 (some .long), Cond.instanceMethod yX1_secondsOpen, Cond.selects RX1 yX1_secondsOpen yX1_secondsOpen, Cond.code yX1_secondsOpen cX1_secondsOpen 1 (some .int), Cond.methodLink RX8 386 yX8_wholeRoot, Cond.static yX8_wholeRoot, Cond.code yX8_wholeRoot cX8_wholeRoot 6 (some .int)]
def wsL_law_r32 : List Cond := [Cond.constant RX8 390 (1048576), Cond.instanceMethod yX1_downX, Cond.selects RX1 yX1_downX yX1_downX, Cond.code yX1_downX cX1_downX 1 (some .int), Cond.methodLink RL 118 yX9_spot, Cond.instanceMethod yX9_spot, Cond.selects RX9 yX9_spot yX9_spot, Cond.code yX9_spot cX9_spot 3 (some .int), Cond.constant RX9 304 (-100002), Cond.fieldLink RX9 293 "JumpDeskModel" "lowest" "J", Cond.fieldLink RX9 297 "JumpDeskModel" "highest" "J", Cond.constant RX9 308 (-100001), Cond.methodLink RX9 305 yX9_findStarts, Cond.instanceMethod yX9_findStarts, Cond.selects RX9 yX9_findStarts yX9_findStarts, Cond.code yX9_findStarts cX9_findStarts 14 none, Cond.methodLink RX9 300 yX9_root, Cond.static yX9_root, Cond.code yX9_root cX9_root 6 (some .long), Cond.constantLong RX9 291 (1073741824), Cond.methodLink RL 119 yX8_why, Cond.instanceMethod yX8_why, Cond.selects RX8 yX8_why yX8_why, Cond.code yX8_why cX8_why 4 (some .int)]
def wsL_law_r33 : List Cond := [Cond.instanceMethod yX5_lacksJumpers, Cond.selects RX5 yX5_lacksJumpers yX5_lacksJumpers, Cond.code yX5_lacksJumpers cX5_lacksJumpers 2 (some .boolean), Cond.instanceMethod yX5_jumperCount, Cond.selects RX5 yX5_jumperCount yX5_jumperCount, Cond.code yX5_jumperCount cX5_jumperCount 3 (some .int), Cond.instanceMethod yX5_weight, Cond.selects RX5 yX5_weight yX5_weight, Cond.code yX5_weight cX5_weight 3 (some .int), Cond.instanceMethod yX5_isWornOn, Cond.selects RX5 yX5_isWornOn yX5_isWornOn, Cond.code yX5_isWornOn cX5_isWornOn 3 (some .boolean), Cond.instanceMethod yX2_isWornOn, Cond.selects RX2 yX2_isWornOn yX2_isWornOn, Cond.code yX2_isWornOn cX2_isWornOn 3 (some .boolean), Cond.instanceMethod yX5_holdsOneTwice, Cond.selects RX5 yX5_holdsOneTwice yX5_holdsOneTwice, Cond.code yX5_holdsOneTwice cX5_holdsOneTwice 3 (some .boolean), Cond.instanceMethod yX2_sharesOneWith, Cond.selects RX2 yX2_sharesOneWith yX2_sharesOneWith, Cond.code yX2_sharesOneWith cX2_sharesOneWith 3 (some .boolean), Cond.methodLink RX2 53 yX2_holds, Cond.instanceMethod yX5_lacksHelp, Cond.selects RX5 yX5_lacksHelp yX5_lacksHelp]
def wsL_law_r34 : List Cond := [Cond.code yX5_lacksHelp cX5_lacksHelp 2 (some .boolean), Cond.instanceMethod yX2_lacksHelp, Cond.selects RX2 yX2_lacksHelp yX2_lacksHelp, Cond.code yX2_lacksHelp cX2_lacksHelp 2 (some .boolean), Cond.methodLink RX2 46 yX2_countOf, Cond.instanceMethod yX2_countOf, Cond.selects RX2 yX2_countOf yX2_countOf, Cond.code yX2_countOf cX2_countOf 4 (some .int), Cond.methodLink RX8 320 yX8_whyByFall, Cond.instanceMethod yX8_whyByFall, Cond.selects RX8 yX8_whyByFall yX8_whyByFall, Cond.code yX8_whyByFall cX8_whyByFall 2 (some .int), Cond.methodLink RX8 342 yX8_isTooWindy, Cond.instanceMethod yX8_isTooWindy, Cond.selects RX8 yX8_isTooWindy yX8_isTooWindy, Cond.code yX8_isTooWindy cX8_isTooWindy 4 (some .boolean), Cond.instanceMethod yX0_squareOnGround, Cond.selects RX0 yX0_squareOnGround yX0_squareOnGround, Cond.code yX0_squareOnGround cX0_squareOnGround 1 (some .int), Cond.methodLink RX8 346 yX8_ranksAllow, Cond.instanceMethod yX8_ranksAllow, Cond.selects RX8 yX8_ranksAllow yX8_ranksAllow, Cond.code yX8_ranksAllow cX8_ranksAllow 3 (some .boolean), Cond.methodLink RX8 349 yX8_allFree]
def wsL_law_r35 : List Cond := [Cond.instanceMethod yX8_allFree, Cond.selects RX8 yX8_allFree yX8_allFree, Cond.code yX8_allFree cX8_allFree 5 (some .boolean), Cond.methodLink RX8 352 yX8_allHome, Cond.instanceMethod yX8_allHome, Cond.selects RX8 yX8_allHome yX8_allHome, Cond.code yX8_allHome cX8_allHome 7 (some .boolean), Cond.methodLink RL 122 yX9_why, Cond.instanceMethod yX9_why, Cond.selects RX9 yX9_why yX9_why, Cond.code yX9_why cX9_why 3 (some .int), Cond.methodLink RX9 342 yX9_barOf, Cond.instanceMethod yX9_barOf, Cond.selects RX9 yX9_barOf yX9_barOf, Cond.code yX9_barOf cX9_barOf 4 (some .int), Cond.methodLink RX9 312 yX9_hasEmpty, Cond.instanceMethod yX9_hasEmpty, Cond.selects RX9 yX9_hasEmpty yX9_hasEmpty, Cond.code yX9_hasEmpty cX9_hasEmpty 4 (some .boolean), Cond.methodLink RX9 315 yX9_jumpersIn, Cond.instanceMethod yX9_jumpersIn, Cond.selects RX9 yX9_jumpersIn yX9_jumpersIn, Cond.code yX9_jumpersIn cX9_jumpersIn 4 (some .int), Cond.methodLink RX9 318 yX9_weightOn]
def wsL_law_r36 : List Cond := [Cond.instanceMethod yX9_weightOn, Cond.selects RX9 yX9_weightOn yX9_weightOn, Cond.code yX9_weightOn cX9_weightOn 4 (some .int), Cond.methodLink RX9 321 yX9_hasOldGear, Cond.instanceMethod yX9_hasOldGear, Cond.selects RX9 yX9_hasOldGear yX9_hasOldGear, Cond.code yX9_hasOldGear cX9_hasOldGear 7 (some .boolean), Cond.methodLink RX9 324 yX9_hasTwice, Cond.instanceMethod yX9_hasTwice, Cond.selects RX9 yX9_hasTwice yX9_hasTwice, Cond.code yX9_hasTwice cX9_hasTwice 6 (some .boolean), Cond.methodLink RX9 327 yX9_hasAlone, Cond.instanceMethod yX9_hasAlone, Cond.selects RX9 yX9_hasAlone yX9_hasAlone, Cond.code yX9_hasAlone cX9_hasAlone 6 (some .boolean), Cond.methodLink RX9 309 yX9_sortsIn, Cond.instanceMethod yX9_sortsIn, Cond.selects RX9 yX9_sortsIn yX9_sortsIn, Cond.code yX9_sortsIn cX9_sortsIn 5 (some .int), Cond.methodLink RX9 330 yX9_blowsTooMuch, Cond.instanceMethod yX9_blowsTooMuch, Cond.selects RX9 yX9_blowsTooMuch yX9_blowsTooMuch, Cond.code yX9_blowsTooMuch cX9_blowsTooMuch 5 (some .boolean), Cond.methodLink RX9 333 yX9_areRanksWrong]
def wsL_law_r37 : List Cond := [Cond.instanceMethod yX9_areRanksWrong, Cond.selects RX9 yX9_areRanksWrong yX9_areRanksWrong, Cond.code yX9_areRanksWrong cX9_areRanksWrong 4 (some .boolean), Cond.methodLink RX9 336 yX9_areSomeNear, Cond.instanceMethod yX9_areSomeNear, Cond.selects RX9 yX9_areSomeNear yX9_areSomeNear, Cond.code yX9_areSomeNear cX9_areSomeNear 5 (some .boolean), Cond.methodLink RX9 339 yX9_isSomeOut, Cond.instanceMethod yX9_isSomeOut, Cond.selects RX9 yX9_isSomeOut yX9_isSomeOut, Cond.code yX9_isSomeOut cX9_isSomeOut 2 (some .boolean), Cond.methodLink RL 123 yX8_leave, Cond.instanceMethod yX8_leave, Cond.selects RX8 yX8_leave yX8_leave, Cond.code yX8_leave cX8_leave 5 (some .int), Cond.methodLink RX8 324 yX8_why, Cond.instanceMethod yX5_goUp, Cond.selects RX5 yX5_goUp yX5_goUp, Cond.code yX5_goUp cX5_goUp 1 none, Cond.instanceMethod yX6_becomeAs, Cond.selects RX6 yX6_becomeAs yX6_becomeAs, Cond.code yX6_becomeAs cX6_becomeAs 2 none, Cond.methodLink RX6 26 yX6_become, Cond.instanceMethod yX0_blowAs]
def wsL_law_r38 : List Cond := [Cond.selects RX0 yX0_blowAs yX0_blowAs, Cond.code yX0_blowAs cX0_blowAs 3 none, Cond.methodLink RL 126 yX9_leave, Cond.instanceMethod yX9_leave, Cond.selects RX9 yX9_leave yX9_leave, Cond.code yX9_leave cX9_leave 4 (some .int), Cond.fieldLink RX9 345 "JumpDeskModel" "went" "I", Cond.methodLink RL 127 yX8_many, Cond.instanceMethod yX8_many, Cond.selects RX8 yX8_many yX8_many, Cond.code yX8_many cX8_many 2 (some .int), Cond.methodLink RX8 330 yX8_leftCount, Cond.instanceMethod yX8_leftCount, Cond.selects RX8 yX8_leftCount yX8_leftCount, Cond.code yX8_leftCount cX8_leftCount 3 (some .int), Cond.methodLink RX8 333 yX8_upCount, Cond.instanceMethod yX8_upCount, Cond.selects RX8 yX8_upCount yX8_upCount, Cond.code yX8_upCount cX8_upCount 3 (some .int), Cond.methodLink RL 130 yX9_many, Cond.instanceMethod yX9_many, Cond.selects RX9 yX9_many yX9_many, Cond.code yX9_many cX9_many 4 (some .int)]
def wsL_law : List Cond := (wsL_law_r1 ++ (wsL_law_r2 ++ (wsL_law_r3 ++ (wsL_law_r4 ++ (wsL_law_r5 ++ (wsL_law_r6 ++ (wsL_law_r7 ++ (wsL_law_r8 ++ (wsL_law_r9 ++ (wsL_law_r10 ++ (wsL_law_r11 ++ (wsL_law_r12 ++ (wsL_law_r13 ++ (wsL_law_r14 ++ (wsL_law_r15 ++ (wsL_law_r16 ++ (wsL_law_r17 ++ (wsL_law_r18 ++ (wsL_law_r19 ++ (wsL_law_r20 ++ (wsL_law_r21 ++ (wsL_law_r22 ++ (wsL_law_r23 ++ (wsL_law_r24 ++ (wsL_law_r25 ++ (wsL_law_r26 ++ (wsL_law_r27 ++ (wsL_law_r28 ++ (wsL_law_r29 ++ (wsL_law_r30 ++ (wsL_law_r31 ++ (wsL_law_r32 ++ (wsL_law_r33 ++ (wsL_law_r34 ++ (wsL_law_r35 ++ (wsL_law_r36 ++ (wsL_law_r37 ++ wsL_law_r38))))))))))))))))))))))))))))))))))))) ++ wsX80 ++ wsX90 ++ wsX00 ++ wsX40 ++ wsX70 ++ wsX30 ++ wsX20 ++ wsX60 ++ wsX50 ++ wsX10 ++ ([] : List Cond)
theorem inlX0 : ∀ w ∈ wsX00, w ∈ wsL_law := fun _ h => List.mem_append_left _ (List.mem_append_left _ (List.mem_append_left _ (List.mem_append_left _ (List.mem_append_left _ (List.mem_append_left _ (List.mem_append_left _ (List.mem_append_left _ (List.mem_append_right _ h))))))))
theorem inlX1 : ∀ w ∈ wsX10, w ∈ wsL_law := fun _ h => List.mem_append_left _ (List.mem_append_right _ h)
theorem inlX2 : ∀ w ∈ wsX20, w ∈ wsL_law := fun _ h => List.mem_append_left _ (List.mem_append_left _ (List.mem_append_left _ (List.mem_append_left _ (List.mem_append_right _ h))))
theorem inlX3 : ∀ w ∈ wsX30, w ∈ wsL_law := fun _ h => List.mem_append_left _ (List.mem_append_left _ (List.mem_append_left _ (List.mem_append_left _ (List.mem_append_left _ (List.mem_append_right _ h)))))
theorem inlX4 : ∀ w ∈ wsX40, w ∈ wsL_law := fun _ h => List.mem_append_left _ (List.mem_append_left _ (List.mem_append_left _ (List.mem_append_left _ (List.mem_append_left _ (List.mem_append_left _ (List.mem_append_left _ (List.mem_append_right _ h)))))))
theorem inlX5 : ∀ w ∈ wsX50, w ∈ wsL_law := fun _ h => List.mem_append_left _ (List.mem_append_left _ (List.mem_append_right _ h))
theorem inlX6 : ∀ w ∈ wsX60, w ∈ wsL_law := fun _ h => List.mem_append_left _ (List.mem_append_left _ (List.mem_append_left _ (List.mem_append_right _ h)))
theorem inlX7 : ∀ w ∈ wsX70, w ∈ wsL_law := fun _ h => List.mem_append_left _ (List.mem_append_left _ (List.mem_append_left _ (List.mem_append_left _ (List.mem_append_left _ (List.mem_append_left _ (List.mem_append_right _ h))))))
theorem inlX8 : ∀ w ∈ wsX80, w ∈ wsL_law := fun _ h => List.mem_append_left _ (List.mem_append_left _ (List.mem_append_left _ (List.mem_append_left _ (List.mem_append_left _ (List.mem_append_left _ (List.mem_append_left _ (List.mem_append_left _ (List.mem_append_left _ (List.mem_append_left _ (List.mem_append_right _ h))))))))))
theorem inlX9 : ∀ w ∈ wsX90, w ∈ wsL_law := fun _ h => List.mem_append_left _ (List.mem_append_left _ (List.mem_append_left _ (List.mem_append_left _ (List.mem_append_left _ (List.mem_append_left _ (List.mem_append_left _ (List.mem_append_left _ (List.mem_append_left _ (List.mem_append_right _ h)))))))))
abbrev vwCl : List vw_C := [(RX0, TX0, 2), (RX1, TX1, 5), (RX2, TX2, 7), (RX3, TX3, 4), (RX4, TX4, 5), (RX5, TX5, 9), (RX6, TX6, 5), (RX7, TX7, 4), (RX8, TX8, 11), (RX9, TX9, 48)]
end
section
theorem dX0_init_0 : decode cX0_init 0 = .ok (.aload_n 0, 1) := by decide +kernel
theorem dX0_init_1 : decode cX0_init 1 = .ok (.invokespecial 3, 3) := by decide +kernel
theorem dX0_init_4 : decode cX0_init 4 = .ok (.aload_n 0, 1) := by decide +kernel
theorem dX0_init_5 : decode cX0_init 5 = .ok (.bipush 12, 2) := by decide +kernel
theorem dX0_init_7 : decode cX0_init 7 = .ok (.newarray .int, 2) := by decide +kernel
theorem dX0_init_9 : decode cX0_init 9 = .ok (.putfield 9, 3) := by decide +kernel
theorem dX0_init_12 : decode cX0_init 12 = .ok (.aload_n 0, 1) := by decide +kernel
theorem dX0_init_13 : decode cX0_init 13 = .ok (.bipush 12, 2) := by decide +kernel
theorem dX0_init_15 : decode cX0_init 15 = .ok (.newarray .int, 2) := by decide +kernel
theorem dX0_init_17 : decode cX0_init 17 = .ok (.putfield 15, 3) := by decide +kernel
theorem dX0_init_20 : decode cX0_init 20 = .ok (.return_, 1) := by decide +kernel
theorem dX0_blowAt_0 : decode cX0_blowAt 0 = .ok (.iload_n 1, 1) := by decide +kernel
theorem dX0_blowAt_1 : decode cX0_blowAt 1 = .ok (.ifCond .lt 23, 3) := by decide +kernel
theorem dX0_blowAt_4 : decode cX0_blowAt 4 = .ok (.iload_n 1, 1) := by decide +kernel
theorem dX0_blowAt_5 : decode cX0_blowAt 5 = .ok (.bipush 12, 2) := by decide +kernel
theorem dX0_blowAt_7 : decode cX0_blowAt 7 = .ok (.if_icmp .ge 17, 3) := by decide +kernel
theorem dX0_blowAt_10 : decode cX0_blowAt 10 = .ok (.aload_n 0, 1) := by decide +kernel
theorem dX0_blowAt_11 : decode cX0_blowAt 11 = .ok (.getfield 9, 3) := by decide +kernel
theorem dX0_blowAt_14 : decode cX0_blowAt 14 = .ok (.iload_n 1, 1) := by decide +kernel
theorem dX0_blowAt_15 : decode cX0_blowAt 15 = .ok (.iload_n 2, 1) := by decide +kernel
theorem dX0_blowAt_16 : decode cX0_blowAt 16 = .ok (.iastore, 1) := by decide +kernel
theorem dX0_blowAt_17 : decode cX0_blowAt 17 = .ok (.aload_n 0, 1) := by decide +kernel
theorem dX0_blowAt_18 : decode cX0_blowAt 18 = .ok (.getfield 15, 3) := by decide +kernel
theorem dX0_blowAt_21 : decode cX0_blowAt 21 = .ok (.iload_n 1, 1) := by decide +kernel
theorem dX0_blowAt_22 : decode cX0_blowAt 22 = .ok (.iload_n 3, 1) := by decide +kernel
theorem dX0_blowAt_23 : decode cX0_blowAt 23 = .ok (.iastore, 1) := by decide +kernel
theorem dX0_blowAt_24 : decode cX0_blowAt 24 = .ok (.return_, 1) := by decide +kernel
theorem dX0_blowAs_0 : decode cX0_blowAs 0 = .ok (.iconst 0, 1) := by decide +kernel
theorem dX0_blowAs_1 : decode cX0_blowAs 1 = .ok (.istore_n 2, 1) := by decide +kernel
theorem dX0_blowAs_2 : decode cX0_blowAs 2 = .ok (.iload_n 2, 1) := by decide +kernel
theorem dX0_blowAs_3 : decode cX0_blowAs 3 = .ok (.bipush 12, 2) := by decide +kernel
theorem dX0_blowAs_5 : decode cX0_blowAs 5 = .ok (.if_icmp .ge 33, 3) := by decide +kernel
theorem dX0_blowAs_8 : decode cX0_blowAs 8 = .ok (.aload_n 0, 1) := by decide +kernel
theorem dX0_blowAs_9 : decode cX0_blowAs 9 = .ok (.getfield 9, 3) := by decide +kernel
theorem dX0_blowAs_12 : decode cX0_blowAs 12 = .ok (.iload_n 2, 1) := by decide +kernel
theorem dX0_blowAs_13 : decode cX0_blowAs 13 = .ok (.aload_n 1, 1) := by decide +kernel
theorem dX0_blowAs_14 : decode cX0_blowAs 14 = .ok (.getfield 9, 3) := by decide +kernel
theorem dX0_blowAs_17 : decode cX0_blowAs 17 = .ok (.iload_n 2, 1) := by decide +kernel
theorem dX0_blowAs_18 : decode cX0_blowAs 18 = .ok (.iaload, 1) := by decide +kernel
theorem dX0_blowAs_19 : decode cX0_blowAs 19 = .ok (.iastore, 1) := by decide +kernel
theorem dX0_blowAs_20 : decode cX0_blowAs 20 = .ok (.aload_n 0, 1) := by decide +kernel
theorem dX0_blowAs_21 : decode cX0_blowAs 21 = .ok (.getfield 15, 3) := by decide +kernel
theorem dX0_blowAs_24 : decode cX0_blowAs 24 = .ok (.iload_n 2, 1) := by decide +kernel
theorem dX0_blowAs_25 : decode cX0_blowAs 25 = .ok (.aload_n 1, 1) := by decide +kernel
theorem dX0_blowAs_26 : decode cX0_blowAs 26 = .ok (.getfield 15, 3) := by decide +kernel
theorem dX0_blowAs_29 : decode cX0_blowAs 29 = .ok (.iload_n 2, 1) := by decide +kernel
theorem dX0_blowAs_30 : decode cX0_blowAs 30 = .ok (.iaload, 1) := by decide +kernel
theorem dX0_blowAs_31 : decode cX0_blowAs 31 = .ok (.iastore, 1) := by decide +kernel
theorem dX0_blowAs_32 : decode cX0_blowAs 32 = .ok (.iinc 2 1, 3) := by decide +kernel
theorem dX0_blowAs_35 : decode cX0_blowAs 35 = .ok (.goto (-33), 3) := by decide +kernel
theorem dX0_blowAs_38 : decode cX0_blowAs 38 = .ok (.return_, 1) := by decide +kernel
theorem dX0_alongX_0 : decode cX0_alongX 0 = .ok (.iload_n 1, 1) := by decide +kernel
theorem dX0_alongX_1 : decode cX0_alongX 1 = .ok (.ifCond .lt 18, 3) := by decide +kernel
theorem dX0_alongX_4 : decode cX0_alongX 4 = .ok (.iload_n 1, 1) := by decide +kernel
theorem dX0_alongX_5 : decode cX0_alongX 5 = .ok (.bipush 12, 2) := by decide +kernel
theorem dX0_alongX_7 : decode cX0_alongX 7 = .ok (.if_icmp .ge 12, 3) := by decide +kernel
theorem dX0_alongX_10 : decode cX0_alongX 10 = .ok (.aload_n 0, 1) := by decide +kernel
theorem dX0_alongX_11 : decode cX0_alongX 11 = .ok (.getfield 9, 3) := by decide +kernel
theorem dX0_alongX_14 : decode cX0_alongX 14 = .ok (.iload_n 1, 1) := by decide +kernel
theorem dX0_alongX_15 : decode cX0_alongX 15 = .ok (.iaload, 1) := by decide +kernel
theorem dX0_alongX_16 : decode cX0_alongX 16 = .ok (.goto 4, 3) := by decide +kernel
theorem dX0_alongX_19 : decode cX0_alongX 19 = .ok (.iconst 0, 1) := by decide +kernel
theorem dX0_alongX_20 : decode cX0_alongX 20 = .ok (.ireturn, 1) := by decide +kernel
theorem dX0_alongY_0 : decode cX0_alongY 0 = .ok (.iload_n 1, 1) := by decide +kernel
theorem dX0_alongY_1 : decode cX0_alongY 1 = .ok (.ifCond .lt 18, 3) := by decide +kernel
theorem dX0_alongY_4 : decode cX0_alongY 4 = .ok (.iload_n 1, 1) := by decide +kernel
theorem dX0_alongY_5 : decode cX0_alongY 5 = .ok (.bipush 12, 2) := by decide +kernel
theorem dX0_alongY_7 : decode cX0_alongY 7 = .ok (.if_icmp .ge 12, 3) := by decide +kernel
theorem dX0_alongY_10 : decode cX0_alongY 10 = .ok (.aload_n 0, 1) := by decide +kernel
theorem dX0_alongY_11 : decode cX0_alongY 11 = .ok (.getfield 15, 3) := by decide +kernel
theorem dX0_alongY_14 : decode cX0_alongY 14 = .ok (.iload_n 1, 1) := by decide +kernel
theorem dX0_alongY_15 : decode cX0_alongY 15 = .ok (.iaload, 1) := by decide +kernel
theorem dX0_alongY_16 : decode cX0_alongY 16 = .ok (.goto 4, 3) := by decide +kernel
theorem dX0_alongY_19 : decode cX0_alongY 19 = .ok (.iconst 0, 1) := by decide +kernel
theorem dX0_alongY_20 : decode cX0_alongY 20 = .ok (.ireturn, 1) := by decide +kernel
theorem dX0_squareOnGround_0 : decode cX0_squareOnGround 0 = .ok (.aload_n 0, 1) := by decide +kernel
theorem dX0_squareOnGround_1 : decode cX0_squareOnGround 1 = .ok (.getfield 9, 3) := by decide +kernel
theorem dX0_squareOnGround_4 : decode cX0_squareOnGround 4 = .ok (.iconst 0, 1) := by decide +kernel
theorem dX0_squareOnGround_5 : decode cX0_squareOnGround 5 = .ok (.iaload, 1) := by decide +kernel
theorem dX0_squareOnGround_6 : decode cX0_squareOnGround 6 = .ok (.aload_n 0, 1) := by decide +kernel
theorem dX0_squareOnGround_7 : decode cX0_squareOnGround 7 = .ok (.getfield 9, 3) := by decide +kernel
theorem dX0_squareOnGround_10 : decode cX0_squareOnGround 10 = .ok (.iconst 0, 1) := by decide +kernel
theorem dX0_squareOnGround_11 : decode cX0_squareOnGround 11 = .ok (.iaload, 1) := by decide +kernel
theorem dX0_squareOnGround_12 : decode cX0_squareOnGround 12 = .ok (.imul, 1) := by decide +kernel
theorem dX0_squareOnGround_13 : decode cX0_squareOnGround 13 = .ok (.aload_n 0, 1) := by decide +kernel
theorem dX0_squareOnGround_14 : decode cX0_squareOnGround 14 = .ok (.getfield 15, 3) := by decide +kernel
theorem dX0_squareOnGround_17 : decode cX0_squareOnGround 17 = .ok (.iconst 0, 1) := by decide +kernel
theorem dX0_squareOnGround_18 : decode cX0_squareOnGround 18 = .ok (.iaload, 1) := by decide +kernel
theorem dX0_squareOnGround_19 : decode cX0_squareOnGround 19 = .ok (.aload_n 0, 1) := by decide +kernel
theorem dX0_squareOnGround_20 : decode cX0_squareOnGround 20 = .ok (.getfield 15, 3) := by decide +kernel
theorem dX0_squareOnGround_23 : decode cX0_squareOnGround 23 = .ok (.iconst 0, 1) := by decide +kernel
theorem dX0_squareOnGround_24 : decode cX0_squareOnGround 24 = .ok (.iaload, 1) := by decide +kernel
theorem dX0_squareOnGround_25 : decode cX0_squareOnGround 25 = .ok (.imul, 1) := by decide +kernel
theorem dX0_squareOnGround_26 : decode cX0_squareOnGround 26 = .ok (.iadd, 1) := by decide +kernel
theorem dX0_squareOnGround_27 : decode cX0_squareOnGround 27 = .ok (.ireturn, 1) := by decide +kernel
theorem dX1_init_0 : decode cX1_init 0 = .ok (.aload_n 0, 1) := by decide +kernel
theorem dX1_init_1 : decode cX1_init 1 = .ok (.invokespecial 3, 3) := by decide +kernel
theorem dX1_init_4 : decode cX1_init 4 = .ok (.aload_n 0, 1) := by decide +kernel
theorem dX1_init_5 : decode cX1_init 5 = .ok (.sipush 1001, 3) := by decide +kernel
theorem dX1_init_8 : decode cX1_init 8 = .ok (.newarray .int, 2) := by decide +kernel
theorem dX1_init_10 : decode cX1_init 10 = .ok (.putfield 9, 3) := by decide +kernel
theorem dX1_init_13 : decode cX1_init 13 = .ok (.aload_n 0, 1) := by decide +kernel
theorem dX1_init_14 : decode cX1_init 14 = .ok (.sipush 1001, 3) := by decide +kernel
theorem dX1_init_17 : decode cX1_init 17 = .ok (.newarray .int, 2) := by decide +kernel
theorem dX1_init_19 : decode cX1_init 19 = .ok (.putfield 15, 3) := by decide +kernel
theorem dX1_init_22 : decode cX1_init 22 = .ok (.aload_n 0, 1) := by decide +kernel
theorem dX1_init_23 : decode cX1_init 23 = .ok (.sipush 1001, 3) := by decide +kernel
theorem dX1_init_26 : decode cX1_init 26 = .ok (.newarray .int, 2) := by decide +kernel
theorem dX1_init_28 : decode cX1_init 28 = .ok (.putfield 18, 3) := by decide +kernel
theorem dX1_init_31 : decode cX1_init 31 = .ok (.aload_n 0, 1) := by decide +kernel
theorem dX1_init_32 : decode cX1_init 32 = .ok (.iconst 0, 1) := by decide +kernel
theorem dX1_init_33 : decode cX1_init 33 = .ok (.putfield 21, 3) := by decide +kernel
theorem dX1_init_36 : decode cX1_init 36 = .ok (.aload_n 0, 1) := by decide +kernel
theorem dX1_init_37 : decode cX1_init 37 = .ok (.iconst 0, 1) := by decide +kernel
theorem dX1_init_38 : decode cX1_init 38 = .ok (.putfield 25, 3) := by decide +kernel
theorem dX1_init_41 : decode cX1_init 41 = .ok (.return_, 1) := by decide +kernel
theorem dX1_follow_0 : decode cX1_follow 0 = .ok (.aload_n 0, 1) := by decide +kernel
theorem dX1_follow_1 : decode cX1_follow 1 = .ok (.getfield 9, 3) := by decide +kernel
theorem dX1_follow_4 : decode cX1_follow 4 = .ok (.iconst 0, 1) := by decide +kernel
theorem dX1_follow_5 : decode cX1_follow 5 = .ok (.iconst 0, 1) := by decide +kernel
theorem dX1_follow_6 : decode cX1_follow 6 = .ok (.iastore, 1) := by decide +kernel
theorem dX1_follow_7 : decode cX1_follow 7 = .ok (.aload_n 0, 1) := by decide +kernel
theorem dX1_follow_8 : decode cX1_follow 8 = .ok (.getfield 15, 3) := by decide +kernel
theorem dX1_follow_11 : decode cX1_follow 11 = .ok (.iconst 0, 1) := by decide +kernel
theorem dX1_follow_12 : decode cX1_follow 12 = .ok (.iconst 0, 1) := by decide +kernel
theorem dX1_follow_13 : decode cX1_follow 13 = .ok (.iastore, 1) := by decide +kernel
theorem dX1_follow_14 : decode cX1_follow 14 = .ok (.aload_n 0, 1) := by decide +kernel
theorem dX1_follow_15 : decode cX1_follow 15 = .ok (.getfield 18, 3) := by decide +kernel
theorem dX1_follow_18 : decode cX1_follow 18 = .ok (.iconst 0, 1) := by decide +kernel
theorem dX1_follow_19 : decode cX1_follow 19 = .ok (.aload_n 2, 1) := by decide +kernel
theorem dX1_follow_20 : decode cX1_follow 20 = .ok (.getfield 28, 3) := by decide +kernel
theorem dX1_follow_23 : decode cX1_follow 23 = .ok (.iastore, 1) := by decide +kernel
theorem dX1_follow_24 : decode cX1_follow 24 = .ok (.aload_n 0, 1) := by decide +kernel
theorem dX1_follow_25 : decode cX1_follow 25 = .ok (.sipush 1000, 3) := by decide +kernel
theorem dX1_follow_28 : decode cX1_follow 28 = .ok (.putfield 21, 3) := by decide +kernel
theorem dX1_follow_31 : decode cX1_follow 31 = .ok (.aload_n 0, 1) := by decide +kernel
theorem dX1_follow_32 : decode cX1_follow 32 = .ok (.sipush 1000, 3) := by decide +kernel
theorem dX1_follow_35 : decode cX1_follow 35 = .ok (.putfield 25, 3) := by decide +kernel
theorem dX1_follow_38 : decode cX1_follow 38 = .ok (.iconst 0, 1) := by decide +kernel
theorem dX1_follow_39 : decode cX1_follow 39 = .ok (.istore 4, 2) := by decide +kernel
theorem dX1_follow_41 : decode cX1_follow 41 = .ok (.iload 4, 2) := by decide +kernel
theorem dX1_follow_43 : decode cX1_follow 43 = .ok (.sipush 1000, 3) := by decide +kernel
theorem dX1_follow_46 : decode cX1_follow 46 = .ok (.if_icmp .ge 83, 3) := by decide +kernel
theorem dX1_follow_49 : decode cX1_follow 49 = .ok (.aload_n 0, 1) := by decide +kernel
theorem dX1_follow_50 : decode cX1_follow 50 = .ok (.iload 4, 2) := by decide +kernel
theorem dX1_follow_52 : decode cX1_follow 52 = .ok (.aload_n 3, 1) := by decide +kernel
theorem dX1_follow_53 : decode cX1_follow 53 = .ok (.invokevirtual 32, 3) := by decide +kernel
theorem dX1_follow_56 : decode cX1_follow 56 = .ok (.iload 4, 2) := by decide +kernel
theorem dX1_follow_58 : decode cX1_follow 58 = .ok (.aload_n 0, 1) := by decide +kernel
theorem dX1_follow_59 : decode cX1_follow 59 = .ok (.getfield 21, 3) := by decide +kernel
theorem dX1_follow_62 : decode cX1_follow 62 = .ok (.if_icmp .lt 29, 3) := by decide +kernel
theorem dX1_follow_65 : decode cX1_follow 65 = .ok (.aload_n 0, 1) := by decide +kernel
theorem dX1_follow_66 : decode cX1_follow 66 = .ok (.getfield 18, 3) := by decide +kernel
theorem dX1_follow_69 : decode cX1_follow 69 = .ok (.iload 4, 2) := by decide +kernel
theorem dX1_follow_71 : decode cX1_follow 71 = .ok (.iconst 1, 1) := by decide +kernel
theorem dX1_follow_72 : decode cX1_follow 72 = .ok (.iadd, 1) := by decide +kernel
theorem dX1_follow_73 : decode cX1_follow 73 = .ok (.aload_n 0, 1) := by decide +kernel
theorem dX1_follow_74 : decode cX1_follow 74 = .ok (.getfield 18, 3) := by decide +kernel
theorem dX1_follow_77 : decode cX1_follow 77 = .ok (.iload 4, 2) := by decide +kernel
theorem dX1_follow_79 : decode cX1_follow 79 = .ok (.iaload, 1) := by decide +kernel
theorem dX1_follow_80 : decode cX1_follow 80 = .ok (.bipush 50, 2) := by decide +kernel
theorem dX1_follow_82 : decode cX1_follow 82 = .ok (.isub, 1) := by decide +kernel
theorem dX1_follow_83 : decode cX1_follow 83 = .ok (.iconst 0, 1) := by decide +kernel
theorem dX1_follow_84 : decode cX1_follow 84 = .ok (.invokestatic 36, 3) := by decide +kernel
theorem dX1_follow_87 : decode cX1_follow 87 = .ok (.iastore, 1) := by decide +kernel
theorem dX1_follow_88 : decode cX1_follow 88 = .ok (.goto 14, 3) := by decide +kernel
theorem dX1_follow_91 : decode cX1_follow 91 = .ok (.aload_n 0, 1) := by decide +kernel
theorem dX1_follow_92 : decode cX1_follow 92 = .ok (.iload 4, 2) := by decide +kernel
theorem dX1_follow_94 : decode cX1_follow 94 = .ok (.aload_n 1, 1) := by decide +kernel
theorem dX1_follow_95 : decode cX1_follow 95 = .ok (.aload_n 2, 1) := by decide +kernel
theorem dX1_follow_96 : decode cX1_follow 96 = .ok (.getfield 42, 3) := by decide +kernel
theorem dX1_follow_99 : decode cX1_follow 99 = .ok (.invokevirtual 45, 3) := by decide +kernel
theorem dX1_follow_102 : decode cX1_follow 102 = .ok (.aload_n 0, 1) := by decide +kernel
theorem dX1_follow_103 : decode cX1_follow 103 = .ok (.getfield 18, 3) := by decide +kernel
theorem dX1_follow_106 : decode cX1_follow 106 = .ok (.iload 4, 2) := by decide +kernel
theorem dX1_follow_108 : decode cX1_follow 108 = .ok (.iconst 1, 1) := by decide +kernel
theorem dX1_follow_109 : decode cX1_follow 109 = .ok (.iadd, 1) := by decide +kernel
theorem dX1_follow_110 : decode cX1_follow 110 = .ok (.iaload, 1) := by decide +kernel
theorem dX1_follow_111 : decode cX1_follow 111 = .ok (.ifCond .ne 12, 3) := by decide +kernel
theorem dX1_follow_114 : decode cX1_follow 114 = .ok (.aload_n 0, 1) := by decide +kernel
theorem dX1_follow_115 : decode cX1_follow 115 = .ok (.iload 4, 2) := by decide +kernel
theorem dX1_follow_117 : decode cX1_follow 117 = .ok (.iconst 1, 1) := by decide +kernel
theorem dX1_follow_118 : decode cX1_follow 118 = .ok (.iadd, 1) := by decide +kernel
theorem dX1_follow_119 : decode cX1_follow 119 = .ok (.putfield 25, 3) := by decide +kernel
theorem dX1_follow_122 : decode cX1_follow 122 = .ok (.return_, 1) := by decide +kernel
theorem dX1_follow_123 : decode cX1_follow 123 = .ok (.iinc 4 1, 3) := by decide +kernel
theorem dX1_follow_126 : decode cX1_follow 126 = .ok (.goto (-85), 3) := by decide +kernel
theorem dX1_follow_129 : decode cX1_follow 129 = .ok (.return_, 1) := by decide +kernel
theorem dX1_drift_0 : decode cX1_drift 0 = .ok (.aload_n 0, 1) := by decide +kernel
theorem dX1_drift_1 : decode cX1_drift 1 = .ok (.getfield 18, 3) := by decide +kernel
theorem dX1_drift_4 : decode cX1_drift 4 = .ok (.iload_n 1, 1) := by decide +kernel
theorem dX1_drift_5 : decode cX1_drift 5 = .ok (.iaload, 1) := by decide +kernel
theorem dX1_drift_6 : decode cX1_drift 6 = .ok (.sipush 4000, 3) := by decide +kernel
theorem dX1_drift_9 : decode cX1_drift 9 = .ok (.idiv, 1) := by decide +kernel
theorem dX1_drift_10 : decode cX1_drift 10 = .ok (.istore_n 3, 1) := by decide +kernel
theorem dX1_drift_11 : decode cX1_drift 11 = .ok (.aload_n 0, 1) := by decide +kernel
theorem dX1_drift_12 : decode cX1_drift 12 = .ok (.getfield 9, 3) := by decide +kernel
theorem dX1_drift_15 : decode cX1_drift 15 = .ok (.iload_n 1, 1) := by decide +kernel
theorem dX1_drift_16 : decode cX1_drift 16 = .ok (.iconst 1, 1) := by decide +kernel
theorem dX1_drift_17 : decode cX1_drift 17 = .ok (.iadd, 1) := by decide +kernel
theorem dX1_drift_18 : decode cX1_drift 18 = .ok (.aload_n 0, 1) := by decide +kernel
theorem dX1_drift_19 : decode cX1_drift 19 = .ok (.getfield 9, 3) := by decide +kernel
theorem dX1_drift_22 : decode cX1_drift 22 = .ok (.iload_n 1, 1) := by decide +kernel
theorem dX1_drift_23 : decode cX1_drift 23 = .ok (.iaload, 1) := by decide +kernel
theorem dX1_drift_24 : decode cX1_drift 24 = .ok (.aload_n 2, 1) := by decide +kernel
theorem dX1_drift_25 : decode cX1_drift 25 = .ok (.iload_n 3, 1) := by decide +kernel
theorem dX1_drift_26 : decode cX1_drift 26 = .ok (.invokevirtual 49, 3) := by decide +kernel
theorem dX1_drift_29 : decode cX1_drift 29 = .ok (.iadd, 1) := by decide +kernel
theorem dX1_drift_30 : decode cX1_drift 30 = .ok (.iastore, 1) := by decide +kernel
theorem dX1_drift_31 : decode cX1_drift 31 = .ok (.aload_n 0, 1) := by decide +kernel
theorem dX1_drift_32 : decode cX1_drift 32 = .ok (.getfield 15, 3) := by decide +kernel
theorem dX1_drift_35 : decode cX1_drift 35 = .ok (.iload_n 1, 1) := by decide +kernel
theorem dX1_drift_36 : decode cX1_drift 36 = .ok (.iconst 1, 1) := by decide +kernel
theorem dX1_drift_37 : decode cX1_drift 37 = .ok (.iadd, 1) := by decide +kernel
theorem dX1_drift_38 : decode cX1_drift 38 = .ok (.aload_n 0, 1) := by decide +kernel
theorem dX1_drift_39 : decode cX1_drift 39 = .ok (.getfield 15, 3) := by decide +kernel
theorem dX1_drift_42 : decode cX1_drift 42 = .ok (.iload_n 1, 1) := by decide +kernel
theorem dX1_drift_43 : decode cX1_drift 43 = .ok (.iaload, 1) := by decide +kernel
theorem dX1_drift_44 : decode cX1_drift 44 = .ok (.aload_n 2, 1) := by decide +kernel
theorem dX1_drift_45 : decode cX1_drift 45 = .ok (.iload_n 3, 1) := by decide +kernel
theorem dX1_drift_46 : decode cX1_drift 46 = .ok (.invokevirtual 55, 3) := by decide +kernel
theorem dX1_drift_49 : decode cX1_drift 49 = .ok (.iadd, 1) := by decide +kernel
theorem dX1_drift_50 : decode cX1_drift 50 = .ok (.iastore, 1) := by decide +kernel
theorem dX1_drift_51 : decode cX1_drift 51 = .ok (.return_, 1) := by decide +kernel
theorem dX1_fall_0 : decode cX1_fall 0 = .ok (.iload_n 1, 1) := by decide +kernel
theorem dX1_fall_1 : decode cX1_fall 1 = .ok (.bipush 20, 2) := by decide +kernel
theorem dX1_fall_3 : decode cX1_fall 3 = .ok (.if_icmp .gt 19, 3) := by decide +kernel
theorem dX1_fall_6 : decode cX1_fall 6 = .ok (.aload_n 0, 1) := by decide +kernel
theorem dX1_fall_7 : decode cX1_fall 7 = .ok (.getfield 9, 3) := by decide +kernel
theorem dX1_fall_10 : decode cX1_fall 10 = .ok (.iload_n 1, 1) := by decide +kernel
theorem dX1_fall_11 : decode cX1_fall 11 = .ok (.iconst 1, 1) := by decide +kernel
theorem dX1_fall_12 : decode cX1_fall 12 = .ok (.iadd, 1) := by decide +kernel
theorem dX1_fall_13 : decode cX1_fall 13 = .ok (.dup2, 1) := by decide +kernel
theorem dX1_fall_14 : decode cX1_fall 14 = .ok (.iaload, 1) := by decide +kernel
theorem dX1_fall_15 : decode cX1_fall 15 = .ok (.iload_n 3, 1) := by decide +kernel
theorem dX1_fall_16 : decode cX1_fall 16 = .ok (.iload_n 1, 1) := by decide +kernel
theorem dX1_fall_17 : decode cX1_fall 17 = .ok (.iconst 1, 1) := by decide +kernel
theorem dX1_fall_18 : decode cX1_fall 18 = .ok (.iadd, 1) := by decide +kernel
theorem dX1_fall_19 : decode cX1_fall 19 = .ok (.ishr, 1) := by decide +kernel
theorem dX1_fall_20 : decode cX1_fall 20 = .ok (.iadd, 1) := by decide +kernel
theorem dX1_fall_21 : decode cX1_fall 21 = .ok (.iastore, 1) := by decide +kernel
theorem dX1_fall_22 : decode cX1_fall 22 = .ok (.aload_n 2, 1) := by decide +kernel
theorem dX1_fall_23 : decode cX1_fall 23 = .ok (.getfield 58, 3) := by decide +kernel
theorem dX1_fall_26 : decode cX1_fall 26 = .ok (.iconst 2, 1) := by decide +kernel
theorem dX1_fall_27 : decode cX1_fall 27 = .ok (.if_icmp .ne 17, 3) := by decide +kernel
theorem dX1_fall_30 : decode cX1_fall 30 = .ok (.iload_n 1, 1) := by decide +kernel
theorem dX1_fall_31 : decode cX1_fall 31 = .ok (.iconst 5, 1) := by decide +kernel
theorem dX1_fall_32 : decode cX1_fall 32 = .ok (.if_icmp .lt 12, 3) := by decide +kernel
theorem dX1_fall_35 : decode cX1_fall 35 = .ok (.aload_n 0, 1) := by decide +kernel
theorem dX1_fall_36 : decode cX1_fall 36 = .ok (.iload_n 1, 1) := by decide +kernel
theorem dX1_fall_37 : decode cX1_fall 37 = .ok (.aload_n 2, 1) := by decide +kernel
theorem dX1_fall_38 : decode cX1_fall 38 = .ok (.getfield 63, 3) := by decide +kernel
theorem dX1_fall_41 : decode cX1_fall 41 = .ok (.invokevirtual 66, 3) := by decide +kernel
theorem dX1_fall_44 : decode cX1_fall 44 = .ok (.aload_n 0, 1) := by decide +kernel
theorem dX1_fall_45 : decode cX1_fall 45 = .ok (.getfield 18, 3) := by decide +kernel
theorem dX1_fall_48 : decode cX1_fall 48 = .ok (.iload_n 1, 1) := by decide +kernel
theorem dX1_fall_49 : decode cX1_fall 49 = .ok (.iconst 1, 1) := by decide +kernel
theorem dX1_fall_50 : decode cX1_fall 50 = .ok (.iadd, 1) := by decide +kernel
theorem dX1_fall_51 : decode cX1_fall 51 = .ok (.aload_n 0, 1) := by decide +kernel
theorem dX1_fall_52 : decode cX1_fall 52 = .ok (.getfield 18, 3) := by decide +kernel
theorem dX1_fall_55 : decode cX1_fall 55 = .ok (.iload_n 1, 1) := by decide +kernel
theorem dX1_fall_56 : decode cX1_fall 56 = .ok (.iaload, 1) := by decide +kernel
theorem dX1_fall_57 : decode cX1_fall 57 = .ok (.aload_n 2, 1) := by decide +kernel
theorem dX1_fall_58 : decode cX1_fall 58 = .ok (.iload_n 1, 1) := by decide +kernel
theorem dX1_fall_59 : decode cX1_fall 59 = .ok (.invokevirtual 70, 3) := by decide +kernel
theorem dX1_fall_62 : decode cX1_fall 62 = .ok (.isub, 1) := by decide +kernel
theorem dX1_fall_63 : decode cX1_fall 63 = .ok (.iastore, 1) := by decide +kernel
theorem dX1_fall_64 : decode cX1_fall 64 = .ok (.aload_n 2, 1) := by decide +kernel
theorem dX1_fall_65 : decode cX1_fall 65 = .ok (.iload_n 1, 1) := by decide +kernel
theorem dX1_fall_66 : decode cX1_fall 66 = .ok (.aload_n 0, 1) := by decide +kernel
theorem dX1_fall_67 : decode cX1_fall 67 = .ok (.getfield 18, 3) := by decide +kernel
theorem dX1_fall_70 : decode cX1_fall 70 = .ok (.iload_n 1, 1) := by decide +kernel
theorem dX1_fall_71 : decode cX1_fall 71 = .ok (.iconst 1, 1) := by decide +kernel
theorem dX1_fall_72 : decode cX1_fall 72 = .ok (.iadd, 1) := by decide +kernel
theorem dX1_fall_73 : decode cX1_fall 73 = .ok (.iaload, 1) := by decide +kernel
theorem dX1_fall_74 : decode cX1_fall 74 = .ok (.invokevirtual 73, 3) := by decide +kernel
theorem dX1_fall_77 : decode cX1_fall 77 = .ok (.ifCond .eq 10, 3) := by decide +kernel
theorem dX1_fall_80 : decode cX1_fall 80 = .ok (.aload_n 0, 1) := by decide +kernel
theorem dX1_fall_81 : decode cX1_fall 81 = .ok (.iload_n 1, 1) := by decide +kernel
theorem dX1_fall_82 : decode cX1_fall 82 = .ok (.iconst 1, 1) := by decide +kernel
theorem dX1_fall_83 : decode cX1_fall 83 = .ok (.iadd, 1) := by decide +kernel
theorem dX1_fall_84 : decode cX1_fall 84 = .ok (.putfield 21, 3) := by decide +kernel
theorem dX1_fall_87 : decode cX1_fall 87 = .ok (.return_, 1) := by decide +kernel
theorem dX1_track_0 : decode cX1_track 0 = .ok (.iload_n 2, 1) := by decide +kernel
theorem dX1_track_1 : decode cX1_track 1 = .ok (.tableswitch 75 0 2 #[27, 43, 59], 27) := by decide +kernel
theorem dX1_track_28 : decode cX1_track 28 = .ok (.aload_n 0, 1) := by decide +kernel
theorem dX1_track_29 : decode cX1_track 29 = .ok (.getfield 9, 3) := by decide +kernel
theorem dX1_track_32 : decode cX1_track 32 = .ok (.iload_n 1, 1) := by decide +kernel
theorem dX1_track_33 : decode cX1_track 33 = .ok (.iconst 1, 1) := by decide +kernel
theorem dX1_track_34 : decode cX1_track 34 = .ok (.iadd, 1) := by decide +kernel
theorem dX1_track_35 : decode cX1_track 35 = .ok (.dup2, 1) := by decide +kernel
theorem dX1_track_36 : decode cX1_track 36 = .ok (.iaload, 1) := by decide +kernel
theorem dX1_track_37 : decode cX1_track 37 = .ok (.bipush 80, 2) := by decide +kernel
theorem dX1_track_39 : decode cX1_track 39 = .ok (.iadd, 1) := by decide +kernel
theorem dX1_track_40 : decode cX1_track 40 = .ok (.iastore, 1) := by decide +kernel
theorem dX1_track_41 : decode cX1_track 41 = .ok (.goto 48, 3) := by decide +kernel
theorem dX1_track_44 : decode cX1_track 44 = .ok (.aload_n 0, 1) := by decide +kernel
theorem dX1_track_45 : decode cX1_track 45 = .ok (.getfield 15, 3) := by decide +kernel
theorem dX1_track_48 : decode cX1_track 48 = .ok (.iload_n 1, 1) := by decide +kernel
theorem dX1_track_49 : decode cX1_track 49 = .ok (.iconst 1, 1) := by decide +kernel
theorem dX1_track_50 : decode cX1_track 50 = .ok (.iadd, 1) := by decide +kernel
theorem dX1_track_51 : decode cX1_track 51 = .ok (.dup2, 1) := by decide +kernel
theorem dX1_track_52 : decode cX1_track 52 = .ok (.iaload, 1) := by decide +kernel
theorem dX1_track_53 : decode cX1_track 53 = .ok (.bipush 80, 2) := by decide +kernel
theorem dX1_track_55 : decode cX1_track 55 = .ok (.iadd, 1) := by decide +kernel
theorem dX1_track_56 : decode cX1_track 56 = .ok (.iastore, 1) := by decide +kernel
theorem dX1_track_57 : decode cX1_track 57 = .ok (.goto 32, 3) := by decide +kernel
theorem dX1_track_60 : decode cX1_track 60 = .ok (.aload_n 0, 1) := by decide +kernel
theorem dX1_track_61 : decode cX1_track 61 = .ok (.getfield 9, 3) := by decide +kernel
theorem dX1_track_64 : decode cX1_track 64 = .ok (.iload_n 1, 1) := by decide +kernel
theorem dX1_track_65 : decode cX1_track 65 = .ok (.iconst 1, 1) := by decide +kernel
theorem dX1_track_66 : decode cX1_track 66 = .ok (.iadd, 1) := by decide +kernel
theorem dX1_track_67 : decode cX1_track 67 = .ok (.dup2, 1) := by decide +kernel
theorem dX1_track_68 : decode cX1_track 68 = .ok (.iaload, 1) := by decide +kernel
theorem dX1_track_69 : decode cX1_track 69 = .ok (.bipush 80, 2) := by decide +kernel
theorem dX1_track_71 : decode cX1_track 71 = .ok (.isub, 1) := by decide +kernel
theorem dX1_track_72 : decode cX1_track 72 = .ok (.iastore, 1) := by decide +kernel
theorem dX1_track_73 : decode cX1_track 73 = .ok (.goto 16, 3) := by decide +kernel
theorem dX1_track_76 : decode cX1_track 76 = .ok (.aload_n 0, 1) := by decide +kernel
theorem dX1_track_77 : decode cX1_track 77 = .ok (.getfield 15, 3) := by decide +kernel
theorem dX1_track_80 : decode cX1_track 80 = .ok (.iload_n 1, 1) := by decide +kernel
theorem dX1_track_81 : decode cX1_track 81 = .ok (.iconst 1, 1) := by decide +kernel
theorem dX1_track_82 : decode cX1_track 82 = .ok (.iadd, 1) := by decide +kernel
theorem dX1_track_83 : decode cX1_track 83 = .ok (.dup2, 1) := by decide +kernel
theorem dX1_track_84 : decode cX1_track 84 = .ok (.iaload, 1) := by decide +kernel
theorem dX1_track_85 : decode cX1_track 85 = .ok (.bipush 80, 2) := by decide +kernel
theorem dX1_track_87 : decode cX1_track 87 = .ok (.isub, 1) := by decide +kernel
theorem dX1_track_88 : decode cX1_track 88 = .ok (.iastore, 1) := by decide +kernel
theorem dX1_track_89 : decode cX1_track 89 = .ok (.return_, 1) := by decide +kernel
theorem dX1_stateAt_0 : decode cX1_stateAt 0 = .ok (.iload_n 1, 1) := by decide +kernel
theorem dX1_stateAt_1 : decode cX1_stateAt 1 = .ok (.aload_n 0, 1) := by decide +kernel
theorem dX1_stateAt_2 : decode cX1_stateAt 2 = .ok (.getfield 25, 3) := by decide +kernel
theorem dX1_stateAt_5 : decode cX1_stateAt 5 = .ok (.if_icmp .lt 5, 3) := by decide +kernel
theorem dX1_stateAt_8 : decode cX1_stateAt 8 = .ok (.iconst 3, 1) := by decide +kernel
theorem dX1_stateAt_9 : decode cX1_stateAt 9 = .ok (.ireturn, 1) := by decide +kernel
theorem dX1_stateAt_10 : decode cX1_stateAt 10 = .ok (.iload_n 1, 1) := by decide +kernel
theorem dX1_stateAt_11 : decode cX1_stateAt 11 = .ok (.aload_n 0, 1) := by decide +kernel
theorem dX1_stateAt_12 : decode cX1_stateAt 12 = .ok (.getfield 21, 3) := by decide +kernel
theorem dX1_stateAt_15 : decode cX1_stateAt 15 = .ok (.if_icmp .lt 7, 3) := by decide +kernel
theorem dX1_stateAt_18 : decode cX1_stateAt 18 = .ok (.iconst 2, 1) := by decide +kernel
theorem dX1_stateAt_19 : decode cX1_stateAt 19 = .ok (.goto 4, 3) := by decide +kernel
theorem dX1_stateAt_22 : decode cX1_stateAt 22 = .ok (.iconst 1, 1) := by decide +kernel
theorem dX1_stateAt_23 : decode cX1_stateAt 23 = .ok (.ireturn, 1) := by decide +kernel
theorem dX1_secondsOpen_0 : decode cX1_secondsOpen 0 = .ok (.aload_n 0, 1) := by decide +kernel
theorem dX1_secondsOpen_1 : decode cX1_secondsOpen 1 = .ok (.getfield 25, 3) := by decide +kernel
theorem dX1_secondsOpen_4 : decode cX1_secondsOpen 4 = .ok (.aload_n 0, 1) := by decide +kernel
theorem dX1_secondsOpen_5 : decode cX1_secondsOpen 5 = .ok (.getfield 21, 3) := by decide +kernel
theorem dX1_secondsOpen_8 : decode cX1_secondsOpen 8 = .ok (.isub, 1) := by decide +kernel
theorem dX1_secondsOpen_9 : decode cX1_secondsOpen 9 = .ok (.ireturn, 1) := by decide +kernel
theorem dX1_downX_0 : decode cX1_downX 0 = .ok (.aload_n 0, 1) := by decide +kernel
theorem dX1_downX_1 : decode cX1_downX 1 = .ok (.getfield 9, 3) := by decide +kernel
theorem dX1_downX_4 : decode cX1_downX 4 = .ok (.aload_n 0, 1) := by decide +kernel
theorem dX1_downX_5 : decode cX1_downX 5 = .ok (.getfield 25, 3) := by decide +kernel
theorem dX1_downX_8 : decode cX1_downX 8 = .ok (.iaload, 1) := by decide +kernel
theorem dX1_downX_9 : decode cX1_downX 9 = .ok (.ireturn, 1) := by decide +kernel
theorem dX1_downY_0 : decode cX1_downY 0 = .ok (.aload_n 0, 1) := by decide +kernel
theorem dX1_downY_1 : decode cX1_downY 1 = .ok (.getfield 15, 3) := by decide +kernel
theorem dX1_downY_4 : decode cX1_downY 4 = .ok (.aload_n 0, 1) := by decide +kernel
theorem dX1_downY_5 : decode cX1_downY 5 = .ok (.getfield 25, 3) := by decide +kernel
theorem dX1_downY_8 : decode cX1_downY 8 = .ok (.iaload, 1) := by decide +kernel
theorem dX1_downY_9 : decode cX1_downY 9 = .ok (.ireturn, 1) := by decide +kernel
theorem dX1_nearTo_0 : decode cX1_nearTo 0 = .ok (.ldc2_w 77, 3) := by decide +kernel
theorem dX1_nearTo_3 : decode cX1_nearTo 3 = .ok (.lstore 6, 2) := by decide +kernel
theorem dX1_nearTo_5 : decode cX1_nearTo 5 = .ok (.iload_n 3, 1) := by decide +kernel
theorem dX1_nearTo_6 : decode cX1_nearTo 6 = .ok (.i2l, 1) := by decide +kernel
theorem dX1_nearTo_7 : decode cX1_nearTo 7 = .ok (.iload_n 2, 1) := by decide +kernel
theorem dX1_nearTo_8 : decode cX1_nearTo 8 = .ok (.i2l, 1) := by decide +kernel
theorem dX1_nearTo_9 : decode cX1_nearTo 9 = .ok (.lmul, 1) := by decide +kernel
theorem dX1_nearTo_10 : decode cX1_nearTo 10 = .ok (.lstore 8, 2) := by decide +kernel
theorem dX1_nearTo_12 : decode cX1_nearTo 12 = .ok (.aload_n 0, 1) := by decide +kernel
theorem dX1_nearTo_13 : decode cX1_nearTo 13 = .ok (.getfield 25, 3) := by decide +kernel
theorem dX1_nearTo_16 : decode cX1_nearTo 16 = .ok (.iload_n 2, 1) := by decide +kernel
theorem dX1_nearTo_17 : decode cX1_nearTo 17 = .ok (.isub, 1) := by decide +kernel
theorem dX1_nearTo_18 : decode cX1_nearTo 18 = .ok (.aload_n 1, 1) := by decide +kernel
theorem dX1_nearTo_19 : decode cX1_nearTo 19 = .ok (.getfield 25, 3) := by decide +kernel
theorem dX1_nearTo_22 : decode cX1_nearTo 22 = .ok (.invokestatic 79, 3) := by decide +kernel
theorem dX1_nearTo_25 : decode cX1_nearTo 25 = .ok (.istore 10, 2) := by decide +kernel
theorem dX1_nearTo_27 : decode cX1_nearTo 27 = .ok (.iconst 0, 1) := by decide +kernel
theorem dX1_nearTo_28 : decode cX1_nearTo 28 = .ok (.istore 11, 2) := by decide +kernel
theorem dX1_nearTo_30 : decode cX1_nearTo 30 = .ok (.iload 11, 2) := by decide +kernel
theorem dX1_nearTo_32 : decode cX1_nearTo 32 = .ok (.iload 10, 2) := by decide +kernel
theorem dX1_nearTo_34 : decode cX1_nearTo 34 = .ok (.if_icmp .ge 109, 3) := by decide +kernel
theorem dX1_nearTo_37 : decode cX1_nearTo 37 = .ok (.iload_n 2, 1) := by decide +kernel
theorem dX1_nearTo_38 : decode cX1_nearTo 38 = .ok (.ifCond .lt 105, 3) := by decide +kernel
theorem dX1_nearTo_41 : decode cX1_nearTo 41 = .ok (.lload 6, 2) := by decide +kernel
theorem dX1_nearTo_43 : decode cX1_nearTo 43 = .ok (.lload 4, 2) := by decide +kernel
theorem dX1_nearTo_45 : decode cX1_nearTo 45 = .ok (.lcmp, 1) := by decide +kernel
theorem dX1_nearTo_46 : decode cX1_nearTo 46 = .ok (.ifCond .lt 97, 3) := by decide +kernel
theorem dX1_nearTo_49 : decode cX1_nearTo 49 = .ok (.lload 8, 2) := by decide +kernel
theorem dX1_nearTo_51 : decode cX1_nearTo 51 = .ok (.aload_n 1, 1) := by decide +kernel
theorem dX1_nearTo_52 : decode cX1_nearTo 52 = .ok (.getfield 9, 3) := by decide +kernel
theorem dX1_nearTo_55 : decode cX1_nearTo 55 = .ok (.iload 11, 2) := by decide +kernel
theorem dX1_nearTo_57 : decode cX1_nearTo 57 = .ok (.iaload, 1) := by decide +kernel
theorem dX1_nearTo_58 : decode cX1_nearTo 58 = .ok (.i2l, 1) := by decide +kernel
theorem dX1_nearTo_59 : decode cX1_nearTo 59 = .ok (.ladd, 1) := by decide +kernel
theorem dX1_nearTo_60 : decode cX1_nearTo 60 = .ok (.aload_n 0, 1) := by decide +kernel
theorem dX1_nearTo_61 : decode cX1_nearTo 61 = .ok (.getfield 9, 3) := by decide +kernel
theorem dX1_nearTo_64 : decode cX1_nearTo 64 = .ok (.iload 11, 2) := by decide +kernel
theorem dX1_nearTo_66 : decode cX1_nearTo 66 = .ok (.iload_n 2, 1) := by decide +kernel
theorem dX1_nearTo_67 : decode cX1_nearTo 67 = .ok (.iadd, 1) := by decide +kernel
theorem dX1_nearTo_68 : decode cX1_nearTo 68 = .ok (.iaload, 1) := by decide +kernel
theorem dX1_nearTo_69 : decode cX1_nearTo 69 = .ok (.i2l, 1) := by decide +kernel
theorem dX1_nearTo_70 : decode cX1_nearTo 70 = .ok (.lsub, 1) := by decide +kernel
theorem dX1_nearTo_71 : decode cX1_nearTo 71 = .ok (.lstore 12, 2) := by decide +kernel
theorem dX1_nearTo_73 : decode cX1_nearTo 73 = .ok (.aload_n 1, 1) := by decide +kernel
theorem dX1_nearTo_74 : decode cX1_nearTo 74 = .ok (.getfield 15, 3) := by decide +kernel
theorem dX1_nearTo_77 : decode cX1_nearTo 77 = .ok (.iload 11, 2) := by decide +kernel
theorem dX1_nearTo_79 : decode cX1_nearTo 79 = .ok (.iaload, 1) := by decide +kernel
theorem dX1_nearTo_80 : decode cX1_nearTo 80 = .ok (.aload_n 0, 1) := by decide +kernel
theorem dX1_nearTo_81 : decode cX1_nearTo 81 = .ok (.getfield 15, 3) := by decide +kernel
theorem dX1_nearTo_84 : decode cX1_nearTo 84 = .ok (.iload 11, 2) := by decide +kernel
theorem dX1_nearTo_86 : decode cX1_nearTo 86 = .ok (.iload_n 2, 1) := by decide +kernel
theorem dX1_nearTo_87 : decode cX1_nearTo 87 = .ok (.iadd, 1) := by decide +kernel
theorem dX1_nearTo_88 : decode cX1_nearTo 88 = .ok (.iaload, 1) := by decide +kernel
theorem dX1_nearTo_89 : decode cX1_nearTo 89 = .ok (.isub, 1) := by decide +kernel
theorem dX1_nearTo_90 : decode cX1_nearTo 90 = .ok (.i2l, 1) := by decide +kernel
theorem dX1_nearTo_91 : decode cX1_nearTo 91 = .ok (.lstore 14, 2) := by decide +kernel
theorem dX1_nearTo_93 : decode cX1_nearTo 93 = .ok (.aload_n 1, 1) := by decide +kernel
theorem dX1_nearTo_94 : decode cX1_nearTo 94 = .ok (.getfield 18, 3) := by decide +kernel
theorem dX1_nearTo_97 : decode cX1_nearTo 97 = .ok (.iload 11, 2) := by decide +kernel
theorem dX1_nearTo_99 : decode cX1_nearTo 99 = .ok (.iaload, 1) := by decide +kernel
theorem dX1_nearTo_100 : decode cX1_nearTo 100 = .ok (.aload_n 0, 1) := by decide +kernel
theorem dX1_nearTo_101 : decode cX1_nearTo 101 = .ok (.getfield 18, 3) := by decide +kernel
theorem dX1_nearTo_104 : decode cX1_nearTo 104 = .ok (.iload 11, 2) := by decide +kernel
theorem dX1_nearTo_106 : decode cX1_nearTo 106 = .ok (.iload_n 2, 1) := by decide +kernel
theorem dX1_nearTo_107 : decode cX1_nearTo 107 = .ok (.iadd, 1) := by decide +kernel
theorem dX1_nearTo_108 : decode cX1_nearTo 108 = .ok (.iaload, 1) := by decide +kernel
theorem dX1_nearTo_109 : decode cX1_nearTo 109 = .ok (.isub, 1) := by decide +kernel
theorem dX1_nearTo_110 : decode cX1_nearTo 110 = .ok (.i2l, 1) := by decide +kernel
theorem dX1_nearTo_111 : decode cX1_nearTo 111 = .ok (.lstore 16, 2) := by decide +kernel
theorem dX1_nearTo_113 : decode cX1_nearTo 113 = .ok (.lload 6, 2) := by decide +kernel
theorem dX1_nearTo_115 : decode cX1_nearTo 115 = .ok (.lload 12, 2) := by decide +kernel
theorem dX1_nearTo_117 : decode cX1_nearTo 117 = .ok (.lload 12, 2) := by decide +kernel
theorem dX1_nearTo_119 : decode cX1_nearTo 119 = .ok (.lmul, 1) := by decide +kernel
theorem dX1_nearTo_120 : decode cX1_nearTo 120 = .ok (.lload 14, 2) := by decide +kernel
theorem dX1_nearTo_122 : decode cX1_nearTo 122 = .ok (.lload 14, 2) := by decide +kernel
theorem dX1_nearTo_124 : decode cX1_nearTo 124 = .ok (.lmul, 1) := by decide +kernel
theorem dX1_nearTo_125 : decode cX1_nearTo 125 = .ok (.ladd, 1) := by decide +kernel
theorem dX1_nearTo_126 : decode cX1_nearTo 126 = .ok (.lload 16, 2) := by decide +kernel
theorem dX1_nearTo_128 : decode cX1_nearTo 128 = .ok (.lload 16, 2) := by decide +kernel
theorem dX1_nearTo_130 : decode cX1_nearTo 130 = .ok (.lmul, 1) := by decide +kernel
theorem dX1_nearTo_131 : decode cX1_nearTo 131 = .ok (.ladd, 1) := by decide +kernel
theorem dX1_nearTo_132 : decode cX1_nearTo 132 = .ok (.invokestatic 82, 3) := by decide +kernel
theorem dX1_nearTo_135 : decode cX1_nearTo 135 = .ok (.lstore 6, 2) := by decide +kernel
theorem dX1_nearTo_137 : decode cX1_nearTo 137 = .ok (.iinc 11 1, 3) := by decide +kernel
theorem dX1_nearTo_140 : decode cX1_nearTo 140 = .ok (.goto (-110), 3) := by decide +kernel
theorem dX1_nearTo_143 : decode cX1_nearTo 143 = .ok (.lload 6, 2) := by decide +kernel
theorem dX1_nearTo_145 : decode cX1_nearTo 145 = .ok (.lreturn, 1) := by decide +kernel
theorem dX2_init_0 : decode cX2_init 0 = .ok (.aload_n 0, 1) := by decide +kernel
theorem dX2_init_1 : decode cX2_init 1 = .ok (.invokespecial 3, 3) := by decide +kernel
theorem dX2_init_4 : decode cX2_init 4 = .ok (.aload_n 0, 1) := by decide +kernel
theorem dX2_init_5 : decode cX2_init 5 = .ok (.iconst 4, 1) := by decide +kernel
theorem dX2_init_6 : decode cX2_init 6 = .ok (.anewarray 9, 3) := by decide +kernel
theorem dX2_init_9 : decode cX2_init 9 = .ok (.putfield 11, 3) := by decide +kernel
theorem dX2_init_12 : decode cX2_init 12 = .ok (.aload_n 0, 1) := by decide +kernel
theorem dX2_init_13 : decode cX2_init 13 = .ok (.iconst 0, 1) := by decide +kernel
theorem dX2_init_14 : decode cX2_init 14 = .ok (.putfield 17, 3) := by decide +kernel
theorem dX2_init_17 : decode cX2_init 17 = .ok (.aload_n 0, 1) := by decide +kernel
theorem dX2_init_18 : decode cX2_init 18 = .ok (.iconst 0, 1) := by decide +kernel
theorem dX2_init_19 : decode cX2_init 19 = .ok (.putfield 21, 3) := by decide +kernel
theorem dX2_init_22 : decode cX2_init 22 = .ok (.aload_n 0, 1) := by decide +kernel
theorem dX2_init_23 : decode cX2_init 23 = .ok (.iconst 0, 1) := by decide +kernel
theorem dX2_init_24 : decode cX2_init 24 = .ok (.putfield 24, 3) := by decide +kernel
theorem dX2_init_27 : decode cX2_init 27 = .ok (.aload_n 0, 1) := by decide +kernel
theorem dX2_init_28 : decode cX2_init 28 = .ok (.iconst 0, 1) := by decide +kernel
theorem dX2_init_29 : decode cX2_init 29 = .ok (.putfield 27, 3) := by decide +kernel
theorem dX2_init_32 : decode cX2_init 32 = .ok (.aload_n 0, 1) := by decide +kernel
theorem dX2_init_33 : decode cX2_init 33 = .ok (.iconst 0, 1) := by decide +kernel
theorem dX2_init_34 : decode cX2_init 34 = .ok (.putfield 30, 3) := by decide +kernel
theorem dX2_init_37 : decode cX2_init 37 = .ok (.aload_n 0, 1) := by decide +kernel
theorem dX2_init_38 : decode cX2_init 38 = .ok (.iload_n 1, 1) := by decide +kernel
theorem dX2_init_39 : decode cX2_init 39 = .ok (.putfield 33, 3) := by decide +kernel
theorem dX2_init_42 : decode cX2_init 42 = .ok (.return_, 1) := by decide +kernel
theorem dX2_become_0 : decode cX2_become 0 = .ok (.aload_n 0, 1) := by decide +kernel
theorem dX2_become_1 : decode cX2_become 1 = .ok (.iload_n 1, 1) := by decide +kernel
theorem dX2_become_2 : decode cX2_become 2 = .ok (.putfield 21, 3) := by decide +kernel
theorem dX2_become_5 : decode cX2_become 5 = .ok (.aload_n 0, 1) := by decide +kernel
theorem dX2_become_6 : decode cX2_become 6 = .ok (.iload_n 2, 1) := by decide +kernel
theorem dX2_become_7 : decode cX2_become 7 = .ok (.putfield 24, 3) := by decide +kernel
theorem dX2_become_10 : decode cX2_become 10 = .ok (.aload_n 0, 1) := by decide +kernel
theorem dX2_become_11 : decode cX2_become 11 = .ok (.iload_n 3, 1) := by decide +kernel
theorem dX2_become_12 : decode cX2_become 12 = .ok (.putfield 27, 3) := by decide +kernel
theorem dX2_become_15 : decode cX2_become 15 = .ok (.aload_n 0, 1) := by decide +kernel
theorem dX2_become_16 : decode cX2_become 16 = .ok (.iload 4, 2) := by decide +kernel
theorem dX2_become_18 : decode cX2_become 18 = .ok (.putfield 30, 3) := by decide +kernel
theorem dX2_become_21 : decode cX2_become 21 = .ok (.return_, 1) := by decide +kernel
theorem dX2_holds_0 : decode cX2_holds 0 = .ok (.iconst 0, 1) := by decide +kernel
theorem dX2_holds_1 : decode cX2_holds 1 = .ok (.istore_n 2, 1) := by decide +kernel
theorem dX2_holds_2 : decode cX2_holds 2 = .ok (.iload_n 2, 1) := by decide +kernel
theorem dX2_holds_3 : decode cX2_holds 3 = .ok (.aload_n 0, 1) := by decide +kernel
theorem dX2_holds_4 : decode cX2_holds 4 = .ok (.getfield 17, 3) := by decide +kernel
theorem dX2_holds_7 : decode cX2_holds 7 = .ok (.if_icmp .ge 21, 3) := by decide +kernel
theorem dX2_holds_10 : decode cX2_holds 10 = .ok (.aload_n 0, 1) := by decide +kernel
theorem dX2_holds_11 : decode cX2_holds 11 = .ok (.getfield 11, 3) := by decide +kernel
theorem dX2_holds_14 : decode cX2_holds 14 = .ok (.iload_n 2, 1) := by decide +kernel
theorem dX2_holds_15 : decode cX2_holds 15 = .ok (.aaload, 1) := by decide +kernel
theorem dX2_holds_16 : decode cX2_holds 16 = .ok (.aload_n 1, 1) := by decide +kernel
theorem dX2_holds_17 : decode cX2_holds 17 = .ok (.if_acmp .ne 5, 3) := by decide +kernel
theorem dX2_holds_20 : decode cX2_holds 20 = .ok (.iconst 1, 1) := by decide +kernel
theorem dX2_holds_21 : decode cX2_holds 21 = .ok (.ireturn, 1) := by decide +kernel
theorem dX2_holds_22 : decode cX2_holds 22 = .ok (.iinc 2 1, 3) := by decide +kernel
theorem dX2_holds_25 : decode cX2_holds 25 = .ok (.goto (-23), 3) := by decide +kernel
theorem dX2_holds_28 : decode cX2_holds 28 = .ok (.iconst 0, 1) := by decide +kernel
theorem dX2_holds_29 : decode cX2_holds 29 = .ok (.ireturn, 1) := by decide +kernel
theorem dX2_add_0 : decode cX2_add 0 = .ok (.aload_n 0, 1) := by decide +kernel
theorem dX2_add_1 : decode cX2_add 1 = .ok (.getfield 17, 3) := by decide +kernel
theorem dX2_add_4 : decode cX2_add 4 = .ok (.aload_n 0, 1) := by decide +kernel
theorem dX2_add_5 : decode cX2_add 5 = .ok (.getfield 11, 3) := by decide +kernel
theorem dX2_add_8 : decode cX2_add 8 = .ok (.arraylength, 1) := by decide +kernel
theorem dX2_add_9 : decode cX2_add 9 = .ok (.if_icmp .ge 23, 3) := by decide +kernel
theorem dX2_add_12 : decode cX2_add 12 = .ok (.aload_n 0, 1) := by decide +kernel
theorem dX2_add_13 : decode cX2_add 13 = .ok (.getfield 11, 3) := by decide +kernel
theorem dX2_add_16 : decode cX2_add 16 = .ok (.aload_n 0, 1) := by decide +kernel
theorem dX2_add_17 : decode cX2_add 17 = .ok (.getfield 17, 3) := by decide +kernel
theorem dX2_add_20 : decode cX2_add 20 = .ok (.aload_n 1, 1) := by decide +kernel
theorem dX2_add_21 : decode cX2_add 21 = .ok (.aastore, 1) := by decide +kernel
theorem dX2_add_22 : decode cX2_add 22 = .ok (.aload_n 0, 1) := by decide +kernel
theorem dX2_add_23 : decode cX2_add 23 = .ok (.dup, 1) := by decide +kernel
theorem dX2_add_24 : decode cX2_add 24 = .ok (.getfield 17, 3) := by decide +kernel
theorem dX2_add_27 : decode cX2_add 27 = .ok (.iconst 1, 1) := by decide +kernel
theorem dX2_add_28 : decode cX2_add 28 = .ok (.iadd, 1) := by decide +kernel
theorem dX2_add_29 : decode cX2_add 29 = .ok (.putfield 17, 3) := by decide +kernel
theorem dX2_add_32 : decode cX2_add 32 = .ok (.return_, 1) := by decide +kernel
theorem dX2_tell_0 : decode cX2_tell 0 = .ok (.iload_n 1, 1) := by decide +kernel
theorem dX2_tell_1 : decode cX2_tell 1 = .ok (.tableswitch 69 0 5 #[39, 44, 49, 54, 59, 64], 39) := by decide +kernel
theorem dX2_tell_40 : decode cX2_tell 40 = .ok (.aload_n 0, 1) := by decide +kernel
theorem dX2_tell_41 : decode cX2_tell 41 = .ok (.getfield 21, 3) := by decide +kernel
theorem dX2_tell_44 : decode cX2_tell 44 = .ok (.ireturn, 1) := by decide +kernel
theorem dX2_tell_45 : decode cX2_tell 45 = .ok (.aload_n 0, 1) := by decide +kernel
theorem dX2_tell_46 : decode cX2_tell 46 = .ok (.getfield 24, 3) := by decide +kernel
theorem dX2_tell_49 : decode cX2_tell 49 = .ok (.ireturn, 1) := by decide +kernel
theorem dX2_tell_50 : decode cX2_tell 50 = .ok (.aload_n 0, 1) := by decide +kernel
theorem dX2_tell_51 : decode cX2_tell 51 = .ok (.getfield 27, 3) := by decide +kernel
theorem dX2_tell_54 : decode cX2_tell 54 = .ok (.ireturn, 1) := by decide +kernel
theorem dX2_tell_55 : decode cX2_tell 55 = .ok (.aload_n 0, 1) := by decide +kernel
theorem dX2_tell_56 : decode cX2_tell 56 = .ok (.getfield 30, 3) := by decide +kernel
theorem dX2_tell_59 : decode cX2_tell 59 = .ok (.ireturn, 1) := by decide +kernel
theorem dX2_tell_60 : decode cX2_tell 60 = .ok (.aload_n 0, 1) := by decide +kernel
theorem dX2_tell_61 : decode cX2_tell 61 = .ok (.getfield 17, 3) := by decide +kernel
theorem dX2_tell_64 : decode cX2_tell 64 = .ok (.ireturn, 1) := by decide +kernel
theorem dX2_tell_65 : decode cX2_tell 65 = .ok (.aload_n 0, 1) := by decide +kernel
theorem dX2_tell_66 : decode cX2_tell 66 = .ok (.invokevirtual 36, 3) := by decide +kernel
theorem dX2_tell_69 : decode cX2_tell 69 = .ok (.ireturn, 1) := by decide +kernel
theorem dX2_tell_70 : decode cX2_tell 70 = .ok (.iload_n 1, 1) := by decide +kernel
theorem dX2_tell_71 : decode cX2_tell 71 = .ok (.bipush 10, 2) := by decide +kernel
theorem dX2_tell_73 : decode cX2_tell 73 = .ok (.if_icmp .lt 29, 3) := by decide +kernel
theorem dX2_tell_76 : decode cX2_tell 76 = .ok (.iload_n 1, 1) := by decide +kernel
theorem dX2_tell_77 : decode cX2_tell 77 = .ok (.bipush 10, 2) := by decide +kernel
theorem dX2_tell_79 : decode cX2_tell 79 = .ok (.aload_n 0, 1) := by decide +kernel
theorem dX2_tell_80 : decode cX2_tell 80 = .ok (.getfield 17, 3) := by decide +kernel
theorem dX2_tell_83 : decode cX2_tell 83 = .ok (.iadd, 1) := by decide +kernel
theorem dX2_tell_84 : decode cX2_tell 84 = .ok (.if_icmp .ge 18, 3) := by decide +kernel
theorem dX2_tell_87 : decode cX2_tell 87 = .ok (.aload_n 0, 1) := by decide +kernel
theorem dX2_tell_88 : decode cX2_tell 88 = .ok (.getfield 11, 3) := by decide +kernel
theorem dX2_tell_91 : decode cX2_tell 91 = .ok (.iload_n 1, 1) := by decide +kernel
theorem dX2_tell_92 : decode cX2_tell 92 = .ok (.bipush 10, 2) := by decide +kernel
theorem dX2_tell_94 : decode cX2_tell 94 = .ok (.isub, 1) := by decide +kernel
theorem dX2_tell_95 : decode cX2_tell 95 = .ok (.aaload, 1) := by decide +kernel
theorem dX2_tell_96 : decode cX2_tell 96 = .ok (.getfield 40, 3) := by decide +kernel
theorem dX2_tell_99 : decode cX2_tell 99 = .ok (.goto 4, 3) := by decide +kernel
theorem dX2_tell_102 : decode cX2_tell 102 = .ok (.iconst (-1), 1) := by decide +kernel
theorem dX2_tell_103 : decode cX2_tell 103 = .ok (.ireturn, 1) := by decide +kernel
theorem dX2_weight_0 : decode cX2_weight 0 = .ok (.iconst 0, 1) := by decide +kernel
theorem dX2_weight_1 : decode cX2_weight 1 = .ok (.istore_n 1, 1) := by decide +kernel
theorem dX2_weight_2 : decode cX2_weight 2 = .ok (.iconst 0, 1) := by decide +kernel
theorem dX2_weight_3 : decode cX2_weight 3 = .ok (.istore_n 2, 1) := by decide +kernel
theorem dX2_weight_4 : decode cX2_weight 4 = .ok (.iload_n 2, 1) := by decide +kernel
theorem dX2_weight_5 : decode cX2_weight 5 = .ok (.aload_n 0, 1) := by decide +kernel
theorem dX2_weight_6 : decode cX2_weight 6 = .ok (.getfield 17, 3) := by decide +kernel
theorem dX2_weight_9 : decode cX2_weight 9 = .ok (.if_icmp .ge 21, 3) := by decide +kernel
theorem dX2_weight_12 : decode cX2_weight 12 = .ok (.iload_n 1, 1) := by decide +kernel
theorem dX2_weight_13 : decode cX2_weight 13 = .ok (.aload_n 0, 1) := by decide +kernel
theorem dX2_weight_14 : decode cX2_weight 14 = .ok (.getfield 11, 3) := by decide +kernel
theorem dX2_weight_17 : decode cX2_weight 17 = .ok (.iload_n 2, 1) := by decide +kernel
theorem dX2_weight_18 : decode cX2_weight 18 = .ok (.aaload, 1) := by decide +kernel
theorem dX2_weight_19 : decode cX2_weight 19 = .ok (.getfield 41, 3) := by decide +kernel
theorem dX2_weight_22 : decode cX2_weight 22 = .ok (.iadd, 1) := by decide +kernel
theorem dX2_weight_23 : decode cX2_weight 23 = .ok (.istore_n 1, 1) := by decide +kernel
theorem dX2_weight_24 : decode cX2_weight 24 = .ok (.iinc 2 1, 3) := by decide +kernel
theorem dX2_weight_27 : decode cX2_weight 27 = .ok (.goto (-23), 3) := by decide +kernel
theorem dX2_weight_30 : decode cX2_weight 30 = .ok (.iload_n 1, 1) := by decide +kernel
theorem dX2_weight_31 : decode cX2_weight 31 = .ok (.ireturn, 1) := by decide +kernel
theorem dX2_countOf_0 : decode cX2_countOf 0 = .ok (.iconst 0, 1) := by decide +kernel
theorem dX2_countOf_1 : decode cX2_countOf 1 = .ok (.istore_n 2, 1) := by decide +kernel
theorem dX2_countOf_2 : decode cX2_countOf 2 = .ok (.iconst 0, 1) := by decide +kernel
theorem dX2_countOf_3 : decode cX2_countOf 3 = .ok (.istore_n 3, 1) := by decide +kernel
theorem dX2_countOf_4 : decode cX2_countOf 4 = .ok (.iload_n 3, 1) := by decide +kernel
theorem dX2_countOf_5 : decode cX2_countOf 5 = .ok (.aload_n 0, 1) := by decide +kernel
theorem dX2_countOf_6 : decode cX2_countOf 6 = .ok (.getfield 17, 3) := by decide +kernel
theorem dX2_countOf_9 : decode cX2_countOf 9 = .ok (.if_icmp .ge 25, 3) := by decide +kernel
theorem dX2_countOf_12 : decode cX2_countOf 12 = .ok (.aload_n 0, 1) := by decide +kernel
theorem dX2_countOf_13 : decode cX2_countOf 13 = .ok (.getfield 11, 3) := by decide +kernel
theorem dX2_countOf_16 : decode cX2_countOf 16 = .ok (.iload_n 3, 1) := by decide +kernel
theorem dX2_countOf_17 : decode cX2_countOf 17 = .ok (.aaload, 1) := by decide +kernel
theorem dX2_countOf_18 : decode cX2_countOf 18 = .ok (.getfield 43, 3) := by decide +kernel
theorem dX2_countOf_21 : decode cX2_countOf 21 = .ok (.iload_n 1, 1) := by decide +kernel
theorem dX2_countOf_22 : decode cX2_countOf 22 = .ok (.if_icmp .ne 6, 3) := by decide +kernel
theorem dX2_countOf_25 : decode cX2_countOf 25 = .ok (.iinc 2 1, 3) := by decide +kernel
theorem dX2_countOf_28 : decode cX2_countOf 28 = .ok (.iinc 3 1, 3) := by decide +kernel
theorem dX2_countOf_31 : decode cX2_countOf 31 = .ok (.goto (-27), 3) := by decide +kernel
theorem dX2_countOf_34 : decode cX2_countOf 34 = .ok (.iload_n 2, 1) := by decide +kernel
theorem dX2_countOf_35 : decode cX2_countOf 35 = .ok (.ireturn, 1) := by decide +kernel
theorem dX2_lacksHelp_0 : decode cX2_lacksHelp 0 = .ok (.aload_n 0, 1) := by decide +kernel
theorem dX2_lacksHelp_1 : decode cX2_lacksHelp 1 = .ok (.iconst 1, 1) := by decide +kernel
theorem dX2_lacksHelp_2 : decode cX2_lacksHelp 2 = .ok (.invokevirtual 46, 3) := by decide +kernel
theorem dX2_lacksHelp_5 : decode cX2_lacksHelp 5 = .ok (.istore_n 1, 1) := by decide +kernel
theorem dX2_lacksHelp_6 : decode cX2_lacksHelp 6 = .ok (.iload_n 1, 1) := by decide +kernel
theorem dX2_lacksHelp_7 : decode cX2_lacksHelp 7 = .ok (.aload_n 0, 1) := by decide +kernel
theorem dX2_lacksHelp_8 : decode cX2_lacksHelp 8 = .ok (.iconst 2, 1) := by decide +kernel
theorem dX2_lacksHelp_9 : decode cX2_lacksHelp 9 = .ok (.invokevirtual 46, 3) := by decide +kernel
theorem dX2_lacksHelp_12 : decode cX2_lacksHelp 12 = .ok (.if_icmp .gt 15, 3) := by decide +kernel
theorem dX2_lacksHelp_15 : decode cX2_lacksHelp 15 = .ok (.iload_n 1, 1) := by decide +kernel
theorem dX2_lacksHelp_16 : decode cX2_lacksHelp 16 = .ok (.ifCond .le 15, 3) := by decide +kernel
theorem dX2_lacksHelp_19 : decode cX2_lacksHelp 19 = .ok (.aload_n 0, 1) := by decide +kernel
theorem dX2_lacksHelp_20 : decode cX2_lacksHelp 20 = .ok (.getfield 21, 3) := by decide +kernel
theorem dX2_lacksHelp_23 : decode cX2_lacksHelp 23 = .ok (.iconst 3, 1) := by decide +kernel
theorem dX2_lacksHelp_24 : decode cX2_lacksHelp 24 = .ok (.if_icmp .eq 7, 3) := by decide +kernel
theorem dX2_lacksHelp_27 : decode cX2_lacksHelp 27 = .ok (.iconst 1, 1) := by decide +kernel
theorem dX2_lacksHelp_28 : decode cX2_lacksHelp 28 = .ok (.goto 4, 3) := by decide +kernel
theorem dX2_lacksHelp_31 : decode cX2_lacksHelp 31 = .ok (.iconst 0, 1) := by decide +kernel
theorem dX2_lacksHelp_32 : decode cX2_lacksHelp 32 = .ok (.ireturn, 1) := by decide +kernel
theorem dX2_isWornOn_0 : decode cX2_isWornOn 0 = .ok (.iconst 0, 1) := by decide +kernel
theorem dX2_isWornOn_1 : decode cX2_isWornOn 1 = .ok (.istore_n 2, 1) := by decide +kernel
theorem dX2_isWornOn_2 : decode cX2_isWornOn 2 = .ok (.iload_n 2, 1) := by decide +kernel
theorem dX2_isWornOn_3 : decode cX2_isWornOn 3 = .ok (.aload_n 0, 1) := by decide +kernel
theorem dX2_isWornOn_4 : decode cX2_isWornOn 4 = .ok (.getfield 17, 3) := by decide +kernel
theorem dX2_isWornOn_7 : decode cX2_isWornOn 7 = .ok (.if_icmp .ge 24, 3) := by decide +kernel
theorem dX2_isWornOn_10 : decode cX2_isWornOn 10 = .ok (.aload_n 0, 1) := by decide +kernel
theorem dX2_isWornOn_11 : decode cX2_isWornOn 11 = .ok (.getfield 11, 3) := by decide +kernel
theorem dX2_isWornOn_14 : decode cX2_isWornOn 14 = .ok (.iload_n 2, 1) := by decide +kernel
theorem dX2_isWornOn_15 : decode cX2_isWornOn 15 = .ok (.aaload, 1) := by decide +kernel
theorem dX2_isWornOn_16 : decode cX2_isWornOn 16 = .ok (.getfield 50, 3) := by decide +kernel
theorem dX2_isWornOn_19 : decode cX2_isWornOn 19 = .ok (.iload_n 1, 1) := by decide +kernel
theorem dX2_isWornOn_20 : decode cX2_isWornOn 20 = .ok (.if_icmp .ge 5, 3) := by decide +kernel
theorem dX2_isWornOn_23 : decode cX2_isWornOn 23 = .ok (.iconst 1, 1) := by decide +kernel
theorem dX2_isWornOn_24 : decode cX2_isWornOn 24 = .ok (.ireturn, 1) := by decide +kernel
theorem dX2_isWornOn_25 : decode cX2_isWornOn 25 = .ok (.iinc 2 1, 3) := by decide +kernel
theorem dX2_isWornOn_28 : decode cX2_isWornOn 28 = .ok (.goto (-26), 3) := by decide +kernel
theorem dX2_isWornOn_31 : decode cX2_isWornOn 31 = .ok (.iconst 0, 1) := by decide +kernel
theorem dX2_isWornOn_32 : decode cX2_isWornOn 32 = .ok (.ireturn, 1) := by decide +kernel
theorem dX2_sharesOneWith_0 : decode cX2_sharesOneWith 0 = .ok (.iconst 0, 1) := by decide +kernel
theorem dX2_sharesOneWith_1 : decode cX2_sharesOneWith 1 = .ok (.istore_n 2, 1) := by decide +kernel
theorem dX2_sharesOneWith_2 : decode cX2_sharesOneWith 2 = .ok (.iload_n 2, 1) := by decide +kernel
theorem dX2_sharesOneWith_3 : decode cX2_sharesOneWith 3 = .ok (.aload_n 0, 1) := by decide +kernel
theorem dX2_sharesOneWith_4 : decode cX2_sharesOneWith 4 = .ok (.getfield 17, 3) := by decide +kernel
theorem dX2_sharesOneWith_7 : decode cX2_sharesOneWith 7 = .ok (.if_icmp .ge 24, 3) := by decide +kernel
theorem dX2_sharesOneWith_10 : decode cX2_sharesOneWith 10 = .ok (.aload_n 1, 1) := by decide +kernel
theorem dX2_sharesOneWith_11 : decode cX2_sharesOneWith 11 = .ok (.aload_n 0, 1) := by decide +kernel
theorem dX2_sharesOneWith_12 : decode cX2_sharesOneWith 12 = .ok (.getfield 11, 3) := by decide +kernel
theorem dX2_sharesOneWith_15 : decode cX2_sharesOneWith 15 = .ok (.iload_n 2, 1) := by decide +kernel
theorem dX2_sharesOneWith_16 : decode cX2_sharesOneWith 16 = .ok (.aaload, 1) := by decide +kernel
theorem dX2_sharesOneWith_17 : decode cX2_sharesOneWith 17 = .ok (.invokevirtual 53, 3) := by decide +kernel
theorem dX2_sharesOneWith_20 : decode cX2_sharesOneWith 20 = .ok (.ifCond .eq 5, 3) := by decide +kernel
theorem dX2_sharesOneWith_23 : decode cX2_sharesOneWith 23 = .ok (.iconst 1, 1) := by decide +kernel
theorem dX2_sharesOneWith_24 : decode cX2_sharesOneWith 24 = .ok (.ireturn, 1) := by decide +kernel
theorem dX2_sharesOneWith_25 : decode cX2_sharesOneWith 25 = .ok (.iinc 2 1, 3) := by decide +kernel
theorem dX2_sharesOneWith_28 : decode cX2_sharesOneWith 28 = .ok (.goto (-26), 3) := by decide +kernel
theorem dX2_sharesOneWith_31 : decode cX2_sharesOneWith 31 = .ok (.iconst 0, 1) := by decide +kernel
theorem dX2_sharesOneWith_32 : decode cX2_sharesOneWith 32 = .ok (.ireturn, 1) := by decide +kernel
theorem dX2_dropIn_0 : decode cX2_dropIn 0 = .ok (.bipush 10, 2) := by decide +kernel
theorem dX2_dropIn_2 : decode cX2_dropIn 2 = .ok (.iload_n 1, 1) := by decide +kernel
theorem dX2_dropIn_3 : decode cX2_dropIn 3 = .ok (.iconst 1, 1) := by decide +kernel
theorem dX2_dropIn_4 : decode cX2_dropIn 4 = .ok (.iadd, 1) := by decide +kernel
theorem dX2_dropIn_5 : decode cX2_dropIn 5 = .ok (.imul, 1) := by decide +kernel
theorem dX2_dropIn_6 : decode cX2_dropIn 6 = .ok (.istore_n 2, 1) := by decide +kernel
theorem dX2_dropIn_7 : decode cX2_dropIn 7 = .ok (.bipush 10, 2) := by decide +kernel
theorem dX2_dropIn_9 : decode cX2_dropIn 9 = .ok (.iload_n 2, 1) := by decide +kernel
theorem dX2_dropIn_10 : decode cX2_dropIn 10 = .ok (.getstatic 57, 3) := by decide +kernel
theorem dX2_dropIn_13 : decode cX2_dropIn 13 = .ok (.aload_n 0, 1) := by decide +kernel
theorem dX2_dropIn_14 : decode cX2_dropIn 14 = .ok (.getfield 21, 3) := by decide +kernel
theorem dX2_dropIn_17 : decode cX2_dropIn 17 = .ok (.iaload, 1) := by decide +kernel
theorem dX2_dropIn_18 : decode cX2_dropIn 18 = .ok (.if_icmp .ge 7, 3) := by decide +kernel
theorem dX2_dropIn_21 : decode cX2_dropIn 21 = .ok (.iload_n 2, 1) := by decide +kernel
theorem dX2_dropIn_22 : decode cX2_dropIn 22 = .ok (.goto 11, 3) := by decide +kernel
theorem dX2_dropIn_25 : decode cX2_dropIn 25 = .ok (.getstatic 57, 3) := by decide +kernel
theorem dX2_dropIn_28 : decode cX2_dropIn 28 = .ok (.aload_n 0, 1) := by decide +kernel
theorem dX2_dropIn_29 : decode cX2_dropIn 29 = .ok (.getfield 21, 3) := by decide +kernel
theorem dX2_dropIn_32 : decode cX2_dropIn 32 = .ok (.iaload, 1) := by decide +kernel
theorem dX2_dropIn_33 : decode cX2_dropIn 33 = .ok (.imul, 1) := by decide +kernel
theorem dX2_dropIn_34 : decode cX2_dropIn 34 = .ok (.ireturn, 1) := by decide +kernel
theorem dX2_opensBehind_0 : decode cX2_opensBehind 0 = .ok (.iload_n 2, 1) := by decide +kernel
theorem dX2_opensBehind_1 : decode cX2_opensBehind 1 = .ok (.aload_n 0, 1) := by decide +kernel
theorem dX2_opensBehind_2 : decode cX2_opensBehind 2 = .ok (.getfield 24, 3) := by decide +kernel
theorem dX2_opensBehind_5 : decode cX2_opensBehind 5 = .ok (.if_icmp .le 16, 3) := by decide +kernel
theorem dX2_opensBehind_8 : decode cX2_opensBehind 8 = .ok (.aload_n 0, 1) := by decide +kernel
theorem dX2_opensBehind_9 : decode cX2_opensBehind 9 = .ok (.getfield 21, 3) := by decide +kernel
theorem dX2_opensBehind_12 : decode cX2_opensBehind 12 = .ok (.iconst 3, 1) := by decide +kernel
theorem dX2_opensBehind_13 : decode cX2_opensBehind 13 = .ok (.if_icmp .ne 12, 3) := by decide +kernel
theorem dX2_opensBehind_16 : decode cX2_opensBehind 16 = .ok (.iload_n 1, 1) := by decide +kernel
theorem dX2_opensBehind_17 : decode cX2_opensBehind 17 = .ok (.iconst 2, 1) := by decide +kernel
theorem dX2_opensBehind_18 : decode cX2_opensBehind 18 = .ok (.if_icmp .lt 7, 3) := by decide +kernel
theorem dX2_opensBehind_21 : decode cX2_opensBehind 21 = .ok (.iconst 1, 1) := by decide +kernel
theorem dX2_opensBehind_22 : decode cX2_opensBehind 22 = .ok (.goto 4, 3) := by decide +kernel
theorem dX2_opensBehind_25 : decode cX2_opensBehind 25 = .ok (.iconst 0, 1) := by decide +kernel
theorem dX2_opensBehind_26 : decode cX2_opensBehind 26 = .ok (.ireturn, 1) := by decide +kernel
theorem dX3_init_0 : decode cX3_init 0 = .ok (.aload_n 0, 1) := by decide +kernel
theorem dX3_init_1 : decode cX3_init 1 = .ok (.invokespecial 3, 3) := by decide +kernel
theorem dX3_init_4 : decode cX3_init 4 = .ok (.aload_n 0, 1) := by decide +kernel
theorem dX3_init_5 : decode cX3_init 5 = .ok (.iconst 0, 1) := by decide +kernel
theorem dX3_init_6 : decode cX3_init 6 = .ok (.putfield 9, 3) := by decide +kernel
theorem dX3_init_9 : decode cX3_init 9 = .ok (.aload_n 0, 1) := by decide +kernel
theorem dX3_init_10 : decode cX3_init 10 = .ok (.bipush 80, 2) := by decide +kernel
theorem dX3_init_12 : decode cX3_init 12 = .ok (.putfield 15, 3) := by decide +kernel
theorem dX3_init_15 : decode cX3_init 15 = .ok (.aload_n 0, 1) := by decide +kernel
theorem dX3_init_16 : decode cX3_init 16 = .ok (.sipush 1000, 3) := by decide +kernel
theorem dX3_init_19 : decode cX3_init 19 = .ok (.putfield 18, 3) := by decide +kernel
theorem dX3_init_22 : decode cX3_init 22 = .ok (.aload_n 0, 1) := by decide +kernel
theorem dX3_init_23 : decode cX3_init 23 = .ok (.iload_n 1, 1) := by decide +kernel
theorem dX3_init_24 : decode cX3_init 24 = .ok (.putfield 21, 3) := by decide +kernel
theorem dX3_init_27 : decode cX3_init 27 = .ok (.return_, 1) := by decide +kernel
theorem dX3_become_0 : decode cX3_become 0 = .ok (.aload_n 0, 1) := by decide +kernel
theorem dX3_become_1 : decode cX3_become 1 = .ok (.iload_n 1, 1) := by decide +kernel
theorem dX3_become_2 : decode cX3_become 2 = .ok (.putfield 9, 3) := by decide +kernel
theorem dX3_become_5 : decode cX3_become 5 = .ok (.aload_n 0, 1) := by decide +kernel
theorem dX3_become_6 : decode cX3_become 6 = .ok (.iload_n 2, 1) := by decide +kernel
theorem dX3_become_7 : decode cX3_become 7 = .ok (.putfield 15, 3) := by decide +kernel
theorem dX3_become_10 : decode cX3_become 10 = .ok (.aload_n 0, 1) := by decide +kernel
theorem dX3_become_11 : decode cX3_become 11 = .ok (.iload_n 3, 1) := by decide +kernel
theorem dX3_become_12 : decode cX3_become 12 = .ok (.putfield 18, 3) := by decide +kernel
theorem dX3_become_15 : decode cX3_become 15 = .ok (.return_, 1) := by decide +kernel
theorem dX4_init_0 : decode cX4_init 0 = .ok (.aload_n 0, 1) := by decide +kernel
theorem dX4_init_1 : decode cX4_init 1 = .ok (.invokespecial 3, 3) := by decide +kernel
theorem dX4_init_4 : decode cX4_init 4 = .ok (.aload_n 0, 1) := by decide +kernel
theorem dX4_init_5 : decode cX4_init 5 = .ok (.sipush 400, 3) := by decide +kernel
theorem dX4_init_8 : decode cX4_init 8 = .ok (.newarray .int, 2) := by decide +kernel
theorem dX4_init_10 : decode cX4_init 10 = .ok (.putfield 9, 3) := by decide +kernel
theorem dX4_init_13 : decode cX4_init 13 = .ok (.aload_n 0, 1) := by decide +kernel
theorem dX4_init_14 : decode cX4_init 14 = .ok (.bipush 6, 2) := by decide +kernel
theorem dX4_init_16 : decode cX4_init 16 = .ok (.newarray .int, 2) := by decide +kernel
theorem dX4_init_18 : decode cX4_init 18 = .ok (.putfield 15, 3) := by decide +kernel
theorem dX4_init_21 : decode cX4_init 21 = .ok (.aload_n 0, 1) := by decide +kernel
theorem dX4_init_22 : decode cX4_init 22 = .ok (.bipush 6, 2) := by decide +kernel
theorem dX4_init_24 : decode cX4_init 24 = .ok (.newarray .int, 2) := by decide +kernel
theorem dX4_init_26 : decode cX4_init 26 = .ok (.putfield 18, 3) := by decide +kernel
theorem dX4_init_29 : decode cX4_init 29 = .ok (.aload_n 0, 1) := by decide +kernel
theorem dX4_init_30 : decode cX4_init 30 = .ok (.iconst 0, 1) := by decide +kernel
theorem dX4_init_31 : decode cX4_init 31 = .ok (.putfield 21, 3) := by decide +kernel
theorem dX4_init_34 : decode cX4_init 34 = .ok (.aload_n 0, 1) := by decide +kernel
theorem dX4_init_35 : decode cX4_init 35 = .ok (.iconst 0, 1) := by decide +kernel
theorem dX4_init_36 : decode cX4_init 36 = .ok (.putfield 25, 3) := by decide +kernel
theorem dX4_init_39 : decode cX4_init 39 = .ok (.return_, 1) := by decide +kernel
theorem dX4_measure_0 : decode cX4_measure 0 = .ok (.aload_n 0, 1) := by decide +kernel
theorem dX4_measure_1 : decode cX4_measure 1 = .ok (.getfield 9, 3) := by decide +kernel
theorem dX4_measure_4 : decode cX4_measure 4 = .ok (.aload_n 1, 1) := by decide +kernel
theorem dX4_measure_5 : decode cX4_measure 5 = .ok (.getfield 28, 3) := by decide +kernel
theorem dX4_measure_8 : decode cX4_measure 8 = .ok (.bipush 20, 2) := by decide +kernel
theorem dX4_measure_10 : decode cX4_measure 10 = .ok (.imul, 1) := by decide +kernel
theorem dX4_measure_11 : decode cX4_measure 11 = .ok (.aload_n 2, 1) := by decide +kernel
theorem dX4_measure_12 : decode cX4_measure 12 = .ok (.getfield 28, 3) := by decide +kernel
theorem dX4_measure_15 : decode cX4_measure 15 = .ok (.iadd, 1) := by decide +kernel
theorem dX4_measure_16 : decode cX4_measure 16 = .ok (.iload_n 3, 1) := by decide +kernel
theorem dX4_measure_17 : decode cX4_measure 17 = .ok (.iastore, 1) := by decide +kernel
theorem dX4_measure_18 : decode cX4_measure 18 = .ok (.return_, 1) := by decide +kernel
theorem dX4_pauseBetween_0 : decode cX4_pauseBetween 0 = .ok (.aload_n 0, 1) := by decide +kernel
theorem dX4_pauseBetween_1 : decode cX4_pauseBetween 1 = .ok (.getfield 9, 3) := by decide +kernel
theorem dX4_pauseBetween_4 : decode cX4_pauseBetween 4 = .ok (.iload_n 1, 1) := by decide +kernel
theorem dX4_pauseBetween_5 : decode cX4_pauseBetween 5 = .ok (.bipush 20, 2) := by decide +kernel
theorem dX4_pauseBetween_7 : decode cX4_pauseBetween 7 = .ok (.imul, 1) := by decide +kernel
theorem dX4_pauseBetween_8 : decode cX4_pauseBetween 8 = .ok (.iload_n 2, 1) := by decide +kernel
theorem dX4_pauseBetween_9 : decode cX4_pauseBetween 9 = .ok (.iadd, 1) := by decide +kernel
theorem dX4_pauseBetween_10 : decode cX4_pauseBetween 10 = .ok (.iaload, 1) := by decide +kernel
theorem dX4_pauseBetween_11 : decode cX4_pauseBetween 11 = .ok (.ireturn, 1) := by decide +kernel
theorem dX4_begin_0 : decode cX4_begin 0 = .ok (.aload_n 0, 1) := by decide +kernel
theorem dX4_begin_1 : decode cX4_begin 1 = .ok (.aload_n 1, 1) := by decide +kernel
theorem dX4_begin_2 : decode cX4_begin 2 = .ok (.getfield 33, 3) := by decide +kernel
theorem dX4_begin_5 : decode cX4_begin 5 = .ok (.putfield 21, 3) := by decide +kernel
theorem dX4_begin_8 : decode cX4_begin 8 = .ok (.iconst 0, 1) := by decide +kernel
theorem dX4_begin_9 : decode cX4_begin 9 = .ok (.istore_n 2, 1) := by decide +kernel
theorem dX4_begin_10 : decode cX4_begin 10 = .ok (.iload_n 2, 1) := by decide +kernel
theorem dX4_begin_11 : decode cX4_begin 11 = .ok (.aload_n 0, 1) := by decide +kernel
theorem dX4_begin_12 : decode cX4_begin 12 = .ok (.getfield 21, 3) := by decide +kernel
theorem dX4_begin_15 : decode cX4_begin 15 = .ok (.if_icmp .ge 70, 3) := by decide +kernel
theorem dX4_begin_18 : decode cX4_begin 18 = .ok (.aload_n 1, 1) := by decide +kernel
theorem dX4_begin_19 : decode cX4_begin 19 = .ok (.getfield 36, 3) := by decide +kernel
theorem dX4_begin_22 : decode cX4_begin 22 = .ok (.iload_n 2, 1) := by decide +kernel
theorem dX4_begin_23 : decode cX4_begin 23 = .ok (.aaload, 1) := by decide +kernel
theorem dX4_begin_24 : decode cX4_begin 24 = .ok (.getfield 28, 3) := by decide +kernel
theorem dX4_begin_27 : decode cX4_begin 27 = .ok (.istore_n 3, 1) := by decide +kernel
theorem dX4_begin_28 : decode cX4_begin 28 = .ok (.iload_n 2, 1) := by decide +kernel
theorem dX4_begin_29 : decode cX4_begin 29 = .ok (.istore 4, 2) := by decide +kernel
theorem dX4_begin_31 : decode cX4_begin 31 = .ok (.iload 4, 2) := by decide +kernel
theorem dX4_begin_33 : decode cX4_begin 33 = .ok (.ifCond .le 38, 3) := by decide +kernel
theorem dX4_begin_36 : decode cX4_begin 36 = .ok (.aload_n 0, 1) := by decide +kernel
theorem dX4_begin_37 : decode cX4_begin 37 = .ok (.getfield 15, 3) := by decide +kernel
theorem dX4_begin_40 : decode cX4_begin 40 = .ok (.iload 4, 2) := by decide +kernel
theorem dX4_begin_42 : decode cX4_begin 42 = .ok (.iconst 1, 1) := by decide +kernel
theorem dX4_begin_43 : decode cX4_begin 43 = .ok (.isub, 1) := by decide +kernel
theorem dX4_begin_44 : decode cX4_begin 44 = .ok (.iaload, 1) := by decide +kernel
theorem dX4_begin_45 : decode cX4_begin 45 = .ok (.iload_n 3, 1) := by decide +kernel
theorem dX4_begin_46 : decode cX4_begin 46 = .ok (.if_icmp .le 25, 3) := by decide +kernel
theorem dX4_begin_49 : decode cX4_begin 49 = .ok (.aload_n 0, 1) := by decide +kernel
theorem dX4_begin_50 : decode cX4_begin 50 = .ok (.getfield 15, 3) := by decide +kernel
theorem dX4_begin_53 : decode cX4_begin 53 = .ok (.iload 4, 2) := by decide +kernel
theorem dX4_begin_55 : decode cX4_begin 55 = .ok (.aload_n 0, 1) := by decide +kernel
theorem dX4_begin_56 : decode cX4_begin 56 = .ok (.getfield 15, 3) := by decide +kernel
theorem dX4_begin_59 : decode cX4_begin 59 = .ok (.iload 4, 2) := by decide +kernel
theorem dX4_begin_61 : decode cX4_begin 61 = .ok (.iconst 1, 1) := by decide +kernel
theorem dX4_begin_62 : decode cX4_begin 62 = .ok (.isub, 1) := by decide +kernel
theorem dX4_begin_63 : decode cX4_begin 63 = .ok (.iaload, 1) := by decide +kernel
theorem dX4_begin_64 : decode cX4_begin 64 = .ok (.iastore, 1) := by decide +kernel
theorem dX4_begin_65 : decode cX4_begin 65 = .ok (.iinc 4 (-1), 3) := by decide +kernel
theorem dX4_begin_68 : decode cX4_begin 68 = .ok (.goto (-37), 3) := by decide +kernel
theorem dX4_begin_71 : decode cX4_begin 71 = .ok (.aload_n 0, 1) := by decide +kernel
theorem dX4_begin_72 : decode cX4_begin 72 = .ok (.getfield 15, 3) := by decide +kernel
theorem dX4_begin_75 : decode cX4_begin 75 = .ok (.iload 4, 2) := by decide +kernel
theorem dX4_begin_77 : decode cX4_begin 77 = .ok (.iload_n 3, 1) := by decide +kernel
theorem dX4_begin_78 : decode cX4_begin 78 = .ok (.iastore, 1) := by decide +kernel
theorem dX4_begin_79 : decode cX4_begin 79 = .ok (.iinc 2 1, 3) := by decide +kernel
theorem dX4_begin_82 : decode cX4_begin 82 = .ok (.goto (-72), 3) := by decide +kernel
theorem dX4_begin_85 : decode cX4_begin 85 = .ok (.return_, 1) := by decide +kernel
theorem dX4_findShortest_0 : decode cX4_findShortest 0 = .ok (.iconst 0, 1) := by decide +kernel
theorem dX4_findShortest_1 : decode cX4_findShortest 1 = .ok (.istore_n 1, 1) := by decide +kernel
theorem dX4_findShortest_2 : decode cX4_findShortest 2 = .ok (.iconst 0, 1) := by decide +kernel
theorem dX4_findShortest_3 : decode cX4_findShortest 3 = .ok (.istore_n 2, 1) := by decide +kernel
theorem dX4_findShortest_4 : decode cX4_findShortest 4 = .ok (.iload_n 2, 1) := by decide +kernel
theorem dX4_findShortest_5 : decode cX4_findShortest 5 = .ok (.sipush 720, 3) := by decide +kernel
theorem dX4_findShortest_8 : decode cX4_findShortest 8 = .ok (.if_icmp .ge 63, 3) := by decide +kernel
theorem dX4_findShortest_11 : decode cX4_findShortest 11 = .ok (.aload_n 0, 1) := by decide +kernel
theorem dX4_findShortest_12 : decode cX4_findShortest 12 = .ok (.invokevirtual 40, 3) := by decide +kernel
theorem dX4_findShortest_15 : decode cX4_findShortest 15 = .ok (.istore_n 3, 1) := by decide +kernel
theorem dX4_findShortest_16 : decode cX4_findShortest 16 = .ok (.iload_n 3, 1) := by decide +kernel
theorem dX4_findShortest_17 : decode cX4_findShortest 17 = .ok (.ifCond .lt 39, 3) := by decide +kernel
theorem dX4_findShortest_20 : decode cX4_findShortest 20 = .ok (.iload_n 1, 1) := by decide +kernel
theorem dX4_findShortest_21 : decode cX4_findShortest 21 = .ok (.ifCond .eq 11, 3) := by decide +kernel
theorem dX4_findShortest_24 : decode cX4_findShortest 24 = .ok (.iload_n 3, 1) := by decide +kernel
theorem dX4_findShortest_25 : decode cX4_findShortest 25 = .ok (.aload_n 0, 1) := by decide +kernel
theorem dX4_findShortest_26 : decode cX4_findShortest 26 = .ok (.getfield 25, 3) := by decide +kernel
theorem dX4_findShortest_29 : decode cX4_findShortest 29 = .ok (.if_icmp .ge 27, 3) := by decide +kernel
theorem dX4_findShortest_32 : decode cX4_findShortest 32 = .ok (.iconst 1, 1) := by decide +kernel
theorem dX4_findShortest_33 : decode cX4_findShortest 33 = .ok (.istore_n 1, 1) := by decide +kernel
theorem dX4_findShortest_34 : decode cX4_findShortest 34 = .ok (.aload_n 0, 1) := by decide +kernel
theorem dX4_findShortest_35 : decode cX4_findShortest 35 = .ok (.iload_n 3, 1) := by decide +kernel
theorem dX4_findShortest_36 : decode cX4_findShortest 36 = .ok (.putfield 25, 3) := by decide +kernel
theorem dX4_findShortest_39 : decode cX4_findShortest 39 = .ok (.aload_n 0, 1) := by decide +kernel
theorem dX4_findShortest_40 : decode cX4_findShortest 40 = .ok (.getfield 15, 3) := by decide +kernel
theorem dX4_findShortest_43 : decode cX4_findShortest 43 = .ok (.iconst 0, 1) := by decide +kernel
theorem dX4_findShortest_44 : decode cX4_findShortest 44 = .ok (.aload_n 0, 1) := by decide +kernel
theorem dX4_findShortest_45 : decode cX4_findShortest 45 = .ok (.getfield 18, 3) := by decide +kernel
theorem dX4_findShortest_48 : decode cX4_findShortest 48 = .ok (.iconst 0, 1) := by decide +kernel
theorem dX4_findShortest_49 : decode cX4_findShortest 49 = .ok (.aload_n 0, 1) := by decide +kernel
theorem dX4_findShortest_50 : decode cX4_findShortest 50 = .ok (.getfield 21, 3) := by decide +kernel
theorem dX4_findShortest_53 : decode cX4_findShortest 53 = .ok (.invokestatic 44, 3) := by decide +kernel
theorem dX4_findShortest_56 : decode cX4_findShortest 56 = .ok (.aload_n 0, 1) := by decide +kernel
theorem dX4_findShortest_57 : decode cX4_findShortest 57 = .ok (.invokevirtual 50, 3) := by decide +kernel
theorem dX4_findShortest_60 : decode cX4_findShortest 60 = .ok (.ifCond .ne 5, 3) := by decide +kernel
theorem dX4_findShortest_63 : decode cX4_findShortest 63 = .ok (.iload_n 1, 1) := by decide +kernel
theorem dX4_findShortest_64 : decode cX4_findShortest 64 = .ok (.ireturn, 1) := by decide +kernel
theorem dX4_findShortest_65 : decode cX4_findShortest 65 = .ok (.iinc 2 1, 3) := by decide +kernel
theorem dX4_findShortest_68 : decode cX4_findShortest 68 = .ok (.goto (-64), 3) := by decide +kernel
theorem dX4_findShortest_71 : decode cX4_findShortest 71 = .ok (.iload_n 1, 1) := by decide +kernel
theorem dX4_findShortest_72 : decode cX4_findShortest 72 = .ok (.ireturn, 1) := by decide +kernel
theorem dX4_sumOfRow_0 : decode cX4_sumOfRow 0 = .ok (.iconst 0, 1) := by decide +kernel
theorem dX4_sumOfRow_1 : decode cX4_sumOfRow 1 = .ok (.istore_n 1, 1) := by decide +kernel
theorem dX4_sumOfRow_2 : decode cX4_sumOfRow 2 = .ok (.iconst 1, 1) := by decide +kernel
theorem dX4_sumOfRow_3 : decode cX4_sumOfRow 3 = .ok (.istore_n 2, 1) := by decide +kernel
theorem dX4_sumOfRow_4 : decode cX4_sumOfRow 4 = .ok (.iload_n 2, 1) := by decide +kernel
theorem dX4_sumOfRow_5 : decode cX4_sumOfRow 5 = .ok (.aload_n 0, 1) := by decide +kernel
theorem dX4_sumOfRow_6 : decode cX4_sumOfRow 6 = .ok (.getfield 21, 3) := by decide +kernel
theorem dX4_sumOfRow_9 : decode cX4_sumOfRow 9 = .ok (.if_icmp .ge 38, 3) := by decide +kernel
theorem dX4_sumOfRow_12 : decode cX4_sumOfRow 12 = .ok (.aload_n 0, 1) := by decide +kernel
theorem dX4_sumOfRow_13 : decode cX4_sumOfRow 13 = .ok (.aload_n 0, 1) := by decide +kernel
theorem dX4_sumOfRow_14 : decode cX4_sumOfRow 14 = .ok (.getfield 15, 3) := by decide +kernel
theorem dX4_sumOfRow_17 : decode cX4_sumOfRow 17 = .ok (.iload_n 2, 1) := by decide +kernel
theorem dX4_sumOfRow_18 : decode cX4_sumOfRow 18 = .ok (.iconst 1, 1) := by decide +kernel
theorem dX4_sumOfRow_19 : decode cX4_sumOfRow 19 = .ok (.isub, 1) := by decide +kernel
theorem dX4_sumOfRow_20 : decode cX4_sumOfRow 20 = .ok (.iaload, 1) := by decide +kernel
theorem dX4_sumOfRow_21 : decode cX4_sumOfRow 21 = .ok (.aload_n 0, 1) := by decide +kernel
theorem dX4_sumOfRow_22 : decode cX4_sumOfRow 22 = .ok (.getfield 15, 3) := by decide +kernel
theorem dX4_sumOfRow_25 : decode cX4_sumOfRow 25 = .ok (.iload_n 2, 1) := by decide +kernel
theorem dX4_sumOfRow_26 : decode cX4_sumOfRow 26 = .ok (.iaload, 1) := by decide +kernel
theorem dX4_sumOfRow_27 : decode cX4_sumOfRow 27 = .ok (.invokevirtual 54, 3) := by decide +kernel
theorem dX4_sumOfRow_30 : decode cX4_sumOfRow 30 = .ok (.istore_n 3, 1) := by decide +kernel
theorem dX4_sumOfRow_31 : decode cX4_sumOfRow 31 = .ok (.iload_n 3, 1) := by decide +kernel
theorem dX4_sumOfRow_32 : decode cX4_sumOfRow 32 = .ok (.ifCond .ne 5, 3) := by decide +kernel
theorem dX4_sumOfRow_35 : decode cX4_sumOfRow 35 = .ok (.iconst (-1), 1) := by decide +kernel
theorem dX4_sumOfRow_36 : decode cX4_sumOfRow 36 = .ok (.ireturn, 1) := by decide +kernel
theorem dX4_sumOfRow_37 : decode cX4_sumOfRow 37 = .ok (.iload_n 1, 1) := by decide +kernel
theorem dX4_sumOfRow_38 : decode cX4_sumOfRow 38 = .ok (.iload_n 3, 1) := by decide +kernel
theorem dX4_sumOfRow_39 : decode cX4_sumOfRow 39 = .ok (.iadd, 1) := by decide +kernel
theorem dX4_sumOfRow_40 : decode cX4_sumOfRow 40 = .ok (.istore_n 1, 1) := by decide +kernel
theorem dX4_sumOfRow_41 : decode cX4_sumOfRow 41 = .ok (.iinc 2 1, 3) := by decide +kernel
theorem dX4_sumOfRow_44 : decode cX4_sumOfRow 44 = .ok (.goto (-40), 3) := by decide +kernel
theorem dX4_sumOfRow_47 : decode cX4_sumOfRow 47 = .ok (.iload_n 1, 1) := by decide +kernel
theorem dX4_sumOfRow_48 : decode cX4_sumOfRow 48 = .ok (.ireturn, 1) := by decide +kernel
theorem dX4_stepRow_0 : decode cX4_stepRow 0 = .ok (.aload_n 0, 1) := by decide +kernel
theorem dX4_stepRow_1 : decode cX4_stepRow 1 = .ok (.getfield 21, 3) := by decide +kernel
theorem dX4_stepRow_4 : decode cX4_stepRow 4 = .ok (.iconst 2, 1) := by decide +kernel
theorem dX4_stepRow_5 : decode cX4_stepRow 5 = .ok (.isub, 1) := by decide +kernel
theorem dX4_stepRow_6 : decode cX4_stepRow 6 = .ok (.istore_n 1, 1) := by decide +kernel
theorem dX4_stepRow_7 : decode cX4_stepRow 7 = .ok (.iload_n 1, 1) := by decide +kernel
theorem dX4_stepRow_8 : decode cX4_stepRow 8 = .ok (.ifCond .lt 26, 3) := by decide +kernel
theorem dX4_stepRow_11 : decode cX4_stepRow 11 = .ok (.aload_n 0, 1) := by decide +kernel
theorem dX4_stepRow_12 : decode cX4_stepRow 12 = .ok (.getfield 15, 3) := by decide +kernel
theorem dX4_stepRow_15 : decode cX4_stepRow 15 = .ok (.iload_n 1, 1) := by decide +kernel
theorem dX4_stepRow_16 : decode cX4_stepRow 16 = .ok (.iaload, 1) := by decide +kernel
theorem dX4_stepRow_17 : decode cX4_stepRow 17 = .ok (.aload_n 0, 1) := by decide +kernel
theorem dX4_stepRow_18 : decode cX4_stepRow 18 = .ok (.getfield 15, 3) := by decide +kernel
theorem dX4_stepRow_21 : decode cX4_stepRow 21 = .ok (.iload_n 1, 1) := by decide +kernel
theorem dX4_stepRow_22 : decode cX4_stepRow 22 = .ok (.iconst 1, 1) := by decide +kernel
theorem dX4_stepRow_23 : decode cX4_stepRow 23 = .ok (.iadd, 1) := by decide +kernel
theorem dX4_stepRow_24 : decode cX4_stepRow 24 = .ok (.iaload, 1) := by decide +kernel
theorem dX4_stepRow_25 : decode cX4_stepRow 25 = .ok (.if_icmp .le 9, 3) := by decide +kernel
theorem dX4_stepRow_28 : decode cX4_stepRow 28 = .ok (.iinc 1 (-1), 3) := by decide +kernel
theorem dX4_stepRow_31 : decode cX4_stepRow 31 = .ok (.goto (-24), 3) := by decide +kernel
theorem dX4_stepRow_34 : decode cX4_stepRow 34 = .ok (.iload_n 1, 1) := by decide +kernel
theorem dX4_stepRow_35 : decode cX4_stepRow 35 = .ok (.ifCond .ge 5, 3) := by decide +kernel
theorem dX4_stepRow_38 : decode cX4_stepRow 38 = .ok (.iconst 0, 1) := by decide +kernel
theorem dX4_stepRow_39 : decode cX4_stepRow 39 = .ok (.ireturn, 1) := by decide +kernel
theorem dX4_stepRow_40 : decode cX4_stepRow 40 = .ok (.aload_n 0, 1) := by decide +kernel
theorem dX4_stepRow_41 : decode cX4_stepRow 41 = .ok (.getfield 21, 3) := by decide +kernel
theorem dX4_stepRow_44 : decode cX4_stepRow 44 = .ok (.iconst 1, 1) := by decide +kernel
theorem dX4_stepRow_45 : decode cX4_stepRow 45 = .ok (.isub, 1) := by decide +kernel
theorem dX4_stepRow_46 : decode cX4_stepRow 46 = .ok (.istore_n 2, 1) := by decide +kernel
theorem dX4_stepRow_47 : decode cX4_stepRow 47 = .ok (.iload_n 2, 1) := by decide +kernel
theorem dX4_stepRow_48 : decode cX4_stepRow 48 = .ok (.iload_n 1, 1) := by decide +kernel
theorem dX4_stepRow_49 : decode cX4_stepRow 49 = .ok (.iconst 1, 1) := by decide +kernel
theorem dX4_stepRow_50 : decode cX4_stepRow 50 = .ok (.iadd, 1) := by decide +kernel
theorem dX4_stepRow_51 : decode cX4_stepRow 51 = .ok (.if_icmp .le 24, 3) := by decide +kernel
theorem dX4_stepRow_54 : decode cX4_stepRow 54 = .ok (.aload_n 0, 1) := by decide +kernel
theorem dX4_stepRow_55 : decode cX4_stepRow 55 = .ok (.getfield 15, 3) := by decide +kernel
theorem dX4_stepRow_58 : decode cX4_stepRow 58 = .ok (.iload_n 2, 1) := by decide +kernel
theorem dX4_stepRow_59 : decode cX4_stepRow 59 = .ok (.iaload, 1) := by decide +kernel
theorem dX4_stepRow_60 : decode cX4_stepRow 60 = .ok (.aload_n 0, 1) := by decide +kernel
theorem dX4_stepRow_61 : decode cX4_stepRow 61 = .ok (.getfield 15, 3) := by decide +kernel
theorem dX4_stepRow_64 : decode cX4_stepRow 64 = .ok (.iload_n 1, 1) := by decide +kernel
theorem dX4_stepRow_65 : decode cX4_stepRow 65 = .ok (.iaload, 1) := by decide +kernel
theorem dX4_stepRow_66 : decode cX4_stepRow 66 = .ok (.if_icmp .ge 9, 3) := by decide +kernel
theorem dX4_stepRow_69 : decode cX4_stepRow 69 = .ok (.iinc 2 (-1), 3) := by decide +kernel
theorem dX4_stepRow_72 : decode cX4_stepRow 72 = .ok (.goto (-25), 3) := by decide +kernel
theorem dX4_stepRow_75 : decode cX4_stepRow 75 = .ok (.aload_n 0, 1) := by decide +kernel
theorem dX4_stepRow_76 : decode cX4_stepRow 76 = .ok (.iload_n 1, 1) := by decide +kernel
theorem dX4_stepRow_77 : decode cX4_stepRow 77 = .ok (.iload_n 2, 1) := by decide +kernel
theorem dX4_stepRow_78 : decode cX4_stepRow 78 = .ok (.invokevirtual 58, 3) := by decide +kernel
theorem dX4_stepRow_81 : decode cX4_stepRow 81 = .ok (.iload_n 1, 1) := by decide +kernel
theorem dX4_stepRow_82 : decode cX4_stepRow 82 = .ok (.iconst 1, 1) := by decide +kernel
theorem dX4_stepRow_83 : decode cX4_stepRow 83 = .ok (.iadd, 1) := by decide +kernel
theorem dX4_stepRow_84 : decode cX4_stepRow 84 = .ok (.istore_n 3, 1) := by decide +kernel
theorem dX4_stepRow_85 : decode cX4_stepRow 85 = .ok (.aload_n 0, 1) := by decide +kernel
theorem dX4_stepRow_86 : decode cX4_stepRow 86 = .ok (.getfield 21, 3) := by decide +kernel
theorem dX4_stepRow_89 : decode cX4_stepRow 89 = .ok (.iconst 1, 1) := by decide +kernel
theorem dX4_stepRow_90 : decode cX4_stepRow 90 = .ok (.isub, 1) := by decide +kernel
theorem dX4_stepRow_91 : decode cX4_stepRow 91 = .ok (.istore 4, 2) := by decide +kernel
theorem dX4_stepRow_93 : decode cX4_stepRow 93 = .ok (.iload_n 3, 1) := by decide +kernel
theorem dX4_stepRow_94 : decode cX4_stepRow 94 = .ok (.iload 4, 2) := by decide +kernel
theorem dX4_stepRow_96 : decode cX4_stepRow 96 = .ok (.if_icmp .ge 19, 3) := by decide +kernel
theorem dX4_stepRow_99 : decode cX4_stepRow 99 = .ok (.aload_n 0, 1) := by decide +kernel
theorem dX4_stepRow_100 : decode cX4_stepRow 100 = .ok (.iload_n 3, 1) := by decide +kernel
theorem dX4_stepRow_101 : decode cX4_stepRow 101 = .ok (.iload 4, 2) := by decide +kernel
theorem dX4_stepRow_103 : decode cX4_stepRow 103 = .ok (.invokevirtual 58, 3) := by decide +kernel
theorem dX4_stepRow_106 : decode cX4_stepRow 106 = .ok (.iinc 3 1, 3) := by decide +kernel
theorem dX4_stepRow_109 : decode cX4_stepRow 109 = .ok (.iinc 4 (-1), 3) := by decide +kernel
theorem dX4_stepRow_112 : decode cX4_stepRow 112 = .ok (.goto (-19), 3) := by decide +kernel
theorem dX4_stepRow_115 : decode cX4_stepRow 115 = .ok (.iconst 1, 1) := by decide +kernel
theorem dX4_stepRow_116 : decode cX4_stepRow 116 = .ok (.ireturn, 1) := by decide +kernel
theorem dX4_swap_0 : decode cX4_swap 0 = .ok (.aload_n 0, 1) := by decide +kernel
theorem dX4_swap_1 : decode cX4_swap 1 = .ok (.getfield 15, 3) := by decide +kernel
theorem dX4_swap_4 : decode cX4_swap 4 = .ok (.iload_n 1, 1) := by decide +kernel
theorem dX4_swap_5 : decode cX4_swap 5 = .ok (.iaload, 1) := by decide +kernel
theorem dX4_swap_6 : decode cX4_swap 6 = .ok (.istore_n 3, 1) := by decide +kernel
theorem dX4_swap_7 : decode cX4_swap 7 = .ok (.aload_n 0, 1) := by decide +kernel
theorem dX4_swap_8 : decode cX4_swap 8 = .ok (.getfield 15, 3) := by decide +kernel
theorem dX4_swap_11 : decode cX4_swap 11 = .ok (.iload_n 1, 1) := by decide +kernel
theorem dX4_swap_12 : decode cX4_swap 12 = .ok (.aload_n 0, 1) := by decide +kernel
theorem dX4_swap_13 : decode cX4_swap 13 = .ok (.getfield 15, 3) := by decide +kernel
theorem dX4_swap_16 : decode cX4_swap 16 = .ok (.iload_n 2, 1) := by decide +kernel
theorem dX4_swap_17 : decode cX4_swap 17 = .ok (.iaload, 1) := by decide +kernel
theorem dX4_swap_18 : decode cX4_swap 18 = .ok (.iastore, 1) := by decide +kernel
theorem dX4_swap_19 : decode cX4_swap 19 = .ok (.aload_n 0, 1) := by decide +kernel
theorem dX4_swap_20 : decode cX4_swap 20 = .ok (.getfield 15, 3) := by decide +kernel
theorem dX4_swap_23 : decode cX4_swap 23 = .ok (.iload_n 2, 1) := by decide +kernel
theorem dX4_swap_24 : decode cX4_swap 24 = .ok (.iload_n 3, 1) := by decide +kernel
theorem dX4_swap_25 : decode cX4_swap 25 = .ok (.iastore, 1) := by decide +kernel
theorem dX4_swap_26 : decode cX4_swap 26 = .ok (.return_, 1) := by decide +kernel
theorem dX4_giveTo_0 : decode cX4_giveTo 0 = .ok (.iconst 0, 1) := by decide +kernel
theorem dX4_giveTo_1 : decode cX4_giveTo 1 = .ok (.istore_n 3, 1) := by decide +kernel
theorem dX4_giveTo_2 : decode cX4_giveTo 2 = .ok (.iload_n 3, 1) := by decide +kernel
theorem dX4_giveTo_3 : decode cX4_giveTo 3 = .ok (.aload_n 0, 1) := by decide +kernel
theorem dX4_giveTo_4 : decode cX4_giveTo 4 = .ok (.getfield 21, 3) := by decide +kernel
theorem dX4_giveTo_7 : decode cX4_giveTo 7 = .ok (.if_icmp .ge 64, 3) := by decide +kernel
theorem dX4_giveTo_10 : decode cX4_giveTo 10 = .ok (.iload_n 3, 1) := by decide +kernel
theorem dX4_giveTo_11 : decode cX4_giveTo 11 = .ok (.aload_n 1, 1) := by decide +kernel
theorem dX4_giveTo_12 : decode cX4_giveTo 12 = .ok (.getfield 36, 3) := by decide +kernel
theorem dX4_giveTo_15 : decode cX4_giveTo 15 = .ok (.arraylength, 1) := by decide +kernel
theorem dX4_giveTo_16 : decode cX4_giveTo 16 = .ok (.if_icmp .ge 55, 3) := by decide +kernel
theorem dX4_giveTo_19 : decode cX4_giveTo 19 = .ok (.aload_n 1, 1) := by decide +kernel
theorem dX4_giveTo_20 : decode cX4_giveTo 20 = .ok (.getfield 36, 3) := by decide +kernel
theorem dX4_giveTo_23 : decode cX4_giveTo 23 = .ok (.iload_n 3, 1) := by decide +kernel
theorem dX4_giveTo_24 : decode cX4_giveTo 24 = .ok (.aload_n 2, 1) := by decide +kernel
theorem dX4_giveTo_25 : decode cX4_giveTo 25 = .ok (.aload_n 0, 1) := by decide +kernel
theorem dX4_giveTo_26 : decode cX4_giveTo 26 = .ok (.getfield 18, 3) := by decide +kernel
theorem dX4_giveTo_29 : decode cX4_giveTo 29 = .ok (.iload_n 3, 1) := by decide +kernel
theorem dX4_giveTo_30 : decode cX4_giveTo 30 = .ok (.iaload, 1) := by decide +kernel
theorem dX4_giveTo_31 : decode cX4_giveTo 31 = .ok (.aaload, 1) := by decide +kernel
theorem dX4_giveTo_32 : decode cX4_giveTo 32 = .ok (.aastore, 1) := by decide +kernel
theorem dX4_giveTo_33 : decode cX4_giveTo 33 = .ok (.aload_n 1, 1) := by decide +kernel
theorem dX4_giveTo_34 : decode cX4_giveTo 34 = .ok (.getfield 62, 3) := by decide +kernel
theorem dX4_giveTo_37 : decode cX4_giveTo 37 = .ok (.iload_n 3, 1) := by decide +kernel
theorem dX4_giveTo_38 : decode cX4_giveTo 38 = .ok (.iload_n 3, 1) := by decide +kernel
theorem dX4_giveTo_39 : decode cX4_giveTo 39 = .ok (.ifCond .ne 7, 3) := by decide +kernel
theorem dX4_giveTo_42 : decode cX4_giveTo 42 = .ok (.iconst 1, 1) := by decide +kernel
theorem dX4_giveTo_43 : decode cX4_giveTo 43 = .ok (.goto 21, 3) := by decide +kernel
theorem dX4_giveTo_46 : decode cX4_giveTo 46 = .ok (.aload_n 0, 1) := by decide +kernel
theorem dX4_giveTo_47 : decode cX4_giveTo 47 = .ok (.aload_n 0, 1) := by decide +kernel
theorem dX4_giveTo_48 : decode cX4_giveTo 48 = .ok (.getfield 18, 3) := by decide +kernel
theorem dX4_giveTo_51 : decode cX4_giveTo 51 = .ok (.iload_n 3, 1) := by decide +kernel
theorem dX4_giveTo_52 : decode cX4_giveTo 52 = .ok (.iconst 1, 1) := by decide +kernel
theorem dX4_giveTo_53 : decode cX4_giveTo 53 = .ok (.isub, 1) := by decide +kernel
theorem dX4_giveTo_54 : decode cX4_giveTo 54 = .ok (.iaload, 1) := by decide +kernel
theorem dX4_giveTo_55 : decode cX4_giveTo 55 = .ok (.aload_n 0, 1) := by decide +kernel
theorem dX4_giveTo_56 : decode cX4_giveTo 56 = .ok (.getfield 18, 3) := by decide +kernel
theorem dX4_giveTo_59 : decode cX4_giveTo 59 = .ok (.iload_n 3, 1) := by decide +kernel
theorem dX4_giveTo_60 : decode cX4_giveTo 60 = .ok (.iaload, 1) := by decide +kernel
theorem dX4_giveTo_61 : decode cX4_giveTo 61 = .ok (.invokevirtual 54, 3) := by decide +kernel
theorem dX4_giveTo_64 : decode cX4_giveTo 64 = .ok (.iastore, 1) := by decide +kernel
theorem dX4_giveTo_65 : decode cX4_giveTo 65 = .ok (.iinc 3 1, 3) := by decide +kernel
theorem dX4_giveTo_68 : decode cX4_giveTo 68 = .ok (.goto (-66), 3) := by decide +kernel
theorem dX4_giveTo_71 : decode cX4_giveTo 71 = .ok (.return_, 1) := by decide +kernel
theorem dX5_init_0 : decode cX5_init 0 = .ok (.aload_n 0, 1) := by decide +kernel
theorem dX5_init_1 : decode cX5_init 1 = .ok (.invokespecial 3, 3) := by decide +kernel
theorem dX5_init_4 : decode cX5_init 4 = .ok (.aload_n 0, 1) := by decide +kernel
theorem dX5_init_5 : decode cX5_init 5 = .ok (.bipush 6, 2) := by decide +kernel
theorem dX5_init_7 : decode cX5_init 7 = .ok (.anewarray 9, 3) := by decide +kernel
theorem dX5_init_10 : decode cX5_init 10 = .ok (.putfield 11, 3) := by decide +kernel
theorem dX5_init_13 : decode cX5_init 13 = .ok (.aload_n 0, 1) := by decide +kernel
theorem dX5_init_14 : decode cX5_init 14 = .ok (.bipush 6, 2) := by decide +kernel
theorem dX5_init_16 : decode cX5_init 16 = .ok (.newarray .int, 2) := by decide +kernel
theorem dX5_init_18 : decode cX5_init 18 = .ok (.putfield 17, 3) := by decide +kernel
theorem dX5_init_21 : decode cX5_init 21 = .ok (.aload_n 0, 1) := by decide +kernel
theorem dX5_init_22 : decode cX5_init 22 = .ok (.new 21, 3) := by decide +kernel
theorem dX5_init_25 : decode cX5_init 25 = .ok (.dup, 1) := by decide +kernel
theorem dX5_init_26 : decode cX5_init 26 = .ok (.iconst 0, 1) := by decide +kernel
theorem dX5_init_27 : decode cX5_init 27 = .ok (.invokespecial 23, 3) := by decide +kernel
theorem dX5_init_30 : decode cX5_init 30 = .ok (.putfield 26, 3) := by decide +kernel
theorem dX5_init_33 : decode cX5_init 33 = .ok (.aload_n 0, 1) := by decide +kernel
theorem dX5_init_34 : decode cX5_init 34 = .ok (.new 30, 3) := by decide +kernel
theorem dX5_init_37 : decode cX5_init 37 = .ok (.dup, 1) := by decide +kernel
theorem dX5_init_38 : decode cX5_init 38 = .ok (.invokespecial 32, 3) := by decide +kernel
theorem dX5_init_41 : decode cX5_init 41 = .ok (.putfield 33, 3) := by decide +kernel
theorem dX5_init_44 : decode cX5_init 44 = .ok (.aload_n 0, 1) := by decide +kernel
theorem dX5_init_45 : decode cX5_init 45 = .ok (.aload_n 0, 1) := by decide +kernel
theorem dX5_init_46 : decode cX5_init 46 = .ok (.getfield 26, 3) := by decide +kernel
theorem dX5_init_49 : decode cX5_init 49 = .ok (.putfield 37, 3) := by decide +kernel
theorem dX5_init_52 : decode cX5_init 52 = .ok (.aload_n 0, 1) := by decide +kernel
theorem dX5_init_53 : decode cX5_init 53 = .ok (.aload_n 0, 1) := by decide +kernel
theorem dX5_init_54 : decode cX5_init 54 = .ok (.getfield 33, 3) := by decide +kernel
theorem dX5_init_57 : decode cX5_init 57 = .ok (.putfield 40, 3) := by decide +kernel
theorem dX5_init_60 : decode cX5_init 60 = .ok (.aload_n 0, 1) := by decide +kernel
theorem dX5_init_61 : decode cX5_init 61 = .ok (.iconst 0, 1) := by decide +kernel
theorem dX5_init_62 : decode cX5_init 62 = .ok (.putfield 43, 3) := by decide +kernel
theorem dX5_init_65 : decode cX5_init 65 = .ok (.aload_n 0, 1) := by decide +kernel
theorem dX5_init_66 : decode cX5_init 66 = .ok (.iconst 0, 1) := by decide +kernel
theorem dX5_init_67 : decode cX5_init 67 = .ok (.putfield 47, 3) := by decide +kernel
theorem dX5_init_70 : decode cX5_init 70 = .ok (.aload_n 0, 1) := by decide +kernel
theorem dX5_init_71 : decode cX5_init 71 = .ok (.iconst 0, 1) := by decide +kernel
theorem dX5_init_72 : decode cX5_init 72 = .ok (.putfield 50, 3) := by decide +kernel
theorem dX5_init_75 : decode cX5_init 75 = .ok (.return_, 1) := by decide +kernel
theorem dX5_begin_0 : decode cX5_begin 0 = .ok (.aload_n 0, 1) := by decide +kernel
theorem dX5_begin_1 : decode cX5_begin 1 = .ok (.aload_n 1, 1) := by decide +kernel
theorem dX5_begin_2 : decode cX5_begin 2 = .ok (.putfield 37, 3) := by decide +kernel
theorem dX5_begin_5 : decode cX5_begin 5 = .ok (.aload_n 0, 1) := by decide +kernel
theorem dX5_begin_6 : decode cX5_begin 6 = .ok (.aload_n 2, 1) := by decide +kernel
theorem dX5_begin_7 : decode cX5_begin 7 = .ok (.putfield 40, 3) := by decide +kernel
theorem dX5_begin_10 : decode cX5_begin 10 = .ok (.return_, 1) := by decide +kernel
theorem dX5_goUp_0 : decode cX5_goUp 0 = .ok (.aload_n 0, 1) := by decide +kernel
theorem dX5_goUp_1 : decode cX5_goUp 1 = .ok (.getfield 26, 3) := by decide +kernel
theorem dX5_goUp_4 : decode cX5_goUp 4 = .ok (.aload_n 0, 1) := by decide +kernel
theorem dX5_goUp_5 : decode cX5_goUp 5 = .ok (.getfield 37, 3) := by decide +kernel
theorem dX5_goUp_8 : decode cX5_goUp 8 = .ok (.invokevirtual 54, 3) := by decide +kernel
theorem dX5_goUp_11 : decode cX5_goUp 11 = .ok (.aload_n 0, 1) := by decide +kernel
theorem dX5_goUp_12 : decode cX5_goUp 12 = .ok (.getfield 33, 3) := by decide +kernel
theorem dX5_goUp_15 : decode cX5_goUp 15 = .ok (.aload_n 0, 1) := by decide +kernel
theorem dX5_goUp_16 : decode cX5_goUp 16 = .ok (.getfield 40, 3) := by decide +kernel
theorem dX5_goUp_19 : decode cX5_goUp 19 = .ok (.invokevirtual 58, 3) := by decide +kernel
theorem dX5_goUp_22 : decode cX5_goUp 22 = .ok (.aload_n 0, 1) := by decide +kernel
theorem dX5_goUp_23 : decode cX5_goUp 23 = .ok (.aload_n 0, 1) := by decide +kernel
theorem dX5_goUp_24 : decode cX5_goUp 24 = .ok (.getfield 26, 3) := by decide +kernel
theorem dX5_goUp_27 : decode cX5_goUp 27 = .ok (.putfield 37, 3) := by decide +kernel
theorem dX5_goUp_30 : decode cX5_goUp 30 = .ok (.aload_n 0, 1) := by decide +kernel
theorem dX5_goUp_31 : decode cX5_goUp 31 = .ok (.aload_n 0, 1) := by decide +kernel
theorem dX5_goUp_32 : decode cX5_goUp 32 = .ok (.getfield 33, 3) := by decide +kernel
theorem dX5_goUp_35 : decode cX5_goUp 35 = .ok (.putfield 40, 3) := by decide +kernel
theorem dX5_goUp_38 : decode cX5_goUp 38 = .ok (.aload_n 0, 1) := by decide +kernel
theorem dX5_goUp_39 : decode cX5_goUp 39 = .ok (.iconst 1, 1) := by decide +kernel
theorem dX5_goUp_40 : decode cX5_goUp 40 = .ok (.putfield 50, 3) := by decide +kernel
theorem dX5_goUp_43 : decode cX5_goUp 43 = .ok (.return_, 1) := by decide +kernel
theorem dX5_has_0 : decode cX5_has 0 = .ok (.iload_n 1, 1) := by decide +kernel
theorem dX5_has_1 : decode cX5_has 1 = .ok (.ifCond .lt 24, 3) := by decide +kernel
theorem dX5_has_4 : decode cX5_has 4 = .ok (.iload_n 1, 1) := by decide +kernel
theorem dX5_has_5 : decode cX5_has 5 = .ok (.aload_n 0, 1) := by decide +kernel
theorem dX5_has_6 : decode cX5_has 6 = .ok (.getfield 43, 3) := by decide +kernel
theorem dX5_has_9 : decode cX5_has 9 = .ok (.if_icmp .ge 16, 3) := by decide +kernel
theorem dX5_has_12 : decode cX5_has 12 = .ok (.iload_n 1, 1) := by decide +kernel
theorem dX5_has_13 : decode cX5_has 13 = .ok (.aload_n 0, 1) := by decide +kernel
theorem dX5_has_14 : decode cX5_has 14 = .ok (.getfield 11, 3) := by decide +kernel
theorem dX5_has_17 : decode cX5_has 17 = .ok (.arraylength, 1) := by decide +kernel
theorem dX5_has_18 : decode cX5_has 18 = .ok (.if_icmp .ge 7, 3) := by decide +kernel
theorem dX5_has_21 : decode cX5_has 21 = .ok (.iconst 1, 1) := by decide +kernel
theorem dX5_has_22 : decode cX5_has 22 = .ok (.goto 4, 3) := by decide +kernel
theorem dX5_has_25 : decode cX5_has 25 = .ok (.iconst 0, 1) := by decide +kernel
theorem dX5_has_26 : decode cX5_has 26 = .ok (.ireturn, 1) := by decide +kernel
theorem dX5_holds_0 : decode cX5_holds 0 = .ok (.iconst 0, 1) := by decide +kernel
theorem dX5_holds_1 : decode cX5_holds 1 = .ok (.istore_n 2, 1) := by decide +kernel
theorem dX5_holds_2 : decode cX5_holds 2 = .ok (.iload_n 2, 1) := by decide +kernel
theorem dX5_holds_3 : decode cX5_holds 3 = .ok (.aload_n 0, 1) := by decide +kernel
theorem dX5_holds_4 : decode cX5_holds 4 = .ok (.getfield 43, 3) := by decide +kernel
theorem dX5_holds_7 : decode cX5_holds 7 = .ok (.if_icmp .ge 21, 3) := by decide +kernel
theorem dX5_holds_10 : decode cX5_holds 10 = .ok (.aload_n 0, 1) := by decide +kernel
theorem dX5_holds_11 : decode cX5_holds 11 = .ok (.getfield 11, 3) := by decide +kernel
theorem dX5_holds_14 : decode cX5_holds 14 = .ok (.iload_n 2, 1) := by decide +kernel
theorem dX5_holds_15 : decode cX5_holds 15 = .ok (.aaload, 1) := by decide +kernel
theorem dX5_holds_16 : decode cX5_holds 16 = .ok (.aload_n 1, 1) := by decide +kernel
theorem dX5_holds_17 : decode cX5_holds 17 = .ok (.if_acmp .ne 5, 3) := by decide +kernel
theorem dX5_holds_20 : decode cX5_holds 20 = .ok (.iconst 1, 1) := by decide +kernel
theorem dX5_holds_21 : decode cX5_holds 21 = .ok (.ireturn, 1) := by decide +kernel
theorem dX5_holds_22 : decode cX5_holds 22 = .ok (.iinc 2 1, 3) := by decide +kernel
theorem dX5_holds_25 : decode cX5_holds 25 = .ok (.goto (-23), 3) := by decide +kernel
theorem dX5_holds_28 : decode cX5_holds 28 = .ok (.iconst 0, 1) := by decide +kernel
theorem dX5_holds_29 : decode cX5_holds 29 = .ok (.ireturn, 1) := by decide +kernel
theorem dX5_add_0 : decode cX5_add 0 = .ok (.aload_n 0, 1) := by decide +kernel
theorem dX5_add_1 : decode cX5_add 1 = .ok (.getfield 43, 3) := by decide +kernel
theorem dX5_add_4 : decode cX5_add 4 = .ok (.aload_n 0, 1) := by decide +kernel
theorem dX5_add_5 : decode cX5_add 5 = .ok (.getfield 11, 3) := by decide +kernel
theorem dX5_add_8 : decode cX5_add 8 = .ok (.arraylength, 1) := by decide +kernel
theorem dX5_add_9 : decode cX5_add 9 = .ok (.if_icmp .ge 33, 3) := by decide +kernel
theorem dX5_add_12 : decode cX5_add 12 = .ok (.aload_n 0, 1) := by decide +kernel
theorem dX5_add_13 : decode cX5_add 13 = .ok (.getfield 11, 3) := by decide +kernel
theorem dX5_add_16 : decode cX5_add 16 = .ok (.aload_n 0, 1) := by decide +kernel
theorem dX5_add_17 : decode cX5_add 17 = .ok (.getfield 43, 3) := by decide +kernel
theorem dX5_add_20 : decode cX5_add 20 = .ok (.aload_n 1, 1) := by decide +kernel
theorem dX5_add_21 : decode cX5_add 21 = .ok (.aastore, 1) := by decide +kernel
theorem dX5_add_22 : decode cX5_add 22 = .ok (.aload_n 0, 1) := by decide +kernel
theorem dX5_add_23 : decode cX5_add 23 = .ok (.getfield 17, 3) := by decide +kernel
theorem dX5_add_26 : decode cX5_add 26 = .ok (.aload_n 0, 1) := by decide +kernel
theorem dX5_add_27 : decode cX5_add 27 = .ok (.getfield 43, 3) := by decide +kernel
theorem dX5_add_30 : decode cX5_add 30 = .ok (.iload_n 2, 1) := by decide +kernel
theorem dX5_add_31 : decode cX5_add 31 = .ok (.iastore, 1) := by decide +kernel
theorem dX5_add_32 : decode cX5_add 32 = .ok (.aload_n 0, 1) := by decide +kernel
theorem dX5_add_33 : decode cX5_add 33 = .ok (.dup, 1) := by decide +kernel
theorem dX5_add_34 : decode cX5_add 34 = .ok (.getfield 43, 3) := by decide +kernel
theorem dX5_add_37 : decode cX5_add 37 = .ok (.iconst 1, 1) := by decide +kernel
theorem dX5_add_38 : decode cX5_add 38 = .ok (.iadd, 1) := by decide +kernel
theorem dX5_add_39 : decode cX5_add 39 = .ok (.putfield 43, 3) := by decide +kernel
theorem dX5_add_42 : decode cX5_add 42 = .ok (.return_, 1) := by decide +kernel
theorem dX5_remove_0 : decode cX5_remove 0 = .ok (.aload_n 0, 1) := by decide +kernel
theorem dX5_remove_1 : decode cX5_remove 1 = .ok (.iload_n 1, 1) := by decide +kernel
theorem dX5_remove_2 : decode cX5_remove 2 = .ok (.invokevirtual 62, 3) := by decide +kernel
theorem dX5_remove_5 : decode cX5_remove 5 = .ok (.ifCond .ne 4, 3) := by decide +kernel
theorem dX5_remove_8 : decode cX5_remove 8 = .ok (.return_, 1) := by decide +kernel
theorem dX5_remove_9 : decode cX5_remove 9 = .ok (.iload_n 1, 1) := by decide +kernel
theorem dX5_remove_10 : decode cX5_remove 10 = .ok (.iconst 1, 1) := by decide +kernel
theorem dX5_remove_11 : decode cX5_remove 11 = .ok (.iadd, 1) := by decide +kernel
theorem dX5_remove_12 : decode cX5_remove 12 = .ok (.istore_n 2, 1) := by decide +kernel
theorem dX5_remove_13 : decode cX5_remove 13 = .ok (.iload_n 2, 1) := by decide +kernel
theorem dX5_remove_14 : decode cX5_remove 14 = .ok (.aload_n 0, 1) := by decide +kernel
theorem dX5_remove_15 : decode cX5_remove 15 = .ok (.getfield 43, 3) := by decide +kernel
theorem dX5_remove_18 : decode cX5_remove 18 = .ok (.if_icmp .ge 37, 3) := by decide +kernel
theorem dX5_remove_21 : decode cX5_remove 21 = .ok (.aload_n 0, 1) := by decide +kernel
theorem dX5_remove_22 : decode cX5_remove 22 = .ok (.getfield 11, 3) := by decide +kernel
theorem dX5_remove_25 : decode cX5_remove 25 = .ok (.iload_n 2, 1) := by decide +kernel
theorem dX5_remove_26 : decode cX5_remove 26 = .ok (.iconst 1, 1) := by decide +kernel
theorem dX5_remove_27 : decode cX5_remove 27 = .ok (.isub, 1) := by decide +kernel
theorem dX5_remove_28 : decode cX5_remove 28 = .ok (.aload_n 0, 1) := by decide +kernel
theorem dX5_remove_29 : decode cX5_remove 29 = .ok (.getfield 11, 3) := by decide +kernel
theorem dX5_remove_32 : decode cX5_remove 32 = .ok (.iload_n 2, 1) := by decide +kernel
theorem dX5_remove_33 : decode cX5_remove 33 = .ok (.aaload, 1) := by decide +kernel
theorem dX5_remove_34 : decode cX5_remove 34 = .ok (.aastore, 1) := by decide +kernel
theorem dX5_remove_35 : decode cX5_remove 35 = .ok (.aload_n 0, 1) := by decide +kernel
theorem dX5_remove_36 : decode cX5_remove 36 = .ok (.getfield 17, 3) := by decide +kernel
theorem dX5_remove_39 : decode cX5_remove 39 = .ok (.iload_n 2, 1) := by decide +kernel
theorem dX5_remove_40 : decode cX5_remove 40 = .ok (.iconst 1, 1) := by decide +kernel
theorem dX5_remove_41 : decode cX5_remove 41 = .ok (.isub, 1) := by decide +kernel
theorem dX5_remove_42 : decode cX5_remove 42 = .ok (.aload_n 0, 1) := by decide +kernel
theorem dX5_remove_43 : decode cX5_remove 43 = .ok (.getfield 17, 3) := by decide +kernel
theorem dX5_remove_46 : decode cX5_remove 46 = .ok (.iload_n 2, 1) := by decide +kernel
theorem dX5_remove_47 : decode cX5_remove 47 = .ok (.iaload, 1) := by decide +kernel
theorem dX5_remove_48 : decode cX5_remove 48 = .ok (.iastore, 1) := by decide +kernel
theorem dX5_remove_49 : decode cX5_remove 49 = .ok (.iinc 2 1, 3) := by decide +kernel
theorem dX5_remove_52 : decode cX5_remove 52 = .ok (.goto (-39), 3) := by decide +kernel
theorem dX5_remove_55 : decode cX5_remove 55 = .ok (.aload_n 0, 1) := by decide +kernel
theorem dX5_remove_56 : decode cX5_remove 56 = .ok (.dup, 1) := by decide +kernel
theorem dX5_remove_57 : decode cX5_remove 57 = .ok (.getfield 43, 3) := by decide +kernel
theorem dX5_remove_60 : decode cX5_remove 60 = .ok (.iconst 1, 1) := by decide +kernel
theorem dX5_remove_61 : decode cX5_remove 61 = .ok (.isub, 1) := by decide +kernel
theorem dX5_remove_62 : decode cX5_remove 62 = .ok (.putfield 43, 3) := by decide +kernel
theorem dX5_remove_65 : decode cX5_remove 65 = .ok (.return_, 1) := by decide +kernel
theorem dX5_tell_0 : decode cX5_tell 0 = .ok (.iload_n 1, 1) := by decide +kernel
theorem dX5_tell_1 : decode cX5_tell 1 = .ok (.tableswitch 62 0 3 #[31, 39, 44, 49], 31) := by decide +kernel
theorem dX5_tell_32 : decode cX5_tell 32 = .ok (.aload_n 0, 1) := by decide +kernel
theorem dX5_tell_33 : decode cX5_tell 33 = .ok (.getfield 37, 3) := by decide +kernel
theorem dX5_tell_36 : decode cX5_tell 36 = .ok (.getfield 66, 3) := by decide +kernel
theorem dX5_tell_39 : decode cX5_tell 39 = .ok (.ireturn, 1) := by decide +kernel
theorem dX5_tell_40 : decode cX5_tell 40 = .ok (.aload_n 0, 1) := by decide +kernel
theorem dX5_tell_41 : decode cX5_tell 41 = .ok (.getfield 43, 3) := by decide +kernel
theorem dX5_tell_44 : decode cX5_tell 44 = .ok (.ireturn, 1) := by decide +kernel
theorem dX5_tell_45 : decode cX5_tell 45 = .ok (.aload_n 0, 1) := by decide +kernel
theorem dX5_tell_46 : decode cX5_tell 46 = .ok (.getfield 47, 3) := by decide +kernel
theorem dX5_tell_49 : decode cX5_tell 49 = .ok (.ireturn, 1) := by decide +kernel
theorem dX5_tell_50 : decode cX5_tell 50 = .ok (.aload_n 0, 1) := by decide +kernel
theorem dX5_tell_51 : decode cX5_tell 51 = .ok (.getfield 50, 3) := by decide +kernel
theorem dX5_tell_54 : decode cX5_tell 54 = .ok (.ifCond .eq 7, 3) := by decide +kernel
theorem dX5_tell_57 : decode cX5_tell 57 = .ok (.iconst 1, 1) := by decide +kernel
theorem dX5_tell_58 : decode cX5_tell 58 = .ok (.goto 4, 3) := by decide +kernel
theorem dX5_tell_61 : decode cX5_tell 61 = .ok (.iconst 0, 1) := by decide +kernel
theorem dX5_tell_62 : decode cX5_tell 62 = .ok (.ireturn, 1) := by decide +kernel
theorem dX5_tell_63 : decode cX5_tell 63 = .ok (.aload_n 0, 1) := by decide +kernel
theorem dX5_tell_64 : decode cX5_tell 64 = .ok (.iload_n 1, 1) := by decide +kernel
theorem dX5_tell_65 : decode cX5_tell 65 = .ok (.invokevirtual 69, 3) := by decide +kernel
theorem dX5_tell_68 : decode cX5_tell 68 = .ok (.ireturn, 1) := by decide +kernel
theorem dX5_tellOfPlace_0 : decode cX5_tellOfPlace 0 = .ok (.iload_n 1, 1) := by decide +kernel
theorem dX5_tellOfPlace_1 : decode cX5_tellOfPlace 1 = .ok (.bipush 10, 2) := by decide +kernel
theorem dX5_tellOfPlace_3 : decode cX5_tellOfPlace 3 = .ok (.if_icmp .lt 20, 3) := by decide +kernel
theorem dX5_tellOfPlace_6 : decode cX5_tellOfPlace 6 = .ok (.iload_n 1, 1) := by decide +kernel
theorem dX5_tellOfPlace_7 : decode cX5_tellOfPlace 7 = .ok (.bipush 40, 2) := by decide +kernel
theorem dX5_tellOfPlace_9 : decode cX5_tellOfPlace 9 = .ok (.if_icmp .ge 14, 3) := by decide +kernel
theorem dX5_tellOfPlace_12 : decode cX5_tellOfPlace 12 = .ok (.aload_n 0, 1) := by decide +kernel
theorem dX5_tellOfPlace_13 : decode cX5_tellOfPlace 13 = .ok (.iload_n 1, 1) := by decide +kernel
theorem dX5_tellOfPlace_14 : decode cX5_tellOfPlace 14 = .ok (.bipush 10, 2) := by decide +kernel
theorem dX5_tellOfPlace_16 : decode cX5_tellOfPlace 16 = .ok (.irem, 1) := by decide +kernel
theorem dX5_tellOfPlace_17 : decode cX5_tellOfPlace 17 = .ok (.invokevirtual 62, 3) := by decide +kernel
theorem dX5_tellOfPlace_20 : decode cX5_tellOfPlace 20 = .ok (.ifCond .ne 5, 3) := by decide +kernel
theorem dX5_tellOfPlace_23 : decode cX5_tellOfPlace 23 = .ok (.iconst (-1), 1) := by decide +kernel
theorem dX5_tellOfPlace_24 : decode cX5_tellOfPlace 24 = .ok (.ireturn, 1) := by decide +kernel
theorem dX5_tellOfPlace_25 : decode cX5_tellOfPlace 25 = .ok (.iload_n 1, 1) := by decide +kernel
theorem dX5_tellOfPlace_26 : decode cX5_tellOfPlace 26 = .ok (.bipush 10, 2) := by decide +kernel
theorem dX5_tellOfPlace_28 : decode cX5_tellOfPlace 28 = .ok (.irem, 1) := by decide +kernel
theorem dX5_tellOfPlace_29 : decode cX5_tellOfPlace 29 = .ok (.istore_n 2, 1) := by decide +kernel
theorem dX5_tellOfPlace_30 : decode cX5_tellOfPlace 30 = .ok (.iload_n 1, 1) := by decide +kernel
theorem dX5_tellOfPlace_31 : decode cX5_tellOfPlace 31 = .ok (.bipush 20, 2) := by decide +kernel
theorem dX5_tellOfPlace_33 : decode cX5_tellOfPlace 33 = .ok (.if_icmp .ge 13, 3) := by decide +kernel
theorem dX5_tellOfPlace_36 : decode cX5_tellOfPlace 36 = .ok (.aload_n 0, 1) := by decide +kernel
theorem dX5_tellOfPlace_37 : decode cX5_tellOfPlace 37 = .ok (.getfield 11, 3) := by decide +kernel
theorem dX5_tellOfPlace_40 : decode cX5_tellOfPlace 40 = .ok (.iload_n 2, 1) := by decide +kernel
theorem dX5_tellOfPlace_41 : decode cX5_tellOfPlace 41 = .ok (.aaload, 1) := by decide +kernel
theorem dX5_tellOfPlace_42 : decode cX5_tellOfPlace 42 = .ok (.getfield 73, 3) := by decide +kernel
theorem dX5_tellOfPlace_45 : decode cX5_tellOfPlace 45 = .ok (.ireturn, 1) := by decide +kernel
theorem dX5_tellOfPlace_46 : decode cX5_tellOfPlace 46 = .ok (.iload_n 1, 1) := by decide +kernel
theorem dX5_tellOfPlace_47 : decode cX5_tellOfPlace 47 = .ok (.bipush 30, 2) := by decide +kernel
theorem dX5_tellOfPlace_49 : decode cX5_tellOfPlace 49 = .ok (.if_icmp .ge 12, 3) := by decide +kernel
theorem dX5_tellOfPlace_52 : decode cX5_tellOfPlace 52 = .ok (.aload_n 0, 1) := by decide +kernel
theorem dX5_tellOfPlace_53 : decode cX5_tellOfPlace 53 = .ok (.getfield 17, 3) := by decide +kernel
theorem dX5_tellOfPlace_56 : decode cX5_tellOfPlace 56 = .ok (.iload_n 2, 1) := by decide +kernel
theorem dX5_tellOfPlace_57 : decode cX5_tellOfPlace 57 = .ok (.iaload, 1) := by decide +kernel
theorem dX5_tellOfPlace_58 : decode cX5_tellOfPlace 58 = .ok (.goto 8, 3) := by decide +kernel
theorem dX5_tellOfPlace_61 : decode cX5_tellOfPlace 61 = .ok (.aload_n 0, 1) := by decide +kernel
theorem dX5_tellOfPlace_62 : decode cX5_tellOfPlace 62 = .ok (.iload_n 2, 1) := by decide +kernel
theorem dX5_tellOfPlace_63 : decode cX5_tellOfPlace 63 = .ok (.invokevirtual 74, 3) := by decide +kernel
theorem dX5_tellOfPlace_66 : decode cX5_tellOfPlace 66 = .ok (.ireturn, 1) := by decide +kernel
theorem dX5_secondOf_0 : decode cX5_secondOf 0 = .ok (.iconst 0, 1) := by decide +kernel
theorem dX5_secondOf_1 : decode cX5_secondOf 1 = .ok (.istore_n 2, 1) := by decide +kernel
theorem dX5_secondOf_2 : decode cX5_secondOf 2 = .ok (.iconst 1, 1) := by decide +kernel
theorem dX5_secondOf_3 : decode cX5_secondOf 3 = .ok (.istore_n 3, 1) := by decide +kernel
theorem dX5_secondOf_4 : decode cX5_secondOf 4 = .ok (.iload_n 3, 1) := by decide +kernel
theorem dX5_secondOf_5 : decode cX5_secondOf 5 = .ok (.iload_n 1, 1) := by decide +kernel
theorem dX5_secondOf_6 : decode cX5_secondOf 6 = .ok (.if_icmp .gt 26, 3) := by decide +kernel
theorem dX5_secondOf_9 : decode cX5_secondOf 9 = .ok (.iload_n 3, 1) := by decide +kernel
theorem dX5_secondOf_10 : decode cX5_secondOf 10 = .ok (.aload_n 0, 1) := by decide +kernel
theorem dX5_secondOf_11 : decode cX5_secondOf 11 = .ok (.getfield 43, 3) := by decide +kernel
theorem dX5_secondOf_14 : decode cX5_secondOf 14 = .ok (.if_icmp .ge 18, 3) := by decide +kernel
theorem dX5_secondOf_17 : decode cX5_secondOf 17 = .ok (.iload_n 2, 1) := by decide +kernel
theorem dX5_secondOf_18 : decode cX5_secondOf 18 = .ok (.aload_n 0, 1) := by decide +kernel
theorem dX5_secondOf_19 : decode cX5_secondOf 19 = .ok (.getfield 17, 3) := by decide +kernel
theorem dX5_secondOf_22 : decode cX5_secondOf 22 = .ok (.iload_n 3, 1) := by decide +kernel
theorem dX5_secondOf_23 : decode cX5_secondOf 23 = .ok (.iaload, 1) := by decide +kernel
theorem dX5_secondOf_24 : decode cX5_secondOf 24 = .ok (.iadd, 1) := by decide +kernel
theorem dX5_secondOf_25 : decode cX5_secondOf 25 = .ok (.istore_n 2, 1) := by decide +kernel
theorem dX5_secondOf_26 : decode cX5_secondOf 26 = .ok (.iinc 3 1, 3) := by decide +kernel
theorem dX5_secondOf_29 : decode cX5_secondOf 29 = .ok (.goto (-25), 3) := by decide +kernel
theorem dX5_secondOf_32 : decode cX5_secondOf 32 = .ok (.iload_n 2, 1) := by decide +kernel
theorem dX5_secondOf_33 : decode cX5_secondOf 33 = .ok (.ireturn, 1) := by decide +kernel
theorem dX5_leavesAtX_0 : decode cX5_leavesAtX 0 = .ok (.aload_n 0, 1) := by decide +kernel
theorem dX5_leavesAtX_1 : decode cX5_leavesAtX 1 = .ok (.getfield 47, 3) := by decide +kernel
theorem dX5_leavesAtX_4 : decode cX5_leavesAtX 4 = .ok (.aload_n 0, 1) := by decide +kernel
theorem dX5_leavesAtX_5 : decode cX5_leavesAtX 5 = .ok (.getfield 37, 3) := by decide +kernel
theorem dX5_leavesAtX_8 : decode cX5_leavesAtX 8 = .ok (.getfield 77, 3) := by decide +kernel
theorem dX5_leavesAtX_11 : decode cX5_leavesAtX 11 = .ok (.aload_n 0, 1) := by decide +kernel
theorem dX5_leavesAtX_12 : decode cX5_leavesAtX 12 = .ok (.iload_n 1, 1) := by decide +kernel
theorem dX5_leavesAtX_13 : decode cX5_leavesAtX 13 = .ok (.invokevirtual 74, 3) := by decide +kernel
theorem dX5_leavesAtX_16 : decode cX5_leavesAtX 16 = .ok (.imul, 1) := by decide +kernel
theorem dX5_leavesAtX_17 : decode cX5_leavesAtX 17 = .ok (.iadd, 1) := by decide +kernel
theorem dX5_leavesAtX_18 : decode cX5_leavesAtX 18 = .ok (.ireturn, 1) := by decide +kernel
theorem dX5_lacksJumpers_0 : decode cX5_lacksJumpers 0 = .ok (.iconst 0, 1) := by decide +kernel
theorem dX5_lacksJumpers_1 : decode cX5_lacksJumpers 1 = .ok (.istore_n 1, 1) := by decide +kernel
theorem dX5_lacksJumpers_2 : decode cX5_lacksJumpers 2 = .ok (.iload_n 1, 1) := by decide +kernel
theorem dX5_lacksJumpers_3 : decode cX5_lacksJumpers 3 = .ok (.aload_n 0, 1) := by decide +kernel
theorem dX5_lacksJumpers_4 : decode cX5_lacksJumpers 4 = .ok (.getfield 43, 3) := by decide +kernel
theorem dX5_lacksJumpers_7 : decode cX5_lacksJumpers 7 = .ok (.if_icmp .ge 23, 3) := by decide +kernel
theorem dX5_lacksJumpers_10 : decode cX5_lacksJumpers 10 = .ok (.aload_n 0, 1) := by decide +kernel
theorem dX5_lacksJumpers_11 : decode cX5_lacksJumpers 11 = .ok (.getfield 11, 3) := by decide +kernel
theorem dX5_lacksJumpers_14 : decode cX5_lacksJumpers 14 = .ok (.iload_n 1, 1) := by decide +kernel
theorem dX5_lacksJumpers_15 : decode cX5_lacksJumpers 15 = .ok (.aaload, 1) := by decide +kernel
theorem dX5_lacksJumpers_16 : decode cX5_lacksJumpers 16 = .ok (.getfield 80, 3) := by decide +kernel
theorem dX5_lacksJumpers_19 : decode cX5_lacksJumpers 19 = .ok (.ifCond .ne 5, 3) := by decide +kernel
theorem dX5_lacksJumpers_22 : decode cX5_lacksJumpers 22 = .ok (.iconst 1, 1) := by decide +kernel
theorem dX5_lacksJumpers_23 : decode cX5_lacksJumpers 23 = .ok (.ireturn, 1) := by decide +kernel
theorem dX5_lacksJumpers_24 : decode cX5_lacksJumpers 24 = .ok (.iinc 1 1, 3) := by decide +kernel
theorem dX5_lacksJumpers_27 : decode cX5_lacksJumpers 27 = .ok (.goto (-25), 3) := by decide +kernel
theorem dX5_lacksJumpers_30 : decode cX5_lacksJumpers 30 = .ok (.aload_n 0, 1) := by decide +kernel
theorem dX5_lacksJumpers_31 : decode cX5_lacksJumpers 31 = .ok (.getfield 43, 3) := by decide +kernel
theorem dX5_lacksJumpers_34 : decode cX5_lacksJumpers 34 = .ok (.ifCond .ne 7, 3) := by decide +kernel
theorem dX5_lacksJumpers_37 : decode cX5_lacksJumpers 37 = .ok (.iconst 1, 1) := by decide +kernel
theorem dX5_lacksJumpers_38 : decode cX5_lacksJumpers 38 = .ok (.goto 4, 3) := by decide +kernel
theorem dX5_lacksJumpers_41 : decode cX5_lacksJumpers 41 = .ok (.iconst 0, 1) := by decide +kernel
theorem dX5_lacksJumpers_42 : decode cX5_lacksJumpers 42 = .ok (.ireturn, 1) := by decide +kernel
theorem dX5_jumperCount_0 : decode cX5_jumperCount 0 = .ok (.iconst 0, 1) := by decide +kernel
theorem dX5_jumperCount_1 : decode cX5_jumperCount 1 = .ok (.istore_n 1, 1) := by decide +kernel
theorem dX5_jumperCount_2 : decode cX5_jumperCount 2 = .ok (.iconst 0, 1) := by decide +kernel
theorem dX5_jumperCount_3 : decode cX5_jumperCount 3 = .ok (.istore_n 2, 1) := by decide +kernel
theorem dX5_jumperCount_4 : decode cX5_jumperCount 4 = .ok (.iload_n 2, 1) := by decide +kernel
theorem dX5_jumperCount_5 : decode cX5_jumperCount 5 = .ok (.aload_n 0, 1) := by decide +kernel
theorem dX5_jumperCount_6 : decode cX5_jumperCount 6 = .ok (.getfield 43, 3) := by decide +kernel
theorem dX5_jumperCount_9 : decode cX5_jumperCount 9 = .ok (.if_icmp .ge 21, 3) := by decide +kernel
theorem dX5_jumperCount_12 : decode cX5_jumperCount 12 = .ok (.iload_n 1, 1) := by decide +kernel
theorem dX5_jumperCount_13 : decode cX5_jumperCount 13 = .ok (.aload_n 0, 1) := by decide +kernel
theorem dX5_jumperCount_14 : decode cX5_jumperCount 14 = .ok (.getfield 11, 3) := by decide +kernel
theorem dX5_jumperCount_17 : decode cX5_jumperCount 17 = .ok (.iload_n 2, 1) := by decide +kernel
theorem dX5_jumperCount_18 : decode cX5_jumperCount 18 = .ok (.aaload, 1) := by decide +kernel
theorem dX5_jumperCount_19 : decode cX5_jumperCount 19 = .ok (.getfield 80, 3) := by decide +kernel
theorem dX5_jumperCount_22 : decode cX5_jumperCount 22 = .ok (.iadd, 1) := by decide +kernel
theorem dX5_jumperCount_23 : decode cX5_jumperCount 23 = .ok (.istore_n 1, 1) := by decide +kernel
theorem dX5_jumperCount_24 : decode cX5_jumperCount 24 = .ok (.iinc 2 1, 3) := by decide +kernel
theorem dX5_jumperCount_27 : decode cX5_jumperCount 27 = .ok (.goto (-23), 3) := by decide +kernel
theorem dX5_jumperCount_30 : decode cX5_jumperCount 30 = .ok (.iload_n 1, 1) := by decide +kernel
theorem dX5_jumperCount_31 : decode cX5_jumperCount 31 = .ok (.ireturn, 1) := by decide +kernel
theorem dX5_weight_0 : decode cX5_weight 0 = .ok (.iconst 0, 1) := by decide +kernel
theorem dX5_weight_1 : decode cX5_weight 1 = .ok (.istore_n 1, 1) := by decide +kernel
theorem dX5_weight_2 : decode cX5_weight 2 = .ok (.iconst 0, 1) := by decide +kernel
theorem dX5_weight_3 : decode cX5_weight 3 = .ok (.istore_n 2, 1) := by decide +kernel
theorem dX5_weight_4 : decode cX5_weight 4 = .ok (.iload_n 2, 1) := by decide +kernel
theorem dX5_weight_5 : decode cX5_weight 5 = .ok (.aload_n 0, 1) := by decide +kernel
theorem dX5_weight_6 : decode cX5_weight 6 = .ok (.getfield 43, 3) := by decide +kernel
theorem dX5_weight_9 : decode cX5_weight 9 = .ok (.if_icmp .ge 21, 3) := by decide +kernel
theorem dX5_weight_12 : decode cX5_weight 12 = .ok (.iload_n 1, 1) := by decide +kernel
theorem dX5_weight_13 : decode cX5_weight 13 = .ok (.aload_n 0, 1) := by decide +kernel
theorem dX5_weight_14 : decode cX5_weight 14 = .ok (.getfield 11, 3) := by decide +kernel
theorem dX5_weight_17 : decode cX5_weight 17 = .ok (.iload_n 2, 1) := by decide +kernel
theorem dX5_weight_18 : decode cX5_weight 18 = .ok (.aaload, 1) := by decide +kernel
theorem dX5_weight_19 : decode cX5_weight 19 = .ok (.invokevirtual 81, 3) := by decide +kernel
theorem dX5_weight_22 : decode cX5_weight 22 = .ok (.iadd, 1) := by decide +kernel
theorem dX5_weight_23 : decode cX5_weight 23 = .ok (.istore_n 1, 1) := by decide +kernel
theorem dX5_weight_24 : decode cX5_weight 24 = .ok (.iinc 2 1, 3) := by decide +kernel
theorem dX5_weight_27 : decode cX5_weight 27 = .ok (.goto (-23), 3) := by decide +kernel
theorem dX5_weight_30 : decode cX5_weight 30 = .ok (.iload_n 1, 1) := by decide +kernel
theorem dX5_weight_31 : decode cX5_weight 31 = .ok (.ireturn, 1) := by decide +kernel
theorem dX5_isWornOn_0 : decode cX5_isWornOn 0 = .ok (.iconst 0, 1) := by decide +kernel
theorem dX5_isWornOn_1 : decode cX5_isWornOn 1 = .ok (.istore_n 2, 1) := by decide +kernel
theorem dX5_isWornOn_2 : decode cX5_isWornOn 2 = .ok (.iload_n 2, 1) := by decide +kernel
theorem dX5_isWornOn_3 : decode cX5_isWornOn 3 = .ok (.aload_n 0, 1) := by decide +kernel
theorem dX5_isWornOn_4 : decode cX5_isWornOn 4 = .ok (.getfield 43, 3) := by decide +kernel
theorem dX5_isWornOn_7 : decode cX5_isWornOn 7 = .ok (.if_icmp .ge 24, 3) := by decide +kernel
theorem dX5_isWornOn_10 : decode cX5_isWornOn 10 = .ok (.aload_n 0, 1) := by decide +kernel
theorem dX5_isWornOn_11 : decode cX5_isWornOn 11 = .ok (.getfield 11, 3) := by decide +kernel
theorem dX5_isWornOn_14 : decode cX5_isWornOn 14 = .ok (.iload_n 2, 1) := by decide +kernel
theorem dX5_isWornOn_15 : decode cX5_isWornOn 15 = .ok (.aaload, 1) := by decide +kernel
theorem dX5_isWornOn_16 : decode cX5_isWornOn 16 = .ok (.iload_n 1, 1) := by decide +kernel
theorem dX5_isWornOn_17 : decode cX5_isWornOn 17 = .ok (.invokevirtual 85, 3) := by decide +kernel
theorem dX5_isWornOn_20 : decode cX5_isWornOn 20 = .ok (.ifCond .eq 5, 3) := by decide +kernel
theorem dX5_isWornOn_23 : decode cX5_isWornOn 23 = .ok (.iconst 1, 1) := by decide +kernel
theorem dX5_isWornOn_24 : decode cX5_isWornOn 24 = .ok (.ireturn, 1) := by decide +kernel
theorem dX5_isWornOn_25 : decode cX5_isWornOn 25 = .ok (.iinc 2 1, 3) := by decide +kernel
theorem dX5_isWornOn_28 : decode cX5_isWornOn 28 = .ok (.goto (-26), 3) := by decide +kernel
theorem dX5_isWornOn_31 : decode cX5_isWornOn 31 = .ok (.iconst 0, 1) := by decide +kernel
theorem dX5_isWornOn_32 : decode cX5_isWornOn 32 = .ok (.ireturn, 1) := by decide +kernel
theorem dX5_holdsOneTwice_0 : decode cX5_holdsOneTwice 0 = .ok (.iconst 0, 1) := by decide +kernel
theorem dX5_holdsOneTwice_1 : decode cX5_holdsOneTwice 1 = .ok (.istore_n 1, 1) := by decide +kernel
theorem dX5_holdsOneTwice_2 : decode cX5_holdsOneTwice 2 = .ok (.iload_n 1, 1) := by decide +kernel
theorem dX5_holdsOneTwice_3 : decode cX5_holdsOneTwice 3 = .ok (.aload_n 0, 1) := by decide +kernel
theorem dX5_holdsOneTwice_4 : decode cX5_holdsOneTwice 4 = .ok (.getfield 43, 3) := by decide +kernel
theorem dX5_holdsOneTwice_7 : decode cX5_holdsOneTwice 7 = .ok (.if_icmp .ge 47, 3) := by decide +kernel
theorem dX5_holdsOneTwice_10 : decode cX5_holdsOneTwice 10 = .ok (.iload_n 1, 1) := by decide +kernel
theorem dX5_holdsOneTwice_11 : decode cX5_holdsOneTwice 11 = .ok (.iconst 1, 1) := by decide +kernel
theorem dX5_holdsOneTwice_12 : decode cX5_holdsOneTwice 12 = .ok (.iadd, 1) := by decide +kernel
theorem dX5_holdsOneTwice_13 : decode cX5_holdsOneTwice 13 = .ok (.istore_n 2, 1) := by decide +kernel
theorem dX5_holdsOneTwice_14 : decode cX5_holdsOneTwice 14 = .ok (.iload_n 2, 1) := by decide +kernel
theorem dX5_holdsOneTwice_15 : decode cX5_holdsOneTwice 15 = .ok (.aload_n 0, 1) := by decide +kernel
theorem dX5_holdsOneTwice_16 : decode cX5_holdsOneTwice 16 = .ok (.getfield 43, 3) := by decide +kernel
theorem dX5_holdsOneTwice_19 : decode cX5_holdsOneTwice 19 = .ok (.if_icmp .ge 29, 3) := by decide +kernel
theorem dX5_holdsOneTwice_22 : decode cX5_holdsOneTwice 22 = .ok (.aload_n 0, 1) := by decide +kernel
theorem dX5_holdsOneTwice_23 : decode cX5_holdsOneTwice 23 = .ok (.getfield 11, 3) := by decide +kernel
theorem dX5_holdsOneTwice_26 : decode cX5_holdsOneTwice 26 = .ok (.iload_n 1, 1) := by decide +kernel
theorem dX5_holdsOneTwice_27 : decode cX5_holdsOneTwice 27 = .ok (.aaload, 1) := by decide +kernel
theorem dX5_holdsOneTwice_28 : decode cX5_holdsOneTwice 28 = .ok (.aload_n 0, 1) := by decide +kernel
theorem dX5_holdsOneTwice_29 : decode cX5_holdsOneTwice 29 = .ok (.getfield 11, 3) := by decide +kernel
theorem dX5_holdsOneTwice_32 : decode cX5_holdsOneTwice 32 = .ok (.iload_n 2, 1) := by decide +kernel
theorem dX5_holdsOneTwice_33 : decode cX5_holdsOneTwice 33 = .ok (.aaload, 1) := by decide +kernel
theorem dX5_holdsOneTwice_34 : decode cX5_holdsOneTwice 34 = .ok (.invokevirtual 88, 3) := by decide +kernel
theorem dX5_holdsOneTwice_37 : decode cX5_holdsOneTwice 37 = .ok (.ifCond .eq 5, 3) := by decide +kernel
theorem dX5_holdsOneTwice_40 : decode cX5_holdsOneTwice 40 = .ok (.iconst 1, 1) := by decide +kernel
theorem dX5_holdsOneTwice_41 : decode cX5_holdsOneTwice 41 = .ok (.ireturn, 1) := by decide +kernel
theorem dX5_holdsOneTwice_42 : decode cX5_holdsOneTwice 42 = .ok (.iinc 2 1, 3) := by decide +kernel
theorem dX5_holdsOneTwice_45 : decode cX5_holdsOneTwice 45 = .ok (.goto (-31), 3) := by decide +kernel
theorem dX5_holdsOneTwice_48 : decode cX5_holdsOneTwice 48 = .ok (.iinc 1 1, 3) := by decide +kernel
theorem dX5_holdsOneTwice_51 : decode cX5_holdsOneTwice 51 = .ok (.goto (-49), 3) := by decide +kernel
theorem dX5_holdsOneTwice_54 : decode cX5_holdsOneTwice 54 = .ok (.iconst 0, 1) := by decide +kernel
theorem dX5_holdsOneTwice_55 : decode cX5_holdsOneTwice 55 = .ok (.ireturn, 1) := by decide +kernel
theorem dX5_lacksHelp_0 : decode cX5_lacksHelp 0 = .ok (.iconst 0, 1) := by decide +kernel
theorem dX5_lacksHelp_1 : decode cX5_lacksHelp 1 = .ok (.istore_n 1, 1) := by decide +kernel
theorem dX5_lacksHelp_2 : decode cX5_lacksHelp 2 = .ok (.iload_n 1, 1) := by decide +kernel
theorem dX5_lacksHelp_3 : decode cX5_lacksHelp 3 = .ok (.aload_n 0, 1) := by decide +kernel
theorem dX5_lacksHelp_4 : decode cX5_lacksHelp 4 = .ok (.getfield 43, 3) := by decide +kernel
theorem dX5_lacksHelp_7 : decode cX5_lacksHelp 7 = .ok (.if_icmp .ge 23, 3) := by decide +kernel
theorem dX5_lacksHelp_10 : decode cX5_lacksHelp 10 = .ok (.aload_n 0, 1) := by decide +kernel
theorem dX5_lacksHelp_11 : decode cX5_lacksHelp 11 = .ok (.getfield 11, 3) := by decide +kernel
theorem dX5_lacksHelp_14 : decode cX5_lacksHelp 14 = .ok (.iload_n 1, 1) := by decide +kernel
theorem dX5_lacksHelp_15 : decode cX5_lacksHelp 15 = .ok (.aaload, 1) := by decide +kernel
theorem dX5_lacksHelp_16 : decode cX5_lacksHelp 16 = .ok (.invokevirtual 92, 3) := by decide +kernel
theorem dX5_lacksHelp_19 : decode cX5_lacksHelp 19 = .ok (.ifCond .eq 5, 3) := by decide +kernel
theorem dX5_lacksHelp_22 : decode cX5_lacksHelp 22 = .ok (.iconst 1, 1) := by decide +kernel
theorem dX5_lacksHelp_23 : decode cX5_lacksHelp 23 = .ok (.ireturn, 1) := by decide +kernel
theorem dX5_lacksHelp_24 : decode cX5_lacksHelp 24 = .ok (.iinc 1 1, 3) := by decide +kernel
theorem dX5_lacksHelp_27 : decode cX5_lacksHelp 27 = .ok (.goto (-25), 3) := by decide +kernel
theorem dX5_lacksHelp_30 : decode cX5_lacksHelp 30 = .ok (.iconst 0, 1) := by decide +kernel
theorem dX5_lacksHelp_31 : decode cX5_lacksHelp 31 = .ok (.ireturn, 1) := by decide +kernel
theorem dX6_init_0 : decode cX6_init 0 = .ok (.aload_n 0, 1) := by decide +kernel
theorem dX6_init_1 : decode cX6_init 1 = .ok (.invokespecial 1, 3) := by decide +kernel
theorem dX6_init_4 : decode cX6_init 4 = .ok (.aload_n 0, 1) := by decide +kernel
theorem dX6_init_5 : decode cX6_init 5 = .ok (.bipush 10, 2) := by decide +kernel
theorem dX6_init_7 : decode cX6_init 7 = .ok (.putfield 7, 3) := by decide +kernel
theorem dX6_init_10 : decode cX6_init 10 = .ok (.aload_n 0, 1) := by decide +kernel
theorem dX6_init_11 : decode cX6_init 11 = .ok (.sipush 1000, 3) := by decide +kernel
theorem dX6_init_14 : decode cX6_init 14 = .ok (.putfield 13, 3) := by decide +kernel
theorem dX6_init_17 : decode cX6_init 17 = .ok (.aload_n 0, 1) := by decide +kernel
theorem dX6_init_18 : decode cX6_init 18 = .ok (.sipush 400, 3) := by decide +kernel
theorem dX6_init_21 : decode cX6_init 21 = .ok (.putfield 16, 3) := by decide +kernel
theorem dX6_init_24 : decode cX6_init 24 = .ok (.aload_n 0, 1) := by decide +kernel
theorem dX6_init_25 : decode cX6_init 25 = .ok (.ldc 19, 2) := by decide +kernel
theorem dX6_init_27 : decode cX6_init 27 = .ok (.putfield 20, 3) := by decide +kernel
theorem dX6_init_30 : decode cX6_init 30 = .ok (.aload_n 0, 1) := by decide +kernel
theorem dX6_init_31 : decode cX6_init 31 = .ok (.iload_n 1, 1) := by decide +kernel
theorem dX6_init_32 : decode cX6_init 32 = .ok (.putfield 23, 3) := by decide +kernel
theorem dX6_init_35 : decode cX6_init 35 = .ok (.return_, 1) := by decide +kernel
theorem dX6_become_0 : decode cX6_become 0 = .ok (.aload_n 0, 1) := by decide +kernel
theorem dX6_become_1 : decode cX6_become 1 = .ok (.iload_n 1, 1) := by decide +kernel
theorem dX6_become_2 : decode cX6_become 2 = .ok (.putfield 7, 3) := by decide +kernel
theorem dX6_become_5 : decode cX6_become 5 = .ok (.aload_n 0, 1) := by decide +kernel
theorem dX6_become_6 : decode cX6_become 6 = .ok (.iload_n 2, 1) := by decide +kernel
theorem dX6_become_7 : decode cX6_become 7 = .ok (.putfield 13, 3) := by decide +kernel
theorem dX6_become_10 : decode cX6_become 10 = .ok (.aload_n 0, 1) := by decide +kernel
theorem dX6_become_11 : decode cX6_become 11 = .ok (.iload_n 3, 1) := by decide +kernel
theorem dX6_become_12 : decode cX6_become 12 = .ok (.putfield 16, 3) := by decide +kernel
theorem dX6_become_15 : decode cX6_become 15 = .ok (.aload_n 0, 1) := by decide +kernel
theorem dX6_become_16 : decode cX6_become 16 = .ok (.iload 4, 2) := by decide +kernel
theorem dX6_become_18 : decode cX6_become 18 = .ok (.putfield 20, 3) := by decide +kernel
theorem dX6_become_21 : decode cX6_become 21 = .ok (.return_, 1) := by decide +kernel
theorem dX6_becomeAs_0 : decode cX6_becomeAs 0 = .ok (.aload_n 0, 1) := by decide +kernel
theorem dX6_becomeAs_1 : decode cX6_becomeAs 1 = .ok (.aload_n 1, 1) := by decide +kernel
theorem dX6_becomeAs_2 : decode cX6_becomeAs 2 = .ok (.getfield 23, 3) := by decide +kernel
theorem dX6_becomeAs_5 : decode cX6_becomeAs 5 = .ok (.putfield 23, 3) := by decide +kernel
theorem dX6_becomeAs_8 : decode cX6_becomeAs 8 = .ok (.aload_n 0, 1) := by decide +kernel
theorem dX6_becomeAs_9 : decode cX6_becomeAs 9 = .ok (.aload_n 1, 1) := by decide +kernel
theorem dX6_becomeAs_10 : decode cX6_becomeAs 10 = .ok (.getfield 7, 3) := by decide +kernel
theorem dX6_becomeAs_13 : decode cX6_becomeAs 13 = .ok (.aload_n 1, 1) := by decide +kernel
theorem dX6_becomeAs_14 : decode cX6_becomeAs 14 = .ok (.getfield 13, 3) := by decide +kernel
theorem dX6_becomeAs_17 : decode cX6_becomeAs 17 = .ok (.aload_n 1, 1) := by decide +kernel
theorem dX6_becomeAs_18 : decode cX6_becomeAs 18 = .ok (.getfield 16, 3) := by decide +kernel
theorem dX6_becomeAs_21 : decode cX6_becomeAs 21 = .ok (.aload_n 1, 1) := by decide +kernel
theorem dX6_becomeAs_22 : decode cX6_becomeAs 22 = .ok (.getfield 20, 3) := by decide +kernel
theorem dX6_becomeAs_25 : decode cX6_becomeAs 25 = .ok (.invokevirtual 26, 3) := by decide +kernel
theorem dX6_becomeAs_28 : decode cX6_becomeAs 28 = .ok (.return_, 1) := by decide +kernel
theorem dX7_init_0 : decode cX7_init 0 = .ok (.aload_n 0, 1) := by decide +kernel
theorem dX7_init_1 : decode cX7_init 1 = .ok (.invokespecial 3, 3) := by decide +kernel
theorem dX7_init_4 : decode cX7_init 4 = .ok (.aload_n 0, 1) := by decide +kernel
theorem dX7_init_5 : decode cX7_init 5 = .ok (.bipush 20, 2) := by decide +kernel
theorem dX7_init_7 : decode cX7_init 7 = .ok (.newarray .float, 2) := by decide +kernel
theorem dX7_init_9 : decode cX7_init 9 = .ok (.putfield 9, 3) := by decide +kernel
theorem dX7_init_12 : decode cX7_init 12 = .ok (.aload_n 0, 1) := by decide +kernel
theorem dX7_init_13 : decode cX7_init 13 = .ok (.bipush 20, 2) := by decide +kernel
theorem dX7_init_15 : decode cX7_init 15 = .ok (.newarray .boolean, 2) := by decide +kernel
theorem dX7_init_17 : decode cX7_init 17 = .ok (.putfield 15, 3) := by decide +kernel
theorem dX7_init_20 : decode cX7_init 20 = .ok (.aload_n 0, 1) := by decide +kernel
theorem dX7_init_21 : decode cX7_init 21 = .ok (.iconst 0, 1) := by decide +kernel
theorem dX7_init_22 : decode cX7_init 22 = .ok (.putfield 19, 3) := by decide +kernel
theorem dX7_init_25 : decode cX7_init 25 = .ok (.aload_n 0, 1) := by decide +kernel
theorem dX7_init_26 : decode cX7_init 26 = .ok (.iconst 0, 1) := by decide +kernel
theorem dX7_init_27 : decode cX7_init 27 = .ok (.putfield 23, 3) := by decide +kernel
theorem dX7_init_30 : decode cX7_init 30 = .ok (.return_, 1) := by decide +kernel
theorem dX7_begin_0 : decode cX7_begin 0 = .ok (.iconst 0, 1) := by decide +kernel
theorem dX7_begin_1 : decode cX7_begin 1 = .ok (.istore_n 2, 1) := by decide +kernel
theorem dX7_begin_2 : decode cX7_begin 2 = .ok (.iload_n 2, 1) := by decide +kernel
theorem dX7_begin_3 : decode cX7_begin 3 = .ok (.aload_n 0, 1) := by decide +kernel
theorem dX7_begin_4 : decode cX7_begin 4 = .ok (.getfield 9, 3) := by decide +kernel
theorem dX7_begin_7 : decode cX7_begin 7 = .ok (.arraylength, 1) := by decide +kernel
theorem dX7_begin_8 : decode cX7_begin 8 = .ok (.if_icmp .ge 23, 3) := by decide +kernel
theorem dX7_begin_11 : decode cX7_begin 11 = .ok (.aload_n 0, 1) := by decide +kernel
theorem dX7_begin_12 : decode cX7_begin 12 = .ok (.getfield 9, 3) := by decide +kernel
theorem dX7_begin_15 : decode cX7_begin 15 = .ok (.iload_n 2, 1) := by decide +kernel
theorem dX7_begin_16 : decode cX7_begin 16 = .ok (.fconst 0, 1) := by decide +kernel
theorem dX7_begin_17 : decode cX7_begin 17 = .ok (.fastore, 1) := by decide +kernel
theorem dX7_begin_18 : decode cX7_begin 18 = .ok (.aload_n 0, 1) := by decide +kernel
theorem dX7_begin_19 : decode cX7_begin 19 = .ok (.getfield 15, 3) := by decide +kernel
theorem dX7_begin_22 : decode cX7_begin 22 = .ok (.iload_n 2, 1) := by decide +kernel
theorem dX7_begin_23 : decode cX7_begin 23 = .ok (.iconst 0, 1) := by decide +kernel
theorem dX7_begin_24 : decode cX7_begin 24 = .ok (.bastore, 1) := by decide +kernel
theorem dX7_begin_25 : decode cX7_begin 25 = .ok (.iinc 2 1, 3) := by decide +kernel
theorem dX7_begin_28 : decode cX7_begin 28 = .ok (.goto (-26), 3) := by decide +kernel
theorem dX7_begin_31 : decode cX7_begin 31 = .ok (.aload_n 0, 1) := by decide +kernel
theorem dX7_begin_32 : decode cX7_begin 32 = .ok (.iload_n 1, 1) := by decide +kernel
theorem dX7_begin_33 : decode cX7_begin 33 = .ok (.putfield 19, 3) := by decide +kernel
theorem dX7_begin_36 : decode cX7_begin 36 = .ok (.aload_n 0, 1) := by decide +kernel
theorem dX7_begin_37 : decode cX7_begin 37 = .ok (.iconst 1, 1) := by decide +kernel
theorem dX7_begin_38 : decode cX7_begin 38 = .ok (.putfield 23, 3) := by decide +kernel
theorem dX7_begin_41 : decode cX7_begin 41 = .ok (.return_, 1) := by decide +kernel
theorem dX7_has_0 : decode cX7_has 0 = .ok (.iload_n 1, 1) := by decide +kernel
theorem dX7_has_1 : decode cX7_has 1 = .ok (.ifCond .lt 24, 3) := by decide +kernel
theorem dX7_has_4 : decode cX7_has 4 = .ok (.iload_n 1, 1) := by decide +kernel
theorem dX7_has_5 : decode cX7_has 5 = .ok (.aload_n 0, 1) := by decide +kernel
theorem dX7_has_6 : decode cX7_has 6 = .ok (.getfield 19, 3) := by decide +kernel
theorem dX7_has_9 : decode cX7_has 9 = .ok (.if_icmp .ge 16, 3) := by decide +kernel
theorem dX7_has_12 : decode cX7_has 12 = .ok (.iload_n 1, 1) := by decide +kernel
theorem dX7_has_13 : decode cX7_has 13 = .ok (.aload_n 0, 1) := by decide +kernel
theorem dX7_has_14 : decode cX7_has 14 = .ok (.getfield 9, 3) := by decide +kernel
theorem dX7_has_17 : decode cX7_has 17 = .ok (.arraylength, 1) := by decide +kernel
theorem dX7_has_18 : decode cX7_has 18 = .ok (.if_icmp .ge 7, 3) := by decide +kernel
theorem dX7_has_21 : decode cX7_has 21 = .ok (.iconst 1, 1) := by decide +kernel
theorem dX7_has_22 : decode cX7_has 22 = .ok (.goto 4, 3) := by decide +kernel
theorem dX7_has_25 : decode cX7_has 25 = .ok (.iconst 0, 1) := by decide +kernel
theorem dX7_has_26 : decode cX7_has 26 = .ok (.ireturn, 1) := by decide +kernel
theorem dX7_write_0 : decode cX7_write 0 = .ok (.aload_n 0, 1) := by decide +kernel
theorem dX7_write_1 : decode cX7_write 1 = .ok (.iload_n 1, 1) := by decide +kernel
theorem dX7_write_2 : decode cX7_write 2 = .ok (.invokevirtual 27, 3) := by decide +kernel
theorem dX7_write_5 : decode cX7_write 5 = .ok (.ifCond .eq 17, 3) := by decide +kernel
theorem dX7_write_8 : decode cX7_write 8 = .ok (.aload_n 0, 1) := by decide +kernel
theorem dX7_write_9 : decode cX7_write 9 = .ok (.getfield 9, 3) := by decide +kernel
theorem dX7_write_12 : decode cX7_write 12 = .ok (.iload_n 1, 1) := by decide +kernel
theorem dX7_write_13 : decode cX7_write 13 = .ok (.fload_n 2, 1) := by decide +kernel
theorem dX7_write_14 : decode cX7_write 14 = .ok (.fastore, 1) := by decide +kernel
theorem dX7_write_15 : decode cX7_write 15 = .ok (.aload_n 0, 1) := by decide +kernel
theorem dX7_write_16 : decode cX7_write 16 = .ok (.getfield 15, 3) := by decide +kernel
theorem dX7_write_19 : decode cX7_write 19 = .ok (.iload_n 1, 1) := by decide +kernel
theorem dX7_write_20 : decode cX7_write 20 = .ok (.iconst 0, 1) := by decide +kernel
theorem dX7_write_21 : decode cX7_write 21 = .ok (.bastore, 1) := by decide +kernel
theorem dX7_write_22 : decode cX7_write 22 = .ok (.return_, 1) := by decide +kernel
theorem dX7_blank_0 : decode cX7_blank 0 = .ok (.aload_n 0, 1) := by decide +kernel
theorem dX7_blank_1 : decode cX7_blank 1 = .ok (.iload_n 1, 1) := by decide +kernel
theorem dX7_blank_2 : decode cX7_blank 2 = .ok (.invokevirtual 27, 3) := by decide +kernel
theorem dX7_blank_5 : decode cX7_blank 5 = .ok (.ifCond .eq 10, 3) := by decide +kernel
theorem dX7_blank_8 : decode cX7_blank 8 = .ok (.aload_n 0, 1) := by decide +kernel
theorem dX7_blank_9 : decode cX7_blank 9 = .ok (.getfield 15, 3) := by decide +kernel
theorem dX7_blank_12 : decode cX7_blank 12 = .ok (.iload_n 1, 1) := by decide +kernel
theorem dX7_blank_13 : decode cX7_blank 13 = .ok (.iconst 1, 1) := by decide +kernel
theorem dX7_blank_14 : decode cX7_blank 14 = .ok (.bastore, 1) := by decide +kernel
theorem dX7_blank_15 : decode cX7_blank 15 = .ok (.return_, 1) := by decide +kernel
theorem dX7_filled_0 : decode cX7_filled 0 = .ok (.aload_n 0, 1) := by decide +kernel
theorem dX7_filled_1 : decode cX7_filled 1 = .ok (.iload_n 1, 1) := by decide +kernel
theorem dX7_filled_2 : decode cX7_filled 2 = .ok (.invokevirtual 27, 3) := by decide +kernel
theorem dX7_filled_5 : decode cX7_filled 5 = .ok (.ifCond .ne 5, 3) := by decide +kernel
theorem dX7_filled_8 : decode cX7_filled 8 = .ok (.fconst 0, 1) := by decide +kernel
theorem dX7_filled_9 : decode cX7_filled 9 = .ok (.freturn, 1) := by decide +kernel
theorem dX7_filled_10 : decode cX7_filled 10 = .ok (.aload_n 0, 1) := by decide +kernel
theorem dX7_filled_11 : decode cX7_filled 11 = .ok (.getfield 15, 3) := by decide +kernel
theorem dX7_filled_14 : decode cX7_filled 14 = .ok (.iload_n 1, 1) := by decide +kernel
theorem dX7_filled_15 : decode cX7_filled 15 = .ok (.baload, 1) := by decide +kernel
theorem dX7_filled_16 : decode cX7_filled 16 = .ok (.ifCond .ne 10, 3) := by decide +kernel
theorem dX7_filled_19 : decode cX7_filled 19 = .ok (.aload_n 0, 1) := by decide +kernel
theorem dX7_filled_20 : decode cX7_filled 20 = .ok (.getfield 9, 3) := by decide +kernel
theorem dX7_filled_23 : decode cX7_filled 23 = .ok (.iload_n 1, 1) := by decide +kernel
theorem dX7_filled_24 : decode cX7_filled 24 = .ok (.faload, 1) := by decide +kernel
theorem dX7_filled_25 : decode cX7_filled 25 = .ok (.freturn, 1) := by decide +kernel
theorem dX7_filled_26 : decode cX7_filled 26 = .ok (.aload_n 0, 1) := by decide +kernel
theorem dX7_filled_27 : decode cX7_filled 27 = .ok (.iload_n 1, 1) := by decide +kernel
theorem dX7_filled_28 : decode cX7_filled 28 = .ok (.invokevirtual 31, 3) := by decide +kernel
theorem dX7_filled_31 : decode cX7_filled 31 = .ok (.istore_n 2, 1) := by decide +kernel
theorem dX7_filled_32 : decode cX7_filled 32 = .ok (.aload_n 0, 1) := by decide +kernel
theorem dX7_filled_33 : decode cX7_filled 33 = .ok (.iload_n 1, 1) := by decide +kernel
theorem dX7_filled_34 : decode cX7_filled 34 = .ok (.invokevirtual 35, 3) := by decide +kernel
theorem dX7_filled_37 : decode cX7_filled 37 = .ok (.istore_n 3, 1) := by decide +kernel
theorem dX7_filled_38 : decode cX7_filled 38 = .ok (.iload_n 2, 1) := by decide +kernel
theorem dX7_filled_39 : decode cX7_filled 39 = .ok (.ifCond .lt 23, 3) := by decide +kernel
theorem dX7_filled_42 : decode cX7_filled 42 = .ok (.iload_n 3, 1) := by decide +kernel
theorem dX7_filled_43 : decode cX7_filled 43 = .ok (.ifCond .lt 19, 3) := by decide +kernel
theorem dX7_filled_46 : decode cX7_filled 46 = .ok (.aload_n 0, 1) := by decide +kernel
theorem dX7_filled_47 : decode cX7_filled 47 = .ok (.getfield 9, 3) := by decide +kernel
theorem dX7_filled_50 : decode cX7_filled 50 = .ok (.iload_n 2, 1) := by decide +kernel
theorem dX7_filled_51 : decode cX7_filled 51 = .ok (.faload, 1) := by decide +kernel
theorem dX7_filled_52 : decode cX7_filled 52 = .ok (.aload_n 0, 1) := by decide +kernel
theorem dX7_filled_53 : decode cX7_filled 53 = .ok (.getfield 9, 3) := by decide +kernel
theorem dX7_filled_56 : decode cX7_filled 56 = .ok (.iload_n 3, 1) := by decide +kernel
theorem dX7_filled_57 : decode cX7_filled 57 = .ok (.faload, 1) := by decide +kernel
theorem dX7_filled_58 : decode cX7_filled 58 = .ok (.fadd, 1) := by decide +kernel
theorem dX7_filled_59 : decode cX7_filled 59 = .ok (.fconst 2, 1) := by decide +kernel
theorem dX7_filled_60 : decode cX7_filled 60 = .ok (.fdiv, 1) := by decide +kernel
theorem dX7_filled_61 : decode cX7_filled 61 = .ok (.freturn, 1) := by decide +kernel
theorem dX7_filled_62 : decode cX7_filled 62 = .ok (.iload_n 2, 1) := by decide +kernel
theorem dX7_filled_63 : decode cX7_filled 63 = .ok (.ifCond .lt 10, 3) := by decide +kernel
theorem dX7_filled_66 : decode cX7_filled 66 = .ok (.aload_n 0, 1) := by decide +kernel
theorem dX7_filled_67 : decode cX7_filled 67 = .ok (.getfield 9, 3) := by decide +kernel
theorem dX7_filled_70 : decode cX7_filled 70 = .ok (.iload_n 2, 1) := by decide +kernel
theorem dX7_filled_71 : decode cX7_filled 71 = .ok (.faload, 1) := by decide +kernel
theorem dX7_filled_72 : decode cX7_filled 72 = .ok (.freturn, 1) := by decide +kernel
theorem dX7_filled_73 : decode cX7_filled 73 = .ok (.iload_n 3, 1) := by decide +kernel
theorem dX7_filled_74 : decode cX7_filled 74 = .ok (.ifCond .lt 12, 3) := by decide +kernel
theorem dX7_filled_77 : decode cX7_filled 77 = .ok (.aload_n 0, 1) := by decide +kernel
theorem dX7_filled_78 : decode cX7_filled 78 = .ok (.getfield 9, 3) := by decide +kernel
theorem dX7_filled_81 : decode cX7_filled 81 = .ok (.iload_n 3, 1) := by decide +kernel
theorem dX7_filled_82 : decode cX7_filled 82 = .ok (.faload, 1) := by decide +kernel
theorem dX7_filled_83 : decode cX7_filled 83 = .ok (.goto 4, 3) := by decide +kernel
theorem dX7_filled_86 : decode cX7_filled 86 = .ok (.fconst 0, 1) := by decide +kernel
theorem dX7_filled_87 : decode cX7_filled 87 = .ok (.freturn, 1) := by decide +kernel
theorem dX7_knownBelow_0 : decode cX7_knownBelow 0 = .ok (.iload_n 1, 1) := by decide +kernel
theorem dX7_knownBelow_1 : decode cX7_knownBelow 1 = .ok (.iconst 1, 1) := by decide +kernel
theorem dX7_knownBelow_2 : decode cX7_knownBelow 2 = .ok (.isub, 1) := by decide +kernel
theorem dX7_knownBelow_3 : decode cX7_knownBelow 3 = .ok (.istore_n 2, 1) := by decide +kernel
theorem dX7_knownBelow_4 : decode cX7_knownBelow 4 = .ok (.iload_n 2, 1) := by decide +kernel
theorem dX7_knownBelow_5 : decode cX7_knownBelow 5 = .ok (.ifCond .lt 20, 3) := by decide +kernel
theorem dX7_knownBelow_8 : decode cX7_knownBelow 8 = .ok (.aload_n 0, 1) := by decide +kernel
theorem dX7_knownBelow_9 : decode cX7_knownBelow 9 = .ok (.getfield 15, 3) := by decide +kernel
theorem dX7_knownBelow_12 : decode cX7_knownBelow 12 = .ok (.iload_n 2, 1) := by decide +kernel
theorem dX7_knownBelow_13 : decode cX7_knownBelow 13 = .ok (.baload, 1) := by decide +kernel
theorem dX7_knownBelow_14 : decode cX7_knownBelow 14 = .ok (.ifCond .ne 5, 3) := by decide +kernel
theorem dX7_knownBelow_17 : decode cX7_knownBelow 17 = .ok (.iload_n 2, 1) := by decide +kernel
theorem dX7_knownBelow_18 : decode cX7_knownBelow 18 = .ok (.ireturn, 1) := by decide +kernel
theorem dX7_knownBelow_19 : decode cX7_knownBelow 19 = .ok (.iinc 2 (-1), 3) := by decide +kernel
theorem dX7_knownBelow_22 : decode cX7_knownBelow 22 = .ok (.goto (-18), 3) := by decide +kernel
theorem dX7_knownBelow_25 : decode cX7_knownBelow 25 = .ok (.iconst (-1), 1) := by decide +kernel
theorem dX7_knownBelow_26 : decode cX7_knownBelow 26 = .ok (.ireturn, 1) := by decide +kernel
theorem dX7_knownAbove_0 : decode cX7_knownAbove 0 = .ok (.iload_n 1, 1) := by decide +kernel
theorem dX7_knownAbove_1 : decode cX7_knownAbove 1 = .ok (.iconst 1, 1) := by decide +kernel
theorem dX7_knownAbove_2 : decode cX7_knownAbove 2 = .ok (.iadd, 1) := by decide +kernel
theorem dX7_knownAbove_3 : decode cX7_knownAbove 3 = .ok (.istore_n 2, 1) := by decide +kernel
theorem dX7_knownAbove_4 : decode cX7_knownAbove 4 = .ok (.iload_n 2, 1) := by decide +kernel
theorem dX7_knownAbove_5 : decode cX7_knownAbove 5 = .ok (.aload_n 0, 1) := by decide +kernel
theorem dX7_knownAbove_6 : decode cX7_knownAbove 6 = .ok (.getfield 19, 3) := by decide +kernel
theorem dX7_knownAbove_9 : decode cX7_knownAbove 9 = .ok (.if_icmp .ge 20, 3) := by decide +kernel
theorem dX7_knownAbove_12 : decode cX7_knownAbove 12 = .ok (.aload_n 0, 1) := by decide +kernel
theorem dX7_knownAbove_13 : decode cX7_knownAbove 13 = .ok (.getfield 15, 3) := by decide +kernel
theorem dX7_knownAbove_16 : decode cX7_knownAbove 16 = .ok (.iload_n 2, 1) := by decide +kernel
theorem dX7_knownAbove_17 : decode cX7_knownAbove 17 = .ok (.baload, 1) := by decide +kernel
theorem dX7_knownAbove_18 : decode cX7_knownAbove 18 = .ok (.ifCond .ne 5, 3) := by decide +kernel
theorem dX7_knownAbove_21 : decode cX7_knownAbove 21 = .ok (.iload_n 2, 1) := by decide +kernel
theorem dX7_knownAbove_22 : decode cX7_knownAbove 22 = .ok (.ireturn, 1) := by decide +kernel
theorem dX7_knownAbove_23 : decode cX7_knownAbove 23 = .ok (.iinc 2 1, 3) := by decide +kernel
theorem dX7_knownAbove_26 : decode cX7_knownAbove 26 = .ok (.goto (-22), 3) := by decide +kernel
theorem dX7_knownAbove_29 : decode cX7_knownAbove 29 = .ok (.iconst (-1), 1) := by decide +kernel
theorem dX7_knownAbove_30 : decode cX7_knownAbove 30 = .ok (.ireturn, 1) := by decide +kernel
theorem dX7_windOf_0 : decode cX7_windOf 0 = .ok (.aload_n 0, 1) := by decide +kernel
theorem dX7_windOf_1 : decode cX7_windOf 1 = .ok (.iload_n 1, 1) := by decide +kernel
theorem dX7_windOf_2 : decode cX7_windOf 2 = .ok (.aload_n 0, 1) := by decide +kernel
theorem dX7_windOf_3 : decode cX7_windOf 3 = .ok (.getfield 19, 3) := by decide +kernel
theorem dX7_windOf_6 : decode cX7_windOf 6 = .ok (.iconst 1, 1) := by decide +kernel
theorem dX7_windOf_7 : decode cX7_windOf 7 = .ok (.isub, 1) := by decide +kernel
theorem dX7_windOf_8 : decode cX7_windOf 8 = .ok (.invokestatic 38, 3) := by decide +kernel
theorem dX7_windOf_11 : decode cX7_windOf 11 = .ok (.invokevirtual 44, 3) := by decide +kernel
theorem dX7_windOf_14 : decode cX7_windOf 14 = .ok (.ldc 48, 2) := by decide +kernel
theorem dX7_windOf_16 : decode cX7_windOf 16 = .ok (.fmul, 1) := by decide +kernel
theorem dX7_windOf_17 : decode cX7_windOf 17 = .ok (.f2i, 1) := by decide +kernel
theorem dX7_windOf_18 : decode cX7_windOf 18 = .ok (.ireturn, 1) := by decide +kernel
theorem dX8_init_0 : decode cX8_init 0 = .ok (.aload_n 0, 1) := by decide +kernel
theorem dX8_init_1 : decode cX8_init 1 = .ok (.invokespecial 3, 3) := by decide +kernel
theorem dX8_init_4 : decode cX8_init 4 = .ok (.aload_n 0, 1) := by decide +kernel
theorem dX8_init_5 : decode cX8_init 5 = .ok (.iconst 3, 1) := by decide +kernel
theorem dX8_init_6 : decode cX8_init 6 = .ok (.anewarray 11, 3) := by decide +kernel
theorem dX8_init_9 : decode cX8_init 9 = .ok (.putfield 13, 3) := by decide +kernel
theorem dX8_init_12 : decode cX8_init 12 = .ok (.aload_n 0, 1) := by decide +kernel
theorem dX8_init_13 : decode cX8_init 13 = .ok (.new 17, 3) := by decide +kernel
theorem dX8_init_16 : decode cX8_init 16 = .ok (.dup, 1) := by decide +kernel
theorem dX8_init_17 : decode cX8_init 17 = .ok (.invokespecial 19, 3) := by decide +kernel
theorem dX8_init_20 : decode cX8_init 20 = .ok (.putfield 20, 3) := by decide +kernel
theorem dX8_init_23 : decode cX8_init 23 = .ok (.aload_n 0, 1) := by decide +kernel
theorem dX8_init_24 : decode cX8_init 24 = .ok (.bipush 32, 2) := by decide +kernel
theorem dX8_init_26 : decode cX8_init 26 = .ok (.anewarray 24, 3) := by decide +kernel
theorem dX8_init_29 : decode cX8_init 29 = .ok (.putfield 26, 3) := by decide +kernel
theorem dX8_init_32 : decode cX8_init 32 = .ok (.aload_n 0, 1) := by decide +kernel
theorem dX8_init_33 : decode cX8_init 33 = .ok (.bipush 20, 2) := by decide +kernel
theorem dX8_init_35 : decode cX8_init 35 = .ok (.anewarray 30, 3) := by decide +kernel
theorem dX8_init_38 : decode cX8_init 38 = .ok (.putfield 32, 3) := by decide +kernel
theorem dX8_init_41 : decode cX8_init 41 = .ok (.aload_n 0, 1) := by decide +kernel
theorem dX8_init_42 : decode cX8_init 42 = .ok (.iconst 3, 1) := by decide +kernel
theorem dX8_init_43 : decode cX8_init 43 = .ok (.anewarray 36, 3) := by decide +kernel
theorem dX8_init_46 : decode cX8_init 46 = .ok (.putfield 38, 3) := by decide +kernel
theorem dX8_init_49 : decode cX8_init 49 = .ok (.aload_n 0, 1) := by decide +kernel
theorem dX8_init_50 : decode cX8_init 50 = .ok (.bipush 12, 2) := by decide +kernel
theorem dX8_init_52 : decode cX8_init 52 = .ok (.anewarray 42, 3) := by decide +kernel
theorem dX8_init_55 : decode cX8_init 55 = .ok (.putfield 44, 3) := by decide +kernel
theorem dX8_init_58 : decode cX8_init 58 = .ok (.aload_n 0, 1) := by decide +kernel
theorem dX8_init_59 : decode cX8_init 59 = .ok (.getstatic 48, 3) := by decide +kernel
theorem dX8_init_62 : decode cX8_init 62 = .ok (.invokevirtual 52, 3) := by decide +kernel
theorem dX8_init_65 : decode cX8_init 65 = .ok (.checkcast 53, 3) := by decide +kernel
theorem dX8_init_68 : decode cX8_init 68 = .ok (.putfield 57, 3) := by decide +kernel
theorem dX8_init_71 : decode cX8_init 71 = .ok (.aload_n 0, 1) := by decide +kernel
theorem dX8_init_72 : decode cX8_init 72 = .ok (.bipush 6, 2) := by decide +kernel
theorem dX8_init_74 : decode cX8_init 74 = .ok (.anewarray 60, 3) := by decide +kernel
theorem dX8_init_77 : decode cX8_init 77 = .ok (.putfield 62, 3) := by decide +kernel
theorem dX8_init_80 : decode cX8_init 80 = .ok (.aload_n 0, 1) := by decide +kernel
theorem dX8_init_81 : decode cX8_init 81 = .ok (.new 66, 3) := by decide +kernel
theorem dX8_init_84 : decode cX8_init 84 = .ok (.dup, 1) := by decide +kernel
theorem dX8_init_85 : decode cX8_init 85 = .ok (.invokespecial 68, 3) := by decide +kernel
theorem dX8_init_88 : decode cX8_init 88 = .ok (.putfield 69, 3) := by decide +kernel
theorem dX8_init_91 : decode cX8_init 91 = .ok (.aload_n 0, 1) := by decide +kernel
theorem dX8_init_92 : decode cX8_init 92 = .ok (.iconst 0, 1) := by decide +kernel
theorem dX8_init_93 : decode cX8_init 93 = .ok (.putfield 73, 3) := by decide +kernel
theorem dX8_init_96 : decode cX8_init 96 = .ok (.aload_n 0, 1) := by decide +kernel
theorem dX8_init_97 : decode cX8_init 97 = .ok (.iconst 0, 1) := by decide +kernel
theorem dX8_init_98 : decode cX8_init 98 = .ok (.putfield 77, 3) := by decide +kernel
theorem dX8_init_101 : decode cX8_init 101 = .ok (.iconst 0, 1) := by decide +kernel
theorem dX8_init_102 : decode cX8_init 102 = .ok (.istore_n 1, 1) := by decide +kernel
theorem dX8_init_103 : decode cX8_init 103 = .ok (.iload_n 1, 1) := by decide +kernel
theorem dX8_init_104 : decode cX8_init 104 = .ok (.aload_n 0, 1) := by decide +kernel
theorem dX8_init_105 : decode cX8_init 105 = .ok (.getfield 13, 3) := by decide +kernel
theorem dX8_init_108 : decode cX8_init 108 = .ok (.arraylength, 1) := by decide +kernel
theorem dX8_init_109 : decode cX8_init 109 = .ok (.if_icmp .ge 22, 3) := by decide +kernel
theorem dX8_init_112 : decode cX8_init 112 = .ok (.aload_n 0, 1) := by decide +kernel
theorem dX8_init_113 : decode cX8_init 113 = .ok (.getfield 13, 3) := by decide +kernel
theorem dX8_init_116 : decode cX8_init 116 = .ok (.iload_n 1, 1) := by decide +kernel
theorem dX8_init_117 : decode cX8_init 117 = .ok (.new 11, 3) := by decide +kernel
theorem dX8_init_120 : decode cX8_init 120 = .ok (.dup, 1) := by decide +kernel
theorem dX8_init_121 : decode cX8_init 121 = .ok (.invokespecial 80, 3) := by decide +kernel
theorem dX8_init_124 : decode cX8_init 124 = .ok (.aastore, 1) := by decide +kernel
theorem dX8_init_125 : decode cX8_init 125 = .ok (.iinc 1 1, 3) := by decide +kernel
theorem dX8_init_128 : decode cX8_init 128 = .ok (.goto (-25), 3) := by decide +kernel
theorem dX8_init_131 : decode cX8_init 131 = .ok (.iconst 0, 1) := by decide +kernel
theorem dX8_init_132 : decode cX8_init 132 = .ok (.istore_n 1, 1) := by decide +kernel
theorem dX8_init_133 : decode cX8_init 133 = .ok (.iload_n 1, 1) := by decide +kernel
theorem dX8_init_134 : decode cX8_init 134 = .ok (.aload_n 0, 1) := by decide +kernel
theorem dX8_init_135 : decode cX8_init 135 = .ok (.getfield 26, 3) := by decide +kernel
theorem dX8_init_138 : decode cX8_init 138 = .ok (.arraylength, 1) := by decide +kernel
theorem dX8_init_139 : decode cX8_init 139 = .ok (.if_icmp .ge 23, 3) := by decide +kernel
theorem dX8_init_142 : decode cX8_init 142 = .ok (.aload_n 0, 1) := by decide +kernel
theorem dX8_init_143 : decode cX8_init 143 = .ok (.getfield 26, 3) := by decide +kernel
theorem dX8_init_146 : decode cX8_init 146 = .ok (.iload_n 1, 1) := by decide +kernel
theorem dX8_init_147 : decode cX8_init 147 = .ok (.new 24, 3) := by decide +kernel
theorem dX8_init_150 : decode cX8_init 150 = .ok (.dup, 1) := by decide +kernel
theorem dX8_init_151 : decode cX8_init 151 = .ok (.iload_n 1, 1) := by decide +kernel
theorem dX8_init_152 : decode cX8_init 152 = .ok (.invokespecial 81, 3) := by decide +kernel
theorem dX8_init_155 : decode cX8_init 155 = .ok (.aastore, 1) := by decide +kernel
theorem dX8_init_156 : decode cX8_init 156 = .ok (.iinc 1 1, 3) := by decide +kernel
theorem dX8_init_159 : decode cX8_init 159 = .ok (.goto (-26), 3) := by decide +kernel
theorem dX8_init_162 : decode cX8_init 162 = .ok (.iconst 0, 1) := by decide +kernel
theorem dX8_init_163 : decode cX8_init 163 = .ok (.istore_n 1, 1) := by decide +kernel
theorem dX8_init_164 : decode cX8_init 164 = .ok (.iload_n 1, 1) := by decide +kernel
theorem dX8_init_165 : decode cX8_init 165 = .ok (.aload_n 0, 1) := by decide +kernel
theorem dX8_init_166 : decode cX8_init 166 = .ok (.getfield 32, 3) := by decide +kernel
theorem dX8_init_169 : decode cX8_init 169 = .ok (.arraylength, 1) := by decide +kernel
theorem dX8_init_170 : decode cX8_init 170 = .ok (.if_icmp .ge 23, 3) := by decide +kernel
theorem dX8_init_173 : decode cX8_init 173 = .ok (.aload_n 0, 1) := by decide +kernel
theorem dX8_init_174 : decode cX8_init 174 = .ok (.getfield 32, 3) := by decide +kernel
theorem dX8_init_177 : decode cX8_init 177 = .ok (.iload_n 1, 1) := by decide +kernel
theorem dX8_init_178 : decode cX8_init 178 = .ok (.new 30, 3) := by decide +kernel
theorem dX8_init_181 : decode cX8_init 181 = .ok (.dup, 1) := by decide +kernel
theorem dX8_init_182 : decode cX8_init 182 = .ok (.iload_n 1, 1) := by decide +kernel
theorem dX8_init_183 : decode cX8_init 183 = .ok (.invokespecial 84, 3) := by decide +kernel
theorem dX8_init_186 : decode cX8_init 186 = .ok (.aastore, 1) := by decide +kernel
theorem dX8_init_187 : decode cX8_init 187 = .ok (.iinc 1 1, 3) := by decide +kernel
theorem dX8_init_190 : decode cX8_init 190 = .ok (.goto (-26), 3) := by decide +kernel
theorem dX8_init_193 : decode cX8_init 193 = .ok (.iconst 0, 1) := by decide +kernel
theorem dX8_init_194 : decode cX8_init 194 = .ok (.istore_n 1, 1) := by decide +kernel
theorem dX8_init_195 : decode cX8_init 195 = .ok (.iload_n 1, 1) := by decide +kernel
theorem dX8_init_196 : decode cX8_init 196 = .ok (.aload_n 0, 1) := by decide +kernel
theorem dX8_init_197 : decode cX8_init 197 = .ok (.getfield 38, 3) := by decide +kernel
theorem dX8_init_200 : decode cX8_init 200 = .ok (.arraylength, 1) := by decide +kernel
theorem dX8_init_201 : decode cX8_init 201 = .ok (.if_icmp .ge 23, 3) := by decide +kernel
theorem dX8_init_204 : decode cX8_init 204 = .ok (.aload_n 0, 1) := by decide +kernel
theorem dX8_init_205 : decode cX8_init 205 = .ok (.getfield 38, 3) := by decide +kernel
theorem dX8_init_208 : decode cX8_init 208 = .ok (.iload_n 1, 1) := by decide +kernel
theorem dX8_init_209 : decode cX8_init 209 = .ok (.new 36, 3) := by decide +kernel
theorem dX8_init_212 : decode cX8_init 212 = .ok (.dup, 1) := by decide +kernel
theorem dX8_init_213 : decode cX8_init 213 = .ok (.iload_n 1, 1) := by decide +kernel
theorem dX8_init_214 : decode cX8_init 214 = .ok (.invokespecial 85, 3) := by decide +kernel
theorem dX8_init_217 : decode cX8_init 217 = .ok (.aastore, 1) := by decide +kernel
theorem dX8_init_218 : decode cX8_init 218 = .ok (.iinc 1 1, 3) := by decide +kernel
theorem dX8_init_221 : decode cX8_init 221 = .ok (.goto (-26), 3) := by decide +kernel
theorem dX8_init_224 : decode cX8_init 224 = .ok (.iconst 0, 1) := by decide +kernel
theorem dX8_init_225 : decode cX8_init 225 = .ok (.istore_n 1, 1) := by decide +kernel
theorem dX8_init_226 : decode cX8_init 226 = .ok (.iload_n 1, 1) := by decide +kernel
theorem dX8_init_227 : decode cX8_init 227 = .ok (.aload_n 0, 1) := by decide +kernel
theorem dX8_init_228 : decode cX8_init 228 = .ok (.getfield 44, 3) := by decide +kernel
theorem dX8_init_231 : decode cX8_init 231 = .ok (.arraylength, 1) := by decide +kernel
theorem dX8_init_232 : decode cX8_init 232 = .ok (.if_icmp .ge 22, 3) := by decide +kernel
theorem dX8_init_235 : decode cX8_init 235 = .ok (.aload_n 0, 1) := by decide +kernel
theorem dX8_init_236 : decode cX8_init 236 = .ok (.getfield 44, 3) := by decide +kernel
theorem dX8_init_239 : decode cX8_init 239 = .ok (.iload_n 1, 1) := by decide +kernel
theorem dX8_init_240 : decode cX8_init 240 = .ok (.new 42, 3) := by decide +kernel
theorem dX8_init_243 : decode cX8_init 243 = .ok (.dup, 1) := by decide +kernel
theorem dX8_init_244 : decode cX8_init 244 = .ok (.invokespecial 86, 3) := by decide +kernel
theorem dX8_init_247 : decode cX8_init 247 = .ok (.aastore, 1) := by decide +kernel
theorem dX8_init_248 : decode cX8_init 248 = .ok (.iinc 1 1, 3) := by decide +kernel
theorem dX8_init_251 : decode cX8_init 251 = .ok (.goto (-25), 3) := by decide +kernel
theorem dX8_init_254 : decode cX8_init 254 = .ok (.iconst 0, 1) := by decide +kernel
theorem dX8_init_255 : decode cX8_init 255 = .ok (.istore_n 1, 1) := by decide +kernel
theorem dX8_init_256 : decode cX8_init 256 = .ok (.iload_n 1, 1) := by decide +kernel
theorem dX8_init_257 : decode cX8_init 257 = .ok (.aload_n 0, 1) := by decide +kernel
theorem dX8_init_258 : decode cX8_init 258 = .ok (.getfield 62, 3) := by decide +kernel
theorem dX8_init_261 : decode cX8_init 261 = .ok (.arraylength, 1) := by decide +kernel
theorem dX8_init_262 : decode cX8_init 262 = .ok (.if_icmp .ge 22, 3) := by decide +kernel
theorem dX8_init_265 : decode cX8_init 265 = .ok (.aload_n 0, 1) := by decide +kernel
theorem dX8_init_266 : decode cX8_init 266 = .ok (.getfield 62, 3) := by decide +kernel
theorem dX8_init_269 : decode cX8_init 269 = .ok (.iload_n 1, 1) := by decide +kernel
theorem dX8_init_270 : decode cX8_init 270 = .ok (.new 60, 3) := by decide +kernel
theorem dX8_init_273 : decode cX8_init 273 = .ok (.dup, 1) := by decide +kernel
theorem dX8_init_274 : decode cX8_init 274 = .ok (.invokespecial 87, 3) := by decide +kernel
theorem dX8_init_277 : decode cX8_init 277 = .ok (.aastore, 1) := by decide +kernel
theorem dX8_init_278 : decode cX8_init 278 = .ok (.iinc 1 1, 3) := by decide +kernel
theorem dX8_init_281 : decode cX8_init 281 = .ok (.goto (-25), 3) := by decide +kernel
theorem dX8_init_284 : decode cX8_init 284 = .ok (.return_, 1) := by decide +kernel
theorem dX8_sheet_0 : decode cX8_sheet 0 = .ok (.aload_n 0, 1) := by decide +kernel
theorem dX8_sheet_1 : decode cX8_sheet 1 = .ok (.iload_n 1, 1) := by decide +kernel
theorem dX8_sheet_2 : decode cX8_sheet 2 = .ok (.invokevirtual 88, 3) := by decide +kernel
theorem dX8_sheet_5 : decode cX8_sheet 5 = .ok (.astore_n 3, 1) := by decide +kernel
theorem dX8_sheet_6 : decode cX8_sheet 6 = .ok (.aload_n 3, 1) := by decide +kernel
theorem dX8_sheet_7 : decode cX8_sheet 7 = .ok (.ifnonnull 5, 3) := by decide +kernel
theorem dX8_sheet_10 : decode cX8_sheet 10 = .ok (.iconst (-1), 1) := by decide +kernel
theorem dX8_sheet_11 : decode cX8_sheet 11 = .ok (.ireturn, 1) := by decide +kernel
theorem dX8_sheet_12 : decode cX8_sheet 12 = .ok (.iload_n 2, 1) := by decide +kernel
theorem dX8_sheet_13 : decode cX8_sheet 13 = .ok (.ifCond .ge 6, 3) := by decide +kernel
theorem dX8_sheet_16 : decode cX8_sheet 16 = .ok (.bipush (-4), 2) := by decide +kernel
theorem dX8_sheet_18 : decode cX8_sheet 18 = .ok (.ireturn, 1) := by decide +kernel
theorem dX8_sheet_19 : decode cX8_sheet 19 = .ok (.iload_n 2, 1) := by decide +kernel
theorem dX8_sheet_20 : decode cX8_sheet 20 = .ok (.bipush 20, 2) := by decide +kernel
theorem dX8_sheet_22 : decode cX8_sheet 22 = .ok (.if_icmp .le 5, 3) := by decide +kernel
theorem dX8_sheet_25 : decode cX8_sheet 25 = .ok (.iconst (-1), 1) := by decide +kernel
theorem dX8_sheet_26 : decode cX8_sheet 26 = .ok (.ireturn, 1) := by decide +kernel
theorem dX8_sheet_27 : decode cX8_sheet 27 = .ok (.aload_n 3, 1) := by decide +kernel
theorem dX8_sheet_28 : decode cX8_sheet 28 = .ok (.iload_n 2, 1) := by decide +kernel
theorem dX8_sheet_29 : decode cX8_sheet 29 = .ok (.invokevirtual 92, 3) := by decide +kernel
theorem dX8_sheet_32 : decode cX8_sheet 32 = .ok (.iconst 1, 1) := by decide +kernel
theorem dX8_sheet_33 : decode cX8_sheet 33 = .ok (.ireturn, 1) := by decide +kernel
theorem dX8_cell_0 : decode cX8_cell 0 = .ok (.aload_n 0, 1) := by decide +kernel
theorem dX8_cell_1 : decode cX8_cell 1 = .ok (.iload_n 1, 1) := by decide +kernel
theorem dX8_cell_2 : decode cX8_cell 2 = .ok (.invokevirtual 88, 3) := by decide +kernel
theorem dX8_cell_5 : decode cX8_cell 5 = .ok (.astore 5, 2) := by decide +kernel
theorem dX8_cell_7 : decode cX8_cell 7 = .ok (.aload 5, 2) := by decide +kernel
theorem dX8_cell_9 : decode cX8_cell 9 = .ok (.ifnull 14, 3) := by decide +kernel
theorem dX8_cell_12 : decode cX8_cell 12 = .ok (.iload 4, 2) := by decide +kernel
theorem dX8_cell_14 : decode cX8_cell 14 = .ok (.iconst 0, 1) := by decide +kernel
theorem dX8_cell_15 : decode cX8_cell 15 = .ok (.bipush 20, 2) := by decide +kernel
theorem dX8_cell_17 : decode cX8_cell 17 = .ok (.invokestatic 95, 3) := by decide +kernel
theorem dX8_cell_20 : decode cX8_cell 20 = .ok (.ifCond .ne 5, 3) := by decide +kernel
theorem dX8_cell_23 : decode cX8_cell 23 = .ok (.iconst (-1), 1) := by decide +kernel
theorem dX8_cell_24 : decode cX8_cell 24 = .ok (.ireturn, 1) := by decide +kernel
theorem dX8_cell_25 : decode cX8_cell 25 = .ok (.aload 5, 2) := by decide +kernel
theorem dX8_cell_27 : decode cX8_cell 27 = .ok (.getfield 99, 3) := by decide +kernel
theorem dX8_cell_30 : decode cX8_cell 30 = .ok (.ifCond .ne 6, 3) := by decide +kernel
theorem dX8_cell_33 : decode cX8_cell 33 = .ok (.bipush (-3), 2) := by decide +kernel
theorem dX8_cell_35 : decode cX8_cell 35 = .ok (.ireturn, 1) := by decide +kernel
theorem dX8_cell_36 : decode cX8_cell 36 = .ok (.aload 5, 2) := by decide +kernel
theorem dX8_cell_38 : decode cX8_cell 38 = .ok (.iload_n 2, 1) := by decide +kernel
theorem dX8_cell_39 : decode cX8_cell 39 = .ok (.invokevirtual 103, 3) := by decide +kernel
theorem dX8_cell_42 : decode cX8_cell 42 = .ok (.ifCond .ne 5, 3) := by decide +kernel
theorem dX8_cell_45 : decode cX8_cell 45 = .ok (.iconst (-1), 1) := by decide +kernel
theorem dX8_cell_46 : decode cX8_cell 46 = .ok (.ireturn, 1) := by decide +kernel
theorem dX8_cell_47 : decode cX8_cell 47 = .ok (.aload 5, 2) := by decide +kernel
theorem dX8_cell_49 : decode cX8_cell 49 = .ok (.iload_n 2, 1) := by decide +kernel
theorem dX8_cell_50 : decode cX8_cell 50 = .ok (.iload_n 3, 1) := by decide +kernel
theorem dX8_cell_51 : decode cX8_cell 51 = .ok (.i2f, 1) := by decide +kernel
theorem dX8_cell_52 : decode cX8_cell 52 = .ok (.iconst 1, 1) := by decide +kernel
theorem dX8_cell_53 : decode cX8_cell 53 = .ok (.iload 4, 2) := by decide +kernel
theorem dX8_cell_55 : decode cX8_cell 55 = .ok (.ishl, 1) := by decide +kernel
theorem dX8_cell_56 : decode cX8_cell 56 = .ok (.i2f, 1) := by decide +kernel
theorem dX8_cell_57 : decode cX8_cell 57 = .ok (.fdiv, 1) := by decide +kernel
theorem dX8_cell_58 : decode cX8_cell 58 = .ok (.invokevirtual 107, 3) := by decide +kernel
theorem dX8_cell_61 : decode cX8_cell 61 = .ok (.iconst 1, 1) := by decide +kernel
theorem dX8_cell_62 : decode cX8_cell 62 = .ok (.ireturn, 1) := by decide +kernel
theorem dX8_gap_0 : decode cX8_gap 0 = .ok (.aload_n 0, 1) := by decide +kernel
theorem dX8_gap_1 : decode cX8_gap 1 = .ok (.iload_n 1, 1) := by decide +kernel
theorem dX8_gap_2 : decode cX8_gap 2 = .ok (.invokevirtual 88, 3) := by decide +kernel
theorem dX8_gap_5 : decode cX8_gap 5 = .ok (.astore_n 3, 1) := by decide +kernel
theorem dX8_gap_6 : decode cX8_gap 6 = .ok (.aload_n 3, 1) := by decide +kernel
theorem dX8_gap_7 : decode cX8_gap 7 = .ok (.ifnonnull 5, 3) := by decide +kernel
theorem dX8_gap_10 : decode cX8_gap 10 = .ok (.iconst (-1), 1) := by decide +kernel
theorem dX8_gap_11 : decode cX8_gap 11 = .ok (.ireturn, 1) := by decide +kernel
theorem dX8_gap_12 : decode cX8_gap 12 = .ok (.aload_n 3, 1) := by decide +kernel
theorem dX8_gap_13 : decode cX8_gap 13 = .ok (.getfield 99, 3) := by decide +kernel
theorem dX8_gap_16 : decode cX8_gap 16 = .ok (.ifCond .ne 6, 3) := by decide +kernel
theorem dX8_gap_19 : decode cX8_gap 19 = .ok (.bipush (-3), 2) := by decide +kernel
theorem dX8_gap_21 : decode cX8_gap 21 = .ok (.ireturn, 1) := by decide +kernel
theorem dX8_gap_22 : decode cX8_gap 22 = .ok (.aload_n 3, 1) := by decide +kernel
theorem dX8_gap_23 : decode cX8_gap 23 = .ok (.iload_n 2, 1) := by decide +kernel
theorem dX8_gap_24 : decode cX8_gap 24 = .ok (.invokevirtual 103, 3) := by decide +kernel
theorem dX8_gap_27 : decode cX8_gap 27 = .ok (.ifCond .ne 5, 3) := by decide +kernel
theorem dX8_gap_30 : decode cX8_gap 30 = .ok (.iconst (-1), 1) := by decide +kernel
theorem dX8_gap_31 : decode cX8_gap 31 = .ok (.ireturn, 1) := by decide +kernel
theorem dX8_gap_32 : decode cX8_gap 32 = .ok (.aload_n 3, 1) := by decide +kernel
theorem dX8_gap_33 : decode cX8_gap 33 = .ok (.iload_n 2, 1) := by decide +kernel
theorem dX8_gap_34 : decode cX8_gap 34 = .ok (.invokevirtual 111, 3) := by decide +kernel
theorem dX8_gap_37 : decode cX8_gap 37 = .ok (.iconst 1, 1) := by decide +kernel
theorem dX8_gap_38 : decode cX8_gap 38 = .ok (.ireturn, 1) := by decide +kernel
theorem dX8_lose_0 : decode cX8_lose 0 = .ok (.aload_n 0, 1) := by decide +kernel
theorem dX8_lose_1 : decode cX8_lose 1 = .ok (.iload_n 1, 1) := by decide +kernel
theorem dX8_lose_2 : decode cX8_lose 2 = .ok (.invokevirtual 88, 3) := by decide +kernel
theorem dX8_lose_5 : decode cX8_lose 5 = .ok (.astore_n 2, 1) := by decide +kernel
theorem dX8_lose_6 : decode cX8_lose 6 = .ok (.aload_n 2, 1) := by decide +kernel
theorem dX8_lose_7 : decode cX8_lose 7 = .ok (.ifnonnull 5, 3) := by decide +kernel
theorem dX8_lose_10 : decode cX8_lose 10 = .ok (.iconst (-1), 1) := by decide +kernel
theorem dX8_lose_11 : decode cX8_lose 11 = .ok (.ireturn, 1) := by decide +kernel
theorem dX8_lose_12 : decode cX8_lose 12 = .ok (.aload_n 2, 1) := by decide +kernel
theorem dX8_lose_13 : decode cX8_lose 13 = .ok (.getfield 99, 3) := by decide +kernel
theorem dX8_lose_16 : decode cX8_lose 16 = .ok (.ifCond .ne 6, 3) := by decide +kernel
theorem dX8_lose_19 : decode cX8_lose 19 = .ok (.bipush (-3), 2) := by decide +kernel
theorem dX8_lose_21 : decode cX8_lose 21 = .ok (.ireturn, 1) := by decide +kernel
theorem dX8_lose_22 : decode cX8_lose 22 = .ok (.aload_n 2, 1) := by decide +kernel
theorem dX8_lose_23 : decode cX8_lose 23 = .ok (.iconst 0, 1) := by decide +kernel
theorem dX8_lose_24 : decode cX8_lose 24 = .ok (.putfield 99, 3) := by decide +kernel
theorem dX8_lose_27 : decode cX8_lose 27 = .ok (.iconst 1, 1) := by decide +kernel
theorem dX8_lose_28 : decode cX8_lose 28 = .ok (.ireturn, 1) := by decide +kernel
theorem dX8_told_0 : decode cX8_told 0 = .ok (.aload_n 0, 1) := by decide +kernel
theorem dX8_told_1 : decode cX8_told 1 = .ok (.iload_n 1, 1) := by decide +kernel
theorem dX8_told_2 : decode cX8_told 2 = .ok (.invokevirtual 88, 3) := by decide +kernel
theorem dX8_told_5 : decode cX8_told 5 = .ok (.astore_n 3, 1) := by decide +kernel
theorem dX8_told_6 : decode cX8_told 6 = .ok (.aload_n 3, 1) := by decide +kernel
theorem dX8_told_7 : decode cX8_told 7 = .ok (.ifnull 18, 3) := by decide +kernel
theorem dX8_told_10 : decode cX8_told 10 = .ok (.aload_n 3, 1) := by decide +kernel
theorem dX8_told_11 : decode cX8_told 11 = .ok (.getfield 99, 3) := by decide +kernel
theorem dX8_told_14 : decode cX8_told 14 = .ok (.ifCond .eq 11, 3) := by decide +kernel
theorem dX8_told_17 : decode cX8_told 17 = .ok (.aload_n 3, 1) := by decide +kernel
theorem dX8_told_18 : decode cX8_told 18 = .ok (.iload_n 2, 1) := by decide +kernel
theorem dX8_told_19 : decode cX8_told 19 = .ok (.invokevirtual 103, 3) := by decide +kernel
theorem dX8_told_22 : decode cX8_told 22 = .ok (.ifCond .ne 6, 3) := by decide +kernel
theorem dX8_told_25 : decode cX8_told 25 = .ok (.ldc 114, 2) := by decide +kernel
theorem dX8_told_27 : decode cX8_told 27 = .ok (.ireturn, 1) := by decide +kernel
theorem dX8_told_28 : decode cX8_told 28 = .ok (.aload_n 3, 1) := by decide +kernel
theorem dX8_told_29 : decode cX8_told 29 = .ok (.iload_n 2, 1) := by decide +kernel
theorem dX8_told_30 : decode cX8_told 30 = .ok (.invokevirtual 115, 3) := by decide +kernel
theorem dX8_told_33 : decode cX8_told 33 = .ok (.ldc 119, 2) := by decide +kernel
theorem dX8_told_35 : decode cX8_told 35 = .ok (.fmul, 1) := by decide +kernel
theorem dX8_told_36 : decode cX8_told 36 = .ok (.f2i, 1) := by decide +kernel
theorem dX8_told_37 : decode cX8_told 37 = .ok (.ireturn, 1) := by decide +kernel
theorem dX8_winds_0 : decode cX8_winds 0 = .ok (.aload_n 0, 1) := by decide +kernel
theorem dX8_winds_1 : decode cX8_winds 1 = .ok (.iload_n 1, 1) := by decide +kernel
theorem dX8_winds_2 : decode cX8_winds 2 = .ok (.invokevirtual 88, 3) := by decide +kernel
theorem dX8_winds_5 : decode cX8_winds 5 = .ok (.astore_n 3, 1) := by decide +kernel
theorem dX8_winds_6 : decode cX8_winds 6 = .ok (.aload_n 0, 1) := by decide +kernel
theorem dX8_winds_7 : decode cX8_winds 7 = .ok (.iload_n 2, 1) := by decide +kernel
theorem dX8_winds_8 : decode cX8_winds 8 = .ok (.invokevirtual 88, 3) := by decide +kernel
theorem dX8_winds_11 : decode cX8_winds 11 = .ok (.astore 4, 2) := by decide +kernel
theorem dX8_winds_13 : decode cX8_winds 13 = .ok (.aload_n 3, 1) := by decide +kernel
theorem dX8_winds_14 : decode cX8_winds 14 = .ok (.ifnull 8, 3) := by decide +kernel
theorem dX8_winds_17 : decode cX8_winds 17 = .ok (.aload 4, 2) := by decide +kernel
theorem dX8_winds_19 : decode cX8_winds 19 = .ok (.ifnonnull 5, 3) := by decide +kernel
theorem dX8_winds_22 : decode cX8_winds 22 = .ok (.iconst (-1), 1) := by decide +kernel
theorem dX8_winds_23 : decode cX8_winds 23 = .ok (.ireturn, 1) := by decide +kernel
theorem dX8_winds_24 : decode cX8_winds 24 = .ok (.aload_n 3, 1) := by decide +kernel
theorem dX8_winds_25 : decode cX8_winds 25 = .ok (.getfield 99, 3) := by decide +kernel
theorem dX8_winds_28 : decode cX8_winds 28 = .ok (.ifCond .eq 11, 3) := by decide +kernel
theorem dX8_winds_31 : decode cX8_winds 31 = .ok (.aload 4, 2) := by decide +kernel
theorem dX8_winds_33 : decode cX8_winds 33 = .ok (.getfield 99, 3) := by decide +kernel
theorem dX8_winds_36 : decode cX8_winds 36 = .ok (.ifCond .ne 6, 3) := by decide +kernel
theorem dX8_winds_39 : decode cX8_winds 39 = .ok (.bipush (-3), 2) := by decide +kernel
theorem dX8_winds_41 : decode cX8_winds 41 = .ok (.ireturn, 1) := by decide +kernel
theorem dX8_winds_42 : decode cX8_winds 42 = .ok (.aload_n 3, 1) := by decide +kernel
theorem dX8_winds_43 : decode cX8_winds 43 = .ok (.invokestatic 120, 3) := by decide +kernel
theorem dX8_winds_46 : decode cX8_winds 46 = .ok (.ifCond .eq 11, 3) := by decide +kernel
theorem dX8_winds_49 : decode cX8_winds 49 = .ok (.aload 4, 2) := by decide +kernel
theorem dX8_winds_51 : decode cX8_winds 51 = .ok (.invokestatic 120, 3) := by decide +kernel
theorem dX8_winds_54 : decode cX8_winds 54 = .ok (.ifCond .ne 5, 3) := by decide +kernel
theorem dX8_winds_57 : decode cX8_winds 57 = .ok (.iconst (-1), 1) := by decide +kernel
theorem dX8_winds_58 : decode cX8_winds 58 = .ok (.ireturn, 1) := by decide +kernel
theorem dX8_winds_59 : decode cX8_winds 59 = .ok (.iconst 0, 1) := by decide +kernel
theorem dX8_winds_60 : decode cX8_winds 60 = .ok (.istore 5, 2) := by decide +kernel
theorem dX8_winds_62 : decode cX8_winds 62 = .ok (.iload 5, 2) := by decide +kernel
theorem dX8_winds_64 : decode cX8_winds 64 = .ok (.bipush 12, 2) := by decide +kernel
theorem dX8_winds_66 : decode cX8_winds 66 = .ok (.if_icmp .ge 31, 3) := by decide +kernel
theorem dX8_winds_69 : decode cX8_winds 69 = .ok (.aload_n 0, 1) := by decide +kernel
theorem dX8_winds_70 : decode cX8_winds 70 = .ok (.getfield 20, 3) := by decide +kernel
theorem dX8_winds_73 : decode cX8_winds 73 = .ok (.iload 5, 2) := by decide +kernel
theorem dX8_winds_75 : decode cX8_winds 75 = .ok (.aload_n 3, 1) := by decide +kernel
theorem dX8_winds_76 : decode cX8_winds 76 = .ok (.iload 5, 2) := by decide +kernel
theorem dX8_winds_78 : decode cX8_winds 78 = .ok (.invokevirtual 124, 3) := by decide +kernel
theorem dX8_winds_81 : decode cX8_winds 81 = .ok (.aload 4, 2) := by decide +kernel
theorem dX8_winds_83 : decode cX8_winds 83 = .ok (.iload 5, 2) := by decide +kernel
theorem dX8_winds_85 : decode cX8_winds 85 = .ok (.invokevirtual 124, 3) := by decide +kernel
theorem dX8_winds_88 : decode cX8_winds 88 = .ok (.invokevirtual 128, 3) := by decide +kernel
theorem dX8_winds_91 : decode cX8_winds 91 = .ok (.iinc 5 1, 3) := by decide +kernel
theorem dX8_winds_94 : decode cX8_winds 94 = .ok (.goto (-32), 3) := by decide +kernel
theorem dX8_winds_97 : decode cX8_winds 97 = .ok (.iconst 1, 1) := by decide +kernel
theorem dX8_winds_98 : decode cX8_winds 98 = .ok (.ireturn, 1) := by decide +kernel
theorem dX8_wind_0 : decode cX8_wind 0 = .ok (.iload_n 1, 1) := by decide +kernel
theorem dX8_wind_1 : decode cX8_wind 1 = .ok (.iconst 0, 1) := by decide +kernel
theorem dX8_wind_2 : decode cX8_wind 2 = .ok (.bipush 11, 2) := by decide +kernel
theorem dX8_wind_4 : decode cX8_wind 4 = .ok (.invokestatic 95, 3) := by decide +kernel
theorem dX8_wind_7 : decode cX8_wind 7 = .ok (.ifCond .eq 17, 3) := by decide +kernel
theorem dX8_wind_10 : decode cX8_wind 10 = .ok (.iload_n 2, 1) := by decide +kernel
theorem dX8_wind_11 : decode cX8_wind 11 = .ok (.invokestatic 132, 3) := by decide +kernel
theorem dX8_wind_14 : decode cX8_wind 14 = .ok (.ifCond .eq 10, 3) := by decide +kernel
theorem dX8_wind_17 : decode cX8_wind 17 = .ok (.iload_n 3, 1) := by decide +kernel
theorem dX8_wind_18 : decode cX8_wind 18 = .ok (.invokestatic 132, 3) := by decide +kernel
theorem dX8_wind_21 : decode cX8_wind 21 = .ok (.ifCond .ne 5, 3) := by decide +kernel
theorem dX8_wind_24 : decode cX8_wind 24 = .ok (.iconst (-1), 1) := by decide +kernel
theorem dX8_wind_25 : decode cX8_wind 25 = .ok (.ireturn, 1) := by decide +kernel
theorem dX8_wind_26 : decode cX8_wind 26 = .ok (.aload_n 0, 1) := by decide +kernel
theorem dX8_wind_27 : decode cX8_wind 27 = .ok (.getfield 20, 3) := by decide +kernel
theorem dX8_wind_30 : decode cX8_wind 30 = .ok (.iload_n 1, 1) := by decide +kernel
theorem dX8_wind_31 : decode cX8_wind 31 = .ok (.iload_n 2, 1) := by decide +kernel
theorem dX8_wind_32 : decode cX8_wind 32 = .ok (.iload_n 3, 1) := by decide +kernel
theorem dX8_wind_33 : decode cX8_wind 33 = .ok (.invokevirtual 128, 3) := by decide +kernel
theorem dX8_wind_36 : decode cX8_wind 36 = .ok (.iconst 1, 1) := by decide +kernel
theorem dX8_wind_37 : decode cX8_wind 37 = .ok (.ireturn, 1) := by decide +kernel
theorem dX8_blows_0 : decode cX8_blows 0 = .ok (.iload_n 1, 1) := by decide +kernel
theorem dX8_blows_1 : decode cX8_blows 1 = .ok (.iconst 0, 1) := by decide +kernel
theorem dX8_blows_2 : decode cX8_blows 2 = .ok (.bipush 11, 2) := by decide +kernel
theorem dX8_blows_4 : decode cX8_blows 4 = .ok (.invokestatic 95, 3) := by decide +kernel
theorem dX8_blows_7 : decode cX8_blows 7 = .ok (.ifCond .eq 12, 3) := by decide +kernel
theorem dX8_blows_10 : decode cX8_blows 10 = .ok (.iload_n 2, 1) := by decide +kernel
theorem dX8_blows_11 : decode cX8_blows 11 = .ok (.iconst 0, 1) := by decide +kernel
theorem dX8_blows_12 : decode cX8_blows 12 = .ok (.iconst 1, 1) := by decide +kernel
theorem dX8_blows_13 : decode cX8_blows 13 = .ok (.invokestatic 95, 3) := by decide +kernel
theorem dX8_blows_16 : decode cX8_blows 16 = .ok (.ifCond .ne 7, 3) := by decide +kernel
theorem dX8_blows_19 : decode cX8_blows 19 = .ok (.sipush (-1000), 3) := by decide +kernel
theorem dX8_blows_22 : decode cX8_blows 22 = .ok (.ireturn, 1) := by decide +kernel
theorem dX8_blows_23 : decode cX8_blows 23 = .ok (.iload_n 2, 1) := by decide +kernel
theorem dX8_blows_24 : decode cX8_blows 24 = .ok (.ifCond .ne 14, 3) := by decide +kernel
theorem dX8_blows_27 : decode cX8_blows 27 = .ok (.aload_n 0, 1) := by decide +kernel
theorem dX8_blows_28 : decode cX8_blows 28 = .ok (.getfield 20, 3) := by decide +kernel
theorem dX8_blows_31 : decode cX8_blows 31 = .ok (.iload_n 1, 1) := by decide +kernel
theorem dX8_blows_32 : decode cX8_blows 32 = .ok (.invokevirtual 135, 3) := by decide +kernel
theorem dX8_blows_35 : decode cX8_blows 35 = .ok (.goto 11, 3) := by decide +kernel
theorem dX8_blows_38 : decode cX8_blows 38 = .ok (.aload_n 0, 1) := by decide +kernel
theorem dX8_blows_39 : decode cX8_blows 39 = .ok (.getfield 20, 3) := by decide +kernel
theorem dX8_blows_42 : decode cX8_blows 42 = .ok (.iload_n 1, 1) := by decide +kernel
theorem dX8_blows_43 : decode cX8_blows 43 = .ok (.invokevirtual 138, 3) := by decide +kernel
theorem dX8_blows_46 : decode cX8_blows 46 = .ok (.ireturn, 1) := by decide +kernel
theorem dX8_jumper_0 : decode cX8_jumper 0 = .ok (.aload_n 0, 1) := by decide +kernel
theorem dX8_jumper_1 : decode cX8_jumper 1 = .ok (.iload_n 1, 1) := by decide +kernel
theorem dX8_jumper_2 : decode cX8_jumper 2 = .ok (.invokevirtual 141, 3) := by decide +kernel
theorem dX8_jumper_5 : decode cX8_jumper 5 = .ok (.astore 5, 2) := by decide +kernel
theorem dX8_jumper_7 : decode cX8_jumper 7 = .ok (.aload 5, 2) := by decide +kernel
theorem dX8_jumper_9 : decode cX8_jumper 9 = .ok (.ifnull 36, 3) := by decide +kernel
theorem dX8_jumper_12 : decode cX8_jumper 12 = .ok (.iload_n 2, 1) := by decide +kernel
theorem dX8_jumper_13 : decode cX8_jumper 13 = .ok (.iconst 0, 1) := by decide +kernel
theorem dX8_jumper_14 : decode cX8_jumper 14 = .ok (.iconst 2, 1) := by decide +kernel
theorem dX8_jumper_15 : decode cX8_jumper 15 = .ok (.invokestatic 95, 3) := by decide +kernel
theorem dX8_jumper_18 : decode cX8_jumper 18 = .ok (.ifCond .eq 27, 3) := by decide +kernel
theorem dX8_jumper_21 : decode cX8_jumper 21 = .ok (.iload_n 3, 1) := by decide +kernel
theorem dX8_jumper_22 : decode cX8_jumper 22 = .ok (.bipush 40, 2) := by decide +kernel
theorem dX8_jumper_24 : decode cX8_jumper 24 = .ok (.sipush 200, 3) := by decide +kernel
theorem dX8_jumper_27 : decode cX8_jumper 27 = .ok (.invokestatic 95, 3) := by decide +kernel
theorem dX8_jumper_30 : decode cX8_jumper 30 = .ok (.ifCond .eq 15, 3) := by decide +kernel
theorem dX8_jumper_33 : decode cX8_jumper 33 = .ok (.iload 4, 2) := by decide +kernel
theorem dX8_jumper_35 : decode cX8_jumper 35 = .ok (.iconst 0, 1) := by decide +kernel
theorem dX8_jumper_36 : decode cX8_jumper 36 = .ok (.sipush 1000, 3) := by decide +kernel
theorem dX8_jumper_39 : decode cX8_jumper 39 = .ok (.invokestatic 95, 3) := by decide +kernel
theorem dX8_jumper_42 : decode cX8_jumper 42 = .ok (.ifCond .ne 5, 3) := by decide +kernel
theorem dX8_jumper_45 : decode cX8_jumper 45 = .ok (.iconst (-1), 1) := by decide +kernel
theorem dX8_jumper_46 : decode cX8_jumper 46 = .ok (.ireturn, 1) := by decide +kernel
theorem dX8_jumper_47 : decode cX8_jumper 47 = .ok (.aload 5, 2) := by decide +kernel
theorem dX8_jumper_49 : decode cX8_jumper 49 = .ok (.iload_n 2, 1) := by decide +kernel
theorem dX8_jumper_50 : decode cX8_jumper 50 = .ok (.iload_n 3, 1) := by decide +kernel
theorem dX8_jumper_51 : decode cX8_jumper 51 = .ok (.iload 4, 2) := by decide +kernel
theorem dX8_jumper_53 : decode cX8_jumper 53 = .ok (.invokevirtual 145, 3) := by decide +kernel
theorem dX8_jumper_56 : decode cX8_jumper 56 = .ok (.iconst 1, 1) := by decide +kernel
theorem dX8_jumper_57 : decode cX8_jumper 57 = .ok (.ireturn, 1) := by decide +kernel
theorem dX8_group_0 : decode cX8_group 0 = .ok (.iload_n 1, 1) := by decide +kernel
theorem dX8_group_1 : decode cX8_group 1 = .ok (.iconst 0, 1) := by decide +kernel
theorem dX8_group_2 : decode cX8_group 2 = .ok (.iconst 3, 1) := by decide +kernel
theorem dX8_group_3 : decode cX8_group 3 = .ok (.invokestatic 95, 3) := by decide +kernel
theorem dX8_group_6 : decode cX8_group 6 = .ok (.ifCond .eq 16, 3) := by decide +kernel
theorem dX8_group_9 : decode cX8_group 9 = .ok (.iload_n 2, 1) := by decide +kernel
theorem dX8_group_10 : decode cX8_group 10 = .ok (.sipush 6000, 3) := by decide +kernel
theorem dX8_group_13 : decode cX8_group 13 = .ok (.sipush 15000, 3) := by decide +kernel
theorem dX8_group_16 : decode cX8_group 16 = .ok (.invokestatic 95, 3) := by decide +kernel
theorem dX8_group_19 : decode cX8_group 19 = .ok (.ifCond .ne 5, 3) := by decide +kernel
theorem dX8_group_22 : decode cX8_group 22 = .ok (.iconst (-1), 1) := by decide +kernel
theorem dX8_group_23 : decode cX8_group 23 = .ok (.ireturn, 1) := by decide +kernel
theorem dX8_group_24 : decode cX8_group 24 = .ok (.iload_n 3, 1) := by decide +kernel
theorem dX8_group_25 : decode cX8_group 25 = .ok (.iconst 0, 1) := by decide +kernel
theorem dX8_group_26 : decode cX8_group 26 = .ok (.sipush 150, 3) := by decide +kernel
theorem dX8_group_29 : decode cX8_group 29 = .ok (.invokestatic 95, 3) := by decide +kernel
theorem dX8_group_32 : decode cX8_group 32 = .ok (.ifCond .eq 13, 3) := by decide +kernel
theorem dX8_group_35 : decode cX8_group 35 = .ok (.iload 4, 2) := by decide +kernel
theorem dX8_group_37 : decode cX8_group 37 = .ok (.iconst 0, 1) := by decide +kernel
theorem dX8_group_38 : decode cX8_group 38 = .ok (.iconst 3, 1) := by decide +kernel
theorem dX8_group_39 : decode cX8_group 39 = .ok (.invokestatic 95, 3) := by decide +kernel
theorem dX8_group_42 : decode cX8_group 42 = .ok (.ifCond .ne 5, 3) := by decide +kernel
theorem dX8_group_45 : decode cX8_group 45 = .ok (.iconst (-1), 1) := by decide +kernel
theorem dX8_group_46 : decode cX8_group 46 = .ok (.ireturn, 1) := by decide +kernel
theorem dX8_group_47 : decode cX8_group 47 = .ok (.aload_n 0, 1) := by decide +kernel
theorem dX8_group_48 : decode cX8_group 48 = .ok (.getfield 73, 3) := by decide +kernel
theorem dX8_group_51 : decode cX8_group 51 = .ok (.aload_n 0, 1) := by decide +kernel
theorem dX8_group_52 : decode cX8_group 52 = .ok (.getfield 32, 3) := by decide +kernel
theorem dX8_group_55 : decode cX8_group 55 = .ok (.arraylength, 1) := by decide +kernel
theorem dX8_group_56 : decode cX8_group 56 = .ok (.if_icmp .lt 6, 3) := by decide +kernel
theorem dX8_group_59 : decode cX8_group 59 = .ok (.bipush (-2), 2) := by decide +kernel
theorem dX8_group_61 : decode cX8_group 61 = .ok (.ireturn, 1) := by decide +kernel
theorem dX8_group_62 : decode cX8_group 62 = .ok (.aload_n 0, 1) := by decide +kernel
theorem dX8_group_63 : decode cX8_group 63 = .ok (.getfield 32, 3) := by decide +kernel
theorem dX8_group_66 : decode cX8_group 66 = .ok (.aload_n 0, 1) := by decide +kernel
theorem dX8_group_67 : decode cX8_group 67 = .ok (.getfield 73, 3) := by decide +kernel
theorem dX8_group_70 : decode cX8_group 70 = .ok (.aaload, 1) := by decide +kernel
theorem dX8_group_71 : decode cX8_group 71 = .ok (.iload_n 1, 1) := by decide +kernel
theorem dX8_group_72 : decode cX8_group 72 = .ok (.iload_n 2, 1) := by decide +kernel
theorem dX8_group_73 : decode cX8_group 73 = .ok (.iload_n 3, 1) := by decide +kernel
theorem dX8_group_74 : decode cX8_group 74 = .ok (.iload 4, 2) := by decide +kernel
theorem dX8_group_76 : decode cX8_group 76 = .ok (.invokevirtual 148, 3) := by decide +kernel
theorem dX8_group_79 : decode cX8_group 79 = .ok (.aload_n 0, 1) := by decide +kernel
theorem dX8_group_80 : decode cX8_group 80 = .ok (.dup, 1) := by decide +kernel
theorem dX8_group_81 : decode cX8_group 81 = .ok (.getfield 73, 3) := by decide +kernel
theorem dX8_group_84 : decode cX8_group 84 = .ok (.iconst 1, 1) := by decide +kernel
theorem dX8_group_85 : decode cX8_group 85 = .ok (.iadd, 1) := by decide +kernel
theorem dX8_group_86 : decode cX8_group 86 = .ok (.putfield 73, 3) := by decide +kernel
theorem dX8_group_89 : decode cX8_group 89 = .ok (.aload_n 0, 1) := by decide +kernel
theorem dX8_group_90 : decode cX8_group 90 = .ok (.getfield 73, 3) := by decide +kernel
theorem dX8_group_93 : decode cX8_group 93 = .ok (.iconst 1, 1) := by decide +kernel
theorem dX8_group_94 : decode cX8_group 94 = .ok (.isub, 1) := by decide +kernel
theorem dX8_group_95 : decode cX8_group 95 = .ok (.ireturn, 1) := by decide +kernel
theorem dX8_join_0 : decode cX8_join 0 = .ok (.aload_n 0, 1) := by decide +kernel
theorem dX8_join_1 : decode cX8_join 1 = .ok (.iload_n 1, 1) := by decide +kernel
theorem dX8_join_2 : decode cX8_join 2 = .ok (.invokevirtual 151, 3) := by decide +kernel
theorem dX8_join_5 : decode cX8_join 5 = .ok (.astore_n 3, 1) := by decide +kernel
theorem dX8_join_6 : decode cX8_join 6 = .ok (.aload_n 0, 1) := by decide +kernel
theorem dX8_join_7 : decode cX8_join 7 = .ok (.iload_n 2, 1) := by decide +kernel
theorem dX8_join_8 : decode cX8_join 8 = .ok (.invokevirtual 141, 3) := by decide +kernel
theorem dX8_join_11 : decode cX8_join 11 = .ok (.astore 4, 2) := by decide +kernel
theorem dX8_join_13 : decode cX8_join 13 = .ok (.aload_n 3, 1) := by decide +kernel
theorem dX8_join_14 : decode cX8_join 14 = .ok (.ifnull 8, 3) := by decide +kernel
theorem dX8_join_17 : decode cX8_join 17 = .ok (.aload 4, 2) := by decide +kernel
theorem dX8_join_19 : decode cX8_join 19 = .ok (.ifnonnull 5, 3) := by decide +kernel
theorem dX8_join_22 : decode cX8_join 22 = .ok (.iconst (-1), 1) := by decide +kernel
theorem dX8_join_23 : decode cX8_join 23 = .ok (.ireturn, 1) := by decide +kernel
theorem dX8_join_24 : decode cX8_join 24 = .ok (.aload_n 0, 1) := by decide +kernel
theorem dX8_join_25 : decode cX8_join 25 = .ok (.aload_n 3, 1) := by decide +kernel
theorem dX8_join_26 : decode cX8_join 26 = .ok (.iconst 1, 1) := by decide +kernel
theorem dX8_join_27 : decode cX8_join 27 = .ok (.invokevirtual 155, 3) := by decide +kernel
theorem dX8_join_30 : decode cX8_join 30 = .ok (.ifCond .eq 6, 3) := by decide +kernel
theorem dX8_join_33 : decode cX8_join 33 = .ok (.bipush (-6), 2) := by decide +kernel
theorem dX8_join_35 : decode cX8_join 35 = .ok (.ireturn, 1) := by decide +kernel
theorem dX8_join_36 : decode cX8_join 36 = .ok (.aload_n 3, 1) := by decide +kernel
theorem dX8_join_37 : decode cX8_join 37 = .ok (.aload 4, 2) := by decide +kernel
theorem dX8_join_39 : decode cX8_join 39 = .ok (.invokevirtual 159, 3) := by decide +kernel
theorem dX8_join_42 : decode cX8_join 42 = .ok (.ifCond .eq 6, 3) := by decide +kernel
theorem dX8_join_45 : decode cX8_join 45 = .ok (.bipush (-5), 2) := by decide +kernel
theorem dX8_join_47 : decode cX8_join 47 = .ok (.ireturn, 1) := by decide +kernel
theorem dX8_join_48 : decode cX8_join 48 = .ok (.aload_n 3, 1) := by decide +kernel
theorem dX8_join_49 : decode cX8_join 49 = .ok (.getfield 163, 3) := by decide +kernel
theorem dX8_join_52 : decode cX8_join 52 = .ok (.iconst 4, 1) := by decide +kernel
theorem dX8_join_53 : decode cX8_join 53 = .ok (.if_icmp .lt 6, 3) := by decide +kernel
theorem dX8_join_56 : decode cX8_join 56 = .ok (.bipush (-2), 2) := by decide +kernel
theorem dX8_join_58 : decode cX8_join 58 = .ok (.ireturn, 1) := by decide +kernel
theorem dX8_join_59 : decode cX8_join 59 = .ok (.aload_n 3, 1) := by decide +kernel
theorem dX8_join_60 : decode cX8_join 60 = .ok (.aload 4, 2) := by decide +kernel
theorem dX8_join_62 : decode cX8_join 62 = .ok (.invokevirtual 166, 3) := by decide +kernel
theorem dX8_join_65 : decode cX8_join 65 = .ok (.aload_n 3, 1) := by decide +kernel
theorem dX8_join_66 : decode cX8_join 66 = .ok (.getfield 163, 3) := by decide +kernel
theorem dX8_join_69 : decode cX8_join 69 = .ok (.ireturn, 1) := by decide +kernel
theorem dX8_of_0 : decode cX8_of 0 = .ok (.aload_n 0, 1) := by decide +kernel
theorem dX8_of_1 : decode cX8_of 1 = .ok (.iload_n 1, 1) := by decide +kernel
theorem dX8_of_2 : decode cX8_of 2 = .ok (.invokevirtual 151, 3) := by decide +kernel
theorem dX8_of_5 : decode cX8_of 5 = .ok (.astore_n 3, 1) := by decide +kernel
theorem dX8_of_6 : decode cX8_of 6 = .ok (.aload_n 3, 1) := by decide +kernel
theorem dX8_of_7 : decode cX8_of 7 = .ok (.ifnonnull 7, 3) := by decide +kernel
theorem dX8_of_10 : decode cX8_of 10 = .ok (.iconst (-1), 1) := by decide +kernel
theorem dX8_of_11 : decode cX8_of 11 = .ok (.goto 8, 3) := by decide +kernel
theorem dX8_of_14 : decode cX8_of 14 = .ok (.aload_n 3, 1) := by decide +kernel
theorem dX8_of_15 : decode cX8_of 15 = .ok (.iload_n 2, 1) := by decide +kernel
theorem dX8_of_16 : decode cX8_of 16 = .ok (.invokevirtual 170, 3) := by decide +kernel
theorem dX8_of_19 : decode cX8_of 19 = .ok (.ireturn, 1) := by decide +kernel
theorem dX8_plane_0 : decode cX8_plane 0 = .ok (.aload_n 0, 1) := by decide +kernel
theorem dX8_plane_1 : decode cX8_plane 1 = .ok (.iload_n 1, 1) := by decide +kernel
theorem dX8_plane_2 : decode cX8_plane 2 = .ok (.invokevirtual 173, 3) := by decide +kernel
theorem dX8_plane_5 : decode cX8_plane 5 = .ok (.astore 6, 2) := by decide +kernel
theorem dX8_plane_7 : decode cX8_plane 7 = .ok (.aload 6, 2) := by decide +kernel
theorem dX8_plane_9 : decode cX8_plane 9 = .ok (.ifnull 25, 3) := by decide +kernel
theorem dX8_plane_12 : decode cX8_plane 12 = .ok (.iload_n 2, 1) := by decide +kernel
theorem dX8_plane_13 : decode cX8_plane 13 = .ok (.iconst 1, 1) := by decide +kernel
theorem dX8_plane_14 : decode cX8_plane 14 = .ok (.bipush 20, 2) := by decide +kernel
theorem dX8_plane_16 : decode cX8_plane 16 = .ok (.invokestatic 95, 3) := by decide +kernel
theorem dX8_plane_19 : decode cX8_plane 19 = .ok (.ifCond .eq 15, 3) := by decide +kernel
theorem dX8_plane_22 : decode cX8_plane 22 = .ok (.iload_n 3, 1) := by decide +kernel
theorem dX8_plane_23 : decode cX8_plane 23 = .ok (.bipush 100, 2) := by decide +kernel
theorem dX8_plane_25 : decode cX8_plane 25 = .ok (.sipush 4000, 3) := by decide +kernel
theorem dX8_plane_28 : decode cX8_plane 28 = .ok (.invokestatic 95, 3) := by decide +kernel
theorem dX8_plane_31 : decode cX8_plane 31 = .ok (.ifCond .ne 5, 3) := by decide +kernel
theorem dX8_plane_34 : decode cX8_plane 34 = .ok (.iconst (-1), 1) := by decide +kernel
theorem dX8_plane_35 : decode cX8_plane 35 = .ok (.ireturn, 1) := by decide +kernel
theorem dX8_plane_36 : decode cX8_plane 36 = .ok (.iload 4, 2) := by decide +kernel
theorem dX8_plane_38 : decode cX8_plane 38 = .ok (.sipush 200, 3) := by decide +kernel
theorem dX8_plane_41 : decode cX8_plane 41 = .ok (.sipush 600, 3) := by decide +kernel
theorem dX8_plane_44 : decode cX8_plane 44 = .ok (.invokestatic 95, 3) := by decide +kernel
theorem dX8_plane_47 : decode cX8_plane 47 = .ok (.ifCond .eq 16, 3) := by decide +kernel
theorem dX8_plane_50 : decode cX8_plane 50 = .ok (.iload 5, 2) := by decide +kernel
theorem dX8_plane_52 : decode cX8_plane 52 = .ok (.sipush 15000, 3) := by decide +kernel
theorem dX8_plane_55 : decode cX8_plane 55 = .ok (.ldc 177, 2) := by decide +kernel
theorem dX8_plane_57 : decode cX8_plane 57 = .ok (.invokestatic 95, 3) := by decide +kernel
theorem dX8_plane_60 : decode cX8_plane 60 = .ok (.ifCond .ne 5, 3) := by decide +kernel
theorem dX8_plane_63 : decode cX8_plane 63 = .ok (.iconst (-1), 1) := by decide +kernel
theorem dX8_plane_64 : decode cX8_plane 64 = .ok (.ireturn, 1) := by decide +kernel
theorem dX8_plane_65 : decode cX8_plane 65 = .ok (.aload 6, 2) := by decide +kernel
theorem dX8_plane_67 : decode cX8_plane 67 = .ok (.iload_n 2, 1) := by decide +kernel
theorem dX8_plane_68 : decode cX8_plane 68 = .ok (.iload_n 3, 1) := by decide +kernel
theorem dX8_plane_69 : decode cX8_plane 69 = .ok (.iload 4, 2) := by decide +kernel
theorem dX8_plane_71 : decode cX8_plane 71 = .ok (.iload 5, 2) := by decide +kernel
theorem dX8_plane_73 : decode cX8_plane 73 = .ok (.invokevirtual 178, 3) := by decide +kernel
theorem dX8_plane_76 : decode cX8_plane 76 = .ok (.iconst 1, 1) := by decide +kernel
theorem dX8_plane_77 : decode cX8_plane 77 = .ok (.ireturn, 1) := by decide +kernel
theorem dX8_rule_0 : decode cX8_rule 0 = .ok (.iload_n 1, 1) := by decide +kernel
theorem dX8_rule_1 : decode cX8_rule 1 = .ok (.iconst 0, 1) := by decide +kernel
theorem dX8_rule_2 : decode cX8_rule 2 = .ok (.bipush 9, 2) := by decide +kernel
theorem dX8_rule_4 : decode cX8_rule 4 = .ok (.invokestatic 95, 3) := by decide +kernel
theorem dX8_rule_7 : decode cX8_rule 7 = .ok (.ifCond .eq 16, 3) := by decide +kernel
theorem dX8_rule_10 : decode cX8_rule 10 = .ok (.iload_n 2, 1) := by decide +kernel
theorem dX8_rule_11 : decode cX8_rule 11 = .ok (.iconst 0, 1) := by decide +kernel
theorem dX8_rule_12 : decode cX8_rule 12 = .ok (.getstatic 179, 3) := by decide +kernel
theorem dX8_rule_15 : decode cX8_rule 15 = .ok (.iload_n 1, 1) := by decide +kernel
theorem dX8_rule_16 : decode cX8_rule 16 = .ok (.iaload, 1) := by decide +kernel
theorem dX8_rule_17 : decode cX8_rule 17 = .ok (.invokestatic 95, 3) := by decide +kernel
theorem dX8_rule_20 : decode cX8_rule 20 = .ok (.ifCond .ne 5, 3) := by decide +kernel
theorem dX8_rule_23 : decode cX8_rule 23 = .ok (.iconst (-1), 1) := by decide +kernel
theorem dX8_rule_24 : decode cX8_rule 24 = .ok (.ireturn, 1) := by decide +kernel
theorem dX8_rule_25 : decode cX8_rule 25 = .ok (.aload_n 0, 1) := by decide +kernel
theorem dX8_rule_26 : decode cX8_rule 26 = .ok (.getfield 57, 3) := by decide +kernel
theorem dX8_rule_29 : decode cX8_rule 29 = .ok (.iload_n 1, 1) := by decide +kernel
theorem dX8_rule_30 : decode cX8_rule 30 = .ok (.iaload, 1) := by decide +kernel
theorem dX8_rule_31 : decode cX8_rule 31 = .ok (.istore_n 3, 1) := by decide +kernel
theorem dX8_rule_32 : decode cX8_rule 32 = .ok (.aload_n 0, 1) := by decide +kernel
theorem dX8_rule_33 : decode cX8_rule 33 = .ok (.getfield 57, 3) := by decide +kernel
theorem dX8_rule_36 : decode cX8_rule 36 = .ok (.iload_n 1, 1) := by decide +kernel
theorem dX8_rule_37 : decode cX8_rule 37 = .ok (.iload_n 2, 1) := by decide +kernel
theorem dX8_rule_38 : decode cX8_rule 38 = .ok (.iastore, 1) := by decide +kernel
theorem dX8_rule_39 : decode cX8_rule 39 = .ok (.iload_n 3, 1) := by decide +kernel
theorem dX8_rule_40 : decode cX8_rule 40 = .ok (.ireturn, 1) := by decide +kernel
theorem dX8_load_0 : decode cX8_load 0 = .ok (.aload_n 0, 1) := by decide +kernel
theorem dX8_load_1 : decode cX8_load 1 = .ok (.iload_n 1, 1) := by decide +kernel
theorem dX8_load_2 : decode cX8_load 2 = .ok (.invokevirtual 173, 3) := by decide +kernel
theorem dX8_load_5 : decode cX8_load 5 = .ok (.astore_n 2, 1) := by decide +kernel
theorem dX8_load_6 : decode cX8_load 6 = .ok (.aload_n 2, 1) := by decide +kernel
theorem dX8_load_7 : decode cX8_load 7 = .ok (.ifnonnull 5, 3) := by decide +kernel
theorem dX8_load_10 : decode cX8_load 10 = .ok (.iconst (-1), 1) := by decide +kernel
theorem dX8_load_11 : decode cX8_load 11 = .ok (.ireturn, 1) := by decide +kernel
theorem dX8_load_12 : decode cX8_load 12 = .ok (.aload_n 0, 1) := by decide +kernel
theorem dX8_load_13 : decode cX8_load 13 = .ok (.getfield 77, 3) := by decide +kernel
theorem dX8_load_16 : decode cX8_load 16 = .ok (.aload_n 0, 1) := by decide +kernel
theorem dX8_load_17 : decode cX8_load 17 = .ok (.getfield 44, 3) := by decide +kernel
theorem dX8_load_20 : decode cX8_load 20 = .ok (.arraylength, 1) := by decide +kernel
theorem dX8_load_21 : decode cX8_load 21 = .ok (.if_icmp .lt 6, 3) := by decide +kernel
theorem dX8_load_24 : decode cX8_load 24 = .ok (.bipush (-2), 2) := by decide +kernel
theorem dX8_load_26 : decode cX8_load 26 = .ok (.ireturn, 1) := by decide +kernel
theorem dX8_load_27 : decode cX8_load 27 = .ok (.aload_n 0, 1) := by decide +kernel
theorem dX8_load_28 : decode cX8_load 28 = .ok (.getfield 44, 3) := by decide +kernel
theorem dX8_load_31 : decode cX8_load 31 = .ok (.aload_n 0, 1) := by decide +kernel
theorem dX8_load_32 : decode cX8_load 32 = .ok (.getfield 77, 3) := by decide +kernel
theorem dX8_load_35 : decode cX8_load 35 = .ok (.aaload, 1) := by decide +kernel
theorem dX8_load_36 : decode cX8_load 36 = .ok (.aload_n 2, 1) := by decide +kernel
theorem dX8_load_37 : decode cX8_load 37 = .ok (.aload_n 0, 1) := by decide +kernel
theorem dX8_load_38 : decode cX8_load 38 = .ok (.getfield 20, 3) := by decide +kernel
theorem dX8_load_41 : decode cX8_load 41 = .ok (.invokevirtual 182, 3) := by decide +kernel
theorem dX8_load_44 : decode cX8_load 44 = .ok (.aload_n 0, 1) := by decide +kernel
theorem dX8_load_45 : decode cX8_load 45 = .ok (.dup, 1) := by decide +kernel
theorem dX8_load_46 : decode cX8_load 46 = .ok (.getfield 77, 3) := by decide +kernel
theorem dX8_load_49 : decode cX8_load 49 = .ok (.iconst 1, 1) := by decide +kernel
theorem dX8_load_50 : decode cX8_load 50 = .ok (.iadd, 1) := by decide +kernel
theorem dX8_load_51 : decode cX8_load 51 = .ok (.putfield 77, 3) := by decide +kernel
theorem dX8_load_54 : decode cX8_load 54 = .ok (.aload_n 0, 1) := by decide +kernel
theorem dX8_load_55 : decode cX8_load 55 = .ok (.getfield 77, 3) := by decide +kernel
theorem dX8_load_58 : decode cX8_load 58 = .ok (.iconst 1, 1) := by decide +kernel
theorem dX8_load_59 : decode cX8_load 59 = .ok (.isub, 1) := by decide +kernel
theorem dX8_load_60 : decode cX8_load 60 = .ok (.ireturn, 1) := by decide +kernel
theorem dX8_put_0 : decode cX8_put 0 = .ok (.aload_n 0, 1) := by decide +kernel
theorem dX8_put_1 : decode cX8_put 1 = .ok (.iload_n 1, 1) := by decide +kernel
theorem dX8_put_2 : decode cX8_put 2 = .ok (.invokevirtual 185, 3) := by decide +kernel
theorem dX8_put_5 : decode cX8_put 5 = .ok (.astore 4, 2) := by decide +kernel
theorem dX8_put_7 : decode cX8_put 7 = .ok (.aload_n 0, 1) := by decide +kernel
theorem dX8_put_8 : decode cX8_put 8 = .ok (.iload_n 2, 1) := by decide +kernel
theorem dX8_put_9 : decode cX8_put 9 = .ok (.invokevirtual 151, 3) := by decide +kernel
theorem dX8_put_12 : decode cX8_put 12 = .ok (.astore 5, 2) := by decide +kernel
theorem dX8_put_14 : decode cX8_put 14 = .ok (.aload 4, 2) := by decide +kernel
theorem dX8_put_16 : decode cX8_put 16 = .ok (.ifnull 15, 3) := by decide +kernel
theorem dX8_put_19 : decode cX8_put 19 = .ok (.aload 5, 2) := by decide +kernel
theorem dX8_put_21 : decode cX8_put 21 = .ok (.ifnull 10, 3) := by decide +kernel
theorem dX8_put_24 : decode cX8_put 24 = .ok (.iload_n 3, 1) := by decide +kernel
theorem dX8_put_25 : decode cX8_put 25 = .ok (.invokestatic 189, 3) := by decide +kernel
theorem dX8_put_28 : decode cX8_put 28 = .ok (.ifCond .ne 5, 3) := by decide +kernel
theorem dX8_put_31 : decode cX8_put 31 = .ok (.iconst (-1), 1) := by decide +kernel
theorem dX8_put_32 : decode cX8_put 32 = .ok (.ireturn, 1) := by decide +kernel
theorem dX8_put_33 : decode cX8_put 33 = .ok (.aload 4, 2) := by decide +kernel
theorem dX8_put_35 : decode cX8_put 35 = .ok (.getfield 192, 3) := by decide +kernel
theorem dX8_put_38 : decode cX8_put 38 = .ok (.ifCond .eq 6, 3) := by decide +kernel
theorem dX8_put_41 : decode cX8_put 41 = .ok (.bipush (-6), 2) := by decide +kernel
theorem dX8_put_43 : decode cX8_put 43 = .ok (.ireturn, 1) := by decide +kernel
theorem dX8_put_44 : decode cX8_put 44 = .ok (.aload_n 0, 1) := by decide +kernel
theorem dX8_put_45 : decode cX8_put 45 = .ok (.aload 5, 2) := by decide +kernel
theorem dX8_put_47 : decode cX8_put 47 = .ok (.iconst 0, 1) := by decide +kernel
theorem dX8_put_48 : decode cX8_put 48 = .ok (.invokevirtual 155, 3) := by decide +kernel
theorem dX8_put_51 : decode cX8_put 51 = .ok (.ifCond .eq 6, 3) := by decide +kernel
theorem dX8_put_54 : decode cX8_put 54 = .ok (.bipush (-5), 2) := by decide +kernel
theorem dX8_put_56 : decode cX8_put 56 = .ok (.ireturn, 1) := by decide +kernel
theorem dX8_put_57 : decode cX8_put 57 = .ok (.aload 4, 2) := by decide +kernel
theorem dX8_put_59 : decode cX8_put 59 = .ok (.getfield 195, 3) := by decide +kernel
theorem dX8_put_62 : decode cX8_put 62 = .ok (.bipush 6, 2) := by decide +kernel
theorem dX8_put_64 : decode cX8_put 64 = .ok (.if_icmp .lt 6, 3) := by decide +kernel
theorem dX8_put_67 : decode cX8_put 67 = .ok (.bipush (-2), 2) := by decide +kernel
theorem dX8_put_69 : decode cX8_put 69 = .ok (.ireturn, 1) := by decide +kernel
theorem dX8_put_70 : decode cX8_put 70 = .ok (.aload 4, 2) := by decide +kernel
theorem dX8_put_72 : decode cX8_put 72 = .ok (.aload 5, 2) := by decide +kernel
theorem dX8_put_74 : decode cX8_put 74 = .ok (.iload_n 3, 1) := by decide +kernel
theorem dX8_put_75 : decode cX8_put 75 = .ok (.invokevirtual 196, 3) := by decide +kernel
theorem dX8_put_78 : decode cX8_put 78 = .ok (.aload 4, 2) := by decide +kernel
theorem dX8_put_80 : decode cX8_put 80 = .ok (.getfield 195, 3) := by decide +kernel
theorem dX8_put_83 : decode cX8_put 83 = .ok (.ireturn, 1) := by decide +kernel
theorem dX8_out_0 : decode cX8_out 0 = .ok (.aload_n 0, 1) := by decide +kernel
theorem dX8_out_1 : decode cX8_out 1 = .ok (.iload_n 1, 1) := by decide +kernel
theorem dX8_out_2 : decode cX8_out 2 = .ok (.invokevirtual 185, 3) := by decide +kernel
theorem dX8_out_5 : decode cX8_out 5 = .ok (.astore_n 3, 1) := by decide +kernel
theorem dX8_out_6 : decode cX8_out 6 = .ok (.aload_n 3, 1) := by decide +kernel
theorem dX8_out_7 : decode cX8_out 7 = .ok (.ifnull 11, 3) := by decide +kernel
theorem dX8_out_10 : decode cX8_out 10 = .ok (.aload_n 3, 1) := by decide +kernel
theorem dX8_out_11 : decode cX8_out 11 = .ok (.iload_n 2, 1) := by decide +kernel
theorem dX8_out_12 : decode cX8_out 12 = .ok (.invokevirtual 199, 3) := by decide +kernel
theorem dX8_out_15 : decode cX8_out 15 = .ok (.ifCond .ne 5, 3) := by decide +kernel
theorem dX8_out_18 : decode cX8_out 18 = .ok (.iconst (-1), 1) := by decide +kernel
theorem dX8_out_19 : decode cX8_out 19 = .ok (.ireturn, 1) := by decide +kernel
theorem dX8_out_20 : decode cX8_out 20 = .ok (.aload_n 3, 1) := by decide +kernel
theorem dX8_out_21 : decode cX8_out 21 = .ok (.getfield 192, 3) := by decide +kernel
theorem dX8_out_24 : decode cX8_out 24 = .ok (.ifCond .eq 6, 3) := by decide +kernel
theorem dX8_out_27 : decode cX8_out 27 = .ok (.bipush (-6), 2) := by decide +kernel
theorem dX8_out_29 : decode cX8_out 29 = .ok (.ireturn, 1) := by decide +kernel
theorem dX8_out_30 : decode cX8_out 30 = .ok (.aload_n 3, 1) := by decide +kernel
theorem dX8_out_31 : decode cX8_out 31 = .ok (.iload_n 2, 1) := by decide +kernel
theorem dX8_out_32 : decode cX8_out 32 = .ok (.invokevirtual 200, 3) := by decide +kernel
theorem dX8_out_35 : decode cX8_out 35 = .ok (.aload_n 3, 1) := by decide +kernel
theorem dX8_out_36 : decode cX8_out 36 = .ok (.getfield 195, 3) := by decide +kernel
theorem dX8_out_39 : decode cX8_out 39 = .ok (.ireturn, 1) := by decide +kernel
theorem dX8_pause_0 : decode cX8_pause 0 = .ok (.aload_n 0, 1) := by decide +kernel
theorem dX8_pause_1 : decode cX8_pause 1 = .ok (.iload_n 1, 1) := by decide +kernel
theorem dX8_pause_2 : decode cX8_pause 2 = .ok (.invokevirtual 185, 3) := by decide +kernel
theorem dX8_pause_5 : decode cX8_pause 5 = .ok (.astore 4, 2) := by decide +kernel
theorem dX8_pause_7 : decode cX8_pause 7 = .ok (.aload 4, 2) := by decide +kernel
theorem dX8_pause_9 : decode cX8_pause 9 = .ok (.ifnull 19, 3) := by decide +kernel
theorem dX8_pause_12 : decode cX8_pause 12 = .ok (.aload 4, 2) := by decide +kernel
theorem dX8_pause_14 : decode cX8_pause 14 = .ok (.iload_n 2, 1) := by decide +kernel
theorem dX8_pause_15 : decode cX8_pause 15 = .ok (.invokevirtual 199, 3) := by decide +kernel
theorem dX8_pause_18 : decode cX8_pause 18 = .ok (.ifCond .eq 10, 3) := by decide +kernel
theorem dX8_pause_21 : decode cX8_pause 21 = .ok (.iload_n 3, 1) := by decide +kernel
theorem dX8_pause_22 : decode cX8_pause 22 = .ok (.invokestatic 189, 3) := by decide +kernel
theorem dX8_pause_25 : decode cX8_pause 25 = .ok (.ifCond .ne 5, 3) := by decide +kernel
theorem dX8_pause_28 : decode cX8_pause 28 = .ok (.iconst (-1), 1) := by decide +kernel
theorem dX8_pause_29 : decode cX8_pause 29 = .ok (.ireturn, 1) := by decide +kernel
theorem dX8_pause_30 : decode cX8_pause 30 = .ok (.aload 4, 2) := by decide +kernel
theorem dX8_pause_32 : decode cX8_pause 32 = .ok (.getfield 192, 3) := by decide +kernel
theorem dX8_pause_35 : decode cX8_pause 35 = .ok (.ifCond .eq 6, 3) := by decide +kernel
theorem dX8_pause_38 : decode cX8_pause 38 = .ok (.bipush (-6), 2) := by decide +kernel
theorem dX8_pause_40 : decode cX8_pause 40 = .ok (.ireturn, 1) := by decide +kernel
theorem dX8_pause_41 : decode cX8_pause 41 = .ok (.aload 4, 2) := by decide +kernel
theorem dX8_pause_43 : decode cX8_pause 43 = .ok (.getfield 203, 3) := by decide +kernel
theorem dX8_pause_46 : decode cX8_pause 46 = .ok (.iload_n 2, 1) := by decide +kernel
theorem dX8_pause_47 : decode cX8_pause 47 = .ok (.iload_n 3, 1) := by decide +kernel
theorem dX8_pause_48 : decode cX8_pause 48 = .ok (.iastore, 1) := by decide +kernel
theorem dX8_pause_49 : decode cX8_pause 49 = .ok (.iconst 1, 1) := by decide +kernel
theorem dX8_pause_50 : decode cX8_pause 50 = .ok (.ireturn, 1) := by decide +kernel
theorem dX8_start_0 : decode cX8_start 0 = .ok (.aload_n 0, 1) := by decide +kernel
theorem dX8_start_1 : decode cX8_start 1 = .ok (.iload_n 1, 1) := by decide +kernel
theorem dX8_start_2 : decode cX8_start 2 = .ok (.invokevirtual 185, 3) := by decide +kernel
theorem dX8_start_5 : decode cX8_start 5 = .ok (.astore_n 3, 1) := by decide +kernel
theorem dX8_start_6 : decode cX8_start 6 = .ok (.aload_n 3, 1) := by decide +kernel
theorem dX8_start_7 : decode cX8_start 7 = .ok (.ifnull 14, 3) := by decide +kernel
theorem dX8_start_10 : decode cX8_start 10 = .ok (.iload_n 2, 1) := by decide +kernel
theorem dX8_start_11 : decode cX8_start 11 = .ok (.ldc 206, 2) := by decide +kernel
theorem dX8_start_13 : decode cX8_start 13 = .ok (.ldc 207, 2) := by decide +kernel
theorem dX8_start_15 : decode cX8_start 15 = .ok (.invokestatic 95, 3) := by decide +kernel
theorem dX8_start_18 : decode cX8_start 18 = .ok (.ifCond .ne 5, 3) := by decide +kernel
theorem dX8_start_21 : decode cX8_start 21 = .ok (.iconst (-1), 1) := by decide +kernel
theorem dX8_start_22 : decode cX8_start 22 = .ok (.ireturn, 1) := by decide +kernel
theorem dX8_start_23 : decode cX8_start 23 = .ok (.aload_n 3, 1) := by decide +kernel
theorem dX8_start_24 : decode cX8_start 24 = .ok (.getfield 192, 3) := by decide +kernel
theorem dX8_start_27 : decode cX8_start 27 = .ok (.ifCond .eq 6, 3) := by decide +kernel
theorem dX8_start_30 : decode cX8_start 30 = .ok (.bipush (-6), 2) := by decide +kernel
theorem dX8_start_32 : decode cX8_start 32 = .ok (.ireturn, 1) := by decide +kernel
theorem dX8_start_33 : decode cX8_start 33 = .ok (.aload_n 3, 1) := by decide +kernel
theorem dX8_start_34 : decode cX8_start 34 = .ok (.iload_n 2, 1) := by decide +kernel
theorem dX8_start_35 : decode cX8_start 35 = .ok (.putfield 208, 3) := by decide +kernel
theorem dX8_start_38 : decode cX8_start 38 = .ok (.iconst 1, 1) := by decide +kernel
theorem dX8_start_39 : decode cX8_start 39 = .ok (.ireturn, 1) := by decide +kernel
theorem dX8_in_0 : decode cX8_in 0 = .ok (.aload_n 0, 1) := by decide +kernel
theorem dX8_in_1 : decode cX8_in 1 = .ok (.iload_n 1, 1) := by decide +kernel
theorem dX8_in_2 : decode cX8_in 2 = .ok (.invokevirtual 185, 3) := by decide +kernel
theorem dX8_in_5 : decode cX8_in 5 = .ok (.astore_n 3, 1) := by decide +kernel
theorem dX8_in_6 : decode cX8_in 6 = .ok (.aload_n 3, 1) := by decide +kernel
theorem dX8_in_7 : decode cX8_in 7 = .ok (.ifnonnull 7, 3) := by decide +kernel
theorem dX8_in_10 : decode cX8_in 10 = .ok (.iconst (-1), 1) := by decide +kernel
theorem dX8_in_11 : decode cX8_in 11 = .ok (.goto 8, 3) := by decide +kernel
theorem dX8_in_14 : decode cX8_in 14 = .ok (.aload_n 3, 1) := by decide +kernel
theorem dX8_in_15 : decode cX8_in 15 = .ok (.iload_n 2, 1) := by decide +kernel
theorem dX8_in_16 : decode cX8_in 16 = .ok (.invokevirtual 211, 3) := by decide +kernel
theorem dX8_in_19 : decode cX8_in 19 = .ok (.ireturn, 1) := by decide +kernel
theorem dX8_where_0 : decode cX8_where 0 = .ok (.aload_n 0, 1) := by decide +kernel
theorem dX8_where_1 : decode cX8_where 1 = .ok (.iload_n 1, 1) := by decide +kernel
theorem dX8_where_2 : decode cX8_where 2 = .ok (.invokevirtual 185, 3) := by decide +kernel
theorem dX8_where_5 : decode cX8_where 5 = .ok (.astore 5, 2) := by decide +kernel
theorem dX8_where_7 : decode cX8_where 7 = .ok (.aload 5, 2) := by decide +kernel
theorem dX8_where_9 : decode cX8_where 9 = .ok (.ifnull 33, 3) := by decide +kernel
theorem dX8_where_12 : decode cX8_where 12 = .ok (.aload 5, 2) := by decide +kernel
theorem dX8_where_14 : decode cX8_where 14 = .ok (.iload_n 2, 1) := by decide +kernel
theorem dX8_where_15 : decode cX8_where 15 = .ok (.invokevirtual 199, 3) := by decide +kernel
theorem dX8_where_18 : decode cX8_where 18 = .ok (.ifCond .eq 24, 3) := by decide +kernel
theorem dX8_where_21 : decode cX8_where 21 = .ok (.iload_n 3, 1) := by decide +kernel
theorem dX8_where_22 : decode cX8_where 22 = .ok (.iconst 0, 1) := by decide +kernel
theorem dX8_where_23 : decode cX8_where 23 = .ok (.sipush 1000, 3) := by decide +kernel
theorem dX8_where_26 : decode cX8_where 26 = .ok (.invokestatic 95, 3) := by decide +kernel
theorem dX8_where_29 : decode cX8_where 29 = .ok (.ifCond .eq 13, 3) := by decide +kernel
theorem dX8_where_32 : decode cX8_where 32 = .ok (.iload 4, 2) := by decide +kernel
theorem dX8_where_34 : decode cX8_where 34 = .ok (.iconst 0, 1) := by decide +kernel
theorem dX8_where_35 : decode cX8_where 35 = .ok (.iconst 3, 1) := by decide +kernel
theorem dX8_where_36 : decode cX8_where 36 = .ok (.invokestatic 95, 3) := by decide +kernel
theorem dX8_where_39 : decode cX8_where 39 = .ok (.ifCond .ne 6, 3) := by decide +kernel
theorem dX8_where_42 : decode cX8_where 42 = .ok (.ldc 212, 2) := by decide +kernel
theorem dX8_where_44 : decode cX8_where 44 = .ok (.ireturn, 1) := by decide +kernel
theorem dX8_where_45 : decode cX8_where 45 = .ok (.aload_n 0, 1) := by decide +kernel
theorem dX8_where_46 : decode cX8_where 46 = .ok (.getfield 62, 3) := by decide +kernel
theorem dX8_where_49 : decode cX8_where 49 = .ok (.iconst 0, 1) := by decide +kernel
theorem dX8_where_50 : decode cX8_where 50 = .ok (.aaload, 1) := by decide +kernel
theorem dX8_where_51 : decode cX8_where 51 = .ok (.astore 6, 2) := by decide +kernel
theorem dX8_where_53 : decode cX8_where 53 = .ok (.aload 6, 2) := by decide +kernel
theorem dX8_where_55 : decode cX8_where 55 = .ok (.aload 5, 2) := by decide +kernel
theorem dX8_where_57 : decode cX8_where 57 = .ok (.getfield 213, 3) := by decide +kernel
theorem dX8_where_60 : decode cX8_where 60 = .ok (.iload_n 2, 1) := by decide +kernel
theorem dX8_where_61 : decode cX8_where 61 = .ok (.aaload, 1) := by decide +kernel
theorem dX8_where_62 : decode cX8_where 62 = .ok (.aload 5, 2) := by decide +kernel
theorem dX8_where_64 : decode cX8_where 64 = .ok (.getfield 214, 3) := by decide +kernel
theorem dX8_where_67 : decode cX8_where 67 = .ok (.aload 5, 2) := by decide +kernel
theorem dX8_where_69 : decode cX8_where 69 = .ok (.getfield 218, 3) := by decide +kernel
theorem dX8_where_72 : decode cX8_where 72 = .ok (.invokevirtual 219, 3) := by decide +kernel
theorem dX8_where_75 : decode cX8_where 75 = .ok (.iload_n 3, 1) := by decide +kernel
theorem dX8_where_76 : decode cX8_where 76 = .ok (.aload 6, 2) := by decide +kernel
theorem dX8_where_78 : decode cX8_where 78 = .ok (.getfield 223, 3) := by decide +kernel
theorem dX8_where_81 : decode cX8_where 81 = .ok (.invokestatic 226, 3) := by decide +kernel
theorem dX8_where_84 : decode cX8_where 84 = .ok (.istore 7, 2) := by decide +kernel
theorem dX8_where_86 : decode cX8_where 86 = .ok (.iload 4, 2) := by decide +kernel
theorem dX8_where_88 : decode cX8_where 88 = .ok (.tableswitch 62 0 2 #[28, 44, 53], 28) := by decide +kernel
theorem dX8_where_116 : decode cX8_where 116 = .ok (.aload 5, 2) := by decide +kernel
theorem dX8_where_118 : decode cX8_where 118 = .ok (.iload_n 2, 1) := by decide +kernel
theorem dX8_where_119 : decode cX8_where 119 = .ok (.invokevirtual 232, 3) := by decide +kernel
theorem dX8_where_122 : decode cX8_where 122 = .ok (.aload 6, 2) := by decide +kernel
theorem dX8_where_124 : decode cX8_where 124 = .ok (.getfield 235, 3) := by decide +kernel
theorem dX8_where_127 : decode cX8_where 127 = .ok (.iload 7, 2) := by decide +kernel
theorem dX8_where_129 : decode cX8_where 129 = .ok (.iaload, 1) := by decide +kernel
theorem dX8_where_130 : decode cX8_where 130 = .ok (.iadd, 1) := by decide +kernel
theorem dX8_where_131 : decode cX8_where 131 = .ok (.ireturn, 1) := by decide +kernel
theorem dX8_where_132 : decode cX8_where 132 = .ok (.aload 6, 2) := by decide +kernel
theorem dX8_where_134 : decode cX8_where 134 = .ok (.getfield 238, 3) := by decide +kernel
theorem dX8_where_137 : decode cX8_where 137 = .ok (.iload 7, 2) := by decide +kernel
theorem dX8_where_139 : decode cX8_where 139 = .ok (.iaload, 1) := by decide +kernel
theorem dX8_where_140 : decode cX8_where 140 = .ok (.ireturn, 1) := by decide +kernel
theorem dX8_where_141 : decode cX8_where 141 = .ok (.aload 6, 2) := by decide +kernel
theorem dX8_where_143 : decode cX8_where 143 = .ok (.getfield 241, 3) := by decide +kernel
theorem dX8_where_146 : decode cX8_where 146 = .ok (.iload 7, 2) := by decide +kernel
theorem dX8_where_148 : decode cX8_where 148 = .ok (.iaload, 1) := by decide +kernel
theorem dX8_where_149 : decode cX8_where 149 = .ok (.ireturn, 1) := by decide +kernel
theorem dX8_where_150 : decode cX8_where 150 = .ok (.aload 6, 2) := by decide +kernel
theorem dX8_where_152 : decode cX8_where 152 = .ok (.iload 7, 2) := by decide +kernel
theorem dX8_where_154 : decode cX8_where 154 = .ok (.invokevirtual 244, 3) := by decide +kernel
theorem dX8_where_157 : decode cX8_where 157 = .ok (.ireturn, 1) := by decide +kernel
theorem dX8_near_0 : decode cX8_near 0 = .ok (.aload_n 0, 1) := by decide +kernel
theorem dX8_near_1 : decode cX8_near 1 = .ok (.iload_n 1, 1) := by decide +kernel
theorem dX8_near_2 : decode cX8_near 2 = .ok (.invokevirtual 185, 3) := by decide +kernel
theorem dX8_near_5 : decode cX8_near 5 = .ok (.astore 4, 2) := by decide +kernel
theorem dX8_near_7 : decode cX8_near 7 = .ok (.aload 4, 2) := by decide +kernel
theorem dX8_near_9 : decode cX8_near 9 = .ok (.ifnull 26, 3) := by decide +kernel
theorem dX8_near_12 : decode cX8_near 12 = .ok (.aload 4, 2) := by decide +kernel
theorem dX8_near_14 : decode cX8_near 14 = .ok (.iload_n 2, 1) := by decide +kernel
theorem dX8_near_15 : decode cX8_near 15 = .ok (.invokevirtual 199, 3) := by decide +kernel
theorem dX8_near_18 : decode cX8_near 18 = .ok (.ifCond .eq 17, 3) := by decide +kernel
theorem dX8_near_21 : decode cX8_near 21 = .ok (.aload 4, 2) := by decide +kernel
theorem dX8_near_23 : decode cX8_near 23 = .ok (.iload_n 3, 1) := by decide +kernel
theorem dX8_near_24 : decode cX8_near 24 = .ok (.invokevirtual 199, 3) := by decide +kernel
theorem dX8_near_27 : decode cX8_near 27 = .ok (.ifCond .eq 8, 3) := by decide +kernel
theorem dX8_near_30 : decode cX8_near 30 = .ok (.iload_n 2, 1) := by decide +kernel
theorem dX8_near_31 : decode cX8_near 31 = .ok (.iload_n 3, 1) := by decide +kernel
theorem dX8_near_32 : decode cX8_near 32 = .ok (.if_icmp .ne 7, 3) := by decide +kernel
theorem dX8_near_35 : decode cX8_near 35 = .ok (.ldc2_w 247, 3) := by decide +kernel
theorem dX8_near_38 : decode cX8_near 38 = .ok (.lreturn, 1) := by decide +kernel
theorem dX8_near_39 : decode cX8_near 39 = .ok (.iload_n 2, 1) := by decide +kernel
theorem dX8_near_40 : decode cX8_near 40 = .ok (.iload_n 3, 1) := by decide +kernel
theorem dX8_near_41 : decode cX8_near 41 = .ok (.invokestatic 226, 3) := by decide +kernel
theorem dX8_near_44 : decode cX8_near 44 = .ok (.istore 5, 2) := by decide +kernel
theorem dX8_near_46 : decode cX8_near 46 = .ok (.iload_n 2, 1) := by decide +kernel
theorem dX8_near_47 : decode cX8_near 47 = .ok (.iload_n 3, 1) := by decide +kernel
theorem dX8_near_48 : decode cX8_near 48 = .ok (.invokestatic 249, 3) := by decide +kernel
theorem dX8_near_51 : decode cX8_near 51 = .ok (.istore 6, 2) := by decide +kernel
theorem dX8_near_53 : decode cX8_near 53 = .ok (.aload_n 0, 1) := by decide +kernel
theorem dX8_near_54 : decode cX8_near 54 = .ok (.getfield 62, 3) := by decide +kernel
theorem dX8_near_57 : decode cX8_near 57 = .ok (.iconst 0, 1) := by decide +kernel
theorem dX8_near_58 : decode cX8_near 58 = .ok (.aaload, 1) := by decide +kernel
theorem dX8_near_59 : decode cX8_near 59 = .ok (.aload 4, 2) := by decide +kernel
theorem dX8_near_61 : decode cX8_near 61 = .ok (.getfield 213, 3) := by decide +kernel
theorem dX8_near_64 : decode cX8_near 64 = .ok (.iload 5, 2) := by decide +kernel
theorem dX8_near_66 : decode cX8_near 66 = .ok (.aaload, 1) := by decide +kernel
theorem dX8_near_67 : decode cX8_near 67 = .ok (.aload 4, 2) := by decide +kernel
theorem dX8_near_69 : decode cX8_near 69 = .ok (.getfield 214, 3) := by decide +kernel
theorem dX8_near_72 : decode cX8_near 72 = .ok (.aload 4, 2) := by decide +kernel
theorem dX8_near_74 : decode cX8_near 74 = .ok (.getfield 218, 3) := by decide +kernel
theorem dX8_near_77 : decode cX8_near 77 = .ok (.invokevirtual 219, 3) := by decide +kernel
theorem dX8_near_80 : decode cX8_near 80 = .ok (.aload_n 0, 1) := by decide +kernel
theorem dX8_near_81 : decode cX8_near 81 = .ok (.getfield 62, 3) := by decide +kernel
theorem dX8_near_84 : decode cX8_near 84 = .ok (.iconst 1, 1) := by decide +kernel
theorem dX8_near_85 : decode cX8_near 85 = .ok (.aaload, 1) := by decide +kernel
theorem dX8_near_86 : decode cX8_near 86 = .ok (.aload 4, 2) := by decide +kernel
theorem dX8_near_88 : decode cX8_near 88 = .ok (.getfield 213, 3) := by decide +kernel
theorem dX8_near_91 : decode cX8_near 91 = .ok (.iload 6, 2) := by decide +kernel
theorem dX8_near_93 : decode cX8_near 93 = .ok (.aaload, 1) := by decide +kernel
theorem dX8_near_94 : decode cX8_near 94 = .ok (.aload 4, 2) := by decide +kernel
theorem dX8_near_96 : decode cX8_near 96 = .ok (.getfield 214, 3) := by decide +kernel
theorem dX8_near_99 : decode cX8_near 99 = .ok (.aload 4, 2) := by decide +kernel
theorem dX8_near_101 : decode cX8_near 101 = .ok (.getfield 218, 3) := by decide +kernel
theorem dX8_near_104 : decode cX8_near 104 = .ok (.invokevirtual 219, 3) := by decide +kernel
theorem dX8_near_107 : decode cX8_near 107 = .ok (.aload 4, 2) := by decide +kernel
theorem dX8_near_109 : decode cX8_near 109 = .ok (.iload 6, 2) := by decide +kernel
theorem dX8_near_111 : decode cX8_near 111 = .ok (.invokevirtual 252, 3) := by decide +kernel
theorem dX8_near_114 : decode cX8_near 114 = .ok (.aload 4, 2) := by decide +kernel
theorem dX8_near_116 : decode cX8_near 116 = .ok (.iload 5, 2) := by decide +kernel
theorem dX8_near_118 : decode cX8_near 118 = .ok (.invokevirtual 252, 3) := by decide +kernel
theorem dX8_near_121 : decode cX8_near 121 = .ok (.isub, 1) := by decide +kernel
theorem dX8_near_122 : decode cX8_near 122 = .ok (.istore 7, 2) := by decide +kernel
theorem dX8_near_124 : decode cX8_near 124 = .ok (.aload_n 0, 1) := by decide +kernel
theorem dX8_near_125 : decode cX8_near 125 = .ok (.getfield 62, 3) := by decide +kernel
theorem dX8_near_128 : decode cX8_near 128 = .ok (.iconst 0, 1) := by decide +kernel
theorem dX8_near_129 : decode cX8_near 129 = .ok (.aaload, 1) := by decide +kernel
theorem dX8_near_130 : decode cX8_near 130 = .ok (.aload_n 0, 1) := by decide +kernel
theorem dX8_near_131 : decode cX8_near 131 = .ok (.getfield 62, 3) := by decide +kernel
theorem dX8_near_134 : decode cX8_near 134 = .ok (.iconst 1, 1) := by decide +kernel
theorem dX8_near_135 : decode cX8_near 135 = .ok (.aaload, 1) := by decide +kernel
theorem dX8_near_136 : decode cX8_near 136 = .ok (.iload 7, 2) := by decide +kernel
theorem dX8_near_138 : decode cX8_near 138 = .ok (.aload 4, 2) := by decide +kernel
theorem dX8_near_140 : decode cX8_near 140 = .ok (.getfield 214, 3) := by decide +kernel
theorem dX8_near_143 : decode cX8_near 143 = .ok (.getfield 255, 3) := by decide +kernel
theorem dX8_near_146 : decode cX8_near 146 = .ok (.lconst 0, 1) := by decide +kernel
theorem dX8_near_147 : decode cX8_near 147 = .ok (.invokevirtual 258, 3) := by decide +kernel
theorem dX8_near_150 : decode cX8_near 150 = .ok (.lreturn, 1) := by decide +kernel
theorem dX8_between_0 : decode cX8_between 0 = .ok (.aload_n 0, 1) := by decide +kernel
theorem dX8_between_1 : decode cX8_between 1 = .ok (.iload_n 1, 1) := by decide +kernel
theorem dX8_between_2 : decode cX8_between 2 = .ok (.invokevirtual 173, 3) := by decide +kernel
theorem dX8_between_5 : decode cX8_between 5 = .ok (.astore 4, 2) := by decide +kernel
theorem dX8_between_7 : decode cX8_between 7 = .ok (.aload_n 0, 1) := by decide +kernel
theorem dX8_between_8 : decode cX8_between 8 = .ok (.iload_n 2, 1) := by decide +kernel
theorem dX8_between_9 : decode cX8_between 9 = .ok (.invokevirtual 151, 3) := by decide +kernel
theorem dX8_between_12 : decode cX8_between 12 = .ok (.astore 5, 2) := by decide +kernel
theorem dX8_between_14 : decode cX8_between 14 = .ok (.aload_n 0, 1) := by decide +kernel
theorem dX8_between_15 : decode cX8_between 15 = .ok (.iload_n 3, 1) := by decide +kernel
theorem dX8_between_16 : decode cX8_between 16 = .ok (.invokevirtual 151, 3) := by decide +kernel
theorem dX8_between_19 : decode cX8_between 19 = .ok (.astore 6, 2) := by decide +kernel
theorem dX8_between_21 : decode cX8_between 21 = .ok (.aload 4, 2) := by decide +kernel
theorem dX8_between_23 : decode cX8_between 23 = .ok (.ifnull 20, 3) := by decide +kernel
theorem dX8_between_26 : decode cX8_between 26 = .ok (.aload 5, 2) := by decide +kernel
theorem dX8_between_28 : decode cX8_between 28 = .ok (.ifnull 15, 3) := by decide +kernel
theorem dX8_between_31 : decode cX8_between 31 = .ok (.aload 6, 2) := by decide +kernel
theorem dX8_between_33 : decode cX8_between 33 = .ok (.ifnull 10, 3) := by decide +kernel
theorem dX8_between_36 : decode cX8_between 36 = .ok (.aload 5, 2) := by decide +kernel
theorem dX8_between_38 : decode cX8_between 38 = .ok (.aload 6, 2) := by decide +kernel
theorem dX8_between_40 : decode cX8_between 40 = .ok (.if_acmp .ne 5, 3) := by decide +kernel
theorem dX8_between_43 : decode cX8_between 43 = .ok (.iconst (-1), 1) := by decide +kernel
theorem dX8_between_44 : decode cX8_between 44 = .ok (.ireturn, 1) := by decide +kernel
theorem dX8_between_45 : decode cX8_between 45 = .ok (.aload_n 0, 1) := by decide +kernel
theorem dX8_between_46 : decode cX8_between 46 = .ok (.getfield 62, 3) := by decide +kernel
theorem dX8_between_49 : decode cX8_between 49 = .ok (.iconst 0, 1) := by decide +kernel
theorem dX8_between_50 : decode cX8_between 50 = .ok (.aaload, 1) := by decide +kernel
theorem dX8_between_51 : decode cX8_between 51 = .ok (.aload 5, 2) := by decide +kernel
theorem dX8_between_53 : decode cX8_between 53 = .ok (.aload 4, 2) := by decide +kernel
theorem dX8_between_55 : decode cX8_between 55 = .ok (.aload_n 0, 1) := by decide +kernel
theorem dX8_between_56 : decode cX8_between 56 = .ok (.getfield 20, 3) := by decide +kernel
theorem dX8_between_59 : decode cX8_between 59 = .ok (.invokevirtual 219, 3) := by decide +kernel
theorem dX8_between_62 : decode cX8_between 62 = .ok (.aload_n 0, 1) := by decide +kernel
theorem dX8_between_63 : decode cX8_between 63 = .ok (.getfield 62, 3) := by decide +kernel
theorem dX8_between_66 : decode cX8_between 66 = .ok (.iconst 1, 1) := by decide +kernel
theorem dX8_between_67 : decode cX8_between 67 = .ok (.aaload, 1) := by decide +kernel
theorem dX8_between_68 : decode cX8_between 68 = .ok (.aload 6, 2) := by decide +kernel
theorem dX8_between_70 : decode cX8_between 70 = .ok (.aload 4, 2) := by decide +kernel
theorem dX8_between_72 : decode cX8_between 72 = .ok (.aload_n 0, 1) := by decide +kernel
theorem dX8_between_73 : decode cX8_between 73 = .ok (.getfield 20, 3) := by decide +kernel
theorem dX8_between_76 : decode cX8_between 76 = .ok (.invokevirtual 219, 3) := by decide +kernel
theorem dX8_between_79 : decode cX8_between 79 = .ok (.aload_n 0, 1) := by decide +kernel
theorem dX8_between_80 : decode cX8_between 80 = .ok (.aload_n 0, 1) := by decide +kernel
theorem dX8_between_81 : decode cX8_between 81 = .ok (.getfield 62, 3) := by decide +kernel
theorem dX8_between_84 : decode cX8_between 84 = .ok (.iconst 0, 1) := by decide +kernel
theorem dX8_between_85 : decode cX8_between 85 = .ok (.aaload, 1) := by decide +kernel
theorem dX8_between_86 : decode cX8_between 86 = .ok (.aload_n 0, 1) := by decide +kernel
theorem dX8_between_87 : decode cX8_between 87 = .ok (.getfield 62, 3) := by decide +kernel
theorem dX8_between_90 : decode cX8_between 90 = .ok (.iconst 1, 1) := by decide +kernel
theorem dX8_between_91 : decode cX8_between 91 = .ok (.aaload, 1) := by decide +kernel
theorem dX8_between_92 : decode cX8_between 92 = .ok (.aload 4, 2) := by decide +kernel
theorem dX8_between_94 : decode cX8_between 94 = .ok (.getfield 255, 3) := by decide +kernel
theorem dX8_between_97 : decode cX8_between 97 = .ok (.invokevirtual 262, 3) := by decide +kernel
theorem dX8_between_100 : decode cX8_between 100 = .ok (.istore 7, 2) := by decide +kernel
theorem dX8_between_102 : decode cX8_between 102 = .ok (.iload 7, 2) := by decide +kernel
theorem dX8_between_104 : decode cX8_between 104 = .ok (.ifCond .ne 8, 3) := by decide +kernel
theorem dX8_between_107 : decode cX8_between 107 = .ok (.bipush (-7), 2) := by decide +kernel
theorem dX8_between_109 : decode cX8_between 109 = .ok (.goto 5, 3) := by decide +kernel
theorem dX8_between_112 : decode cX8_between 112 = .ok (.iload 7, 2) := by decide +kernel
theorem dX8_between_114 : decode cX8_between 114 = .ok (.ireturn, 1) := by decide +kernel
theorem dX8_order_0 : decode cX8_order 0 = .ok (.aload_n 0, 1) := by decide +kernel
theorem dX8_order_1 : decode cX8_order 1 = .ok (.iload_n 1, 1) := by decide +kernel
theorem dX8_order_2 : decode cX8_order 2 = .ok (.invokevirtual 185, 3) := by decide +kernel
theorem dX8_order_5 : decode cX8_order 5 = .ok (.astore_n 2, 1) := by decide +kernel
theorem dX8_order_6 : decode cX8_order 6 = .ok (.aload_n 2, 1) := by decide +kernel
theorem dX8_order_7 : decode cX8_order 7 = .ok (.ifnonnull 5, 3) := by decide +kernel
theorem dX8_order_10 : decode cX8_order 10 = .ok (.iconst (-1), 1) := by decide +kernel
theorem dX8_order_11 : decode cX8_order 11 = .ok (.ireturn, 1) := by decide +kernel
theorem dX8_order_12 : decode cX8_order 12 = .ok (.aload_n 2, 1) := by decide +kernel
theorem dX8_order_13 : decode cX8_order 13 = .ok (.getfield 192, 3) := by decide +kernel
theorem dX8_order_16 : decode cX8_order 16 = .ok (.ifCond .eq 6, 3) := by decide +kernel
theorem dX8_order_19 : decode cX8_order 19 = .ok (.bipush (-6), 2) := by decide +kernel
theorem dX8_order_21 : decode cX8_order 21 = .ok (.ireturn, 1) := by decide +kernel
theorem dX8_order_22 : decode cX8_order 22 = .ok (.aload_n 2, 1) := by decide +kernel
theorem dX8_order_23 : decode cX8_order 23 = .ok (.getfield 195, 3) := by decide +kernel
theorem dX8_order_26 : decode cX8_order 26 = .ok (.ifCond .ne 6, 3) := by decide +kernel
theorem dX8_order_29 : decode cX8_order 29 = .ok (.bipush (-7), 2) := by decide +kernel
theorem dX8_order_31 : decode cX8_order 31 = .ok (.ireturn, 1) := by decide +kernel
theorem dX8_order_32 : decode cX8_order 32 = .ok (.aload_n 0, 1) := by decide +kernel
theorem dX8_order_33 : decode cX8_order 33 = .ok (.aload_n 2, 1) := by decide +kernel
theorem dX8_order_34 : decode cX8_order 34 = .ok (.invokevirtual 266, 3) := by decide +kernel
theorem dX8_order_37 : decode cX8_order 37 = .ok (.aload_n 0, 1) := by decide +kernel
theorem dX8_order_38 : decode cX8_order 38 = .ok (.getfield 69, 3) := by decide +kernel
theorem dX8_order_41 : decode cX8_order 41 = .ok (.aload_n 2, 1) := by decide +kernel
theorem dX8_order_42 : decode cX8_order 42 = .ok (.invokevirtual 270, 3) := by decide +kernel
theorem dX8_order_45 : decode cX8_order 45 = .ok (.aload_n 0, 1) := by decide +kernel
theorem dX8_order_46 : decode cX8_order 46 = .ok (.getfield 69, 3) := by decide +kernel
theorem dX8_order_49 : decode cX8_order 49 = .ok (.invokevirtual 272, 3) := by decide +kernel
theorem dX8_order_52 : decode cX8_order 52 = .ok (.ifCond .ne 6, 3) := by decide +kernel
theorem dX8_order_55 : decode cX8_order 55 = .ok (.bipush (-7), 2) := by decide +kernel
theorem dX8_order_57 : decode cX8_order 57 = .ok (.ireturn, 1) := by decide +kernel
theorem dX8_order_58 : decode cX8_order 58 = .ok (.aload_n 0, 1) := by decide +kernel
theorem dX8_order_59 : decode cX8_order 59 = .ok (.getfield 69, 3) := by decide +kernel
theorem dX8_order_62 : decode cX8_order 62 = .ok (.aload_n 2, 1) := by decide +kernel
theorem dX8_order_63 : decode cX8_order 63 = .ok (.aload_n 0, 1) := by decide +kernel
theorem dX8_order_64 : decode cX8_order 64 = .ok (.getfield 32, 3) := by decide +kernel
theorem dX8_order_67 : decode cX8_order 67 = .ok (.invokevirtual 276, 3) := by decide +kernel
theorem dX8_order_70 : decode cX8_order 70 = .ok (.aload_n 0, 1) := by decide +kernel
theorem dX8_order_71 : decode cX8_order 71 = .ok (.getfield 69, 3) := by decide +kernel
theorem dX8_order_74 : decode cX8_order 74 = .ok (.getfield 280, 3) := by decide +kernel
theorem dX8_order_77 : decode cX8_order 77 = .ok (.ireturn, 1) := by decide +kernel
theorem dX8_spot_0 : decode cX8_spot 0 = .ok (.aload_n 0, 1) := by decide +kernel
theorem dX8_spot_1 : decode cX8_spot 1 = .ok (.iload_n 1, 1) := by decide +kernel
theorem dX8_spot_2 : decode cX8_spot 2 = .ok (.invokevirtual 185, 3) := by decide +kernel
theorem dX8_spot_5 : decode cX8_spot 5 = .ok (.astore_n 3, 1) := by decide +kernel
theorem dX8_spot_6 : decode cX8_spot 6 = .ok (.aload_n 3, 1) := by decide +kernel
theorem dX8_spot_7 : decode cX8_spot 7 = .ok (.ifnull 12, 3) := by decide +kernel
theorem dX8_spot_10 : decode cX8_spot 10 = .ok (.iload_n 2, 1) := by decide +kernel
theorem dX8_spot_11 : decode cX8_spot 11 = .ok (.iconst 0, 1) := by decide +kernel
theorem dX8_spot_12 : decode cX8_spot 12 = .ok (.iconst 1, 1) := by decide +kernel
theorem dX8_spot_13 : decode cX8_spot 13 = .ok (.invokestatic 95, 3) := by decide +kernel
theorem dX8_spot_16 : decode cX8_spot 16 = .ok (.ifCond .ne 7, 3) := by decide +kernel
theorem dX8_spot_19 : decode cX8_spot 19 = .ok (.ldc_w 283, 3) := by decide +kernel
theorem dX8_spot_22 : decode cX8_spot 22 = .ok (.ireturn, 1) := by decide +kernel
theorem dX8_spot_23 : decode cX8_spot 23 = .ok (.aload_n 0, 1) := by decide +kernel
theorem dX8_spot_24 : decode cX8_spot 24 = .ok (.aload_n 3, 1) := by decide +kernel
theorem dX8_spot_25 : decode cX8_spot 25 = .ok (.invokevirtual 284, 3) := by decide +kernel
theorem dX8_spot_28 : decode cX8_spot 28 = .ok (.ldc 206, 2) := by decide +kernel
theorem dX8_spot_30 : decode cX8_spot 30 = .ok (.istore 4, 2) := by decide +kernel
theorem dX8_spot_32 : decode cX8_spot 32 = .ok (.ldc 207, 2) := by decide +kernel
theorem dX8_spot_34 : decode cX8_spot 34 = .ok (.istore 5, 2) := by decide +kernel
theorem dX8_spot_36 : decode cX8_spot 36 = .ok (.iconst 0, 1) := by decide +kernel
theorem dX8_spot_37 : decode cX8_spot 37 = .ok (.istore 6, 2) := by decide +kernel
theorem dX8_spot_39 : decode cX8_spot 39 = .ok (.iload 6, 2) := by decide +kernel
theorem dX8_spot_41 : decode cX8_spot 41 = .ok (.aload_n 3, 1) := by decide +kernel
theorem dX8_spot_42 : decode cX8_spot 42 = .ok (.getfield 195, 3) := by decide +kernel
theorem dX8_spot_45 : decode cX8_spot 45 = .ok (.if_icmp .ge 88, 3) := by decide +kernel
theorem dX8_spot_48 : decode cX8_spot 48 = .ok (.aload_n 0, 1) := by decide +kernel
theorem dX8_spot_49 : decode cX8_spot 49 = .ok (.aload_n 3, 1) := by decide +kernel
theorem dX8_spot_50 : decode cX8_spot 50 = .ok (.getfield 213, 3) := by decide +kernel
theorem dX8_spot_53 : decode cX8_spot 53 = .ok (.iload 6, 2) := by decide +kernel
theorem dX8_spot_55 : decode cX8_spot 55 = .ok (.aaload, 1) := by decide +kernel
theorem dX8_spot_56 : decode cX8_spot 56 = .ok (.aload_n 0, 1) := by decide +kernel
theorem dX8_spot_57 : decode cX8_spot 57 = .ok (.getfield 62, 3) := by decide +kernel
theorem dX8_spot_60 : decode cX8_spot 60 = .ok (.iload 6, 2) := by decide +kernel
theorem dX8_spot_62 : decode cX8_spot 62 = .ok (.aaload, 1) := by decide +kernel
theorem dX8_spot_63 : decode cX8_spot 63 = .ok (.invokevirtual 287, 3) := by decide +kernel
theorem dX8_spot_66 : decode cX8_spot 66 = .ok (.istore 7, 2) := by decide +kernel
theorem dX8_spot_68 : decode cX8_spot 68 = .ok (.iload 7, 2) := by decide +kernel
theorem dX8_spot_70 : decode cX8_spot 70 = .ok (.ifCond .ge 7, 3) := by decide +kernel
theorem dX8_spot_73 : decode cX8_spot 73 = .ok (.ldc_w 291, 3) := by decide +kernel
theorem dX8_spot_76 : decode cX8_spot 76 = .ok (.ireturn, 1) := by decide +kernel
theorem dX8_spot_77 : decode cX8_spot 77 = .ok (.aload_n 3, 1) := by decide +kernel
theorem dX8_spot_78 : decode cX8_spot 78 = .ok (.iload 6, 2) := by decide +kernel
theorem dX8_spot_80 : decode cX8_spot 80 = .ok (.invokevirtual 232, 3) := by decide +kernel
theorem dX8_spot_83 : decode cX8_spot 83 = .ok (.aload_n 3, 1) := by decide +kernel
theorem dX8_spot_84 : decode cX8_spot 84 = .ok (.getfield 208, 3) := by decide +kernel
theorem dX8_spot_87 : decode cX8_spot 87 = .ok (.isub, 1) := by decide +kernel
theorem dX8_spot_88 : decode cX8_spot 88 = .ok (.aload_n 0, 1) := by decide +kernel
theorem dX8_spot_89 : decode cX8_spot 89 = .ok (.getfield 62, 3) := by decide +kernel
theorem dX8_spot_92 : decode cX8_spot 92 = .ok (.iload 6, 2) := by decide +kernel
theorem dX8_spot_94 : decode cX8_spot 94 = .ok (.aaload, 1) := by decide +kernel
theorem dX8_spot_95 : decode cX8_spot 95 = .ok (.invokevirtual 292, 3) := by decide +kernel
theorem dX8_spot_98 : decode cX8_spot 98 = .ok (.iadd, 1) := by decide +kernel
theorem dX8_spot_99 : decode cX8_spot 99 = .ok (.istore 8, 2) := by decide +kernel
theorem dX8_spot_101 : decode cX8_spot 101 = .ok (.iload 4, 2) := by decide +kernel
theorem dX8_spot_103 : decode cX8_spot 103 = .ok (.iload 8, 2) := by decide +kernel
theorem dX8_spot_105 : decode cX8_spot 105 = .ok (.ineg, 1) := by decide +kernel
theorem dX8_spot_106 : decode cX8_spot 106 = .ok (.iload 7, 2) := by decide +kernel
theorem dX8_spot_108 : decode cX8_spot 108 = .ok (.isub, 1) := by decide +kernel
theorem dX8_spot_109 : decode cX8_spot 109 = .ok (.invokestatic 249, 3) := by decide +kernel
theorem dX8_spot_112 : decode cX8_spot 112 = .ok (.istore 4, 2) := by decide +kernel
theorem dX8_spot_114 : decode cX8_spot 114 = .ok (.iload 5, 2) := by decide +kernel
theorem dX8_spot_116 : decode cX8_spot 116 = .ok (.iload 8, 2) := by decide +kernel
theorem dX8_spot_118 : decode cX8_spot 118 = .ok (.ineg, 1) := by decide +kernel
theorem dX8_spot_119 : decode cX8_spot 119 = .ok (.iload 7, 2) := by decide +kernel
theorem dX8_spot_121 : decode cX8_spot 121 = .ok (.iadd, 1) := by decide +kernel
theorem dX8_spot_122 : decode cX8_spot 122 = .ok (.invokestatic 226, 3) := by decide +kernel
theorem dX8_spot_125 : decode cX8_spot 125 = .ok (.istore 5, 2) := by decide +kernel
theorem dX8_spot_127 : decode cX8_spot 127 = .ok (.iinc 6 1, 3) := by decide +kernel
theorem dX8_spot_130 : decode cX8_spot 130 = .ok (.goto (-91), 3) := by decide +kernel
theorem dX8_spot_133 : decode cX8_spot 133 = .ok (.iload 4, 2) := by decide +kernel
theorem dX8_spot_135 : decode cX8_spot 135 = .ok (.iload 5, 2) := by decide +kernel
theorem dX8_spot_137 : decode cX8_spot 137 = .ok (.if_icmp .le 7, 3) := by decide +kernel
theorem dX8_spot_140 : decode cX8_spot 140 = .ok (.ldc_w 291, 3) := by decide +kernel
theorem dX8_spot_143 : decode cX8_spot 143 = .ok (.ireturn, 1) := by decide +kernel
theorem dX8_spot_144 : decode cX8_spot 144 = .ok (.iload_n 2, 1) := by decide +kernel
theorem dX8_spot_145 : decode cX8_spot 145 = .ok (.ifCond .ne 8, 3) := by decide +kernel
theorem dX8_spot_148 : decode cX8_spot 148 = .ok (.iload 4, 2) := by decide +kernel
theorem dX8_spot_150 : decode cX8_spot 150 = .ok (.goto 5, 3) := by decide +kernel
theorem dX8_spot_153 : decode cX8_spot 153 = .ok (.iload 5, 2) := by decide +kernel
theorem dX8_spot_155 : decode cX8_spot 155 = .ok (.ireturn, 1) := by decide +kernel
theorem dX8_why_0 : decode cX8_why 0 = .ok (.aload_n 0, 1) := by decide +kernel
theorem dX8_why_1 : decode cX8_why 1 = .ok (.iload_n 1, 1) := by decide +kernel
theorem dX8_why_2 : decode cX8_why 2 = .ok (.invokevirtual 185, 3) := by decide +kernel
theorem dX8_why_5 : decode cX8_why 5 = .ok (.astore_n 3, 1) := by decide +kernel
theorem dX8_why_6 : decode cX8_why 6 = .ok (.aload_n 3, 1) := by decide +kernel
theorem dX8_why_7 : decode cX8_why 7 = .ok (.ifnull 14, 3) := by decide +kernel
theorem dX8_why_10 : decode cX8_why 10 = .ok (.iload_n 2, 1) := by decide +kernel
theorem dX8_why_11 : decode cX8_why 11 = .ok (.iconst 0, 1) := by decide +kernel
theorem dX8_why_12 : decode cX8_why 12 = .ok (.sipush 1000, 3) := by decide +kernel
theorem dX8_why_15 : decode cX8_why 15 = .ok (.invokestatic 95, 3) := by decide +kernel
theorem dX8_why_18 : decode cX8_why 18 = .ok (.ifCond .ne 5, 3) := by decide +kernel
theorem dX8_why_21 : decode cX8_why 21 = .ok (.iconst (-1), 1) := by decide +kernel
theorem dX8_why_22 : decode cX8_why 22 = .ok (.ireturn, 1) := by decide +kernel
theorem dX8_why_23 : decode cX8_why 23 = .ok (.aload_n 3, 1) := by decide +kernel
theorem dX8_why_24 : decode cX8_why 24 = .ok (.getfield 192, 3) := by decide +kernel
theorem dX8_why_27 : decode cX8_why 27 = .ok (.ifCond .eq 5, 3) := by decide +kernel
theorem dX8_why_30 : decode cX8_why 30 = .ok (.iconst 1, 1) := by decide +kernel
theorem dX8_why_31 : decode cX8_why 31 = .ok (.ireturn, 1) := by decide +kernel
theorem dX8_why_32 : decode cX8_why 32 = .ok (.aload_n 3, 1) := by decide +kernel
theorem dX8_why_33 : decode cX8_why 33 = .ok (.invokevirtual 296, 3) := by decide +kernel
theorem dX8_why_36 : decode cX8_why 36 = .ok (.ifCond .eq 5, 3) := by decide +kernel
theorem dX8_why_39 : decode cX8_why 39 = .ok (.iconst 2, 1) := by decide +kernel
theorem dX8_why_40 : decode cX8_why 40 = .ok (.ireturn, 1) := by decide +kernel
theorem dX8_why_41 : decode cX8_why 41 = .ok (.aload_n 3, 1) := by decide +kernel
theorem dX8_why_42 : decode cX8_why 42 = .ok (.invokevirtual 299, 3) := by decide +kernel
theorem dX8_why_45 : decode cX8_why 45 = .ok (.aload_n 3, 1) := by decide +kernel
theorem dX8_why_46 : decode cX8_why 46 = .ok (.getfield 214, 3) := by decide +kernel
theorem dX8_why_49 : decode cX8_why 49 = .ok (.getfield 302, 3) := by decide +kernel
theorem dX8_why_52 : decode cX8_why 52 = .ok (.if_icmp .le 5, 3) := by decide +kernel
theorem dX8_why_55 : decode cX8_why 55 = .ok (.iconst 3, 1) := by decide +kernel
theorem dX8_why_56 : decode cX8_why 56 = .ok (.ireturn, 1) := by decide +kernel
theorem dX8_why_57 : decode cX8_why 57 = .ok (.aload_n 3, 1) := by decide +kernel
theorem dX8_why_58 : decode cX8_why 58 = .ok (.invokevirtual 305, 3) := by decide +kernel
theorem dX8_why_61 : decode cX8_why 61 = .ok (.aload_n 3, 1) := by decide +kernel
theorem dX8_why_62 : decode cX8_why 62 = .ok (.getfield 214, 3) := by decide +kernel
theorem dX8_why_65 : decode cX8_why 65 = .ok (.getfield 308, 3) := by decide +kernel
theorem dX8_why_68 : decode cX8_why 68 = .ok (.if_icmp .le 5, 3) := by decide +kernel
theorem dX8_why_71 : decode cX8_why 71 = .ok (.iconst 4, 1) := by decide +kernel
theorem dX8_why_72 : decode cX8_why 72 = .ok (.ireturn, 1) := by decide +kernel
theorem dX8_why_73 : decode cX8_why 73 = .ok (.aload_n 3, 1) := by decide +kernel
theorem dX8_why_74 : decode cX8_why 74 = .ok (.iload_n 2, 1) := by decide +kernel
theorem dX8_why_75 : decode cX8_why 75 = .ok (.invokevirtual 311, 3) := by decide +kernel
theorem dX8_why_78 : decode cX8_why 78 = .ok (.ifCond .eq 5, 3) := by decide +kernel
theorem dX8_why_81 : decode cX8_why 81 = .ok (.iconst 5, 1) := by decide +kernel
theorem dX8_why_82 : decode cX8_why 82 = .ok (.ireturn, 1) := by decide +kernel
theorem dX8_why_83 : decode cX8_why 83 = .ok (.aload_n 3, 1) := by decide +kernel
theorem dX8_why_84 : decode cX8_why 84 = .ok (.invokevirtual 314, 3) := by decide +kernel
theorem dX8_why_87 : decode cX8_why 87 = .ok (.ifCond .eq 6, 3) := by decide +kernel
theorem dX8_why_90 : decode cX8_why 90 = .ok (.bipush 6, 2) := by decide +kernel
theorem dX8_why_92 : decode cX8_why 92 = .ok (.ireturn, 1) := by decide +kernel
theorem dX8_why_93 : decode cX8_why 93 = .ok (.aload_n 3, 1) := by decide +kernel
theorem dX8_why_94 : decode cX8_why 94 = .ok (.invokevirtual 317, 3) := by decide +kernel
theorem dX8_why_97 : decode cX8_why 97 = .ok (.ifCond .eq 6, 3) := by decide +kernel
theorem dX8_why_100 : decode cX8_why 100 = .ok (.bipush 7, 2) := by decide +kernel
theorem dX8_why_102 : decode cX8_why 102 = .ok (.ireturn, 1) := by decide +kernel
theorem dX8_why_103 : decode cX8_why 103 = .ok (.aload_n 0, 1) := by decide +kernel
theorem dX8_why_104 : decode cX8_why 104 = .ok (.aload_n 3, 1) := by decide +kernel
theorem dX8_why_105 : decode cX8_why 105 = .ok (.invokevirtual 320, 3) := by decide +kernel
theorem dX8_why_108 : decode cX8_why 108 = .ok (.ireturn, 1) := by decide +kernel
theorem dX8_leave_0 : decode cX8_leave 0 = .ok (.aload_n 0, 1) := by decide +kernel
theorem dX8_leave_1 : decode cX8_leave 1 = .ok (.iload_n 1, 1) := by decide +kernel
theorem dX8_leave_2 : decode cX8_leave 2 = .ok (.iload_n 2, 1) := by decide +kernel
theorem dX8_leave_3 : decode cX8_leave 3 = .ok (.invokevirtual 324, 3) := by decide +kernel
theorem dX8_leave_6 : decode cX8_leave 6 = .ok (.istore_n 3, 1) := by decide +kernel
theorem dX8_leave_7 : decode cX8_leave 7 = .ok (.iload_n 3, 1) := by decide +kernel
theorem dX8_leave_8 : decode cX8_leave 8 = .ok (.iconst (-1), 1) := by decide +kernel
theorem dX8_leave_9 : decode cX8_leave 9 = .ok (.if_icmp .ne 5, 3) := by decide +kernel
theorem dX8_leave_12 : decode cX8_leave 12 = .ok (.iconst (-1), 1) := by decide +kernel
theorem dX8_leave_13 : decode cX8_leave 13 = .ok (.ireturn, 1) := by decide +kernel
theorem dX8_leave_14 : decode cX8_leave 14 = .ok (.aload_n 0, 1) := by decide +kernel
theorem dX8_leave_15 : decode cX8_leave 15 = .ok (.iload_n 1, 1) := by decide +kernel
theorem dX8_leave_16 : decode cX8_leave 16 = .ok (.invokevirtual 185, 3) := by decide +kernel
theorem dX8_leave_19 : decode cX8_leave 19 = .ok (.astore 4, 2) := by decide +kernel
theorem dX8_leave_21 : decode cX8_leave 21 = .ok (.iload_n 3, 1) := by decide +kernel
theorem dX8_leave_22 : decode cX8_leave 22 = .ok (.ifCond .ne 8, 3) := by decide +kernel
theorem dX8_leave_25 : decode cX8_leave 25 = .ok (.aload 4, 2) := by decide +kernel
theorem dX8_leave_27 : decode cX8_leave 27 = .ok (.ifnonnull 6, 3) := by decide +kernel
theorem dX8_leave_30 : decode cX8_leave 30 = .ok (.bipush (-6), 2) := by decide +kernel
theorem dX8_leave_32 : decode cX8_leave 32 = .ok (.ireturn, 1) := by decide +kernel
theorem dX8_leave_33 : decode cX8_leave 33 = .ok (.aload 4, 2) := by decide +kernel
theorem dX8_leave_35 : decode cX8_leave 35 = .ok (.invokevirtual 327, 3) := by decide +kernel
theorem dX8_leave_38 : decode cX8_leave 38 = .ok (.aload 4, 2) := by decide +kernel
theorem dX8_leave_40 : decode cX8_leave 40 = .ok (.invokevirtual 299, 3) := by decide +kernel
theorem dX8_leave_43 : decode cX8_leave 43 = .ok (.ireturn, 1) := by decide +kernel
theorem dX8_many_0 : decode cX8_many 0 = .ok (.iload_n 1, 1) := by decide +kernel
theorem dX8_many_1 : decode cX8_many 1 = .ok (.tableswitch 51 0 3 #[31, 36, 41, 46], 31) := by decide +kernel
theorem dX8_many_32 : decode cX8_many 32 = .ok (.aload_n 0, 1) := by decide +kernel
theorem dX8_many_33 : decode cX8_many 33 = .ok (.getfield 73, 3) := by decide +kernel
theorem dX8_many_36 : decode cX8_many 36 = .ok (.ireturn, 1) := by decide +kernel
theorem dX8_many_37 : decode cX8_many 37 = .ok (.aload_n 0, 1) := by decide +kernel
theorem dX8_many_38 : decode cX8_many 38 = .ok (.getfield 77, 3) := by decide +kernel
theorem dX8_many_41 : decode cX8_many 41 = .ok (.ireturn, 1) := by decide +kernel
theorem dX8_many_42 : decode cX8_many 42 = .ok (.aload_n 0, 1) := by decide +kernel
theorem dX8_many_43 : decode cX8_many 43 = .ok (.invokevirtual 330, 3) := by decide +kernel
theorem dX8_many_46 : decode cX8_many 46 = .ok (.ireturn, 1) := by decide +kernel
theorem dX8_many_47 : decode cX8_many 47 = .ok (.aload_n 0, 1) := by decide +kernel
theorem dX8_many_48 : decode cX8_many 48 = .ok (.invokevirtual 333, 3) := by decide +kernel
theorem dX8_many_51 : decode cX8_many 51 = .ok (.ireturn, 1) := by decide +kernel
theorem dX8_many_52 : decode cX8_many 52 = .ok (.iconst (-1), 1) := by decide +kernel
theorem dX8_many_53 : decode cX8_many 53 = .ok (.ireturn, 1) := by decide +kernel
theorem dX8_within_0 : decode cX8_within 0 = .ok (.iload_n 0, 1) := by decide +kernel
theorem dX8_within_1 : decode cX8_within 1 = .ok (.iload_n 1, 1) := by decide +kernel
theorem dX8_within_2 : decode cX8_within 2 = .ok (.if_icmp .lt 12, 3) := by decide +kernel
theorem dX8_within_5 : decode cX8_within 5 = .ok (.iload_n 0, 1) := by decide +kernel
theorem dX8_within_6 : decode cX8_within 6 = .ok (.iload_n 2, 1) := by decide +kernel
theorem dX8_within_7 : decode cX8_within 7 = .ok (.if_icmp .gt 7, 3) := by decide +kernel
theorem dX8_within_10 : decode cX8_within 10 = .ok (.iconst 1, 1) := by decide +kernel
theorem dX8_within_11 : decode cX8_within 11 = .ok (.goto 4, 3) := by decide +kernel
theorem dX8_within_14 : decode cX8_within 14 = .ok (.iconst 0, 1) := by decide +kernel
theorem dX8_within_15 : decode cX8_within 15 = .ok (.ireturn, 1) := by decide +kernel
theorem dX8_isWind_0 : decode cX8_isWind 0 = .ok (.iload_n 0, 1) := by decide +kernel
theorem dX8_isWind_1 : decode cX8_isWind 1 = .ok (.sipush (-300), 3) := by decide +kernel
theorem dX8_isWind_4 : decode cX8_isWind 4 = .ok (.sipush 300, 3) := by decide +kernel
theorem dX8_isWind_7 : decode cX8_isWind 7 = .ok (.invokestatic 95, 3) := by decide +kernel
theorem dX8_isWind_10 : decode cX8_isWind 10 = .ok (.ireturn, 1) := by decide +kernel
theorem dX8_isPause_0 : decode cX8_isPause 0 = .ok (.iload_n 0, 1) := by decide +kernel
theorem dX8_isPause_1 : decode cX8_isPause 1 = .ok (.iconst 1, 1) := by decide +kernel
theorem dX8_isPause_2 : decode cX8_isPause 2 = .ok (.bipush 60, 2) := by decide +kernel
theorem dX8_isPause_4 : decode cX8_isPause 4 = .ok (.invokestatic 95, 3) := by decide +kernel
theorem dX8_isPause_7 : decode cX8_isPause 7 = .ok (.ireturn, 1) := by decide +kernel
theorem dX8_sheetAt_0 : decode cX8_sheetAt 0 = .ok (.iload_n 1, 1) := by decide +kernel
theorem dX8_sheetAt_1 : decode cX8_sheetAt 1 = .ok (.ifCond .lt 21, 3) := by decide +kernel
theorem dX8_sheetAt_4 : decode cX8_sheetAt 4 = .ok (.iload_n 1, 1) := by decide +kernel
theorem dX8_sheetAt_5 : decode cX8_sheetAt 5 = .ok (.aload_n 0, 1) := by decide +kernel
theorem dX8_sheetAt_6 : decode cX8_sheetAt 6 = .ok (.getfield 13, 3) := by decide +kernel
theorem dX8_sheetAt_9 : decode cX8_sheetAt 9 = .ok (.arraylength, 1) := by decide +kernel
theorem dX8_sheetAt_10 : decode cX8_sheetAt 10 = .ok (.if_icmp .ge 12, 3) := by decide +kernel
theorem dX8_sheetAt_13 : decode cX8_sheetAt 13 = .ok (.aload_n 0, 1) := by decide +kernel
theorem dX8_sheetAt_14 : decode cX8_sheetAt 14 = .ok (.getfield 13, 3) := by decide +kernel
theorem dX8_sheetAt_17 : decode cX8_sheetAt 17 = .ok (.iload_n 1, 1) := by decide +kernel
theorem dX8_sheetAt_18 : decode cX8_sheetAt 18 = .ok (.aaload, 1) := by decide +kernel
theorem dX8_sheetAt_19 : decode cX8_sheetAt 19 = .ok (.goto 4, 3) := by decide +kernel
theorem dX8_sheetAt_22 : decode cX8_sheetAt 22 = .ok (.aconst_null, 1) := by decide +kernel
theorem dX8_sheetAt_23 : decode cX8_sheetAt 23 = .ok (.areturn, 1) := by decide +kernel
theorem dX8_jumperAt_0 : decode cX8_jumperAt 0 = .ok (.iload_n 1, 1) := by decide +kernel
theorem dX8_jumperAt_1 : decode cX8_jumperAt 1 = .ok (.ifCond .lt 21, 3) := by decide +kernel
theorem dX8_jumperAt_4 : decode cX8_jumperAt 4 = .ok (.iload_n 1, 1) := by decide +kernel
theorem dX8_jumperAt_5 : decode cX8_jumperAt 5 = .ok (.aload_n 0, 1) := by decide +kernel
theorem dX8_jumperAt_6 : decode cX8_jumperAt 6 = .ok (.getfield 26, 3) := by decide +kernel
theorem dX8_jumperAt_9 : decode cX8_jumperAt 9 = .ok (.arraylength, 1) := by decide +kernel
theorem dX8_jumperAt_10 : decode cX8_jumperAt 10 = .ok (.if_icmp .ge 12, 3) := by decide +kernel
theorem dX8_jumperAt_13 : decode cX8_jumperAt 13 = .ok (.aload_n 0, 1) := by decide +kernel
theorem dX8_jumperAt_14 : decode cX8_jumperAt 14 = .ok (.getfield 26, 3) := by decide +kernel
theorem dX8_jumperAt_17 : decode cX8_jumperAt 17 = .ok (.iload_n 1, 1) := by decide +kernel
theorem dX8_jumperAt_18 : decode cX8_jumperAt 18 = .ok (.aaload, 1) := by decide +kernel
theorem dX8_jumperAt_19 : decode cX8_jumperAt 19 = .ok (.goto 4, 3) := by decide +kernel
theorem dX8_jumperAt_22 : decode cX8_jumperAt 22 = .ok (.aconst_null, 1) := by decide +kernel
theorem dX8_jumperAt_23 : decode cX8_jumperAt 23 = .ok (.areturn, 1) := by decide +kernel
theorem dX8_planeAt_0 : decode cX8_planeAt 0 = .ok (.iload_n 1, 1) := by decide +kernel
theorem dX8_planeAt_1 : decode cX8_planeAt 1 = .ok (.ifCond .lt 21, 3) := by decide +kernel
theorem dX8_planeAt_4 : decode cX8_planeAt 4 = .ok (.iload_n 1, 1) := by decide +kernel
theorem dX8_planeAt_5 : decode cX8_planeAt 5 = .ok (.aload_n 0, 1) := by decide +kernel
theorem dX8_planeAt_6 : decode cX8_planeAt 6 = .ok (.getfield 38, 3) := by decide +kernel
theorem dX8_planeAt_9 : decode cX8_planeAt 9 = .ok (.arraylength, 1) := by decide +kernel
theorem dX8_planeAt_10 : decode cX8_planeAt 10 = .ok (.if_icmp .ge 12, 3) := by decide +kernel
theorem dX8_planeAt_13 : decode cX8_planeAt 13 = .ok (.aload_n 0, 1) := by decide +kernel
theorem dX8_planeAt_14 : decode cX8_planeAt 14 = .ok (.getfield 38, 3) := by decide +kernel
theorem dX8_planeAt_17 : decode cX8_planeAt 17 = .ok (.iload_n 1, 1) := by decide +kernel
theorem dX8_planeAt_18 : decode cX8_planeAt 18 = .ok (.aaload, 1) := by decide +kernel
theorem dX8_planeAt_19 : decode cX8_planeAt 19 = .ok (.goto 4, 3) := by decide +kernel
theorem dX8_planeAt_22 : decode cX8_planeAt 22 = .ok (.aconst_null, 1) := by decide +kernel
theorem dX8_planeAt_23 : decode cX8_planeAt 23 = .ok (.areturn, 1) := by decide +kernel
theorem dX8_groupAt_0 : decode cX8_groupAt 0 = .ok (.iload_n 1, 1) := by decide +kernel
theorem dX8_groupAt_1 : decode cX8_groupAt 1 = .ok (.ifCond .lt 29, 3) := by decide +kernel
theorem dX8_groupAt_4 : decode cX8_groupAt 4 = .ok (.iload_n 1, 1) := by decide +kernel
theorem dX8_groupAt_5 : decode cX8_groupAt 5 = .ok (.aload_n 0, 1) := by decide +kernel
theorem dX8_groupAt_6 : decode cX8_groupAt 6 = .ok (.getfield 73, 3) := by decide +kernel
theorem dX8_groupAt_9 : decode cX8_groupAt 9 = .ok (.if_icmp .ge 21, 3) := by decide +kernel
theorem dX8_groupAt_12 : decode cX8_groupAt 12 = .ok (.iload_n 1, 1) := by decide +kernel
theorem dX8_groupAt_13 : decode cX8_groupAt 13 = .ok (.aload_n 0, 1) := by decide +kernel
theorem dX8_groupAt_14 : decode cX8_groupAt 14 = .ok (.getfield 32, 3) := by decide +kernel
theorem dX8_groupAt_17 : decode cX8_groupAt 17 = .ok (.arraylength, 1) := by decide +kernel
theorem dX8_groupAt_18 : decode cX8_groupAt 18 = .ok (.if_icmp .ge 12, 3) := by decide +kernel
theorem dX8_groupAt_21 : decode cX8_groupAt 21 = .ok (.aload_n 0, 1) := by decide +kernel
theorem dX8_groupAt_22 : decode cX8_groupAt 22 = .ok (.getfield 32, 3) := by decide +kernel
theorem dX8_groupAt_25 : decode cX8_groupAt 25 = .ok (.iload_n 1, 1) := by decide +kernel
theorem dX8_groupAt_26 : decode cX8_groupAt 26 = .ok (.aaload, 1) := by decide +kernel
theorem dX8_groupAt_27 : decode cX8_groupAt 27 = .ok (.goto 4, 3) := by decide +kernel
theorem dX8_groupAt_30 : decode cX8_groupAt 30 = .ok (.aconst_null, 1) := by decide +kernel
theorem dX8_groupAt_31 : decode cX8_groupAt 31 = .ok (.areturn, 1) := by decide +kernel
theorem dX8_loadAt_0 : decode cX8_loadAt 0 = .ok (.iload_n 1, 1) := by decide +kernel
theorem dX8_loadAt_1 : decode cX8_loadAt 1 = .ok (.ifCond .lt 29, 3) := by decide +kernel
theorem dX8_loadAt_4 : decode cX8_loadAt 4 = .ok (.iload_n 1, 1) := by decide +kernel
theorem dX8_loadAt_5 : decode cX8_loadAt 5 = .ok (.aload_n 0, 1) := by decide +kernel
theorem dX8_loadAt_6 : decode cX8_loadAt 6 = .ok (.getfield 77, 3) := by decide +kernel
theorem dX8_loadAt_9 : decode cX8_loadAt 9 = .ok (.if_icmp .ge 21, 3) := by decide +kernel
theorem dX8_loadAt_12 : decode cX8_loadAt 12 = .ok (.iload_n 1, 1) := by decide +kernel
theorem dX8_loadAt_13 : decode cX8_loadAt 13 = .ok (.aload_n 0, 1) := by decide +kernel
theorem dX8_loadAt_14 : decode cX8_loadAt 14 = .ok (.getfield 44, 3) := by decide +kernel
theorem dX8_loadAt_17 : decode cX8_loadAt 17 = .ok (.arraylength, 1) := by decide +kernel
theorem dX8_loadAt_18 : decode cX8_loadAt 18 = .ok (.if_icmp .ge 12, 3) := by decide +kernel
theorem dX8_loadAt_21 : decode cX8_loadAt 21 = .ok (.aload_n 0, 1) := by decide +kernel
theorem dX8_loadAt_22 : decode cX8_loadAt 22 = .ok (.getfield 44, 3) := by decide +kernel
theorem dX8_loadAt_25 : decode cX8_loadAt 25 = .ok (.iload_n 1, 1) := by decide +kernel
theorem dX8_loadAt_26 : decode cX8_loadAt 26 = .ok (.aaload, 1) := by decide +kernel
theorem dX8_loadAt_27 : decode cX8_loadAt 27 = .ok (.goto 4, 3) := by decide +kernel
theorem dX8_loadAt_30 : decode cX8_loadAt 30 = .ok (.aconst_null, 1) := by decide +kernel
theorem dX8_loadAt_31 : decode cX8_loadAt 31 = .ok (.areturn, 1) := by decide +kernel
theorem dX8_tellsWinds_0 : decode cX8_tellsWinds 0 = .ok (.aload_n 0, 1) := by decide +kernel
theorem dX8_tellsWinds_1 : decode cX8_tellsWinds 1 = .ok (.getfield 336, 3) := by decide +kernel
theorem dX8_tellsWinds_4 : decode cX8_tellsWinds 4 = .ok (.ifCond .ne 5, 3) := by decide +kernel
theorem dX8_tellsWinds_7 : decode cX8_tellsWinds 7 = .ok (.iconst 0, 1) := by decide +kernel
theorem dX8_tellsWinds_8 : decode cX8_tellsWinds 8 = .ok (.ireturn, 1) := by decide +kernel
theorem dX8_tellsWinds_9 : decode cX8_tellsWinds 9 = .ok (.iconst 0, 1) := by decide +kernel
theorem dX8_tellsWinds_10 : decode cX8_tellsWinds 10 = .ok (.istore_n 1, 1) := by decide +kernel
theorem dX8_tellsWinds_11 : decode cX8_tellsWinds 11 = .ok (.iload_n 1, 1) := by decide +kernel
theorem dX8_tellsWinds_12 : decode cX8_tellsWinds 12 = .ok (.bipush 12, 2) := by decide +kernel
theorem dX8_tellsWinds_14 : decode cX8_tellsWinds 14 = .ok (.if_icmp .ge 22, 3) := by decide +kernel
theorem dX8_tellsWinds_17 : decode cX8_tellsWinds 17 = .ok (.aload_n 0, 1) := by decide +kernel
theorem dX8_tellsWinds_18 : decode cX8_tellsWinds 18 = .ok (.iload_n 1, 1) := by decide +kernel
theorem dX8_tellsWinds_19 : decode cX8_tellsWinds 19 = .ok (.invokevirtual 124, 3) := by decide +kernel
theorem dX8_tellsWinds_22 : decode cX8_tellsWinds 22 = .ok (.invokestatic 132, 3) := by decide +kernel
theorem dX8_tellsWinds_25 : decode cX8_tellsWinds 25 = .ok (.ifCond .ne 5, 3) := by decide +kernel
theorem dX8_tellsWinds_28 : decode cX8_tellsWinds 28 = .ok (.iconst 0, 1) := by decide +kernel
theorem dX8_tellsWinds_29 : decode cX8_tellsWinds 29 = .ok (.ireturn, 1) := by decide +kernel
theorem dX8_tellsWinds_30 : decode cX8_tellsWinds 30 = .ok (.iinc 1 1, 3) := by decide +kernel
theorem dX8_tellsWinds_33 : decode cX8_tellsWinds 33 = .ok (.goto (-22), 3) := by decide +kernel
theorem dX8_tellsWinds_36 : decode cX8_tellsWinds 36 = .ok (.iconst 1, 1) := by decide +kernel
theorem dX8_tellsWinds_37 : decode cX8_tellsWinds 37 = .ok (.ireturn, 1) := by decide +kernel
theorem dX8_isInSomeLoad_0 : decode cX8_isInSomeLoad 0 = .ok (.iconst 0, 1) := by decide +kernel
theorem dX8_isInSomeLoad_1 : decode cX8_isInSomeLoad 1 = .ok (.istore_n 3, 1) := by decide +kernel
theorem dX8_isInSomeLoad_2 : decode cX8_isInSomeLoad 2 = .ok (.iload_n 3, 1) := by decide +kernel
theorem dX8_isInSomeLoad_3 : decode cX8_isInSomeLoad 3 = .ok (.aload_n 0, 1) := by decide +kernel
theorem dX8_isInSomeLoad_4 : decode cX8_isInSomeLoad 4 = .ok (.getfield 77, 3) := by decide +kernel
theorem dX8_isInSomeLoad_7 : decode cX8_isInSomeLoad 7 = .ok (.if_icmp .ge 37, 3) := by decide +kernel
theorem dX8_isInSomeLoad_10 : decode cX8_isInSomeLoad 10 = .ok (.aload_n 0, 1) := by decide +kernel
theorem dX8_isInSomeLoad_11 : decode cX8_isInSomeLoad 11 = .ok (.getfield 44, 3) := by decide +kernel
theorem dX8_isInSomeLoad_14 : decode cX8_isInSomeLoad 14 = .ok (.iload_n 3, 1) := by decide +kernel
theorem dX8_isInSomeLoad_15 : decode cX8_isInSomeLoad 15 = .ok (.aaload, 1) := by decide +kernel
theorem dX8_isInSomeLoad_16 : decode cX8_isInSomeLoad 16 = .ok (.getfield 192, 3) := by decide +kernel
theorem dX8_isInSomeLoad_19 : decode cX8_isInSomeLoad 19 = .ok (.iload_n 2, 1) := by decide +kernel
theorem dX8_isInSomeLoad_20 : decode cX8_isInSomeLoad 20 = .ok (.if_icmp .ne 18, 3) := by decide +kernel
theorem dX8_isInSomeLoad_23 : decode cX8_isInSomeLoad 23 = .ok (.aload_n 0, 1) := by decide +kernel
theorem dX8_isInSomeLoad_24 : decode cX8_isInSomeLoad 24 = .ok (.getfield 44, 3) := by decide +kernel
theorem dX8_isInSomeLoad_27 : decode cX8_isInSomeLoad 27 = .ok (.iload_n 3, 1) := by decide +kernel
theorem dX8_isInSomeLoad_28 : decode cX8_isInSomeLoad 28 = .ok (.aaload, 1) := by decide +kernel
theorem dX8_isInSomeLoad_29 : decode cX8_isInSomeLoad 29 = .ok (.aload_n 1, 1) := by decide +kernel
theorem dX8_isInSomeLoad_30 : decode cX8_isInSomeLoad 30 = .ok (.invokevirtual 339, 3) := by decide +kernel
theorem dX8_isInSomeLoad_33 : decode cX8_isInSomeLoad 33 = .ok (.ifCond .eq 5, 3) := by decide +kernel
theorem dX8_isInSomeLoad_36 : decode cX8_isInSomeLoad 36 = .ok (.iconst 1, 1) := by decide +kernel
theorem dX8_isInSomeLoad_37 : decode cX8_isInSomeLoad 37 = .ok (.ireturn, 1) := by decide +kernel
theorem dX8_isInSomeLoad_38 : decode cX8_isInSomeLoad 38 = .ok (.iinc 3 1, 3) := by decide +kernel
theorem dX8_isInSomeLoad_41 : decode cX8_isInSomeLoad 41 = .ok (.goto (-39), 3) := by decide +kernel
theorem dX8_isInSomeLoad_44 : decode cX8_isInSomeLoad 44 = .ok (.iconst 0, 1) := by decide +kernel
theorem dX8_isInSomeLoad_45 : decode cX8_isInSomeLoad 45 = .ok (.ireturn, 1) := by decide +kernel
theorem dX8_leftCount_0 : decode cX8_leftCount 0 = .ok (.iconst 0, 1) := by decide +kernel
theorem dX8_leftCount_1 : decode cX8_leftCount 1 = .ok (.istore_n 1, 1) := by decide +kernel
theorem dX8_leftCount_2 : decode cX8_leftCount 2 = .ok (.iconst 0, 1) := by decide +kernel
theorem dX8_leftCount_3 : decode cX8_leftCount 3 = .ok (.istore_n 2, 1) := by decide +kernel
theorem dX8_leftCount_4 : decode cX8_leftCount 4 = .ok (.iload_n 2, 1) := by decide +kernel
theorem dX8_leftCount_5 : decode cX8_leftCount 5 = .ok (.aload_n 0, 1) := by decide +kernel
theorem dX8_leftCount_6 : decode cX8_leftCount 6 = .ok (.getfield 77, 3) := by decide +kernel
theorem dX8_leftCount_9 : decode cX8_leftCount 9 = .ok (.if_icmp .ge 24, 3) := by decide +kernel
theorem dX8_leftCount_12 : decode cX8_leftCount 12 = .ok (.aload_n 0, 1) := by decide +kernel
theorem dX8_leftCount_13 : decode cX8_leftCount 13 = .ok (.getfield 44, 3) := by decide +kernel
theorem dX8_leftCount_16 : decode cX8_leftCount 16 = .ok (.iload_n 2, 1) := by decide +kernel
theorem dX8_leftCount_17 : decode cX8_leftCount 17 = .ok (.aaload, 1) := by decide +kernel
theorem dX8_leftCount_18 : decode cX8_leftCount 18 = .ok (.getfield 192, 3) := by decide +kernel
theorem dX8_leftCount_21 : decode cX8_leftCount 21 = .ok (.ifCond .eq 6, 3) := by decide +kernel
theorem dX8_leftCount_24 : decode cX8_leftCount 24 = .ok (.iinc 1 1, 3) := by decide +kernel
theorem dX8_leftCount_27 : decode cX8_leftCount 27 = .ok (.iinc 2 1, 3) := by decide +kernel
theorem dX8_leftCount_30 : decode cX8_leftCount 30 = .ok (.goto (-26), 3) := by decide +kernel
theorem dX8_leftCount_33 : decode cX8_leftCount 33 = .ok (.iload_n 1, 1) := by decide +kernel
theorem dX8_leftCount_34 : decode cX8_leftCount 34 = .ok (.ireturn, 1) := by decide +kernel
theorem dX8_upCount_0 : decode cX8_upCount 0 = .ok (.iconst 0, 1) := by decide +kernel
theorem dX8_upCount_1 : decode cX8_upCount 1 = .ok (.istore_n 1, 1) := by decide +kernel
theorem dX8_upCount_2 : decode cX8_upCount 2 = .ok (.iconst 0, 1) := by decide +kernel
theorem dX8_upCount_3 : decode cX8_upCount 3 = .ok (.istore_n 2, 1) := by decide +kernel
theorem dX8_upCount_4 : decode cX8_upCount 4 = .ok (.iload_n 2, 1) := by decide +kernel
theorem dX8_upCount_5 : decode cX8_upCount 5 = .ok (.aload_n 0, 1) := by decide +kernel
theorem dX8_upCount_6 : decode cX8_upCount 6 = .ok (.getfield 77, 3) := by decide +kernel
theorem dX8_upCount_9 : decode cX8_upCount 9 = .ok (.if_icmp .ge 33, 3) := by decide +kernel
theorem dX8_upCount_12 : decode cX8_upCount 12 = .ok (.aload_n 0, 1) := by decide +kernel
theorem dX8_upCount_13 : decode cX8_upCount 13 = .ok (.getfield 44, 3) := by decide +kernel
theorem dX8_upCount_16 : decode cX8_upCount 16 = .ok (.iload_n 2, 1) := by decide +kernel
theorem dX8_upCount_17 : decode cX8_upCount 17 = .ok (.aaload, 1) := by decide +kernel
theorem dX8_upCount_18 : decode cX8_upCount 18 = .ok (.getfield 192, 3) := by decide +kernel
theorem dX8_upCount_21 : decode cX8_upCount 21 = .ok (.ifCond .eq 15, 3) := by decide +kernel
theorem dX8_upCount_24 : decode cX8_upCount 24 = .ok (.iload_n 1, 1) := by decide +kernel
theorem dX8_upCount_25 : decode cX8_upCount 25 = .ok (.aload_n 0, 1) := by decide +kernel
theorem dX8_upCount_26 : decode cX8_upCount 26 = .ok (.getfield 44, 3) := by decide +kernel
theorem dX8_upCount_29 : decode cX8_upCount 29 = .ok (.iload_n 2, 1) := by decide +kernel
theorem dX8_upCount_30 : decode cX8_upCount 30 = .ok (.aaload, 1) := by decide +kernel
theorem dX8_upCount_31 : decode cX8_upCount 31 = .ok (.invokevirtual 299, 3) := by decide +kernel
theorem dX8_upCount_34 : decode cX8_upCount 34 = .ok (.iadd, 1) := by decide +kernel
theorem dX8_upCount_35 : decode cX8_upCount 35 = .ok (.istore_n 1, 1) := by decide +kernel
theorem dX8_upCount_36 : decode cX8_upCount 36 = .ok (.iinc 2 1, 3) := by decide +kernel
theorem dX8_upCount_39 : decode cX8_upCount 39 = .ok (.goto (-35), 3) := by decide +kernel
theorem dX8_upCount_42 : decode cX8_upCount 42 = .ok (.iload_n 1, 1) := by decide +kernel
theorem dX8_upCount_43 : decode cX8_upCount 43 = .ok (.ireturn, 1) := by decide +kernel
theorem dX8_whyByFall_0 : decode cX8_whyByFall 0 = .ok (.aload_n 0, 1) := by decide +kernel
theorem dX8_whyByFall_1 : decode cX8_whyByFall 1 = .ok (.aload_n 1, 1) := by decide +kernel
theorem dX8_whyByFall_2 : decode cX8_whyByFall 2 = .ok (.invokevirtual 342, 3) := by decide +kernel
theorem dX8_whyByFall_5 : decode cX8_whyByFall 5 = .ok (.ifCond .eq 6, 3) := by decide +kernel
theorem dX8_whyByFall_8 : decode cX8_whyByFall 8 = .ok (.bipush 8, 2) := by decide +kernel
theorem dX8_whyByFall_10 : decode cX8_whyByFall 10 = .ok (.ireturn, 1) := by decide +kernel
theorem dX8_whyByFall_11 : decode cX8_whyByFall 11 = .ok (.aload_n 0, 1) := by decide +kernel
theorem dX8_whyByFall_12 : decode cX8_whyByFall 12 = .ok (.aload_n 1, 1) := by decide +kernel
theorem dX8_whyByFall_13 : decode cX8_whyByFall 13 = .ok (.invokevirtual 346, 3) := by decide +kernel
theorem dX8_whyByFall_16 : decode cX8_whyByFall 16 = .ok (.ifCond .ne 6, 3) := by decide +kernel
theorem dX8_whyByFall_19 : decode cX8_whyByFall 19 = .ok (.bipush 9, 2) := by decide +kernel
theorem dX8_whyByFall_21 : decode cX8_whyByFall 21 = .ok (.ireturn, 1) := by decide +kernel
theorem dX8_whyByFall_22 : decode cX8_whyByFall 22 = .ok (.aload_n 0, 1) := by decide +kernel
theorem dX8_whyByFall_23 : decode cX8_whyByFall 23 = .ok (.aload_n 1, 1) := by decide +kernel
theorem dX8_whyByFall_24 : decode cX8_whyByFall 24 = .ok (.invokevirtual 284, 3) := by decide +kernel
theorem dX8_whyByFall_27 : decode cX8_whyByFall 27 = .ok (.aload_n 0, 1) := by decide +kernel
theorem dX8_whyByFall_28 : decode cX8_whyByFall 28 = .ok (.aload_n 1, 1) := by decide +kernel
theorem dX8_whyByFall_29 : decode cX8_whyByFall 29 = .ok (.invokevirtual 349, 3) := by decide +kernel
theorem dX8_whyByFall_32 : decode cX8_whyByFall 32 = .ok (.ifCond .ne 6, 3) := by decide +kernel
theorem dX8_whyByFall_35 : decode cX8_whyByFall 35 = .ok (.bipush 10, 2) := by decide +kernel
theorem dX8_whyByFall_37 : decode cX8_whyByFall 37 = .ok (.ireturn, 1) := by decide +kernel
theorem dX8_whyByFall_38 : decode cX8_whyByFall 38 = .ok (.aload_n 0, 1) := by decide +kernel
theorem dX8_whyByFall_39 : decode cX8_whyByFall 39 = .ok (.aload_n 1, 1) := by decide +kernel
theorem dX8_whyByFall_40 : decode cX8_whyByFall 40 = .ok (.invokevirtual 352, 3) := by decide +kernel
theorem dX8_whyByFall_43 : decode cX8_whyByFall 43 = .ok (.ifCond .eq 7, 3) := by decide +kernel
theorem dX8_whyByFall_46 : decode cX8_whyByFall 46 = .ok (.iconst 0, 1) := by decide +kernel
theorem dX8_whyByFall_47 : decode cX8_whyByFall 47 = .ok (.goto 5, 3) := by decide +kernel
theorem dX8_whyByFall_50 : decode cX8_whyByFall 50 = .ok (.bipush 11, 2) := by decide +kernel
theorem dX8_whyByFall_52 : decode cX8_whyByFall 52 = .ok (.ireturn, 1) := by decide +kernel
theorem dX8_isTooWindy_0 : decode cX8_isTooWindy 0 = .ok (.aload_n 1, 1) := by decide +kernel
theorem dX8_isTooWindy_1 : decode cX8_isTooWindy 1 = .ok (.getfield 218, 3) := by decide +kernel
theorem dX8_isTooWindy_4 : decode cX8_isTooWindy 4 = .ok (.invokevirtual 355, 3) := by decide +kernel
theorem dX8_isTooWindy_7 : decode cX8_isTooWindy 7 = .ok (.istore_n 2, 1) := by decide +kernel
theorem dX8_isTooWindy_8 : decode cX8_isTooWindy 8 = .ok (.iconst 0, 1) := by decide +kernel
theorem dX8_isTooWindy_9 : decode cX8_isTooWindy 9 = .ok (.istore_n 3, 1) := by decide +kernel
theorem dX8_isTooWindy_10 : decode cX8_isTooWindy 10 = .ok (.iload_n 3, 1) := by decide +kernel
theorem dX8_isTooWindy_11 : decode cX8_isTooWindy 11 = .ok (.aload_n 1, 1) := by decide +kernel
theorem dX8_isTooWindy_12 : decode cX8_isTooWindy 12 = .ok (.getfield 195, 3) := by decide +kernel
theorem dX8_isTooWindy_15 : decode cX8_isTooWindy 15 = .ok (.if_icmp .ge 31, 3) := by decide +kernel
theorem dX8_isTooWindy_18 : decode cX8_isTooWindy 18 = .ok (.aload_n 0, 1) := by decide +kernel
theorem dX8_isTooWindy_19 : decode cX8_isTooWindy 19 = .ok (.getfield 57, 3) := by decide +kernel
theorem dX8_isTooWindy_22 : decode cX8_isTooWindy 22 = .ok (.iconst 2, 1) := by decide +kernel
theorem dX8_isTooWindy_23 : decode cX8_isTooWindy 23 = .ok (.aload_n 1, 1) := by decide +kernel
theorem dX8_isTooWindy_24 : decode cX8_isTooWindy 24 = .ok (.getfield 213, 3) := by decide +kernel
theorem dX8_isTooWindy_27 : decode cX8_isTooWindy 27 = .ok (.iload_n 3, 1) := by decide +kernel
theorem dX8_isTooWindy_28 : decode cX8_isTooWindy 28 = .ok (.aaload, 1) := by decide +kernel
theorem dX8_isTooWindy_29 : decode cX8_isTooWindy 29 = .ok (.getfield 358, 3) := by decide +kernel
theorem dX8_isTooWindy_32 : decode cX8_isTooWindy 32 = .ok (.iadd, 1) := by decide +kernel
theorem dX8_isTooWindy_33 : decode cX8_isTooWindy 33 = .ok (.iaload, 1) := by decide +kernel
theorem dX8_isTooWindy_34 : decode cX8_isTooWindy 34 = .ok (.iload_n 2, 1) := by decide +kernel
theorem dX8_isTooWindy_35 : decode cX8_isTooWindy 35 = .ok (.if_icmp .ge 5, 3) := by decide +kernel
theorem dX8_isTooWindy_38 : decode cX8_isTooWindy 38 = .ok (.iconst 1, 1) := by decide +kernel
theorem dX8_isTooWindy_39 : decode cX8_isTooWindy 39 = .ok (.ireturn, 1) := by decide +kernel
theorem dX8_isTooWindy_40 : decode cX8_isTooWindy 40 = .ok (.iinc 3 1, 3) := by decide +kernel
theorem dX8_isTooWindy_43 : decode cX8_isTooWindy 43 = .ok (.goto (-33), 3) := by decide +kernel
theorem dX8_isTooWindy_46 : decode cX8_isTooWindy 46 = .ok (.iconst 0, 1) := by decide +kernel
theorem dX8_isTooWindy_47 : decode cX8_isTooWindy 47 = .ok (.ireturn, 1) := by decide +kernel
theorem dX8_mayLeaveAhead_0 : decode cX8_mayLeaveAhead 0 = .ok (.aload_n 0, 1) := by decide +kernel
theorem dX8_mayLeaveAhead_1 : decode cX8_mayLeaveAhead 1 = .ok (.getfield 57, 3) := by decide +kernel
theorem dX8_mayLeaveAhead_4 : decode cX8_mayLeaveAhead 4 = .ok (.bipush 6, 2) := by decide +kernel
theorem dX8_mayLeaveAhead_6 : decode cX8_mayLeaveAhead 6 = .ok (.aload_n 1, 1) := by decide +kernel
theorem dX8_mayLeaveAhead_7 : decode cX8_mayLeaveAhead 7 = .ok (.getfield 358, 3) := by decide +kernel
theorem dX8_mayLeaveAhead_10 : decode cX8_mayLeaveAhead 10 = .ok (.iadd, 1) := by decide +kernel
theorem dX8_mayLeaveAhead_11 : decode cX8_mayLeaveAhead 11 = .ok (.iaload, 1) := by decide +kernel
theorem dX8_mayLeaveAhead_12 : decode cX8_mayLeaveAhead 12 = .ok (.aload_n 0, 1) := by decide +kernel
theorem dX8_mayLeaveAhead_13 : decode cX8_mayLeaveAhead 13 = .ok (.getfield 57, 3) := by decide +kernel
theorem dX8_mayLeaveAhead_16 : decode cX8_mayLeaveAhead 16 = .ok (.bipush 6, 2) := by decide +kernel
theorem dX8_mayLeaveAhead_18 : decode cX8_mayLeaveAhead 18 = .ok (.aload_n 2, 1) := by decide +kernel
theorem dX8_mayLeaveAhead_19 : decode cX8_mayLeaveAhead 19 = .ok (.getfield 358, 3) := by decide +kernel
theorem dX8_mayLeaveAhead_22 : decode cX8_mayLeaveAhead 22 = .ok (.iadd, 1) := by decide +kernel
theorem dX8_mayLeaveAhead_23 : decode cX8_mayLeaveAhead 23 = .ok (.iaload, 1) := by decide +kernel
theorem dX8_mayLeaveAhead_24 : decode cX8_mayLeaveAhead 24 = .ok (.if_icmp .gt 7, 3) := by decide +kernel
theorem dX8_mayLeaveAhead_27 : decode cX8_mayLeaveAhead 27 = .ok (.iconst 1, 1) := by decide +kernel
theorem dX8_mayLeaveAhead_28 : decode cX8_mayLeaveAhead 28 = .ok (.goto 4, 3) := by decide +kernel
theorem dX8_mayLeaveAhead_31 : decode cX8_mayLeaveAhead 31 = .ok (.iconst 0, 1) := by decide +kernel
theorem dX8_mayLeaveAhead_32 : decode cX8_mayLeaveAhead 32 = .ok (.ireturn, 1) := by decide +kernel
theorem dX8_ranksAllow_0 : decode cX8_ranksAllow 0 = .ok (.iconst 1, 1) := by decide +kernel
theorem dX8_ranksAllow_1 : decode cX8_ranksAllow 1 = .ok (.istore_n 2, 1) := by decide +kernel
theorem dX8_ranksAllow_2 : decode cX8_ranksAllow 2 = .ok (.iload_n 2, 1) := by decide +kernel
theorem dX8_ranksAllow_3 : decode cX8_ranksAllow 3 = .ok (.aload_n 1, 1) := by decide +kernel
theorem dX8_ranksAllow_4 : decode cX8_ranksAllow 4 = .ok (.getfield 195, 3) := by decide +kernel
theorem dX8_ranksAllow_7 : decode cX8_ranksAllow 7 = .ok (.if_icmp .ge 32, 3) := by decide +kernel
theorem dX8_ranksAllow_10 : decode cX8_ranksAllow 10 = .ok (.aload_n 0, 1) := by decide +kernel
theorem dX8_ranksAllow_11 : decode cX8_ranksAllow 11 = .ok (.aload_n 1, 1) := by decide +kernel
theorem dX8_ranksAllow_12 : decode cX8_ranksAllow 12 = .ok (.getfield 213, 3) := by decide +kernel
theorem dX8_ranksAllow_15 : decode cX8_ranksAllow 15 = .ok (.iload_n 2, 1) := by decide +kernel
theorem dX8_ranksAllow_16 : decode cX8_ranksAllow 16 = .ok (.iconst 1, 1) := by decide +kernel
theorem dX8_ranksAllow_17 : decode cX8_ranksAllow 17 = .ok (.isub, 1) := by decide +kernel
theorem dX8_ranksAllow_18 : decode cX8_ranksAllow 18 = .ok (.aaload, 1) := by decide +kernel
theorem dX8_ranksAllow_19 : decode cX8_ranksAllow 19 = .ok (.aload_n 1, 1) := by decide +kernel
theorem dX8_ranksAllow_20 : decode cX8_ranksAllow 20 = .ok (.getfield 213, 3) := by decide +kernel
theorem dX8_ranksAllow_23 : decode cX8_ranksAllow 23 = .ok (.iload_n 2, 1) := by decide +kernel
theorem dX8_ranksAllow_24 : decode cX8_ranksAllow 24 = .ok (.aaload, 1) := by decide +kernel
theorem dX8_ranksAllow_25 : decode cX8_ranksAllow 25 = .ok (.invokevirtual 361, 3) := by decide +kernel
theorem dX8_ranksAllow_28 : decode cX8_ranksAllow 28 = .ok (.ifCond .ne 5, 3) := by decide +kernel
theorem dX8_ranksAllow_31 : decode cX8_ranksAllow 31 = .ok (.iconst 0, 1) := by decide +kernel
theorem dX8_ranksAllow_32 : decode cX8_ranksAllow 32 = .ok (.ireturn, 1) := by decide +kernel
theorem dX8_ranksAllow_33 : decode cX8_ranksAllow 33 = .ok (.iinc 2 1, 3) := by decide +kernel
theorem dX8_ranksAllow_36 : decode cX8_ranksAllow 36 = .ok (.goto (-34), 3) := by decide +kernel
theorem dX8_ranksAllow_39 : decode cX8_ranksAllow 39 = .ok (.iconst 1, 1) := by decide +kernel
theorem dX8_ranksAllow_40 : decode cX8_ranksAllow 40 = .ok (.ireturn, 1) := by decide +kernel
theorem dX8_followAll_0 : decode cX8_followAll 0 = .ok (.iconst 0, 1) := by decide +kernel
theorem dX8_followAll_1 : decode cX8_followAll 1 = .ok (.istore_n 2, 1) := by decide +kernel
theorem dX8_followAll_2 : decode cX8_followAll 2 = .ok (.iload_n 2, 1) := by decide +kernel
theorem dX8_followAll_3 : decode cX8_followAll 3 = .ok (.aload_n 1, 1) := by decide +kernel
theorem dX8_followAll_4 : decode cX8_followAll 4 = .ok (.getfield 195, 3) := by decide +kernel
theorem dX8_followAll_7 : decode cX8_followAll 7 = .ok (.if_icmp .ge 41, 3) := by decide +kernel
theorem dX8_followAll_10 : decode cX8_followAll 10 = .ok (.iload_n 2, 1) := by decide +kernel
theorem dX8_followAll_11 : decode cX8_followAll 11 = .ok (.aload_n 0, 1) := by decide +kernel
theorem dX8_followAll_12 : decode cX8_followAll 12 = .ok (.getfield 62, 3) := by decide +kernel
theorem dX8_followAll_15 : decode cX8_followAll 15 = .ok (.arraylength, 1) := by decide +kernel
theorem dX8_followAll_16 : decode cX8_followAll 16 = .ok (.if_icmp .ge 32, 3) := by decide +kernel
theorem dX8_followAll_19 : decode cX8_followAll 19 = .ok (.aload_n 0, 1) := by decide +kernel
theorem dX8_followAll_20 : decode cX8_followAll 20 = .ok (.getfield 62, 3) := by decide +kernel
theorem dX8_followAll_23 : decode cX8_followAll 23 = .ok (.iload_n 2, 1) := by decide +kernel
theorem dX8_followAll_24 : decode cX8_followAll 24 = .ok (.aaload, 1) := by decide +kernel
theorem dX8_followAll_25 : decode cX8_followAll 25 = .ok (.aload_n 1, 1) := by decide +kernel
theorem dX8_followAll_26 : decode cX8_followAll 26 = .ok (.getfield 213, 3) := by decide +kernel
theorem dX8_followAll_29 : decode cX8_followAll 29 = .ok (.iload_n 2, 1) := by decide +kernel
theorem dX8_followAll_30 : decode cX8_followAll 30 = .ok (.aaload, 1) := by decide +kernel
theorem dX8_followAll_31 : decode cX8_followAll 31 = .ok (.aload_n 1, 1) := by decide +kernel
theorem dX8_followAll_32 : decode cX8_followAll 32 = .ok (.getfield 214, 3) := by decide +kernel
theorem dX8_followAll_35 : decode cX8_followAll 35 = .ok (.aload_n 1, 1) := by decide +kernel
theorem dX8_followAll_36 : decode cX8_followAll 36 = .ok (.getfield 218, 3) := by decide +kernel
theorem dX8_followAll_39 : decode cX8_followAll 39 = .ok (.invokevirtual 219, 3) := by decide +kernel
theorem dX8_followAll_42 : decode cX8_followAll 42 = .ok (.iinc 2 1, 3) := by decide +kernel
theorem dX8_followAll_45 : decode cX8_followAll 45 = .ok (.goto (-43), 3) := by decide +kernel
theorem dX8_followAll_48 : decode cX8_followAll 48 = .ok (.return_, 1) := by decide +kernel
theorem dX8_areFree_0 : decode cX8_areFree 0 = .ok (.aload_n 0, 1) := by decide +kernel
theorem dX8_areFree_1 : decode cX8_areFree 1 = .ok (.getfield 57, 3) := by decide +kernel
theorem dX8_areFree_4 : decode cX8_areFree 4 = .ok (.iconst 0, 1) := by decide +kernel
theorem dX8_areFree_5 : decode cX8_areFree 5 = .ok (.iaload, 1) := by decide +kernel
theorem dX8_areFree_6 : decode cX8_areFree 6 = .ok (.i2l, 1) := by decide +kernel
theorem dX8_areFree_7 : decode cX8_areFree 7 = .ok (.aload_n 0, 1) := by decide +kernel
theorem dX8_areFree_8 : decode cX8_areFree 8 = .ok (.getfield 57, 3) := by decide +kernel
theorem dX8_areFree_11 : decode cX8_areFree 11 = .ok (.iconst 0, 1) := by decide +kernel
theorem dX8_areFree_12 : decode cX8_areFree 12 = .ok (.iaload, 1) := by decide +kernel
theorem dX8_areFree_13 : decode cX8_areFree 13 = .ok (.i2l, 1) := by decide +kernel
theorem dX8_areFree_14 : decode cX8_areFree 14 = .ok (.lmul, 1) := by decide +kernel
theorem dX8_areFree_15 : decode cX8_areFree 15 = .ok (.lstore 5, 2) := by decide +kernel
theorem dX8_areFree_17 : decode cX8_areFree 17 = .ok (.aload_n 1, 1) := by decide +kernel
theorem dX8_areFree_18 : decode cX8_areFree 18 = .ok (.aload_n 2, 1) := by decide +kernel
theorem dX8_areFree_19 : decode cX8_areFree 19 = .ok (.iload_n 3, 1) := by decide +kernel
theorem dX8_areFree_20 : decode cX8_areFree 20 = .ok (.iload 4, 2) := by decide +kernel
theorem dX8_areFree_22 : decode cX8_areFree 22 = .ok (.lload 5, 2) := by decide +kernel
theorem dX8_areFree_24 : decode cX8_areFree 24 = .ok (.invokevirtual 258, 3) := by decide +kernel
theorem dX8_areFree_27 : decode cX8_areFree 27 = .ok (.lload 5, 2) := by decide +kernel
theorem dX8_areFree_29 : decode cX8_areFree 29 = .ok (.lcmp, 1) := by decide +kernel
theorem dX8_areFree_30 : decode cX8_areFree 30 = .ok (.ifCond .lt 7, 3) := by decide +kernel
theorem dX8_areFree_33 : decode cX8_areFree 33 = .ok (.iconst 1, 1) := by decide +kernel
theorem dX8_areFree_34 : decode cX8_areFree 34 = .ok (.goto 4, 3) := by decide +kernel
theorem dX8_areFree_37 : decode cX8_areFree 37 = .ok (.iconst 0, 1) := by decide +kernel
theorem dX8_areFree_38 : decode cX8_areFree 38 = .ok (.ireturn, 1) := by decide +kernel
theorem dX8_allFree_0 : decode cX8_allFree 0 = .ok (.iconst 0, 1) := by decide +kernel
theorem dX8_allFree_1 : decode cX8_allFree 1 = .ok (.istore_n 2, 1) := by decide +kernel
theorem dX8_allFree_2 : decode cX8_allFree 2 = .ok (.iload_n 2, 1) := by decide +kernel
theorem dX8_allFree_3 : decode cX8_allFree 3 = .ok (.aload_n 1, 1) := by decide +kernel
theorem dX8_allFree_4 : decode cX8_allFree 4 = .ok (.getfield 195, 3) := by decide +kernel
theorem dX8_allFree_7 : decode cX8_allFree 7 = .ok (.if_icmp .ge 70, 3) := by decide +kernel
theorem dX8_allFree_10 : decode cX8_allFree 10 = .ok (.iload_n 2, 1) := by decide +kernel
theorem dX8_allFree_11 : decode cX8_allFree 11 = .ok (.iconst 1, 1) := by decide +kernel
theorem dX8_allFree_12 : decode cX8_allFree 12 = .ok (.iadd, 1) := by decide +kernel
theorem dX8_allFree_13 : decode cX8_allFree 13 = .ok (.istore_n 3, 1) := by decide +kernel
theorem dX8_allFree_14 : decode cX8_allFree 14 = .ok (.iload_n 3, 1) := by decide +kernel
theorem dX8_allFree_15 : decode cX8_allFree 15 = .ok (.aload_n 1, 1) := by decide +kernel
theorem dX8_allFree_16 : decode cX8_allFree 16 = .ok (.getfield 195, 3) := by decide +kernel
theorem dX8_allFree_19 : decode cX8_allFree 19 = .ok (.if_icmp .ge 52, 3) := by decide +kernel
theorem dX8_allFree_22 : decode cX8_allFree 22 = .ok (.aload_n 1, 1) := by decide +kernel
theorem dX8_allFree_23 : decode cX8_allFree 23 = .ok (.iload_n 3, 1) := by decide +kernel
theorem dX8_allFree_24 : decode cX8_allFree 24 = .ok (.invokevirtual 252, 3) := by decide +kernel
theorem dX8_allFree_27 : decode cX8_allFree 27 = .ok (.aload_n 1, 1) := by decide +kernel
theorem dX8_allFree_28 : decode cX8_allFree 28 = .ok (.iload_n 2, 1) := by decide +kernel
theorem dX8_allFree_29 : decode cX8_allFree 29 = .ok (.invokevirtual 252, 3) := by decide +kernel
theorem dX8_allFree_32 : decode cX8_allFree 32 = .ok (.isub, 1) := by decide +kernel
theorem dX8_allFree_33 : decode cX8_allFree 33 = .ok (.istore 4, 2) := by decide +kernel
theorem dX8_allFree_35 : decode cX8_allFree 35 = .ok (.aload_n 0, 1) := by decide +kernel
theorem dX8_allFree_36 : decode cX8_allFree 36 = .ok (.aload_n 0, 1) := by decide +kernel
theorem dX8_allFree_37 : decode cX8_allFree 37 = .ok (.getfield 62, 3) := by decide +kernel
theorem dX8_allFree_40 : decode cX8_allFree 40 = .ok (.iload_n 2, 1) := by decide +kernel
theorem dX8_allFree_41 : decode cX8_allFree 41 = .ok (.aaload, 1) := by decide +kernel
theorem dX8_allFree_42 : decode cX8_allFree 42 = .ok (.aload_n 0, 1) := by decide +kernel
theorem dX8_allFree_43 : decode cX8_allFree 43 = .ok (.getfield 62, 3) := by decide +kernel
theorem dX8_allFree_46 : decode cX8_allFree 46 = .ok (.iload_n 3, 1) := by decide +kernel
theorem dX8_allFree_47 : decode cX8_allFree 47 = .ok (.aaload, 1) := by decide +kernel
theorem dX8_allFree_48 : decode cX8_allFree 48 = .ok (.iload 4, 2) := by decide +kernel
theorem dX8_allFree_50 : decode cX8_allFree 50 = .ok (.aload_n 1, 1) := by decide +kernel
theorem dX8_allFree_51 : decode cX8_allFree 51 = .ok (.getfield 214, 3) := by decide +kernel
theorem dX8_allFree_54 : decode cX8_allFree 54 = .ok (.getfield 255, 3) := by decide +kernel
theorem dX8_allFree_57 : decode cX8_allFree 57 = .ok (.invokevirtual 365, 3) := by decide +kernel
theorem dX8_allFree_60 : decode cX8_allFree 60 = .ok (.ifCond .ne 5, 3) := by decide +kernel
theorem dX8_allFree_63 : decode cX8_allFree 63 = .ok (.iconst 0, 1) := by decide +kernel
theorem dX8_allFree_64 : decode cX8_allFree 64 = .ok (.ireturn, 1) := by decide +kernel
theorem dX8_allFree_65 : decode cX8_allFree 65 = .ok (.iinc 3 1, 3) := by decide +kernel
theorem dX8_allFree_68 : decode cX8_allFree 68 = .ok (.goto (-54), 3) := by decide +kernel
theorem dX8_allFree_71 : decode cX8_allFree 71 = .ok (.iinc 2 1, 3) := by decide +kernel
theorem dX8_allFree_74 : decode cX8_allFree 74 = .ok (.goto (-72), 3) := by decide +kernel
theorem dX8_allFree_77 : decode cX8_allFree 77 = .ok (.iconst 1, 1) := by decide +kernel
theorem dX8_allFree_78 : decode cX8_allFree 78 = .ok (.ireturn, 1) := by decide +kernel
theorem dX8_leastPause_0 : decode cX8_leastPause 0 = .ok (.iconst 1, 1) := by decide +kernel
theorem dX8_leastPause_1 : decode cX8_leastPause 1 = .ok (.istore 4, 2) := by decide +kernel
theorem dX8_leastPause_3 : decode cX8_leastPause 3 = .ok (.iload 4, 2) := by decide +kernel
theorem dX8_leastPause_5 : decode cX8_leastPause 5 = .ok (.bipush 60, 2) := by decide +kernel
theorem dX8_leastPause_7 : decode cX8_leastPause 7 = .ok (.if_icmp .gt 24, 3) := by decide +kernel
theorem dX8_leastPause_10 : decode cX8_leastPause 10 = .ok (.aload_n 0, 1) := by decide +kernel
theorem dX8_leastPause_11 : decode cX8_leastPause 11 = .ok (.aload_n 1, 1) := by decide +kernel
theorem dX8_leastPause_12 : decode cX8_leastPause 12 = .ok (.aload_n 2, 1) := by decide +kernel
theorem dX8_leastPause_13 : decode cX8_leastPause 13 = .ok (.iload 4, 2) := by decide +kernel
theorem dX8_leastPause_15 : decode cX8_leastPause 15 = .ok (.iload_n 3, 1) := by decide +kernel
theorem dX8_leastPause_16 : decode cX8_leastPause 16 = .ok (.invokevirtual 365, 3) := by decide +kernel
theorem dX8_leastPause_19 : decode cX8_leastPause 19 = .ok (.ifCond .eq 6, 3) := by decide +kernel
theorem dX8_leastPause_22 : decode cX8_leastPause 22 = .ok (.iload 4, 2) := by decide +kernel
theorem dX8_leastPause_24 : decode cX8_leastPause 24 = .ok (.ireturn, 1) := by decide +kernel
theorem dX8_leastPause_25 : decode cX8_leastPause 25 = .ok (.iinc 4 1, 3) := by decide +kernel
theorem dX8_leastPause_28 : decode cX8_leastPause 28 = .ok (.goto (-25), 3) := by decide +kernel
theorem dX8_leastPause_31 : decode cX8_leastPause 31 = .ok (.iconst 0, 1) := by decide +kernel
theorem dX8_leastPause_32 : decode cX8_leastPause 32 = .ok (.ireturn, 1) := by decide +kernel
theorem dX8_measurePauses_0 : decode cX8_measurePauses 0 = .ok (.aload_n 0, 1) := by decide +kernel
theorem dX8_measurePauses_1 : decode cX8_measurePauses 1 = .ok (.aload_n 1, 1) := by decide +kernel
theorem dX8_measurePauses_2 : decode cX8_measurePauses 2 = .ok (.invokevirtual 284, 3) := by decide +kernel
theorem dX8_measurePauses_5 : decode cX8_measurePauses 5 = .ok (.iconst 0, 1) := by decide +kernel
theorem dX8_measurePauses_6 : decode cX8_measurePauses 6 = .ok (.istore_n 2, 1) := by decide +kernel
theorem dX8_measurePauses_7 : decode cX8_measurePauses 7 = .ok (.iload_n 2, 1) := by decide +kernel
theorem dX8_measurePauses_8 : decode cX8_measurePauses 8 = .ok (.aload_n 1, 1) := by decide +kernel
theorem dX8_measurePauses_9 : decode cX8_measurePauses 9 = .ok (.getfield 195, 3) := by decide +kernel
theorem dX8_measurePauses_12 : decode cX8_measurePauses 12 = .ok (.if_icmp .ge 111, 3) := by decide +kernel
theorem dX8_measurePauses_15 : decode cX8_measurePauses 15 = .ok (.iconst 0, 1) := by decide +kernel
theorem dX8_measurePauses_16 : decode cX8_measurePauses 16 = .ok (.istore_n 3, 1) := by decide +kernel
theorem dX8_measurePauses_17 : decode cX8_measurePauses 17 = .ok (.iload_n 3, 1) := by decide +kernel
theorem dX8_measurePauses_18 : decode cX8_measurePauses 18 = .ok (.aload_n 1, 1) := by decide +kernel
theorem dX8_measurePauses_19 : decode cX8_measurePauses 19 = .ok (.getfield 195, 3) := by decide +kernel
theorem dX8_measurePauses_22 : decode cX8_measurePauses 22 = .ok (.if_icmp .ge 95, 3) := by decide +kernel
theorem dX8_measurePauses_25 : decode cX8_measurePauses 25 = .ok (.aload_n 1, 1) := by decide +kernel
theorem dX8_measurePauses_26 : decode cX8_measurePauses 26 = .ok (.getfield 213, 3) := by decide +kernel
theorem dX8_measurePauses_29 : decode cX8_measurePauses 29 = .ok (.iload_n 2, 1) := by decide +kernel
theorem dX8_measurePauses_30 : decode cX8_measurePauses 30 = .ok (.aaload, 1) := by decide +kernel
theorem dX8_measurePauses_31 : decode cX8_measurePauses 31 = .ok (.astore 4, 2) := by decide +kernel
theorem dX8_measurePauses_33 : decode cX8_measurePauses 33 = .ok (.aload_n 1, 1) := by decide +kernel
theorem dX8_measurePauses_34 : decode cX8_measurePauses 34 = .ok (.getfield 213, 3) := by decide +kernel
theorem dX8_measurePauses_37 : decode cX8_measurePauses 37 = .ok (.iload_n 3, 1) := by decide +kernel
theorem dX8_measurePauses_38 : decode cX8_measurePauses 38 = .ok (.aaload, 1) := by decide +kernel
theorem dX8_measurePauses_39 : decode cX8_measurePauses 39 = .ok (.astore 5, 2) := by decide +kernel
theorem dX8_measurePauses_41 : decode cX8_measurePauses 41 = .ok (.iload_n 2, 1) := by decide +kernel
theorem dX8_measurePauses_42 : decode cX8_measurePauses 42 = .ok (.iload_n 3, 1) := by decide +kernel
theorem dX8_measurePauses_43 : decode cX8_measurePauses 43 = .ok (.if_icmp .eq 18, 3) := by decide +kernel
theorem dX8_measurePauses_46 : decode cX8_measurePauses 46 = .ok (.aload_n 0, 1) := by decide +kernel
theorem dX8_measurePauses_47 : decode cX8_measurePauses 47 = .ok (.aload 4, 2) := by decide +kernel
theorem dX8_measurePauses_49 : decode cX8_measurePauses 49 = .ok (.aload 5, 2) := by decide +kernel
theorem dX8_measurePauses_51 : decode cX8_measurePauses 51 = .ok (.invokevirtual 361, 3) := by decide +kernel
theorem dX8_measurePauses_54 : decode cX8_measurePauses 54 = .ok (.ifCond .eq 7, 3) := by decide +kernel
theorem dX8_measurePauses_57 : decode cX8_measurePauses 57 = .ok (.iconst 1, 1) := by decide +kernel
theorem dX8_measurePauses_58 : decode cX8_measurePauses 58 = .ok (.goto 4, 3) := by decide +kernel
theorem dX8_measurePauses_61 : decode cX8_measurePauses 61 = .ok (.iconst 0, 1) := by decide +kernel
theorem dX8_measurePauses_62 : decode cX8_measurePauses 62 = .ok (.istore 6, 2) := by decide +kernel
theorem dX8_measurePauses_64 : decode cX8_measurePauses 64 = .ok (.iload 6, 2) := by decide +kernel
theorem dX8_measurePauses_66 : decode cX8_measurePauses 66 = .ok (.ifCond .eq 29, 3) := by decide +kernel
theorem dX8_measurePauses_69 : decode cX8_measurePauses 69 = .ok (.aload_n 0, 1) := by decide +kernel
theorem dX8_measurePauses_70 : decode cX8_measurePauses 70 = .ok (.aload_n 0, 1) := by decide +kernel
theorem dX8_measurePauses_71 : decode cX8_measurePauses 71 = .ok (.getfield 62, 3) := by decide +kernel
theorem dX8_measurePauses_74 : decode cX8_measurePauses 74 = .ok (.iload_n 2, 1) := by decide +kernel
theorem dX8_measurePauses_75 : decode cX8_measurePauses 75 = .ok (.aaload, 1) := by decide +kernel
theorem dX8_measurePauses_76 : decode cX8_measurePauses 76 = .ok (.aload_n 0, 1) := by decide +kernel
theorem dX8_measurePauses_77 : decode cX8_measurePauses 77 = .ok (.getfield 62, 3) := by decide +kernel
theorem dX8_measurePauses_80 : decode cX8_measurePauses 80 = .ok (.iload_n 3, 1) := by decide +kernel
theorem dX8_measurePauses_81 : decode cX8_measurePauses 81 = .ok (.aaload, 1) := by decide +kernel
theorem dX8_measurePauses_82 : decode cX8_measurePauses 82 = .ok (.aload_n 1, 1) := by decide +kernel
theorem dX8_measurePauses_83 : decode cX8_measurePauses 83 = .ok (.getfield 214, 3) := by decide +kernel
theorem dX8_measurePauses_86 : decode cX8_measurePauses 86 = .ok (.getfield 255, 3) := by decide +kernel
theorem dX8_measurePauses_89 : decode cX8_measurePauses 89 = .ok (.invokevirtual 262, 3) := by decide +kernel
theorem dX8_measurePauses_92 : decode cX8_measurePauses 92 = .ok (.goto 4, 3) := by decide +kernel
theorem dX8_measurePauses_95 : decode cX8_measurePauses 95 = .ok (.iconst 0, 1) := by decide +kernel
theorem dX8_measurePauses_96 : decode cX8_measurePauses 96 = .ok (.istore 7, 2) := by decide +kernel
theorem dX8_measurePauses_98 : decode cX8_measurePauses 98 = .ok (.aload_n 0, 1) := by decide +kernel
theorem dX8_measurePauses_99 : decode cX8_measurePauses 99 = .ok (.getfield 69, 3) := by decide +kernel
theorem dX8_measurePauses_102 : decode cX8_measurePauses 102 = .ok (.aload 4, 2) := by decide +kernel
theorem dX8_measurePauses_104 : decode cX8_measurePauses 104 = .ok (.aload 5, 2) := by decide +kernel
theorem dX8_measurePauses_106 : decode cX8_measurePauses 106 = .ok (.iload 7, 2) := by decide +kernel
theorem dX8_measurePauses_108 : decode cX8_measurePauses 108 = .ok (.invokevirtual 369, 3) := by decide +kernel
theorem dX8_measurePauses_111 : decode cX8_measurePauses 111 = .ok (.iinc 3 1, 3) := by decide +kernel
theorem dX8_measurePauses_114 : decode cX8_measurePauses 114 = .ok (.goto (-97), 3) := by decide +kernel
theorem dX8_measurePauses_117 : decode cX8_measurePauses 117 = .ok (.iinc 2 1, 3) := by decide +kernel
theorem dX8_measurePauses_120 : decode cX8_measurePauses 120 = .ok (.goto (-113), 3) := by decide +kernel
theorem dX8_measurePauses_123 : decode cX8_measurePauses 123 = .ok (.return_, 1) := by decide +kernel
theorem dX8_reachSquare_0 : decode cX8_reachSquare 0 = .ok (.aload_n 0, 1) := by decide +kernel
theorem dX8_reachSquare_1 : decode cX8_reachSquare 1 = .ok (.getfield 57, 3) := by decide +kernel
theorem dX8_reachSquare_4 : decode cX8_reachSquare 4 = .ok (.iconst 1, 1) := by decide +kernel
theorem dX8_reachSquare_5 : decode cX8_reachSquare 5 = .ok (.iaload, 1) := by decide +kernel
theorem dX8_reachSquare_6 : decode cX8_reachSquare 6 = .ok (.i2l, 1) := by decide +kernel
theorem dX8_reachSquare_7 : decode cX8_reachSquare 7 = .ok (.aload_n 1, 1) := by decide +kernel
theorem dX8_reachSquare_8 : decode cX8_reachSquare 8 = .ok (.getfield 373, 3) := by decide +kernel
theorem dX8_reachSquare_11 : decode cX8_reachSquare 11 = .ok (.i2l, 1) := by decide +kernel
theorem dX8_reachSquare_12 : decode cX8_reachSquare 12 = .ok (.aload_n 2, 1) := by decide +kernel
theorem dX8_reachSquare_13 : decode cX8_reachSquare 13 = .ok (.invokevirtual 376, 3) := by decide +kernel
theorem dX8_reachSquare_16 : decode cX8_reachSquare 16 = .ok (.i2l, 1) := by decide +kernel
theorem dX8_reachSquare_17 : decode cX8_reachSquare 17 = .ok (.lmul, 1) := by decide +kernel
theorem dX8_reachSquare_18 : decode cX8_reachSquare 18 = .ok (.ladd, 1) := by decide +kernel
theorem dX8_reachSquare_19 : decode cX8_reachSquare 19 = .ok (.lstore_n 3, 1) := by decide +kernel
theorem dX8_reachSquare_20 : decode cX8_reachSquare 20 = .ok (.lload_n 3, 1) := by decide +kernel
theorem dX8_reachSquare_21 : decode cX8_reachSquare 21 = .ok (.lload_n 3, 1) := by decide +kernel
theorem dX8_reachSquare_22 : decode cX8_reachSquare 22 = .ok (.lmul, 1) := by decide +kernel
theorem dX8_reachSquare_23 : decode cX8_reachSquare 23 = .ok (.lreturn, 1) := by decide +kernel
theorem dX8_allHome_0 : decode cX8_allHome 0 = .ok (.iconst 0, 1) := by decide +kernel
theorem dX8_allHome_1 : decode cX8_allHome 1 = .ok (.istore_n 2, 1) := by decide +kernel
theorem dX8_allHome_2 : decode cX8_allHome 2 = .ok (.iload_n 2, 1) := by decide +kernel
theorem dX8_allHome_3 : decode cX8_allHome 3 = .ok (.aload_n 1, 1) := by decide +kernel
theorem dX8_allHome_4 : decode cX8_allHome 4 = .ok (.getfield 195, 3) := by decide +kernel
theorem dX8_allHome_7 : decode cX8_allHome 7 = .ok (.if_icmp .ge 69, 3) := by decide +kernel
theorem dX8_allHome_10 : decode cX8_allHome 10 = .ok (.aload_n 1, 1) := by decide +kernel
theorem dX8_allHome_11 : decode cX8_allHome 11 = .ok (.iload_n 2, 1) := by decide +kernel
theorem dX8_allHome_12 : decode cX8_allHome 12 = .ok (.invokevirtual 232, 3) := by decide +kernel
theorem dX8_allHome_15 : decode cX8_allHome 15 = .ok (.aload_n 0, 1) := by decide +kernel
theorem dX8_allHome_16 : decode cX8_allHome 16 = .ok (.getfield 62, 3) := by decide +kernel
theorem dX8_allHome_19 : decode cX8_allHome 19 = .ok (.iload_n 2, 1) := by decide +kernel
theorem dX8_allHome_20 : decode cX8_allHome 20 = .ok (.aaload, 1) := by decide +kernel
theorem dX8_allHome_21 : decode cX8_allHome 21 = .ok (.invokevirtual 292, 3) := by decide +kernel
theorem dX8_allHome_24 : decode cX8_allHome 24 = .ok (.iadd, 1) := by decide +kernel
theorem dX8_allHome_25 : decode cX8_allHome 25 = .ok (.i2l, 1) := by decide +kernel
theorem dX8_allHome_26 : decode cX8_allHome 26 = .ok (.lstore_n 3, 1) := by decide +kernel
theorem dX8_allHome_27 : decode cX8_allHome 27 = .ok (.aload_n 0, 1) := by decide +kernel
theorem dX8_allHome_28 : decode cX8_allHome 28 = .ok (.getfield 62, 3) := by decide +kernel
theorem dX8_allHome_31 : decode cX8_allHome 31 = .ok (.iload_n 2, 1) := by decide +kernel
theorem dX8_allHome_32 : decode cX8_allHome 32 = .ok (.aaload, 1) := by decide +kernel
theorem dX8_allHome_33 : decode cX8_allHome 33 = .ok (.invokevirtual 379, 3) := by decide +kernel
theorem dX8_allHome_36 : decode cX8_allHome 36 = .ok (.i2l, 1) := by decide +kernel
theorem dX8_allHome_37 : decode cX8_allHome 37 = .ok (.lstore 5, 2) := by decide +kernel
theorem dX8_allHome_39 : decode cX8_allHome 39 = .ok (.lload_n 3, 1) := by decide +kernel
theorem dX8_allHome_40 : decode cX8_allHome 40 = .ok (.lload_n 3, 1) := by decide +kernel
theorem dX8_allHome_41 : decode cX8_allHome 41 = .ok (.lmul, 1) := by decide +kernel
theorem dX8_allHome_42 : decode cX8_allHome 42 = .ok (.lload 5, 2) := by decide +kernel
theorem dX8_allHome_44 : decode cX8_allHome 44 = .ok (.lload 5, 2) := by decide +kernel
theorem dX8_allHome_46 : decode cX8_allHome 46 = .ok (.lmul, 1) := by decide +kernel
theorem dX8_allHome_47 : decode cX8_allHome 47 = .ok (.ladd, 1) := by decide +kernel
theorem dX8_allHome_48 : decode cX8_allHome 48 = .ok (.aload_n 0, 1) := by decide +kernel
theorem dX8_allHome_49 : decode cX8_allHome 49 = .ok (.aload_n 1, 1) := by decide +kernel
theorem dX8_allHome_50 : decode cX8_allHome 50 = .ok (.getfield 213, 3) := by decide +kernel
theorem dX8_allHome_53 : decode cX8_allHome 53 = .ok (.iload_n 2, 1) := by decide +kernel
theorem dX8_allHome_54 : decode cX8_allHome 54 = .ok (.aaload, 1) := by decide +kernel
theorem dX8_allHome_55 : decode cX8_allHome 55 = .ok (.aload_n 0, 1) := by decide +kernel
theorem dX8_allHome_56 : decode cX8_allHome 56 = .ok (.getfield 62, 3) := by decide +kernel
theorem dX8_allHome_59 : decode cX8_allHome 59 = .ok (.iload_n 2, 1) := by decide +kernel
theorem dX8_allHome_60 : decode cX8_allHome 60 = .ok (.aaload, 1) := by decide +kernel
theorem dX8_allHome_61 : decode cX8_allHome 61 = .ok (.invokevirtual 382, 3) := by decide +kernel
theorem dX8_allHome_64 : decode cX8_allHome 64 = .ok (.lcmp, 1) := by decide +kernel
theorem dX8_allHome_65 : decode cX8_allHome 65 = .ok (.ifCond .le 5, 3) := by decide +kernel
theorem dX8_allHome_68 : decode cX8_allHome 68 = .ok (.iconst 0, 1) := by decide +kernel
theorem dX8_allHome_69 : decode cX8_allHome 69 = .ok (.ireturn, 1) := by decide +kernel
theorem dX8_allHome_70 : decode cX8_allHome 70 = .ok (.iinc 2 1, 3) := by decide +kernel
theorem dX8_allHome_73 : decode cX8_allHome 73 = .ok (.goto (-71), 3) := by decide +kernel
theorem dX8_allHome_76 : decode cX8_allHome 76 = .ok (.iconst 1, 1) := by decide +kernel
theorem dX8_allHome_77 : decode cX8_allHome 77 = .ok (.ireturn, 1) := by decide +kernel
theorem dX8_roomAlongX_0 : decode cX8_roomAlongX 0 = .ok (.aload_n 2, 1) := by decide +kernel
theorem dX8_roomAlongX_1 : decode cX8_roomAlongX 1 = .ok (.invokevirtual 379, 3) := by decide +kernel
theorem dX8_roomAlongX_4 : decode cX8_roomAlongX 4 = .ok (.i2l, 1) := by decide +kernel
theorem dX8_roomAlongX_5 : decode cX8_roomAlongX 5 = .ok (.lstore_n 3, 1) := by decide +kernel
theorem dX8_roomAlongX_6 : decode cX8_roomAlongX 6 = .ok (.aload_n 0, 1) := by decide +kernel
theorem dX8_roomAlongX_7 : decode cX8_roomAlongX 7 = .ok (.aload_n 1, 1) := by decide +kernel
theorem dX8_roomAlongX_8 : decode cX8_roomAlongX 8 = .ok (.aload_n 2, 1) := by decide +kernel
theorem dX8_roomAlongX_9 : decode cX8_roomAlongX 9 = .ok (.invokevirtual 382, 3) := by decide +kernel
theorem dX8_roomAlongX_12 : decode cX8_roomAlongX 12 = .ok (.lload_n 3, 1) := by decide +kernel
theorem dX8_roomAlongX_13 : decode cX8_roomAlongX 13 = .ok (.lload_n 3, 1) := by decide +kernel
theorem dX8_roomAlongX_14 : decode cX8_roomAlongX 14 = .ok (.lmul, 1) := by decide +kernel
theorem dX8_roomAlongX_15 : decode cX8_roomAlongX 15 = .ok (.lsub, 1) := by decide +kernel
theorem dX8_roomAlongX_16 : decode cX8_roomAlongX 16 = .ok (.lstore 5, 2) := by decide +kernel
theorem dX8_roomAlongX_18 : decode cX8_roomAlongX 18 = .ok (.lload 5, 2) := by decide +kernel
theorem dX8_roomAlongX_20 : decode cX8_roomAlongX 20 = .ok (.lconst 0, 1) := by decide +kernel
theorem dX8_roomAlongX_21 : decode cX8_roomAlongX 21 = .ok (.lcmp, 1) := by decide +kernel
theorem dX8_roomAlongX_22 : decode cX8_roomAlongX 22 = .ok (.ifCond .ge 7, 3) := by decide +kernel
theorem dX8_roomAlongX_25 : decode cX8_roomAlongX 25 = .ok (.iconst (-1), 1) := by decide +kernel
theorem dX8_roomAlongX_26 : decode cX8_roomAlongX 26 = .ok (.goto 8, 3) := by decide +kernel
theorem dX8_roomAlongX_29 : decode cX8_roomAlongX 29 = .ok (.lload 5, 2) := by decide +kernel
theorem dX8_roomAlongX_31 : decode cX8_roomAlongX 31 = .ok (.invokestatic 386, 3) := by decide +kernel
theorem dX8_roomAlongX_34 : decode cX8_roomAlongX 34 = .ok (.ireturn, 1) := by decide +kernel
theorem dX8_wholeRoot_0 : decode cX8_wholeRoot 0 = .ok (.iconst 0, 1) := by decide +kernel
theorem dX8_wholeRoot_1 : decode cX8_wholeRoot 1 = .ok (.istore_n 2, 1) := by decide +kernel
theorem dX8_wholeRoot_2 : decode cX8_wholeRoot 2 = .ok (.ldc_w 390, 3) := by decide +kernel
theorem dX8_wholeRoot_5 : decode cX8_wholeRoot 5 = .ok (.istore_n 3, 1) := by decide +kernel
theorem dX8_wholeRoot_6 : decode cX8_wholeRoot 6 = .ok (.iload_n 3, 1) := by decide +kernel
theorem dX8_wholeRoot_7 : decode cX8_wholeRoot 7 = .ok (.ifCond .le 30, 3) := by decide +kernel
theorem dX8_wholeRoot_10 : decode cX8_wholeRoot 10 = .ok (.iload_n 2, 1) := by decide +kernel
theorem dX8_wholeRoot_11 : decode cX8_wholeRoot 11 = .ok (.iload_n 3, 1) := by decide +kernel
theorem dX8_wholeRoot_12 : decode cX8_wholeRoot 12 = .ok (.iadd, 1) := by decide +kernel
theorem dX8_wholeRoot_13 : decode cX8_wholeRoot 13 = .ok (.i2l, 1) := by decide +kernel
theorem dX8_wholeRoot_14 : decode cX8_wholeRoot 14 = .ok (.lstore 4, 2) := by decide +kernel
theorem dX8_wholeRoot_16 : decode cX8_wholeRoot 16 = .ok (.lload 4, 2) := by decide +kernel
theorem dX8_wholeRoot_18 : decode cX8_wholeRoot 18 = .ok (.lload 4, 2) := by decide +kernel
theorem dX8_wholeRoot_20 : decode cX8_wholeRoot 20 = .ok (.lmul, 1) := by decide +kernel
theorem dX8_wholeRoot_21 : decode cX8_wholeRoot 21 = .ok (.lload_n 0, 1) := by decide +kernel
theorem dX8_wholeRoot_22 : decode cX8_wholeRoot 22 = .ok (.lcmp, 1) := by decide +kernel
theorem dX8_wholeRoot_23 : decode cX8_wholeRoot 23 = .ok (.ifCond .gt 7, 3) := by decide +kernel
theorem dX8_wholeRoot_26 : decode cX8_wholeRoot 26 = .ok (.iload_n 2, 1) := by decide +kernel
theorem dX8_wholeRoot_27 : decode cX8_wholeRoot 27 = .ok (.iload_n 3, 1) := by decide +kernel
theorem dX8_wholeRoot_28 : decode cX8_wholeRoot 28 = .ok (.iadd, 1) := by decide +kernel
theorem dX8_wholeRoot_29 : decode cX8_wholeRoot 29 = .ok (.istore_n 2, 1) := by decide +kernel
theorem dX8_wholeRoot_30 : decode cX8_wholeRoot 30 = .ok (.iload_n 3, 1) := by decide +kernel
theorem dX8_wholeRoot_31 : decode cX8_wholeRoot 31 = .ok (.iconst 1, 1) := by decide +kernel
theorem dX8_wholeRoot_32 : decode cX8_wholeRoot 32 = .ok (.ishr, 1) := by decide +kernel
theorem dX8_wholeRoot_33 : decode cX8_wholeRoot 33 = .ok (.istore_n 3, 1) := by decide +kernel
theorem dX8_wholeRoot_34 : decode cX8_wholeRoot 34 = .ok (.goto (-28), 3) := by decide +kernel
theorem dX8_wholeRoot_37 : decode cX8_wholeRoot 37 = .ok (.iload_n 2, 1) := by decide +kernel
theorem dX8_wholeRoot_38 : decode cX8_wholeRoot 38 = .ok (.ireturn, 1) := by decide +kernel
end
section
theorem dX9_init_0 : decode cX9_init 0 = .ok (.aload_n 0, 1) := by decide +kernel
theorem dX9_init_1 : decode cX9_init 1 = .ok (.invokespecial 1, 3) := by decide +kernel
theorem dX9_init_4 : decode cX9_init 4 = .ok (.aload_n 0, 1) := by decide +kernel
theorem dX9_init_5 : decode cX9_init 5 = .ok (.iconst 3, 1) := by decide +kernel
theorem dX9_init_6 : decode cX9_init 6 = .ok (.newarray .int, 2) := by decide +kernel
theorem dX9_init_8 : decode cX9_init 8 = .ok (.putfield 7, 3) := by decide +kernel
theorem dX9_init_11 : decode cX9_init 11 = .ok (.aload_n 0, 1) := by decide +kernel
theorem dX9_init_12 : decode cX9_init 12 = .ok (.bipush 60, 2) := by decide +kernel
theorem dX9_init_14 : decode cX9_init 14 = .ok (.newarray .float, 2) := by decide +kernel
theorem dX9_init_16 : decode cX9_init 16 = .ok (.putfield 13, 3) := by decide +kernel
theorem dX9_init_19 : decode cX9_init 19 = .ok (.aload_n 0, 1) := by decide +kernel
theorem dX9_init_20 : decode cX9_init 20 = .ok (.bipush 60, 2) := by decide +kernel
theorem dX9_init_22 : decode cX9_init 22 = .ok (.newarray .boolean, 2) := by decide +kernel
theorem dX9_init_24 : decode cX9_init 24 = .ok (.putfield 17, 3) := by decide +kernel
theorem dX9_init_27 : decode cX9_init 27 = .ok (.aload_n 0, 1) := by decide +kernel
theorem dX9_init_28 : decode cX9_init 28 = .ok (.bipush 12, 2) := by decide +kernel
theorem dX9_init_30 : decode cX9_init 30 = .ok (.newarray .int, 2) := by decide +kernel
theorem dX9_init_32 : decode cX9_init 32 = .ok (.putfield 21, 3) := by decide +kernel
theorem dX9_init_35 : decode cX9_init 35 = .ok (.aload_n 0, 1) := by decide +kernel
theorem dX9_init_36 : decode cX9_init 36 = .ok (.bipush 12, 2) := by decide +kernel
theorem dX9_init_38 : decode cX9_init 38 = .ok (.newarray .int, 2) := by decide +kernel
theorem dX9_init_40 : decode cX9_init 40 = .ok (.putfield 24, 3) := by decide +kernel
theorem dX9_init_43 : decode cX9_init 43 = .ok (.aload_n 0, 1) := by decide +kernel
theorem dX9_init_44 : decode cX9_init 44 = .ok (.bipush 32, 2) := by decide +kernel
theorem dX9_init_46 : decode cX9_init 46 = .ok (.newarray .int, 2) := by decide +kernel
theorem dX9_init_48 : decode cX9_init 48 = .ok (.putfield 27, 3) := by decide +kernel
theorem dX9_init_51 : decode cX9_init 51 = .ok (.aload_n 0, 1) := by decide +kernel
theorem dX9_init_52 : decode cX9_init 52 = .ok (.bipush 32, 2) := by decide +kernel
theorem dX9_init_54 : decode cX9_init 54 = .ok (.newarray .int, 2) := by decide +kernel
theorem dX9_init_56 : decode cX9_init 56 = .ok (.putfield 30, 3) := by decide +kernel
theorem dX9_init_59 : decode cX9_init 59 = .ok (.aload_n 0, 1) := by decide +kernel
theorem dX9_init_60 : decode cX9_init 60 = .ok (.bipush 32, 2) := by decide +kernel
theorem dX9_init_62 : decode cX9_init 62 = .ok (.newarray .int, 2) := by decide +kernel
theorem dX9_init_64 : decode cX9_init 64 = .ok (.putfield 33, 3) := by decide +kernel
theorem dX9_init_67 : decode cX9_init 67 = .ok (.aload_n 0, 1) := by decide +kernel
theorem dX9_init_68 : decode cX9_init 68 = .ok (.bipush 20, 2) := by decide +kernel
theorem dX9_init_70 : decode cX9_init 70 = .ok (.newarray .int, 2) := by decide +kernel
theorem dX9_init_72 : decode cX9_init 72 = .ok (.putfield 36, 3) := by decide +kernel
theorem dX9_init_75 : decode cX9_init 75 = .ok (.aload_n 0, 1) := by decide +kernel
theorem dX9_init_76 : decode cX9_init 76 = .ok (.bipush 20, 2) := by decide +kernel
theorem dX9_init_78 : decode cX9_init 78 = .ok (.newarray .int, 2) := by decide +kernel
theorem dX9_init_80 : decode cX9_init 80 = .ok (.putfield 39, 3) := by decide +kernel
theorem dX9_init_83 : decode cX9_init 83 = .ok (.aload_n 0, 1) := by decide +kernel
theorem dX9_init_84 : decode cX9_init 84 = .ok (.bipush 20, 2) := by decide +kernel
theorem dX9_init_86 : decode cX9_init 86 = .ok (.newarray .int, 2) := by decide +kernel
theorem dX9_init_88 : decode cX9_init 88 = .ok (.putfield 42, 3) := by decide +kernel
theorem dX9_init_91 : decode cX9_init 91 = .ok (.aload_n 0, 1) := by decide +kernel
theorem dX9_init_92 : decode cX9_init 92 = .ok (.bipush 20, 2) := by decide +kernel
theorem dX9_init_94 : decode cX9_init 94 = .ok (.newarray .int, 2) := by decide +kernel
theorem dX9_init_96 : decode cX9_init 96 = .ok (.putfield 45, 3) := by decide +kernel
theorem dX9_init_99 : decode cX9_init 99 = .ok (.aload_n 0, 1) := by decide +kernel
theorem dX9_init_100 : decode cX9_init 100 = .ok (.bipush 20, 2) := by decide +kernel
theorem dX9_init_102 : decode cX9_init 102 = .ok (.newarray .int, 2) := by decide +kernel
theorem dX9_init_104 : decode cX9_init 104 = .ok (.putfield 48, 3) := by decide +kernel
theorem dX9_init_107 : decode cX9_init 107 = .ok (.aload_n 0, 1) := by decide +kernel
theorem dX9_init_108 : decode cX9_init 108 = .ok (.bipush 80, 2) := by decide +kernel
theorem dX9_init_110 : decode cX9_init 110 = .ok (.newarray .int, 2) := by decide +kernel
theorem dX9_init_112 : decode cX9_init 112 = .ok (.putfield 51, 3) := by decide +kernel
theorem dX9_init_115 : decode cX9_init 115 = .ok (.aload_n 0, 1) := by decide +kernel
theorem dX9_init_116 : decode cX9_init 116 = .ok (.iconst 3, 1) := by decide +kernel
theorem dX9_init_117 : decode cX9_init 117 = .ok (.newarray .int, 2) := by decide +kernel
theorem dX9_init_119 : decode cX9_init 119 = .ok (.putfield 54, 3) := by decide +kernel
theorem dX9_init_122 : decode cX9_init 122 = .ok (.aload_n 0, 1) := by decide +kernel
theorem dX9_init_123 : decode cX9_init 123 = .ok (.iconst 3, 1) := by decide +kernel
theorem dX9_init_124 : decode cX9_init 124 = .ok (.newarray .int, 2) := by decide +kernel
theorem dX9_init_126 : decode cX9_init 126 = .ok (.putfield 57, 3) := by decide +kernel
theorem dX9_init_129 : decode cX9_init 129 = .ok (.aload_n 0, 1) := by decide +kernel
theorem dX9_init_130 : decode cX9_init 130 = .ok (.iconst 3, 1) := by decide +kernel
theorem dX9_init_131 : decode cX9_init 131 = .ok (.newarray .int, 2) := by decide +kernel
theorem dX9_init_133 : decode cX9_init 133 = .ok (.putfield 60, 3) := by decide +kernel
theorem dX9_init_136 : decode cX9_init 136 = .ok (.aload_n 0, 1) := by decide +kernel
theorem dX9_init_137 : decode cX9_init 137 = .ok (.iconst 3, 1) := by decide +kernel
theorem dX9_init_138 : decode cX9_init 138 = .ok (.newarray .int, 2) := by decide +kernel
theorem dX9_init_140 : decode cX9_init 140 = .ok (.putfield 63, 3) := by decide +kernel
theorem dX9_init_143 : decode cX9_init 143 = .ok (.aload_n 0, 1) := by decide +kernel
theorem dX9_init_144 : decode cX9_init 144 = .ok (.bipush 10, 2) := by decide +kernel
theorem dX9_init_146 : decode cX9_init 146 = .ok (.newarray .int, 2) := by decide +kernel
theorem dX9_init_148 : decode cX9_init 148 = .ok (.putfield 66, 3) := by decide +kernel
theorem dX9_init_151 : decode cX9_init 151 = .ok (.aload_n 0, 1) := by decide +kernel
theorem dX9_init_152 : decode cX9_init 152 = .ok (.bipush 12, 2) := by decide +kernel
theorem dX9_init_154 : decode cX9_init 154 = .ok (.newarray .int, 2) := by decide +kernel
theorem dX9_init_156 : decode cX9_init 156 = .ok (.putfield 69, 3) := by decide +kernel
theorem dX9_init_159 : decode cX9_init 159 = .ok (.aload_n 0, 1) := by decide +kernel
theorem dX9_init_160 : decode cX9_init 160 = .ok (.bipush 12, 2) := by decide +kernel
theorem dX9_init_162 : decode cX9_init 162 = .ok (.newarray .int, 2) := by decide +kernel
theorem dX9_init_164 : decode cX9_init 164 = .ok (.putfield 72, 3) := by decide +kernel
theorem dX9_init_167 : decode cX9_init 167 = .ok (.aload_n 0, 1) := by decide +kernel
theorem dX9_init_168 : decode cX9_init 168 = .ok (.bipush 72, 2) := by decide +kernel
theorem dX9_init_170 : decode cX9_init 170 = .ok (.newarray .int, 2) := by decide +kernel
theorem dX9_init_172 : decode cX9_init 172 = .ok (.putfield 75, 3) := by decide +kernel
theorem dX9_init_175 : decode cX9_init 175 = .ok (.aload_n 0, 1) := by decide +kernel
theorem dX9_init_176 : decode cX9_init 176 = .ok (.bipush 72, 2) := by decide +kernel
theorem dX9_init_178 : decode cX9_init 178 = .ok (.newarray .int, 2) := by decide +kernel
theorem dX9_init_180 : decode cX9_init 180 = .ok (.putfield 78, 3) := by decide +kernel
theorem dX9_init_183 : decode cX9_init 183 = .ok (.aload_n 0, 1) := by decide +kernel
theorem dX9_init_184 : decode cX9_init 184 = .ok (.bipush 12, 2) := by decide +kernel
theorem dX9_init_186 : decode cX9_init 186 = .ok (.newarray .int, 2) := by decide +kernel
theorem dX9_init_188 : decode cX9_init 188 = .ok (.putfield 81, 3) := by decide +kernel
theorem dX9_init_191 : decode cX9_init 191 = .ok (.aload_n 0, 1) := by decide +kernel
theorem dX9_init_192 : decode cX9_init 192 = .ok (.bipush 12, 2) := by decide +kernel
theorem dX9_init_194 : decode cX9_init 194 = .ok (.newarray .boolean, 2) := by decide +kernel
theorem dX9_init_196 : decode cX9_init 196 = .ok (.putfield 84, 3) := by decide +kernel
theorem dX9_init_199 : decode cX9_init 199 = .ok (.aload_n 0, 1) := by decide +kernel
theorem dX9_init_200 : decode cX9_init 200 = .ok (.sipush 144, 3) := by decide +kernel
theorem dX9_init_203 : decode cX9_init 203 = .ok (.newarray .int, 2) := by decide +kernel
theorem dX9_init_205 : decode cX9_init 205 = .ok (.putfield 87, 3) := by decide +kernel
theorem dX9_init_208 : decode cX9_init 208 = .ok (.aload_n 0, 1) := by decide +kernel
theorem dX9_init_209 : decode cX9_init 209 = .ok (.sipush 144, 3) := by decide +kernel
theorem dX9_init_212 : decode cX9_init 212 = .ok (.newarray .int, 2) := by decide +kernel
theorem dX9_init_214 : decode cX9_init 214 = .ok (.putfield 90, 3) := by decide +kernel
theorem dX9_init_217 : decode cX9_init 217 = .ok (.aload_n 0, 1) := by decide +kernel
theorem dX9_init_218 : decode cX9_init 218 = .ok (.bipush 12, 2) := by decide +kernel
theorem dX9_init_220 : decode cX9_init 220 = .ok (.newarray .int, 2) := by decide +kernel
theorem dX9_init_222 : decode cX9_init 222 = .ok (.putfield 93, 3) := by decide +kernel
theorem dX9_init_225 : decode cX9_init 225 = .ok (.aload_n 0, 1) := by decide +kernel
theorem dX9_init_226 : decode cX9_init 226 = .ok (.bipush 12, 2) := by decide +kernel
theorem dX9_init_228 : decode cX9_init 228 = .ok (.newarray .int, 2) := by decide +kernel
theorem dX9_init_230 : decode cX9_init 230 = .ok (.putfield 96, 3) := by decide +kernel
theorem dX9_init_233 : decode cX9_init 233 = .ok (.aload_n 0, 1) := by decide +kernel
theorem dX9_init_234 : decode cX9_init 234 = .ok (.bipush 12, 2) := by decide +kernel
theorem dX9_init_236 : decode cX9_init 236 = .ok (.newarray .int, 2) := by decide +kernel
theorem dX9_init_238 : decode cX9_init 238 = .ok (.putfield 99, 3) := by decide +kernel
theorem dX9_init_241 : decode cX9_init 241 = .ok (.aload_n 0, 1) := by decide +kernel
theorem dX9_init_242 : decode cX9_init 242 = .ok (.bipush 12, 2) := by decide +kernel
theorem dX9_init_244 : decode cX9_init 244 = .ok (.newarray .int, 2) := by decide +kernel
theorem dX9_init_246 : decode cX9_init 246 = .ok (.putfield 102, 3) := by decide +kernel
theorem dX9_init_249 : decode cX9_init 249 = .ok (.aload_n 0, 1) := by decide +kernel
theorem dX9_init_250 : decode cX9_init 250 = .ok (.sipush 2002, 3) := by decide +kernel
theorem dX9_init_253 : decode cX9_init 253 = .ok (.newarray .int, 2) := by decide +kernel
theorem dX9_init_255 : decode cX9_init 255 = .ok (.putfield 105, 3) := by decide +kernel
theorem dX9_init_258 : decode cX9_init 258 = .ok (.aload_n 0, 1) := by decide +kernel
theorem dX9_init_259 : decode cX9_init 259 = .ok (.sipush 2002, 3) := by decide +kernel
theorem dX9_init_262 : decode cX9_init 262 = .ok (.newarray .int, 2) := by decide +kernel
theorem dX9_init_264 : decode cX9_init 264 = .ok (.putfield 108, 3) := by decide +kernel
theorem dX9_init_267 : decode cX9_init 267 = .ok (.aload_n 0, 1) := by decide +kernel
theorem dX9_init_268 : decode cX9_init 268 = .ok (.sipush 2002, 3) := by decide +kernel
theorem dX9_init_271 : decode cX9_init 271 = .ok (.newarray .int, 2) := by decide +kernel
theorem dX9_init_273 : decode cX9_init 273 = .ok (.putfield 111, 3) := by decide +kernel
theorem dX9_init_276 : decode cX9_init 276 = .ok (.aload_n 0, 1) := by decide +kernel
theorem dX9_init_277 : decode cX9_init 277 = .ok (.sipush 2002, 3) := by decide +kernel
theorem dX9_init_280 : decode cX9_init 280 = .ok (.newarray .int, 2) := by decide +kernel
theorem dX9_init_282 : decode cX9_init 282 = .ok (.putfield 114, 3) := by decide +kernel
theorem dX9_init_285 : decode cX9_init 285 = .ok (.aload_n 0, 1) := by decide +kernel
theorem dX9_init_286 : decode cX9_init 286 = .ok (.iconst 2, 1) := by decide +kernel
theorem dX9_init_287 : decode cX9_init 287 = .ok (.newarray .int, 2) := by decide +kernel
theorem dX9_init_289 : decode cX9_init 289 = .ok (.putfield 117, 3) := by decide +kernel
theorem dX9_init_292 : decode cX9_init 292 = .ok (.aload_n 0, 1) := by decide +kernel
theorem dX9_init_293 : decode cX9_init 293 = .ok (.iconst 2, 1) := by decide +kernel
theorem dX9_init_294 : decode cX9_init 294 = .ok (.newarray .int, 2) := by decide +kernel
theorem dX9_init_296 : decode cX9_init 296 = .ok (.putfield 120, 3) := by decide +kernel
theorem dX9_init_299 : decode cX9_init 299 = .ok (.aload_n 0, 1) := by decide +kernel
theorem dX9_init_300 : decode cX9_init 300 = .ok (.bipush 6, 2) := by decide +kernel
theorem dX9_init_302 : decode cX9_init 302 = .ok (.newarray .int, 2) := by decide +kernel
theorem dX9_init_304 : decode cX9_init 304 = .ok (.putfield 123, 3) := by decide +kernel
theorem dX9_init_307 : decode cX9_init 307 = .ok (.aload_n 0, 1) := by decide +kernel
theorem dX9_init_308 : decode cX9_init 308 = .ok (.bipush 36, 2) := by decide +kernel
theorem dX9_init_310 : decode cX9_init 310 = .ok (.newarray .int, 2) := by decide +kernel
theorem dX9_init_312 : decode cX9_init 312 = .ok (.putfield 126, 3) := by decide +kernel
theorem dX9_init_315 : decode cX9_init 315 = .ok (.aload_n 0, 1) := by decide +kernel
theorem dX9_init_316 : decode cX9_init 316 = .ok (.bipush 6, 2) := by decide +kernel
theorem dX9_init_318 : decode cX9_init 318 = .ok (.newarray .int, 2) := by decide +kernel
theorem dX9_init_320 : decode cX9_init 320 = .ok (.putfield 129, 3) := by decide +kernel
theorem dX9_init_323 : decode cX9_init 323 = .ok (.aload_n 0, 1) := by decide +kernel
theorem dX9_init_324 : decode cX9_init 324 = .ok (.bipush 6, 2) := by decide +kernel
theorem dX9_init_326 : decode cX9_init 326 = .ok (.newarray .int, 2) := by decide +kernel
theorem dX9_init_328 : decode cX9_init 328 = .ok (.putfield 132, 3) := by decide +kernel
theorem dX9_init_331 : decode cX9_init 331 = .ok (.iconst 0, 1) := by decide +kernel
theorem dX9_init_332 : decode cX9_init 332 = .ok (.istore_n 1, 1) := by decide +kernel
theorem dX9_init_333 : decode cX9_init 333 = .ok (.iload_n 1, 1) := by decide +kernel
theorem dX9_init_334 : decode cX9_init 334 = .ok (.iconst 3, 1) := by decide +kernel
theorem dX9_init_335 : decode cX9_init 335 = .ok (.if_icmp .ge 50, 3) := by decide +kernel
theorem dX9_init_338 : decode cX9_init 338 = .ok (.aload_n 0, 1) := by decide +kernel
theorem dX9_init_339 : decode cX9_init 339 = .ok (.getfield 7, 3) := by decide +kernel
theorem dX9_init_342 : decode cX9_init 342 = .ok (.iload_n 1, 1) := by decide +kernel
theorem dX9_init_343 : decode cX9_init 343 = .ok (.iconst (-1), 1) := by decide +kernel
theorem dX9_init_344 : decode cX9_init 344 = .ok (.iastore, 1) := by decide +kernel
theorem dX9_init_345 : decode cX9_init 345 = .ok (.aload_n 0, 1) := by decide +kernel
theorem dX9_init_346 : decode cX9_init 346 = .ok (.getfield 54, 3) := by decide +kernel
theorem dX9_init_349 : decode cX9_init 349 = .ok (.iload_n 1, 1) := by decide +kernel
theorem dX9_init_350 : decode cX9_init 350 = .ok (.bipush 10, 2) := by decide +kernel
theorem dX9_init_352 : decode cX9_init 352 = .ok (.iastore, 1) := by decide +kernel
theorem dX9_init_353 : decode cX9_init 353 = .ok (.aload_n 0, 1) := by decide +kernel
theorem dX9_init_354 : decode cX9_init 354 = .ok (.getfield 57, 3) := by decide +kernel
theorem dX9_init_357 : decode cX9_init 357 = .ok (.iload_n 1, 1) := by decide +kernel
theorem dX9_init_358 : decode cX9_init 358 = .ok (.sipush 1000, 3) := by decide +kernel
theorem dX9_init_361 : decode cX9_init 361 = .ok (.iastore, 1) := by decide +kernel
theorem dX9_init_362 : decode cX9_init 362 = .ok (.aload_n 0, 1) := by decide +kernel
theorem dX9_init_363 : decode cX9_init 363 = .ok (.getfield 60, 3) := by decide +kernel
theorem dX9_init_366 : decode cX9_init 366 = .ok (.iload_n 1, 1) := by decide +kernel
theorem dX9_init_367 : decode cX9_init 367 = .ok (.sipush 400, 3) := by decide +kernel
theorem dX9_init_370 : decode cX9_init 370 = .ok (.iastore, 1) := by decide +kernel
theorem dX9_init_371 : decode cX9_init 371 = .ok (.aload_n 0, 1) := by decide +kernel
theorem dX9_init_372 : decode cX9_init 372 = .ok (.getfield 63, 3) := by decide +kernel
theorem dX9_init_375 : decode cX9_init 375 = .ok (.iload_n 1, 1) := by decide +kernel
theorem dX9_init_376 : decode cX9_init 376 = .ok (.ldc 135, 2) := by decide +kernel
theorem dX9_init_378 : decode cX9_init 378 = .ok (.iastore, 1) := by decide +kernel
theorem dX9_init_379 : decode cX9_init 379 = .ok (.iinc 1 1, 3) := by decide +kernel
theorem dX9_init_382 : decode cX9_init 382 = .ok (.goto (-49), 3) := by decide +kernel
theorem dX9_init_385 : decode cX9_init 385 = .ok (.iconst 0, 1) := by decide +kernel
theorem dX9_init_386 : decode cX9_init 386 = .ok (.istore_n 1, 1) := by decide +kernel
theorem dX9_init_387 : decode cX9_init 387 = .ok (.iload_n 1, 1) := by decide +kernel
theorem dX9_init_388 : decode cX9_init 388 = .ok (.bipush 32, 2) := by decide +kernel
theorem dX9_init_390 : decode cX9_init 390 = .ok (.if_icmp .ge 26, 3) := by decide +kernel
theorem dX9_init_393 : decode cX9_init 393 = .ok (.aload_n 0, 1) := by decide +kernel
theorem dX9_init_394 : decode cX9_init 394 = .ok (.getfield 30, 3) := by decide +kernel
theorem dX9_init_397 : decode cX9_init 397 = .ok (.iload_n 1, 1) := by decide +kernel
theorem dX9_init_398 : decode cX9_init 398 = .ok (.bipush 80, 2) := by decide +kernel
theorem dX9_init_400 : decode cX9_init 400 = .ok (.iastore, 1) := by decide +kernel
theorem dX9_init_401 : decode cX9_init 401 = .ok (.aload_n 0, 1) := by decide +kernel
theorem dX9_init_402 : decode cX9_init 402 = .ok (.getfield 33, 3) := by decide +kernel
theorem dX9_init_405 : decode cX9_init 405 = .ok (.iload_n 1, 1) := by decide +kernel
theorem dX9_init_406 : decode cX9_init 406 = .ok (.sipush 1000, 3) := by decide +kernel
theorem dX9_init_409 : decode cX9_init 409 = .ok (.iastore, 1) := by decide +kernel
theorem dX9_init_410 : decode cX9_init 410 = .ok (.iinc 1 1, 3) := by decide +kernel
theorem dX9_init_413 : decode cX9_init 413 = .ok (.goto (-26), 3) := by decide +kernel
theorem dX9_init_416 : decode cX9_init 416 = .ok (.aload_n 0, 1) := by decide +kernel
theorem dX9_init_417 : decode cX9_init 417 = .ok (.getfield 66, 3) := by decide +kernel
theorem dX9_init_420 : decode cX9_init 420 = .ok (.iconst 0, 1) := by decide +kernel
theorem dX9_init_421 : decode cX9_init 421 = .ok (.sipush 1000, 3) := by decide +kernel
theorem dX9_init_424 : decode cX9_init 424 = .ok (.iastore, 1) := by decide +kernel
theorem dX9_init_425 : decode cX9_init 425 = .ok (.aload_n 0, 1) := by decide +kernel
theorem dX9_init_426 : decode cX9_init 426 = .ok (.getfield 66, 3) := by decide +kernel
theorem dX9_init_429 : decode cX9_init 429 = .ok (.iconst 1, 1) := by decide +kernel
theorem dX9_init_430 : decode cX9_init 430 = .ok (.sipush 3000, 3) := by decide +kernel
theorem dX9_init_433 : decode cX9_init 433 = .ok (.iastore, 1) := by decide +kernel
theorem dX9_init_434 : decode cX9_init 434 = .ok (.iconst 0, 1) := by decide +kernel
theorem dX9_init_435 : decode cX9_init 435 = .ok (.istore_n 1, 1) := by decide +kernel
theorem dX9_init_436 : decode cX9_init 436 = .ok (.iload_n 1, 1) := by decide +kernel
theorem dX9_init_437 : decode cX9_init 437 = .ok (.iconst 4, 1) := by decide +kernel
theorem dX9_init_438 : decode cX9_init 438 = .ok (.if_icmp .ge 30, 3) := by decide +kernel
theorem dX9_init_441 : decode cX9_init 441 = .ok (.aload_n 0, 1) := by decide +kernel
theorem dX9_init_442 : decode cX9_init 442 = .ok (.getfield 66, 3) := by decide +kernel
theorem dX9_init_445 : decode cX9_init 445 = .ok (.iconst 2, 1) := by decide +kernel
theorem dX9_init_446 : decode cX9_init 446 = .ok (.iload_n 1, 1) := by decide +kernel
theorem dX9_init_447 : decode cX9_init 447 = .ok (.iadd, 1) := by decide +kernel
theorem dX9_init_448 : decode cX9_init 448 = .ok (.sipush 20000, 3) := by decide +kernel
theorem dX9_init_451 : decode cX9_init 451 = .ok (.iastore, 1) := by decide +kernel
theorem dX9_init_452 : decode cX9_init 452 = .ok (.aload_n 0, 1) := by decide +kernel
theorem dX9_init_453 : decode cX9_init 453 = .ok (.getfield 66, 3) := by decide +kernel
theorem dX9_init_456 : decode cX9_init 456 = .ok (.bipush 6, 2) := by decide +kernel
theorem dX9_init_458 : decode cX9_init 458 = .ok (.iload_n 1, 1) := by decide +kernel
theorem dX9_init_459 : decode cX9_init 459 = .ok (.iadd, 1) := by decide +kernel
theorem dX9_init_460 : decode cX9_init 460 = .ok (.iload_n 1, 1) := by decide +kernel
theorem dX9_init_461 : decode cX9_init 461 = .ok (.iastore, 1) := by decide +kernel
theorem dX9_init_462 : decode cX9_init 462 = .ok (.iinc 1 1, 3) := by decide +kernel
theorem dX9_init_465 : decode cX9_init 465 = .ok (.goto (-29), 3) := by decide +kernel
theorem dX9_init_468 : decode cX9_init 468 = .ok (.return_, 1) := by decide +kernel
theorem dX9_in_0 : decode cX9_in 0 = .ok (.lload_n 0, 1) := by decide +kernel
theorem dX9_in_1 : decode cX9_in 1 = .ok (.lload_n 2, 1) := by decide +kernel
theorem dX9_in_2 : decode cX9_in 2 = .ok (.lcmp, 1) := by decide +kernel
theorem dX9_in_3 : decode cX9_in 3 = .ok (.ifCond .lt 14, 3) := by decide +kernel
theorem dX9_in_6 : decode cX9_in 6 = .ok (.lload_n 0, 1) := by decide +kernel
theorem dX9_in_7 : decode cX9_in 7 = .ok (.lload 4, 2) := by decide +kernel
theorem dX9_in_9 : decode cX9_in 9 = .ok (.lcmp, 1) := by decide +kernel
theorem dX9_in_10 : decode cX9_in 10 = .ok (.ifCond .gt 7, 3) := by decide +kernel
theorem dX9_in_13 : decode cX9_in 13 = .ok (.iconst 1, 1) := by decide +kernel
theorem dX9_in_14 : decode cX9_in 14 = .ok (.goto 4, 3) := by decide +kernel
theorem dX9_in_17 : decode cX9_in 17 = .ok (.iconst 0, 1) := by decide +kernel
theorem dX9_in_18 : decode cX9_in 18 = .ok (.ireturn, 1) := by decide +kernel
theorem dX9_isSheet_0 : decode cX9_isSheet 0 = .ok (.iload_n 0, 1) := by decide +kernel
theorem dX9_isSheet_1 : decode cX9_isSheet 1 = .ok (.i2l, 1) := by decide +kernel
theorem dX9_isSheet_2 : decode cX9_isSheet 2 = .ok (.lconst 0, 1) := by decide +kernel
theorem dX9_isSheet_3 : decode cX9_isSheet 3 = .ok (.ldc2_w 136, 3) := by decide +kernel
theorem dX9_isSheet_6 : decode cX9_isSheet 6 = .ok (.invokestatic 138, 3) := by decide +kernel
theorem dX9_isSheet_9 : decode cX9_isSheet 9 = .ok (.ireturn, 1) := by decide +kernel
theorem dX9_isGroup_0 : decode cX9_isGroup 0 = .ok (.iload_n 1, 1) := by decide +kernel
theorem dX9_isGroup_1 : decode cX9_isGroup 1 = .ok (.i2l, 1) := by decide +kernel
theorem dX9_isGroup_2 : decode cX9_isGroup 2 = .ok (.lconst 0, 1) := by decide +kernel
theorem dX9_isGroup_3 : decode cX9_isGroup 3 = .ok (.aload_n 0, 1) := by decide +kernel
theorem dX9_isGroup_4 : decode cX9_isGroup 4 = .ok (.getfield 142, 3) := by decide +kernel
theorem dX9_isGroup_7 : decode cX9_isGroup 7 = .ok (.iconst 1, 1) := by decide +kernel
theorem dX9_isGroup_8 : decode cX9_isGroup 8 = .ok (.isub, 1) := by decide +kernel
theorem dX9_isGroup_9 : decode cX9_isGroup 9 = .ok (.i2l, 1) := by decide +kernel
theorem dX9_isGroup_10 : decode cX9_isGroup 10 = .ok (.invokestatic 138, 3) := by decide +kernel
theorem dX9_isGroup_13 : decode cX9_isGroup 13 = .ok (.ireturn, 1) := by decide +kernel
theorem dX9_isLoad_0 : decode cX9_isLoad 0 = .ok (.iload_n 1, 1) := by decide +kernel
theorem dX9_isLoad_1 : decode cX9_isLoad 1 = .ok (.i2l, 1) := by decide +kernel
theorem dX9_isLoad_2 : decode cX9_isLoad 2 = .ok (.lconst 0, 1) := by decide +kernel
theorem dX9_isLoad_3 : decode cX9_isLoad 3 = .ok (.aload_n 0, 1) := by decide +kernel
theorem dX9_isLoad_4 : decode cX9_isLoad 4 = .ok (.getfield 146, 3) := by decide +kernel
theorem dX9_isLoad_7 : decode cX9_isLoad 7 = .ok (.iconst 1, 1) := by decide +kernel
theorem dX9_isLoad_8 : decode cX9_isLoad 8 = .ok (.isub, 1) := by decide +kernel
theorem dX9_isLoad_9 : decode cX9_isLoad 9 = .ok (.i2l, 1) := by decide +kernel
theorem dX9_isLoad_10 : decode cX9_isLoad 10 = .ok (.invokestatic 138, 3) := by decide +kernel
theorem dX9_isLoad_13 : decode cX9_isLoad 13 = .ok (.ireturn, 1) := by decide +kernel
theorem dX9_isIn_0 : decode cX9_isIn 0 = .ok (.aload_n 0, 1) := by decide +kernel
theorem dX9_isIn_1 : decode cX9_isIn 1 = .ok (.iload_n 1, 1) := by decide +kernel
theorem dX9_isIn_2 : decode cX9_isIn 2 = .ok (.invokevirtual 149, 3) := by decide +kernel
theorem dX9_isIn_5 : decode cX9_isIn 5 = .ok (.ifCond .eq 25, 3) := by decide +kernel
theorem dX9_isIn_8 : decode cX9_isIn 8 = .ok (.iload_n 2, 1) := by decide +kernel
theorem dX9_isIn_9 : decode cX9_isIn 9 = .ok (.i2l, 1) := by decide +kernel
theorem dX9_isIn_10 : decode cX9_isIn 10 = .ok (.lconst 0, 1) := by decide +kernel
theorem dX9_isIn_11 : decode cX9_isIn 11 = .ok (.aload_n 0, 1) := by decide +kernel
theorem dX9_isIn_12 : decode cX9_isIn 12 = .ok (.getfield 72, 3) := by decide +kernel
theorem dX9_isIn_15 : decode cX9_isIn 15 = .ok (.iload_n 1, 1) := by decide +kernel
theorem dX9_isIn_16 : decode cX9_isIn 16 = .ok (.iaload, 1) := by decide +kernel
theorem dX9_isIn_17 : decode cX9_isIn 17 = .ok (.iconst 1, 1) := by decide +kernel
theorem dX9_isIn_18 : decode cX9_isIn 18 = .ok (.isub, 1) := by decide +kernel
theorem dX9_isIn_19 : decode cX9_isIn 19 = .ok (.i2l, 1) := by decide +kernel
theorem dX9_isIn_20 : decode cX9_isIn 20 = .ok (.invokestatic 138, 3) := by decide +kernel
theorem dX9_isIn_23 : decode cX9_isIn 23 = .ok (.ifCond .eq 7, 3) := by decide +kernel
theorem dX9_isIn_26 : decode cX9_isIn 26 = .ok (.iconst 1, 1) := by decide +kernel
theorem dX9_isIn_27 : decode cX9_isIn 27 = .ok (.goto 4, 3) := by decide +kernel
theorem dX9_isIn_30 : decode cX9_isIn 30 = .ok (.iconst 0, 1) := by decide +kernel
theorem dX9_isIn_31 : decode cX9_isIn 31 = .ok (.ireturn, 1) := by decide +kernel
theorem dX9_sheet_0 : decode cX9_sheet 0 = .ok (.iload_n 1, 1) := by decide +kernel
theorem dX9_sheet_1 : decode cX9_sheet 1 = .ok (.invokestatic 153, 3) := by decide +kernel
theorem dX9_sheet_4 : decode cX9_sheet 4 = .ok (.ifCond .ne 5, 3) := by decide +kernel
theorem dX9_sheet_7 : decode cX9_sheet 7 = .ok (.iconst (-1), 1) := by decide +kernel
theorem dX9_sheet_8 : decode cX9_sheet 8 = .ok (.ireturn, 1) := by decide +kernel
theorem dX9_sheet_9 : decode cX9_sheet 9 = .ok (.iload_n 2, 1) := by decide +kernel
theorem dX9_sheet_10 : decode cX9_sheet 10 = .ok (.ifCond .ge 6, 3) := by decide +kernel
theorem dX9_sheet_13 : decode cX9_sheet 13 = .ok (.bipush (-4), 2) := by decide +kernel
theorem dX9_sheet_15 : decode cX9_sheet 15 = .ok (.ireturn, 1) := by decide +kernel
theorem dX9_sheet_16 : decode cX9_sheet 16 = .ok (.iload_n 2, 1) := by decide +kernel
theorem dX9_sheet_17 : decode cX9_sheet 17 = .ok (.bipush 20, 2) := by decide +kernel
theorem dX9_sheet_19 : decode cX9_sheet 19 = .ok (.if_icmp .le 5, 3) := by decide +kernel
theorem dX9_sheet_22 : decode cX9_sheet 22 = .ok (.iconst (-1), 1) := by decide +kernel
theorem dX9_sheet_23 : decode cX9_sheet 23 = .ok (.ireturn, 1) := by decide +kernel
theorem dX9_sheet_24 : decode cX9_sheet 24 = .ok (.aload_n 0, 1) := by decide +kernel
theorem dX9_sheet_25 : decode cX9_sheet 25 = .ok (.getfield 7, 3) := by decide +kernel
theorem dX9_sheet_28 : decode cX9_sheet 28 = .ok (.iload_n 1, 1) := by decide +kernel
theorem dX9_sheet_29 : decode cX9_sheet 29 = .ok (.iload_n 2, 1) := by decide +kernel
theorem dX9_sheet_30 : decode cX9_sheet 30 = .ok (.iastore, 1) := by decide +kernel
theorem dX9_sheet_31 : decode cX9_sheet 31 = .ok (.iconst 0, 1) := by decide +kernel
theorem dX9_sheet_32 : decode cX9_sheet 32 = .ok (.istore_n 3, 1) := by decide +kernel
theorem dX9_sheet_33 : decode cX9_sheet 33 = .ok (.iload_n 3, 1) := by decide +kernel
theorem dX9_sheet_34 : decode cX9_sheet 34 = .ok (.iload_n 2, 1) := by decide +kernel
theorem dX9_sheet_35 : decode cX9_sheet 35 = .ok (.if_icmp .ge 33, 3) := by decide +kernel
theorem dX9_sheet_38 : decode cX9_sheet 38 = .ok (.aload_n 0, 1) := by decide +kernel
theorem dX9_sheet_39 : decode cX9_sheet 39 = .ok (.getfield 13, 3) := by decide +kernel
theorem dX9_sheet_42 : decode cX9_sheet 42 = .ok (.bipush 20, 2) := by decide +kernel
theorem dX9_sheet_44 : decode cX9_sheet 44 = .ok (.iload_n 1, 1) := by decide +kernel
theorem dX9_sheet_45 : decode cX9_sheet 45 = .ok (.imul, 1) := by decide +kernel
theorem dX9_sheet_46 : decode cX9_sheet 46 = .ok (.iload_n 3, 1) := by decide +kernel
theorem dX9_sheet_47 : decode cX9_sheet 47 = .ok (.iadd, 1) := by decide +kernel
theorem dX9_sheet_48 : decode cX9_sheet 48 = .ok (.fconst 0, 1) := by decide +kernel
theorem dX9_sheet_49 : decode cX9_sheet 49 = .ok (.fastore, 1) := by decide +kernel
theorem dX9_sheet_50 : decode cX9_sheet 50 = .ok (.aload_n 0, 1) := by decide +kernel
theorem dX9_sheet_51 : decode cX9_sheet 51 = .ok (.getfield 17, 3) := by decide +kernel
theorem dX9_sheet_54 : decode cX9_sheet 54 = .ok (.bipush 20, 2) := by decide +kernel
theorem dX9_sheet_56 : decode cX9_sheet 56 = .ok (.iload_n 1, 1) := by decide +kernel
theorem dX9_sheet_57 : decode cX9_sheet 57 = .ok (.imul, 1) := by decide +kernel
theorem dX9_sheet_58 : decode cX9_sheet 58 = .ok (.iload_n 3, 1) := by decide +kernel
theorem dX9_sheet_59 : decode cX9_sheet 59 = .ok (.iadd, 1) := by decide +kernel
theorem dX9_sheet_60 : decode cX9_sheet 60 = .ok (.iconst 0, 1) := by decide +kernel
theorem dX9_sheet_61 : decode cX9_sheet 61 = .ok (.bastore, 1) := by decide +kernel
theorem dX9_sheet_62 : decode cX9_sheet 62 = .ok (.iinc 3 1, 3) := by decide +kernel
theorem dX9_sheet_65 : decode cX9_sheet 65 = .ok (.goto (-32), 3) := by decide +kernel
theorem dX9_sheet_68 : decode cX9_sheet 68 = .ok (.iconst 1, 1) := by decide +kernel
theorem dX9_sheet_69 : decode cX9_sheet 69 = .ok (.ireturn, 1) := by decide +kernel
theorem dX9_cell_0 : decode cX9_cell 0 = .ok (.iload_n 1, 1) := by decide +kernel
theorem dX9_cell_1 : decode cX9_cell 1 = .ok (.invokestatic 153, 3) := by decide +kernel
theorem dX9_cell_4 : decode cX9_cell 4 = .ok (.ifCond .eq 16, 3) := by decide +kernel
theorem dX9_cell_7 : decode cX9_cell 7 = .ok (.iload 4, 2) := by decide +kernel
theorem dX9_cell_9 : decode cX9_cell 9 = .ok (.i2l, 1) := by decide +kernel
theorem dX9_cell_10 : decode cX9_cell 10 = .ok (.lconst 0, 1) := by decide +kernel
theorem dX9_cell_11 : decode cX9_cell 11 = .ok (.ldc2_w 156, 3) := by decide +kernel
theorem dX9_cell_14 : decode cX9_cell 14 = .ok (.invokestatic 138, 3) := by decide +kernel
theorem dX9_cell_17 : decode cX9_cell 17 = .ok (.ifCond .ne 5, 3) := by decide +kernel
theorem dX9_cell_20 : decode cX9_cell 20 = .ok (.iconst (-1), 1) := by decide +kernel
theorem dX9_cell_21 : decode cX9_cell 21 = .ok (.ireturn, 1) := by decide +kernel
theorem dX9_cell_22 : decode cX9_cell 22 = .ok (.aload_n 0, 1) := by decide +kernel
theorem dX9_cell_23 : decode cX9_cell 23 = .ok (.getfield 7, 3) := by decide +kernel
theorem dX9_cell_26 : decode cX9_cell 26 = .ok (.iload_n 1, 1) := by decide +kernel
theorem dX9_cell_27 : decode cX9_cell 27 = .ok (.iaload, 1) := by decide +kernel
theorem dX9_cell_28 : decode cX9_cell 28 = .ok (.ifCond .ge 6, 3) := by decide +kernel
theorem dX9_cell_31 : decode cX9_cell 31 = .ok (.bipush (-3), 2) := by decide +kernel
theorem dX9_cell_33 : decode cX9_cell 33 = .ok (.ireturn, 1) := by decide +kernel
theorem dX9_cell_34 : decode cX9_cell 34 = .ok (.iload_n 2, 1) := by decide +kernel
theorem dX9_cell_35 : decode cX9_cell 35 = .ok (.i2l, 1) := by decide +kernel
theorem dX9_cell_36 : decode cX9_cell 36 = .ok (.lconst 0, 1) := by decide +kernel
theorem dX9_cell_37 : decode cX9_cell 37 = .ok (.aload_n 0, 1) := by decide +kernel
theorem dX9_cell_38 : decode cX9_cell 38 = .ok (.getfield 7, 3) := by decide +kernel
theorem dX9_cell_41 : decode cX9_cell 41 = .ok (.iload_n 1, 1) := by decide +kernel
theorem dX9_cell_42 : decode cX9_cell 42 = .ok (.iaload, 1) := by decide +kernel
theorem dX9_cell_43 : decode cX9_cell 43 = .ok (.iconst 1, 1) := by decide +kernel
theorem dX9_cell_44 : decode cX9_cell 44 = .ok (.isub, 1) := by decide +kernel
theorem dX9_cell_45 : decode cX9_cell 45 = .ok (.i2l, 1) := by decide +kernel
theorem dX9_cell_46 : decode cX9_cell 46 = .ok (.invokestatic 138, 3) := by decide +kernel
theorem dX9_cell_49 : decode cX9_cell 49 = .ok (.ifCond .ne 5, 3) := by decide +kernel
theorem dX9_cell_52 : decode cX9_cell 52 = .ok (.iconst (-1), 1) := by decide +kernel
theorem dX9_cell_53 : decode cX9_cell 53 = .ok (.ireturn, 1) := by decide +kernel
theorem dX9_cell_54 : decode cX9_cell 54 = .ok (.aload_n 0, 1) := by decide +kernel
theorem dX9_cell_55 : decode cX9_cell 55 = .ok (.getfield 13, 3) := by decide +kernel
theorem dX9_cell_58 : decode cX9_cell 58 = .ok (.bipush 20, 2) := by decide +kernel
theorem dX9_cell_60 : decode cX9_cell 60 = .ok (.iload_n 1, 1) := by decide +kernel
theorem dX9_cell_61 : decode cX9_cell 61 = .ok (.imul, 1) := by decide +kernel
theorem dX9_cell_62 : decode cX9_cell 62 = .ok (.iload_n 2, 1) := by decide +kernel
theorem dX9_cell_63 : decode cX9_cell 63 = .ok (.iadd, 1) := by decide +kernel
theorem dX9_cell_64 : decode cX9_cell 64 = .ok (.iload_n 3, 1) := by decide +kernel
theorem dX9_cell_65 : decode cX9_cell 65 = .ok (.i2f, 1) := by decide +kernel
theorem dX9_cell_66 : decode cX9_cell 66 = .ok (.iconst 1, 1) := by decide +kernel
theorem dX9_cell_67 : decode cX9_cell 67 = .ok (.iload 4, 2) := by decide +kernel
theorem dX9_cell_69 : decode cX9_cell 69 = .ok (.ishl, 1) := by decide +kernel
theorem dX9_cell_70 : decode cX9_cell 70 = .ok (.i2f, 1) := by decide +kernel
theorem dX9_cell_71 : decode cX9_cell 71 = .ok (.fdiv, 1) := by decide +kernel
theorem dX9_cell_72 : decode cX9_cell 72 = .ok (.fastore, 1) := by decide +kernel
theorem dX9_cell_73 : decode cX9_cell 73 = .ok (.aload_n 0, 1) := by decide +kernel
theorem dX9_cell_74 : decode cX9_cell 74 = .ok (.getfield 17, 3) := by decide +kernel
theorem dX9_cell_77 : decode cX9_cell 77 = .ok (.bipush 20, 2) := by decide +kernel
theorem dX9_cell_79 : decode cX9_cell 79 = .ok (.iload_n 1, 1) := by decide +kernel
theorem dX9_cell_80 : decode cX9_cell 80 = .ok (.imul, 1) := by decide +kernel
theorem dX9_cell_81 : decode cX9_cell 81 = .ok (.iload_n 2, 1) := by decide +kernel
theorem dX9_cell_82 : decode cX9_cell 82 = .ok (.iadd, 1) := by decide +kernel
theorem dX9_cell_83 : decode cX9_cell 83 = .ok (.iconst 0, 1) := by decide +kernel
theorem dX9_cell_84 : decode cX9_cell 84 = .ok (.bastore, 1) := by decide +kernel
theorem dX9_cell_85 : decode cX9_cell 85 = .ok (.iconst 1, 1) := by decide +kernel
theorem dX9_cell_86 : decode cX9_cell 86 = .ok (.ireturn, 1) := by decide +kernel
theorem dX9_gap_0 : decode cX9_gap 0 = .ok (.iload_n 1, 1) := by decide +kernel
theorem dX9_gap_1 : decode cX9_gap 1 = .ok (.invokestatic 153, 3) := by decide +kernel
theorem dX9_gap_4 : decode cX9_gap 4 = .ok (.ifCond .ne 5, 3) := by decide +kernel
theorem dX9_gap_7 : decode cX9_gap 7 = .ok (.iconst (-1), 1) := by decide +kernel
theorem dX9_gap_8 : decode cX9_gap 8 = .ok (.ireturn, 1) := by decide +kernel
theorem dX9_gap_9 : decode cX9_gap 9 = .ok (.aload_n 0, 1) := by decide +kernel
theorem dX9_gap_10 : decode cX9_gap 10 = .ok (.getfield 7, 3) := by decide +kernel
theorem dX9_gap_13 : decode cX9_gap 13 = .ok (.iload_n 1, 1) := by decide +kernel
theorem dX9_gap_14 : decode cX9_gap 14 = .ok (.iaload, 1) := by decide +kernel
theorem dX9_gap_15 : decode cX9_gap 15 = .ok (.ifCond .ge 6, 3) := by decide +kernel
theorem dX9_gap_18 : decode cX9_gap 18 = .ok (.bipush (-3), 2) := by decide +kernel
theorem dX9_gap_20 : decode cX9_gap 20 = .ok (.ireturn, 1) := by decide +kernel
theorem dX9_gap_21 : decode cX9_gap 21 = .ok (.iload_n 2, 1) := by decide +kernel
theorem dX9_gap_22 : decode cX9_gap 22 = .ok (.i2l, 1) := by decide +kernel
theorem dX9_gap_23 : decode cX9_gap 23 = .ok (.lconst 0, 1) := by decide +kernel
theorem dX9_gap_24 : decode cX9_gap 24 = .ok (.aload_n 0, 1) := by decide +kernel
theorem dX9_gap_25 : decode cX9_gap 25 = .ok (.getfield 7, 3) := by decide +kernel
theorem dX9_gap_28 : decode cX9_gap 28 = .ok (.iload_n 1, 1) := by decide +kernel
theorem dX9_gap_29 : decode cX9_gap 29 = .ok (.iaload, 1) := by decide +kernel
theorem dX9_gap_30 : decode cX9_gap 30 = .ok (.iconst 1, 1) := by decide +kernel
theorem dX9_gap_31 : decode cX9_gap 31 = .ok (.isub, 1) := by decide +kernel
theorem dX9_gap_32 : decode cX9_gap 32 = .ok (.i2l, 1) := by decide +kernel
theorem dX9_gap_33 : decode cX9_gap 33 = .ok (.invokestatic 138, 3) := by decide +kernel
theorem dX9_gap_36 : decode cX9_gap 36 = .ok (.ifCond .ne 5, 3) := by decide +kernel
theorem dX9_gap_39 : decode cX9_gap 39 = .ok (.iconst (-1), 1) := by decide +kernel
theorem dX9_gap_40 : decode cX9_gap 40 = .ok (.ireturn, 1) := by decide +kernel
theorem dX9_gap_41 : decode cX9_gap 41 = .ok (.aload_n 0, 1) := by decide +kernel
theorem dX9_gap_42 : decode cX9_gap 42 = .ok (.getfield 17, 3) := by decide +kernel
theorem dX9_gap_45 : decode cX9_gap 45 = .ok (.bipush 20, 2) := by decide +kernel
theorem dX9_gap_47 : decode cX9_gap 47 = .ok (.iload_n 1, 1) := by decide +kernel
theorem dX9_gap_48 : decode cX9_gap 48 = .ok (.imul, 1) := by decide +kernel
theorem dX9_gap_49 : decode cX9_gap 49 = .ok (.iload_n 2, 1) := by decide +kernel
theorem dX9_gap_50 : decode cX9_gap 50 = .ok (.iadd, 1) := by decide +kernel
theorem dX9_gap_51 : decode cX9_gap 51 = .ok (.iconst 1, 1) := by decide +kernel
theorem dX9_gap_52 : decode cX9_gap 52 = .ok (.bastore, 1) := by decide +kernel
theorem dX9_gap_53 : decode cX9_gap 53 = .ok (.iconst 1, 1) := by decide +kernel
theorem dX9_gap_54 : decode cX9_gap 54 = .ok (.ireturn, 1) := by decide +kernel
theorem dX9_lose_0 : decode cX9_lose 0 = .ok (.iload_n 1, 1) := by decide +kernel
theorem dX9_lose_1 : decode cX9_lose 1 = .ok (.invokestatic 153, 3) := by decide +kernel
theorem dX9_lose_4 : decode cX9_lose 4 = .ok (.ifCond .ne 5, 3) := by decide +kernel
theorem dX9_lose_7 : decode cX9_lose 7 = .ok (.iconst (-1), 1) := by decide +kernel
theorem dX9_lose_8 : decode cX9_lose 8 = .ok (.ireturn, 1) := by decide +kernel
theorem dX9_lose_9 : decode cX9_lose 9 = .ok (.aload_n 0, 1) := by decide +kernel
theorem dX9_lose_10 : decode cX9_lose 10 = .ok (.getfield 7, 3) := by decide +kernel
theorem dX9_lose_13 : decode cX9_lose 13 = .ok (.iload_n 1, 1) := by decide +kernel
theorem dX9_lose_14 : decode cX9_lose 14 = .ok (.iaload, 1) := by decide +kernel
theorem dX9_lose_15 : decode cX9_lose 15 = .ok (.ifCond .ge 6, 3) := by decide +kernel
theorem dX9_lose_18 : decode cX9_lose 18 = .ok (.bipush (-3), 2) := by decide +kernel
theorem dX9_lose_20 : decode cX9_lose 20 = .ok (.ireturn, 1) := by decide +kernel
theorem dX9_lose_21 : decode cX9_lose 21 = .ok (.aload_n 0, 1) := by decide +kernel
theorem dX9_lose_22 : decode cX9_lose 22 = .ok (.getfield 7, 3) := by decide +kernel
theorem dX9_lose_25 : decode cX9_lose 25 = .ok (.iload_n 1, 1) := by decide +kernel
theorem dX9_lose_26 : decode cX9_lose 26 = .ok (.iconst (-1), 1) := by decide +kernel
theorem dX9_lose_27 : decode cX9_lose 27 = .ok (.iastore, 1) := by decide +kernel
theorem dX9_lose_28 : decode cX9_lose 28 = .ok (.iconst 1, 1) := by decide +kernel
theorem dX9_lose_29 : decode cX9_lose 29 = .ok (.ireturn, 1) := by decide +kernel
theorem dX9_nearest_0 : decode cX9_nearest 0 = .ok (.iload_n 2, 1) := by decide +kernel
theorem dX9_nearest_1 : decode cX9_nearest 1 = .ok (.istore 4, 2) := by decide +kernel
theorem dX9_nearest_3 : decode cX9_nearest 3 = .ok (.iload 4, 2) := by decide +kernel
theorem dX9_nearest_5 : decode cX9_nearest 5 = .ok (.ifCond .lt 38, 3) := by decide +kernel
theorem dX9_nearest_8 : decode cX9_nearest 8 = .ok (.iload 4, 2) := by decide +kernel
theorem dX9_nearest_10 : decode cX9_nearest 10 = .ok (.aload_n 0, 1) := by decide +kernel
theorem dX9_nearest_11 : decode cX9_nearest 11 = .ok (.getfield 7, 3) := by decide +kernel
theorem dX9_nearest_14 : decode cX9_nearest 14 = .ok (.iload_n 1, 1) := by decide +kernel
theorem dX9_nearest_15 : decode cX9_nearest 15 = .ok (.iaload, 1) := by decide +kernel
theorem dX9_nearest_16 : decode cX9_nearest 16 = .ok (.if_icmp .ge 27, 3) := by decide +kernel
theorem dX9_nearest_19 : decode cX9_nearest 19 = .ok (.aload_n 0, 1) := by decide +kernel
theorem dX9_nearest_20 : decode cX9_nearest 20 = .ok (.getfield 17, 3) := by decide +kernel
theorem dX9_nearest_23 : decode cX9_nearest 23 = .ok (.bipush 20, 2) := by decide +kernel
theorem dX9_nearest_25 : decode cX9_nearest 25 = .ok (.iload_n 1, 1) := by decide +kernel
theorem dX9_nearest_26 : decode cX9_nearest 26 = .ok (.imul, 1) := by decide +kernel
theorem dX9_nearest_27 : decode cX9_nearest 27 = .ok (.iload 4, 2) := by decide +kernel
theorem dX9_nearest_29 : decode cX9_nearest 29 = .ok (.iadd, 1) := by decide +kernel
theorem dX9_nearest_30 : decode cX9_nearest 30 = .ok (.baload, 1) := by decide +kernel
theorem dX9_nearest_31 : decode cX9_nearest 31 = .ok (.ifCond .eq 12, 3) := by decide +kernel
theorem dX9_nearest_34 : decode cX9_nearest 34 = .ok (.iload 4, 2) := by decide +kernel
theorem dX9_nearest_36 : decode cX9_nearest 36 = .ok (.iload_n 3, 1) := by decide +kernel
theorem dX9_nearest_37 : decode cX9_nearest 37 = .ok (.iadd, 1) := by decide +kernel
theorem dX9_nearest_38 : decode cX9_nearest 38 = .ok (.istore 4, 2) := by decide +kernel
theorem dX9_nearest_40 : decode cX9_nearest 40 = .ok (.goto (-37), 3) := by decide +kernel
theorem dX9_nearest_43 : decode cX9_nearest 43 = .ok (.iload 4, 2) := by decide +kernel
theorem dX9_nearest_45 : decode cX9_nearest 45 = .ok (.ifCond .lt 19, 3) := by decide +kernel
theorem dX9_nearest_48 : decode cX9_nearest 48 = .ok (.iload 4, 2) := by decide +kernel
theorem dX9_nearest_50 : decode cX9_nearest 50 = .ok (.aload_n 0, 1) := by decide +kernel
theorem dX9_nearest_51 : decode cX9_nearest 51 = .ok (.getfield 7, 3) := by decide +kernel
theorem dX9_nearest_54 : decode cX9_nearest 54 = .ok (.iload_n 1, 1) := by decide +kernel
theorem dX9_nearest_55 : decode cX9_nearest 55 = .ok (.iaload, 1) := by decide +kernel
theorem dX9_nearest_56 : decode cX9_nearest 56 = .ok (.if_icmp .ge 8, 3) := by decide +kernel
theorem dX9_nearest_59 : decode cX9_nearest 59 = .ok (.iload 4, 2) := by decide +kernel
theorem dX9_nearest_61 : decode cX9_nearest 61 = .ok (.goto 4, 3) := by decide +kernel
theorem dX9_nearest_64 : decode cX9_nearest 64 = .ok (.iconst (-1), 1) := by decide +kernel
theorem dX9_nearest_65 : decode cX9_nearest 65 = .ok (.ireturn, 1) := by decide +kernel
theorem dX9_filled_0 : decode cX9_filled 0 = .ok (.aload_n 0, 1) := by decide +kernel
theorem dX9_filled_1 : decode cX9_filled 1 = .ok (.iload_n 1, 1) := by decide +kernel
theorem dX9_filled_2 : decode cX9_filled 2 = .ok (.iload_n 2, 1) := by decide +kernel
theorem dX9_filled_3 : decode cX9_filled 3 = .ok (.iconst (-1), 1) := by decide +kernel
theorem dX9_filled_4 : decode cX9_filled 4 = .ok (.invokevirtual 158, 3) := by decide +kernel
theorem dX9_filled_7 : decode cX9_filled 7 = .ok (.istore_n 3, 1) := by decide +kernel
theorem dX9_filled_8 : decode cX9_filled 8 = .ok (.aload_n 0, 1) := by decide +kernel
theorem dX9_filled_9 : decode cX9_filled 9 = .ok (.iload_n 1, 1) := by decide +kernel
theorem dX9_filled_10 : decode cX9_filled 10 = .ok (.iload_n 2, 1) := by decide +kernel
theorem dX9_filled_11 : decode cX9_filled 11 = .ok (.iconst 1, 1) := by decide +kernel
theorem dX9_filled_12 : decode cX9_filled 12 = .ok (.invokevirtual 158, 3) := by decide +kernel
theorem dX9_filled_15 : decode cX9_filled 15 = .ok (.istore 4, 2) := by decide +kernel
theorem dX9_filled_17 : decode cX9_filled 17 = .ok (.iload_n 3, 1) := by decide +kernel
theorem dX9_filled_18 : decode cX9_filled 18 = .ok (.ifCond .ge 10, 3) := by decide +kernel
theorem dX9_filled_21 : decode cX9_filled 21 = .ok (.iload 4, 2) := by decide +kernel
theorem dX9_filled_23 : decode cX9_filled 23 = .ok (.ifCond .ge 5, 3) := by decide +kernel
theorem dX9_filled_26 : decode cX9_filled 26 = .ok (.fconst 0, 1) := by decide +kernel
theorem dX9_filled_27 : decode cX9_filled 27 = .ok (.freturn, 1) := by decide +kernel
theorem dX9_filled_28 : decode cX9_filled 28 = .ok (.iload_n 3, 1) := by decide +kernel
theorem dX9_filled_29 : decode cX9_filled 29 = .ok (.ifCond .lt 14, 3) := by decide +kernel
theorem dX9_filled_32 : decode cX9_filled 32 = .ok (.iload 4, 2) := by decide +kernel
theorem dX9_filled_34 : decode cX9_filled 34 = .ok (.ifCond .lt 9, 3) := by decide +kernel
theorem dX9_filled_37 : decode cX9_filled 37 = .ok (.iload_n 3, 1) := by decide +kernel
theorem dX9_filled_38 : decode cX9_filled 38 = .ok (.iload 4, 2) := by decide +kernel
theorem dX9_filled_40 : decode cX9_filled 40 = .ok (.if_icmp .ne 24, 3) := by decide +kernel
theorem dX9_filled_43 : decode cX9_filled 43 = .ok (.aload_n 0, 1) := by decide +kernel
theorem dX9_filled_44 : decode cX9_filled 44 = .ok (.getfield 13, 3) := by decide +kernel
theorem dX9_filled_47 : decode cX9_filled 47 = .ok (.bipush 20, 2) := by decide +kernel
theorem dX9_filled_49 : decode cX9_filled 49 = .ok (.iload_n 1, 1) := by decide +kernel
theorem dX9_filled_50 : decode cX9_filled 50 = .ok (.imul, 1) := by decide +kernel
theorem dX9_filled_51 : decode cX9_filled 51 = .ok (.iload_n 3, 1) := by decide +kernel
theorem dX9_filled_52 : decode cX9_filled 52 = .ok (.ifCond .ge 8, 3) := by decide +kernel
theorem dX9_filled_55 : decode cX9_filled 55 = .ok (.iload 4, 2) := by decide +kernel
theorem dX9_filled_57 : decode cX9_filled 57 = .ok (.goto 4, 3) := by decide +kernel
theorem dX9_filled_60 : decode cX9_filled 60 = .ok (.iload_n 3, 1) := by decide +kernel
theorem dX9_filled_61 : decode cX9_filled 61 = .ok (.iadd, 1) := by decide +kernel
theorem dX9_filled_62 : decode cX9_filled 62 = .ok (.faload, 1) := by decide +kernel
theorem dX9_filled_63 : decode cX9_filled 63 = .ok (.freturn, 1) := by decide +kernel
theorem dX9_filled_64 : decode cX9_filled 64 = .ok (.aload_n 0, 1) := by decide +kernel
theorem dX9_filled_65 : decode cX9_filled 65 = .ok (.getfield 13, 3) := by decide +kernel
theorem dX9_filled_68 : decode cX9_filled 68 = .ok (.bipush 20, 2) := by decide +kernel
theorem dX9_filled_70 : decode cX9_filled 70 = .ok (.iload_n 1, 1) := by decide +kernel
theorem dX9_filled_71 : decode cX9_filled 71 = .ok (.imul, 1) := by decide +kernel
theorem dX9_filled_72 : decode cX9_filled 72 = .ok (.iload_n 3, 1) := by decide +kernel
theorem dX9_filled_73 : decode cX9_filled 73 = .ok (.iadd, 1) := by decide +kernel
theorem dX9_filled_74 : decode cX9_filled 74 = .ok (.faload, 1) := by decide +kernel
theorem dX9_filled_75 : decode cX9_filled 75 = .ok (.aload_n 0, 1) := by decide +kernel
theorem dX9_filled_76 : decode cX9_filled 76 = .ok (.getfield 13, 3) := by decide +kernel
theorem dX9_filled_79 : decode cX9_filled 79 = .ok (.bipush 20, 2) := by decide +kernel
theorem dX9_filled_81 : decode cX9_filled 81 = .ok (.iload_n 1, 1) := by decide +kernel
theorem dX9_filled_82 : decode cX9_filled 82 = .ok (.imul, 1) := by decide +kernel
theorem dX9_filled_83 : decode cX9_filled 83 = .ok (.iload 4, 2) := by decide +kernel
theorem dX9_filled_85 : decode cX9_filled 85 = .ok (.iadd, 1) := by decide +kernel
theorem dX9_filled_86 : decode cX9_filled 86 = .ok (.faload, 1) := by decide +kernel
theorem dX9_filled_87 : decode cX9_filled 87 = .ok (.fadd, 1) := by decide +kernel
theorem dX9_filled_88 : decode cX9_filled 88 = .ok (.fconst 2, 1) := by decide +kernel
theorem dX9_filled_89 : decode cX9_filled 89 = .ok (.fdiv, 1) := by decide +kernel
theorem dX9_filled_90 : decode cX9_filled 90 = .ok (.freturn, 1) := by decide +kernel
theorem dX9_told_0 : decode cX9_told 0 = .ok (.iload_n 1, 1) := by decide +kernel
theorem dX9_told_1 : decode cX9_told 1 = .ok (.invokestatic 153, 3) := by decide +kernel
theorem dX9_told_4 : decode cX9_told 4 = .ok (.ifCond .eq 21, 3) := by decide +kernel
theorem dX9_told_7 : decode cX9_told 7 = .ok (.iload_n 2, 1) := by decide +kernel
theorem dX9_told_8 : decode cX9_told 8 = .ok (.i2l, 1) := by decide +kernel
theorem dX9_told_9 : decode cX9_told 9 = .ok (.lconst 0, 1) := by decide +kernel
theorem dX9_told_10 : decode cX9_told 10 = .ok (.aload_n 0, 1) := by decide +kernel
theorem dX9_told_11 : decode cX9_told 11 = .ok (.getfield 7, 3) := by decide +kernel
theorem dX9_told_14 : decode cX9_told 14 = .ok (.iload_n 1, 1) := by decide +kernel
theorem dX9_told_15 : decode cX9_told 15 = .ok (.iaload, 1) := by decide +kernel
theorem dX9_told_16 : decode cX9_told 16 = .ok (.iconst 1, 1) := by decide +kernel
theorem dX9_told_17 : decode cX9_told 17 = .ok (.isub, 1) := by decide +kernel
theorem dX9_told_18 : decode cX9_told 18 = .ok (.i2l, 1) := by decide +kernel
theorem dX9_told_19 : decode cX9_told 19 = .ok (.invokestatic 138, 3) := by decide +kernel
theorem dX9_told_22 : decode cX9_told 22 = .ok (.ifCond .ne 6, 3) := by decide +kernel
theorem dX9_told_25 : decode cX9_told 25 = .ok (.ldc 164, 2) := by decide +kernel
theorem dX9_told_27 : decode cX9_told 27 = .ok (.ireturn, 1) := by decide +kernel
theorem dX9_told_28 : decode cX9_told 28 = .ok (.aload_n 0, 1) := by decide +kernel
theorem dX9_told_29 : decode cX9_told 29 = .ok (.iload_n 1, 1) := by decide +kernel
theorem dX9_told_30 : decode cX9_told 30 = .ok (.iload_n 2, 1) := by decide +kernel
theorem dX9_told_31 : decode cX9_told 31 = .ok (.invokevirtual 165, 3) := by decide +kernel
theorem dX9_told_34 : decode cX9_told 34 = .ok (.ldc 169, 2) := by decide +kernel
theorem dX9_told_36 : decode cX9_told 36 = .ok (.fmul, 1) := by decide +kernel
theorem dX9_told_37 : decode cX9_told 37 = .ok (.f2i, 1) := by decide +kernel
theorem dX9_told_38 : decode cX9_told 38 = .ok (.ireturn, 1) := by decide +kernel
theorem dX9_tenTimes_0 : decode cX9_tenTimes 0 = .ok (.iload_n 2, 1) := by decide +kernel
theorem dX9_tenTimes_1 : decode cX9_tenTimes 1 = .ok (.aload_n 0, 1) := by decide +kernel
theorem dX9_tenTimes_2 : decode cX9_tenTimes 2 = .ok (.getfield 7, 3) := by decide +kernel
theorem dX9_tenTimes_5 : decode cX9_tenTimes 5 = .ok (.iload_n 1, 1) := by decide +kernel
theorem dX9_tenTimes_6 : decode cX9_tenTimes 6 = .ok (.iaload, 1) := by decide +kernel
theorem dX9_tenTimes_7 : decode cX9_tenTimes 7 = .ok (.if_icmp .ge 7, 3) := by decide +kernel
theorem dX9_tenTimes_10 : decode cX9_tenTimes 10 = .ok (.iload_n 2, 1) := by decide +kernel
theorem dX9_tenTimes_11 : decode cX9_tenTimes 11 = .ok (.goto 11, 3) := by decide +kernel
theorem dX9_tenTimes_14 : decode cX9_tenTimes 14 = .ok (.aload_n 0, 1) := by decide +kernel
theorem dX9_tenTimes_15 : decode cX9_tenTimes 15 = .ok (.getfield 7, 3) := by decide +kernel
theorem dX9_tenTimes_18 : decode cX9_tenTimes 18 = .ok (.iload_n 1, 1) := by decide +kernel
theorem dX9_tenTimes_19 : decode cX9_tenTimes 19 = .ok (.iaload, 1) := by decide +kernel
theorem dX9_tenTimes_20 : decode cX9_tenTimes 20 = .ok (.iconst 1, 1) := by decide +kernel
theorem dX9_tenTimes_21 : decode cX9_tenTimes 21 = .ok (.isub, 1) := by decide +kernel
theorem dX9_tenTimes_22 : decode cX9_tenTimes 22 = .ok (.istore_n 3, 1) := by decide +kernel
theorem dX9_tenTimes_23 : decode cX9_tenTimes 23 = .ok (.aload_n 0, 1) := by decide +kernel
theorem dX9_tenTimes_24 : decode cX9_tenTimes 24 = .ok (.iload_n 1, 1) := by decide +kernel
theorem dX9_tenTimes_25 : decode cX9_tenTimes 25 = .ok (.iload_n 3, 1) := by decide +kernel
theorem dX9_tenTimes_26 : decode cX9_tenTimes 26 = .ok (.invokevirtual 165, 3) := by decide +kernel
theorem dX9_tenTimes_29 : decode cX9_tenTimes 29 = .ok (.ldc 170, 2) := by decide +kernel
theorem dX9_tenTimes_31 : decode cX9_tenTimes 31 = .ok (.fmul, 1) := by decide +kernel
theorem dX9_tenTimes_32 : decode cX9_tenTimes 32 = .ok (.f2i, 1) := by decide +kernel
theorem dX9_tenTimes_33 : decode cX9_tenTimes 33 = .ok (.ireturn, 1) := by decide +kernel
theorem dX9_winds_0 : decode cX9_winds 0 = .ok (.iload_n 1, 1) := by decide +kernel
theorem dX9_winds_1 : decode cX9_winds 1 = .ok (.invokestatic 153, 3) := by decide +kernel
theorem dX9_winds_4 : decode cX9_winds 4 = .ok (.ifCond .eq 10, 3) := by decide +kernel
theorem dX9_winds_7 : decode cX9_winds 7 = .ok (.iload_n 2, 1) := by decide +kernel
theorem dX9_winds_8 : decode cX9_winds 8 = .ok (.invokestatic 153, 3) := by decide +kernel
theorem dX9_winds_11 : decode cX9_winds 11 = .ok (.ifCond .ne 5, 3) := by decide +kernel
theorem dX9_winds_14 : decode cX9_winds 14 = .ok (.iconst (-1), 1) := by decide +kernel
theorem dX9_winds_15 : decode cX9_winds 15 = .ok (.ireturn, 1) := by decide +kernel
theorem dX9_winds_16 : decode cX9_winds 16 = .ok (.aload_n 0, 1) := by decide +kernel
theorem dX9_winds_17 : decode cX9_winds 17 = .ok (.getfield 7, 3) := by decide +kernel
theorem dX9_winds_20 : decode cX9_winds 20 = .ok (.iload_n 1, 1) := by decide +kernel
theorem dX9_winds_21 : decode cX9_winds 21 = .ok (.iaload, 1) := by decide +kernel
theorem dX9_winds_22 : decode cX9_winds 22 = .ok (.ifCond .lt 12, 3) := by decide +kernel
theorem dX9_winds_25 : decode cX9_winds 25 = .ok (.aload_n 0, 1) := by decide +kernel
theorem dX9_winds_26 : decode cX9_winds 26 = .ok (.getfield 7, 3) := by decide +kernel
theorem dX9_winds_29 : decode cX9_winds 29 = .ok (.iload_n 2, 1) := by decide +kernel
theorem dX9_winds_30 : decode cX9_winds 30 = .ok (.iaload, 1) := by decide +kernel
theorem dX9_winds_31 : decode cX9_winds 31 = .ok (.ifCond .ge 6, 3) := by decide +kernel
theorem dX9_winds_34 : decode cX9_winds 34 = .ok (.bipush (-3), 2) := by decide +kernel
theorem dX9_winds_36 : decode cX9_winds 36 = .ok (.ireturn, 1) := by decide +kernel
theorem dX9_winds_37 : decode cX9_winds 37 = .ok (.aload_n 0, 1) := by decide +kernel
theorem dX9_winds_38 : decode cX9_winds 38 = .ok (.getfield 7, 3) := by decide +kernel
theorem dX9_winds_41 : decode cX9_winds 41 = .ok (.iload_n 1, 1) := by decide +kernel
theorem dX9_winds_42 : decode cX9_winds 42 = .ok (.iaload, 1) := by decide +kernel
theorem dX9_winds_43 : decode cX9_winds 43 = .ok (.ifCond .le 16, 3) := by decide +kernel
theorem dX9_winds_46 : decode cX9_winds 46 = .ok (.aload_n 0, 1) := by decide +kernel
theorem dX9_winds_47 : decode cX9_winds 47 = .ok (.getfield 7, 3) := by decide +kernel
theorem dX9_winds_50 : decode cX9_winds 50 = .ok (.iload_n 2, 1) := by decide +kernel
theorem dX9_winds_51 : decode cX9_winds 51 = .ok (.iaload, 1) := by decide +kernel
theorem dX9_winds_52 : decode cX9_winds 52 = .ok (.ifCond .le 7, 3) := by decide +kernel
theorem dX9_winds_55 : decode cX9_winds 55 = .ok (.iconst 1, 1) := by decide +kernel
theorem dX9_winds_56 : decode cX9_winds 56 = .ok (.goto 4, 3) := by decide +kernel
theorem dX9_winds_59 : decode cX9_winds 59 = .ok (.iconst 0, 1) := by decide +kernel
theorem dX9_winds_60 : decode cX9_winds 60 = .ok (.istore_n 3, 1) := by decide +kernel
theorem dX9_winds_61 : decode cX9_winds 61 = .ok (.iconst 0, 1) := by decide +kernel
theorem dX9_winds_62 : decode cX9_winds 62 = .ok (.istore 4, 2) := by decide +kernel
theorem dX9_winds_64 : decode cX9_winds 64 = .ok (.iload 4, 2) := by decide +kernel
theorem dX9_winds_66 : decode cX9_winds 66 = .ok (.bipush 12, 2) := by decide +kernel
theorem dX9_winds_68 : decode cX9_winds 68 = .ok (.if_icmp .ge 59, 3) := by decide +kernel
theorem dX9_winds_71 : decode cX9_winds 71 = .ok (.iload_n 3, 1) := by decide +kernel
theorem dX9_winds_72 : decode cX9_winds 72 = .ok (.ifCond .eq 55, 3) := by decide +kernel
theorem dX9_winds_75 : decode cX9_winds 75 = .ok (.aload_n 0, 1) := by decide +kernel
theorem dX9_winds_76 : decode cX9_winds 76 = .ok (.iload_n 1, 1) := by decide +kernel
theorem dX9_winds_77 : decode cX9_winds 77 = .ok (.iload 4, 2) := by decide +kernel
theorem dX9_winds_79 : decode cX9_winds 79 = .ok (.invokevirtual 171, 3) := by decide +kernel
theorem dX9_winds_82 : decode cX9_winds 82 = .ok (.i2l, 1) := by decide +kernel
theorem dX9_winds_83 : decode cX9_winds 83 = .ok (.ldc2_w 175, 3) := by decide +kernel
theorem dX9_winds_86 : decode cX9_winds 86 = .ok (.ldc2_w 177, 3) := by decide +kernel
theorem dX9_winds_89 : decode cX9_winds 89 = .ok (.invokestatic 138, 3) := by decide +kernel
theorem dX9_winds_92 : decode cX9_winds 92 = .ok (.ifCond .eq 27, 3) := by decide +kernel
theorem dX9_winds_95 : decode cX9_winds 95 = .ok (.aload_n 0, 1) := by decide +kernel
theorem dX9_winds_96 : decode cX9_winds 96 = .ok (.iload_n 2, 1) := by decide +kernel
theorem dX9_winds_97 : decode cX9_winds 97 = .ok (.iload 4, 2) := by decide +kernel
theorem dX9_winds_99 : decode cX9_winds 99 = .ok (.invokevirtual 171, 3) := by decide +kernel
theorem dX9_winds_102 : decode cX9_winds 102 = .ok (.i2l, 1) := by decide +kernel
theorem dX9_winds_103 : decode cX9_winds 103 = .ok (.ldc2_w 175, 3) := by decide +kernel
theorem dX9_winds_106 : decode cX9_winds 106 = .ok (.ldc2_w 177, 3) := by decide +kernel
theorem dX9_winds_109 : decode cX9_winds 109 = .ok (.invokestatic 138, 3) := by decide +kernel
theorem dX9_winds_112 : decode cX9_winds 112 = .ok (.ifCond .eq 7, 3) := by decide +kernel
theorem dX9_winds_115 : decode cX9_winds 115 = .ok (.iconst 1, 1) := by decide +kernel
theorem dX9_winds_116 : decode cX9_winds 116 = .ok (.goto 4, 3) := by decide +kernel
theorem dX9_winds_119 : decode cX9_winds 119 = .ok (.iconst 0, 1) := by decide +kernel
theorem dX9_winds_120 : decode cX9_winds 120 = .ok (.istore_n 3, 1) := by decide +kernel
theorem dX9_winds_121 : decode cX9_winds 121 = .ok (.iinc 4 1, 3) := by decide +kernel
theorem dX9_winds_124 : decode cX9_winds 124 = .ok (.goto (-60), 3) := by decide +kernel
theorem dX9_winds_127 : decode cX9_winds 127 = .ok (.iload_n 3, 1) := by decide +kernel
theorem dX9_winds_128 : decode cX9_winds 128 = .ok (.ifCond .ne 5, 3) := by decide +kernel
theorem dX9_winds_131 : decode cX9_winds 131 = .ok (.iconst (-1), 1) := by decide +kernel
theorem dX9_winds_132 : decode cX9_winds 132 = .ok (.ireturn, 1) := by decide +kernel
theorem dX9_winds_133 : decode cX9_winds 133 = .ok (.iconst 0, 1) := by decide +kernel
theorem dX9_winds_134 : decode cX9_winds 134 = .ok (.istore 4, 2) := by decide +kernel
theorem dX9_winds_136 : decode cX9_winds 136 = .ok (.iload 4, 2) := by decide +kernel
theorem dX9_winds_138 : decode cX9_winds 138 = .ok (.bipush 12, 2) := by decide +kernel
theorem dX9_winds_140 : decode cX9_winds 140 = .ok (.if_icmp .ge 37, 3) := by decide +kernel
theorem dX9_winds_143 : decode cX9_winds 143 = .ok (.aload_n 0, 1) := by decide +kernel
theorem dX9_winds_144 : decode cX9_winds 144 = .ok (.getfield 21, 3) := by decide +kernel
theorem dX9_winds_147 : decode cX9_winds 147 = .ok (.iload 4, 2) := by decide +kernel
theorem dX9_winds_149 : decode cX9_winds 149 = .ok (.aload_n 0, 1) := by decide +kernel
theorem dX9_winds_150 : decode cX9_winds 150 = .ok (.iload_n 1, 1) := by decide +kernel
theorem dX9_winds_151 : decode cX9_winds 151 = .ok (.iload 4, 2) := by decide +kernel
theorem dX9_winds_153 : decode cX9_winds 153 = .ok (.invokevirtual 171, 3) := by decide +kernel
theorem dX9_winds_156 : decode cX9_winds 156 = .ok (.iastore, 1) := by decide +kernel
theorem dX9_winds_157 : decode cX9_winds 157 = .ok (.aload_n 0, 1) := by decide +kernel
theorem dX9_winds_158 : decode cX9_winds 158 = .ok (.getfield 24, 3) := by decide +kernel
theorem dX9_winds_161 : decode cX9_winds 161 = .ok (.iload 4, 2) := by decide +kernel
theorem dX9_winds_163 : decode cX9_winds 163 = .ok (.aload_n 0, 1) := by decide +kernel
theorem dX9_winds_164 : decode cX9_winds 164 = .ok (.iload_n 2, 1) := by decide +kernel
theorem dX9_winds_165 : decode cX9_winds 165 = .ok (.iload 4, 2) := by decide +kernel
theorem dX9_winds_167 : decode cX9_winds 167 = .ok (.invokevirtual 171, 3) := by decide +kernel
theorem dX9_winds_170 : decode cX9_winds 170 = .ok (.iastore, 1) := by decide +kernel
theorem dX9_winds_171 : decode cX9_winds 171 = .ok (.iinc 4 1, 3) := by decide +kernel
theorem dX9_winds_174 : decode cX9_winds 174 = .ok (.goto (-38), 3) := by decide +kernel
theorem dX9_winds_177 : decode cX9_winds 177 = .ok (.iconst 1, 1) := by decide +kernel
theorem dX9_winds_178 : decode cX9_winds 178 = .ok (.ireturn, 1) := by decide +kernel
theorem dX9_wind_0 : decode cX9_wind 0 = .ok (.iload_n 1, 1) := by decide +kernel
theorem dX9_wind_1 : decode cX9_wind 1 = .ok (.i2l, 1) := by decide +kernel
theorem dX9_wind_2 : decode cX9_wind 2 = .ok (.lconst 0, 1) := by decide +kernel
theorem dX9_wind_3 : decode cX9_wind 3 = .ok (.ldc2_w 179, 3) := by decide +kernel
theorem dX9_wind_6 : decode cX9_wind 6 = .ok (.invokestatic 138, 3) := by decide +kernel
theorem dX9_wind_9 : decode cX9_wind 9 = .ok (.ifCond .eq 31, 3) := by decide +kernel
theorem dX9_wind_12 : decode cX9_wind 12 = .ok (.iload_n 2, 1) := by decide +kernel
theorem dX9_wind_13 : decode cX9_wind 13 = .ok (.i2l, 1) := by decide +kernel
theorem dX9_wind_14 : decode cX9_wind 14 = .ok (.ldc2_w 175, 3) := by decide +kernel
theorem dX9_wind_17 : decode cX9_wind 17 = .ok (.ldc2_w 177, 3) := by decide +kernel
theorem dX9_wind_20 : decode cX9_wind 20 = .ok (.invokestatic 138, 3) := by decide +kernel
theorem dX9_wind_23 : decode cX9_wind 23 = .ok (.ifCond .eq 17, 3) := by decide +kernel
theorem dX9_wind_26 : decode cX9_wind 26 = .ok (.iload_n 3, 1) := by decide +kernel
theorem dX9_wind_27 : decode cX9_wind 27 = .ok (.i2l, 1) := by decide +kernel
theorem dX9_wind_28 : decode cX9_wind 28 = .ok (.ldc2_w 175, 3) := by decide +kernel
theorem dX9_wind_31 : decode cX9_wind 31 = .ok (.ldc2_w 177, 3) := by decide +kernel
theorem dX9_wind_34 : decode cX9_wind 34 = .ok (.invokestatic 138, 3) := by decide +kernel
theorem dX9_wind_37 : decode cX9_wind 37 = .ok (.ifCond .ne 5, 3) := by decide +kernel
theorem dX9_wind_40 : decode cX9_wind 40 = .ok (.iconst (-1), 1) := by decide +kernel
theorem dX9_wind_41 : decode cX9_wind 41 = .ok (.ireturn, 1) := by decide +kernel
theorem dX9_wind_42 : decode cX9_wind 42 = .ok (.aload_n 0, 1) := by decide +kernel
theorem dX9_wind_43 : decode cX9_wind 43 = .ok (.getfield 21, 3) := by decide +kernel
theorem dX9_wind_46 : decode cX9_wind 46 = .ok (.iload_n 1, 1) := by decide +kernel
theorem dX9_wind_47 : decode cX9_wind 47 = .ok (.iload_n 2, 1) := by decide +kernel
theorem dX9_wind_48 : decode cX9_wind 48 = .ok (.iastore, 1) := by decide +kernel
theorem dX9_wind_49 : decode cX9_wind 49 = .ok (.aload_n 0, 1) := by decide +kernel
theorem dX9_wind_50 : decode cX9_wind 50 = .ok (.getfield 24, 3) := by decide +kernel
theorem dX9_wind_53 : decode cX9_wind 53 = .ok (.iload_n 1, 1) := by decide +kernel
theorem dX9_wind_54 : decode cX9_wind 54 = .ok (.iload_n 3, 1) := by decide +kernel
theorem dX9_wind_55 : decode cX9_wind 55 = .ok (.iastore, 1) := by decide +kernel
theorem dX9_wind_56 : decode cX9_wind 56 = .ok (.iconst 1, 1) := by decide +kernel
theorem dX9_wind_57 : decode cX9_wind 57 = .ok (.ireturn, 1) := by decide +kernel
theorem dX9_blows_0 : decode cX9_blows 0 = .ok (.iload_n 1, 1) := by decide +kernel
theorem dX9_blows_1 : decode cX9_blows 1 = .ok (.i2l, 1) := by decide +kernel
theorem dX9_blows_2 : decode cX9_blows 2 = .ok (.lconst 0, 1) := by decide +kernel
theorem dX9_blows_3 : decode cX9_blows 3 = .ok (.ldc2_w 179, 3) := by decide +kernel
theorem dX9_blows_6 : decode cX9_blows 6 = .ok (.invokestatic 138, 3) := by decide +kernel
theorem dX9_blows_9 : decode cX9_blows 9 = .ok (.ifCond .eq 35, 3) := by decide +kernel
theorem dX9_blows_12 : decode cX9_blows 12 = .ok (.iload_n 2, 1) := by decide +kernel
theorem dX9_blows_13 : decode cX9_blows 13 = .ok (.i2l, 1) := by decide +kernel
theorem dX9_blows_14 : decode cX9_blows 14 = .ok (.lconst 0, 1) := by decide +kernel
theorem dX9_blows_15 : decode cX9_blows 15 = .ok (.lconst 1, 1) := by decide +kernel
theorem dX9_blows_16 : decode cX9_blows 16 = .ok (.invokestatic 138, 3) := by decide +kernel
theorem dX9_blows_19 : decode cX9_blows 19 = .ok (.ifCond .eq 25, 3) := by decide +kernel
theorem dX9_blows_22 : decode cX9_blows 22 = .ok (.iload_n 2, 1) := by decide +kernel
theorem dX9_blows_23 : decode cX9_blows 23 = .ok (.ifCond .ne 12, 3) := by decide +kernel
theorem dX9_blows_26 : decode cX9_blows 26 = .ok (.aload_n 0, 1) := by decide +kernel
theorem dX9_blows_27 : decode cX9_blows 27 = .ok (.getfield 21, 3) := by decide +kernel
theorem dX9_blows_30 : decode cX9_blows 30 = .ok (.iload_n 1, 1) := by decide +kernel
theorem dX9_blows_31 : decode cX9_blows 31 = .ok (.iaload, 1) := by decide +kernel
theorem dX9_blows_32 : decode cX9_blows 32 = .ok (.goto 15, 3) := by decide +kernel
theorem dX9_blows_35 : decode cX9_blows 35 = .ok (.aload_n 0, 1) := by decide +kernel
theorem dX9_blows_36 : decode cX9_blows 36 = .ok (.getfield 24, 3) := by decide +kernel
theorem dX9_blows_39 : decode cX9_blows 39 = .ok (.iload_n 1, 1) := by decide +kernel
theorem dX9_blows_40 : decode cX9_blows 40 = .ok (.iaload, 1) := by decide +kernel
theorem dX9_blows_41 : decode cX9_blows 41 = .ok (.goto 6, 3) := by decide +kernel
theorem dX9_blows_44 : decode cX9_blows 44 = .ok (.sipush (-1000), 3) := by decide +kernel
theorem dX9_blows_47 : decode cX9_blows 47 = .ok (.ireturn, 1) := by decide +kernel
theorem dX9_jumper_0 : decode cX9_jumper 0 = .ok (.iload_n 1, 1) := by decide +kernel
theorem dX9_jumper_1 : decode cX9_jumper 1 = .ok (.i2l, 1) := by decide +kernel
theorem dX9_jumper_2 : decode cX9_jumper 2 = .ok (.lconst 0, 1) := by decide +kernel
theorem dX9_jumper_3 : decode cX9_jumper 3 = .ok (.ldc2_w 181, 3) := by decide +kernel
theorem dX9_jumper_6 : decode cX9_jumper 6 = .ok (.invokestatic 138, 3) := by decide +kernel
theorem dX9_jumper_9 : decode cX9_jumper 9 = .ok (.ifCond .eq 42, 3) := by decide +kernel
theorem dX9_jumper_12 : decode cX9_jumper 12 = .ok (.iload_n 2, 1) := by decide +kernel
theorem dX9_jumper_13 : decode cX9_jumper 13 = .ok (.i2l, 1) := by decide +kernel
theorem dX9_jumper_14 : decode cX9_jumper 14 = .ok (.lconst 0, 1) := by decide +kernel
theorem dX9_jumper_15 : decode cX9_jumper 15 = .ok (.ldc2_w 136, 3) := by decide +kernel
theorem dX9_jumper_18 : decode cX9_jumper 18 = .ok (.invokestatic 138, 3) := by decide +kernel
theorem dX9_jumper_21 : decode cX9_jumper 21 = .ok (.ifCond .eq 30, 3) := by decide +kernel
theorem dX9_jumper_24 : decode cX9_jumper 24 = .ok (.iload_n 3, 1) := by decide +kernel
theorem dX9_jumper_25 : decode cX9_jumper 25 = .ok (.i2l, 1) := by decide +kernel
theorem dX9_jumper_26 : decode cX9_jumper 26 = .ok (.ldc2_w 183, 3) := by decide +kernel
theorem dX9_jumper_29 : decode cX9_jumper 29 = .ok (.ldc2_w 185, 3) := by decide +kernel
theorem dX9_jumper_32 : decode cX9_jumper 32 = .ok (.invokestatic 138, 3) := by decide +kernel
theorem dX9_jumper_35 : decode cX9_jumper 35 = .ok (.ifCond .eq 16, 3) := by decide +kernel
theorem dX9_jumper_38 : decode cX9_jumper 38 = .ok (.iload 4, 2) := by decide +kernel
theorem dX9_jumper_40 : decode cX9_jumper 40 = .ok (.i2l, 1) := by decide +kernel
theorem dX9_jumper_41 : decode cX9_jumper 41 = .ok (.lconst 0, 1) := by decide +kernel
theorem dX9_jumper_42 : decode cX9_jumper 42 = .ok (.ldc2_w 187, 3) := by decide +kernel
theorem dX9_jumper_45 : decode cX9_jumper 45 = .ok (.invokestatic 138, 3) := by decide +kernel
theorem dX9_jumper_48 : decode cX9_jumper 48 = .ok (.ifCond .ne 5, 3) := by decide +kernel
theorem dX9_jumper_51 : decode cX9_jumper 51 = .ok (.iconst (-1), 1) := by decide +kernel
theorem dX9_jumper_52 : decode cX9_jumper 52 = .ok (.ireturn, 1) := by decide +kernel
theorem dX9_jumper_53 : decode cX9_jumper 53 = .ok (.aload_n 0, 1) := by decide +kernel
theorem dX9_jumper_54 : decode cX9_jumper 54 = .ok (.getfield 27, 3) := by decide +kernel
theorem dX9_jumper_57 : decode cX9_jumper 57 = .ok (.iload_n 1, 1) := by decide +kernel
theorem dX9_jumper_58 : decode cX9_jumper 58 = .ok (.iload_n 2, 1) := by decide +kernel
theorem dX9_jumper_59 : decode cX9_jumper 59 = .ok (.iastore, 1) := by decide +kernel
theorem dX9_jumper_60 : decode cX9_jumper 60 = .ok (.aload_n 0, 1) := by decide +kernel
theorem dX9_jumper_61 : decode cX9_jumper 61 = .ok (.getfield 30, 3) := by decide +kernel
theorem dX9_jumper_64 : decode cX9_jumper 64 = .ok (.iload_n 1, 1) := by decide +kernel
theorem dX9_jumper_65 : decode cX9_jumper 65 = .ok (.iload_n 3, 1) := by decide +kernel
theorem dX9_jumper_66 : decode cX9_jumper 66 = .ok (.iastore, 1) := by decide +kernel
theorem dX9_jumper_67 : decode cX9_jumper 67 = .ok (.aload_n 0, 1) := by decide +kernel
theorem dX9_jumper_68 : decode cX9_jumper 68 = .ok (.getfield 33, 3) := by decide +kernel
theorem dX9_jumper_71 : decode cX9_jumper 71 = .ok (.iload_n 1, 1) := by decide +kernel
theorem dX9_jumper_72 : decode cX9_jumper 72 = .ok (.iload 4, 2) := by decide +kernel
theorem dX9_jumper_74 : decode cX9_jumper 74 = .ok (.iastore, 1) := by decide +kernel
theorem dX9_jumper_75 : decode cX9_jumper 75 = .ok (.iconst 1, 1) := by decide +kernel
theorem dX9_jumper_76 : decode cX9_jumper 76 = .ok (.ireturn, 1) := by decide +kernel
theorem dX9_group_0 : decode cX9_group 0 = .ok (.iload_n 1, 1) := by decide +kernel
theorem dX9_group_1 : decode cX9_group 1 = .ok (.i2l, 1) := by decide +kernel
theorem dX9_group_2 : decode cX9_group 2 = .ok (.lconst 0, 1) := by decide +kernel
theorem dX9_group_3 : decode cX9_group 3 = .ok (.ldc2_w 189, 3) := by decide +kernel
theorem dX9_group_6 : decode cX9_group 6 = .ok (.invokestatic 138, 3) := by decide +kernel
theorem dX9_group_9 : decode cX9_group 9 = .ok (.ifCond .eq 42, 3) := by decide +kernel
theorem dX9_group_12 : decode cX9_group 12 = .ok (.iload_n 2, 1) := by decide +kernel
theorem dX9_group_13 : decode cX9_group 13 = .ok (.i2l, 1) := by decide +kernel
theorem dX9_group_14 : decode cX9_group 14 = .ok (.ldc2_w 191, 3) := by decide +kernel
theorem dX9_group_17 : decode cX9_group 17 = .ok (.ldc2_w 193, 3) := by decide +kernel
theorem dX9_group_20 : decode cX9_group 20 = .ok (.invokestatic 138, 3) := by decide +kernel
theorem dX9_group_23 : decode cX9_group 23 = .ok (.ifCond .eq 28, 3) := by decide +kernel
theorem dX9_group_26 : decode cX9_group 26 = .ok (.iload_n 3, 1) := by decide +kernel
theorem dX9_group_27 : decode cX9_group 27 = .ok (.i2l, 1) := by decide +kernel
theorem dX9_group_28 : decode cX9_group 28 = .ok (.lconst 0, 1) := by decide +kernel
theorem dX9_group_29 : decode cX9_group 29 = .ok (.ldc2_w 195, 3) := by decide +kernel
theorem dX9_group_32 : decode cX9_group 32 = .ok (.invokestatic 138, 3) := by decide +kernel
theorem dX9_group_35 : decode cX9_group 35 = .ok (.ifCond .eq 16, 3) := by decide +kernel
theorem dX9_group_38 : decode cX9_group 38 = .ok (.iload 4, 2) := by decide +kernel
theorem dX9_group_40 : decode cX9_group 40 = .ok (.i2l, 1) := by decide +kernel
theorem dX9_group_41 : decode cX9_group 41 = .ok (.lconst 0, 1) := by decide +kernel
theorem dX9_group_42 : decode cX9_group 42 = .ok (.ldc2_w 189, 3) := by decide +kernel
theorem dX9_group_45 : decode cX9_group 45 = .ok (.invokestatic 138, 3) := by decide +kernel
theorem dX9_group_48 : decode cX9_group 48 = .ok (.ifCond .ne 5, 3) := by decide +kernel
theorem dX9_group_51 : decode cX9_group 51 = .ok (.iconst (-1), 1) := by decide +kernel
theorem dX9_group_52 : decode cX9_group 52 = .ok (.ireturn, 1) := by decide +kernel
theorem dX9_group_53 : decode cX9_group 53 = .ok (.aload_n 0, 1) := by decide +kernel
theorem dX9_group_54 : decode cX9_group 54 = .ok (.getfield 142, 3) := by decide +kernel
theorem dX9_group_57 : decode cX9_group 57 = .ok (.bipush 20, 2) := by decide +kernel
theorem dX9_group_59 : decode cX9_group 59 = .ok (.if_icmp .ne 6, 3) := by decide +kernel
theorem dX9_group_62 : decode cX9_group 62 = .ok (.bipush (-2), 2) := by decide +kernel
theorem dX9_group_64 : decode cX9_group 64 = .ok (.ireturn, 1) := by decide +kernel
theorem dX9_group_65 : decode cX9_group 65 = .ok (.aload_n 0, 1) := by decide +kernel
theorem dX9_group_66 : decode cX9_group 66 = .ok (.getfield 36, 3) := by decide +kernel
theorem dX9_group_69 : decode cX9_group 69 = .ok (.aload_n 0, 1) := by decide +kernel
theorem dX9_group_70 : decode cX9_group 70 = .ok (.getfield 142, 3) := by decide +kernel
theorem dX9_group_73 : decode cX9_group 73 = .ok (.iload_n 1, 1) := by decide +kernel
theorem dX9_group_74 : decode cX9_group 74 = .ok (.iastore, 1) := by decide +kernel
theorem dX9_group_75 : decode cX9_group 75 = .ok (.aload_n 0, 1) := by decide +kernel
theorem dX9_group_76 : decode cX9_group 76 = .ok (.getfield 39, 3) := by decide +kernel
theorem dX9_group_79 : decode cX9_group 79 = .ok (.aload_n 0, 1) := by decide +kernel
theorem dX9_group_80 : decode cX9_group 80 = .ok (.getfield 142, 3) := by decide +kernel
theorem dX9_group_83 : decode cX9_group 83 = .ok (.iload_n 2, 1) := by decide +kernel
theorem dX9_group_84 : decode cX9_group 84 = .ok (.iastore, 1) := by decide +kernel
theorem dX9_group_85 : decode cX9_group 85 = .ok (.aload_n 0, 1) := by decide +kernel
theorem dX9_group_86 : decode cX9_group 86 = .ok (.getfield 42, 3) := by decide +kernel
theorem dX9_group_89 : decode cX9_group 89 = .ok (.aload_n 0, 1) := by decide +kernel
theorem dX9_group_90 : decode cX9_group 90 = .ok (.getfield 142, 3) := by decide +kernel
theorem dX9_group_93 : decode cX9_group 93 = .ok (.iload_n 3, 1) := by decide +kernel
theorem dX9_group_94 : decode cX9_group 94 = .ok (.iastore, 1) := by decide +kernel
theorem dX9_group_95 : decode cX9_group 95 = .ok (.aload_n 0, 1) := by decide +kernel
theorem dX9_group_96 : decode cX9_group 96 = .ok (.getfield 45, 3) := by decide +kernel
theorem dX9_group_99 : decode cX9_group 99 = .ok (.aload_n 0, 1) := by decide +kernel
theorem dX9_group_100 : decode cX9_group 100 = .ok (.getfield 142, 3) := by decide +kernel
theorem dX9_group_103 : decode cX9_group 103 = .ok (.iload 4, 2) := by decide +kernel
theorem dX9_group_105 : decode cX9_group 105 = .ok (.iastore, 1) := by decide +kernel
theorem dX9_group_106 : decode cX9_group 106 = .ok (.aload_n 0, 1) := by decide +kernel
theorem dX9_group_107 : decode cX9_group 107 = .ok (.dup, 1) := by decide +kernel
theorem dX9_group_108 : decode cX9_group 108 = .ok (.getfield 142, 3) := by decide +kernel
theorem dX9_group_111 : decode cX9_group 111 = .ok (.iconst 1, 1) := by decide +kernel
theorem dX9_group_112 : decode cX9_group 112 = .ok (.iadd, 1) := by decide +kernel
theorem dX9_group_113 : decode cX9_group 113 = .ok (.putfield 142, 3) := by decide +kernel
theorem dX9_group_116 : decode cX9_group 116 = .ok (.aload_n 0, 1) := by decide +kernel
theorem dX9_group_117 : decode cX9_group 117 = .ok (.getfield 142, 3) := by decide +kernel
theorem dX9_group_120 : decode cX9_group 120 = .ok (.iconst 1, 1) := by decide +kernel
theorem dX9_group_121 : decode cX9_group 121 = .ok (.isub, 1) := by decide +kernel
theorem dX9_group_122 : decode cX9_group 122 = .ok (.ireturn, 1) := by decide +kernel
theorem dX9_isInSome_0 : decode cX9_isInSome 0 = .ok (.iconst 0, 1) := by decide +kernel
theorem dX9_isInSome_1 : decode cX9_isInSome 1 = .ok (.istore_n 3, 1) := by decide +kernel
theorem dX9_isInSome_2 : decode cX9_isInSome 2 = .ok (.iconst 0, 1) := by decide +kernel
theorem dX9_isInSome_3 : decode cX9_isInSome 3 = .ok (.istore 4, 2) := by decide +kernel
theorem dX9_isInSome_5 : decode cX9_isInSome 5 = .ok (.iload 4, 2) := by decide +kernel
theorem dX9_isInSome_7 : decode cX9_isInSome 7 = .ok (.aload_n 0, 1) := by decide +kernel
theorem dX9_isInSome_8 : decode cX9_isInSome 8 = .ok (.getfield 146, 3) := by decide +kernel
theorem dX9_isInSome_11 : decode cX9_isInSome 11 = .ok (.if_icmp .ge 68, 3) := by decide +kernel
theorem dX9_isInSome_14 : decode cX9_isInSome 14 = .ok (.iconst 0, 1) := by decide +kernel
theorem dX9_isInSome_15 : decode cX9_isInSome 15 = .ok (.istore 5, 2) := by decide +kernel
theorem dX9_isInSome_17 : decode cX9_isInSome 17 = .ok (.iload 5, 2) := by decide +kernel
theorem dX9_isInSome_19 : decode cX9_isInSome 19 = .ok (.aload_n 0, 1) := by decide +kernel
theorem dX9_isInSome_20 : decode cX9_isInSome 20 = .ok (.getfield 72, 3) := by decide +kernel
theorem dX9_isInSome_23 : decode cX9_isInSome 23 = .ok (.iload 4, 2) := by decide +kernel
theorem dX9_isInSome_25 : decode cX9_isInSome 25 = .ok (.iaload, 1) := by decide +kernel
theorem dX9_isInSome_26 : decode cX9_isInSome 26 = .ok (.if_icmp .ge 47, 3) := by decide +kernel
theorem dX9_isInSome_29 : decode cX9_isInSome 29 = .ok (.iload_n 3, 1) := by decide +kernel
theorem dX9_isInSome_30 : decode cX9_isInSome 30 = .ok (.ifCond .ne 31, 3) := by decide +kernel
theorem dX9_isInSome_33 : decode cX9_isInSome 33 = .ok (.aload_n 0, 1) := by decide +kernel
theorem dX9_isInSome_34 : decode cX9_isInSome 34 = .ok (.getfield 84, 3) := by decide +kernel
theorem dX9_isInSome_37 : decode cX9_isInSome 37 = .ok (.iload 4, 2) := by decide +kernel
theorem dX9_isInSome_39 : decode cX9_isInSome 39 = .ok (.baload, 1) := by decide +kernel
theorem dX9_isInSome_40 : decode cX9_isInSome 40 = .ok (.iload_n 2, 1) := by decide +kernel
theorem dX9_isInSome_41 : decode cX9_isInSome 41 = .ok (.if_icmp .ne 24, 3) := by decide +kernel
theorem dX9_isInSome_44 : decode cX9_isInSome 44 = .ok (.aload_n 0, 1) := by decide +kernel
theorem dX9_isInSome_45 : decode cX9_isInSome 45 = .ok (.getfield 75, 3) := by decide +kernel
theorem dX9_isInSome_48 : decode cX9_isInSome 48 = .ok (.bipush 6, 2) := by decide +kernel
theorem dX9_isInSome_50 : decode cX9_isInSome 50 = .ok (.iload 4, 2) := by decide +kernel
theorem dX9_isInSome_52 : decode cX9_isInSome 52 = .ok (.imul, 1) := by decide +kernel
theorem dX9_isInSome_53 : decode cX9_isInSome 53 = .ok (.iload 5, 2) := by decide +kernel
theorem dX9_isInSome_55 : decode cX9_isInSome 55 = .ok (.iadd, 1) := by decide +kernel
theorem dX9_isInSome_56 : decode cX9_isInSome 56 = .ok (.iaload, 1) := by decide +kernel
theorem dX9_isInSome_57 : decode cX9_isInSome 57 = .ok (.iload_n 1, 1) := by decide +kernel
theorem dX9_isInSome_58 : decode cX9_isInSome 58 = .ok (.if_icmp .ne 7, 3) := by decide +kernel
theorem dX9_isInSome_61 : decode cX9_isInSome 61 = .ok (.iconst 1, 1) := by decide +kernel
theorem dX9_isInSome_62 : decode cX9_isInSome 62 = .ok (.goto 4, 3) := by decide +kernel
theorem dX9_isInSome_65 : decode cX9_isInSome 65 = .ok (.iconst 0, 1) := by decide +kernel
theorem dX9_isInSome_66 : decode cX9_isInSome 66 = .ok (.istore_n 3, 1) := by decide +kernel
theorem dX9_isInSome_67 : decode cX9_isInSome 67 = .ok (.iinc 5 1, 3) := by decide +kernel
theorem dX9_isInSome_70 : decode cX9_isInSome 70 = .ok (.goto (-53), 3) := by decide +kernel
theorem dX9_isInSome_73 : decode cX9_isInSome 73 = .ok (.iinc 4 1, 3) := by decide +kernel
theorem dX9_isInSome_76 : decode cX9_isInSome 76 = .ok (.goto (-71), 3) := by decide +kernel
theorem dX9_isInSome_79 : decode cX9_isInSome 79 = .ok (.iload_n 3, 1) := by decide +kernel
theorem dX9_isInSome_80 : decode cX9_isInSome 80 = .ok (.ireturn, 1) := by decide +kernel
theorem dX9_hasJumper_0 : decode cX9_hasJumper 0 = .ok (.iconst 0, 1) := by decide +kernel
theorem dX9_hasJumper_1 : decode cX9_hasJumper 1 = .ok (.istore_n 3, 1) := by decide +kernel
theorem dX9_hasJumper_2 : decode cX9_hasJumper 2 = .ok (.iconst 0, 1) := by decide +kernel
theorem dX9_hasJumper_3 : decode cX9_hasJumper 3 = .ok (.istore 4, 2) := by decide +kernel
theorem dX9_hasJumper_5 : decode cX9_hasJumper 5 = .ok (.iload 4, 2) := by decide +kernel
theorem dX9_hasJumper_7 : decode cX9_hasJumper 7 = .ok (.aload_n 0, 1) := by decide +kernel
theorem dX9_hasJumper_8 : decode cX9_hasJumper 8 = .ok (.getfield 48, 3) := by decide +kernel
theorem dX9_hasJumper_11 : decode cX9_hasJumper 11 = .ok (.iload_n 1, 1) := by decide +kernel
theorem dX9_hasJumper_12 : decode cX9_hasJumper 12 = .ok (.iaload, 1) := by decide +kernel
theorem dX9_hasJumper_13 : decode cX9_hasJumper 13 = .ok (.if_icmp .ge 34, 3) := by decide +kernel
theorem dX9_hasJumper_16 : decode cX9_hasJumper 16 = .ok (.iload_n 3, 1) := by decide +kernel
theorem dX9_hasJumper_17 : decode cX9_hasJumper 17 = .ok (.ifCond .ne 18, 3) := by decide +kernel
theorem dX9_hasJumper_20 : decode cX9_hasJumper 20 = .ok (.aload_n 0, 1) := by decide +kernel
theorem dX9_hasJumper_21 : decode cX9_hasJumper 21 = .ok (.getfield 51, 3) := by decide +kernel
theorem dX9_hasJumper_24 : decode cX9_hasJumper 24 = .ok (.iconst 4, 1) := by decide +kernel
theorem dX9_hasJumper_25 : decode cX9_hasJumper 25 = .ok (.iload_n 1, 1) := by decide +kernel
theorem dX9_hasJumper_26 : decode cX9_hasJumper 26 = .ok (.imul, 1) := by decide +kernel
theorem dX9_hasJumper_27 : decode cX9_hasJumper 27 = .ok (.iload 4, 2) := by decide +kernel
theorem dX9_hasJumper_29 : decode cX9_hasJumper 29 = .ok (.iadd, 1) := by decide +kernel
theorem dX9_hasJumper_30 : decode cX9_hasJumper 30 = .ok (.iaload, 1) := by decide +kernel
theorem dX9_hasJumper_31 : decode cX9_hasJumper 31 = .ok (.iload_n 2, 1) := by decide +kernel
theorem dX9_hasJumper_32 : decode cX9_hasJumper 32 = .ok (.if_icmp .ne 7, 3) := by decide +kernel
theorem dX9_hasJumper_35 : decode cX9_hasJumper 35 = .ok (.iconst 1, 1) := by decide +kernel
theorem dX9_hasJumper_36 : decode cX9_hasJumper 36 = .ok (.goto 4, 3) := by decide +kernel
theorem dX9_hasJumper_39 : decode cX9_hasJumper 39 = .ok (.iconst 0, 1) := by decide +kernel
theorem dX9_hasJumper_40 : decode cX9_hasJumper 40 = .ok (.istore_n 3, 1) := by decide +kernel
theorem dX9_hasJumper_41 : decode cX9_hasJumper 41 = .ok (.iinc 4 1, 3) := by decide +kernel
theorem dX9_hasJumper_44 : decode cX9_hasJumper 44 = .ok (.goto (-39), 3) := by decide +kernel
theorem dX9_hasJumper_47 : decode cX9_hasJumper 47 = .ok (.iload_n 3, 1) := by decide +kernel
theorem dX9_hasJumper_48 : decode cX9_hasJumper 48 = .ok (.ireturn, 1) := by decide +kernel
theorem dX9_join_0 : decode cX9_join 0 = .ok (.aload_n 0, 1) := by decide +kernel
theorem dX9_join_1 : decode cX9_join 1 = .ok (.iload_n 1, 1) := by decide +kernel
theorem dX9_join_2 : decode cX9_join 2 = .ok (.invokevirtual 197, 3) := by decide +kernel
theorem dX9_join_5 : decode cX9_join 5 = .ok (.ifCond .eq 15, 3) := by decide +kernel
theorem dX9_join_8 : decode cX9_join 8 = .ok (.iload_n 2, 1) := by decide +kernel
theorem dX9_join_9 : decode cX9_join 9 = .ok (.i2l, 1) := by decide +kernel
theorem dX9_join_10 : decode cX9_join 10 = .ok (.lconst 0, 1) := by decide +kernel
theorem dX9_join_11 : decode cX9_join 11 = .ok (.ldc2_w 181, 3) := by decide +kernel
theorem dX9_join_14 : decode cX9_join 14 = .ok (.invokestatic 138, 3) := by decide +kernel
theorem dX9_join_17 : decode cX9_join 17 = .ok (.ifCond .ne 5, 3) := by decide +kernel
theorem dX9_join_20 : decode cX9_join 20 = .ok (.iconst (-1), 1) := by decide +kernel
theorem dX9_join_21 : decode cX9_join 21 = .ok (.ireturn, 1) := by decide +kernel
theorem dX9_join_22 : decode cX9_join 22 = .ok (.aload_n 0, 1) := by decide +kernel
theorem dX9_join_23 : decode cX9_join 23 = .ok (.iload_n 1, 1) := by decide +kernel
theorem dX9_join_24 : decode cX9_join 24 = .ok (.iconst 1, 1) := by decide +kernel
theorem dX9_join_25 : decode cX9_join 25 = .ok (.invokevirtual 200, 3) := by decide +kernel
theorem dX9_join_28 : decode cX9_join 28 = .ok (.ifCond .eq 6, 3) := by decide +kernel
theorem dX9_join_31 : decode cX9_join 31 = .ok (.bipush (-6), 2) := by decide +kernel
theorem dX9_join_33 : decode cX9_join 33 = .ok (.ireturn, 1) := by decide +kernel
theorem dX9_join_34 : decode cX9_join 34 = .ok (.aload_n 0, 1) := by decide +kernel
theorem dX9_join_35 : decode cX9_join 35 = .ok (.iload_n 1, 1) := by decide +kernel
theorem dX9_join_36 : decode cX9_join 36 = .ok (.iload_n 2, 1) := by decide +kernel
theorem dX9_join_37 : decode cX9_join 37 = .ok (.invokevirtual 204, 3) := by decide +kernel
theorem dX9_join_40 : decode cX9_join 40 = .ok (.ifCond .eq 6, 3) := by decide +kernel
theorem dX9_join_43 : decode cX9_join 43 = .ok (.bipush (-5), 2) := by decide +kernel
theorem dX9_join_45 : decode cX9_join 45 = .ok (.ireturn, 1) := by decide +kernel
theorem dX9_join_46 : decode cX9_join 46 = .ok (.aload_n 0, 1) := by decide +kernel
theorem dX9_join_47 : decode cX9_join 47 = .ok (.getfield 48, 3) := by decide +kernel
theorem dX9_join_50 : decode cX9_join 50 = .ok (.iload_n 1, 1) := by decide +kernel
theorem dX9_join_51 : decode cX9_join 51 = .ok (.iaload, 1) := by decide +kernel
theorem dX9_join_52 : decode cX9_join 52 = .ok (.iconst 4, 1) := by decide +kernel
theorem dX9_join_53 : decode cX9_join 53 = .ok (.if_icmp .ne 6, 3) := by decide +kernel
theorem dX9_join_56 : decode cX9_join 56 = .ok (.bipush (-2), 2) := by decide +kernel
theorem dX9_join_58 : decode cX9_join 58 = .ok (.ireturn, 1) := by decide +kernel
theorem dX9_join_59 : decode cX9_join 59 = .ok (.aload_n 0, 1) := by decide +kernel
theorem dX9_join_60 : decode cX9_join 60 = .ok (.getfield 51, 3) := by decide +kernel
theorem dX9_join_63 : decode cX9_join 63 = .ok (.iconst 4, 1) := by decide +kernel
theorem dX9_join_64 : decode cX9_join 64 = .ok (.iload_n 1, 1) := by decide +kernel
theorem dX9_join_65 : decode cX9_join 65 = .ok (.imul, 1) := by decide +kernel
theorem dX9_join_66 : decode cX9_join 66 = .ok (.aload_n 0, 1) := by decide +kernel
theorem dX9_join_67 : decode cX9_join 67 = .ok (.getfield 48, 3) := by decide +kernel
theorem dX9_join_70 : decode cX9_join 70 = .ok (.iload_n 1, 1) := by decide +kernel
theorem dX9_join_71 : decode cX9_join 71 = .ok (.iaload, 1) := by decide +kernel
theorem dX9_join_72 : decode cX9_join 72 = .ok (.iadd, 1) := by decide +kernel
theorem dX9_join_73 : decode cX9_join 73 = .ok (.iload_n 2, 1) := by decide +kernel
theorem dX9_join_74 : decode cX9_join 74 = .ok (.iastore, 1) := by decide +kernel
theorem dX9_join_75 : decode cX9_join 75 = .ok (.aload_n 0, 1) := by decide +kernel
theorem dX9_join_76 : decode cX9_join 76 = .ok (.getfield 48, 3) := by decide +kernel
theorem dX9_join_79 : decode cX9_join 79 = .ok (.iload_n 1, 1) := by decide +kernel
theorem dX9_join_80 : decode cX9_join 80 = .ok (.dup2, 1) := by decide +kernel
theorem dX9_join_81 : decode cX9_join 81 = .ok (.iaload, 1) := by decide +kernel
theorem dX9_join_82 : decode cX9_join 82 = .ok (.iconst 1, 1) := by decide +kernel
theorem dX9_join_83 : decode cX9_join 83 = .ok (.iadd, 1) := by decide +kernel
theorem dX9_join_84 : decode cX9_join 84 = .ok (.iastore, 1) := by decide +kernel
theorem dX9_join_85 : decode cX9_join 85 = .ok (.aload_n 0, 1) := by decide +kernel
theorem dX9_join_86 : decode cX9_join 86 = .ok (.getfield 48, 3) := by decide +kernel
theorem dX9_join_89 : decode cX9_join 89 = .ok (.iload_n 1, 1) := by decide +kernel
theorem dX9_join_90 : decode cX9_join 90 = .ok (.iaload, 1) := by decide +kernel
theorem dX9_join_91 : decode cX9_join 91 = .ok (.ireturn, 1) := by decide +kernel
theorem dX9_weightIn_0 : decode cX9_weightIn 0 = .ok (.iconst 0, 1) := by decide +kernel
theorem dX9_weightIn_1 : decode cX9_weightIn 1 = .ok (.istore_n 2, 1) := by decide +kernel
theorem dX9_weightIn_2 : decode cX9_weightIn 2 = .ok (.iconst 0, 1) := by decide +kernel
theorem dX9_weightIn_3 : decode cX9_weightIn 3 = .ok (.istore_n 3, 1) := by decide +kernel
theorem dX9_weightIn_4 : decode cX9_weightIn 4 = .ok (.iload_n 3, 1) := by decide +kernel
theorem dX9_weightIn_5 : decode cX9_weightIn 5 = .ok (.aload_n 0, 1) := by decide +kernel
theorem dX9_weightIn_6 : decode cX9_weightIn 6 = .ok (.getfield 48, 3) := by decide +kernel
theorem dX9_weightIn_9 : decode cX9_weightIn 9 = .ok (.iload_n 1, 1) := by decide +kernel
theorem dX9_weightIn_10 : decode cX9_weightIn 10 = .ok (.iaload, 1) := by decide +kernel
theorem dX9_weightIn_11 : decode cX9_weightIn 11 = .ok (.if_icmp .ge 27, 3) := by decide +kernel
theorem dX9_weightIn_14 : decode cX9_weightIn 14 = .ok (.iload_n 2, 1) := by decide +kernel
theorem dX9_weightIn_15 : decode cX9_weightIn 15 = .ok (.aload_n 0, 1) := by decide +kernel
theorem dX9_weightIn_16 : decode cX9_weightIn 16 = .ok (.getfield 30, 3) := by decide +kernel
theorem dX9_weightIn_19 : decode cX9_weightIn 19 = .ok (.aload_n 0, 1) := by decide +kernel
theorem dX9_weightIn_20 : decode cX9_weightIn 20 = .ok (.getfield 51, 3) := by decide +kernel
theorem dX9_weightIn_23 : decode cX9_weightIn 23 = .ok (.iconst 4, 1) := by decide +kernel
theorem dX9_weightIn_24 : decode cX9_weightIn 24 = .ok (.iload_n 1, 1) := by decide +kernel
theorem dX9_weightIn_25 : decode cX9_weightIn 25 = .ok (.imul, 1) := by decide +kernel
theorem dX9_weightIn_26 : decode cX9_weightIn 26 = .ok (.iload_n 3, 1) := by decide +kernel
theorem dX9_weightIn_27 : decode cX9_weightIn 27 = .ok (.iadd, 1) := by decide +kernel
theorem dX9_weightIn_28 : decode cX9_weightIn 28 = .ok (.iaload, 1) := by decide +kernel
theorem dX9_weightIn_29 : decode cX9_weightIn 29 = .ok (.iaload, 1) := by decide +kernel
theorem dX9_weightIn_30 : decode cX9_weightIn 30 = .ok (.iadd, 1) := by decide +kernel
theorem dX9_weightIn_31 : decode cX9_weightIn 31 = .ok (.istore_n 2, 1) := by decide +kernel
theorem dX9_weightIn_32 : decode cX9_weightIn 32 = .ok (.iinc 3 1, 3) := by decide +kernel
theorem dX9_weightIn_35 : decode cX9_weightIn 35 = .ok (.goto (-31), 3) := by decide +kernel
theorem dX9_weightIn_38 : decode cX9_weightIn 38 = .ok (.iload_n 2, 1) := by decide +kernel
theorem dX9_weightIn_39 : decode cX9_weightIn 39 = .ok (.ireturn, 1) := by decide +kernel
theorem dX9_of_0 : decode cX9_of 0 = .ok (.aload_n 0, 1) := by decide +kernel
theorem dX9_of_1 : decode cX9_of 1 = .ok (.iload_n 1, 1) := by decide +kernel
theorem dX9_of_2 : decode cX9_of 2 = .ok (.invokevirtual 197, 3) := by decide +kernel
theorem dX9_of_5 : decode cX9_of 5 = .ok (.ifCond .ne 5, 3) := by decide +kernel
theorem dX9_of_8 : decode cX9_of 8 = .ok (.iconst (-1), 1) := by decide +kernel
theorem dX9_of_9 : decode cX9_of 9 = .ok (.ireturn, 1) := by decide +kernel
theorem dX9_of_10 : decode cX9_of 10 = .ok (.iload_n 2, 1) := by decide +kernel
theorem dX9_of_11 : decode cX9_of 11 = .ok (.bipush 10, 2) := by decide +kernel
theorem dX9_of_13 : decode cX9_of 13 = .ok (.if_icmp .lt 34, 3) := by decide +kernel
theorem dX9_of_16 : decode cX9_of 16 = .ok (.iload_n 2, 1) := by decide +kernel
theorem dX9_of_17 : decode cX9_of 17 = .ok (.bipush 10, 2) := by decide +kernel
theorem dX9_of_19 : decode cX9_of 19 = .ok (.isub, 1) := by decide +kernel
theorem dX9_of_20 : decode cX9_of 20 = .ok (.aload_n 0, 1) := by decide +kernel
theorem dX9_of_21 : decode cX9_of 21 = .ok (.getfield 48, 3) := by decide +kernel
theorem dX9_of_24 : decode cX9_of 24 = .ok (.iload_n 1, 1) := by decide +kernel
theorem dX9_of_25 : decode cX9_of 25 = .ok (.iaload, 1) := by decide +kernel
theorem dX9_of_26 : decode cX9_of 26 = .ok (.if_icmp .ge 19, 3) := by decide +kernel
theorem dX9_of_29 : decode cX9_of 29 = .ok (.aload_n 0, 1) := by decide +kernel
theorem dX9_of_30 : decode cX9_of 30 = .ok (.getfield 51, 3) := by decide +kernel
theorem dX9_of_33 : decode cX9_of 33 = .ok (.iconst 4, 1) := by decide +kernel
theorem dX9_of_34 : decode cX9_of 34 = .ok (.iload_n 1, 1) := by decide +kernel
theorem dX9_of_35 : decode cX9_of 35 = .ok (.imul, 1) := by decide +kernel
theorem dX9_of_36 : decode cX9_of 36 = .ok (.iload_n 2, 1) := by decide +kernel
theorem dX9_of_37 : decode cX9_of 37 = .ok (.iadd, 1) := by decide +kernel
theorem dX9_of_38 : decode cX9_of 38 = .ok (.bipush 10, 2) := by decide +kernel
theorem dX9_of_40 : decode cX9_of 40 = .ok (.isub, 1) := by decide +kernel
theorem dX9_of_41 : decode cX9_of 41 = .ok (.iaload, 1) := by decide +kernel
theorem dX9_of_42 : decode cX9_of 42 = .ok (.goto 4, 3) := by decide +kernel
theorem dX9_of_45 : decode cX9_of 45 = .ok (.iconst (-1), 1) := by decide +kernel
theorem dX9_of_46 : decode cX9_of 46 = .ok (.ireturn, 1) := by decide +kernel
theorem dX9_of_47 : decode cX9_of 47 = .ok (.iload_n 2, 1) := by decide +kernel
theorem dX9_of_48 : decode cX9_of 48 = .ok (.tableswitch 81 0 5 #[40, 47, 54, 61, 68, 75], 40) := by decide +kernel
theorem dX9_of_88 : decode cX9_of 88 = .ok (.aload_n 0, 1) := by decide +kernel
theorem dX9_of_89 : decode cX9_of 89 = .ok (.getfield 36, 3) := by decide +kernel
theorem dX9_of_92 : decode cX9_of 92 = .ok (.iload_n 1, 1) := by decide +kernel
theorem dX9_of_93 : decode cX9_of 93 = .ok (.iaload, 1) := by decide +kernel
theorem dX9_of_94 : decode cX9_of 94 = .ok (.ireturn, 1) := by decide +kernel
theorem dX9_of_95 : decode cX9_of 95 = .ok (.aload_n 0, 1) := by decide +kernel
theorem dX9_of_96 : decode cX9_of 96 = .ok (.getfield 39, 3) := by decide +kernel
theorem dX9_of_99 : decode cX9_of 99 = .ok (.iload_n 1, 1) := by decide +kernel
theorem dX9_of_100 : decode cX9_of 100 = .ok (.iaload, 1) := by decide +kernel
theorem dX9_of_101 : decode cX9_of 101 = .ok (.ireturn, 1) := by decide +kernel
theorem dX9_of_102 : decode cX9_of 102 = .ok (.aload_n 0, 1) := by decide +kernel
theorem dX9_of_103 : decode cX9_of 103 = .ok (.getfield 42, 3) := by decide +kernel
theorem dX9_of_106 : decode cX9_of 106 = .ok (.iload_n 1, 1) := by decide +kernel
theorem dX9_of_107 : decode cX9_of 107 = .ok (.iaload, 1) := by decide +kernel
theorem dX9_of_108 : decode cX9_of 108 = .ok (.ireturn, 1) := by decide +kernel
theorem dX9_of_109 : decode cX9_of 109 = .ok (.aload_n 0, 1) := by decide +kernel
theorem dX9_of_110 : decode cX9_of 110 = .ok (.getfield 45, 3) := by decide +kernel
theorem dX9_of_113 : decode cX9_of 113 = .ok (.iload_n 1, 1) := by decide +kernel
theorem dX9_of_114 : decode cX9_of 114 = .ok (.iaload, 1) := by decide +kernel
theorem dX9_of_115 : decode cX9_of 115 = .ok (.ireturn, 1) := by decide +kernel
theorem dX9_of_116 : decode cX9_of 116 = .ok (.aload_n 0, 1) := by decide +kernel
theorem dX9_of_117 : decode cX9_of 117 = .ok (.getfield 48, 3) := by decide +kernel
theorem dX9_of_120 : decode cX9_of 120 = .ok (.iload_n 1, 1) := by decide +kernel
theorem dX9_of_121 : decode cX9_of 121 = .ok (.iaload, 1) := by decide +kernel
theorem dX9_of_122 : decode cX9_of 122 = .ok (.ireturn, 1) := by decide +kernel
theorem dX9_of_123 : decode cX9_of 123 = .ok (.aload_n 0, 1) := by decide +kernel
theorem dX9_of_124 : decode cX9_of 124 = .ok (.iload_n 1, 1) := by decide +kernel
theorem dX9_of_125 : decode cX9_of 125 = .ok (.invokevirtual 208, 3) := by decide +kernel
theorem dX9_of_128 : decode cX9_of 128 = .ok (.ireturn, 1) := by decide +kernel
theorem dX9_of_129 : decode cX9_of 129 = .ok (.iconst (-1), 1) := by decide +kernel
theorem dX9_of_130 : decode cX9_of 130 = .ok (.ireturn, 1) := by decide +kernel
theorem dX9_plane_0 : decode cX9_plane 0 = .ok (.iload_n 1, 1) := by decide +kernel
theorem dX9_plane_1 : decode cX9_plane 1 = .ok (.i2l, 1) := by decide +kernel
theorem dX9_plane_2 : decode cX9_plane 2 = .ok (.lconst 0, 1) := by decide +kernel
theorem dX9_plane_3 : decode cX9_plane 3 = .ok (.ldc2_w 136, 3) := by decide +kernel
theorem dX9_plane_6 : decode cX9_plane 6 = .ok (.invokestatic 138, 3) := by decide +kernel
theorem dX9_plane_9 : decode cX9_plane 9 = .ok (.ifCond .eq 59, 3) := by decide +kernel
theorem dX9_plane_12 : decode cX9_plane 12 = .ok (.iload_n 2, 1) := by decide +kernel
theorem dX9_plane_13 : decode cX9_plane 13 = .ok (.i2l, 1) := by decide +kernel
theorem dX9_plane_14 : decode cX9_plane 14 = .ok (.lconst 1, 1) := by decide +kernel
theorem dX9_plane_15 : decode cX9_plane 15 = .ok (.ldc2_w 156, 3) := by decide +kernel
theorem dX9_plane_18 : decode cX9_plane 18 = .ok (.invokestatic 138, 3) := by decide +kernel
theorem dX9_plane_21 : decode cX9_plane 21 = .ok (.ifCond .eq 47, 3) := by decide +kernel
theorem dX9_plane_24 : decode cX9_plane 24 = .ok (.iload_n 3, 1) := by decide +kernel
theorem dX9_plane_25 : decode cX9_plane 25 = .ok (.i2l, 1) := by decide +kernel
theorem dX9_plane_26 : decode cX9_plane 26 = .ok (.ldc2_w 212, 3) := by decide +kernel
theorem dX9_plane_29 : decode cX9_plane 29 = .ok (.ldc2_w 214, 3) := by decide +kernel
theorem dX9_plane_32 : decode cX9_plane 32 = .ok (.invokestatic 138, 3) := by decide +kernel
theorem dX9_plane_35 : decode cX9_plane 35 = .ok (.ifCond .eq 33, 3) := by decide +kernel
theorem dX9_plane_38 : decode cX9_plane 38 = .ok (.iload 4, 2) := by decide +kernel
theorem dX9_plane_40 : decode cX9_plane 40 = .ok (.i2l, 1) := by decide +kernel
theorem dX9_plane_41 : decode cX9_plane 41 = .ok (.ldc2_w 185, 3) := by decide +kernel
theorem dX9_plane_44 : decode cX9_plane 44 = .ok (.ldc2_w 216, 3) := by decide +kernel
theorem dX9_plane_47 : decode cX9_plane 47 = .ok (.invokestatic 138, 3) := by decide +kernel
theorem dX9_plane_50 : decode cX9_plane 50 = .ok (.ifCond .eq 18, 3) := by decide +kernel
theorem dX9_plane_53 : decode cX9_plane 53 = .ok (.iload 5, 2) := by decide +kernel
theorem dX9_plane_55 : decode cX9_plane 55 = .ok (.i2l, 1) := by decide +kernel
theorem dX9_plane_56 : decode cX9_plane 56 = .ok (.ldc2_w 193, 3) := by decide +kernel
theorem dX9_plane_59 : decode cX9_plane 59 = .ok (.ldc2_w 218, 3) := by decide +kernel
theorem dX9_plane_62 : decode cX9_plane 62 = .ok (.invokestatic 138, 3) := by decide +kernel
theorem dX9_plane_65 : decode cX9_plane 65 = .ok (.ifCond .ne 5, 3) := by decide +kernel
theorem dX9_plane_68 : decode cX9_plane 68 = .ok (.iconst (-1), 1) := by decide +kernel
theorem dX9_plane_69 : decode cX9_plane 69 = .ok (.ireturn, 1) := by decide +kernel
theorem dX9_plane_70 : decode cX9_plane 70 = .ok (.aload_n 0, 1) := by decide +kernel
theorem dX9_plane_71 : decode cX9_plane 71 = .ok (.getfield 54, 3) := by decide +kernel
theorem dX9_plane_74 : decode cX9_plane 74 = .ok (.iload_n 1, 1) := by decide +kernel
theorem dX9_plane_75 : decode cX9_plane 75 = .ok (.iload_n 2, 1) := by decide +kernel
theorem dX9_plane_76 : decode cX9_plane 76 = .ok (.iastore, 1) := by decide +kernel
theorem dX9_plane_77 : decode cX9_plane 77 = .ok (.aload_n 0, 1) := by decide +kernel
theorem dX9_plane_78 : decode cX9_plane 78 = .ok (.getfield 57, 3) := by decide +kernel
theorem dX9_plane_81 : decode cX9_plane 81 = .ok (.iload_n 1, 1) := by decide +kernel
theorem dX9_plane_82 : decode cX9_plane 82 = .ok (.iload_n 3, 1) := by decide +kernel
theorem dX9_plane_83 : decode cX9_plane 83 = .ok (.iastore, 1) := by decide +kernel
theorem dX9_plane_84 : decode cX9_plane 84 = .ok (.aload_n 0, 1) := by decide +kernel
theorem dX9_plane_85 : decode cX9_plane 85 = .ok (.getfield 60, 3) := by decide +kernel
theorem dX9_plane_88 : decode cX9_plane 88 = .ok (.iload_n 1, 1) := by decide +kernel
theorem dX9_plane_89 : decode cX9_plane 89 = .ok (.iload 4, 2) := by decide +kernel
theorem dX9_plane_91 : decode cX9_plane 91 = .ok (.iastore, 1) := by decide +kernel
theorem dX9_plane_92 : decode cX9_plane 92 = .ok (.aload_n 0, 1) := by decide +kernel
theorem dX9_plane_93 : decode cX9_plane 93 = .ok (.getfield 63, 3) := by decide +kernel
theorem dX9_plane_96 : decode cX9_plane 96 = .ok (.iload_n 1, 1) := by decide +kernel
theorem dX9_plane_97 : decode cX9_plane 97 = .ok (.iload 5, 2) := by decide +kernel
theorem dX9_plane_99 : decode cX9_plane 99 = .ok (.iastore, 1) := by decide +kernel
theorem dX9_plane_100 : decode cX9_plane 100 = .ok (.iconst 1, 1) := by decide +kernel
theorem dX9_plane_101 : decode cX9_plane 101 = .ok (.ireturn, 1) := by decide +kernel
theorem dX9_rule_0 : decode cX9_rule 0 = .ok (.iload_n 1, 1) := by decide +kernel
theorem dX9_rule_1 : decode cX9_rule 1 = .ok (.i2l, 1) := by decide +kernel
theorem dX9_rule_2 : decode cX9_rule 2 = .ok (.lconst 0, 1) := by decide +kernel
theorem dX9_rule_3 : decode cX9_rule 3 = .ok (.ldc2_w 220, 3) := by decide +kernel
theorem dX9_rule_6 : decode cX9_rule 6 = .ok (.invokestatic 138, 3) := by decide +kernel
theorem dX9_rule_9 : decode cX9_rule 9 = .ok (.ifCond .ne 5, 3) := by decide +kernel
theorem dX9_rule_12 : decode cX9_rule 12 = .ok (.iconst (-1), 1) := by decide +kernel
theorem dX9_rule_13 : decode cX9_rule 13 = .ok (.ireturn, 1) := by decide +kernel
theorem dX9_rule_14 : decode cX9_rule 14 = .ok (.iload_n 1, 1) := by decide +kernel
theorem dX9_rule_15 : decode cX9_rule 15 = .ok (.ifCond .ne 9, 3) := by decide +kernel
theorem dX9_rule_18 : decode cX9_rule 18 = .ok (.sipush 5000, 3) := by decide +kernel
theorem dX9_rule_21 : decode cX9_rule 21 = .ok (.goto 26, 3) := by decide +kernel
theorem dX9_rule_24 : decode cX9_rule 24 = .ok (.iload_n 1, 1) := by decide +kernel
theorem dX9_rule_25 : decode cX9_rule 25 = .ok (.iconst 1, 1) := by decide +kernel
theorem dX9_rule_26 : decode cX9_rule 26 = .ok (.if_icmp .ne 9, 3) := by decide +kernel
theorem dX9_rule_29 : decode cX9_rule 29 = .ok (.sipush 20000, 3) := by decide +kernel
theorem dX9_rule_32 : decode cX9_rule 32 = .ok (.goto 15, 3) := by decide +kernel
theorem dX9_rule_35 : decode cX9_rule 35 = .ok (.iload_n 1, 1) := by decide +kernel
theorem dX9_rule_36 : decode cX9_rule 36 = .ok (.bipush 6, 2) := by decide +kernel
theorem dX9_rule_38 : decode cX9_rule 38 = .ok (.if_icmp .ge 8, 3) := by decide +kernel
theorem dX9_rule_41 : decode cX9_rule 41 = .ok (.ldc 222, 2) := by decide +kernel
theorem dX9_rule_43 : decode cX9_rule 43 = .ok (.goto 4, 3) := by decide +kernel
theorem dX9_rule_46 : decode cX9_rule 46 = .ok (.iconst 3, 1) := by decide +kernel
theorem dX9_rule_47 : decode cX9_rule 47 = .ok (.istore_n 3, 1) := by decide +kernel
theorem dX9_rule_48 : decode cX9_rule 48 = .ok (.iload_n 2, 1) := by decide +kernel
theorem dX9_rule_49 : decode cX9_rule 49 = .ok (.i2l, 1) := by decide +kernel
theorem dX9_rule_50 : decode cX9_rule 50 = .ok (.lconst 0, 1) := by decide +kernel
theorem dX9_rule_51 : decode cX9_rule 51 = .ok (.iload_n 3, 1) := by decide +kernel
theorem dX9_rule_52 : decode cX9_rule 52 = .ok (.i2l, 1) := by decide +kernel
theorem dX9_rule_53 : decode cX9_rule 53 = .ok (.invokestatic 138, 3) := by decide +kernel
theorem dX9_rule_56 : decode cX9_rule 56 = .ok (.ifCond .ne 5, 3) := by decide +kernel
theorem dX9_rule_59 : decode cX9_rule 59 = .ok (.iconst (-1), 1) := by decide +kernel
theorem dX9_rule_60 : decode cX9_rule 60 = .ok (.ireturn, 1) := by decide +kernel
theorem dX9_rule_61 : decode cX9_rule 61 = .ok (.aload_n 0, 1) := by decide +kernel
theorem dX9_rule_62 : decode cX9_rule 62 = .ok (.getfield 66, 3) := by decide +kernel
theorem dX9_rule_65 : decode cX9_rule 65 = .ok (.iload_n 1, 1) := by decide +kernel
theorem dX9_rule_66 : decode cX9_rule 66 = .ok (.iaload, 1) := by decide +kernel
theorem dX9_rule_67 : decode cX9_rule 67 = .ok (.istore 4, 2) := by decide +kernel
theorem dX9_rule_69 : decode cX9_rule 69 = .ok (.aload_n 0, 1) := by decide +kernel
theorem dX9_rule_70 : decode cX9_rule 70 = .ok (.getfield 66, 3) := by decide +kernel
theorem dX9_rule_73 : decode cX9_rule 73 = .ok (.iload_n 1, 1) := by decide +kernel
theorem dX9_rule_74 : decode cX9_rule 74 = .ok (.iload_n 2, 1) := by decide +kernel
theorem dX9_rule_75 : decode cX9_rule 75 = .ok (.iastore, 1) := by decide +kernel
theorem dX9_rule_76 : decode cX9_rule 76 = .ok (.iload 4, 2) := by decide +kernel
theorem dX9_rule_78 : decode cX9_rule 78 = .ok (.ireturn, 1) := by decide +kernel
theorem dX9_load_0 : decode cX9_load 0 = .ok (.iload_n 1, 1) := by decide +kernel
theorem dX9_load_1 : decode cX9_load 1 = .ok (.i2l, 1) := by decide +kernel
theorem dX9_load_2 : decode cX9_load 2 = .ok (.lconst 0, 1) := by decide +kernel
theorem dX9_load_3 : decode cX9_load 3 = .ok (.ldc2_w 136, 3) := by decide +kernel
theorem dX9_load_6 : decode cX9_load 6 = .ok (.invokestatic 138, 3) := by decide +kernel
theorem dX9_load_9 : decode cX9_load 9 = .ok (.ifCond .ne 5, 3) := by decide +kernel
theorem dX9_load_12 : decode cX9_load 12 = .ok (.iconst (-1), 1) := by decide +kernel
theorem dX9_load_13 : decode cX9_load 13 = .ok (.ireturn, 1) := by decide +kernel
theorem dX9_load_14 : decode cX9_load 14 = .ok (.aload_n 0, 1) := by decide +kernel
theorem dX9_load_15 : decode cX9_load 15 = .ok (.getfield 146, 3) := by decide +kernel
theorem dX9_load_18 : decode cX9_load 18 = .ok (.bipush 12, 2) := by decide +kernel
theorem dX9_load_20 : decode cX9_load 20 = .ok (.if_icmp .ne 6, 3) := by decide +kernel
theorem dX9_load_23 : decode cX9_load 23 = .ok (.bipush (-2), 2) := by decide +kernel
theorem dX9_load_25 : decode cX9_load 25 = .ok (.ireturn, 1) := by decide +kernel
theorem dX9_load_26 : decode cX9_load 26 = .ok (.aload_n 0, 1) := by decide +kernel
theorem dX9_load_27 : decode cX9_load 27 = .ok (.getfield 69, 3) := by decide +kernel
theorem dX9_load_30 : decode cX9_load 30 = .ok (.aload_n 0, 1) := by decide +kernel
theorem dX9_load_31 : decode cX9_load 31 = .ok (.getfield 146, 3) := by decide +kernel
theorem dX9_load_34 : decode cX9_load 34 = .ok (.iload_n 1, 1) := by decide +kernel
theorem dX9_load_35 : decode cX9_load 35 = .ok (.iastore, 1) := by decide +kernel
theorem dX9_load_36 : decode cX9_load 36 = .ok (.aload_n 0, 1) := by decide +kernel
theorem dX9_load_37 : decode cX9_load 37 = .ok (.dup, 1) := by decide +kernel
theorem dX9_load_38 : decode cX9_load 38 = .ok (.getfield 146, 3) := by decide +kernel
theorem dX9_load_41 : decode cX9_load 41 = .ok (.iconst 1, 1) := by decide +kernel
theorem dX9_load_42 : decode cX9_load 42 = .ok (.iadd, 1) := by decide +kernel
theorem dX9_load_43 : decode cX9_load 43 = .ok (.putfield 146, 3) := by decide +kernel
theorem dX9_load_46 : decode cX9_load 46 = .ok (.aload_n 0, 1) := by decide +kernel
theorem dX9_load_47 : decode cX9_load 47 = .ok (.getfield 146, 3) := by decide +kernel
theorem dX9_load_50 : decode cX9_load 50 = .ok (.iconst 1, 1) := by decide +kernel
theorem dX9_load_51 : decode cX9_load 51 = .ok (.isub, 1) := by decide +kernel
theorem dX9_load_52 : decode cX9_load 52 = .ok (.ireturn, 1) := by decide +kernel
theorem dX9_put_0 : decode cX9_put 0 = .ok (.aload_n 0, 1) := by decide +kernel
theorem dX9_put_1 : decode cX9_put 1 = .ok (.iload_n 1, 1) := by decide +kernel
theorem dX9_put_2 : decode cX9_put 2 = .ok (.invokevirtual 149, 3) := by decide +kernel
theorem dX9_put_5 : decode cX9_put 5 = .ok (.ifCond .eq 23, 3) := by decide +kernel
theorem dX9_put_8 : decode cX9_put 8 = .ok (.aload_n 0, 1) := by decide +kernel
theorem dX9_put_9 : decode cX9_put 9 = .ok (.iload_n 2, 1) := by decide +kernel
theorem dX9_put_10 : decode cX9_put 10 = .ok (.invokevirtual 197, 3) := by decide +kernel
theorem dX9_put_13 : decode cX9_put 13 = .ok (.ifCond .eq 15, 3) := by decide +kernel
theorem dX9_put_16 : decode cX9_put 16 = .ok (.iload_n 3, 1) := by decide +kernel
theorem dX9_put_17 : decode cX9_put 17 = .ok (.i2l, 1) := by decide +kernel
theorem dX9_put_18 : decode cX9_put 18 = .ok (.lconst 1, 1) := by decide +kernel
theorem dX9_put_19 : decode cX9_put 19 = .ok (.ldc2_w 223, 3) := by decide +kernel
theorem dX9_put_22 : decode cX9_put 22 = .ok (.invokestatic 138, 3) := by decide +kernel
theorem dX9_put_25 : decode cX9_put 25 = .ok (.ifCond .ne 5, 3) := by decide +kernel
theorem dX9_put_28 : decode cX9_put 28 = .ok (.iconst (-1), 1) := by decide +kernel
theorem dX9_put_29 : decode cX9_put 29 = .ok (.ireturn, 1) := by decide +kernel
theorem dX9_put_30 : decode cX9_put 30 = .ok (.aload_n 0, 1) := by decide +kernel
theorem dX9_put_31 : decode cX9_put 31 = .ok (.getfield 84, 3) := by decide +kernel
theorem dX9_put_34 : decode cX9_put 34 = .ok (.iload_n 1, 1) := by decide +kernel
theorem dX9_put_35 : decode cX9_put 35 = .ok (.baload, 1) := by decide +kernel
theorem dX9_put_36 : decode cX9_put 36 = .ok (.ifCond .eq 6, 3) := by decide +kernel
theorem dX9_put_39 : decode cX9_put 39 = .ok (.bipush (-6), 2) := by decide +kernel
theorem dX9_put_41 : decode cX9_put 41 = .ok (.ireturn, 1) := by decide +kernel
theorem dX9_put_42 : decode cX9_put 42 = .ok (.aload_n 0, 1) := by decide +kernel
theorem dX9_put_43 : decode cX9_put 43 = .ok (.iload_n 2, 1) := by decide +kernel
theorem dX9_put_44 : decode cX9_put 44 = .ok (.iconst 0, 1) := by decide +kernel
theorem dX9_put_45 : decode cX9_put 45 = .ok (.invokevirtual 200, 3) := by decide +kernel
theorem dX9_put_48 : decode cX9_put 48 = .ok (.ifCond .eq 6, 3) := by decide +kernel
theorem dX9_put_51 : decode cX9_put 51 = .ok (.bipush (-5), 2) := by decide +kernel
theorem dX9_put_53 : decode cX9_put 53 = .ok (.ireturn, 1) := by decide +kernel
theorem dX9_put_54 : decode cX9_put 54 = .ok (.aload_n 0, 1) := by decide +kernel
theorem dX9_put_55 : decode cX9_put 55 = .ok (.getfield 72, 3) := by decide +kernel
theorem dX9_put_58 : decode cX9_put 58 = .ok (.iload_n 1, 1) := by decide +kernel
theorem dX9_put_59 : decode cX9_put 59 = .ok (.iaload, 1) := by decide +kernel
theorem dX9_put_60 : decode cX9_put 60 = .ok (.bipush 6, 2) := by decide +kernel
theorem dX9_put_62 : decode cX9_put 62 = .ok (.if_icmp .ne 6, 3) := by decide +kernel
theorem dX9_put_65 : decode cX9_put 65 = .ok (.bipush (-2), 2) := by decide +kernel
theorem dX9_put_67 : decode cX9_put 67 = .ok (.ireturn, 1) := by decide +kernel
theorem dX9_put_68 : decode cX9_put 68 = .ok (.aload_n 0, 1) := by decide +kernel
theorem dX9_put_69 : decode cX9_put 69 = .ok (.getfield 75, 3) := by decide +kernel
theorem dX9_put_72 : decode cX9_put 72 = .ok (.bipush 6, 2) := by decide +kernel
theorem dX9_put_74 : decode cX9_put 74 = .ok (.iload_n 1, 1) := by decide +kernel
theorem dX9_put_75 : decode cX9_put 75 = .ok (.imul, 1) := by decide +kernel
theorem dX9_put_76 : decode cX9_put 76 = .ok (.aload_n 0, 1) := by decide +kernel
theorem dX9_put_77 : decode cX9_put 77 = .ok (.getfield 72, 3) := by decide +kernel
theorem dX9_put_80 : decode cX9_put 80 = .ok (.iload_n 1, 1) := by decide +kernel
theorem dX9_put_81 : decode cX9_put 81 = .ok (.iaload, 1) := by decide +kernel
theorem dX9_put_82 : decode cX9_put 82 = .ok (.iadd, 1) := by decide +kernel
theorem dX9_put_83 : decode cX9_put 83 = .ok (.iload_n 2, 1) := by decide +kernel
theorem dX9_put_84 : decode cX9_put 84 = .ok (.iastore, 1) := by decide +kernel
theorem dX9_put_85 : decode cX9_put 85 = .ok (.aload_n 0, 1) := by decide +kernel
theorem dX9_put_86 : decode cX9_put 86 = .ok (.getfield 78, 3) := by decide +kernel
theorem dX9_put_89 : decode cX9_put 89 = .ok (.bipush 6, 2) := by decide +kernel
theorem dX9_put_91 : decode cX9_put 91 = .ok (.iload_n 1, 1) := by decide +kernel
theorem dX9_put_92 : decode cX9_put 92 = .ok (.imul, 1) := by decide +kernel
theorem dX9_put_93 : decode cX9_put 93 = .ok (.aload_n 0, 1) := by decide +kernel
theorem dX9_put_94 : decode cX9_put 94 = .ok (.getfield 72, 3) := by decide +kernel
theorem dX9_put_97 : decode cX9_put 97 = .ok (.iload_n 1, 1) := by decide +kernel
theorem dX9_put_98 : decode cX9_put 98 = .ok (.iaload, 1) := by decide +kernel
theorem dX9_put_99 : decode cX9_put 99 = .ok (.iadd, 1) := by decide +kernel
theorem dX9_put_100 : decode cX9_put 100 = .ok (.iload_n 3, 1) := by decide +kernel
theorem dX9_put_101 : decode cX9_put 101 = .ok (.iastore, 1) := by decide +kernel
theorem dX9_put_102 : decode cX9_put 102 = .ok (.aload_n 0, 1) := by decide +kernel
theorem dX9_put_103 : decode cX9_put 103 = .ok (.getfield 72, 3) := by decide +kernel
theorem dX9_put_106 : decode cX9_put 106 = .ok (.iload_n 1, 1) := by decide +kernel
theorem dX9_put_107 : decode cX9_put 107 = .ok (.dup2, 1) := by decide +kernel
theorem dX9_put_108 : decode cX9_put 108 = .ok (.iaload, 1) := by decide +kernel
theorem dX9_put_109 : decode cX9_put 109 = .ok (.iconst 1, 1) := by decide +kernel
theorem dX9_put_110 : decode cX9_put 110 = .ok (.iadd, 1) := by decide +kernel
theorem dX9_put_111 : decode cX9_put 111 = .ok (.iastore, 1) := by decide +kernel
theorem dX9_put_112 : decode cX9_put 112 = .ok (.aload_n 0, 1) := by decide +kernel
theorem dX9_put_113 : decode cX9_put 113 = .ok (.getfield 72, 3) := by decide +kernel
theorem dX9_put_116 : decode cX9_put 116 = .ok (.iload_n 1, 1) := by decide +kernel
theorem dX9_put_117 : decode cX9_put 117 = .ok (.iaload, 1) := by decide +kernel
theorem dX9_put_118 : decode cX9_put 118 = .ok (.ireturn, 1) := by decide +kernel
theorem dX9_out_0 : decode cX9_out 0 = .ok (.aload_n 0, 1) := by decide +kernel
theorem dX9_out_1 : decode cX9_out 1 = .ok (.iload_n 1, 1) := by decide +kernel
theorem dX9_out_2 : decode cX9_out 2 = .ok (.iload_n 2, 1) := by decide +kernel
theorem dX9_out_3 : decode cX9_out 3 = .ok (.invokevirtual 225, 3) := by decide +kernel
theorem dX9_out_6 : decode cX9_out 6 = .ok (.ifCond .ne 5, 3) := by decide +kernel
theorem dX9_out_9 : decode cX9_out 9 = .ok (.iconst (-1), 1) := by decide +kernel
theorem dX9_out_10 : decode cX9_out 10 = .ok (.ireturn, 1) := by decide +kernel
theorem dX9_out_11 : decode cX9_out 11 = .ok (.aload_n 0, 1) := by decide +kernel
theorem dX9_out_12 : decode cX9_out 12 = .ok (.getfield 84, 3) := by decide +kernel
theorem dX9_out_15 : decode cX9_out 15 = .ok (.iload_n 1, 1) := by decide +kernel
theorem dX9_out_16 : decode cX9_out 16 = .ok (.baload, 1) := by decide +kernel
theorem dX9_out_17 : decode cX9_out 17 = .ok (.ifCond .eq 6, 3) := by decide +kernel
theorem dX9_out_20 : decode cX9_out 20 = .ok (.bipush (-6), 2) := by decide +kernel
theorem dX9_out_22 : decode cX9_out 22 = .ok (.ireturn, 1) := by decide +kernel
theorem dX9_out_23 : decode cX9_out 23 = .ok (.aload_n 0, 1) := by decide +kernel
theorem dX9_out_24 : decode cX9_out 24 = .ok (.getfield 72, 3) := by decide +kernel
theorem dX9_out_27 : decode cX9_out 27 = .ok (.iload_n 1, 1) := by decide +kernel
theorem dX9_out_28 : decode cX9_out 28 = .ok (.dup2, 1) := by decide +kernel
theorem dX9_out_29 : decode cX9_out 29 = .ok (.iaload, 1) := by decide +kernel
theorem dX9_out_30 : decode cX9_out 30 = .ok (.iconst 1, 1) := by decide +kernel
theorem dX9_out_31 : decode cX9_out 31 = .ok (.isub, 1) := by decide +kernel
theorem dX9_out_32 : decode cX9_out 32 = .ok (.iastore, 1) := by decide +kernel
theorem dX9_out_33 : decode cX9_out 33 = .ok (.iload_n 2, 1) := by decide +kernel
theorem dX9_out_34 : decode cX9_out 34 = .ok (.istore_n 3, 1) := by decide +kernel
theorem dX9_out_35 : decode cX9_out 35 = .ok (.iload_n 3, 1) := by decide +kernel
theorem dX9_out_36 : decode cX9_out 36 = .ok (.aload_n 0, 1) := by decide +kernel
theorem dX9_out_37 : decode cX9_out 37 = .ok (.getfield 72, 3) := by decide +kernel
theorem dX9_out_40 : decode cX9_out 40 = .ok (.iload_n 1, 1) := by decide +kernel
theorem dX9_out_41 : decode cX9_out 41 = .ok (.iaload, 1) := by decide +kernel
theorem dX9_out_42 : decode cX9_out 42 = .ok (.if_icmp .ge 57, 3) := by decide +kernel
theorem dX9_out_45 : decode cX9_out 45 = .ok (.aload_n 0, 1) := by decide +kernel
theorem dX9_out_46 : decode cX9_out 46 = .ok (.getfield 75, 3) := by decide +kernel
theorem dX9_out_49 : decode cX9_out 49 = .ok (.bipush 6, 2) := by decide +kernel
theorem dX9_out_51 : decode cX9_out 51 = .ok (.iload_n 1, 1) := by decide +kernel
theorem dX9_out_52 : decode cX9_out 52 = .ok (.imul, 1) := by decide +kernel
theorem dX9_out_53 : decode cX9_out 53 = .ok (.iload_n 3, 1) := by decide +kernel
theorem dX9_out_54 : decode cX9_out 54 = .ok (.iadd, 1) := by decide +kernel
theorem dX9_out_55 : decode cX9_out 55 = .ok (.aload_n 0, 1) := by decide +kernel
theorem dX9_out_56 : decode cX9_out 56 = .ok (.getfield 75, 3) := by decide +kernel
theorem dX9_out_59 : decode cX9_out 59 = .ok (.bipush 6, 2) := by decide +kernel
theorem dX9_out_61 : decode cX9_out 61 = .ok (.iload_n 1, 1) := by decide +kernel
theorem dX9_out_62 : decode cX9_out 62 = .ok (.imul, 1) := by decide +kernel
theorem dX9_out_63 : decode cX9_out 63 = .ok (.iload_n 3, 1) := by decide +kernel
theorem dX9_out_64 : decode cX9_out 64 = .ok (.iadd, 1) := by decide +kernel
theorem dX9_out_65 : decode cX9_out 65 = .ok (.iconst 1, 1) := by decide +kernel
theorem dX9_out_66 : decode cX9_out 66 = .ok (.iadd, 1) := by decide +kernel
theorem dX9_out_67 : decode cX9_out 67 = .ok (.iaload, 1) := by decide +kernel
theorem dX9_out_68 : decode cX9_out 68 = .ok (.iastore, 1) := by decide +kernel
theorem dX9_out_69 : decode cX9_out 69 = .ok (.aload_n 0, 1) := by decide +kernel
theorem dX9_out_70 : decode cX9_out 70 = .ok (.getfield 78, 3) := by decide +kernel
theorem dX9_out_73 : decode cX9_out 73 = .ok (.bipush 6, 2) := by decide +kernel
theorem dX9_out_75 : decode cX9_out 75 = .ok (.iload_n 1, 1) := by decide +kernel
theorem dX9_out_76 : decode cX9_out 76 = .ok (.imul, 1) := by decide +kernel
theorem dX9_out_77 : decode cX9_out 77 = .ok (.iload_n 3, 1) := by decide +kernel
theorem dX9_out_78 : decode cX9_out 78 = .ok (.iadd, 1) := by decide +kernel
theorem dX9_out_79 : decode cX9_out 79 = .ok (.aload_n 0, 1) := by decide +kernel
theorem dX9_out_80 : decode cX9_out 80 = .ok (.getfield 78, 3) := by decide +kernel
theorem dX9_out_83 : decode cX9_out 83 = .ok (.bipush 6, 2) := by decide +kernel
theorem dX9_out_85 : decode cX9_out 85 = .ok (.iload_n 1, 1) := by decide +kernel
theorem dX9_out_86 : decode cX9_out 86 = .ok (.imul, 1) := by decide +kernel
theorem dX9_out_87 : decode cX9_out 87 = .ok (.iload_n 3, 1) := by decide +kernel
theorem dX9_out_88 : decode cX9_out 88 = .ok (.iadd, 1) := by decide +kernel
theorem dX9_out_89 : decode cX9_out 89 = .ok (.iconst 1, 1) := by decide +kernel
theorem dX9_out_90 : decode cX9_out 90 = .ok (.iadd, 1) := by decide +kernel
theorem dX9_out_91 : decode cX9_out 91 = .ok (.iaload, 1) := by decide +kernel
theorem dX9_out_92 : decode cX9_out 92 = .ok (.iastore, 1) := by decide +kernel
theorem dX9_out_93 : decode cX9_out 93 = .ok (.iinc 3 1, 3) := by decide +kernel
theorem dX9_out_96 : decode cX9_out 96 = .ok (.goto (-61), 3) := by decide +kernel
theorem dX9_out_99 : decode cX9_out 99 = .ok (.aload_n 0, 1) := by decide +kernel
theorem dX9_out_100 : decode cX9_out 100 = .ok (.getfield 72, 3) := by decide +kernel
theorem dX9_out_103 : decode cX9_out 103 = .ok (.iload_n 1, 1) := by decide +kernel
theorem dX9_out_104 : decode cX9_out 104 = .ok (.iaload, 1) := by decide +kernel
theorem dX9_out_105 : decode cX9_out 105 = .ok (.ireturn, 1) := by decide +kernel
theorem dX9_pause_0 : decode cX9_pause 0 = .ok (.aload_n 0, 1) := by decide +kernel
theorem dX9_pause_1 : decode cX9_pause 1 = .ok (.iload_n 1, 1) := by decide +kernel
theorem dX9_pause_2 : decode cX9_pause 2 = .ok (.iload_n 2, 1) := by decide +kernel
theorem dX9_pause_3 : decode cX9_pause 3 = .ok (.invokevirtual 225, 3) := by decide +kernel
theorem dX9_pause_6 : decode cX9_pause 6 = .ok (.ifCond .eq 15, 3) := by decide +kernel
theorem dX9_pause_9 : decode cX9_pause 9 = .ok (.iload_n 3, 1) := by decide +kernel
theorem dX9_pause_10 : decode cX9_pause 10 = .ok (.i2l, 1) := by decide +kernel
theorem dX9_pause_11 : decode cX9_pause 11 = .ok (.lconst 1, 1) := by decide +kernel
theorem dX9_pause_12 : decode cX9_pause 12 = .ok (.ldc2_w 223, 3) := by decide +kernel
theorem dX9_pause_15 : decode cX9_pause 15 = .ok (.invokestatic 138, 3) := by decide +kernel
theorem dX9_pause_18 : decode cX9_pause 18 = .ok (.ifCond .ne 5, 3) := by decide +kernel
theorem dX9_pause_21 : decode cX9_pause 21 = .ok (.iconst (-1), 1) := by decide +kernel
theorem dX9_pause_22 : decode cX9_pause 22 = .ok (.ireturn, 1) := by decide +kernel
theorem dX9_pause_23 : decode cX9_pause 23 = .ok (.aload_n 0, 1) := by decide +kernel
theorem dX9_pause_24 : decode cX9_pause 24 = .ok (.getfield 84, 3) := by decide +kernel
theorem dX9_pause_27 : decode cX9_pause 27 = .ok (.iload_n 1, 1) := by decide +kernel
theorem dX9_pause_28 : decode cX9_pause 28 = .ok (.baload, 1) := by decide +kernel
theorem dX9_pause_29 : decode cX9_pause 29 = .ok (.ifCond .eq 6, 3) := by decide +kernel
theorem dX9_pause_32 : decode cX9_pause 32 = .ok (.bipush (-6), 2) := by decide +kernel
theorem dX9_pause_34 : decode cX9_pause 34 = .ok (.ireturn, 1) := by decide +kernel
theorem dX9_pause_35 : decode cX9_pause 35 = .ok (.aload_n 0, 1) := by decide +kernel
theorem dX9_pause_36 : decode cX9_pause 36 = .ok (.getfield 78, 3) := by decide +kernel
theorem dX9_pause_39 : decode cX9_pause 39 = .ok (.bipush 6, 2) := by decide +kernel
theorem dX9_pause_41 : decode cX9_pause 41 = .ok (.iload_n 1, 1) := by decide +kernel
theorem dX9_pause_42 : decode cX9_pause 42 = .ok (.imul, 1) := by decide +kernel
theorem dX9_pause_43 : decode cX9_pause 43 = .ok (.iload_n 2, 1) := by decide +kernel
theorem dX9_pause_44 : decode cX9_pause 44 = .ok (.iadd, 1) := by decide +kernel
theorem dX9_pause_45 : decode cX9_pause 45 = .ok (.iload_n 3, 1) := by decide +kernel
theorem dX9_pause_46 : decode cX9_pause 46 = .ok (.iastore, 1) := by decide +kernel
theorem dX9_pause_47 : decode cX9_pause 47 = .ok (.iconst 1, 1) := by decide +kernel
theorem dX9_pause_48 : decode cX9_pause 48 = .ok (.ireturn, 1) := by decide +kernel
theorem dX9_start_0 : decode cX9_start 0 = .ok (.aload_n 0, 1) := by decide +kernel
theorem dX9_start_1 : decode cX9_start 1 = .ok (.iload_n 1, 1) := by decide +kernel
theorem dX9_start_2 : decode cX9_start 2 = .ok (.invokevirtual 149, 3) := by decide +kernel
theorem dX9_start_5 : decode cX9_start 5 = .ok (.ifCond .eq 17, 3) := by decide +kernel
theorem dX9_start_8 : decode cX9_start 8 = .ok (.iload_n 2, 1) := by decide +kernel
theorem dX9_start_9 : decode cX9_start 9 = .ok (.i2l, 1) := by decide +kernel
theorem dX9_start_10 : decode cX9_start 10 = .ok (.ldc2_w 228, 3) := by decide +kernel
theorem dX9_start_13 : decode cX9_start 13 = .ok (.ldc2_w 230, 3) := by decide +kernel
theorem dX9_start_16 : decode cX9_start 16 = .ok (.invokestatic 138, 3) := by decide +kernel
theorem dX9_start_19 : decode cX9_start 19 = .ok (.ifCond .ne 5, 3) := by decide +kernel
theorem dX9_start_22 : decode cX9_start 22 = .ok (.iconst (-1), 1) := by decide +kernel
theorem dX9_start_23 : decode cX9_start 23 = .ok (.ireturn, 1) := by decide +kernel
theorem dX9_start_24 : decode cX9_start 24 = .ok (.aload_n 0, 1) := by decide +kernel
theorem dX9_start_25 : decode cX9_start 25 = .ok (.getfield 84, 3) := by decide +kernel
theorem dX9_start_28 : decode cX9_start 28 = .ok (.iload_n 1, 1) := by decide +kernel
theorem dX9_start_29 : decode cX9_start 29 = .ok (.baload, 1) := by decide +kernel
theorem dX9_start_30 : decode cX9_start 30 = .ok (.ifCond .eq 6, 3) := by decide +kernel
theorem dX9_start_33 : decode cX9_start 33 = .ok (.bipush (-6), 2) := by decide +kernel
theorem dX9_start_35 : decode cX9_start 35 = .ok (.ireturn, 1) := by decide +kernel
theorem dX9_start_36 : decode cX9_start 36 = .ok (.aload_n 0, 1) := by decide +kernel
theorem dX9_start_37 : decode cX9_start 37 = .ok (.getfield 81, 3) := by decide +kernel
theorem dX9_start_40 : decode cX9_start 40 = .ok (.iload_n 1, 1) := by decide +kernel
theorem dX9_start_41 : decode cX9_start 41 = .ok (.iload_n 2, 1) := by decide +kernel
theorem dX9_start_42 : decode cX9_start 42 = .ok (.iastore, 1) := by decide +kernel
theorem dX9_start_43 : decode cX9_start 43 = .ok (.iconst 1, 1) := by decide +kernel
theorem dX9_start_44 : decode cX9_start 44 = .ok (.ireturn, 1) := by decide +kernel
theorem dX9_leavesAt_0 : decode cX9_leavesAt 0 = .ok (.iconst 0, 1) := by decide +kernel
theorem dX9_leavesAt_1 : decode cX9_leavesAt 1 = .ok (.istore_n 3, 1) := by decide +kernel
theorem dX9_leavesAt_2 : decode cX9_leavesAt 2 = .ok (.iconst 1, 1) := by decide +kernel
theorem dX9_leavesAt_3 : decode cX9_leavesAt 3 = .ok (.istore 4, 2) := by decide +kernel
theorem dX9_leavesAt_5 : decode cX9_leavesAt 5 = .ok (.iload 4, 2) := by decide +kernel
theorem dX9_leavesAt_7 : decode cX9_leavesAt 7 = .ok (.iload_n 2, 1) := by decide +kernel
theorem dX9_leavesAt_8 : decode cX9_leavesAt 8 = .ok (.if_icmp .gt 24, 3) := by decide +kernel
theorem dX9_leavesAt_11 : decode cX9_leavesAt 11 = .ok (.iload_n 3, 1) := by decide +kernel
theorem dX9_leavesAt_12 : decode cX9_leavesAt 12 = .ok (.aload_n 0, 1) := by decide +kernel
theorem dX9_leavesAt_13 : decode cX9_leavesAt 13 = .ok (.getfield 78, 3) := by decide +kernel
theorem dX9_leavesAt_16 : decode cX9_leavesAt 16 = .ok (.bipush 6, 2) := by decide +kernel
theorem dX9_leavesAt_18 : decode cX9_leavesAt 18 = .ok (.iload_n 1, 1) := by decide +kernel
theorem dX9_leavesAt_19 : decode cX9_leavesAt 19 = .ok (.imul, 1) := by decide +kernel
theorem dX9_leavesAt_20 : decode cX9_leavesAt 20 = .ok (.iload 4, 2) := by decide +kernel
theorem dX9_leavesAt_22 : decode cX9_leavesAt 22 = .ok (.iadd, 1) := by decide +kernel
theorem dX9_leavesAt_23 : decode cX9_leavesAt 23 = .ok (.iaload, 1) := by decide +kernel
theorem dX9_leavesAt_24 : decode cX9_leavesAt 24 = .ok (.iadd, 1) := by decide +kernel
theorem dX9_leavesAt_25 : decode cX9_leavesAt 25 = .ok (.istore_n 3, 1) := by decide +kernel
theorem dX9_leavesAt_26 : decode cX9_leavesAt 26 = .ok (.iinc 4 1, 3) := by decide +kernel
theorem dX9_leavesAt_29 : decode cX9_leavesAt 29 = .ok (.goto (-24), 3) := by decide +kernel
theorem dX9_leavesAt_32 : decode cX9_leavesAt 32 = .ok (.iload_n 3, 1) := by decide +kernel
theorem dX9_leavesAt_33 : decode cX9_leavesAt 33 = .ok (.ireturn, 1) := by decide +kernel
theorem dX9_in__0 : decode cX9_in_ 0 = .ok (.aload_n 0, 1) := by decide +kernel
theorem dX9_in__1 : decode cX9_in_ 1 = .ok (.iload_n 1, 1) := by decide +kernel
theorem dX9_in__2 : decode cX9_in_ 2 = .ok (.invokevirtual 149, 3) := by decide +kernel
theorem dX9_in__5 : decode cX9_in_ 5 = .ok (.ifCond .ne 5, 3) := by decide +kernel
theorem dX9_in__8 : decode cX9_in_ 8 = .ok (.iconst (-1), 1) := by decide +kernel
theorem dX9_in__9 : decode cX9_in_ 9 = .ok (.ireturn, 1) := by decide +kernel
theorem dX9_in__10 : decode cX9_in_ 10 = .ok (.iload_n 2, 1) := by decide +kernel
theorem dX9_in__11 : decode cX9_in_ 11 = .ok (.bipush 10, 2) := by decide +kernel
theorem dX9_in__13 : decode cX9_in_ 13 = .ok (.if_icmp .lt 75, 3) := by decide +kernel
theorem dX9_in__16 : decode cX9_in_ 16 = .ok (.iload_n 2, 1) := by decide +kernel
theorem dX9_in__17 : decode cX9_in_ 17 = .ok (.bipush 40, 2) := by decide +kernel
theorem dX9_in__19 : decode cX9_in_ 19 = .ok (.if_icmp .ge 69, 3) := by decide +kernel
theorem dX9_in__22 : decode cX9_in_ 22 = .ok (.iload_n 2, 1) := by decide +kernel
theorem dX9_in__23 : decode cX9_in_ 23 = .ok (.bipush 10, 2) := by decide +kernel
theorem dX9_in__25 : decode cX9_in_ 25 = .ok (.irem, 1) := by decide +kernel
theorem dX9_in__26 : decode cX9_in_ 26 = .ok (.istore_n 3, 1) := by decide +kernel
theorem dX9_in__27 : decode cX9_in_ 27 = .ok (.bipush 6, 2) := by decide +kernel
theorem dX9_in__29 : decode cX9_in_ 29 = .ok (.iload_n 1, 1) := by decide +kernel
theorem dX9_in__30 : decode cX9_in_ 30 = .ok (.imul, 1) := by decide +kernel
theorem dX9_in__31 : decode cX9_in_ 31 = .ok (.iload_n 3, 1) := by decide +kernel
theorem dX9_in__32 : decode cX9_in_ 32 = .ok (.iadd, 1) := by decide +kernel
theorem dX9_in__33 : decode cX9_in_ 33 = .ok (.istore 4, 2) := by decide +kernel
theorem dX9_in__35 : decode cX9_in_ 35 = .ok (.iload_n 3, 1) := by decide +kernel
theorem dX9_in__36 : decode cX9_in_ 36 = .ok (.aload_n 0, 1) := by decide +kernel
theorem dX9_in__37 : decode cX9_in_ 37 = .ok (.getfield 72, 3) := by decide +kernel
theorem dX9_in__40 : decode cX9_in_ 40 = .ok (.iload_n 1, 1) := by decide +kernel
theorem dX9_in__41 : decode cX9_in_ 41 = .ok (.iaload, 1) := by decide +kernel
theorem dX9_in__42 : decode cX9_in_ 42 = .ok (.if_icmp .lt 7, 3) := by decide +kernel
theorem dX9_in__45 : decode cX9_in_ 45 = .ok (.iconst (-1), 1) := by decide +kernel
theorem dX9_in__46 : decode cX9_in_ 46 = .ok (.goto 41, 3) := by decide +kernel
theorem dX9_in__49 : decode cX9_in_ 49 = .ok (.iload_n 2, 1) := by decide +kernel
theorem dX9_in__50 : decode cX9_in_ 50 = .ok (.bipush 20, 2) := by decide +kernel
theorem dX9_in__52 : decode cX9_in_ 52 = .ok (.if_icmp .ge 13, 3) := by decide +kernel
theorem dX9_in__55 : decode cX9_in_ 55 = .ok (.aload_n 0, 1) := by decide +kernel
theorem dX9_in__56 : decode cX9_in_ 56 = .ok (.getfield 75, 3) := by decide +kernel
theorem dX9_in__59 : decode cX9_in_ 59 = .ok (.iload 4, 2) := by decide +kernel
theorem dX9_in__61 : decode cX9_in_ 61 = .ok (.iaload, 1) := by decide +kernel
theorem dX9_in__62 : decode cX9_in_ 62 = .ok (.goto 25, 3) := by decide +kernel
theorem dX9_in__65 : decode cX9_in_ 65 = .ok (.iload_n 2, 1) := by decide +kernel
theorem dX9_in__66 : decode cX9_in_ 66 = .ok (.bipush 30, 2) := by decide +kernel
theorem dX9_in__68 : decode cX9_in_ 68 = .ok (.if_icmp .ge 13, 3) := by decide +kernel
theorem dX9_in__71 : decode cX9_in_ 71 = .ok (.aload_n 0, 1) := by decide +kernel
theorem dX9_in__72 : decode cX9_in_ 72 = .ok (.getfield 78, 3) := by decide +kernel
theorem dX9_in__75 : decode cX9_in_ 75 = .ok (.iload 4, 2) := by decide +kernel
theorem dX9_in__77 : decode cX9_in_ 77 = .ok (.iaload, 1) := by decide +kernel
theorem dX9_in__78 : decode cX9_in_ 78 = .ok (.goto 9, 3) := by decide +kernel
theorem dX9_in__81 : decode cX9_in_ 81 = .ok (.aload_n 0, 1) := by decide +kernel
theorem dX9_in__82 : decode cX9_in_ 82 = .ok (.iload_n 1, 1) := by decide +kernel
theorem dX9_in__83 : decode cX9_in_ 83 = .ok (.iload_n 3, 1) := by decide +kernel
theorem dX9_in__84 : decode cX9_in_ 84 = .ok (.invokevirtual 232, 3) := by decide +kernel
theorem dX9_in__87 : decode cX9_in_ 87 = .ok (.ireturn, 1) := by decide +kernel
theorem dX9_in__88 : decode cX9_in_ 88 = .ok (.iload_n 2, 1) := by decide +kernel
theorem dX9_in__89 : decode cX9_in_ 89 = .ok (.tableswitch 67 0 3 #[31, 38, 45, 52], 31) := by decide +kernel
theorem dX9_in__120 : decode cX9_in_ 120 = .ok (.aload_n 0, 1) := by decide +kernel
theorem dX9_in__121 : decode cX9_in_ 121 = .ok (.getfield 69, 3) := by decide +kernel
theorem dX9_in__124 : decode cX9_in_ 124 = .ok (.iload_n 1, 1) := by decide +kernel
theorem dX9_in__125 : decode cX9_in_ 125 = .ok (.iaload, 1) := by decide +kernel
theorem dX9_in__126 : decode cX9_in_ 126 = .ok (.ireturn, 1) := by decide +kernel
theorem dX9_in__127 : decode cX9_in_ 127 = .ok (.aload_n 0, 1) := by decide +kernel
theorem dX9_in__128 : decode cX9_in_ 128 = .ok (.getfield 72, 3) := by decide +kernel
theorem dX9_in__131 : decode cX9_in_ 131 = .ok (.iload_n 1, 1) := by decide +kernel
theorem dX9_in__132 : decode cX9_in_ 132 = .ok (.iaload, 1) := by decide +kernel
theorem dX9_in__133 : decode cX9_in_ 133 = .ok (.ireturn, 1) := by decide +kernel
theorem dX9_in__134 : decode cX9_in_ 134 = .ok (.aload_n 0, 1) := by decide +kernel
theorem dX9_in__135 : decode cX9_in_ 135 = .ok (.getfield 81, 3) := by decide +kernel
theorem dX9_in__138 : decode cX9_in_ 138 = .ok (.iload_n 1, 1) := by decide +kernel
theorem dX9_in__139 : decode cX9_in_ 139 = .ok (.iaload, 1) := by decide +kernel
theorem dX9_in__140 : decode cX9_in_ 140 = .ok (.ireturn, 1) := by decide +kernel
theorem dX9_in__141 : decode cX9_in_ 141 = .ok (.aload_n 0, 1) := by decide +kernel
theorem dX9_in__142 : decode cX9_in_ 142 = .ok (.getfield 84, 3) := by decide +kernel
theorem dX9_in__145 : decode cX9_in_ 145 = .ok (.iload_n 1, 1) := by decide +kernel
theorem dX9_in__146 : decode cX9_in_ 146 = .ok (.baload, 1) := by decide +kernel
theorem dX9_in__147 : decode cX9_in_ 147 = .ok (.ifCond .eq 7, 3) := by decide +kernel
theorem dX9_in__150 : decode cX9_in_ 150 = .ok (.iconst 1, 1) := by decide +kernel
theorem dX9_in__151 : decode cX9_in_ 151 = .ok (.goto 4, 3) := by decide +kernel
theorem dX9_in__154 : decode cX9_in_ 154 = .ok (.iconst 0, 1) := by decide +kernel
theorem dX9_in__155 : decode cX9_in_ 155 = .ok (.ireturn, 1) := by decide +kernel
theorem dX9_in__156 : decode cX9_in_ 156 = .ok (.iconst (-1), 1) := by decide +kernel
theorem dX9_in__157 : decode cX9_in_ 157 = .ok (.ireturn, 1) := by decide +kernel
theorem dX9_takePlane_0 : decode cX9_takePlane 0 = .ok (.aload_n 0, 1) := by decide +kernel
theorem dX9_takePlane_1 : decode cX9_takePlane 1 = .ok (.aload_n 0, 1) := by decide +kernel
theorem dX9_takePlane_2 : decode cX9_takePlane 2 = .ok (.getfield 60, 3) := by decide +kernel
theorem dX9_takePlane_5 : decode cX9_takePlane 5 = .ok (.iload_n 1, 1) := by decide +kernel
theorem dX9_takePlane_6 : decode cX9_takePlane 6 = .ok (.iaload, 1) := by decide +kernel
theorem dX9_takePlane_7 : decode cX9_takePlane 7 = .ok (.putfield 235, 3) := by decide +kernel
theorem dX9_takePlane_10 : decode cX9_takePlane 10 = .ok (.aload_n 0, 1) := by decide +kernel
theorem dX9_takePlane_11 : decode cX9_takePlane 11 = .ok (.aload_n 0, 1) := by decide +kernel
theorem dX9_takePlane_12 : decode cX9_takePlane 12 = .ok (.getfield 63, 3) := by decide +kernel
theorem dX9_takePlane_15 : decode cX9_takePlane 15 = .ok (.iload_n 1, 1) := by decide +kernel
theorem dX9_takePlane_16 : decode cX9_takePlane 16 = .ok (.iaload, 1) := by decide +kernel
theorem dX9_takePlane_17 : decode cX9_takePlane 17 = .ok (.putfield 238, 3) := by decide +kernel
theorem dX9_takePlane_20 : decode cX9_takePlane 20 = .ok (.iconst 0, 1) := by decide +kernel
theorem dX9_takePlane_21 : decode cX9_takePlane 21 = .ok (.istore_n 2, 1) := by decide +kernel
theorem dX9_takePlane_22 : decode cX9_takePlane 22 = .ok (.iload_n 2, 1) := by decide +kernel
theorem dX9_takePlane_23 : decode cX9_takePlane 23 = .ok (.bipush 12, 2) := by decide +kernel
theorem dX9_takePlane_25 : decode cX9_takePlane 25 = .ok (.if_icmp .ge 33, 3) := by decide +kernel
theorem dX9_takePlane_28 : decode cX9_takePlane 28 = .ok (.aload_n 0, 1) := by decide +kernel
theorem dX9_takePlane_29 : decode cX9_takePlane 29 = .ok (.getfield 99, 3) := by decide +kernel
theorem dX9_takePlane_32 : decode cX9_takePlane 32 = .ok (.iload_n 2, 1) := by decide +kernel
theorem dX9_takePlane_33 : decode cX9_takePlane 33 = .ok (.aload_n 0, 1) := by decide +kernel
theorem dX9_takePlane_34 : decode cX9_takePlane 34 = .ok (.getfield 21, 3) := by decide +kernel
theorem dX9_takePlane_37 : decode cX9_takePlane 37 = .ok (.iload_n 2, 1) := by decide +kernel
theorem dX9_takePlane_38 : decode cX9_takePlane 38 = .ok (.iaload, 1) := by decide +kernel
theorem dX9_takePlane_39 : decode cX9_takePlane 39 = .ok (.iastore, 1) := by decide +kernel
theorem dX9_takePlane_40 : decode cX9_takePlane 40 = .ok (.aload_n 0, 1) := by decide +kernel
theorem dX9_takePlane_41 : decode cX9_takePlane 41 = .ok (.getfield 102, 3) := by decide +kernel
theorem dX9_takePlane_44 : decode cX9_takePlane 44 = .ok (.iload_n 2, 1) := by decide +kernel
theorem dX9_takePlane_45 : decode cX9_takePlane 45 = .ok (.aload_n 0, 1) := by decide +kernel
theorem dX9_takePlane_46 : decode cX9_takePlane 46 = .ok (.getfield 24, 3) := by decide +kernel
theorem dX9_takePlane_49 : decode cX9_takePlane 49 = .ok (.iload_n 2, 1) := by decide +kernel
theorem dX9_takePlane_50 : decode cX9_takePlane 50 = .ok (.iaload, 1) := by decide +kernel
theorem dX9_takePlane_51 : decode cX9_takePlane 51 = .ok (.iastore, 1) := by decide +kernel
theorem dX9_takePlane_52 : decode cX9_takePlane 52 = .ok (.iinc 2 1, 3) := by decide +kernel
theorem dX9_takePlane_55 : decode cX9_takePlane 55 = .ok (.goto (-33), 3) := by decide +kernel
theorem dX9_takePlane_58 : decode cX9_takePlane 58 = .ok (.return_, 1) := by decide +kernel
theorem dX9_takeLoad_0 : decode cX9_takeLoad 0 = .ok (.aload_n 0, 1) := by decide +kernel
theorem dX9_takeLoad_1 : decode cX9_takeLoad 1 = .ok (.aload_n 0, 1) := by decide +kernel
theorem dX9_takeLoad_2 : decode cX9_takeLoad 2 = .ok (.getfield 69, 3) := by decide +kernel
theorem dX9_takeLoad_5 : decode cX9_takeLoad 5 = .ok (.iload_n 1, 1) := by decide +kernel
theorem dX9_takeLoad_6 : decode cX9_takeLoad 6 = .ok (.iaload, 1) := by decide +kernel
theorem dX9_takeLoad_7 : decode cX9_takeLoad 7 = .ok (.invokevirtual 241, 3) := by decide +kernel
theorem dX9_takeLoad_10 : decode cX9_takeLoad 10 = .ok (.aload_n 0, 1) := by decide +kernel
theorem dX9_takeLoad_11 : decode cX9_takeLoad 11 = .ok (.getfield 84, 3) := by decide +kernel
theorem dX9_takeLoad_14 : decode cX9_takeLoad 14 = .ok (.iload_n 1, 1) := by decide +kernel
theorem dX9_takeLoad_15 : decode cX9_takeLoad 15 = .ok (.baload, 1) := by decide +kernel
theorem dX9_takeLoad_16 : decode cX9_takeLoad 16 = .ok (.ifCond .eq 71, 3) := by decide +kernel
theorem dX9_takeLoad_19 : decode cX9_takeLoad 19 = .ok (.aload_n 0, 1) := by decide +kernel
theorem dX9_takeLoad_20 : decode cX9_takeLoad 20 = .ok (.aload_n 0, 1) := by decide +kernel
theorem dX9_takeLoad_21 : decode cX9_takeLoad 21 = .ok (.getfield 93, 3) := by decide +kernel
theorem dX9_takeLoad_24 : decode cX9_takeLoad 24 = .ok (.iload_n 1, 1) := by decide +kernel
theorem dX9_takeLoad_25 : decode cX9_takeLoad 25 = .ok (.iaload, 1) := by decide +kernel
theorem dX9_takeLoad_26 : decode cX9_takeLoad 26 = .ok (.putfield 235, 3) := by decide +kernel
theorem dX9_takeLoad_29 : decode cX9_takeLoad 29 = .ok (.aload_n 0, 1) := by decide +kernel
theorem dX9_takeLoad_30 : decode cX9_takeLoad 30 = .ok (.aload_n 0, 1) := by decide +kernel
theorem dX9_takeLoad_31 : decode cX9_takeLoad 31 = .ok (.getfield 96, 3) := by decide +kernel
theorem dX9_takeLoad_34 : decode cX9_takeLoad 34 = .ok (.iload_n 1, 1) := by decide +kernel
theorem dX9_takeLoad_35 : decode cX9_takeLoad 35 = .ok (.iaload, 1) := by decide +kernel
theorem dX9_takeLoad_36 : decode cX9_takeLoad 36 = .ok (.putfield 238, 3) := by decide +kernel
theorem dX9_takeLoad_39 : decode cX9_takeLoad 39 = .ok (.iconst 0, 1) := by decide +kernel
theorem dX9_takeLoad_40 : decode cX9_takeLoad 40 = .ok (.istore_n 2, 1) := by decide +kernel
theorem dX9_takeLoad_41 : decode cX9_takeLoad 41 = .ok (.iload_n 2, 1) := by decide +kernel
theorem dX9_takeLoad_42 : decode cX9_takeLoad 42 = .ok (.bipush 12, 2) := by decide +kernel
theorem dX9_takeLoad_44 : decode cX9_takeLoad 44 = .ok (.if_icmp .ge 43, 3) := by decide +kernel
theorem dX9_takeLoad_47 : decode cX9_takeLoad 47 = .ok (.aload_n 0, 1) := by decide +kernel
theorem dX9_takeLoad_48 : decode cX9_takeLoad 48 = .ok (.getfield 99, 3) := by decide +kernel
theorem dX9_takeLoad_51 : decode cX9_takeLoad 51 = .ok (.iload_n 2, 1) := by decide +kernel
theorem dX9_takeLoad_52 : decode cX9_takeLoad 52 = .ok (.aload_n 0, 1) := by decide +kernel
theorem dX9_takeLoad_53 : decode cX9_takeLoad 53 = .ok (.getfield 87, 3) := by decide +kernel
theorem dX9_takeLoad_56 : decode cX9_takeLoad 56 = .ok (.bipush 12, 2) := by decide +kernel
theorem dX9_takeLoad_58 : decode cX9_takeLoad 58 = .ok (.iload_n 1, 1) := by decide +kernel
theorem dX9_takeLoad_59 : decode cX9_takeLoad 59 = .ok (.imul, 1) := by decide +kernel
theorem dX9_takeLoad_60 : decode cX9_takeLoad 60 = .ok (.iload_n 2, 1) := by decide +kernel
theorem dX9_takeLoad_61 : decode cX9_takeLoad 61 = .ok (.iadd, 1) := by decide +kernel
theorem dX9_takeLoad_62 : decode cX9_takeLoad 62 = .ok (.iaload, 1) := by decide +kernel
theorem dX9_takeLoad_63 : decode cX9_takeLoad 63 = .ok (.iastore, 1) := by decide +kernel
theorem dX9_takeLoad_64 : decode cX9_takeLoad 64 = .ok (.aload_n 0, 1) := by decide +kernel
theorem dX9_takeLoad_65 : decode cX9_takeLoad 65 = .ok (.getfield 102, 3) := by decide +kernel
theorem dX9_takeLoad_68 : decode cX9_takeLoad 68 = .ok (.iload_n 2, 1) := by decide +kernel
theorem dX9_takeLoad_69 : decode cX9_takeLoad 69 = .ok (.aload_n 0, 1) := by decide +kernel
theorem dX9_takeLoad_70 : decode cX9_takeLoad 70 = .ok (.getfield 90, 3) := by decide +kernel
theorem dX9_takeLoad_73 : decode cX9_takeLoad 73 = .ok (.bipush 12, 2) := by decide +kernel
theorem dX9_takeLoad_75 : decode cX9_takeLoad 75 = .ok (.iload_n 1, 1) := by decide +kernel
theorem dX9_takeLoad_76 : decode cX9_takeLoad 76 = .ok (.imul, 1) := by decide +kernel
theorem dX9_takeLoad_77 : decode cX9_takeLoad 77 = .ok (.iload_n 2, 1) := by decide +kernel
theorem dX9_takeLoad_78 : decode cX9_takeLoad 78 = .ok (.iadd, 1) := by decide +kernel
theorem dX9_takeLoad_79 : decode cX9_takeLoad 79 = .ok (.iaload, 1) := by decide +kernel
theorem dX9_takeLoad_80 : decode cX9_takeLoad 80 = .ok (.iastore, 1) := by decide +kernel
theorem dX9_takeLoad_81 : decode cX9_takeLoad 81 = .ok (.iinc 2 1, 3) := by decide +kernel
theorem dX9_takeLoad_84 : decode cX9_takeLoad 84 = .ok (.goto (-43), 3) := by decide +kernel
theorem dX9_takeLoad_87 : decode cX9_takeLoad 87 = .ok (.return_, 1) := by decide +kernel
theorem dX9_least_0 : decode cX9_least 0 = .ok (.iload_n 0, 1) := by decide +kernel
theorem dX9_least_1 : decode cX9_least 1 = .ok (.iload_n 1, 1) := by decide +kernel
theorem dX9_least_2 : decode cX9_least 2 = .ok (.if_icmp .ge 7, 3) := by decide +kernel
theorem dX9_least_5 : decode cX9_least 5 = .ok (.iload_n 0, 1) := by decide +kernel
theorem dX9_least_6 : decode cX9_least 6 = .ok (.goto 4, 3) := by decide +kernel
theorem dX9_least_9 : decode cX9_least 9 = .ok (.iload_n 1, 1) := by decide +kernel
theorem dX9_least_10 : decode cX9_least 10 = .ok (.ireturn, 1) := by decide +kernel
theorem dX9_layOut_0 : decode cX9_layOut 0 = .ok (.sipush 1001, 3) := by decide +kernel
theorem dX9_layOut_3 : decode cX9_layOut 3 = .ok (.iload_n 2, 1) := by decide +kernel
theorem dX9_layOut_4 : decode cX9_layOut 4 = .ok (.imul, 1) := by decide +kernel
theorem dX9_layOut_5 : decode cX9_layOut 5 = .ok (.istore_n 3, 1) := by decide +kernel
theorem dX9_layOut_6 : decode cX9_layOut 6 = .ok (.aload_n 0, 1) := by decide +kernel
theorem dX9_layOut_7 : decode cX9_layOut 7 = .ok (.getfield 105, 3) := by decide +kernel
theorem dX9_layOut_10 : decode cX9_layOut 10 = .ok (.iload_n 3, 1) := by decide +kernel
theorem dX9_layOut_11 : decode cX9_layOut 11 = .ok (.iconst 0, 1) := by decide +kernel
theorem dX9_layOut_12 : decode cX9_layOut 12 = .ok (.iastore, 1) := by decide +kernel
theorem dX9_layOut_13 : decode cX9_layOut 13 = .ok (.aload_n 0, 1) := by decide +kernel
theorem dX9_layOut_14 : decode cX9_layOut 14 = .ok (.getfield 108, 3) := by decide +kernel
theorem dX9_layOut_17 : decode cX9_layOut 17 = .ok (.iload_n 3, 1) := by decide +kernel
theorem dX9_layOut_18 : decode cX9_layOut 18 = .ok (.iconst 0, 1) := by decide +kernel
theorem dX9_layOut_19 : decode cX9_layOut 19 = .ok (.iastore, 1) := by decide +kernel
theorem dX9_layOut_20 : decode cX9_layOut 20 = .ok (.aload_n 0, 1) := by decide +kernel
theorem dX9_layOut_21 : decode cX9_layOut 21 = .ok (.getfield 111, 3) := by decide +kernel
theorem dX9_layOut_24 : decode cX9_layOut 24 = .ok (.iload_n 3, 1) := by decide +kernel
theorem dX9_layOut_25 : decode cX9_layOut 25 = .ok (.aload_n 0, 1) := by decide +kernel
theorem dX9_layOut_26 : decode cX9_layOut 26 = .ok (.getfield 238, 3) := by decide +kernel
theorem dX9_layOut_29 : decode cX9_layOut 29 = .ok (.iastore, 1) := by decide +kernel
theorem dX9_layOut_30 : decode cX9_layOut 30 = .ok (.aload_n 0, 1) := by decide +kernel
theorem dX9_layOut_31 : decode cX9_layOut 31 = .ok (.getfield 114, 3) := by decide +kernel
theorem dX9_layOut_34 : decode cX9_layOut 34 = .ok (.iload_n 3, 1) := by decide +kernel
theorem dX9_layOut_35 : decode cX9_layOut 35 = .ok (.iconst 1, 1) := by decide +kernel
theorem dX9_layOut_36 : decode cX9_layOut 36 = .ok (.iastore, 1) := by decide +kernel
theorem dX9_layOut_37 : decode cX9_layOut 37 = .ok (.aload_n 0, 1) := by decide +kernel
theorem dX9_layOut_38 : decode cX9_layOut 38 = .ok (.getfield 117, 3) := by decide +kernel
theorem dX9_layOut_41 : decode cX9_layOut 41 = .ok (.iload_n 2, 1) := by decide +kernel
theorem dX9_layOut_42 : decode cX9_layOut 42 = .ok (.iconst (-1), 1) := by decide +kernel
theorem dX9_layOut_43 : decode cX9_layOut 43 = .ok (.iastore, 1) := by decide +kernel
theorem dX9_layOut_44 : decode cX9_layOut 44 = .ok (.aload_n 0, 1) := by decide +kernel
theorem dX9_layOut_45 : decode cX9_layOut 45 = .ok (.getfield 120, 3) := by decide +kernel
theorem dX9_layOut_48 : decode cX9_layOut 48 = .ok (.iload_n 2, 1) := by decide +kernel
theorem dX9_layOut_49 : decode cX9_layOut 49 = .ok (.iconst 0, 1) := by decide +kernel
theorem dX9_layOut_50 : decode cX9_layOut 50 = .ok (.iastore, 1) := by decide +kernel
theorem dX9_layOut_51 : decode cX9_layOut 51 = .ok (.iconst 0, 1) := by decide +kernel
theorem dX9_layOut_52 : decode cX9_layOut 52 = .ok (.istore 4, 2) := by decide +kernel
theorem dX9_layOut_54 : decode cX9_layOut 54 = .ok (.iload 4, 2) := by decide +kernel
theorem dX9_layOut_56 : decode cX9_layOut 56 = .ok (.sipush 1000, 3) := by decide +kernel
theorem dX9_layOut_59 : decode cX9_layOut 59 = .ok (.if_icmp .ge 243, 3) := by decide +kernel
theorem dX9_layOut_62 : decode cX9_layOut 62 = .ok (.iload_n 3, 1) := by decide +kernel
theorem dX9_layOut_63 : decode cX9_layOut 63 = .ok (.iload 4, 2) := by decide +kernel
theorem dX9_layOut_65 : decode cX9_layOut 65 = .ok (.iadd, 1) := by decide +kernel
theorem dX9_layOut_66 : decode cX9_layOut 66 = .ok (.istore 5, 2) := by decide +kernel
theorem dX9_layOut_68 : decode cX9_layOut 68 = .ok (.aload_n 0, 1) := by decide +kernel
theorem dX9_layOut_69 : decode cX9_layOut 69 = .ok (.getfield 111, 3) := by decide +kernel
theorem dX9_layOut_72 : decode cX9_layOut 72 = .ok (.iload 5, 2) := by decide +kernel
theorem dX9_layOut_74 : decode cX9_layOut 74 = .ok (.iaload, 1) := by decide +kernel
theorem dX9_layOut_75 : decode cX9_layOut 75 = .ok (.sipush 4000, 3) := by decide +kernel
theorem dX9_layOut_78 : decode cX9_layOut 78 = .ok (.idiv, 1) := by decide +kernel
theorem dX9_layOut_79 : decode cX9_layOut 79 = .ok (.istore 6, 2) := by decide +kernel
theorem dX9_layOut_81 : decode cX9_layOut 81 = .ok (.aload_n 0, 1) := by decide +kernel
theorem dX9_layOut_82 : decode cX9_layOut 82 = .ok (.getfield 105, 3) := by decide +kernel
theorem dX9_layOut_85 : decode cX9_layOut 85 = .ok (.iload 5, 2) := by decide +kernel
theorem dX9_layOut_87 : decode cX9_layOut 87 = .ok (.iconst 1, 1) := by decide +kernel
theorem dX9_layOut_88 : decode cX9_layOut 88 = .ok (.iadd, 1) := by decide +kernel
theorem dX9_layOut_89 : decode cX9_layOut 89 = .ok (.aload_n 0, 1) := by decide +kernel
theorem dX9_layOut_90 : decode cX9_layOut 90 = .ok (.getfield 105, 3) := by decide +kernel
theorem dX9_layOut_93 : decode cX9_layOut 93 = .ok (.iload 5, 2) := by decide +kernel
theorem dX9_layOut_95 : decode cX9_layOut 95 = .ok (.iaload, 1) := by decide +kernel
theorem dX9_layOut_96 : decode cX9_layOut 96 = .ok (.iastore, 1) := by decide +kernel
theorem dX9_layOut_97 : decode cX9_layOut 97 = .ok (.aload_n 0, 1) := by decide +kernel
theorem dX9_layOut_98 : decode cX9_layOut 98 = .ok (.getfield 108, 3) := by decide +kernel
theorem dX9_layOut_101 : decode cX9_layOut 101 = .ok (.iload 5, 2) := by decide +kernel
theorem dX9_layOut_103 : decode cX9_layOut 103 = .ok (.iconst 1, 1) := by decide +kernel
theorem dX9_layOut_104 : decode cX9_layOut 104 = .ok (.iadd, 1) := by decide +kernel
theorem dX9_layOut_105 : decode cX9_layOut 105 = .ok (.aload_n 0, 1) := by decide +kernel
theorem dX9_layOut_106 : decode cX9_layOut 106 = .ok (.getfield 108, 3) := by decide +kernel
theorem dX9_layOut_109 : decode cX9_layOut 109 = .ok (.iload 5, 2) := by decide +kernel
theorem dX9_layOut_111 : decode cX9_layOut 111 = .ok (.iaload, 1) := by decide +kernel
theorem dX9_layOut_112 : decode cX9_layOut 112 = .ok (.iastore, 1) := by decide +kernel
theorem dX9_layOut_113 : decode cX9_layOut 113 = .ok (.aload_n 0, 1) := by decide +kernel
theorem dX9_layOut_114 : decode cX9_layOut 114 = .ok (.getfield 111, 3) := by decide +kernel
theorem dX9_layOut_117 : decode cX9_layOut 117 = .ok (.iload 5, 2) := by decide +kernel
theorem dX9_layOut_119 : decode cX9_layOut 119 = .ok (.iconst 1, 1) := by decide +kernel
theorem dX9_layOut_120 : decode cX9_layOut 120 = .ok (.iadd, 1) := by decide +kernel
theorem dX9_layOut_121 : decode cX9_layOut 121 = .ok (.aload_n 0, 1) := by decide +kernel
theorem dX9_layOut_122 : decode cX9_layOut 122 = .ok (.getfield 111, 3) := by decide +kernel
theorem dX9_layOut_125 : decode cX9_layOut 125 = .ok (.iload 5, 2) := by decide +kernel
theorem dX9_layOut_127 : decode cX9_layOut 127 = .ok (.iaload, 1) := by decide +kernel
theorem dX9_layOut_128 : decode cX9_layOut 128 = .ok (.iastore, 1) := by decide +kernel
theorem dX9_layOut_129 : decode cX9_layOut 129 = .ok (.aload_n 0, 1) := by decide +kernel
theorem dX9_layOut_130 : decode cX9_layOut 130 = .ok (.getfield 114, 3) := by decide +kernel
theorem dX9_layOut_133 : decode cX9_layOut 133 = .ok (.iload 5, 2) := by decide +kernel
theorem dX9_layOut_135 : decode cX9_layOut 135 = .ok (.iconst 1, 1) := by decide +kernel
theorem dX9_layOut_136 : decode cX9_layOut 136 = .ok (.iadd, 1) := by decide +kernel
theorem dX9_layOut_137 : decode cX9_layOut 137 = .ok (.aload_n 0, 1) := by decide +kernel
theorem dX9_layOut_138 : decode cX9_layOut 138 = .ok (.getfield 114, 3) := by decide +kernel
theorem dX9_layOut_141 : decode cX9_layOut 141 = .ok (.iload 5, 2) := by decide +kernel
theorem dX9_layOut_143 : decode cX9_layOut 143 = .ok (.iaload, 1) := by decide +kernel
theorem dX9_layOut_144 : decode cX9_layOut 144 = .ok (.iastore, 1) := by decide +kernel
theorem dX9_layOut_145 : decode cX9_layOut 145 = .ok (.aload_n 0, 1) := by decide +kernel
theorem dX9_layOut_146 : decode cX9_layOut 146 = .ok (.getfield 114, 3) := by decide +kernel
theorem dX9_layOut_149 : decode cX9_layOut 149 = .ok (.iload 5, 2) := by decide +kernel
theorem dX9_layOut_151 : decode cX9_layOut 151 = .ok (.iaload, 1) := by decide +kernel
theorem dX9_layOut_152 : decode cX9_layOut 152 = .ok (.iconst 3, 1) := by decide +kernel
theorem dX9_layOut_153 : decode cX9_layOut 153 = .ok (.if_icmp .ge 41, 3) := by decide +kernel
theorem dX9_layOut_156 : decode cX9_layOut 156 = .ok (.aload_n 0, 1) := by decide +kernel
theorem dX9_layOut_157 : decode cX9_layOut 157 = .ok (.getfield 105, 3) := by decide +kernel
theorem dX9_layOut_160 : decode cX9_layOut 160 = .ok (.iload 5, 2) := by decide +kernel
theorem dX9_layOut_162 : decode cX9_layOut 162 = .ok (.iconst 1, 1) := by decide +kernel
theorem dX9_layOut_163 : decode cX9_layOut 163 = .ok (.iadd, 1) := by decide +kernel
theorem dX9_layOut_164 : decode cX9_layOut 164 = .ok (.dup2, 1) := by decide +kernel
theorem dX9_layOut_165 : decode cX9_layOut 165 = .ok (.iaload, 1) := by decide +kernel
theorem dX9_layOut_166 : decode cX9_layOut 166 = .ok (.aload_n 0, 1) := by decide +kernel
theorem dX9_layOut_167 : decode cX9_layOut 167 = .ok (.getfield 99, 3) := by decide +kernel
theorem dX9_layOut_170 : decode cX9_layOut 170 = .ok (.iload 6, 2) := by decide +kernel
theorem dX9_layOut_172 : decode cX9_layOut 172 = .ok (.iaload, 1) := by decide +kernel
theorem dX9_layOut_173 : decode cX9_layOut 173 = .ok (.iadd, 1) := by decide +kernel
theorem dX9_layOut_174 : decode cX9_layOut 174 = .ok (.iastore, 1) := by decide +kernel
theorem dX9_layOut_175 : decode cX9_layOut 175 = .ok (.aload_n 0, 1) := by decide +kernel
theorem dX9_layOut_176 : decode cX9_layOut 176 = .ok (.getfield 108, 3) := by decide +kernel
theorem dX9_layOut_179 : decode cX9_layOut 179 = .ok (.iload 5, 2) := by decide +kernel
theorem dX9_layOut_181 : decode cX9_layOut 181 = .ok (.iconst 1, 1) := by decide +kernel
theorem dX9_layOut_182 : decode cX9_layOut 182 = .ok (.iadd, 1) := by decide +kernel
theorem dX9_layOut_183 : decode cX9_layOut 183 = .ok (.dup2, 1) := by decide +kernel
theorem dX9_layOut_184 : decode cX9_layOut 184 = .ok (.iaload, 1) := by decide +kernel
theorem dX9_layOut_185 : decode cX9_layOut 185 = .ok (.aload_n 0, 1) := by decide +kernel
theorem dX9_layOut_186 : decode cX9_layOut 186 = .ok (.getfield 102, 3) := by decide +kernel
theorem dX9_layOut_189 : decode cX9_layOut 189 = .ok (.iload 6, 2) := by decide +kernel
theorem dX9_layOut_191 : decode cX9_layOut 191 = .ok (.iaload, 1) := by decide +kernel
theorem dX9_layOut_192 : decode cX9_layOut 192 = .ok (.iadd, 1) := by decide +kernel
theorem dX9_layOut_193 : decode cX9_layOut 193 = .ok (.iastore, 1) := by decide +kernel
theorem dX9_layOut_194 : decode cX9_layOut 194 = .ok (.aload_n 0, 1) := by decide +kernel
theorem dX9_layOut_195 : decode cX9_layOut 195 = .ok (.getfield 114, 3) := by decide +kernel
theorem dX9_layOut_198 : decode cX9_layOut 198 = .ok (.iload 5, 2) := by decide +kernel
theorem dX9_layOut_200 : decode cX9_layOut 200 = .ok (.iaload, 1) := by decide +kernel
theorem dX9_layOut_201 : decode cX9_layOut 201 = .ok (.iconst 1, 1) := by decide +kernel
theorem dX9_layOut_202 : decode cX9_layOut 202 = .ok (.if_icmp .ne 17, 3) := by decide +kernel
theorem dX9_layOut_205 : decode cX9_layOut 205 = .ok (.aload_n 0, 1) := by decide +kernel
theorem dX9_layOut_206 : decode cX9_layOut 206 = .ok (.iload_n 1, 1) := by decide +kernel
theorem dX9_layOut_207 : decode cX9_layOut 207 = .ok (.iload 4, 2) := by decide +kernel
theorem dX9_layOut_209 : decode cX9_layOut 209 = .ok (.iload 5, 2) := by decide +kernel
theorem dX9_layOut_211 : decode cX9_layOut 211 = .ok (.iconst 1, 1) := by decide +kernel
theorem dX9_layOut_212 : decode cX9_layOut 212 = .ok (.iadd, 1) := by decide +kernel
theorem dX9_layOut_213 : decode cX9_layOut 213 = .ok (.invokevirtual 245, 3) := by decide +kernel
theorem dX9_layOut_216 : decode cX9_layOut 216 = .ok (.goto 80, 3) := by decide +kernel
theorem dX9_layOut_219 : decode cX9_layOut 219 = .ok (.aload_n 0, 1) := by decide +kernel
theorem dX9_layOut_220 : decode cX9_layOut 220 = .ok (.getfield 114, 3) := by decide +kernel
theorem dX9_layOut_223 : decode cX9_layOut 223 = .ok (.iload 5, 2) := by decide +kernel
theorem dX9_layOut_225 : decode cX9_layOut 225 = .ok (.iaload, 1) := by decide +kernel
theorem dX9_layOut_226 : decode cX9_layOut 226 = .ok (.iconst 2, 1) := by decide +kernel
theorem dX9_layOut_227 : decode cX9_layOut 227 = .ok (.if_icmp .ne 69, 3) := by decide +kernel
theorem dX9_layOut_230 : decode cX9_layOut 230 = .ok (.aload_n 0, 1) := by decide +kernel
theorem dX9_layOut_231 : decode cX9_layOut 231 = .ok (.getfield 120, 3) := by decide +kernel
theorem dX9_layOut_234 : decode cX9_layOut 234 = .ok (.iload_n 2, 1) := by decide +kernel
theorem dX9_layOut_235 : decode cX9_layOut 235 = .ok (.dup2, 1) := by decide +kernel
theorem dX9_layOut_236 : decode cX9_layOut 236 = .ok (.iaload, 1) := by decide +kernel
theorem dX9_layOut_237 : decode cX9_layOut 237 = .ok (.iconst 1, 1) := by decide +kernel
theorem dX9_layOut_238 : decode cX9_layOut 238 = .ok (.iadd, 1) := by decide +kernel
theorem dX9_layOut_239 : decode cX9_layOut 239 = .ok (.iastore, 1) := by decide +kernel
theorem dX9_layOut_240 : decode cX9_layOut 240 = .ok (.aload_n 0, 1) := by decide +kernel
theorem dX9_layOut_241 : decode cX9_layOut 241 = .ok (.getfield 111, 3) := by decide +kernel
theorem dX9_layOut_244 : decode cX9_layOut 244 = .ok (.iload 5, 2) := by decide +kernel
theorem dX9_layOut_246 : decode cX9_layOut 246 = .ok (.iconst 1, 1) := by decide +kernel
theorem dX9_layOut_247 : decode cX9_layOut 247 = .ok (.iadd, 1) := by decide +kernel
theorem dX9_layOut_248 : decode cX9_layOut 248 = .ok (.dup2, 1) := by decide +kernel
theorem dX9_layOut_249 : decode cX9_layOut 249 = .ok (.iaload, 1) := by decide +kernel
theorem dX9_layOut_250 : decode cX9_layOut 250 = .ok (.bipush 50, 2) := by decide +kernel
theorem dX9_layOut_252 : decode cX9_layOut 252 = .ok (.isub, 1) := by decide +kernel
theorem dX9_layOut_253 : decode cX9_layOut 253 = .ok (.iastore, 1) := by decide +kernel
theorem dX9_layOut_254 : decode cX9_layOut 254 = .ok (.aload_n 0, 1) := by decide +kernel
theorem dX9_layOut_255 : decode cX9_layOut 255 = .ok (.getfield 111, 3) := by decide +kernel
theorem dX9_layOut_258 : decode cX9_layOut 258 = .ok (.iload 5, 2) := by decide +kernel
theorem dX9_layOut_260 : decode cX9_layOut 260 = .ok (.iconst 1, 1) := by decide +kernel
theorem dX9_layOut_261 : decode cX9_layOut 261 = .ok (.iadd, 1) := by decide +kernel
theorem dX9_layOut_262 : decode cX9_layOut 262 = .ok (.iaload, 1) := by decide +kernel
theorem dX9_layOut_263 : decode cX9_layOut 263 = .ok (.ifCond .gt 33, 3) := by decide +kernel
theorem dX9_layOut_266 : decode cX9_layOut 266 = .ok (.aload_n 0, 1) := by decide +kernel
theorem dX9_layOut_267 : decode cX9_layOut 267 = .ok (.getfield 111, 3) := by decide +kernel
theorem dX9_layOut_270 : decode cX9_layOut 270 = .ok (.iload 5, 2) := by decide +kernel
theorem dX9_layOut_272 : decode cX9_layOut 272 = .ok (.iconst 1, 1) := by decide +kernel
theorem dX9_layOut_273 : decode cX9_layOut 273 = .ok (.iadd, 1) := by decide +kernel
theorem dX9_layOut_274 : decode cX9_layOut 274 = .ok (.iconst 0, 1) := by decide +kernel
theorem dX9_layOut_275 : decode cX9_layOut 275 = .ok (.iastore, 1) := by decide +kernel
theorem dX9_layOut_276 : decode cX9_layOut 276 = .ok (.aload_n 0, 1) := by decide +kernel
theorem dX9_layOut_277 : decode cX9_layOut 277 = .ok (.getfield 114, 3) := by decide +kernel
theorem dX9_layOut_280 : decode cX9_layOut 280 = .ok (.iload 5, 2) := by decide +kernel
theorem dX9_layOut_282 : decode cX9_layOut 282 = .ok (.iconst 1, 1) := by decide +kernel
theorem dX9_layOut_283 : decode cX9_layOut 283 = .ok (.iadd, 1) := by decide +kernel
theorem dX9_layOut_284 : decode cX9_layOut 284 = .ok (.iconst 3, 1) := by decide +kernel
theorem dX9_layOut_285 : decode cX9_layOut 285 = .ok (.iastore, 1) := by decide +kernel
theorem dX9_layOut_286 : decode cX9_layOut 286 = .ok (.aload_n 0, 1) := by decide +kernel
theorem dX9_layOut_287 : decode cX9_layOut 287 = .ok (.getfield 117, 3) := by decide +kernel
theorem dX9_layOut_290 : decode cX9_layOut 290 = .ok (.iload_n 2, 1) := by decide +kernel
theorem dX9_layOut_291 : decode cX9_layOut 291 = .ok (.iload 4, 2) := by decide +kernel
theorem dX9_layOut_293 : decode cX9_layOut 293 = .ok (.iconst 1, 1) := by decide +kernel
theorem dX9_layOut_294 : decode cX9_layOut 294 = .ok (.iadd, 1) := by decide +kernel
theorem dX9_layOut_295 : decode cX9_layOut 295 = .ok (.iastore, 1) := by decide +kernel
theorem dX9_layOut_296 : decode cX9_layOut 296 = .ok (.iinc 4 1, 3) := by decide +kernel
theorem dX9_layOut_299 : decode cX9_layOut 299 = .ok (.goto (-245), 3) := by decide +kernel
theorem dX9_layOut_302 : decode cX9_layOut 302 = .ok (.return_, 1) := by decide +kernel
theorem dX9_fall_0 : decode cX9_fall 0 = .ok (.aload_n 0, 1) := by decide +kernel
theorem dX9_fall_1 : decode cX9_fall 1 = .ok (.getfield 36, 3) := by decide +kernel
theorem dX9_fall_4 : decode cX9_fall 4 = .ok (.iload_n 1, 1) := by decide +kernel
theorem dX9_fall_5 : decode cX9_fall 5 = .ok (.iaload, 1) := by decide +kernel
theorem dX9_fall_6 : decode cX9_fall 6 = .ok (.istore 4, 2) := by decide +kernel
theorem dX9_fall_8 : decode cX9_fall 8 = .ok (.aload_n 0, 1) := by decide +kernel
theorem dX9_fall_9 : decode cX9_fall 9 = .ok (.getfield 105, 3) := by decide +kernel
theorem dX9_fall_12 : decode cX9_fall 12 = .ok (.iload_n 3, 1) := by decide +kernel
theorem dX9_fall_13 : decode cX9_fall 13 = .ok (.dup2, 1) := by decide +kernel
theorem dX9_fall_14 : decode cX9_fall 14 = .ok (.iaload, 1) := by decide +kernel
theorem dX9_fall_15 : decode cX9_fall 15 = .ok (.iload_n 2, 1) := by decide +kernel
theorem dX9_fall_16 : decode cX9_fall 16 = .ok (.bipush 20, 2) := by decide +kernel
theorem dX9_fall_18 : decode cX9_fall 18 = .ok (.if_icmp .le 7, 3) := by decide +kernel
theorem dX9_fall_21 : decode cX9_fall 21 = .ok (.iconst 0, 1) := by decide +kernel
theorem dX9_fall_22 : decode cX9_fall 22 = .ok (.goto 11, 3) := by decide +kernel
theorem dX9_fall_25 : decode cX9_fall 25 = .ok (.aload_n 0, 1) := by decide +kernel
theorem dX9_fall_26 : decode cX9_fall 26 = .ok (.getfield 235, 3) := by decide +kernel
theorem dX9_fall_29 : decode cX9_fall 29 = .ok (.iload_n 2, 1) := by decide +kernel
theorem dX9_fall_30 : decode cX9_fall 30 = .ok (.iconst 1, 1) := by decide +kernel
theorem dX9_fall_31 : decode cX9_fall 31 = .ok (.iadd, 1) := by decide +kernel
theorem dX9_fall_32 : decode cX9_fall 32 = .ok (.ishr, 1) := by decide +kernel
theorem dX9_fall_33 : decode cX9_fall 33 = .ok (.iadd, 1) := by decide +kernel
theorem dX9_fall_34 : decode cX9_fall 34 = .ok (.iastore, 1) := by decide +kernel
theorem dX9_fall_35 : decode cX9_fall 35 = .ok (.iload 4, 2) := by decide +kernel
theorem dX9_fall_37 : decode cX9_fall 37 = .ok (.iconst 2, 1) := by decide +kernel
theorem dX9_fall_38 : decode cX9_fall 38 = .ok (.if_icmp .ne 79, 3) := by decide +kernel
theorem dX9_fall_41 : decode cX9_fall 41 = .ok (.iload_n 2, 1) := by decide +kernel
theorem dX9_fall_42 : decode cX9_fall 42 = .ok (.iconst 5, 1) := by decide +kernel
theorem dX9_fall_43 : decode cX9_fall 43 = .ok (.if_icmp .lt 74, 3) := by decide +kernel
theorem dX9_fall_46 : decode cX9_fall 46 = .ok (.aload_n 0, 1) := by decide +kernel
theorem dX9_fall_47 : decode cX9_fall 47 = .ok (.getfield 45, 3) := by decide +kernel
theorem dX9_fall_50 : decode cX9_fall 50 = .ok (.iload_n 1, 1) := by decide +kernel
theorem dX9_fall_51 : decode cX9_fall 51 = .ok (.iaload, 1) := by decide +kernel
theorem dX9_fall_52 : decode cX9_fall 52 = .ok (.istore 5, 2) := by decide +kernel
theorem dX9_fall_54 : decode cX9_fall 54 = .ok (.aload_n 0, 1) := by decide +kernel
theorem dX9_fall_55 : decode cX9_fall 55 = .ok (.getfield 105, 3) := by decide +kernel
theorem dX9_fall_58 : decode cX9_fall 58 = .ok (.iload_n 3, 1) := by decide +kernel
theorem dX9_fall_59 : decode cX9_fall 59 = .ok (.dup2, 1) := by decide +kernel
theorem dX9_fall_60 : decode cX9_fall 60 = .ok (.iaload, 1) := by decide +kernel
theorem dX9_fall_61 : decode cX9_fall 61 = .ok (.iload 5, 2) := by decide +kernel
theorem dX9_fall_63 : decode cX9_fall 63 = .ok (.ifCond .ne 8, 3) := by decide +kernel
theorem dX9_fall_66 : decode cX9_fall 66 = .ok (.bipush 80, 2) := by decide +kernel
theorem dX9_fall_68 : decode cX9_fall 68 = .ok (.goto 15, 3) := by decide +kernel
theorem dX9_fall_71 : decode cX9_fall 71 = .ok (.iload 5, 2) := by decide +kernel
theorem dX9_fall_73 : decode cX9_fall 73 = .ok (.iconst 2, 1) := by decide +kernel
theorem dX9_fall_74 : decode cX9_fall 74 = .ok (.if_icmp .ne 8, 3) := by decide +kernel
theorem dX9_fall_77 : decode cX9_fall 77 = .ok (.bipush (-80), 2) := by decide +kernel
theorem dX9_fall_79 : decode cX9_fall 79 = .ok (.goto 4, 3) := by decide +kernel
theorem dX9_fall_82 : decode cX9_fall 82 = .ok (.iconst 0, 1) := by decide +kernel
theorem dX9_fall_83 : decode cX9_fall 83 = .ok (.iadd, 1) := by decide +kernel
theorem dX9_fall_84 : decode cX9_fall 84 = .ok (.iastore, 1) := by decide +kernel
theorem dX9_fall_85 : decode cX9_fall 85 = .ok (.aload_n 0, 1) := by decide +kernel
theorem dX9_fall_86 : decode cX9_fall 86 = .ok (.getfield 108, 3) := by decide +kernel
theorem dX9_fall_89 : decode cX9_fall 89 = .ok (.iload_n 3, 1) := by decide +kernel
theorem dX9_fall_90 : decode cX9_fall 90 = .ok (.dup2, 1) := by decide +kernel
theorem dX9_fall_91 : decode cX9_fall 91 = .ok (.iaload, 1) := by decide +kernel
theorem dX9_fall_92 : decode cX9_fall 92 = .ok (.iload 5, 2) := by decide +kernel
theorem dX9_fall_94 : decode cX9_fall 94 = .ok (.iconst 1, 1) := by decide +kernel
theorem dX9_fall_95 : decode cX9_fall 95 = .ok (.if_icmp .ne 8, 3) := by decide +kernel
theorem dX9_fall_98 : decode cX9_fall 98 = .ok (.bipush 80, 2) := by decide +kernel
theorem dX9_fall_100 : decode cX9_fall 100 = .ok (.goto 15, 3) := by decide +kernel
theorem dX9_fall_103 : decode cX9_fall 103 = .ok (.iload 5, 2) := by decide +kernel
theorem dX9_fall_105 : decode cX9_fall 105 = .ok (.iconst 3, 1) := by decide +kernel
theorem dX9_fall_106 : decode cX9_fall 106 = .ok (.if_icmp .ne 8, 3) := by decide +kernel
theorem dX9_fall_109 : decode cX9_fall 109 = .ok (.bipush (-80), 2) := by decide +kernel
theorem dX9_fall_111 : decode cX9_fall 111 = .ok (.goto 4, 3) := by decide +kernel
theorem dX9_fall_114 : decode cX9_fall 114 = .ok (.iconst 0, 1) := by decide +kernel
theorem dX9_fall_115 : decode cX9_fall 115 = .ok (.iadd, 1) := by decide +kernel
theorem dX9_fall_116 : decode cX9_fall 116 = .ok (.iastore, 1) := by decide +kernel
theorem dX9_fall_117 : decode cX9_fall 117 = .ok (.iload 4, 2) := by decide +kernel
theorem dX9_fall_119 : decode cX9_fall 119 = .ok (.iconst 1, 1) := by decide +kernel
theorem dX9_fall_120 : decode cX9_fall 120 = .ok (.if_icmp .ne 8, 3) := by decide +kernel
theorem dX9_fall_123 : decode cX9_fall 123 = .ok (.bipush 60, 2) := by decide +kernel
theorem dX9_fall_125 : decode cX9_fall 125 = .ok (.goto 16, 3) := by decide +kernel
theorem dX9_fall_128 : decode cX9_fall 128 = .ok (.iload 4, 2) := by decide +kernel
theorem dX9_fall_130 : decode cX9_fall 130 = .ok (.iconst 2, 1) := by decide +kernel
theorem dX9_fall_131 : decode cX9_fall 131 = .ok (.if_icmp .ne 8, 3) := by decide +kernel
theorem dX9_fall_134 : decode cX9_fall 134 = .ok (.bipush 45, 2) := by decide +kernel
theorem dX9_fall_136 : decode cX9_fall 136 = .ok (.goto 5, 3) := by decide +kernel
theorem dX9_fall_139 : decode cX9_fall 139 = .ok (.bipush 50, 2) := by decide +kernel
theorem dX9_fall_141 : decode cX9_fall 141 = .ok (.istore 5, 2) := by decide +kernel
theorem dX9_fall_143 : decode cX9_fall 143 = .ok (.aload_n 0, 1) := by decide +kernel
theorem dX9_fall_144 : decode cX9_fall 144 = .ok (.getfield 111, 3) := by decide +kernel
theorem dX9_fall_147 : decode cX9_fall 147 = .ok (.iload_n 3, 1) := by decide +kernel
theorem dX9_fall_148 : decode cX9_fall 148 = .ok (.dup2, 1) := by decide +kernel
theorem dX9_fall_149 : decode cX9_fall 149 = .ok (.iaload, 1) := by decide +kernel
theorem dX9_fall_150 : decode cX9_fall 150 = .ok (.bipush 10, 2) := by decide +kernel
theorem dX9_fall_152 : decode cX9_fall 152 = .ok (.bipush 10, 2) := by decide +kernel
theorem dX9_fall_154 : decode cX9_fall 154 = .ok (.iload_n 2, 1) := by decide +kernel
theorem dX9_fall_155 : decode cX9_fall 155 = .ok (.iconst 1, 1) := by decide +kernel
theorem dX9_fall_156 : decode cX9_fall 156 = .ok (.iadd, 1) := by decide +kernel
theorem dX9_fall_157 : decode cX9_fall 157 = .ok (.imul, 1) := by decide +kernel
theorem dX9_fall_158 : decode cX9_fall 158 = .ok (.iload 5, 2) := by decide +kernel
theorem dX9_fall_160 : decode cX9_fall 160 = .ok (.invokestatic 249, 3) := by decide +kernel
theorem dX9_fall_163 : decode cX9_fall 163 = .ok (.imul, 1) := by decide +kernel
theorem dX9_fall_164 : decode cX9_fall 164 = .ok (.isub, 1) := by decide +kernel
theorem dX9_fall_165 : decode cX9_fall 165 = .ok (.iastore, 1) := by decide +kernel
theorem dX9_fall_166 : decode cX9_fall 166 = .ok (.aload_n 0, 1) := by decide +kernel
theorem dX9_fall_167 : decode cX9_fall 167 = .ok (.getfield 111, 3) := by decide +kernel
theorem dX9_fall_170 : decode cX9_fall 170 = .ok (.iload_n 3, 1) := by decide +kernel
theorem dX9_fall_171 : decode cX9_fall 171 = .ok (.iaload, 1) := by decide +kernel
theorem dX9_fall_172 : decode cX9_fall 172 = .ok (.aload_n 0, 1) := by decide +kernel
theorem dX9_fall_173 : decode cX9_fall 173 = .ok (.getfield 39, 3) := by decide +kernel
theorem dX9_fall_176 : decode cX9_fall 176 = .ok (.iload_n 1, 1) := by decide +kernel
theorem dX9_fall_177 : decode cX9_fall 177 = .ok (.iaload, 1) := by decide +kernel
theorem dX9_fall_178 : decode cX9_fall 178 = .ok (.if_icmp .le 14, 3) := by decide +kernel
theorem dX9_fall_181 : decode cX9_fall 181 = .ok (.iload 4, 2) := by decide +kernel
theorem dX9_fall_183 : decode cX9_fall 183 = .ok (.iconst 3, 1) := by decide +kernel
theorem dX9_fall_184 : decode cX9_fall 184 = .ok (.if_icmp .ne 15, 3) := by decide +kernel
theorem dX9_fall_187 : decode cX9_fall 187 = .ok (.iload_n 2, 1) := by decide +kernel
theorem dX9_fall_188 : decode cX9_fall 188 = .ok (.iconst 2, 1) := by decide +kernel
theorem dX9_fall_189 : decode cX9_fall 189 = .ok (.if_icmp .lt 10, 3) := by decide +kernel
theorem dX9_fall_192 : decode cX9_fall 192 = .ok (.aload_n 0, 1) := by decide +kernel
theorem dX9_fall_193 : decode cX9_fall 193 = .ok (.getfield 114, 3) := by decide +kernel
theorem dX9_fall_196 : decode cX9_fall 196 = .ok (.iload_n 3, 1) := by decide +kernel
theorem dX9_fall_197 : decode cX9_fall 197 = .ok (.iconst 2, 1) := by decide +kernel
theorem dX9_fall_198 : decode cX9_fall 198 = .ok (.iastore, 1) := by decide +kernel
theorem dX9_fall_199 : decode cX9_fall 199 = .ok (.return_, 1) := by decide +kernel
theorem dX9_where_0 : decode cX9_where 0 = .ok (.aload_n 0, 1) := by decide +kernel
theorem dX9_where_1 : decode cX9_where 1 = .ok (.iload_n 1, 1) := by decide +kernel
theorem dX9_where_2 : decode cX9_where 2 = .ok (.iload_n 2, 1) := by decide +kernel
theorem dX9_where_3 : decode cX9_where 3 = .ok (.invokevirtual 225, 3) := by decide +kernel
theorem dX9_where_6 : decode cX9_where 6 = .ok (.ifCond .eq 28, 3) := by decide +kernel
theorem dX9_where_9 : decode cX9_where 9 = .ok (.iload_n 3, 1) := by decide +kernel
theorem dX9_where_10 : decode cX9_where 10 = .ok (.i2l, 1) := by decide +kernel
theorem dX9_where_11 : decode cX9_where 11 = .ok (.lconst 0, 1) := by decide +kernel
theorem dX9_where_12 : decode cX9_where 12 = .ok (.ldc2_w 187, 3) := by decide +kernel
theorem dX9_where_15 : decode cX9_where 15 = .ok (.invokestatic 138, 3) := by decide +kernel
theorem dX9_where_18 : decode cX9_where 18 = .ok (.ifCond .eq 16, 3) := by decide +kernel
theorem dX9_where_21 : decode cX9_where 21 = .ok (.iload 4, 2) := by decide +kernel
theorem dX9_where_23 : decode cX9_where 23 = .ok (.i2l, 1) := by decide +kernel
theorem dX9_where_24 : decode cX9_where 24 = .ok (.lconst 0, 1) := by decide +kernel
theorem dX9_where_25 : decode cX9_where 25 = .ok (.ldc2_w 189, 3) := by decide +kernel
theorem dX9_where_28 : decode cX9_where 28 = .ok (.invokestatic 138, 3) := by decide +kernel
theorem dX9_where_31 : decode cX9_where 31 = .ok (.ifCond .ne 6, 3) := by decide +kernel
theorem dX9_where_34 : decode cX9_where 34 = .ok (.ldc 252, 2) := by decide +kernel
theorem dX9_where_36 : decode cX9_where 36 = .ok (.ireturn, 1) := by decide +kernel
theorem dX9_where_37 : decode cX9_where 37 = .ok (.aload_n 0, 1) := by decide +kernel
theorem dX9_where_38 : decode cX9_where 38 = .ok (.iload_n 1, 1) := by decide +kernel
theorem dX9_where_39 : decode cX9_where 39 = .ok (.invokevirtual 253, 3) := by decide +kernel
theorem dX9_where_42 : decode cX9_where 42 = .ok (.aload_n 0, 1) := by decide +kernel
theorem dX9_where_43 : decode cX9_where 43 = .ok (.aload_n 0, 1) := by decide +kernel
theorem dX9_where_44 : decode cX9_where 44 = .ok (.getfield 75, 3) := by decide +kernel
theorem dX9_where_47 : decode cX9_where 47 = .ok (.bipush 6, 2) := by decide +kernel
theorem dX9_where_49 : decode cX9_where 49 = .ok (.iload_n 1, 1) := by decide +kernel
theorem dX9_where_50 : decode cX9_where 50 = .ok (.imul, 1) := by decide +kernel
theorem dX9_where_51 : decode cX9_where 51 = .ok (.iload_n 2, 1) := by decide +kernel
theorem dX9_where_52 : decode cX9_where 52 = .ok (.iadd, 1) := by decide +kernel
theorem dX9_where_53 : decode cX9_where 53 = .ok (.iaload, 1) := by decide +kernel
theorem dX9_where_54 : decode cX9_where 54 = .ok (.iconst 0, 1) := by decide +kernel
theorem dX9_where_55 : decode cX9_where 55 = .ok (.invokevirtual 256, 3) := by decide +kernel
theorem dX9_where_58 : decode cX9_where 58 = .ok (.iload 4, 2) := by decide +kernel
theorem dX9_where_60 : decode cX9_where 60 = .ok (.tableswitch 68 0 2 #[28, 54, 61], 28) := by decide +kernel
theorem dX9_where_88 : decode cX9_where 88 = .ok (.aload_n 0, 1) := by decide +kernel
theorem dX9_where_89 : decode cX9_where 89 = .ok (.getfield 81, 3) := by decide +kernel
theorem dX9_where_92 : decode cX9_where 92 = .ok (.iload_n 1, 1) := by decide +kernel
theorem dX9_where_93 : decode cX9_where 93 = .ok (.iaload, 1) := by decide +kernel
theorem dX9_where_94 : decode cX9_where 94 = .ok (.aload_n 0, 1) := by decide +kernel
theorem dX9_where_95 : decode cX9_where 95 = .ok (.getfield 235, 3) := by decide +kernel
theorem dX9_where_98 : decode cX9_where 98 = .ok (.aload_n 0, 1) := by decide +kernel
theorem dX9_where_99 : decode cX9_where 99 = .ok (.iload_n 1, 1) := by decide +kernel
theorem dX9_where_100 : decode cX9_where 100 = .ok (.iload_n 2, 1) := by decide +kernel
theorem dX9_where_101 : decode cX9_where 101 = .ok (.invokevirtual 232, 3) := by decide +kernel
theorem dX9_where_104 : decode cX9_where 104 = .ok (.imul, 1) := by decide +kernel
theorem dX9_where_105 : decode cX9_where 105 = .ok (.iadd, 1) := by decide +kernel
theorem dX9_where_106 : decode cX9_where 106 = .ok (.aload_n 0, 1) := by decide +kernel
theorem dX9_where_107 : decode cX9_where 107 = .ok (.getfield 105, 3) := by decide +kernel
theorem dX9_where_110 : decode cX9_where 110 = .ok (.iload_n 3, 1) := by decide +kernel
theorem dX9_where_111 : decode cX9_where 111 = .ok (.iaload, 1) := by decide +kernel
theorem dX9_where_112 : decode cX9_where 112 = .ok (.iadd, 1) := by decide +kernel
theorem dX9_where_113 : decode cX9_where 113 = .ok (.ireturn, 1) := by decide +kernel
theorem dX9_where_114 : decode cX9_where 114 = .ok (.aload_n 0, 1) := by decide +kernel
theorem dX9_where_115 : decode cX9_where 115 = .ok (.getfield 108, 3) := by decide +kernel
theorem dX9_where_118 : decode cX9_where 118 = .ok (.iload_n 3, 1) := by decide +kernel
theorem dX9_where_119 : decode cX9_where 119 = .ok (.iaload, 1) := by decide +kernel
theorem dX9_where_120 : decode cX9_where 120 = .ok (.ireturn, 1) := by decide +kernel
theorem dX9_where_121 : decode cX9_where 121 = .ok (.aload_n 0, 1) := by decide +kernel
theorem dX9_where_122 : decode cX9_where 122 = .ok (.getfield 111, 3) := by decide +kernel
theorem dX9_where_125 : decode cX9_where 125 = .ok (.iload_n 3, 1) := by decide +kernel
theorem dX9_where_126 : decode cX9_where 126 = .ok (.iaload, 1) := by decide +kernel
theorem dX9_where_127 : decode cX9_where 127 = .ok (.ireturn, 1) := by decide +kernel
theorem dX9_where_128 : decode cX9_where 128 = .ok (.aload_n 0, 1) := by decide +kernel
theorem dX9_where_129 : decode cX9_where 129 = .ok (.getfield 114, 3) := by decide +kernel
theorem dX9_where_132 : decode cX9_where 132 = .ok (.iload_n 3, 1) := by decide +kernel
theorem dX9_where_133 : decode cX9_where 133 = .ok (.iaload, 1) := by decide +kernel
theorem dX9_where_134 : decode cX9_where 134 = .ok (.ireturn, 1) := by decide +kernel
theorem dX9_nearBy_0 : decode cX9_nearBy 0 = .ok (.ldc2_w 260, 3) := by decide +kernel
theorem dX9_nearBy_3 : decode cX9_nearBy 3 = .ok (.lstore_n 2, 1) := by decide +kernel
theorem dX9_nearBy_4 : decode cX9_nearBy 4 = .ok (.iload_n 1, 1) := by decide +kernel
theorem dX9_nearBy_5 : decode cX9_nearBy 5 = .ok (.istore 4, 2) := by decide +kernel
theorem dX9_nearBy_7 : decode cX9_nearBy 7 = .ok (.iload 4, 2) := by decide +kernel
theorem dX9_nearBy_9 : decode cX9_nearBy 9 = .ok (.aload_n 0, 1) := by decide +kernel
theorem dX9_nearBy_10 : decode cX9_nearBy 10 = .ok (.getfield 117, 3) := by decide +kernel
theorem dX9_nearBy_13 : decode cX9_nearBy 13 = .ok (.iconst 0, 1) := by decide +kernel
theorem dX9_nearBy_14 : decode cX9_nearBy 14 = .ok (.iaload, 1) := by decide +kernel
theorem dX9_nearBy_15 : decode cX9_nearBy 15 = .ok (.if_icmp .ge 131, 3) := by decide +kernel
theorem dX9_nearBy_18 : decode cX9_nearBy 18 = .ok (.iload 4, 2) := by decide +kernel
theorem dX9_nearBy_20 : decode cX9_nearBy 20 = .ok (.iload_n 1, 1) := by decide +kernel
theorem dX9_nearBy_21 : decode cX9_nearBy 21 = .ok (.isub, 1) := by decide +kernel
theorem dX9_nearBy_22 : decode cX9_nearBy 22 = .ok (.aload_n 0, 1) := by decide +kernel
theorem dX9_nearBy_23 : decode cX9_nearBy 23 = .ok (.getfield 117, 3) := by decide +kernel
theorem dX9_nearBy_26 : decode cX9_nearBy 26 = .ok (.iconst 1, 1) := by decide +kernel
theorem dX9_nearBy_27 : decode cX9_nearBy 27 = .ok (.iaload, 1) := by decide +kernel
theorem dX9_nearBy_28 : decode cX9_nearBy 28 = .ok (.if_icmp .ge 118, 3) := by decide +kernel
theorem dX9_nearBy_31 : decode cX9_nearBy 31 = .ok (.sipush 1001, 3) := by decide +kernel
theorem dX9_nearBy_34 : decode cX9_nearBy 34 = .ok (.iload 4, 2) := by decide +kernel
theorem dX9_nearBy_36 : decode cX9_nearBy 36 = .ok (.iadd, 1) := by decide +kernel
theorem dX9_nearBy_37 : decode cX9_nearBy 37 = .ok (.iload_n 1, 1) := by decide +kernel
theorem dX9_nearBy_38 : decode cX9_nearBy 38 = .ok (.isub, 1) := by decide +kernel
theorem dX9_nearBy_39 : decode cX9_nearBy 39 = .ok (.istore 5, 2) := by decide +kernel
theorem dX9_nearBy_41 : decode cX9_nearBy 41 = .ok (.aload_n 0, 1) := by decide +kernel
theorem dX9_nearBy_42 : decode cX9_nearBy 42 = .ok (.getfield 105, 3) := by decide +kernel
theorem dX9_nearBy_45 : decode cX9_nearBy 45 = .ok (.iload 4, 2) := by decide +kernel
theorem dX9_nearBy_47 : decode cX9_nearBy 47 = .ok (.iaload, 1) := by decide +kernel
theorem dX9_nearBy_48 : decode cX9_nearBy 48 = .ok (.i2l, 1) := by decide +kernel
theorem dX9_nearBy_49 : decode cX9_nearBy 49 = .ok (.aload_n 0, 1) := by decide +kernel
theorem dX9_nearBy_50 : decode cX9_nearBy 50 = .ok (.getfield 105, 3) := by decide +kernel
theorem dX9_nearBy_53 : decode cX9_nearBy 53 = .ok (.iload 5, 2) := by decide +kernel
theorem dX9_nearBy_55 : decode cX9_nearBy 55 = .ok (.iaload, 1) := by decide +kernel
theorem dX9_nearBy_56 : decode cX9_nearBy 56 = .ok (.i2l, 1) := by decide +kernel
theorem dX9_nearBy_57 : decode cX9_nearBy 57 = .ok (.lsub, 1) := by decide +kernel
theorem dX9_nearBy_58 : decode cX9_nearBy 58 = .ok (.aload_n 0, 1) := by decide +kernel
theorem dX9_nearBy_59 : decode cX9_nearBy 59 = .ok (.getfield 235, 3) := by decide +kernel
theorem dX9_nearBy_62 : decode cX9_nearBy 62 = .ok (.i2l, 1) := by decide +kernel
theorem dX9_nearBy_63 : decode cX9_nearBy 63 = .ok (.iload_n 1, 1) := by decide +kernel
theorem dX9_nearBy_64 : decode cX9_nearBy 64 = .ok (.i2l, 1) := by decide +kernel
theorem dX9_nearBy_65 : decode cX9_nearBy 65 = .ok (.lmul, 1) := by decide +kernel
theorem dX9_nearBy_66 : decode cX9_nearBy 66 = .ok (.lsub, 1) := by decide +kernel
theorem dX9_nearBy_67 : decode cX9_nearBy 67 = .ok (.lstore 6, 2) := by decide +kernel
theorem dX9_nearBy_69 : decode cX9_nearBy 69 = .ok (.aload_n 0, 1) := by decide +kernel
theorem dX9_nearBy_70 : decode cX9_nearBy 70 = .ok (.getfield 108, 3) := by decide +kernel
theorem dX9_nearBy_73 : decode cX9_nearBy 73 = .ok (.iload 4, 2) := by decide +kernel
theorem dX9_nearBy_75 : decode cX9_nearBy 75 = .ok (.iaload, 1) := by decide +kernel
theorem dX9_nearBy_76 : decode cX9_nearBy 76 = .ok (.i2l, 1) := by decide +kernel
theorem dX9_nearBy_77 : decode cX9_nearBy 77 = .ok (.aload_n 0, 1) := by decide +kernel
theorem dX9_nearBy_78 : decode cX9_nearBy 78 = .ok (.getfield 108, 3) := by decide +kernel
theorem dX9_nearBy_81 : decode cX9_nearBy 81 = .ok (.iload 5, 2) := by decide +kernel
theorem dX9_nearBy_83 : decode cX9_nearBy 83 = .ok (.iaload, 1) := by decide +kernel
theorem dX9_nearBy_84 : decode cX9_nearBy 84 = .ok (.i2l, 1) := by decide +kernel
theorem dX9_nearBy_85 : decode cX9_nearBy 85 = .ok (.lsub, 1) := by decide +kernel
theorem dX9_nearBy_86 : decode cX9_nearBy 86 = .ok (.lstore 8, 2) := by decide +kernel
theorem dX9_nearBy_88 : decode cX9_nearBy 88 = .ok (.aload_n 0, 1) := by decide +kernel
theorem dX9_nearBy_89 : decode cX9_nearBy 89 = .ok (.getfield 111, 3) := by decide +kernel
theorem dX9_nearBy_92 : decode cX9_nearBy 92 = .ok (.iload 4, 2) := by decide +kernel
theorem dX9_nearBy_94 : decode cX9_nearBy 94 = .ok (.iaload, 1) := by decide +kernel
theorem dX9_nearBy_95 : decode cX9_nearBy 95 = .ok (.i2l, 1) := by decide +kernel
theorem dX9_nearBy_96 : decode cX9_nearBy 96 = .ok (.aload_n 0, 1) := by decide +kernel
theorem dX9_nearBy_97 : decode cX9_nearBy 97 = .ok (.getfield 111, 3) := by decide +kernel
theorem dX9_nearBy_100 : decode cX9_nearBy 100 = .ok (.iload 5, 2) := by decide +kernel
theorem dX9_nearBy_102 : decode cX9_nearBy 102 = .ok (.iaload, 1) := by decide +kernel
theorem dX9_nearBy_103 : decode cX9_nearBy 103 = .ok (.i2l, 1) := by decide +kernel
theorem dX9_nearBy_104 : decode cX9_nearBy 104 = .ok (.lsub, 1) := by decide +kernel
theorem dX9_nearBy_105 : decode cX9_nearBy 105 = .ok (.lstore 10, 2) := by decide +kernel
theorem dX9_nearBy_107 : decode cX9_nearBy 107 = .ok (.lload 6, 2) := by decide +kernel
theorem dX9_nearBy_109 : decode cX9_nearBy 109 = .ok (.lload 6, 2) := by decide +kernel
theorem dX9_nearBy_111 : decode cX9_nearBy 111 = .ok (.lmul, 1) := by decide +kernel
theorem dX9_nearBy_112 : decode cX9_nearBy 112 = .ok (.lload 8, 2) := by decide +kernel
theorem dX9_nearBy_114 : decode cX9_nearBy 114 = .ok (.lload 8, 2) := by decide +kernel
theorem dX9_nearBy_116 : decode cX9_nearBy 116 = .ok (.lmul, 1) := by decide +kernel
theorem dX9_nearBy_117 : decode cX9_nearBy 117 = .ok (.ladd, 1) := by decide +kernel
theorem dX9_nearBy_118 : decode cX9_nearBy 118 = .ok (.lload 10, 2) := by decide +kernel
theorem dX9_nearBy_120 : decode cX9_nearBy 120 = .ok (.lload 10, 2) := by decide +kernel
theorem dX9_nearBy_122 : decode cX9_nearBy 122 = .ok (.lmul, 1) := by decide +kernel
theorem dX9_nearBy_123 : decode cX9_nearBy 123 = .ok (.ladd, 1) := by decide +kernel
theorem dX9_nearBy_124 : decode cX9_nearBy 124 = .ok (.lstore 12, 2) := by decide +kernel
theorem dX9_nearBy_126 : decode cX9_nearBy 126 = .ok (.lload 12, 2) := by decide +kernel
theorem dX9_nearBy_128 : decode cX9_nearBy 128 = .ok (.lload_n 2, 1) := by decide +kernel
theorem dX9_nearBy_129 : decode cX9_nearBy 129 = .ok (.lcmp, 1) := by decide +kernel
theorem dX9_nearBy_130 : decode cX9_nearBy 130 = .ok (.ifCond .ge 8, 3) := by decide +kernel
theorem dX9_nearBy_133 : decode cX9_nearBy 133 = .ok (.lload 12, 2) := by decide +kernel
theorem dX9_nearBy_135 : decode cX9_nearBy 135 = .ok (.goto 4, 3) := by decide +kernel
theorem dX9_nearBy_138 : decode cX9_nearBy 138 = .ok (.lload_n 2, 1) := by decide +kernel
theorem dX9_nearBy_139 : decode cX9_nearBy 139 = .ok (.lstore_n 2, 1) := by decide +kernel
theorem dX9_nearBy_140 : decode cX9_nearBy 140 = .ok (.iinc 4 1, 3) := by decide +kernel
theorem dX9_nearBy_143 : decode cX9_nearBy 143 = .ok (.goto (-136), 3) := by decide +kernel
theorem dX9_nearBy_146 : decode cX9_nearBy 146 = .ok (.lload_n 2, 1) := by decide +kernel
theorem dX9_nearBy_147 : decode cX9_nearBy 147 = .ok (.lreturn, 1) := by decide +kernel
theorem dX9_nearOf_0 : decode cX9_nearOf 0 = .ok (.iload_n 2, 1) := by decide +kernel
theorem dX9_nearOf_1 : decode cX9_nearOf 1 = .ok (.iload_n 3, 1) := by decide +kernel
theorem dX9_nearOf_2 : decode cX9_nearOf 2 = .ok (.if_icmp .ge 7, 3) := by decide +kernel
theorem dX9_nearOf_5 : decode cX9_nearOf 5 = .ok (.iload_n 2, 1) := by decide +kernel
theorem dX9_nearOf_6 : decode cX9_nearOf 6 = .ok (.goto 4, 3) := by decide +kernel
theorem dX9_nearOf_9 : decode cX9_nearOf 9 = .ok (.iload_n 3, 1) := by decide +kernel
theorem dX9_nearOf_10 : decode cX9_nearOf 10 = .ok (.istore 4, 2) := by decide +kernel
theorem dX9_nearOf_12 : decode cX9_nearOf 12 = .ok (.iload_n 2, 1) := by decide +kernel
theorem dX9_nearOf_13 : decode cX9_nearOf 13 = .ok (.iload_n 3, 1) := by decide +kernel
theorem dX9_nearOf_14 : decode cX9_nearOf 14 = .ok (.if_icmp .ge 7, 3) := by decide +kernel
theorem dX9_nearOf_17 : decode cX9_nearOf 17 = .ok (.iload_n 3, 1) := by decide +kernel
theorem dX9_nearOf_18 : decode cX9_nearOf 18 = .ok (.goto 4, 3) := by decide +kernel
theorem dX9_nearOf_21 : decode cX9_nearOf 21 = .ok (.iload_n 2, 1) := by decide +kernel
theorem dX9_nearOf_22 : decode cX9_nearOf 22 = .ok (.istore 5, 2) := by decide +kernel
theorem dX9_nearOf_24 : decode cX9_nearOf 24 = .ok (.aload_n 0, 1) := by decide +kernel
theorem dX9_nearOf_25 : decode cX9_nearOf 25 = .ok (.aload_n 0, 1) := by decide +kernel
theorem dX9_nearOf_26 : decode cX9_nearOf 26 = .ok (.getfield 75, 3) := by decide +kernel
theorem dX9_nearOf_29 : decode cX9_nearOf 29 = .ok (.bipush 6, 2) := by decide +kernel
theorem dX9_nearOf_31 : decode cX9_nearOf 31 = .ok (.iload_n 1, 1) := by decide +kernel
theorem dX9_nearOf_32 : decode cX9_nearOf 32 = .ok (.imul, 1) := by decide +kernel
theorem dX9_nearOf_33 : decode cX9_nearOf 33 = .ok (.iload 4, 2) := by decide +kernel
theorem dX9_nearOf_35 : decode cX9_nearOf 35 = .ok (.iadd, 1) := by decide +kernel
theorem dX9_nearOf_36 : decode cX9_nearOf 36 = .ok (.iaload, 1) := by decide +kernel
theorem dX9_nearOf_37 : decode cX9_nearOf 37 = .ok (.iconst 0, 1) := by decide +kernel
theorem dX9_nearOf_38 : decode cX9_nearOf 38 = .ok (.invokevirtual 256, 3) := by decide +kernel
theorem dX9_nearOf_41 : decode cX9_nearOf 41 = .ok (.aload_n 0, 1) := by decide +kernel
theorem dX9_nearOf_42 : decode cX9_nearOf 42 = .ok (.aload_n 0, 1) := by decide +kernel
theorem dX9_nearOf_43 : decode cX9_nearOf 43 = .ok (.getfield 75, 3) := by decide +kernel
theorem dX9_nearOf_46 : decode cX9_nearOf 46 = .ok (.bipush 6, 2) := by decide +kernel
theorem dX9_nearOf_48 : decode cX9_nearOf 48 = .ok (.iload_n 1, 1) := by decide +kernel
theorem dX9_nearOf_49 : decode cX9_nearOf 49 = .ok (.imul, 1) := by decide +kernel
theorem dX9_nearOf_50 : decode cX9_nearOf 50 = .ok (.iload 5, 2) := by decide +kernel
theorem dX9_nearOf_52 : decode cX9_nearOf 52 = .ok (.iadd, 1) := by decide +kernel
theorem dX9_nearOf_53 : decode cX9_nearOf 53 = .ok (.iaload, 1) := by decide +kernel
theorem dX9_nearOf_54 : decode cX9_nearOf 54 = .ok (.iconst 1, 1) := by decide +kernel
theorem dX9_nearOf_55 : decode cX9_nearOf 55 = .ok (.invokevirtual 256, 3) := by decide +kernel
theorem dX9_nearOf_58 : decode cX9_nearOf 58 = .ok (.aload_n 0, 1) := by decide +kernel
theorem dX9_nearOf_59 : decode cX9_nearOf 59 = .ok (.aload_n 0, 1) := by decide +kernel
theorem dX9_nearOf_60 : decode cX9_nearOf 60 = .ok (.iload_n 1, 1) := by decide +kernel
theorem dX9_nearOf_61 : decode cX9_nearOf 61 = .ok (.iload 5, 2) := by decide +kernel
theorem dX9_nearOf_63 : decode cX9_nearOf 63 = .ok (.invokevirtual 232, 3) := by decide +kernel
theorem dX9_nearOf_66 : decode cX9_nearOf 66 = .ok (.aload_n 0, 1) := by decide +kernel
theorem dX9_nearOf_67 : decode cX9_nearOf 67 = .ok (.iload_n 1, 1) := by decide +kernel
theorem dX9_nearOf_68 : decode cX9_nearOf 68 = .ok (.iload 4, 2) := by decide +kernel
theorem dX9_nearOf_70 : decode cX9_nearOf 70 = .ok (.invokevirtual 232, 3) := by decide +kernel
theorem dX9_nearOf_73 : decode cX9_nearOf 73 = .ok (.isub, 1) := by decide +kernel
theorem dX9_nearOf_74 : decode cX9_nearOf 74 = .ok (.invokevirtual 262, 3) := by decide +kernel
theorem dX9_nearOf_77 : decode cX9_nearOf 77 = .ok (.lreturn, 1) := by decide +kernel
theorem dX9_near_0 : decode cX9_near 0 = .ok (.aload_n 0, 1) := by decide +kernel
theorem dX9_near_1 : decode cX9_near 1 = .ok (.iload_n 1, 1) := by decide +kernel
theorem dX9_near_2 : decode cX9_near 2 = .ok (.iload_n 2, 1) := by decide +kernel
theorem dX9_near_3 : decode cX9_near 3 = .ok (.invokevirtual 225, 3) := by decide +kernel
theorem dX9_near_6 : decode cX9_near 6 = .ok (.ifCond .eq 17, 3) := by decide +kernel
theorem dX9_near_9 : decode cX9_near 9 = .ok (.aload_n 0, 1) := by decide +kernel
theorem dX9_near_10 : decode cX9_near 10 = .ok (.iload_n 1, 1) := by decide +kernel
theorem dX9_near_11 : decode cX9_near 11 = .ok (.iload_n 3, 1) := by decide +kernel
theorem dX9_near_12 : decode cX9_near 12 = .ok (.invokevirtual 225, 3) := by decide +kernel
theorem dX9_near_15 : decode cX9_near 15 = .ok (.ifCond .eq 8, 3) := by decide +kernel
theorem dX9_near_18 : decode cX9_near 18 = .ok (.iload_n 2, 1) := by decide +kernel
theorem dX9_near_19 : decode cX9_near 19 = .ok (.iload_n 3, 1) := by decide +kernel
theorem dX9_near_20 : decode cX9_near 20 = .ok (.if_icmp .ne 7, 3) := by decide +kernel
theorem dX9_near_23 : decode cX9_near 23 = .ok (.ldc2_w 266, 3) := by decide +kernel
theorem dX9_near_26 : decode cX9_near 26 = .ok (.lreturn, 1) := by decide +kernel
theorem dX9_near_27 : decode cX9_near 27 = .ok (.aload_n 0, 1) := by decide +kernel
theorem dX9_near_28 : decode cX9_near 28 = .ok (.iload_n 1, 1) := by decide +kernel
theorem dX9_near_29 : decode cX9_near 29 = .ok (.invokevirtual 253, 3) := by decide +kernel
theorem dX9_near_32 : decode cX9_near 32 = .ok (.aload_n 0, 1) := by decide +kernel
theorem dX9_near_33 : decode cX9_near 33 = .ok (.iload_n 1, 1) := by decide +kernel
theorem dX9_near_34 : decode cX9_near 34 = .ok (.iload_n 2, 1) := by decide +kernel
theorem dX9_near_35 : decode cX9_near 35 = .ok (.iload_n 3, 1) := by decide +kernel
theorem dX9_near_36 : decode cX9_near 36 = .ok (.invokevirtual 268, 3) := by decide +kernel
theorem dX9_near_39 : decode cX9_near 39 = .ok (.lreturn, 1) := by decide +kernel
theorem dX9_isFree_0 : decode cX9_isFree 0 = .ok (.lload_n 1, 1) := by decide +kernel
theorem dX9_isFree_1 : decode cX9_isFree 1 = .ok (.aload_n 0, 1) := by decide +kernel
theorem dX9_isFree_2 : decode cX9_isFree 2 = .ok (.getfield 66, 3) := by decide +kernel
theorem dX9_isFree_5 : decode cX9_isFree 5 = .ok (.iconst 0, 1) := by decide +kernel
theorem dX9_isFree_6 : decode cX9_isFree 6 = .ok (.iaload, 1) := by decide +kernel
theorem dX9_isFree_7 : decode cX9_isFree 7 = .ok (.i2l, 1) := by decide +kernel
theorem dX9_isFree_8 : decode cX9_isFree 8 = .ok (.aload_n 0, 1) := by decide +kernel
theorem dX9_isFree_9 : decode cX9_isFree 9 = .ok (.getfield 66, 3) := by decide +kernel
theorem dX9_isFree_12 : decode cX9_isFree 12 = .ok (.iconst 0, 1) := by decide +kernel
theorem dX9_isFree_13 : decode cX9_isFree 13 = .ok (.iaload, 1) := by decide +kernel
theorem dX9_isFree_14 : decode cX9_isFree 14 = .ok (.i2l, 1) := by decide +kernel
theorem dX9_isFree_15 : decode cX9_isFree 15 = .ok (.lmul, 1) := by decide +kernel
theorem dX9_isFree_16 : decode cX9_isFree 16 = .ok (.lcmp, 1) := by decide +kernel
theorem dX9_isFree_17 : decode cX9_isFree 17 = .ok (.ifCond .lt 7, 3) := by decide +kernel
theorem dX9_isFree_20 : decode cX9_isFree 20 = .ok (.iconst 1, 1) := by decide +kernel
theorem dX9_isFree_21 : decode cX9_isFree 21 = .ok (.goto 4, 3) := by decide +kernel
theorem dX9_isFree_24 : decode cX9_isFree 24 = .ok (.iconst 0, 1) := by decide +kernel
theorem dX9_isFree_25 : decode cX9_isFree 25 = .ok (.ireturn, 1) := by decide +kernel
theorem dX9_betweenOf_0 : decode cX9_betweenOf 0 = .ok (.aload_n 0, 1) := by decide +kernel
theorem dX9_betweenOf_1 : decode cX9_betweenOf 1 = .ok (.iload_n 1, 1) := by decide +kernel
theorem dX9_betweenOf_2 : decode cX9_betweenOf 2 = .ok (.iconst 0, 1) := by decide +kernel
theorem dX9_betweenOf_3 : decode cX9_betweenOf 3 = .ok (.invokevirtual 256, 3) := by decide +kernel
theorem dX9_betweenOf_6 : decode cX9_betweenOf 6 = .ok (.aload_n 0, 1) := by decide +kernel
theorem dX9_betweenOf_7 : decode cX9_betweenOf 7 = .ok (.iload_n 2, 1) := by decide +kernel
theorem dX9_betweenOf_8 : decode cX9_betweenOf 8 = .ok (.iconst 1, 1) := by decide +kernel
theorem dX9_betweenOf_9 : decode cX9_betweenOf 9 = .ok (.invokevirtual 256, 3) := by decide +kernel
theorem dX9_betweenOf_12 : decode cX9_betweenOf 12 = .ok (.iconst 1, 1) := by decide +kernel
theorem dX9_betweenOf_13 : decode cX9_betweenOf 13 = .ok (.istore_n 3, 1) := by decide +kernel
theorem dX9_betweenOf_14 : decode cX9_betweenOf 14 = .ok (.iload_n 3, 1) := by decide +kernel
theorem dX9_betweenOf_15 : decode cX9_betweenOf 15 = .ok (.bipush 60, 2) := by decide +kernel
theorem dX9_betweenOf_17 : decode cX9_betweenOf 17 = .ok (.if_icmp .gt 21, 3) := by decide +kernel
theorem dX9_betweenOf_20 : decode cX9_betweenOf 20 = .ok (.aload_n 0, 1) := by decide +kernel
theorem dX9_betweenOf_21 : decode cX9_betweenOf 21 = .ok (.aload_n 0, 1) := by decide +kernel
theorem dX9_betweenOf_22 : decode cX9_betweenOf 22 = .ok (.iload_n 3, 1) := by decide +kernel
theorem dX9_betweenOf_23 : decode cX9_betweenOf 23 = .ok (.invokevirtual 262, 3) := by decide +kernel
theorem dX9_betweenOf_26 : decode cX9_betweenOf 26 = .ok (.invokevirtual 272, 3) := by decide +kernel
theorem dX9_betweenOf_29 : decode cX9_betweenOf 29 = .ok (.ifCond .ne 9, 3) := by decide +kernel
theorem dX9_betweenOf_32 : decode cX9_betweenOf 32 = .ok (.iinc 3 1, 3) := by decide +kernel
theorem dX9_betweenOf_35 : decode cX9_betweenOf 35 = .ok (.goto (-21), 3) := by decide +kernel
theorem dX9_betweenOf_38 : decode cX9_betweenOf 38 = .ok (.iload_n 3, 1) := by decide +kernel
theorem dX9_betweenOf_39 : decode cX9_betweenOf 39 = .ok (.bipush 60, 2) := by decide +kernel
theorem dX9_betweenOf_41 : decode cX9_betweenOf 41 = .ok (.if_icmp .gt 7, 3) := by decide +kernel
theorem dX9_betweenOf_44 : decode cX9_betweenOf 44 = .ok (.iload_n 3, 1) := by decide +kernel
theorem dX9_betweenOf_45 : decode cX9_betweenOf 45 = .ok (.goto 5, 3) := by decide +kernel
theorem dX9_betweenOf_48 : decode cX9_betweenOf 48 = .ok (.bipush (-7), 2) := by decide +kernel
theorem dX9_betweenOf_50 : decode cX9_betweenOf 50 = .ok (.ireturn, 1) := by decide +kernel
theorem dX9_between_0 : decode cX9_between 0 = .ok (.iload_n 1, 1) := by decide +kernel
theorem dX9_between_1 : decode cX9_between 1 = .ok (.i2l, 1) := by decide +kernel
theorem dX9_between_2 : decode cX9_between 2 = .ok (.lconst 0, 1) := by decide +kernel
theorem dX9_between_3 : decode cX9_between 3 = .ok (.ldc2_w 136, 3) := by decide +kernel
theorem dX9_between_6 : decode cX9_between 6 = .ok (.invokestatic 138, 3) := by decide +kernel
theorem dX9_between_9 : decode cX9_between 9 = .ok (.ifCond .eq 24, 3) := by decide +kernel
theorem dX9_between_12 : decode cX9_between 12 = .ok (.aload_n 0, 1) := by decide +kernel
theorem dX9_between_13 : decode cX9_between 13 = .ok (.iload_n 2, 1) := by decide +kernel
theorem dX9_between_14 : decode cX9_between 14 = .ok (.invokevirtual 197, 3) := by decide +kernel
theorem dX9_between_17 : decode cX9_between 17 = .ok (.ifCond .eq 16, 3) := by decide +kernel
theorem dX9_between_20 : decode cX9_between 20 = .ok (.aload_n 0, 1) := by decide +kernel
theorem dX9_between_21 : decode cX9_between 21 = .ok (.iload_n 3, 1) := by decide +kernel
theorem dX9_between_22 : decode cX9_between 22 = .ok (.invokevirtual 197, 3) := by decide +kernel
theorem dX9_between_25 : decode cX9_between 25 = .ok (.ifCond .eq 8, 3) := by decide +kernel
theorem dX9_between_28 : decode cX9_between 28 = .ok (.iload_n 2, 1) := by decide +kernel
theorem dX9_between_29 : decode cX9_between 29 = .ok (.iload_n 3, 1) := by decide +kernel
theorem dX9_between_30 : decode cX9_between 30 = .ok (.if_icmp .ne 5, 3) := by decide +kernel
theorem dX9_between_33 : decode cX9_between 33 = .ok (.iconst (-1), 1) := by decide +kernel
theorem dX9_between_34 : decode cX9_between 34 = .ok (.ireturn, 1) := by decide +kernel
theorem dX9_between_35 : decode cX9_between 35 = .ok (.aload_n 0, 1) := by decide +kernel
theorem dX9_between_36 : decode cX9_between 36 = .ok (.iload_n 1, 1) := by decide +kernel
theorem dX9_between_37 : decode cX9_between 37 = .ok (.invokevirtual 241, 3) := by decide +kernel
theorem dX9_between_40 : decode cX9_between 40 = .ok (.aload_n 0, 1) := by decide +kernel
theorem dX9_between_41 : decode cX9_between 41 = .ok (.iload_n 2, 1) := by decide +kernel
theorem dX9_between_42 : decode cX9_between 42 = .ok (.iload_n 3, 1) := by decide +kernel
theorem dX9_between_43 : decode cX9_between 43 = .ok (.invokevirtual 276, 3) := by decide +kernel
theorem dX9_between_46 : decode cX9_between 46 = .ok (.ireturn, 1) := by decide +kernel
theorem dX9_nextOrder_0 : decode cX9_nextOrder 0 = .ok (.iload_n 1, 1) := by decide +kernel
theorem dX9_nextOrder_1 : decode cX9_nextOrder 1 = .ok (.iconst 2, 1) := by decide +kernel
theorem dX9_nextOrder_2 : decode cX9_nextOrder 2 = .ok (.isub, 1) := by decide +kernel
theorem dX9_nextOrder_3 : decode cX9_nextOrder 3 = .ok (.istore_n 2, 1) := by decide +kernel
theorem dX9_nextOrder_4 : decode cX9_nextOrder 4 = .ok (.iload_n 2, 1) := by decide +kernel
theorem dX9_nextOrder_5 : decode cX9_nextOrder 5 = .ok (.ifCond .lt 26, 3) := by decide +kernel
theorem dX9_nextOrder_8 : decode cX9_nextOrder 8 = .ok (.aload_n 0, 1) := by decide +kernel
theorem dX9_nextOrder_9 : decode cX9_nextOrder 9 = .ok (.getfield 129, 3) := by decide +kernel
theorem dX9_nextOrder_12 : decode cX9_nextOrder 12 = .ok (.iload_n 2, 1) := by decide +kernel
theorem dX9_nextOrder_13 : decode cX9_nextOrder 13 = .ok (.iaload, 1) := by decide +kernel
theorem dX9_nextOrder_14 : decode cX9_nextOrder 14 = .ok (.aload_n 0, 1) := by decide +kernel
theorem dX9_nextOrder_15 : decode cX9_nextOrder 15 = .ok (.getfield 129, 3) := by decide +kernel
theorem dX9_nextOrder_18 : decode cX9_nextOrder 18 = .ok (.iload_n 2, 1) := by decide +kernel
theorem dX9_nextOrder_19 : decode cX9_nextOrder 19 = .ok (.iconst 1, 1) := by decide +kernel
theorem dX9_nextOrder_20 : decode cX9_nextOrder 20 = .ok (.iadd, 1) := by decide +kernel
theorem dX9_nextOrder_21 : decode cX9_nextOrder 21 = .ok (.iaload, 1) := by decide +kernel
theorem dX9_nextOrder_22 : decode cX9_nextOrder 22 = .ok (.if_icmp .le 9, 3) := by decide +kernel
theorem dX9_nextOrder_25 : decode cX9_nextOrder 25 = .ok (.iinc 2 (-1), 3) := by decide +kernel
theorem dX9_nextOrder_28 : decode cX9_nextOrder 28 = .ok (.goto (-24), 3) := by decide +kernel
theorem dX9_nextOrder_31 : decode cX9_nextOrder 31 = .ok (.iload_n 2, 1) := by decide +kernel
theorem dX9_nextOrder_32 : decode cX9_nextOrder 32 = .ok (.ifCond .ge 5, 3) := by decide +kernel
theorem dX9_nextOrder_35 : decode cX9_nextOrder 35 = .ok (.iconst 0, 1) := by decide +kernel
theorem dX9_nextOrder_36 : decode cX9_nextOrder 36 = .ok (.ireturn, 1) := by decide +kernel
theorem dX9_nextOrder_37 : decode cX9_nextOrder 37 = .ok (.iload_n 1, 1) := by decide +kernel
theorem dX9_nextOrder_38 : decode cX9_nextOrder 38 = .ok (.iconst 1, 1) := by decide +kernel
theorem dX9_nextOrder_39 : decode cX9_nextOrder 39 = .ok (.isub, 1) := by decide +kernel
theorem dX9_nextOrder_40 : decode cX9_nextOrder 40 = .ok (.istore_n 3, 1) := by decide +kernel
theorem dX9_nextOrder_41 : decode cX9_nextOrder 41 = .ok (.aload_n 0, 1) := by decide +kernel
theorem dX9_nextOrder_42 : decode cX9_nextOrder 42 = .ok (.getfield 129, 3) := by decide +kernel
theorem dX9_nextOrder_45 : decode cX9_nextOrder 45 = .ok (.iload_n 3, 1) := by decide +kernel
theorem dX9_nextOrder_46 : decode cX9_nextOrder 46 = .ok (.iaload, 1) := by decide +kernel
theorem dX9_nextOrder_47 : decode cX9_nextOrder 47 = .ok (.aload_n 0, 1) := by decide +kernel
theorem dX9_nextOrder_48 : decode cX9_nextOrder 48 = .ok (.getfield 129, 3) := by decide +kernel
theorem dX9_nextOrder_51 : decode cX9_nextOrder 51 = .ok (.iload_n 2, 1) := by decide +kernel
theorem dX9_nextOrder_52 : decode cX9_nextOrder 52 = .ok (.iaload, 1) := by decide +kernel
theorem dX9_nextOrder_53 : decode cX9_nextOrder 53 = .ok (.if_icmp .ge 9, 3) := by decide +kernel
theorem dX9_nextOrder_56 : decode cX9_nextOrder 56 = .ok (.iinc 3 (-1), 3) := by decide +kernel
theorem dX9_nextOrder_59 : decode cX9_nextOrder 59 = .ok (.goto (-18), 3) := by decide +kernel
theorem dX9_nextOrder_62 : decode cX9_nextOrder 62 = .ok (.aload_n 0, 1) := by decide +kernel
theorem dX9_nextOrder_63 : decode cX9_nextOrder 63 = .ok (.getfield 129, 3) := by decide +kernel
theorem dX9_nextOrder_66 : decode cX9_nextOrder 66 = .ok (.iload_n 2, 1) := by decide +kernel
theorem dX9_nextOrder_67 : decode cX9_nextOrder 67 = .ok (.iaload, 1) := by decide +kernel
theorem dX9_nextOrder_68 : decode cX9_nextOrder 68 = .ok (.istore 4, 2) := by decide +kernel
theorem dX9_nextOrder_70 : decode cX9_nextOrder 70 = .ok (.aload_n 0, 1) := by decide +kernel
theorem dX9_nextOrder_71 : decode cX9_nextOrder 71 = .ok (.getfield 129, 3) := by decide +kernel
theorem dX9_nextOrder_74 : decode cX9_nextOrder 74 = .ok (.iload_n 2, 1) := by decide +kernel
theorem dX9_nextOrder_75 : decode cX9_nextOrder 75 = .ok (.aload_n 0, 1) := by decide +kernel
theorem dX9_nextOrder_76 : decode cX9_nextOrder 76 = .ok (.getfield 129, 3) := by decide +kernel
theorem dX9_nextOrder_79 : decode cX9_nextOrder 79 = .ok (.iload_n 3, 1) := by decide +kernel
theorem dX9_nextOrder_80 : decode cX9_nextOrder 80 = .ok (.iaload, 1) := by decide +kernel
theorem dX9_nextOrder_81 : decode cX9_nextOrder 81 = .ok (.iastore, 1) := by decide +kernel
theorem dX9_nextOrder_82 : decode cX9_nextOrder 82 = .ok (.aload_n 0, 1) := by decide +kernel
theorem dX9_nextOrder_83 : decode cX9_nextOrder 83 = .ok (.getfield 129, 3) := by decide +kernel
theorem dX9_nextOrder_86 : decode cX9_nextOrder 86 = .ok (.iload_n 3, 1) := by decide +kernel
theorem dX9_nextOrder_87 : decode cX9_nextOrder 87 = .ok (.iload 4, 2) := by decide +kernel
theorem dX9_nextOrder_89 : decode cX9_nextOrder 89 = .ok (.iastore, 1) := by decide +kernel
theorem dX9_nextOrder_90 : decode cX9_nextOrder 90 = .ok (.iload_n 2, 1) := by decide +kernel
theorem dX9_nextOrder_91 : decode cX9_nextOrder 91 = .ok (.iconst 1, 1) := by decide +kernel
theorem dX9_nextOrder_92 : decode cX9_nextOrder 92 = .ok (.iadd, 1) := by decide +kernel
theorem dX9_nextOrder_93 : decode cX9_nextOrder 93 = .ok (.istore 5, 2) := by decide +kernel
theorem dX9_nextOrder_95 : decode cX9_nextOrder 95 = .ok (.iload_n 1, 1) := by decide +kernel
theorem dX9_nextOrder_96 : decode cX9_nextOrder 96 = .ok (.iconst 1, 1) := by decide +kernel
theorem dX9_nextOrder_97 : decode cX9_nextOrder 97 = .ok (.isub, 1) := by decide +kernel
theorem dX9_nextOrder_98 : decode cX9_nextOrder 98 = .ok (.istore 6, 2) := by decide +kernel
theorem dX9_nextOrder_100 : decode cX9_nextOrder 100 = .ok (.iload 5, 2) := by decide +kernel
theorem dX9_nextOrder_102 : decode cX9_nextOrder 102 = .ok (.iload 6, 2) := by decide +kernel
theorem dX9_nextOrder_104 : decode cX9_nextOrder 104 = .ok (.if_icmp .ge 44, 3) := by decide +kernel
theorem dX9_nextOrder_107 : decode cX9_nextOrder 107 = .ok (.aload_n 0, 1) := by decide +kernel
theorem dX9_nextOrder_108 : decode cX9_nextOrder 108 = .ok (.getfield 129, 3) := by decide +kernel
theorem dX9_nextOrder_111 : decode cX9_nextOrder 111 = .ok (.iload 5, 2) := by decide +kernel
theorem dX9_nextOrder_113 : decode cX9_nextOrder 113 = .ok (.iaload, 1) := by decide +kernel
theorem dX9_nextOrder_114 : decode cX9_nextOrder 114 = .ok (.istore 4, 2) := by decide +kernel
theorem dX9_nextOrder_116 : decode cX9_nextOrder 116 = .ok (.aload_n 0, 1) := by decide +kernel
theorem dX9_nextOrder_117 : decode cX9_nextOrder 117 = .ok (.getfield 129, 3) := by decide +kernel
theorem dX9_nextOrder_120 : decode cX9_nextOrder 120 = .ok (.iload 5, 2) := by decide +kernel
theorem dX9_nextOrder_122 : decode cX9_nextOrder 122 = .ok (.aload_n 0, 1) := by decide +kernel
theorem dX9_nextOrder_123 : decode cX9_nextOrder 123 = .ok (.getfield 129, 3) := by decide +kernel
theorem dX9_nextOrder_126 : decode cX9_nextOrder 126 = .ok (.iload 6, 2) := by decide +kernel
theorem dX9_nextOrder_128 : decode cX9_nextOrder 128 = .ok (.iaload, 1) := by decide +kernel
theorem dX9_nextOrder_129 : decode cX9_nextOrder 129 = .ok (.iastore, 1) := by decide +kernel
theorem dX9_nextOrder_130 : decode cX9_nextOrder 130 = .ok (.aload_n 0, 1) := by decide +kernel
theorem dX9_nextOrder_131 : decode cX9_nextOrder 131 = .ok (.getfield 129, 3) := by decide +kernel
theorem dX9_nextOrder_134 : decode cX9_nextOrder 134 = .ok (.iload 6, 2) := by decide +kernel
theorem dX9_nextOrder_136 : decode cX9_nextOrder 136 = .ok (.iload 4, 2) := by decide +kernel
theorem dX9_nextOrder_138 : decode cX9_nextOrder 138 = .ok (.iastore, 1) := by decide +kernel
theorem dX9_nextOrder_139 : decode cX9_nextOrder 139 = .ok (.iinc 5 1, 3) := by decide +kernel
theorem dX9_nextOrder_142 : decode cX9_nextOrder 142 = .ok (.iinc 6 (-1), 3) := by decide +kernel
theorem dX9_nextOrder_145 : decode cX9_nextOrder 145 = .ok (.goto (-45), 3) := by decide +kernel
theorem dX9_nextOrder_148 : decode cX9_nextOrder 148 = .ok (.iconst 1, 1) := by decide +kernel
theorem dX9_nextOrder_149 : decode cX9_nextOrder 149 = .ok (.ireturn, 1) := by decide +kernel
theorem dX9_rankOf_0 : decode cX9_rankOf 0 = .ok (.aload_n 0, 1) := by decide +kernel
theorem dX9_rankOf_1 : decode cX9_rankOf 1 = .ok (.getfield 66, 3) := by decide +kernel
theorem dX9_rankOf_4 : decode cX9_rankOf 4 = .ok (.bipush 6, 2) := by decide +kernel
theorem dX9_rankOf_6 : decode cX9_rankOf 6 = .ok (.aload_n 0, 1) := by decide +kernel
theorem dX9_rankOf_7 : decode cX9_rankOf 7 = .ok (.getfield 36, 3) := by decide +kernel
theorem dX9_rankOf_10 : decode cX9_rankOf 10 = .ok (.iload_n 1, 1) := by decide +kernel
theorem dX9_rankOf_11 : decode cX9_rankOf 11 = .ok (.iaload, 1) := by decide +kernel
theorem dX9_rankOf_12 : decode cX9_rankOf 12 = .ok (.iadd, 1) := by decide +kernel
theorem dX9_rankOf_13 : decode cX9_rankOf 13 = .ok (.iaload, 1) := by decide +kernel
theorem dX9_rankOf_14 : decode cX9_rankOf 14 = .ok (.ireturn, 1) := by decide +kernel
theorem dX9_sumOf_0 : decode cX9_sumOf 0 = .ok (.iconst 0, 1) := by decide +kernel
theorem dX9_sumOf_1 : decode cX9_sumOf 1 = .ok (.istore_n 2, 1) := by decide +kernel
theorem dX9_sumOf_2 : decode cX9_sumOf 2 = .ok (.iconst 1, 1) := by decide +kernel
theorem dX9_sumOf_3 : decode cX9_sumOf 3 = .ok (.istore_n 3, 1) := by decide +kernel
theorem dX9_sumOf_4 : decode cX9_sumOf 4 = .ok (.iload_n 3, 1) := by decide +kernel
theorem dX9_sumOf_5 : decode cX9_sumOf 5 = .ok (.iload_n 1, 1) := by decide +kernel
theorem dX9_sumOf_6 : decode cX9_sumOf 6 = .ok (.if_icmp .ge 99, 3) := by decide +kernel
theorem dX9_sumOf_9 : decode cX9_sumOf 9 = .ok (.iload_n 2, 1) := by decide +kernel
theorem dX9_sumOf_10 : decode cX9_sumOf 10 = .ok (.ifCond .lt 95, 3) := by decide +kernel
theorem dX9_sumOf_13 : decode cX9_sumOf 13 = .ok (.aload_n 0, 1) := by decide +kernel
theorem dX9_sumOf_14 : decode cX9_sumOf 14 = .ok (.getfield 126, 3) := by decide +kernel
theorem dX9_sumOf_17 : decode cX9_sumOf 17 = .ok (.bipush 6, 2) := by decide +kernel
theorem dX9_sumOf_19 : decode cX9_sumOf 19 = .ok (.aload_n 0, 1) := by decide +kernel
theorem dX9_sumOf_20 : decode cX9_sumOf 20 = .ok (.getfield 129, 3) := by decide +kernel
theorem dX9_sumOf_23 : decode cX9_sumOf 23 = .ok (.iload_n 3, 1) := by decide +kernel
theorem dX9_sumOf_24 : decode cX9_sumOf 24 = .ok (.iconst 1, 1) := by decide +kernel
theorem dX9_sumOf_25 : decode cX9_sumOf 25 = .ok (.isub, 1) := by decide +kernel
theorem dX9_sumOf_26 : decode cX9_sumOf 26 = .ok (.iaload, 1) := by decide +kernel
theorem dX9_sumOf_27 : decode cX9_sumOf 27 = .ok (.imul, 1) := by decide +kernel
theorem dX9_sumOf_28 : decode cX9_sumOf 28 = .ok (.aload_n 0, 1) := by decide +kernel
theorem dX9_sumOf_29 : decode cX9_sumOf 29 = .ok (.getfield 129, 3) := by decide +kernel
theorem dX9_sumOf_32 : decode cX9_sumOf 32 = .ok (.iload_n 3, 1) := by decide +kernel
theorem dX9_sumOf_33 : decode cX9_sumOf 33 = .ok (.iaload, 1) := by decide +kernel
theorem dX9_sumOf_34 : decode cX9_sumOf 34 = .ok (.iadd, 1) := by decide +kernel
theorem dX9_sumOf_35 : decode cX9_sumOf 35 = .ok (.iaload, 1) := by decide +kernel
theorem dX9_sumOf_36 : decode cX9_sumOf 36 = .ok (.istore 4, 2) := by decide +kernel
theorem dX9_sumOf_38 : decode cX9_sumOf 38 = .ok (.iload 4, 2) := by decide +kernel
theorem dX9_sumOf_40 : decode cX9_sumOf 40 = .ok (.ifCond .le 42, 3) := by decide +kernel
theorem dX9_sumOf_43 : decode cX9_sumOf 43 = .ok (.aload_n 0, 1) := by decide +kernel
theorem dX9_sumOf_44 : decode cX9_sumOf 44 = .ok (.aload_n 0, 1) := by decide +kernel
theorem dX9_sumOf_45 : decode cX9_sumOf 45 = .ok (.getfield 123, 3) := by decide +kernel
theorem dX9_sumOf_48 : decode cX9_sumOf 48 = .ok (.aload_n 0, 1) := by decide +kernel
theorem dX9_sumOf_49 : decode cX9_sumOf 49 = .ok (.getfield 129, 3) := by decide +kernel
theorem dX9_sumOf_52 : decode cX9_sumOf 52 = .ok (.iload_n 3, 1) := by decide +kernel
theorem dX9_sumOf_53 : decode cX9_sumOf 53 = .ok (.iconst 1, 1) := by decide +kernel
theorem dX9_sumOf_54 : decode cX9_sumOf 54 = .ok (.isub, 1) := by decide +kernel
theorem dX9_sumOf_55 : decode cX9_sumOf 55 = .ok (.iaload, 1) := by decide +kernel
theorem dX9_sumOf_56 : decode cX9_sumOf 56 = .ok (.iaload, 1) := by decide +kernel
theorem dX9_sumOf_57 : decode cX9_sumOf 57 = .ok (.invokevirtual 279, 3) := by decide +kernel
theorem dX9_sumOf_60 : decode cX9_sumOf 60 = .ok (.aload_n 0, 1) := by decide +kernel
theorem dX9_sumOf_61 : decode cX9_sumOf 61 = .ok (.aload_n 0, 1) := by decide +kernel
theorem dX9_sumOf_62 : decode cX9_sumOf 62 = .ok (.getfield 123, 3) := by decide +kernel
theorem dX9_sumOf_65 : decode cX9_sumOf 65 = .ok (.aload_n 0, 1) := by decide +kernel
theorem dX9_sumOf_66 : decode cX9_sumOf 66 = .ok (.getfield 129, 3) := by decide +kernel
theorem dX9_sumOf_69 : decode cX9_sumOf 69 = .ok (.iload_n 3, 1) := by decide +kernel
theorem dX9_sumOf_70 : decode cX9_sumOf 70 = .ok (.iaload, 1) := by decide +kernel
theorem dX9_sumOf_71 : decode cX9_sumOf 71 = .ok (.iaload, 1) := by decide +kernel
theorem dX9_sumOf_72 : decode cX9_sumOf 72 = .ok (.invokevirtual 279, 3) := by decide +kernel
theorem dX9_sumOf_75 : decode cX9_sumOf 75 = .ok (.if_icmp .gt 7, 3) := by decide +kernel
theorem dX9_sumOf_78 : decode cX9_sumOf 78 = .ok (.iconst 1, 1) := by decide +kernel
theorem dX9_sumOf_79 : decode cX9_sumOf 79 = .ok (.goto 4, 3) := by decide +kernel
theorem dX9_sumOf_82 : decode cX9_sumOf 82 = .ok (.iconst 0, 1) := by decide +kernel
theorem dX9_sumOf_83 : decode cX9_sumOf 83 = .ok (.istore 5, 2) := by decide +kernel
theorem dX9_sumOf_85 : decode cX9_sumOf 85 = .ok (.iload 5, 2) := by decide +kernel
theorem dX9_sumOf_87 : decode cX9_sumOf 87 = .ok (.ifCond .eq 10, 3) := by decide +kernel
theorem dX9_sumOf_90 : decode cX9_sumOf 90 = .ok (.iload_n 2, 1) := by decide +kernel
theorem dX9_sumOf_91 : decode cX9_sumOf 91 = .ok (.iload 4, 2) := by decide +kernel
theorem dX9_sumOf_93 : decode cX9_sumOf 93 = .ok (.iadd, 1) := by decide +kernel
theorem dX9_sumOf_94 : decode cX9_sumOf 94 = .ok (.goto 4, 3) := by decide +kernel
theorem dX9_sumOf_97 : decode cX9_sumOf 97 = .ok (.iconst (-1), 1) := by decide +kernel
theorem dX9_sumOf_98 : decode cX9_sumOf 98 = .ok (.istore_n 2, 1) := by decide +kernel
theorem dX9_sumOf_99 : decode cX9_sumOf 99 = .ok (.iinc 3 1, 3) := by decide +kernel
theorem dX9_sumOf_102 : decode cX9_sumOf 102 = .ok (.goto (-98), 3) := by decide +kernel
theorem dX9_sumOf_105 : decode cX9_sumOf 105 = .ok (.iload_n 2, 1) := by decide +kernel
theorem dX9_sumOf_106 : decode cX9_sumOf 106 = .ok (.ireturn, 1) := by decide +kernel
theorem dX9_sortGroups_0 : decode cX9_sortGroups 0 = .ok (.iconst 0, 1) := by decide +kernel
theorem dX9_sortGroups_1 : decode cX9_sortGroups 1 = .ok (.istore_n 2, 1) := by decide +kernel
theorem dX9_sortGroups_2 : decode cX9_sortGroups 2 = .ok (.iload_n 2, 1) := by decide +kernel
theorem dX9_sortGroups_3 : decode cX9_sortGroups 3 = .ok (.aload_n 0, 1) := by decide +kernel
theorem dX9_sortGroups_4 : decode cX9_sortGroups 4 = .ok (.getfield 72, 3) := by decide +kernel
theorem dX9_sortGroups_7 : decode cX9_sortGroups 7 = .ok (.iload_n 1, 1) := by decide +kernel
theorem dX9_sortGroups_8 : decode cX9_sortGroups 8 = .ok (.iaload, 1) := by decide +kernel
theorem dX9_sortGroups_9 : decode cX9_sortGroups 9 = .ok (.if_icmp .ge 72, 3) := by decide +kernel
theorem dX9_sortGroups_12 : decode cX9_sortGroups 12 = .ok (.aload_n 0, 1) := by decide +kernel
theorem dX9_sortGroups_13 : decode cX9_sortGroups 13 = .ok (.getfield 75, 3) := by decide +kernel
theorem dX9_sortGroups_16 : decode cX9_sortGroups 16 = .ok (.bipush 6, 2) := by decide +kernel
theorem dX9_sortGroups_18 : decode cX9_sortGroups 18 = .ok (.iload_n 1, 1) := by decide +kernel
theorem dX9_sortGroups_19 : decode cX9_sortGroups 19 = .ok (.imul, 1) := by decide +kernel
theorem dX9_sortGroups_20 : decode cX9_sortGroups 20 = .ok (.iload_n 2, 1) := by decide +kernel
theorem dX9_sortGroups_21 : decode cX9_sortGroups 21 = .ok (.iadd, 1) := by decide +kernel
theorem dX9_sortGroups_22 : decode cX9_sortGroups 22 = .ok (.iaload, 1) := by decide +kernel
theorem dX9_sortGroups_23 : decode cX9_sortGroups 23 = .ok (.istore_n 3, 1) := by decide +kernel
theorem dX9_sortGroups_24 : decode cX9_sortGroups 24 = .ok (.iload_n 2, 1) := by decide +kernel
theorem dX9_sortGroups_25 : decode cX9_sortGroups 25 = .ok (.istore 4, 2) := by decide +kernel
theorem dX9_sortGroups_27 : decode cX9_sortGroups 27 = .ok (.iload 4, 2) := by decide +kernel
theorem dX9_sortGroups_29 : decode cX9_sortGroups 29 = .ok (.ifCond .le 38, 3) := by decide +kernel
theorem dX9_sortGroups_32 : decode cX9_sortGroups 32 = .ok (.aload_n 0, 1) := by decide +kernel
theorem dX9_sortGroups_33 : decode cX9_sortGroups 33 = .ok (.getfield 123, 3) := by decide +kernel
theorem dX9_sortGroups_36 : decode cX9_sortGroups 36 = .ok (.iload 4, 2) := by decide +kernel
theorem dX9_sortGroups_38 : decode cX9_sortGroups 38 = .ok (.iconst 1, 1) := by decide +kernel
theorem dX9_sortGroups_39 : decode cX9_sortGroups 39 = .ok (.isub, 1) := by decide +kernel
theorem dX9_sortGroups_40 : decode cX9_sortGroups 40 = .ok (.iaload, 1) := by decide +kernel
theorem dX9_sortGroups_41 : decode cX9_sortGroups 41 = .ok (.iload_n 3, 1) := by decide +kernel
theorem dX9_sortGroups_42 : decode cX9_sortGroups 42 = .ok (.if_icmp .le 25, 3) := by decide +kernel
theorem dX9_sortGroups_45 : decode cX9_sortGroups 45 = .ok (.aload_n 0, 1) := by decide +kernel
theorem dX9_sortGroups_46 : decode cX9_sortGroups 46 = .ok (.getfield 123, 3) := by decide +kernel
theorem dX9_sortGroups_49 : decode cX9_sortGroups 49 = .ok (.iload 4, 2) := by decide +kernel
theorem dX9_sortGroups_51 : decode cX9_sortGroups 51 = .ok (.aload_n 0, 1) := by decide +kernel
theorem dX9_sortGroups_52 : decode cX9_sortGroups 52 = .ok (.getfield 123, 3) := by decide +kernel
theorem dX9_sortGroups_55 : decode cX9_sortGroups 55 = .ok (.iload 4, 2) := by decide +kernel
theorem dX9_sortGroups_57 : decode cX9_sortGroups 57 = .ok (.iconst 1, 1) := by decide +kernel
theorem dX9_sortGroups_58 : decode cX9_sortGroups 58 = .ok (.isub, 1) := by decide +kernel
theorem dX9_sortGroups_59 : decode cX9_sortGroups 59 = .ok (.iaload, 1) := by decide +kernel
theorem dX9_sortGroups_60 : decode cX9_sortGroups 60 = .ok (.iastore, 1) := by decide +kernel
theorem dX9_sortGroups_61 : decode cX9_sortGroups 61 = .ok (.iinc 4 (-1), 3) := by decide +kernel
theorem dX9_sortGroups_64 : decode cX9_sortGroups 64 = .ok (.goto (-37), 3) := by decide +kernel
theorem dX9_sortGroups_67 : decode cX9_sortGroups 67 = .ok (.aload_n 0, 1) := by decide +kernel
theorem dX9_sortGroups_68 : decode cX9_sortGroups 68 = .ok (.getfield 123, 3) := by decide +kernel
theorem dX9_sortGroups_71 : decode cX9_sortGroups 71 = .ok (.iload 4, 2) := by decide +kernel
theorem dX9_sortGroups_73 : decode cX9_sortGroups 73 = .ok (.iload_n 3, 1) := by decide +kernel
theorem dX9_sortGroups_74 : decode cX9_sortGroups 74 = .ok (.iastore, 1) := by decide +kernel
theorem dX9_sortGroups_75 : decode cX9_sortGroups 75 = .ok (.iinc 2 1, 3) := by decide +kernel
theorem dX9_sortGroups_78 : decode cX9_sortGroups 78 = .ok (.goto (-76), 3) := by decide +kernel
theorem dX9_sortGroups_81 : decode cX9_sortGroups 81 = .ok (.return_, 1) := by decide +kernel
theorem dX9_order_0 : decode cX9_order 0 = .ok (.aload_n 0, 1) := by decide +kernel
theorem dX9_order_1 : decode cX9_order 1 = .ok (.iload_n 1, 1) := by decide +kernel
theorem dX9_order_2 : decode cX9_order 2 = .ok (.invokevirtual 149, 3) := by decide +kernel
theorem dX9_order_5 : decode cX9_order 5 = .ok (.ifCond .ne 5, 3) := by decide +kernel
theorem dX9_order_8 : decode cX9_order 8 = .ok (.iconst (-1), 1) := by decide +kernel
theorem dX9_order_9 : decode cX9_order 9 = .ok (.ireturn, 1) := by decide +kernel
theorem dX9_order_10 : decode cX9_order 10 = .ok (.aload_n 0, 1) := by decide +kernel
theorem dX9_order_11 : decode cX9_order 11 = .ok (.getfield 84, 3) := by decide +kernel
theorem dX9_order_14 : decode cX9_order 14 = .ok (.iload_n 1, 1) := by decide +kernel
theorem dX9_order_15 : decode cX9_order 15 = .ok (.baload, 1) := by decide +kernel
theorem dX9_order_16 : decode cX9_order 16 = .ok (.ifCond .eq 6, 3) := by decide +kernel
theorem dX9_order_19 : decode cX9_order 19 = .ok (.bipush (-6), 2) := by decide +kernel
theorem dX9_order_21 : decode cX9_order 21 = .ok (.ireturn, 1) := by decide +kernel
theorem dX9_order_22 : decode cX9_order 22 = .ok (.aload_n 0, 1) := by decide +kernel
theorem dX9_order_23 : decode cX9_order 23 = .ok (.getfield 72, 3) := by decide +kernel
theorem dX9_order_26 : decode cX9_order 26 = .ok (.iload_n 1, 1) := by decide +kernel
theorem dX9_order_27 : decode cX9_order 27 = .ok (.iaload, 1) := by decide +kernel
theorem dX9_order_28 : decode cX9_order 28 = .ok (.istore_n 2, 1) := by decide +kernel
theorem dX9_order_29 : decode cX9_order 29 = .ok (.iload_n 2, 1) := by decide +kernel
theorem dX9_order_30 : decode cX9_order 30 = .ok (.ifCond .ne 6, 3) := by decide +kernel
theorem dX9_order_33 : decode cX9_order 33 = .ok (.bipush (-7), 2) := by decide +kernel
theorem dX9_order_35 : decode cX9_order 35 = .ok (.ireturn, 1) := by decide +kernel
theorem dX9_order_36 : decode cX9_order 36 = .ok (.aload_n 0, 1) := by decide +kernel
theorem dX9_order_37 : decode cX9_order 37 = .ok (.iload_n 1, 1) := by decide +kernel
theorem dX9_order_38 : decode cX9_order 38 = .ok (.invokevirtual 253, 3) := by decide +kernel
theorem dX9_order_41 : decode cX9_order 41 = .ok (.aload_n 0, 1) := by decide +kernel
theorem dX9_order_42 : decode cX9_order 42 = .ok (.iload_n 1, 1) := by decide +kernel
theorem dX9_order_43 : decode cX9_order 43 = .ok (.invokevirtual 282, 3) := by decide +kernel
theorem dX9_order_46 : decode cX9_order 46 = .ok (.iconst 0, 1) := by decide +kernel
theorem dX9_order_47 : decode cX9_order 47 = .ok (.istore_n 3, 1) := by decide +kernel
theorem dX9_order_48 : decode cX9_order 48 = .ok (.iload_n 3, 1) := by decide +kernel
theorem dX9_order_49 : decode cX9_order 49 = .ok (.iload_n 2, 1) := by decide +kernel
theorem dX9_order_50 : decode cX9_order 50 = .ok (.if_icmp .ge 71, 3) := by decide +kernel
theorem dX9_order_53 : decode cX9_order 53 = .ok (.iconst 0, 1) := by decide +kernel
theorem dX9_order_54 : decode cX9_order 54 = .ok (.istore 4, 2) := by decide +kernel
theorem dX9_order_56 : decode cX9_order 56 = .ok (.iload 4, 2) := by decide +kernel
theorem dX9_order_58 : decode cX9_order 58 = .ok (.iload_n 2, 1) := by decide +kernel
theorem dX9_order_59 : decode cX9_order 59 = .ok (.if_icmp .ge 49, 3) := by decide +kernel
theorem dX9_order_62 : decode cX9_order 62 = .ok (.aload_n 0, 1) := by decide +kernel
theorem dX9_order_63 : decode cX9_order 63 = .ok (.getfield 126, 3) := by decide +kernel
theorem dX9_order_66 : decode cX9_order 66 = .ok (.bipush 6, 2) := by decide +kernel
theorem dX9_order_68 : decode cX9_order 68 = .ok (.iload_n 3, 1) := by decide +kernel
theorem dX9_order_69 : decode cX9_order 69 = .ok (.imul, 1) := by decide +kernel
theorem dX9_order_70 : decode cX9_order 70 = .ok (.iload 4, 2) := by decide +kernel
theorem dX9_order_72 : decode cX9_order 72 = .ok (.iadd, 1) := by decide +kernel
theorem dX9_order_73 : decode cX9_order 73 = .ok (.iload_n 3, 1) := by decide +kernel
theorem dX9_order_74 : decode cX9_order 74 = .ok (.iload 4, 2) := by decide +kernel
theorem dX9_order_76 : decode cX9_order 76 = .ok (.if_icmp .ne 8, 3) := by decide +kernel
theorem dX9_order_79 : decode cX9_order 79 = .ok (.bipush (-7), 2) := by decide +kernel
theorem dX9_order_81 : decode cX9_order 81 = .ok (.goto 20, 3) := by decide +kernel
theorem dX9_order_84 : decode cX9_order 84 = .ok (.aload_n 0, 1) := by decide +kernel
theorem dX9_order_85 : decode cX9_order 85 = .ok (.aload_n 0, 1) := by decide +kernel
theorem dX9_order_86 : decode cX9_order 86 = .ok (.getfield 123, 3) := by decide +kernel
theorem dX9_order_89 : decode cX9_order 89 = .ok (.iload_n 3, 1) := by decide +kernel
theorem dX9_order_90 : decode cX9_order 90 = .ok (.iaload, 1) := by decide +kernel
theorem dX9_order_91 : decode cX9_order 91 = .ok (.aload_n 0, 1) := by decide +kernel
theorem dX9_order_92 : decode cX9_order 92 = .ok (.getfield 123, 3) := by decide +kernel
theorem dX9_order_95 : decode cX9_order 95 = .ok (.iload 4, 2) := by decide +kernel
theorem dX9_order_97 : decode cX9_order 97 = .ok (.iaload, 1) := by decide +kernel
theorem dX9_order_98 : decode cX9_order 98 = .ok (.invokevirtual 276, 3) := by decide +kernel
theorem dX9_order_101 : decode cX9_order 101 = .ok (.iastore, 1) := by decide +kernel
theorem dX9_order_102 : decode cX9_order 102 = .ok (.iinc 4 1, 3) := by decide +kernel
theorem dX9_order_105 : decode cX9_order 105 = .ok (.goto (-49), 3) := by decide +kernel
theorem dX9_order_108 : decode cX9_order 108 = .ok (.aload_n 0, 1) := by decide +kernel
theorem dX9_order_109 : decode cX9_order 109 = .ok (.getfield 129, 3) := by decide +kernel
theorem dX9_order_112 : decode cX9_order 112 = .ok (.iload_n 3, 1) := by decide +kernel
theorem dX9_order_113 : decode cX9_order 113 = .ok (.iload_n 3, 1) := by decide +kernel
theorem dX9_order_114 : decode cX9_order 114 = .ok (.iastore, 1) := by decide +kernel
theorem dX9_order_115 : decode cX9_order 115 = .ok (.iinc 3 1, 3) := by decide +kernel
theorem dX9_order_118 : decode cX9_order 118 = .ok (.goto (-70), 3) := by decide +kernel
theorem dX9_order_121 : decode cX9_order 121 = .ok (.iconst (-1), 1) := by decide +kernel
theorem dX9_order_122 : decode cX9_order 122 = .ok (.istore_n 3, 1) := by decide +kernel
theorem dX9_order_123 : decode cX9_order 123 = .ok (.iconst 1, 1) := by decide +kernel
theorem dX9_order_124 : decode cX9_order 124 = .ok (.istore 4, 2) := by decide +kernel
theorem dX9_order_126 : decode cX9_order 126 = .ok (.iload 4, 2) := by decide +kernel
theorem dX9_order_128 : decode cX9_order 128 = .ok (.ifCond .eq 67, 3) := by decide +kernel
theorem dX9_order_131 : decode cX9_order 131 = .ok (.aload_n 0, 1) := by decide +kernel
theorem dX9_order_132 : decode cX9_order 132 = .ok (.iload_n 2, 1) := by decide +kernel
theorem dX9_order_133 : decode cX9_order 133 = .ok (.invokevirtual 285, 3) := by decide +kernel
theorem dX9_order_136 : decode cX9_order 136 = .ok (.istore 5, 2) := by decide +kernel
theorem dX9_order_138 : decode cX9_order 138 = .ok (.iload 5, 2) := by decide +kernel
theorem dX9_order_140 : decode cX9_order 140 = .ok (.ifCond .lt 45, 3) := by decide +kernel
theorem dX9_order_143 : decode cX9_order 143 = .ok (.iload_n 3, 1) := by decide +kernel
theorem dX9_order_144 : decode cX9_order 144 = .ok (.ifCond .lt 9, 3) := by decide +kernel
theorem dX9_order_147 : decode cX9_order 147 = .ok (.iload 5, 2) := by decide +kernel
theorem dX9_order_149 : decode cX9_order 149 = .ok (.iload_n 3, 1) := by decide +kernel
theorem dX9_order_150 : decode cX9_order 150 = .ok (.if_icmp .ge 35, 3) := by decide +kernel
theorem dX9_order_153 : decode cX9_order 153 = .ok (.iload 5, 2) := by decide +kernel
theorem dX9_order_155 : decode cX9_order 155 = .ok (.istore_n 3, 1) := by decide +kernel
theorem dX9_order_156 : decode cX9_order 156 = .ok (.iconst 0, 1) := by decide +kernel
theorem dX9_order_157 : decode cX9_order 157 = .ok (.istore 6, 2) := by decide +kernel
theorem dX9_order_159 : decode cX9_order 159 = .ok (.iload 6, 2) := by decide +kernel
theorem dX9_order_161 : decode cX9_order 161 = .ok (.iload_n 2, 1) := by decide +kernel
theorem dX9_order_162 : decode cX9_order 162 = .ok (.if_icmp .ge 23, 3) := by decide +kernel
theorem dX9_order_165 : decode cX9_order 165 = .ok (.aload_n 0, 1) := by decide +kernel
theorem dX9_order_166 : decode cX9_order 166 = .ok (.getfield 132, 3) := by decide +kernel
theorem dX9_order_169 : decode cX9_order 169 = .ok (.iload 6, 2) := by decide +kernel
theorem dX9_order_171 : decode cX9_order 171 = .ok (.aload_n 0, 1) := by decide +kernel
theorem dX9_order_172 : decode cX9_order 172 = .ok (.getfield 129, 3) := by decide +kernel
theorem dX9_order_175 : decode cX9_order 175 = .ok (.iload 6, 2) := by decide +kernel
theorem dX9_order_177 : decode cX9_order 177 = .ok (.iaload, 1) := by decide +kernel
theorem dX9_order_178 : decode cX9_order 178 = .ok (.iastore, 1) := by decide +kernel
theorem dX9_order_179 : decode cX9_order 179 = .ok (.iinc 6 1, 3) := by decide +kernel
theorem dX9_order_182 : decode cX9_order 182 = .ok (.goto (-23), 3) := by decide +kernel
theorem dX9_order_185 : decode cX9_order 185 = .ok (.aload_n 0, 1) := by decide +kernel
theorem dX9_order_186 : decode cX9_order 186 = .ok (.iload_n 2, 1) := by decide +kernel
theorem dX9_order_187 : decode cX9_order 187 = .ok (.invokevirtual 288, 3) := by decide +kernel
theorem dX9_order_190 : decode cX9_order 190 = .ok (.istore 4, 2) := by decide +kernel
theorem dX9_order_192 : decode cX9_order 192 = .ok (.goto (-66), 3) := by decide +kernel
theorem dX9_order_195 : decode cX9_order 195 = .ok (.iload_n 3, 1) := by decide +kernel
theorem dX9_order_196 : decode cX9_order 196 = .ok (.ifCond .ge 6, 3) := by decide +kernel
theorem dX9_order_199 : decode cX9_order 199 = .ok (.bipush (-7), 2) := by decide +kernel
theorem dX9_order_201 : decode cX9_order 201 = .ok (.ireturn, 1) := by decide +kernel
theorem dX9_order_202 : decode cX9_order 202 = .ok (.iconst 0, 1) := by decide +kernel
theorem dX9_order_203 : decode cX9_order 203 = .ok (.istore 5, 2) := by decide +kernel
theorem dX9_order_205 : decode cX9_order 205 = .ok (.iload 5, 2) := by decide +kernel
theorem dX9_order_207 : decode cX9_order 207 = .ok (.iload_n 2, 1) := by decide +kernel
theorem dX9_order_208 : decode cX9_order 208 = .ok (.if_icmp .ge 79, 3) := by decide +kernel
theorem dX9_order_211 : decode cX9_order 211 = .ok (.aload_n 0, 1) := by decide +kernel
theorem dX9_order_212 : decode cX9_order 212 = .ok (.getfield 75, 3) := by decide +kernel
theorem dX9_order_215 : decode cX9_order 215 = .ok (.bipush 6, 2) := by decide +kernel
theorem dX9_order_217 : decode cX9_order 217 = .ok (.iload_n 1, 1) := by decide +kernel
theorem dX9_order_218 : decode cX9_order 218 = .ok (.imul, 1) := by decide +kernel
theorem dX9_order_219 : decode cX9_order 219 = .ok (.iload 5, 2) := by decide +kernel
theorem dX9_order_221 : decode cX9_order 221 = .ok (.iadd, 1) := by decide +kernel
theorem dX9_order_222 : decode cX9_order 222 = .ok (.aload_n 0, 1) := by decide +kernel
theorem dX9_order_223 : decode cX9_order 223 = .ok (.getfield 123, 3) := by decide +kernel
theorem dX9_order_226 : decode cX9_order 226 = .ok (.aload_n 0, 1) := by decide +kernel
theorem dX9_order_227 : decode cX9_order 227 = .ok (.getfield 132, 3) := by decide +kernel
theorem dX9_order_230 : decode cX9_order 230 = .ok (.iload 5, 2) := by decide +kernel
theorem dX9_order_232 : decode cX9_order 232 = .ok (.iaload, 1) := by decide +kernel
theorem dX9_order_233 : decode cX9_order 233 = .ok (.iaload, 1) := by decide +kernel
theorem dX9_order_234 : decode cX9_order 234 = .ok (.iastore, 1) := by decide +kernel
theorem dX9_order_235 : decode cX9_order 235 = .ok (.aload_n 0, 1) := by decide +kernel
theorem dX9_order_236 : decode cX9_order 236 = .ok (.getfield 78, 3) := by decide +kernel
theorem dX9_order_239 : decode cX9_order 239 = .ok (.bipush 6, 2) := by decide +kernel
theorem dX9_order_241 : decode cX9_order 241 = .ok (.iload_n 1, 1) := by decide +kernel
theorem dX9_order_242 : decode cX9_order 242 = .ok (.imul, 1) := by decide +kernel
theorem dX9_order_243 : decode cX9_order 243 = .ok (.iload 5, 2) := by decide +kernel
theorem dX9_order_245 : decode cX9_order 245 = .ok (.iadd, 1) := by decide +kernel
theorem dX9_order_246 : decode cX9_order 246 = .ok (.iload 5, 2) := by decide +kernel
theorem dX9_order_248 : decode cX9_order 248 = .ok (.ifCond .ne 7, 3) := by decide +kernel
theorem dX9_order_251 : decode cX9_order 251 = .ok (.iconst 1, 1) := by decide +kernel
theorem dX9_order_252 : decode cX9_order 252 = .ok (.goto 28, 3) := by decide +kernel
theorem dX9_order_255 : decode cX9_order 255 = .ok (.aload_n 0, 1) := by decide +kernel
theorem dX9_order_256 : decode cX9_order 256 = .ok (.getfield 126, 3) := by decide +kernel
theorem dX9_order_259 : decode cX9_order 259 = .ok (.bipush 6, 2) := by decide +kernel
theorem dX9_order_261 : decode cX9_order 261 = .ok (.aload_n 0, 1) := by decide +kernel
theorem dX9_order_262 : decode cX9_order 262 = .ok (.getfield 132, 3) := by decide +kernel
theorem dX9_order_265 : decode cX9_order 265 = .ok (.iload 5, 2) := by decide +kernel
theorem dX9_order_267 : decode cX9_order 267 = .ok (.iconst 1, 1) := by decide +kernel
theorem dX9_order_268 : decode cX9_order 268 = .ok (.isub, 1) := by decide +kernel
theorem dX9_order_269 : decode cX9_order 269 = .ok (.iaload, 1) := by decide +kernel
theorem dX9_order_270 : decode cX9_order 270 = .ok (.imul, 1) := by decide +kernel
theorem dX9_order_271 : decode cX9_order 271 = .ok (.aload_n 0, 1) := by decide +kernel
theorem dX9_order_272 : decode cX9_order 272 = .ok (.getfield 132, 3) := by decide +kernel
theorem dX9_order_275 : decode cX9_order 275 = .ok (.iload 5, 2) := by decide +kernel
theorem dX9_order_277 : decode cX9_order 277 = .ok (.iaload, 1) := by decide +kernel
theorem dX9_order_278 : decode cX9_order 278 = .ok (.iadd, 1) := by decide +kernel
theorem dX9_order_279 : decode cX9_order 279 = .ok (.iaload, 1) := by decide +kernel
theorem dX9_order_280 : decode cX9_order 280 = .ok (.iastore, 1) := by decide +kernel
theorem dX9_order_281 : decode cX9_order 281 = .ok (.iinc 5 1, 3) := by decide +kernel
theorem dX9_order_284 : decode cX9_order 284 = .ok (.goto (-79), 3) := by decide +kernel
theorem dX9_order_287 : decode cX9_order 287 = .ok (.iload_n 3, 1) := by decide +kernel
theorem dX9_order_288 : decode cX9_order 288 = .ok (.ireturn, 1) := by decide +kernel
theorem dX9_root_0 : decode cX9_root 0 = .ok (.lconst 0, 1) := by decide +kernel
theorem dX9_root_1 : decode cX9_root 1 = .ok (.lstore_n 2, 1) := by decide +kernel
theorem dX9_root_2 : decode cX9_root 2 = .ok (.ldc2_w 291, 3) := by decide +kernel
theorem dX9_root_5 : decode cX9_root 5 = .ok (.lstore 4, 2) := by decide +kernel
theorem dX9_root_7 : decode cX9_root 7 = .ok (.lload 4, 2) := by decide +kernel
theorem dX9_root_9 : decode cX9_root 9 = .ok (.lconst 0, 1) := by decide +kernel
theorem dX9_root_10 : decode cX9_root 10 = .ok (.lcmp, 1) := by decide +kernel
theorem dX9_root_11 : decode cX9_root 11 = .ok (.ifCond .le 35, 3) := by decide +kernel
theorem dX9_root_14 : decode cX9_root 14 = .ok (.lload_n 2, 1) := by decide +kernel
theorem dX9_root_15 : decode cX9_root 15 = .ok (.lload_n 2, 1) := by decide +kernel
theorem dX9_root_16 : decode cX9_root 16 = .ok (.lload 4, 2) := by decide +kernel
theorem dX9_root_18 : decode cX9_root 18 = .ok (.ladd, 1) := by decide +kernel
theorem dX9_root_19 : decode cX9_root 19 = .ok (.lload_n 2, 1) := by decide +kernel
theorem dX9_root_20 : decode cX9_root 20 = .ok (.lload 4, 2) := by decide +kernel
theorem dX9_root_22 : decode cX9_root 22 = .ok (.ladd, 1) := by decide +kernel
theorem dX9_root_23 : decode cX9_root 23 = .ok (.lmul, 1) := by decide +kernel
theorem dX9_root_24 : decode cX9_root 24 = .ok (.lload_n 0, 1) := by decide +kernel
theorem dX9_root_25 : decode cX9_root 25 = .ok (.lcmp, 1) := by decide +kernel
theorem dX9_root_26 : decode cX9_root 26 = .ok (.ifCond .gt 8, 3) := by decide +kernel
theorem dX9_root_29 : decode cX9_root 29 = .ok (.lload 4, 2) := by decide +kernel
theorem dX9_root_31 : decode cX9_root 31 = .ok (.goto 4, 3) := by decide +kernel
theorem dX9_root_34 : decode cX9_root 34 = .ok (.lconst 0, 1) := by decide +kernel
theorem dX9_root_35 : decode cX9_root 35 = .ok (.ladd, 1) := by decide +kernel
theorem dX9_root_36 : decode cX9_root 36 = .ok (.lstore_n 2, 1) := by decide +kernel
theorem dX9_root_37 : decode cX9_root 37 = .ok (.lload 4, 2) := by decide +kernel
theorem dX9_root_39 : decode cX9_root 39 = .ok (.iconst 1, 1) := by decide +kernel
theorem dX9_root_40 : decode cX9_root 40 = .ok (.lshr, 1) := by decide +kernel
theorem dX9_root_41 : decode cX9_root 41 = .ok (.lstore 4, 2) := by decide +kernel
theorem dX9_root_43 : decode cX9_root 43 = .ok (.goto (-36), 3) := by decide +kernel
theorem dX9_root_46 : decode cX9_root 46 = .ok (.lload_n 2, 1) := by decide +kernel
theorem dX9_root_47 : decode cX9_root 47 = .ok (.lreturn, 1) := by decide +kernel
theorem dX9_findStarts_0 : decode cX9_findStarts 0 = .ok (.aload_n 0, 1) := by decide +kernel
theorem dX9_findStarts_1 : decode cX9_findStarts 1 = .ok (.ldc2_w 228, 3) := by decide +kernel
theorem dX9_findStarts_4 : decode cX9_findStarts 4 = .ok (.putfield 293, 3) := by decide +kernel
theorem dX9_findStarts_7 : decode cX9_findStarts 7 = .ok (.aload_n 0, 1) := by decide +kernel
theorem dX9_findStarts_8 : decode cX9_findStarts 8 = .ok (.ldc2_w 230, 3) := by decide +kernel
theorem dX9_findStarts_11 : decode cX9_findStarts 11 = .ok (.putfield 297, 3) := by decide +kernel
theorem dX9_findStarts_14 : decode cX9_findStarts 14 = .ok (.iconst 0, 1) := by decide +kernel
theorem dX9_findStarts_15 : decode cX9_findStarts 15 = .ok (.istore_n 2, 1) := by decide +kernel
theorem dX9_findStarts_16 : decode cX9_findStarts 16 = .ok (.iload_n 2, 1) := by decide +kernel
theorem dX9_findStarts_17 : decode cX9_findStarts 17 = .ok (.aload_n 0, 1) := by decide +kernel
theorem dX9_findStarts_18 : decode cX9_findStarts 18 = .ok (.getfield 72, 3) := by decide +kernel
theorem dX9_findStarts_21 : decode cX9_findStarts 21 = .ok (.iload_n 1, 1) := by decide +kernel
theorem dX9_findStarts_22 : decode cX9_findStarts 22 = .ok (.iaload, 1) := by decide +kernel
theorem dX9_findStarts_23 : decode cX9_findStarts 23 = .ok (.if_icmp .ge 192, 3) := by decide +kernel
theorem dX9_findStarts_26 : decode cX9_findStarts 26 = .ok (.aload_n 0, 1) := by decide +kernel
theorem dX9_findStarts_27 : decode cX9_findStarts 27 = .ok (.getfield 75, 3) := by decide +kernel
theorem dX9_findStarts_30 : decode cX9_findStarts 30 = .ok (.bipush 6, 2) := by decide +kernel
theorem dX9_findStarts_32 : decode cX9_findStarts 32 = .ok (.iload_n 1, 1) := by decide +kernel
theorem dX9_findStarts_33 : decode cX9_findStarts 33 = .ok (.imul, 1) := by decide +kernel
theorem dX9_findStarts_34 : decode cX9_findStarts 34 = .ok (.iload_n 2, 1) := by decide +kernel
theorem dX9_findStarts_35 : decode cX9_findStarts 35 = .ok (.iadd, 1) := by decide +kernel
theorem dX9_findStarts_36 : decode cX9_findStarts 36 = .ok (.iaload, 1) := by decide +kernel
theorem dX9_findStarts_37 : decode cX9_findStarts 37 = .ok (.istore_n 3, 1) := by decide +kernel
theorem dX9_findStarts_38 : decode cX9_findStarts 38 = .ok (.aload_n 0, 1) := by decide +kernel
theorem dX9_findStarts_39 : decode cX9_findStarts 39 = .ok (.iload_n 3, 1) := by decide +kernel
theorem dX9_findStarts_40 : decode cX9_findStarts 40 = .ok (.iconst 0, 1) := by decide +kernel
theorem dX9_findStarts_41 : decode cX9_findStarts 41 = .ok (.invokevirtual 256, 3) := by decide +kernel
theorem dX9_findStarts_44 : decode cX9_findStarts 44 = .ok (.aload_n 0, 1) := by decide +kernel
theorem dX9_findStarts_45 : decode cX9_findStarts 45 = .ok (.getfield 235, 3) := by decide +kernel
theorem dX9_findStarts_48 : decode cX9_findStarts 48 = .ok (.i2l, 1) := by decide +kernel
theorem dX9_findStarts_49 : decode cX9_findStarts 49 = .ok (.aload_n 0, 1) := by decide +kernel
theorem dX9_findStarts_50 : decode cX9_findStarts 50 = .ok (.iload_n 1, 1) := by decide +kernel
theorem dX9_findStarts_51 : decode cX9_findStarts 51 = .ok (.iload_n 2, 1) := by decide +kernel
theorem dX9_findStarts_52 : decode cX9_findStarts 52 = .ok (.invokevirtual 232, 3) := by decide +kernel
theorem dX9_findStarts_55 : decode cX9_findStarts 55 = .ok (.i2l, 1) := by decide +kernel
theorem dX9_findStarts_56 : decode cX9_findStarts 56 = .ok (.lmul, 1) := by decide +kernel
theorem dX9_findStarts_57 : decode cX9_findStarts 57 = .ok (.aload_n 0, 1) := by decide +kernel
theorem dX9_findStarts_58 : decode cX9_findStarts 58 = .ok (.getfield 105, 3) := by decide +kernel
theorem dX9_findStarts_61 : decode cX9_findStarts 61 = .ok (.aload_n 0, 1) := by decide +kernel
theorem dX9_findStarts_62 : decode cX9_findStarts 62 = .ok (.getfield 117, 3) := by decide +kernel
theorem dX9_findStarts_65 : decode cX9_findStarts 65 = .ok (.iconst 0, 1) := by decide +kernel
theorem dX9_findStarts_66 : decode cX9_findStarts 66 = .ok (.iaload, 1) := by decide +kernel
theorem dX9_findStarts_67 : decode cX9_findStarts 67 = .ok (.iaload, 1) := by decide +kernel
theorem dX9_findStarts_68 : decode cX9_findStarts 68 = .ok (.i2l, 1) := by decide +kernel
theorem dX9_findStarts_69 : decode cX9_findStarts 69 = .ok (.ladd, 1) := by decide +kernel
theorem dX9_findStarts_70 : decode cX9_findStarts 70 = .ok (.lstore 4, 2) := by decide +kernel
theorem dX9_findStarts_72 : decode cX9_findStarts 72 = .ok (.aload_n 0, 1) := by decide +kernel
theorem dX9_findStarts_73 : decode cX9_findStarts 73 = .ok (.getfield 108, 3) := by decide +kernel
theorem dX9_findStarts_76 : decode cX9_findStarts 76 = .ok (.aload_n 0, 1) := by decide +kernel
theorem dX9_findStarts_77 : decode cX9_findStarts 77 = .ok (.getfield 117, 3) := by decide +kernel
theorem dX9_findStarts_80 : decode cX9_findStarts 80 = .ok (.iconst 0, 1) := by decide +kernel
theorem dX9_findStarts_81 : decode cX9_findStarts 81 = .ok (.iaload, 1) := by decide +kernel
theorem dX9_findStarts_82 : decode cX9_findStarts 82 = .ok (.iaload, 1) := by decide +kernel
theorem dX9_findStarts_83 : decode cX9_findStarts 83 = .ok (.i2l, 1) := by decide +kernel
theorem dX9_findStarts_84 : decode cX9_findStarts 84 = .ok (.lstore 6, 2) := by decide +kernel
theorem dX9_findStarts_86 : decode cX9_findStarts 86 = .ok (.aload_n 0, 1) := by decide +kernel
theorem dX9_findStarts_87 : decode cX9_findStarts 87 = .ok (.getfield 66, 3) := by decide +kernel
theorem dX9_findStarts_90 : decode cX9_findStarts 90 = .ok (.iconst 1, 1) := by decide +kernel
theorem dX9_findStarts_91 : decode cX9_findStarts 91 = .ok (.iaload, 1) := by decide +kernel
theorem dX9_findStarts_92 : decode cX9_findStarts 92 = .ok (.i2l, 1) := by decide +kernel
theorem dX9_findStarts_93 : decode cX9_findStarts 93 = .ok (.aload_n 0, 1) := by decide +kernel
theorem dX9_findStarts_94 : decode cX9_findStarts 94 = .ok (.getfield 42, 3) := by decide +kernel
theorem dX9_findStarts_97 : decode cX9_findStarts 97 = .ok (.iload_n 3, 1) := by decide +kernel
theorem dX9_findStarts_98 : decode cX9_findStarts 98 = .ok (.iaload, 1) := by decide +kernel
theorem dX9_findStarts_99 : decode cX9_findStarts 99 = .ok (.i2l, 1) := by decide +kernel
theorem dX9_findStarts_100 : decode cX9_findStarts 100 = .ok (.aload_n 0, 1) := by decide +kernel
theorem dX9_findStarts_101 : decode cX9_findStarts 101 = .ok (.getfield 120, 3) := by decide +kernel
theorem dX9_findStarts_104 : decode cX9_findStarts 104 = .ok (.iconst 0, 1) := by decide +kernel
theorem dX9_findStarts_105 : decode cX9_findStarts 105 = .ok (.iaload, 1) := by decide +kernel
theorem dX9_findStarts_106 : decode cX9_findStarts 106 = .ok (.i2l, 1) := by decide +kernel
theorem dX9_findStarts_107 : decode cX9_findStarts 107 = .ok (.lmul, 1) := by decide +kernel
theorem dX9_findStarts_108 : decode cX9_findStarts 108 = .ok (.ladd, 1) := by decide +kernel
theorem dX9_findStarts_109 : decode cX9_findStarts 109 = .ok (.lstore 8, 2) := by decide +kernel
theorem dX9_findStarts_111 : decode cX9_findStarts 111 = .ok (.lload 8, 2) := by decide +kernel
theorem dX9_findStarts_113 : decode cX9_findStarts 113 = .ok (.lload 8, 2) := by decide +kernel
theorem dX9_findStarts_115 : decode cX9_findStarts 115 = .ok (.lmul, 1) := by decide +kernel
theorem dX9_findStarts_116 : decode cX9_findStarts 116 = .ok (.lload 6, 2) := by decide +kernel
theorem dX9_findStarts_118 : decode cX9_findStarts 118 = .ok (.lload 6, 2) := by decide +kernel
theorem dX9_findStarts_120 : decode cX9_findStarts 120 = .ok (.lmul, 1) := by decide +kernel
theorem dX9_findStarts_121 : decode cX9_findStarts 121 = .ok (.lsub, 1) := by decide +kernel
theorem dX9_findStarts_122 : decode cX9_findStarts 122 = .ok (.lstore 10, 2) := by decide +kernel
theorem dX9_findStarts_124 : decode cX9_findStarts 124 = .ok (.lload 10, 2) := by decide +kernel
theorem dX9_findStarts_126 : decode cX9_findStarts 126 = .ok (.lconst 0, 1) := by decide +kernel
theorem dX9_findStarts_127 : decode cX9_findStarts 127 = .ok (.lcmp, 1) := by decide +kernel
theorem dX9_findStarts_128 : decode cX9_findStarts 128 = .ok (.ifCond .ge 14, 3) := by decide +kernel
theorem dX9_findStarts_131 : decode cX9_findStarts 131 = .ok (.aload_n 0, 1) := by decide +kernel
theorem dX9_findStarts_132 : decode cX9_findStarts 132 = .ok (.aload_n 0, 1) := by decide +kernel
theorem dX9_findStarts_133 : decode cX9_findStarts 133 = .ok (.getfield 293, 3) := by decide +kernel
theorem dX9_findStarts_136 : decode cX9_findStarts 136 = .ok (.lconst 1, 1) := by decide +kernel
theorem dX9_findStarts_137 : decode cX9_findStarts 137 = .ok (.lsub, 1) := by decide +kernel
theorem dX9_findStarts_138 : decode cX9_findStarts 138 = .ok (.putfield 297, 3) := by decide +kernel
theorem dX9_findStarts_141 : decode cX9_findStarts 141 = .ok (.return_, 1) := by decide +kernel
theorem dX9_findStarts_142 : decode cX9_findStarts 142 = .ok (.lload 10, 2) := by decide +kernel
theorem dX9_findStarts_144 : decode cX9_findStarts 144 = .ok (.invokestatic 300, 3) := by decide +kernel
theorem dX9_findStarts_147 : decode cX9_findStarts 147 = .ok (.lstore 12, 2) := by decide +kernel
theorem dX9_findStarts_149 : decode cX9_findStarts 149 = .ok (.aload_n 0, 1) := by decide +kernel
theorem dX9_findStarts_150 : decode cX9_findStarts 150 = .ok (.lload 12, 2) := by decide +kernel
theorem dX9_findStarts_152 : decode cX9_findStarts 152 = .ok (.lneg, 1) := by decide +kernel
theorem dX9_findStarts_153 : decode cX9_findStarts 153 = .ok (.lload 4, 2) := by decide +kernel
theorem dX9_findStarts_155 : decode cX9_findStarts 155 = .ok (.lsub, 1) := by decide +kernel
theorem dX9_findStarts_156 : decode cX9_findStarts 156 = .ok (.aload_n 0, 1) := by decide +kernel
theorem dX9_findStarts_157 : decode cX9_findStarts 157 = .ok (.getfield 293, 3) := by decide +kernel
theorem dX9_findStarts_160 : decode cX9_findStarts 160 = .ok (.lcmp, 1) := by decide +kernel
theorem dX9_findStarts_161 : decode cX9_findStarts 161 = .ok (.ifCond .le 12, 3) := by decide +kernel
theorem dX9_findStarts_164 : decode cX9_findStarts 164 = .ok (.lload 12, 2) := by decide +kernel
theorem dX9_findStarts_166 : decode cX9_findStarts 166 = .ok (.lneg, 1) := by decide +kernel
theorem dX9_findStarts_167 : decode cX9_findStarts 167 = .ok (.lload 4, 2) := by decide +kernel
theorem dX9_findStarts_169 : decode cX9_findStarts 169 = .ok (.lsub, 1) := by decide +kernel
theorem dX9_findStarts_170 : decode cX9_findStarts 170 = .ok (.goto 7, 3) := by decide +kernel
theorem dX9_findStarts_173 : decode cX9_findStarts 173 = .ok (.aload_n 0, 1) := by decide +kernel
theorem dX9_findStarts_174 : decode cX9_findStarts 174 = .ok (.getfield 293, 3) := by decide +kernel
theorem dX9_findStarts_177 : decode cX9_findStarts 177 = .ok (.putfield 293, 3) := by decide +kernel
theorem dX9_findStarts_180 : decode cX9_findStarts 180 = .ok (.aload_n 0, 1) := by decide +kernel
theorem dX9_findStarts_181 : decode cX9_findStarts 181 = .ok (.lload 12, 2) := by decide +kernel
theorem dX9_findStarts_183 : decode cX9_findStarts 183 = .ok (.lload 4, 2) := by decide +kernel
theorem dX9_findStarts_185 : decode cX9_findStarts 185 = .ok (.lsub, 1) := by decide +kernel
theorem dX9_findStarts_186 : decode cX9_findStarts 186 = .ok (.aload_n 0, 1) := by decide +kernel
theorem dX9_findStarts_187 : decode cX9_findStarts 187 = .ok (.getfield 297, 3) := by decide +kernel
theorem dX9_findStarts_190 : decode cX9_findStarts 190 = .ok (.lcmp, 1) := by decide +kernel
theorem dX9_findStarts_191 : decode cX9_findStarts 191 = .ok (.ifCond .ge 11, 3) := by decide +kernel
theorem dX9_findStarts_194 : decode cX9_findStarts 194 = .ok (.lload 12, 2) := by decide +kernel
theorem dX9_findStarts_196 : decode cX9_findStarts 196 = .ok (.lload 4, 2) := by decide +kernel
theorem dX9_findStarts_198 : decode cX9_findStarts 198 = .ok (.lsub, 1) := by decide +kernel
theorem dX9_findStarts_199 : decode cX9_findStarts 199 = .ok (.goto 7, 3) := by decide +kernel
theorem dX9_findStarts_202 : decode cX9_findStarts 202 = .ok (.aload_n 0, 1) := by decide +kernel
theorem dX9_findStarts_203 : decode cX9_findStarts 203 = .ok (.getfield 297, 3) := by decide +kernel
theorem dX9_findStarts_206 : decode cX9_findStarts 206 = .ok (.putfield 297, 3) := by decide +kernel
theorem dX9_findStarts_209 : decode cX9_findStarts 209 = .ok (.iinc 2 1, 3) := by decide +kernel
theorem dX9_findStarts_212 : decode cX9_findStarts 212 = .ok (.goto (-196), 3) := by decide +kernel
theorem dX9_findStarts_215 : decode cX9_findStarts 215 = .ok (.return_, 1) := by decide +kernel
theorem dX9_spot_0 : decode cX9_spot 0 = .ok (.aload_n 0, 1) := by decide +kernel
theorem dX9_spot_1 : decode cX9_spot 1 = .ok (.iload_n 1, 1) := by decide +kernel
theorem dX9_spot_2 : decode cX9_spot 2 = .ok (.invokevirtual 149, 3) := by decide +kernel
theorem dX9_spot_5 : decode cX9_spot 5 = .ok (.ifCond .eq 13, 3) := by decide +kernel
theorem dX9_spot_8 : decode cX9_spot 8 = .ok (.iload_n 2, 1) := by decide +kernel
theorem dX9_spot_9 : decode cX9_spot 9 = .ok (.i2l, 1) := by decide +kernel
theorem dX9_spot_10 : decode cX9_spot 10 = .ok (.lconst 0, 1) := by decide +kernel
theorem dX9_spot_11 : decode cX9_spot 11 = .ok (.lconst 1, 1) := by decide +kernel
theorem dX9_spot_12 : decode cX9_spot 12 = .ok (.invokestatic 138, 3) := by decide +kernel
theorem dX9_spot_15 : decode cX9_spot 15 = .ok (.ifCond .ne 7, 3) := by decide +kernel
theorem dX9_spot_18 : decode cX9_spot 18 = .ok (.ldc_w 304, 3) := by decide +kernel
theorem dX9_spot_21 : decode cX9_spot 21 = .ok (.ireturn, 1) := by decide +kernel
theorem dX9_spot_22 : decode cX9_spot 22 = .ok (.aload_n 0, 1) := by decide +kernel
theorem dX9_spot_23 : decode cX9_spot 23 = .ok (.iload_n 1, 1) := by decide +kernel
theorem dX9_spot_24 : decode cX9_spot 24 = .ok (.invokevirtual 253, 3) := by decide +kernel
theorem dX9_spot_27 : decode cX9_spot 27 = .ok (.aload_n 0, 1) := by decide +kernel
theorem dX9_spot_28 : decode cX9_spot 28 = .ok (.iload_n 1, 1) := by decide +kernel
theorem dX9_spot_29 : decode cX9_spot 29 = .ok (.invokevirtual 305, 3) := by decide +kernel
theorem dX9_spot_32 : decode cX9_spot 32 = .ok (.aload_n 0, 1) := by decide +kernel
theorem dX9_spot_33 : decode cX9_spot 33 = .ok (.getfield 293, 3) := by decide +kernel
theorem dX9_spot_36 : decode cX9_spot 36 = .ok (.aload_n 0, 1) := by decide +kernel
theorem dX9_spot_37 : decode cX9_spot 37 = .ok (.getfield 297, 3) := by decide +kernel
theorem dX9_spot_40 : decode cX9_spot 40 = .ok (.lcmp, 1) := by decide +kernel
theorem dX9_spot_41 : decode cX9_spot 41 = .ok (.ifCond .le 9, 3) := by decide +kernel
theorem dX9_spot_44 : decode cX9_spot 44 = .ok (.ldc_w 308, 3) := by decide +kernel
theorem dX9_spot_47 : decode cX9_spot 47 = .ok (.goto 19, 3) := by decide +kernel
theorem dX9_spot_50 : decode cX9_spot 50 = .ok (.iload_n 2, 1) := by decide +kernel
theorem dX9_spot_51 : decode cX9_spot 51 = .ok (.ifCond .ne 10, 3) := by decide +kernel
theorem dX9_spot_54 : decode cX9_spot 54 = .ok (.aload_n 0, 1) := by decide +kernel
theorem dX9_spot_55 : decode cX9_spot 55 = .ok (.getfield 293, 3) := by decide +kernel
theorem dX9_spot_58 : decode cX9_spot 58 = .ok (.goto 7, 3) := by decide +kernel
theorem dX9_spot_61 : decode cX9_spot 61 = .ok (.aload_n 0, 1) := by decide +kernel
theorem dX9_spot_62 : decode cX9_spot 62 = .ok (.getfield 297, 3) := by decide +kernel
theorem dX9_spot_65 : decode cX9_spot 65 = .ok (.l2i, 1) := by decide +kernel
theorem dX9_spot_66 : decode cX9_spot 66 = .ok (.ireturn, 1) := by decide +kernel
theorem dX9_jumpersIn_0 : decode cX9_jumpersIn 0 = .ok (.iconst 0, 1) := by decide +kernel
theorem dX9_jumpersIn_1 : decode cX9_jumpersIn 1 = .ok (.istore_n 2, 1) := by decide +kernel
theorem dX9_jumpersIn_2 : decode cX9_jumpersIn 2 = .ok (.iconst 0, 1) := by decide +kernel
theorem dX9_jumpersIn_3 : decode cX9_jumpersIn 3 = .ok (.istore_n 3, 1) := by decide +kernel
theorem dX9_jumpersIn_4 : decode cX9_jumpersIn 4 = .ok (.iload_n 3, 1) := by decide +kernel
theorem dX9_jumpersIn_5 : decode cX9_jumpersIn 5 = .ok (.aload_n 0, 1) := by decide +kernel
theorem dX9_jumpersIn_6 : decode cX9_jumpersIn 6 = .ok (.getfield 72, 3) := by decide +kernel
theorem dX9_jumpersIn_9 : decode cX9_jumpersIn 9 = .ok (.iload_n 1, 1) := by decide +kernel
theorem dX9_jumpersIn_10 : decode cX9_jumpersIn 10 = .ok (.iaload, 1) := by decide +kernel
theorem dX9_jumpersIn_11 : decode cX9_jumpersIn 11 = .ok (.if_icmp .ge 28, 3) := by decide +kernel
theorem dX9_jumpersIn_14 : decode cX9_jumpersIn 14 = .ok (.iload_n 2, 1) := by decide +kernel
theorem dX9_jumpersIn_15 : decode cX9_jumpersIn 15 = .ok (.aload_n 0, 1) := by decide +kernel
theorem dX9_jumpersIn_16 : decode cX9_jumpersIn 16 = .ok (.getfield 48, 3) := by decide +kernel
theorem dX9_jumpersIn_19 : decode cX9_jumpersIn 19 = .ok (.aload_n 0, 1) := by decide +kernel
theorem dX9_jumpersIn_20 : decode cX9_jumpersIn 20 = .ok (.getfield 75, 3) := by decide +kernel
theorem dX9_jumpersIn_23 : decode cX9_jumpersIn 23 = .ok (.bipush 6, 2) := by decide +kernel
theorem dX9_jumpersIn_25 : decode cX9_jumpersIn 25 = .ok (.iload_n 1, 1) := by decide +kernel
theorem dX9_jumpersIn_26 : decode cX9_jumpersIn 26 = .ok (.imul, 1) := by decide +kernel
theorem dX9_jumpersIn_27 : decode cX9_jumpersIn 27 = .ok (.iload_n 3, 1) := by decide +kernel
theorem dX9_jumpersIn_28 : decode cX9_jumpersIn 28 = .ok (.iadd, 1) := by decide +kernel
theorem dX9_jumpersIn_29 : decode cX9_jumpersIn 29 = .ok (.iaload, 1) := by decide +kernel
theorem dX9_jumpersIn_30 : decode cX9_jumpersIn 30 = .ok (.iaload, 1) := by decide +kernel
theorem dX9_jumpersIn_31 : decode cX9_jumpersIn 31 = .ok (.iadd, 1) := by decide +kernel
theorem dX9_jumpersIn_32 : decode cX9_jumpersIn 32 = .ok (.istore_n 2, 1) := by decide +kernel
theorem dX9_jumpersIn_33 : decode cX9_jumpersIn 33 = .ok (.iinc 3 1, 3) := by decide +kernel
theorem dX9_jumpersIn_36 : decode cX9_jumpersIn 36 = .ok (.goto (-32), 3) := by decide +kernel
theorem dX9_jumpersIn_39 : decode cX9_jumpersIn 39 = .ok (.iload_n 2, 1) := by decide +kernel
theorem dX9_jumpersIn_40 : decode cX9_jumpersIn 40 = .ok (.ireturn, 1) := by decide +kernel
theorem dX9_hasEmpty_0 : decode cX9_hasEmpty 0 = .ok (.aload_n 0, 1) := by decide +kernel
theorem dX9_hasEmpty_1 : decode cX9_hasEmpty 1 = .ok (.getfield 72, 3) := by decide +kernel
theorem dX9_hasEmpty_4 : decode cX9_hasEmpty 4 = .ok (.iload_n 1, 1) := by decide +kernel
theorem dX9_hasEmpty_5 : decode cX9_hasEmpty 5 = .ok (.iaload, 1) := by decide +kernel
theorem dX9_hasEmpty_6 : decode cX9_hasEmpty 6 = .ok (.ifCond .ne 7, 3) := by decide +kernel
theorem dX9_hasEmpty_9 : decode cX9_hasEmpty 9 = .ok (.iconst 1, 1) := by decide +kernel
theorem dX9_hasEmpty_10 : decode cX9_hasEmpty 10 = .ok (.goto 4, 3) := by decide +kernel
theorem dX9_hasEmpty_13 : decode cX9_hasEmpty 13 = .ok (.iconst 0, 1) := by decide +kernel
theorem dX9_hasEmpty_14 : decode cX9_hasEmpty 14 = .ok (.istore_n 2, 1) := by decide +kernel
theorem dX9_hasEmpty_15 : decode cX9_hasEmpty 15 = .ok (.iconst 0, 1) := by decide +kernel
theorem dX9_hasEmpty_16 : decode cX9_hasEmpty 16 = .ok (.istore_n 3, 1) := by decide +kernel
theorem dX9_hasEmpty_17 : decode cX9_hasEmpty 17 = .ok (.iload_n 3, 1) := by decide +kernel
theorem dX9_hasEmpty_18 : decode cX9_hasEmpty 18 = .ok (.aload_n 0, 1) := by decide +kernel
theorem dX9_hasEmpty_19 : decode cX9_hasEmpty 19 = .ok (.getfield 72, 3) := by decide +kernel
theorem dX9_hasEmpty_22 : decode cX9_hasEmpty 22 = .ok (.iload_n 1, 1) := by decide +kernel
theorem dX9_hasEmpty_23 : decode cX9_hasEmpty 23 = .ok (.iaload, 1) := by decide +kernel
theorem dX9_hasEmpty_24 : decode cX9_hasEmpty 24 = .ok (.if_icmp .ge 38, 3) := by decide +kernel
theorem dX9_hasEmpty_27 : decode cX9_hasEmpty 27 = .ok (.iload_n 2, 1) := by decide +kernel
theorem dX9_hasEmpty_28 : decode cX9_hasEmpty 28 = .ok (.ifCond .ne 22, 3) := by decide +kernel
theorem dX9_hasEmpty_31 : decode cX9_hasEmpty 31 = .ok (.aload_n 0, 1) := by decide +kernel
theorem dX9_hasEmpty_32 : decode cX9_hasEmpty 32 = .ok (.getfield 48, 3) := by decide +kernel
theorem dX9_hasEmpty_35 : decode cX9_hasEmpty 35 = .ok (.aload_n 0, 1) := by decide +kernel
theorem dX9_hasEmpty_36 : decode cX9_hasEmpty 36 = .ok (.getfield 75, 3) := by decide +kernel
theorem dX9_hasEmpty_39 : decode cX9_hasEmpty 39 = .ok (.bipush 6, 2) := by decide +kernel
theorem dX9_hasEmpty_41 : decode cX9_hasEmpty 41 = .ok (.iload_n 1, 1) := by decide +kernel
theorem dX9_hasEmpty_42 : decode cX9_hasEmpty 42 = .ok (.imul, 1) := by decide +kernel
theorem dX9_hasEmpty_43 : decode cX9_hasEmpty 43 = .ok (.iload_n 3, 1) := by decide +kernel
theorem dX9_hasEmpty_44 : decode cX9_hasEmpty 44 = .ok (.iadd, 1) := by decide +kernel
theorem dX9_hasEmpty_45 : decode cX9_hasEmpty 45 = .ok (.iaload, 1) := by decide +kernel
theorem dX9_hasEmpty_46 : decode cX9_hasEmpty 46 = .ok (.iaload, 1) := by decide +kernel
theorem dX9_hasEmpty_47 : decode cX9_hasEmpty 47 = .ok (.ifCond .ne 7, 3) := by decide +kernel
theorem dX9_hasEmpty_50 : decode cX9_hasEmpty 50 = .ok (.iconst 1, 1) := by decide +kernel
theorem dX9_hasEmpty_51 : decode cX9_hasEmpty 51 = .ok (.goto 4, 3) := by decide +kernel
theorem dX9_hasEmpty_54 : decode cX9_hasEmpty 54 = .ok (.iconst 0, 1) := by decide +kernel
theorem dX9_hasEmpty_55 : decode cX9_hasEmpty 55 = .ok (.istore_n 2, 1) := by decide +kernel
theorem dX9_hasEmpty_56 : decode cX9_hasEmpty 56 = .ok (.iinc 3 1, 3) := by decide +kernel
theorem dX9_hasEmpty_59 : decode cX9_hasEmpty 59 = .ok (.goto (-42), 3) := by decide +kernel
theorem dX9_hasEmpty_62 : decode cX9_hasEmpty 62 = .ok (.iload_n 2, 1) := by decide +kernel
theorem dX9_hasEmpty_63 : decode cX9_hasEmpty 63 = .ok (.ireturn, 1) := by decide +kernel
theorem dX9_weightOn_0 : decode cX9_weightOn 0 = .ok (.iconst 0, 1) := by decide +kernel
theorem dX9_weightOn_1 : decode cX9_weightOn 1 = .ok (.istore_n 2, 1) := by decide +kernel
theorem dX9_weightOn_2 : decode cX9_weightOn 2 = .ok (.iconst 0, 1) := by decide +kernel
theorem dX9_weightOn_3 : decode cX9_weightOn 3 = .ok (.istore_n 3, 1) := by decide +kernel
theorem dX9_weightOn_4 : decode cX9_weightOn 4 = .ok (.iload_n 3, 1) := by decide +kernel
theorem dX9_weightOn_5 : decode cX9_weightOn 5 = .ok (.aload_n 0, 1) := by decide +kernel
theorem dX9_weightOn_6 : decode cX9_weightOn 6 = .ok (.getfield 72, 3) := by decide +kernel
theorem dX9_weightOn_9 : decode cX9_weightOn 9 = .ok (.iload_n 1, 1) := by decide +kernel
theorem dX9_weightOn_10 : decode cX9_weightOn 10 = .ok (.iaload, 1) := by decide +kernel
theorem dX9_weightOn_11 : decode cX9_weightOn 11 = .ok (.if_icmp .ge 27, 3) := by decide +kernel
theorem dX9_weightOn_14 : decode cX9_weightOn 14 = .ok (.iload_n 2, 1) := by decide +kernel
theorem dX9_weightOn_15 : decode cX9_weightOn 15 = .ok (.aload_n 0, 1) := by decide +kernel
theorem dX9_weightOn_16 : decode cX9_weightOn 16 = .ok (.aload_n 0, 1) := by decide +kernel
theorem dX9_weightOn_17 : decode cX9_weightOn 17 = .ok (.getfield 75, 3) := by decide +kernel
theorem dX9_weightOn_20 : decode cX9_weightOn 20 = .ok (.bipush 6, 2) := by decide +kernel
theorem dX9_weightOn_22 : decode cX9_weightOn 22 = .ok (.iload_n 1, 1) := by decide +kernel
theorem dX9_weightOn_23 : decode cX9_weightOn 23 = .ok (.imul, 1) := by decide +kernel
theorem dX9_weightOn_24 : decode cX9_weightOn 24 = .ok (.iload_n 3, 1) := by decide +kernel
theorem dX9_weightOn_25 : decode cX9_weightOn 25 = .ok (.iadd, 1) := by decide +kernel
theorem dX9_weightOn_26 : decode cX9_weightOn 26 = .ok (.iaload, 1) := by decide +kernel
theorem dX9_weightOn_27 : decode cX9_weightOn 27 = .ok (.invokevirtual 208, 3) := by decide +kernel
theorem dX9_weightOn_30 : decode cX9_weightOn 30 = .ok (.iadd, 1) := by decide +kernel
theorem dX9_weightOn_31 : decode cX9_weightOn 31 = .ok (.istore_n 2, 1) := by decide +kernel
theorem dX9_weightOn_32 : decode cX9_weightOn 32 = .ok (.iinc 3 1, 3) := by decide +kernel
theorem dX9_weightOn_35 : decode cX9_weightOn 35 = .ok (.goto (-31), 3) := by decide +kernel
theorem dX9_weightOn_38 : decode cX9_weightOn 38 = .ok (.iload_n 2, 1) := by decide +kernel
theorem dX9_weightOn_39 : decode cX9_weightOn 39 = .ok (.ireturn, 1) := by decide +kernel
theorem dX9_hasOldGear_0 : decode cX9_hasOldGear 0 = .ok (.iconst 0, 1) := by decide +kernel
theorem dX9_hasOldGear_1 : decode cX9_hasOldGear 1 = .ok (.istore_n 3, 1) := by decide +kernel
theorem dX9_hasOldGear_2 : decode cX9_hasOldGear 2 = .ok (.iconst 0, 1) := by decide +kernel
theorem dX9_hasOldGear_3 : decode cX9_hasOldGear 3 = .ok (.istore 4, 2) := by decide +kernel
theorem dX9_hasOldGear_5 : decode cX9_hasOldGear 5 = .ok (.iload 4, 2) := by decide +kernel
theorem dX9_hasOldGear_7 : decode cX9_hasOldGear 7 = .ok (.aload_n 0, 1) := by decide +kernel
theorem dX9_hasOldGear_8 : decode cX9_hasOldGear 8 = .ok (.getfield 72, 3) := by decide +kernel
theorem dX9_hasOldGear_11 : decode cX9_hasOldGear 11 = .ok (.iload_n 1, 1) := by decide +kernel
theorem dX9_hasOldGear_12 : decode cX9_hasOldGear 12 = .ok (.iaload, 1) := by decide +kernel
theorem dX9_hasOldGear_13 : decode cX9_hasOldGear 13 = .ok (.if_icmp .ge 75, 3) := by decide +kernel
theorem dX9_hasOldGear_16 : decode cX9_hasOldGear 16 = .ok (.aload_n 0, 1) := by decide +kernel
theorem dX9_hasOldGear_17 : decode cX9_hasOldGear 17 = .ok (.getfield 75, 3) := by decide +kernel
theorem dX9_hasOldGear_20 : decode cX9_hasOldGear 20 = .ok (.bipush 6, 2) := by decide +kernel
theorem dX9_hasOldGear_22 : decode cX9_hasOldGear 22 = .ok (.iload_n 1, 1) := by decide +kernel
theorem dX9_hasOldGear_23 : decode cX9_hasOldGear 23 = .ok (.imul, 1) := by decide +kernel
theorem dX9_hasOldGear_24 : decode cX9_hasOldGear 24 = .ok (.iload 4, 2) := by decide +kernel
theorem dX9_hasOldGear_26 : decode cX9_hasOldGear 26 = .ok (.iadd, 1) := by decide +kernel
theorem dX9_hasOldGear_27 : decode cX9_hasOldGear 27 = .ok (.iaload, 1) := by decide +kernel
theorem dX9_hasOldGear_28 : decode cX9_hasOldGear 28 = .ok (.istore 5, 2) := by decide +kernel
theorem dX9_hasOldGear_30 : decode cX9_hasOldGear 30 = .ok (.iconst 0, 1) := by decide +kernel
theorem dX9_hasOldGear_31 : decode cX9_hasOldGear 31 = .ok (.istore 6, 2) := by decide +kernel
theorem dX9_hasOldGear_33 : decode cX9_hasOldGear 33 = .ok (.iload 6, 2) := by decide +kernel
theorem dX9_hasOldGear_35 : decode cX9_hasOldGear 35 = .ok (.aload_n 0, 1) := by decide +kernel
theorem dX9_hasOldGear_36 : decode cX9_hasOldGear 36 = .ok (.getfield 48, 3) := by decide +kernel
theorem dX9_hasOldGear_39 : decode cX9_hasOldGear 39 = .ok (.iload 5, 2) := by decide +kernel
theorem dX9_hasOldGear_41 : decode cX9_hasOldGear 41 = .ok (.iaload, 1) := by decide +kernel
theorem dX9_hasOldGear_42 : decode cX9_hasOldGear 42 = .ok (.if_icmp .ge 40, 3) := by decide +kernel
theorem dX9_hasOldGear_45 : decode cX9_hasOldGear 45 = .ok (.iload_n 3, 1) := by decide +kernel
theorem dX9_hasOldGear_46 : decode cX9_hasOldGear 46 = .ok (.ifCond .ne 24, 3) := by decide +kernel
theorem dX9_hasOldGear_49 : decode cX9_hasOldGear 49 = .ok (.aload_n 0, 1) := by decide +kernel
theorem dX9_hasOldGear_50 : decode cX9_hasOldGear 50 = .ok (.getfield 33, 3) := by decide +kernel
theorem dX9_hasOldGear_53 : decode cX9_hasOldGear 53 = .ok (.aload_n 0, 1) := by decide +kernel
theorem dX9_hasOldGear_54 : decode cX9_hasOldGear 54 = .ok (.getfield 51, 3) := by decide +kernel
theorem dX9_hasOldGear_57 : decode cX9_hasOldGear 57 = .ok (.iconst 4, 1) := by decide +kernel
theorem dX9_hasOldGear_58 : decode cX9_hasOldGear 58 = .ok (.iload 5, 2) := by decide +kernel
theorem dX9_hasOldGear_60 : decode cX9_hasOldGear 60 = .ok (.imul, 1) := by decide +kernel
theorem dX9_hasOldGear_61 : decode cX9_hasOldGear 61 = .ok (.iload 6, 2) := by decide +kernel
theorem dX9_hasOldGear_63 : decode cX9_hasOldGear 63 = .ok (.iadd, 1) := by decide +kernel
theorem dX9_hasOldGear_64 : decode cX9_hasOldGear 64 = .ok (.iaload, 1) := by decide +kernel
theorem dX9_hasOldGear_65 : decode cX9_hasOldGear 65 = .ok (.iaload, 1) := by decide +kernel
theorem dX9_hasOldGear_66 : decode cX9_hasOldGear 66 = .ok (.iload_n 2, 1) := by decide +kernel
theorem dX9_hasOldGear_67 : decode cX9_hasOldGear 67 = .ok (.if_icmp .ge 7, 3) := by decide +kernel
theorem dX9_hasOldGear_70 : decode cX9_hasOldGear 70 = .ok (.iconst 1, 1) := by decide +kernel
theorem dX9_hasOldGear_71 : decode cX9_hasOldGear 71 = .ok (.goto 4, 3) := by decide +kernel
theorem dX9_hasOldGear_74 : decode cX9_hasOldGear 74 = .ok (.iconst 0, 1) := by decide +kernel
theorem dX9_hasOldGear_75 : decode cX9_hasOldGear 75 = .ok (.istore_n 3, 1) := by decide +kernel
theorem dX9_hasOldGear_76 : decode cX9_hasOldGear 76 = .ok (.iinc 6 1, 3) := by decide +kernel
theorem dX9_hasOldGear_79 : decode cX9_hasOldGear 79 = .ok (.goto (-46), 3) := by decide +kernel
theorem dX9_hasOldGear_82 : decode cX9_hasOldGear 82 = .ok (.iinc 4 1, 3) := by decide +kernel
theorem dX9_hasOldGear_85 : decode cX9_hasOldGear 85 = .ok (.goto (-80), 3) := by decide +kernel
theorem dX9_hasOldGear_88 : decode cX9_hasOldGear 88 = .ok (.iload_n 3, 1) := by decide +kernel
theorem dX9_hasOldGear_89 : decode cX9_hasOldGear 89 = .ok (.ireturn, 1) := by decide +kernel
theorem dX9_hasTwice_0 : decode cX9_hasTwice 0 = .ok (.iconst 0, 1) := by decide +kernel
theorem dX9_hasTwice_1 : decode cX9_hasTwice 1 = .ok (.istore_n 2, 1) := by decide +kernel
theorem dX9_hasTwice_2 : decode cX9_hasTwice 2 = .ok (.iconst 0, 1) := by decide +kernel
theorem dX9_hasTwice_3 : decode cX9_hasTwice 3 = .ok (.istore_n 3, 1) := by decide +kernel
theorem dX9_hasTwice_4 : decode cX9_hasTwice 4 = .ok (.iload_n 3, 1) := by decide +kernel
theorem dX9_hasTwice_5 : decode cX9_hasTwice 5 = .ok (.bipush 32, 2) := by decide +kernel
theorem dX9_hasTwice_7 : decode cX9_hasTwice 7 = .ok (.if_icmp .ge 78, 3) := by decide +kernel
theorem dX9_hasTwice_10 : decode cX9_hasTwice 10 = .ok (.iconst 0, 1) := by decide +kernel
theorem dX9_hasTwice_11 : decode cX9_hasTwice 11 = .ok (.istore 4, 2) := by decide +kernel
theorem dX9_hasTwice_13 : decode cX9_hasTwice 13 = .ok (.iconst 0, 1) := by decide +kernel
theorem dX9_hasTwice_14 : decode cX9_hasTwice 14 = .ok (.istore 5, 2) := by decide +kernel
theorem dX9_hasTwice_16 : decode cX9_hasTwice 16 = .ok (.iload 5, 2) := by decide +kernel
theorem dX9_hasTwice_18 : decode cX9_hasTwice 18 = .ok (.aload_n 0, 1) := by decide +kernel
theorem dX9_hasTwice_19 : decode cX9_hasTwice 19 = .ok (.getfield 72, 3) := by decide +kernel
theorem dX9_hasTwice_22 : decode cX9_hasTwice 22 = .ok (.iload_n 1, 1) := by decide +kernel
theorem dX9_hasTwice_23 : decode cX9_hasTwice 23 = .ok (.iaload, 1) := by decide +kernel
theorem dX9_hasTwice_24 : decode cX9_hasTwice 24 = .ok (.if_icmp .ge 39, 3) := by decide +kernel
theorem dX9_hasTwice_27 : decode cX9_hasTwice 27 = .ok (.iload 4, 2) := by decide +kernel
theorem dX9_hasTwice_29 : decode cX9_hasTwice 29 = .ok (.aload_n 0, 1) := by decide +kernel
theorem dX9_hasTwice_30 : decode cX9_hasTwice 30 = .ok (.aload_n 0, 1) := by decide +kernel
theorem dX9_hasTwice_31 : decode cX9_hasTwice 31 = .ok (.getfield 75, 3) := by decide +kernel
theorem dX9_hasTwice_34 : decode cX9_hasTwice 34 = .ok (.bipush 6, 2) := by decide +kernel
theorem dX9_hasTwice_36 : decode cX9_hasTwice 36 = .ok (.iload_n 1, 1) := by decide +kernel
theorem dX9_hasTwice_37 : decode cX9_hasTwice 37 = .ok (.imul, 1) := by decide +kernel
theorem dX9_hasTwice_38 : decode cX9_hasTwice 38 = .ok (.iload 5, 2) := by decide +kernel
theorem dX9_hasTwice_40 : decode cX9_hasTwice 40 = .ok (.iadd, 1) := by decide +kernel
theorem dX9_hasTwice_41 : decode cX9_hasTwice 41 = .ok (.iaload, 1) := by decide +kernel
theorem dX9_hasTwice_42 : decode cX9_hasTwice 42 = .ok (.iload_n 3, 1) := by decide +kernel
theorem dX9_hasTwice_43 : decode cX9_hasTwice 43 = .ok (.invokevirtual 204, 3) := by decide +kernel
theorem dX9_hasTwice_46 : decode cX9_hasTwice 46 = .ok (.ifCond .eq 7, 3) := by decide +kernel
theorem dX9_hasTwice_49 : decode cX9_hasTwice 49 = .ok (.iconst 1, 1) := by decide +kernel
theorem dX9_hasTwice_50 : decode cX9_hasTwice 50 = .ok (.goto 4, 3) := by decide +kernel
theorem dX9_hasTwice_53 : decode cX9_hasTwice 53 = .ok (.iconst 0, 1) := by decide +kernel
theorem dX9_hasTwice_54 : decode cX9_hasTwice 54 = .ok (.iadd, 1) := by decide +kernel
theorem dX9_hasTwice_55 : decode cX9_hasTwice 55 = .ok (.istore 4, 2) := by decide +kernel
theorem dX9_hasTwice_57 : decode cX9_hasTwice 57 = .ok (.iinc 5 1, 3) := by decide +kernel
theorem dX9_hasTwice_60 : decode cX9_hasTwice 60 = .ok (.goto (-44), 3) := by decide +kernel
theorem dX9_hasTwice_63 : decode cX9_hasTwice 63 = .ok (.iload_n 2, 1) := by decide +kernel
theorem dX9_hasTwice_64 : decode cX9_hasTwice 64 = .ok (.ifCond .ne 9, 3) := by decide +kernel
theorem dX9_hasTwice_67 : decode cX9_hasTwice 67 = .ok (.iload 4, 2) := by decide +kernel
theorem dX9_hasTwice_69 : decode cX9_hasTwice 69 = .ok (.iconst 1, 1) := by decide +kernel
theorem dX9_hasTwice_70 : decode cX9_hasTwice 70 = .ok (.if_icmp .le 7, 3) := by decide +kernel
theorem dX9_hasTwice_73 : decode cX9_hasTwice 73 = .ok (.iconst 1, 1) := by decide +kernel
theorem dX9_hasTwice_74 : decode cX9_hasTwice 74 = .ok (.goto 4, 3) := by decide +kernel
theorem dX9_hasTwice_77 : decode cX9_hasTwice 77 = .ok (.iconst 0, 1) := by decide +kernel
theorem dX9_hasTwice_78 : decode cX9_hasTwice 78 = .ok (.istore_n 2, 1) := by decide +kernel
theorem dX9_hasTwice_79 : decode cX9_hasTwice 79 = .ok (.iinc 3 1, 3) := by decide +kernel
theorem dX9_hasTwice_82 : decode cX9_hasTwice 82 = .ok (.goto (-78), 3) := by decide +kernel
theorem dX9_hasTwice_85 : decode cX9_hasTwice 85 = .ok (.iload_n 2, 1) := by decide +kernel
theorem dX9_hasTwice_86 : decode cX9_hasTwice 86 = .ok (.ireturn, 1) := by decide +kernel
theorem dX9_sortsIn_0 : decode cX9_sortsIn 0 = .ok (.iconst 0, 1) := by decide +kernel
theorem dX9_sortsIn_1 : decode cX9_sortsIn 1 = .ok (.istore_n 3, 1) := by decide +kernel
theorem dX9_sortsIn_2 : decode cX9_sortsIn 2 = .ok (.iconst 0, 1) := by decide +kernel
theorem dX9_sortsIn_3 : decode cX9_sortsIn 3 = .ok (.istore 4, 2) := by decide +kernel
theorem dX9_sortsIn_5 : decode cX9_sortsIn 5 = .ok (.iload 4, 2) := by decide +kernel
theorem dX9_sortsIn_7 : decode cX9_sortsIn 7 = .ok (.aload_n 0, 1) := by decide +kernel
theorem dX9_sortsIn_8 : decode cX9_sortsIn 8 = .ok (.getfield 48, 3) := by decide +kernel
theorem dX9_sortsIn_11 : decode cX9_sortsIn 11 = .ok (.iload_n 1, 1) := by decide +kernel
theorem dX9_sortsIn_12 : decode cX9_sortsIn 12 = .ok (.iaload, 1) := by decide +kernel
theorem dX9_sortsIn_13 : decode cX9_sortsIn 13 = .ok (.if_icmp .ge 37, 3) := by decide +kernel
theorem dX9_sortsIn_16 : decode cX9_sortsIn 16 = .ok (.iload_n 3, 1) := by decide +kernel
theorem dX9_sortsIn_17 : decode cX9_sortsIn 17 = .ok (.aload_n 0, 1) := by decide +kernel
theorem dX9_sortsIn_18 : decode cX9_sortsIn 18 = .ok (.getfield 27, 3) := by decide +kernel
theorem dX9_sortsIn_21 : decode cX9_sortsIn 21 = .ok (.aload_n 0, 1) := by decide +kernel
theorem dX9_sortsIn_22 : decode cX9_sortsIn 22 = .ok (.getfield 51, 3) := by decide +kernel
theorem dX9_sortsIn_25 : decode cX9_sortsIn 25 = .ok (.iconst 4, 1) := by decide +kernel
theorem dX9_sortsIn_26 : decode cX9_sortsIn 26 = .ok (.iload_n 1, 1) := by decide +kernel
theorem dX9_sortsIn_27 : decode cX9_sortsIn 27 = .ok (.imul, 1) := by decide +kernel
theorem dX9_sortsIn_28 : decode cX9_sortsIn 28 = .ok (.iload 4, 2) := by decide +kernel
theorem dX9_sortsIn_30 : decode cX9_sortsIn 30 = .ok (.iadd, 1) := by decide +kernel
theorem dX9_sortsIn_31 : decode cX9_sortsIn 31 = .ok (.iaload, 1) := by decide +kernel
theorem dX9_sortsIn_32 : decode cX9_sortsIn 32 = .ok (.iaload, 1) := by decide +kernel
theorem dX9_sortsIn_33 : decode cX9_sortsIn 33 = .ok (.iload_n 2, 1) := by decide +kernel
theorem dX9_sortsIn_34 : decode cX9_sortsIn 34 = .ok (.if_icmp .ne 7, 3) := by decide +kernel
theorem dX9_sortsIn_37 : decode cX9_sortsIn 37 = .ok (.iconst 1, 1) := by decide +kernel
theorem dX9_sortsIn_38 : decode cX9_sortsIn 38 = .ok (.goto 4, 3) := by decide +kernel
theorem dX9_sortsIn_41 : decode cX9_sortsIn 41 = .ok (.iconst 0, 1) := by decide +kernel
theorem dX9_sortsIn_42 : decode cX9_sortsIn 42 = .ok (.iadd, 1) := by decide +kernel
theorem dX9_sortsIn_43 : decode cX9_sortsIn 43 = .ok (.istore_n 3, 1) := by decide +kernel
theorem dX9_sortsIn_44 : decode cX9_sortsIn 44 = .ok (.iinc 4 1, 3) := by decide +kernel
theorem dX9_sortsIn_47 : decode cX9_sortsIn 47 = .ok (.goto (-42), 3) := by decide +kernel
theorem dX9_sortsIn_50 : decode cX9_sortsIn 50 = .ok (.iload_n 3, 1) := by decide +kernel
theorem dX9_sortsIn_51 : decode cX9_sortsIn 51 = .ok (.ireturn, 1) := by decide +kernel
theorem dX9_hasAlone_0 : decode cX9_hasAlone 0 = .ok (.iconst 0, 1) := by decide +kernel
theorem dX9_hasAlone_1 : decode cX9_hasAlone 1 = .ok (.istore_n 2, 1) := by decide +kernel
theorem dX9_hasAlone_2 : decode cX9_hasAlone 2 = .ok (.iconst 0, 1) := by decide +kernel
theorem dX9_hasAlone_3 : decode cX9_hasAlone 3 = .ok (.istore_n 3, 1) := by decide +kernel
theorem dX9_hasAlone_4 : decode cX9_hasAlone 4 = .ok (.iload_n 3, 1) := by decide +kernel
theorem dX9_hasAlone_5 : decode cX9_hasAlone 5 = .ok (.aload_n 0, 1) := by decide +kernel
theorem dX9_hasAlone_6 : decode cX9_hasAlone 6 = .ok (.getfield 72, 3) := by decide +kernel
theorem dX9_hasAlone_9 : decode cX9_hasAlone 9 = .ok (.iload_n 1, 1) := by decide +kernel
theorem dX9_hasAlone_10 : decode cX9_hasAlone 10 = .ok (.iaload, 1) := by decide +kernel
theorem dX9_hasAlone_11 : decode cX9_hasAlone 11 = .ok (.if_icmp .ge 69, 3) := by decide +kernel
theorem dX9_hasAlone_14 : decode cX9_hasAlone 14 = .ok (.aload_n 0, 1) := by decide +kernel
theorem dX9_hasAlone_15 : decode cX9_hasAlone 15 = .ok (.getfield 75, 3) := by decide +kernel
theorem dX9_hasAlone_18 : decode cX9_hasAlone 18 = .ok (.bipush 6, 2) := by decide +kernel
theorem dX9_hasAlone_20 : decode cX9_hasAlone 20 = .ok (.iload_n 1, 1) := by decide +kernel
theorem dX9_hasAlone_21 : decode cX9_hasAlone 21 = .ok (.imul, 1) := by decide +kernel
theorem dX9_hasAlone_22 : decode cX9_hasAlone 22 = .ok (.iload_n 3, 1) := by decide +kernel
theorem dX9_hasAlone_23 : decode cX9_hasAlone 23 = .ok (.iadd, 1) := by decide +kernel
theorem dX9_hasAlone_24 : decode cX9_hasAlone 24 = .ok (.iaload, 1) := by decide +kernel
theorem dX9_hasAlone_25 : decode cX9_hasAlone 25 = .ok (.istore 4, 2) := by decide +kernel
theorem dX9_hasAlone_27 : decode cX9_hasAlone 27 = .ok (.aload_n 0, 1) := by decide +kernel
theorem dX9_hasAlone_28 : decode cX9_hasAlone 28 = .ok (.iload 4, 2) := by decide +kernel
theorem dX9_hasAlone_30 : decode cX9_hasAlone 30 = .ok (.iconst 1, 1) := by decide +kernel
theorem dX9_hasAlone_31 : decode cX9_hasAlone 31 = .ok (.invokevirtual 309, 3) := by decide +kernel
theorem dX9_hasAlone_34 : decode cX9_hasAlone 34 = .ok (.istore 5, 2) := by decide +kernel
theorem dX9_hasAlone_36 : decode cX9_hasAlone 36 = .ok (.iload_n 2, 1) := by decide +kernel
theorem dX9_hasAlone_37 : decode cX9_hasAlone 37 = .ok (.ifCond .ne 31, 3) := by decide +kernel
theorem dX9_hasAlone_40 : decode cX9_hasAlone 40 = .ok (.iload 5, 2) := by decide +kernel
theorem dX9_hasAlone_42 : decode cX9_hasAlone 42 = .ok (.aload_n 0, 1) := by decide +kernel
theorem dX9_hasAlone_43 : decode cX9_hasAlone 43 = .ok (.iload 4, 2) := by decide +kernel
theorem dX9_hasAlone_45 : decode cX9_hasAlone 45 = .ok (.iconst 2, 1) := by decide +kernel
theorem dX9_hasAlone_46 : decode cX9_hasAlone 46 = .ok (.invokevirtual 309, 3) := by decide +kernel
theorem dX9_hasAlone_49 : decode cX9_hasAlone 49 = .ok (.if_icmp .gt 19, 3) := by decide +kernel
theorem dX9_hasAlone_52 : decode cX9_hasAlone 52 = .ok (.iload 5, 2) := by decide +kernel
theorem dX9_hasAlone_54 : decode cX9_hasAlone 54 = .ok (.ifCond .le 18, 3) := by decide +kernel
theorem dX9_hasAlone_57 : decode cX9_hasAlone 57 = .ok (.aload_n 0, 1) := by decide +kernel
theorem dX9_hasAlone_58 : decode cX9_hasAlone 58 = .ok (.getfield 36, 3) := by decide +kernel
theorem dX9_hasAlone_61 : decode cX9_hasAlone 61 = .ok (.iload 4, 2) := by decide +kernel
theorem dX9_hasAlone_63 : decode cX9_hasAlone 63 = .ok (.iaload, 1) := by decide +kernel
theorem dX9_hasAlone_64 : decode cX9_hasAlone 64 = .ok (.iconst 3, 1) := by decide +kernel
theorem dX9_hasAlone_65 : decode cX9_hasAlone 65 = .ok (.if_icmp .eq 7, 3) := by decide +kernel
theorem dX9_hasAlone_68 : decode cX9_hasAlone 68 = .ok (.iconst 1, 1) := by decide +kernel
theorem dX9_hasAlone_69 : decode cX9_hasAlone 69 = .ok (.goto 4, 3) := by decide +kernel
theorem dX9_hasAlone_72 : decode cX9_hasAlone 72 = .ok (.iconst 0, 1) := by decide +kernel
theorem dX9_hasAlone_73 : decode cX9_hasAlone 73 = .ok (.istore_n 2, 1) := by decide +kernel
theorem dX9_hasAlone_74 : decode cX9_hasAlone 74 = .ok (.iinc 3 1, 3) := by decide +kernel
theorem dX9_hasAlone_77 : decode cX9_hasAlone 77 = .ok (.goto (-73), 3) := by decide +kernel
theorem dX9_hasAlone_80 : decode cX9_hasAlone 80 = .ok (.iload_n 2, 1) := by decide +kernel
theorem dX9_hasAlone_81 : decode cX9_hasAlone 81 = .ok (.ireturn, 1) := by decide +kernel
theorem dX9_blowsTooMuch_0 : decode cX9_blowsTooMuch 0 = .ok (.aload_n 0, 1) := by decide +kernel
theorem dX9_blowsTooMuch_1 : decode cX9_blowsTooMuch 1 = .ok (.getfield 21, 3) := by decide +kernel
theorem dX9_blowsTooMuch_4 : decode cX9_blowsTooMuch 4 = .ok (.iconst 0, 1) := by decide +kernel
theorem dX9_blowsTooMuch_5 : decode cX9_blowsTooMuch 5 = .ok (.iaload, 1) := by decide +kernel
theorem dX9_blowsTooMuch_6 : decode cX9_blowsTooMuch 6 = .ok (.aload_n 0, 1) := by decide +kernel
theorem dX9_blowsTooMuch_7 : decode cX9_blowsTooMuch 7 = .ok (.getfield 21, 3) := by decide +kernel
theorem dX9_blowsTooMuch_10 : decode cX9_blowsTooMuch 10 = .ok (.iconst 0, 1) := by decide +kernel
theorem dX9_blowsTooMuch_11 : decode cX9_blowsTooMuch 11 = .ok (.iaload, 1) := by decide +kernel
theorem dX9_blowsTooMuch_12 : decode cX9_blowsTooMuch 12 = .ok (.imul, 1) := by decide +kernel
theorem dX9_blowsTooMuch_13 : decode cX9_blowsTooMuch 13 = .ok (.aload_n 0, 1) := by decide +kernel
theorem dX9_blowsTooMuch_14 : decode cX9_blowsTooMuch 14 = .ok (.getfield 24, 3) := by decide +kernel
theorem dX9_blowsTooMuch_17 : decode cX9_blowsTooMuch 17 = .ok (.iconst 0, 1) := by decide +kernel
theorem dX9_blowsTooMuch_18 : decode cX9_blowsTooMuch 18 = .ok (.iaload, 1) := by decide +kernel
theorem dX9_blowsTooMuch_19 : decode cX9_blowsTooMuch 19 = .ok (.aload_n 0, 1) := by decide +kernel
theorem dX9_blowsTooMuch_20 : decode cX9_blowsTooMuch 20 = .ok (.getfield 24, 3) := by decide +kernel
theorem dX9_blowsTooMuch_23 : decode cX9_blowsTooMuch 23 = .ok (.iconst 0, 1) := by decide +kernel
theorem dX9_blowsTooMuch_24 : decode cX9_blowsTooMuch 24 = .ok (.iaload, 1) := by decide +kernel
theorem dX9_blowsTooMuch_25 : decode cX9_blowsTooMuch 25 = .ok (.imul, 1) := by decide +kernel
theorem dX9_blowsTooMuch_26 : decode cX9_blowsTooMuch 26 = .ok (.iadd, 1) := by decide +kernel
theorem dX9_blowsTooMuch_27 : decode cX9_blowsTooMuch 27 = .ok (.istore_n 2, 1) := by decide +kernel
theorem dX9_blowsTooMuch_28 : decode cX9_blowsTooMuch 28 = .ok (.iconst 0, 1) := by decide +kernel
theorem dX9_blowsTooMuch_29 : decode cX9_blowsTooMuch 29 = .ok (.istore_n 3, 1) := by decide +kernel
theorem dX9_blowsTooMuch_30 : decode cX9_blowsTooMuch 30 = .ok (.iconst 0, 1) := by decide +kernel
theorem dX9_blowsTooMuch_31 : decode cX9_blowsTooMuch 31 = .ok (.istore 4, 2) := by decide +kernel
theorem dX9_blowsTooMuch_33 : decode cX9_blowsTooMuch 33 = .ok (.iload 4, 2) := by decide +kernel
theorem dX9_blowsTooMuch_35 : decode cX9_blowsTooMuch 35 = .ok (.aload_n 0, 1) := by decide +kernel
theorem dX9_blowsTooMuch_36 : decode cX9_blowsTooMuch 36 = .ok (.getfield 72, 3) := by decide +kernel
theorem dX9_blowsTooMuch_39 : decode cX9_blowsTooMuch 39 = .ok (.iload_n 1, 1) := by decide +kernel
theorem dX9_blowsTooMuch_40 : decode cX9_blowsTooMuch 40 = .ok (.iaload, 1) := by decide +kernel
theorem dX9_blowsTooMuch_41 : decode cX9_blowsTooMuch 41 = .ok (.if_icmp .ge 47, 3) := by decide +kernel
theorem dX9_blowsTooMuch_44 : decode cX9_blowsTooMuch 44 = .ok (.iload_n 3, 1) := by decide +kernel
theorem dX9_blowsTooMuch_45 : decode cX9_blowsTooMuch 45 = .ok (.ifCond .ne 31, 3) := by decide +kernel
theorem dX9_blowsTooMuch_48 : decode cX9_blowsTooMuch 48 = .ok (.aload_n 0, 1) := by decide +kernel
theorem dX9_blowsTooMuch_49 : decode cX9_blowsTooMuch 49 = .ok (.getfield 66, 3) := by decide +kernel
theorem dX9_blowsTooMuch_52 : decode cX9_blowsTooMuch 52 = .ok (.iconst 2, 1) := by decide +kernel
theorem dX9_blowsTooMuch_53 : decode cX9_blowsTooMuch 53 = .ok (.aload_n 0, 1) := by decide +kernel
theorem dX9_blowsTooMuch_54 : decode cX9_blowsTooMuch 54 = .ok (.getfield 36, 3) := by decide +kernel
theorem dX9_blowsTooMuch_57 : decode cX9_blowsTooMuch 57 = .ok (.aload_n 0, 1) := by decide +kernel
theorem dX9_blowsTooMuch_58 : decode cX9_blowsTooMuch 58 = .ok (.getfield 75, 3) := by decide +kernel
theorem dX9_blowsTooMuch_61 : decode cX9_blowsTooMuch 61 = .ok (.bipush 6, 2) := by decide +kernel
theorem dX9_blowsTooMuch_63 : decode cX9_blowsTooMuch 63 = .ok (.iload_n 1, 1) := by decide +kernel
theorem dX9_blowsTooMuch_64 : decode cX9_blowsTooMuch 64 = .ok (.imul, 1) := by decide +kernel
theorem dX9_blowsTooMuch_65 : decode cX9_blowsTooMuch 65 = .ok (.iload 4, 2) := by decide +kernel
theorem dX9_blowsTooMuch_67 : decode cX9_blowsTooMuch 67 = .ok (.iadd, 1) := by decide +kernel
theorem dX9_blowsTooMuch_68 : decode cX9_blowsTooMuch 68 = .ok (.iaload, 1) := by decide +kernel
theorem dX9_blowsTooMuch_69 : decode cX9_blowsTooMuch 69 = .ok (.iaload, 1) := by decide +kernel
theorem dX9_blowsTooMuch_70 : decode cX9_blowsTooMuch 70 = .ok (.iadd, 1) := by decide +kernel
theorem dX9_blowsTooMuch_71 : decode cX9_blowsTooMuch 71 = .ok (.iaload, 1) := by decide +kernel
theorem dX9_blowsTooMuch_72 : decode cX9_blowsTooMuch 72 = .ok (.iload_n 2, 1) := by decide +kernel
theorem dX9_blowsTooMuch_73 : decode cX9_blowsTooMuch 73 = .ok (.if_icmp .ge 7, 3) := by decide +kernel
theorem dX9_blowsTooMuch_76 : decode cX9_blowsTooMuch 76 = .ok (.iconst 1, 1) := by decide +kernel
theorem dX9_blowsTooMuch_77 : decode cX9_blowsTooMuch 77 = .ok (.goto 4, 3) := by decide +kernel
theorem dX9_blowsTooMuch_80 : decode cX9_blowsTooMuch 80 = .ok (.iconst 0, 1) := by decide +kernel
theorem dX9_blowsTooMuch_81 : decode cX9_blowsTooMuch 81 = .ok (.istore_n 3, 1) := by decide +kernel
theorem dX9_blowsTooMuch_82 : decode cX9_blowsTooMuch 82 = .ok (.iinc 4 1, 3) := by decide +kernel
theorem dX9_blowsTooMuch_85 : decode cX9_blowsTooMuch 85 = .ok (.goto (-52), 3) := by decide +kernel
theorem dX9_blowsTooMuch_88 : decode cX9_blowsTooMuch 88 = .ok (.iload_n 3, 1) := by decide +kernel
theorem dX9_blowsTooMuch_89 : decode cX9_blowsTooMuch 89 = .ok (.ireturn, 1) := by decide +kernel
theorem dX9_areRanksWrong_0 : decode cX9_areRanksWrong 0 = .ok (.iconst 0, 1) := by decide +kernel
theorem dX9_areRanksWrong_1 : decode cX9_areRanksWrong 1 = .ok (.istore_n 2, 1) := by decide +kernel
theorem dX9_areRanksWrong_2 : decode cX9_areRanksWrong 2 = .ok (.iconst 1, 1) := by decide +kernel
theorem dX9_areRanksWrong_3 : decode cX9_areRanksWrong 3 = .ok (.istore_n 3, 1) := by decide +kernel
theorem dX9_areRanksWrong_4 : decode cX9_areRanksWrong 4 = .ok (.iload_n 3, 1) := by decide +kernel
theorem dX9_areRanksWrong_5 : decode cX9_areRanksWrong 5 = .ok (.aload_n 0, 1) := by decide +kernel
theorem dX9_areRanksWrong_6 : decode cX9_areRanksWrong 6 = .ok (.getfield 72, 3) := by decide +kernel
theorem dX9_areRanksWrong_9 : decode cX9_areRanksWrong 9 = .ok (.iload_n 1, 1) := by decide +kernel
theorem dX9_areRanksWrong_10 : decode cX9_areRanksWrong 10 = .ok (.iaload, 1) := by decide +kernel
theorem dX9_areRanksWrong_11 : decode cX9_areRanksWrong 11 = .ok (.if_icmp .ge 54, 3) := by decide +kernel
theorem dX9_areRanksWrong_14 : decode cX9_areRanksWrong 14 = .ok (.iload_n 2, 1) := by decide +kernel
theorem dX9_areRanksWrong_15 : decode cX9_areRanksWrong 15 = .ok (.ifCond .ne 38, 3) := by decide +kernel
theorem dX9_areRanksWrong_18 : decode cX9_areRanksWrong 18 = .ok (.aload_n 0, 1) := by decide +kernel
theorem dX9_areRanksWrong_19 : decode cX9_areRanksWrong 19 = .ok (.aload_n 0, 1) := by decide +kernel
theorem dX9_areRanksWrong_20 : decode cX9_areRanksWrong 20 = .ok (.getfield 75, 3) := by decide +kernel
theorem dX9_areRanksWrong_23 : decode cX9_areRanksWrong 23 = .ok (.bipush 6, 2) := by decide +kernel
theorem dX9_areRanksWrong_25 : decode cX9_areRanksWrong 25 = .ok (.iload_n 1, 1) := by decide +kernel
theorem dX9_areRanksWrong_26 : decode cX9_areRanksWrong 26 = .ok (.imul, 1) := by decide +kernel
theorem dX9_areRanksWrong_27 : decode cX9_areRanksWrong 27 = .ok (.iload_n 3, 1) := by decide +kernel
theorem dX9_areRanksWrong_28 : decode cX9_areRanksWrong 28 = .ok (.iadd, 1) := by decide +kernel
theorem dX9_areRanksWrong_29 : decode cX9_areRanksWrong 29 = .ok (.iconst 1, 1) := by decide +kernel
theorem dX9_areRanksWrong_30 : decode cX9_areRanksWrong 30 = .ok (.isub, 1) := by decide +kernel
theorem dX9_areRanksWrong_31 : decode cX9_areRanksWrong 31 = .ok (.iaload, 1) := by decide +kernel
theorem dX9_areRanksWrong_32 : decode cX9_areRanksWrong 32 = .ok (.invokevirtual 279, 3) := by decide +kernel
theorem dX9_areRanksWrong_35 : decode cX9_areRanksWrong 35 = .ok (.aload_n 0, 1) := by decide +kernel
theorem dX9_areRanksWrong_36 : decode cX9_areRanksWrong 36 = .ok (.aload_n 0, 1) := by decide +kernel
theorem dX9_areRanksWrong_37 : decode cX9_areRanksWrong 37 = .ok (.getfield 75, 3) := by decide +kernel
theorem dX9_areRanksWrong_40 : decode cX9_areRanksWrong 40 = .ok (.bipush 6, 2) := by decide +kernel
theorem dX9_areRanksWrong_42 : decode cX9_areRanksWrong 42 = .ok (.iload_n 1, 1) := by decide +kernel
theorem dX9_areRanksWrong_43 : decode cX9_areRanksWrong 43 = .ok (.imul, 1) := by decide +kernel
theorem dX9_areRanksWrong_44 : decode cX9_areRanksWrong 44 = .ok (.iload_n 3, 1) := by decide +kernel
theorem dX9_areRanksWrong_45 : decode cX9_areRanksWrong 45 = .ok (.iadd, 1) := by decide +kernel
theorem dX9_areRanksWrong_46 : decode cX9_areRanksWrong 46 = .ok (.iaload, 1) := by decide +kernel
theorem dX9_areRanksWrong_47 : decode cX9_areRanksWrong 47 = .ok (.invokevirtual 279, 3) := by decide +kernel
theorem dX9_areRanksWrong_50 : decode cX9_areRanksWrong 50 = .ok (.if_icmp .le 7, 3) := by decide +kernel
theorem dX9_areRanksWrong_53 : decode cX9_areRanksWrong 53 = .ok (.iconst 1, 1) := by decide +kernel
theorem dX9_areRanksWrong_54 : decode cX9_areRanksWrong 54 = .ok (.goto 4, 3) := by decide +kernel
theorem dX9_areRanksWrong_57 : decode cX9_areRanksWrong 57 = .ok (.iconst 0, 1) := by decide +kernel
theorem dX9_areRanksWrong_58 : decode cX9_areRanksWrong 58 = .ok (.istore_n 2, 1) := by decide +kernel
theorem dX9_areRanksWrong_59 : decode cX9_areRanksWrong 59 = .ok (.iinc 3 1, 3) := by decide +kernel
theorem dX9_areRanksWrong_62 : decode cX9_areRanksWrong 62 = .ok (.goto (-58), 3) := by decide +kernel
theorem dX9_areRanksWrong_65 : decode cX9_areRanksWrong 65 = .ok (.iload_n 2, 1) := by decide +kernel
theorem dX9_areRanksWrong_66 : decode cX9_areRanksWrong 66 = .ok (.ireturn, 1) := by decide +kernel
theorem dX9_areSomeNear_0 : decode cX9_areSomeNear 0 = .ok (.iconst 0, 1) := by decide +kernel
theorem dX9_areSomeNear_1 : decode cX9_areSomeNear 1 = .ok (.istore_n 2, 1) := by decide +kernel
theorem dX9_areSomeNear_2 : decode cX9_areSomeNear 2 = .ok (.iconst 0, 1) := by decide +kernel
theorem dX9_areSomeNear_3 : decode cX9_areSomeNear 3 = .ok (.istore_n 3, 1) := by decide +kernel
theorem dX9_areSomeNear_4 : decode cX9_areSomeNear 4 = .ok (.iload_n 3, 1) := by decide +kernel
theorem dX9_areSomeNear_5 : decode cX9_areSomeNear 5 = .ok (.aload_n 0, 1) := by decide +kernel
theorem dX9_areSomeNear_6 : decode cX9_areSomeNear 6 = .ok (.getfield 72, 3) := by decide +kernel
theorem dX9_areSomeNear_9 : decode cX9_areSomeNear 9 = .ok (.iload_n 1, 1) := by decide +kernel
theorem dX9_areSomeNear_10 : decode cX9_areSomeNear 10 = .ok (.iaload, 1) := by decide +kernel
theorem dX9_areSomeNear_11 : decode cX9_areSomeNear 11 = .ok (.if_icmp .ge 49, 3) := by decide +kernel
theorem dX9_areSomeNear_14 : decode cX9_areSomeNear 14 = .ok (.iconst 0, 1) := by decide +kernel
theorem dX9_areSomeNear_15 : decode cX9_areSomeNear 15 = .ok (.istore 4, 2) := by decide +kernel
theorem dX9_areSomeNear_17 : decode cX9_areSomeNear 17 = .ok (.iload 4, 2) := by decide +kernel
theorem dX9_areSomeNear_19 : decode cX9_areSomeNear 19 = .ok (.iload_n 3, 1) := by decide +kernel
theorem dX9_areSomeNear_20 : decode cX9_areSomeNear 20 = .ok (.if_icmp .ge 34, 3) := by decide +kernel
theorem dX9_areSomeNear_23 : decode cX9_areSomeNear 23 = .ok (.iload_n 2, 1) := by decide +kernel
theorem dX9_areSomeNear_24 : decode cX9_areSomeNear 24 = .ok (.ifCond .ne 18, 3) := by decide +kernel
theorem dX9_areSomeNear_27 : decode cX9_areSomeNear 27 = .ok (.aload_n 0, 1) := by decide +kernel
theorem dX9_areSomeNear_28 : decode cX9_areSomeNear 28 = .ok (.aload_n 0, 1) := by decide +kernel
theorem dX9_areSomeNear_29 : decode cX9_areSomeNear 29 = .ok (.iload_n 1, 1) := by decide +kernel
theorem dX9_areSomeNear_30 : decode cX9_areSomeNear 30 = .ok (.iload_n 3, 1) := by decide +kernel
theorem dX9_areSomeNear_31 : decode cX9_areSomeNear 31 = .ok (.iload 4, 2) := by decide +kernel
theorem dX9_areSomeNear_33 : decode cX9_areSomeNear 33 = .ok (.invokevirtual 268, 3) := by decide +kernel
theorem dX9_areSomeNear_36 : decode cX9_areSomeNear 36 = .ok (.invokevirtual 272, 3) := by decide +kernel
theorem dX9_areSomeNear_39 : decode cX9_areSomeNear 39 = .ok (.ifCond .ne 7, 3) := by decide +kernel
theorem dX9_areSomeNear_42 : decode cX9_areSomeNear 42 = .ok (.iconst 1, 1) := by decide +kernel
theorem dX9_areSomeNear_43 : decode cX9_areSomeNear 43 = .ok (.goto 4, 3) := by decide +kernel
theorem dX9_areSomeNear_46 : decode cX9_areSomeNear 46 = .ok (.iconst 0, 1) := by decide +kernel
theorem dX9_areSomeNear_47 : decode cX9_areSomeNear 47 = .ok (.istore_n 2, 1) := by decide +kernel
theorem dX9_areSomeNear_48 : decode cX9_areSomeNear 48 = .ok (.iinc 4 1, 3) := by decide +kernel
theorem dX9_areSomeNear_51 : decode cX9_areSomeNear 51 = .ok (.goto (-34), 3) := by decide +kernel
theorem dX9_areSomeNear_54 : decode cX9_areSomeNear 54 = .ok (.iinc 3 1, 3) := by decide +kernel
theorem dX9_areSomeNear_57 : decode cX9_areSomeNear 57 = .ok (.goto (-53), 3) := by decide +kernel
theorem dX9_areSomeNear_60 : decode cX9_areSomeNear 60 = .ok (.iload_n 2, 1) := by decide +kernel
theorem dX9_areSomeNear_61 : decode cX9_areSomeNear 61 = .ok (.ireturn, 1) := by decide +kernel
theorem dX9_isSomeOut_0 : decode cX9_isSomeOut 0 = .ok (.aload_n 0, 1) := by decide +kernel
theorem dX9_isSomeOut_1 : decode cX9_isSomeOut 1 = .ok (.iload_n 1, 1) := by decide +kernel
theorem dX9_isSomeOut_2 : decode cX9_isSomeOut 2 = .ok (.invokevirtual 305, 3) := by decide +kernel
theorem dX9_isSomeOut_5 : decode cX9_isSomeOut 5 = .ok (.aload_n 0, 1) := by decide +kernel
theorem dX9_isSomeOut_6 : decode cX9_isSomeOut 6 = .ok (.getfield 81, 3) := by decide +kernel
theorem dX9_isSomeOut_9 : decode cX9_isSomeOut 9 = .ok (.iload_n 1, 1) := by decide +kernel
theorem dX9_isSomeOut_10 : decode cX9_isSomeOut 10 = .ok (.iaload, 1) := by decide +kernel
theorem dX9_isSomeOut_11 : decode cX9_isSomeOut 11 = .ok (.i2l, 1) := by decide +kernel
theorem dX9_isSomeOut_12 : decode cX9_isSomeOut 12 = .ok (.aload_n 0, 1) := by decide +kernel
theorem dX9_isSomeOut_13 : decode cX9_isSomeOut 13 = .ok (.getfield 293, 3) := by decide +kernel
theorem dX9_isSomeOut_16 : decode cX9_isSomeOut 16 = .ok (.aload_n 0, 1) := by decide +kernel
theorem dX9_isSomeOut_17 : decode cX9_isSomeOut 17 = .ok (.getfield 297, 3) := by decide +kernel
theorem dX9_isSomeOut_20 : decode cX9_isSomeOut 20 = .ok (.invokestatic 138, 3) := by decide +kernel
theorem dX9_isSomeOut_23 : decode cX9_isSomeOut 23 = .ok (.ifCond .ne 7, 3) := by decide +kernel
theorem dX9_isSomeOut_26 : decode cX9_isSomeOut 26 = .ok (.iconst 1, 1) := by decide +kernel
theorem dX9_isSomeOut_27 : decode cX9_isSomeOut 27 = .ok (.goto 4, 3) := by decide +kernel
theorem dX9_isSomeOut_30 : decode cX9_isSomeOut 30 = .ok (.iconst 0, 1) := by decide +kernel
theorem dX9_isSomeOut_31 : decode cX9_isSomeOut 31 = .ok (.ireturn, 1) := by decide +kernel
theorem dX9_barOf_0 : decode cX9_barOf 0 = .ok (.aload_n 0, 1) := by decide +kernel
theorem dX9_barOf_1 : decode cX9_barOf 1 = .ok (.iload_n 1, 1) := by decide +kernel
theorem dX9_barOf_2 : decode cX9_barOf 2 = .ok (.invokevirtual 253, 3) := by decide +kernel
theorem dX9_barOf_5 : decode cX9_barOf 5 = .ok (.aload_n 0, 1) := by decide +kernel
theorem dX9_barOf_6 : decode cX9_barOf 6 = .ok (.getfield 69, 3) := by decide +kernel
theorem dX9_barOf_9 : decode cX9_barOf 9 = .ok (.iload_n 1, 1) := by decide +kernel
theorem dX9_barOf_10 : decode cX9_barOf 10 = .ok (.iaload, 1) := by decide +kernel
theorem dX9_barOf_11 : decode cX9_barOf 11 = .ok (.istore_n 3, 1) := by decide +kernel
theorem dX9_barOf_12 : decode cX9_barOf 12 = .ok (.aload_n 0, 1) := by decide +kernel
theorem dX9_barOf_13 : decode cX9_barOf 13 = .ok (.getfield 84, 3) := by decide +kernel
theorem dX9_barOf_16 : decode cX9_barOf 16 = .ok (.iload_n 1, 1) := by decide +kernel
theorem dX9_barOf_17 : decode cX9_barOf 17 = .ok (.baload, 1) := by decide +kernel
theorem dX9_barOf_18 : decode cX9_barOf 18 = .ok (.ifCond .eq 5, 3) := by decide +kernel
theorem dX9_barOf_21 : decode cX9_barOf 21 = .ok (.iconst 1, 1) := by decide +kernel
theorem dX9_barOf_22 : decode cX9_barOf 22 = .ok (.ireturn, 1) := by decide +kernel
theorem dX9_barOf_23 : decode cX9_barOf 23 = .ok (.aload_n 0, 1) := by decide +kernel
theorem dX9_barOf_24 : decode cX9_barOf 24 = .ok (.iload_n 1, 1) := by decide +kernel
theorem dX9_barOf_25 : decode cX9_barOf 25 = .ok (.invokevirtual 312, 3) := by decide +kernel
theorem dX9_barOf_28 : decode cX9_barOf 28 = .ok (.ifCond .eq 5, 3) := by decide +kernel
theorem dX9_barOf_31 : decode cX9_barOf 31 = .ok (.iconst 2, 1) := by decide +kernel
theorem dX9_barOf_32 : decode cX9_barOf 32 = .ok (.ireturn, 1) := by decide +kernel
theorem dX9_barOf_33 : decode cX9_barOf 33 = .ok (.aload_n 0, 1) := by decide +kernel
theorem dX9_barOf_34 : decode cX9_barOf 34 = .ok (.iload_n 1, 1) := by decide +kernel
theorem dX9_barOf_35 : decode cX9_barOf 35 = .ok (.invokevirtual 315, 3) := by decide +kernel
theorem dX9_barOf_38 : decode cX9_barOf 38 = .ok (.aload_n 0, 1) := by decide +kernel
theorem dX9_barOf_39 : decode cX9_barOf 39 = .ok (.getfield 54, 3) := by decide +kernel
theorem dX9_barOf_42 : decode cX9_barOf 42 = .ok (.iload_n 3, 1) := by decide +kernel
theorem dX9_barOf_43 : decode cX9_barOf 43 = .ok (.iaload, 1) := by decide +kernel
theorem dX9_barOf_44 : decode cX9_barOf 44 = .ok (.if_icmp .le 5, 3) := by decide +kernel
theorem dX9_barOf_47 : decode cX9_barOf 47 = .ok (.iconst 3, 1) := by decide +kernel
theorem dX9_barOf_48 : decode cX9_barOf 48 = .ok (.ireturn, 1) := by decide +kernel
theorem dX9_barOf_49 : decode cX9_barOf 49 = .ok (.aload_n 0, 1) := by decide +kernel
theorem dX9_barOf_50 : decode cX9_barOf 50 = .ok (.iload_n 1, 1) := by decide +kernel
theorem dX9_barOf_51 : decode cX9_barOf 51 = .ok (.invokevirtual 318, 3) := by decide +kernel
theorem dX9_barOf_54 : decode cX9_barOf 54 = .ok (.aload_n 0, 1) := by decide +kernel
theorem dX9_barOf_55 : decode cX9_barOf 55 = .ok (.getfield 57, 3) := by decide +kernel
theorem dX9_barOf_58 : decode cX9_barOf 58 = .ok (.iload_n 3, 1) := by decide +kernel
theorem dX9_barOf_59 : decode cX9_barOf 59 = .ok (.iaload, 1) := by decide +kernel
theorem dX9_barOf_60 : decode cX9_barOf 60 = .ok (.if_icmp .le 5, 3) := by decide +kernel
theorem dX9_barOf_63 : decode cX9_barOf 63 = .ok (.iconst 4, 1) := by decide +kernel
theorem dX9_barOf_64 : decode cX9_barOf 64 = .ok (.ireturn, 1) := by decide +kernel
theorem dX9_barOf_65 : decode cX9_barOf 65 = .ok (.aload_n 0, 1) := by decide +kernel
theorem dX9_barOf_66 : decode cX9_barOf 66 = .ok (.iload_n 1, 1) := by decide +kernel
theorem dX9_barOf_67 : decode cX9_barOf 67 = .ok (.iload_n 2, 1) := by decide +kernel
theorem dX9_barOf_68 : decode cX9_barOf 68 = .ok (.invokevirtual 321, 3) := by decide +kernel
theorem dX9_barOf_71 : decode cX9_barOf 71 = .ok (.ifCond .eq 5, 3) := by decide +kernel
theorem dX9_barOf_74 : decode cX9_barOf 74 = .ok (.iconst 5, 1) := by decide +kernel
theorem dX9_barOf_75 : decode cX9_barOf 75 = .ok (.ireturn, 1) := by decide +kernel
theorem dX9_barOf_76 : decode cX9_barOf 76 = .ok (.aload_n 0, 1) := by decide +kernel
theorem dX9_barOf_77 : decode cX9_barOf 77 = .ok (.iload_n 1, 1) := by decide +kernel
theorem dX9_barOf_78 : decode cX9_barOf 78 = .ok (.invokevirtual 324, 3) := by decide +kernel
theorem dX9_barOf_81 : decode cX9_barOf 81 = .ok (.ifCond .eq 6, 3) := by decide +kernel
theorem dX9_barOf_84 : decode cX9_barOf 84 = .ok (.bipush 6, 2) := by decide +kernel
theorem dX9_barOf_86 : decode cX9_barOf 86 = .ok (.ireturn, 1) := by decide +kernel
theorem dX9_barOf_87 : decode cX9_barOf 87 = .ok (.aload_n 0, 1) := by decide +kernel
theorem dX9_barOf_88 : decode cX9_barOf 88 = .ok (.iload_n 1, 1) := by decide +kernel
theorem dX9_barOf_89 : decode cX9_barOf 89 = .ok (.invokevirtual 327, 3) := by decide +kernel
theorem dX9_barOf_92 : decode cX9_barOf 92 = .ok (.ifCond .eq 6, 3) := by decide +kernel
theorem dX9_barOf_95 : decode cX9_barOf 95 = .ok (.bipush 7, 2) := by decide +kernel
theorem dX9_barOf_97 : decode cX9_barOf 97 = .ok (.ireturn, 1) := by decide +kernel
theorem dX9_barOf_98 : decode cX9_barOf 98 = .ok (.aload_n 0, 1) := by decide +kernel
theorem dX9_barOf_99 : decode cX9_barOf 99 = .ok (.iload_n 1, 1) := by decide +kernel
theorem dX9_barOf_100 : decode cX9_barOf 100 = .ok (.invokevirtual 330, 3) := by decide +kernel
theorem dX9_barOf_103 : decode cX9_barOf 103 = .ok (.ifCond .eq 6, 3) := by decide +kernel
theorem dX9_barOf_106 : decode cX9_barOf 106 = .ok (.bipush 8, 2) := by decide +kernel
theorem dX9_barOf_108 : decode cX9_barOf 108 = .ok (.ireturn, 1) := by decide +kernel
theorem dX9_barOf_109 : decode cX9_barOf 109 = .ok (.aload_n 0, 1) := by decide +kernel
theorem dX9_barOf_110 : decode cX9_barOf 110 = .ok (.iload_n 1, 1) := by decide +kernel
theorem dX9_barOf_111 : decode cX9_barOf 111 = .ok (.invokevirtual 333, 3) := by decide +kernel
theorem dX9_barOf_114 : decode cX9_barOf 114 = .ok (.ifCond .eq 8, 3) := by decide +kernel
theorem dX9_barOf_117 : decode cX9_barOf 117 = .ok (.bipush 9, 2) := by decide +kernel
theorem dX9_barOf_119 : decode cX9_barOf 119 = .ok (.goto 30, 3) := by decide +kernel
theorem dX9_barOf_122 : decode cX9_barOf 122 = .ok (.aload_n 0, 1) := by decide +kernel
theorem dX9_barOf_123 : decode cX9_barOf 123 = .ok (.iload_n 1, 1) := by decide +kernel
theorem dX9_barOf_124 : decode cX9_barOf 124 = .ok (.invokevirtual 336, 3) := by decide +kernel
theorem dX9_barOf_127 : decode cX9_barOf 127 = .ok (.ifCond .eq 8, 3) := by decide +kernel
theorem dX9_barOf_130 : decode cX9_barOf 130 = .ok (.bipush 10, 2) := by decide +kernel
theorem dX9_barOf_132 : decode cX9_barOf 132 = .ok (.goto 17, 3) := by decide +kernel
theorem dX9_barOf_135 : decode cX9_barOf 135 = .ok (.aload_n 0, 1) := by decide +kernel
theorem dX9_barOf_136 : decode cX9_barOf 136 = .ok (.iload_n 1, 1) := by decide +kernel
theorem dX9_barOf_137 : decode cX9_barOf 137 = .ok (.invokevirtual 339, 3) := by decide +kernel
theorem dX9_barOf_140 : decode cX9_barOf 140 = .ok (.ifCond .eq 8, 3) := by decide +kernel
theorem dX9_barOf_143 : decode cX9_barOf 143 = .ok (.bipush 11, 2) := by decide +kernel
theorem dX9_barOf_145 : decode cX9_barOf 145 = .ok (.goto 4, 3) := by decide +kernel
theorem dX9_barOf_148 : decode cX9_barOf 148 = .ok (.iconst 0, 1) := by decide +kernel
theorem dX9_barOf_149 : decode cX9_barOf 149 = .ok (.ireturn, 1) := by decide +kernel
theorem dX9_why_0 : decode cX9_why 0 = .ok (.aload_n 0, 1) := by decide +kernel
theorem dX9_why_1 : decode cX9_why 1 = .ok (.iload_n 1, 1) := by decide +kernel
theorem dX9_why_2 : decode cX9_why 2 = .ok (.invokevirtual 149, 3) := by decide +kernel
theorem dX9_why_5 : decode cX9_why 5 = .ok (.ifCond .eq 24, 3) := by decide +kernel
theorem dX9_why_8 : decode cX9_why 8 = .ok (.iload_n 2, 1) := by decide +kernel
theorem dX9_why_9 : decode cX9_why 9 = .ok (.i2l, 1) := by decide +kernel
theorem dX9_why_10 : decode cX9_why 10 = .ok (.lconst 0, 1) := by decide +kernel
theorem dX9_why_11 : decode cX9_why 11 = .ok (.ldc2_w 187, 3) := by decide +kernel
theorem dX9_why_14 : decode cX9_why 14 = .ok (.invokestatic 138, 3) := by decide +kernel
theorem dX9_why_17 : decode cX9_why 17 = .ok (.ifCond .eq 12, 3) := by decide +kernel
theorem dX9_why_20 : decode cX9_why 20 = .ok (.aload_n 0, 1) := by decide +kernel
theorem dX9_why_21 : decode cX9_why 21 = .ok (.iload_n 1, 1) := by decide +kernel
theorem dX9_why_22 : decode cX9_why 22 = .ok (.iload_n 2, 1) := by decide +kernel
theorem dX9_why_23 : decode cX9_why 23 = .ok (.invokevirtual 342, 3) := by decide +kernel
theorem dX9_why_26 : decode cX9_why 26 = .ok (.goto 4, 3) := by decide +kernel
theorem dX9_why_29 : decode cX9_why 29 = .ok (.iconst (-1), 1) := by decide +kernel
theorem dX9_why_30 : decode cX9_why 30 = .ok (.ireturn, 1) := by decide +kernel
theorem dX9_leave_0 : decode cX9_leave 0 = .ok (.aload_n 0, 1) := by decide +kernel
theorem dX9_leave_1 : decode cX9_leave 1 = .ok (.iload_n 1, 1) := by decide +kernel
theorem dX9_leave_2 : decode cX9_leave 2 = .ok (.invokevirtual 149, 3) := by decide +kernel
theorem dX9_leave_5 : decode cX9_leave 5 = .ok (.ifCond .eq 15, 3) := by decide +kernel
theorem dX9_leave_8 : decode cX9_leave 8 = .ok (.iload_n 2, 1) := by decide +kernel
theorem dX9_leave_9 : decode cX9_leave 9 = .ok (.i2l, 1) := by decide +kernel
theorem dX9_leave_10 : decode cX9_leave 10 = .ok (.lconst 0, 1) := by decide +kernel
theorem dX9_leave_11 : decode cX9_leave 11 = .ok (.ldc2_w 187, 3) := by decide +kernel
theorem dX9_leave_14 : decode cX9_leave 14 = .ok (.invokestatic 138, 3) := by decide +kernel
theorem dX9_leave_17 : decode cX9_leave 17 = .ok (.ifCond .ne 5, 3) := by decide +kernel
theorem dX9_leave_20 : decode cX9_leave 20 = .ok (.iconst (-1), 1) := by decide +kernel
theorem dX9_leave_21 : decode cX9_leave 21 = .ok (.ireturn, 1) := by decide +kernel
theorem dX9_leave_22 : decode cX9_leave 22 = .ok (.aload_n 0, 1) := by decide +kernel
theorem dX9_leave_23 : decode cX9_leave 23 = .ok (.iload_n 1, 1) := by decide +kernel
theorem dX9_leave_24 : decode cX9_leave 24 = .ok (.iload_n 2, 1) := by decide +kernel
theorem dX9_leave_25 : decode cX9_leave 25 = .ok (.invokevirtual 342, 3) := by decide +kernel
theorem dX9_leave_28 : decode cX9_leave 28 = .ok (.ifCond .le 6, 3) := by decide +kernel
theorem dX9_leave_31 : decode cX9_leave 31 = .ok (.bipush (-6), 2) := by decide +kernel
theorem dX9_leave_33 : decode cX9_leave 33 = .ok (.ireturn, 1) := by decide +kernel
theorem dX9_leave_34 : decode cX9_leave 34 = .ok (.aload_n 0, 1) := by decide +kernel
theorem dX9_leave_35 : decode cX9_leave 35 = .ok (.getfield 84, 3) := by decide +kernel
theorem dX9_leave_38 : decode cX9_leave 38 = .ok (.iload_n 1, 1) := by decide +kernel
theorem dX9_leave_39 : decode cX9_leave 39 = .ok (.iconst 1, 1) := by decide +kernel
theorem dX9_leave_40 : decode cX9_leave 40 = .ok (.bastore, 1) := by decide +kernel
theorem dX9_leave_41 : decode cX9_leave 41 = .ok (.aload_n 0, 1) := by decide +kernel
theorem dX9_leave_42 : decode cX9_leave 42 = .ok (.getfield 93, 3) := by decide +kernel
theorem dX9_leave_45 : decode cX9_leave 45 = .ok (.iload_n 1, 1) := by decide +kernel
theorem dX9_leave_46 : decode cX9_leave 46 = .ok (.aload_n 0, 1) := by decide +kernel
theorem dX9_leave_47 : decode cX9_leave 47 = .ok (.getfield 235, 3) := by decide +kernel
theorem dX9_leave_50 : decode cX9_leave 50 = .ok (.iastore, 1) := by decide +kernel
theorem dX9_leave_51 : decode cX9_leave 51 = .ok (.aload_n 0, 1) := by decide +kernel
theorem dX9_leave_52 : decode cX9_leave 52 = .ok (.getfield 96, 3) := by decide +kernel
theorem dX9_leave_55 : decode cX9_leave 55 = .ok (.iload_n 1, 1) := by decide +kernel
theorem dX9_leave_56 : decode cX9_leave 56 = .ok (.aload_n 0, 1) := by decide +kernel
theorem dX9_leave_57 : decode cX9_leave 57 = .ok (.getfield 238, 3) := by decide +kernel
theorem dX9_leave_60 : decode cX9_leave 60 = .ok (.iastore, 1) := by decide +kernel
theorem dX9_leave_61 : decode cX9_leave 61 = .ok (.iconst 0, 1) := by decide +kernel
theorem dX9_leave_62 : decode cX9_leave 62 = .ok (.istore_n 3, 1) := by decide +kernel
theorem dX9_leave_63 : decode cX9_leave 63 = .ok (.iload_n 3, 1) := by decide +kernel
theorem dX9_leave_64 : decode cX9_leave 64 = .ok (.bipush 12, 2) := by decide +kernel
theorem dX9_leave_66 : decode cX9_leave 66 = .ok (.if_icmp .ge 43, 3) := by decide +kernel
theorem dX9_leave_69 : decode cX9_leave 69 = .ok (.aload_n 0, 1) := by decide +kernel
theorem dX9_leave_70 : decode cX9_leave 70 = .ok (.getfield 87, 3) := by decide +kernel
theorem dX9_leave_73 : decode cX9_leave 73 = .ok (.bipush 12, 2) := by decide +kernel
theorem dX9_leave_75 : decode cX9_leave 75 = .ok (.iload_n 1, 1) := by decide +kernel
theorem dX9_leave_76 : decode cX9_leave 76 = .ok (.imul, 1) := by decide +kernel
theorem dX9_leave_77 : decode cX9_leave 77 = .ok (.iload_n 3, 1) := by decide +kernel
theorem dX9_leave_78 : decode cX9_leave 78 = .ok (.iadd, 1) := by decide +kernel
theorem dX9_leave_79 : decode cX9_leave 79 = .ok (.aload_n 0, 1) := by decide +kernel
theorem dX9_leave_80 : decode cX9_leave 80 = .ok (.getfield 21, 3) := by decide +kernel
theorem dX9_leave_83 : decode cX9_leave 83 = .ok (.iload_n 3, 1) := by decide +kernel
theorem dX9_leave_84 : decode cX9_leave 84 = .ok (.iaload, 1) := by decide +kernel
theorem dX9_leave_85 : decode cX9_leave 85 = .ok (.iastore, 1) := by decide +kernel
theorem dX9_leave_86 : decode cX9_leave 86 = .ok (.aload_n 0, 1) := by decide +kernel
theorem dX9_leave_87 : decode cX9_leave 87 = .ok (.getfield 90, 3) := by decide +kernel
theorem dX9_leave_90 : decode cX9_leave 90 = .ok (.bipush 12, 2) := by decide +kernel
theorem dX9_leave_92 : decode cX9_leave 92 = .ok (.iload_n 1, 1) := by decide +kernel
theorem dX9_leave_93 : decode cX9_leave 93 = .ok (.imul, 1) := by decide +kernel
theorem dX9_leave_94 : decode cX9_leave 94 = .ok (.iload_n 3, 1) := by decide +kernel
theorem dX9_leave_95 : decode cX9_leave 95 = .ok (.iadd, 1) := by decide +kernel
theorem dX9_leave_96 : decode cX9_leave 96 = .ok (.aload_n 0, 1) := by decide +kernel
theorem dX9_leave_97 : decode cX9_leave 97 = .ok (.getfield 24, 3) := by decide +kernel
theorem dX9_leave_100 : decode cX9_leave 100 = .ok (.iload_n 3, 1) := by decide +kernel
theorem dX9_leave_101 : decode cX9_leave 101 = .ok (.iaload, 1) := by decide +kernel
theorem dX9_leave_102 : decode cX9_leave 102 = .ok (.iastore, 1) := by decide +kernel
theorem dX9_leave_103 : decode cX9_leave 103 = .ok (.iinc 3 1, 3) := by decide +kernel
theorem dX9_leave_106 : decode cX9_leave 106 = .ok (.goto (-43), 3) := by decide +kernel
theorem dX9_leave_109 : decode cX9_leave 109 = .ok (.aload_n 0, 1) := by decide +kernel
theorem dX9_leave_110 : decode cX9_leave 110 = .ok (.iload_n 1, 1) := by decide +kernel
theorem dX9_leave_111 : decode cX9_leave 111 = .ok (.invokevirtual 315, 3) := by decide +kernel
theorem dX9_leave_114 : decode cX9_leave 114 = .ok (.istore_n 3, 1) := by decide +kernel
theorem dX9_leave_115 : decode cX9_leave 115 = .ok (.aload_n 0, 1) := by decide +kernel
theorem dX9_leave_116 : decode cX9_leave 116 = .ok (.dup, 1) := by decide +kernel
theorem dX9_leave_117 : decode cX9_leave 117 = .ok (.getfield 345, 3) := by decide +kernel
theorem dX9_leave_120 : decode cX9_leave 120 = .ok (.iload_n 3, 1) := by decide +kernel
theorem dX9_leave_121 : decode cX9_leave 121 = .ok (.iadd, 1) := by decide +kernel
theorem dX9_leave_122 : decode cX9_leave 122 = .ok (.putfield 345, 3) := by decide +kernel
theorem dX9_leave_125 : decode cX9_leave 125 = .ok (.iload_n 3, 1) := by decide +kernel
theorem dX9_leave_126 : decode cX9_leave 126 = .ok (.ireturn, 1) := by decide +kernel
theorem dX9_many_0 : decode cX9_many 0 = .ok (.iconst 0, 1) := by decide +kernel
theorem dX9_many_1 : decode cX9_many 1 = .ok (.istore_n 2, 1) := by decide +kernel
theorem dX9_many_2 : decode cX9_many 2 = .ok (.iconst 0, 1) := by decide +kernel
theorem dX9_many_3 : decode cX9_many 3 = .ok (.istore_n 3, 1) := by decide +kernel
theorem dX9_many_4 : decode cX9_many 4 = .ok (.iload_n 3, 1) := by decide +kernel
theorem dX9_many_5 : decode cX9_many 5 = .ok (.aload_n 0, 1) := by decide +kernel
theorem dX9_many_6 : decode cX9_many 6 = .ok (.getfield 146, 3) := by decide +kernel
theorem dX9_many_9 : decode cX9_many 9 = .ok (.if_icmp .ge 26, 3) := by decide +kernel
theorem dX9_many_12 : decode cX9_many 12 = .ok (.iload_n 2, 1) := by decide +kernel
theorem dX9_many_13 : decode cX9_many 13 = .ok (.aload_n 0, 1) := by decide +kernel
theorem dX9_many_14 : decode cX9_many 14 = .ok (.getfield 84, 3) := by decide +kernel
theorem dX9_many_17 : decode cX9_many 17 = .ok (.iload_n 3, 1) := by decide +kernel
theorem dX9_many_18 : decode cX9_many 18 = .ok (.baload, 1) := by decide +kernel
theorem dX9_many_19 : decode cX9_many 19 = .ok (.ifCond .eq 7, 3) := by decide +kernel
theorem dX9_many_22 : decode cX9_many 22 = .ok (.iconst 1, 1) := by decide +kernel
theorem dX9_many_23 : decode cX9_many 23 = .ok (.goto 4, 3) := by decide +kernel
theorem dX9_many_26 : decode cX9_many 26 = .ok (.iconst 0, 1) := by decide +kernel
theorem dX9_many_27 : decode cX9_many 27 = .ok (.iadd, 1) := by decide +kernel
theorem dX9_many_28 : decode cX9_many 28 = .ok (.istore_n 2, 1) := by decide +kernel
theorem dX9_many_29 : decode cX9_many 29 = .ok (.iinc 3 1, 3) := by decide +kernel
theorem dX9_many_32 : decode cX9_many 32 = .ok (.goto (-28), 3) := by decide +kernel
theorem dX9_many_35 : decode cX9_many 35 = .ok (.iload_n 1, 1) := by decide +kernel
theorem dX9_many_36 : decode cX9_many 36 = .ok (.tableswitch 49 0 3 #[32, 37, 42, 44], 32) := by decide +kernel
theorem dX9_many_68 : decode cX9_many 68 = .ok (.aload_n 0, 1) := by decide +kernel
theorem dX9_many_69 : decode cX9_many 69 = .ok (.getfield 142, 3) := by decide +kernel
theorem dX9_many_72 : decode cX9_many 72 = .ok (.ireturn, 1) := by decide +kernel
theorem dX9_many_73 : decode cX9_many 73 = .ok (.aload_n 0, 1) := by decide +kernel
theorem dX9_many_74 : decode cX9_many 74 = .ok (.getfield 146, 3) := by decide +kernel
theorem dX9_many_77 : decode cX9_many 77 = .ok (.ireturn, 1) := by decide +kernel
theorem dX9_many_78 : decode cX9_many 78 = .ok (.iload_n 2, 1) := by decide +kernel
theorem dX9_many_79 : decode cX9_many 79 = .ok (.ireturn, 1) := by decide +kernel
theorem dX9_many_80 : decode cX9_many 80 = .ok (.aload_n 0, 1) := by decide +kernel
theorem dX9_many_81 : decode cX9_many 81 = .ok (.getfield 345, 3) := by decide +kernel
theorem dX9_many_84 : decode cX9_many 84 = .ok (.ireturn, 1) := by decide +kernel
theorem dX9_many_85 : decode cX9_many 85 = .ok (.iconst (-1), 1) := by decide +kernel
theorem dX9_many_86 : decode cX9_many 86 = .ok (.ireturn, 1) := by decide +kernel
end
section
theorem dL_law_0 : decode cL_law 0 = .ok (.new 7, 3) := by decide +kernel
theorem dL_law_3 : decode cL_law 3 = .ok (.dup, 1) := by decide +kernel
theorem dL_law_4 : decode cL_law 4 = .ok (.invokespecial 9, 3) := by decide +kernel
theorem dL_law_7 : decode cL_law 7 = .ok (.astore_n 1, 1) := by decide +kernel
theorem dL_law_8 : decode cL_law 8 = .ok (.new 10, 3) := by decide +kernel
theorem dL_law_11 : decode cL_law 11 = .ok (.dup, 1) := by decide +kernel
theorem dL_law_12 : decode cL_law 12 = .ok (.invokespecial 12, 3) := by decide +kernel
theorem dL_law_15 : decode cL_law 15 = .ok (.astore_n 2, 1) := by decide +kernel
theorem dL_law_16 : decode cL_law 16 = .ok (.iconst 0, 1) := by decide +kernel
theorem dL_law_17 : decode cL_law 17 = .ok (.istore_n 3, 1) := by decide +kernel
theorem dL_law_18 : decode cL_law 18 = .ok (.iload_n 3, 1) := by decide +kernel
theorem dL_law_19 : decode cL_law 19 = .ok (.aload_n 0, 1) := by decide +kernel
theorem dL_law_20 : decode cL_law 20 = .ok (.arraylength, 1) := by decide +kernel
theorem dL_law_21 : decode cL_law 21 = .ok (.bipush 6, 2) := by decide +kernel
theorem dL_law_23 : decode cL_law 23 = .ok (.isub, 1) := by decide +kernel
theorem dL_law_24 : decode cL_law 24 = .ok (.if_icmp .gt 1187, 3) := by decide +kernel
theorem dL_law_27 : decode cL_law 27 = .ok (.aload_n 0, 1) := by decide +kernel
theorem dL_law_28 : decode cL_law 28 = .ok (.iload_n 3, 1) := by decide +kernel
theorem dL_law_29 : decode cL_law 29 = .ok (.iaload, 1) := by decide +kernel
theorem dL_law_30 : decode cL_law 30 = .ok (.bipush 31, 2) := by decide +kernel
theorem dL_law_32 : decode cL_law 32 = .ok (.iand, 1) := by decide +kernel
theorem dL_law_33 : decode cL_law 33 = .ok (.tableswitch 1172 0 27 #[127, 160, 213, 246, 269, 302, 335, 378, 411, 464, 517, 550, 583, 646, 679, 702, 745, 778, 821, 854, 887, 940, 984, 1027, 1050, 1083, 1116, 1149], 127) := by decide +kernel
theorem dL_law_160 : decode cL_law 160 = .ok (.aload_n 1, 1) := by decide +kernel
theorem dL_law_161 : decode cL_law 161 = .ok (.aload_n 0, 1) := by decide +kernel
theorem dL_law_162 : decode cL_law 162 = .ok (.iload_n 3, 1) := by decide +kernel
theorem dL_law_163 : decode cL_law 163 = .ok (.iconst 1, 1) := by decide +kernel
theorem dL_law_164 : decode cL_law 164 = .ok (.iadd, 1) := by decide +kernel
theorem dL_law_165 : decode cL_law 165 = .ok (.iaload, 1) := by decide +kernel
theorem dL_law_166 : decode cL_law 166 = .ok (.aload_n 0, 1) := by decide +kernel
theorem dL_law_167 : decode cL_law 167 = .ok (.iload_n 3, 1) := by decide +kernel
theorem dL_law_168 : decode cL_law 168 = .ok (.iconst 2, 1) := by decide +kernel
theorem dL_law_169 : decode cL_law 169 = .ok (.iadd, 1) := by decide +kernel
theorem dL_law_170 : decode cL_law 170 = .ok (.iaload, 1) := by decide +kernel
theorem dL_law_171 : decode cL_law 171 = .ok (.invokevirtual 13, 3) := by decide +kernel
theorem dL_law_174 : decode cL_law 174 = .ok (.aload_n 2, 1) := by decide +kernel
theorem dL_law_175 : decode cL_law 175 = .ok (.aload_n 0, 1) := by decide +kernel
theorem dL_law_176 : decode cL_law 176 = .ok (.iload_n 3, 1) := by decide +kernel
theorem dL_law_177 : decode cL_law 177 = .ok (.iconst 1, 1) := by decide +kernel
theorem dL_law_178 : decode cL_law 178 = .ok (.iadd, 1) := by decide +kernel
theorem dL_law_179 : decode cL_law 179 = .ok (.iaload, 1) := by decide +kernel
theorem dL_law_180 : decode cL_law 180 = .ok (.aload_n 0, 1) := by decide +kernel
theorem dL_law_181 : decode cL_law 181 = .ok (.iload_n 3, 1) := by decide +kernel
theorem dL_law_182 : decode cL_law 182 = .ok (.iconst 2, 1) := by decide +kernel
theorem dL_law_183 : decode cL_law 183 = .ok (.iadd, 1) := by decide +kernel
theorem dL_law_184 : decode cL_law 184 = .ok (.iaload, 1) := by decide +kernel
theorem dL_law_185 : decode cL_law 185 = .ok (.invokevirtual 17, 3) := by decide +kernel
theorem dL_law_188 : decode cL_law 188 = .ok (.if_icmp .eq 1017, 3) := by decide +kernel
theorem dL_law_191 : decode cL_law 191 = .ok (.iconst 0, 1) := by decide +kernel
theorem dL_law_192 : decode cL_law 192 = .ok (.ireturn, 1) := by decide +kernel
theorem dL_law_193 : decode cL_law 193 = .ok (.aload_n 1, 1) := by decide +kernel
theorem dL_law_194 : decode cL_law 194 = .ok (.aload_n 0, 1) := by decide +kernel
theorem dL_law_195 : decode cL_law 195 = .ok (.iload_n 3, 1) := by decide +kernel
theorem dL_law_196 : decode cL_law 196 = .ok (.iconst 1, 1) := by decide +kernel
theorem dL_law_197 : decode cL_law 197 = .ok (.iadd, 1) := by decide +kernel
theorem dL_law_198 : decode cL_law 198 = .ok (.iaload, 1) := by decide +kernel
theorem dL_law_199 : decode cL_law 199 = .ok (.aload_n 0, 1) := by decide +kernel
theorem dL_law_200 : decode cL_law 200 = .ok (.iload_n 3, 1) := by decide +kernel
theorem dL_law_201 : decode cL_law 201 = .ok (.iconst 2, 1) := by decide +kernel
theorem dL_law_202 : decode cL_law 202 = .ok (.iadd, 1) := by decide +kernel
theorem dL_law_203 : decode cL_law 203 = .ok (.iaload, 1) := by decide +kernel
theorem dL_law_204 : decode cL_law 204 = .ok (.aload_n 0, 1) := by decide +kernel
theorem dL_law_205 : decode cL_law 205 = .ok (.iload_n 3, 1) := by decide +kernel
theorem dL_law_206 : decode cL_law 206 = .ok (.iconst 3, 1) := by decide +kernel
theorem dL_law_207 : decode cL_law 207 = .ok (.iadd, 1) := by decide +kernel
theorem dL_law_208 : decode cL_law 208 = .ok (.iaload, 1) := by decide +kernel
theorem dL_law_209 : decode cL_law 209 = .ok (.aload_n 0, 1) := by decide +kernel
theorem dL_law_210 : decode cL_law 210 = .ok (.iload_n 3, 1) := by decide +kernel
theorem dL_law_211 : decode cL_law 211 = .ok (.iconst 4, 1) := by decide +kernel
theorem dL_law_212 : decode cL_law 212 = .ok (.iadd, 1) := by decide +kernel
theorem dL_law_213 : decode cL_law 213 = .ok (.iaload, 1) := by decide +kernel
theorem dL_law_214 : decode cL_law 214 = .ok (.invokevirtual 18, 3) := by decide +kernel
theorem dL_law_217 : decode cL_law 217 = .ok (.aload_n 2, 1) := by decide +kernel
theorem dL_law_218 : decode cL_law 218 = .ok (.aload_n 0, 1) := by decide +kernel
theorem dL_law_219 : decode cL_law 219 = .ok (.iload_n 3, 1) := by decide +kernel
theorem dL_law_220 : decode cL_law 220 = .ok (.iconst 1, 1) := by decide +kernel
theorem dL_law_221 : decode cL_law 221 = .ok (.iadd, 1) := by decide +kernel
theorem dL_law_222 : decode cL_law 222 = .ok (.iaload, 1) := by decide +kernel
theorem dL_law_223 : decode cL_law 223 = .ok (.aload_n 0, 1) := by decide +kernel
theorem dL_law_224 : decode cL_law 224 = .ok (.iload_n 3, 1) := by decide +kernel
theorem dL_law_225 : decode cL_law 225 = .ok (.iconst 2, 1) := by decide +kernel
theorem dL_law_226 : decode cL_law 226 = .ok (.iadd, 1) := by decide +kernel
theorem dL_law_227 : decode cL_law 227 = .ok (.iaload, 1) := by decide +kernel
theorem dL_law_228 : decode cL_law 228 = .ok (.aload_n 0, 1) := by decide +kernel
theorem dL_law_229 : decode cL_law 229 = .ok (.iload_n 3, 1) := by decide +kernel
theorem dL_law_230 : decode cL_law 230 = .ok (.iconst 3, 1) := by decide +kernel
theorem dL_law_231 : decode cL_law 231 = .ok (.iadd, 1) := by decide +kernel
theorem dL_law_232 : decode cL_law 232 = .ok (.iaload, 1) := by decide +kernel
theorem dL_law_233 : decode cL_law 233 = .ok (.aload_n 0, 1) := by decide +kernel
theorem dL_law_234 : decode cL_law 234 = .ok (.iload_n 3, 1) := by decide +kernel
theorem dL_law_235 : decode cL_law 235 = .ok (.iconst 4, 1) := by decide +kernel
theorem dL_law_236 : decode cL_law 236 = .ok (.iadd, 1) := by decide +kernel
theorem dL_law_237 : decode cL_law 237 = .ok (.iaload, 1) := by decide +kernel
theorem dL_law_238 : decode cL_law 238 = .ok (.invokevirtual 22, 3) := by decide +kernel
theorem dL_law_241 : decode cL_law 241 = .ok (.if_icmp .eq 964, 3) := by decide +kernel
theorem dL_law_244 : decode cL_law 244 = .ok (.iconst 0, 1) := by decide +kernel
theorem dL_law_245 : decode cL_law 245 = .ok (.ireturn, 1) := by decide +kernel
theorem dL_law_246 : decode cL_law 246 = .ok (.aload_n 1, 1) := by decide +kernel
theorem dL_law_247 : decode cL_law 247 = .ok (.aload_n 0, 1) := by decide +kernel
theorem dL_law_248 : decode cL_law 248 = .ok (.iload_n 3, 1) := by decide +kernel
theorem dL_law_249 : decode cL_law 249 = .ok (.iconst 1, 1) := by decide +kernel
theorem dL_law_250 : decode cL_law 250 = .ok (.iadd, 1) := by decide +kernel
theorem dL_law_251 : decode cL_law 251 = .ok (.iaload, 1) := by decide +kernel
theorem dL_law_252 : decode cL_law 252 = .ok (.aload_n 0, 1) := by decide +kernel
theorem dL_law_253 : decode cL_law 253 = .ok (.iload_n 3, 1) := by decide +kernel
theorem dL_law_254 : decode cL_law 254 = .ok (.iconst 2, 1) := by decide +kernel
theorem dL_law_255 : decode cL_law 255 = .ok (.iadd, 1) := by decide +kernel
theorem dL_law_256 : decode cL_law 256 = .ok (.iaload, 1) := by decide +kernel
theorem dL_law_257 : decode cL_law 257 = .ok (.invokevirtual 23, 3) := by decide +kernel
theorem dL_law_260 : decode cL_law 260 = .ok (.aload_n 2, 1) := by decide +kernel
theorem dL_law_261 : decode cL_law 261 = .ok (.aload_n 0, 1) := by decide +kernel
theorem dL_law_262 : decode cL_law 262 = .ok (.iload_n 3, 1) := by decide +kernel
theorem dL_law_263 : decode cL_law 263 = .ok (.iconst 1, 1) := by decide +kernel
theorem dL_law_264 : decode cL_law 264 = .ok (.iadd, 1) := by decide +kernel
theorem dL_law_265 : decode cL_law 265 = .ok (.iaload, 1) := by decide +kernel
theorem dL_law_266 : decode cL_law 266 = .ok (.aload_n 0, 1) := by decide +kernel
theorem dL_law_267 : decode cL_law 267 = .ok (.iload_n 3, 1) := by decide +kernel
theorem dL_law_268 : decode cL_law 268 = .ok (.iconst 2, 1) := by decide +kernel
theorem dL_law_269 : decode cL_law 269 = .ok (.iadd, 1) := by decide +kernel
theorem dL_law_270 : decode cL_law 270 = .ok (.iaload, 1) := by decide +kernel
theorem dL_law_271 : decode cL_law 271 = .ok (.invokevirtual 26, 3) := by decide +kernel
theorem dL_law_274 : decode cL_law 274 = .ok (.if_icmp .eq 931, 3) := by decide +kernel
theorem dL_law_277 : decode cL_law 277 = .ok (.iconst 0, 1) := by decide +kernel
theorem dL_law_278 : decode cL_law 278 = .ok (.ireturn, 1) := by decide +kernel
theorem dL_law_279 : decode cL_law 279 = .ok (.aload_n 1, 1) := by decide +kernel
theorem dL_law_280 : decode cL_law 280 = .ok (.aload_n 0, 1) := by decide +kernel
theorem dL_law_281 : decode cL_law 281 = .ok (.iload_n 3, 1) := by decide +kernel
theorem dL_law_282 : decode cL_law 282 = .ok (.iconst 1, 1) := by decide +kernel
theorem dL_law_283 : decode cL_law 283 = .ok (.iadd, 1) := by decide +kernel
theorem dL_law_284 : decode cL_law 284 = .ok (.iaload, 1) := by decide +kernel
theorem dL_law_285 : decode cL_law 285 = .ok (.invokevirtual 27, 3) := by decide +kernel
theorem dL_law_288 : decode cL_law 288 = .ok (.aload_n 2, 1) := by decide +kernel
theorem dL_law_289 : decode cL_law 289 = .ok (.aload_n 0, 1) := by decide +kernel
theorem dL_law_290 : decode cL_law 290 = .ok (.iload_n 3, 1) := by decide +kernel
theorem dL_law_291 : decode cL_law 291 = .ok (.iconst 1, 1) := by decide +kernel
theorem dL_law_292 : decode cL_law 292 = .ok (.iadd, 1) := by decide +kernel
theorem dL_law_293 : decode cL_law 293 = .ok (.iaload, 1) := by decide +kernel
theorem dL_law_294 : decode cL_law 294 = .ok (.invokevirtual 31, 3) := by decide +kernel
theorem dL_law_297 : decode cL_law 297 = .ok (.if_icmp .eq 908, 3) := by decide +kernel
theorem dL_law_300 : decode cL_law 300 = .ok (.iconst 0, 1) := by decide +kernel
theorem dL_law_301 : decode cL_law 301 = .ok (.ireturn, 1) := by decide +kernel
theorem dL_law_302 : decode cL_law 302 = .ok (.aload_n 1, 1) := by decide +kernel
theorem dL_law_303 : decode cL_law 303 = .ok (.aload_n 0, 1) := by decide +kernel
theorem dL_law_304 : decode cL_law 304 = .ok (.iload_n 3, 1) := by decide +kernel
theorem dL_law_305 : decode cL_law 305 = .ok (.iconst 1, 1) := by decide +kernel
theorem dL_law_306 : decode cL_law 306 = .ok (.iadd, 1) := by decide +kernel
theorem dL_law_307 : decode cL_law 307 = .ok (.iaload, 1) := by decide +kernel
theorem dL_law_308 : decode cL_law 308 = .ok (.aload_n 0, 1) := by decide +kernel
theorem dL_law_309 : decode cL_law 309 = .ok (.iload_n 3, 1) := by decide +kernel
theorem dL_law_310 : decode cL_law 310 = .ok (.iconst 2, 1) := by decide +kernel
theorem dL_law_311 : decode cL_law 311 = .ok (.iadd, 1) := by decide +kernel
theorem dL_law_312 : decode cL_law 312 = .ok (.iaload, 1) := by decide +kernel
theorem dL_law_313 : decode cL_law 313 = .ok (.invokevirtual 32, 3) := by decide +kernel
theorem dL_law_316 : decode cL_law 316 = .ok (.aload_n 2, 1) := by decide +kernel
theorem dL_law_317 : decode cL_law 317 = .ok (.aload_n 0, 1) := by decide +kernel
theorem dL_law_318 : decode cL_law 318 = .ok (.iload_n 3, 1) := by decide +kernel
theorem dL_law_319 : decode cL_law 319 = .ok (.iconst 1, 1) := by decide +kernel
theorem dL_law_320 : decode cL_law 320 = .ok (.iadd, 1) := by decide +kernel
theorem dL_law_321 : decode cL_law 321 = .ok (.iaload, 1) := by decide +kernel
theorem dL_law_322 : decode cL_law 322 = .ok (.aload_n 0, 1) := by decide +kernel
theorem dL_law_323 : decode cL_law 323 = .ok (.iload_n 3, 1) := by decide +kernel
theorem dL_law_324 : decode cL_law 324 = .ok (.iconst 2, 1) := by decide +kernel
theorem dL_law_325 : decode cL_law 325 = .ok (.iadd, 1) := by decide +kernel
theorem dL_law_326 : decode cL_law 326 = .ok (.iaload, 1) := by decide +kernel
theorem dL_law_327 : decode cL_law 327 = .ok (.invokevirtual 35, 3) := by decide +kernel
theorem dL_law_330 : decode cL_law 330 = .ok (.if_icmp .eq 875, 3) := by decide +kernel
theorem dL_law_333 : decode cL_law 333 = .ok (.iconst 0, 1) := by decide +kernel
theorem dL_law_334 : decode cL_law 334 = .ok (.ireturn, 1) := by decide +kernel
theorem dL_law_335 : decode cL_law 335 = .ok (.aload_n 1, 1) := by decide +kernel
theorem dL_law_336 : decode cL_law 336 = .ok (.aload_n 0, 1) := by decide +kernel
theorem dL_law_337 : decode cL_law 337 = .ok (.iload_n 3, 1) := by decide +kernel
theorem dL_law_338 : decode cL_law 338 = .ok (.iconst 1, 1) := by decide +kernel
theorem dL_law_339 : decode cL_law 339 = .ok (.iadd, 1) := by decide +kernel
theorem dL_law_340 : decode cL_law 340 = .ok (.iaload, 1) := by decide +kernel
theorem dL_law_341 : decode cL_law 341 = .ok (.aload_n 0, 1) := by decide +kernel
theorem dL_law_342 : decode cL_law 342 = .ok (.iload_n 3, 1) := by decide +kernel
theorem dL_law_343 : decode cL_law 343 = .ok (.iconst 2, 1) := by decide +kernel
theorem dL_law_344 : decode cL_law 344 = .ok (.iadd, 1) := by decide +kernel
theorem dL_law_345 : decode cL_law 345 = .ok (.iaload, 1) := by decide +kernel
theorem dL_law_346 : decode cL_law 346 = .ok (.invokevirtual 36, 3) := by decide +kernel
theorem dL_law_349 : decode cL_law 349 = .ok (.aload_n 2, 1) := by decide +kernel
theorem dL_law_350 : decode cL_law 350 = .ok (.aload_n 0, 1) := by decide +kernel
theorem dL_law_351 : decode cL_law 351 = .ok (.iload_n 3, 1) := by decide +kernel
theorem dL_law_352 : decode cL_law 352 = .ok (.iconst 1, 1) := by decide +kernel
theorem dL_law_353 : decode cL_law 353 = .ok (.iadd, 1) := by decide +kernel
theorem dL_law_354 : decode cL_law 354 = .ok (.iaload, 1) := by decide +kernel
theorem dL_law_355 : decode cL_law 355 = .ok (.aload_n 0, 1) := by decide +kernel
theorem dL_law_356 : decode cL_law 356 = .ok (.iload_n 3, 1) := by decide +kernel
theorem dL_law_357 : decode cL_law 357 = .ok (.iconst 2, 1) := by decide +kernel
theorem dL_law_358 : decode cL_law 358 = .ok (.iadd, 1) := by decide +kernel
theorem dL_law_359 : decode cL_law 359 = .ok (.iaload, 1) := by decide +kernel
theorem dL_law_360 : decode cL_law 360 = .ok (.invokevirtual 39, 3) := by decide +kernel
theorem dL_law_363 : decode cL_law 363 = .ok (.if_icmp .eq 842, 3) := by decide +kernel
theorem dL_law_366 : decode cL_law 366 = .ok (.iconst 0, 1) := by decide +kernel
theorem dL_law_367 : decode cL_law 367 = .ok (.ireturn, 1) := by decide +kernel
theorem dL_law_368 : decode cL_law 368 = .ok (.aload_n 1, 1) := by decide +kernel
theorem dL_law_369 : decode cL_law 369 = .ok (.aload_n 0, 1) := by decide +kernel
theorem dL_law_370 : decode cL_law 370 = .ok (.iload_n 3, 1) := by decide +kernel
theorem dL_law_371 : decode cL_law 371 = .ok (.iconst 1, 1) := by decide +kernel
theorem dL_law_372 : decode cL_law 372 = .ok (.iadd, 1) := by decide +kernel
theorem dL_law_373 : decode cL_law 373 = .ok (.iaload, 1) := by decide +kernel
theorem dL_law_374 : decode cL_law 374 = .ok (.aload_n 0, 1) := by decide +kernel
theorem dL_law_375 : decode cL_law 375 = .ok (.iload_n 3, 1) := by decide +kernel
theorem dL_law_376 : decode cL_law 376 = .ok (.iconst 2, 1) := by decide +kernel
theorem dL_law_377 : decode cL_law 377 = .ok (.iadd, 1) := by decide +kernel
theorem dL_law_378 : decode cL_law 378 = .ok (.iaload, 1) := by decide +kernel
theorem dL_law_379 : decode cL_law 379 = .ok (.aload_n 0, 1) := by decide +kernel
theorem dL_law_380 : decode cL_law 380 = .ok (.iload_n 3, 1) := by decide +kernel
theorem dL_law_381 : decode cL_law 381 = .ok (.iconst 3, 1) := by decide +kernel
theorem dL_law_382 : decode cL_law 382 = .ok (.iadd, 1) := by decide +kernel
theorem dL_law_383 : decode cL_law 383 = .ok (.iaload, 1) := by decide +kernel
theorem dL_law_384 : decode cL_law 384 = .ok (.invokevirtual 40, 3) := by decide +kernel
theorem dL_law_387 : decode cL_law 387 = .ok (.aload_n 2, 1) := by decide +kernel
theorem dL_law_388 : decode cL_law 388 = .ok (.aload_n 0, 1) := by decide +kernel
theorem dL_law_389 : decode cL_law 389 = .ok (.iload_n 3, 1) := by decide +kernel
theorem dL_law_390 : decode cL_law 390 = .ok (.iconst 1, 1) := by decide +kernel
theorem dL_law_391 : decode cL_law 391 = .ok (.iadd, 1) := by decide +kernel
theorem dL_law_392 : decode cL_law 392 = .ok (.iaload, 1) := by decide +kernel
theorem dL_law_393 : decode cL_law 393 = .ok (.aload_n 0, 1) := by decide +kernel
theorem dL_law_394 : decode cL_law 394 = .ok (.iload_n 3, 1) := by decide +kernel
theorem dL_law_395 : decode cL_law 395 = .ok (.iconst 2, 1) := by decide +kernel
theorem dL_law_396 : decode cL_law 396 = .ok (.iadd, 1) := by decide +kernel
theorem dL_law_397 : decode cL_law 397 = .ok (.iaload, 1) := by decide +kernel
theorem dL_law_398 : decode cL_law 398 = .ok (.aload_n 0, 1) := by decide +kernel
theorem dL_law_399 : decode cL_law 399 = .ok (.iload_n 3, 1) := by decide +kernel
theorem dL_law_400 : decode cL_law 400 = .ok (.iconst 3, 1) := by decide +kernel
theorem dL_law_401 : decode cL_law 401 = .ok (.iadd, 1) := by decide +kernel
theorem dL_law_402 : decode cL_law 402 = .ok (.iaload, 1) := by decide +kernel
theorem dL_law_403 : decode cL_law 403 = .ok (.invokevirtual 44, 3) := by decide +kernel
theorem dL_law_406 : decode cL_law 406 = .ok (.if_icmp .eq 799, 3) := by decide +kernel
theorem dL_law_409 : decode cL_law 409 = .ok (.iconst 0, 1) := by decide +kernel
theorem dL_law_410 : decode cL_law 410 = .ok (.ireturn, 1) := by decide +kernel
theorem dL_law_411 : decode cL_law 411 = .ok (.aload_n 1, 1) := by decide +kernel
theorem dL_law_412 : decode cL_law 412 = .ok (.aload_n 0, 1) := by decide +kernel
theorem dL_law_413 : decode cL_law 413 = .ok (.iload_n 3, 1) := by decide +kernel
theorem dL_law_414 : decode cL_law 414 = .ok (.iconst 1, 1) := by decide +kernel
theorem dL_law_415 : decode cL_law 415 = .ok (.iadd, 1) := by decide +kernel
theorem dL_law_416 : decode cL_law 416 = .ok (.iaload, 1) := by decide +kernel
theorem dL_law_417 : decode cL_law 417 = .ok (.aload_n 0, 1) := by decide +kernel
theorem dL_law_418 : decode cL_law 418 = .ok (.iload_n 3, 1) := by decide +kernel
theorem dL_law_419 : decode cL_law 419 = .ok (.iconst 2, 1) := by decide +kernel
theorem dL_law_420 : decode cL_law 420 = .ok (.iadd, 1) := by decide +kernel
theorem dL_law_421 : decode cL_law 421 = .ok (.iaload, 1) := by decide +kernel
theorem dL_law_422 : decode cL_law 422 = .ok (.invokevirtual 45, 3) := by decide +kernel
theorem dL_law_425 : decode cL_law 425 = .ok (.aload_n 2, 1) := by decide +kernel
theorem dL_law_426 : decode cL_law 426 = .ok (.aload_n 0, 1) := by decide +kernel
theorem dL_law_427 : decode cL_law 427 = .ok (.iload_n 3, 1) := by decide +kernel
theorem dL_law_428 : decode cL_law 428 = .ok (.iconst 1, 1) := by decide +kernel
theorem dL_law_429 : decode cL_law 429 = .ok (.iadd, 1) := by decide +kernel
theorem dL_law_430 : decode cL_law 430 = .ok (.iaload, 1) := by decide +kernel
theorem dL_law_431 : decode cL_law 431 = .ok (.aload_n 0, 1) := by decide +kernel
theorem dL_law_432 : decode cL_law 432 = .ok (.iload_n 3, 1) := by decide +kernel
theorem dL_law_433 : decode cL_law 433 = .ok (.iconst 2, 1) := by decide +kernel
theorem dL_law_434 : decode cL_law 434 = .ok (.iadd, 1) := by decide +kernel
theorem dL_law_435 : decode cL_law 435 = .ok (.iaload, 1) := by decide +kernel
theorem dL_law_436 : decode cL_law 436 = .ok (.invokevirtual 48, 3) := by decide +kernel
theorem dL_law_439 : decode cL_law 439 = .ok (.if_icmp .eq 766, 3) := by decide +kernel
theorem dL_law_442 : decode cL_law 442 = .ok (.iconst 0, 1) := by decide +kernel
theorem dL_law_443 : decode cL_law 443 = .ok (.ireturn, 1) := by decide +kernel
theorem dL_law_444 : decode cL_law 444 = .ok (.aload_n 1, 1) := by decide +kernel
theorem dL_law_445 : decode cL_law 445 = .ok (.aload_n 0, 1) := by decide +kernel
theorem dL_law_446 : decode cL_law 446 = .ok (.iload_n 3, 1) := by decide +kernel
theorem dL_law_447 : decode cL_law 447 = .ok (.iconst 1, 1) := by decide +kernel
theorem dL_law_448 : decode cL_law 448 = .ok (.iadd, 1) := by decide +kernel
theorem dL_law_449 : decode cL_law 449 = .ok (.iaload, 1) := by decide +kernel
theorem dL_law_450 : decode cL_law 450 = .ok (.aload_n 0, 1) := by decide +kernel
theorem dL_law_451 : decode cL_law 451 = .ok (.iload_n 3, 1) := by decide +kernel
theorem dL_law_452 : decode cL_law 452 = .ok (.iconst 2, 1) := by decide +kernel
theorem dL_law_453 : decode cL_law 453 = .ok (.iadd, 1) := by decide +kernel
theorem dL_law_454 : decode cL_law 454 = .ok (.iaload, 1) := by decide +kernel
theorem dL_law_455 : decode cL_law 455 = .ok (.aload_n 0, 1) := by decide +kernel
theorem dL_law_456 : decode cL_law 456 = .ok (.iload_n 3, 1) := by decide +kernel
theorem dL_law_457 : decode cL_law 457 = .ok (.iconst 3, 1) := by decide +kernel
theorem dL_law_458 : decode cL_law 458 = .ok (.iadd, 1) := by decide +kernel
theorem dL_law_459 : decode cL_law 459 = .ok (.iaload, 1) := by decide +kernel
theorem dL_law_460 : decode cL_law 460 = .ok (.aload_n 0, 1) := by decide +kernel
theorem dL_law_461 : decode cL_law 461 = .ok (.iload_n 3, 1) := by decide +kernel
theorem dL_law_462 : decode cL_law 462 = .ok (.iconst 4, 1) := by decide +kernel
theorem dL_law_463 : decode cL_law 463 = .ok (.iadd, 1) := by decide +kernel
theorem dL_law_464 : decode cL_law 464 = .ok (.iaload, 1) := by decide +kernel
theorem dL_law_465 : decode cL_law 465 = .ok (.invokevirtual 49, 3) := by decide +kernel
theorem dL_law_468 : decode cL_law 468 = .ok (.aload_n 2, 1) := by decide +kernel
theorem dL_law_469 : decode cL_law 469 = .ok (.aload_n 0, 1) := by decide +kernel
theorem dL_law_470 : decode cL_law 470 = .ok (.iload_n 3, 1) := by decide +kernel
theorem dL_law_471 : decode cL_law 471 = .ok (.iconst 1, 1) := by decide +kernel
theorem dL_law_472 : decode cL_law 472 = .ok (.iadd, 1) := by decide +kernel
theorem dL_law_473 : decode cL_law 473 = .ok (.iaload, 1) := by decide +kernel
theorem dL_law_474 : decode cL_law 474 = .ok (.aload_n 0, 1) := by decide +kernel
theorem dL_law_475 : decode cL_law 475 = .ok (.iload_n 3, 1) := by decide +kernel
theorem dL_law_476 : decode cL_law 476 = .ok (.iconst 2, 1) := by decide +kernel
theorem dL_law_477 : decode cL_law 477 = .ok (.iadd, 1) := by decide +kernel
theorem dL_law_478 : decode cL_law 478 = .ok (.iaload, 1) := by decide +kernel
theorem dL_law_479 : decode cL_law 479 = .ok (.aload_n 0, 1) := by decide +kernel
theorem dL_law_480 : decode cL_law 480 = .ok (.iload_n 3, 1) := by decide +kernel
theorem dL_law_481 : decode cL_law 481 = .ok (.iconst 3, 1) := by decide +kernel
theorem dL_law_482 : decode cL_law 482 = .ok (.iadd, 1) := by decide +kernel
theorem dL_law_483 : decode cL_law 483 = .ok (.iaload, 1) := by decide +kernel
theorem dL_law_484 : decode cL_law 484 = .ok (.aload_n 0, 1) := by decide +kernel
theorem dL_law_485 : decode cL_law 485 = .ok (.iload_n 3, 1) := by decide +kernel
theorem dL_law_486 : decode cL_law 486 = .ok (.iconst 4, 1) := by decide +kernel
theorem dL_law_487 : decode cL_law 487 = .ok (.iadd, 1) := by decide +kernel
theorem dL_law_488 : decode cL_law 488 = .ok (.iaload, 1) := by decide +kernel
theorem dL_law_489 : decode cL_law 489 = .ok (.invokevirtual 52, 3) := by decide +kernel
theorem dL_law_492 : decode cL_law 492 = .ok (.if_icmp .eq 713, 3) := by decide +kernel
theorem dL_law_495 : decode cL_law 495 = .ok (.iconst 0, 1) := by decide +kernel
theorem dL_law_496 : decode cL_law 496 = .ok (.ireturn, 1) := by decide +kernel
theorem dL_law_497 : decode cL_law 497 = .ok (.aload_n 1, 1) := by decide +kernel
theorem dL_law_498 : decode cL_law 498 = .ok (.aload_n 0, 1) := by decide +kernel
theorem dL_law_499 : decode cL_law 499 = .ok (.iload_n 3, 1) := by decide +kernel
theorem dL_law_500 : decode cL_law 500 = .ok (.iconst 1, 1) := by decide +kernel
theorem dL_law_501 : decode cL_law 501 = .ok (.iadd, 1) := by decide +kernel
theorem dL_law_502 : decode cL_law 502 = .ok (.iaload, 1) := by decide +kernel
theorem dL_law_503 : decode cL_law 503 = .ok (.aload_n 0, 1) := by decide +kernel
theorem dL_law_504 : decode cL_law 504 = .ok (.iload_n 3, 1) := by decide +kernel
theorem dL_law_505 : decode cL_law 505 = .ok (.iconst 2, 1) := by decide +kernel
theorem dL_law_506 : decode cL_law 506 = .ok (.iadd, 1) := by decide +kernel
theorem dL_law_507 : decode cL_law 507 = .ok (.iaload, 1) := by decide +kernel
theorem dL_law_508 : decode cL_law 508 = .ok (.aload_n 0, 1) := by decide +kernel
theorem dL_law_509 : decode cL_law 509 = .ok (.iload_n 3, 1) := by decide +kernel
theorem dL_law_510 : decode cL_law 510 = .ok (.iconst 3, 1) := by decide +kernel
theorem dL_law_511 : decode cL_law 511 = .ok (.iadd, 1) := by decide +kernel
theorem dL_law_512 : decode cL_law 512 = .ok (.iaload, 1) := by decide +kernel
theorem dL_law_513 : decode cL_law 513 = .ok (.aload_n 0, 1) := by decide +kernel
theorem dL_law_514 : decode cL_law 514 = .ok (.iload_n 3, 1) := by decide +kernel
theorem dL_law_515 : decode cL_law 515 = .ok (.iconst 4, 1) := by decide +kernel
theorem dL_law_516 : decode cL_law 516 = .ok (.iadd, 1) := by decide +kernel
theorem dL_law_517 : decode cL_law 517 = .ok (.iaload, 1) := by decide +kernel
theorem dL_law_518 : decode cL_law 518 = .ok (.invokevirtual 53, 3) := by decide +kernel
theorem dL_law_521 : decode cL_law 521 = .ok (.aload_n 2, 1) := by decide +kernel
theorem dL_law_522 : decode cL_law 522 = .ok (.aload_n 0, 1) := by decide +kernel
theorem dL_law_523 : decode cL_law 523 = .ok (.iload_n 3, 1) := by decide +kernel
theorem dL_law_524 : decode cL_law 524 = .ok (.iconst 1, 1) := by decide +kernel
theorem dL_law_525 : decode cL_law 525 = .ok (.iadd, 1) := by decide +kernel
theorem dL_law_526 : decode cL_law 526 = .ok (.iaload, 1) := by decide +kernel
theorem dL_law_527 : decode cL_law 527 = .ok (.aload_n 0, 1) := by decide +kernel
theorem dL_law_528 : decode cL_law 528 = .ok (.iload_n 3, 1) := by decide +kernel
theorem dL_law_529 : decode cL_law 529 = .ok (.iconst 2, 1) := by decide +kernel
theorem dL_law_530 : decode cL_law 530 = .ok (.iadd, 1) := by decide +kernel
theorem dL_law_531 : decode cL_law 531 = .ok (.iaload, 1) := by decide +kernel
theorem dL_law_532 : decode cL_law 532 = .ok (.aload_n 0, 1) := by decide +kernel
theorem dL_law_533 : decode cL_law 533 = .ok (.iload_n 3, 1) := by decide +kernel
theorem dL_law_534 : decode cL_law 534 = .ok (.iconst 3, 1) := by decide +kernel
theorem dL_law_535 : decode cL_law 535 = .ok (.iadd, 1) := by decide +kernel
theorem dL_law_536 : decode cL_law 536 = .ok (.iaload, 1) := by decide +kernel
theorem dL_law_537 : decode cL_law 537 = .ok (.aload_n 0, 1) := by decide +kernel
theorem dL_law_538 : decode cL_law 538 = .ok (.iload_n 3, 1) := by decide +kernel
theorem dL_law_539 : decode cL_law 539 = .ok (.iconst 4, 1) := by decide +kernel
theorem dL_law_540 : decode cL_law 540 = .ok (.iadd, 1) := by decide +kernel
theorem dL_law_541 : decode cL_law 541 = .ok (.iaload, 1) := by decide +kernel
theorem dL_law_542 : decode cL_law 542 = .ok (.invokevirtual 56, 3) := by decide +kernel
theorem dL_law_545 : decode cL_law 545 = .ok (.if_icmp .eq 660, 3) := by decide +kernel
theorem dL_law_548 : decode cL_law 548 = .ok (.iconst 0, 1) := by decide +kernel
theorem dL_law_549 : decode cL_law 549 = .ok (.ireturn, 1) := by decide +kernel
theorem dL_law_550 : decode cL_law 550 = .ok (.aload_n 1, 1) := by decide +kernel
theorem dL_law_551 : decode cL_law 551 = .ok (.aload_n 0, 1) := by decide +kernel
theorem dL_law_552 : decode cL_law 552 = .ok (.iload_n 3, 1) := by decide +kernel
theorem dL_law_553 : decode cL_law 553 = .ok (.iconst 1, 1) := by decide +kernel
theorem dL_law_554 : decode cL_law 554 = .ok (.iadd, 1) := by decide +kernel
theorem dL_law_555 : decode cL_law 555 = .ok (.iaload, 1) := by decide +kernel
theorem dL_law_556 : decode cL_law 556 = .ok (.aload_n 0, 1) := by decide +kernel
theorem dL_law_557 : decode cL_law 557 = .ok (.iload_n 3, 1) := by decide +kernel
theorem dL_law_558 : decode cL_law 558 = .ok (.iconst 2, 1) := by decide +kernel
theorem dL_law_559 : decode cL_law 559 = .ok (.iadd, 1) := by decide +kernel
theorem dL_law_560 : decode cL_law 560 = .ok (.iaload, 1) := by decide +kernel
theorem dL_law_561 : decode cL_law 561 = .ok (.invokevirtual 57, 3) := by decide +kernel
theorem dL_law_564 : decode cL_law 564 = .ok (.aload_n 2, 1) := by decide +kernel
theorem dL_law_565 : decode cL_law 565 = .ok (.aload_n 0, 1) := by decide +kernel
theorem dL_law_566 : decode cL_law 566 = .ok (.iload_n 3, 1) := by decide +kernel
theorem dL_law_567 : decode cL_law 567 = .ok (.iconst 1, 1) := by decide +kernel
theorem dL_law_568 : decode cL_law 568 = .ok (.iadd, 1) := by decide +kernel
theorem dL_law_569 : decode cL_law 569 = .ok (.iaload, 1) := by decide +kernel
theorem dL_law_570 : decode cL_law 570 = .ok (.aload_n 0, 1) := by decide +kernel
theorem dL_law_571 : decode cL_law 571 = .ok (.iload_n 3, 1) := by decide +kernel
theorem dL_law_572 : decode cL_law 572 = .ok (.iconst 2, 1) := by decide +kernel
theorem dL_law_573 : decode cL_law 573 = .ok (.iadd, 1) := by decide +kernel
theorem dL_law_574 : decode cL_law 574 = .ok (.iaload, 1) := by decide +kernel
theorem dL_law_575 : decode cL_law 575 = .ok (.invokevirtual 60, 3) := by decide +kernel
theorem dL_law_578 : decode cL_law 578 = .ok (.if_icmp .eq 627, 3) := by decide +kernel
theorem dL_law_581 : decode cL_law 581 = .ok (.iconst 0, 1) := by decide +kernel
theorem dL_law_582 : decode cL_law 582 = .ok (.ireturn, 1) := by decide +kernel
theorem dL_law_583 : decode cL_law 583 = .ok (.aload_n 1, 1) := by decide +kernel
theorem dL_law_584 : decode cL_law 584 = .ok (.aload_n 0, 1) := by decide +kernel
theorem dL_law_585 : decode cL_law 585 = .ok (.iload_n 3, 1) := by decide +kernel
theorem dL_law_586 : decode cL_law 586 = .ok (.iconst 1, 1) := by decide +kernel
theorem dL_law_587 : decode cL_law 587 = .ok (.iadd, 1) := by decide +kernel
theorem dL_law_588 : decode cL_law 588 = .ok (.iaload, 1) := by decide +kernel
theorem dL_law_589 : decode cL_law 589 = .ok (.aload_n 0, 1) := by decide +kernel
theorem dL_law_590 : decode cL_law 590 = .ok (.iload_n 3, 1) := by decide +kernel
theorem dL_law_591 : decode cL_law 591 = .ok (.iconst 2, 1) := by decide +kernel
theorem dL_law_592 : decode cL_law 592 = .ok (.iadd, 1) := by decide +kernel
theorem dL_law_593 : decode cL_law 593 = .ok (.iaload, 1) := by decide +kernel
theorem dL_law_594 : decode cL_law 594 = .ok (.invokevirtual 61, 3) := by decide +kernel
theorem dL_law_597 : decode cL_law 597 = .ok (.aload_n 2, 1) := by decide +kernel
theorem dL_law_598 : decode cL_law 598 = .ok (.aload_n 0, 1) := by decide +kernel
theorem dL_law_599 : decode cL_law 599 = .ok (.iload_n 3, 1) := by decide +kernel
theorem dL_law_600 : decode cL_law 600 = .ok (.iconst 1, 1) := by decide +kernel
theorem dL_law_601 : decode cL_law 601 = .ok (.iadd, 1) := by decide +kernel
theorem dL_law_602 : decode cL_law 602 = .ok (.iaload, 1) := by decide +kernel
theorem dL_law_603 : decode cL_law 603 = .ok (.aload_n 0, 1) := by decide +kernel
theorem dL_law_604 : decode cL_law 604 = .ok (.iload_n 3, 1) := by decide +kernel
theorem dL_law_605 : decode cL_law 605 = .ok (.iconst 2, 1) := by decide +kernel
theorem dL_law_606 : decode cL_law 606 = .ok (.iadd, 1) := by decide +kernel
theorem dL_law_607 : decode cL_law 607 = .ok (.iaload, 1) := by decide +kernel
theorem dL_law_608 : decode cL_law 608 = .ok (.invokevirtual 64, 3) := by decide +kernel
theorem dL_law_611 : decode cL_law 611 = .ok (.if_icmp .eq 594, 3) := by decide +kernel
theorem dL_law_614 : decode cL_law 614 = .ok (.iconst 0, 1) := by decide +kernel
theorem dL_law_615 : decode cL_law 615 = .ok (.ireturn, 1) := by decide +kernel
theorem dL_law_616 : decode cL_law 616 = .ok (.aload_n 1, 1) := by decide +kernel
theorem dL_law_617 : decode cL_law 617 = .ok (.aload_n 0, 1) := by decide +kernel
theorem dL_law_618 : decode cL_law 618 = .ok (.iload_n 3, 1) := by decide +kernel
theorem dL_law_619 : decode cL_law 619 = .ok (.iconst 1, 1) := by decide +kernel
theorem dL_law_620 : decode cL_law 620 = .ok (.iadd, 1) := by decide +kernel
theorem dL_law_621 : decode cL_law 621 = .ok (.iaload, 1) := by decide +kernel
theorem dL_law_622 : decode cL_law 622 = .ok (.aload_n 0, 1) := by decide +kernel
theorem dL_law_623 : decode cL_law 623 = .ok (.iload_n 3, 1) := by decide +kernel
theorem dL_law_624 : decode cL_law 624 = .ok (.iconst 2, 1) := by decide +kernel
theorem dL_law_625 : decode cL_law 625 = .ok (.iadd, 1) := by decide +kernel
theorem dL_law_626 : decode cL_law 626 = .ok (.iaload, 1) := by decide +kernel
theorem dL_law_627 : decode cL_law 627 = .ok (.aload_n 0, 1) := by decide +kernel
theorem dL_law_628 : decode cL_law 628 = .ok (.iload_n 3, 1) := by decide +kernel
theorem dL_law_629 : decode cL_law 629 = .ok (.iconst 3, 1) := by decide +kernel
theorem dL_law_630 : decode cL_law 630 = .ok (.iadd, 1) := by decide +kernel
theorem dL_law_631 : decode cL_law 631 = .ok (.iaload, 1) := by decide +kernel
theorem dL_law_632 : decode cL_law 632 = .ok (.aload_n 0, 1) := by decide +kernel
theorem dL_law_633 : decode cL_law 633 = .ok (.iload_n 3, 1) := by decide +kernel
theorem dL_law_634 : decode cL_law 634 = .ok (.iconst 4, 1) := by decide +kernel
theorem dL_law_635 : decode cL_law 635 = .ok (.iadd, 1) := by decide +kernel
theorem dL_law_636 : decode cL_law 636 = .ok (.iaload, 1) := by decide +kernel
theorem dL_law_637 : decode cL_law 637 = .ok (.aload_n 0, 1) := by decide +kernel
theorem dL_law_638 : decode cL_law 638 = .ok (.iload_n 3, 1) := by decide +kernel
theorem dL_law_639 : decode cL_law 639 = .ok (.iconst 5, 1) := by decide +kernel
theorem dL_law_640 : decode cL_law 640 = .ok (.iadd, 1) := by decide +kernel
theorem dL_law_641 : decode cL_law 641 = .ok (.iaload, 1) := by decide +kernel
theorem dL_law_642 : decode cL_law 642 = .ok (.invokevirtual 65, 3) := by decide +kernel
theorem dL_law_645 : decode cL_law 645 = .ok (.aload_n 2, 1) := by decide +kernel
theorem dL_law_646 : decode cL_law 646 = .ok (.aload_n 0, 1) := by decide +kernel
theorem dL_law_647 : decode cL_law 647 = .ok (.iload_n 3, 1) := by decide +kernel
theorem dL_law_648 : decode cL_law 648 = .ok (.iconst 1, 1) := by decide +kernel
theorem dL_law_649 : decode cL_law 649 = .ok (.iadd, 1) := by decide +kernel
theorem dL_law_650 : decode cL_law 650 = .ok (.iaload, 1) := by decide +kernel
theorem dL_law_651 : decode cL_law 651 = .ok (.aload_n 0, 1) := by decide +kernel
theorem dL_law_652 : decode cL_law 652 = .ok (.iload_n 3, 1) := by decide +kernel
theorem dL_law_653 : decode cL_law 653 = .ok (.iconst 2, 1) := by decide +kernel
theorem dL_law_654 : decode cL_law 654 = .ok (.iadd, 1) := by decide +kernel
theorem dL_law_655 : decode cL_law 655 = .ok (.iaload, 1) := by decide +kernel
theorem dL_law_656 : decode cL_law 656 = .ok (.aload_n 0, 1) := by decide +kernel
theorem dL_law_657 : decode cL_law 657 = .ok (.iload_n 3, 1) := by decide +kernel
theorem dL_law_658 : decode cL_law 658 = .ok (.iconst 3, 1) := by decide +kernel
theorem dL_law_659 : decode cL_law 659 = .ok (.iadd, 1) := by decide +kernel
theorem dL_law_660 : decode cL_law 660 = .ok (.iaload, 1) := by decide +kernel
theorem dL_law_661 : decode cL_law 661 = .ok (.aload_n 0, 1) := by decide +kernel
theorem dL_law_662 : decode cL_law 662 = .ok (.iload_n 3, 1) := by decide +kernel
theorem dL_law_663 : decode cL_law 663 = .ok (.iconst 4, 1) := by decide +kernel
theorem dL_law_664 : decode cL_law 664 = .ok (.iadd, 1) := by decide +kernel
theorem dL_law_665 : decode cL_law 665 = .ok (.iaload, 1) := by decide +kernel
theorem dL_law_666 : decode cL_law 666 = .ok (.aload_n 0, 1) := by decide +kernel
theorem dL_law_667 : decode cL_law 667 = .ok (.iload_n 3, 1) := by decide +kernel
theorem dL_law_668 : decode cL_law 668 = .ok (.iconst 5, 1) := by decide +kernel
theorem dL_law_669 : decode cL_law 669 = .ok (.iadd, 1) := by decide +kernel
theorem dL_law_670 : decode cL_law 670 = .ok (.iaload, 1) := by decide +kernel
theorem dL_law_671 : decode cL_law 671 = .ok (.invokevirtual 69, 3) := by decide +kernel
theorem dL_law_674 : decode cL_law 674 = .ok (.if_icmp .eq 531, 3) := by decide +kernel
theorem dL_law_677 : decode cL_law 677 = .ok (.iconst 0, 1) := by decide +kernel
theorem dL_law_678 : decode cL_law 678 = .ok (.ireturn, 1) := by decide +kernel
theorem dL_law_679 : decode cL_law 679 = .ok (.aload_n 1, 1) := by decide +kernel
theorem dL_law_680 : decode cL_law 680 = .ok (.aload_n 0, 1) := by decide +kernel
theorem dL_law_681 : decode cL_law 681 = .ok (.iload_n 3, 1) := by decide +kernel
theorem dL_law_682 : decode cL_law 682 = .ok (.iconst 1, 1) := by decide +kernel
theorem dL_law_683 : decode cL_law 683 = .ok (.iadd, 1) := by decide +kernel
theorem dL_law_684 : decode cL_law 684 = .ok (.iaload, 1) := by decide +kernel
theorem dL_law_685 : decode cL_law 685 = .ok (.aload_n 0, 1) := by decide +kernel
theorem dL_law_686 : decode cL_law 686 = .ok (.iload_n 3, 1) := by decide +kernel
theorem dL_law_687 : decode cL_law 687 = .ok (.iconst 2, 1) := by decide +kernel
theorem dL_law_688 : decode cL_law 688 = .ok (.iadd, 1) := by decide +kernel
theorem dL_law_689 : decode cL_law 689 = .ok (.iaload, 1) := by decide +kernel
theorem dL_law_690 : decode cL_law 690 = .ok (.invokevirtual 70, 3) := by decide +kernel
theorem dL_law_693 : decode cL_law 693 = .ok (.aload_n 2, 1) := by decide +kernel
theorem dL_law_694 : decode cL_law 694 = .ok (.aload_n 0, 1) := by decide +kernel
theorem dL_law_695 : decode cL_law 695 = .ok (.iload_n 3, 1) := by decide +kernel
theorem dL_law_696 : decode cL_law 696 = .ok (.iconst 1, 1) := by decide +kernel
theorem dL_law_697 : decode cL_law 697 = .ok (.iadd, 1) := by decide +kernel
theorem dL_law_698 : decode cL_law 698 = .ok (.iaload, 1) := by decide +kernel
theorem dL_law_699 : decode cL_law 699 = .ok (.aload_n 0, 1) := by decide +kernel
theorem dL_law_700 : decode cL_law 700 = .ok (.iload_n 3, 1) := by decide +kernel
theorem dL_law_701 : decode cL_law 701 = .ok (.iconst 2, 1) := by decide +kernel
theorem dL_law_702 : decode cL_law 702 = .ok (.iadd, 1) := by decide +kernel
theorem dL_law_703 : decode cL_law 703 = .ok (.iaload, 1) := by decide +kernel
theorem dL_law_704 : decode cL_law 704 = .ok (.invokevirtual 73, 3) := by decide +kernel
theorem dL_law_707 : decode cL_law 707 = .ok (.if_icmp .eq 498, 3) := by decide +kernel
theorem dL_law_710 : decode cL_law 710 = .ok (.iconst 0, 1) := by decide +kernel
theorem dL_law_711 : decode cL_law 711 = .ok (.ireturn, 1) := by decide +kernel
theorem dL_law_712 : decode cL_law 712 = .ok (.aload_n 1, 1) := by decide +kernel
theorem dL_law_713 : decode cL_law 713 = .ok (.aload_n 0, 1) := by decide +kernel
theorem dL_law_714 : decode cL_law 714 = .ok (.iload_n 3, 1) := by decide +kernel
theorem dL_law_715 : decode cL_law 715 = .ok (.iconst 1, 1) := by decide +kernel
theorem dL_law_716 : decode cL_law 716 = .ok (.iadd, 1) := by decide +kernel
theorem dL_law_717 : decode cL_law 717 = .ok (.iaload, 1) := by decide +kernel
theorem dL_law_718 : decode cL_law 718 = .ok (.invokevirtual 74, 3) := by decide +kernel
theorem dL_law_721 : decode cL_law 721 = .ok (.aload_n 2, 1) := by decide +kernel
theorem dL_law_722 : decode cL_law 722 = .ok (.aload_n 0, 1) := by decide +kernel
theorem dL_law_723 : decode cL_law 723 = .ok (.iload_n 3, 1) := by decide +kernel
theorem dL_law_724 : decode cL_law 724 = .ok (.iconst 1, 1) := by decide +kernel
theorem dL_law_725 : decode cL_law 725 = .ok (.iadd, 1) := by decide +kernel
theorem dL_law_726 : decode cL_law 726 = .ok (.iaload, 1) := by decide +kernel
theorem dL_law_727 : decode cL_law 727 = .ok (.invokevirtual 77, 3) := by decide +kernel
theorem dL_law_730 : decode cL_law 730 = .ok (.if_icmp .eq 475, 3) := by decide +kernel
theorem dL_law_733 : decode cL_law 733 = .ok (.iconst 0, 1) := by decide +kernel
theorem dL_law_734 : decode cL_law 734 = .ok (.ireturn, 1) := by decide +kernel
theorem dL_law_735 : decode cL_law 735 = .ok (.aload_n 1, 1) := by decide +kernel
theorem dL_law_736 : decode cL_law 736 = .ok (.aload_n 0, 1) := by decide +kernel
theorem dL_law_737 : decode cL_law 737 = .ok (.iload_n 3, 1) := by decide +kernel
theorem dL_law_738 : decode cL_law 738 = .ok (.iconst 1, 1) := by decide +kernel
theorem dL_law_739 : decode cL_law 739 = .ok (.iadd, 1) := by decide +kernel
theorem dL_law_740 : decode cL_law 740 = .ok (.iaload, 1) := by decide +kernel
theorem dL_law_741 : decode cL_law 741 = .ok (.aload_n 0, 1) := by decide +kernel
theorem dL_law_742 : decode cL_law 742 = .ok (.iload_n 3, 1) := by decide +kernel
theorem dL_law_743 : decode cL_law 743 = .ok (.iconst 2, 1) := by decide +kernel
theorem dL_law_744 : decode cL_law 744 = .ok (.iadd, 1) := by decide +kernel
theorem dL_law_745 : decode cL_law 745 = .ok (.iaload, 1) := by decide +kernel
theorem dL_law_746 : decode cL_law 746 = .ok (.aload_n 0, 1) := by decide +kernel
theorem dL_law_747 : decode cL_law 747 = .ok (.iload_n 3, 1) := by decide +kernel
theorem dL_law_748 : decode cL_law 748 = .ok (.iconst 3, 1) := by decide +kernel
theorem dL_law_749 : decode cL_law 749 = .ok (.iadd, 1) := by decide +kernel
theorem dL_law_750 : decode cL_law 750 = .ok (.iaload, 1) := by decide +kernel
theorem dL_law_751 : decode cL_law 751 = .ok (.invokevirtual 78, 3) := by decide +kernel
theorem dL_law_754 : decode cL_law 754 = .ok (.aload_n 2, 1) := by decide +kernel
theorem dL_law_755 : decode cL_law 755 = .ok (.aload_n 0, 1) := by decide +kernel
theorem dL_law_756 : decode cL_law 756 = .ok (.iload_n 3, 1) := by decide +kernel
theorem dL_law_757 : decode cL_law 757 = .ok (.iconst 1, 1) := by decide +kernel
theorem dL_law_758 : decode cL_law 758 = .ok (.iadd, 1) := by decide +kernel
theorem dL_law_759 : decode cL_law 759 = .ok (.iaload, 1) := by decide +kernel
theorem dL_law_760 : decode cL_law 760 = .ok (.aload_n 0, 1) := by decide +kernel
theorem dL_law_761 : decode cL_law 761 = .ok (.iload_n 3, 1) := by decide +kernel
theorem dL_law_762 : decode cL_law 762 = .ok (.iconst 2, 1) := by decide +kernel
theorem dL_law_763 : decode cL_law 763 = .ok (.iadd, 1) := by decide +kernel
theorem dL_law_764 : decode cL_law 764 = .ok (.iaload, 1) := by decide +kernel
theorem dL_law_765 : decode cL_law 765 = .ok (.aload_n 0, 1) := by decide +kernel
theorem dL_law_766 : decode cL_law 766 = .ok (.iload_n 3, 1) := by decide +kernel
theorem dL_law_767 : decode cL_law 767 = .ok (.iconst 3, 1) := by decide +kernel
theorem dL_law_768 : decode cL_law 768 = .ok (.iadd, 1) := by decide +kernel
theorem dL_law_769 : decode cL_law 769 = .ok (.iaload, 1) := by decide +kernel
theorem dL_law_770 : decode cL_law 770 = .ok (.invokevirtual 81, 3) := by decide +kernel
theorem dL_law_773 : decode cL_law 773 = .ok (.if_icmp .eq 432, 3) := by decide +kernel
theorem dL_law_776 : decode cL_law 776 = .ok (.iconst 0, 1) := by decide +kernel
theorem dL_law_777 : decode cL_law 777 = .ok (.ireturn, 1) := by decide +kernel
theorem dL_law_778 : decode cL_law 778 = .ok (.aload_n 1, 1) := by decide +kernel
theorem dL_law_779 : decode cL_law 779 = .ok (.aload_n 0, 1) := by decide +kernel
theorem dL_law_780 : decode cL_law 780 = .ok (.iload_n 3, 1) := by decide +kernel
theorem dL_law_781 : decode cL_law 781 = .ok (.iconst 1, 1) := by decide +kernel
theorem dL_law_782 : decode cL_law 782 = .ok (.iadd, 1) := by decide +kernel
theorem dL_law_783 : decode cL_law 783 = .ok (.iaload, 1) := by decide +kernel
theorem dL_law_784 : decode cL_law 784 = .ok (.aload_n 0, 1) := by decide +kernel
theorem dL_law_785 : decode cL_law 785 = .ok (.iload_n 3, 1) := by decide +kernel
theorem dL_law_786 : decode cL_law 786 = .ok (.iconst 2, 1) := by decide +kernel
theorem dL_law_787 : decode cL_law 787 = .ok (.iadd, 1) := by decide +kernel
theorem dL_law_788 : decode cL_law 788 = .ok (.iaload, 1) := by decide +kernel
theorem dL_law_789 : decode cL_law 789 = .ok (.invokevirtual 82, 3) := by decide +kernel
theorem dL_law_792 : decode cL_law 792 = .ok (.aload_n 2, 1) := by decide +kernel
theorem dL_law_793 : decode cL_law 793 = .ok (.aload_n 0, 1) := by decide +kernel
theorem dL_law_794 : decode cL_law 794 = .ok (.iload_n 3, 1) := by decide +kernel
theorem dL_law_795 : decode cL_law 795 = .ok (.iconst 1, 1) := by decide +kernel
theorem dL_law_796 : decode cL_law 796 = .ok (.iadd, 1) := by decide +kernel
theorem dL_law_797 : decode cL_law 797 = .ok (.iaload, 1) := by decide +kernel
theorem dL_law_798 : decode cL_law 798 = .ok (.aload_n 0, 1) := by decide +kernel
theorem dL_law_799 : decode cL_law 799 = .ok (.iload_n 3, 1) := by decide +kernel
theorem dL_law_800 : decode cL_law 800 = .ok (.iconst 2, 1) := by decide +kernel
theorem dL_law_801 : decode cL_law 801 = .ok (.iadd, 1) := by decide +kernel
theorem dL_law_802 : decode cL_law 802 = .ok (.iaload, 1) := by decide +kernel
theorem dL_law_803 : decode cL_law 803 = .ok (.invokevirtual 85, 3) := by decide +kernel
theorem dL_law_806 : decode cL_law 806 = .ok (.if_icmp .eq 399, 3) := by decide +kernel
theorem dL_law_809 : decode cL_law 809 = .ok (.iconst 0, 1) := by decide +kernel
theorem dL_law_810 : decode cL_law 810 = .ok (.ireturn, 1) := by decide +kernel
theorem dL_law_811 : decode cL_law 811 = .ok (.aload_n 1, 1) := by decide +kernel
theorem dL_law_812 : decode cL_law 812 = .ok (.aload_n 0, 1) := by decide +kernel
theorem dL_law_813 : decode cL_law 813 = .ok (.iload_n 3, 1) := by decide +kernel
theorem dL_law_814 : decode cL_law 814 = .ok (.iconst 1, 1) := by decide +kernel
theorem dL_law_815 : decode cL_law 815 = .ok (.iadd, 1) := by decide +kernel
theorem dL_law_816 : decode cL_law 816 = .ok (.iaload, 1) := by decide +kernel
theorem dL_law_817 : decode cL_law 817 = .ok (.aload_n 0, 1) := by decide +kernel
theorem dL_law_818 : decode cL_law 818 = .ok (.iload_n 3, 1) := by decide +kernel
theorem dL_law_819 : decode cL_law 819 = .ok (.iconst 2, 1) := by decide +kernel
theorem dL_law_820 : decode cL_law 820 = .ok (.iadd, 1) := by decide +kernel
theorem dL_law_821 : decode cL_law 821 = .ok (.iaload, 1) := by decide +kernel
theorem dL_law_822 : decode cL_law 822 = .ok (.aload_n 0, 1) := by decide +kernel
theorem dL_law_823 : decode cL_law 823 = .ok (.iload_n 3, 1) := by decide +kernel
theorem dL_law_824 : decode cL_law 824 = .ok (.iconst 3, 1) := by decide +kernel
theorem dL_law_825 : decode cL_law 825 = .ok (.iadd, 1) := by decide +kernel
theorem dL_law_826 : decode cL_law 826 = .ok (.iaload, 1) := by decide +kernel
theorem dL_law_827 : decode cL_law 827 = .ok (.invokevirtual 86, 3) := by decide +kernel
theorem dL_law_830 : decode cL_law 830 = .ok (.aload_n 2, 1) := by decide +kernel
theorem dL_law_831 : decode cL_law 831 = .ok (.aload_n 0, 1) := by decide +kernel
theorem dL_law_832 : decode cL_law 832 = .ok (.iload_n 3, 1) := by decide +kernel
theorem dL_law_833 : decode cL_law 833 = .ok (.iconst 1, 1) := by decide +kernel
theorem dL_law_834 : decode cL_law 834 = .ok (.iadd, 1) := by decide +kernel
theorem dL_law_835 : decode cL_law 835 = .ok (.iaload, 1) := by decide +kernel
theorem dL_law_836 : decode cL_law 836 = .ok (.aload_n 0, 1) := by decide +kernel
theorem dL_law_837 : decode cL_law 837 = .ok (.iload_n 3, 1) := by decide +kernel
theorem dL_law_838 : decode cL_law 838 = .ok (.iconst 2, 1) := by decide +kernel
theorem dL_law_839 : decode cL_law 839 = .ok (.iadd, 1) := by decide +kernel
theorem dL_law_840 : decode cL_law 840 = .ok (.iaload, 1) := by decide +kernel
theorem dL_law_841 : decode cL_law 841 = .ok (.aload_n 0, 1) := by decide +kernel
theorem dL_law_842 : decode cL_law 842 = .ok (.iload_n 3, 1) := by decide +kernel
theorem dL_law_843 : decode cL_law 843 = .ok (.iconst 3, 1) := by decide +kernel
theorem dL_law_844 : decode cL_law 844 = .ok (.iadd, 1) := by decide +kernel
theorem dL_law_845 : decode cL_law 845 = .ok (.iaload, 1) := by decide +kernel
theorem dL_law_846 : decode cL_law 846 = .ok (.invokevirtual 89, 3) := by decide +kernel
theorem dL_law_849 : decode cL_law 849 = .ok (.if_icmp .eq 356, 3) := by decide +kernel
theorem dL_law_852 : decode cL_law 852 = .ok (.iconst 0, 1) := by decide +kernel
theorem dL_law_853 : decode cL_law 853 = .ok (.ireturn, 1) := by decide +kernel
theorem dL_law_854 : decode cL_law 854 = .ok (.aload_n 1, 1) := by decide +kernel
theorem dL_law_855 : decode cL_law 855 = .ok (.aload_n 0, 1) := by decide +kernel
theorem dL_law_856 : decode cL_law 856 = .ok (.iload_n 3, 1) := by decide +kernel
theorem dL_law_857 : decode cL_law 857 = .ok (.iconst 1, 1) := by decide +kernel
theorem dL_law_858 : decode cL_law 858 = .ok (.iadd, 1) := by decide +kernel
theorem dL_law_859 : decode cL_law 859 = .ok (.iaload, 1) := by decide +kernel
theorem dL_law_860 : decode cL_law 860 = .ok (.aload_n 0, 1) := by decide +kernel
theorem dL_law_861 : decode cL_law 861 = .ok (.iload_n 3, 1) := by decide +kernel
theorem dL_law_862 : decode cL_law 862 = .ok (.iconst 2, 1) := by decide +kernel
theorem dL_law_863 : decode cL_law 863 = .ok (.iadd, 1) := by decide +kernel
theorem dL_law_864 : decode cL_law 864 = .ok (.iaload, 1) := by decide +kernel
theorem dL_law_865 : decode cL_law 865 = .ok (.invokevirtual 90, 3) := by decide +kernel
theorem dL_law_868 : decode cL_law 868 = .ok (.aload_n 2, 1) := by decide +kernel
theorem dL_law_869 : decode cL_law 869 = .ok (.aload_n 0, 1) := by decide +kernel
theorem dL_law_870 : decode cL_law 870 = .ok (.iload_n 3, 1) := by decide +kernel
theorem dL_law_871 : decode cL_law 871 = .ok (.iconst 1, 1) := by decide +kernel
theorem dL_law_872 : decode cL_law 872 = .ok (.iadd, 1) := by decide +kernel
theorem dL_law_873 : decode cL_law 873 = .ok (.iaload, 1) := by decide +kernel
theorem dL_law_874 : decode cL_law 874 = .ok (.aload_n 0, 1) := by decide +kernel
theorem dL_law_875 : decode cL_law 875 = .ok (.iload_n 3, 1) := by decide +kernel
theorem dL_law_876 : decode cL_law 876 = .ok (.iconst 2, 1) := by decide +kernel
theorem dL_law_877 : decode cL_law 877 = .ok (.iadd, 1) := by decide +kernel
theorem dL_law_878 : decode cL_law 878 = .ok (.iaload, 1) := by decide +kernel
theorem dL_law_879 : decode cL_law 879 = .ok (.invokevirtual 93, 3) := by decide +kernel
theorem dL_law_882 : decode cL_law 882 = .ok (.if_icmp .eq 323, 3) := by decide +kernel
theorem dL_law_885 : decode cL_law 885 = .ok (.iconst 0, 1) := by decide +kernel
theorem dL_law_886 : decode cL_law 886 = .ok (.ireturn, 1) := by decide +kernel
theorem dL_law_887 : decode cL_law 887 = .ok (.aload_n 1, 1) := by decide +kernel
theorem dL_law_888 : decode cL_law 888 = .ok (.aload_n 0, 1) := by decide +kernel
theorem dL_law_889 : decode cL_law 889 = .ok (.iload_n 3, 1) := by decide +kernel
theorem dL_law_890 : decode cL_law 890 = .ok (.iconst 1, 1) := by decide +kernel
theorem dL_law_891 : decode cL_law 891 = .ok (.iadd, 1) := by decide +kernel
theorem dL_law_892 : decode cL_law 892 = .ok (.iaload, 1) := by decide +kernel
theorem dL_law_893 : decode cL_law 893 = .ok (.aload_n 0, 1) := by decide +kernel
theorem dL_law_894 : decode cL_law 894 = .ok (.iload_n 3, 1) := by decide +kernel
theorem dL_law_895 : decode cL_law 895 = .ok (.iconst 2, 1) := by decide +kernel
theorem dL_law_896 : decode cL_law 896 = .ok (.iadd, 1) := by decide +kernel
theorem dL_law_897 : decode cL_law 897 = .ok (.iaload, 1) := by decide +kernel
theorem dL_law_898 : decode cL_law 898 = .ok (.invokevirtual 94, 3) := by decide +kernel
theorem dL_law_901 : decode cL_law 901 = .ok (.aload_n 2, 1) := by decide +kernel
theorem dL_law_902 : decode cL_law 902 = .ok (.aload_n 0, 1) := by decide +kernel
theorem dL_law_903 : decode cL_law 903 = .ok (.iload_n 3, 1) := by decide +kernel
theorem dL_law_904 : decode cL_law 904 = .ok (.iconst 1, 1) := by decide +kernel
theorem dL_law_905 : decode cL_law 905 = .ok (.iadd, 1) := by decide +kernel
theorem dL_law_906 : decode cL_law 906 = .ok (.iaload, 1) := by decide +kernel
theorem dL_law_907 : decode cL_law 907 = .ok (.aload_n 0, 1) := by decide +kernel
theorem dL_law_908 : decode cL_law 908 = .ok (.iload_n 3, 1) := by decide +kernel
theorem dL_law_909 : decode cL_law 909 = .ok (.iconst 2, 1) := by decide +kernel
theorem dL_law_910 : decode cL_law 910 = .ok (.iadd, 1) := by decide +kernel
theorem dL_law_911 : decode cL_law 911 = .ok (.iaload, 1) := by decide +kernel
theorem dL_law_912 : decode cL_law 912 = .ok (.invokevirtual 97, 3) := by decide +kernel
theorem dL_law_915 : decode cL_law 915 = .ok (.if_icmp .eq 290, 3) := by decide +kernel
theorem dL_law_918 : decode cL_law 918 = .ok (.iconst 0, 1) := by decide +kernel
theorem dL_law_919 : decode cL_law 919 = .ok (.ireturn, 1) := by decide +kernel
theorem dL_law_920 : decode cL_law 920 = .ok (.aload_n 1, 1) := by decide +kernel
theorem dL_law_921 : decode cL_law 921 = .ok (.aload_n 0, 1) := by decide +kernel
theorem dL_law_922 : decode cL_law 922 = .ok (.iload_n 3, 1) := by decide +kernel
theorem dL_law_923 : decode cL_law 923 = .ok (.iconst 1, 1) := by decide +kernel
theorem dL_law_924 : decode cL_law 924 = .ok (.iadd, 1) := by decide +kernel
theorem dL_law_925 : decode cL_law 925 = .ok (.iaload, 1) := by decide +kernel
theorem dL_law_926 : decode cL_law 926 = .ok (.aload_n 0, 1) := by decide +kernel
theorem dL_law_927 : decode cL_law 927 = .ok (.iload_n 3, 1) := by decide +kernel
theorem dL_law_928 : decode cL_law 928 = .ok (.iconst 2, 1) := by decide +kernel
theorem dL_law_929 : decode cL_law 929 = .ok (.iadd, 1) := by decide +kernel
theorem dL_law_930 : decode cL_law 930 = .ok (.iaload, 1) := by decide +kernel
theorem dL_law_931 : decode cL_law 931 = .ok (.aload_n 0, 1) := by decide +kernel
theorem dL_law_932 : decode cL_law 932 = .ok (.iload_n 3, 1) := by decide +kernel
theorem dL_law_933 : decode cL_law 933 = .ok (.iconst 3, 1) := by decide +kernel
theorem dL_law_934 : decode cL_law 934 = .ok (.iadd, 1) := by decide +kernel
theorem dL_law_935 : decode cL_law 935 = .ok (.iaload, 1) := by decide +kernel
theorem dL_law_936 : decode cL_law 936 = .ok (.aload_n 0, 1) := by decide +kernel
theorem dL_law_937 : decode cL_law 937 = .ok (.iload_n 3, 1) := by decide +kernel
theorem dL_law_938 : decode cL_law 938 = .ok (.iconst 4, 1) := by decide +kernel
theorem dL_law_939 : decode cL_law 939 = .ok (.iadd, 1) := by decide +kernel
theorem dL_law_940 : decode cL_law 940 = .ok (.iaload, 1) := by decide +kernel
theorem dL_law_941 : decode cL_law 941 = .ok (.invokevirtual 98, 3) := by decide +kernel
theorem dL_law_944 : decode cL_law 944 = .ok (.aload_n 2, 1) := by decide +kernel
theorem dL_law_945 : decode cL_law 945 = .ok (.aload_n 0, 1) := by decide +kernel
theorem dL_law_946 : decode cL_law 946 = .ok (.iload_n 3, 1) := by decide +kernel
theorem dL_law_947 : decode cL_law 947 = .ok (.iconst 1, 1) := by decide +kernel
theorem dL_law_948 : decode cL_law 948 = .ok (.iadd, 1) := by decide +kernel
theorem dL_law_949 : decode cL_law 949 = .ok (.iaload, 1) := by decide +kernel
theorem dL_law_950 : decode cL_law 950 = .ok (.aload_n 0, 1) := by decide +kernel
theorem dL_law_951 : decode cL_law 951 = .ok (.iload_n 3, 1) := by decide +kernel
theorem dL_law_952 : decode cL_law 952 = .ok (.iconst 2, 1) := by decide +kernel
theorem dL_law_953 : decode cL_law 953 = .ok (.iadd, 1) := by decide +kernel
theorem dL_law_954 : decode cL_law 954 = .ok (.iaload, 1) := by decide +kernel
theorem dL_law_955 : decode cL_law 955 = .ok (.aload_n 0, 1) := by decide +kernel
theorem dL_law_956 : decode cL_law 956 = .ok (.iload_n 3, 1) := by decide +kernel
theorem dL_law_957 : decode cL_law 957 = .ok (.iconst 3, 1) := by decide +kernel
theorem dL_law_958 : decode cL_law 958 = .ok (.iadd, 1) := by decide +kernel
theorem dL_law_959 : decode cL_law 959 = .ok (.iaload, 1) := by decide +kernel
theorem dL_law_960 : decode cL_law 960 = .ok (.aload_n 0, 1) := by decide +kernel
theorem dL_law_961 : decode cL_law 961 = .ok (.iload_n 3, 1) := by decide +kernel
theorem dL_law_962 : decode cL_law 962 = .ok (.iconst 4, 1) := by decide +kernel
theorem dL_law_963 : decode cL_law 963 = .ok (.iadd, 1) := by decide +kernel
theorem dL_law_964 : decode cL_law 964 = .ok (.iaload, 1) := by decide +kernel
theorem dL_law_965 : decode cL_law 965 = .ok (.invokevirtual 101, 3) := by decide +kernel
theorem dL_law_968 : decode cL_law 968 = .ok (.if_icmp .eq 237, 3) := by decide +kernel
theorem dL_law_971 : decode cL_law 971 = .ok (.iconst 0, 1) := by decide +kernel
theorem dL_law_972 : decode cL_law 972 = .ok (.ireturn, 1) := by decide +kernel
theorem dL_law_973 : decode cL_law 973 = .ok (.aload_n 1, 1) := by decide +kernel
theorem dL_law_974 : decode cL_law 974 = .ok (.aload_n 0, 1) := by decide +kernel
theorem dL_law_975 : decode cL_law 975 = .ok (.iload_n 3, 1) := by decide +kernel
theorem dL_law_976 : decode cL_law 976 = .ok (.iconst 1, 1) := by decide +kernel
theorem dL_law_977 : decode cL_law 977 = .ok (.iadd, 1) := by decide +kernel
theorem dL_law_978 : decode cL_law 978 = .ok (.iaload, 1) := by decide +kernel
theorem dL_law_979 : decode cL_law 979 = .ok (.aload_n 0, 1) := by decide +kernel
theorem dL_law_980 : decode cL_law 980 = .ok (.iload_n 3, 1) := by decide +kernel
theorem dL_law_981 : decode cL_law 981 = .ok (.iconst 2, 1) := by decide +kernel
theorem dL_law_982 : decode cL_law 982 = .ok (.iadd, 1) := by decide +kernel
theorem dL_law_983 : decode cL_law 983 = .ok (.iaload, 1) := by decide +kernel
theorem dL_law_984 : decode cL_law 984 = .ok (.aload_n 0, 1) := by decide +kernel
theorem dL_law_985 : decode cL_law 985 = .ok (.iload_n 3, 1) := by decide +kernel
theorem dL_law_986 : decode cL_law 986 = .ok (.iconst 3, 1) := by decide +kernel
theorem dL_law_987 : decode cL_law 987 = .ok (.iadd, 1) := by decide +kernel
theorem dL_law_988 : decode cL_law 988 = .ok (.iaload, 1) := by decide +kernel
theorem dL_law_989 : decode cL_law 989 = .ok (.invokevirtual 102, 3) := by decide +kernel
theorem dL_law_992 : decode cL_law 992 = .ok (.aload_n 2, 1) := by decide +kernel
theorem dL_law_993 : decode cL_law 993 = .ok (.aload_n 0, 1) := by decide +kernel
theorem dL_law_994 : decode cL_law 994 = .ok (.iload_n 3, 1) := by decide +kernel
theorem dL_law_995 : decode cL_law 995 = .ok (.iconst 1, 1) := by decide +kernel
theorem dL_law_996 : decode cL_law 996 = .ok (.iadd, 1) := by decide +kernel
theorem dL_law_997 : decode cL_law 997 = .ok (.iaload, 1) := by decide +kernel
theorem dL_law_998 : decode cL_law 998 = .ok (.aload_n 0, 1) := by decide +kernel
theorem dL_law_999 : decode cL_law 999 = .ok (.iload_n 3, 1) := by decide +kernel
theorem dL_law_1000 : decode cL_law 1000 = .ok (.iconst 2, 1) := by decide +kernel
theorem dL_law_1001 : decode cL_law 1001 = .ok (.iadd, 1) := by decide +kernel
theorem dL_law_1002 : decode cL_law 1002 = .ok (.iaload, 1) := by decide +kernel
theorem dL_law_1003 : decode cL_law 1003 = .ok (.aload_n 0, 1) := by decide +kernel
theorem dL_law_1004 : decode cL_law 1004 = .ok (.iload_n 3, 1) := by decide +kernel
theorem dL_law_1005 : decode cL_law 1005 = .ok (.iconst 3, 1) := by decide +kernel
theorem dL_law_1006 : decode cL_law 1006 = .ok (.iadd, 1) := by decide +kernel
theorem dL_law_1007 : decode cL_law 1007 = .ok (.iaload, 1) := by decide +kernel
theorem dL_law_1008 : decode cL_law 1008 = .ok (.invokevirtual 106, 3) := by decide +kernel
theorem dL_law_1011 : decode cL_law 1011 = .ok (.lcmp, 1) := by decide +kernel
theorem dL_law_1012 : decode cL_law 1012 = .ok (.ifCond .eq 193, 3) := by decide +kernel
theorem dL_law_1015 : decode cL_law 1015 = .ok (.iconst 0, 1) := by decide +kernel
theorem dL_law_1016 : decode cL_law 1016 = .ok (.ireturn, 1) := by decide +kernel
theorem dL_law_1017 : decode cL_law 1017 = .ok (.aload_n 1, 1) := by decide +kernel
theorem dL_law_1018 : decode cL_law 1018 = .ok (.aload_n 0, 1) := by decide +kernel
theorem dL_law_1019 : decode cL_law 1019 = .ok (.iload_n 3, 1) := by decide +kernel
theorem dL_law_1020 : decode cL_law 1020 = .ok (.iconst 1, 1) := by decide +kernel
theorem dL_law_1021 : decode cL_law 1021 = .ok (.iadd, 1) := by decide +kernel
theorem dL_law_1022 : decode cL_law 1022 = .ok (.iaload, 1) := by decide +kernel
theorem dL_law_1023 : decode cL_law 1023 = .ok (.aload_n 0, 1) := by decide +kernel
theorem dL_law_1024 : decode cL_law 1024 = .ok (.iload_n 3, 1) := by decide +kernel
theorem dL_law_1025 : decode cL_law 1025 = .ok (.iconst 2, 1) := by decide +kernel
theorem dL_law_1026 : decode cL_law 1026 = .ok (.iadd, 1) := by decide +kernel
theorem dL_law_1027 : decode cL_law 1027 = .ok (.iaload, 1) := by decide +kernel
theorem dL_law_1028 : decode cL_law 1028 = .ok (.aload_n 0, 1) := by decide +kernel
theorem dL_law_1029 : decode cL_law 1029 = .ok (.iload_n 3, 1) := by decide +kernel
theorem dL_law_1030 : decode cL_law 1030 = .ok (.iconst 3, 1) := by decide +kernel
theorem dL_law_1031 : decode cL_law 1031 = .ok (.iadd, 1) := by decide +kernel
theorem dL_law_1032 : decode cL_law 1032 = .ok (.iaload, 1) := by decide +kernel
theorem dL_law_1033 : decode cL_law 1033 = .ok (.invokevirtual 107, 3) := by decide +kernel
theorem dL_law_1036 : decode cL_law 1036 = .ok (.aload_n 2, 1) := by decide +kernel
theorem dL_law_1037 : decode cL_law 1037 = .ok (.aload_n 0, 1) := by decide +kernel
theorem dL_law_1038 : decode cL_law 1038 = .ok (.iload_n 3, 1) := by decide +kernel
theorem dL_law_1039 : decode cL_law 1039 = .ok (.iconst 1, 1) := by decide +kernel
theorem dL_law_1040 : decode cL_law 1040 = .ok (.iadd, 1) := by decide +kernel
theorem dL_law_1041 : decode cL_law 1041 = .ok (.iaload, 1) := by decide +kernel
theorem dL_law_1042 : decode cL_law 1042 = .ok (.aload_n 0, 1) := by decide +kernel
theorem dL_law_1043 : decode cL_law 1043 = .ok (.iload_n 3, 1) := by decide +kernel
theorem dL_law_1044 : decode cL_law 1044 = .ok (.iconst 2, 1) := by decide +kernel
theorem dL_law_1045 : decode cL_law 1045 = .ok (.iadd, 1) := by decide +kernel
theorem dL_law_1046 : decode cL_law 1046 = .ok (.iaload, 1) := by decide +kernel
theorem dL_law_1047 : decode cL_law 1047 = .ok (.aload_n 0, 1) := by decide +kernel
theorem dL_law_1048 : decode cL_law 1048 = .ok (.iload_n 3, 1) := by decide +kernel
theorem dL_law_1049 : decode cL_law 1049 = .ok (.iconst 3, 1) := by decide +kernel
theorem dL_law_1050 : decode cL_law 1050 = .ok (.iadd, 1) := by decide +kernel
theorem dL_law_1051 : decode cL_law 1051 = .ok (.iaload, 1) := by decide +kernel
theorem dL_law_1052 : decode cL_law 1052 = .ok (.invokevirtual 110, 3) := by decide +kernel
theorem dL_law_1055 : decode cL_law 1055 = .ok (.if_icmp .eq 150, 3) := by decide +kernel
theorem dL_law_1058 : decode cL_law 1058 = .ok (.iconst 0, 1) := by decide +kernel
theorem dL_law_1059 : decode cL_law 1059 = .ok (.ireturn, 1) := by decide +kernel
theorem dL_law_1060 : decode cL_law 1060 = .ok (.aload_n 1, 1) := by decide +kernel
theorem dL_law_1061 : decode cL_law 1061 = .ok (.aload_n 0, 1) := by decide +kernel
theorem dL_law_1062 : decode cL_law 1062 = .ok (.iload_n 3, 1) := by decide +kernel
theorem dL_law_1063 : decode cL_law 1063 = .ok (.iconst 1, 1) := by decide +kernel
theorem dL_law_1064 : decode cL_law 1064 = .ok (.iadd, 1) := by decide +kernel
theorem dL_law_1065 : decode cL_law 1065 = .ok (.iaload, 1) := by decide +kernel
theorem dL_law_1066 : decode cL_law 1066 = .ok (.invokevirtual 111, 3) := by decide +kernel
theorem dL_law_1069 : decode cL_law 1069 = .ok (.aload_n 2, 1) := by decide +kernel
theorem dL_law_1070 : decode cL_law 1070 = .ok (.aload_n 0, 1) := by decide +kernel
theorem dL_law_1071 : decode cL_law 1071 = .ok (.iload_n 3, 1) := by decide +kernel
theorem dL_law_1072 : decode cL_law 1072 = .ok (.iconst 1, 1) := by decide +kernel
theorem dL_law_1073 : decode cL_law 1073 = .ok (.iadd, 1) := by decide +kernel
theorem dL_law_1074 : decode cL_law 1074 = .ok (.iaload, 1) := by decide +kernel
theorem dL_law_1075 : decode cL_law 1075 = .ok (.invokevirtual 114, 3) := by decide +kernel
theorem dL_law_1078 : decode cL_law 1078 = .ok (.if_icmp .eq 127, 3) := by decide +kernel
theorem dL_law_1081 : decode cL_law 1081 = .ok (.iconst 0, 1) := by decide +kernel
theorem dL_law_1082 : decode cL_law 1082 = .ok (.ireturn, 1) := by decide +kernel
theorem dL_law_1083 : decode cL_law 1083 = .ok (.aload_n 1, 1) := by decide +kernel
theorem dL_law_1084 : decode cL_law 1084 = .ok (.aload_n 0, 1) := by decide +kernel
theorem dL_law_1085 : decode cL_law 1085 = .ok (.iload_n 3, 1) := by decide +kernel
theorem dL_law_1086 : decode cL_law 1086 = .ok (.iconst 1, 1) := by decide +kernel
theorem dL_law_1087 : decode cL_law 1087 = .ok (.iadd, 1) := by decide +kernel
theorem dL_law_1088 : decode cL_law 1088 = .ok (.iaload, 1) := by decide +kernel
theorem dL_law_1089 : decode cL_law 1089 = .ok (.aload_n 0, 1) := by decide +kernel
theorem dL_law_1090 : decode cL_law 1090 = .ok (.iload_n 3, 1) := by decide +kernel
theorem dL_law_1091 : decode cL_law 1091 = .ok (.iconst 2, 1) := by decide +kernel
theorem dL_law_1092 : decode cL_law 1092 = .ok (.iadd, 1) := by decide +kernel
theorem dL_law_1093 : decode cL_law 1093 = .ok (.iaload, 1) := by decide +kernel
theorem dL_law_1094 : decode cL_law 1094 = .ok (.invokevirtual 115, 3) := by decide +kernel
theorem dL_law_1097 : decode cL_law 1097 = .ok (.aload_n 2, 1) := by decide +kernel
theorem dL_law_1098 : decode cL_law 1098 = .ok (.aload_n 0, 1) := by decide +kernel
theorem dL_law_1099 : decode cL_law 1099 = .ok (.iload_n 3, 1) := by decide +kernel
theorem dL_law_1100 : decode cL_law 1100 = .ok (.iconst 1, 1) := by decide +kernel
theorem dL_law_1101 : decode cL_law 1101 = .ok (.iadd, 1) := by decide +kernel
theorem dL_law_1102 : decode cL_law 1102 = .ok (.iaload, 1) := by decide +kernel
theorem dL_law_1103 : decode cL_law 1103 = .ok (.aload_n 0, 1) := by decide +kernel
theorem dL_law_1104 : decode cL_law 1104 = .ok (.iload_n 3, 1) := by decide +kernel
theorem dL_law_1105 : decode cL_law 1105 = .ok (.iconst 2, 1) := by decide +kernel
theorem dL_law_1106 : decode cL_law 1106 = .ok (.iadd, 1) := by decide +kernel
theorem dL_law_1107 : decode cL_law 1107 = .ok (.iaload, 1) := by decide +kernel
theorem dL_law_1108 : decode cL_law 1108 = .ok (.invokevirtual 118, 3) := by decide +kernel
theorem dL_law_1111 : decode cL_law 1111 = .ok (.if_icmp .eq 94, 3) := by decide +kernel
theorem dL_law_1114 : decode cL_law 1114 = .ok (.iconst 0, 1) := by decide +kernel
theorem dL_law_1115 : decode cL_law 1115 = .ok (.ireturn, 1) := by decide +kernel
theorem dL_law_1116 : decode cL_law 1116 = .ok (.aload_n 1, 1) := by decide +kernel
theorem dL_law_1117 : decode cL_law 1117 = .ok (.aload_n 0, 1) := by decide +kernel
theorem dL_law_1118 : decode cL_law 1118 = .ok (.iload_n 3, 1) := by decide +kernel
theorem dL_law_1119 : decode cL_law 1119 = .ok (.iconst 1, 1) := by decide +kernel
theorem dL_law_1120 : decode cL_law 1120 = .ok (.iadd, 1) := by decide +kernel
theorem dL_law_1121 : decode cL_law 1121 = .ok (.iaload, 1) := by decide +kernel
theorem dL_law_1122 : decode cL_law 1122 = .ok (.aload_n 0, 1) := by decide +kernel
theorem dL_law_1123 : decode cL_law 1123 = .ok (.iload_n 3, 1) := by decide +kernel
theorem dL_law_1124 : decode cL_law 1124 = .ok (.iconst 2, 1) := by decide +kernel
theorem dL_law_1125 : decode cL_law 1125 = .ok (.iadd, 1) := by decide +kernel
theorem dL_law_1126 : decode cL_law 1126 = .ok (.iaload, 1) := by decide +kernel
theorem dL_law_1127 : decode cL_law 1127 = .ok (.invokevirtual 119, 3) := by decide +kernel
theorem dL_law_1130 : decode cL_law 1130 = .ok (.aload_n 2, 1) := by decide +kernel
theorem dL_law_1131 : decode cL_law 1131 = .ok (.aload_n 0, 1) := by decide +kernel
theorem dL_law_1132 : decode cL_law 1132 = .ok (.iload_n 3, 1) := by decide +kernel
theorem dL_law_1133 : decode cL_law 1133 = .ok (.iconst 1, 1) := by decide +kernel
theorem dL_law_1134 : decode cL_law 1134 = .ok (.iadd, 1) := by decide +kernel
theorem dL_law_1135 : decode cL_law 1135 = .ok (.iaload, 1) := by decide +kernel
theorem dL_law_1136 : decode cL_law 1136 = .ok (.aload_n 0, 1) := by decide +kernel
theorem dL_law_1137 : decode cL_law 1137 = .ok (.iload_n 3, 1) := by decide +kernel
theorem dL_law_1138 : decode cL_law 1138 = .ok (.iconst 2, 1) := by decide +kernel
theorem dL_law_1139 : decode cL_law 1139 = .ok (.iadd, 1) := by decide +kernel
theorem dL_law_1140 : decode cL_law 1140 = .ok (.iaload, 1) := by decide +kernel
theorem dL_law_1141 : decode cL_law 1141 = .ok (.invokevirtual 122, 3) := by decide +kernel
theorem dL_law_1144 : decode cL_law 1144 = .ok (.if_icmp .eq 61, 3) := by decide +kernel
theorem dL_law_1147 : decode cL_law 1147 = .ok (.iconst 0, 1) := by decide +kernel
theorem dL_law_1148 : decode cL_law 1148 = .ok (.ireturn, 1) := by decide +kernel
theorem dL_law_1149 : decode cL_law 1149 = .ok (.aload_n 1, 1) := by decide +kernel
theorem dL_law_1150 : decode cL_law 1150 = .ok (.aload_n 0, 1) := by decide +kernel
theorem dL_law_1151 : decode cL_law 1151 = .ok (.iload_n 3, 1) := by decide +kernel
theorem dL_law_1152 : decode cL_law 1152 = .ok (.iconst 1, 1) := by decide +kernel
theorem dL_law_1153 : decode cL_law 1153 = .ok (.iadd, 1) := by decide +kernel
theorem dL_law_1154 : decode cL_law 1154 = .ok (.iaload, 1) := by decide +kernel
theorem dL_law_1155 : decode cL_law 1155 = .ok (.aload_n 0, 1) := by decide +kernel
theorem dL_law_1156 : decode cL_law 1156 = .ok (.iload_n 3, 1) := by decide +kernel
theorem dL_law_1157 : decode cL_law 1157 = .ok (.iconst 2, 1) := by decide +kernel
theorem dL_law_1158 : decode cL_law 1158 = .ok (.iadd, 1) := by decide +kernel
theorem dL_law_1159 : decode cL_law 1159 = .ok (.iaload, 1) := by decide +kernel
theorem dL_law_1160 : decode cL_law 1160 = .ok (.invokevirtual 123, 3) := by decide +kernel
theorem dL_law_1163 : decode cL_law 1163 = .ok (.aload_n 2, 1) := by decide +kernel
theorem dL_law_1164 : decode cL_law 1164 = .ok (.aload_n 0, 1) := by decide +kernel
theorem dL_law_1165 : decode cL_law 1165 = .ok (.iload_n 3, 1) := by decide +kernel
theorem dL_law_1166 : decode cL_law 1166 = .ok (.iconst 1, 1) := by decide +kernel
theorem dL_law_1167 : decode cL_law 1167 = .ok (.iadd, 1) := by decide +kernel
theorem dL_law_1168 : decode cL_law 1168 = .ok (.iaload, 1) := by decide +kernel
theorem dL_law_1169 : decode cL_law 1169 = .ok (.aload_n 0, 1) := by decide +kernel
theorem dL_law_1170 : decode cL_law 1170 = .ok (.iload_n 3, 1) := by decide +kernel
theorem dL_law_1171 : decode cL_law 1171 = .ok (.iconst 2, 1) := by decide +kernel
theorem dL_law_1172 : decode cL_law 1172 = .ok (.iadd, 1) := by decide +kernel
theorem dL_law_1173 : decode cL_law 1173 = .ok (.iaload, 1) := by decide +kernel
theorem dL_law_1174 : decode cL_law 1174 = .ok (.invokevirtual 126, 3) := by decide +kernel
theorem dL_law_1177 : decode cL_law 1177 = .ok (.if_icmp .eq 28, 3) := by decide +kernel
theorem dL_law_1180 : decode cL_law 1180 = .ok (.iconst 0, 1) := by decide +kernel
theorem dL_law_1181 : decode cL_law 1181 = .ok (.ireturn, 1) := by decide +kernel
theorem dL_law_1182 : decode cL_law 1182 = .ok (.aload_n 1, 1) := by decide +kernel
theorem dL_law_1183 : decode cL_law 1183 = .ok (.aload_n 0, 1) := by decide +kernel
theorem dL_law_1184 : decode cL_law 1184 = .ok (.iload_n 3, 1) := by decide +kernel
theorem dL_law_1185 : decode cL_law 1185 = .ok (.iconst 1, 1) := by decide +kernel
theorem dL_law_1186 : decode cL_law 1186 = .ok (.iadd, 1) := by decide +kernel
theorem dL_law_1187 : decode cL_law 1187 = .ok (.iaload, 1) := by decide +kernel
theorem dL_law_1188 : decode cL_law 1188 = .ok (.invokevirtual 127, 3) := by decide +kernel
theorem dL_law_1191 : decode cL_law 1191 = .ok (.aload_n 2, 1) := by decide +kernel
theorem dL_law_1192 : decode cL_law 1192 = .ok (.aload_n 0, 1) := by decide +kernel
theorem dL_law_1193 : decode cL_law 1193 = .ok (.iload_n 3, 1) := by decide +kernel
theorem dL_law_1194 : decode cL_law 1194 = .ok (.iconst 1, 1) := by decide +kernel
theorem dL_law_1195 : decode cL_law 1195 = .ok (.iadd, 1) := by decide +kernel
theorem dL_law_1196 : decode cL_law 1196 = .ok (.iaload, 1) := by decide +kernel
theorem dL_law_1197 : decode cL_law 1197 = .ok (.invokevirtual 130, 3) := by decide +kernel
theorem dL_law_1200 : decode cL_law 1200 = .ok (.if_icmp .eq 5, 3) := by decide +kernel
theorem dL_law_1203 : decode cL_law 1203 = .ok (.iconst 0, 1) := by decide +kernel
theorem dL_law_1204 : decode cL_law 1204 = .ok (.ireturn, 1) := by decide +kernel
theorem dL_law_1205 : decode cL_law 1205 = .ok (.iinc 3 6, 3) := by decide +kernel
theorem dL_law_1208 : decode cL_law 1208 = .ok (.goto (-1190), 3) := by decide +kernel
theorem dL_law_1211 : decode cL_law 1211 = .ok (.iconst 1, 1) := by decide +kernel
theorem dL_law_1212 : decode cL_law 1212 = .ok (.ireturn, 1) := by decide +kernel
end
section
/-! kinds and lengths of the cells in the order in which they are made; the fields; links; words by their places: written by wip/whole/tables.py -/
def kdL : List Nat := [8, 37, 0, 21, 21, 33, 32, 36, 35, 21, 31, 4, 21, 21, 21, 7, 20, 22, 7, 20, 22, 7, 20, 22, 3, 3, 3, 3, 3, 3, 3, 3, 3, 3, 3, 3, 3, 3, 3, 3, 3, 3, 3, 3, 3, 3, 3, 3, 3, 3, 3, 3, 3, 3, 3, 3, 2, 33, 2, 33, 2, 33, 2, 33, 2, 33, 2, 33, 2, 33, 2, 33, 2, 33, 2, 33, 2, 33, 2, 33, 2, 33, 2, 33, 2, 33, 2, 33, 2, 33, 2, 33, 2, 33, 2, 33, 6, 6, 6, 5, 32, 21, 6, 0, 21, 21, 5, 32, 21, 6, 0, 21, 21, 5, 32, 21, 6, 0, 21, 21, 5, 32, 21, 6, 0, 21, 21, 5, 32, 21, 6, 0, 21, 21, 5, 32, 21, 6, 0, 21, 21, 5, 32, 21, 6, 0, 21, 21, 5, 32, 21, 6, 0, 21, 21, 5, 32, 21, 6, 0, 21, 21, 5, 32, 21, 6, 0, 21, 21, 5, 32, 21, 6, 0, 21, 21, 5, 32, 21, 6, 0, 21, 21, 1, 21, 21, 21, 1, 21, 21, 21, 1, 21, 21, 21, 1, 21, 21, 21, 1, 21, 21, 21, 1, 21, 21, 21, 9, 21, 20, 22, 21, 21, 21, 21, 21, 21, 21, 21, 21, 21, 21, 21, 21, 21, 21, 21, 21, 21, 21, 21, 21, 22, 21, 21, 21, 21, 21, 21, 21, 21, 21, 21, 21, 21, 21, 21, 21, 21]
def lnL : List Nat := [0, 3, 0, 12, 12, 32, 20, 3, 12, 10, 6, 0, 400, 6, 6, 0, 20, 20, 0, 20, 20, 0, 20, 20, 0, 0, 0, 0, 0, 0, 0, 0, 0, 0, 0, 0, 0, 0, 0, 0, 0, 0, 0, 0, 0, 0, 0, 0, 0, 0, 0, 0, 0, 0, 0, 0, 0, 4, 0, 4, 0, 4, 0, 4, 0, 4, 0, 4, 0, 4, 0, 4, 0, 4, 0, 4, 0, 4, 0, 4, 0, 4, 0, 4, 0, 4, 0, 4, 0, 4, 0, 4, 0, 4, 0, 4, 0, 0, 0, 0, 6, 6, 0, 0, 12, 12, 0, 6, 6, 0, 0, 12, 12, 0, 6, 6, 0, 0, 12, 12, 0, 6, 6, 0, 0, 12, 12, 0, 6, 6, 0, 0, 12, 12, 0, 6, 6, 0, 0, 12, 12, 0, 6, 6, 0, 0, 12, 12, 0, 6, 6, 0, 0, 12, 12, 0, 6, 6, 0, 0, 12, 12, 0, 6, 6, 0, 0, 12, 12, 0, 6, 6, 0, 0, 12, 12, 0, 6, 6, 0, 0, 12, 12, 0, 1001, 1001, 1001, 0, 1001, 1001, 1001, 0, 1001, 1001, 1001, 0, 1001, 1001, 1001, 0, 1001, 1001, 1001, 0, 1001, 1001, 1001, 0, 3, 60, 60, 12, 12, 32, 32, 32, 20, 20, 20, 20, 20, 80, 3, 3, 3, 3, 10, 12, 12, 72, 72, 12, 12, 144, 144, 12, 12, 12, 12, 2002, 2002, 2002, 2002, 2, 2, 6, 36, 6, 6]
def ftyL : List (List Nat) := [[1, 1], [1, 1, 1, 0, 0], [0, 1, 0, 0, 0, 0, 0], [0, 0, 0, 0], [1, 1, 1, 0, 0], [1, 1, 1, 1, 1, 1, 0, 0, 0], [0, 0, 0, 0, 0], [1, 1, 0, 0], [1, 1, 1, 1, 1, 1, 1, 1, 1, 0, 0], [1, 1, 1, 1, 1, 1, 1, 1, 0, 1, 1, 1, 1, 1, 1, 1, 1, 1, 1, 1, 0, 1, 1, 1, 1, 1, 1, 1, 1, 1, 1, 0, 1, 1, 0, 0, 1, 1, 1, 1, 1, 1, 1, 1, 1, 1, 2, 2]]
def nwF : List (String × Nat × String × String × String × String) := [("JumpDesk", 280, "JumpDesk$Line", "shortest", "I", "JumpDesk"), ("JumpDesk", 336, "JumpDesk$Sheet", "length", "I", "JumpDesk"), ("JumpDesk", 99, "JumpDesk$Sheet", "there", "Z", "JumpDesk"), ("JumpDesk$Group", 40, "JumpDesk$Jumper", "number", "I", "JumpDesk"), ("JumpDesk$Group", 43, "JumpDesk$Jumper", "sort", "I", "JumpDesk"), ("JumpDesk$Group", 41, "JumpDesk$Jumper", "weight", "I", "JumpDesk"), ("JumpDesk$Group", 50, "JumpDesk$Jumper", "day", "I", "JumpDesk"), ("JumpDesk$Line", 28, "JumpDesk$Group", "number", "I", "JumpDesk"), ("JumpDesk$Load", 73, "JumpDesk$Group", "number", "I", "JumpDesk"), ("JumpDesk$Load", 80, "JumpDesk$Group", "count", "I", "JumpDesk"), ("JumpDesk", 163, "JumpDesk$Group", "count", "I", "JumpDesk"), ("JumpDesk$Fall", 58, "JumpDesk$Group", "kind", "I", "JumpDesk"), ("JumpDesk", 358, "JumpDesk$Group", "kind", "I", "JumpDesk"), ("JumpDesk", 373, "JumpDesk$Group", "forward", "I", "JumpDesk"), ("JumpDesk$Fall", 63, "JumpDesk$Group", "direction", "I", "JumpDesk"), ("JumpDesk$Load", 66, "JumpDesk$Plane", "number", "I", "JumpDesk"), ("JumpDesk", 302, "JumpDesk$Plane", "seats", "I", "JumpDesk"), ("JumpDesk", 308, "JumpDesk$Plane", "bears", "I", "JumpDesk"), ("JumpDesk$Fall", 42, "JumpDesk$Plane", "speed", "I", "JumpDesk"), ("JumpDesk$Load", 77, "JumpDesk$Plane", "speed", "I", "JumpDesk"), ("JumpDesk", 255, "JumpDesk$Plane", "speed", "I", "JumpDesk"), ("JumpDesk$Fall", 28, "JumpDesk$Plane", "height", "I", "JumpDesk"), ("JumpDesk$Line", 36, "JumpDesk$Load", "groups", "[LJumpDesk$Group;", "JumpDesk"), ("JumpDesk", 213, "JumpDesk$Load", "groups", "[LJumpDesk$Group;", "JumpDesk"), ("JumpDesk$Line", 62, "JumpDesk$Load", "pauses", "[I", "JumpDesk"), ("JumpDesk", 203, "JumpDesk$Load", "pauses", "[I", "JumpDesk"), ("JumpDesk", 214, "JumpDesk$Load", "plane", "LJumpDesk$Plane;", "JumpDesk"), ("JumpDesk", 218, "JumpDesk$Load", "air", "LJumpDesk$Air;", "JumpDesk"), ("JumpDesk$Line", 33, "JumpDesk$Load", "count", "I", "JumpDesk"), ("JumpDesk", 195, "JumpDesk$Load", "count", "I", "JumpDesk"), ("JumpDesk", 208, "JumpDesk$Load", "start", "I", "JumpDesk"), ("JumpDesk", 192, "JumpDesk$Load", "left", "Z", "JumpDesk"), ("JumpDesk", 235, "JumpDesk$Fall", "x", "[I", "JumpDesk"), ("JumpDesk", 238, "JumpDesk$Fall", "y", "[I", "JumpDesk"), ("JumpDesk", 241, "JumpDesk$Fall", "height", "[I", "JumpDesk"), ("JumpDesk", 223, "JumpDesk$Fall", "down", "I", "JumpDesk"), ("JumpDesk$Group", 57, "JumpDesk", "FASTEST", "[I", "JumpDesk")]
def nwM : List (String × Nat × MethodName × String) := [("JumpDesk", 19, ⟨"JumpDesk$Air", "<init>", "()V"⟩, "JumpDesk"), ("JumpDesk", 68, ⟨"JumpDesk$Line", "<init>", "()V"⟩, "JumpDesk"), ("JumpDesk", 80, ⟨"JumpDesk$Sheet", "<init>", "()V"⟩, "JumpDesk"), ("JumpDesk", 81, ⟨"JumpDesk$Jumper", "<init>", "(I)V"⟩, "JumpDesk"), ("JumpDesk", 84, ⟨"JumpDesk$Group", "<init>", "(I)V"⟩, "JumpDesk"), ("JumpDesk", 85, ⟨"JumpDesk$Plane", "<init>", "(I)V"⟩, "JumpDesk"), ("JumpDesk", 86, ⟨"JumpDesk$Load", "<init>", "()V"⟩, "JumpDesk"), ("JumpDesk$Load", 23, ⟨"JumpDesk$Plane", "<init>", "(I)V"⟩, "JumpDesk"), ("JumpDesk$Load", 32, ⟨"JumpDesk$Air", "<init>", "()V"⟩, "JumpDesk"), ("JumpDesk", 87, ⟨"JumpDesk$Fall", "<init>", "()V"⟩, "JumpDesk"), ("JumpDesk", 92, ⟨"JumpDesk$Sheet", "begin", "(I)V"⟩, "JumpDesk"), ("JumpDesk", 103, ⟨"JumpDesk$Sheet", "has", "(I)Z"⟩, "JumpDesk"), ("JumpDesk", 107, ⟨"JumpDesk$Sheet", "write", "(IF)V"⟩, "JumpDesk"), ("JumpDesk", 111, ⟨"JumpDesk$Sheet", "blank", "(I)V"⟩, "JumpDesk"), ("JumpDesk", 115, ⟨"JumpDesk$Sheet", "filled", "(I)F"⟩, "JumpDesk"), ("JumpDesk", 124, ⟨"JumpDesk$Sheet", "windOf", "(I)I"⟩, "JumpDesk"), ("JumpDesk", 128, ⟨"JumpDesk$Air", "blowAt", "(III)V"⟩, "JumpDesk"), ("JumpDesk", 135, ⟨"JumpDesk$Air", "alongX", "(I)I"⟩, "JumpDesk"), ("JumpDesk", 138, ⟨"JumpDesk$Air", "alongY", "(I)I"⟩, "JumpDesk"), ("JumpDesk", 145, ⟨"JumpDesk$Jumper", "become", "(III)V"⟩, "JumpDesk"), ("JumpDesk", 148, ⟨"JumpDesk$Group", "become", "(IIII)V"⟩, "JumpDesk"), ("JumpDesk", 339, ⟨"JumpDesk$Load", "holds", "(LJumpDesk$Group;)Z"⟩, "JumpDesk"), ("JumpDesk", 159, ⟨"JumpDesk$Group", "holds", "(LJumpDesk$Jumper;)Z"⟩, "JumpDesk"), ("JumpDesk", 166, ⟨"JumpDesk$Group", "add", "(LJumpDesk$Jumper;)V"⟩, "JumpDesk"), ("JumpDesk", 170, ⟨"JumpDesk$Group", "tell", "(I)I"⟩, "JumpDesk"), ("JumpDesk", 178, ⟨"JumpDesk$Plane", "become", "(IIII)V"⟩, "JumpDesk"), ("JumpDesk", 182, ⟨"JumpDesk$Load", "begin", "(LJumpDesk$Plane;LJumpDesk$Air;)V"⟩, "JumpDesk"), ("JumpDesk", 196, ⟨"JumpDesk$Load", "add", "(LJumpDesk$Group;I)V"⟩, "JumpDesk"), ("JumpDesk", 199, ⟨"JumpDesk$Load", "has", "(I)Z"⟩, "JumpDesk"), ("JumpDesk", 200, ⟨"JumpDesk$Load", "remove", "(I)V"⟩, "JumpDesk"), ("JumpDesk", 211, ⟨"JumpDesk$Load", "tell", "(I)I"⟩, "JumpDesk"), ("JumpDesk", 219, ⟨"JumpDesk$Fall", "follow", "(LJumpDesk$Group;LJumpDesk$Plane;LJumpDesk$Air;)V"⟩, "JumpDesk"), ("JumpDesk$Fall", 49, ⟨"JumpDesk$Air", "alongX", "(I)I"⟩, "JumpDesk"), ("JumpDesk$Fall", 55, ⟨"JumpDesk$Air", "alongY", "(I)I"⟩, "JumpDesk"), ("JumpDesk$Fall", 70, ⟨"JumpDesk$Group", "dropIn", "(I)I"⟩, "JumpDesk"), ("JumpDesk$Fall", 73, ⟨"JumpDesk$Group", "opensBehind", "(II)Z"⟩, "JumpDesk"), ("JumpDesk", 232, ⟨"JumpDesk$Load", "leavesAtX", "(I)I"⟩, "JumpDesk"), ("JumpDesk", 244, ⟨"JumpDesk$Fall", "stateAt", "(I)I"⟩, "JumpDesk"), ("JumpDesk", 252, ⟨"JumpDesk$Load", "secondOf", "(I)I"⟩, "JumpDesk"), ("JumpDesk", 258, ⟨"JumpDesk$Fall", "nearTo", "(LJumpDesk$Fall;IIJ)J"⟩, "JumpDesk"), ("JumpDesk", 369, ⟨"JumpDesk$Line", "measure", "(LJumpDesk$Group;LJumpDesk$Group;I)V"⟩, "JumpDesk"), ("JumpDesk", 270, ⟨"JumpDesk$Line", "begin", "(LJumpDesk$Load;)V"⟩, "JumpDesk"), ("JumpDesk", 272, ⟨"JumpDesk$Line", "findShortest", "()Z"⟩, "JumpDesk"), ("JumpDesk", 276, ⟨"JumpDesk$Line", "giveTo", "(LJumpDesk$Load;[LJumpDesk$Group;)V"⟩, "JumpDesk"), ("JumpDesk", 379, ⟨"JumpDesk$Fall", "downY", "()I"⟩, "JumpDesk"), ("JumpDesk", 376, ⟨"JumpDesk$Fall", "secondsOpen", "()I"⟩, "JumpDesk"), ("JumpDesk", 292, ⟨"JumpDesk$Fall", "downX", "()I"⟩, "JumpDesk"), ("JumpDesk", 296, ⟨"JumpDesk$Load", "lacksJumpers", "()Z"⟩, "JumpDesk"), ("JumpDesk", 299, ⟨"JumpDesk$Load", "jumperCount", "()I"⟩, "JumpDesk"), ("JumpDesk", 305, ⟨"JumpDesk$Load", "weight", "()I"⟩, "JumpDesk"), ("JumpDesk$Load", 81, ⟨"JumpDesk$Group", "weight", "()I"⟩, "JumpDesk"), ("JumpDesk", 311, ⟨"JumpDesk$Load", "isWornOn", "(I)Z"⟩, "JumpDesk"), ("JumpDesk$Load", 85, ⟨"JumpDesk$Group", "isWornOn", "(I)Z"⟩, "JumpDesk"), ("JumpDesk", 314, ⟨"JumpDesk$Load", "holdsOneTwice", "()Z"⟩, "JumpDesk"), ("JumpDesk$Load", 88, ⟨"JumpDesk$Group", "sharesOneWith", "(LJumpDesk$Group;)Z"⟩, "JumpDesk"), ("JumpDesk", 317, ⟨"JumpDesk$Load", "lacksHelp", "()Z"⟩, "JumpDesk"), ("JumpDesk$Load", 92, ⟨"JumpDesk$Group", "lacksHelp", "()Z"⟩, "JumpDesk"), ("JumpDesk", 355, ⟨"JumpDesk$Air", "squareOnGround", "()I"⟩, "JumpDesk"), ("JumpDesk", 327, ⟨"JumpDesk$Load", "goUp", "()V"⟩, "JumpDesk"), ("JumpDesk$Load", 54, ⟨"JumpDesk$Plane", "becomeAs", "(LJumpDesk$Plane;)V"⟩, "JumpDesk"), ("JumpDesk$Load", 58, ⟨"JumpDesk$Air", "blowAs", "(LJumpDesk$Air;)V"⟩, "JumpDesk")]
def nwL : List Cond := nwF.map (fun q => Cond.fieldLinkNest q.1 q.2.1 q.2.2.1 q.2.2.2.1 q.2.2.2.2.1 q.2.2.2.2.2) ++ nwM.map (fun q => Cond.methodLinkNest q.1 q.2.1 q.2.2.1 q.2.2.2)
theorem nwf (i : Nat) {a : String} {j : Nat} {b n d x : String} (h : nwF[i]? = some (a, j, b, n, d, x)) : Cond.fieldLinkNest a j b n d x ∈ nwL := List.mem_append_left _ (List.mem_map.mpr ⟨_, List.mem_of_getElem? h, rfl⟩)
theorem nwm (i : Nat) {a : String} {j : Nat} {y : MethodName} {x : String} (h : nwM[i]? = some (a, j, y, x)) : Cond.methodLinkNest a j y x ∈ nwL := List.mem_append_right _ (List.mem_map.mpr ⟨_, List.mem_of_getElem? h, rfl⟩)
theorem mw1 (i : Nat) {w : Cond} (h : wsL_law_r1[i]? = some w) : w ∈ wsL_law := List.mem_append_left _ (List.mem_append_left _ (List.mem_append_left _ (List.mem_append_left _ (List.mem_append_left _ (List.mem_append_left _ (List.mem_append_left _ (List.mem_append_left _ (List.mem_append_left _ (List.mem_append_left _ (List.mem_append_left _ (List.mem_append_left _ (List.mem_of_getElem? h))))))))))))
theorem mw2 (i : Nat) {w : Cond} (h : wsL_law_r2[i]? = some w) : w ∈ wsL_law := List.mem_append_left _ (List.mem_append_left _ (List.mem_append_left _ (List.mem_append_left _ (List.mem_append_left _ (List.mem_append_left _ (List.mem_append_left _ (List.mem_append_left _ (List.mem_append_left _ (List.mem_append_left _ (List.mem_append_left _ (List.mem_append_right _ (List.mem_append_left _ (List.mem_of_getElem? h)))))))))))))
theorem mw3 (i : Nat) {w : Cond} (h : wsL_law_r3[i]? = some w) : w ∈ wsL_law := List.mem_append_left _ (List.mem_append_left _ (List.mem_append_left _ (List.mem_append_left _ (List.mem_append_left _ (List.mem_append_left _ (List.mem_append_left _ (List.mem_append_left _ (List.mem_append_left _ (List.mem_append_left _ (List.mem_append_left _ (List.mem_append_right _ (List.mem_append_right _ (List.mem_append_left _ (List.mem_of_getElem? h))))))))))))))
theorem mw4 (i : Nat) {w : Cond} (h : wsL_law_r4[i]? = some w) : w ∈ wsL_law := List.mem_append_left _ (List.mem_append_left _ (List.mem_append_left _ (List.mem_append_left _ (List.mem_append_left _ (List.mem_append_left _ (List.mem_append_left _ (List.mem_append_left _ (List.mem_append_left _ (List.mem_append_left _ (List.mem_append_left _ (List.mem_append_right _ (List.mem_append_right _ (List.mem_append_right _ (List.mem_append_left _ (List.mem_of_getElem? h)))))))))))))))
theorem mw5 (i : Nat) {w : Cond} (h : wsL_law_r5[i]? = some w) : w ∈ wsL_law := List.mem_append_left _ (List.mem_append_left _ (List.mem_append_left _ (List.mem_append_left _ (List.mem_append_left _ (List.mem_append_left _ (List.mem_append_left _ (List.mem_append_left _ (List.mem_append_left _ (List.mem_append_left _ (List.mem_append_left _ (List.mem_append_right _ (List.mem_append_right _ (List.mem_append_right _ (List.mem_append_right _ (List.mem_append_left _ (List.mem_of_getElem? h))))))))))))))))
theorem mw6 (i : Nat) {w : Cond} (h : wsL_law_r6[i]? = some w) : w ∈ wsL_law := List.mem_append_left _ (List.mem_append_left _ (List.mem_append_left _ (List.mem_append_left _ (List.mem_append_left _ (List.mem_append_left _ (List.mem_append_left _ (List.mem_append_left _ (List.mem_append_left _ (List.mem_append_left _ (List.mem_append_left _ (List.mem_append_right _ (List.mem_append_right _ (List.mem_append_right _ (List.mem_append_right _ (List.mem_append_right _ (List.mem_append_left _ (List.mem_of_getElem? h)))))))))))))))))
theorem mw7 (i : Nat) {w : Cond} (h : wsL_law_r7[i]? = some w) : w ∈ wsL_law := List.mem_append_left _ (List.mem_append_left _ (List.mem_append_left _ (List.mem_append_left _ (List.mem_append_left _ (List.mem_append_left _ (List.mem_append_left _ (List.mem_append_left _ (List.mem_append_left _ (List.mem_append_left _ (List.mem_append_left _ (List.mem_append_right _ (List.mem_append_right _ (List.mem_append_right _ (List.mem_append_right _ (List.mem_append_right _ (List.mem_append_right _ (List.mem_append_left _ (List.mem_of_getElem? h))))))))))))))))))
theorem mw8 (i : Nat) {w : Cond} (h : wsL_law_r8[i]? = some w) : w ∈ wsL_law := List.mem_append_left _ (List.mem_append_left _ (List.mem_append_left _ (List.mem_append_left _ (List.mem_append_left _ (List.mem_append_left _ (List.mem_append_left _ (List.mem_append_left _ (List.mem_append_left _ (List.mem_append_left _ (List.mem_append_left _ (List.mem_append_right _ (List.mem_append_right _ (List.mem_append_right _ (List.mem_append_right _ (List.mem_append_right _ (List.mem_append_right _ (List.mem_append_right _ (List.mem_append_left _ (List.mem_of_getElem? h)))))))))))))))))))
theorem mw9 (i : Nat) {w : Cond} (h : wsL_law_r9[i]? = some w) : w ∈ wsL_law := List.mem_append_left _ (List.mem_append_left _ (List.mem_append_left _ (List.mem_append_left _ (List.mem_append_left _ (List.mem_append_left _ (List.mem_append_left _ (List.mem_append_left _ (List.mem_append_left _ (List.mem_append_left _ (List.mem_append_left _ (List.mem_append_right _ (List.mem_append_right _ (List.mem_append_right _ (List.mem_append_right _ (List.mem_append_right _ (List.mem_append_right _ (List.mem_append_right _ (List.mem_append_right _ (List.mem_append_left _ (List.mem_of_getElem? h))))))))))))))))))))
theorem mw10 (i : Nat) {w : Cond} (h : wsL_law_r10[i]? = some w) : w ∈ wsL_law := List.mem_append_left _ (List.mem_append_left _ (List.mem_append_left _ (List.mem_append_left _ (List.mem_append_left _ (List.mem_append_left _ (List.mem_append_left _ (List.mem_append_left _ (List.mem_append_left _ (List.mem_append_left _ (List.mem_append_left _ (List.mem_append_right _ (List.mem_append_right _ (List.mem_append_right _ (List.mem_append_right _ (List.mem_append_right _ (List.mem_append_right _ (List.mem_append_right _ (List.mem_append_right _ (List.mem_append_right _ (List.mem_append_left _ (List.mem_of_getElem? h)))))))))))))))))))))
theorem mw11 (i : Nat) {w : Cond} (h : wsL_law_r11[i]? = some w) : w ∈ wsL_law := List.mem_append_left _ (List.mem_append_left _ (List.mem_append_left _ (List.mem_append_left _ (List.mem_append_left _ (List.mem_append_left _ (List.mem_append_left _ (List.mem_append_left _ (List.mem_append_left _ (List.mem_append_left _ (List.mem_append_left _ (List.mem_append_right _ (List.mem_append_right _ (List.mem_append_right _ (List.mem_append_right _ (List.mem_append_right _ (List.mem_append_right _ (List.mem_append_right _ (List.mem_append_right _ (List.mem_append_right _ (List.mem_append_right _ (List.mem_append_left _ (List.mem_of_getElem? h))))))))))))))))))))))
theorem mw12 (i : Nat) {w : Cond} (h : wsL_law_r12[i]? = some w) : w ∈ wsL_law := List.mem_append_left _ (List.mem_append_left _ (List.mem_append_left _ (List.mem_append_left _ (List.mem_append_left _ (List.mem_append_left _ (List.mem_append_left _ (List.mem_append_left _ (List.mem_append_left _ (List.mem_append_left _ (List.mem_append_left _ (List.mem_append_right _ (List.mem_append_right _ (List.mem_append_right _ (List.mem_append_right _ (List.mem_append_right _ (List.mem_append_right _ (List.mem_append_right _ (List.mem_append_right _ (List.mem_append_right _ (List.mem_append_right _ (List.mem_append_right _ (List.mem_append_left _ (List.mem_of_getElem? h)))))))))))))))))))))))
theorem mw13 (i : Nat) {w : Cond} (h : wsL_law_r13[i]? = some w) : w ∈ wsL_law := List.mem_append_left _ (List.mem_append_left _ (List.mem_append_left _ (List.mem_append_left _ (List.mem_append_left _ (List.mem_append_left _ (List.mem_append_left _ (List.mem_append_left _ (List.mem_append_left _ (List.mem_append_left _ (List.mem_append_left _ (List.mem_append_right _ (List.mem_append_right _ (List.mem_append_right _ (List.mem_append_right _ (List.mem_append_right _ (List.mem_append_right _ (List.mem_append_right _ (List.mem_append_right _ (List.mem_append_right _ (List.mem_append_right _ (List.mem_append_right _ (List.mem_append_right _ (List.mem_append_left _ (List.mem_of_getElem? h))))))))))))))))))))))))
theorem mw14 (i : Nat) {w : Cond} (h : wsL_law_r14[i]? = some w) : w ∈ wsL_law := List.mem_append_left _ (List.mem_append_left _ (List.mem_append_left _ (List.mem_append_left _ (List.mem_append_left _ (List.mem_append_left _ (List.mem_append_left _ (List.mem_append_left _ (List.mem_append_left _ (List.mem_append_left _ (List.mem_append_left _ (List.mem_append_right _ (List.mem_append_right _ (List.mem_append_right _ (List.mem_append_right _ (List.mem_append_right _ (List.mem_append_right _ (List.mem_append_right _ (List.mem_append_right _ (List.mem_append_right _ (List.mem_append_right _ (List.mem_append_right _ (List.mem_append_right _ (List.mem_append_right _ (List.mem_append_left _ (List.mem_of_getElem? h)))))))))))))))))))))))))
theorem mw15 (i : Nat) {w : Cond} (h : wsL_law_r15[i]? = some w) : w ∈ wsL_law := List.mem_append_left _ (List.mem_append_left _ (List.mem_append_left _ (List.mem_append_left _ (List.mem_append_left _ (List.mem_append_left _ (List.mem_append_left _ (List.mem_append_left _ (List.mem_append_left _ (List.mem_append_left _ (List.mem_append_left _ (List.mem_append_right _ (List.mem_append_right _ (List.mem_append_right _ (List.mem_append_right _ (List.mem_append_right _ (List.mem_append_right _ (List.mem_append_right _ (List.mem_append_right _ (List.mem_append_right _ (List.mem_append_right _ (List.mem_append_right _ (List.mem_append_right _ (List.mem_append_right _ (List.mem_append_right _ (List.mem_append_left _ (List.mem_of_getElem? h))))))))))))))))))))))))))
theorem mw16 (i : Nat) {w : Cond} (h : wsL_law_r16[i]? = some w) : w ∈ wsL_law := List.mem_append_left _ (List.mem_append_left _ (List.mem_append_left _ (List.mem_append_left _ (List.mem_append_left _ (List.mem_append_left _ (List.mem_append_left _ (List.mem_append_left _ (List.mem_append_left _ (List.mem_append_left _ (List.mem_append_left _ (List.mem_append_right _ (List.mem_append_right _ (List.mem_append_right _ (List.mem_append_right _ (List.mem_append_right _ (List.mem_append_right _ (List.mem_append_right _ (List.mem_append_right _ (List.mem_append_right _ (List.mem_append_right _ (List.mem_append_right _ (List.mem_append_right _ (List.mem_append_right _ (List.mem_append_right _ (List.mem_append_right _ (List.mem_append_left _ (List.mem_of_getElem? h)))))))))))))))))))))))))))
theorem mw17 (i : Nat) {w : Cond} (h : wsL_law_r17[i]? = some w) : w ∈ wsL_law := List.mem_append_left _ (List.mem_append_left _ (List.mem_append_left _ (List.mem_append_left _ (List.mem_append_left _ (List.mem_append_left _ (List.mem_append_left _ (List.mem_append_left _ (List.mem_append_left _ (List.mem_append_left _ (List.mem_append_left _ (List.mem_append_right _ (List.mem_append_right _ (List.mem_append_right _ (List.mem_append_right _ (List.mem_append_right _ (List.mem_append_right _ (List.mem_append_right _ (List.mem_append_right _ (List.mem_append_right _ (List.mem_append_right _ (List.mem_append_right _ (List.mem_append_right _ (List.mem_append_right _ (List.mem_append_right _ (List.mem_append_right _ (List.mem_append_right _ (List.mem_append_left _ (List.mem_of_getElem? h))))))))))))))))))))))))))))
theorem mw18 (i : Nat) {w : Cond} (h : wsL_law_r18[i]? = some w) : w ∈ wsL_law := List.mem_append_left _ (List.mem_append_left _ (List.mem_append_left _ (List.mem_append_left _ (List.mem_append_left _ (List.mem_append_left _ (List.mem_append_left _ (List.mem_append_left _ (List.mem_append_left _ (List.mem_append_left _ (List.mem_append_left _ (List.mem_append_right _ (List.mem_append_right _ (List.mem_append_right _ (List.mem_append_right _ (List.mem_append_right _ (List.mem_append_right _ (List.mem_append_right _ (List.mem_append_right _ (List.mem_append_right _ (List.mem_append_right _ (List.mem_append_right _ (List.mem_append_right _ (List.mem_append_right _ (List.mem_append_right _ (List.mem_append_right _ (List.mem_append_right _ (List.mem_append_right _ (List.mem_append_left _ (List.mem_of_getElem? h)))))))))))))))))))))))))))))
theorem mw19 (i : Nat) {w : Cond} (h : wsL_law_r19[i]? = some w) : w ∈ wsL_law := List.mem_append_left _ (List.mem_append_left _ (List.mem_append_left _ (List.mem_append_left _ (List.mem_append_left _ (List.mem_append_left _ (List.mem_append_left _ (List.mem_append_left _ (List.mem_append_left _ (List.mem_append_left _ (List.mem_append_left _ (List.mem_append_right _ (List.mem_append_right _ (List.mem_append_right _ (List.mem_append_right _ (List.mem_append_right _ (List.mem_append_right _ (List.mem_append_right _ (List.mem_append_right _ (List.mem_append_right _ (List.mem_append_right _ (List.mem_append_right _ (List.mem_append_right _ (List.mem_append_right _ (List.mem_append_right _ (List.mem_append_right _ (List.mem_append_right _ (List.mem_append_right _ (List.mem_append_right _ (List.mem_append_left _ (List.mem_of_getElem? h))))))))))))))))))))))))))))))
theorem mw20 (i : Nat) {w : Cond} (h : wsL_law_r20[i]? = some w) : w ∈ wsL_law := List.mem_append_left _ (List.mem_append_left _ (List.mem_append_left _ (List.mem_append_left _ (List.mem_append_left _ (List.mem_append_left _ (List.mem_append_left _ (List.mem_append_left _ (List.mem_append_left _ (List.mem_append_left _ (List.mem_append_left _ (List.mem_append_right _ (List.mem_append_right _ (List.mem_append_right _ (List.mem_append_right _ (List.mem_append_right _ (List.mem_append_right _ (List.mem_append_right _ (List.mem_append_right _ (List.mem_append_right _ (List.mem_append_right _ (List.mem_append_right _ (List.mem_append_right _ (List.mem_append_right _ (List.mem_append_right _ (List.mem_append_right _ (List.mem_append_right _ (List.mem_append_right _ (List.mem_append_right _ (List.mem_append_right _ (List.mem_append_left _ (List.mem_of_getElem? h)))))))))))))))))))))))))))))))
theorem mw21 (i : Nat) {w : Cond} (h : wsL_law_r21[i]? = some w) : w ∈ wsL_law := List.mem_append_left _ (List.mem_append_left _ (List.mem_append_left _ (List.mem_append_left _ (List.mem_append_left _ (List.mem_append_left _ (List.mem_append_left _ (List.mem_append_left _ (List.mem_append_left _ (List.mem_append_left _ (List.mem_append_left _ (List.mem_append_right _ (List.mem_append_right _ (List.mem_append_right _ (List.mem_append_right _ (List.mem_append_right _ (List.mem_append_right _ (List.mem_append_right _ (List.mem_append_right _ (List.mem_append_right _ (List.mem_append_right _ (List.mem_append_right _ (List.mem_append_right _ (List.mem_append_right _ (List.mem_append_right _ (List.mem_append_right _ (List.mem_append_right _ (List.mem_append_right _ (List.mem_append_right _ (List.mem_append_right _ (List.mem_append_right _ (List.mem_append_left _ (List.mem_of_getElem? h))))))))))))))))))))))))))))))))
theorem mw22 (i : Nat) {w : Cond} (h : wsL_law_r22[i]? = some w) : w ∈ wsL_law := List.mem_append_left _ (List.mem_append_left _ (List.mem_append_left _ (List.mem_append_left _ (List.mem_append_left _ (List.mem_append_left _ (List.mem_append_left _ (List.mem_append_left _ (List.mem_append_left _ (List.mem_append_left _ (List.mem_append_left _ (List.mem_append_right _ (List.mem_append_right _ (List.mem_append_right _ (List.mem_append_right _ (List.mem_append_right _ (List.mem_append_right _ (List.mem_append_right _ (List.mem_append_right _ (List.mem_append_right _ (List.mem_append_right _ (List.mem_append_right _ (List.mem_append_right _ (List.mem_append_right _ (List.mem_append_right _ (List.mem_append_right _ (List.mem_append_right _ (List.mem_append_right _ (List.mem_append_right _ (List.mem_append_right _ (List.mem_append_right _ (List.mem_append_right _ (List.mem_append_left _ (List.mem_of_getElem? h)))))))))))))))))))))))))))))))))
theorem mw23 (i : Nat) {w : Cond} (h : wsL_law_r23[i]? = some w) : w ∈ wsL_law := List.mem_append_left _ (List.mem_append_left _ (List.mem_append_left _ (List.mem_append_left _ (List.mem_append_left _ (List.mem_append_left _ (List.mem_append_left _ (List.mem_append_left _ (List.mem_append_left _ (List.mem_append_left _ (List.mem_append_left _ (List.mem_append_right _ (List.mem_append_right _ (List.mem_append_right _ (List.mem_append_right _ (List.mem_append_right _ (List.mem_append_right _ (List.mem_append_right _ (List.mem_append_right _ (List.mem_append_right _ (List.mem_append_right _ (List.mem_append_right _ (List.mem_append_right _ (List.mem_append_right _ (List.mem_append_right _ (List.mem_append_right _ (List.mem_append_right _ (List.mem_append_right _ (List.mem_append_right _ (List.mem_append_right _ (List.mem_append_right _ (List.mem_append_right _ (List.mem_append_right _ (List.mem_append_left _ (List.mem_of_getElem? h))))))))))))))))))))))))))))))))))
theorem mw24 (i : Nat) {w : Cond} (h : wsL_law_r24[i]? = some w) : w ∈ wsL_law := List.mem_append_left _ (List.mem_append_left _ (List.mem_append_left _ (List.mem_append_left _ (List.mem_append_left _ (List.mem_append_left _ (List.mem_append_left _ (List.mem_append_left _ (List.mem_append_left _ (List.mem_append_left _ (List.mem_append_left _ (List.mem_append_right _ (List.mem_append_right _ (List.mem_append_right _ (List.mem_append_right _ (List.mem_append_right _ (List.mem_append_right _ (List.mem_append_right _ (List.mem_append_right _ (List.mem_append_right _ (List.mem_append_right _ (List.mem_append_right _ (List.mem_append_right _ (List.mem_append_right _ (List.mem_append_right _ (List.mem_append_right _ (List.mem_append_right _ (List.mem_append_right _ (List.mem_append_right _ (List.mem_append_right _ (List.mem_append_right _ (List.mem_append_right _ (List.mem_append_right _ (List.mem_append_right _ (List.mem_append_left _ (List.mem_of_getElem? h)))))))))))))))))))))))))))))))))))
theorem mw25 (i : Nat) {w : Cond} (h : wsL_law_r25[i]? = some w) : w ∈ wsL_law := List.mem_append_left _ (List.mem_append_left _ (List.mem_append_left _ (List.mem_append_left _ (List.mem_append_left _ (List.mem_append_left _ (List.mem_append_left _ (List.mem_append_left _ (List.mem_append_left _ (List.mem_append_left _ (List.mem_append_left _ (List.mem_append_right _ (List.mem_append_right _ (List.mem_append_right _ (List.mem_append_right _ (List.mem_append_right _ (List.mem_append_right _ (List.mem_append_right _ (List.mem_append_right _ (List.mem_append_right _ (List.mem_append_right _ (List.mem_append_right _ (List.mem_append_right _ (List.mem_append_right _ (List.mem_append_right _ (List.mem_append_right _ (List.mem_append_right _ (List.mem_append_right _ (List.mem_append_right _ (List.mem_append_right _ (List.mem_append_right _ (List.mem_append_right _ (List.mem_append_right _ (List.mem_append_right _ (List.mem_append_right _ (List.mem_append_left _ (List.mem_of_getElem? h))))))))))))))))))))))))))))))))))))
theorem mw26 (i : Nat) {w : Cond} (h : wsL_law_r26[i]? = some w) : w ∈ wsL_law := List.mem_append_left _ (List.mem_append_left _ (List.mem_append_left _ (List.mem_append_left _ (List.mem_append_left _ (List.mem_append_left _ (List.mem_append_left _ (List.mem_append_left _ (List.mem_append_left _ (List.mem_append_left _ (List.mem_append_left _ (List.mem_append_right _ (List.mem_append_right _ (List.mem_append_right _ (List.mem_append_right _ (List.mem_append_right _ (List.mem_append_right _ (List.mem_append_right _ (List.mem_append_right _ (List.mem_append_right _ (List.mem_append_right _ (List.mem_append_right _ (List.mem_append_right _ (List.mem_append_right _ (List.mem_append_right _ (List.mem_append_right _ (List.mem_append_right _ (List.mem_append_right _ (List.mem_append_right _ (List.mem_append_right _ (List.mem_append_right _ (List.mem_append_right _ (List.mem_append_right _ (List.mem_append_right _ (List.mem_append_right _ (List.mem_append_right _ (List.mem_append_left _ (List.mem_of_getElem? h)))))))))))))))))))))))))))))))))))))
theorem mw27 (i : Nat) {w : Cond} (h : wsL_law_r27[i]? = some w) : w ∈ wsL_law := List.mem_append_left _ (List.mem_append_left _ (List.mem_append_left _ (List.mem_append_left _ (List.mem_append_left _ (List.mem_append_left _ (List.mem_append_left _ (List.mem_append_left _ (List.mem_append_left _ (List.mem_append_left _ (List.mem_append_left _ (List.mem_append_right _ (List.mem_append_right _ (List.mem_append_right _ (List.mem_append_right _ (List.mem_append_right _ (List.mem_append_right _ (List.mem_append_right _ (List.mem_append_right _ (List.mem_append_right _ (List.mem_append_right _ (List.mem_append_right _ (List.mem_append_right _ (List.mem_append_right _ (List.mem_append_right _ (List.mem_append_right _ (List.mem_append_right _ (List.mem_append_right _ (List.mem_append_right _ (List.mem_append_right _ (List.mem_append_right _ (List.mem_append_right _ (List.mem_append_right _ (List.mem_append_right _ (List.mem_append_right _ (List.mem_append_right _ (List.mem_append_right _ (List.mem_append_left _ (List.mem_of_getElem? h))))))))))))))))))))))))))))))))))))))
theorem mw28 (i : Nat) {w : Cond} (h : wsL_law_r28[i]? = some w) : w ∈ wsL_law := List.mem_append_left _ (List.mem_append_left _ (List.mem_append_left _ (List.mem_append_left _ (List.mem_append_left _ (List.mem_append_left _ (List.mem_append_left _ (List.mem_append_left _ (List.mem_append_left _ (List.mem_append_left _ (List.mem_append_left _ (List.mem_append_right _ (List.mem_append_right _ (List.mem_append_right _ (List.mem_append_right _ (List.mem_append_right _ (List.mem_append_right _ (List.mem_append_right _ (List.mem_append_right _ (List.mem_append_right _ (List.mem_append_right _ (List.mem_append_right _ (List.mem_append_right _ (List.mem_append_right _ (List.mem_append_right _ (List.mem_append_right _ (List.mem_append_right _ (List.mem_append_right _ (List.mem_append_right _ (List.mem_append_right _ (List.mem_append_right _ (List.mem_append_right _ (List.mem_append_right _ (List.mem_append_right _ (List.mem_append_right _ (List.mem_append_right _ (List.mem_append_right _ (List.mem_append_right _ (List.mem_append_left _ (List.mem_of_getElem? h)))))))))))))))))))))))))))))))))))))))
theorem mw29 (i : Nat) {w : Cond} (h : wsL_law_r29[i]? = some w) : w ∈ wsL_law := List.mem_append_left _ (List.mem_append_left _ (List.mem_append_left _ (List.mem_append_left _ (List.mem_append_left _ (List.mem_append_left _ (List.mem_append_left _ (List.mem_append_left _ (List.mem_append_left _ (List.mem_append_left _ (List.mem_append_left _ (List.mem_append_right _ (List.mem_append_right _ (List.mem_append_right _ (List.mem_append_right _ (List.mem_append_right _ (List.mem_append_right _ (List.mem_append_right _ (List.mem_append_right _ (List.mem_append_right _ (List.mem_append_right _ (List.mem_append_right _ (List.mem_append_right _ (List.mem_append_right _ (List.mem_append_right _ (List.mem_append_right _ (List.mem_append_right _ (List.mem_append_right _ (List.mem_append_right _ (List.mem_append_right _ (List.mem_append_right _ (List.mem_append_right _ (List.mem_append_right _ (List.mem_append_right _ (List.mem_append_right _ (List.mem_append_right _ (List.mem_append_right _ (List.mem_append_right _ (List.mem_append_right _ (List.mem_append_left _ (List.mem_of_getElem? h))))))))))))))))))))))))))))))))))))))))
theorem mw30 (i : Nat) {w : Cond} (h : wsL_law_r30[i]? = some w) : w ∈ wsL_law := List.mem_append_left _ (List.mem_append_left _ (List.mem_append_left _ (List.mem_append_left _ (List.mem_append_left _ (List.mem_append_left _ (List.mem_append_left _ (List.mem_append_left _ (List.mem_append_left _ (List.mem_append_left _ (List.mem_append_left _ (List.mem_append_right _ (List.mem_append_right _ (List.mem_append_right _ (List.mem_append_right _ (List.mem_append_right _ (List.mem_append_right _ (List.mem_append_right _ (List.mem_append_right _ (List.mem_append_right _ (List.mem_append_right _ (List.mem_append_right _ (List.mem_append_right _ (List.mem_append_right _ (List.mem_append_right _ (List.mem_append_right _ (List.mem_append_right _ (List.mem_append_right _ (List.mem_append_right _ (List.mem_append_right _ (List.mem_append_right _ (List.mem_append_right _ (List.mem_append_right _ (List.mem_append_right _ (List.mem_append_right _ (List.mem_append_right _ (List.mem_append_right _ (List.mem_append_right _ (List.mem_append_right _ (List.mem_append_right _ (List.mem_append_left _ (List.mem_of_getElem? h)))))))))))))))))))))))))))))))))))))))))
theorem mw31 (i : Nat) {w : Cond} (h : wsL_law_r31[i]? = some w) : w ∈ wsL_law := List.mem_append_left _ (List.mem_append_left _ (List.mem_append_left _ (List.mem_append_left _ (List.mem_append_left _ (List.mem_append_left _ (List.mem_append_left _ (List.mem_append_left _ (List.mem_append_left _ (List.mem_append_left _ (List.mem_append_left _ (List.mem_append_right _ (List.mem_append_right _ (List.mem_append_right _ (List.mem_append_right _ (List.mem_append_right _ (List.mem_append_right _ (List.mem_append_right _ (List.mem_append_right _ (List.mem_append_right _ (List.mem_append_right _ (List.mem_append_right _ (List.mem_append_right _ (List.mem_append_right _ (List.mem_append_right _ (List.mem_append_right _ (List.mem_append_right _ (List.mem_append_right _ (List.mem_append_right _ (List.mem_append_right _ (List.mem_append_right _ (List.mem_append_right _ (List.mem_append_right _ (List.mem_append_right _ (List.mem_append_right _ (List.mem_append_right _ (List.mem_append_right _ (List.mem_append_right _ (List.mem_append_right _ (List.mem_append_right _ (List.mem_append_right _ (List.mem_append_left _ (List.mem_of_getElem? h))))))))))))))))))))))))))))))))))))))))))
theorem mw32 (i : Nat) {w : Cond} (h : wsL_law_r32[i]? = some w) : w ∈ wsL_law := List.mem_append_left _ (List.mem_append_left _ (List.mem_append_left _ (List.mem_append_left _ (List.mem_append_left _ (List.mem_append_left _ (List.mem_append_left _ (List.mem_append_left _ (List.mem_append_left _ (List.mem_append_left _ (List.mem_append_left _ (List.mem_append_right _ (List.mem_append_right _ (List.mem_append_right _ (List.mem_append_right _ (List.mem_append_right _ (List.mem_append_right _ (List.mem_append_right _ (List.mem_append_right _ (List.mem_append_right _ (List.mem_append_right _ (List.mem_append_right _ (List.mem_append_right _ (List.mem_append_right _ (List.mem_append_right _ (List.mem_append_right _ (List.mem_append_right _ (List.mem_append_right _ (List.mem_append_right _ (List.mem_append_right _ (List.mem_append_right _ (List.mem_append_right _ (List.mem_append_right _ (List.mem_append_right _ (List.mem_append_right _ (List.mem_append_right _ (List.mem_append_right _ (List.mem_append_right _ (List.mem_append_right _ (List.mem_append_right _ (List.mem_append_right _ (List.mem_append_right _ (List.mem_append_left _ (List.mem_of_getElem? h)))))))))))))))))))))))))))))))))))))))))))
theorem mw33 (i : Nat) {w : Cond} (h : wsL_law_r33[i]? = some w) : w ∈ wsL_law := List.mem_append_left _ (List.mem_append_left _ (List.mem_append_left _ (List.mem_append_left _ (List.mem_append_left _ (List.mem_append_left _ (List.mem_append_left _ (List.mem_append_left _ (List.mem_append_left _ (List.mem_append_left _ (List.mem_append_left _ (List.mem_append_right _ (List.mem_append_right _ (List.mem_append_right _ (List.mem_append_right _ (List.mem_append_right _ (List.mem_append_right _ (List.mem_append_right _ (List.mem_append_right _ (List.mem_append_right _ (List.mem_append_right _ (List.mem_append_right _ (List.mem_append_right _ (List.mem_append_right _ (List.mem_append_right _ (List.mem_append_right _ (List.mem_append_right _ (List.mem_append_right _ (List.mem_append_right _ (List.mem_append_right _ (List.mem_append_right _ (List.mem_append_right _ (List.mem_append_right _ (List.mem_append_right _ (List.mem_append_right _ (List.mem_append_right _ (List.mem_append_right _ (List.mem_append_right _ (List.mem_append_right _ (List.mem_append_right _ (List.mem_append_right _ (List.mem_append_right _ (List.mem_append_right _ (List.mem_append_left _ (List.mem_of_getElem? h))))))))))))))))))))))))))))))))))))))))))))
theorem mw34 (i : Nat) {w : Cond} (h : wsL_law_r34[i]? = some w) : w ∈ wsL_law := List.mem_append_left _ (List.mem_append_left _ (List.mem_append_left _ (List.mem_append_left _ (List.mem_append_left _ (List.mem_append_left _ (List.mem_append_left _ (List.mem_append_left _ (List.mem_append_left _ (List.mem_append_left _ (List.mem_append_left _ (List.mem_append_right _ (List.mem_append_right _ (List.mem_append_right _ (List.mem_append_right _ (List.mem_append_right _ (List.mem_append_right _ (List.mem_append_right _ (List.mem_append_right _ (List.mem_append_right _ (List.mem_append_right _ (List.mem_append_right _ (List.mem_append_right _ (List.mem_append_right _ (List.mem_append_right _ (List.mem_append_right _ (List.mem_append_right _ (List.mem_append_right _ (List.mem_append_right _ (List.mem_append_right _ (List.mem_append_right _ (List.mem_append_right _ (List.mem_append_right _ (List.mem_append_right _ (List.mem_append_right _ (List.mem_append_right _ (List.mem_append_right _ (List.mem_append_right _ (List.mem_append_right _ (List.mem_append_right _ (List.mem_append_right _ (List.mem_append_right _ (List.mem_append_right _ (List.mem_append_right _ (List.mem_append_left _ (List.mem_of_getElem? h)))))))))))))))))))))))))))))))))))))))))))))
theorem mw35 (i : Nat) {w : Cond} (h : wsL_law_r35[i]? = some w) : w ∈ wsL_law := List.mem_append_left _ (List.mem_append_left _ (List.mem_append_left _ (List.mem_append_left _ (List.mem_append_left _ (List.mem_append_left _ (List.mem_append_left _ (List.mem_append_left _ (List.mem_append_left _ (List.mem_append_left _ (List.mem_append_left _ (List.mem_append_right _ (List.mem_append_right _ (List.mem_append_right _ (List.mem_append_right _ (List.mem_append_right _ (List.mem_append_right _ (List.mem_append_right _ (List.mem_append_right _ (List.mem_append_right _ (List.mem_append_right _ (List.mem_append_right _ (List.mem_append_right _ (List.mem_append_right _ (List.mem_append_right _ (List.mem_append_right _ (List.mem_append_right _ (List.mem_append_right _ (List.mem_append_right _ (List.mem_append_right _ (List.mem_append_right _ (List.mem_append_right _ (List.mem_append_right _ (List.mem_append_right _ (List.mem_append_right _ (List.mem_append_right _ (List.mem_append_right _ (List.mem_append_right _ (List.mem_append_right _ (List.mem_append_right _ (List.mem_append_right _ (List.mem_append_right _ (List.mem_append_right _ (List.mem_append_right _ (List.mem_append_right _ (List.mem_append_left _ (List.mem_of_getElem? h))))))))))))))))))))))))))))))))))))))))))))))
theorem mw36 (i : Nat) {w : Cond} (h : wsL_law_r36[i]? = some w) : w ∈ wsL_law := List.mem_append_left _ (List.mem_append_left _ (List.mem_append_left _ (List.mem_append_left _ (List.mem_append_left _ (List.mem_append_left _ (List.mem_append_left _ (List.mem_append_left _ (List.mem_append_left _ (List.mem_append_left _ (List.mem_append_left _ (List.mem_append_right _ (List.mem_append_right _ (List.mem_append_right _ (List.mem_append_right _ (List.mem_append_right _ (List.mem_append_right _ (List.mem_append_right _ (List.mem_append_right _ (List.mem_append_right _ (List.mem_append_right _ (List.mem_append_right _ (List.mem_append_right _ (List.mem_append_right _ (List.mem_append_right _ (List.mem_append_right _ (List.mem_append_right _ (List.mem_append_right _ (List.mem_append_right _ (List.mem_append_right _ (List.mem_append_right _ (List.mem_append_right _ (List.mem_append_right _ (List.mem_append_right _ (List.mem_append_right _ (List.mem_append_right _ (List.mem_append_right _ (List.mem_append_right _ (List.mem_append_right _ (List.mem_append_right _ (List.mem_append_right _ (List.mem_append_right _ (List.mem_append_right _ (List.mem_append_right _ (List.mem_append_right _ (List.mem_append_right _ (List.mem_append_left _ (List.mem_of_getElem? h)))))))))))))))))))))))))))))))))))))))))))))))
theorem mw37 (i : Nat) {w : Cond} (h : wsL_law_r37[i]? = some w) : w ∈ wsL_law := List.mem_append_left _ (List.mem_append_left _ (List.mem_append_left _ (List.mem_append_left _ (List.mem_append_left _ (List.mem_append_left _ (List.mem_append_left _ (List.mem_append_left _ (List.mem_append_left _ (List.mem_append_left _ (List.mem_append_left _ (List.mem_append_right _ (List.mem_append_right _ (List.mem_append_right _ (List.mem_append_right _ (List.mem_append_right _ (List.mem_append_right _ (List.mem_append_right _ (List.mem_append_right _ (List.mem_append_right _ (List.mem_append_right _ (List.mem_append_right _ (List.mem_append_right _ (List.mem_append_right _ (List.mem_append_right _ (List.mem_append_right _ (List.mem_append_right _ (List.mem_append_right _ (List.mem_append_right _ (List.mem_append_right _ (List.mem_append_right _ (List.mem_append_right _ (List.mem_append_right _ (List.mem_append_right _ (List.mem_append_right _ (List.mem_append_right _ (List.mem_append_right _ (List.mem_append_right _ (List.mem_append_right _ (List.mem_append_right _ (List.mem_append_right _ (List.mem_append_right _ (List.mem_append_right _ (List.mem_append_right _ (List.mem_append_right _ (List.mem_append_right _ (List.mem_append_right _ (List.mem_append_left _ (List.mem_of_getElem? h))))))))))))))))))))))))))))))))))))))))))))))))
theorem mw38 (i : Nat) {w : Cond} (h : wsL_law_r38[i]? = some w) : w ∈ wsL_law := List.mem_append_left _ (List.mem_append_left _ (List.mem_append_left _ (List.mem_append_left _ (List.mem_append_left _ (List.mem_append_left _ (List.mem_append_left _ (List.mem_append_left _ (List.mem_append_left _ (List.mem_append_left _ (List.mem_append_left _ (List.mem_append_right _ (List.mem_append_right _ (List.mem_append_right _ (List.mem_append_right _ (List.mem_append_right _ (List.mem_append_right _ (List.mem_append_right _ (List.mem_append_right _ (List.mem_append_right _ (List.mem_append_right _ (List.mem_append_right _ (List.mem_append_right _ (List.mem_append_right _ (List.mem_append_right _ (List.mem_append_right _ (List.mem_append_right _ (List.mem_append_right _ (List.mem_append_right _ (List.mem_append_right _ (List.mem_append_right _ (List.mem_append_right _ (List.mem_append_right _ (List.mem_append_right _ (List.mem_append_right _ (List.mem_append_right _ (List.mem_append_right _ (List.mem_append_right _ (List.mem_append_right _ (List.mem_append_right _ (List.mem_append_right _ (List.mem_append_right _ (List.mem_append_right _ (List.mem_append_right _ (List.mem_append_right _ (List.mem_append_right _ (List.mem_append_right _ (List.mem_append_right _ (List.mem_of_getElem? h))))))))))))))))))))))))))))))))))))))))))))))))
end
section
/-! THE LAYER: one memory by identities (the i-th cell made since the law's entry lies at B + i); a method's meaning is a function on it that answers an option (none: the machine would throw, or a loop's count is used up) -/
abbrev Sg : Type := Nat × (Nat → Nat → Int32) × (Nat → Nat → Option Nat) × (Nat → Nat → UInt32) × (Nat → Nat → Int64)
def sN (σ : Sg) : Nat := σ.1
def sI (σ : Sg) : Nat → Nat → Int32 := σ.2.1
def sR (σ : Sg) : Nat → Nat → Option Nat := σ.2.2.1
def sF (σ : Sg) : Nat → Nat → UInt32 := σ.2.2.2.1
def sL (σ : Sg) : Nat → Nat → Int64 := σ.2.2.2.2
def u2 {α : Type} (f : Nat → Nat → α) (a k : Nat) (v : α) : Nat → Nat → α := fun b j => if b = a ∧ j = k then v else f b j
def uI (σ : Sg) (a k : Nat) (v : Int32) : Sg := (sN σ, u2 (sI σ) a k v, sR σ, sF σ, sL σ)
def uR (σ : Sg) (a k : Nat) (v : Option Nat) : Sg := (sN σ, sI σ, u2 (sR σ) a k v, sF σ, sL σ)
def uF (σ : Sg) (a k : Nat) (v : UInt32) : Sg := (sN σ, sI σ, sR σ, u2 (sF σ) a k v, sL σ)
def uL (σ : Sg) (a k : Nat) (v : Int64) : Sg := (sN σ, sI σ, sR σ, sF σ, u2 (sL σ) a k v)
/-- what a cell is: 0 to 9 an object of vwCl, 20 float[], 21 int[], 22 boolean[], 30 + c an array of class c; 99 none -/
def kd (a : Nat) : Nat := kdL.getD a 99
def ln (a : Nat) : Nat := lnL.getD a 0
/-- a class's fields: 0 int or boolean, 1 reference, 2 long -/
def fty (c : Nat) : List Nat := ftyL.getD c []
/-- values as the walks see them: int, reference, long, float, a static array -/
abbrev Lv : Type := Int32 ⊕ Option Nat ⊕ Int64 ⊕ UInt32 ⊕ Nat
abbrev LI (x : Int32) : Lv := .inl x
abbrev LR (x : Option Nat) : Lv := .inr (.inl x)
abbrev LL (x : Int64) : Lv := .inr (.inr (.inl x))
abbrev LF (x : UInt32) : Lv := .inr (.inr (.inr (.inl x)))
abbrev LT (x : Nat) : Lv := .inr (.inr (.inr (.inr x)))
def tvl (B : Nat) (sa : Nat → Nat) : Lv → Value
  | .inl x => .int x
  | .inr (.inl x) => va_rf (x.map (fun a => B + a))
  | .inr (.inr (.inl x)) => .long x
  | .inr (.inr (.inr (.inl x))) => .float x
  | .inr (.inr (.inr (.inr k))) => .ref (sa k)
def lcat : Lv → Nat
  | .inl _ => 1
  | .inr (.inl _) => 1
  | .inr (.inr (.inl _)) => 2
  | .inr (.inr (.inr (.inl _))) => 1
  | .inr (.inr (.inr (.inr _))) => 1
theorem tvl_cat (B : Nat) (sa : Nat → Nat) (v : Lv) : (tvl B sa v).category = lcat v := by
  rcases v with x | x | x | x | x
  · rfl
  · cases x <;> rfl
  · rfl
  · rfl
  · rfl
def tv (B : Nat) (σ : Sg) (a t k : Nat) : Value := if t = 0 then .int (sI σ a k) else if t = 1 then va_rf ((sR σ a k).map (fun b => B + b)) else .long (sL σ a k)
def cel (B : Nat) (cA : Nat → ClassId) (σ : Sg) (a : Nat) : va_E :=
  if kd a < 20 then .inr (kd a, (fty (kd a)).mapIdx (fun k t => tv B σ a t k))
  else if kd a = 20 then .inl (cA 0, ln a, .inr (.inr (.inl (sF σ a))))
  else if kd a = 21 then .inl (cA 1, ln a, .inl (sI σ a))
  else if kd a = 22 then .inl (cA 2, ln a, .inl (sI σ a))
  else .inl (cA (kd a - 27), ln a, .inr (.inr (.inr (.inr (fun j => (sR σ a j).map (fun b => B + b))))))
def Hm (B : Nat) (D : va_G) (cA : Nat → ClassId) (σ : Sg) (H : Heap) : Prop := H.size = B + sN σ ∧ ∀ a, a < sN σ → va_at D vwCl (B + a, cel B cA σ a) H
/-- the array classes: 0 float, 1 int, 2 boolean, 3 + c those of class c -/
def aty : Nat → FieldType
  | 0 => .float
  | 1 => .int
  | 2 => .boolean
  | 4 => .object RX1
  | 5 => .object RX2
  | 6 => .object RX3
  | 8 => .object RX5
  | 9 => .object RX6
  | 10 => .object RX7
  | _ => .int
def aok (k : Nat) : Bool := [0, 1, 2, 4, 5, 6, 8, 9, 10].contains k
def tyF (cA : Nat → ClassId) (k : Nat) : ClassId × FieldType := (cA k, aty k)
def arK (cA : Nat → ClassId) (U : State) : Prop := ∀ k, aok k = true → ArrOfT U (cA k) (aty k) ∧ va_RA U (cA k) (aty k)
theorem arK.moved {cA : Nat → ClassId} {u U : State} (hvm : u.vm.Alike U.vm) (h : arK cA u) : arK cA U := fun k hk => ⟨arrOfT_moved hvm (h k hk).1, (h k hk).2.moved hvm⟩
theorem arK.one {D : va_G} {cA : Nat → ClassId} {U : State} (h : arK cA U) (hK : va_K D vwCl [] U) (k : Nat) (hk : aok k = true) : va_K D vwCl [(cA k, aty k)] U := by
  refine ⟨hK.1, fun j q hj => ?_⟩
  match j with
  | 0 => cases hj; exact h k hk
  | j + 1 => simp at hj
/-- the three static arrays: 0 FASTEST, 1 MOST_RULES, 2 FIRST_RULES -/
def stN : Nat → String
  | 0 => "FASTEST"
  | 1 => "MOST_RULES"
  | _ => "FIRST_RULES"
def stV : Nat → List Int32
  | 0 => [50, 60, 45, 50]
  | 1 => [5000, 20000, 180000, 180000, 180000, 180000, 3, 3, 3, 3]
  | _ => [1000, 3000, 20000, 20000, 20000, 20000, 0, 1, 2, 3]
def stv (k j : Nat) : Int32 := (stV k).getD j 0
def Sta (B : Nat) (sa : Nat → Nat) (U : State) (H : Heap) : Prop := ∀ k, k < 3 → va_Z RX8 (stN k) "[I" (.ref (sa k)) (fun q => B ≤ q) U H ∧ va_T .int (sa k) (stV k).length (fun j => .int (stv k j)) (fun q => B ≤ q) U H
/-- the links between nest mates that the tables tell -/
theorem nwarm {w : Cond} (hw : w ∈ nwL) {s U : State} (hW : s.WarmedH U.vm) (h : va_Nw w s) : va_Nw w U := by
  rcases List.mem_append.mp hw with h1 | h1
  · obtain ⟨⟨a, i, b, n, d, x⟩, -, rfl⟩ := List.mem_map.mp h1
    exact va_Nw.warmF hW h
  · obtain ⟨⟨a, i, y, x⟩, -, rfl⟩ := List.mem_map.mp h1
    exact va_Nw.warmM hW h
/-- the machine, the code, the tables, as a walk finds them: p l e R s m args below meth c, B, D, cA, sa -/
abbrev EE : Type := Program × Launch × Env × Room × State × MethodId × Array Value × List Frame × Method × Code × Nat × va_G × (Nat → ClassId) × (Nat → Nat)
def eW (E : EE) (H : Heap) (locs : List Loc) (ce sl : Nat) (Q : State → Prop) (g : JFrame) : Prop := match E with
  | (p, l, e, R, s, m, args, below, meth, c, _) => W p l e R s m args below meth c H locs ce sl Q g
def eB (E : EE) : Nat := E.2.2.2.2.2.2.2.2.2.2.1
def eD (E : EE) : va_G := E.2.2.2.2.2.2.2.2.2.2.2.1
def eC (E : EE) : Nat → ClassId := E.2.2.2.2.2.2.2.2.2.2.2.2.1
def eS (E : EE) : Nat → Nat := E.2.2.2.2.2.2.2.2.2.2.2.2.2
def Qr {α : Type} (B : Nat) (D : va_G) (cA : Nat → ClassId) (rv : α → Option Value) (r : α) (σ : Sg) : Array Value → State → Outcome → State → Prop := fun _ st o t => o = .returned (rv r) ∧ Hm B D cA σ t.heap ∧ va_F (fun q => B ≤ q) st t
def lq (B : Nat) (sa : Nat → Nat) (ls : Array Slot) (nL : Nat) (lv : List (Nat × Lv)) : Prop := lv_has ls nL (lv.map (fun q => (q.1, tvl B sa q.2)))
/-- what a walk needs of its method: bytes, own class, size of locals, what it returns -/
def Ok (E : EE) (cc : ByteArray) (own : String) (nL : Nat) (ret : Option FieldType) : Prop := match E with
  | (p, _, _, _, s, m, args, _, meth, c, B, D, cA, sa) => p.tables.exec = Jvm.exec ∧ c.code = cc ∧ c.maxLocals = nL ∧ meth.sig.returnType = ret ∧ s.vm.findClass own = some m.cls ∧ (∀ w ∈ wsL_law, w.before args s = true) ∧ va_K D vwCl [] s ∧ arK cA s ∧ (∀ w ∈ nwL, va_Nw w s) ∧ Sta B sa s s.heap ∧ meth.locks = false
def Wq {α : Type} (E : EE) (rv : α → Option Value) (nL mc ms ce sl pc : Nat) (lv : List (Nat × Lv)) (st : List Lv) (σ : Sg) (x : Option (α × Sg)) : Prop := match E with
  | (p, l, e, R, s, m, args, below, meth, c, B, D, cA, sa) => ∀ (r : α) (σ' : Sg), x = some (r, σ') → ∀ (H : Heap) (locs : List Loc) (ls : Array Slot), Hm B D cA σ H → va_S (fun q => B ≤ q) s.heap H locs → lq B sa ls nL lv → W p l e R s m args below meth c H locs ce sl (MQ below (Qr B D cA rv r σ') args s mc ms (fun q => B ≤ q)) (F0 m pc ls (st.map (tvl B sa)))
theorem lq_at {B : Nat} {sa : Nat → Nat} {ls : Array Slot} {nL : Nat} {lv : List (Nat × Lv)} (h : lq B sa ls nL lv) (k : Nat) {i : Nat} {v : Lv} (hk : lv[k]? = some (i, v)) : ls[i]? = some (.val (tvl B sa v)) := lv_at h k (by rw [List.getElem?_map, hk]; rfl)
theorem lq_sub {B : Nat} {sa : Nat → Nat} {ls : Array Slot} {nL : Nat} {lv lv' : List (Nat × Lv)} (h : lq B sa ls nL lv) (ks : List Nat) (hk : ks.filterMap (fun k => lv[k]?) = lv') : lq B sa ls nL lv' := by
  refine lv_sub h ks ?_
  subst hk
  simp only [lv_pick, List.map_filterMap, List.getElem?_map]
theorem lq_f1 (B : Nat) (sa : Nat → Nat) (i : Nat) (lv : List (Nat × Lv)) : (lv.map (fun q => (q.1, tvl B sa q.2))).filter (fun q => !(q.1 == i) && !(q.1 + 1 == i && q.2.category == 2)) = (lv.filter (fun q => !(q.1 == i) && !(q.1 + 1 == i && lcat q.2 == 2))).map (fun q => (q.1, tvl B sa q.2)) := by
  rw [List.filter_map]
  congr 1
  apply List.filter_congr
  intro q _
  simp only [Function.comp, tvl_cat]
theorem lq_f2 (B : Nat) (sa : Nat → Nat) (i : Nat) (lv : List (Nat × Lv)) : (lv.map (fun q => (q.1, tvl B sa q.2))).filter (fun q => !(q.1 == i) && (!(q.1 == i + 1) && !(q.1 + 1 == i && q.2.category == 2))) = (lv.filter (fun q => !(q.1 == i) && (!(q.1 == i + 1) && !(q.1 + 1 == i && lcat q.2 == 2)))).map (fun q => (q.1, tvl B sa q.2)) := by
  rw [List.filter_map]
  congr 1
  apply List.filter_congr
  intro q _
  simp only [Function.comp, tvl_cat]
def largs : Nat → List Lv → List (Nat × Lv)
  | _, [] => []
  | i, v :: vs => (i, v) :: largs (if lcat v = 2 then i + 2 else i + 1) vs
theorem k_iconst {α : Type} {E : EE} {cc : ByteArray} {own : String} {nL : Nat} {ret : Option FieldType} {rv : α → Option Value} {mc ms ce sl pc : Nat} {lv : List (Nat × Lv)} {st : List Lv} {σ : Sg} {x : Option (α × Sg)} {n : Int} {v : Int32} (h : Ok E cc own nL ret) (hd : decode cc pc = .ok (.iconst n, 1)) (hv : Int32.ofInt n = v) (k : Wq E rv nL mc ms ce sl (pc + 1) lv (LI v :: st) σ x) : Wq E rv nL mc ms ce sl pc lv st σ x := by
  obtain ⟨p, l, e, R, s, m, args, below, meth, c, B, D, cA, sa⟩ := E
  obtain ⟨hx, hb, hml, hr, ho, ht, hK, hA, hn, hst, hlk⟩ := h
  intro r σ' hxx H locs ls hm hS hl
  exact lv_iconst hx hb hd hv (k r σ' hxx H locs ls hm hS hl)

theorem k_bipush {α : Type} {E : EE} {cc : ByteArray} {own : String} {nL : Nat} {ret : Option FieldType} {rv : α → Option Value} {mc ms ce sl pc : Nat} {lv : List (Nat × Lv)} {st : List Lv} {σ : Sg} {x : Option (α × Sg)} {n : Int} {v : Int32} (h : Ok E cc own nL ret) (hd : decode cc pc = .ok (.bipush n, 2)) (hv : (Int8.ofInt n).toInt32 = v) (k : Wq E rv nL mc ms ce sl (pc + 2) lv (LI v :: st) σ x) : Wq E rv nL mc ms ce sl pc lv st σ x := by
  obtain ⟨p, l, e, R, s, m, args, below, meth, c, B, D, cA, sa⟩ := E
  obtain ⟨hx, hb, hml, hr, ho, ht, hK, hA, hn, hst, hlk⟩ := h
  intro r σ' hxx H locs ls hm hS hl
  exact lv_bipush hx hb hd hv (k r σ' hxx H locs ls hm hS hl)

theorem k_sipush {α : Type} {E : EE} {cc : ByteArray} {own : String} {nL : Nat} {ret : Option FieldType} {rv : α → Option Value} {mc ms ce sl pc : Nat} {lv : List (Nat × Lv)} {st : List Lv} {σ : Sg} {x : Option (α × Sg)} {n : Int} {v : Int32} (h : Ok E cc own nL ret) (hd : decode cc pc = .ok (.sipush n, 3)) (hv : (Int16.ofInt n).toInt32 = v) (k : Wq E rv nL mc ms ce sl (pc + 3) lv (LI v :: st) σ x) : Wq E rv nL mc ms ce sl pc lv st σ x := by
  obtain ⟨p, l, e, R, s, m, args, below, meth, c, B, D, cA, sa⟩ := E
  obtain ⟨hx, hb, hml, hr, ho, ht, hK, hA, hn, hst, hlk⟩ := h
  intro r σ' hxx H locs ls hm hS hl
  exact lv_sipush hx hb hd hv (k r σ' hxx H locs ls hm hS hl)

theorem k_lconst {α : Type} {E : EE} {cc : ByteArray} {own : String} {nL : Nat} {ret : Option FieldType} {rv : α → Option Value} {mc ms ce sl pc : Nat} {lv : List (Nat × Lv)} {st : List Lv} {σ : Sg} {x : Option (α × Sg)} {n : Fin 2} {v : Int64} (h : Ok E cc own nL ret) (hd : decode cc pc = .ok (.lconst n, 1)) (hv : Int64.ofNat (n : Nat) = v) (k : Wq E rv nL mc ms ce sl (pc + 1) lv (LL v :: st) σ x) : Wq E rv nL mc ms ce sl pc lv st σ x := by
  obtain ⟨p, l, e, R, s, m, args, below, meth, c, B, D, cA, sa⟩ := E
  obtain ⟨hx, hb, hml, hr, ho, ht, hK, hA, hn, hst, hlk⟩ := h
  intro r σ' hxx H locs ls hm hS hl
  exact lv_lconst hx hb hd hv (k r σ' hxx H locs ls hm hS hl)

theorem k_fconst0 {α : Type} {E : EE} {cc : ByteArray} {own : String} {nL : Nat} {ret : Option FieldType} {rv : α → Option Value} {mc ms ce sl pc : Nat} {lv : List (Nat × Lv)} {st : List Lv} {σ : Sg} {x : Option (α × Sg)} (h : Ok E cc own nL ret) (hd : decode cc pc = .ok (.fconst 0, 1)) (k : Wq E rv nL mc ms ce sl (pc + 1) lv (LF 0 :: st) σ x) : Wq E rv nL mc ms ce sl pc lv st σ x := by
  obtain ⟨p, l, e, R, s, m, args, below, meth, c, B, D, cA, sa⟩ := E
  obtain ⟨hx, hb, hml, hr, ho, ht, hK, hA, hn, hst, hlk⟩ := h
  intro r σ' hxx H locs ls hm hS hl
  exact lv_fconst0 hx hb hd (k r σ' hxx H locs ls hm hS hl)

theorem k_fconst1 {α : Type} {E : EE} {cc : ByteArray} {own : String} {nL : Nat} {ret : Option FieldType} {rv : α → Option Value} {mc ms ce sl pc : Nat} {lv : List (Nat × Lv)} {st : List Lv} {σ : Sg} {x : Option (α × Sg)} (h : Ok E cc own nL ret) (hd : decode cc pc = .ok (.fconst 1, 1)) (k : Wq E rv nL mc ms ce sl (pc + 1) lv (LF 0x3f800000 :: st) σ x) : Wq E rv nL mc ms ce sl pc lv st σ x := by
  obtain ⟨p, l, e, R, s, m, args, below, meth, c, B, D, cA, sa⟩ := E
  obtain ⟨hx, hb, hml, hr, ho, ht, hK, hA, hn, hst, hlk⟩ := h
  intro r σ' hxx H locs ls hm hS hl
  exact lv_fconst1 hx hb hd (k r σ' hxx H locs ls hm hS hl)

theorem k_fconst2 {α : Type} {E : EE} {cc : ByteArray} {own : String} {nL : Nat} {ret : Option FieldType} {rv : α → Option Value} {mc ms ce sl pc : Nat} {lv : List (Nat × Lv)} {st : List Lv} {σ : Sg} {x : Option (α × Sg)} (h : Ok E cc own nL ret) (hd : decode cc pc = .ok (.fconst 2, 1)) (k : Wq E rv nL mc ms ce sl (pc + 1) lv (LF 0x40000000 :: st) σ x) : Wq E rv nL mc ms ce sl pc lv st σ x := by
  obtain ⟨p, l, e, R, s, m, args, below, meth, c, B, D, cA, sa⟩ := E
  obtain ⟨hx, hb, hml, hr, ho, ht, hK, hA, hn, hst, hlk⟩ := h
  intro r σ' hxx H locs ls hm hS hl
  exact lv_fconst2 hx hb hd (k r σ' hxx H locs ls hm hS hl)

theorem k_null {α : Type} {E : EE} {cc : ByteArray} {own : String} {nL : Nat} {ret : Option FieldType} {rv : α → Option Value} {mc ms ce sl pc : Nat} {lv : List (Nat × Lv)} {st : List Lv} {σ : Sg} {x : Option (α × Sg)} (h : Ok E cc own nL ret) (hd : decode cc pc = .ok (.aconst_null, 1)) (k : Wq E rv nL mc ms ce sl (pc + 1) lv (LR none :: st) σ x) : Wq E rv nL mc ms ce sl pc lv st σ x := by
  obtain ⟨p, l, e, R, s, m, args, below, meth, c, B, D, cA, sa⟩ := E
  obtain ⟨hx, hb, hml, hr, ho, ht, hK, hA, hn, hst, hlk⟩ := h
  intro r σ' hxx H locs ls hm hS hl
  exact lv_null hx hb hd (k r σ' hxx H locs ls hm hS hl)

theorem k_ldc {α : Type} {E : EE} {cc : ByteArray} {own : String} {nL : Nat} {ret : Option FieldType} {rv : α → Option Value} {mc ms ce sl pc : Nat} {lv : List (Nat × Lv)} {st : List Lv} {σ : Sg} {x : Option (α × Sg)} {n : Nat} {v : Int32} (h : Ok E cc own nL ret) (hd : decode cc pc = .ok (.ldc n, 2)) (hw : Cond.constant own n v ∈ wsL_law) (k : Wq E rv nL mc ms ce sl (pc + 2) lv (LI v :: st) σ x) : Wq E rv nL mc ms ce sl pc lv st σ x := by
  obtain ⟨p, l, e, R, s, m, args, below, meth, c, B, D, cA, sa⟩ := E
  obtain ⟨hx, hb, hml, hr, ho, ht, hK, hA, hn, hst, hlk⟩ := h
  intro r σ' hxx H locs ls hm hS hl
  exact lv_ldc hx hb ho (ht _ hw) hd (k r σ' hxx H locs ls hm hS hl)

theorem k_ldc_w {α : Type} {E : EE} {cc : ByteArray} {own : String} {nL : Nat} {ret : Option FieldType} {rv : α → Option Value} {mc ms ce sl pc : Nat} {lv : List (Nat × Lv)} {st : List Lv} {σ : Sg} {x : Option (α × Sg)} {n : Nat} {v : Int32} (h : Ok E cc own nL ret) (hd : decode cc pc = .ok (.ldc_w n, 3)) (hw : Cond.constant own n v ∈ wsL_law) (k : Wq E rv nL mc ms ce sl (pc + 3) lv (LI v :: st) σ x) : Wq E rv nL mc ms ce sl pc lv st σ x := by
  obtain ⟨p, l, e, R, s, m, args, below, meth, c, B, D, cA, sa⟩ := E
  obtain ⟨hx, hb, hml, hr, ho, ht, hK, hA, hn, hst, hlk⟩ := h
  intro r σ' hxx H locs ls hm hS hl
  exact lv_ldcw hx hb ho (ht _ hw) hd (k r σ' hxx H locs ls hm hS hl)

theorem k_ldc2_w {α : Type} {E : EE} {cc : ByteArray} {own : String} {nL : Nat} {ret : Option FieldType} {rv : α → Option Value} {mc ms ce sl pc : Nat} {lv : List (Nat × Lv)} {st : List Lv} {σ : Sg} {x : Option (α × Sg)} {n : Nat} {v : Int64} (h : Ok E cc own nL ret) (hd : decode cc pc = .ok (.ldc2_w n, 3)) (hw : Cond.constantLong own n v ∈ wsL_law) (k : Wq E rv nL mc ms ce sl (pc + 3) lv (LL v :: st) σ x) : Wq E rv nL mc ms ce sl pc lv st σ x := by
  obtain ⟨p, l, e, R, s, m, args, below, meth, c, B, D, cA, sa⟩ := E
  obtain ⟨hx, hb, hml, hr, ho, ht, hK, hA, hn, hst, hlk⟩ := h
  intro r σ' hxx H locs ls hm hS hl
  exact lv_ldc2 hx hb ho (ht _ hw) hd (k r σ' hxx H locs ls hm hS hl)

theorem k_ldcf {α : Type} {E : EE} {cc : ByteArray} {own : String} {nL : Nat} {ret : Option FieldType} {rv : α → Option Value} {mc ms ce sl pc : Nat} {lv : List (Nat × Lv)} {st : List Lv} {σ : Sg} {x : Option (α × Sg)} {n : Nat} {v : UInt32} (h : Ok E cc own nL ret) (hd : decode cc pc = .ok (.ldc n, 2)) (hw : Cond.constantFloat own n v ∈ wsL_law) (k : Wq E rv nL mc ms ce sl (pc + 2) lv (LF v :: st) σ x) : Wq E rv nL mc ms ce sl pc lv st σ x := by
  obtain ⟨p, l, e, R, s, m, args, below, meth, c, B, D, cA, sa⟩ := E
  obtain ⟨hx, hb, hml, hr, ho, ht, hK, hA, hn, hst, hlk⟩ := h
  intro r σ' hxx H locs ls hm hS hl
  exact lv_ldcf hx hb ho (ht _ hw) hd (k r σ' hxx H locs ls hm hS hl)

theorem k_iload_n {α : Type} {E : EE} {cc : ByteArray} {own : String} {nL : Nat} {ret : Option FieldType} {rv : α → Option Value} {mc ms ce sl pc : Nat} {lv : List (Nat × Lv)} {st : List Lv} {σ : Sg} {x : Option (α × Sg)} {j : Fin 4} {i : Nat} {v : Int32} (h : Ok E cc own nL ret) (q : Nat) (hd : decode cc pc = .ok (.iload_n j, 1)) (hj : (j : Nat) = i) (hq : lv[q]? = some (i, LI v)) (k : Wq E rv nL mc ms ce sl (pc + 1) lv (LI v :: st) σ x) : Wq E rv nL mc ms ce sl pc lv st σ x := by
  obtain ⟨p, l, e, R, s, m, args, below, meth, c, B, D, cA, sa⟩ := E
  obtain ⟨hx, hb, hml, hr, ho, ht, hK, hA, hn, hst, hlk⟩ := h
  intro r σ' hxx H locs ls hm hS hl
  exact lv_iload_n hx hb hd hj (lq_at hl q hq) (k r σ' hxx H locs ls hm hS hl)

theorem k_iload {α : Type} {E : EE} {cc : ByteArray} {own : String} {nL : Nat} {ret : Option FieldType} {rv : α → Option Value} {mc ms ce sl pc : Nat} {lv : List (Nat × Lv)} {st : List Lv} {σ : Sg} {x : Option (α × Sg)} {i : Nat} {v : Int32} (h : Ok E cc own nL ret) (q : Nat) (hd : decode cc pc = .ok (.iload i, 2)) (hq : lv[q]? = some (i, LI v)) (k : Wq E rv nL mc ms ce sl (pc + 2) lv (LI v :: st) σ x) : Wq E rv nL mc ms ce sl pc lv st σ x := by
  obtain ⟨p, l, e, R, s, m, args, below, meth, c, B, D, cA, sa⟩ := E
  obtain ⟨hx, hb, hml, hr, ho, ht, hK, hA, hn, hst, hlk⟩ := h
  intro r σ' hxx H locs ls hm hS hl
  exact lv_iload hx hb hd (lq_at hl q hq) (k r σ' hxx H locs ls hm hS hl)

theorem k_lload_n {α : Type} {E : EE} {cc : ByteArray} {own : String} {nL : Nat} {ret : Option FieldType} {rv : α → Option Value} {mc ms ce sl pc : Nat} {lv : List (Nat × Lv)} {st : List Lv} {σ : Sg} {x : Option (α × Sg)} {j : Fin 4} {i : Nat} {v : Int64} (h : Ok E cc own nL ret) (q : Nat) (hd : decode cc pc = .ok (.lload_n j, 1)) (hj : (j : Nat) = i) (hq : lv[q]? = some (i, LL v)) (k : Wq E rv nL mc ms ce sl (pc + 1) lv (LL v :: st) σ x) : Wq E rv nL mc ms ce sl pc lv st σ x := by
  obtain ⟨p, l, e, R, s, m, args, below, meth, c, B, D, cA, sa⟩ := E
  obtain ⟨hx, hb, hml, hr, ho, ht, hK, hA, hn, hst, hlk⟩ := h
  intro r σ' hxx H locs ls hm hS hl
  exact lv_lload_n hx hb hd hj (lq_at hl q hq) (k r σ' hxx H locs ls hm hS hl)

theorem k_lload {α : Type} {E : EE} {cc : ByteArray} {own : String} {nL : Nat} {ret : Option FieldType} {rv : α → Option Value} {mc ms ce sl pc : Nat} {lv : List (Nat × Lv)} {st : List Lv} {σ : Sg} {x : Option (α × Sg)} {i : Nat} {v : Int64} (h : Ok E cc own nL ret) (q : Nat) (hd : decode cc pc = .ok (.lload i, 2)) (hq : lv[q]? = some (i, LL v)) (k : Wq E rv nL mc ms ce sl (pc + 2) lv (LL v :: st) σ x) : Wq E rv nL mc ms ce sl pc lv st σ x := by
  obtain ⟨p, l, e, R, s, m, args, below, meth, c, B, D, cA, sa⟩ := E
  obtain ⟨hx, hb, hml, hr, ho, ht, hK, hA, hn, hst, hlk⟩ := h
  intro r σ' hxx H locs ls hm hS hl
  exact lv_lload hx hb hd (lq_at hl q hq) (k r σ' hxx H locs ls hm hS hl)

theorem k_fload_n {α : Type} {E : EE} {cc : ByteArray} {own : String} {nL : Nat} {ret : Option FieldType} {rv : α → Option Value} {mc ms ce sl pc : Nat} {lv : List (Nat × Lv)} {st : List Lv} {σ : Sg} {x : Option (α × Sg)} {j : Fin 4} {i : Nat} {v : UInt32} (h : Ok E cc own nL ret) (q : Nat) (hd : decode cc pc = .ok (.fload_n j, 1)) (hj : (j : Nat) = i) (hq : lv[q]? = some (i, LF v)) (k : Wq E rv nL mc ms ce sl (pc + 1) lv (LF v :: st) σ x) : Wq E rv nL mc ms ce sl pc lv st σ x := by
  obtain ⟨p, l, e, R, s, m, args, below, meth, c, B, D, cA, sa⟩ := E
  obtain ⟨hx, hb, hml, hr, ho, ht, hK, hA, hn, hst, hlk⟩ := h
  intro r σ' hxx H locs ls hm hS hl
  exact lv_fload_n hx hb hd hj (lq_at hl q hq) (k r σ' hxx H locs ls hm hS hl)

theorem k_fload {α : Type} {E : EE} {cc : ByteArray} {own : String} {nL : Nat} {ret : Option FieldType} {rv : α → Option Value} {mc ms ce sl pc : Nat} {lv : List (Nat × Lv)} {st : List Lv} {σ : Sg} {x : Option (α × Sg)} {i : Nat} {v : UInt32} (h : Ok E cc own nL ret) (q : Nat) (hd : decode cc pc = .ok (.fload i, 2)) (hq : lv[q]? = some (i, LF v)) (k : Wq E rv nL mc ms ce sl (pc + 2) lv (LF v :: st) σ x) : Wq E rv nL mc ms ce sl pc lv st σ x := by
  obtain ⟨p, l, e, R, s, m, args, below, meth, c, B, D, cA, sa⟩ := E
  obtain ⟨hx, hb, hml, hr, ho, ht, hK, hA, hn, hst, hlk⟩ := h
  intro r σ' hxx H locs ls hm hS hl
  exact lv_fload hx hb hd (lq_at hl q hq) (k r σ' hxx H locs ls hm hS hl)

theorem k_aload_n {α : Type} {E : EE} {cc : ByteArray} {own : String} {nL : Nat} {ret : Option FieldType} {rv : α → Option Value} {mc ms ce sl pc : Nat} {lv : List (Nat × Lv)} {st : List Lv} {σ : Sg} {x : Option (α × Sg)} {j : Fin 4} {i : Nat} {v : Option Nat} (h : Ok E cc own nL ret) (q : Nat) (hd : decode cc pc = .ok (.aload_n j, 1)) (hj : (j : Nat) = i) (hq : lv[q]? = some (i, LR v)) (k : Wq E rv nL mc ms ce sl (pc + 1) lv (LR v :: st) σ x) : Wq E rv nL mc ms ce sl pc lv st σ x := by
  obtain ⟨p, l, e, R, s, m, args, below, meth, c, B, D, cA, sa⟩ := E
  obtain ⟨hx, hb, hml, hr, ho, ht, hK, hA, hn, hst, hlk⟩ := h
  intro r σ' hxx H locs ls hm hS hl
  have h9 := lq_at hl q hq
  have k9 := k r σ' hxx H locs ls hm hS hl
  cases v with
  | none => exact lv_aload_nN hx hb hd hj h9 k9
  | some a => exact lv_aload_n hx hb hd hj h9 k9

theorem k_aload {α : Type} {E : EE} {cc : ByteArray} {own : String} {nL : Nat} {ret : Option FieldType} {rv : α → Option Value} {mc ms ce sl pc : Nat} {lv : List (Nat × Lv)} {st : List Lv} {σ : Sg} {x : Option (α × Sg)} {i : Nat} {v : Option Nat} (h : Ok E cc own nL ret) (q : Nat) (hd : decode cc pc = .ok (.aload i, 2)) (hq : lv[q]? = some (i, LR v)) (k : Wq E rv nL mc ms ce sl (pc + 2) lv (LR v :: st) σ x) : Wq E rv nL mc ms ce sl pc lv st σ x := by
  obtain ⟨p, l, e, R, s, m, args, below, meth, c, B, D, cA, sa⟩ := E
  obtain ⟨hx, hb, hml, hr, ho, ht, hK, hA, hn, hst, hlk⟩ := h
  intro r σ' hxx H locs ls hm hS hl
  have h9 := lq_at hl q hq
  have k9 := k r σ' hxx H locs ls hm hS hl
  cases v with
  | none => exact lv_aloadN hx hb hd h9 k9
  | some a => exact lv_aload hx hb hd h9 k9

theorem k_istore_n {α : Type} {E : EE} {cc : ByteArray} {own : String} {nL : Nat} {ret : Option FieldType} {rv : α → Option Value} {mc ms ce sl pc : Nat} {lv : List (Nat × Lv)} {st : List Lv} {σ : Sg} {x : Option (α × Sg)} {j : Fin 4} {i : Nat} {v : Int32} {lv' : List (Nat × Lv)} (h : Ok E cc own nL ret) (hd : decode cc pc = .ok (.istore_n j, 1)) (hj : (j : Nat) = i) (hnl : i < nL) (hf : (i, LI v) :: lv.filter (fun q => !(q.1 == i) && !(q.1 + 1 == i && lcat q.2 == 2)) = lv') (k : Wq E rv nL mc ms ce sl (pc + 1) lv' st σ x) : Wq E rv nL mc ms ce sl pc lv (LI v :: st) σ x := by
  obtain ⟨p, l, e, R, s, m, args, below, meth, c, B, D, cA, sa⟩ := E
  obtain ⟨hx, hb, hml, hr, ho, ht, hK, hA, hn, hst, hlk⟩ := h
  intro r σ' hxx H locs ls hm hS hl
  exact lv_istore_n (lv' := lv'.map (fun q : Nat × Lv => (q.1, tvl B sa q.2))) hx hb hd hj hl hnl (by rw [lq_f1, ← hf]; rfl) (fun ls' hl' => k r σ' hxx H locs ls' hm hS hl')

theorem k_istore {α : Type} {E : EE} {cc : ByteArray} {own : String} {nL : Nat} {ret : Option FieldType} {rv : α → Option Value} {mc ms ce sl pc : Nat} {lv : List (Nat × Lv)} {st : List Lv} {σ : Sg} {x : Option (α × Sg)} {i : Nat} {v : Int32} {lv' : List (Nat × Lv)} (h : Ok E cc own nL ret) (hd : decode cc pc = .ok (.istore i, 2)) (hnl : i < nL) (hf : (i, LI v) :: lv.filter (fun q => !(q.1 == i) && !(q.1 + 1 == i && lcat q.2 == 2)) = lv') (k : Wq E rv nL mc ms ce sl (pc + 2) lv' st σ x) : Wq E rv nL mc ms ce sl pc lv (LI v :: st) σ x := by
  obtain ⟨p, l, e, R, s, m, args, below, meth, c, B, D, cA, sa⟩ := E
  obtain ⟨hx, hb, hml, hr, ho, ht, hK, hA, hn, hst, hlk⟩ := h
  intro r σ' hxx H locs ls hm hS hl
  exact lv_istore (lv' := lv'.map (fun q : Nat × Lv => (q.1, tvl B sa q.2))) hx hb hd hl hnl (by rw [lq_f1, ← hf]; rfl) (fun ls' hl' => k r σ' hxx H locs ls' hm hS hl')

theorem k_lstore_n {α : Type} {E : EE} {cc : ByteArray} {own : String} {nL : Nat} {ret : Option FieldType} {rv : α → Option Value} {mc ms ce sl pc : Nat} {lv : List (Nat × Lv)} {st : List Lv} {σ : Sg} {x : Option (α × Sg)} {j : Fin 4} {i : Nat} {v : Int64} {lv' : List (Nat × Lv)} (h : Ok E cc own nL ret) (hd : decode cc pc = .ok (.lstore_n j, 1)) (hj : (j : Nat) = i) (hnl : i + 1 < nL) (hf : (i, LL v) :: lv.filter (fun q => !(q.1 == i) && (!(q.1 == i + 1) && !(q.1 + 1 == i && lcat q.2 == 2))) = lv') (k : Wq E rv nL mc ms ce sl (pc + 1) lv' st σ x) : Wq E rv nL mc ms ce sl pc lv (LL v :: st) σ x := by
  obtain ⟨p, l, e, R, s, m, args, below, meth, c, B, D, cA, sa⟩ := E
  obtain ⟨hx, hb, hml, hr, ho, ht, hK, hA, hn, hst, hlk⟩ := h
  intro r σ' hxx H locs ls hm hS hl
  exact lv_lstore_n (lv' := lv'.map (fun q : Nat × Lv => (q.1, tvl B sa q.2))) hx hb hd hj hl hnl (by rw [lq_f2, ← hf]; rfl) (fun ls' hl' => k r σ' hxx H locs ls' hm hS hl')

theorem k_lstore {α : Type} {E : EE} {cc : ByteArray} {own : String} {nL : Nat} {ret : Option FieldType} {rv : α → Option Value} {mc ms ce sl pc : Nat} {lv : List (Nat × Lv)} {st : List Lv} {σ : Sg} {x : Option (α × Sg)} {i : Nat} {v : Int64} {lv' : List (Nat × Lv)} (h : Ok E cc own nL ret) (hd : decode cc pc = .ok (.lstore i, 2)) (hnl : i + 1 < nL) (hf : (i, LL v) :: lv.filter (fun q => !(q.1 == i) && (!(q.1 == i + 1) && !(q.1 + 1 == i && lcat q.2 == 2))) = lv') (k : Wq E rv nL mc ms ce sl (pc + 2) lv' st σ x) : Wq E rv nL mc ms ce sl pc lv (LL v :: st) σ x := by
  obtain ⟨p, l, e, R, s, m, args, below, meth, c, B, D, cA, sa⟩ := E
  obtain ⟨hx, hb, hml, hr, ho, ht, hK, hA, hn, hst, hlk⟩ := h
  intro r σ' hxx H locs ls hm hS hl
  exact lv_lstore (lv' := lv'.map (fun q : Nat × Lv => (q.1, tvl B sa q.2))) hx hb hd hl hnl (by rw [lq_f2, ← hf]; rfl) (fun ls' hl' => k r σ' hxx H locs ls' hm hS hl')

theorem k_astore_n {α : Type} {E : EE} {cc : ByteArray} {own : String} {nL : Nat} {ret : Option FieldType} {rv : α → Option Value} {mc ms ce sl pc : Nat} {lv : List (Nat × Lv)} {st : List Lv} {σ : Sg} {x : Option (α × Sg)} {j : Fin 4} {i : Nat} {v : Option Nat} {lv' : List (Nat × Lv)} (h : Ok E cc own nL ret) (hd : decode cc pc = .ok (.astore_n j, 1)) (hj : (j : Nat) = i) (hnl : i < nL) (hf : (i, LR v) :: lv.filter (fun q => !(q.1 == i) && !(q.1 + 1 == i && lcat q.2 == 2)) = lv') (k : Wq E rv nL mc ms ce sl (pc + 1) lv' st σ x) : Wq E rv nL mc ms ce sl pc lv (LR v :: st) σ x := by
  obtain ⟨p, l, e, R, s, m, args, below, meth, c, B, D, cA, sa⟩ := E
  obtain ⟨hx, hb, hml, hr, ho, ht, hK, hA, hn, hst, hlk⟩ := h
  intro r σ' hxx H locs ls hm hS hl
  have k9 := fun ls' hl' => k r σ' hxx H locs ls' hm hS hl'
  cases v with
  | none => exact lv_astore_nN (lv' := lv'.map (fun q : Nat × Lv => (q.1, tvl B sa q.2))) hx hb hd hj hl hnl (by rw [lq_f1, ← hf]; rfl) k9
  | some a => exact lv_astore_n (lv' := lv'.map (fun q : Nat × Lv => (q.1, tvl B sa q.2))) hx hb hd hj hl hnl (by rw [lq_f1, ← hf]; rfl) k9

theorem k_astore {α : Type} {E : EE} {cc : ByteArray} {own : String} {nL : Nat} {ret : Option FieldType} {rv : α → Option Value} {mc ms ce sl pc : Nat} {lv : List (Nat × Lv)} {st : List Lv} {σ : Sg} {x : Option (α × Sg)} {i : Nat} {v : Option Nat} {lv' : List (Nat × Lv)} (h : Ok E cc own nL ret) (hd : decode cc pc = .ok (.astore i, 2)) (hnl : i < nL) (hf : (i, LR v) :: lv.filter (fun q => !(q.1 == i) && !(q.1 + 1 == i && lcat q.2 == 2)) = lv') (k : Wq E rv nL mc ms ce sl (pc + 2) lv' st σ x) : Wq E rv nL mc ms ce sl pc lv (LR v :: st) σ x := by
  obtain ⟨p, l, e, R, s, m, args, below, meth, c, B, D, cA, sa⟩ := E
  obtain ⟨hx, hb, hml, hr, ho, ht, hK, hA, hn, hst, hlk⟩ := h
  intro r σ' hxx H locs ls hm hS hl
  have k9 := fun ls' hl' => k r σ' hxx H locs ls' hm hS hl'
  cases v with
  | none => exact lv_astoreN (lv' := lv'.map (fun q : Nat × Lv => (q.1, tvl B sa q.2))) hx hb hd hl hnl (by rw [lq_f1, ← hf]; rfl) k9
  | some a => exact lv_astore (lv' := lv'.map (fun q : Nat × Lv => (q.1, tvl B sa q.2))) hx hb hd hl hnl (by rw [lq_f1, ← hf]; rfl) k9

theorem k_iinc {α : Type} {E : EE} {cc : ByteArray} {own : String} {nL : Nat} {ret : Option FieldType} {rv : α → Option Value} {mc ms ce sl pc : Nat} {lv : List (Nat × Lv)} {st : List Lv} {σ : Sg} {x : Option (α × Sg)} {i : Nat} {n : Int} {v w : Int32} {lv' : List (Nat × Lv)} (h : Ok E cc own nL ret) (q : Nat) (hd : decode cc pc = .ok (.iinc i n, 3)) (hq : lv[q]? = some (i, LI v)) (hv : v + Int32.ofInt n = w) (hnl : i < nL) (hf : (i, LI w) :: lv.filter (fun q => !(q.1 == i) && !(q.1 + 1 == i && lcat q.2 == 2)) = lv') (k : Wq E rv nL mc ms ce sl (pc + 3) lv' st σ x) : Wq E rv nL mc ms ce sl pc lv st σ x := by
  obtain ⟨p, l, e, R, s, m, args, below, meth, c, B, D, cA, sa⟩ := E
  obtain ⟨hx, hb, hml, hr, ho, ht, hK, hA, hn, hst, hlk⟩ := h
  intro r σ' hxx H locs ls hm hS hl
  exact lv_iinc (k := q) (lv' := lv'.map (fun q : Nat × Lv => (q.1, tvl B sa q.2))) hx hb hd hl (by rw [List.getElem?_map, hq]; rfl) hv hnl (by rw [lq_f1, ← hf]; rfl) (fun ls' hl' => k r σ' hxx H locs ls' hm hS hl')

theorem k_iadd {α : Type} {E : EE} {cc : ByteArray} {own : String} {nL : Nat} {ret : Option FieldType} {rv : α → Option Value} {mc ms ce sl pc : Nat} {lv : List (Nat × Lv)} {st : List Lv} {σ : Sg} {x : Option (α × Sg)} {a b : Int32} (h : Ok E cc own nL ret) (hd : decode cc pc = .ok (.iadd, 1)) (k : Wq E rv nL mc ms ce sl (pc + 1) lv (LI (a + b) :: st) σ x) : Wq E rv nL mc ms ce sl pc lv (LI b :: LI a :: st) σ x := by
  obtain ⟨p, l, e, R, s, m, args, below, meth, c, B, D, cA, sa⟩ := E
  obtain ⟨hx, hb, hml, hr, ho, ht, hK, hA, hn, hst, hlk⟩ := h
  intro r σ' hxx H locs ls hm hS hl
  exact lv_iadd hx hb hd (k r σ' hxx H locs ls hm hS hl)

theorem k_isub {α : Type} {E : EE} {cc : ByteArray} {own : String} {nL : Nat} {ret : Option FieldType} {rv : α → Option Value} {mc ms ce sl pc : Nat} {lv : List (Nat × Lv)} {st : List Lv} {σ : Sg} {x : Option (α × Sg)} {a b : Int32} (h : Ok E cc own nL ret) (hd : decode cc pc = .ok (.isub, 1)) (k : Wq E rv nL mc ms ce sl (pc + 1) lv (LI (a - b) :: st) σ x) : Wq E rv nL mc ms ce sl pc lv (LI b :: LI a :: st) σ x := by
  obtain ⟨p, l, e, R, s, m, args, below, meth, c, B, D, cA, sa⟩ := E
  obtain ⟨hx, hb, hml, hr, ho, ht, hK, hA, hn, hst, hlk⟩ := h
  intro r σ' hxx H locs ls hm hS hl
  exact lv_isub hx hb hd (k r σ' hxx H locs ls hm hS hl)

theorem k_imul {α : Type} {E : EE} {cc : ByteArray} {own : String} {nL : Nat} {ret : Option FieldType} {rv : α → Option Value} {mc ms ce sl pc : Nat} {lv : List (Nat × Lv)} {st : List Lv} {σ : Sg} {x : Option (α × Sg)} {a b : Int32} (h : Ok E cc own nL ret) (hd : decode cc pc = .ok (.imul, 1)) (k : Wq E rv nL mc ms ce sl (pc + 1) lv (LI (a * b) :: st) σ x) : Wq E rv nL mc ms ce sl pc lv (LI b :: LI a :: st) σ x := by
  obtain ⟨p, l, e, R, s, m, args, below, meth, c, B, D, cA, sa⟩ := E
  obtain ⟨hx, hb, hml, hr, ho, ht, hK, hA, hn, hst, hlk⟩ := h
  intro r σ' hxx H locs ls hm hS hl
  exact lv_imul hx hb hd (k r σ' hxx H locs ls hm hS hl)

theorem k_iand {α : Type} {E : EE} {cc : ByteArray} {own : String} {nL : Nat} {ret : Option FieldType} {rv : α → Option Value} {mc ms ce sl pc : Nat} {lv : List (Nat × Lv)} {st : List Lv} {σ : Sg} {x : Option (α × Sg)} {a b : Int32} (h : Ok E cc own nL ret) (hd : decode cc pc = .ok (.iand, 1)) (k : Wq E rv nL mc ms ce sl (pc + 1) lv (LI (a &&& b) :: st) σ x) : Wq E rv nL mc ms ce sl pc lv (LI b :: LI a :: st) σ x := by
  obtain ⟨p, l, e, R, s, m, args, below, meth, c, B, D, cA, sa⟩ := E
  obtain ⟨hx, hb, hml, hr, ho, ht, hK, hA, hn, hst, hlk⟩ := h
  intro r σ' hxx H locs ls hm hS hl
  exact lv_iand hx hb hd (k r σ' hxx H locs ls hm hS hl)

theorem k_ishl {α : Type} {E : EE} {cc : ByteArray} {own : String} {nL : Nat} {ret : Option FieldType} {rv : α → Option Value} {mc ms ce sl pc : Nat} {lv : List (Nat × Lv)} {st : List Lv} {σ : Sg} {x : Option (α × Sg)} {a b : Int32} (h : Ok E cc own nL ret) (hd : decode cc pc = .ok (.ishl, 1)) (k : Wq E rv nL mc ms ce sl (pc + 1) lv (LI (a <<< (b &&& 31)) :: st) σ x) : Wq E rv nL mc ms ce sl pc lv (LI b :: LI a :: st) σ x := by
  obtain ⟨p, l, e, R, s, m, args, below, meth, c, B, D, cA, sa⟩ := E
  obtain ⟨hx, hb, hml, hr, ho, ht, hK, hA, hn, hst, hlk⟩ := h
  intro r σ' hxx H locs ls hm hS hl
  exact lv_ishl hx hb hd (k r σ' hxx H locs ls hm hS hl)

theorem k_ishr {α : Type} {E : EE} {cc : ByteArray} {own : String} {nL : Nat} {ret : Option FieldType} {rv : α → Option Value} {mc ms ce sl pc : Nat} {lv : List (Nat × Lv)} {st : List Lv} {σ : Sg} {x : Option (α × Sg)} {a b : Int32} (h : Ok E cc own nL ret) (hd : decode cc pc = .ok (.ishr, 1)) (k : Wq E rv nL mc ms ce sl (pc + 1) lv (LI (a >>> (b &&& 31)) :: st) σ x) : Wq E rv nL mc ms ce sl pc lv (LI b :: LI a :: st) σ x := by
  obtain ⟨p, l, e, R, s, m, args, below, meth, c, B, D, cA, sa⟩ := E
  obtain ⟨hx, hb, hml, hr, ho, ht, hK, hA, hn, hst, hlk⟩ := h
  intro r σ' hxx H locs ls hm hS hl
  exact lv_ishr hx hb hd (k r σ' hxx H locs ls hm hS hl)

theorem k_ladd {α : Type} {E : EE} {cc : ByteArray} {own : String} {nL : Nat} {ret : Option FieldType} {rv : α → Option Value} {mc ms ce sl pc : Nat} {lv : List (Nat × Lv)} {st : List Lv} {σ : Sg} {x : Option (α × Sg)} {a b : Int64} (h : Ok E cc own nL ret) (hd : decode cc pc = .ok (.ladd, 1)) (k : Wq E rv nL mc ms ce sl (pc + 1) lv (LL (a + b) :: st) σ x) : Wq E rv nL mc ms ce sl pc lv (LL b :: LL a :: st) σ x := by
  obtain ⟨p, l, e, R, s, m, args, below, meth, c, B, D, cA, sa⟩ := E
  obtain ⟨hx, hb, hml, hr, ho, ht, hK, hA, hn, hst, hlk⟩ := h
  intro r σ' hxx H locs ls hm hS hl
  exact lv_ladd hx hb hd (k r σ' hxx H locs ls hm hS hl)

theorem k_lsub {α : Type} {E : EE} {cc : ByteArray} {own : String} {nL : Nat} {ret : Option FieldType} {rv : α → Option Value} {mc ms ce sl pc : Nat} {lv : List (Nat × Lv)} {st : List Lv} {σ : Sg} {x : Option (α × Sg)} {a b : Int64} (h : Ok E cc own nL ret) (hd : decode cc pc = .ok (.lsub, 1)) (k : Wq E rv nL mc ms ce sl (pc + 1) lv (LL (a - b) :: st) σ x) : Wq E rv nL mc ms ce sl pc lv (LL b :: LL a :: st) σ x := by
  obtain ⟨p, l, e, R, s, m, args, below, meth, c, B, D, cA, sa⟩ := E
  obtain ⟨hx, hb, hml, hr, ho, ht, hK, hA, hn, hst, hlk⟩ := h
  intro r σ' hxx H locs ls hm hS hl
  exact lv_lsub hx hb hd (k r σ' hxx H locs ls hm hS hl)

theorem k_lmul {α : Type} {E : EE} {cc : ByteArray} {own : String} {nL : Nat} {ret : Option FieldType} {rv : α → Option Value} {mc ms ce sl pc : Nat} {lv : List (Nat × Lv)} {st : List Lv} {σ : Sg} {x : Option (α × Sg)} {a b : Int64} (h : Ok E cc own nL ret) (hd : decode cc pc = .ok (.lmul, 1)) (k : Wq E rv nL mc ms ce sl (pc + 1) lv (LL (a * b) :: st) σ x) : Wq E rv nL mc ms ce sl pc lv (LL b :: LL a :: st) σ x := by
  obtain ⟨p, l, e, R, s, m, args, below, meth, c, B, D, cA, sa⟩ := E
  obtain ⟨hx, hb, hml, hr, ho, ht, hK, hA, hn, hst, hlk⟩ := h
  intro r σ' hxx H locs ls hm hS hl
  exact lv_lmul hx hb hd (k r σ' hxx H locs ls hm hS hl)

theorem k_lshr {α : Type} {E : EE} {cc : ByteArray} {own : String} {nL : Nat} {ret : Option FieldType} {rv : α → Option Value} {mc ms ce sl pc : Nat} {lv : List (Nat × Lv)} {st : List Lv} {σ : Sg} {x : Option (α × Sg)} {a : Int64} {b : Int32} (h : Ok E cc own nL ret) (hd : decode cc pc = .ok (.lshr, 1)) (k : Wq E rv nL mc ms ce sl (pc + 1) lv (LL (a >>> (b.toInt64 &&& 63)) :: st) σ x) : Wq E rv nL mc ms ce sl pc lv (LI b :: LL a :: st) σ x := by
  obtain ⟨p, l, e, R, s, m, args, below, meth, c, B, D, cA, sa⟩ := E
  obtain ⟨hx, hb, hml, hr, ho, ht, hK, hA, hn, hst, hlk⟩ := h
  intro r σ' hxx H locs ls hm hS hl
  exact lv_lshr hx hb hd rfl (k r σ' hxx H locs ls hm hS hl)

theorem k_ineg {α : Type} {E : EE} {cc : ByteArray} {own : String} {nL : Nat} {ret : Option FieldType} {rv : α → Option Value} {mc ms ce sl pc : Nat} {lv : List (Nat × Lv)} {st : List Lv} {σ : Sg} {x : Option (α × Sg)} {a : Int32} (h : Ok E cc own nL ret) (hd : decode cc pc = .ok (.ineg, 1)) (k : Wq E rv nL mc ms ce sl (pc + 1) lv (LI (-a) :: st) σ x) : Wq E rv nL mc ms ce sl pc lv (LI a :: st) σ x := by
  obtain ⟨p, l, e, R, s, m, args, below, meth, c, B, D, cA, sa⟩ := E
  obtain ⟨hx, hb, hml, hr, ho, ht, hK, hA, hn, hst, hlk⟩ := h
  intro r σ' hxx H locs ls hm hS hl
  exact lv_ineg hx hb hd (k r σ' hxx H locs ls hm hS hl)

theorem k_lneg {α : Type} {E : EE} {cc : ByteArray} {own : String} {nL : Nat} {ret : Option FieldType} {rv : α → Option Value} {mc ms ce sl pc : Nat} {lv : List (Nat × Lv)} {st : List Lv} {σ : Sg} {x : Option (α × Sg)} {a : Int64} (h : Ok E cc own nL ret) (hd : decode cc pc = .ok (.lneg, 1)) (k : Wq E rv nL mc ms ce sl (pc + 1) lv (LL (-a) :: st) σ x) : Wq E rv nL mc ms ce sl pc lv (LL a :: st) σ x := by
  obtain ⟨p, l, e, R, s, m, args, below, meth, c, B, D, cA, sa⟩ := E
  obtain ⟨hx, hb, hml, hr, ho, ht, hK, hA, hn, hst, hlk⟩ := h
  intro r σ' hxx H locs ls hm hS hl
  exact lv_lneg hx hb hd (k r σ' hxx H locs ls hm hS hl)

theorem k_i2l {α : Type} {E : EE} {cc : ByteArray} {own : String} {nL : Nat} {ret : Option FieldType} {rv : α → Option Value} {mc ms ce sl pc : Nat} {lv : List (Nat × Lv)} {st : List Lv} {σ : Sg} {x : Option (α × Sg)} {a : Int32} (h : Ok E cc own nL ret) (hd : decode cc pc = .ok (.i2l, 1)) (k : Wq E rv nL mc ms ce sl (pc + 1) lv (LL a.toInt64 :: st) σ x) : Wq E rv nL mc ms ce sl pc lv (LI a :: st) σ x := by
  obtain ⟨p, l, e, R, s, m, args, below, meth, c, B, D, cA, sa⟩ := E
  obtain ⟨hx, hb, hml, hr, ho, ht, hK, hA, hn, hst, hlk⟩ := h
  intro r σ' hxx H locs ls hm hS hl
  exact lv_i2l hx hb hd rfl (k r σ' hxx H locs ls hm hS hl)

theorem k_l2i {α : Type} {E : EE} {cc : ByteArray} {own : String} {nL : Nat} {ret : Option FieldType} {rv : α → Option Value} {mc ms ce sl pc : Nat} {lv : List (Nat × Lv)} {st : List Lv} {σ : Sg} {x : Option (α × Sg)} {a : Int64} (h : Ok E cc own nL ret) (hd : decode cc pc = .ok (.l2i, 1)) (k : Wq E rv nL mc ms ce sl (pc + 1) lv (LI a.toInt32 :: st) σ x) : Wq E rv nL mc ms ce sl pc lv (LL a :: st) σ x := by
  obtain ⟨p, l, e, R, s, m, args, below, meth, c, B, D, cA, sa⟩ := E
  obtain ⟨hx, hb, hml, hr, ho, ht, hK, hA, hn, hst, hlk⟩ := h
  intro r σ' hxx H locs ls hm hS hl
  exact lv_l2i hx hb hd rfl (k r σ' hxx H locs ls hm hS hl)

theorem k_i2f {α : Type} {E : EE} {cc : ByteArray} {own : String} {nL : Nat} {ret : Option FieldType} {rv : α → Option Value} {mc ms ce sl pc : Nat} {lv : List (Nat × Lv)} {st : List Lv} {σ : Sg} {x : Option (α × Sg)} {a : Int32} (h : Ok E cc own nL ret) (hd : decode cc pc = .ok (.i2f, 1)) (k : Wq E rv nL mc ms ce sl (pc + 1) lv (LF (FP.i2f a) :: st) σ x) : Wq E rv nL mc ms ce sl pc lv (LI a :: st) σ x := by
  obtain ⟨p, l, e, R, s, m, args, below, meth, c, B, D, cA, sa⟩ := E
  obtain ⟨hx, hb, hml, hr, ho, ht, hK, hA, hn, hst, hlk⟩ := h
  intro r σ' hxx H locs ls hm hS hl
  exact lv_i2f hx hb hd (k r σ' hxx H locs ls hm hS hl)

theorem k_f2i {α : Type} {E : EE} {cc : ByteArray} {own : String} {nL : Nat} {ret : Option FieldType} {rv : α → Option Value} {mc ms ce sl pc : Nat} {lv : List (Nat × Lv)} {st : List Lv} {σ : Sg} {x : Option (α × Sg)} {a : UInt32} (h : Ok E cc own nL ret) (hd : decode cc pc = .ok (.f2i, 1)) (k : Wq E rv nL mc ms ce sl (pc + 1) lv (LI (FP.f2i a) :: st) σ x) : Wq E rv nL mc ms ce sl pc lv (LF a :: st) σ x := by
  obtain ⟨p, l, e, R, s, m, args, below, meth, c, B, D, cA, sa⟩ := E
  obtain ⟨hx, hb, hml, hr, ho, ht, hK, hA, hn, hst, hlk⟩ := h
  intro r σ' hxx H locs ls hm hS hl
  exact lv_f2i hx hb hd (k r σ' hxx H locs ls hm hS hl)

theorem k_lcmp {α : Type} {E : EE} {cc : ByteArray} {own : String} {nL : Nat} {ret : Option FieldType} {rv : α → Option Value} {mc ms ce sl pc : Nat} {lv : List (Nat × Lv)} {st : List Lv} {σ : Sg} {x : Option (α × Sg)} {a b : Int64} (h : Ok E cc own nL ret) (hd : decode cc pc = .ok (.lcmp, 1)) (k : Wq E rv nL mc ms ce sl (pc + 1) lv (LI (lg_cmp a b) :: st) σ x) : Wq E rv nL mc ms ce sl pc lv (LL b :: LL a :: st) σ x := by
  obtain ⟨p, l, e, R, s, m, args, below, meth, c, B, D, cA, sa⟩ := E
  obtain ⟨hx, hb, hml, hr, ho, ht, hK, hA, hn, hst, hlk⟩ := h
  intro r σ' hxx H locs ls hm hS hl
  exact W.lcmp hx hb hd (k r σ' hxx H locs ls hm hS hl)

def ckZ {β : Type} (b : Int32) (x : Option β) : Option β := if b = 0 then none else x
def ckN {β : Type} (v : UInt32) (f : UInt32 → Option β) : Option β := if v &&& 0x7fffffff ≤ 0x7f800000 then f v else none
theorem k_idiv {α : Type} {E : EE} {cc : ByteArray} {own : String} {nL : Nat} {ret : Option FieldType} {rv : α → Option Value} {mc ms ce sl pc : Nat} {lv : List (Nat × Lv)} {st : List Lv} {σ : Sg} {x : Option (α × Sg)} {a b : Int32} (h : Ok E cc own nL ret) (hd : decode cc pc = .ok (.idiv, 1)) (k : Wq E rv nL mc ms ce sl (pc + 1) lv (LI (a / b) :: st) σ x) : Wq E rv nL mc ms ce sl pc lv (LI b :: LI a :: st) σ (ckZ b x) := by
  obtain ⟨p, l, e, R, s, m, args, below, meth, c, B, D, cA, sa⟩ := E
  obtain ⟨hx, hb, hml, hr, ho, ht, hK, hA, hn, hst, hlk⟩ := h
  intro r σ' hxx H locs ls hm hS hl
  unfold ckZ at hxx
  by_cases hz : b = 0
  · rw [if_pos hz] at hxx; cases hxx
  · rw [if_neg hz] at hxx
    exact lv_idiv hx hb hd hz (k r σ' hxx H locs ls hm hS hl)

theorem k_irem {α : Type} {E : EE} {cc : ByteArray} {own : String} {nL : Nat} {ret : Option FieldType} {rv : α → Option Value} {mc ms ce sl pc : Nat} {lv : List (Nat × Lv)} {st : List Lv} {σ : Sg} {x : Option (α × Sg)} {a b : Int32} (h : Ok E cc own nL ret) (hd : decode cc pc = .ok (.irem, 1)) (k : Wq E rv nL mc ms ce sl (pc + 1) lv (LI (a - a / b * b) :: st) σ x) : Wq E rv nL mc ms ce sl pc lv (LI b :: LI a :: st) σ (ckZ b x) := by
  obtain ⟨p, l, e, R, s, m, args, below, meth, c, B, D, cA, sa⟩ := E
  obtain ⟨hx, hb, hml, hr, ho, ht, hK, hA, hn, hst, hlk⟩ := h
  intro r σ' hxx H locs ls hm hS hl
  unfold ckZ at hxx
  by_cases hz : b = 0
  · rw [if_pos hz] at hxx; cases hxx
  · rw [if_neg hz] at hxx
    exact lv_irem hx hb hd hz (k r σ' hxx H locs ls hm hS hl)

theorem k_fadd {α : Type} {E : EE} {cc : ByteArray} {own : String} {nL : Nat} {ret : Option FieldType} {rv : α → Option Value} {mc ms ce sl pc : Nat} {lv : List (Nat × Lv)} {st : List Lv} {σ : Sg} {a b : UInt32} {f : UInt32 → Option (α × Sg)} (h : Ok E cc own nL ret) (hd : decode cc pc = .ok (.fadd, 1)) (k : ∀ v, Wq E rv nL mc ms ce sl (pc + 1) lv (LF v :: st) σ (f v)) : Wq E rv nL mc ms ce sl pc lv (LF b :: LF a :: st) σ (ckN (FP.fadd a b) f) := by
  obtain ⟨p, l, e, R, s, m, args, below, meth, c, B, D, cA, sa⟩ := E
  obtain ⟨hx, hb, hml, hr, ho, ht, hK, hA, hn, hst, hlk⟩ := h
  intro r σ' hxx H locs ls hm hS hl
  unfold ckN at hxx
  by_cases hz : FP.fadd a b &&& 0x7fffffff ≤ 0x7f800000
  · rw [if_pos hz] at hxx
    exact lv_fadd hx hb hd hz (k _ r σ' hxx H locs ls hm hS hl)
  · rw [if_neg hz] at hxx; cases hxx

theorem k_fmul {α : Type} {E : EE} {cc : ByteArray} {own : String} {nL : Nat} {ret : Option FieldType} {rv : α → Option Value} {mc ms ce sl pc : Nat} {lv : List (Nat × Lv)} {st : List Lv} {σ : Sg} {a b : UInt32} {f : UInt32 → Option (α × Sg)} (h : Ok E cc own nL ret) (hd : decode cc pc = .ok (.fmul, 1)) (k : ∀ v, Wq E rv nL mc ms ce sl (pc + 1) lv (LF v :: st) σ (f v)) : Wq E rv nL mc ms ce sl pc lv (LF b :: LF a :: st) σ (ckN (FP.fmul a b) f) := by
  obtain ⟨p, l, e, R, s, m, args, below, meth, c, B, D, cA, sa⟩ := E
  obtain ⟨hx, hb, hml, hr, ho, ht, hK, hA, hn, hst, hlk⟩ := h
  intro r σ' hxx H locs ls hm hS hl
  unfold ckN at hxx
  by_cases hz : FP.fmul a b &&& 0x7fffffff ≤ 0x7f800000
  · rw [if_pos hz] at hxx
    exact lv_fmul hx hb hd hz (k _ r σ' hxx H locs ls hm hS hl)
  · rw [if_neg hz] at hxx; cases hxx

theorem k_fdiv {α : Type} {E : EE} {cc : ByteArray} {own : String} {nL : Nat} {ret : Option FieldType} {rv : α → Option Value} {mc ms ce sl pc : Nat} {lv : List (Nat × Lv)} {st : List Lv} {σ : Sg} {a b : UInt32} {f : UInt32 → Option (α × Sg)} (h : Ok E cc own nL ret) (hd : decode cc pc = .ok (.fdiv, 1)) (k : ∀ v, Wq E rv nL mc ms ce sl (pc + 1) lv (LF v :: st) σ (f v)) : Wq E rv nL mc ms ce sl pc lv (LF b :: LF a :: st) σ (ckN (FP.fdiv a b) f) := by
  obtain ⟨p, l, e, R, s, m, args, below, meth, c, B, D, cA, sa⟩ := E
  obtain ⟨hx, hb, hml, hr, ho, ht, hK, hA, hn, hst, hlk⟩ := h
  intro r σ' hxx H locs ls hm hS hl
  unfold ckN at hxx
  by_cases hz : FP.fdiv a b &&& 0x7fffffff ≤ 0x7f800000
  · rw [if_pos hz] at hxx
    exact lv_fdiv hx hb hd hz (k _ r σ' hxx H locs ls hm hS hl)
  · rw [if_neg hz] at hxx; cases hxx

theorem k_dup {α : Type} {E : EE} {cc : ByteArray} {own : String} {nL : Nat} {ret : Option FieldType} {rv : α → Option Value} {mc ms ce sl pc : Nat} {lv : List (Nat × Lv)} {st : List Lv} {σ : Sg} {x : Option (α × Sg)} {v : Lv} (h : Ok E cc own nL ret) (hd : decode cc pc = .ok (.dup, 1)) (hc : lcat v = 1) (k : Wq E rv nL mc ms ce sl (pc + 1) lv (v :: v :: st) σ x) : Wq E rv nL mc ms ce sl pc lv (v :: st) σ x := by
  obtain ⟨p, l, e, R, s, m, args, below, meth, c, B, D, cA, sa⟩ := E
  obtain ⟨hx, hb, hml, hr, ho, ht, hK, hA, hn, hst, hlk⟩ := h
  intro r σ' hxx H locs ls hm hS hl
  exact lv_dup hx hb hd (by rw [tvl_cat]; exact hc) (k r σ' hxx H locs ls hm hS hl)

theorem k_dup2 {α : Type} {E : EE} {cc : ByteArray} {own : String} {nL : Nat} {ret : Option FieldType} {rv : α → Option Value} {mc ms ce sl pc : Nat} {lv : List (Nat × Lv)} {st : List Lv} {σ : Sg} {x : Option (α × Sg)} {v w : Lv} (h : Ok E cc own nL ret) (hd : decode cc pc = .ok (.dup2, 1)) (hc : lcat v = 1) (hc2 : lcat w = 1) (k : Wq E rv nL mc ms ce sl (pc + 1) lv (v :: w :: v :: w :: st) σ x) : Wq E rv nL mc ms ce sl pc lv (v :: w :: st) σ x := by
  obtain ⟨p, l, e, R, s, m, args, below, meth, c, B, D, cA, sa⟩ := E
  obtain ⟨hx, hb, hml, hr, ho, ht, hK, hA, hn, hst, hlk⟩ := h
  intro r σ' hxx H locs ls hm hS hl
  exact lv_dup2_11 hx hb hd (by rw [tvl_cat]; exact hc) (by rw [tvl_cat]; exact hc2) (k r σ' hxx H locs ls hm hS hl)

theorem k_if_eq {α : Type} {E : EE} {cc : ByteArray} {own : String} {nL : Nat} {ret : Option FieldType} {rv : α → Option Value} {mc ms ce sl pc : Nat} {lv : List (Nat × Lv)} {st : List Lv} {σ : Sg} {x y : Option (α × Sg)} {a : Int32} {off : Int} {tgt : Nat} (h : Ok E cc own nL ret) (hd : decode cc pc = .ok (.ifCond .eq off, 3)) (hz : (pc : Int) + off = (tgt : Int)) (k1 : Wq E rv nL mc ms ce sl tgt lv st σ y) (k2 : Wq E rv nL mc ms ce sl (pc + 3) lv st σ x) : Wq E rv nL mc ms ce sl pc lv (LI a :: st) σ (if a = 0 then y else x) := by
  obtain ⟨p, l, e, R, s, m, args, below, meth, c, B, D, cA, sa⟩ := E
  obtain ⟨hx, hb, hml, hr, ho, ht, hK, hA, hn, hst, hlk⟩ := h
  intro r σ' hxx H locs ls hm hS hl
  refine lv_if_eq hx hb hd hz (fun hc => ?_) (fun hc => ?_)
  · rw [if_pos hc] at hxx
    exact k1 r σ' hxx H locs ls hm hS hl
  · rw [if_neg hc] at hxx
    exact k2 r σ' hxx H locs ls hm hS hl

theorem k_icmp_eq {α : Type} {E : EE} {cc : ByteArray} {own : String} {nL : Nat} {ret : Option FieldType} {rv : α → Option Value} {mc ms ce sl pc : Nat} {lv : List (Nat × Lv)} {st : List Lv} {σ : Sg} {x y : Option (α × Sg)} {a b : Int32} {off : Int} {tgt : Nat} (h : Ok E cc own nL ret) (hd : decode cc pc = .ok (.if_icmp .eq off, 3)) (hz : (pc : Int) + off = (tgt : Int)) (k1 : Wq E rv nL mc ms ce sl tgt lv st σ y) (k2 : Wq E rv nL mc ms ce sl (pc + 3) lv st σ x) : Wq E rv nL mc ms ce sl pc lv (LI b :: LI a :: st) σ (if a = b then y else x) := by
  obtain ⟨p, l, e, R, s, m, args, below, meth, c, B, D, cA, sa⟩ := E
  obtain ⟨hx, hb, hml, hr, ho, ht, hK, hA, hn, hst, hlk⟩ := h
  intro r σ' hxx H locs ls hm hS hl
  refine lv_icmp_eq hx hb hd hz (fun hc => ?_) (fun hc => ?_)
  · rw [if_pos hc] at hxx
    exact k1 r σ' hxx H locs ls hm hS hl
  · rw [if_neg hc] at hxx
    exact k2 r σ' hxx H locs ls hm hS hl

theorem k_if_ne {α : Type} {E : EE} {cc : ByteArray} {own : String} {nL : Nat} {ret : Option FieldType} {rv : α → Option Value} {mc ms ce sl pc : Nat} {lv : List (Nat × Lv)} {st : List Lv} {σ : Sg} {x y : Option (α × Sg)} {a : Int32} {off : Int} {tgt : Nat} (h : Ok E cc own nL ret) (hd : decode cc pc = .ok (.ifCond .ne off, 3)) (hz : (pc : Int) + off = (tgt : Int)) (k1 : Wq E rv nL mc ms ce sl tgt lv st σ y) (k2 : Wq E rv nL mc ms ce sl (pc + 3) lv st σ x) : Wq E rv nL mc ms ce sl pc lv (LI a :: st) σ (if ¬ a = 0 then y else x) := by
  obtain ⟨p, l, e, R, s, m, args, below, meth, c, B, D, cA, sa⟩ := E
  obtain ⟨hx, hb, hml, hr, ho, ht, hK, hA, hn, hst, hlk⟩ := h
  intro r σ' hxx H locs ls hm hS hl
  refine lv_if_ne hx hb hd hz (fun hc => ?_) (fun hc => ?_)
  · rw [if_pos hc] at hxx
    exact k1 r σ' hxx H locs ls hm hS hl
  · rw [if_neg (fun z => z hc)] at hxx
    exact k2 r σ' hxx H locs ls hm hS hl

theorem k_icmp_ne {α : Type} {E : EE} {cc : ByteArray} {own : String} {nL : Nat} {ret : Option FieldType} {rv : α → Option Value} {mc ms ce sl pc : Nat} {lv : List (Nat × Lv)} {st : List Lv} {σ : Sg} {x y : Option (α × Sg)} {a b : Int32} {off : Int} {tgt : Nat} (h : Ok E cc own nL ret) (hd : decode cc pc = .ok (.if_icmp .ne off, 3)) (hz : (pc : Int) + off = (tgt : Int)) (k1 : Wq E rv nL mc ms ce sl tgt lv st σ y) (k2 : Wq E rv nL mc ms ce sl (pc + 3) lv st σ x) : Wq E rv nL mc ms ce sl pc lv (LI b :: LI a :: st) σ (if ¬ a = b then y else x) := by
  obtain ⟨p, l, e, R, s, m, args, below, meth, c, B, D, cA, sa⟩ := E
  obtain ⟨hx, hb, hml, hr, ho, ht, hK, hA, hn, hst, hlk⟩ := h
  intro r σ' hxx H locs ls hm hS hl
  refine lv_icmp_ne hx hb hd hz (fun hc => ?_) (fun hc => ?_)
  · rw [if_pos hc] at hxx
    exact k1 r σ' hxx H locs ls hm hS hl
  · rw [if_neg (fun z => z hc)] at hxx
    exact k2 r σ' hxx H locs ls hm hS hl

theorem k_if_lt {α : Type} {E : EE} {cc : ByteArray} {own : String} {nL : Nat} {ret : Option FieldType} {rv : α → Option Value} {mc ms ce sl pc : Nat} {lv : List (Nat × Lv)} {st : List Lv} {σ : Sg} {x y : Option (α × Sg)} {a : Int32} {off : Int} {tgt : Nat} (h : Ok E cc own nL ret) (hd : decode cc pc = .ok (.ifCond .lt off, 3)) (hz : (pc : Int) + off = (tgt : Int)) (k1 : Wq E rv nL mc ms ce sl tgt lv st σ y) (k2 : Wq E rv nL mc ms ce sl (pc + 3) lv st σ x) : Wq E rv nL mc ms ce sl pc lv (LI a :: st) σ (if a < 0 then y else x) := by
  obtain ⟨p, l, e, R, s, m, args, below, meth, c, B, D, cA, sa⟩ := E
  obtain ⟨hx, hb, hml, hr, ho, ht, hK, hA, hn, hst, hlk⟩ := h
  intro r σ' hxx H locs ls hm hS hl
  refine lv_if_lt hx hb hd hz (fun hc => ?_) (fun hc => ?_)
  · rw [if_pos hc] at hxx
    exact k1 r σ' hxx H locs ls hm hS hl
  · rw [if_neg hc] at hxx
    exact k2 r σ' hxx H locs ls hm hS hl

theorem k_icmp_lt {α : Type} {E : EE} {cc : ByteArray} {own : String} {nL : Nat} {ret : Option FieldType} {rv : α → Option Value} {mc ms ce sl pc : Nat} {lv : List (Nat × Lv)} {st : List Lv} {σ : Sg} {x y : Option (α × Sg)} {a b : Int32} {off : Int} {tgt : Nat} (h : Ok E cc own nL ret) (hd : decode cc pc = .ok (.if_icmp .lt off, 3)) (hz : (pc : Int) + off = (tgt : Int)) (k1 : Wq E rv nL mc ms ce sl tgt lv st σ y) (k2 : Wq E rv nL mc ms ce sl (pc + 3) lv st σ x) : Wq E rv nL mc ms ce sl pc lv (LI b :: LI a :: st) σ (if a < b then y else x) := by
  obtain ⟨p, l, e, R, s, m, args, below, meth, c, B, D, cA, sa⟩ := E
  obtain ⟨hx, hb, hml, hr, ho, ht, hK, hA, hn, hst, hlk⟩ := h
  intro r σ' hxx H locs ls hm hS hl
  refine lv_icmp_lt hx hb hd hz (fun hc => ?_) (fun hc => ?_)
  · rw [if_pos hc] at hxx
    exact k1 r σ' hxx H locs ls hm hS hl
  · rw [if_neg hc] at hxx
    exact k2 r σ' hxx H locs ls hm hS hl

theorem k_if_ge {α : Type} {E : EE} {cc : ByteArray} {own : String} {nL : Nat} {ret : Option FieldType} {rv : α → Option Value} {mc ms ce sl pc : Nat} {lv : List (Nat × Lv)} {st : List Lv} {σ : Sg} {x y : Option (α × Sg)} {a : Int32} {off : Int} {tgt : Nat} (h : Ok E cc own nL ret) (hd : decode cc pc = .ok (.ifCond .ge off, 3)) (hz : (pc : Int) + off = (tgt : Int)) (k1 : Wq E rv nL mc ms ce sl tgt lv st σ y) (k2 : Wq E rv nL mc ms ce sl (pc + 3) lv st σ x) : Wq E rv nL mc ms ce sl pc lv (LI a :: st) σ (if 0 ≤ a then y else x) := by
  obtain ⟨p, l, e, R, s, m, args, below, meth, c, B, D, cA, sa⟩ := E
  obtain ⟨hx, hb, hml, hr, ho, ht, hK, hA, hn, hst, hlk⟩ := h
  intro r σ' hxx H locs ls hm hS hl
  refine lv_if_ge hx hb hd hz (fun hc => ?_) (fun hc => ?_)
  · rw [if_pos hc] at hxx
    exact k1 r σ' hxx H locs ls hm hS hl
  · rw [if_neg hc] at hxx
    exact k2 r σ' hxx H locs ls hm hS hl

theorem k_icmp_ge {α : Type} {E : EE} {cc : ByteArray} {own : String} {nL : Nat} {ret : Option FieldType} {rv : α → Option Value} {mc ms ce sl pc : Nat} {lv : List (Nat × Lv)} {st : List Lv} {σ : Sg} {x y : Option (α × Sg)} {a b : Int32} {off : Int} {tgt : Nat} (h : Ok E cc own nL ret) (hd : decode cc pc = .ok (.if_icmp .ge off, 3)) (hz : (pc : Int) + off = (tgt : Int)) (k1 : Wq E rv nL mc ms ce sl tgt lv st σ y) (k2 : Wq E rv nL mc ms ce sl (pc + 3) lv st σ x) : Wq E rv nL mc ms ce sl pc lv (LI b :: LI a :: st) σ (if b ≤ a then y else x) := by
  obtain ⟨p, l, e, R, s, m, args, below, meth, c, B, D, cA, sa⟩ := E
  obtain ⟨hx, hb, hml, hr, ho, ht, hK, hA, hn, hst, hlk⟩ := h
  intro r σ' hxx H locs ls hm hS hl
  refine lv_icmp_ge hx hb hd hz (fun hc => ?_) (fun hc => ?_)
  · rw [if_pos hc] at hxx
    exact k1 r σ' hxx H locs ls hm hS hl
  · rw [if_neg hc] at hxx
    exact k2 r σ' hxx H locs ls hm hS hl

theorem k_if_gt {α : Type} {E : EE} {cc : ByteArray} {own : String} {nL : Nat} {ret : Option FieldType} {rv : α → Option Value} {mc ms ce sl pc : Nat} {lv : List (Nat × Lv)} {st : List Lv} {σ : Sg} {x y : Option (α × Sg)} {a : Int32} {off : Int} {tgt : Nat} (h : Ok E cc own nL ret) (hd : decode cc pc = .ok (.ifCond .gt off, 3)) (hz : (pc : Int) + off = (tgt : Int)) (k1 : Wq E rv nL mc ms ce sl tgt lv st σ y) (k2 : Wq E rv nL mc ms ce sl (pc + 3) lv st σ x) : Wq E rv nL mc ms ce sl pc lv (LI a :: st) σ (if 0 < a then y else x) := by
  obtain ⟨p, l, e, R, s, m, args, below, meth, c, B, D, cA, sa⟩ := E
  obtain ⟨hx, hb, hml, hr, ho, ht, hK, hA, hn, hst, hlk⟩ := h
  intro r σ' hxx H locs ls hm hS hl
  refine lv_if_gt hx hb hd hz (fun hc => ?_) (fun hc => ?_)
  · rw [if_pos hc] at hxx
    exact k1 r σ' hxx H locs ls hm hS hl
  · rw [if_neg hc] at hxx
    exact k2 r σ' hxx H locs ls hm hS hl

theorem k_icmp_gt {α : Type} {E : EE} {cc : ByteArray} {own : String} {nL : Nat} {ret : Option FieldType} {rv : α → Option Value} {mc ms ce sl pc : Nat} {lv : List (Nat × Lv)} {st : List Lv} {σ : Sg} {x y : Option (α × Sg)} {a b : Int32} {off : Int} {tgt : Nat} (h : Ok E cc own nL ret) (hd : decode cc pc = .ok (.if_icmp .gt off, 3)) (hz : (pc : Int) + off = (tgt : Int)) (k1 : Wq E rv nL mc ms ce sl tgt lv st σ y) (k2 : Wq E rv nL mc ms ce sl (pc + 3) lv st σ x) : Wq E rv nL mc ms ce sl pc lv (LI b :: LI a :: st) σ (if b < a then y else x) := by
  obtain ⟨p, l, e, R, s, m, args, below, meth, c, B, D, cA, sa⟩ := E
  obtain ⟨hx, hb, hml, hr, ho, ht, hK, hA, hn, hst, hlk⟩ := h
  intro r σ' hxx H locs ls hm hS hl
  refine lv_icmp_gt hx hb hd hz (fun hc => ?_) (fun hc => ?_)
  · rw [if_pos hc] at hxx
    exact k1 r σ' hxx H locs ls hm hS hl
  · rw [if_neg hc] at hxx
    exact k2 r σ' hxx H locs ls hm hS hl

theorem k_if_le {α : Type} {E : EE} {cc : ByteArray} {own : String} {nL : Nat} {ret : Option FieldType} {rv : α → Option Value} {mc ms ce sl pc : Nat} {lv : List (Nat × Lv)} {st : List Lv} {σ : Sg} {x y : Option (α × Sg)} {a : Int32} {off : Int} {tgt : Nat} (h : Ok E cc own nL ret) (hd : decode cc pc = .ok (.ifCond .le off, 3)) (hz : (pc : Int) + off = (tgt : Int)) (k1 : Wq E rv nL mc ms ce sl tgt lv st σ y) (k2 : Wq E rv nL mc ms ce sl (pc + 3) lv st σ x) : Wq E rv nL mc ms ce sl pc lv (LI a :: st) σ (if a ≤ 0 then y else x) := by
  obtain ⟨p, l, e, R, s, m, args, below, meth, c, B, D, cA, sa⟩ := E
  obtain ⟨hx, hb, hml, hr, ho, ht, hK, hA, hn, hst, hlk⟩ := h
  intro r σ' hxx H locs ls hm hS hl
  refine lv_if_le hx hb hd hz (fun hc => ?_) (fun hc => ?_)
  · rw [if_pos hc] at hxx
    exact k1 r σ' hxx H locs ls hm hS hl
  · rw [if_neg hc] at hxx
    exact k2 r σ' hxx H locs ls hm hS hl

theorem k_icmp_le {α : Type} {E : EE} {cc : ByteArray} {own : String} {nL : Nat} {ret : Option FieldType} {rv : α → Option Value} {mc ms ce sl pc : Nat} {lv : List (Nat × Lv)} {st : List Lv} {σ : Sg} {x y : Option (α × Sg)} {a b : Int32} {off : Int} {tgt : Nat} (h : Ok E cc own nL ret) (hd : decode cc pc = .ok (.if_icmp .le off, 3)) (hz : (pc : Int) + off = (tgt : Int)) (k1 : Wq E rv nL mc ms ce sl tgt lv st σ y) (k2 : Wq E rv nL mc ms ce sl (pc + 3) lv st σ x) : Wq E rv nL mc ms ce sl pc lv (LI b :: LI a :: st) σ (if a ≤ b then y else x) := by
  obtain ⟨p, l, e, R, s, m, args, below, meth, c, B, D, cA, sa⟩ := E
  obtain ⟨hx, hb, hml, hr, ho, ht, hK, hA, hn, hst, hlk⟩ := h
  intro r σ' hxx H locs ls hm hS hl
  refine lv_icmp_le hx hb hd hz (fun hc => ?_) (fun hc => ?_)
  · rw [if_pos hc] at hxx
    exact k1 r σ' hxx H locs ls hm hS hl
  · rw [if_neg hc] at hxx
    exact k2 r σ' hxx H locs ls hm hS hl

theorem k_acmp_ne {α : Type} {E : EE} {cc : ByteArray} {own : String} {nL : Nat} {ret : Option FieldType} {rv : α → Option Value} {mc ms ce sl pc : Nat} {lv : List (Nat × Lv)} {st : List Lv} {σ : Sg} {x y : Option (α × Sg)} {a b : Option Nat} {off : Int} {tgt : Nat} (h : Ok E cc own nL ret) (hd : decode cc pc = .ok (.if_acmp .ne off, 3)) (hz : (pc : Int) + off = (tgt : Int)) (k1 : Wq E rv nL mc ms ce sl tgt lv st σ y) (k2 : Wq E rv nL mc ms ce sl (pc + 3) lv st σ x) : Wq E rv nL mc ms ce sl pc lv (LR b :: LR a :: st) σ (if ¬ a = b then y else x) := by
  obtain ⟨p, l, e, R, s, m, args, below, meth, c, B, D, cA, sa⟩ := E
  obtain ⟨hx, hb, hml, hr, ho, ht, hK, hA, hn, hst, hlk⟩ := h
  intro r σ' hxx H locs ls hm hS hl
  refine lv_acmp_ne hx hb hd hz (fun hc => ?_) (fun hc => ?_)
  · rw [if_pos (by intro z; subst z; exact hc rfl)] at hxx
    exact k1 r σ' hxx H locs ls hm hS hl
  · rw [if_neg (by intro z; apply z; cases a <;> cases b <;> simp_all <;> omega)] at hxx
    exact k2 r σ' hxx H locs ls hm hS hl

theorem k_ifnull {α : Type} {E : EE} {cc : ByteArray} {own : String} {nL : Nat} {ret : Option FieldType} {rv : α → Option Value} {mc ms ce sl pc : Nat} {lv : List (Nat × Lv)} {st : List Lv} {σ : Sg} {x y : Option (α × Sg)} {a : Option Nat} {off : Int} {tgt : Nat} (h : Ok E cc own nL ret) (hd : decode cc pc = .ok (.ifnull off, 3)) (hz : (pc : Int) + off = (tgt : Int)) (k1 : Wq E rv nL mc ms ce sl tgt lv st σ y) (k2 : Wq E rv nL mc ms ce sl (pc + 3) lv st σ x) : Wq E rv nL mc ms ce sl pc lv (LR a :: st) σ (if a = none then y else x) := by
  obtain ⟨p, l, e, R, s, m, args, below, meth, c, B, D, cA, sa⟩ := E
  obtain ⟨hx, hb, hml, hr, ho, ht, hK, hA, hn, hst, hlk⟩ := h
  intro r σ' hxx H locs ls hm hS hl
  cases a with
  | none => exact lv_ifnullN hx hb hd hz (k1 r σ' (by simpa using hxx) H locs ls hm hS hl)
  | some a => exact lv_ifnull hx hb hd (k2 r σ' (by simpa using hxx) H locs ls hm hS hl)

theorem k_ifnonnull {α : Type} {E : EE} {cc : ByteArray} {own : String} {nL : Nat} {ret : Option FieldType} {rv : α → Option Value} {mc ms ce sl pc : Nat} {lv : List (Nat × Lv)} {st : List Lv} {σ : Sg} {x y : Option (α × Sg)} {a : Option Nat} {off : Int} {tgt : Nat} (h : Ok E cc own nL ret) (hd : decode cc pc = .ok (.ifnonnull off, 3)) (hz : (pc : Int) + off = (tgt : Int)) (k1 : Wq E rv nL mc ms ce sl tgt lv st σ y) (k2 : Wq E rv nL mc ms ce sl (pc + 3) lv st σ x) : Wq E rv nL mc ms ce sl pc lv (LR a :: st) σ (if a = none then x else y) := by
  obtain ⟨p, l, e, R, s, m, args, below, meth, c, B, D, cA, sa⟩ := E
  obtain ⟨hx, hb, hml, hr, ho, ht, hK, hA, hn, hst, hlk⟩ := h
  intro r σ' hxx H locs ls hm hS hl
  cases a with
  | none => exact lv_ifnonnullN hx hb hd (k2 r σ' (by simpa using hxx) H locs ls hm hS hl)
  | some a => exact lv_ifnonnull hx hb hd hz (k1 r σ' (by simpa using hxx) H locs ls hm hS hl)

theorem k_goto {α : Type} {E : EE} {cc : ByteArray} {own : String} {nL : Nat} {ret : Option FieldType} {rv : α → Option Value} {mc ms ce sl pc : Nat} {lv : List (Nat × Lv)} {st : List Lv} {σ : Sg} {x : Option (α × Sg)} {off : Int} {tgt : Nat} (h : Ok E cc own nL ret) (hd : decode cc pc = .ok (.goto off, 3)) (hz : (pc : Int) + off = (tgt : Int)) (k : Wq E rv nL mc ms ce sl tgt lv st σ x) : Wq E rv nL mc ms ce sl pc lv st σ x := by
  obtain ⟨p, l, e, R, s, m, args, below, meth, c, B, D, cA, sa⟩ := E
  obtain ⟨hx, hb, hml, hr, ho, ht, hK, hA, hn, hst, hlk⟩ := h
  intro r σ' hxx H locs ls hm hS hl
  exact lv_goto hx hb hd hz (k r σ' hxx H locs ls hm hS hl)

def swc {β : Type} (v : Int32) (lo : Int) (xs : List (Option β)) (d : Option β) : Option β := if v.toInt < lo then d else xs.getD (v.toInt - lo).toNat d
theorem k_table {α : Type} {E : EE} {cc : ByteArray} {own : String} {nL : Nat} {ret : Option FieldType} {rv : α → Option Value} {mc ms ce sl pc : Nat} {lv : List (Nat × Lv)} {st : List Lv} {σ : Sg} {xs : List (Option (α × Sg))} {d : Option (α × Sg)} {a : Int32} {dflt lo hi : Int} {offs : Array Int} {len tg : Nat} {tgs : List Nat} (h : Ok E cc own nL ret) (hd : decode cc pc = .ok (.tableswitch dflt lo hi offs, len)) (h1 : (pc : Int) + dflt = (tg : Int)) (h2 : offs.toList.map (fun o => (pc : Int) + o) = tgs.map (fun t : Nat => (t : Int))) (h3 : xs.length = tgs.length) (h4 : (hi : Int) + 1 = lo + (tgs.length : Int)) (k1 : Wq E rv nL mc ms ce sl tg lv st σ d) (k2 : ∀ q ∈ tgs.zip xs, Wq E rv nL mc ms ce sl q.1 lv st σ q.2) : Wq E rv nL mc ms ce sl pc lv (LI a :: st) σ (swc a lo xs d) := by
  obtain ⟨p, l, e, R, s, m, args, below, meth, c, B, D, cA, sa⟩ := E
  obtain ⟨hx, hb, hml, hr, ho, ht, hK, hA, hn, hst, hlk⟩ := h
  intro r σ' hxx H locs ls hm hS hl
  unfold swc at hxx
  by_cases ha : a.toInt < lo
  · rw [if_pos ha] at hxx
    exact lv_tableOut hx hb hd (Or.inl ha) h1 (k1 r σ' hxx H locs ls hm hS hl)
  · rw [if_neg ha] at hxx
    have hlen : offs.toList.length = tgs.length := by simpa using congrArg List.length h2
    by_cases hc : hi < a.toInt
    · have hge : xs.length ≤ (a.toInt - lo).toNat := by omega
      rw [List.getD_eq_getElem?_getD, List.getElem?_eq_none hge] at hxx
      exact lv_tableOut hx hb hd (Or.inr hc) h1 (k1 r σ' hxx H locs ls hm hS hl)
    · have hlt : (a.toInt - lo).toNat < xs.length := by omega
      generalize hj : (a.toInt - lo).toNat = j at hxx hlt
      have hjt : j < tgs.length := by omega
      have hjo : j < offs.toList.length := by omega
      rw [List.getD_eq_getElem?_getD, List.getElem?_eq_getElem hlt] at hxx
      have ho1 : (pc : Int) + offs.toList[j] = ((tgs[j] : Nat) : Int) := by
        have := congrArg (fun l => l[j]?) h2
        rw [List.getElem?_map, List.getElem?_map, List.getElem?_eq_getElem hjo, List.getElem?_eq_getElem hjt] at this
        exact Option.some.inj this
      have ho2 : offs[(a.toInt - lo).toNat]? = some offs.toList[j] := by
        rw [hj, ← Array.getElem?_toList, List.getElem?_eq_getElem hjo]
      refine lv_tableIn hx hb hd ha hc ho2 ho1 (k2 (tgs[j], xs[j]) ?_ r σ' hxx H locs ls hm hS hl)
      apply List.mem_of_getElem? (i := j)
      simp [List.getElem?_zip_eq_some, hjt, hlt]
end
section
/-- a field: of class c its k-th, of kind t -/
def Fld (c k t : Nat) (C n d : String) (fin : Bool) (ty : FieldType) : Prop := ∃ (C0 : String) (T : u_T) (N : Nat) (ty0 : Nat → FieldType), vwCl[c]? = some (C0, T, N) ∧ (∀ w ∈ u_ws C0 T N, w ∈ wsL_law) ∧ k < N ∧ T k = (C, n, d, fin) ∧ (fty c)[k]? = some t ∧ N = (fty c).length ∧ c < 20 ∧ (∀ k, k < N → parseFieldDescriptor (T k).2.2.1 = some (ty0 k)) ∧ (∀ a, a < N → ∀ b, b < N → a ≠ b → (T a).2.1 ≠ (T b).2.1) ∧ ty0 k = ty
theorem fX0_0 : Fld 0 0 1 "JumpDesk$Air" "x" "[I" true (.array .int) := ⟨RX0, TX0, 2, tyX0, rfl, inlX0, by decide, rfl, rfl, rfl, by decide, tyX0_ok, nmX0, rfl⟩
theorem fX0_1 : Fld 0 1 1 "JumpDesk$Air" "y" "[I" true (.array .int) := ⟨RX0, TX0, 2, tyX0, rfl, inlX0, by decide, rfl, rfl, rfl, by decide, tyX0_ok, nmX0, rfl⟩
theorem fX1_0 : Fld 1 0 1 "JumpDesk$Fall" "x" "[I" true (.array .int) := ⟨RX1, TX1, 5, tyX1, rfl, inlX1, by decide, rfl, rfl, rfl, by decide, tyX1_ok, nmX1, rfl⟩
theorem fX1_1 : Fld 1 1 1 "JumpDesk$Fall" "y" "[I" true (.array .int) := ⟨RX1, TX1, 5, tyX1, rfl, inlX1, by decide, rfl, rfl, rfl, by decide, tyX1_ok, nmX1, rfl⟩
theorem fX1_2 : Fld 1 2 1 "JumpDesk$Fall" "height" "[I" true (.array .int) := ⟨RX1, TX1, 5, tyX1, rfl, inlX1, by decide, rfl, rfl, rfl, by decide, tyX1_ok, nmX1, rfl⟩
theorem fX1_3 : Fld 1 3 0 "JumpDesk$Fall" "opened" "I" false (.int) := ⟨RX1, TX1, 5, tyX1, rfl, inlX1, by decide, rfl, rfl, rfl, by decide, tyX1_ok, nmX1, rfl⟩
theorem fX1_4 : Fld 1 4 0 "JumpDesk$Fall" "down" "I" false (.int) := ⟨RX1, TX1, 5, tyX1, rfl, inlX1, by decide, rfl, rfl, rfl, by decide, tyX1_ok, nmX1, rfl⟩
theorem fX2_0 : Fld 2 0 0 "JumpDesk$Group" "number" "I" true (.int) := ⟨RX2, TX2, 7, tyX2, rfl, inlX2, by decide, rfl, rfl, rfl, by decide, tyX2_ok, nmX2, rfl⟩
theorem fX2_1 : Fld 2 1 1 "JumpDesk$Group" "members" "[LJumpDesk$Jumper;" true (.array (.object "JumpDesk$Jumper")) := ⟨RX2, TX2, 7, tyX2, rfl, inlX2, by decide, rfl, rfl, rfl, by decide, tyX2_ok, nmX2, rfl⟩
theorem fX2_2 : Fld 2 2 0 "JumpDesk$Group" "count" "I" false (.int) := ⟨RX2, TX2, 7, tyX2, rfl, inlX2, by decide, rfl, rfl, rfl, by decide, tyX2_ok, nmX2, rfl⟩
theorem fX2_3 : Fld 2 3 0 "JumpDesk$Group" "kind" "I" false (.int) := ⟨RX2, TX2, 7, tyX2, rfl, inlX2, by decide, rfl, rfl, rfl, by decide, tyX2_ok, nmX2, rfl⟩
theorem fX2_4 : Fld 2 4 0 "JumpDesk$Group" "opens" "I" false (.int) := ⟨RX2, TX2, 7, tyX2, rfl, inlX2, by decide, rfl, rfl, rfl, by decide, tyX2_ok, nmX2, rfl⟩
theorem fX2_5 : Fld 2 5 0 "JumpDesk$Group" "forward" "I" false (.int) := ⟨RX2, TX2, 7, tyX2, rfl, inlX2, by decide, rfl, rfl, rfl, by decide, tyX2_ok, nmX2, rfl⟩
theorem fX2_6 : Fld 2 6 0 "JumpDesk$Group" "direction" "I" false (.int) := ⟨RX2, TX2, 7, tyX2, rfl, inlX2, by decide, rfl, rfl, rfl, by decide, tyX2_ok, nmX2, rfl⟩
theorem fX3_0 : Fld 3 0 0 "JumpDesk$Jumper" "number" "I" true (.int) := ⟨RX3, TX3, 4, tyX3, rfl, inlX3, by decide, rfl, rfl, rfl, by decide, tyX3_ok, nmX3, rfl⟩
theorem fX3_1 : Fld 3 1 0 "JumpDesk$Jumper" "sort" "I" false (.int) := ⟨RX3, TX3, 4, tyX3, rfl, inlX3, by decide, rfl, rfl, rfl, by decide, tyX3_ok, nmX3, rfl⟩
theorem fX3_2 : Fld 3 2 0 "JumpDesk$Jumper" "weight" "I" false (.int) := ⟨RX3, TX3, 4, tyX3, rfl, inlX3, by decide, rfl, rfl, rfl, by decide, tyX3_ok, nmX3, rfl⟩
theorem fX3_3 : Fld 3 3 0 "JumpDesk$Jumper" "day" "I" false (.int) := ⟨RX3, TX3, 4, tyX3, rfl, inlX3, by decide, rfl, rfl, rfl, by decide, tyX3_ok, nmX3, rfl⟩
theorem fX4_0 : Fld 4 0 1 "JumpDesk$Line" "pauses" "[I" true (.array .int) := ⟨RX4, TX4, 5, tyX4, rfl, inlX4, by decide, rfl, rfl, rfl, by decide, tyX4_ok, nmX4, rfl⟩
theorem fX4_1 : Fld 4 1 1 "JumpDesk$Line" "row" "[I" true (.array .int) := ⟨RX4, TX4, 5, tyX4, rfl, inlX4, by decide, rfl, rfl, rfl, by decide, tyX4_ok, nmX4, rfl⟩
theorem fX4_2 : Fld 4 2 1 "JumpDesk$Line" "best" "[I" true (.array .int) := ⟨RX4, TX4, 5, tyX4, rfl, inlX4, by decide, rfl, rfl, rfl, by decide, tyX4_ok, nmX4, rfl⟩
theorem fX4_3 : Fld 4 3 0 "JumpDesk$Line" "count" "I" false (.int) := ⟨RX4, TX4, 5, tyX4, rfl, inlX4, by decide, rfl, rfl, rfl, by decide, tyX4_ok, nmX4, rfl⟩
theorem fX4_4 : Fld 4 4 0 "JumpDesk$Line" "shortest" "I" false (.int) := ⟨RX4, TX4, 5, tyX4, rfl, inlX4, by decide, rfl, rfl, rfl, by decide, tyX4_ok, nmX4, rfl⟩
theorem fX5_0 : Fld 5 0 1 "JumpDesk$Load" "groups" "[LJumpDesk$Group;" true (.array (.object "JumpDesk$Group")) := ⟨RX5, TX5, 9, tyX5, rfl, inlX5, by decide, rfl, rfl, rfl, by decide, tyX5_ok, nmX5, rfl⟩
theorem fX5_1 : Fld 5 1 1 "JumpDesk$Load" "pauses" "[I" true (.array .int) := ⟨RX5, TX5, 9, tyX5, rfl, inlX5, by decide, rfl, rfl, rfl, by decide, tyX5_ok, nmX5, rfl⟩
theorem fX5_2 : Fld 5 2 1 "JumpDesk$Load" "ownPlane" "LJumpDesk$Plane;" true (.object "JumpDesk$Plane") := ⟨RX5, TX5, 9, tyX5, rfl, inlX5, by decide, rfl, rfl, rfl, by decide, tyX5_ok, nmX5, rfl⟩
theorem fX5_3 : Fld 5 3 1 "JumpDesk$Load" "ownAir" "LJumpDesk$Air;" true (.object "JumpDesk$Air") := ⟨RX5, TX5, 9, tyX5, rfl, inlX5, by decide, rfl, rfl, rfl, by decide, tyX5_ok, nmX5, rfl⟩
theorem fX5_4 : Fld 5 4 1 "JumpDesk$Load" "plane" "LJumpDesk$Plane;" false (.object "JumpDesk$Plane") := ⟨RX5, TX5, 9, tyX5, rfl, inlX5, by decide, rfl, rfl, rfl, by decide, tyX5_ok, nmX5, rfl⟩
theorem fX5_5 : Fld 5 5 1 "JumpDesk$Load" "air" "LJumpDesk$Air;" false (.object "JumpDesk$Air") := ⟨RX5, TX5, 9, tyX5, rfl, inlX5, by decide, rfl, rfl, rfl, by decide, tyX5_ok, nmX5, rfl⟩
theorem fX5_6 : Fld 5 6 0 "JumpDesk$Load" "count" "I" false (.int) := ⟨RX5, TX5, 9, tyX5, rfl, inlX5, by decide, rfl, rfl, rfl, by decide, tyX5_ok, nmX5, rfl⟩
theorem fX5_7 : Fld 5 7 0 "JumpDesk$Load" "start" "I" false (.int) := ⟨RX5, TX5, 9, tyX5, rfl, inlX5, by decide, rfl, rfl, rfl, by decide, tyX5_ok, nmX5, rfl⟩
theorem fX5_8 : Fld 5 8 0 "JumpDesk$Load" "left" "Z" false (.boolean) := ⟨RX5, TX5, 9, tyX5, rfl, inlX5, by decide, rfl, rfl, rfl, by decide, tyX5_ok, nmX5, rfl⟩
theorem fX6_0 : Fld 6 0 0 "JumpDesk$Plane" "number" "I" false (.int) := ⟨RX6, TX6, 5, tyX6, rfl, inlX6, by decide, rfl, rfl, rfl, by decide, tyX6_ok, nmX6, rfl⟩
theorem fX6_1 : Fld 6 1 0 "JumpDesk$Plane" "seats" "I" false (.int) := ⟨RX6, TX6, 5, tyX6, rfl, inlX6, by decide, rfl, rfl, rfl, by decide, tyX6_ok, nmX6, rfl⟩
theorem fX6_2 : Fld 6 2 0 "JumpDesk$Plane" "bears" "I" false (.int) := ⟨RX6, TX6, 5, tyX6, rfl, inlX6, by decide, rfl, rfl, rfl, by decide, tyX6_ok, nmX6, rfl⟩
theorem fX6_3 : Fld 6 3 0 "JumpDesk$Plane" "speed" "I" false (.int) := ⟨RX6, TX6, 5, tyX6, rfl, inlX6, by decide, rfl, rfl, rfl, by decide, tyX6_ok, nmX6, rfl⟩
theorem fX6_4 : Fld 6 4 0 "JumpDesk$Plane" "height" "I" false (.int) := ⟨RX6, TX6, 5, tyX6, rfl, inlX6, by decide, rfl, rfl, rfl, by decide, tyX6_ok, nmX6, rfl⟩
theorem fX7_0 : Fld 7 0 1 "JumpDesk$Sheet" "numbers" "[F" true (.array .float) := ⟨RX7, TX7, 4, tyX7, rfl, inlX7, by decide, rfl, rfl, rfl, by decide, tyX7_ok, nmX7, rfl⟩
theorem fX7_1 : Fld 7 1 1 "JumpDesk$Sheet" "gaps" "[Z" true (.array .boolean) := ⟨RX7, TX7, 4, tyX7, rfl, inlX7, by decide, rfl, rfl, rfl, by decide, tyX7_ok, nmX7, rfl⟩
theorem fX7_2 : Fld 7 2 0 "JumpDesk$Sheet" "length" "I" false (.int) := ⟨RX7, TX7, 4, tyX7, rfl, inlX7, by decide, rfl, rfl, rfl, by decide, tyX7_ok, nmX7, rfl⟩
theorem fX7_3 : Fld 7 3 0 "JumpDesk$Sheet" "there" "Z" false (.boolean) := ⟨RX7, TX7, 4, tyX7, rfl, inlX7, by decide, rfl, rfl, rfl, by decide, tyX7_ok, nmX7, rfl⟩
theorem fX8_0 : Fld 8 0 1 "JumpDesk" "sheets" "[LJumpDesk$Sheet;" true (.array (.object "JumpDesk$Sheet")) := ⟨RX8, TX8, 11, tyX8, rfl, inlX8, by decide, rfl, rfl, rfl, by decide, tyX8_ok, nmX8, rfl⟩
theorem fX8_1 : Fld 8 1 1 "JumpDesk" "air" "LJumpDesk$Air;" true (.object "JumpDesk$Air") := ⟨RX8, TX8, 11, tyX8, rfl, inlX8, by decide, rfl, rfl, rfl, by decide, tyX8_ok, nmX8, rfl⟩
theorem fX8_2 : Fld 8 2 1 "JumpDesk" "jumpers" "[LJumpDesk$Jumper;" true (.array (.object "JumpDesk$Jumper")) := ⟨RX8, TX8, 11, tyX8, rfl, inlX8, by decide, rfl, rfl, rfl, by decide, tyX8_ok, nmX8, rfl⟩
theorem fX8_3 : Fld 8 3 1 "JumpDesk" "groups" "[LJumpDesk$Group;" true (.array (.object "JumpDesk$Group")) := ⟨RX8, TX8, 11, tyX8, rfl, inlX8, by decide, rfl, rfl, rfl, by decide, tyX8_ok, nmX8, rfl⟩
theorem fX8_4 : Fld 8 4 1 "JumpDesk" "planes" "[LJumpDesk$Plane;" true (.array (.object "JumpDesk$Plane")) := ⟨RX8, TX8, 11, tyX8, rfl, inlX8, by decide, rfl, rfl, rfl, by decide, tyX8_ok, nmX8, rfl⟩
theorem fX8_5 : Fld 8 5 1 "JumpDesk" "loads" "[LJumpDesk$Load;" true (.array (.object "JumpDesk$Load")) := ⟨RX8, TX8, 11, tyX8, rfl, inlX8, by decide, rfl, rfl, rfl, by decide, tyX8_ok, nmX8, rfl⟩
theorem fX8_6 : Fld 8 6 1 "JumpDesk" "rules" "[I" true (.array .int) := ⟨RX8, TX8, 11, tyX8, rfl, inlX8, by decide, rfl, rfl, rfl, by decide, tyX8_ok, nmX8, rfl⟩
theorem fX8_7 : Fld 8 7 1 "JumpDesk" "falls" "[LJumpDesk$Fall;" true (.array (.object "JumpDesk$Fall")) := ⟨RX8, TX8, 11, tyX8, rfl, inlX8, by decide, rfl, rfl, rfl, by decide, tyX8_ok, nmX8, rfl⟩
theorem fX8_8 : Fld 8 8 1 "JumpDesk" "line" "LJumpDesk$Line;" true (.object "JumpDesk$Line") := ⟨RX8, TX8, 11, tyX8, rfl, inlX8, by decide, rfl, rfl, rfl, by decide, tyX8_ok, nmX8, rfl⟩
theorem fX8_9 : Fld 8 9 0 "JumpDesk" "groupCount" "I" false (.int) := ⟨RX8, TX8, 11, tyX8, rfl, inlX8, by decide, rfl, rfl, rfl, by decide, tyX8_ok, nmX8, rfl⟩
theorem fX8_10 : Fld 8 10 0 "JumpDesk" "loadCount" "I" false (.int) := ⟨RX8, TX8, 11, tyX8, rfl, inlX8, by decide, rfl, rfl, rfl, by decide, tyX8_ok, nmX8, rfl⟩
theorem fX9_0 : Fld 9 0 1 "JumpDeskModel" "sheetSize" "[I" true (.array .int) := ⟨RX9, TX9, 48, tyX9, rfl, inlX9, by decide, rfl, rfl, rfl, by decide, tyX9_ok, nmX9, rfl⟩
theorem fX9_1 : Fld 9 1 1 "JumpDeskModel" "sheet" "[F" true (.array .float) := ⟨RX9, TX9, 48, tyX9, rfl, inlX9, by decide, rfl, rfl, rfl, by decide, tyX9_ok, nmX9, rfl⟩
theorem fX9_2 : Fld 9 2 1 "JumpDeskModel" "isGap" "[Z" true (.array .boolean) := ⟨RX9, TX9, 48, tyX9, rfl, inlX9, by decide, rfl, rfl, rfl, by decide, tyX9_ok, nmX9, rfl⟩
theorem fX9_3 : Fld 9 3 1 "JumpDeskModel" "windX" "[I" true (.array .int) := ⟨RX9, TX9, 48, tyX9, rfl, inlX9, by decide, rfl, rfl, rfl, by decide, tyX9_ok, nmX9, rfl⟩
theorem fX9_4 : Fld 9 4 1 "JumpDeskModel" "windY" "[I" true (.array .int) := ⟨RX9, TX9, 48, tyX9, rfl, inlX9, by decide, rfl, rfl, rfl, by decide, tyX9_ok, nmX9, rfl⟩
theorem fX9_5 : Fld 9 5 1 "JumpDeskModel" "sortOf" "[I" true (.array .int) := ⟨RX9, TX9, 48, tyX9, rfl, inlX9, by decide, rfl, rfl, rfl, by decide, tyX9_ok, nmX9, rfl⟩
theorem fX9_6 : Fld 9 6 1 "JumpDeskModel" "weightOf" "[I" true (.array .int) := ⟨RX9, TX9, 48, tyX9, rfl, inlX9, by decide, rfl, rfl, rfl, by decide, tyX9_ok, nmX9, rfl⟩
theorem fX9_7 : Fld 9 7 1 "JumpDeskModel" "dayOf" "[I" true (.array .int) := ⟨RX9, TX9, 48, tyX9, rfl, inlX9, by decide, rfl, rfl, rfl, by decide, tyX9_ok, nmX9, rfl⟩
theorem fX9_8 : Fld 9 8 0 "JumpDeskModel" "groups" "I" false (.int) := ⟨RX9, TX9, 48, tyX9, rfl, inlX9, by decide, rfl, rfl, rfl, by decide, tyX9_ok, nmX9, rfl⟩
theorem fX9_9 : Fld 9 9 1 "JumpDeskModel" "kindOf" "[I" true (.array .int) := ⟨RX9, TX9, 48, tyX9, rfl, inlX9, by decide, rfl, rfl, rfl, by decide, tyX9_ok, nmX9, rfl⟩
theorem fX9_10 : Fld 9 10 1 "JumpDeskModel" "opensOf" "[I" true (.array .int) := ⟨RX9, TX9, 48, tyX9, rfl, inlX9, by decide, rfl, rfl, rfl, by decide, tyX9_ok, nmX9, rfl⟩
theorem fX9_11 : Fld 9 11 1 "JumpDeskModel" "forwardOf" "[I" true (.array .int) := ⟨RX9, TX9, 48, tyX9, rfl, inlX9, by decide, rfl, rfl, rfl, by decide, tyX9_ok, nmX9, rfl⟩
theorem fX9_12 : Fld 9 12 1 "JumpDeskModel" "directionOf" "[I" true (.array .int) := ⟨RX9, TX9, 48, tyX9, rfl, inlX9, by decide, rfl, rfl, rfl, by decide, tyX9_ok, nmX9, rfl⟩
theorem fX9_13 : Fld 9 13 1 "JumpDeskModel" "sizeOf" "[I" true (.array .int) := ⟨RX9, TX9, 48, tyX9, rfl, inlX9, by decide, rfl, rfl, rfl, by decide, tyX9_ok, nmX9, rfl⟩
theorem fX9_14 : Fld 9 14 1 "JumpDeskModel" "jumperOf" "[I" true (.array .int) := ⟨RX9, TX9, 48, tyX9, rfl, inlX9, by decide, rfl, rfl, rfl, by decide, tyX9_ok, nmX9, rfl⟩
theorem fX9_15 : Fld 9 15 1 "JumpDeskModel" "seats" "[I" true (.array .int) := ⟨RX9, TX9, 48, tyX9, rfl, inlX9, by decide, rfl, rfl, rfl, by decide, tyX9_ok, nmX9, rfl⟩
theorem fX9_16 : Fld 9 16 1 "JumpDeskModel" "bears" "[I" true (.array .int) := ⟨RX9, TX9, 48, tyX9, rfl, inlX9, by decide, rfl, rfl, rfl, by decide, tyX9_ok, nmX9, rfl⟩
theorem fX9_17 : Fld 9 17 1 "JumpDeskModel" "speeds" "[I" true (.array .int) := ⟨RX9, TX9, 48, tyX9, rfl, inlX9, by decide, rfl, rfl, rfl, by decide, tyX9_ok, nmX9, rfl⟩
theorem fX9_18 : Fld 9 18 1 "JumpDeskModel" "heights" "[I" true (.array .int) := ⟨RX9, TX9, 48, tyX9, rfl, inlX9, by decide, rfl, rfl, rfl, by decide, tyX9_ok, nmX9, rfl⟩
theorem fX9_19 : Fld 9 19 1 "JumpDeskModel" "rules" "[I" true (.array .int) := ⟨RX9, TX9, 48, tyX9, rfl, inlX9, by decide, rfl, rfl, rfl, by decide, tyX9_ok, nmX9, rfl⟩
theorem fX9_20 : Fld 9 20 0 "JumpDeskModel" "loads" "I" false (.int) := ⟨RX9, TX9, 48, tyX9, rfl, inlX9, by decide, rfl, rfl, rfl, by decide, tyX9_ok, nmX9, rfl⟩
theorem fX9_21 : Fld 9 21 1 "JumpDeskModel" "planeOf" "[I" true (.array .int) := ⟨RX9, TX9, 48, tyX9, rfl, inlX9, by decide, rfl, rfl, rfl, by decide, tyX9_ok, nmX9, rfl⟩
theorem fX9_22 : Fld 9 22 1 "JumpDeskModel" "manyOf" "[I" true (.array .int) := ⟨RX9, TX9, 48, tyX9, rfl, inlX9, by decide, rfl, rfl, rfl, by decide, tyX9_ok, nmX9, rfl⟩
theorem fX9_23 : Fld 9 23 1 "JumpDeskModel" "groupAt" "[I" true (.array .int) := ⟨RX9, TX9, 48, tyX9, rfl, inlX9, by decide, rfl, rfl, rfl, by decide, tyX9_ok, nmX9, rfl⟩
theorem fX9_24 : Fld 9 24 1 "JumpDeskModel" "pauseAt" "[I" true (.array .int) := ⟨RX9, TX9, 48, tyX9, rfl, inlX9, by decide, rfl, rfl, rfl, by decide, tyX9_ok, nmX9, rfl⟩
theorem fX9_25 : Fld 9 25 1 "JumpDeskModel" "startOf" "[I" true (.array .int) := ⟨RX9, TX9, 48, tyX9, rfl, inlX9, by decide, rfl, rfl, rfl, by decide, tyX9_ok, nmX9, rfl⟩
theorem fX9_26 : Fld 9 26 1 "JumpDeskModel" "hasLeft" "[Z" true (.array .boolean) := ⟨RX9, TX9, 48, tyX9, rfl, inlX9, by decide, rfl, rfl, rfl, by decide, tyX9_ok, nmX9, rfl⟩
theorem fX9_27 : Fld 9 27 1 "JumpDeskModel" "leftWindX" "[I" true (.array .int) := ⟨RX9, TX9, 48, tyX9, rfl, inlX9, by decide, rfl, rfl, rfl, by decide, tyX9_ok, nmX9, rfl⟩
theorem fX9_28 : Fld 9 28 1 "JumpDeskModel" "leftWindY" "[I" true (.array .int) := ⟨RX9, TX9, 48, tyX9, rfl, inlX9, by decide, rfl, rfl, rfl, by decide, tyX9_ok, nmX9, rfl⟩
theorem fX9_29 : Fld 9 29 1 "JumpDeskModel" "leftSpeed" "[I" true (.array .int) := ⟨RX9, TX9, 48, tyX9, rfl, inlX9, by decide, rfl, rfl, rfl, by decide, tyX9_ok, nmX9, rfl⟩
theorem fX9_30 : Fld 9 30 1 "JumpDeskModel" "leftHeight" "[I" true (.array .int) := ⟨RX9, TX9, 48, tyX9, rfl, inlX9, by decide, rfl, rfl, rfl, by decide, tyX9_ok, nmX9, rfl⟩
theorem fX9_31 : Fld 9 31 0 "JumpDeskModel" "went" "I" false (.int) := ⟨RX9, TX9, 48, tyX9, rfl, inlX9, by decide, rfl, rfl, rfl, by decide, tyX9_ok, nmX9, rfl⟩
theorem fX9_32 : Fld 9 32 1 "JumpDeskModel" "byX" "[I" true (.array .int) := ⟨RX9, TX9, 48, tyX9, rfl, inlX9, by decide, rfl, rfl, rfl, by decide, tyX9_ok, nmX9, rfl⟩
theorem fX9_33 : Fld 9 33 1 "JumpDeskModel" "byY" "[I" true (.array .int) := ⟨RX9, TX9, 48, tyX9, rfl, inlX9, by decide, rfl, rfl, rfl, by decide, tyX9_ok, nmX9, rfl⟩
theorem fX9_34 : Fld 9 34 0 "JumpDeskModel" "bySpeed" "I" false (.int) := ⟨RX9, TX9, 48, tyX9, rfl, inlX9, by decide, rfl, rfl, rfl, by decide, tyX9_ok, nmX9, rfl⟩
theorem fX9_35 : Fld 9 35 0 "JumpDeskModel" "byHeight" "I" false (.int) := ⟨RX9, TX9, 48, tyX9, rfl, inlX9, by decide, rfl, rfl, rfl, by decide, tyX9_ok, nmX9, rfl⟩
theorem fX9_36 : Fld 9 36 1 "JumpDeskModel" "wayX" "[I" true (.array .int) := ⟨RX9, TX9, 48, tyX9, rfl, inlX9, by decide, rfl, rfl, rfl, by decide, tyX9_ok, nmX9, rfl⟩
theorem fX9_37 : Fld 9 37 1 "JumpDeskModel" "wayY" "[I" true (.array .int) := ⟨RX9, TX9, 48, tyX9, rfl, inlX9, by decide, rfl, rfl, rfl, by decide, tyX9_ok, nmX9, rfl⟩
theorem fX9_38 : Fld 9 38 1 "JumpDeskModel" "wayHeight" "[I" true (.array .int) := ⟨RX9, TX9, 48, tyX9, rfl, inlX9, by decide, rfl, rfl, rfl, by decide, tyX9_ok, nmX9, rfl⟩
theorem fX9_39 : Fld 9 39 1 "JumpDeskModel" "wayState" "[I" true (.array .int) := ⟨RX9, TX9, 48, tyX9, rfl, inlX9, by decide, rfl, rfl, rfl, by decide, tyX9_ok, nmX9, rfl⟩
theorem fX9_40 : Fld 9 40 1 "JumpDeskModel" "downAt" "[I" true (.array .int) := ⟨RX9, TX9, 48, tyX9, rfl, inlX9, by decide, rfl, rfl, rfl, by decide, tyX9_ok, nmX9, rfl⟩
theorem fX9_41 : Fld 9 41 1 "JumpDeskModel" "openFor" "[I" true (.array .int) := ⟨RX9, TX9, 48, tyX9, rfl, inlX9, by decide, rfl, rfl, rfl, by decide, tyX9_ok, nmX9, rfl⟩
theorem fX9_42 : Fld 9 42 1 "JumpDeskModel" "sorted" "[I" true (.array .int) := ⟨RX9, TX9, 48, tyX9, rfl, inlX9, by decide, rfl, rfl, rfl, by decide, tyX9_ok, nmX9, rfl⟩
theorem fX9_43 : Fld 9 43 1 "JumpDeskModel" "pauses" "[I" true (.array .int) := ⟨RX9, TX9, 48, tyX9, rfl, inlX9, by decide, rfl, rfl, rfl, by decide, tyX9_ok, nmX9, rfl⟩
theorem fX9_44 : Fld 9 44 1 "JumpDeskModel" "tried" "[I" true (.array .int) := ⟨RX9, TX9, 48, tyX9, rfl, inlX9, by decide, rfl, rfl, rfl, by decide, tyX9_ok, nmX9, rfl⟩
theorem fX9_45 : Fld 9 45 1 "JumpDeskModel" "best" "[I" true (.array .int) := ⟨RX9, TX9, 48, tyX9, rfl, inlX9, by decide, rfl, rfl, rfl, by decide, tyX9_ok, nmX9, rfl⟩
theorem fX9_46 : Fld 9 46 2 "JumpDeskModel" "lowest" "J" false (.long) := ⟨RX9, TX9, 48, tyX9, rfl, inlX9, by decide, rfl, rfl, rfl, by decide, tyX9_ok, nmX9, rfl⟩
theorem fX9_47 : Fld 9 47 2 "JumpDeskModel" "highest" "J" false (.long) := ⟨RX9, TX9, 48, tyX9, rfl, inlX9, by decide, rfl, rfl, rfl, by decide, tyX9_ok, nmX9, rfl⟩
/-- a link to a field, own or a nest mate's -/
def LkF (own : String) (idx : Nat) (C n d : String) : Prop := Cond.fieldLink own idx C n d ∈ wsL_law ∨ ∃ host, Cond.fieldLinkNest own idx C n d host ∈ nwL
theorem cel_obj {B : Nat} {cA : Nat → ClassId} {σ : Sg} {a c : Nat} (h : kd a = c) (hc : c < 20) : cel B cA σ a = .inr (c, (fty c).mapIdx (fun k t => tv B σ a t k)) := by
  subst h
  unfold cel
  rw [if_pos hc]
theorem cel_f {B : Nat} {cA : Nat → ClassId} {σ : Sg} {a : Nat} (h : kd a = 20) : cel B cA σ a = .inl (cA 0, ln a, .inr (.inr (.inl (sF σ a)))) := by simp [cel, h]
theorem cel_i {B : Nat} {cA : Nat → ClassId} {σ : Sg} {a : Nat} (h : kd a = 21) : cel B cA σ a = .inl (cA 1, ln a, .inl (sI σ a)) := by simp [cel, h]
theorem cel_z {B : Nat} {cA : Nat → ClassId} {σ : Sg} {a : Nat} (h : kd a = 22) : cel B cA σ a = .inl (cA 2, ln a, .inl (sI σ a)) := by simp [cel, h]
theorem cel_r {B : Nat} {cA : Nat → ClassId} {σ : Sg} {a c : Nat} (h : kd a = 30 + c) : cel B cA σ a = .inl (cA (3 + c), ln a, .inr (.inr (.inr (.inr (fun j => (sR σ a j).map (fun b => B + b)))))) := by
  have h1 : ¬ kd a < 20 := by omega
  have h2 : ¬ kd a = 20 := by omega
  have h3 : ¬ kd a = 21 := by omega
  have h4 : ¬ kd a = 22 := by omega
  have h5 : kd a - 27 = 3 + c := by omega
  simp only [cel, h1, h2, h3, h4, if_false, h5]
theorem u2_s {α : Type} (f : Nat → Nat → α) (a k : Nat) (v : α) : u2 f a k v a k = v := by simp [u2]
theorem u2_a {α : Type} (f : Nat → Nat → α) {a b : Nat} (k j : Nat) (v : α) (h : b ≠ a) : u2 f a k v b j = f b j := by simp [u2, h]
theorem u2_k {α : Type} (f : Nat → Nat → α) (a b : Nat) {k j : Nat} (v : α) (h : j ≠ k) : u2 f a k v b j = f b j := by simp [u2, h]
theorem u2_fa {α : Type} (f : Nat → Nat → α) {a b : Nat} (k : Nat) (v : α) (h : b ≠ a) : u2 f a k v b = f b := funext fun _ => u2_a f k _ v h
theorem cel_uI {B : Nat} {cA : Nat → ClassId} {σ : Sg} {a b k : Nat} {v : Int32} (h : b ≠ a) : cel B cA (uI σ a k v) b = cel B cA σ b := by
  simp only [cel, tv, uI, sI, sR, sF, sL, u2_fa _ _ _ h]
theorem cel_uR {B : Nat} {cA : Nat → ClassId} {σ : Sg} {a b k : Nat} {v : Option Nat} (h : b ≠ a) : cel B cA (uR σ a k v) b = cel B cA σ b := by
  simp only [cel, tv, uR, sI, sR, sF, sL, u2_fa _ _ _ h]
theorem cel_uF {B : Nat} {cA : Nat → ClassId} {σ : Sg} {a b k : Nat} {v : UInt32} (h : b ≠ a) : cel B cA (uF σ a k v) b = cel B cA σ b := by
  simp only [cel, tv, uF, sI, sR, sF, sL, u2_fa _ _ _ h]
theorem cel_uL {B : Nat} {cA : Nat → ClassId} {σ : Sg} {a b k : Nat} {v : Int64} (h : b ≠ a) : cel B cA (uL σ a k v) b = cel B cA σ b := by
  simp only [cel, tv, uL, sI, sR, sF, sL, u2_fa _ _ _ h]
theorem Hm.set {B : Nat} {D : va_G} {cA : Nat → ClassId} {σ σ' : Sg} {H H1 : Heap} (hm : Hm B D cA σ H) {a : Nat} (hn : sN σ' = sN σ) (hnew : va_at D vwCl (B + a, cel B cA σ' a) H1) (hoth : ∀ b, b ≠ a → cel B cA σ' b = cel B cA σ b) (z : H1.size = H.size) (oq : ∀ q, q ≠ B + a → H1[q]? = H[q]?) : Hm B D cA σ' H1 := by
  refine ⟨by rw [z, hn]; exact hm.1, fun b hb => ?_⟩
  by_cases hba : b = a
  · subst hba; exact hnew
  · rw [hoth b hba]
    exact (hm.2 b (by rw [← hn]; exact hb)).kept (oq _ (by show B + b ≠ B + a; omega))
theorem fs_get {B : Nat} {σ : Sg} {a c k t : Nat} (h : (fty c)[k]? = some t) : ((fty c).mapIdx (fun k t => tv B σ a t k))[k]? = some (tv B σ a t k) := by rw [List.getElem?_mapIdx, h]; rfl
theorem fs_set {B : Nat} {σ σ' : Sg} {a c k t : Nat} {v : Value} (h : (fty c)[k]? = some t) (h1 : tv B σ' a t k = v) (h2 : ∀ j u, j ≠ k → tv B σ' a u j = tv B σ a u j) : (fty c).mapIdx (fun k t => tv B σ' a t k) = ((fty c).mapIdx (fun k t => tv B σ a t k)).set k v := by
  apply List.ext_getElem?
  intro j
  rw [List.getElem?_set, List.getElem?_mapIdx, List.getElem?_mapIdx]
  by_cases hj : k = j
  · subst hj
    have hl : k < (fty c).length := (List.getElem?_eq_some_iff.mp h).1
    rw [h]
    simp [hl, h1]
  · rw [if_neg hj]
    cases (fty c)[j]? with
    | none => rfl
    | some u => simp [h2 j u (Ne.symm hj)]
theorem tv_uI {B : Nat} {σ : Sg} {a k : Nat} {v : Int32} : tv B (uI σ a k v) a 0 k = .int v ∧ ∀ j u, j ≠ k → tv B (uI σ a k v) a u j = tv B σ a u j := by
  refine ⟨by simp [tv, uI, sI, u2_s], fun j u hj => ?_⟩
  simp only [tv, uI, sI, sR, sL, u2_k _ _ _ _ hj]
theorem tv_uR {B : Nat} {σ : Sg} {a k : Nat} {v : Option Nat} : tv B (uR σ a k v) a 1 k = va_rf (v.map (fun b => B + b)) ∧ ∀ j u, j ≠ k → tv B (uR σ a k v) a u j = tv B σ a u j := by
  refine ⟨by simp [tv, uR, sR, u2_s], fun j u hj => ?_⟩
  simp only [tv, uR, sI, sR, sL, u2_k _ _ _ _ hj]
theorem tv_uL {B : Nat} {σ : Sg} {a k : Nat} {v : Int64} : tv B (uL σ a k v) a 2 k = .long v ∧ ∀ j u, j ≠ k → tv B (uL σ a k v) a u j = tv B σ a u j := by
  refine ⟨by simp [tv, uL, sL, u2_s], fun j u hj => ?_⟩
  simp only [tv, uL, sI, sR, sL, u2_k _ _ _ _ hj]
theorem va_P1 {D : va_G} {q : Nat × va_E} {H : Heap} (h : va_at D vwCl q H) : va_P D vwCl [q] H := by
  intro k x hk
  match k with
  | 0 => cases hk; exact h
  | k + 1 => simp at hk
section CORE
variable {p : Program} {l : Launch} {e : Env} {R : Room} {s : State} {m : MethodId} {args : Array Value} {below : List Frame} {meth : Method} {c : Code} {H : Heap} {locs : List Loc} {ce sl : Nat} {Q : State → Prop}
variable {cc : ByteArray} {pc : Nat} {ls : Array Slot} {rest : List Value} {B : Nat} {D : va_G} {cA : Nat → ClassId} {σ : Sg} {own : String}
theorem getW (hx : p.tables.exec = Jvm.exec) (hb : c.code = cc) (ho : s.vm.findClass own = some m.cls) (ht : ∀ w ∈ wsL_law, w.before args s = true) (hn : ∀ w ∈ nwL, va_Nw w s) (hK : va_K D vwCl [] s) (hm : Hm B D cA σ H) {c0 k t idx a : Nat} {C n d : String} {fin : Bool} {ty : FieldType} (hF : Fld c0 k t C n d fin ty) (hl : LkF own idx C n d) (ha : a < sN σ) (hk : kd a = c0) (hd : decode cc pc = .ok (.getfield idx, 3))
    (kk : W p l e R s m args below meth c H locs ce sl Q (F0 m (pc + 3) ls (tv B σ a t k :: rest))) : W p l e R s m args below meth c H locs ce sl Q (F0 m pc ls (.ref (B + a) :: rest)) := by
  obtain ⟨C0, T, N, ty0, f1, f2, f3, f4, f5, f6, f7, f8, f9, f10⟩ := hF
  have hat := hm.2 a ha
  rw [cel_obj hk f7] at hat
  rcases hl with hl | ⟨host, hl⟩
  · exact va_get (D := D) (cl := vwCl) (tys := []) (ref := C) (T := T) hx hb ht f2 ho hK (va_P1 hat) 0 rfl f1 k f3 (by rw [f4]; exact ht _ hl) (fun x h => by rw [f4] at h ⊢; exact h) (fs_get f5) hd kk
  · exact va_getN (D := D) (cl := vwCl) (tys := []) (ref := C) (T := T) (host := host) hx hb ht f2 ho hK (va_P1 hat) 0 rfl f1 k f3 (by rw [f4]; exact va_Nw.use rfl (hn _ hl)) (fun x h => by rw [f4] at h ⊢; exact h) (fs_get f5) hd kk
theorem putW (hx : p.tables.exec = Jvm.exec) (hb : c.code = cc) (ho : s.vm.findClass own = some m.cls) (ht : ∀ w ∈ wsL_law, w.before args s = true) (hn : ∀ w ∈ nwL, va_Nw w s) (hK : va_K D vwCl [] s) (hm : Hm B D cA σ H) (hS : va_S (fun q => B ≤ q) s.heap H locs) {c0 k t idx a : Nat} {C n d : String} {fin : Bool} {ty : FieldType} (hF : Fld c0 k t C n d fin ty) (hl : LkF own idx C n d) (ha : a < sN σ) (hk : kd a = c0) (hfin : fin = false ∨ (meth.name = "<init>" ∧ own = C ∧ Cond.fieldLink own idx C n d ∈ wsL_law)) {v : Value} {σ' : Sg} (hnar : narrow ty v = v) (hfit : fits ty v = true) (hs1 : sN σ' = sN σ) (hs2 : tv B σ' a t k = v ∧ ∀ j u, j ≠ k → tv B σ' a u j = tv B σ a u j) (hs3 : ∀ b, b ≠ a → cel B cA σ' b = cel B cA σ b) (hd : decode cc pc = .ok (.putfield idx, 3))
    (kk : ∀ (H1 : Heap) (locs1 : List Loc), Hm B D cA σ' H1 → va_S (fun q => B ≤ q) s.heap H1 locs1 → W p l e R s m args below meth c H1 locs1 ce sl Q (F0 m (pc + 3) ls rest)) : W p l e R s m args below meth c H locs ce sl Q (F0 m pc ls (v :: .ref (B + a) :: rest)) := by
  obtain ⟨C0, T, N, ty0, f1, f2, f3, f4, f5, f6, f7, f8, f9, f10⟩ := hF
  have hat := hm.2 a ha
  rw [cel_obj hk f7] at hat
  have hap := va_apart (own := own) ht f2 ty0 f8 f9 hK f1
  obtain ⟨r, h1, cell, q1, q2, q3, q4⟩ := hat
  have hr : r = (C0, T, N) := Option.some.inj (h1.symm.trans f1)
  subst hr
  obtain ⟨hSl, hfc, kC, hkC, hkind⟩ := hK.1 c0 _ f1
  obtain ⟨cf, kf, fi, f, hi, hsl⟩ := hSl k f3
  have hi2 : s.fieldFound? C n d = some (cf, kf, fi, f) := by
    have h9 := hi
    dsimp only at h9
    rw [f4] at h9
    exact h9
  have hst := (u_facts hfc hkC (u_lays ht f2 f3) hi).1
  have hlay := ht _ (f2 _ (u_in_lay f3))
  unfold u_lay at hlay
  have hdsc : parseFieldDescriptor (T k).2.2.1 = some ty := by rw [f8 k f3, f10]
  have hlen : k < ((fty c0).mapIdx (fun k t => tv B σ a t k)).length := by rw [List.length_mapIdx, ← f6]; exact f3
  have fin' : ∀ (H' : Heap) (locs1 : List Loc), H'[B + a]? = some (cell.setSlot f.slot v) → H'.size = H.size → (∀ q, q ≠ B + a → H'[q]? = H[q]?) → (locs1 = locs ++ [⟨B + a, f.slot⟩]) → W p l e R s m args below meth c H' locs1 ce sl Q (F0 m (pc + 3) ls rest) := by
    intro H' locs1 e1 e2 e3 e4
    subst e4
    rw [hsl] at e1
    refine kk H' _ (hm.set hs1 ?_ hs3 e2 e3) (hS.put e2 e3 (by show B ≤ B + a; omega))
    rw [cel_obj hk f7, fs_set f5 hs2.1 hs2.2]
    exact ⟨_, f1, t_OB.to (V := updV (vp_V _) k v) ⟨_, e1, q2, q3, t_set q4 hap f3 v⟩ (fun j _ => vp_updV_set hlen v j)⟩
  rcases hfin with hfin | ⟨hin, hown, hl2⟩
  · rw [if_neg (by rw [f4, hfin]; exact Bool.false_ne_true)] at hlay
    have h6 := u_store hfc hkC hkind hlay hi hdsc hnar hfit
    rcases hl with hl | ⟨host, hl⟩
    · exact W.putK hx hb (f := f) ⟨ho, ht _ hl, ⟨_, _, _, hi2⟩, hst⟩ (by rw [q2]; exact h6) q1 q3 (by rw [hsl]; exact k2_hasslot (q4 k f3)) rfl rfl hd (fun H' e1 e2 e3 => fin' H' _ e1 e2 e3 rfl)
    · exact va_WputK hx hb (f := f) ho (va_Nw.use rfl (hn _ hl)) (hi2) hst (by rw [q2]; exact h6) q1 q3 (by rw [hsl]; exact k2_hasslot (q4 k f3)) rfl rfl hd (fun H' e1 e2 e3 => fin' H' _ e1 e2 e3 rfl)
  · by_cases hff : fin = true
    · rw [if_pos (by rw [f4]; exact hff)] at hlay
      have hcf : m.cls = cf := by
        obtain ⟨_, _, c', _, _, _, -, -, hf', -, -, -, hown2, -⟩ := Cond.laysFinal_spec hlay
        have e1 : c' = cf := by have := hi.symm.trans hf'; simp at this; exact this.1.symm
        rw [f4] at hown2
        rw [← e1]; exact Option.some.inj (ho.symm.trans (by rw [hown]; exact hown2))
      have h6 := u_fits hfc hkC hkind (Or.inr hlay) hi hdsc hnar hfit
      exact W.putFinK hx hb ho (ht _ hl2) (hi2) hst hcf hin (by rw [q2]; exact h6) q1 q3 (by rw [hsl]; exact k2_hasslot (q4 k f3)) rfl rfl hd (fun H' e1 e2 e3 => fin' H' _ e1 e2 e3 rfl)
    · rw [if_neg (by rw [f4]; exact hff)] at hlay
      have h6 := u_store hfc hkC hkind hlay hi hdsc hnar hfit
      exact W.putK hx hb (f := f) ⟨ho, ht _ hl2, ⟨_, _, _, hi2⟩, hst⟩ (by rw [q2]; exact h6) q1 q3 (by rw [hsl]; exact k2_hasslot (q4 k f3)) rfl rfl hd (fun H' e1 e2 e3 => fin' H' _ e1 e2 e3 rfl)
theorem iastW (hx : p.tables.exec = Jvm.exec) (hb : c.code = cc) (hA : arK cA s) (hm : Hm B D cA σ H) (hS : va_S (fun q => B ≤ q) s.heap H locs) {a : Nat} (ha : a < sN σ) (hk : kd a = 21) {i v : Int32} (hin : ¬ (i < 0 ∨ ln a ≤ i.toNatClampNeg)) (hd : decode cc pc = .ok (.iastore, 1))
    (kk : ∀ (H1 : Heap) (locs1 : List Loc), Hm B D cA (uI σ a i.toNatClampNeg v) H1 → va_S (fun q => B ≤ q) s.heap H1 locs1 → W p l e R s m args below meth c H1 locs1 ce sl Q (F0 m (pc + 1) ls rest)) : W p l e R s m args below meth c H locs ce sl Q (F0 m pc ls (.int v :: .int i :: .ref (B + a) :: rest)) := by
  have hat := hm.2 a ha
  rw [cel_i hk] at hat
  refine W.iast hx hb hat ((hA 1 rfl).1 (ln a) (fun j => .int (sI σ a j))) (fun q => by cases q) (by show ¬ (i < 0 ∨ (arrV _ _ _).slots.size ≤ _); rw [arrV_size]; exact hin) rfl rfl hd fun H1 e z oq => ?_
  refine kk H1 _ (hm.set rfl ?_ (fun b hb => cel_uI hb) z oq) (hS.put z oq (by show B ≤ B + a; omega))
  rw [cel_i hk]
  show H1[B + a]? = some (vp_cell _ _)
  rw [e]
  rw [vp_cell_i, vp_cell_i, arrV_store]
  congr 2
  funext q
  by_cases hq : q = i.toNatClampNeg
  · subst hq
    simp [updV, uI, sI, u2]
  · simp [updV, uI, sI, u2, hq]
theorem zastW (hx : p.tables.exec = Jvm.exec) (hb : c.code = cc) (hA : arK cA s) (hm : Hm B D cA σ H) (hS : va_S (fun q => B ≤ q) s.heap H locs) {a : Nat} (ha : a < sN σ) (hk : kd a = 22) {i v : Int32} (hin : ¬ (i < 0 ∨ ln a ≤ i.toNatClampNeg)) (hv : v = 0 ∨ v = 1) (hd : decode cc pc = .ok (.bastore, 1))
    (kk : ∀ (H1 : Heap) (locs1 : List Loc), Hm B D cA (uI σ a i.toNatClampNeg v) H1 → va_S (fun q => B ≤ q) s.heap H1 locs1 → W p l e R s m args below meth c H1 locs1 ce sl Q (F0 m (pc + 1) ls rest)) : W p l e R s m args below meth c H locs ce sl Q (F0 m pc ls (.int v :: .int i :: .ref (B + a) :: rest)) := by
  have hat := hm.2 a ha
  rw [cel_z hk] at hat
  have hnar : narrow .boolean (.int v) = .int v := by rcases hv with rfl | rfl <;> rfl
  refine W.zast hx hb hat ((hA 2 rfl).1 (ln a) (fun j => .int (sI σ a j))) (fun q => by cases q) (by show ¬ (i < 0 ∨ (arrV _ _ _).slots.size ≤ _); rw [arrV_size]; exact hin) rfl rfl hd fun H1 e z oq => ?_
  refine kk H1 _ (hm.set rfl ?_ (fun b hb => cel_uI hb) z oq) (hS.put z oq (by show B ≤ B + a; omega))
  rw [cel_z hk]
  show H1[B + a]? = some (vp_cell _ _)
  rw [e, hnar]
  rw [vp_cell_i, vp_cell_i, arrV_store]
  congr 2
  funext q
  by_cases hq : q = i.toNatClampNeg
  · subst hq
    simp [updV, uI, sI, u2]
  · simp [updV, uI, sI, u2, hq]
theorem fastW (hx : p.tables.exec = Jvm.exec) (hb : c.code = cc) (hA : arK cA s) (hm : Hm B D cA σ H) (hS : va_S (fun q => B ≤ q) s.heap H locs) {a : Nat} (ha : a < sN σ) (hk : kd a = 20) {i : Int32} {v : UInt32} (hin : ¬ (i < 0 ∨ ln a ≤ i.toNatClampNeg)) (hd : decode cc pc = .ok (.fastore, 1))
    (kk : ∀ (H1 : Heap) (locs1 : List Loc), Hm B D cA (uF σ a i.toNatClampNeg v) H1 → va_S (fun q => B ≤ q) s.heap H1 locs1 → W p l e R s m args below meth c H1 locs1 ce sl Q (F0 m (pc + 1) ls rest)) : W p l e R s m args below meth c H locs ce sl Q (F0 m pc ls (.float v :: .int i :: .ref (B + a) :: rest)) := by
  have hat := hm.2 a ha
  rw [cel_f hk] at hat
  refine W.fast hx hb hat ((hA 0 rfl).1 (ln a) (fun j => .float (sF σ a j))) (fun q => by cases q) (by show ¬ (i < 0 ∨ (arrV _ _ _).slots.size ≤ _); rw [arrV_size]; exact hin) rfl rfl hd fun H1 e z oq => ?_
  refine kk H1 _ (hm.set rfl ?_ (fun b hb => cel_uF hb) z oq) (hS.put z oq (by show B ≤ B + a; omega))
  rw [cel_f hk]
  show H1[B + a]? = some (vp_cell _ _)
  rw [e]
  rw [vp_cell_f, vp_cell_f, arrV_store]
  congr 2
  funext q
  by_cases hq : q = i.toNatClampNeg
  · subst hq
    simp [updV, uF, sF, u2]
  · simp [updV, uF, sF, u2, hq]
theorem aastW (hx : p.tables.exec = Jvm.exec) (hb : c.code = cc) (hA : arK cA s) (hK : va_K D vwCl [] s) (hm : Hm B D cA σ H) (hS : va_S (fun q => B ≤ q) s.heap H locs) {a c0 : Nat} (ha : a < sN σ) (hk : kd a = 30 + c0) (hok : aok (3 + c0) = true) {C0 : String} {T : u_T} {N : Nat} (hcl : vwCl[c0]? = some (C0, T, N)) (hty : aty (3 + c0) = .object C0) (hc20 : c0 < 20) {i : Int32} {v : Option Nat} (hin : ¬ (i < 0 ∨ ln a ≤ i.toNatClampNeg)) (hv : ∀ b, v = some b → kd b = c0 ∧ b < sN σ) (hd : decode cc pc = .ok (.aastore, 1))
    (kk : ∀ (H1 : Heap) (locs1 : List Loc), Hm B D cA (uR σ a i.toNatClampNeg v) H1 → va_S (fun q => B ≤ q) s.heap H1 locs1 → W p l e R s m args below meth c H1 locs1 ce sl Q (F0 m (pc + 1) ls rest)) : W p l e R s m args below meth c H locs ce sl Q (F0 m pc ls (va_rf (v.map (fun b => B + b)) :: .int i :: .ref (B + a) :: rest)) := by
  have hat := hm.2 a ha
  rw [cel_r hk] at hat
  have fin : ∀ (H1 : Heap) (locs1 : List Loc), H1[B + a]? = some ((vp_cell (cA (3 + c0)) (ln a, .inr (.inr (.inr (.inr (fun j => (sR σ a j).map (fun b => B + b))))))).setSlot i.toNatClampNeg (va_rf (v.map (fun b => B + b)))) → H1.size = H.size → (∀ q, q ≠ B + a → H1[q]? = H[q]?) → locs1 = locs ++ [⟨B + a, i.toNatClampNeg⟩] → W p l e R s m args below meth c H1 locs1 ce sl Q (F0 m (pc + 1) ls rest) := by
    intro H1 locs1 e z oq hl
    subst hl
    refine kk H1 _ (hm.set rfl ?_ (fun b hb => cel_uR hb) z oq) (hS.put z oq (by show B ≤ B + a; omega))
    rw [cel_r hk]
    show H1[B + a]? = some (vp_cell _ _)
    rw [e]
    rw [vp_cell_q, vp_cell_q, arrV_store]
    congr 2
    funext q
    by_cases hq : q = i.toNatClampNeg
    · subst hq
      simp [updV, uR, sR, u2]
    · simp [updV, uR, sR, u2, hq]
  have hAr := hA (3 + c0) hok
  rw [hty] at hAr
  cases v with
  | none =>
    exact va_WaastN (C := C0) hx hb hat (hAr.1 (ln a) (fun j => va_rf ((sR σ a j).map (fun b => B + b)))) (fun h => by cases h) (by show ¬ (i < 0 ∨ (arrV _ _ _).slots.size ≤ _); rw [arrV_size]; exact hin) rfl rfl hd (fun H1 e z oq => fin H1 _ e z oq rfl)
  | some b =>
    obtain ⟨hb1, hb2⟩ := hv b rfl
    have hlt : i.toNatClampNeg < ln a := Nat.not_le.mp fun q => hin (Or.inr q)
    have h0 : ¬ i < 0 := fun q => hin (Or.inl q)
    have hatb := hm.2 b hb2
    rw [cel_obj hb1 hc20] at hatb
    obtain ⟨r', hr', cellV, g1, g2, g3, -⟩ := hatb
    have hcls := (hK.1 c0 _ hcl).2
    obtain ⟨kA, comp, k1, k2, k3, -⟩ := hAr.2
    have hcomp : comp = D.1 c0 := Option.some.inj (k3.symm.trans hcls.1)
    subst hcomp
    obtain ⟨kC, hkC, -⟩ := hcls.2
    exact W.aast hx hb hat (fun q h => by cases h) (fun h => by cases h) k1 k2 rfl hkC ⟨h0, by show _ < (arrV _ _ _).slots.size; rw [arrV_size]; exact hlt⟩ g1 (fun q h => by rw [g3] at h; cases h) (by rw [g2]; exact hkC) (by rw [g2]; exact va_assign hcls) rfl rfl hd (fun H1 e z oq => fin H1 _ e z oq rfl)
end CORE
end
section
def rI : Int32 → Option Value := fun v => some (.int v)
def rL : Int64 → Option Value := fun v => some (.long v)
def rF : UInt32 → Option Value := fun v => some (.float v)
def rU : Unit → Option Value := fun _ => none
def rR (B : Nat) : Option Nat → Option Value := fun v => some (va_rf (v.map (fun b => B + b)))
def gdI {β : Type} (σ : Sg) (c k : Nat) (x : Option Nat) (f : Int32 → Option β) : Option β := match x with
  | none => none
  | some a => if kd a = c ∧ a < sN σ then f (sI σ a k) else none
def gdR {β : Type} (σ : Sg) (c k : Nat) (x : Option Nat) (f : Option Nat → Option β) : Option β := match x with
  | none => none
  | some a => if kd a = c ∧ a < sN σ then f (sR σ a k) else none
def gdL {β : Type} (σ : Sg) (c k : Nat) (x : Option Nat) (f : Int64 → Option β) : Option β := match x with
  | none => none
  | some a => if kd a = c ∧ a < sN σ then f (sL σ a k) else none
def ptI {β : Type} (σ : Sg) (c k : Nat) (x : Option Nat) (v : Int32) (f : Sg → Option β) : Option β := match x with
  | none => none
  | some a => if kd a = c ∧ a < sN σ then f (uI σ a k v) else none
def ptZ {β : Type} (σ : Sg) (c k : Nat) (x : Option Nat) (v : Int32) (f : Sg → Option β) : Option β := match x with
  | none => none
  | some a => if (v = 0 ∨ v = 1) ∧ kd a = c ∧ a < sN σ then f (uI σ a k v) else none
def ptR {β : Type} (σ : Sg) (c k : Nat) (x : Option Nat) (v : Option Nat) (f : Sg → Option β) : Option β := match x with
  | none => none
  | some a => if kd a = c ∧ a < sN σ then f (uR σ a k v) else none
def ptL {β : Type} (σ : Sg) (c k : Nat) (x : Option Nat) (v : Int64) (f : Sg → Option β) : Option β := match x with
  | none => none
  | some a => if kd a = c ∧ a < sN σ then f (uL σ a k v) else none
def alI {β : Type} (σ : Sg) (x : Option Nat) (i : Int32) (f : Int32 → Option β) : Option β := match x with
  | none => none
  | some a => if kd a = 21 ∧ a < sN σ ∧ ¬ (i < 0 ∨ ln a ≤ i.toNatClampNeg) then f (sI σ a i.toNatClampNeg) else none
def alZ {β : Type} (σ : Sg) (x : Option Nat) (i : Int32) (f : Int32 → Option β) : Option β := match x with
  | none => none
  | some a => if kd a = 22 ∧ a < sN σ ∧ ¬ (i < 0 ∨ ln a ≤ i.toNatClampNeg) then f (sI σ a i.toNatClampNeg) else none
def alF {β : Type} (σ : Sg) (x : Option Nat) (i : Int32) (f : UInt32 → Option β) : Option β := match x with
  | none => none
  | some a => if kd a = 20 ∧ a < sN σ ∧ ¬ (i < 0 ∨ ln a ≤ i.toNatClampNeg) then f (sF σ a i.toNatClampNeg) else none
def alR {β : Type} (σ : Sg) (c : Nat) (x : Option Nat) (i : Int32) (f : Option Nat → Option β) : Option β := match x with
  | none => none
  | some a => if kd a = 30 + c ∧ a < sN σ ∧ ¬ (i < 0 ∨ ln a ≤ i.toNatClampNeg) then f (sR σ a i.toNatClampNeg) else none
def asI {β : Type} (σ : Sg) (x : Option Nat) (i v : Int32) (f : Sg → Option β) : Option β := match x with
  | none => none
  | some a => if kd a = 21 ∧ a < sN σ ∧ ¬ (i < 0 ∨ ln a ≤ i.toNatClampNeg) then f (uI σ a i.toNatClampNeg v) else none
def asZ {β : Type} (σ : Sg) (x : Option Nat) (i v : Int32) (f : Sg → Option β) : Option β := match x with
  | none => none
  | some a => if (v = 0 ∨ v = 1) ∧ kd a = 22 ∧ a < sN σ ∧ ¬ (i < 0 ∨ ln a ≤ i.toNatClampNeg) then f (uI σ a i.toNatClampNeg v) else none
def asF {β : Type} (σ : Sg) (x : Option Nat) (i : Int32) (v : UInt32) (f : Sg → Option β) : Option β := match x with
  | none => none
  | some a => if kd a = 20 ∧ a < sN σ ∧ ¬ (i < 0 ∨ ln a ≤ i.toNatClampNeg) then f (uF σ a i.toNatClampNeg v) else none
/-- what is stored is null, or an object of that very class -/
def isAb (σ : Sg) (c : Nat) : Option Nat → Bool
  | none => true
  | some b => decide (kd b = c ∧ b < sN σ)
def asR {β : Type} (σ : Sg) (c : Nat) (x : Option Nat) (i : Int32) (v : Option Nat) (f : Sg → Option β) : Option β := match x with
  | none => none
  | some a => if isAb σ c v = true ∧ kd a = 30 + c ∧ a < sN σ ∧ ¬ (i < 0 ∨ ln a ≤ i.toNatClampNeg) then f (uR σ a i.toNatClampNeg v) else none
def aln {β : Type} (σ : Sg) (x : Option Nat) (f : Int32 → Option β) : Option β := match x with
  | none => none
  | some a => if (kd a = 20 ∨ kd a = 21 ∨ kd a = 22 ∨ (30 ≤ kd a ∧ aok (kd a - 27) = true)) ∧ a < sN σ then f (Int32.ofNat (ln a)) else none
def gS {β : Type} (k : Nat) (i : Int32) (f : Int32 → Option β) : Option β := if ¬ (i < 0 ∨ (stV k).length ≤ i.toNatClampNeg) then f (stv k i.toNatClampNeg) else none
def cv {β : Type} (σ : Sg) (c : Nat) (x : Option Nat) (f : Nat → Option β) : Option β := match x with
  | none => none
  | some a => if kd a = c ∧ a < sN σ then f a else none
def cl {α β : Type} (x : Option (α × Sg)) (f : α → Sg → Option β) : Option β := match x with
  | none => none
  | some q => f q.1 q.2
def ckB {β : Type} (v : Int32) (x : Option β) : Option β := if v = 0 ∨ v = 1 then x else none

theorem k_getI {α : Type} {E : EE} {cc : ByteArray} {own : String} {nL : Nat} {ret : Option FieldType} {rv : α → Option Value} {mc ms ce sl pc : Nat} {lv : List (Nat × Lv)} {st : List Lv} {σ : Sg} {x : Option Nat} {c0 k0 : Nat} {C n d : String} {fin : Bool} {ty : FieldType} {idx : Nat} {f : Int32 → Option (α × Sg)} (h : Ok E cc own nL ret) (hF : Fld c0 k0 0 C n d fin ty) (hlk' : LkF own idx C n d) (hd : decode cc pc = .ok (.getfield idx, 3)) (k : ∀ v, Wq E rv nL mc ms ce sl (pc + 3) lv (LI v :: st) σ (f v)) : Wq E rv nL mc ms ce sl pc lv (LR x :: st) σ (gdI σ c0 k0 x f) := by
  obtain ⟨p, l, e, R, s, m, args, below, meth, c, B, D, cA, sa⟩ := E
  obtain ⟨hx, hb, hml, hr, ho, ht, hK, hA, hn, hst, hlk⟩ := h
  intro r σ' hxx H locs ls hm hS hl
  cases x with
  | none => simp [gdI] at hxx
  | some a =>
    simp only [gdI] at hxx
    by_cases hz : kd a = c0 ∧ a < sN σ
    · rw [if_pos hz] at hxx
      exact getW hx hb ho ht hn hK hm hF hlk' hz.2 hz.1 hd (k _ r σ' hxx H locs ls hm hS hl)
    · rw [if_neg hz] at hxx; cases hxx

theorem k_getR {α : Type} {E : EE} {cc : ByteArray} {own : String} {nL : Nat} {ret : Option FieldType} {rv : α → Option Value} {mc ms ce sl pc : Nat} {lv : List (Nat × Lv)} {st : List Lv} {σ : Sg} {x : Option Nat} {c0 k0 : Nat} {C n d : String} {fin : Bool} {ty : FieldType} {idx : Nat} {f : Option Nat → Option (α × Sg)} (h : Ok E cc own nL ret) (hF : Fld c0 k0 1 C n d fin ty) (hlk' : LkF own idx C n d) (hd : decode cc pc = .ok (.getfield idx, 3)) (k : ∀ v, Wq E rv nL mc ms ce sl (pc + 3) lv (LR v :: st) σ (f v)) : Wq E rv nL mc ms ce sl pc lv (LR x :: st) σ (gdR σ c0 k0 x f) := by
  obtain ⟨p, l, e, R, s, m, args, below, meth, c, B, D, cA, sa⟩ := E
  obtain ⟨hx, hb, hml, hr, ho, ht, hK, hA, hn, hst, hlk⟩ := h
  intro r σ' hxx H locs ls hm hS hl
  cases x with
  | none => simp [gdR] at hxx
  | some a =>
    simp only [gdR] at hxx
    by_cases hz : kd a = c0 ∧ a < sN σ
    · rw [if_pos hz] at hxx
      exact getW hx hb ho ht hn hK hm hF hlk' hz.2 hz.1 hd (k _ r σ' hxx H locs ls hm hS hl)
    · rw [if_neg hz] at hxx; cases hxx

theorem k_getL {α : Type} {E : EE} {cc : ByteArray} {own : String} {nL : Nat} {ret : Option FieldType} {rv : α → Option Value} {mc ms ce sl pc : Nat} {lv : List (Nat × Lv)} {st : List Lv} {σ : Sg} {x : Option Nat} {c0 k0 : Nat} {C n d : String} {fin : Bool} {ty : FieldType} {idx : Nat} {f : Int64 → Option (α × Sg)} (h : Ok E cc own nL ret) (hF : Fld c0 k0 2 C n d fin ty) (hlk' : LkF own idx C n d) (hd : decode cc pc = .ok (.getfield idx, 3)) (k : ∀ v, Wq E rv nL mc ms ce sl (pc + 3) lv (LL v :: st) σ (f v)) : Wq E rv nL mc ms ce sl pc lv (LR x :: st) σ (gdL σ c0 k0 x f) := by
  obtain ⟨p, l, e, R, s, m, args, below, meth, c, B, D, cA, sa⟩ := E
  obtain ⟨hx, hb, hml, hr, ho, ht, hK, hA, hn, hst, hlk⟩ := h
  intro r σ' hxx H locs ls hm hS hl
  cases x with
  | none => simp [gdL] at hxx
  | some a =>
    simp only [gdL] at hxx
    by_cases hz : kd a = c0 ∧ a < sN σ
    · rw [if_pos hz] at hxx
      exact getW hx hb ho ht hn hK hm hF hlk' hz.2 hz.1 hd (k _ r σ' hxx H locs ls hm hS hl)
    · rw [if_neg hz] at hxx; cases hxx

theorem k_putI {α : Type} {E : EE} {cc : ByteArray} {own : String} {nL : Nat} {ret : Option FieldType} {rv : α → Option Value} {mc ms ce sl pc : Nat} {lv : List (Nat × Lv)} {st : List Lv} {σ : Sg} {x : Option Nat} {c0 k0 : Nat} {C n d : String} {fin : Bool} {idx : Nat} {v : Int32} {f : Sg → Option (α × Sg)} (h : Ok E cc own nL ret) (hF : Fld c0 k0 0 C n d fin .int) (hlk' : LkF own idx C n d) (hfin : fin = false) (hd : decode cc pc = .ok (.putfield idx, 3)) (k : ∀ σ1, Wq E rv nL mc ms ce sl (pc + 3) lv st σ1 (f σ1)) : Wq E rv nL mc ms ce sl pc lv (LI v :: LR x :: st) σ (ptI σ c0 k0 x v f) := by
  obtain ⟨p, l, e, R, s, m, args, below, meth, c, B, D, cA, sa⟩ := E
  obtain ⟨hx, hb, hml, hr, ho, ht, hK, hA, hn, hst, hlk⟩ := h
  intro r σ' hxx H locs ls hm hS hl
  cases x with
  | none => simp [ptI] at hxx
  | some a =>
    simp only [ptI] at hxx
    by_cases hz : kd a = c0 ∧ a < sN σ
    · rw [if_pos hz] at hxx
      exact putW (σ' := uI σ a k0 v) hx hb ho ht hn hK hm hS hF hlk' hz.2 hz.1 (Or.inl hfin) rfl rfl rfl tv_uI (fun b hb => cel_uI hb) hd (fun H1 locs1 hm1 hS1 => k _ r σ' hxx H1 locs1 ls hm1 hS1 hl)
    · rw [if_neg hz] at hxx; cases hxx

theorem k_putZ {α : Type} {E : EE} {cc : ByteArray} {own : String} {nL : Nat} {ret : Option FieldType} {rv : α → Option Value} {mc ms ce sl pc : Nat} {lv : List (Nat × Lv)} {st : List Lv} {σ : Sg} {x : Option Nat} {c0 k0 : Nat} {C n d : String} {fin : Bool} {idx : Nat} {v : Int32} {f : Sg → Option (α × Sg)} (h : Ok E cc own nL ret) (hF : Fld c0 k0 0 C n d fin .boolean) (hlk' : LkF own idx C n d) (hfin : fin = false) (hd : decode cc pc = .ok (.putfield idx, 3)) (k : ∀ σ1, Wq E rv nL mc ms ce sl (pc + 3) lv st σ1 (f σ1)) : Wq E rv nL mc ms ce sl pc lv (LI v :: LR x :: st) σ (ptZ σ c0 k0 x v f) := by
  obtain ⟨p, l, e, R, s, m, args, below, meth, c, B, D, cA, sa⟩ := E
  obtain ⟨hx, hb, hml, hr, ho, ht, hK, hA, hn, hst, hlk⟩ := h
  intro r σ' hxx H locs ls hm hS hl
  cases x with
  | none => simp [ptZ] at hxx
  | some a =>
    simp only [ptZ] at hxx
    by_cases hz : (v = 0 ∨ v = 1) ∧ kd a = c0 ∧ a < sN σ
    · rw [if_pos hz] at hxx
      exact putW (σ' := uI σ a k0 v) hx hb ho ht hn hK hm hS hF hlk' hz.2.2 hz.2.1 (Or.inl hfin) (by rcases hz.1 with q | q <;> subst q <;> rfl) (by rcases hz.1 with q | q <;> subst q <;> rfl) rfl tv_uI (fun b hb => cel_uI hb) hd (fun H1 locs1 hm1 hS1 => k _ r σ' hxx H1 locs1 ls hm1 hS1 hl)
    · rw [if_neg hz] at hxx; cases hxx

theorem k_putR {α : Type} {E : EE} {cc : ByteArray} {own : String} {nL : Nat} {ret : Option FieldType} {rv : α → Option Value} {mc ms ce sl pc : Nat} {lv : List (Nat × Lv)} {st : List Lv} {σ : Sg} {x : Option Nat} {c0 k0 : Nat} {C n d : String} {fin : Bool} {ty : FieldType} {idx : Nat} {v : Option Nat} {f : Sg → Option (α × Sg)} (h : Ok E cc own nL ret) (hF : Fld c0 k0 1 C n d fin ty) (hty : (∃ o, ty = .object o) ∨ ∃ o, ty = .array o) (hlk' : LkF own idx C n d) (hfin : fin = false) (hd : decode cc pc = .ok (.putfield idx, 3)) (k : ∀ σ1, Wq E rv nL mc ms ce sl (pc + 3) lv st σ1 (f σ1)) : Wq E rv nL mc ms ce sl pc lv (LR v :: LR x :: st) σ (ptR σ c0 k0 x v f) := by
  obtain ⟨p, l, e, R, s, m, args, below, meth, c, B, D, cA, sa⟩ := E
  obtain ⟨hx, hb, hml, hr, ho, ht, hK, hA, hn, hst, hlk⟩ := h
  intro r σ' hxx H locs ls hm hS hl
  cases x with
  | none => simp [ptR] at hxx
  | some a =>
    simp only [ptR] at hxx
    by_cases hz : kd a = c0 ∧ a < sN σ
    · rw [if_pos hz] at hxx
      exact putW (σ' := uR σ a k0 v) hx hb ho ht hn hK hm hS hF hlk' hz.2 hz.1 (Or.inl hfin) (by rcases hty with ⟨o, rfl⟩ | ⟨o, rfl⟩ <;> cases v <;> rfl) (by rcases hty with ⟨o, rfl⟩ | ⟨o, rfl⟩ <;> cases v <;> rfl) rfl tv_uR (fun b hb => cel_uR hb) hd (fun H1 locs1 hm1 hS1 => k _ r σ' hxx H1 locs1 ls hm1 hS1 hl)
    · rw [if_neg hz] at hxx; cases hxx

theorem k_putL {α : Type} {E : EE} {cc : ByteArray} {own : String} {nL : Nat} {ret : Option FieldType} {rv : α → Option Value} {mc ms ce sl pc : Nat} {lv : List (Nat × Lv)} {st : List Lv} {σ : Sg} {x : Option Nat} {c0 k0 : Nat} {C n d : String} {fin : Bool} {idx : Nat} {v : Int64} {f : Sg → Option (α × Sg)} (h : Ok E cc own nL ret) (hF : Fld c0 k0 2 C n d fin .long) (hlk' : LkF own idx C n d) (hfin : fin = false) (hd : decode cc pc = .ok (.putfield idx, 3)) (k : ∀ σ1, Wq E rv nL mc ms ce sl (pc + 3) lv st σ1 (f σ1)) : Wq E rv nL mc ms ce sl pc lv (LL v :: LR x :: st) σ (ptL σ c0 k0 x v f) := by
  obtain ⟨p, l, e, R, s, m, args, below, meth, c, B, D, cA, sa⟩ := E
  obtain ⟨hx, hb, hml, hr, ho, ht, hK, hA, hn, hst, hlk⟩ := h
  intro r σ' hxx H locs ls hm hS hl
  cases x with
  | none => simp [ptL] at hxx
  | some a =>
    simp only [ptL] at hxx
    by_cases hz : kd a = c0 ∧ a < sN σ
    · rw [if_pos hz] at hxx
      exact putW (σ' := uL σ a k0 v) hx hb ho ht hn hK hm hS hF hlk' hz.2 hz.1 (Or.inl hfin) rfl rfl rfl tv_uL (fun b hb => cel_uL hb) hd (fun H1 locs1 hm1 hS1 => k _ r σ' hxx H1 locs1 ls hm1 hS1 hl)
    · rw [if_neg hz] at hxx; cases hxx

theorem k_alI {α : Type} {E : EE} {cc : ByteArray} {own : String} {nL : Nat} {ret : Option FieldType} {rv : α → Option Value} {mc ms ce sl pc : Nat} {lv : List (Nat × Lv)} {st : List Lv} {σ : Sg} {x : Option Nat} {i : Int32} {f : Int32 → Option (α × Sg)} (h : Ok E cc own nL ret) (hd : decode cc pc = .ok (.iaload, 1)) (k : ∀ v, Wq E rv nL mc ms ce sl (pc + 1) lv (LI v :: st) σ (f v)) : Wq E rv nL mc ms ce sl pc lv (LI i :: LR x :: st) σ (alI σ x i f) := by
  obtain ⟨p, l, e, R, s, m, args, below, meth, c, B, D, cA, sa⟩ := E
  obtain ⟨hx, hb, hml, hr, ho, ht, hK, hA, hn, hst, hlk⟩ := h
  intro r σ' hxx H locs ls hm hS hl
  cases x with
  | none => simp [alI] at hxx
  | some a =>
    simp only [alI] at hxx
    by_cases hz : kd a = 21 ∧ a < sN σ ∧ ¬ (i < 0 ∨ ln a ≤ i.toNatClampNeg)
    · rw [if_pos hz] at hxx
      have hat := hm.2 a hz.2.1
      rw [cel_i hz.1] at hat
      exact va_iald (tys := [(cA 1, aty 1)]) hx hb (hA.one hK 1 rfl) (va_P1 hat) 0 0 rfl rfl hz.2.2 hd (k _ r σ' hxx H locs ls hm hS hl)
    · rw [if_neg hz] at hxx; cases hxx

theorem k_alZ {α : Type} {E : EE} {cc : ByteArray} {own : String} {nL : Nat} {ret : Option FieldType} {rv : α → Option Value} {mc ms ce sl pc : Nat} {lv : List (Nat × Lv)} {st : List Lv} {σ : Sg} {x : Option Nat} {i : Int32} {f : Int32 → Option (α × Sg)} (h : Ok E cc own nL ret) (hd : decode cc pc = .ok (.baload, 1)) (k : ∀ v, Wq E rv nL mc ms ce sl (pc + 1) lv (LI v :: st) σ (f v)) : Wq E rv nL mc ms ce sl pc lv (LI i :: LR x :: st) σ (alZ σ x i f) := by
  obtain ⟨p, l, e, R, s, m, args, below, meth, c, B, D, cA, sa⟩ := E
  obtain ⟨hx, hb, hml, hr, ho, ht, hK, hA, hn, hst, hlk⟩ := h
  intro r σ' hxx H locs ls hm hS hl
  cases x with
  | none => simp [alZ] at hxx
  | some a =>
    simp only [alZ] at hxx
    by_cases hz : kd a = 22 ∧ a < sN σ ∧ ¬ (i < 0 ∨ ln a ≤ i.toNatClampNeg)
    · rw [if_pos hz] at hxx
      have hat := hm.2 a hz.2.1
      rw [cel_z hz.1] at hat
      exact va_zald (tys := [(cA 2, aty 2)]) hx hb (hA.one hK 2 rfl) (va_P1 hat) 0 0 rfl rfl hz.2.2 hd (k _ r σ' hxx H locs ls hm hS hl)
    · rw [if_neg hz] at hxx; cases hxx

theorem k_alF {α : Type} {E : EE} {cc : ByteArray} {own : String} {nL : Nat} {ret : Option FieldType} {rv : α → Option Value} {mc ms ce sl pc : Nat} {lv : List (Nat × Lv)} {st : List Lv} {σ : Sg} {x : Option Nat} {i : Int32} {f : UInt32 → Option (α × Sg)} (h : Ok E cc own nL ret) (hd : decode cc pc = .ok (.faload, 1)) (k : ∀ v, Wq E rv nL mc ms ce sl (pc + 1) lv (LF v :: st) σ (f v)) : Wq E rv nL mc ms ce sl pc lv (LI i :: LR x :: st) σ (alF σ x i f) := by
  obtain ⟨p, l, e, R, s, m, args, below, meth, c, B, D, cA, sa⟩ := E
  obtain ⟨hx, hb, hml, hr, ho, ht, hK, hA, hn, hst, hlk⟩ := h
  intro r σ' hxx H locs ls hm hS hl
  cases x with
  | none => simp [alF] at hxx
  | some a =>
    simp only [alF] at hxx
    by_cases hz : kd a = 20 ∧ a < sN σ ∧ ¬ (i < 0 ∨ ln a ≤ i.toNatClampNeg)
    · rw [if_pos hz] at hxx
      have hat := hm.2 a hz.2.1
      rw [cel_f hz.1] at hat
      exact va_fald (tys := [(cA 0, aty 0)]) hx hb (hA.one hK 0 rfl) (va_P1 hat) 0 0 rfl rfl hz.2.2 hd (k _ r σ' hxx H locs ls hm hS hl)
    · rw [if_neg hz] at hxx; cases hxx

theorem k_alR {α : Type} {E : EE} {cc : ByteArray} {own : String} {nL : Nat} {ret : Option FieldType} {rv : α → Option Value} {mc ms ce sl pc : Nat} {lv : List (Nat × Lv)} {st : List Lv} {σ : Sg} {x : Option Nat} {i : Int32} {c0 : Nat} {C0 : String} {f : Option Nat → Option (α × Sg)} (h : Ok E cc own nL ret) (hok : aok (3 + c0) = true) (hty : aty (3 + c0) = .object C0) (hd : decode cc pc = .ok (.aaload, 1)) (k : ∀ v, Wq E rv nL mc ms ce sl (pc + 1) lv (LR v :: st) σ (f v)) : Wq E rv nL mc ms ce sl pc lv (LI i :: LR x :: st) σ (alR σ c0 x i f) := by
  obtain ⟨p, l, e, R, s, m, args, below, meth, c, B, D, cA, sa⟩ := E
  obtain ⟨hx, hb, hml, hr, ho, ht, hK, hA, hn, hst, hlk⟩ := h
  intro r σ' hxx H locs ls hm hS hl
  cases x with
  | none => simp [alR] at hxx
  | some a =>
    simp only [alR] at hxx
    by_cases hz : kd a = 30 + c0 ∧ a < sN σ ∧ ¬ (i < 0 ∨ ln a ≤ i.toNatClampNeg)
    · rw [if_pos hz] at hxx
      have hat := hm.2 a hz.2.1
      rw [cel_r hz.1] at hat
      exact va_aldq (C := C0) (tys := [(cA (3 + c0), aty (3 + c0))]) hx hb (hA.one hK (3 + c0) hok) (va_P1 hat) 0 0 rfl (by rw [hty]; rfl) hz.2.2 hd (k _ r σ' hxx H locs ls hm hS hl)
    · rw [if_neg hz] at hxx; cases hxx

theorem k_asI {α : Type} {E : EE} {cc : ByteArray} {own : String} {nL : Nat} {ret : Option FieldType} {rv : α → Option Value} {mc ms ce sl pc : Nat} {lv : List (Nat × Lv)} {st : List Lv} {σ : Sg} {x : Option Nat} {i : Int32} {v : Int32} {f : Sg → Option (α × Sg)} (h : Ok E cc own nL ret) (hd : decode cc pc = .ok (.iastore, 1)) (k : ∀ σ1, Wq E rv nL mc ms ce sl (pc + 1) lv st σ1 (f σ1)) : Wq E rv nL mc ms ce sl pc lv (LI v :: LI i :: LR x :: st) σ (asI σ x i v f) := by
  obtain ⟨p, l, e, R, s, m, args, below, meth, c, B, D, cA, sa⟩ := E
  obtain ⟨hx, hb, hml, hr, ho, ht, hK, hA, hn, hst, hlk⟩ := h
  intro r σ' hxx H locs ls hm hS hl
  cases x with
  | none => simp [asI] at hxx
  | some a =>
    simp only [asI] at hxx
    by_cases hz : kd a = 21 ∧ a < sN σ ∧ ¬ (i < 0 ∨ ln a ≤ i.toNatClampNeg)
    · rw [if_pos hz] at hxx
      exact iastW hx hb hA hm hS hz.2.1 hz.1 hz.2.2 hd (fun H1 locs1 hm1 hS1 => k _ r σ' hxx H1 locs1 ls hm1 hS1 hl)
    · rw [if_neg hz] at hxx; cases hxx

theorem k_asZ {α : Type} {E : EE} {cc : ByteArray} {own : String} {nL : Nat} {ret : Option FieldType} {rv : α → Option Value} {mc ms ce sl pc : Nat} {lv : List (Nat × Lv)} {st : List Lv} {σ : Sg} {x : Option Nat} {i : Int32} {v : Int32} {f : Sg → Option (α × Sg)} (h : Ok E cc own nL ret) (hd : decode cc pc = .ok (.bastore, 1)) (k : ∀ σ1, Wq E rv nL mc ms ce sl (pc + 1) lv st σ1 (f σ1)) : Wq E rv nL mc ms ce sl pc lv (LI v :: LI i :: LR x :: st) σ (asZ σ x i v f) := by
  obtain ⟨p, l, e, R, s, m, args, below, meth, c, B, D, cA, sa⟩ := E
  obtain ⟨hx, hb, hml, hr, ho, ht, hK, hA, hn, hst, hlk⟩ := h
  intro r σ' hxx H locs ls hm hS hl
  cases x with
  | none => simp [asZ] at hxx
  | some a =>
    simp only [asZ] at hxx
    by_cases hz : (v = 0 ∨ v = 1) ∧ kd a = 22 ∧ a < sN σ ∧ ¬ (i < 0 ∨ ln a ≤ i.toNatClampNeg)
    · rw [if_pos hz] at hxx
      exact zastW hx hb hA hm hS hz.2.2.1 hz.2.1 hz.2.2.2 hz.1 hd (fun H1 locs1 hm1 hS1 => k _ r σ' hxx H1 locs1 ls hm1 hS1 hl)
    · rw [if_neg hz] at hxx; cases hxx

theorem k_asF {α : Type} {E : EE} {cc : ByteArray} {own : String} {nL : Nat} {ret : Option FieldType} {rv : α → Option Value} {mc ms ce sl pc : Nat} {lv : List (Nat × Lv)} {st : List Lv} {σ : Sg} {x : Option Nat} {i : Int32} {v : UInt32} {f : Sg → Option (α × Sg)} (h : Ok E cc own nL ret) (hd : decode cc pc = .ok (.fastore, 1)) (k : ∀ σ1, Wq E rv nL mc ms ce sl (pc + 1) lv st σ1 (f σ1)) : Wq E rv nL mc ms ce sl pc lv (LF v :: LI i :: LR x :: st) σ (asF σ x i v f) := by
  obtain ⟨p, l, e, R, s, m, args, below, meth, c, B, D, cA, sa⟩ := E
  obtain ⟨hx, hb, hml, hr, ho, ht, hK, hA, hn, hst, hlk⟩ := h
  intro r σ' hxx H locs ls hm hS hl
  cases x with
  | none => simp [asF] at hxx
  | some a =>
    simp only [asF] at hxx
    by_cases hz : kd a = 20 ∧ a < sN σ ∧ ¬ (i < 0 ∨ ln a ≤ i.toNatClampNeg)
    · rw [if_pos hz] at hxx
      exact fastW hx hb hA hm hS hz.2.1 hz.1 hz.2.2 hd (fun H1 locs1 hm1 hS1 => k _ r σ' hxx H1 locs1 ls hm1 hS1 hl)
    · rw [if_neg hz] at hxx; cases hxx

theorem k_asR {α : Type} {E : EE} {cc : ByteArray} {own : String} {nL : Nat} {ret : Option FieldType} {rv : α → Option Value} {mc ms ce sl pc : Nat} {lv : List (Nat × Lv)} {st : List Lv} {σ : Sg} {x : Option Nat} {i : Int32} {v : Option Nat} {c0 N : Nat} {C0 : String} {T : u_T} {f : Sg → Option (α × Sg)} (h : Ok E cc own nL ret) (hok : aok (3 + c0) = true) (hty : aty (3 + c0) = .object C0) (hcl : vwCl[c0]? = some (C0, T, N)) (hc20 : c0 < 20) (hd : decode cc pc = .ok (.aastore, 1)) (k : ∀ σ1, Wq E rv nL mc ms ce sl (pc + 1) lv st σ1 (f σ1)) : Wq E rv nL mc ms ce sl pc lv (LR v :: LI i :: LR x :: st) σ (asR σ c0 x i v f) := by
  obtain ⟨p, l, e, R, s, m, args, below, meth, c, B, D, cA, sa⟩ := E
  obtain ⟨hx, hb, hml, hr, ho, ht, hK, hA, hn, hst, hlk⟩ := h
  intro r σ' hxx H locs ls hm hS hl
  cases x with
  | none => simp [asR] at hxx
  | some a =>
    simp only [asR] at hxx
    by_cases hz : isAb σ c0 v = true ∧ kd a = 30 + c0 ∧ a < sN σ ∧ ¬ (i < 0 ∨ ln a ≤ i.toNatClampNeg)
    · rw [if_pos hz] at hxx
      exact aastW hx hb hA hK hm hS hz.2.2.1 hz.2.1 hok hcl hty hc20 hz.2.2.2 (fun b q => by subst q; simpa [isAb] using hz.1) hd (fun H1 locs1 hm1 hS1 => k _ r σ' hxx H1 locs1 ls hm1 hS1 hl)
    · rw [if_neg hz] at hxx; cases hxx

theorem k_aln {α : Type} {E : EE} {cc : ByteArray} {own : String} {nL : Nat} {ret : Option FieldType} {rv : α → Option Value} {mc ms ce sl pc : Nat} {lv : List (Nat × Lv)} {st : List Lv} {σ : Sg} {x : Option Nat} {f : Int32 → Option (α × Sg)} (h : Ok E cc own nL ret) (hd : decode cc pc = .ok (.arraylength, 1)) (k : ∀ v, Wq E rv nL mc ms ce sl (pc + 1) lv (LI v :: st) σ (f v)) : Wq E rv nL mc ms ce sl pc lv (LR x :: st) σ (aln σ x f) := by
  obtain ⟨p, l, e, R, s, m, args, below, meth, c, B, D, cA, sa⟩ := E
  obtain ⟨hx, hb, hml, hr, ho, ht, hK, hA, hn, hst, hlk⟩ := h
  intro r σ' hxx H locs ls hm hS hl
  cases x with
  | none => simp [aln] at hxx
  | some a =>
    simp only [aln] at hxx
    by_cases hz : (kd a = 20 ∨ kd a = 21 ∨ kd a = 22 ∨ (30 ≤ kd a ∧ aok (kd a - 27) = true)) ∧ a < sN σ
    · rw [if_pos hz] at hxx
      have hat := hm.2 a hz.2
      have k9 := k _ r σ' hxx H locs ls hm hS hl
      rcases hz.1 with q | q | q | ⟨q, q2⟩
      · rw [cel_f q] at hat
        exact va_alen (tys := [(cA 0, aty 0)]) hx hb (hA.one hK 0 rfl) (va_P1 hat) 0 0 rfl rfl rfl hd k9
      · rw [cel_i q] at hat
        exact va_alen (tys := [(cA 1, aty 1)]) hx hb (hA.one hK 1 rfl) (va_P1 hat) 0 0 rfl rfl rfl hd k9
      · rw [cel_z q] at hat
        exact va_alen (tys := [(cA 2, aty 2)]) hx hb (hA.one hK 2 rfl) (va_P1 hat) 0 0 rfl rfl rfl hd k9
      · have q3 : kd a - 27 = 3 + (kd a - 30) := by omega
        rw [q3] at q2
        rw [cel_r (c := kd a - 30) (by omega)] at hat
        exact va_alen (tys := [(cA (3 + (kd a - 30)), aty (3 + (kd a - 30)))]) hx hb (hA.one hK _ q2) (va_P1 hat) 0 0 rfl rfl rfl hd k9
    · rw [if_neg hz] at hxx; cases hxx

theorem k_gets {α : Type} {E : EE} {cc : ByteArray} {own : String} {nL : Nat} {ret : Option FieldType} {rv : α → Option Value} {mc ms ce sl pc : Nat} {lv : List (Nat × Lv)} {st : List Lv} {σ : Sg} {x : Option (α × Sg)} {k0 idx : Nat} (h : Ok E cc own nL ret) (hk : k0 < 3) (hlk' : LkF own idx RX8 (stN k0) "[I") (hd : decode cc pc = .ok (.getstatic idx, 3)) (k : Wq E rv nL mc ms ce sl (pc + 3) lv (LT k0 :: st) σ x) : Wq E rv nL mc ms ce sl pc lv st σ x := by
  obtain ⟨p, l, e, R, s, m, args, below, meth, c, B, D, cA, sa⟩ := E
  obtain ⟨hx, hb, hml, hr, ho, ht, hK, hA, hn, hst, hlk⟩ := h
  intro r σ' hxx H locs ls hm hS hl
  have hZ := (hst k0 hk).1
  have k9 := k r σ' hxx H locs ls hm hS hl
  rcases hlk' with hl' | ⟨host, hl'⟩
  · exact va_gets hx hb hZ hS ho (ht _ hl') (fun _ h => h) hd k9
  · exact va_getsN hx hb hZ hS ho (va_Nw.use rfl (hn _ hl')) (fun _ h => h) hd k9

theorem k_alS {α : Type} {E : EE} {cc : ByteArray} {own : String} {nL : Nat} {ret : Option FieldType} {rv : α → Option Value} {mc ms ce sl pc : Nat} {lv : List (Nat × Lv)} {st : List Lv} {σ : Sg} {i : Int32} {k0 : Nat} {f : Int32 → Option (α × Sg)} (h : Ok E cc own nL ret) (hk : k0 < 3) (hd : decode cc pc = .ok (.iaload, 1)) (k : ∀ v, Wq E rv nL mc ms ce sl (pc + 1) lv (LI v :: st) σ (f v)) : Wq E rv nL mc ms ce sl pc lv (LI i :: LT k0 :: st) σ (gS k0 i f) := by
  obtain ⟨p, l, e, R, s, m, args, below, meth, c, B, D, cA, sa⟩ := E
  obtain ⟨hx, hb, hml, hr, ho, ht, hK, hA, hn, hst, hlk⟩ := h
  intro r σ' hxx H locs ls hm hS hl
  unfold gS at hxx
  by_cases hz : ¬ (i < 0 ∨ (stV k0).length ≤ i.toNatClampNeg)
  · rw [if_pos hz] at hxx
    exact va_ti hx hb (hst k0 hk).2 hS hz rfl hd (k _ r σ' hxx H locs ls hm hS hl)
  · rw [if_neg hz] at hxx; cases hxx

theorem k_iret {E : EE} {cc : ByteArray} {own : String} {nL : Nat} {ret : Option FieldType} {mc ms ce sl pc : Nat} {lv : List (Nat × Lv)} {σ : Sg} {v : Int32} (h : Ok E cc own nL ret) (hr0 : ret = some .int) (hd : decode cc pc = .ok (.ireturn, 1)) (h1 : ce ≤ mc) (h2 : sl ≤ ms) : Wq (α := Int32) E rI nL mc ms ce sl pc lv [LI v] σ (some (v, σ)) := by
  obtain ⟨p, l, e, R, s, m, args, below, meth, c, B, D, cA, sa⟩ := E
  obtain ⟨hx, hb, hml, hr, ho, ht, hK, hA, hn, hst, hlk⟩ := h
  intro r σ' hxx H locs ls hm hS hl
  cases hxx
  have hq : ∀ t : State, t.heap = H → s.WarmedH t.vm → Qr B D cA rI v σ args s (.returned (rI v)) t := fun t h9 _ => ⟨rfl, by rw [h9]; exact hm, hS.F h9⟩
  refine W.widen h1 h2 ?_
  exact W.iret hx hb (by rw [hr, hr0]) hq hS.2.2 hd hlk

theorem k_zret {E : EE} {cc : ByteArray} {own : String} {nL : Nat} {ret : Option FieldType} {mc ms ce sl pc : Nat} {lv : List (Nat × Lv)} {σ : Sg} {v : Int32} (h : Ok E cc own nL ret) (hr0 : ret = some .boolean) (hd : decode cc pc = .ok (.ireturn, 1)) (h1 : ce ≤ mc) (h2 : sl ≤ ms) : Wq (α := Int32) E rI nL mc ms ce sl pc lv [LI v] σ (ckB v (some (v, σ))) := by
  obtain ⟨p, l, e, R, s, m, args, below, meth, c, B, D, cA, sa⟩ := E
  obtain ⟨hx, hb, hml, hr, ho, ht, hK, hA, hn, hst, hlk⟩ := h
  intro r σ' hxx H locs ls hm hS hl
  unfold ckB at hxx
  have hz : v = 0 ∨ v = 1 := by
    by_cases hz : v = 0 ∨ v = 1
    · exact hz
    · rw [if_neg hz] at hxx; cases hxx
  rw [if_pos hz] at hxx
  cases hxx
  have hq : ∀ t : State, t.heap = H → s.WarmedH t.vm → Qr B D cA rI v σ args s (.returned (rI v)) t := fun t h9 _ => ⟨rfl, by rw [h9]; exact hm, hS.F h9⟩
  refine W.widen h1 h2 ?_
  exact W.zret hx hb (by rw [hr, hr0]) (by rcases hz with q | q <;> subst q <;> rfl) hq hS.2.2 hd hlk

theorem k_lret {E : EE} {cc : ByteArray} {own : String} {nL : Nat} {ret : Option FieldType} {mc ms ce sl pc : Nat} {lv : List (Nat × Lv)} {σ : Sg} {v : Int64} (h : Ok E cc own nL ret) (hr0 : ret = some .long) (hd : decode cc pc = .ok (.lreturn, 1)) (h1 : ce ≤ mc) (h2 : sl ≤ ms) : Wq (α := Int64) E rL nL mc ms ce sl pc lv [LL v] σ (some (v, σ)) := by
  obtain ⟨p, l, e, R, s, m, args, below, meth, c, B, D, cA, sa⟩ := E
  obtain ⟨hx, hb, hml, hr, ho, ht, hK, hA, hn, hst, hlk⟩ := h
  intro r σ' hxx H locs ls hm hS hl
  cases hxx
  have hq : ∀ t : State, t.heap = H → s.WarmedH t.vm → Qr B D cA rL v σ args s (.returned (rL v)) t := fun t h9 _ => ⟨rfl, by rw [h9]; exact hm, hS.F h9⟩
  refine W.widen h1 h2 ?_
  exact W.lret hx hb (by rw [hr, hr0]) hq hS.2.2 hd hlk

theorem k_fret {E : EE} {cc : ByteArray} {own : String} {nL : Nat} {ret : Option FieldType} {mc ms ce sl pc : Nat} {lv : List (Nat × Lv)} {σ : Sg} {v : UInt32} (h : Ok E cc own nL ret) (hr0 : ret = some .float) (hd : decode cc pc = .ok (.freturn, 1)) (h1 : ce ≤ mc) (h2 : sl ≤ ms) : Wq (α := UInt32) E rF nL mc ms ce sl pc lv [LF v] σ (some (v, σ)) := by
  obtain ⟨p, l, e, R, s, m, args, below, meth, c, B, D, cA, sa⟩ := E
  obtain ⟨hx, hb, hml, hr, ho, ht, hK, hA, hn, hst, hlk⟩ := h
  intro r σ' hxx H locs ls hm hS hl
  cases hxx
  have hq : ∀ t : State, t.heap = H → s.WarmedH t.vm → Qr B D cA rF v σ args s (.returned (rF v)) t := fun t h9 _ => ⟨rfl, by rw [h9]; exact hm, hS.F h9⟩
  refine W.widen h1 h2 ?_
  exact W.fret hx hb (by rw [hr, hr0]) hq hS.2.2 hd hlk

theorem k_vret {E : EE} {cc : ByteArray} {own : String} {nL : Nat} {ret : Option FieldType} {mc ms ce sl pc : Nat} {lv : List (Nat × Lv)} {σ : Sg}  (h : Ok E cc own nL ret) (hr0 : ret = none) (hd : decode cc pc = .ok (.return_, 1)) (h1 : ce ≤ mc) (h2 : sl ≤ ms) : Wq (α := Unit) E rU nL mc ms ce sl pc lv [] σ (some ((), σ)) := by
  obtain ⟨p, l, e, R, s, m, args, below, meth, c, B, D, cA, sa⟩ := E
  obtain ⟨hx, hb, hml, hr, ho, ht, hK, hA, hn, hst, hlk⟩ := h
  intro r σ' hxx H locs ls hm hS hl
  cases hxx
  have hq : ∀ t : State, t.heap = H → s.WarmedH t.vm → Qr B D cA rU () σ args s (.returned (rU ())) t := fun t h9 _ => ⟨rfl, by rw [h9]; exact hm, hS.F h9⟩
  refine W.widen h1 h2 ?_
  exact W.vret hx hb (by rw [hr, hr0]) hq hS.2.2 hd hlk

theorem k_aret {E : EE} {cc : ByteArray} {own : String} {nL : Nat} {ret : Option FieldType} {mc ms ce sl pc : Nat} {lv : List (Nat × Lv)} {σ : Sg} {v : Option Nat} {o : String} (h : Ok E cc own nL ret) (hr0 : ret = some (.object o)) (hd : decode cc pc = .ok (.areturn, 1)) (h1 : ce ≤ mc) (h2 : sl ≤ ms) : Wq (α := (Option Nat)) E (rR (eB E)) nL mc ms ce sl pc lv [LR v] σ (some (v, σ)) := by
  obtain ⟨p, l, e, R, s, m, args, below, meth, c, B, D, cA, sa⟩ := E
  obtain ⟨hx, hb, hml, hr, ho, ht, hK, hA, hn, hst, hlk⟩ := h
  intro r σ' hxx H locs ls hm hS hl
  cases hxx
  have hq : ∀ t : State, t.heap = H → s.WarmedH t.vm → Qr B D cA (rR B) v σ args s (.returned ((rR B) v)) t := fun t h9 _ => ⟨rfl, by rw [h9]; exact hm, hS.F h9⟩
  refine W.widen h1 h2 ?_
  exact W.aret hx hb (by rw [hr, hr0]) (Or.inl ⟨o, rfl⟩) (by cases v; exact Or.inl rfl; exact Or.inr ⟨_, rfl⟩) hq hS.2.2 hd hlk
end
section
/-! contracts: what a method answers and leaves, as a function on the memory -/
def Bw (B : Nat) (D : va_G) (cA : Nat → ClassId) (sa : Nat → Nat) (σ : Sg) (U : State) : Prop := Hm B D cA σ U.heap ∧ va_K D vwCl [] U ∧ arK cA U ∧ (∀ w ∈ nwL, va_Nw w U) ∧ Sta B sa U U.heap
def Ct {α : Type} (l : Launch) (B : Nat) (D : va_G) (cA : Nat → ClassId) (sa : Nat → Nat) (y : MethodName) (cc : ByteArray) (maxL : Nat) (ret : Option FieldType) (rm : Room) (rv : α → Option Value) (As : List Lv) (σ : Sg) (mc ms : Nat) (x : Option (α × Sg)) : Prop := ∀ (r : α) (σ' : Sg), x = some (r, σ') → Met l y (Cond.code y cc maxL ret :: wsL_law) rm (va_Pc (As.map (tvl B sa)) (Bw B D cA sa σ)) (Qr B D cA rv r σ') mc ms (fun q => B ≤ q)
theorem Bw.blind {B : Nat} {D : va_G} {cA : Nat → ClassId} {sa : Nat → Nat} {σ : Sg} (av : List Value) : FrameBlind (va_Pc av (Bw B D cA sa σ)) := fun a U g mk q => by
  obtain ⟨q0, q1, q2, q3, q4, q5⟩ := q
  exact ⟨q0, q1, va_K.moved (u := U) (U := U.calling g mk a) (Vm.Alike.refl U.vm) q2, arK.moved (u := U) (U := U.calling g mk a) (Vm.Alike.refl U.vm) q3, fun w hw => (by
    rcases List.mem_append.mp hw with h1 | h1
    · obtain ⟨⟨a, i, b, n, d, x⟩, -, rfl⟩ := List.mem_map.mp h1
      exact va_Nw.same (u := U) (U := U.calling g mk _) rfl rfl (q4 _ hw)
    · obtain ⟨⟨a, i, y, x⟩, -, rfl⟩ := List.mem_map.mp h1
      exact va_Nw.same (u := U) (U := U.calling g mk _) rfl rfl (q4 _ hw)), fun k hk => ⟨va_Z.moved (u := U) (U := U.calling g mk a) (Vm.Alike.refl U.vm) (q5 k hk).1, va_T.moved (u := U) (U := U.calling g mk a) (Vm.Alike.refl U.vm) (q5 k hk).2⟩⟩
theorem Sta.at {B : Nat} {sa : Nat → Nat} {s U : State} {H : Heap} {locs : List Loc} (h : Sta B sa s s.heap) (hS : va_S (fun q => B ≤ q) s.heap H locs) (hvm : s.vm.Alike U.vm) : Sta B sa U H := fun k hk => ⟨va_Z.moved hvm ((h k hk).1.kept hS.2.1), va_T.moved hvm ((h k hk).2.kept hS.2.1)⟩
theorem Bw.at {p : Program} {l : Launch} {e : Env} {R : Room} {s : State} {m : MethodId} {args : Array Value} {below : List Frame} {meth : Method} {c : Code} {B : Nat} {D : va_G} {cA : Nat → ClassId} {sa : Nat → Nat} {cc : ByteArray} {own : String} {nL : Nat} {ret : Option FieldType} (h : Ok (p, l, e, R, s, m, args, below, meth, c, B, D, cA, sa) cc own nL ret) {σ : Sg} {H : Heap} {locs : List Loc} (hm : Hm B D cA σ H) (hS : va_S (fun q => B ≤ q) s.heap H locs) {U : State} (hU : U.heap = H) (hW : s.WarmedH U.vm) : Bw B D cA sa σ U := by
  obtain ⟨hx, hb, hml, hr, ho, ht, hK, hA, hn, hst, hlk⟩ := h
  exact ⟨by rw [hU]; exact hm, hK.moved hW.alike, hA.moved hW.alike, fun w hw => nwarm hw hW (hn w hw), by rw [hU]; exact hst.at hS hW.alike⟩
theorem Ct.of {α : Type} {l : Launch} {B : Nat} {D : va_G} {cA : Nat → ClassId} {sa : Nat → Nat} {y : MethodName} {cc : ByteArray} {maxL : Nat} {ret : Option FieldType} {rm : Room} {rv : α → Option Value} {As : List Lv} {σ : Sg} {mc ms : Nat} {x : Option (α × Sg)} {own : String} (hy : plainName y.cls = true) (hown : y.cls = own) (lv : List (Nat × Lv)) (hn : (As.map lcat).sum ≤ maxL) (hlv : largs 0 As = lv)
    (body : ∀ (p : Program) (e : Env) (s : State) (m : MethodId) (args : Array Value) (below : List Frame) (meth : Method) (c : Code), Ok (p, l, e, rm, s, m, args, below, meth, c, B, D, cA, sa) cc own maxL ret → (y.name = "<init>" → meth.name = "<init>") → Wq (p, l, e, rm, s, m, args, below, meth, c, B, D, cA, sa) rv maxL mc ms 0 0 0 lv [] σ x) : Ct l B D cA sa y cc maxL ret rm rv As σ mc ms x := by
  intro r σ' hx
  refine Met.ofW (cc := cc) (maxL := maxL) (ret := ret) hy rfl ?_
  intro p e s m args below meth c s₁ Bd hml hv
  obtain ⟨rfl, hm, hK, hA, hnw, hst⟩ := hv
  have hts := atoms_spec (ws := Cond.code y cc maxL ret :: wsL_law) Bd.pre
  have hfc : s.vm.findClass own = some m.cls := by rw [← hown]; exact findClass_of_methodNamed Bd.named
  have hok : Ok (p, l, e, rm, s, m, (As.map (tvl B sa)).toArray, below, meth, c, B, D, cA, sa) cc own maxL ret := ⟨Bd.exec, Bd.bytes, hml, Bd.returns, hfc, fun w hw => hts w (List.mem_cons_of_mem _ hw), hK, hA, hnw, hst, Bd.notSynchronized⟩
  have hnm : y.name = "<init>" → meth.name = "<init>" := fun h => by rw [← h]; exact (name_of_methodNamed Bd.named Bd.method).1
  have hlen : (lg_sl (As.map (tvl B sa))).length ≤ maxL := by
    refine Nat.le_trans (Nat.le_of_eq ?_) hn
    clear hlv body hm hx hts hok Bd
    induction As with
    | nil => rfl
    | cons v t ih =>
      have e1 : lg_sl ((v :: t).map (tvl B sa)) = (if (tvl B sa v).category = 2 then [Slot.val (tvl B sa v), Slot.second] else [Slot.val (tvl B sa v)]) ++ lg_sl (t.map (tvl B sa)) := rfl
      rw [e1, List.length_append, ih (by rw [List.map_cons, List.sum_cons] at hn; omega), List.map_cons, List.sum_cons, tvl_cat]
      rcases v with v | v | v | v | v <;> rfl
  have hl := lv_entry (As.map (tvl B sa)) hlen
  rw [lg_entry_eq]
  generalize (lg_sl (As.map (tvl B sa)) ++ List.replicate (maxL - (lg_sl (As.map (tvl B sa))).length) Slot.unset).toArray = ls at hl ⊢
  have hargs : ∀ (vs : List Lv) (i : Nat), lv_args i (vs.map (tvl B sa)) = (largs i vs).map (fun q => (q.1, tvl B sa q.2)) := by
    intro vs
    induction vs with
    | nil => intro i; rfl
    | cons v t ih =>
      intro i
      show (i, tvl B sa v) :: lv_args (if (tvl B sa v).category = 2 then i + 2 else i + 1) (t.map (tvl B sa)) = (i, tvl B sa v) :: (largs (if lcat v = 2 then i + 2 else i + 1) t).map (fun q => (q.1, tvl B sa q.2))
      rw [tvl_cat, ih]
  rw [hargs, hlv] at hl
  exact body p e s m _ below meth c hok hnm r σ' hx s.heap [] ls hm va_S.rf hl
/-- every word that the tables tell is one that a callee may keep -/
theorem all_good (y : MethodName) {cc : ByteArray} {n : Nat} {ret : Option FieldType} {W0 : List Cond} (hg : wsL_law.all goodWord = true) (hsub : ∀ w ∈ wsL_law, w ∈ W0) (h : Cond.code y cc n ret ∈ wsL_law) : GoodIn W0 (Cond.code y cc n ret :: wsL_law) := by
  intro w hw
  rcases List.mem_cons.mp hw with rfl | hw
  · exact ⟨hsub _ h, good_of_word (List.all_eq_true.mp hg _ h)⟩
  · exact ⟨hsub _ hw, good_of_word (List.all_eq_true.mp hg _ hw)⟩
/-- a link to a method, own or a nest mate's -/
def LkM (own : String) (idx : Nat) (y : MethodName) : Prop := Cond.methodLink own idx y ∈ wsL_law ∨ ∃ host, Cond.methodLinkNest own idx y host ∈ nwL
/-- the words of a callee -/
def Cal (y : MethodName) (cc : ByteArray) (n : Nat) (ret : Option FieldType) (k : Nat) : Prop := Cond.code y cc n ret ∈ wsL_law ∧ Cond.initialized y.cls ∈ wsL_law ∧ y.cls ≠ "java/lang/invoke/MethodHandle" ∧ y.cls ≠ "java/lang/invoke/VarHandle" ∧ (parseMethodDescriptor y.desc).map (fun d => d.parameters.length) = some k
section CALL
variable {α : Type} {p : Program} {l : Launch} {e : Env} {R : Room} {s : State} {m : MethodId} {args : Array Value} {below : List Frame} {meth : Method} {c : Code} {B : Nat} {D : va_G} {cA : Nat → ClassId} {sa : Nat → Nat} {cc : ByteArray} {own : String} {nL : Nat} {ret : Option FieldType} {rv : α → Option Value} {mc ms ce sl pc : Nat} {lv : List (Nat × Lv)} {σ : Sg}
theorem runQ {γ : Type} {rvy : γ → Option Value} {v0 : γ} {σ1 : Sg} {H : Heap} {locs : List Loc} {ls : Array Slot} {stv restv : List Value} {a : Array Value} {mc1 ms1 : Nat} {Q : State → Prop} (hr : va_Run p l e R s m args below meth c H locs ce sl mc1 ms1 (F0 m pc ls stv) restv (Qr B D cA rvy v0 σ1 a) (fun q => B ≤ q)) (hS : va_S (fun q => B ≤ q) s.heap H locs)
    (kk : ∀ (H1 : Heap) (locs1 : List Loc), Hm B D cA σ1 H1 → va_S (fun q => B ≤ q) s.heap H1 locs1 → W p l e R s m args below meth c H1 locs1 (ce + mc1) (sl + ms1) Q (F0 m (pc + 3) ls ((rvy v0).toList ++ restv))) : W p l e R s m args below meth c H locs ce sl Q (F0 m pc ls stv) := by
  intro T hT X
  obtain ⟨v, st₀, t, T', L, h0, X', hL, e1, e2, ⟨hv, hmt, hz, hk⟩, st⟩ := hr T hT X
  cases hv
  rw [h0] at hz hk
  obtain ⟨t2, a1, b1⟩ := kk T'.heap (locs ++ L) (by rw [e1]; exact hmt) ⟨Nat.le_trans hS.1 (by rw [e1]; exact hz), fun q h1 h2 => by rw [e1, hk q (Nat.lt_of_lt_of_le h1 hS.1) h2]; exact hS.2.1 q h1 h2, fun q hq => by
      rcases List.mem_append.mp hq with h | h
      · exact hS.2.2 q h
      · exact hL q h⟩ T' rfl X'
  exact ⟨t2, st t2 a1, b1⟩
theorem roomS {B : Nat} {sa : Nat → Nat} {m : MethodId} {pc : Nat} {ls : Array Slot} {stv : List Value} {st : List Lv} (h : (st.map lcat).sum ≤ 8) : 2 * (F0 m pc ls stv).monitorRoom + ((st.map (tvl B sa)).map fun v => v.category).sum ≤ 8 := by
  refine lv_room ?_
  rw [List.map_map]
  have e : ((fun v : Value => v.category) ∘ tvl B sa) = lcat := funext fun v => tvl_cat B sa v
  rw [e]
  exact h
/-- a static method -/
theorem k_callS {γ : Type} {rvy : γ → Option Value} {toL : γ → List Lv} {y : MethodName} {cy : ByteArray} {ny : Nat} {ry : Option FieldType} {rm : Room} {As st stk : List Lv} {idx mc1 ms1 : Nat} {xg : Option (γ × Sg)} {f : γ → Sg → Option (α × Sg)} (h : Ok (p, l, e, R, s, m, args, below, meth, c, B, D, cA, sa) cc own nL ret) (hC : Ct l B D cA sa y cy ny ry rm rvy As σ mc1 ms1 xg) (hto : ∀ v, (rvy v).toList = (toL v).map (tvl B sa)) (hcal : Cal y cy ny ry As.length) (hstat : Cond.static y ∈ wsL_law) (hlk : LkM own idx y) (hg : wsL_law.all goodWord = true) (hrm : rm.cells = mc1 ∧ rm.slots = ms1 ∧ rm.frames + 1 ≤ R.frames ∧ 8 + (ny + 11) + rm.locals ≤ R.locals) (hR : ce + mc1 ≤ R.cells ∧ sl + ms1 ≤ R.slots) (hstk : As.reverse ++ st = stk) (hcat : (st.map lcat).sum ≤ 8) (hd : decode cc pc = .ok (.invokestatic idx, 3))
    (k : ∀ v σ1, Wq (p, l, e, R, s, m, args, below, meth, c, B, D, cA, sa) rv nL mc ms (ce + mc1) (sl + ms1) (pc + 3) lv (toL v ++ st) σ1 (f v σ1)) : Wq (p, l, e, R, s, m, args, below, meth, c, B, D, cA, sa) rv nL mc ms ce sl pc lv stk σ (cl xg f) := by
  subst hstk
  have h' := h
  obtain ⟨hx, hb, hml, hr, ho, ht, hK, hA, hn, hst, hlck⟩ := h
  obtain ⟨c1, c2, c3, c4, c5⟩ := hcal
  intro r σ' hxx H locs ls hm hS hl
  cases xg with
  | none => simp [cl] at hxx
  | some q =>
    obtain ⟨v0, σ1⟩ := q
    have hM := hC v0 σ1 rfl
    have hG : GoodIn wsL_law (Cond.code y cy ny ry :: wsL_law) := all_good y hg (fun _ h => h) c1
    have hp : PreS s H (va_Pc (As.map (tvl B sa)) (Bw B D cA sa σ)) (As.map (tvl B sa)) := ⟨Bw.blind _, fun U hU hW => ⟨rfl, Bw.at h' hm hS hU hW⟩⟩
    have hlen : (As.map (tvl B sa)).length = As.length := List.length_map ..
    have hstv : (F0 m pc ls ((As.reverse ++ st).map (tvl B sa))).stack = (As.map (tvl B sa)).reverse ++ st.map (tvl B sa) := by
      show (As.reverse ++ st).map (tvl B sa) = _
      rw [List.map_append, List.map_reverse]
    have hfin : ∀ (H1 : Heap) (locs1 : List Loc), Hm B D cA σ1 H1 → va_S (fun q => B ≤ q) s.heap H1 locs1 → W p l e R s m args below meth c H1 locs1 (ce + mc1) (sl + ms1) (MQ below (Qr B D cA rv r σ') args s mc ms (fun q => B ≤ q)) (F0 m (pc + 3) ls ((rvy v0).toList ++ st.map (tvl B sa))) := by
      intro H1 locs1 hm1 hS1
      have := k v0 σ1 r σ' hxx H1 locs1 ls hm1 hS1 hl
      rw [List.map_append, ← hto] at this
      exact this
    rcases hlk with hl1 | ⟨host, hl1⟩
    · exact runQ (va_runS ⟨hx, hb, hml, ho, ht⟩ hM ⟨callB_of As.length ht hG rfl hrm.1 hrm.2.1 (ht _ c2) (ht _ hl1) ⟨c3, c4, c5⟩ hrm.2.2, ht _ hstat⟩ hp rfl hlen hl.1 hstv (roomS hcat) hd hR) hS hfin
    · exact runQ (va_runSN (host := host) ⟨hx, hb, hml, ho, ht⟩ hM ⟨va_cnB As.length ht hG rfl hrm.1 hrm.2.1 (hn _ hl1) (ht _ c2) ⟨c3, c4, c5⟩ hrm.2.2, ht _ hstat, trivial⟩ hp rfl hlen hl.1 hstv (roomS hcat) hd hR) hS hfin
/-- a method of an object of class c0 -/
theorem k_callV {γ : Type} {rvy : γ → Option Value} {toL : γ → List Lv} {y : MethodName} {cy : ByteArray} {ny : Nat} {ry : Option FieldType} {rm : Room} {As st stk : List Lv} {x0 : Option Nat} {c0 N0 : Nat} {C0 : String} {T0 : u_T} {idx mc1 ms1 : Nat} {xg : Nat → Option (γ × Sg)} {f : γ → Sg → Option (α × Sg)} (h : Ok (p, l, e, R, s, m, args, below, meth, c, B, D, cA, sa) cc own nL ret) (hC : ∀ a, Ct l B D cA sa y cy ny ry rm rvy (LR (some a) :: As) σ mc1 ms1 (xg a)) (hto : ∀ v, (rvy v).toList = (toL v).map (tvl B sa)) (hcal : Cal y cy ny ry As.length) (hcl : vwCl[c0]? = some (C0, T0, N0)) (hc20 : c0 < 20) (hinst : Cond.instanceMethod y ∈ wsL_law) (hsel : Cond.selects C0 y y ∈ wsL_law) (hlk : LkM own idx y) (hg : wsL_law.all goodWord = true) (hrm : rm.cells = mc1 ∧ rm.slots = ms1 ∧ rm.frames + 1 ≤ R.frames ∧ 8 + (ny + 11) + rm.locals ≤ R.locals) (hR : ce + mc1 ≤ R.cells ∧ sl + ms1 ≤ R.slots) (hstk : As.reverse ++ LR x0 :: st = stk) (hcat : (st.map lcat).sum ≤ 8) (hd : decode cc pc = .ok (.invokevirtual idx, 3))
    (k : ∀ v σ1, Wq (p, l, e, R, s, m, args, below, meth, c, B, D, cA, sa) rv nL mc ms (ce + mc1) (sl + ms1) (pc + 3) lv (toL v ++ st) σ1 (f v σ1)) : Wq (p, l, e, R, s, m, args, below, meth, c, B, D, cA, sa) rv nL mc ms ce sl pc lv stk σ (cv σ c0 x0 (fun a => cl (xg a) f)) := by
  subst hstk
  have h' := h
  obtain ⟨hx, hb, hml, hr, ho, ht, hK, hA, hn, hst, hlck⟩ := h
  obtain ⟨c1, c2, c3, c4, c5⟩ := hcal
  intro r σ' hxx H locs ls hm hS hl
  cases x0 with
  | none => simp [cv] at hxx
  | some a =>
    simp only [cv] at hxx
    by_cases hz : kd a = c0 ∧ a < sN σ
    · rw [if_pos hz] at hxx
      cases hq : xg a with
      | none => rw [hq] at hxx; simp [cl] at hxx
      | some q =>
        rw [hq] at hxx
        obtain ⟨v0, σ1⟩ := q
        have hM := hC a v0 σ1 hq
        have hG : GoodIn wsL_law (Cond.code y cy ny ry :: wsL_law) := all_good y hg (fun _ h => h) c1
        have hat := hm.2 a hz.2
        rw [cel_obj hz.1 hc20] at hat
        have hp : PreV s H C0 (B + a) (va_Pc ((LR (some a) :: As).map (tvl B sa)) (Bw B D cA sa σ)) (As.map (tvl B sa)) := ⟨Bw.blind _, va_recv hK (va_P1 hat) hcl (q0 := 0) rfl, fun U hU hW => ⟨rfl, Bw.at h' hm hS hU hW⟩⟩
        have hlen : (As.map (tvl B sa)).length = As.length := List.length_map ..
        have hstv : (F0 m pc ls ((As.reverse ++ LR (some a) :: st).map (tvl B sa))).stack = (As.map (tvl B sa)).reverse ++ .ref (B + a) :: st.map (tvl B sa) := by
          show (As.reverse ++ LR (some a) :: st).map (tvl B sa) = _
          rw [List.map_append, List.map_reverse]
          rfl
        have hfin : ∀ (H1 : Heap) (locs1 : List Loc), Hm B D cA σ1 H1 → va_S (fun q => B ≤ q) s.heap H1 locs1 → W p l e R s m args below meth c H1 locs1 (ce + mc1) (sl + ms1) (MQ below (Qr B D cA rv r σ') args s mc ms (fun q => B ≤ q)) (F0 m (pc + 3) ls ((rvy v0).toList ++ st.map (tvl B sa))) := by
          intro H1 locs1 hm1 hS1
          have := k v0 σ1 r σ' hxx H1 locs1 ls hm1 hS1 hl
          rw [List.map_append, ← hto] at this
          exact this
        rcases hlk with hl1 | ⟨host, hl1⟩
        · exact runQ (va_runV ⟨hx, hb, hml, ho, ht⟩ hM ⟨callB_of As.length ht hG rfl hrm.1 hrm.2.1 (ht _ c2) (ht _ hl1) ⟨c3, c4, c5⟩ hrm.2.2, ht _ hinst, ht _ hsel⟩ hp rfl hlen hl.1 hstv (roomS hcat) hd hR) hS hfin
        · exact runQ (va_runVN (host := host) ⟨hx, hb, hml, ho, ht⟩ hM ⟨va_cnB As.length ht hG rfl hrm.1 hrm.2.1 (hn _ hl1) (ht _ c2) ⟨c3, c4, c5⟩ hrm.2.2, ht _ hinst, ht _ hsel⟩ hp rfl hlen hl.1 hstv (roomS hcat) hd hR) hS hfin
    · rw [if_neg hz] at hxx; cases hxx
end CALL
end
