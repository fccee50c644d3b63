section
-- ===== PART A: goes FIRST, ahead of the names: the tables' words, and 'selects' of the private methods out of them =====
/-- a private method of a class that the tables say can be made, by its rows of tables_1 -/
def lw_okq (q : MethodName × Nat) : Prop := (q.1.cls ≠ "java/lang/invoke/MethodHandle" ∧ q.1.cls ≠ "java/lang/invoke/VarHandle") ∧ Cond.instantiable q.1.cls q.2 ∈ tables_1 ∧ Cond.privateMethod q.1 ∈ tables_1 ∧ Cond.instanceMethod q.1 ∈ tables_1
theorem lw_p0 : lw_okq (⟨"GuestTower", "putOnTape", "(I)V"⟩, 6) := ⟨⟨by decide +kernel, by decide +kernel⟩, List.mem_of_getElem? (i := 16) (by decide +kernel), List.mem_of_getElem? (i := 138) (by decide +kernel), List.mem_of_getElem? (i := 139) (by decide +kernel)⟩
theorem lw_p1 : lw_okq (⟨"GuestTower$Line", "hasGoodBytes", "()Z"⟩, 9) := ⟨⟨by decide +kernel, by decide +kernel⟩, List.mem_of_getElem? (i := 30) (by decide +kernel), List.mem_of_getElem? (i := 160) (by decide +kernel), List.mem_of_getElem? (i := 161) (by decide +kernel)⟩
theorem lw_p2 : lw_okq (⟨"GuestTower$Line", "dropRemark", "()V"⟩, 9) := ⟨⟨by decide +kernel, by decide +kernel⟩, List.mem_of_getElem? (i := 30) (by decide +kernel), List.mem_of_getElem? (i := 164) (by decide +kernel), List.mem_of_getElem? (i := 165) (by decide +kernel)⟩
theorem lw_p3 : lw_okq (⟨"GuestTower$Line", "isLabelRead", "()Z"⟩, 9) := ⟨⟨by decide +kernel, by decide +kernel⟩, List.mem_of_getElem? (i := 30) (by decide +kernel), List.mem_of_getElem? (i := 168) (by decide +kernel), List.mem_of_getElem? (i := 169) (by decide +kernel)⟩
theorem lw_p4 : lw_okq (⟨"GuestTower$Line", "skipBlanks", "()V"⟩, 9) := ⟨⟨by decide +kernel, by decide +kernel⟩, List.mem_of_getElem? (i := 30) (by decide +kernel), List.mem_of_getElem? (i := 172) (by decide +kernel), List.mem_of_getElem? (i := 173) (by decide +kernel)⟩
theorem lw_p5 : lw_okq (⟨"GuestTower$Line", "here", "()I"⟩, 9) := ⟨⟨by decide +kernel, by decide +kernel⟩, List.mem_of_getElem? (i := 30) (by decide +kernel), List.mem_of_getElem? (i := 176) (by decide +kernel), List.mem_of_getElem? (i := 177) (by decide +kernel)⟩
theorem lw_p6 : lw_okq (⟨"GuestTower$Line", "takeLabel", "()J"⟩, 9) := ⟨⟨by decide +kernel, by decide +kernel⟩, List.mem_of_getElem? (i := 30) (by decide +kernel), List.mem_of_getElem? (i := 183) (by decide +kernel), List.mem_of_getElem? (i := 184) (by decide +kernel)⟩
theorem lw_p7 : lw_okq (⟨"GuestTower$Line", "isOrderRead", "()Z"⟩, 9) := ⟨⟨by decide +kernel, by decide +kernel⟩, List.mem_of_getElem? (i := 30) (by decide +kernel), List.mem_of_getElem? (i := 191) (by decide +kernel), List.mem_of_getElem? (i := 192) (by decide +kernel)⟩
theorem lw_p8 : lw_okq (⟨"GuestTower$Line", "takeOrder", "()I"⟩, 9) := ⟨⟨by decide +kernel, by decide +kernel⟩, List.mem_of_getElem? (i := 30) (by decide +kernel), List.mem_of_getElem? (i := 195) (by decide +kernel), List.mem_of_getElem? (i := 196) (by decide +kernel)⟩
theorem lw_p9 : lw_okq (⟨"GuestTower$Line", "isNamed", "(III)Z"⟩, 9) := ⟨⟨by decide +kernel, by decide +kernel⟩, List.mem_of_getElem? (i := 30) (by decide +kernel), List.mem_of_getElem? (i := 199) (by decide +kernel), List.mem_of_getElem? (i := 200) (by decide +kernel)⟩
theorem lw_p10 : lw_okq (⟨"GuestTower$Line", "takeRegister", "()I"⟩, 9) := ⟨⟨by decide +kernel, by decide +kernel⟩, List.mem_of_getElem? (i := 30) (by decide +kernel), List.mem_of_getElem? (i := 246) (by decide +kernel), List.mem_of_getElem? (i := 247) (by decide +kernel)⟩
theorem lw_p11 : lw_okq (⟨"GuestTower$Line", "isNumberRead", "(I)Z"⟩, 9) := ⟨⟨by decide +kernel, by decide +kernel⟩, List.mem_of_getElem? (i := 30) (by decide +kernel), List.mem_of_getElem? (i := 250) (by decide +kernel), List.mem_of_getElem? (i := 251) (by decide +kernel)⟩
theorem lw_p12 : lw_okq (⟨"GuestTower$Line", "takeNumber", "()I"⟩, 9) := ⟨⟨by decide +kernel, by decide +kernel⟩, List.mem_of_getElem? (i := 30) (by decide +kernel), List.mem_of_getElem? (i := 254) (by decide +kernel), List.mem_of_getElem? (i := 255) (by decide +kernel)⟩
theorem lw_p13 : lw_okq (⟨"GuestTower$Assembler", "faultOfLine", "(I)I"⟩, 12) := ⟨⟨by decide +kernel, by decide +kernel⟩, List.mem_of_getElem? (i := 24) (by decide +kernel), List.mem_of_getElem? (i := 259) (by decide +kernel), List.mem_of_getElem? (i := 260) (by decide +kernel)⟩
theorem lw_p14 : lw_okq (⟨"GuestTower$Assembler", "addressOf", "(J)I"⟩, 12) := ⟨⟨by decide +kernel, by decide +kernel⟩, List.mem_of_getElem? (i := 24) (by decide +kernel), List.mem_of_getElem? (i := 263) (by decide +kernel), List.mem_of_getElem? (i := 264) (by decide +kernel)⟩
theorem lw_p15 : lw_okq (⟨"GuestTower$Assembler", "lineBehind", "()I"⟩, 12) := ⟨⟨by decide +kernel, by decide +kernel⟩, List.mem_of_getElem? (i := 24) (by decide +kernel), List.mem_of_getElem? (i := 267) (by decide +kernel), List.mem_of_getElem? (i := 268) (by decide +kernel)⟩
def lw_privs_1 : List (MethodName × Nat) := [(⟨"GuestTower", "putOnTape", "(I)V"⟩, 6), (⟨"GuestTower$Line", "hasGoodBytes", "()Z"⟩, 9), (⟨"GuestTower$Line", "dropRemark", "()V"⟩, 9), (⟨"GuestTower$Line", "isLabelRead", "()Z"⟩, 9), (⟨"GuestTower$Line", "skipBlanks", "()V"⟩, 9), (⟨"GuestTower$Line", "here", "()I"⟩, 9), (⟨"GuestTower$Line", "takeLabel", "()J"⟩, 9), (⟨"GuestTower$Line", "isOrderRead", "()Z"⟩, 9), (⟨"GuestTower$Line", "takeOrder", "()I"⟩, 9), (⟨"GuestTower$Line", "isNamed", "(III)Z"⟩, 9), (⟨"GuestTower$Line", "takeRegister", "()I"⟩, 9), (⟨"GuestTower$Line", "isNumberRead", "(I)Z"⟩, 9), (⟨"GuestTower$Line", "takeNumber", "()I"⟩, 9), (⟨"GuestTower$Assembler", "faultOfLine", "(I)I"⟩, 12), (⟨"GuestTower$Assembler", "addressOf", "(J)I"⟩, 12), (⟨"GuestTower$Assembler", "lineBehind", "()I"⟩, 12)]
theorem lw_r1 : ∀ q ∈ lw_privs_1, lw_okq q := List.forall_mem_cons.mpr ⟨lw_p0, List.forall_mem_cons.mpr ⟨lw_p1, List.forall_mem_cons.mpr ⟨lw_p2, List.forall_mem_cons.mpr ⟨lw_p3, List.forall_mem_cons.mpr ⟨lw_p4, List.forall_mem_cons.mpr ⟨lw_p5, List.forall_mem_cons.mpr ⟨lw_p6, List.forall_mem_cons.mpr ⟨lw_p7, List.forall_mem_cons.mpr ⟨lw_p8, List.forall_mem_cons.mpr ⟨lw_p9, List.forall_mem_cons.mpr ⟨lw_p10, List.forall_mem_cons.mpr ⟨lw_p11, List.forall_mem_cons.mpr ⟨lw_p12, List.forall_mem_cons.mpr ⟨lw_p13, List.forall_mem_cons.mpr ⟨lw_p14, List.forall_mem_cons.mpr ⟨lw_p15, fun _ h => absurd h List.not_mem_nil⟩⟩⟩⟩⟩⟩⟩⟩⟩⟩⟩⟩⟩⟩⟩⟩
theorem lw_p16 : lw_okq (⟨"GuestTower$Assembler", "tellFault", "(II)V"⟩, 12) := ⟨⟨by decide +kernel, by decide +kernel⟩, List.mem_of_getElem? (i := 24) (by decide +kernel), List.mem_of_getElem? (i := 271) (by decide +kernel), List.mem_of_getElem? (i := 272) (by decide +kernel)⟩
theorem lw_p17 : lw_okq (⟨"GuestTower$Assembler", "placeLine", "(I)V"⟩, 12) := ⟨⟨by decide +kernel, by decide +kernel⟩, List.mem_of_getElem? (i := 24) (by decide +kernel), List.mem_of_getElem? (i := 275) (by decide +kernel), List.mem_of_getElem? (i := 276) (by decide +kernel)⟩
theorem lw_p18 : lw_okq (⟨"GuestTower$Assembler", "placeNumber", "(II)V"⟩, 12) := ⟨⟨by decide +kernel, by decide +kernel⟩, List.mem_of_getElem? (i := 24) (by decide +kernel), List.mem_of_getElem? (i := 283) (by decide +kernel), List.mem_of_getElem? (i := 284) (by decide +kernel)⟩
theorem lw_p19 : lw_okq (⟨"GuestTower$Assembler", "clearWords", "(I)V"⟩, 12) := ⟨⟨by decide +kernel, by decide +kernel⟩, List.mem_of_getElem? (i := 24) (by decide +kernel), List.mem_of_getElem? (i := 287) (by decide +kernel), List.mem_of_getElem? (i := 288) (by decide +kernel)⟩
theorem lw_p20 : lw_okq (⟨"GuestTower$Assembler", "fillUses", "()V"⟩, 12) := ⟨⟨by decide +kernel, by decide +kernel⟩, List.mem_of_getElem? (i := 24) (by decide +kernel), List.mem_of_getElem? (i := 291) (by decide +kernel), List.mem_of_getElem? (i := 292) (by decide +kernel)⟩
theorem lw_p21 : lw_okq (⟨"GuestTower$Guest", "awaitTurn", "()V"⟩, 5) := ⟨⟨by decide +kernel, by decide +kernel⟩, List.mem_of_getElem? (i := 295) (by decide +kernel), List.mem_of_getElem? (i := 420) (by decide +kernel), List.mem_of_getElem? (i := 421) (by decide +kernel)⟩
theorem lw_p22 : lw_okq (⟨"GuestTower$Guest", "isTurn", "()Z"⟩, 5) := ⟨⟨by decide +kernel, by decide +kernel⟩, List.mem_of_getElem? (i := 295) (by decide +kernel), List.mem_of_getElem? (i := 424) (by decide +kernel), List.mem_of_getElem? (i := 425) (by decide +kernel)⟩
theorem lw_p23 : lw_okq (⟨"GuestTower$Machine", "trap", "(III)V"⟩, 13) := ⟨⟨by decide +kernel, by decide +kernel⟩, List.mem_of_getElem? (i := 301) (by decide +kernel), List.mem_of_getElem? (i := 432) (by decide +kernel), List.mem_of_getElem? (i := 433) (by decide +kernel)⟩
theorem lw_p24 : lw_okq (⟨"GuestTower$Machine", "keepStatus", "(II)V"⟩, 13) := ⟨⟨by decide +kernel, by decide +kernel⟩, List.mem_of_getElem? (i := 301) (by decide +kernel), List.mem_of_getElem? (i := 436) (by decide +kernel), List.mem_of_getElem? (i := 437) (by decide +kernel)⟩
theorem lw_p25 : lw_okq (⟨"GuestTower$Machine", "takeStatus", "(I)V"⟩, 13) := ⟨⟨by decide +kernel, by decide +kernel⟩, List.mem_of_getElem? (i := 301) (by decide +kernel), List.mem_of_getElem? (i := 440) (by decide +kernel), List.mem_of_getElem? (i := 441) (by decide +kernel)⟩
theorem lw_p26 : lw_okq (⟨"GuestTower$Machine", "access", "(III)V"⟩, 13) := ⟨⟨by decide +kernel, by decide +kernel⟩, List.mem_of_getElem? (i := 301) (by decide +kernel), List.mem_of_getElem? (i := 445) (by decide +kernel), List.mem_of_getElem? (i := 446) (by decide +kernel)⟩
theorem lw_p27 : lw_okq (⟨"GuestTower$Machine", "goOn", "(I)V"⟩, 13) := ⟨⟨by decide +kernel, by decide +kernel⟩, List.mem_of_getElem? (i := 301) (by decide +kernel), List.mem_of_getElem? (i := 449) (by decide +kernel), List.mem_of_getElem? (i := 450) (by decide +kernel)⟩
theorem lw_p28 : lw_okq (⟨"GuestTower$Machine", "compute", "(IIII)V"⟩, 13) := ⟨⟨by decide +kernel, by decide +kernel⟩, List.mem_of_getElem? (i := 301) (by decide +kernel), List.mem_of_getElem? (i := 453) (by decide +kernel), List.mem_of_getElem? (i := 454) (by decide +kernel)⟩
theorem lw_p29 : lw_okq (⟨"GuestTower$Machine", "govern", "(IIII)V"⟩, 13) := ⟨⟨by decide +kernel, by decide +kernel⟩, List.mem_of_getElem? (i := 301) (by decide +kernel), List.mem_of_getElem? (i := 460) (by decide +kernel), List.mem_of_getElem? (i := 461) (by decide +kernel)⟩
theorem lw_p30 : lw_okq (⟨"GuestTower$Machine", "firstBad", "(II)I"⟩, 13) := ⟨⟨by decide +kernel, by decide +kernel⟩, List.mem_of_getElem? (i := 301) (by decide +kernel), List.mem_of_getElem? (i := 467) (by decide +kernel), List.mem_of_getElem? (i := 468) (by decide +kernel)⟩
theorem lw_p31 : lw_okq (⟨"GuestTower", "guestAt", "(I)LGuestTower$Guest;"⟩, 6) := ⟨⟨by decide +kernel, by decide +kernel⟩, List.mem_of_getElem? (i := 16) (by decide +kernel), List.mem_of_getElem? (i := 491) (by decide +kernel), List.mem_of_getElem? (i := 492) (by decide +kernel)⟩
def lw_privs_2 : List (MethodName × Nat) := [(⟨"GuestTower$Assembler", "tellFault", "(II)V"⟩, 12), (⟨"GuestTower$Assembler", "placeLine", "(I)V"⟩, 12), (⟨"GuestTower$Assembler", "placeNumber", "(II)V"⟩, 12), (⟨"GuestTower$Assembler", "clearWords", "(I)V"⟩, 12), (⟨"GuestTower$Assembler", "fillUses", "()V"⟩, 12), (⟨"GuestTower$Guest", "awaitTurn", "()V"⟩, 5), (⟨"GuestTower$Guest", "isTurn", "()Z"⟩, 5), (⟨"GuestTower$Machine", "trap", "(III)V"⟩, 13), (⟨"GuestTower$Machine", "keepStatus", "(II)V"⟩, 13), (⟨"GuestTower$Machine", "takeStatus", "(I)V"⟩, 13), (⟨"GuestTower$Machine", "access", "(III)V"⟩, 13), (⟨"GuestTower$Machine", "goOn", "(I)V"⟩, 13), (⟨"GuestTower$Machine", "compute", "(IIII)V"⟩, 13), (⟨"GuestTower$Machine", "govern", "(IIII)V"⟩, 13), (⟨"GuestTower$Machine", "firstBad", "(II)I"⟩, 13), (⟨"GuestTower", "guestAt", "(I)LGuestTower$Guest;"⟩, 6)]
theorem lw_r2 : ∀ q ∈ lw_privs_2, lw_okq q := List.forall_mem_cons.mpr ⟨lw_p16, List.forall_mem_cons.mpr ⟨lw_p17, List.forall_mem_cons.mpr ⟨lw_p18, List.forall_mem_cons.mpr ⟨lw_p19, List.forall_mem_cons.mpr ⟨lw_p20, List.forall_mem_cons.mpr ⟨lw_p21, List.forall_mem_cons.mpr ⟨lw_p22, List.forall_mem_cons.mpr ⟨lw_p23, List.forall_mem_cons.mpr ⟨lw_p24, List.forall_mem_cons.mpr ⟨lw_p25, List.forall_mem_cons.mpr ⟨lw_p26, List.forall_mem_cons.mpr ⟨lw_p27, List.forall_mem_cons.mpr ⟨lw_p28, List.forall_mem_cons.mpr ⟨lw_p29, List.forall_mem_cons.mpr ⟨lw_p30, List.forall_mem_cons.mpr ⟨lw_p31, fun _ h => absurd h List.not_mem_nil⟩⟩⟩⟩⟩⟩⟩⟩⟩⟩⟩⟩⟩⟩⟩⟩
theorem lw_p32 : lw_okq (⟨"GuestTower$Guest", "mode", "()I"⟩, 5) := ⟨⟨by decide +kernel, by decide +kernel⟩, List.mem_of_getElem? (i := 295) (by decide +kernel), List.mem_of_getElem? (i := 515) (by decide +kernel), List.mem_of_getElem? (i := 516) (by decide +kernel)⟩
theorem lw_p33 : lw_okq (⟨"GuestTower$Guest", "kept", "(I)I"⟩, 5) := ⟨⟨by decide +kernel, by decide +kernel⟩, List.mem_of_getElem? (i := 295) (by decide +kernel), List.mem_of_getElem? (i := 519) (by decide +kernel), List.mem_of_getElem? (i := 520) (by decide +kernel)⟩
theorem lw_p34 : lw_okq (⟨"GuestTower$Guest", "pc", "()I"⟩, 5) := ⟨⟨by decide +kernel, by decide +kernel⟩, List.mem_of_getElem? (i := 295) (by decide +kernel), List.mem_of_getElem? (i := 523) (by decide +kernel), List.mem_of_getElem? (i := 524) (by decide +kernel)⟩
theorem lw_p35 : lw_okq (⟨"GuestTower$Guest", "timer", "()I"⟩, 5) := ⟨⟨by decide +kernel, by decide +kernel⟩, List.mem_of_getElem? (i := 295) (by decide +kernel), List.mem_of_getElem? (i := 527) (by decide +kernel), List.mem_of_getElem? (i := 528) (by decide +kernel)⟩
theorem lw_p36 : lw_okq (⟨"GuestTowerModel", "word", "(I)V"⟩, 39) := ⟨⟨by decide +kernel, by decide +kernel⟩, List.mem_of_getElem? (i := 565) (by decide +kernel), List.mem_of_getElem? (i := 563) (by decide +kernel), List.mem_of_getElem? (i := 564) (by decide +kernel)⟩
theorem lw_p37 : lw_okq (⟨"GuestTowerModel", "lines", "(IZ)Z"⟩, 39) := ⟨⟨by decide +kernel, by decide +kernel⟩, List.mem_of_getElem? (i := 565) (by decide +kernel), List.mem_of_getElem? (i := 699) (by decide +kernel), List.mem_of_getElem? (i := 700) (by decide +kernel)⟩
theorem lw_p38 : lw_okq (⟨"GuestTowerModel", "oneLine", "(IZ)I"⟩, 39) := ⟨⟨by decide +kernel, by decide +kernel⟩, List.mem_of_getElem? (i := 565) (by decide +kernel), List.mem_of_getElem? (i := 703) (by decide +kernel), List.mem_of_getElem? (i := 704) (by decide +kernel)⟩
theorem lw_p39 : lw_okq (⟨"GuestTowerModel", "blanks", "()V"⟩, 39) := ⟨⟨by decide +kernel, by decide +kernel⟩, List.mem_of_getElem? (i := 565) (by decide +kernel), List.mem_of_getElem? (i := 707) (by decide +kernel), List.mem_of_getElem? (i := 708) (by decide +kernel)⟩
theorem lw_p40 : lw_okq (⟨"GuestTowerModel", "nameAt", "(I)I"⟩, 39) := ⟨⟨by decide +kernel, by decide +kernel⟩, List.mem_of_getElem? (i := 565) (by decide +kernel), List.mem_of_getElem? (i := 711) (by decide +kernel), List.mem_of_getElem? (i := 712) (by decide +kernel)⟩
theorem lw_p41 : lw_okq (⟨"GuestTowerModel", "byteAt", "(I)I"⟩, 39) := ⟨⟨by decide +kernel, by decide +kernel⟩, List.mem_of_getElem? (i := 565) (by decide +kernel), List.mem_of_getElem? (i := 715) (by decide +kernel), List.mem_of_getElem? (i := 716) (by decide +kernel)⟩
theorem lw_p42 : lw_okq (⟨"GuestTowerModel", "isOver", "()Z"⟩, 39) := ⟨⟨by decide +kernel, by decide +kernel⟩, List.mem_of_getElem? (i := 565) (by decide +kernel), List.mem_of_getElem? (i := 725) (by decide +kernel), List.mem_of_getElem? (i := 726) (by decide +kernel)⟩
theorem lw_p43 : lw_okq (⟨"GuestTowerModel", "order", "()I"⟩, 39) := ⟨⟨by decide +kernel, by decide +kernel⟩, List.mem_of_getElem? (i := 565) (by decide +kernel), List.mem_of_getElem? (i := 729) (by decide +kernel), List.mem_of_getElem? (i := 730) (by decide +kernel)⟩
theorem lw_p44 : lw_okq (⟨"GuestTowerModel", "register", "()I"⟩, 39) := ⟨⟨by decide +kernel, by decide +kernel⟩, List.mem_of_getElem? (i := 565) (by decide +kernel), List.mem_of_getElem? (i := 768) (by decide +kernel), List.mem_of_getElem? (i := 769) (by decide +kernel)⟩
theorem lw_p45 : lw_okq (⟨"GuestTowerModel", "gap", "()V"⟩, 39) := ⟨⟨by decide +kernel, by decide +kernel⟩, List.mem_of_getElem? (i := 565) (by decide +kernel), List.mem_of_getElem? (i := 772) (by decide +kernel), List.mem_of_getElem? (i := 773) (by decide +kernel)⟩
theorem lw_p46 : lw_okq (⟨"GuestTowerModel", "value", "(Z)V"⟩, 39) := ⟨⟨by decide +kernel, by decide +kernel⟩, List.mem_of_getElem? (i := 565) (by decide +kernel), List.mem_of_getElem? (i := 776) (by decide +kernel), List.mem_of_getElem? (i := 777) (by decide +kernel)⟩
theorem lw_p47 : lw_okq (⟨"GuestTowerModel", "number", "()I"⟩, 39) := ⟨⟨by decide +kernel, by decide +kernel⟩, List.mem_of_getElem? (i := 565) (by decide +kernel), List.mem_of_getElem? (i := 780) (by decide +kernel), List.mem_of_getElem? (i := 781) (by decide +kernel)⟩
def lw_privs_3 : List (MethodName × Nat) := [(⟨"GuestTower$Guest", "mode", "()I"⟩, 5), (⟨"GuestTower$Guest", "kept", "(I)I"⟩, 5), (⟨"GuestTower$Guest", "pc", "()I"⟩, 5), (⟨"GuestTower$Guest", "timer", "()I"⟩, 5), (⟨"GuestTowerModel", "word", "(I)V"⟩, 39), (⟨"GuestTowerModel", "lines", "(IZ)Z"⟩, 39), (⟨"GuestTowerModel", "oneLine", "(IZ)I"⟩, 39), (⟨"GuestTowerModel", "blanks", "()V"⟩, 39), (⟨"GuestTowerModel", "nameAt", "(I)I"⟩, 39), (⟨"GuestTowerModel", "byteAt", "(I)I"⟩, 39), (⟨"GuestTowerModel", "isOver", "()Z"⟩, 39), (⟨"GuestTowerModel", "order", "()I"⟩, 39), (⟨"GuestTowerModel", "register", "()I"⟩, 39), (⟨"GuestTowerModel", "gap", "()V"⟩, 39), (⟨"GuestTowerModel", "value", "(Z)V"⟩, 39), (⟨"GuestTowerModel", "number", "()I"⟩, 39)]
theorem lw_r3 : ∀ q ∈ lw_privs_3, lw_okq q := List.forall_mem_cons.mpr ⟨lw_p32, List.forall_mem_cons.mpr ⟨lw_p33, List.forall_mem_cons.mpr ⟨lw_p34, List.forall_mem_cons.mpr ⟨lw_p35, List.forall_mem_cons.mpr ⟨lw_p36, List.forall_mem_cons.mpr ⟨lw_p37, List.forall_mem_cons.mpr ⟨lw_p38, List.forall_mem_cons.mpr ⟨lw_p39, List.forall_mem_cons.mpr ⟨lw_p40, List.forall_mem_cons.mpr ⟨lw_p41, List.forall_mem_cons.mpr ⟨lw_p42, List.forall_mem_cons.mpr ⟨lw_p43, List.forall_mem_cons.mpr ⟨lw_p44, List.forall_mem_cons.mpr ⟨lw_p45, List.forall_mem_cons.mpr ⟨lw_p46, List.forall_mem_cons.mpr ⟨lw_p47, fun _ h => absurd h List.not_mem_nil⟩⟩⟩⟩⟩⟩⟩⟩⟩⟩⟩⟩⟩⟩⟩⟩
theorem lw_p48 : lw_okq (⟨"GuestTowerModel", "find", "(II)I"⟩, 39) := ⟨⟨by decide +kernel, by decide +kernel⟩, List.mem_of_getElem? (i := 565) (by decide +kernel), List.mem_of_getElem? (i := 785) (by decide +kernel), List.mem_of_getElem? (i := 786) (by decide +kernel)⟩
theorem lw_p49 : lw_okq (⟨"GuestTowerModel", "put", "(IZ)V"⟩, 39) := ⟨⟨by decide +kernel, by decide +kernel⟩, List.mem_of_getElem? (i := 565) (by decide +kernel), List.mem_of_getElem? (i := 789) (by decide +kernel), List.mem_of_getElem? (i := 790) (by decide +kernel)⟩
theorem lw_p50 : lw_okq (⟨"GuestTowerModel", "valued", "()I"⟩, 39) := ⟨⟨by decide +kernel, by decide +kernel⟩, List.mem_of_getElem? (i := 565) (by decide +kernel), List.mem_of_getElem? (i := 793) (by decide +kernel), List.mem_of_getElem? (i := 794) (by decide +kernel)⟩
theorem lw_p51 : lw_okq (⟨"GuestTowerModel", "begin", "(III)V"⟩, 39) := ⟨⟨by decide +kernel, by decide +kernel⟩, List.mem_of_getElem? (i := 565) (by decide +kernel), List.mem_of_getElem? (i := 797) (by decide +kernel), List.mem_of_getElem? (i := 798) (by decide +kernel)⟩
theorem lw_p52 : lw_okq (⟨"GuestTowerModel", "isGuest", "(I)Z"⟩, 39) := ⟨⟨by decide +kernel, by decide +kernel⟩, List.mem_of_getElem? (i := 565) (by decide +kernel), List.mem_of_getElem? (i := 809) (by decide +kernel), List.mem_of_getElem? (i := 810) (by decide +kernel)⟩
theorem lw_p53 : lw_okq (⟨"GuestTowerModel", "step", "()V"⟩, 39) := ⟨⟨by decide +kernel, by decide +kernel⟩, List.mem_of_getElem? (i := 565) (by decide +kernel), List.mem_of_getElem? (i := 813) (by decide +kernel), List.mem_of_getElem? (i := 814) (by decide +kernel)⟩
theorem lw_p54 : lw_okq (⟨"GuestTowerModel", "trap", "(III)V"⟩, 39) := ⟨⟨by decide +kernel, by decide +kernel⟩, List.mem_of_getElem? (i := 565) (by decide +kernel), List.mem_of_getElem? (i := 817) (by decide +kernel), List.mem_of_getElem? (i := 818) (by decide +kernel)⟩
theorem lw_p55 : lw_okq (⟨"GuestTowerModel", "bad", "(II)I"⟩, 39) := ⟨⟨by decide +kernel, by decide +kernel⟩, List.mem_of_getElem? (i := 565) (by decide +kernel), List.mem_of_getElem? (i := 821) (by decide +kernel), List.mem_of_getElem? (i := 822) (by decide +kernel)⟩
theorem lw_p56 : lw_okq (⟨"GuestTowerModel", "isGood", "(I)Z"⟩, 39) := ⟨⟨by decide +kernel, by decide +kernel⟩, List.mem_of_getElem? (i := 565) (by decide +kernel), List.mem_of_getElem? (i := 825) (by decide +kernel), List.mem_of_getElem? (i := 826) (by decide +kernel)⟩
theorem lw_p57 : lw_okq (⟨"GuestTowerModel", "get", "(I)I"⟩, 39) := ⟨⟨by decide +kernel, by decide +kernel⟩, List.mem_of_getElem? (i := 565) (by decide +kernel), List.mem_of_getElem? (i := 829) (by decide +kernel), List.mem_of_getElem? (i := 830) (by decide +kernel)⟩
theorem lw_p58 : lw_okq (⟨"GuestTowerModel", "does", "(IIIIII)V"⟩, 39) := ⟨⟨by decide +kernel, by decide +kernel⟩, List.mem_of_getElem? (i := 565) (by decide +kernel), List.mem_of_getElem? (i := 833) (by decide +kernel), List.mem_of_getElem? (i := 834) (by decide +kernel)⟩
theorem lw_p59 : lw_okq (⟨"GuestTowerModel", "set", "(II)V"⟩, 39) := ⟨⟨by decide +kernel, by decide +kernel⟩, List.mem_of_getElem? (i := 565) (by decide +kernel), List.mem_of_getElem? (i := 837) (by decide +kernel), List.mem_of_getElem? (i := 838) (by decide +kernel)⟩
theorem lw_p60 : lw_okq (⟨"GuestTowerModel", "rest", "(IIII)V"⟩, 39) := ⟨⟨by decide +kernel, by decide +kernel⟩, List.mem_of_getElem? (i := 565) (by decide +kernel), List.mem_of_getElem? (i := 841) (by decide +kernel), List.mem_of_getElem? (i := 842) (by decide +kernel)⟩
theorem lw_p61 : lw_okq (⟨"GuestTowerModel", "typedNext", "()I"⟩, 39) := ⟨⟨by decide +kernel, by decide +kernel⟩, List.mem_of_getElem? (i := 565) (by decide +kernel), List.mem_of_getElem? (i := 845) (by decide +kernel), List.mem_of_getElem? (i := 846) (by decide +kernel)⟩
def lw_privs_4 : List (MethodName × Nat) := [(⟨"GuestTowerModel", "find", "(II)I"⟩, 39), (⟨"GuestTowerModel", "put", "(IZ)V"⟩, 39), (⟨"GuestTowerModel", "valued", "()I"⟩, 39), (⟨"GuestTowerModel", "begin", "(III)V"⟩, 39), (⟨"GuestTowerModel", "isGuest", "(I)Z"⟩, 39), (⟨"GuestTowerModel", "step", "()V"⟩, 39), (⟨"GuestTowerModel", "trap", "(III)V"⟩, 39), (⟨"GuestTowerModel", "bad", "(II)I"⟩, 39), (⟨"GuestTowerModel", "isGood", "(I)Z"⟩, 39), (⟨"GuestTowerModel", "get", "(I)I"⟩, 39), (⟨"GuestTowerModel", "does", "(IIIIII)V"⟩, 39), (⟨"GuestTowerModel", "set", "(II)V"⟩, 39), (⟨"GuestTowerModel", "rest", "(IIII)V"⟩, 39), (⟨"GuestTowerModel", "typedNext", "()I"⟩, 39)]
theorem lw_r4 : ∀ q ∈ lw_privs_4, lw_okq q := List.forall_mem_cons.mpr ⟨lw_p48, List.forall_mem_cons.mpr ⟨lw_p49, List.forall_mem_cons.mpr ⟨lw_p50, List.forall_mem_cons.mpr ⟨lw_p51, List.forall_mem_cons.mpr ⟨lw_p52, List.forall_mem_cons.mpr ⟨lw_p53, List.forall_mem_cons.mpr ⟨lw_p54, List.forall_mem_cons.mpr ⟨lw_p55, List.forall_mem_cons.mpr ⟨lw_p56, List.forall_mem_cons.mpr ⟨lw_p57, List.forall_mem_cons.mpr ⟨lw_p58, List.forall_mem_cons.mpr ⟨lw_p59, List.forall_mem_cons.mpr ⟨lw_p60, List.forall_mem_cons.mpr ⟨lw_p61, fun _ h => absurd h List.not_mem_nil⟩⟩⟩⟩⟩⟩⟩⟩⟩⟩⟩⟩⟩⟩
def lw_privs : List (MethodName × Nat) := lw_privs_1 ++ (lw_privs_2 ++ (lw_privs_3 ++ (lw_privs_4)))
def lw_tbl : List Cond := k2_sels lw_privs ++ tables_1
theorem lw_privs_ok : ∀ q ∈ lw_privs, lw_okq q := by
  show ∀ q ∈ lw_privs_1 ++ (lw_privs_2 ++ (lw_privs_3 ++ (lw_privs_4))), lw_okq q
  exact List.forall_mem_append.mpr ⟨lw_r1, List.forall_mem_append.mpr ⟨lw_r2, List.forall_mem_append.mpr ⟨lw_r3, lw_r4⟩⟩⟩
end
section
def R_GT : String := "GuestTower"
def R_AS : String := "GuestTower$Assembler"
def R_CO : String := "GuestTower$Console"
def R_GU : String := "GuestTower$Guest"
def R_LI : String := "GuestTower$Line"
def R_MA : String := "GuestTower$Machine"
def R_MO : String := "GuestTower$Monitor"
def R_MD : String := "GuestTowerModel"
def R_LW : String := "GuestTowerLaw"
def R_JS : String := "java/lang/String"
def R_JL : String := "java/lang/StringLatin1"
def R_JU : String := "java/lang/StringUTF16"
def R_JY : String := "java/lang/System"
def R_JA : String := "java/util/Arrays"
def R_JP : String := "jdk/internal/util/Preconditions"
def R_JO : String := "java/lang/Object"
def T_MA : u_T := fun k => match k with
  | 0 => ("GuestTower$Machine", "memory", "[I", true)
  | 1 => ("GuestTower$Machine", "registers", "[I", true)
  | 2 => ("GuestTower$Machine", "blocks", "[I", true)
  | 3 => ("GuestTower$Machine", "console", "LGuestTower$Console;", true)
  | 4 => ("GuestTower$Machine", "size", "I", false)
  | 5 => ("GuestTower$Machine", "mode", "I", false)
  | 6 => ("GuestTower$Machine", "pc", "I", false)
  | 7 => ("GuestTower$Machine", "base", "I", false)
  | 8 => ("GuestTower$Machine", "bound", "I", false)
  | 9 => ("GuestTower$Machine", "reach", "I", false)
  | 10 => ("GuestTower$Machine", "timer", "I", false)
  | 11 => ("GuestTower$Machine", "ranOut", "Z", false)
  | _ => ("GuestTower$Machine", "halted", "Z", false)
def t_MA : Nat → FieldType := fun k => match k with
  | 0 => (.array .int)
  | 1 => (.array .int)
  | 2 => (.array .int)
  | 3 => (.object "GuestTower$Console")
  | 4 => .int
  | 5 => .int
  | 6 => .int
  | 7 => .int
  | 8 => .int
  | 9 => .int
  | 10 => .int
  | 11 => .boolean
  | _ => .boolean
theorem n_MA : ∀ a, a < 13 → ∀ b, b < 13 → a ≠ b → (T_MA a).2.1 ≠ (T_MA b).2.1 := by decide +kernel
theorem t_MA_ok : ∀ k, k < 13 → parseFieldDescriptor (T_MA k).2.2.1 = some (t_MA k) := by decide +kernel
def T_CO : u_T := fun k => match k with
  | 0 => ("GuestTower$Console", "typed", "[I", true)
  | 1 => ("GuestTower$Console", "sentBytes", "[I", true)
  | 2 => ("GuestTower$Console", "oldest", "I", false)
  | 3 => ("GuestTower$Console", "waiting", "I", false)
  | _ => ("GuestTower$Console", "sent", "I", false)
def t_CO : Nat → FieldType := fun k => match k with
  | 0 => (.array .int)
  | 1 => (.array .int)
  | 2 => .int
  | 3 => .int
  | _ => .int
theorem n_CO : ∀ a, a < 5 → ∀ b, b < 5 → a ≠ b → (T_CO a).2.1 ≠ (T_CO b).2.1 := by decide +kernel
theorem t_CO_ok : ∀ k, k < 5 → parseFieldDescriptor (T_CO k).2.2.1 = some (t_CO k) := by decide +kernel
def T_GU : u_T := fun k => match k with
  | 0 => ("GuestTower$Guest", "machine", "LGuestTower$Machine;", true)
  | 1 => ("GuestTower$Guest", "size", "I", false)
  | 2 => ("GuestTower$Guest", "depth", "I", false)
  | 3 => ("GuestTower$Guest", "start", "I", false)
  | _ => ("GuestTower$Guest", "steps", "I", false)
def t_GU : Nat → FieldType := fun k => match k with
  | 0 => (.object "GuestTower$Machine")
  | 1 => .int
  | 2 => .int
  | 3 => .int
  | _ => .int
theorem n_GU : ∀ a, a < 5 → ∀ b, b < 5 → a ≠ b → (T_GU a).2.1 ≠ (T_GU b).2.1 := by decide +kernel
theorem t_GU_ok : ∀ k, k < 5 → parseFieldDescriptor (T_GU k).2.2.1 = some (t_GU k) := by decide +kernel
def T_LI : u_T := fun k => match k with
  | 0 => ("GuestTower$Line", "text", "[I", false)
  | 1 => ("GuestTower$Line", "at", "I", false)
  | 2 => ("GuestTower$Line", "end", "I", false)
  | 3 => ("GuestTower$Line", "label", "J", false)
  | 4 => ("GuestTower$Line", "order", "I", false)
  | 5 => ("GuestTower$Line", "a", "I", false)
  | 6 => ("GuestTower$Line", "b", "I", false)
  | 7 => ("GuestTower$Line", "number", "I", false)
  | _ => ("GuestTower$Line", "wanted", "J", false)
def t_LI : Nat → FieldType := fun k => match k with
  | 0 => (.array .int)
  | 1 => .int
  | 2 => .int
  | 3 => .long
  | 4 => .int
  | 5 => .int
  | 6 => .int
  | 7 => .int
  | _ => .long
theorem n_LI : ∀ a, a < 9 → ∀ b, b < 9 → a ≠ b → (T_LI a).2.1 ≠ (T_LI b).2.1 := by decide +kernel
theorem t_LI_ok : ∀ k, k < 9 → parseFieldDescriptor (T_LI k).2.2.1 = some (t_LI k) := by decide +kernel
def T_AS : u_T := fun k => match k with
  | 0 => ("GuestTower$Assembler", "words", "[I", true)
  | 1 => ("GuestTower$Assembler", "here", "I", false)
  | 2 => ("GuestTower$Assembler", "fault", "I", false)
  | 3 => ("GuestTower$Assembler", "faultLine", "I", false)
  | 4 => ("GuestTower$Assembler", "line", "LGuestTower$Line;", true)
  | 5 => ("GuestTower$Assembler", "labels", "[J", true)
  | 6 => ("GuestTower$Assembler", "labelAddresses", "[I", true)
  | 7 => ("GuestTower$Assembler", "labelCount", "I", false)
  | 8 => ("GuestTower$Assembler", "useLabels", "[J", true)
  | 9 => ("GuestTower$Assembler", "useAddresses", "[I", true)
  | 10 => ("GuestTower$Assembler", "useLines", "[I", true)
  | _ => ("GuestTower$Assembler", "useCount", "I", false)
def t_AS : Nat → FieldType := fun k => match k with
  | 0 => (.array .int)
  | 1 => .int
  | 2 => .int
  | 3 => .int
  | 4 => (.object "GuestTower$Line")
  | 5 => (.array .long)
  | 6 => (.array .int)
  | 7 => .int
  | 8 => (.array .long)
  | 9 => (.array .int)
  | 10 => (.array .int)
  | _ => .int
theorem n_AS : ∀ a, a < 12 → ∀ b, b < 12 → a ≠ b → (T_AS a).2.1 ≠ (T_AS b).2.1 := by decide +kernel
theorem t_AS_ok : ∀ k, k < 12 → parseFieldDescriptor (T_AS k).2.2.1 = some (t_AS k) := by decide +kernel
def T_GT : u_T := fun k => match k with
  | 0 => ("GuestTower", "tape", "[I", true)
  | 1 => ("GuestTower", "tapeLength", "I", false)
  | 2 => ("GuestTower", "assembler", "LGuestTower$Assembler;", true)
  | 3 => ("GuestTower", "guests", "[LGuestTower$Guest;", true)
  | 4 => ("GuestTower", "latestFault", "I", false)
  | _ => ("GuestTower", "latestLine", "I", false)
def t_GT : Nat → FieldType := fun k => match k with
  | 0 => (.array .int)
  | 1 => .int
  | 2 => (.object "GuestTower$Assembler")
  | 3 => (.array (.object "GuestTower$Guest"))
  | 4 => .int
  | _ => .int
theorem n_GT : ∀ a, a < 6 → ∀ b, b < 6 → a ≠ b → (T_GT a).2.1 ≠ (T_GT b).2.1 := by decide +kernel
theorem t_GT_ok : ∀ k, k < 6 → parseFieldDescriptor (T_GT k).2.2.1 = some (t_GT k) := by decide +kernel
def T_MD : u_T := fun k => match k with
  | 0 => ("GuestTowerModel", "tape", "[B", true)
  | 1 => ("GuestTowerModel", "taped", "I", false)
  | 2 => ("GuestTowerModel", "isThere", "[Z", true)
  | 3 => ("GuestTowerModel", "size", "[I", true)
  | 4 => ("GuestTowerModel", "depth", "[I", true)
  | 5 => ("GuestTowerModel", "memory", "[I", true)
  | 6 => ("GuestTowerModel", "register", "[I", true)
  | 7 => ("GuestTowerModel", "mode", "[I", true)
  | 8 => ("GuestTowerModel", "pc", "[I", true)
  | 9 => ("GuestTowerModel", "base", "[I", true)
  | 10 => ("GuestTowerModel", "bound", "[I", true)
  | 11 => ("GuestTowerModel", "timer", "[I", true)
  | 12 => ("GuestTowerModel", "ranOut", "[Z", true)
  | 13 => ("GuestTowerModel", "halted", "[Z", true)
  | 14 => ("GuestTowerModel", "steps", "[I", true)
  | 15 => ("GuestTowerModel", "outs", "[I", true)
  | 16 => ("GuestTowerModel", "output", "[I", true)
  | 17 => ("GuestTowerModel", "waits", "[I", true)
  | 18 => ("GuestTowerModel", "typed", "[I", true)
  | 19 => ("GuestTowerModel", "disk", "[I", true)
  | 20 => ("GuestTowerModel", "wants", "[I", true)
  | 21 => ("GuestTowerModel", "at", "I", false)
  | 22 => ("GuestTowerModel", "end", "I", false)
  | 23 => ("GuestTowerModel", "line", "I", false)
  | 24 => ("GuestTowerModel", "labelFrom", "[I", true)
  | 25 => ("GuestTowerModel", "labelSize", "[I", true)
  | 26 => ("GuestTowerModel", "labelAddress", "[I", true)
  | 27 => ("GuestTowerModel", "labels", "I", false)
  | 28 => ("GuestTowerModel", "fault", "I", false)
  | 29 => ("GuestTowerModel", "faultLine", "I", false)
  | 30 => ("GuestTowerModel", "isTold", "Z", false)
  | 31 => ("GuestTowerModel", "address", "I", false)
  | 32 => ("GuestTowerModel", "made", "[I", true)
  | 33 => ("GuestTowerModel", "missing", "I", false)
  | 34 => ("GuestTowerModel", "good", "Z", false)
  | 35 => ("GuestTowerModel", "value", "I", false)
  | 36 => ("GuestTowerModel", "valueFrom", "I", false)
  | 37 => ("GuestTowerModel", "valueSize", "I", false)
  | _ => ("GuestTowerModel", "me", "I", false)
def t_MD : Nat → FieldType := fun k => match k with
  | 0 => (.array .byte)
  | 1 => .int
  | 2 => (.array .boolean)
  | 3 => (.array .int)
  | 4 => (.array .int)
  | 5 => (.array .int)
  | 6 => (.array .int)
  | 7 => (.array .int)
  | 8 => (.array .int)
  | 9 => (.array .int)
  | 10 => (.array .int)
  | 11 => (.array .int)
  | 12 => (.array .boolean)
  | 13 => (.array .boolean)
  | 14 => (.array .int)
  | 15 => (.array .int)
  | 16 => (.array .int)
  | 17 => (.array .int)
  | 18 => (.array .int)
  | 19 => (.array .int)
  | 20 => (.array .int)
  | 21 => .int
  | 22 => .int
  | 23 => .int
  | 24 => (.array .int)
  | 25 => (.array .int)
  | 26 => (.array .int)
  | 27 => .int
  | 28 => .int
  | 29 => .int
  | 30 => .boolean
  | 31 => .int
  | 32 => (.array .int)
  | 33 => .int
  | 34 => .boolean
  | 35 => .int
  | 36 => .int
  | 37 => .int
  | _ => .int
theorem n_MD : ∀ a, a < 39 → ∀ b, b < 39 → a ≠ b → (T_MD a).2.1 ≠ (T_MD b).2.1 := by decide +kernel
theorem t_MD_ok : ∀ k, k < 39 → parseFieldDescriptor (T_MD k).2.2.1 = some (t_MD k) := by decide +kernel
abbrev classes : List vw_C := [(R_MA, T_MA, 13), (R_CO, T_CO, 5), (R_GU, T_GU, 5), (R_LI, T_LI, 9), (R_AS, T_AS, 12), (R_GT, T_GT, 6), (R_MD, T_MD, 39)]
def y_AS_addressOf : MethodName := ⟨R_AS, "addressOf", "(J)I"⟩
def y_AS_assemble : MethodName := ⟨R_AS, "assemble", "([III)V"⟩
def y_AS_clearWords : MethodName := ⟨R_AS, "clearWords", "(I)V"⟩
def y_AS_faultOfLine : MethodName := ⟨R_AS, "faultOfLine", "(I)I"⟩
def y_AS_fillUses : MethodName := ⟨R_AS, "fillUses", "()V"⟩
def y_AS_init : MethodName := ⟨R_AS, "<init>", "()V"⟩
def y_AS_lineBehind : MethodName := ⟨R_AS, "lineBehind", "()I"⟩
def y_AS_lineEnd : MethodName := ⟨R_AS, "lineEnd", "([III)I"⟩
def y_AS_placeLine : MethodName := ⟨R_AS, "placeLine", "(I)V"⟩
def y_AS_placeNumber : MethodName := ⟨R_AS, "placeNumber", "(II)V"⟩
def y_AS_tellFault : MethodName := ⟨R_AS, "tellFault", "(II)V"⟩
def y_CO_clear : MethodName := ⟨R_CO, "clear", "()V"⟩
def y_CO_init : MethodName := ⟨R_CO, "<init>", "()V"⟩
def y_CO_isTaken : MethodName := ⟨R_CO, "isTaken", "(I)Z"⟩
def y_CO_nextTyped : MethodName := ⟨R_CO, "nextTyped", "()I"⟩
def y_CO_send : MethodName := ⟨R_CO, "send", "(I)V"⟩
def y_CO_sentByte : MethodName := ⟨R_CO, "sentByte", "(I)I"⟩
def y_GT_disk : MethodName := ⟨R_GT, "disk", "(III)I"⟩
def y_GT_fault : MethodName := ⟨R_GT, "fault", "(I)I"⟩
def y_GT_feed : MethodName := ⟨R_GT, "feed", "(IIIII)I"⟩
def y_GT_guestAt : MethodName := ⟨R_GT, "guestAt", "(I)LGuestTower$Guest;"⟩
def y_GT_init : MethodName := ⟨R_GT, "<init>", "()V"⟩
def y_GT_isGuest : MethodName := ⟨R_GT, "isGuest", "(I)Z"⟩
def y_GT_load : MethodName := ⟨R_GT, "load", "(IIII)I"⟩
def y_GT_look : MethodName := ⟨R_GT, "look", "(II)I"⟩
def y_GT_output : MethodName := ⟨R_GT, "output", "(II)I"⟩
def y_GT_putOnTape : MethodName := ⟨R_GT, "putOnTape", "(I)V"⟩
def y_GT_run : MethodName := ⟨R_GT, "run", "(II)I"⟩
def y_GT_type : MethodName := ⟨R_GT, "type", "(II)Z"⟩
def y_GT_word : MethodName := ⟨R_GT, "word", "(II)I"⟩
def y_GU_advance : MethodName := ⟨R_GU, "advance", "(I)I"⟩
def y_GU_awaitTurn : MethodName := ⟨R_GU, "awaitTurn", "()V"⟩
def y_GU_begin : MethodName := ⟨R_GU, "begin", "([IIII)V"⟩
def y_GU_init : MethodName := ⟨R_GU, "<init>", "()V"⟩
def y_GU_isTurn : MethodName := ⟨R_GU, "isTurn", "()Z"⟩
def y_GU_kept : MethodName := ⟨R_GU, "kept", "(I)I"⟩
def y_GU_mode : MethodName := ⟨R_GU, "mode", "()I"⟩
def y_GU_pc : MethodName := ⟨R_GU, "pc", "()I"⟩
def y_GU_timer : MethodName := ⟨R_GU, "timer", "()I"⟩
def y_GU_told : MethodName := ⟨R_GU, "told", "(I)I"⟩
def y_GU_wordAt : MethodName := ⟨R_GU, "wordAt", "(I)I"⟩
def y_JA_fill : MethodName := ⟨R_JA, "fill", "([II)V"⟩
def y_JL_charAt : MethodName := ⟨R_JL, "charAt", "([BI)C"⟩
def y_JO_init : MethodName := ⟨R_JO, "<init>", "()V"⟩
def y_JP_checkIndex : MethodName := ⟨R_JP, "checkIndex", "(IILjava/util/function/BiFunction;)I"⟩
def y_JS_charAt : MethodName := ⟨R_JS, "charAt", "(I)C"⟩
def y_JS_checkIndex : MethodName := ⟨R_JS, "checkIndex", "(II)V"⟩
def y_JS_isLatin1 : MethodName := ⟨R_JS, "isLatin1", "()Z"⟩
def y_JU_charAt : MethodName := ⟨R_JU, "charAt", "([BI)C"⟩
def y_JU_checkIndex : MethodName := ⟨R_JU, "checkIndex", "(I[B)V"⟩
def y_JU_getChar : MethodName := ⟨R_JU, "getChar", "([BI)C"⟩
def y_JU_length : MethodName := ⟨R_JU, "length", "([B)I"⟩
def y_JY_arraycopy : MethodName := ⟨R_JY, "arraycopy", "(Ljava/lang/Object;ILjava/lang/Object;II)V"⟩
def y_LI_dropRemark : MethodName := ⟨R_LI, "dropRemark", "()V"⟩
def y_LI_hasGoodBytes : MethodName := ⟨R_LI, "hasGoodBytes", "()Z"⟩
def y_LI_here : MethodName := ⟨R_LI, "here", "()I"⟩
def y_LI_init : MethodName := ⟨R_LI, "<init>", "()V"⟩
def y_LI_isDigit : MethodName := ⟨R_LI, "isDigit", "(I)Z"⟩
def y_LI_isInstruction : MethodName := ⟨R_LI, "isInstruction", "()Z"⟩
def y_LI_isLabelRead : MethodName := ⟨R_LI, "isLabelRead", "()Z"⟩
def y_LI_isLetter : MethodName := ⟨R_LI, "isLetter", "(I)Z"⟩
def y_LI_isNamed : MethodName := ⟨R_LI, "isNamed", "(III)Z"⟩
def y_LI_isNumberRead : MethodName := ⟨R_LI, "isNumberRead", "(I)Z"⟩
def y_LI_isOrderRead : MethodName := ⟨R_LI, "isOrderRead", "()Z"⟩
def y_LI_isReadFrom : MethodName := ⟨R_LI, "isReadFrom", "([III)Z"⟩
def y_LI_skipBlanks : MethodName := ⟨R_LI, "skipBlanks", "()V"⟩
def y_LI_takeLabel : MethodName := ⟨R_LI, "takeLabel", "()J"⟩
def y_LI_takeNumber : MethodName := ⟨R_LI, "takeNumber", "()I"⟩
def y_LI_takeOrder : MethodName := ⟨R_LI, "takeOrder", "()I"⟩
def y_LI_takeRegister : MethodName := ⟨R_LI, "takeRegister", "()I"⟩
def y_MA_access : MethodName := ⟨R_MA, "access", "(III)V"⟩
def y_MA_blockWord : MethodName := ⟨R_MA, "blockWord", "(II)I"⟩
def y_MA_clear : MethodName := ⟨R_MA, "clear", "(I)V"⟩
def y_MA_compute : MethodName := ⟨R_MA, "compute", "(IIII)V"⟩
def y_MA_copyIn : MethodName := ⟨R_MA, "copyIn", "([III)V"⟩
def y_MA_firstBad : MethodName := ⟨R_MA, "firstBad", "(II)I"⟩
def y_MA_goOn : MethodName := ⟨R_MA, "goOn", "(I)V"⟩
def y_MA_govern : MethodName := ⟨R_MA, "govern", "(IIII)V"⟩
def y_MA_init : MethodName := ⟨R_MA, "<init>", "(I)V"⟩
def y_MA_keepStatus : MethodName := ⟨R_MA, "keepStatus", "(II)V"⟩
def y_MA_register : MethodName := ⟨R_MA, "register", "(I)I"⟩
def y_MA_shifted : MethodName := ⟨R_MA, "shifted", "(II)I"⟩
def y_MA_step : MethodName := ⟨R_MA, "step", "()V"⟩
def y_MA_takeStatus : MethodName := ⟨R_MA, "takeStatus", "(I)V"⟩
def y_MA_trap : MethodName := ⟨R_MA, "trap", "(III)V"⟩
def y_MA_wordsWanted : MethodName := ⟨R_MA, "wordsWanted", "(I)I"⟩
def y_MD_bad : MethodName := ⟨R_MD, "bad", "(II)I"⟩
def y_MD_begin : MethodName := ⟨R_MD, "begin", "(III)V"⟩
def y_MD_blanks : MethodName := ⟨R_MD, "blanks", "()V"⟩
def y_MD_byteAt : MethodName := ⟨R_MD, "byteAt", "(I)I"⟩
def y_MD_disk : MethodName := ⟨R_MD, "disk", "(III)I"⟩
def y_MD_does : MethodName := ⟨R_MD, "does", "(IIIIII)V"⟩
def y_MD_fault : MethodName := ⟨R_MD, "fault", "(I)I"⟩
def y_MD_feed : MethodName := ⟨R_MD, "feed", "(IIIII)I"⟩
def y_MD_find : MethodName := ⟨R_MD, "find", "(II)I"⟩
def y_MD_gap : MethodName := ⟨R_MD, "gap", "()V"⟩
def y_MD_get : MethodName := ⟨R_MD, "get", "(I)I"⟩
def y_MD_in : MethodName := ⟨R_MD, "in", "(III)Z"⟩
def y_MD_init : MethodName := ⟨R_MD, "<init>", "()V"⟩
def y_MD_isDigit : MethodName := ⟨R_MD, "isDigit", "(I)Z"⟩
def y_MD_isGood : MethodName := ⟨R_MD, "isGood", "(I)Z"⟩
def y_MD_isGreat : MethodName := ⟨R_MD, "isGreat", "(I)Z"⟩
def y_MD_isGuest : MethodName := ⟨R_MD, "isGuest", "(I)Z"⟩
def y_MD_isOver : MethodName := ⟨R_MD, "isOver", "()Z"⟩
def y_MD_isSmall : MethodName := ⟨R_MD, "isSmall", "(I)Z"⟩
def y_MD_lines : MethodName := ⟨R_MD, "lines", "(IZ)Z"⟩
def y_MD_load : MethodName := ⟨R_MD, "load", "(IIII)I"⟩
def y_MD_look : MethodName := ⟨R_MD, "look", "(II)I"⟩
def y_MD_name : MethodName := ⟨R_MD, "name", "(I)J"⟩
def y_MD_nameAt : MethodName := ⟨R_MD, "nameAt", "(I)I"⟩
def y_MD_number : MethodName := ⟨R_MD, "number", "()I"⟩
def y_MD_oneLine : MethodName := ⟨R_MD, "oneLine", "(IZ)I"⟩
def y_MD_order : MethodName := ⟨R_MD, "order", "()I"⟩
def y_MD_output : MethodName := ⟨R_MD, "output", "(II)I"⟩
def y_MD_put : MethodName := ⟨R_MD, "put", "(IZ)V"⟩
def y_MD_register : MethodName := ⟨R_MD, "register", "()I"⟩
def y_MD_rest : MethodName := ⟨R_MD, "rest", "(IIII)V"⟩
def y_MD_run : MethodName := ⟨R_MD, "run", "(II)I"⟩
def y_MD_set : MethodName := ⟨R_MD, "set", "(II)V"⟩
def y_MD_step : MethodName := ⟨R_MD, "step", "()V"⟩
def y_MD_trap : MethodName := ⟨R_MD, "trap", "(III)V"⟩
def y_MD_type : MethodName := ⟨R_MD, "type", "(II)Z"⟩
def y_MD_typedNext : MethodName := ⟨R_MD, "typedNext", "()I"⟩
def y_MD_value : MethodName := ⟨R_MD, "value", "(Z)V"⟩
def y_MD_valued : MethodName := ⟨R_MD, "valued", "()I"⟩
def y_MD_word1 : MethodName := ⟨R_MD, "word", "(I)V"⟩
def y_MD_word2 : MethodName := ⟨R_MD, "word", "(II)I"⟩
abbrev c_AS_addressOf : ByteArray := prog_2_method_11_code
abbrev c_AS_assemble : ByteArray := prog_2_method_2_code
abbrev c_AS_clearWords : ByteArray := prog_2_method_8_code
abbrev c_AS_faultOfLine : ByteArray := prog_2_method_5_code
abbrev c_AS_fillUses : ByteArray := prog_2_method_10_code
abbrev c_AS_init : ByteArray := prog_2_method_1_code
abbrev c_AS_lineBehind : ByteArray := prog_2_method_6_code
abbrev c_AS_lineEnd : ByteArray := prog_2_method_3_code
abbrev c_AS_placeLine : ByteArray := prog_2_method_7_code
abbrev c_AS_placeNumber : ByteArray := prog_2_method_9_code
abbrev c_AS_tellFault : ByteArray := prog_2_method_4_code
abbrev c_CO_clear : ByteArray := prog_3_method_2_code
abbrev c_CO_init : ByteArray := prog_3_method_1_code
abbrev c_CO_isTaken : ByteArray := prog_3_method_3_code
abbrev c_CO_nextTyped : ByteArray := prog_3_method_4_code
abbrev c_CO_send : ByteArray := prog_3_method_5_code
abbrev c_CO_sentByte : ByteArray := prog_3_method_6_code
abbrev c_GT_disk : ByteArray := prog_1_method_10_code
abbrev c_GT_fault : ByteArray := prog_1_method_4_code
abbrev c_GT_feed : ByteArray := prog_1_method_2_code
abbrev c_GT_guestAt : ByteArray := prog_1_method_13_code
abbrev c_GT_init : ByteArray := prog_1_method_1_code
abbrev c_GT_isGuest : ByteArray := prog_1_method_12_code
abbrev c_GT_load : ByteArray := prog_1_method_3_code
abbrev c_GT_look : ByteArray := prog_1_method_7_code
abbrev c_GT_output : ByteArray := prog_1_method_9_code
abbrev c_GT_putOnTape : ByteArray := prog_1_method_11_code
abbrev c_GT_run : ByteArray := prog_1_method_5_code
abbrev c_GT_type : ByteArray := prog_1_method_6_code
abbrev c_GT_word : ByteArray := prog_1_method_8_code
abbrev c_GU_advance : ByteArray := prog_4_method_3_code
abbrev c_GU_awaitTurn : ByteArray := prog_4_method_4_code
abbrev c_GU_begin : ByteArray := prog_4_method_2_code
abbrev c_GU_init : ByteArray := prog_4_method_1_code
abbrev c_GU_isTurn : ByteArray := prog_4_method_5_code
abbrev c_GU_kept : ByteArray := prog_4_method_10_code
abbrev c_GU_mode : ByteArray := prog_4_method_7_code
abbrev c_GU_pc : ByteArray := prog_4_method_8_code
abbrev c_GU_timer : ByteArray := prog_4_method_9_code
abbrev c_GU_told : ByteArray := prog_4_method_6_code
abbrev c_GU_wordAt : ByteArray := prog_4_method_11_code
abbrev c_JA_fill : ByteArray := prog_14_method_103_code
abbrev c_JL_charAt : ByteArray := prog_11_method_2_code
abbrev c_JO_init : ByteArray := object_method_1_code
abbrev c_JP_checkIndex : ByteArray := prog_15_method_11_code
abbrev c_JS_charAt : ByteArray := prog_10_method_56_code
abbrev c_JS_checkIndex : ByteArray := prog_10_method_155_code
abbrev c_JS_isLatin1 : ByteArray := prog_10_method_154_code
abbrev c_JU_charAt : ByteArray := prog_12_method_83_code
abbrev c_JU_checkIndex : ByteArray := prog_12_method_91_code
abbrev c_JU_getChar : ByteArray := prog_12_method_5_code
abbrev c_JU_length : ByteArray := prog_12_method_6_code
abbrev c_LI_dropRemark : ByteArray := prog_5_method_5_code
abbrev c_LI_hasGoodBytes : ByteArray := prog_5_method_4_code
abbrev c_LI_here : ByteArray := prog_5_method_15_code
abbrev c_LI_init : ByteArray := prog_5_method_1_code
abbrev c_LI_isDigit : ByteArray := prog_5_method_17_code
abbrev c_LI_isInstruction : ByteArray := prog_5_method_2_code
abbrev c_LI_isLabelRead : ByteArray := prog_5_method_6_code
abbrev c_LI_isLetter : ByteArray := prog_5_method_16_code
abbrev c_LI_isNamed : ByteArray := prog_5_method_9_code
abbrev c_LI_isNumberRead : ByteArray := prog_5_method_11_code
abbrev c_LI_isOrderRead : ByteArray := prog_5_method_7_code
abbrev c_LI_isReadFrom : ByteArray := prog_5_method_3_code
abbrev c_LI_skipBlanks : ByteArray := prog_5_method_14_code
abbrev c_LI_takeLabel : ByteArray := prog_5_method_13_code
abbrev c_LI_takeNumber : ByteArray := prog_5_method_12_code
abbrev c_LI_takeOrder : ByteArray := prog_5_method_8_code
abbrev c_LI_takeRegister : ByteArray := prog_5_method_10_code
abbrev c_MA_access : ByteArray := prog_6_method_7_code
abbrev c_MA_blockWord : ByteArray := prog_6_method_5_code
abbrev c_MA_clear : ByteArray := prog_6_method_2_code
abbrev c_MA_compute : ByteArray := prog_6_method_8_code
abbrev c_MA_copyIn : ByteArray := prog_6_method_3_code
abbrev c_MA_firstBad : ByteArray := prog_6_method_15_code
abbrev c_MA_goOn : ByteArray := prog_6_method_9_code
abbrev c_MA_govern : ByteArray := prog_6_method_10_code
abbrev c_MA_init : ByteArray := prog_6_method_1_code
abbrev c_MA_keepStatus : ByteArray := prog_6_method_13_code
abbrev c_MA_register : ByteArray := prog_6_method_4_code
abbrev c_MA_shifted : ByteArray := prog_6_method_16_code
abbrev c_MA_step : ByteArray := prog_6_method_6_code
abbrev c_MA_takeStatus : ByteArray := prog_6_method_14_code
abbrev c_MA_trap : ByteArray := prog_6_method_12_code
abbrev c_MA_wordsWanted : ByteArray := prog_6_method_11_code
abbrev c_MD_bad : ByteArray := prog_9_method_31_code
abbrev c_MD_begin : ByteArray := prog_9_method_25_code
abbrev c_MD_blanks : ByteArray := prog_9_method_8_code
abbrev c_MD_byteAt : ByteArray := prog_9_method_6_code
abbrev c_MD_disk : ByteArray := prog_9_method_42_code
abbrev c_MD_does : ByteArray := prog_9_method_33_code
abbrev c_MD_fault : ByteArray := prog_9_method_26_code
abbrev c_MD_feed : ByteArray := prog_9_method_3_code
abbrev c_MD_find : ByteArray := prog_9_method_13_code
abbrev c_MD_gap : ByteArray := prog_9_method_16_code
abbrev c_MD_get : ByteArray := prog_9_method_28_code
abbrev c_MD_in : ByteArray := prog_9_method_2_code
abbrev c_MD_init : ByteArray := prog_9_method_5_code
abbrev c_MD_isDigit : ByteArray := prog_9_method_10_code
abbrev c_MD_isGood : ByteArray := prog_9_method_27_code
abbrev c_MD_isGreat : ByteArray := prog_9_method_11_code
abbrev c_MD_isGuest : ByteArray := prog_9_method_36_code
abbrev c_MD_isOver : ByteArray := prog_9_method_7_code
abbrev c_MD_isSmall : ByteArray := prog_9_method_9_code
abbrev c_MD_lines : ByteArray := prog_9_method_23_code
abbrev c_MD_load : ByteArray := prog_9_method_24_code
abbrev c_MD_look : ByteArray := prog_9_method_39_code
abbrev c_MD_name : ByteArray := prog_9_method_15_code
abbrev c_MD_nameAt : ByteArray := prog_9_method_12_code
abbrev c_MD_number : ByteArray := prog_9_method_18_code
abbrev c_MD_oneLine : ByteArray := prog_9_method_22_code
abbrev c_MD_order : ByteArray := prog_9_method_14_code
abbrev c_MD_output : ByteArray := prog_9_method_41_code
abbrev c_MD_put : ByteArray := prog_9_method_21_code
abbrev c_MD_register : ByteArray := prog_9_method_17_code
abbrev c_MD_rest : ByteArray := prog_9_method_34_code
abbrev c_MD_run : ByteArray := prog_9_method_37_code
abbrev c_MD_set : ByteArray := prog_9_method_29_code
abbrev c_MD_step : ByteArray := prog_9_method_32_code
abbrev c_MD_trap : ByteArray := prog_9_method_30_code
abbrev c_MD_type : ByteArray := prog_9_method_38_code
abbrev c_MD_typedNext : ByteArray := prog_9_method_35_code
abbrev c_MD_value : ByteArray := prog_9_method_19_code
abbrev c_MD_valued : ByteArray := prog_9_method_20_code
abbrev c_MD_word1 : ByteArray := prog_9_method_4_code
abbrev c_MD_word2 : ByteArray := prog_9_method_40_code
def G : List Cond := lw_tbl.filter goodWord
theorem gT {c : Cond} (i : Nat) (h : tables_1[i]? = some c) (hg : goodWord c = true) : c ∈ G := List.mem_filter.mpr ⟨List.mem_append_right _ (List.mem_of_getElem? h), hg⟩
theorem gT1 {c : Cond} (i : Nat) (h : tables_1_1[i]? = some c) (hg : goodWord c = true) : c ∈ G := List.mem_filter.mpr ⟨List.mem_append_right _ (List.mem_append_left _ (List.mem_of_getElem? h)), hg⟩
theorem gT2 {c : Cond} (i : Nat) (h : tables_1_2[i]? = some c) (hg : goodWord c = true) : c ∈ G := List.mem_filter.mpr ⟨List.mem_append_right _ (List.mem_append_right _ (List.mem_append_left _ (List.mem_of_getElem? h))), hg⟩
theorem gT3 {c : Cond} (i : Nat) (h : tables_1_3[i]? = some c) (hg : goodWord c = true) : c ∈ G := List.mem_filter.mpr ⟨List.mem_append_right _ (List.mem_append_right _ (List.mem_append_right _ (List.mem_append_left _ (List.mem_of_getElem? h)))), hg⟩
theorem gT4 {c : Cond} (i : Nat) (h : tables_1_4[i]? = some c) (hg : goodWord c = true) : c ∈ G := List.mem_filter.mpr ⟨List.mem_append_right _ (List.mem_append_right _ (List.mem_append_right _ (List.mem_append_right _ (List.mem_of_getElem? h)))), hg⟩
theorem gP {c : Cond} (i : Nat) (h : (k2_sels lw_privs)[i]? = some c) (hg : goodWord c = true) : c ∈ G := List.mem_filter.mpr ⟨List.mem_append_left _ (List.mem_of_getElem? h), hg⟩
theorem gG {c : Cond} (h : c ∈ G) : GoodIn G (c :: G) := by
  intro w hw
  rcases List.mem_cons.mp hw with rfl | hw
  · exact ⟨h, good_of_word (List.mem_filter.mp h).2⟩
  · exact ⟨hw, good_of_word (List.mem_filter.mp hw).2⟩
theorem gO {c w : Cond} (h : c ∈ G) (hw : w = c) : w ∈ G ∧ ((w.onTables && w.keeps) = true ∨ ∃ ty, w = .arrayClass ty) := by
  subst hw
  exact ⟨h, good_of_word (List.mem_filter.mp h).2⟩
end
section
theorem gini_LW : Cond.initialized R_LW ∈ G := gT1 0 rfl rfl
theorem gini_GT : Cond.initialized R_GT ∈ G := gT1 1 rfl rfl
theorem gini_AS : Cond.initialized R_AS ∈ G := gT1 2 rfl rfl
theorem gini_LI : Cond.initialized R_LI ∈ G := gT1 3 rfl rfl
theorem gini_MD : Cond.initialized R_MD ∈ G := gT1 4 rfl rfl
theorem gini_JS : Cond.initialized R_JS ∈ G := gT1 5 rfl rfl
theorem gini_JL : Cond.initialized R_JL ∈ G := gT1 6 rfl rfl
theorem gini_JP : Cond.initialized R_JP ∈ G := gT1 7 rfl rfl
theorem gini_JU : Cond.initialized R_JU ∈ G := gT1 8 rfl rfl
theorem gini_GU : Cond.initialized R_GU ∈ G := gT1 9 rfl rfl
theorem gini_MA : Cond.initialized R_MA ∈ G := gT1 10 rfl rfl
theorem gini_CO : Cond.initialized R_CO ∈ G := gT1 11 rfl rfl
theorem gini_JA : Cond.initialized R_JA ∈ G := gT1 12 rfl rfl
theorem gini_MO : Cond.initialized R_MO ∈ G := gT1 13 rfl rfl
theorem gini_JY : Cond.initialized R_JY ∈ G := gT1 14 rfl rfl
theorem gcl_LW_7 : Cond.classLink R_LW 7 R_GT ∈ G := gT1 15 rfl rfl
theorem ginst_GT : Cond.instantiable R_GT 6 ∈ G := gT1 16 rfl rfl
theorem gl_LW_9 : Cond.methodLink R_LW 9 y_GT_init ∈ G := gT1 17 rfl rfl
theorem gi_GT_init : Cond.instanceMethod y_GT_init ∈ G := gT1 18 rfl rfl
theorem gc_GT_init : Cond.code y_GT_init c_GT_init 1 none ∈ G := gT1 19 rfl rfl
theorem gl_GT_1 : Cond.methodLink R_GT 1 y_JO_init ∈ G := gT1 20 rfl rfl
theorem gi_JO_init : Cond.instanceMethod y_JO_init ∈ G := gT1 21 rfl rfl
theorem gc_JO_init : Cond.code y_JO_init c_JO_init 1 none ∈ G := gT1 22 rfl rfl
theorem gcl_GT_17 : Cond.classLink R_GT 17 R_AS ∈ G := gT1 23 rfl rfl
theorem ginst_AS : Cond.instantiable R_AS 12 ∈ G := gT1 24 rfl rfl
theorem gl_GT_19 : Cond.methodLink R_GT 19 y_AS_init ∈ G := gT1 25 rfl rfl
theorem gi_AS_init : Cond.instanceMethod y_AS_init ∈ G := gT1 26 rfl rfl
theorem gc_AS_init : Cond.code y_AS_init c_AS_init 1 none ∈ G := gT1 27 rfl rfl
theorem gl_AS_3 : Cond.methodLink R_AS 3 y_JO_init ∈ G := gT1 28 rfl rfl
theorem gcl_AS_15 : Cond.classLink R_AS 15 R_LI ∈ G := gT1 29 rfl rfl
theorem ginst_LI : Cond.instantiable R_LI 9 ∈ G := gT1 30 rfl rfl
theorem gl_AS_17 : Cond.methodLink R_AS 17 y_LI_init ∈ G := gT1 31 rfl rfl
theorem gi_LI_init : Cond.instanceMethod y_LI_init ∈ G := gT1 32 rfl rfl
theorem gc_LI_init : Cond.code y_LI_init c_LI_init 1 none ∈ G := gT1 33 rfl rfl
theorem gl_LI_3 : Cond.methodLink R_LI 3 y_JO_init ∈ G := gT1 34 rfl rfl
theorem gf_LI_9 : Cond.fieldLink R_LI 9 "GuestTower$Line" "text" "[I" ∈ G := gT1 35 rfl rfl
theorem gf_LI_19 : Cond.fieldLink R_LI 19 "GuestTower$Line" "at" "I" ∈ G := gT1 36 rfl rfl
theorem gf_LI_22 : Cond.fieldLink R_LI 22 "GuestTower$Line" "end" "I" ∈ G := gT1 37 rfl rfl
theorem gf_LI_25 : Cond.fieldLink R_LI 25 "GuestTower$Line" "label" "J" ∈ G := gT1 38 rfl rfl
theorem gf_LI_15 : Cond.fieldLink R_LI 15 "GuestTower$Line" "order" "I" ∈ G := gT1 40 rfl rfl
theorem gf_LI_29 : Cond.fieldLink R_LI 29 "GuestTower$Line" "a" "I" ∈ G := gT1 42 rfl rfl
theorem gf_LI_32 : Cond.fieldLink R_LI 32 "GuestTower$Line" "b" "I" ∈ G := gT1 44 rfl rfl
theorem gf_LI_35 : Cond.fieldLink R_LI 35 "GuestTower$Line" "number" "I" ∈ G := gT1 46 rfl rfl
theorem gf_LI_38 : Cond.fieldLink R_LI 38 "GuestTower$Line" "wanted" "J" ∈ G := gT1 48 rfl rfl
theorem gac_69 : Cond.arrayClass .int ∈ G := gT1 69 rfl rfl
theorem gf_AS_9 : Cond.fieldLink R_AS 9 "GuestTower$Assembler" "words" "[I" ∈ G := gT1 70 rfl rfl
theorem gf_AS_38 : Cond.fieldLink R_AS 38 "GuestTower$Assembler" "here" "I" ∈ G := gT1 72 rfl rfl
theorem gf_AS_42 : Cond.fieldLink R_AS 42 "GuestTower$Assembler" "fault" "I" ∈ G := gT1 74 rfl rfl
theorem gf_AS_45 : Cond.fieldLink R_AS 45 "GuestTower$Assembler" "faultLine" "I" ∈ G := gT1 76 rfl rfl
theorem gf_AS_18 : Cond.fieldLink R_AS 18 "GuestTower$Assembler" "line" "LGuestTower$Line;" ∈ G := gT1 78 rfl rfl
theorem gf_AS_22 : Cond.fieldLink R_AS 22 "GuestTower$Assembler" "labels" "[J" ∈ G := gT1 79 rfl rfl
theorem gf_AS_26 : Cond.fieldLink R_AS 26 "GuestTower$Assembler" "labelAddresses" "[I" ∈ G := gT1 80 rfl rfl
theorem gf_AS_48 : Cond.fieldLink R_AS 48 "GuestTower$Assembler" "labelCount" "I" ∈ G := gT1 81 rfl rfl
theorem gf_AS_29 : Cond.fieldLink R_AS 29 "GuestTower$Assembler" "useLabels" "[J" ∈ G := gT1 82 rfl rfl
theorem gf_AS_32 : Cond.fieldLink R_AS 32 "GuestTower$Assembler" "useAddresses" "[I" ∈ G := gT1 83 rfl rfl
theorem gf_AS_35 : Cond.fieldLink R_AS 35 "GuestTower$Assembler" "useLines" "[I" ∈ G := gT1 84 rfl rfl
theorem gf_AS_51 : Cond.fieldLink R_AS 51 "GuestTower$Assembler" "useCount" "I" ∈ G := gT1 85 rfl rfl
theorem gac_111 : Cond.arrayClass .long ∈ G := gT1 111 rfl rfl
theorem gcl_GT_24 : Cond.classLink R_GT 24 R_GU ∈ G := gT1 112 rfl rfl
theorem gf_GT_9 : Cond.fieldLink R_GT 9 "GuestTower" "tape" "[I" ∈ G := gT1 114 rfl rfl
theorem gf_GT_13 : Cond.fieldLink R_GT 13 "GuestTower" "tapeLength" "I" ∈ G := gT1 115 rfl rfl
theorem gf_GT_20 : Cond.fieldLink R_GT 20 "GuestTower" "assembler" "LGuestTower$Assembler;" ∈ G := gT1 116 rfl rfl
theorem gf_GT_26 : Cond.fieldLink R_GT 26 "GuestTower" "guests" "[LGuestTower$Guest;" ∈ G := gT1 117 rfl rfl
theorem gf_GT_30 : Cond.fieldLink R_GT 30 "GuestTower" "latestFault" "I" ∈ G := gT1 118 rfl rfl
theorem gf_GT_33 : Cond.fieldLink R_GT 33 "GuestTower" "latestLine" "I" ∈ G := gT1 119 rfl rfl
theorem gl_LW_13 : Cond.methodLink R_LW 13 y_GT_feed ∈ G := gT1 133 rfl rfl
theorem gi_GT_feed : Cond.instanceMethod y_GT_feed ∈ G := gT1 134 rfl rfl
theorem gsel_GT_feed : Cond.selects R_GT y_GT_feed y_GT_feed ∈ G := gT1 135 rfl rfl
theorem gc_GT_feed : Cond.code y_GT_feed c_GT_feed 6 (some .int) ∈ G := gT1 136 rfl rfl
theorem gl_GT_36 : Cond.methodLink R_GT 36 y_GT_putOnTape ∈ G := gT1 137 rfl rfl
theorem gi_GT_putOnTape : Cond.instanceMethod y_GT_putOnTape ∈ G := gT1 139 rfl rfl
theorem gc_GT_putOnTape : Cond.code y_GT_putOnTape c_GT_putOnTape 3 none ∈ G := gT1 140 rfl rfl
theorem gl_LW_18 : Cond.methodLink R_LW 18 y_GT_load ∈ G := gT1 141 rfl rfl
theorem gi_GT_load : Cond.instanceMethod y_GT_load ∈ G := gT1 142 rfl rfl
theorem gsel_GT_load : Cond.selects R_GT y_GT_load y_GT_load ∈ G := gT1 143 rfl rfl
theorem gc_GT_load : Cond.code y_GT_load c_GT_load 6 (some .int) ∈ G := gT1 144 rfl rfl
theorem gl_GT_40 : Cond.methodLink R_GT 40 y_GT_isGuest ∈ G := gT1 145 rfl rfl
theorem gs_GT_isGuest : Cond.static y_GT_isGuest ∈ G := gT1 146 rfl rfl
theorem gc_GT_isGuest : Cond.code y_GT_isGuest c_GT_isGuest 1 (some .boolean) ∈ G := gT1 147 rfl rfl
theorem gl_GT_44 : Cond.methodLink R_GT 44 y_AS_assemble ∈ G := gT1 148 rfl rfl
theorem gi_AS_assemble : Cond.instanceMethod y_AS_assemble ∈ G := gT1 149 rfl rfl
theorem gsel_AS_assemble : Cond.selects R_AS y_AS_assemble y_AS_assemble ∈ G := gT1 150 rfl rfl
theorem gc_AS_assemble : Cond.code y_AS_assemble c_AS_assemble 8 none ∈ G := gT1 151 rfl rfl
theorem gl_AS_54 : Cond.methodLink R_AS 54 y_AS_lineEnd ∈ G := gT1 152 rfl rfl
theorem gs_AS_lineEnd : Cond.static y_AS_lineEnd ∈ G := gT1 153 rfl rfl
theorem gc_AS_lineEnd : Cond.code y_AS_lineEnd c_AS_lineEnd 4 (some .int) ∈ G := gT1 154 rfl rfl
theorem gl_AS_58 : Cond.methodLink R_AS 58 y_LI_isReadFrom ∈ G := gT1 155 rfl rfl
theorem gi_LI_isReadFrom : Cond.instanceMethod y_LI_isReadFrom ∈ G := gT1 156 rfl rfl
theorem gsel_LI_isReadFrom : Cond.selects R_LI y_LI_isReadFrom y_LI_isReadFrom ∈ G := gT1 157 rfl rfl
theorem gc_LI_isReadFrom : Cond.code y_LI_isReadFrom c_LI_isReadFrom 4 (some .boolean) ∈ G := gT1 158 rfl rfl
theorem gl_LI_41 : Cond.methodLink R_LI 41 y_LI_hasGoodBytes ∈ G := gT1 159 rfl rfl
theorem gi_LI_hasGoodBytes : Cond.instanceMethod y_LI_hasGoodBytes ∈ G := gT1 161 rfl rfl
theorem gc_LI_hasGoodBytes : Cond.code y_LI_hasGoodBytes c_LI_hasGoodBytes 2 (some .boolean) ∈ G := gT1 162 rfl rfl
theorem gl_LI_45 : Cond.methodLink R_LI 45 y_LI_dropRemark ∈ G := gT1 163 rfl rfl
theorem gi_LI_dropRemark : Cond.instanceMethod y_LI_dropRemark ∈ G := gT1 165 rfl rfl
theorem gc_LI_dropRemark : Cond.code y_LI_dropRemark c_LI_dropRemark 2 none ∈ G := gT1 166 rfl rfl
theorem gl_LI_48 : Cond.methodLink R_LI 48 y_LI_isLabelRead ∈ G := gT1 167 rfl rfl
theorem gi_LI_isLabelRead : Cond.instanceMethod y_LI_isLabelRead ∈ G := gT1 169 rfl rfl
theorem gc_LI_isLabelRead : Cond.code y_LI_isLabelRead c_LI_isLabelRead 1 (some .boolean) ∈ G := gT1 170 rfl rfl
theorem gl_LI_54 : Cond.methodLink R_LI 54 y_LI_skipBlanks ∈ G := gT1 171 rfl rfl
theorem gi_LI_skipBlanks : Cond.instanceMethod y_LI_skipBlanks ∈ G := gT1 173 rfl rfl
theorem gc_LI_skipBlanks : Cond.code y_LI_skipBlanks c_LI_skipBlanks 1 none ∈ G := gT1 174 rfl rfl
theorem gl_LI_57 : Cond.methodLink R_LI 57 y_LI_here ∈ G := gT1 175 rfl rfl
theorem gi_LI_here : Cond.instanceMethod y_LI_here ∈ G := gT1 177 rfl rfl
theorem gc_LI_here : Cond.code y_LI_here c_LI_here 1 (some .int) ∈ G := gT1 178 rfl rfl
theorem gl_LI_61 : Cond.methodLink R_LI 61 y_LI_isLetter ∈ G := gT1 179 rfl rfl
theorem gs_LI_isLetter : Cond.static y_LI_isLetter ∈ G := gT1 180 rfl rfl
theorem gc_LI_isLetter : Cond.code y_LI_isLetter c_LI_isLetter 1 (some .boolean) ∈ G := gT1 181 rfl rfl
theorem gl_LI_65 : Cond.methodLink R_LI 65 y_LI_takeLabel ∈ G := gT1 182 rfl rfl
theorem gi_LI_takeLabel : Cond.instanceMethod y_LI_takeLabel ∈ G := gT1 184 rfl rfl
theorem gc_LI_takeLabel : Cond.code y_LI_takeLabel c_LI_takeLabel 4 (some .long) ∈ G := gT1 185 rfl rfl
theorem gl_LI_96 : Cond.methodLink R_LI 96 y_LI_isDigit ∈ G := gT1 186 rfl rfl
theorem gs_LI_isDigit : Cond.static y_LI_isDigit ∈ G := gT1 187 rfl rfl
theorem gc_LI_isDigit : Cond.code y_LI_isDigit c_LI_isDigit 1 (some .boolean) ∈ G := gT1 188 rfl rfl
theorem gkl_LI_100 : Cond.constantLong R_LI 100 37 ∈ G := gT1 189 rfl rfl
theorem gl_LI_51 : Cond.methodLink R_LI 51 y_LI_isOrderRead ∈ G := gT1 190 rfl rfl
theorem gi_LI_isOrderRead : Cond.instanceMethod y_LI_isOrderRead ∈ G := gT1 192 rfl rfl
theorem gc_LI_isOrderRead : Cond.code y_LI_isOrderRead c_LI_isOrderRead 2 (some .boolean) ∈ G := gT1 193 rfl rfl
theorem gl_LI_69 : Cond.methodLink R_LI 69 y_LI_takeOrder ∈ G := gT1 194 rfl rfl
theorem gi_LI_takeOrder : Cond.instanceMethod y_LI_takeOrder ∈ G := gT1 196 rfl rfl
theorem gc_LI_takeOrder : Cond.code y_LI_takeOrder c_LI_takeOrder 3 (some .int) ∈ G := gT1 197 rfl rfl
theorem gl_LI_81 : Cond.methodLink R_LI 81 y_LI_isNamed ∈ G := gT1 198 rfl rfl
theorem gi_LI_isNamed : Cond.instanceMethod y_LI_isNamed ∈ G := gT1 200 rfl rfl
theorem gc_LI_isNamed : Cond.code y_LI_isNamed c_LI_isNamed 6 (some .boolean) ∈ G := gT1 201 rfl rfl
theorem gl_LI_87 : Cond.methodLink R_LI 87 y_JS_charAt ∈ G := gT1 203 rfl rfl
theorem gi_JS_charAt : Cond.instanceMethod y_JS_charAt ∈ G := gT1 204 rfl rfl
theorem gsel_JS_charAt : Cond.selects R_JS y_JS_charAt y_JS_charAt ∈ G := gT1 205 rfl rfl
theorem gc_JS_charAt : Cond.code y_JS_charAt c_JS_charAt 2 (some .char) ∈ G := gT1 206 rfl rfl
theorem gl_JS_492 : Cond.methodLink R_JS 492 y_JS_isLatin1 ∈ G := gT1 207 rfl rfl
theorem gi_JS_isLatin1 : Cond.instanceMethod y_JS_isLatin1 ∈ G := gT1 208 rfl rfl
theorem gsel_JS_isLatin1 : Cond.selects R_JS y_JS_isLatin1 y_JS_isLatin1 ∈ G := gT1 209 rfl rfl
theorem gc_JS_isLatin1 : Cond.code y_JS_isLatin1 c_JS_isLatin1 1 (some .boolean) ∈ G := gT1 210 rfl rfl
theorem gf_JS_38 : Cond.fieldLink R_JS 38 "java/lang/String" "COMPACT_STRINGS" "Z" ∈ G := gT1 211 rfl rfl
theorem gl_JS_495 : Cond.methodLink R_JS 495 y_JL_charAt ∈ G := gT1 213 rfl rfl
theorem gs_JL_charAt : Cond.static y_JL_charAt ∈ G := gT1 214 rfl rfl
theorem gc_JL_charAt : Cond.code y_JL_charAt c_JL_charAt 2 (some .char) ∈ G := gT1 215 rfl rfl
theorem gl_JL_9 : Cond.methodLink R_JL 9 y_JS_checkIndex ∈ G := gT1 216 rfl rfl
theorem gs_JS_checkIndex : Cond.static y_JS_checkIndex ∈ G := gT1 217 rfl rfl
theorem gc_JS_checkIndex : Cond.code y_JS_checkIndex c_JS_checkIndex 2 none ∈ G := gT1 218 rfl rfl
theorem gf_JS_1053 : Cond.fieldLink R_JS 1053 "jdk/internal/util/Preconditions" "SIOOBE_FORMATTER" "Ljava/util/function/BiFunction;" ∈ G := gT1 219 rfl rfl
theorem gl_JS_1059 : Cond.methodLink R_JS 1059 y_JP_checkIndex ∈ G := gT1 221 rfl rfl
theorem gs_JP_checkIndex : Cond.static y_JP_checkIndex ∈ G := gT1 222 rfl rfl
theorem gc_JP_checkIndex : Cond.code y_JP_checkIndex c_JP_checkIndex 3 (some .int) ∈ G := gT1 223 rfl rfl
theorem gl_JS_498 : Cond.methodLink R_JS 498 y_JU_charAt ∈ G := gT1 224 rfl rfl
theorem gs_JU_charAt : Cond.static y_JU_charAt ∈ G := gT1 225 rfl rfl
theorem gc_JU_charAt : Cond.code y_JU_charAt c_JU_charAt 2 (some .char) ∈ G := gT1 226 rfl rfl
theorem gl_JU_67 : Cond.methodLink R_JU 67 y_JU_checkIndex ∈ G := gT1 227 rfl rfl
theorem gs_JU_checkIndex : Cond.static y_JU_checkIndex ∈ G := gT1 228 rfl rfl
theorem gc_JU_checkIndex : Cond.code y_JU_checkIndex c_JU_checkIndex 2 none ∈ G := gT1 229 rfl rfl
theorem gl_JU_48 : Cond.methodLink R_JU 48 y_JU_length ∈ G := gT1 230 rfl rfl
theorem gs_JU_length : Cond.static y_JU_length ∈ G := gT1 231 rfl rfl
theorem gc_JU_length : Cond.code y_JU_length c_JU_length 1 (some .int) ∈ G := gT1 232 rfl rfl
theorem gl_JU_414 : Cond.methodLink R_JU 414 y_JS_checkIndex ∈ G := gT1 233 rfl rfl
theorem gl_JU_71 : Cond.methodLink R_JU 71 y_JU_getChar ∈ G := gT1 234 rfl rfl
theorem gs_JU_getChar : Cond.static y_JU_getChar ∈ G := gT1 235 rfl rfl
theorem gc_JU_getChar : Cond.code y_JU_getChar c_JU_getChar 2 (some .char) ∈ G := gT1 236 rfl rfl
theorem gf_JU_44 : Cond.fieldLink R_JU 44 "java/lang/StringUTF16" "$assertionsDisabled" "Z" ∈ G := gT1 237 rfl rfl
theorem gf_JU_59 : Cond.fieldLink R_JU 59 "java/lang/StringUTF16" "HI_BYTE_SHIFT" "I" ∈ G := gT1 239 rfl rfl
theorem gf_JU_63 : Cond.fieldLink R_JU 63 "java/lang/StringUTF16" "LO_BYTE_SHIFT" "I" ∈ G := gT2 1 rfl rfl
theorem gf_LI_72 : Cond.fieldLink R_LI 72 "GuestTower$Line" "WANTS" "[I" ∈ G := gT2 3 rfl rfl
theorem gl_LI_75 : Cond.methodLink R_LI 75 y_LI_takeRegister ∈ G := gT2 5 rfl rfl
theorem gi_LI_takeRegister : Cond.instanceMethod y_LI_takeRegister ∈ G := gT2 7 rfl rfl
theorem gc_LI_takeRegister : Cond.code y_LI_takeRegister c_LI_takeRegister 2 (some .int) ∈ G := gT2 8 rfl rfl
theorem gl_LI_78 : Cond.methodLink R_LI 78 y_LI_isNumberRead ∈ G := gT2 9 rfl rfl
theorem gi_LI_isNumberRead : Cond.instanceMethod y_LI_isNumberRead ∈ G := gT2 11 rfl rfl
theorem gc_LI_isNumberRead : Cond.code y_LI_isNumberRead c_LI_isNumberRead 3 (some .boolean) ∈ G := gT2 12 rfl rfl
theorem gl_LI_93 : Cond.methodLink R_LI 93 y_LI_takeNumber ∈ G := gT2 13 rfl rfl
theorem gi_LI_takeNumber : Cond.instanceMethod y_LI_takeNumber ∈ G := gT2 15 rfl rfl
theorem gc_LI_takeNumber : Cond.code y_LI_takeNumber c_LI_takeNumber 3 (some .int) ∈ G := gT2 16 rfl rfl
theorem gk_LI_99 : Cond.constant R_LI 99 65535 ∈ G := gT2 17 rfl rfl
theorem gl_AS_62 : Cond.methodLink R_AS 62 y_AS_faultOfLine ∈ G := gT2 18 rfl rfl
theorem gi_AS_faultOfLine : Cond.instanceMethod y_AS_faultOfLine ∈ G := gT2 20 rfl rfl
theorem gc_AS_faultOfLine : Cond.code y_AS_faultOfLine c_AS_faultOfLine 2 (some .int) ∈ G := gT2 21 rfl rfl
theorem gl_AS_87 : Cond.methodLink R_AS 87 y_AS_addressOf ∈ G := gT2 22 rfl rfl
theorem gi_AS_addressOf : Cond.instanceMethod y_AS_addressOf ∈ G := gT2 24 rfl rfl
theorem gc_AS_addressOf : Cond.code y_AS_addressOf c_AS_addressOf 4 (some .int) ∈ G := gT2 25 rfl rfl
theorem gl_AS_91 : Cond.methodLink R_AS 91 y_AS_lineBehind ∈ G := gT2 26 rfl rfl
theorem gi_AS_lineBehind : Cond.instanceMethod y_AS_lineBehind ∈ G := gT2 28 rfl rfl
theorem gc_AS_lineBehind : Cond.code y_AS_lineBehind c_AS_lineBehind 1 (some .int) ∈ G := gT2 29 rfl rfl
theorem gl_AS_66 : Cond.methodLink R_AS 66 y_AS_tellFault ∈ G := gT2 30 rfl rfl
theorem gi_AS_tellFault : Cond.instanceMethod y_AS_tellFault ∈ G := gT2 32 rfl rfl
theorem gc_AS_tellFault : Cond.code y_AS_tellFault c_AS_tellFault 3 none ∈ G := gT2 33 rfl rfl
theorem gl_AS_70 : Cond.methodLink R_AS 70 y_AS_placeLine ∈ G := gT2 34 rfl rfl
theorem gi_AS_placeLine : Cond.instanceMethod y_AS_placeLine ∈ G := gT2 36 rfl rfl
theorem gc_AS_placeLine : Cond.code y_AS_placeLine c_AS_placeLine 3 none ∈ G := gT2 37 rfl rfl
theorem gl_AS_95 : Cond.methodLink R_AS 95 y_LI_isInstruction ∈ G := gT2 38 rfl rfl
theorem gi_LI_isInstruction : Cond.instanceMethod y_LI_isInstruction ∈ G := gT2 39 rfl rfl
theorem gsel_LI_isInstruction : Cond.selects R_LI y_LI_isInstruction y_LI_isInstruction ∈ G := gT2 40 rfl rfl
theorem gc_LI_isInstruction : Cond.code y_LI_isInstruction c_LI_isInstruction 1 (some .boolean) ∈ G := gT2 41 rfl rfl
theorem gl_AS_105 : Cond.methodLink R_AS 105 y_AS_placeNumber ∈ G := gT2 42 rfl rfl
theorem gi_AS_placeNumber : Cond.instanceMethod y_AS_placeNumber ∈ G := gT2 44 rfl rfl
theorem gc_AS_placeNumber : Cond.code y_AS_placeNumber c_AS_placeNumber 3 none ∈ G := gT2 45 rfl rfl
theorem gl_AS_108 : Cond.methodLink R_AS 108 y_AS_clearWords ∈ G := gT2 46 rfl rfl
theorem gi_AS_clearWords : Cond.instanceMethod y_AS_clearWords ∈ G := gT2 48 rfl rfl
theorem gc_AS_clearWords : Cond.code y_AS_clearWords c_AS_clearWords 3 none ∈ G := gT2 49 rfl rfl
theorem gl_AS_74 : Cond.methodLink R_AS 74 y_AS_fillUses ∈ G := gT2 50 rfl rfl
theorem gi_AS_fillUses : Cond.instanceMethod y_AS_fillUses ∈ G := gT2 52 rfl rfl
theorem gc_AS_fillUses : Cond.code y_AS_fillUses c_AS_fillUses 4 none ∈ G := gT2 53 rfl rfl
theorem gk_AS_114 : Cond.constant R_AS 114 65535 ∈ G := gT2 54 rfl rfl
theorem ginst_GU : Cond.instantiable R_GU 5 ∈ G := gT2 55 rfl rfl
theorem gl_GT_54 : Cond.methodLink R_GT 54 y_GU_init ∈ G := gT2 56 rfl rfl
theorem gi_GU_init : Cond.instanceMethod y_GU_init ∈ G := gT2 57 rfl rfl
theorem gc_GU_init : Cond.code y_GU_init c_GU_init 1 none ∈ G := gT2 58 rfl rfl
theorem gl_GU_3 : Cond.methodLink R_GU 3 y_JO_init ∈ G := gT2 59 rfl rfl
theorem gcl_GU_9 : Cond.classLink R_GU 9 R_MA ∈ G := gT2 60 rfl rfl
theorem ginst_MA : Cond.instantiable R_MA 13 ∈ G := gT2 61 rfl rfl
theorem gl_GU_13 : Cond.methodLink R_GU 13 y_MA_init ∈ G := gT2 62 rfl rfl
theorem gi_MA_init : Cond.instanceMethod y_MA_init ∈ G := gT2 63 rfl rfl
theorem gc_MA_init : Cond.code y_MA_init c_MA_init 2 none ∈ G := gT2 64 rfl rfl
theorem gl_MA_3 : Cond.methodLink R_MA 3 y_JO_init ∈ G := gT2 65 rfl rfl
theorem gcl_MA_21 : Cond.classLink R_MA 21 R_CO ∈ G := gT2 66 rfl rfl
theorem ginst_CO : Cond.instantiable R_CO 5 ∈ G := gT2 67 rfl rfl
theorem gl_MA_23 : Cond.methodLink R_MA 23 y_CO_init ∈ G := gT2 68 rfl rfl
theorem gi_CO_init : Cond.instanceMethod y_CO_init ∈ G := gT2 69 rfl rfl
theorem gc_CO_init : Cond.code y_CO_init c_CO_init 1 none ∈ G := gT2 70 rfl rfl
theorem gl_CO_3 : Cond.methodLink R_CO 3 y_JO_init ∈ G := gT2 71 rfl rfl
theorem gf_CO_11 : Cond.fieldLink R_CO 11 "GuestTower$Console" "typed" "[I" ∈ G := gT2 72 rfl rfl
theorem gf_CO_15 : Cond.fieldLink R_CO 15 "GuestTower$Console" "sentBytes" "[I" ∈ G := gT2 73 rfl rfl
theorem gf_CO_18 : Cond.fieldLink R_CO 18 "GuestTower$Console" "oldest" "I" ∈ G := gT2 74 rfl rfl
theorem gf_CO_22 : Cond.fieldLink R_CO 22 "GuestTower$Console" "waiting" "I" ∈ G := gT2 75 rfl rfl
theorem gf_CO_25 : Cond.fieldLink R_CO 25 "GuestTower$Console" "sent" "I" ∈ G := gT2 77 rfl rfl
theorem gac_330 : Cond.arrayClass .byte ∈ G := gT2 90 rfl rfl
theorem gf_MA_9 : Cond.fieldLink R_MA 9 "GuestTower$Machine" "memory" "[I" ∈ G := gT2 91 rfl rfl
theorem gf_MA_15 : Cond.fieldLink R_MA 15 "GuestTower$Machine" "registers" "[I" ∈ G := gT2 93 rfl rfl
theorem gf_MA_18 : Cond.fieldLink R_MA 18 "GuestTower$Machine" "blocks" "[I" ∈ G := gT2 94 rfl rfl
theorem gf_MA_24 : Cond.fieldLink R_MA 24 "GuestTower$Machine" "console" "LGuestTower$Console;" ∈ G := gT2 95 rfl rfl
theorem gf_MA_28 : Cond.fieldLink R_MA 28 "GuestTower$Machine" "size" "I" ∈ G := gT2 98 rfl rfl
theorem gf_MA_41 : Cond.fieldLink R_MA 41 "GuestTower$Machine" "mode" "I" ∈ G := gT2 99 rfl rfl
theorem gf_MA_44 : Cond.fieldLink R_MA 44 "GuestTower$Machine" "pc" "I" ∈ G := gT2 101 rfl rfl
theorem gf_MA_47 : Cond.fieldLink R_MA 47 "GuestTower$Machine" "base" "I" ∈ G := gT2 103 rfl rfl
theorem gf_MA_50 : Cond.fieldLink R_MA 50 "GuestTower$Machine" "bound" "I" ∈ G := gT2 105 rfl rfl
theorem gf_MA_53 : Cond.fieldLink R_MA 53 "GuestTower$Machine" "reach" "I" ∈ G := gT2 107 rfl rfl
theorem gf_MA_56 : Cond.fieldLink R_MA 56 "GuestTower$Machine" "timer" "I" ∈ G := gT2 108 rfl rfl
theorem gf_MA_59 : Cond.fieldLink R_MA 59 "GuestTower$Machine" "ranOut" "Z" ∈ G := gT2 110 rfl rfl
theorem gf_MA_63 : Cond.fieldLink R_MA 63 "GuestTower$Machine" "halted" "Z" ∈ G := gT2 112 rfl rfl
theorem gf_GU_16 : Cond.fieldLink R_GU 16 "GuestTower$Guest" "machine" "LGuestTower$Machine;" ∈ G := gT2 141 rfl rfl
theorem gf_GU_22 : Cond.fieldLink R_GU 22 "GuestTower$Guest" "size" "I" ∈ G := gT2 143 rfl rfl
theorem gf_GU_26 : Cond.fieldLink R_GU 26 "GuestTower$Guest" "depth" "I" ∈ G := gT2 144 rfl rfl
theorem gf_GU_29 : Cond.fieldLink R_GU 29 "GuestTower$Guest" "start" "I" ∈ G := gT2 145 rfl rfl
theorem gf_GU_32 : Cond.fieldLink R_GU 32 "GuestTower$Guest" "steps" "I" ∈ G := gT2 146 rfl rfl
theorem gl_GT_61 : Cond.methodLink R_GT 61 y_GU_begin ∈ G := gT2 158 rfl rfl
theorem gi_GU_begin : Cond.instanceMethod y_GU_begin ∈ G := gT2 159 rfl rfl
theorem gsel_GU_begin : Cond.selects R_GU y_GU_begin y_GU_begin ∈ G := gT2 160 rfl rfl
theorem gc_GU_begin : Cond.code y_GU_begin c_GU_begin 6 none ∈ G := gT2 161 rfl rfl
theorem gl_GU_35 : Cond.methodLink R_GU 35 y_MA_clear ∈ G := gT2 162 rfl rfl
theorem gi_MA_clear : Cond.instanceMethod y_MA_clear ∈ G := gT2 163 rfl rfl
theorem gsel_MA_clear : Cond.selects R_MA y_MA_clear y_MA_clear ∈ G := gT2 164 rfl rfl
theorem gc_MA_clear : Cond.code y_MA_clear c_MA_clear 2 none ∈ G := gT2 165 rfl rfl
theorem gl_MA_32 : Cond.methodLink R_MA 32 y_JA_fill ∈ G := gT2 166 rfl rfl
theorem gs_JA_fill : Cond.static y_JA_fill ∈ G := gT2 167 rfl rfl
theorem gc_JA_fill : Cond.code y_JA_fill c_JA_fill 4 none ∈ G := gT2 168 rfl rfl
theorem gl_MA_38 : Cond.methodLink R_MA 38 y_CO_clear ∈ G := gT2 169 rfl rfl
theorem gi_CO_clear : Cond.instanceMethod y_CO_clear ∈ G := gT2 170 rfl rfl
theorem gsel_CO_clear : Cond.selects R_CO y_CO_clear y_CO_clear ∈ G := gT2 171 rfl rfl
theorem gc_CO_clear : Cond.code y_CO_clear c_CO_clear 1 none ∈ G := gT2 172 rfl rfl
theorem gl_GU_42 : Cond.methodLink R_GU 42 y_MA_copyIn ∈ G := gT2 175 rfl rfl
theorem gi_MA_copyIn : Cond.instanceMethod y_MA_copyIn ∈ G := gT2 176 rfl rfl
theorem gsel_MA_copyIn : Cond.selects R_MA y_MA_copyIn y_MA_copyIn ∈ G := gT2 177 rfl rfl
theorem gc_MA_copyIn : Cond.code y_MA_copyIn c_MA_copyIn 5 none ∈ G := gT2 178 rfl rfl
theorem gl_GU_46 : Cond.methodLink R_GU 46 y_GU_awaitTurn ∈ G := gT2 179 rfl rfl
theorem gi_GU_awaitTurn : Cond.instanceMethod y_GU_awaitTurn ∈ G := gT2 181 rfl rfl
theorem gc_GU_awaitTurn : Cond.code y_GU_awaitTurn c_GU_awaitTurn 2 none ∈ G := gT2 182 rfl rfl
theorem gl_GU_56 : Cond.methodLink R_GU 56 y_GU_isTurn ∈ G := gT2 183 rfl rfl
theorem gi_GU_isTurn : Cond.instanceMethod y_GU_isTurn ∈ G := gT2 185 rfl rfl
theorem gc_GU_isTurn : Cond.code y_GU_isTurn c_GU_isTurn 1 (some .boolean) ∈ G := gT2 186 rfl rfl
theorem gl_GU_53 : Cond.methodLink R_GU 53 y_MA_step ∈ G := gT2 187 rfl rfl
theorem gi_MA_step : Cond.instanceMethod y_MA_step ∈ G := gT2 188 rfl rfl
theorem gsel_MA_step : Cond.selects R_MA y_MA_step y_MA_step ∈ G := gT2 189 rfl rfl
theorem gc_MA_step : Cond.code y_MA_step c_MA_step 6 none ∈ G := gT2 190 rfl rfl
theorem gl_MA_66 : Cond.methodLink R_MA 66 y_MA_trap ∈ G := gT2 191 rfl rfl
theorem gi_MA_trap : Cond.instanceMethod y_MA_trap ∈ G := gT2 193 rfl rfl
theorem gc_MA_trap : Cond.code y_MA_trap c_MA_trap 4 none ∈ G := gT2 194 rfl rfl
theorem gl_MA_99 : Cond.methodLink R_MA 99 y_MA_keepStatus ∈ G := gT2 195 rfl rfl
theorem gi_MA_keepStatus : Cond.instanceMethod y_MA_keepStatus ∈ G := gT2 197 rfl rfl
theorem gc_MA_keepStatus : Cond.code y_MA_keepStatus c_MA_keepStatus 3 none ∈ G := gT2 198 rfl rfl
theorem gl_MA_96 : Cond.methodLink R_MA 96 y_MA_takeStatus ∈ G := gT2 199 rfl rfl
theorem gi_MA_takeStatus : Cond.instanceMethod y_MA_takeStatus ∈ G := gT2 201 rfl rfl
theorem gc_MA_takeStatus : Cond.code y_MA_takeStatus c_MA_takeStatus 2 none ∈ G := gT2 202 rfl rfl
theorem gk_MA_70 : Cond.constant R_MA 70 65535 ∈ G := gT2 203 rfl rfl
theorem gl_MA_71 : Cond.methodLink R_MA 71 y_MA_access ∈ G := gT2 204 rfl rfl
theorem gi_MA_access : Cond.instanceMethod y_MA_access ∈ G := gT2 206 rfl rfl
theorem gc_MA_access : Cond.code y_MA_access c_MA_access 4 none ∈ G := gT2 207 rfl rfl
theorem gl_MA_81 : Cond.methodLink R_MA 81 y_MA_goOn ∈ G := gT2 208 rfl rfl
theorem gi_MA_goOn : Cond.instanceMethod y_MA_goOn ∈ G := gT2 210 rfl rfl
theorem gc_MA_goOn : Cond.code y_MA_goOn c_MA_goOn 2 none ∈ G := gT2 211 rfl rfl
theorem gl_MA_74 : Cond.methodLink R_MA 74 y_MA_compute ∈ G := gT2 212 rfl rfl
theorem gi_MA_compute : Cond.instanceMethod y_MA_compute ∈ G := gT2 214 rfl rfl
theorem gc_MA_compute : Cond.code y_MA_compute c_MA_compute 6 none ∈ G := gT2 215 rfl rfl
theorem gl_MA_85 : Cond.methodLink R_MA 85 y_MA_shifted ∈ G := gT2 216 rfl rfl
theorem gs_MA_shifted : Cond.static y_MA_shifted ∈ G := gT2 217 rfl rfl
theorem gc_MA_shifted : Cond.code y_MA_shifted c_MA_shifted 3 (some .int) ∈ G := gT2 218 rfl rfl
theorem gl_MA_78 : Cond.methodLink R_MA 78 y_MA_govern ∈ G := gT2 219 rfl rfl
theorem gi_MA_govern : Cond.instanceMethod y_MA_govern ∈ G := gT2 221 rfl rfl
theorem gc_MA_govern : Cond.code y_MA_govern c_MA_govern 10 none ∈ G := gT2 222 rfl rfl
theorem gl_MA_89 : Cond.methodLink R_MA 89 y_MA_wordsWanted ∈ G := gT2 223 rfl rfl
theorem gs_MA_wordsWanted : Cond.static y_MA_wordsWanted ∈ G := gT2 224 rfl rfl
theorem gc_MA_wordsWanted : Cond.code y_MA_wordsWanted c_MA_wordsWanted 1 (some .int) ∈ G := gT2 225 rfl rfl
theorem gl_MA_93 : Cond.methodLink R_MA 93 y_MA_firstBad ∈ G := gT2 226 rfl rfl
theorem gi_MA_firstBad : Cond.instanceMethod y_MA_firstBad ∈ G := gT2 228 rfl rfl
theorem gc_MA_firstBad : Cond.code y_MA_firstBad c_MA_firstBad 5 (some .int) ∈ G := gT2 229 rfl rfl
theorem gl_MA_103 : Cond.methodLink R_MA 103 y_CO_nextTyped ∈ G := gT2 230 rfl rfl
theorem gi_CO_nextTyped : Cond.instanceMethod y_CO_nextTyped ∈ G := gT2 231 rfl rfl
theorem gsel_CO_nextTyped : Cond.selects R_CO y_CO_nextTyped y_CO_nextTyped ∈ G := gT2 232 rfl rfl
theorem gc_CO_nextTyped : Cond.code y_CO_nextTyped c_CO_nextTyped 2 (some .int) ∈ G := gT2 233 rfl rfl
theorem gk_CO_28 : Cond.constant R_CO 28 65535 ∈ G := gT2 234 rfl rfl
theorem gl_MA_107 : Cond.methodLink R_MA 107 y_CO_send ∈ G := gT2 235 rfl rfl
theorem gi_CO_send : Cond.instanceMethod y_CO_send ∈ G := gT2 236 rfl rfl
theorem gsel_CO_send : Cond.selects R_CO y_CO_send y_CO_send ∈ G := gT2 237 rfl rfl
theorem gc_CO_send : Cond.code y_CO_send c_CO_send 2 none ∈ G := gT2 238 rfl rfl
theorem gl_MA_110 : Cond.methodLink R_MA 110 y_JY_arraycopy ∈ G := gT2 239 rfl rfl
theorem gs_JY_arraycopy : Cond.static y_JY_arraycopy ∈ G := gT3 0 rfl rfl
theorem gn_JY_arraycopy : Cond.native y_JY_arraycopy ∈ G := gT3 1 rfl rfl
theorem gl_LW_23 : Cond.methodLink R_LW 23 y_GT_fault ∈ G := gT3 2 rfl rfl
theorem gi_GT_fault : Cond.instanceMethod y_GT_fault ∈ G := gT3 3 rfl rfl
theorem gsel_GT_fault : Cond.selects R_GT y_GT_fault y_GT_fault ∈ G := gT3 4 rfl rfl
theorem gc_GT_fault : Cond.code y_GT_fault c_GT_fault 2 (some .int) ∈ G := gT3 5 rfl rfl
theorem gl_LW_28 : Cond.methodLink R_LW 28 y_GT_run ∈ G := gT3 6 rfl rfl
theorem gi_GT_run : Cond.instanceMethod y_GT_run ∈ G := gT3 7 rfl rfl
theorem gsel_GT_run : Cond.selects R_GT y_GT_run y_GT_run ∈ G := gT3 8 rfl rfl
theorem gc_GT_run : Cond.code y_GT_run c_GT_run 4 (some .int) ∈ G := gT3 9 rfl rfl
theorem gl_GT_65 : Cond.methodLink R_GT 65 y_GT_guestAt ∈ G := gT3 10 rfl rfl
theorem gi_GT_guestAt : Cond.instanceMethod y_GT_guestAt ∈ G := gT3 12 rfl rfl
theorem gc_GT_guestAt : Cond.code y_GT_guestAt c_GT_guestAt 2 (some (.object "GuestTower$Guest")) ∈ G := gT3 13 rfl rfl
theorem gl_GT_69 : Cond.methodLink R_GT 69 y_GU_advance ∈ G := gT3 14 rfl rfl
theorem gi_GU_advance : Cond.instanceMethod y_GU_advance ∈ G := gT3 15 rfl rfl
theorem gsel_GU_advance : Cond.selects R_GU y_GU_advance y_GU_advance ∈ G := gT3 16 rfl rfl
theorem gc_GU_advance : Cond.code y_GU_advance c_GU_advance 3 (some .int) ∈ G := gT3 17 rfl rfl
theorem gl_LW_33 : Cond.methodLink R_LW 33 y_GT_type ∈ G := gT3 18 rfl rfl
theorem gi_GT_type : Cond.instanceMethod y_GT_type ∈ G := gT3 19 rfl rfl
theorem gsel_GT_type : Cond.selects R_GT y_GT_type y_GT_type ∈ G := gT3 20 rfl rfl
theorem gc_GT_type : Cond.code y_GT_type c_GT_type 4 (some .boolean) ∈ G := gT3 21 rfl rfl
theorem gl_GT_83 : Cond.methodLink R_GT 83 y_CO_isTaken ∈ G := gT3 22 rfl rfl
theorem gi_CO_isTaken : Cond.instanceMethod y_CO_isTaken ∈ G := gT3 23 rfl rfl
theorem gsel_CO_isTaken : Cond.selects R_CO y_CO_isTaken y_CO_isTaken ∈ G := gT3 24 rfl rfl
theorem gc_CO_isTaken : Cond.code y_CO_isTaken c_CO_isTaken 2 (some .boolean) ∈ G := gT3 25 rfl rfl
theorem gl_LW_38 : Cond.methodLink R_LW 38 y_GT_look ∈ G := gT3 26 rfl rfl
theorem gi_GT_look : Cond.instanceMethod y_GT_look ∈ G := gT3 27 rfl rfl
theorem gsel_GT_look : Cond.selects R_GT y_GT_look y_GT_look ∈ G := gT3 28 rfl rfl
theorem gc_GT_look : Cond.code y_GT_look c_GT_look 4 (some .int) ∈ G := gT3 29 rfl rfl
theorem gl_GT_88 : Cond.methodLink R_GT 88 y_GU_told ∈ G := gT3 30 rfl rfl
theorem gi_GU_told : Cond.instanceMethod y_GU_told ∈ G := gT3 31 rfl rfl
theorem gsel_GU_told : Cond.selects R_GU y_GU_told y_GU_told ∈ G := gT3 32 rfl rfl
theorem gc_GU_told : Cond.code y_GU_told c_GU_told 2 (some .int) ∈ G := gT3 33 rfl rfl
theorem gl_GU_66 : Cond.methodLink R_GU 66 y_GU_mode ∈ G := gT3 34 rfl rfl
theorem gi_GU_mode : Cond.instanceMethod y_GU_mode ∈ G := gT3 36 rfl rfl
theorem gc_GU_mode : Cond.code y_GU_mode c_GU_mode 1 (some .int) ∈ G := gT3 37 rfl rfl
theorem gl_GU_75 : Cond.methodLink R_GU 75 y_GU_kept ∈ G := gT3 38 rfl rfl
theorem gi_GU_kept : Cond.instanceMethod y_GU_kept ∈ G := gT3 40 rfl rfl
theorem gc_GU_kept : Cond.code y_GU_kept c_GU_kept 3 (some .int) ∈ G := gT3 41 rfl rfl
theorem gl_GU_69 : Cond.methodLink R_GU 69 y_GU_pc ∈ G := gT3 42 rfl rfl
theorem gi_GU_pc : Cond.instanceMethod y_GU_pc ∈ G := gT3 44 rfl rfl
theorem gc_GU_pc : Cond.code y_GU_pc c_GU_pc 1 (some .int) ∈ G := gT3 45 rfl rfl
theorem gl_GU_82 : Cond.methodLink R_GU 82 y_GU_timer ∈ G := gT3 46 rfl rfl
theorem gi_GU_timer : Cond.instanceMethod y_GU_timer ∈ G := gT3 48 rfl rfl
theorem gc_GU_timer : Cond.code y_GU_timer c_GU_timer 1 (some .int) ∈ G := gT3 49 rfl rfl
theorem gl_GU_100 : Cond.methodLink R_GU 100 y_MA_register ∈ G := gT3 50 rfl rfl
theorem gi_MA_register : Cond.instanceMethod y_MA_register ∈ G := gT3 51 rfl rfl
theorem gsel_MA_register : Cond.selects R_MA y_MA_register y_MA_register ∈ G := gT3 52 rfl rfl
theorem gc_MA_register : Cond.code y_MA_register c_MA_register 2 (some .int) ∈ G := gT3 53 rfl rfl
theorem gl_LW_42 : Cond.methodLink R_LW 42 y_GT_word ∈ G := gT3 54 rfl rfl
theorem gi_GT_word : Cond.instanceMethod y_GT_word ∈ G := gT3 55 rfl rfl
theorem gsel_GT_word : Cond.selects R_GT y_GT_word y_GT_word ∈ G := gT3 56 rfl rfl
theorem gc_GT_word : Cond.code y_GT_word c_GT_word 4 (some .int) ∈ G := gT3 57 rfl rfl
theorem gl_GT_91 : Cond.methodLink R_GT 91 y_GU_wordAt ∈ G := gT3 58 rfl rfl
theorem gi_GU_wordAt : Cond.instanceMethod y_GU_wordAt ∈ G := gT3 59 rfl rfl
theorem gsel_GU_wordAt : Cond.selects R_GU y_GU_wordAt y_GU_wordAt ∈ G := gT3 60 rfl rfl
theorem gc_GU_wordAt : Cond.code y_GU_wordAt c_GU_wordAt 2 (some .int) ∈ G := gT3 61 rfl rfl
theorem gl_LW_46 : Cond.methodLink R_LW 46 y_GT_output ∈ G := gT3 62 rfl rfl
theorem gi_GT_output : Cond.instanceMethod y_GT_output ∈ G := gT3 63 rfl rfl
theorem gsel_GT_output : Cond.selects R_GT y_GT_output y_GT_output ∈ G := gT3 64 rfl rfl
theorem gc_GT_output : Cond.code y_GT_output c_GT_output 4 (some .int) ∈ G := gT3 65 rfl rfl
theorem gl_GT_94 : Cond.methodLink R_GT 94 y_CO_sentByte ∈ G := gT3 66 rfl rfl
theorem gi_CO_sentByte : Cond.instanceMethod y_CO_sentByte ∈ G := gT3 67 rfl rfl
theorem gsel_CO_sentByte : Cond.selects R_CO y_CO_sentByte y_CO_sentByte ∈ G := gT3 68 rfl rfl
theorem gc_CO_sentByte : Cond.code y_CO_sentByte c_CO_sentByte 2 (some .int) ∈ G := gT3 69 rfl rfl
theorem gl_LW_50 : Cond.methodLink R_LW 50 y_GT_disk ∈ G := gT3 70 rfl rfl
theorem gi_GT_disk : Cond.instanceMethod y_GT_disk ∈ G := gT3 71 rfl rfl
theorem gsel_GT_disk : Cond.selects R_GT y_GT_disk y_GT_disk ∈ G := gT3 72 rfl rfl
theorem gc_GT_disk : Cond.code y_GT_disk c_GT_disk 5 (some .int) ∈ G := gT3 73 rfl rfl
theorem gl_GT_97 : Cond.methodLink R_GT 97 y_MA_blockWord ∈ G := gT3 74 rfl rfl
theorem gi_MA_blockWord : Cond.instanceMethod y_MA_blockWord ∈ G := gT3 75 rfl rfl
theorem gsel_MA_blockWord : Cond.selects R_MA y_MA_blockWord y_MA_blockWord ∈ G := gT3 76 rfl rfl
theorem gc_MA_blockWord : Cond.code y_MA_blockWord c_MA_blockWord 3 (some .int) ∈ G := gT3 77 rfl rfl
theorem gl_LW_17 : Cond.methodLink R_LW 17 y_MD_feed ∈ G := gT3 78 rfl rfl
theorem gi_MD_feed : Cond.instanceMethod y_MD_feed ∈ G := gT3 79 rfl rfl
theorem gsel_MD_feed : Cond.selects R_MD y_MD_feed y_MD_feed ∈ G := gT3 80 rfl rfl
theorem gc_MD_feed : Cond.code y_MD_feed c_MD_feed 6 (some .int) ∈ G := gT3 81 rfl rfl
theorem gl_MD_7 : Cond.methodLink R_MD 7 y_MD_word1 ∈ G := gT3 82 rfl rfl
theorem gi_MD_word1 : Cond.instanceMethod y_MD_word1 ∈ G := gT3 84 rfl rfl
theorem ginst_MD : Cond.instantiable R_MD 39 ∈ G := gT3 85 rfl rfl
theorem gc_MD_word1 : Cond.code y_MD_word1 c_MD_word1 3 none ∈ G := gT3 86 rfl rfl
theorem gcl_LW_10 : Cond.classLink R_LW 10 R_MD ∈ G := gT3 87 rfl rfl
theorem gl_LW_12 : Cond.methodLink R_LW 12 y_MD_init ∈ G := gT3 88 rfl rfl
theorem gi_MD_init : Cond.instanceMethod y_MD_init ∈ G := gT3 89 rfl rfl
theorem gc_MD_init : Cond.code y_MD_init c_MD_init 2 none ∈ G := gT3 90 rfl rfl
theorem gl_MD_15 : Cond.methodLink R_MD 15 y_JO_init ∈ G := gT3 91 rfl rfl
theorem gf_MD_11 : Cond.fieldLink R_MD 11 "GuestTowerModel" "tape" "[B" ∈ G := gT3 92 rfl rfl
theorem gf_MD_1 : Cond.fieldLink R_MD 1 "GuestTowerModel" "taped" "I" ∈ G := gT3 93 rfl rfl
theorem gf_MD_21 : Cond.fieldLink R_MD 21 "GuestTowerModel" "isThere" "[Z" ∈ G := gT3 94 rfl rfl
theorem gf_MD_25 : Cond.fieldLink R_MD 25 "GuestTowerModel" "size" "[I" ∈ G := gT3 95 rfl rfl
theorem gf_MD_29 : Cond.fieldLink R_MD 29 "GuestTowerModel" "depth" "[I" ∈ G := gT3 96 rfl rfl
theorem gf_MD_32 : Cond.fieldLink R_MD 32 "GuestTowerModel" "memory" "[I" ∈ G := gT3 97 rfl rfl
theorem gf_MD_35 : Cond.fieldLink R_MD 35 "GuestTowerModel" "register" "[I" ∈ G := gT3 98 rfl rfl
theorem gf_MD_38 : Cond.fieldLink R_MD 38 "GuestTowerModel" "mode" "[I" ∈ G := gT3 99 rfl rfl
theorem gf_MD_41 : Cond.fieldLink R_MD 41 "GuestTowerModel" "pc" "[I" ∈ G := gT3 100 rfl rfl
theorem gf_MD_44 : Cond.fieldLink R_MD 44 "GuestTowerModel" "base" "[I" ∈ G := gT3 101 rfl rfl
theorem gf_MD_47 : Cond.fieldLink R_MD 47 "GuestTowerModel" "bound" "[I" ∈ G := gT3 102 rfl rfl
theorem gf_MD_50 : Cond.fieldLink R_MD 50 "GuestTowerModel" "timer" "[I" ∈ G := gT3 103 rfl rfl
theorem gf_MD_53 : Cond.fieldLink R_MD 53 "GuestTowerModel" "ranOut" "[Z" ∈ G := gT3 104 rfl rfl
theorem gf_MD_56 : Cond.fieldLink R_MD 56 "GuestTowerModel" "halted" "[Z" ∈ G := gT3 105 rfl rfl
theorem gf_MD_59 : Cond.fieldLink R_MD 59 "GuestTowerModel" "steps" "[I" ∈ G := gT3 106 rfl rfl
theorem gf_MD_62 : Cond.fieldLink R_MD 62 "GuestTowerModel" "outs" "[I" ∈ G := gT3 107 rfl rfl
theorem gf_MD_65 : Cond.fieldLink R_MD 65 "GuestTowerModel" "output" "[I" ∈ G := gT3 108 rfl rfl
theorem gf_MD_68 : Cond.fieldLink R_MD 68 "GuestTowerModel" "waits" "[I" ∈ G := gT3 109 rfl rfl
theorem gf_MD_71 : Cond.fieldLink R_MD 71 "GuestTowerModel" "typed" "[I" ∈ G := gT3 110 rfl rfl
theorem gf_MD_74 : Cond.fieldLink R_MD 74 "GuestTowerModel" "disk" "[I" ∈ G := gT3 111 rfl rfl
theorem gf_MD_77 : Cond.fieldLink R_MD 77 "GuestTowerModel" "wants" "[I" ∈ G := gT3 112 rfl rfl
theorem gf_MD_95 : Cond.fieldLink R_MD 95 "GuestTowerModel" "at" "I" ∈ G := gT3 113 rfl rfl
theorem gf_MD_92 : Cond.fieldLink R_MD 92 "GuestTowerModel" "end" "I" ∈ G := gT3 114 rfl rfl
theorem gf_MD_211 : Cond.fieldLink R_MD 211 "GuestTowerModel" "line" "I" ∈ G := gT3 115 rfl rfl
theorem gf_MD_80 : Cond.fieldLink R_MD 80 "GuestTowerModel" "labelFrom" "[I" ∈ G := gT3 116 rfl rfl
theorem gf_MD_83 : Cond.fieldLink R_MD 83 "GuestTowerModel" "labelSize" "[I" ∈ G := gT3 117 rfl rfl
theorem gf_MD_86 : Cond.fieldLink R_MD 86 "GuestTowerModel" "labelAddress" "[I" ∈ G := gT3 118 rfl rfl
theorem gf_MD_109 : Cond.fieldLink R_MD 109 "GuestTowerModel" "labels" "I" ∈ G := gT3 119 rfl rfl
theorem gf_MD_240 : Cond.fieldLink R_MD 240 "GuestTowerModel" "fault" "I" ∈ G := gT3 120 rfl rfl
theorem gf_MD_243 : Cond.fieldLink R_MD 243 "GuestTowerModel" "faultLine" "I" ∈ G := gT3 121 rfl rfl
theorem gf_MD_250 : Cond.fieldLink R_MD 250 "GuestTowerModel" "isTold" "Z" ∈ G := gT3 122 rfl rfl
theorem gf_MD_214 : Cond.fieldLink R_MD 214 "GuestTowerModel" "address" "I" ∈ G := gT3 123 rfl rfl
theorem gf_MD_89 : Cond.fieldLink R_MD 89 "GuestTowerModel" "made" "[I" ∈ G := gT3 124 rfl rfl
theorem gf_MD_208 : Cond.fieldLink R_MD 208 "GuestTowerModel" "missing" "I" ∈ G := gT3 125 rfl rfl
theorem gf_MD_177 : Cond.fieldLink R_MD 177 "GuestTowerModel" "good" "Z" ∈ G := gT3 126 rfl rfl
theorem gf_MD_191 : Cond.fieldLink R_MD 191 "GuestTowerModel" "value" "I" ∈ G := gT3 127 rfl rfl
theorem gf_MD_198 : Cond.fieldLink R_MD 198 "GuestTowerModel" "valueFrom" "I" ∈ G := gT3 128 rfl rfl
theorem gf_MD_188 : Cond.fieldLink R_MD 188 "GuestTowerModel" "valueSize" "I" ∈ G := gT3 129 rfl rfl
theorem gf_MD_261 : Cond.fieldLink R_MD 261 "GuestTowerModel" "me" "I" ∈ G := gT3 130 rfl rfl
theorem gac_690 : Cond.arrayClass .boolean ∈ G := gT3 210 rfl rfl
theorem gl_LW_22 : Cond.methodLink R_LW 22 y_MD_load ∈ G := gT3 211 rfl rfl
theorem gi_MD_load : Cond.instanceMethod y_MD_load ∈ G := gT3 212 rfl rfl
theorem gsel_MD_load : Cond.selects R_MD y_MD_load y_MD_load ∈ G := gT3 213 rfl rfl
theorem gc_MD_load : Cond.code y_MD_load c_MD_load 6 (some .int) ∈ G := gT3 214 rfl rfl
theorem gl_MD_246 : Cond.methodLink R_MD 246 y_MD_in ∈ G := gT3 215 rfl rfl
theorem gs_MD_in : Cond.static y_MD_in ∈ G := gT3 216 rfl rfl
theorem gc_MD_in : Cond.code y_MD_in c_MD_in 3 (some .boolean) ∈ G := gT3 217 rfl rfl
theorem gl_MD_253 : Cond.methodLink R_MD 253 y_MD_lines ∈ G := gT3 218 rfl rfl
theorem gi_MD_lines : Cond.instanceMethod y_MD_lines ∈ G := gT3 220 rfl rfl
theorem gc_MD_lines : Cond.code y_MD_lines c_MD_lines 4 (some .boolean) ∈ G := gT3 221 rfl rfl
theorem gl_MD_236 : Cond.methodLink R_MD 236 y_MD_oneLine ∈ G := gT3 222 rfl rfl
theorem gi_MD_oneLine : Cond.instanceMethod y_MD_oneLine ∈ G := gT3 224 rfl rfl
theorem gc_MD_oneLine : Cond.code y_MD_oneLine c_MD_oneLine 11 (some .int) ∈ G := gT3 225 rfl rfl
theorem gl_MD_181 : Cond.methodLink R_MD 181 y_MD_blanks ∈ G := gT3 226 rfl rfl
theorem gi_MD_blanks : Cond.instanceMethod y_MD_blanks ∈ G := gT3 228 rfl rfl
theorem gc_MD_blanks : Cond.code y_MD_blanks c_MD_blanks 1 none ∈ G := gT3 229 rfl rfl
theorem gl_MD_201 : Cond.methodLink R_MD 201 y_MD_nameAt ∈ G := gT3 230 rfl rfl
theorem gi_MD_nameAt : Cond.instanceMethod y_MD_nameAt ∈ G := gT3 232 rfl rfl
theorem gc_MD_nameAt : Cond.code y_MD_nameAt c_MD_nameAt 3 (some .int) ∈ G := gT3 233 rfl rfl
theorem gl_MD_98 : Cond.methodLink R_MD 98 y_MD_byteAt ∈ G := gT3 234 rfl rfl
theorem gi_MD_byteAt : Cond.instanceMethod y_MD_byteAt ∈ G := gT3 236 rfl rfl
theorem gc_MD_byteAt : Cond.code y_MD_byteAt c_MD_byteAt 2 (some .int) ∈ G := gT3 237 rfl rfl
theorem gl_MD_102 : Cond.methodLink R_MD 102 y_MD_isSmall ∈ G := gT3 238 rfl rfl
theorem gs_MD_isSmall : Cond.static y_MD_isSmall ∈ G := gT3 239 rfl rfl
theorem gc_MD_isSmall : Cond.code y_MD_isSmall c_MD_isSmall 1 (some .boolean) ∈ G := gT4 0 rfl rfl
theorem gl_MD_106 : Cond.methodLink R_MD 106 y_MD_isDigit ∈ G := gT4 1 rfl rfl
theorem gs_MD_isDigit : Cond.static y_MD_isDigit ∈ G := gT4 2 rfl rfl
theorem gc_MD_isDigit : Cond.code y_MD_isDigit c_MD_isDigit 1 (some .boolean) ∈ G := gT4 3 rfl rfl
theorem gl_MD_217 : Cond.methodLink R_MD 217 y_MD_isOver ∈ G := gT4 4 rfl rfl
theorem gi_MD_isOver : Cond.instanceMethod y_MD_isOver ∈ G := gT4 6 rfl rfl
theorem gc_MD_isOver : Cond.code y_MD_isOver c_MD_isOver 1 (some .boolean) ∈ G := gT4 7 rfl rfl
theorem gl_MD_221 : Cond.methodLink R_MD 221 y_MD_order ∈ G := gT4 8 rfl rfl
theorem gi_MD_order : Cond.instanceMethod y_MD_order ∈ G := gT4 10 rfl rfl
theorem gc_MD_order : Cond.code y_MD_order c_MD_order 10 (some .int) ∈ G := gT4 11 rfl rfl
theorem gl_MD_112 : Cond.methodLink R_MD 112 y_MD_isGreat ∈ G := gT4 12 rfl rfl
theorem gs_MD_isGreat : Cond.static y_MD_isGreat ∈ G := gT4 13 rfl rfl
theorem gc_MD_isGreat : Cond.code y_MD_isGreat c_MD_isGreat 1 (some .boolean) ∈ G := gT4 14 rfl rfl
theorem gl_MD_115 : Cond.methodLink R_MD 115 y_MD_name ∈ G := gT4 15 rfl rfl
theorem gs_MD_name : Cond.static y_MD_name ∈ G := gT4 16 rfl rfl
theorem gc_MD_name : Cond.code y_MD_name c_MD_name 1 (some .long) ∈ G := gT4 17 rfl rfl
theorem gkl_MD_121 : Cond.constantLong R_MD 121 1212238932 ∈ G := gT4 18 rfl rfl
theorem gkl_MD_123 : Cond.constantLong R_MD 123 5457236 ∈ G := gT4 19 rfl rfl
theorem gkl_MD_125 : Cond.constantLong R_MD 125 1280262468 ∈ G := gT4 20 rfl rfl
theorem gkl_MD_127 : Cond.constantLong R_MD 127 357896770117 ∈ G := gT4 21 rfl rfl
theorem gkl_MD_129 : Cond.constantLong R_MD 129 327747191896 ∈ G := gT4 22 rfl rfl
theorem gkl_MD_131 : Cond.constantLong R_MD 131 91621573150040 ∈ G := gT4 23 rfl rfl
theorem gkl_MD_133 : Cond.constantLong R_MD 133 1297045061 ∈ G := gT4 24 rfl rfl
theorem gkl_MD_135 : Cond.constantLong R_MD 135 4277316 ∈ G := gT4 25 rfl rfl
theorem gkl_MD_137 : Cond.constantLong R_MD 137 5461314 ∈ G := gT4 26 rfl rfl
theorem gkl_MD_139 : Cond.constantLong R_MD 139 4279876 ∈ G := gT4 27 rfl rfl
theorem gkl_MD_141 : Cond.constantLong R_MD 141 1279611731 ∈ G := gT4 28 rfl rfl
theorem gkl_MD_143 : Cond.constantLong R_MD 143 357695047252 ∈ G := gT4 29 rfl rfl
theorem gkl_MD_145 : Cond.constantLong R_MD 145 1247104336 ∈ G := gT4 30 rfl rfl
theorem gkl_MD_147 : Cond.constantLong R_MD 147 1514492495 ∈ G := gT4 31 rfl rfl
theorem gkl_MD_149 : Cond.constantLong R_MD 149 18255 ∈ G := gT4 32 rfl rfl
theorem gkl_MD_151 : Cond.constantLong R_MD 151 1128352844 ∈ G := gT4 33 rfl rfl
theorem gkl_MD_153 : Cond.constantLong R_MD 153 5461571 ∈ G := gT4 34 rfl rfl
theorem gkl_MD_155 : Cond.constantLong R_MD 155 1280332631 ∈ G := gT4 35 rfl rfl
theorem gkl_MD_157 : Cond.constantLong R_MD 157 1397773143 ∈ G := gT4 36 rfl rfl
theorem gkl_MD_159 : Cond.constantLong R_MD 159 1397052500 ∈ G := gT4 37 rfl rfl
theorem gkl_MD_161 : Cond.constantLong R_MD 161 1195725908 ∈ G := gT4 38 rfl rfl
theorem gkl_MD_163 : Cond.constantLong R_MD 163 18766 ∈ G := gT4 39 rfl rfl
theorem gkl_MD_165 : Cond.constantLong R_MD 165 5199188 ∈ G := gT4 40 rfl rfl
theorem gkl_MD_167 : Cond.constantLong R_MD 167 1195725890 ∈ G := gT4 41 rfl rfl
theorem gkl_MD_169 : Cond.constantLong R_MD 169 1347769410 ∈ G := gT4 42 rfl rfl
theorem gkl_MD_171 : Cond.constantLong R_MD 171 1464816196 ∈ G := gT4 43 rfl rfl
theorem gkl_MD_173 : Cond.constantLong R_MD 173 357828739909 ∈ G := gT4 44 rfl rfl
theorem gkl_MD_175 : Cond.constantLong R_MD 175 16724 ∈ G := gT4 45 rfl rfl
theorem gkl_MD_119 : Cond.constantLong R_MD 119 255 ∈ G := gT4 46 rfl rfl
theorem gl_MD_224 : Cond.methodLink R_MD 224 y_MD_register ∈ G := gT4 47 rfl rfl
theorem gi_MD_register : Cond.instanceMethod y_MD_register ∈ G := gT4 49 rfl rfl
theorem gc_MD_register : Cond.code y_MD_register c_MD_register 2 (some .int) ∈ G := gT4 50 rfl rfl
theorem gl_MD_184 : Cond.methodLink R_MD 184 y_MD_gap ∈ G := gT4 51 rfl rfl
theorem gi_MD_gap : Cond.instanceMethod y_MD_gap ∈ G := gT4 53 rfl rfl
theorem gc_MD_gap : Cond.code y_MD_gap c_MD_gap 1 none ∈ G := gT4 54 rfl rfl
theorem gl_MD_226 : Cond.methodLink R_MD 226 y_MD_value ∈ G := gT4 55 rfl rfl
theorem gi_MD_value : Cond.instanceMethod y_MD_value ∈ G := gT4 57 rfl rfl
theorem gc_MD_value : Cond.code y_MD_value c_MD_value 2 none ∈ G := gT4 58 rfl rfl
theorem gl_MD_194 : Cond.methodLink R_MD 194 y_MD_number ∈ G := gT4 59 rfl rfl
theorem gi_MD_number : Cond.instanceMethod y_MD_number ∈ G := gT4 61 rfl rfl
theorem gc_MD_number : Cond.code y_MD_number c_MD_number 3 (some .int) ∈ G := gT4 62 rfl rfl
theorem gk_MD_187 : Cond.constant R_MD 187 65536 ∈ G := gT4 63 rfl rfl
theorem gl_MD_204 : Cond.methodLink R_MD 204 y_MD_find ∈ G := gT4 64 rfl rfl
theorem gi_MD_find : Cond.instanceMethod y_MD_find ∈ G := gT4 66 rfl rfl
theorem gc_MD_find : Cond.code y_MD_find c_MD_find 6 (some .int) ∈ G := gT4 67 rfl rfl
theorem gl_MD_229 : Cond.methodLink R_MD 229 y_MD_put ∈ G := gT4 68 rfl rfl
theorem gi_MD_put : Cond.instanceMethod y_MD_put ∈ G := gT4 70 rfl rfl
theorem gc_MD_put : Cond.code y_MD_put c_MD_put 3 none ∈ G := gT4 71 rfl rfl
theorem gl_MD_233 : Cond.methodLink R_MD 233 y_MD_valued ∈ G := gT4 72 rfl rfl
theorem gi_MD_valued : Cond.instanceMethod y_MD_valued ∈ G := gT4 74 rfl rfl
theorem gc_MD_valued : Cond.code y_MD_valued c_MD_valued 2 (some .int) ∈ G := gT4 75 rfl rfl
theorem gl_MD_257 : Cond.methodLink R_MD 257 y_MD_begin ∈ G := gT4 76 rfl rfl
theorem gi_MD_begin : Cond.instanceMethod y_MD_begin ∈ G := gT4 78 rfl rfl
theorem gc_MD_begin : Cond.code y_MD_begin c_MD_begin 5 none ∈ G := gT4 79 rfl rfl
theorem gl_LW_27 : Cond.methodLink R_LW 27 y_MD_fault ∈ G := gT4 80 rfl rfl
theorem gi_MD_fault : Cond.instanceMethod y_MD_fault ∈ G := gT4 81 rfl rfl
theorem gsel_MD_fault : Cond.selects R_MD y_MD_fault y_MD_fault ∈ G := gT4 82 rfl rfl
theorem gc_MD_fault : Cond.code y_MD_fault c_MD_fault 2 (some .int) ∈ G := gT4 83 rfl rfl
theorem gl_LW_32 : Cond.methodLink R_LW 32 y_MD_run ∈ G := gT4 84 rfl rfl
theorem gi_MD_run : Cond.instanceMethod y_MD_run ∈ G := gT4 85 rfl rfl
theorem gsel_MD_run : Cond.selects R_MD y_MD_run y_MD_run ∈ G := gT4 86 rfl rfl
theorem gc_MD_run : Cond.code y_MD_run c_MD_run 4 (some .int) ∈ G := gT4 87 rfl rfl
theorem gl_MD_292 : Cond.methodLink R_MD 292 y_MD_isGuest ∈ G := gT4 88 rfl rfl
theorem gi_MD_isGuest : Cond.instanceMethod y_MD_isGuest ∈ G := gT4 90 rfl rfl
theorem gc_MD_isGuest : Cond.code y_MD_isGuest c_MD_isGuest 2 (some .boolean) ∈ G := gT4 91 rfl rfl
theorem gl_MD_295 : Cond.methodLink R_MD 295 y_MD_step ∈ G := gT4 92 rfl rfl
theorem gi_MD_step : Cond.instanceMethod y_MD_step ∈ G := gT4 94 rfl rfl
theorem gc_MD_step : Cond.code y_MD_step c_MD_step 9 none ∈ G := gT4 95 rfl rfl
theorem gl_MD_267 : Cond.methodLink R_MD 267 y_MD_trap ∈ G := gT4 96 rfl rfl
theorem gi_MD_trap : Cond.instanceMethod y_MD_trap ∈ G := gT4 98 rfl rfl
theorem gc_MD_trap : Cond.code y_MD_trap c_MD_trap 5 none ∈ G := gT4 99 rfl rfl
theorem gl_MD_270 : Cond.methodLink R_MD 270 y_MD_bad ∈ G := gT4 100 rfl rfl
theorem gi_MD_bad : Cond.instanceMethod y_MD_bad ∈ G := gT4 102 rfl rfl
theorem gc_MD_bad : Cond.code y_MD_bad c_MD_bad 4 (some .int) ∈ G := gT4 103 rfl rfl
theorem gl_MD_264 : Cond.methodLink R_MD 264 y_MD_isGood ∈ G := gT4 104 rfl rfl
theorem gi_MD_isGood : Cond.instanceMethod y_MD_isGood ∈ G := gT4 106 rfl rfl
theorem gc_MD_isGood : Cond.code y_MD_isGood c_MD_isGood 2 (some .boolean) ∈ G := gT4 107 rfl rfl
theorem gl_MD_273 : Cond.methodLink R_MD 273 y_MD_get ∈ G := gT4 108 rfl rfl
theorem gi_MD_get : Cond.instanceMethod y_MD_get ∈ G := gT4 110 rfl rfl
theorem gc_MD_get : Cond.code y_MD_get c_MD_get 2 (some .int) ∈ G := gT4 111 rfl rfl
theorem gl_MD_276 : Cond.methodLink R_MD 276 y_MD_does ∈ G := gT4 112 rfl rfl
theorem gi_MD_does : Cond.instanceMethod y_MD_does ∈ G := gT4 114 rfl rfl
theorem gc_MD_does : Cond.code y_MD_does c_MD_does 10 none ∈ G := gT4 115 rfl rfl
theorem gl_MD_280 : Cond.methodLink R_MD 280 y_MD_set ∈ G := gT4 116 rfl rfl
theorem gi_MD_set : Cond.instanceMethod y_MD_set ∈ G := gT4 118 rfl rfl
theorem gc_MD_set : Cond.code y_MD_set c_MD_set 3 none ∈ G := gT4 119 rfl rfl
theorem gl_MD_284 : Cond.methodLink R_MD 284 y_MD_rest ∈ G := gT4 120 rfl rfl
theorem gi_MD_rest : Cond.instanceMethod y_MD_rest ∈ G := gT4 122 rfl rfl
theorem gc_MD_rest : Cond.code y_MD_rest c_MD_rest 12 none ∈ G := gT4 123 rfl rfl
theorem gl_MD_288 : Cond.methodLink R_MD 288 y_MD_typedNext ∈ G := gT4 124 rfl rfl
theorem gi_MD_typedNext : Cond.instanceMethod y_MD_typedNext ∈ G := gT4 126 rfl rfl
theorem gc_MD_typedNext : Cond.code y_MD_typedNext c_MD_typedNext 3 (some .int) ∈ G := gT4 127 rfl rfl
theorem gk_MD_291 : Cond.constant R_MD 291 65535 ∈ G := gT4 128 rfl rfl
theorem gl_LW_37 : Cond.methodLink R_LW 37 y_MD_type ∈ G := gT4 129 rfl rfl
theorem gi_MD_type : Cond.instanceMethod y_MD_type ∈ G := gT4 130 rfl rfl
theorem gsel_MD_type : Cond.selects R_MD y_MD_type y_MD_type ∈ G := gT4 131 rfl rfl
theorem gc_MD_type : Cond.code y_MD_type c_MD_type 3 (some .boolean) ∈ G := gT4 132 rfl rfl
theorem gl_LW_41 : Cond.methodLink R_LW 41 y_MD_look ∈ G := gT4 133 rfl rfl
theorem gi_MD_look : Cond.instanceMethod y_MD_look ∈ G := gT4 134 rfl rfl
theorem gsel_MD_look : Cond.selects R_MD y_MD_look y_MD_look ∈ G := gT4 135 rfl rfl
theorem gc_MD_look : Cond.code y_MD_look c_MD_look 3 (some .int) ∈ G := gT4 136 rfl rfl
theorem gl_LW_45 : Cond.methodLink R_LW 45 y_MD_word2 ∈ G := gT4 137 rfl rfl
theorem gi_MD_word2 : Cond.instanceMethod y_MD_word2 ∈ G := gT4 138 rfl rfl
theorem gsel_MD_word2 : Cond.selects R_MD y_MD_word2 y_MD_word2 ∈ G := gT4 139 rfl rfl
theorem gc_MD_word2 : Cond.code y_MD_word2 c_MD_word2 3 (some .int) ∈ G := gT4 140 rfl rfl
theorem gl_LW_49 : Cond.methodLink R_LW 49 y_MD_output ∈ G := gT4 141 rfl rfl
theorem gi_MD_output : Cond.instanceMethod y_MD_output ∈ G := gT4 142 rfl rfl
theorem gsel_MD_output : Cond.selects R_MD y_MD_output y_MD_output ∈ G := gT4 143 rfl rfl
theorem gc_MD_output : Cond.code y_MD_output c_MD_output 3 (some .int) ∈ G := gT4 144 rfl rfl
theorem gl_LW_54 : Cond.methodLink R_LW 54 y_MD_disk ∈ G := gT4 145 rfl rfl
theorem gi_MD_disk : Cond.instanceMethod y_MD_disk ∈ G := gT4 146 rfl rfl
theorem gsel_MD_disk : Cond.selects R_MD y_MD_disk y_MD_disk ∈ G := gT4 147 rfl rfl
theorem gc_MD_disk : Cond.code y_MD_disk c_MD_disk 4 (some .int) ∈ G := gT4 148 rfl rfl
theorem gf_JS_15 : Cond.fieldLink R_JS 15 "java/lang/String" "coder" "B" ∈ G := gT4 149 rfl rfl
theorem gf_JS_9 : Cond.fieldLink R_JS 9 "java/lang/String" "value" "[B" ∈ G := gT4 150 rfl rfl
theorem gsel_GT_putOnTape : Cond.selects R_GT y_GT_putOnTape y_GT_putOnTape ∈ G := gP 0 rfl rfl
theorem gsel_LI_hasGoodBytes : Cond.selects R_LI y_LI_hasGoodBytes y_LI_hasGoodBytes ∈ G := gP 1 rfl rfl
theorem gsel_LI_dropRemark : Cond.selects R_LI y_LI_dropRemark y_LI_dropRemark ∈ G := gP 2 rfl rfl
theorem gsel_LI_isLabelRead : Cond.selects R_LI y_LI_isLabelRead y_LI_isLabelRead ∈ G := gP 3 rfl rfl
theorem gsel_LI_skipBlanks : Cond.selects R_LI y_LI_skipBlanks y_LI_skipBlanks ∈ G := gP 4 rfl rfl
theorem gsel_LI_here : Cond.selects R_LI y_LI_here y_LI_here ∈ G := gP 5 rfl rfl
theorem gsel_LI_takeLabel : Cond.selects R_LI y_LI_takeLabel y_LI_takeLabel ∈ G := gP 6 rfl rfl
theorem gsel_LI_isOrderRead : Cond.selects R_LI y_LI_isOrderRead y_LI_isOrderRead ∈ G := gP 7 rfl rfl
theorem gsel_LI_takeOrder : Cond.selects R_LI y_LI_takeOrder y_LI_takeOrder ∈ G := gP 8 rfl rfl
theorem gsel_LI_isNamed : Cond.selects R_LI y_LI_isNamed y_LI_isNamed ∈ G := gP 9 rfl rfl
theorem gsel_LI_takeRegister : Cond.selects R_LI y_LI_takeRegister y_LI_takeRegister ∈ G := gP 10 rfl rfl
theorem gsel_LI_isNumberRead : Cond.selects R_LI y_LI_isNumberRead y_LI_isNumberRead ∈ G := gP 11 rfl rfl
theorem gsel_LI_takeNumber : Cond.selects R_LI y_LI_takeNumber y_LI_takeNumber ∈ G := gP 12 rfl rfl
theorem gsel_AS_faultOfLine : Cond.selects R_AS y_AS_faultOfLine y_AS_faultOfLine ∈ G := gP 13 rfl rfl
theorem gsel_AS_addressOf : Cond.selects R_AS y_AS_addressOf y_AS_addressOf ∈ G := gP 14 rfl rfl
theorem gsel_AS_lineBehind : Cond.selects R_AS y_AS_lineBehind y_AS_lineBehind ∈ G := gP 15 rfl rfl
theorem gsel_AS_tellFault : Cond.selects R_AS y_AS_tellFault y_AS_tellFault ∈ G := gP 16 rfl rfl
theorem gsel_AS_placeLine : Cond.selects R_AS y_AS_placeLine y_AS_placeLine ∈ G := gP 17 rfl rfl
theorem gsel_AS_placeNumber : Cond.selects R_AS y_AS_placeNumber y_AS_placeNumber ∈ G := gP 18 rfl rfl
theorem gsel_AS_clearWords : Cond.selects R_AS y_AS_clearWords y_AS_clearWords ∈ G := gP 19 rfl rfl
theorem gsel_AS_fillUses : Cond.selects R_AS y_AS_fillUses y_AS_fillUses ∈ G := gP 20 rfl rfl
theorem gsel_GU_awaitTurn : Cond.selects R_GU y_GU_awaitTurn y_GU_awaitTurn ∈ G := gP 21 rfl rfl
theorem gsel_GU_isTurn : Cond.selects R_GU y_GU_isTurn y_GU_isTurn ∈ G := gP 22 rfl rfl
theorem gsel_MA_trap : Cond.selects R_MA y_MA_trap y_MA_trap ∈ G := gP 23 rfl rfl
theorem gsel_MA_keepStatus : Cond.selects R_MA y_MA_keepStatus y_MA_keepStatus ∈ G := gP 24 rfl rfl
theorem gsel_MA_takeStatus : Cond.selects R_MA y_MA_takeStatus y_MA_takeStatus ∈ G := gP 25 rfl rfl
theorem gsel_MA_access : Cond.selects R_MA y_MA_access y_MA_access ∈ G := gP 26 rfl rfl
theorem gsel_MA_goOn : Cond.selects R_MA y_MA_goOn y_MA_goOn ∈ G := gP 27 rfl rfl
theorem gsel_MA_compute : Cond.selects R_MA y_MA_compute y_MA_compute ∈ G := gP 28 rfl rfl
theorem gsel_MA_govern : Cond.selects R_MA y_MA_govern y_MA_govern ∈ G := gP 29 rfl rfl
theorem gsel_MA_firstBad : Cond.selects R_MA y_MA_firstBad y_MA_firstBad ∈ G := gP 30 rfl rfl
theorem gsel_GT_guestAt : Cond.selects R_GT y_GT_guestAt y_GT_guestAt ∈ G := gP 31 rfl rfl
theorem gsel_GU_mode : Cond.selects R_GU y_GU_mode y_GU_mode ∈ G := gP 32 rfl rfl
theorem gsel_GU_kept : Cond.selects R_GU y_GU_kept y_GU_kept ∈ G := gP 33 rfl rfl
theorem gsel_GU_pc : Cond.selects R_GU y_GU_pc y_GU_pc ∈ G := gP 34 rfl rfl
theorem gsel_GU_timer : Cond.selects R_GU y_GU_timer y_GU_timer ∈ G := gP 35 rfl rfl
theorem gsel_MD_word1 : Cond.selects R_MD y_MD_word1 y_MD_word1 ∈ G := gP 36 rfl rfl
theorem gsel_MD_lines : Cond.selects R_MD y_MD_lines y_MD_lines ∈ G := gP 37 rfl rfl
theorem gsel_MD_oneLine : Cond.selects R_MD y_MD_oneLine y_MD_oneLine ∈ G := gP 38 rfl rfl
theorem gsel_MD_blanks : Cond.selects R_MD y_MD_blanks y_MD_blanks ∈ G := gP 39 rfl rfl
theorem gsel_MD_nameAt : Cond.selects R_MD y_MD_nameAt y_MD_nameAt ∈ G := gP 40 rfl rfl
theorem gsel_MD_byteAt : Cond.selects R_MD y_MD_byteAt y_MD_byteAt ∈ G := gP 41 rfl rfl
theorem gsel_MD_isOver : Cond.selects R_MD y_MD_isOver y_MD_isOver ∈ G := gP 42 rfl rfl
theorem gsel_MD_order : Cond.selects R_MD y_MD_order y_MD_order ∈ G := gP 43 rfl rfl
theorem gsel_MD_register : Cond.selects R_MD y_MD_register y_MD_register ∈ G := gP 44 rfl rfl
theorem gsel_MD_gap : Cond.selects R_MD y_MD_gap y_MD_gap ∈ G := gP 45 rfl rfl
theorem gsel_MD_value : Cond.selects R_MD y_MD_value y_MD_value ∈ G := gP 46 rfl rfl
theorem gsel_MD_number : Cond.selects R_MD y_MD_number y_MD_number ∈ G := gP 47 rfl rfl
theorem gsel_MD_find : Cond.selects R_MD y_MD_find y_MD_find ∈ G := gP 48 rfl rfl
theorem gsel_MD_put : Cond.selects R_MD y_MD_put y_MD_put ∈ G := gP 49 rfl rfl
theorem gsel_MD_valued : Cond.selects R_MD y_MD_valued y_MD_valued ∈ G := gP 50 rfl rfl
theorem gsel_MD_begin : Cond.selects R_MD y_MD_begin y_MD_begin ∈ G := gP 51 rfl rfl
theorem gsel_MD_isGuest : Cond.selects R_MD y_MD_isGuest y_MD_isGuest ∈ G := gP 52 rfl rfl
theorem gsel_MD_step : Cond.selects R_MD y_MD_step y_MD_step ∈ G := gP 53 rfl rfl
theorem gsel_MD_trap : Cond.selects R_MD y_MD_trap y_MD_trap ∈ G := gP 54 rfl rfl
theorem gsel_MD_bad : Cond.selects R_MD y_MD_bad y_MD_bad ∈ G := gP 55 rfl rfl
theorem gsel_MD_isGood : Cond.selects R_MD y_MD_isGood y_MD_isGood ∈ G := gP 56 rfl rfl
theorem gsel_MD_get : Cond.selects R_MD y_MD_get y_MD_get ∈ G := gP 57 rfl rfl
theorem gsel_MD_does : Cond.selects R_MD y_MD_does y_MD_does ∈ G := gP 58 rfl rfl
theorem gsel_MD_set : Cond.selects R_MD y_MD_set y_MD_set ∈ G := gP 59 rfl rfl
theorem gsel_MD_rest : Cond.selects R_MD y_MD_rest y_MD_rest ∈ G := gP 60 rfl rfl
theorem gsel_MD_typedNext : Cond.selects R_MD y_MD_typedNext y_MD_typedNext ∈ G := gP 61 rfl rfl
theorem gy_MA_0 : u_lay R_MA T_MA 0 ∈ G := gT2 114 rfl rfl
theorem gy_MA_1 : u_lay R_MA T_MA 1 ∈ G := gT2 116 rfl rfl
theorem gy_MA_2 : u_lay R_MA T_MA 2 ∈ G := gT2 118 rfl rfl
theorem gy_MA_3 : u_lay R_MA T_MA 3 ∈ G := gT2 120 rfl rfl
theorem gy_MA_4 : u_lay R_MA T_MA 4 ∈ G := gT2 122 rfl rfl
theorem gy_MA_5 : u_lay R_MA T_MA 5 ∈ G := gT2 124 rfl rfl
theorem gy_MA_6 : u_lay R_MA T_MA 6 ∈ G := gT2 126 rfl rfl
theorem gy_MA_7 : u_lay R_MA T_MA 7 ∈ G := gT2 128 rfl rfl
theorem gy_MA_8 : u_lay R_MA T_MA 8 ∈ G := gT2 130 rfl rfl
theorem gy_MA_9 : u_lay R_MA T_MA 9 ∈ G := gT2 132 rfl rfl
theorem gy_MA_10 : u_lay R_MA T_MA 10 ∈ G := gT2 134 rfl rfl
theorem gy_MA_11 : u_lay R_MA T_MA 11 ∈ G := gT2 136 rfl rfl
theorem gy_MA_12 : u_lay R_MA T_MA 12 ∈ G := gT2 138 rfl rfl
theorem i_MA : ∀ w ∈ u_ws R_MA T_MA 13, w ∈ G := by
  intro w hw
  obtain ⟨k, hk, rfl⟩ := List.mem_map.mp hw
  have hk := List.mem_range.mp hk
  match k, hk with
  | 0, _ => exact gy_MA_0
  | 1, _ => exact gy_MA_1
  | 2, _ => exact gy_MA_2
  | 3, _ => exact gy_MA_3
  | 4, _ => exact gy_MA_4
  | 5, _ => exact gy_MA_5
  | 6, _ => exact gy_MA_6
  | 7, _ => exact gy_MA_7
  | 8, _ => exact gy_MA_8
  | 9, _ => exact gy_MA_9
  | 10, _ => exact gy_MA_10
  | 11, _ => exact gy_MA_11
  | 12, _ => exact gy_MA_12
  | k + 13, h => exact absurd h (by omega)
theorem gy_CO_0 : u_lay R_CO T_CO 0 ∈ G := gT2 79 rfl rfl
theorem gy_CO_1 : u_lay R_CO T_CO 1 ∈ G := gT2 81 rfl rfl
theorem gy_CO_2 : u_lay R_CO T_CO 2 ∈ G := gT2 83 rfl rfl
theorem gy_CO_3 : u_lay R_CO T_CO 3 ∈ G := gT2 85 rfl rfl
theorem gy_CO_4 : u_lay R_CO T_CO 4 ∈ G := gT2 87 rfl rfl
theorem i_CO : ∀ w ∈ u_ws R_CO T_CO 5, w ∈ G := by
  intro w hw
  obtain ⟨k, hk, rfl⟩ := List.mem_map.mp hw
  have hk := List.mem_range.mp hk
  match k, hk with
  | 0, _ => exact gy_CO_0
  | 1, _ => exact gy_CO_1
  | 2, _ => exact gy_CO_2
  | 3, _ => exact gy_CO_3
  | 4, _ => exact gy_CO_4
  | k + 5, h => exact absurd h (by omega)
theorem gy_GU_0 : u_lay R_GU T_GU 0 ∈ G := gT2 147 rfl rfl
theorem gy_GU_1 : u_lay R_GU T_GU 1 ∈ G := gT2 149 rfl rfl
theorem gy_GU_2 : u_lay R_GU T_GU 2 ∈ G := gT2 151 rfl rfl
theorem gy_GU_3 : u_lay R_GU T_GU 3 ∈ G := gT2 153 rfl rfl
theorem gy_GU_4 : u_lay R_GU T_GU 4 ∈ G := gT2 155 rfl rfl
theorem i_GU : ∀ w ∈ u_ws R_GU T_GU 5, w ∈ G := by
  intro w hw
  obtain ⟨k, hk, rfl⟩ := List.mem_map.mp hw
  have hk := List.mem_range.mp hk
  match k, hk with
  | 0, _ => exact gy_GU_0
  | 1, _ => exact gy_GU_1
  | 2, _ => exact gy_GU_2
  | 3, _ => exact gy_GU_3
  | 4, _ => exact gy_GU_4
  | k + 5, h => exact absurd h (by omega)
theorem gy_LI_0 : u_lay R_LI T_LI 0 ∈ G := gT1 50 rfl rfl
theorem gy_LI_1 : u_lay R_LI T_LI 1 ∈ G := gT1 52 rfl rfl
theorem gy_LI_2 : u_lay R_LI T_LI 2 ∈ G := gT1 54 rfl rfl
theorem gy_LI_3 : u_lay R_LI T_LI 3 ∈ G := gT1 56 rfl rfl
theorem gy_LI_4 : u_lay R_LI T_LI 4 ∈ G := gT1 58 rfl rfl
theorem gy_LI_5 : u_lay R_LI T_LI 5 ∈ G := gT1 60 rfl rfl
theorem gy_LI_6 : u_lay R_LI T_LI 6 ∈ G := gT1 62 rfl rfl
theorem gy_LI_7 : u_lay R_LI T_LI 7 ∈ G := gT1 64 rfl rfl
theorem gy_LI_8 : u_lay R_LI T_LI 8 ∈ G := gT1 66 rfl rfl
theorem i_LI : ∀ w ∈ u_ws R_LI T_LI 9, w ∈ G := by
  intro w hw
  obtain ⟨k, hk, rfl⟩ := List.mem_map.mp hw
  have hk := List.mem_range.mp hk
  match k, hk with
  | 0, _ => exact gy_LI_0
  | 1, _ => exact gy_LI_1
  | 2, _ => exact gy_LI_2
  | 3, _ => exact gy_LI_3
  | 4, _ => exact gy_LI_4
  | 5, _ => exact gy_LI_5
  | 6, _ => exact gy_LI_6
  | 7, _ => exact gy_LI_7
  | 8, _ => exact gy_LI_8
  | k + 9, h => exact absurd h (by omega)
theorem gy_AS_0 : u_lay R_AS T_AS 0 ∈ G := gT1 86 rfl rfl
theorem gy_AS_1 : u_lay R_AS T_AS 1 ∈ G := gT1 88 rfl rfl
theorem gy_AS_2 : u_lay R_AS T_AS 2 ∈ G := gT1 90 rfl rfl
theorem gy_AS_3 : u_lay R_AS T_AS 3 ∈ G := gT1 92 rfl rfl
theorem gy_AS_4 : u_lay R_AS T_AS 4 ∈ G := gT1 94 rfl rfl
theorem gy_AS_5 : u_lay R_AS T_AS 5 ∈ G := gT1 96 rfl rfl
theorem gy_AS_6 : u_lay R_AS T_AS 6 ∈ G := gT1 98 rfl rfl
theorem gy_AS_7 : u_lay R_AS T_AS 7 ∈ G := gT1 100 rfl rfl
theorem gy_AS_8 : u_lay R_AS T_AS 8 ∈ G := gT1 102 rfl rfl
theorem gy_AS_9 : u_lay R_AS T_AS 9 ∈ G := gT1 104 rfl rfl
theorem gy_AS_10 : u_lay R_AS T_AS 10 ∈ G := gT1 106 rfl rfl
theorem gy_AS_11 : u_lay R_AS T_AS 11 ∈ G := gT1 108 rfl rfl
theorem i_AS : ∀ w ∈ u_ws R_AS T_AS 12, w ∈ G := by
  intro w hw
  obtain ⟨k, hk, rfl⟩ := List.mem_map.mp hw
  have hk := List.mem_range.mp hk
  match k, hk with
  | 0, _ => exact gy_AS_0
  | 1, _ => exact gy_AS_1
  | 2, _ => exact gy_AS_2
  | 3, _ => exact gy_AS_3
  | 4, _ => exact gy_AS_4
  | 5, _ => exact gy_AS_5
  | 6, _ => exact gy_AS_6
  | 7, _ => exact gy_AS_7
  | 8, _ => exact gy_AS_8
  | 9, _ => exact gy_AS_9
  | 10, _ => exact gy_AS_10
  | 11, _ => exact gy_AS_11
  | k + 12, h => exact absurd h (by omega)
theorem gy_GT_0 : u_lay R_GT T_GT 0 ∈ G := gT1 120 rfl rfl
theorem gy_GT_1 : u_lay R_GT T_GT 1 ∈ G := gT1 122 rfl rfl
theorem gy_GT_2 : u_lay R_GT T_GT 2 ∈ G := gT1 124 rfl rfl
theorem gy_GT_3 : u_lay R_GT T_GT 3 ∈ G := gT1 126 rfl rfl
theorem gy_GT_4 : u_lay R_GT T_GT 4 ∈ G := gT1 128 rfl rfl
theorem gy_GT_5 : u_lay R_GT T_GT 5 ∈ G := gT1 130 rfl rfl
theorem i_GT : ∀ w ∈ u_ws R_GT T_GT 6, w ∈ G := by
  intro w hw
  obtain ⟨k, hk, rfl⟩ := List.mem_map.mp hw
  have hk := List.mem_range.mp hk
  match k, hk with
  | 0, _ => exact gy_GT_0
  | 1, _ => exact gy_GT_1
  | 2, _ => exact gy_GT_2
  | 3, _ => exact gy_GT_3
  | 4, _ => exact gy_GT_4
  | 5, _ => exact gy_GT_5
  | k + 6, h => exact absurd h (by omega)
theorem gy_MD_0 : u_lay R_MD T_MD 0 ∈ G := gT3 131 rfl rfl
theorem gy_MD_1 : u_lay R_MD T_MD 1 ∈ G := gT3 133 rfl rfl
theorem gy_MD_2 : u_lay R_MD T_MD 2 ∈ G := gT3 135 rfl rfl
theorem gy_MD_3 : u_lay R_MD T_MD 3 ∈ G := gT3 137 rfl rfl
theorem gy_MD_4 : u_lay R_MD T_MD 4 ∈ G := gT3 139 rfl rfl
theorem gy_MD_5 : u_lay R_MD T_MD 5 ∈ G := gT3 141 rfl rfl
theorem gy_MD_6 : u_lay R_MD T_MD 6 ∈ G := gT3 143 rfl rfl
theorem gy_MD_7 : u_lay R_MD T_MD 7 ∈ G := gT3 145 rfl rfl
theorem gy_MD_8 : u_lay R_MD T_MD 8 ∈ G := gT3 147 rfl rfl
theorem gy_MD_9 : u_lay R_MD T_MD 9 ∈ G := gT3 149 rfl rfl
theorem gy_MD_10 : u_lay R_MD T_MD 10 ∈ G := gT3 151 rfl rfl
theorem gy_MD_11 : u_lay R_MD T_MD 11 ∈ G := gT3 153 rfl rfl
theorem gy_MD_12 : u_lay R_MD T_MD 12 ∈ G := gT3 155 rfl rfl
theorem gy_MD_13 : u_lay R_MD T_MD 13 ∈ G := gT3 157 rfl rfl
theorem gy_MD_14 : u_lay R_MD T_MD 14 ∈ G := gT3 159 rfl rfl
theorem gy_MD_15 : u_lay R_MD T_MD 15 ∈ G := gT3 161 rfl rfl
theorem gy_MD_16 : u_lay R_MD T_MD 16 ∈ G := gT3 163 rfl rfl
theorem gy_MD_17 : u_lay R_MD T_MD 17 ∈ G := gT3 165 rfl rfl
theorem gy_MD_18 : u_lay R_MD T_MD 18 ∈ G := gT3 167 rfl rfl
theorem gy_MD_19 : u_lay R_MD T_MD 19 ∈ G := gT3 169 rfl rfl
theorem gy_MD_20 : u_lay R_MD T_MD 20 ∈ G := gT3 171 rfl rfl
theorem gy_MD_21 : u_lay R_MD T_MD 21 ∈ G := gT3 173 rfl rfl
theorem gy_MD_22 : u_lay R_MD T_MD 22 ∈ G := gT3 175 rfl rfl
theorem gy_MD_23 : u_lay R_MD T_MD 23 ∈ G := gT3 177 rfl rfl
theorem gy_MD_24 : u_lay R_MD T_MD 24 ∈ G := gT3 179 rfl rfl
theorem gy_MD_25 : u_lay R_MD T_MD 25 ∈ G := gT3 181 rfl rfl
theorem gy_MD_26 : u_lay R_MD T_MD 26 ∈ G := gT3 183 rfl rfl
theorem gy_MD_27 : u_lay R_MD T_MD 27 ∈ G := gT3 185 rfl rfl
theorem gy_MD_28 : u_lay R_MD T_MD 28 ∈ G := gT3 187 rfl rfl
theorem gy_MD_29 : u_lay R_MD T_MD 29 ∈ G := gT3 189 rfl rfl
theorem gy_MD_30 : u_lay R_MD T_MD 30 ∈ G := gT3 191 rfl rfl
theorem gy_MD_31 : u_lay R_MD T_MD 31 ∈ G := gT3 193 rfl rfl
theorem gy_MD_32 : u_lay R_MD T_MD 32 ∈ G := gT3 195 rfl rfl
theorem gy_MD_33 : u_lay R_MD T_MD 33 ∈ G := gT3 197 rfl rfl
theorem gy_MD_34 : u_lay R_MD T_MD 34 ∈ G := gT3 199 rfl rfl
theorem gy_MD_35 : u_lay R_MD T_MD 35 ∈ G := gT3 201 rfl rfl
theorem gy_MD_36 : u_lay R_MD T_MD 36 ∈ G := gT3 203 rfl rfl
theorem gy_MD_37 : u_lay R_MD T_MD 37 ∈ G := gT3 205 rfl rfl
theorem gy_MD_38 : u_lay R_MD T_MD 38 ∈ G := gT3 207 rfl rfl
theorem i_MD : ∀ w ∈ u_ws R_MD T_MD 39, w ∈ G := by
  intro w hw
  obtain ⟨k, hk, rfl⟩ := List.mem_map.mp hw
  have hk := List.mem_range.mp hk
  match k, hk with
  | 0, _ => exact gy_MD_0
  | 1, _ => exact gy_MD_1
  | 2, _ => exact gy_MD_2
  | 3, _ => exact gy_MD_3
  | 4, _ => exact gy_MD_4
  | 5, _ => exact gy_MD_5
  | 6, _ => exact gy_MD_6
  | 7, _ => exact gy_MD_7
  | 8, _ => exact gy_MD_8
  | 9, _ => exact gy_MD_9
  | 10, _ => exact gy_MD_10
  | 11, _ => exact gy_MD_11
  | 12, _ => exact gy_MD_12
  | 13, _ => exact gy_MD_13
  | 14, _ => exact gy_MD_14
  | 15, _ => exact gy_MD_15
  | 16, _ => exact gy_MD_16
  | 17, _ => exact gy_MD_17
  | 18, _ => exact gy_MD_18
  | 19, _ => exact gy_MD_19
  | 20, _ => exact gy_MD_20
  | 21, _ => exact gy_MD_21
  | 22, _ => exact gy_MD_22
  | 23, _ => exact gy_MD_23
  | 24, _ => exact gy_MD_24
  | 25, _ => exact gy_MD_25
  | 26, _ => exact gy_MD_26
  | 27, _ => exact gy_MD_27
  | 28, _ => exact gy_MD_28
  | 29, _ => exact gy_MD_29
  | 30, _ => exact gy_MD_30
  | 31, _ => exact gy_MD_31
  | 32, _ => exact gy_MD_32
  | 33, _ => exact gy_MD_33
  | 34, _ => exact gy_MD_34
  | 35, _ => exact gy_MD_35
  | 36, _ => exact gy_MD_36
  | 37, _ => exact gy_MD_37
  | 38, _ => exact gy_MD_38
  | k + 39, h => exact absurd h (by omega)
def nw_all : List Cond := [.fieldLinkNest R_AS 83 "GuestTower$Line" "label" "J" "GuestTower", .fieldLinkNest R_AS 77 "GuestTower$Line" "order" "I" "GuestTower", .fieldLinkNest R_AS 99 "GuestTower$Line" "a" "I" "GuestTower", .fieldLinkNest R_AS 102 "GuestTower$Line" "b" "I" "GuestTower", .fieldLinkNest R_AS 80 "GuestTower$Line" "number" "I" "GuestTower", .fieldLinkNest R_AS 111 "GuestTower$Line" "wanted" "J" "GuestTower", .fieldLinkNest R_GT 55 "GuestTower$Assembler" "words" "[I" "GuestTower", .fieldLinkNest R_GT 58 "GuestTower$Assembler" "here" "I" "GuestTower", .fieldLinkNest R_GT 48 "GuestTower$Assembler" "fault" "I" "GuestTower", .fieldLinkNest R_GT 51 "GuestTower$Assembler" "faultLine" "I" "GuestTower", .fieldLinkNest R_GU 97 "GuestTower$Console" "waiting" "I" "GuestTower", .fieldLinkNest R_GU 92 "GuestTower$Console" "sent" "I" "GuestTower", .fieldLinkNest R_GU 63 "GuestTower$Machine" "memory" "[I" "GuestTower", .fieldLinkNest R_GT 77 "GuestTower$Machine" "console" "LGuestTower$Console;" "GuestTower", .fieldLinkNest R_GU 88 "GuestTower$Machine" "console" "LGuestTower$Console;" "GuestTower", .fieldLinkNest R_GU 60 "GuestTower$Machine" "mode" "I" "GuestTower", .fieldLinkNest R_GU 103 "GuestTower$Machine" "pc" "I" "GuestTower", .fieldLinkNest R_GU 72 "GuestTower$Machine" "base" "I" "GuestTower", .fieldLinkNest R_GU 79 "GuestTower$Machine" "bound" "I" "GuestTower", .fieldLinkNest R_GU 105 "GuestTower$Machine" "timer" "I" "GuestTower", .fieldLinkNest R_GU 85 "GuestTower$Machine" "ranOut" "Z" "GuestTower", .fieldLinkNest R_GU 49 "GuestTower$Machine" "halted" "Z" "GuestTower", .fieldLinkNest R_GT 73 "GuestTower$Guest" "machine" "LGuestTower$Machine;" "GuestTower", .fieldLinkNest R_GU 38 "GuestTower$Monitor" "WORDS" "[I" "GuestTower"]
theorem gn_AS_83 : Cond.fieldLinkNest R_AS 83 "GuestTower$Line" "label" "J" "GuestTower" ∈ nw_all := List.mem_of_getElem? (i := 0) rfl
theorem gn_AS_77 : Cond.fieldLinkNest R_AS 77 "GuestTower$Line" "order" "I" "GuestTower" ∈ nw_all := List.mem_of_getElem? (i := 1) rfl
theorem gn_AS_99 : Cond.fieldLinkNest R_AS 99 "GuestTower$Line" "a" "I" "GuestTower" ∈ nw_all := List.mem_of_getElem? (i := 2) rfl
theorem gn_AS_102 : Cond.fieldLinkNest R_AS 102 "GuestTower$Line" "b" "I" "GuestTower" ∈ nw_all := List.mem_of_getElem? (i := 3) rfl
theorem gn_AS_80 : Cond.fieldLinkNest R_AS 80 "GuestTower$Line" "number" "I" "GuestTower" ∈ nw_all := List.mem_of_getElem? (i := 4) rfl
theorem gn_AS_111 : Cond.fieldLinkNest R_AS 111 "GuestTower$Line" "wanted" "J" "GuestTower" ∈ nw_all := List.mem_of_getElem? (i := 5) rfl
theorem gn_GT_55 : Cond.fieldLinkNest R_GT 55 "GuestTower$Assembler" "words" "[I" "GuestTower" ∈ nw_all := List.mem_of_getElem? (i := 6) rfl
theorem gn_GT_58 : Cond.fieldLinkNest R_GT 58 "GuestTower$Assembler" "here" "I" "GuestTower" ∈ nw_all := List.mem_of_getElem? (i := 7) rfl
theorem gn_GT_48 : Cond.fieldLinkNest R_GT 48 "GuestTower$Assembler" "fault" "I" "GuestTower" ∈ nw_all := List.mem_of_getElem? (i := 8) rfl
theorem gn_GT_51 : Cond.fieldLinkNest R_GT 51 "GuestTower$Assembler" "faultLine" "I" "GuestTower" ∈ nw_all := List.mem_of_getElem? (i := 9) rfl
theorem gn_GU_97 : Cond.fieldLinkNest R_GU 97 "GuestTower$Console" "waiting" "I" "GuestTower" ∈ nw_all := List.mem_of_getElem? (i := 10) rfl
theorem gn_GU_92 : Cond.fieldLinkNest R_GU 92 "GuestTower$Console" "sent" "I" "GuestTower" ∈ nw_all := List.mem_of_getElem? (i := 11) rfl
theorem gn_GU_63 : Cond.fieldLinkNest R_GU 63 "GuestTower$Machine" "memory" "[I" "GuestTower" ∈ nw_all := List.mem_of_getElem? (i := 12) rfl
theorem gn_GT_77 : Cond.fieldLinkNest R_GT 77 "GuestTower$Machine" "console" "LGuestTower$Console;" "GuestTower" ∈ nw_all := List.mem_of_getElem? (i := 13) rfl
theorem gn_GU_88 : Cond.fieldLinkNest R_GU 88 "GuestTower$Machine" "console" "LGuestTower$Console;" "GuestTower" ∈ nw_all := List.mem_of_getElem? (i := 14) rfl
theorem gn_GU_60 : Cond.fieldLinkNest R_GU 60 "GuestTower$Machine" "mode" "I" "GuestTower" ∈ nw_all := List.mem_of_getElem? (i := 15) rfl
theorem gn_GU_103 : Cond.fieldLinkNest R_GU 103 "GuestTower$Machine" "pc" "I" "GuestTower" ∈ nw_all := List.mem_of_getElem? (i := 16) rfl
theorem gn_GU_72 : Cond.fieldLinkNest R_GU 72 "GuestTower$Machine" "base" "I" "GuestTower" ∈ nw_all := List.mem_of_getElem? (i := 17) rfl
theorem gn_GU_79 : Cond.fieldLinkNest R_GU 79 "GuestTower$Machine" "bound" "I" "GuestTower" ∈ nw_all := List.mem_of_getElem? (i := 18) rfl
theorem gn_GU_105 : Cond.fieldLinkNest R_GU 105 "GuestTower$Machine" "timer" "I" "GuestTower" ∈ nw_all := List.mem_of_getElem? (i := 19) rfl
theorem gn_GU_85 : Cond.fieldLinkNest R_GU 85 "GuestTower$Machine" "ranOut" "Z" "GuestTower" ∈ nw_all := List.mem_of_getElem? (i := 20) rfl
theorem gn_GU_49 : Cond.fieldLinkNest R_GU 49 "GuestTower$Machine" "halted" "Z" "GuestTower" ∈ nw_all := List.mem_of_getElem? (i := 21) rfl
theorem gn_GT_73 : Cond.fieldLinkNest R_GT 73 "GuestTower$Guest" "machine" "LGuestTower$Machine;" "GuestTower" ∈ nw_all := List.mem_of_getElem? (i := 22) rfl
theorem gn_GU_38 : Cond.fieldLinkNest R_GU 38 "GuestTower$Monitor" "WORDS" "[I" "GuestTower" ∈ nw_all := List.mem_of_getElem? (i := 23) rfl
theorem nw_tbl : ∀ w ∈ nw_all, w ∈ tables_1 := by decide +kernel
end
section
/-! ROWS OF MINE over the kit: a world as a list of cells, contracts that name the new list, calls in one row -/
section JW
abbrev jz_Z : Type := List (String × String × String × Value)
abbrev jz_E : Type := va_G × (Nat → ClassId) × jz_Z
abbrev jty (cT : Nat → ClassId) : List (ClassId × FieldType) := [(cT 0, .int), (cT 1, .long), (cT 2, .byte), (cT 3, .boolean), (cT 4, .object R_GU)]
def jz_ok (ZZ : jz_Z) (A : Nat → Prop) (U : State) (H : Heap) : Prop := ∀ z ∈ ZZ, va_Z z.1 z.2.1 z.2.2.1 z.2.2.2 A U H
def jE (E : jz_E) (U : State) : Prop := va_K E.1 classes (jty E.2.1) U ∧ ∀ w ∈ nw_all, va_Nw w U
def isFN : Cond → Bool
  | .fieldLinkNest .. => true
  | _ => false
theorem isFN_on {w : Cond} (h : isFN w = true) : w.onTables = true := by
  cases w <;> first | rfl | (simp [isFN] at h)
theorem isFN_warm {w : Cond} (h : isFN w = true) {s U : State} (hW : s.WarmedH U.vm) (hZ : va_Nw w s) : va_Nw w U := by
  cases w <;> first | exact va_Nw.warmF hW hZ | (simp [isFN] at h)
theorem nw_fn : ∀ w ∈ nw_all, isFN w = true := by decide +kernel
theorem jE.warm {E : jz_E} {s U : State} (hW : s.WarmedH U.vm) (h : jE E s) : jE E U := ⟨va_K.moved hW.alike h.1, fun w hw => isFN_warm (nw_fn w hw) hW (h.2 w hw)⟩
theorem jE.same {E : jz_E} {u U : State} (hvm : u.vm = U.vm) (h : jE E u) : jE E U := ⟨va_K.moved (by rw [hvm]; exact Vm.Alike.refl U.vm) h.1, fun w hw => va_Nw.same (isFN_on (nw_fn w hw)) hvm (h.2 w hw)⟩
def PW (E : jz_E) (WS : va_W) (sz : Nat) (U : State) : Prop := U.heap.size = sz ∧ va_P E.1 classes WS U.heap ∧ jE E U ∧ va_D (fun _ => True) WS ∧ jz_ok E.2.2 (va_A WS sz) U U.heap
theorem PW.blind {E : jz_E} {av : List Value} {WS : va_W} {sz : Nat} : FrameBlind (va_Pc av (PW E WS sz)) := by
  intro a U g mk q
  obtain ⟨q0, q1, qP, qK, qD, qZ⟩ := q
  exact ⟨q0, q1, qP, jE.same (u := U) (U := U.calling g mk a) rfl qK, qD, fun z hz => va_Z.moved (u := U) (U := U.calling g mk a) (Vm.Alike.refl U.vm) (qZ z hz)⟩
def BW (E : jz_E) (A : Nat → Prop) (u : va_W) (t : State) : Prop := va_P E.1 classes u t.heap ∧ va_D A u
abbrev CTi (l : Launch) (E : jz_E) (y : MethodName) (cc : ByteArray) (mL : Nat) (rt : Option FieldType) (rm : Room) (av : List Value) (WS : va_W) (sz : Nat) (r : Int32) (WS' : va_W) : Prop := Met l y (Cond.code y cc mL rt :: G) rm (va_Pc av (PW E WS sz)) (va_Qi (fun (r' : Int32) (u : va_W) => r' = r ∧ u = WS') (BW E (va_A WS sz)) (va_A WS sz)) 0 0 (va_A WS sz)
abbrev CTl (l : Launch) (E : jz_E) (y : MethodName) (cc : ByteArray) (mL : Nat) (rt : Option FieldType) (rm : Room) (av : List Value) (WS : va_W) (sz : Nat) (r : Int64) (WS' : va_W) : Prop := Met l y (Cond.code y cc mL rt :: G) rm (va_Pc av (PW E WS sz)) (va_Ql (fun (r' : Int64) (u : va_W) => r' = r ∧ u = WS') (BW E (va_A WS sz)) (va_A WS sz)) 0 0 (va_A WS sz)
abbrev CTv (l : Launch) (E : jz_E) (y : MethodName) (cc : ByteArray) (mL : Nat) (rt : Option FieldType) (rm : Room) (av : List Value) (WS : va_W) (sz : Nat) (WS' : va_W) : Prop := Met l y (Cond.code y cc mL rt :: G) rm (va_Pc av (PW E WS sz)) (va_Qv (fun (u : va_W) => u = WS') (BW E (va_A WS sz)) (va_A WS sz)) 0 0 (va_A WS sz)
/-- what a method's walk stands on -/
def JC (p : Program) (s : State) (m : MethodId) (args : Array Value) (meth : Method) (c : Code) (cc : ByteArray) (mL : Nat) (rt : Option FieldType) (own : String) : Prop := p.tables.exec = Jvm.exec ∧ c.code = cc ∧ c.maxLocals = mL ∧ meth.sig.returnType = rt ∧ s.vm.findClass own = some m.cls ∧ (∀ w ∈ G, w.before args s = true) ∧ meth.locks = false
theorem jw {l : Launch} {E : jz_E} {y : MethodName} {cc : ByteArray} {mL : Nat} {rt : Option FieldType} {rm : Room} {av : List Value} {WS : va_W} {sz : Nat} {Qc : Array Value → State → Outcome → State → Prop} {mc ms : Nat} (hy : plainName y.cls = true) (hlen : (lg_sl av).length ≤ mL)
    (body : ∀ (p : Program) (e : Env) (s : State) (m : MethodId) (below : List Frame) (meth : Method) (c : Code) (A : Nat → Prop) (ls : Array Slot), JC p s m av.toArray meth c cc mL rt y.cls → jE E s → A = va_A WS sz → s.heap.size = sz → (∀ q : Nat, s.heap.size ≤ q → A q) → jz_ok E.2.2 A s s.heap → va_P E.1 classes WS s.heap → va_D A WS → lv_has ls mL (lv_args 0 av) → W p l e rm s m av.toArray below meth c s.heap [] 0 0 (MQ below Qc av.toArray s mc ms A) (F0 m 0 ls [])) : Met l y (Cond.code y cc mL rt :: G) rm (va_Pc av (PW E WS sz)) Qc mc ms (va_A WS sz) := by
  refine Met.ofW (cc := cc) (maxL := mL) (ret := rt) hy rfl ?_
  intro p e s m args below meth c s₁ B hml hv
  obtain ⟨rfl, hsz, hP, hK, hD0, hZ⟩ := hv
  have hts := atoms_spec (ws := Cond.code y cc mL rt :: G) B.pre
  have hown : s.vm.findClass y.cls = some m.cls := findClass_of_methodNamed B.named
  have hD := hD0.self (sz := sz)
  have hl := lv_entry av (n := mL) hlen
  rw [lg_entry_eq]
  generalize (lg_sl av ++ List.replicate (mL - (lg_sl av).length) Slot.unset).toArray = ls at hl ⊢
  exact body p e s m below meth c (va_A WS sz) ls ⟨B.exec, B.bytes, hml, B.returns, hown, fun w h => hts w (List.mem_cons_of_mem _ h), B.notSynchronized⟩ hK rfl hsz (fun q h => Or.inr (by rw [← hsz]; exact h)) hZ hP hD hl
end JW
section JR
variable {p : Program} {l : Launch} {e : Env} {R : Room} {s : State} {m : MethodId} {args : Array Value} {below : List Frame} {meth : Method} {c : Code} {H : Heap} {locs : List Loc} {cells slots : Nat} {Q : State → Prop}
variable {cc : ByteArray} {nL pc : Nat} {ls : Array Slot} {rest st0 : List Value} {E : jz_E} {A : Nat → Prop} {WS : va_W} {rt0 : Option FieldType} {own : String}
theorem jr_i {v : Int32} {WS' : va_W} {ty : FieldType} (J : JC p s m args meth c cc nL (some ty) own) (hS : va_S A s.heap H locs) (hP : va_P E.1 classes WS' H) (hD : va_D A WS') (hn : narrow ty (.int v) = .int v) (hdg : decode cc pc = .ok (.ireturn, 1)) : W p l e R s m args below meth c H locs cells slots (MQ below (va_Qi (fun (r' : Int32) (u : va_W) => r' = v ∧ u = WS') (BW E A) A) args s cells slots A) (F0 m pc ls [.int v]) := by
  obtain ⟨hx, hb, -, hr, -, -, hlocks⟩ := J
  exact W.zret hx hb hr hn (fun t ht hW => ⟨⟨v, WS', rfl, ⟨rfl, rfl⟩, by rw [ht]; exact hP, hD⟩, hS.F ht⟩) hS.2.2 hdg
theorem jr_l {v : Int64} {WS' : va_W} (J : JC p s m args meth c cc nL (some .long) own) (hS : va_S A s.heap H locs) (hP : va_P E.1 classes WS' H) (hD : va_D A WS') (hdg : decode cc pc = .ok (.lreturn, 1)) : W p l e R s m args below meth c H locs cells slots (MQ below (va_Ql (fun (r' : Int64) (u : va_W) => r' = v ∧ u = WS') (BW E A) A) args s cells slots A) (F0 m pc ls [.long v]) := by
  obtain ⟨hx, hb, -, hr, -, -, hlocks⟩ := J
  exact W.lret hx hb hr (fun t ht hW => ⟨⟨v, WS', rfl, ⟨rfl, rfl⟩, by rw [ht]; exact hP, hD⟩, hS.F ht⟩) hS.2.2 hdg
theorem jr_v {WS' : va_W} (J : JC p s m args meth c cc nL none own) (hS : va_S A s.heap H locs) (hP : va_P E.1 classes WS' H) (hD : va_D A WS') (hdg : decode cc pc = .ok (.return_, 1)) : W p l e R s m args below meth c H locs cells slots (MQ below (va_Qv (fun (u : va_W) => u = WS') (BW E A) A) args s cells slots A) (F0 m pc ls []) := by
  obtain ⟨hx, hb, -, hr, -, -, hlocks⟩ := J
  exact W.vret hx hb hr (fun t ht hW => ⟨⟨WS', rfl, rfl, by rw [ht]; exact hP, hD⟩, hS.F ht⟩) hS.2.2 hdg
theorem jg (J : JC p s m args meth c cc nL rt0 own) (hJ : jE E s) (hP : va_P E.1 classes WS H) (q0 : Nat) {a ci N idx : Nat} {fs : List Value} {C : String} {T : u_T} (he : WS[q0]? = some (a, .inr (ci, fs))) (hc : classes[ci]? = some (C, T, N)) (hin : ∀ w ∈ u_ws C T N, w ∈ G) (k : Nat) (hk : k < N) (gf : Cond.fieldLink own idx (T k).1 (T k).2.1 (T k).2.2.1 ∈ G) {v : Value} (hv : fs[k]? = some v) (hdg : decode cc pc = .ok (.getfield idx, 3)) (kk : W p l e R s m args below meth c H locs cells slots Q (F0 m (pc + 3) ls (v :: rest))) : W p l e R s m args below meth c H locs cells slots Q (F0 m pc ls (.ref a :: rest)) := by
  obtain ⟨hx, hb, -, -, hown, hts, -⟩ := J
  exact va_get hx hb hts hin hown hJ.1 hP q0 he hc k hk (hts _ gf) (fun _ h => h) hv hdg kk
theorem jgN (J : JC p s m args meth c cc nL rt0 own) (hJ : jE E s) (hP : va_P E.1 classes WS H) (q0 : Nat) {a ci N idx : Nat} {fs : List Value} {C host : String} {T : u_T} (he : WS[q0]? = some (a, .inr (ci, fs))) (hc : classes[ci]? = some (C, T, N)) (hin : ∀ w ∈ u_ws C T N, w ∈ G) (k : Nat) (hk : k < N) (gf : Cond.fieldLinkNest own idx (T k).1 (T k).2.1 (T k).2.2.1 host ∈ nw_all) {v : Value} (hv : fs[k]? = some v) (hdg : decode cc pc = .ok (.getfield idx, 3)) (kk : W p l e R s m args below meth c H locs cells slots Q (F0 m (pc + 3) ls (v :: rest))) : W p l e R s m args below meth c H locs cells slots Q (F0 m pc ls (.ref a :: rest)) := by
  obtain ⟨hx, hb, -, -, hown, hts, -⟩ := J
  exact va_getN hx hb hts hin hown hJ.1 hP q0 he hc k hk (va_Nw.use (isFN_on (nw_fn _ gf)) (hJ.2 _ gf)) (fun _ h => h) hv hdg kk
theorem jp (J : JC p s m args meth c cc nL rt0 own) (hJ : jE E s) (hP : va_P E.1 classes WS H) (hD : va_D A WS) (hS : va_S A s.heap H locs) (q0 : Nat) {a ci N idx : Nat} {fs : List Value} {C : String} {T : u_T} (he : WS[q0]? = some (a, .inr (ci, fs))) (hc : classes[ci]? = some (C, T, N)) (hin : ∀ w ∈ u_ws C T N, w ∈ G) (ty0 : Nat → FieldType) (hty : ∀ k, k < N → parseFieldDescriptor (T k).2.2.1 = some (ty0 k)) (hnm : ∀ a, a < N → ∀ b, b < N → a ≠ b → (T a).2.1 ≠ (T b).2.1) (k : Nat) (hk : k < N) (gf : Cond.fieldLink own idx (T k).1 (T k).2.1 (T k).2.2.1 ∈ G) (hfin : (T k).2.2.2 = false) {v : Value} (hn : narrow (ty0 k) v = v) (hfit : fits (ty0 k) v = true) (hl : k < fs.length) (hdg : decode cc pc = .ok (.putfield idx, 3)) {WS' : va_W} (hw : WS.set q0 (a, .inr (ci, fs.set k v)) = WS') (kk : ∀ (H1 : Heap) (locs1 : List Loc), va_P E.1 classes WS' H1 → va_D A WS' → va_S A s.heap H1 locs1 → W p l e R s m args below meth c H1 locs1 cells slots Q (F0 m (pc + 3) ls rest)) : W p l e R s m args below meth c H locs cells slots Q (F0 m pc ls (v :: .ref a :: rest)) := by
  obtain ⟨hx, hb, -, -, hown, hts, -⟩ := J
  subst hw
  exact va_put hx hb hts hin ty0 hty hnm hown hJ.1 hP hD hS q0 he hc k hk (hts _ gf) (fun _ h => h) hfin (hty k hk) hn hfit hl hdg kk
theorem jai (J : JC p s m args meth c cc nL rt0 own) (hJ : jE E s) (hP : va_P E.1 classes WS H) (q0 : Nat) {a n : Nat} {f : Nat → Int32} (ha : WS[q0]? = some (a, .inl (E.2.1 0, n, .inl f))) {i : Int32} (hin : vp_in i n) (hdg : decode cc pc = .ok (.iaload, 1)) (kk : W p l e R s m args below meth c H locs cells slots Q (F0 m (pc + 1) ls (.int (f i.toNatClampNeg) :: rest))) : W p l e R s m args below meth c H locs cells slots Q (F0 m pc ls (.int i :: .ref a :: rest)) := va_iald J.1 J.2.1 hJ.1 hP q0 0 ha rfl hin hdg kk
theorem jsi (J : JC p s m args meth c cc nL rt0 own) (hJ : jE E s) (hP : va_P E.1 classes WS H) (hD : va_D A WS) (hS : va_S A s.heap H locs) (q0 : Nat) {a n : Nat} {f : Nat → Int32} (ha : WS[q0]? = some (a, .inl (E.2.1 0, n, .inl f))) {i x : Int32} (hin : vp_in i n) (hdg : decode cc pc = .ok (.iastore, 1)) {WS' : va_W} (hw : WS.set q0 (a, .inl (E.2.1 0, n, .inl (upd f i.toNatClampNeg x))) = WS') (kk : ∀ (H1 : Heap) (locs1 : List Loc), va_P E.1 classes WS' H1 → va_D A WS' → va_S A s.heap H1 locs1 → W p l e R s m args below meth c H1 locs1 cells slots Q (F0 m (pc + 1) ls rest)) : W p l e R s m args below meth c H locs cells slots Q (F0 m pc ls (.int x :: .int i :: .ref a :: rest)) := by
  subst hw
  exact va_iast J.1 J.2.1 hJ.1 hP hD hS q0 0 ha rfl hin hdg kk
theorem jsub {isC : List Nat} {WC : va_W} (hC : isC.map (fun i => WS[i]?) = WC.map some) : isC.filterMap (fun i => WS[i]?) = WC := by
  have h1 : isC.filterMap (fun i => WS[i]?) = (isC.map (fun i => WS[i]?)).filterMap id := by rw [List.filterMap_map]; rfl
  rw [h1, hC, List.filterMap_map]
  simp
variable {y : MethodName} {cy : ByteArray} {mL idx n : Nat} {rt : Option FieldType} {rm : Room} {WC WR WC' : va_W} {C : String} {b : Addr} {As : List Value} {Qc : Array Value → State → Outcome → State → Prop}
/-- what a callee's start asks, out of the caller's world -/
theorem jpre {av : List Value} (hJ : jE E s) (hA : ∀ q, s.heap.size ≤ q → A q) (hZ : jz_ok E.2.2 A s s.heap) (hP : va_P E.1 classes WS H) (hD : va_D A WS) (hS : va_S A s.heap H locs) (isC : List Nat) (hC : isC.map (fun i => WS[i]?) = WC.map some) (hn1 : va_nd isC = true) : ∀ U : State, U.heap = H → s.WarmedH U.vm → va_Pc av (PW E WC H.size) av.toArray U := by
  intro U hU hW
  refine ⟨rfl, by rw [hU], by rw [hU]; exact hP.sub isC (jsub hC), hJ.warm hW, (hD.sub isC hn1 hC).weaken (fun _ _ _ _ => trivial), ?_⟩
  intro z hz
  rw [hU]
  exact va_Z.moved hW.alike (((hZ z hz).kept hS.2.1).narrow (va_free hD hS hA isC hC))
theorem jrunV (J : JC p s m args meth c cc nL rt0 own) (hJ : jE E s) (hA : ∀ q, s.heap.size ≤ q → A q) (hZ : jz_ok E.2.2 A s s.heap) (hP : va_P E.1 classes WS H) (hD : va_D A WS) (hS : va_S A s.heap H locs)
    (hM : Met l y (Cond.code y cy mL rt :: G) rm (va_Pc (.ref b :: As) (PW E WC H.size)) Qc 0 0 (va_A WC H.size)) (isC : List Nat) (hC : isC.map (fun i => WS[i]?) = WC.map some) (hn1 : va_nd isC = true)
    (gl : Cond.methodLink own idx y ∈ G) (gi : Cond.instanceMethod y ∈ G) (gs : Cond.selects y.cls y y ∈ G) (gini : Cond.initialized y.cls ∈ G) (gc : Cond.code y cy mL rt ∈ G) (hd : y.cls ≠ "java/lang/invoke/MethodHandle" ∧ y.cls ≠ "java/lang/invoke/VarHandle" ∧ (parseMethodDescriptor y.desc).map (fun d => d.parameters.length) = some n)
    (hrm : rm.cells = 0 ∧ rm.slots = 0 ∧ rm.frames + 1 ≤ R.frames ∧ 8 + (mL + 11) + rm.locals ≤ R.locals) {ci N : Nat} {fs : List Value} {T : u_T} (hrec : WC[0]? = some (b, .inr (ci, fs))) (hcl : classes[ci]? = some (y.cls, T, N))
    (hls : ls.size = nL) (hn : As.length = n) (hst : st0 = As.reverse ++ .ref b :: rest) (hroom : (rest.map fun v => v.category).sum ≤ 8) (hdg : decode cc pc = .ok (.invokevirtual idx, 3)) (hcs : cells ≤ R.cells ∧ slots ≤ R.slots) :
    va_Run p l e R s m args below meth c H locs cells slots 0 0 (F0 m pc ls st0) rest (Qc (Value.ref b :: As).toArray) (va_A WC H.size) := by
  obtain ⟨hx, hb, hml, hr, hown, hts, hlk⟩ := J
  exact va_runV (Ts := G) (As := As) (rest := rest) (C := y.cls) ⟨hx, hb, hml, hown, hts⟩ hM ⟨callB_of n hts (gG gc) rfl hrm.1 hrm.2.1 (hts _ gini) (hts _ gl) hd hrm.2.2, hts _ gi, hts _ gs⟩ ⟨PW.blind, va_recv hJ.1 (hP.sub isC (jsub hC)) hcl hrec, jpre hJ hA hZ hP hD hS isC hC hn1⟩ rfl hn hls hst (lv_room hroom) hdg hcs
theorem jrunS (J : JC p s m args meth c cc nL rt0 own) (hJ : jE E s) (hA : ∀ q, s.heap.size ≤ q → A q) (hZ : jz_ok E.2.2 A s s.heap) (hP : va_P E.1 classes WS H) (hD : va_D A WS) (hS : va_S A s.heap H locs)
    (hM : Met l y (Cond.code y cy mL rt :: G) rm (va_Pc As (PW E WC H.size)) Qc 0 0 (va_A WC H.size)) (isC : List Nat) (hC : isC.map (fun i => WS[i]?) = WC.map some) (hn1 : va_nd isC = true)
    (gl : Cond.methodLink own idx y ∈ G) (gs : Cond.static y ∈ G) (gini : Cond.initialized y.cls ∈ G) (gc : Cond.code y cy mL rt ∈ G) (hd : y.cls ≠ "java/lang/invoke/MethodHandle" ∧ y.cls ≠ "java/lang/invoke/VarHandle" ∧ (parseMethodDescriptor y.desc).map (fun d => d.parameters.length) = some n)
    (hrm : rm.cells = 0 ∧ rm.slots = 0 ∧ rm.frames + 1 ≤ R.frames ∧ 8 + (mL + 11) + rm.locals ≤ R.locals)
    (hls : ls.size = nL) (hn : As.length = n) (hst : st0 = As.reverse ++ rest) (hroom : (rest.map fun v => v.category).sum ≤ 8) (hdg : decode cc pc = .ok (.invokestatic idx, 3)) (hcs : cells ≤ R.cells ∧ slots ≤ R.slots) :
    va_Run p l e R s m args below meth c H locs cells slots 0 0 (F0 m pc ls st0) rest (Qc As.toArray) (va_A WC H.size) := by
  obtain ⟨hx, hb, hml, hr, hown, hts, hlk⟩ := J
  exact va_runS (Ts := G) (As := As) (rest := rest) ⟨hx, hb, hml, hown, hts⟩ hM ⟨callB_of n hts (gG gc) rfl hrm.1 hrm.2.1 (hts _ gini) (hts _ gl) hd hrm.2.2, hts _ gs⟩ ⟨PW.blind, jpre hJ hA hZ hP hD hS isC hC hn1⟩ rfl hn hls hst (lv_room hroom) hdg hcs
theorem jk_i {res : Int32} {a : Array Value} (hr : va_Run p l e R s m args below meth c H locs cells slots 0 0 (F0 m pc ls st0) rest (va_Qi (fun (r' : Int32) (u : va_W) => r' = res ∧ u = WC') (BW E (va_A WC H.size)) (va_A WC H.size) a) (va_A WC H.size)) (hA : ∀ q, s.heap.size ≤ q → A q) (hP : va_P E.1 classes WS H) (hD : va_D A WS) (hS : va_S A s.heap H locs) (isC isR : List Nat) (hC : isC.map (fun i => WS[i]?) = WC.map some) (hR : isR.map (fun i => WS[i]?) = WR.map some) (hn2 : va_nd isR = true) (hdis : ∀ i ∈ isR, i ∉ isC) (isF : List Nat) {WF : va_W} (hF : isF.map (fun i => (WR ++ WC')[i]?) = WF.map some) (hn3 : va_nd isF = true)
    (kk : ∀ (H1 : Heap) (locs1 : List Loc), va_P E.1 classes WF H1 → va_D A WF → va_S A s.heap H1 locs1 → W p l e R s m args below meth c H1 locs1 cells slots Q (F0 m (pc + 3) ls (.int res :: rest))) : W p l e R s m args below meth c H locs cells slots Q (F0 m pc ls st0) := by
  have hFc := va_free hD hS hA isC hC
  refine va_calli hr hS (fun q _ h => hFc q h) hFc (fun r u t H1 locs1 ht hvm hw hB hz1 hk1 hS1 => ?_)
  obtain ⟨rfl, rfl⟩ := hw
  obtain ⟨hP1, hD1⟩ := hB
  rw [ht] at hP1
  obtain ⟨hP2, hD2⟩ := va_join hP hD isC isR hC hR hn2 hdis hk1 hFc hP1 hD1
  exact kk H1 locs1 (hP2.sub isF (jsub hF)) (hD2.sub isF hn3 hF) hS1
theorem jk_l {res : Int64} {a : Array Value} (hr : va_Run p l e R s m args below meth c H locs cells slots 0 0 (F0 m pc ls st0) rest (va_Ql (fun (r' : Int64) (u : va_W) => r' = res ∧ u = WC') (BW E (va_A WC H.size)) (va_A WC H.size) a) (va_A WC H.size)) (hA : ∀ q, s.heap.size ≤ q → A q) (hP : va_P E.1 classes WS H) (hD : va_D A WS) (hS : va_S A s.heap H locs) (isC isR : List Nat) (hC : isC.map (fun i => WS[i]?) = WC.map some) (hR : isR.map (fun i => WS[i]?) = WR.map some) (hn2 : va_nd isR = true) (hdis : ∀ i ∈ isR, i ∉ isC) (isF : List Nat) {WF : va_W} (hF : isF.map (fun i => (WR ++ WC')[i]?) = WF.map some) (hn3 : va_nd isF = true)
    (kk : ∀ (H1 : Heap) (locs1 : List Loc), va_P E.1 classes WF H1 → va_D A WF → va_S A s.heap H1 locs1 → W p l e R s m args below meth c H1 locs1 cells slots Q (F0 m (pc + 3) ls (.long res :: rest))) : W p l e R s m args below meth c H locs cells slots Q (F0 m pc ls st0) := by
  have hFc := va_free hD hS hA isC hC
  refine va_calll hr hS (fun q _ h => hFc q h) hFc (fun r u t H1 locs1 ht hvm hw hB hz1 hk1 hS1 => ?_)
  obtain ⟨rfl, rfl⟩ := hw
  obtain ⟨hP1, hD1⟩ := hB
  rw [ht] at hP1
  obtain ⟨hP2, hD2⟩ := va_join hP hD isC isR hC hR hn2 hdis hk1 hFc hP1 hD1
  exact kk H1 locs1 (hP2.sub isF (jsub hF)) (hD2.sub isF hn3 hF) hS1
theorem jk_v {a : Array Value} (hr : va_Run p l e R s m args below meth c H locs cells slots 0 0 (F0 m pc ls st0) rest (va_Qv (fun (u : va_W) => u = WC') (BW E (va_A WC H.size)) (va_A WC H.size) a) (va_A WC H.size)) (hA : ∀ q, s.heap.size ≤ q → A q) (hP : va_P E.1 classes WS H) (hD : va_D A WS) (hS : va_S A s.heap H locs) (isC isR : List Nat) (hC : isC.map (fun i => WS[i]?) = WC.map some) (hR : isR.map (fun i => WS[i]?) = WR.map some) (hn2 : va_nd isR = true) (hdis : ∀ i ∈ isR, i ∉ isC) (isF : List Nat) {WF : va_W} (hF : isF.map (fun i => (WR ++ WC')[i]?) = WF.map some) (hn3 : va_nd isF = true)
    (kk : ∀ (H1 : Heap) (locs1 : List Loc), va_P E.1 classes WF H1 → va_D A WF → va_S A s.heap H1 locs1 → W p l e R s m args below meth c H1 locs1 cells slots Q (F0 m (pc + 3) ls rest)) : W p l e R s m args below meth c H locs cells slots Q (F0 m pc ls st0) := by
  have hFc := va_free hD hS hA isC hC
  refine va_callv hr hS (fun q _ h => hFc q h) hFc (fun u t H1 locs1 ht hvm hw hB hz1 hk1 hS1 => ?_)
  subst hw
  obtain ⟨hP1, hD1⟩ := hB
  rw [ht] at hP1
  obtain ⟨hP2, hD2⟩ := va_join hP hD isC isR hC hR hn2 hdis hk1 hFc hP1 hD1
  exact kk H1 locs1 (hP2.sub isF (jsub hF)) (hD2.sub isF hn3 hF) hS1
/-- out of a guard's value -/
theorem g_ck {α : Type} {q : Prop} [Decidable q] {a : Option α} {r : α} (h : (if q then a else none) = some r) : q ∧ a = some r := by
  by_cases hq : q
  · rw [if_pos hq] at h; exact ⟨hq, h⟩
  · rw [if_neg hq] at h; cases h
theorem g_bd {α β : Type} {a : Option α} {f : α → Option β} {r : β} (h : a.bind f = some r) : ∃ x, a = some x ∧ f x = some r := by
  cases a with
  | none => cases h
  | some x => exact ⟨x, rfl, h⟩
abbrev ck (i : Int32) (n : Nat) : Prop := ¬ (i < 0 ∨ n ≤ i.toNatClampNeg)
end JR
end
