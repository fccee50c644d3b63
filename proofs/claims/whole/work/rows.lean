section
-- ===== PART A: goes FIRST, ahead of the names: the tables' words, and 'selects' of the private methods out of them =====
/-- a private method of a class that the tables say can be made, by its rows of tables_1 -/
def lw_okq (q : MethodName × Nat) : Prop := (q.1.cls ≠ "java/lang/invoke/MethodHandle" ∧ q.1.cls ≠ "java/lang/invoke/VarHandle") ∧ Cond.instantiable q.1.cls q.2 ∈ tables_1 ∧ Cond.privateMethod q.1 ∈ tables_1 ∧ Cond.instanceMethod q.1 ∈ tables_1
theorem lw_p0 : lw_okq (⟨"GuestTower", "putOnTape", "(I)V"⟩, 6) := ⟨⟨by decide +kernel, by decide +kernel⟩, List.mem_of_getElem? (i := 16) (by decide +kernel), List.mem_of_getElem? (i := 138) (by decide +kernel), List.mem_of_getElem? (i := 139) (by decide +kernel)⟩
theorem lw_p1 : lw_okq (⟨"GuestTower$Line", "hasGoodBytes", "()Z"⟩, 9) := ⟨⟨by decide +kernel, by decide +kernel⟩, List.mem_of_getElem? (i := 30) (by decide +kernel), List.mem_of_getElem? (i := 160) (by decide +kernel), List.mem_of_getElem? (i := 161) (by decide +kernel)⟩
theorem lw_p2 : lw_okq (⟨"GuestTower$Line", "dropRemark", "()V"⟩, 9) := ⟨⟨by decide +kernel, by decide +kernel⟩, List.mem_of_getElem? (i := 30) (by decide +kernel), List.mem_of_getElem? (i := 164) (by decide +kernel), List.mem_of_getElem? (i := 165) (by decide +kernel)⟩
theorem lw_p3 : lw_okq (⟨"GuestTower$Line", "isLabelRead", "()Z"⟩, 9) := ⟨⟨by decide +kernel, by decide +kernel⟩, List.mem_of_getElem? (i := 30) (by decide +kernel), List.mem_of_getElem? (i := 168) (by decide +kernel), List.mem_of_getElem? (i := 169) (by decide +kernel)⟩
theorem lw_p4 : lw_okq (⟨"GuestTower$Line", "skipBlanks", "()V"⟩, 9) := ⟨⟨by decide +kernel, by decide +kernel⟩, List.mem_of_getElem? (i := 30) (by decide +kernel), List.mem_of_getElem? (i := 172) (by decide +kernel), List.mem_of_getElem? (i := 173) (by decide +kernel)⟩
theorem lw_p5 : lw_okq (⟨"GuestTower$Line", "here", "()I"⟩, 9) := ⟨⟨by decide +kernel, by decide +kernel⟩, List.mem_of_getElem? (i := 30) (by decide +kernel), List.mem_of_getElem? (i := 176) (by decide +kernel), List.mem_of_getElem? (i := 177) (by decide +kernel)⟩
theorem lw_p6 : lw_okq (⟨"GuestTower$Line", "takeLabel", "()J"⟩, 9) := ⟨⟨by decide +kernel, by decide +kernel⟩, List.mem_of_getElem? (i := 30) (by decide +kernel), List.mem_of_getElem? (i := 183) (by decide +kernel), List.mem_of_getElem? (i := 184) (by decide +kernel)⟩
theorem lw_p7 : lw_okq (⟨"GuestTower$Line", "isOrderRead", "()Z"⟩, 9) := ⟨⟨by decide +kernel, by decide +kernel⟩, List.mem_of_getElem? (i := 30) (by decide +kernel), List.mem_of_getElem? (i := 191) (by decide +kernel), List.mem_of_getElem? (i := 192) (by decide +kernel)⟩
theorem lw_p8 : lw_okq (⟨"GuestTower$Line", "takeOrder", "()I"⟩, 9) := ⟨⟨by decide +kernel, by decide +kernel⟩, List.mem_of_getElem? (i := 30) (by decide +kernel), List.mem_of_getElem? (i := 195) (by decide +kernel), List.mem_of_getElem? (i := 196) (by decide +kernel)⟩
theorem lw_p9 : lw_okq (⟨"GuestTower$Line", "isNamed", "(III)Z"⟩, 9) := ⟨⟨by decide +kernel, by decide +kernel⟩, List.mem_of_getElem? (i := 30) (by decide +kernel), List.mem_of_getElem? (i := 199) (by decide +kernel), List.mem_of_getElem? (i := 200) (by decide +kernel)⟩
theorem lw_p10 : lw_okq (⟨"GuestTower$Line", "takeRegister", "()I"⟩, 9) := ⟨⟨by decide +kernel, by decide +kernel⟩, List.mem_of_getElem? (i := 30) (by decide +kernel), List.mem_of_getElem? (i := 246) (by decide +kernel), List.mem_of_getElem? (i := 247) (by decide +kernel)⟩
theorem lw_p11 : lw_okq (⟨"GuestTower$Line", "isNumberRead", "(I)Z"⟩, 9) := ⟨⟨by decide +kernel, by decide +kernel⟩, List.mem_of_getElem? (i := 30) (by decide +kernel), List.mem_of_getElem? (i := 250) (by decide +kernel), List.mem_of_getElem? (i := 251) (by decide +kernel)⟩
theorem lw_p12 : lw_okq (⟨"GuestTower$Line", "takeNumber", "()I"⟩, 9) := ⟨⟨by decide +kernel, by decide +kernel⟩, List.mem_of_getElem? (i := 30) (by decide +kernel), List.mem_of_getElem? (i := 254) (by decide +kernel), List.mem_of_getElem? (i := 255) (by decide +kernel)⟩
theorem lw_p13 : lw_okq (⟨"GuestTower$Assembler", "faultOfLine", "(I)I"⟩, 12) := ⟨⟨by decide +kernel, by decide +kernel⟩, List.mem_of_getElem? (i := 24) (by decide +kernel), List.mem_of_getElem? (i := 259) (by decide +kernel), List.mem_of_getElem? (i := 260) (by decide +kernel)⟩
theorem lw_p14 : lw_okq (⟨"GuestTower$Assembler", "addressOf", "(J)I"⟩, 12) := ⟨⟨by decide +kernel, by decide +kernel⟩, List.mem_of_getElem? (i := 24) (by decide +kernel), List.mem_of_getElem? (i := 263) (by decide +kernel), List.mem_of_getElem? (i := 264) (by decide +kernel)⟩
theorem lw_p15 : lw_okq (⟨"GuestTower$Assembler", "lineBehind", "()I"⟩, 12) := ⟨⟨by decide +kernel, by decide +kernel⟩, List.mem_of_getElem? (i := 24) (by decide +kernel), List.mem_of_getElem? (i := 267) (by decide +kernel), List.mem_of_getElem? (i := 268) (by decide +kernel)⟩
def lw_privs_1 : List (MethodName × Nat) := [(⟨"GuestTower", "putOnTape", "(I)V"⟩, 6), (⟨"GuestTower$Line", "hasGoodBytes", "()Z"⟩, 9), (⟨"GuestTower$Line", "dropRemark", "()V"⟩, 9), (⟨"GuestTower$Line", "isLabelRead", "()Z"⟩, 9), (⟨"GuestTower$Line", "skipBlanks", "()V"⟩, 9), (⟨"GuestTower$Line", "here", "()I"⟩, 9), (⟨"GuestTower$Line", "takeLabel", "()J"⟩, 9), (⟨"GuestTower$Line", "isOrderRead", "()Z"⟩, 9), (⟨"GuestTower$Line", "takeOrder", "()I"⟩, 9), (⟨"GuestTower$Line", "isNamed", "(III)Z"⟩, 9), (⟨"GuestTower$Line", "takeRegister", "()I"⟩, 9), (⟨"GuestTower$Line", "isNumberRead", "(I)Z"⟩, 9), (⟨"GuestTower$Line", "takeNumber", "()I"⟩, 9), (⟨"GuestTower$Assembler", "faultOfLine", "(I)I"⟩, 12), (⟨"GuestTower$Assembler", "addressOf", "(J)I"⟩, 12), (⟨"GuestTower$Assembler", "lineBehind", "()I"⟩, 12)]
theorem lw_r1 : ∀ q ∈ lw_privs_1, lw_okq q := List.forall_mem_cons.mpr ⟨lw_p0, List.forall_mem_cons.mpr ⟨lw_p1, List.forall_mem_cons.mpr ⟨lw_p2, List.forall_mem_cons.mpr ⟨lw_p3, List.forall_mem_cons.mpr ⟨lw_p4, List.forall_mem_cons.mpr ⟨lw_p5, List.forall_mem_cons.mpr ⟨lw_p6, List.forall_mem_cons.mpr ⟨lw_p7, List.forall_mem_cons.mpr ⟨lw_p8, List.forall_mem_cons.mpr ⟨lw_p9, List.forall_mem_cons.mpr ⟨lw_p10, List.forall_mem_cons.mpr ⟨lw_p11, List.forall_mem_cons.mpr ⟨lw_p12, List.forall_mem_cons.mpr ⟨lw_p13, List.forall_mem_cons.mpr ⟨lw_p14, List.forall_mem_cons.mpr ⟨lw_p15, fun _ h => absurd h List.not_mem_nil⟩⟩⟩⟩⟩⟩⟩⟩⟩⟩⟩⟩⟩⟩⟩⟩
theorem lw_p16 : lw_okq (⟨"GuestTower$Assembler", "tellFault", "(II)V"⟩, 12) := ⟨⟨by decide +kernel, by decide +kernel⟩, List.mem_of_getElem? (i := 24) (by decide +kernel), List.mem_of_getElem? (i := 271) (by decide +kernel), List.mem_of_getElem? (i := 272) (by decide +kernel)⟩
theorem lw_p17 : lw_okq (⟨"GuestTower$Assembler", "placeLine", "(I)V"⟩, 12) := ⟨⟨by decide +kernel, by decide +kernel⟩, List.mem_of_getElem? (i := 24) (by decide +kernel), List.mem_of_getElem? (i := 275) (by decide +kernel), List.mem_of_getElem? (i := 276) (by decide +kernel)⟩
theorem lw_p18 : lw_okq (⟨"GuestTower$Assembler", "placeNumber", "(II)V"⟩, 12) := ⟨⟨by decide +kernel, by decide +kernel⟩, List.mem_of_getElem? (i := 24) (by decide +kernel), List.mem_of_getElem? (i := 283) (by decide +kernel), List.mem_of_getElem? (i := 284) (by decide +kernel)⟩
theorem lw_p19 : lw_okq (⟨"GuestTower$Assembler", "clearWords", "(I)V"⟩, 12) := ⟨⟨by decide +kernel, by decide +kernel⟩, List.mem_of_getElem? (i := 24) (by decide +kernel), List.mem_of_getElem? (i := 287) (by decide +kernel), List.mem_of_getElem? (i := 288) (by decide +kernel)⟩
theorem lw_p20 : lw_okq (⟨"GuestTower$Assembler", "fillUses", "()V"⟩, 12) := ⟨⟨by decide +kernel, by decide +kernel⟩, List.mem_of_getElem? (i := 24) (by decide +kernel), List.mem_of_getElem? (i := 291) (by decide +kernel), List.mem_of_getElem? (i := 292) (by decide +kernel)⟩
theorem lw_p21 : lw_okq (⟨"GuestTower$Guest", "awaitTurn", "()V"⟩, 5) := ⟨⟨by decide +kernel, by decide +kernel⟩, List.mem_of_getElem? (i := 295) (by decide +kernel), List.mem_of_getElem? (i := 420) (by decide +kernel), List.mem_of_getElem? (i := 421) (by decide +kernel)⟩
theorem lw_p22 : lw_okq (⟨"GuestTower$Guest", "isTurn", "()Z"⟩, 5) := ⟨⟨by decide +kernel, by decide +kernel⟩, List.mem_of_getElem? (i := 295) (by decide +kernel), List.mem_of_getElem? (i := 424) (by decide +kernel), List.mem_of_getElem? (i := 425) (by decide +kernel)⟩
theorem lw_p23 : lw_okq (⟨"GuestTower$Machine", "trap", "(III)V"⟩, 13) := ⟨⟨by decide +kernel, by decide +kernel⟩, List.mem_of_getElem? (i := 301) (by decide +kernel), List.mem_of_getElem? (i := 432) (by decide +kernel), List.mem_of_getElem? (i := 433) (by decide +kernel)⟩
theorem lw_p24 : lw_okq (⟨"GuestTower$Machine", "keepStatus", "(II)V"⟩, 13) := ⟨⟨by decide +kernel, by decide +kernel⟩, List.mem_of_getElem? (i := 301) (by decide +kernel), List.mem_of_getElem? (i := 436) (by decide +kernel), List.mem_of_getElem? (i := 437) (by decide +kernel)⟩
theorem lw_p25 : lw_okq (⟨"GuestTower$Machine", "takeStatus", "(I)V"⟩, 13) := ⟨⟨by decide +kernel, by decide +kernel⟩, List.mem_of_getElem? (i := 301) (by decide +kernel), List.mem_of_getElem? (i := 440) (by decide +kernel), List.mem_of_getElem? (i := 441) (by decide +kernel)⟩
theorem lw_p26 : lw_okq (⟨"GuestTower$Machine", "access", "(III)V"⟩, 13) := ⟨⟨by decide +kernel, by decide +kernel⟩, List.mem_of_getElem? (i := 301) (by decide +kernel), List.mem_of_getElem? (i := 445) (by decide +kernel), List.mem_of_getElem? (i := 446) (by decide +kernel)⟩
theorem lw_p27 : lw_okq (⟨"GuestTower$Machine", "goOn", "(I)V"⟩, 13) := ⟨⟨by decide +kernel, by decide +kernel⟩, List.mem_of_getElem? (i := 301) (by decide +kernel), List.mem_of_getElem? (i := 449) (by decide +kernel), List.mem_of_getElem? (i := 450) (by decide +kernel)⟩
theorem lw_p28 : lw_okq (⟨"GuestTower$Machine", "compute", "(IIII)V"⟩, 13) := ⟨⟨by decide +kernel, by decide +kernel⟩, List.mem_of_getElem? (i := 301) (by decide +kernel), List.mem_of_getElem? (i := 453) (by decide +kernel), List.mem_of_getElem? (i := 454) (by decide +kernel)⟩
theorem lw_p29 : lw_okq (⟨"GuestTower$Machine", "govern", "(IIII)V"⟩, 13) := ⟨⟨by decide +kernel, by decide +kernel⟩, List.mem_of_getElem? (i := 301) (by decide +kernel), List.mem_of_getElem? (i := 460) (by decide +kernel), List.mem_of_getElem? (i := 461) (by decide +kernel)⟩
theorem lw_p30 : lw_okq (⟨"GuestTower$Machine", "firstBad", "(II)I"⟩, 13) := ⟨⟨by decide +kernel, by decide +kernel⟩, List.mem_of_getElem? (i := 301) (by decide +kernel), List.mem_of_getElem? (i := 467) (by decide +kernel), List.mem_of_getElem? (i := 468) (by decide +kernel)⟩
theorem lw_p31 : lw_okq (⟨"GuestTower", "guestAt", "(I)LGuestTower$Guest;"⟩, 6) := ⟨⟨by decide +kernel, by decide +kernel⟩, List.mem_of_getElem? (i := 16) (by decide +kernel), List.mem_of_getElem? (i := 491) (by decide +kernel), List.mem_of_getElem? (i := 492) (by decide +kernel)⟩
def lw_privs_2 : List (MethodName × Nat) := [(⟨"GuestTower$Assembler", "tellFault", "(II)V"⟩, 12), (⟨"GuestTower$Assembler", "placeLine", "(I)V"⟩, 12), (⟨"GuestTower$Assembler", "placeNumber", "(II)V"⟩, 12), (⟨"GuestTower$Assembler", "clearWords", "(I)V"⟩, 12), (⟨"GuestTower$Assembler", "fillUses", "()V"⟩, 12), (⟨"GuestTower$Guest", "awaitTurn", "()V"⟩, 5), (⟨"GuestTower$Guest", "isTurn", "()Z"⟩, 5), (⟨"GuestTower$Machine", "trap", "(III)V"⟩, 13), (⟨"GuestTower$Machine", "keepStatus", "(II)V"⟩, 13), (⟨"GuestTower$Machine", "takeStatus", "(I)V"⟩, 13), (⟨"GuestTower$Machine", "access", "(III)V"⟩, 13), (⟨"GuestTower$Machine", "goOn", "(I)V"⟩, 13), (⟨"GuestTower$Machine", "compute", "(IIII)V"⟩, 13), (⟨"GuestTower$Machine", "govern", "(IIII)V"⟩, 13), (⟨"GuestTower$Machine", "firstBad", "(II)I"⟩, 13), (⟨"GuestTower", "guestAt", "(I)LGuestTower$Guest;"⟩, 6)]
theorem lw_r2 : ∀ q ∈ lw_privs_2, lw_okq q := List.forall_mem_cons.mpr ⟨lw_p16, List.forall_mem_cons.mpr ⟨lw_p17, List.forall_mem_cons.mpr ⟨lw_p18, List.forall_mem_cons.mpr ⟨lw_p19, List.forall_mem_cons.mpr ⟨lw_p20, List.forall_mem_cons.mpr ⟨lw_p21, List.forall_mem_cons.mpr ⟨lw_p22, List.forall_mem_cons.mpr ⟨lw_p23, List.forall_mem_cons.mpr ⟨lw_p24, List.forall_mem_cons.mpr ⟨lw_p25, List.forall_mem_cons.mpr ⟨lw_p26, List.forall_mem_cons.mpr ⟨lw_p27, List.forall_mem_cons.mpr ⟨lw_p28, List.forall_mem_cons.mpr ⟨lw_p29, List.forall_mem_cons.mpr ⟨lw_p30, List.forall_mem_cons.mpr ⟨lw_p31, fun _ h => absurd h List.not_mem_nil⟩⟩⟩⟩⟩⟩⟩⟩⟩⟩⟩⟩⟩⟩⟩⟩
theorem lw_p32 : lw_okq (⟨"GuestTower$Guest", "mode", "()I"⟩, 5) := ⟨⟨by decide +kernel, by decide +kernel⟩, List.mem_of_getElem? (i := 295) (by decide +kernel), List.mem_of_getElem? (i := 515) (by decide +kernel), List.mem_of_getElem? (i := 516) (by decide +kernel)⟩
theorem lw_p33 : lw_okq (⟨"GuestTower$Guest", "kept", "(I)I"⟩, 5) := ⟨⟨by decide +kernel, by decide +kernel⟩, List.mem_of_getElem? (i := 295) (by decide +kernel), List.mem_of_getElem? (i := 519) (by decide +kernel), List.mem_of_getElem? (i := 520) (by decide +kernel)⟩
theorem lw_p34 : lw_okq (⟨"GuestTower$Guest", "pc", "()I"⟩, 5) := ⟨⟨by decide +kernel, by decide +kernel⟩, List.mem_of_getElem? (i := 295) (by decide +kernel), List.mem_of_getElem? (i := 523) (by decide +kernel), List.mem_of_getElem? (i := 524) (by decide +kernel)⟩
theorem lw_p35 : lw_okq (⟨"GuestTower$Guest", "timer", "()I"⟩, 5) := ⟨⟨by decide +kernel, by decide +kernel⟩, List.mem_of_getElem? (i := 295) (by decide +kernel), List.mem_of_getElem? (i := 527) (by decide +kernel), List.mem_of_getElem? (i := 528) (by decide +kernel)⟩
theorem lw_p36 : lw_okq (⟨"GuestTowerModel", "word", "(I)V"⟩, 39) := ⟨⟨by decide +kernel, by decide +kernel⟩, List.mem_of_getElem? (i := 565) (by decide +kernel), List.mem_of_getElem? (i := 563) (by decide +kernel), List.mem_of_getElem? (i := 564) (by decide +kernel)⟩
theorem lw_p37 : lw_okq (⟨"GuestTowerModel", "lines", "(IZ)Z"⟩, 39) := ⟨⟨by decide +kernel, by decide +kernel⟩, List.mem_of_getElem? (i := 565) (by decide +kernel), List.mem_of_getElem? (i := 699) (by decide +kernel), List.mem_of_getElem? (i := 700) (by decide +kernel)⟩
theorem lw_p38 : lw_okq (⟨"GuestTowerModel", "oneLine", "(IZ)I"⟩, 39) := ⟨⟨by decide +kernel, by decide +kernel⟩, List.mem_of_getElem? (i := 565) (by decide +kernel), List.mem_of_getElem? (i := 703) (by decide +kernel), List.mem_of_getElem? (i := 704) (by decide +kernel)⟩
theorem lw_p39 : lw_okq (⟨"GuestTowerModel", "blanks", "()V"⟩, 39) := ⟨⟨by decide +kernel, by decide +kernel⟩, List.mem_of_getElem? (i := 565) (by decide +kernel), List.mem_of_getElem? (i := 707) (by decide +kernel), List.mem_of_getElem? (i := 708) (by decide +kernel)⟩
theorem lw_p40 : lw_okq (⟨"GuestTowerModel", "nameAt", "(I)I"⟩, 39) := ⟨⟨by decide +kernel, by decide +kernel⟩, List.mem_of_getElem? (i := 565) (by decide +kernel), List.mem_of_getElem? (i := 711) (by decide +kernel), List.mem_of_getElem? (i := 712) (by decide +kernel)⟩
theorem lw_p41 : lw_okq (⟨"GuestTowerModel", "byteAt", "(I)I"⟩, 39) := ⟨⟨by decide +kernel, by decide +kernel⟩, List.mem_of_getElem? (i := 565) (by decide +kernel), List.mem_of_getElem? (i := 715) (by decide +kernel), List.mem_of_getElem? (i := 716) (by decide +kernel)⟩
theorem lw_p42 : lw_okq (⟨"GuestTowerModel", "isOver", "()Z"⟩, 39) := ⟨⟨by decide +kernel, by decide +kernel⟩, List.mem_of_getElem? (i := 565) (by decide +kernel), List.mem_of_getElem? (i := 725) (by decide +kernel), List.mem_of_getElem? (i := 726) (by decide +kernel)⟩
theorem lw_p43 : lw_okq (⟨"GuestTowerModel", "order", "()I"⟩, 39) := ⟨⟨by decide +kernel, by decide +kernel⟩, List.mem_of_getElem? (i := 565) (by decide +kernel), List.mem_of_getElem? (i := 729) (by decide +kernel), List.mem_of_getElem? (i := 730) (by decide +kernel)⟩
theorem lw_p44 : lw_okq (⟨"GuestTowerModel", "register", "()I"⟩, 39) := ⟨⟨by decide +kernel, by decide +kernel⟩, List.mem_of_getElem? (i := 565) (by decide +kernel), List.mem_of_getElem? (i := 768) (by decide +kernel), List.mem_of_getElem? (i := 769) (by decide +kernel)⟩
theorem lw_p45 : lw_okq (⟨"GuestTowerModel", "gap", "()V"⟩, 39) := ⟨⟨by decide +kernel, by decide +kernel⟩, List.mem_of_getElem? (i := 565) (by decide +kernel), List.mem_of_getElem? (i := 772) (by decide +kernel), List.mem_of_getElem? (i := 773) (by decide +kernel)⟩
theorem lw_p46 : lw_okq (⟨"GuestTowerModel", "value", "(Z)V"⟩, 39) := ⟨⟨by decide +kernel, by decide +kernel⟩, List.mem_of_getElem? (i := 565) (by decide +kernel), List.mem_of_getElem? (i := 776) (by decide +kernel), List.mem_of_getElem? (i := 777) (by decide +kernel)⟩
theorem lw_p47 : lw_okq (⟨"GuestTowerModel", "number", "()I"⟩, 39) := ⟨⟨by decide +kernel, by decide +kernel⟩, List.mem_of_getElem? (i := 565) (by decide +kernel), List.mem_of_getElem? (i := 780) (by decide +kernel), List.mem_of_getElem? (i := 781) (by decide +kernel)⟩
def lw_privs_3 : List (MethodName × Nat) := [(⟨"GuestTower$Guest", "mode", "()I"⟩, 5), (⟨"GuestTower$Guest", "kept", "(I)I"⟩, 5), (⟨"GuestTower$Guest", "pc", "()I"⟩, 5), (⟨"GuestTower$Guest", "timer", "()I"⟩, 5), (⟨"GuestTowerModel", "word", "(I)V"⟩, 39), (⟨"GuestTowerModel", "lines", "(IZ)Z"⟩, 39), (⟨"GuestTowerModel", "oneLine", "(IZ)I"⟩, 39), (⟨"GuestTowerModel", "blanks", "()V"⟩, 39), (⟨"GuestTowerModel", "nameAt", "(I)I"⟩, 39), (⟨"GuestTowerModel", "byteAt", "(I)I"⟩, 39), (⟨"GuestTowerModel", "isOver", "()Z"⟩, 39), (⟨"GuestTowerModel", "order", "()I"⟩, 39), (⟨"GuestTowerModel", "register", "()I"⟩, 39), (⟨"GuestTowerModel", "gap", "()V"⟩, 39), (⟨"GuestTowerModel", "value", "(Z)V"⟩, 39), (⟨"GuestTowerModel", "number", "()I"⟩, 39)]
theorem lw_r3 : ∀ q ∈ lw_privs_3, lw_okq q := List.forall_mem_cons.mpr ⟨lw_p32, List.forall_mem_cons.mpr ⟨lw_p33, List.forall_mem_cons.mpr ⟨lw_p34, List.forall_mem_cons.mpr ⟨lw_p35, List.forall_mem_cons.mpr ⟨lw_p36, List.forall_mem_cons.mpr ⟨lw_p37, List.forall_mem_cons.mpr ⟨lw_p38, List.forall_mem_cons.mpr ⟨lw_p39, List.forall_mem_cons.mpr ⟨lw_p40, List.forall_mem_cons.mpr ⟨lw_p41, List.forall_mem_cons.mpr ⟨lw_p42, List.forall_mem_cons.mpr ⟨lw_p43, List.forall_mem_cons.mpr ⟨lw_p44, List.forall_mem_cons.mpr ⟨lw_p45, List.forall_mem_cons.mpr ⟨lw_p46, List.forall_mem_cons.mpr ⟨lw_p47, fun _ h => absurd h List.not_mem_nil⟩⟩⟩⟩⟩⟩⟩⟩⟩⟩⟩⟩⟩⟩⟩⟩
theorem lw_p48 : lw_okq (⟨"GuestTowerModel", "find", "(II)I"⟩, 39) := ⟨⟨by decide +kernel, by decide +kernel⟩, List.mem_of_getElem? (i := 565) (by decide +kernel), List.mem_of_getElem? (i := 785) (by decide +kernel), List.mem_of_getElem? (i := 786) (by decide +kernel)⟩
theorem lw_p49 : lw_okq (⟨"GuestTowerModel", "put", "(IZ)V"⟩, 39) := ⟨⟨by decide +kernel, by decide +kernel⟩, List.mem_of_getElem? (i := 565) (by decide +kernel), List.mem_of_getElem? (i := 789) (by decide +kernel), List.mem_of_getElem? (i := 790) (by decide +kernel)⟩
theorem lw_p50 : lw_okq (⟨"GuestTowerModel", "valued", "()I"⟩, 39) := ⟨⟨by decide +kernel, by decide +kernel⟩, List.mem_of_getElem? (i := 565) (by decide +kernel), List.mem_of_getElem? (i := 793) (by decide +kernel), List.mem_of_getElem? (i := 794) (by decide +kernel)⟩
theorem lw_p51 : lw_okq (⟨"GuestTowerModel", "begin", "(III)V"⟩, 39) := ⟨⟨by decide +kernel, by decide +kernel⟩, List.mem_of_getElem? (i := 565) (by decide +kernel), List.mem_of_getElem? (i := 797) (by decide +kernel), List.mem_of_getElem? (i := 798) (by decide +kernel)⟩
theorem lw_p52 : lw_okq (⟨"GuestTowerModel", "isGuest", "(I)Z"⟩, 39) := ⟨⟨by decide +kernel, by decide +kernel⟩, List.mem_of_getElem? (i := 565) (by decide +kernel), List.mem_of_getElem? (i := 809) (by decide +kernel), List.mem_of_getElem? (i := 810) (by decide +kernel)⟩
theorem lw_p53 : lw_okq (⟨"GuestTowerModel", "step", "()V"⟩, 39) := ⟨⟨by decide +kernel, by decide +kernel⟩, List.mem_of_getElem? (i := 565) (by decide +kernel), List.mem_of_getElem? (i := 813) (by decide +kernel), List.mem_of_getElem? (i := 814) (by decide +kernel)⟩
theorem lw_p54 : lw_okq (⟨"GuestTowerModel", "trap", "(III)V"⟩, 39) := ⟨⟨by decide +kernel, by decide +kernel⟩, List.mem_of_getElem? (i := 565) (by decide +kernel), List.mem_of_getElem? (i := 817) (by decide +kernel), List.mem_of_getElem? (i := 818) (by decide +kernel)⟩
theorem lw_p55 : lw_okq (⟨"GuestTowerModel", "bad", "(II)I"⟩, 39) := ⟨⟨by decide +kernel, by decide +kernel⟩, List.mem_of_getElem? (i := 565) (by decide +kernel), List.mem_of_getElem? (i := 821) (by decide +kernel), List.mem_of_getElem? (i := 822) (by decide +kernel)⟩
theorem lw_p56 : lw_okq (⟨"GuestTowerModel", "isGood", "(I)Z"⟩, 39) := ⟨⟨by decide +kernel, by decide +kernel⟩, List.mem_of_getElem? (i := 565) (by decide +kernel), List.mem_of_getElem? (i := 825) (by decide +kernel), List.mem_of_getElem? (i := 826) (by decide +kernel)⟩
theorem lw_p57 : lw_okq (⟨"GuestTowerModel", "get", "(I)I"⟩, 39) := ⟨⟨by decide +kernel, by decide +kernel⟩, List.mem_of_getElem? (i := 565) (by decide +kernel), List.mem_of_getElem? (i := 829) (by decide +kernel), List.mem_of_getElem? (i := 830) (by decide +kernel)⟩
theorem lw_p58 : lw_okq (⟨"GuestTowerModel", "does", "(IIIIII)V"⟩, 39) := ⟨⟨by decide +kernel, by decide +kernel⟩, List.mem_of_getElem? (i := 565) (by decide +kernel), List.mem_of_getElem? (i := 833) (by decide +kernel), List.mem_of_getElem? (i := 834) (by decide +kernel)⟩
theorem lw_p59 : lw_okq (⟨"GuestTowerModel", "set", "(II)V"⟩, 39) := ⟨⟨by decide +kernel, by decide +kernel⟩, List.mem_of_getElem? (i := 565) (by decide +kernel), List.mem_of_getElem? (i := 837) (by decide +kernel), List.mem_of_getElem? (i := 838) (by decide +kernel)⟩
theorem lw_p60 : lw_okq (⟨"GuestTowerModel", "rest", "(IIII)V"⟩, 39) := ⟨⟨by decide +kernel, by decide +kernel⟩, List.mem_of_getElem? (i := 565) (by decide +kernel), List.mem_of_getElem? (i := 841) (by decide +kernel), List.mem_of_getElem? (i := 842) (by decide +kernel)⟩
theorem lw_p61 : lw_okq (⟨"GuestTowerModel", "typedNext", "()I"⟩, 39) := ⟨⟨by decide +kernel, by decide +kernel⟩, List.mem_of_getElem? (i := 565) (by decide +kernel), List.mem_of_getElem? (i := 845) (by decide +kernel), List.mem_of_getElem? (i := 846) (by decide +kernel)⟩
def lw_privs_4 : List (MethodName × Nat) := [(⟨"GuestTowerModel", "find", "(II)I"⟩, 39), (⟨"GuestTowerModel", "put", "(IZ)V"⟩, 39), (⟨"GuestTowerModel", "valued", "()I"⟩, 39), (⟨"GuestTowerModel", "begin", "(III)V"⟩, 39), (⟨"GuestTowerModel", "isGuest", "(I)Z"⟩, 39), (⟨"GuestTowerModel", "step", "()V"⟩, 39), (⟨"GuestTowerModel", "trap", "(III)V"⟩, 39), (⟨"GuestTowerModel", "bad", "(II)I"⟩, 39), (⟨"GuestTowerModel", "isGood", "(I)Z"⟩, 39), (⟨"GuestTowerModel", "get", "(I)I"⟩, 39), (⟨"GuestTowerModel", "does", "(IIIIII)V"⟩, 39), (⟨"GuestTowerModel", "set", "(II)V"⟩, 39), (⟨"GuestTowerModel", "rest", "(IIII)V"⟩, 39), (⟨"GuestTowerModel", "typedNext", "()I"⟩, 39)]
theorem lw_r4 : ∀ q ∈ lw_privs_4, lw_okq q := List.forall_mem_cons.mpr ⟨lw_p48, List.forall_mem_cons.mpr ⟨lw_p49, List.forall_mem_cons.mpr ⟨lw_p50, List.forall_mem_cons.mpr ⟨lw_p51, List.forall_mem_cons.mpr ⟨lw_p52, List.forall_mem_cons.mpr ⟨lw_p53, List.forall_mem_cons.mpr ⟨lw_p54, List.forall_mem_cons.mpr ⟨lw_p55, List.forall_mem_cons.mpr ⟨lw_p56, List.forall_mem_cons.mpr ⟨lw_p57, List.forall_mem_cons.mpr ⟨lw_p58, List.forall_mem_cons.mpr ⟨lw_p59, List.forall_mem_cons.mpr ⟨lw_p60, List.forall_mem_cons.mpr ⟨lw_p61, fun _ h => absurd h List.not_mem_nil⟩⟩⟩⟩⟩⟩⟩⟩⟩⟩⟩⟩⟩⟩
def lw_privs : List (MethodName × Nat) := lw_privs_1 ++ (lw_privs_2 ++ (lw_privs_3 ++ (lw_privs_4)))
def lw_tbl : List Cond := k2_sels lw_privs ++ tables_1
theorem lw_privs_ok : ∀ q ∈ lw_privs, lw_okq q := by
  show ∀ q ∈ lw_privs_1 ++ (lw_privs_2 ++ (lw_privs_3 ++ (lw_privs_4))), lw_okq q
  exact List.forall_mem_append.mpr ⟨lw_r1, List.forall_mem_append.mpr ⟨lw_r2, List.forall_mem_append.mpr ⟨lw_r3, lw_r4⟩⟩⟩
end
section
def R_GT : String := "GuestTower"
def R_AS : String := "GuestTower$Assembler"
def R_CO : String := "GuestTower$Console"
def R_GU : String := "GuestTower$Guest"
def R_LI : String := "GuestTower$Line"
def R_MA : String := "GuestTower$Machine"
def R_MO : String := "GuestTower$Monitor"
def R_MD : String := "GuestTowerModel"
def R_LW : String := "GuestTowerLaw"
def R_JS : String := "java/lang/String"
def R_JL : String := "java/lang/StringLatin1"
def R_JU : String := "java/lang/StringUTF16"
def R_JY : String := "java/lang/System"
def R_JA : String := "java/util/Arrays"
def R_JP : String := "jdk/internal/util/Preconditions"
def R_JO : String := "java/lang/Object"
def T_MA : u_T := fun k => match k with
  | 0 => ("GuestTower$Machine", "memory", "[I", true)
  | 1 => ("GuestTower$Machine", "registers", "[I", true)
  | 2 => ("GuestTower$Machine", "blocks", "[I", true)
  | 3 => ("GuestTower$Machine", "console", "LGuestTower$Console;", true)
  | 4 => ("GuestTower$Machine", "size", "I", false)
  | 5 => ("GuestTower$Machine", "mode", "I", false)
  | 6 => ("GuestTower$Machine", "pc", "I", false)
  | 7 => ("GuestTower$Machine", "base", "I", false)
  | 8 => ("GuestTower$Machine", "bound", "I", false)
  | 9 => ("GuestTower$Machine", "reach", "I", false)
  | 10 => ("GuestTower$Machine", "timer", "I", false)
  | 11 => ("GuestTower$Machine", "ranOut", "Z", false)
  | _ => ("GuestTower$Machine", "halted", "Z", false)
def t_MA : Nat → FieldType := fun k => match k with
  | 0 => (.array .int)
  | 1 => (.array .int)
  | 2 => (.array .int)
  | 3 => (.object "GuestTower$Console")
  | 4 => .int
  | 5 => .int
  | 6 => .int
  | 7 => .int
  | 8 => .int
  | 9 => .int
  | 10 => .int
  | 11 => .boolean
  | _ => .boolean
theorem n_MA : ∀ a, a < 13 → ∀ b, b < 13 → a ≠ b → (T_MA a).2.1 ≠ (T_MA b).2.1 := by decide +kernel
theorem t_MA_ok : ∀ k, k < 13 → parseFieldDescriptor (T_MA k).2.2.1 = some (t_MA k) := by decide +kernel
def T_CO : u_T := fun k => match k with
  | 0 => ("GuestTower$Console", "typed", "[I", true)
  | 1 => ("GuestTower$Console", "sentBytes", "[I", true)
  | 2 => ("GuestTower$Console", "oldest", "I", false)
  | 3 => ("GuestTower$Console", "waiting", "I", false)
  | _ => ("GuestTower$Console", "sent", "I", false)
def t_CO : Nat → FieldType := fun k => match k with
  | 0 => (.array .int)
  | 1 => (.array .int)
  | 2 => .int
  | 3 => .int
  | _ => .int
theorem n_CO : ∀ a, a < 5 → ∀ b, b < 5 → a ≠ b → (T_CO a).2.1 ≠ (T_CO b).2.1 := by decide +kernel
theorem t_CO_ok : ∀ k, k < 5 → parseFieldDescriptor (T_CO k).2.2.1 = some (t_CO k) := by decide +kernel
def T_GU : u_T := fun k => match k with
  | 0 => ("GuestTower$Guest", "machine", "LGuestTower$Machine;", true)
  | 1 => ("GuestTower$Guest", "size", "I", false)
  | 2 => ("GuestTower$Guest", "depth", "I", false)
  | 3 => ("GuestTower$Guest", "start", "I", false)
  | _ => ("GuestTower$Guest", "steps", "I", false)
def t_GU : Nat → FieldType := fun k => match k with
  | 0 => (.object "GuestTower$Machine")
  | 1 => .int
  | 2 => .int
  | 3 => .int
  | _ => .int
theorem n_GU : ∀ a, a < 5 → ∀ b, b < 5 → a ≠ b → (T_GU a).2.1 ≠ (T_GU b).2.1 := by decide +kernel
theorem t_GU_ok : ∀ k, k < 5 → parseFieldDescriptor (T_GU k).2.2.1 = some (t_GU k) := by decide +kernel
def T_LI : u_T := fun k => match k with
  | 0 => ("GuestTower$Line", "text", "[I", false)
  | 1 => ("GuestTower$Line", "at", "I", false)
  | 2 => ("GuestTower$Line", "end", "I", false)
  | 3 => ("GuestTower$Line", "label", "J", false)
  | 4 => ("GuestTower$Line", "order", "I", false)
  | 5 => ("GuestTower$Line", "a", "I", false)
  | 6 => ("GuestTower$Line", "b", "I", false)
  | 7 => ("GuestTower$Line", "number", "I", false)
  | _ => ("GuestTower$Line", "wanted", "J", false)
def t_LI : Nat → FieldType := fun k => match k with
  | 0 => (.array .int)
  | 1 => .int
  | 2 => .int
  | 3 => .long
  | 4 => .int
  | 5 => .int
  | 6 => .int
  | 7 => .int
  | _ => .long
theorem n_LI : ∀ a, a < 9 → ∀ b, b < 9 → a ≠ b → (T_LI a).2.1 ≠ (T_LI b).2.1 := by decide +kernel
theorem t_LI_ok : ∀ k, k < 9 → parseFieldDescriptor (T_LI k).2.2.1 = some (t_LI k) := by decide +kernel
def T_AS : u_T := fun k => match k with
  | 0 => ("GuestTower$Assembler", "words", "[I", true)
  | 1 => ("GuestTower$Assembler", "here", "I", false)
  | 2 => ("GuestTower$Assembler", "fault", "I", false)
  | 3 => ("GuestTower$Assembler", "faultLine", "I", false)
  | 4 => ("GuestTower$Assembler", "line", "LGuestTower$Line;", true)
  | 5 => ("GuestTower$Assembler", "labels", "[J", true)
  | 6 => ("GuestTower$Assembler", "labelAddresses", "[I", true)
  | 7 => ("GuestTower$Assembler", "labelCount", "I", false)
  | 8 => ("GuestTower$Assembler", "useLabels", "[J", true)
  | 9 => ("GuestTower$Assembler", "useAddresses", "[I", true)
  | 10 => ("GuestTower$Assembler", "useLines", "[I", true)
  | _ => ("GuestTower$Assembler", "useCount", "I", false)
def t_AS : Nat → FieldType := fun k => match k with
  | 0 => (.array .int)
  | 1 => .int
  | 2 => .int
  | 3 => .int
  | 4 => (.object "GuestTower$Line")
  | 5 => (.array .long)
  | 6 => (.array .int)
  | 7 => .int
  | 8 => (.array .long)
  | 9 => (.array .int)
  | 10 => (.array .int)
  | _ => .int
theorem n_AS : ∀ a, a < 12 → ∀ b, b < 12 → a ≠ b → (T_AS a).2.1 ≠ (T_AS b).2.1 := by decide +kernel
theorem t_AS_ok : ∀ k, k < 12 → parseFieldDescriptor (T_AS k).2.2.1 = some (t_AS k) := by decide +kernel
def T_GT : u_T := fun k => match k with
  | 0 => ("GuestTower", "tape", "[I", true)
  | 1 => ("GuestTower", "tapeLength", "I", false)
  | 2 => ("GuestTower", "assembler", "LGuestTower$Assembler;", true)
  | 3 => ("GuestTower", "guests", "[LGuestTower$Guest;", true)
  | 4 => ("GuestTower", "latestFault", "I", false)
  | _ => ("GuestTower", "latestLine", "I", false)
def t_GT : Nat → FieldType := fun k => match k with
  | 0 => (.array .int)
  | 1 => .int
  | 2 => (.object "GuestTower$Assembler")
  | 3 => (.array (.object "GuestTower$Guest"))
  | 4 => .int
  | _ => .int
theorem n_GT : ∀ a, a < 6 → ∀ b, b < 6 → a ≠ b → (T_GT a).2.1 ≠ (T_GT b).2.1 := by decide +kernel
theorem t_GT_ok : ∀ k, k < 6 → parseFieldDescriptor (T_GT k).2.2.1 = some (t_GT k) := by decide +kernel
def T_MD : u_T := fun k => match k with
  | 0 => ("GuestTowerModel", "tape", "[B", true)
  | 1 => ("GuestTowerModel", "taped", "I", false)
  | 2 => ("GuestTowerModel", "isThere", "[Z", true)
  | 3 => ("GuestTowerModel", "size", "[I", true)
  | 4 => ("GuestTowerModel", "depth", "[I", true)
  | 5 => ("GuestTowerModel", "memory", "[I", true)
  | 6 => ("GuestTowerModel", "register", "[I", true)
  | 7 => ("GuestTowerModel", "mode", "[I", true)
  | 8 => ("GuestTowerModel", "pc", "[I", true)
  | 9 => ("GuestTowerModel", "base", "[I", true)
  | 10 => ("GuestTowerModel", "bound", "[I", true)
  | 11 => ("GuestTowerModel", "timer", "[I", true)
  | 12 => ("GuestTowerModel", "ranOut", "[Z", true)
  | 13 => ("GuestTowerModel", "halted", "[Z", true)
  | 14 => ("GuestTowerModel", "steps", "[I", true)
  | 15 => ("GuestTowerModel", "outs", "[I", true)
  | 16 => ("GuestTowerModel", "output", "[I", true)
  | 17 => ("GuestTowerModel", "waits", "[I", true)
  | 18 => ("GuestTowerModel", "typed", "[I", true)
  | 19 => ("GuestTowerModel", "disk", "[I", true)
  | 20 => ("GuestTowerModel", "wants", "[I", true)
  | 21 => ("GuestTowerModel", "at", "I", false)
  | 22 => ("GuestTowerModel", "end", "I", false)
  | 23 => ("GuestTowerModel", "line", "I", false)
  | 24 => ("GuestTowerModel", "labelFrom", "[I", true)
  | 25 => ("GuestTowerModel", "labelSize", "[I", true)
  | 26 => ("GuestTowerModel", "labelAddress", "[I", true)
  | 27 => ("GuestTowerModel", "labels", "I", false)
  | 28 => ("GuestTowerModel", "fault", "I", false)
  | 29 => ("GuestTowerModel", "faultLine", "I", false)
  | 30 => ("GuestTowerModel", "isTold", "Z", false)
  | 31 => ("GuestTowerModel", "address", "I", false)
  | 32 => ("GuestTowerModel", "made", "[I", true)
  | 33 => ("GuestTowerModel", "missing", "I", false)
  | 34 => ("GuestTowerModel", "good", "Z", false)
  | 35 => ("GuestTowerModel", "value", "I", false)
  | 36 => ("GuestTowerModel", "valueFrom", "I", false)
  | 37 => ("GuestTowerModel", "valueSize", "I", false)
  | _ => ("GuestTowerModel", "me", "I", false)
def t_MD : Nat → FieldType := fun k => match k with
  | 0 => (.array .byte)
  | 1 => .int
  | 2 => (.array .boolean)
  | 3 => (.array .int)
  | 4 => (.array .int)
  | 5 => (.array .int)
  | 6 => (.array .int)
  | 7 => (.array .int)
  | 8 => (.array .int)
  | 9 => (.array .int)
  | 10 => (.array .int)
  | 11 => (.array .int)
  | 12 => (.array .boolean)
  | 13 => (.array .boolean)
  | 14 => (.array .int)
  | 15 => (.array .int)
  | 16 => (.array .int)
  | 17 => (.array .int)
  | 18 => (.array .int)
  | 19 => (.array .int)
  | 20 => (.array .int)
  | 21 => .int
  | 22 => .int
  | 23 => .int
  | 24 => (.array .int)
  | 25 => (.array .int)
  | 26 => (.array .int)
  | 27 => .int
  | 28 => .int
  | 29 => .int
  | 30 => .boolean
  | 31 => .int
  | 32 => (.array .int)
  | 33 => .int
  | 34 => .boolean
  | 35 => .int
  | 36 => .int
  | 37 => .int
  | _ => .int
theorem n_MD : ∀ a, a < 39 → ∀ b, b < 39 → a ≠ b → (T_MD a).2.1 ≠ (T_MD b).2.1 := by decide +kernel
theorem t_MD_ok : ∀ k, k < 39 → parseFieldDescriptor (T_MD k).2.2.1 = some (t_MD k) := by decide +kernel
abbrev classes : List vw_C := [(R_MA, T_MA, 13), (R_CO, T_CO, 5), (R_GU, T_GU, 5), (R_LI, T_LI, 9), (R_AS, T_AS, 12), (R_GT, T_GT, 6), (R_MD, T_MD, 39)]
def y_AS_addressOf : MethodName := ⟨R_AS, "addressOf", "(J)I"⟩
def y_AS_assemble : MethodName := ⟨R_AS, "assemble", "([III)V"⟩
def y_AS_clearWords : MethodName := ⟨R_AS, "clearWords", "(I)V"⟩
def y_AS_faultOfLine : MethodName := ⟨R_AS, "faultOfLine", "(I)I"⟩
def y_AS_fillUses : MethodName := ⟨R_AS, "fillUses", "()V"⟩
def y_AS_init : MethodName := ⟨R_AS, "<init>", "()V"⟩
def y_AS_lineBehind : MethodName := ⟨R_AS, "lineBehind", "()I"⟩
def y_AS_lineEnd : MethodName := ⟨R_AS, "lineEnd", "([III)I"⟩
def y_AS_placeLine : MethodName := ⟨R_AS, "placeLine", "(I)V"⟩
def y_AS_placeNumber : MethodName := ⟨R_AS, "placeNumber", "(II)V"⟩
def y_AS_tellFault : MethodName := ⟨R_AS, "tellFault", "(II)V"⟩
def y_CO_clear : MethodName := ⟨R_CO, "clear", "()V"⟩
def y_CO_init : MethodName := ⟨R_CO, "<init>", "()V"⟩
def y_CO_isTaken : MethodName := ⟨R_CO, "isTaken", "(I)Z"⟩
def y_CO_nextTyped : MethodName := ⟨R_CO, "nextTyped", "()I"⟩
def y_CO_send : MethodName := ⟨R_CO, "send", "(I)V"⟩
def y_CO_sentByte : MethodName := ⟨R_CO, "sentByte", "(I)I"⟩
def y_GT_disk : MethodName := ⟨R_GT, "disk", "(III)I"⟩
def y_GT_fault : MethodName := ⟨R_GT, "fault", "(I)I"⟩
def y_GT_feed : MethodName := ⟨R_GT, "feed", "(IIIII)I"⟩
def y_GT_guestAt : MethodName := ⟨R_GT, "guestAt", "(I)LGuestTower$Guest;"⟩
def y_GT_init : MethodName := ⟨R_GT, "<init>", "()V"⟩
def y_GT_isGuest : MethodName := ⟨R_GT, "isGuest", "(I)Z"⟩
def y_GT_load : MethodName := ⟨R_GT, "load", "(IIII)I"⟩
def y_GT_look : MethodName := ⟨R_GT, "look", "(II)I"⟩
def y_GT_output : MethodName := ⟨R_GT, "output", "(II)I"⟩
def y_GT_putOnTape : MethodName := ⟨R_GT, "putOnTape", "(I)V"⟩
def y_GT_run : MethodName := ⟨R_GT, "run", "(II)I"⟩
def y_GT_type : MethodName := ⟨R_GT, "type", "(II)Z"⟩
def y_GT_word : MethodName := ⟨R_GT, "word", "(II)I"⟩
def y_GU_advance : MethodName := ⟨R_GU, "advance", "(I)I"⟩
def y_GU_awaitTurn : MethodName := ⟨R_GU, "awaitTurn", "()V"⟩
def y_GU_begin : MethodName := ⟨R_GU, "begin", "([IIII)V"⟩
def y_GU_init : MethodName := ⟨R_GU, "<init>", "()V"⟩
def y_GU_isTurn : MethodName := ⟨R_GU, "isTurn", "()Z"⟩
def y_GU_kept : MethodName := ⟨R_GU, "kept", "(I)I"⟩
def y_GU_mode : MethodName := ⟨R_GU, "mode", "()I"⟩
def y_GU_pc : MethodName := ⟨R_GU, "pc", "()I"⟩
def y_GU_timer : MethodName := ⟨R_GU, "timer", "()I"⟩
def y_GU_told : MethodName := ⟨R_GU, "told", "(I)I"⟩
def y_GU_wordAt : MethodName := ⟨R_GU, "wordAt", "(I)I"⟩
def y_JA_fill : MethodName := ⟨R_JA, "fill", "([II)V"⟩
def y_JL_charAt : MethodName := ⟨R_JL, "charAt", "([BI)C"⟩
def y_JO_init : MethodName := ⟨R_JO, "<init>", "()V"⟩
def y_JP_checkIndex : MethodName := ⟨R_JP, "checkIndex", "(IILjava/util/function/BiFunction;)I"⟩
def y_JS_charAt : MethodName := ⟨R_JS, "charAt", "(I)C"⟩
def y_JS_checkIndex : MethodName := ⟨R_JS, "checkIndex", "(II)V"⟩
def y_JS_isLatin1 : MethodName := ⟨R_JS, "isLatin1", "()Z"⟩
def y_JU_charAt : MethodName := ⟨R_JU, "charAt", "([BI)C"⟩
def y_JU_checkIndex : MethodName := ⟨R_JU, "checkIndex", "(I[B)V"⟩
def y_JU_getChar : MethodName := ⟨R_JU, "getChar", "([BI)C"⟩
def y_JU_length : MethodName := ⟨R_JU, "length", "([B)I"⟩
def y_JY_arraycopy : MethodName := ⟨R_JY, "arraycopy", "(Ljava/lang/Object;ILjava/lang/Object;II)V"⟩
def y_LI_dropRemark : MethodName := ⟨R_LI, "dropRemark", "()V"⟩
def y_LI_hasGoodBytes : MethodName := ⟨R_LI, "hasGoodBytes", "()Z"⟩
def y_LI_here : MethodName := ⟨R_LI, "here", "()I"⟩
def y_LI_init : MethodName := ⟨R_LI, "<init>", "()V"⟩
def y_LI_isDigit : MethodName := ⟨R_LI, "isDigit", "(I)Z"⟩
def y_LI_isInstruction : MethodName := ⟨R_LI, "isInstruction", "()Z"⟩
def y_LI_isLabelRead : MethodName := ⟨R_LI, "isLabelRead", "()Z"⟩
def y_LI_isLetter : MethodName := ⟨R_LI, "isLetter", "(I)Z"⟩
def y_LI_isNamed : MethodName := ⟨R_LI, "isNamed", "(III)Z"⟩
def y_LI_isNumberRead : MethodName := ⟨R_LI, "isNumberRead", "(I)Z"⟩
def y_LI_isOrderRead : MethodName := ⟨R_LI, "isOrderRead", "()Z"⟩
def y_LI_isReadFrom : MethodName := ⟨R_LI, "isReadFrom", "([III)Z"⟩
def y_LI_skipBlanks : MethodName := ⟨R_LI, "skipBlanks", "()V"⟩
def y_LI_takeLabel : MethodName := ⟨R_LI, "takeLabel", "()J"⟩
def y_LI_takeNumber : MethodName := ⟨R_LI, "takeNumber", "()I"⟩
def y_LI_takeOrder : MethodName := ⟨R_LI, "takeOrder", "()I"⟩
def y_LI_takeRegister : MethodName := ⟨R_LI, "takeRegister", "()I"⟩
def y_MA_access : MethodName := ⟨R_MA, "access", "(III)V"⟩
def y_MA_blockWord : MethodName := ⟨R_MA, "blockWord", "(II)I"⟩
def y_MA_clear : MethodName := ⟨R_MA, "clear", "(I)V"⟩
def y_MA_compute : MethodName := ⟨R_MA, "compute", "(IIII)V"⟩
def y_MA_copyIn : MethodName := ⟨R_MA, "copyIn", "([III)V"⟩
def y_MA_firstBad : MethodName := ⟨R_MA, "firstBad", "(II)I"⟩
def y_MA_goOn : MethodName := ⟨R_MA, "goOn", "(I)V"⟩
def y_MA_govern : MethodName := ⟨R_MA, "govern", "(IIII)V"⟩
def y_MA_init : MethodName := ⟨R_MA, "<init>", "(I)V"⟩
def y_MA_keepStatus : MethodName := ⟨R_MA, "keepStatus", "(II)V"⟩
def y_MA_register : MethodName := ⟨R_MA, "register", "(I)I"⟩
def y_MA_shifted : MethodName := ⟨R_MA, "shifted", "(II)I"⟩
def y_MA_step : MethodName := ⟨R_MA, "step", "()V"⟩
def y_MA_takeStatus : MethodName := ⟨R_MA, "takeStatus", "(I)V"⟩
def y_MA_trap : MethodName := ⟨R_MA, "trap", "(III)V"⟩
def y_MA_wordsWanted : MethodName := ⟨R_MA, "wordsWanted", "(I)I"⟩
def y_MD_bad : MethodName := ⟨R_MD, "bad", "(II)I"⟩
def y_MD_begin : MethodName := ⟨R_MD, "begin", "(III)V"⟩
def y_MD_blanks : MethodName := ⟨R_MD, "blanks", "()V"⟩
def y_MD_byteAt : MethodName := ⟨R_MD, "byteAt", "(I)I"⟩
def y_MD_disk : MethodName := ⟨R_MD, "disk", "(III)I"⟩
def y_MD_does : MethodName := ⟨R_MD, "does", "(IIIIII)V"⟩
def y_MD_fault : MethodName := ⟨R_MD, "fault", "(I)I"⟩
def y_MD_feed : MethodName := ⟨R_MD, "feed", "(IIIII)I"⟩
def y_MD_find : MethodName := ⟨R_MD, "find", "(II)I"⟩
def y_MD_gap : MethodName := ⟨R_MD, "gap", "()V"⟩
def y_MD_get : MethodName := ⟨R_MD, "get", "(I)I"⟩
def y_MD_in : MethodName := ⟨R_MD, "in", "(III)Z"⟩
def y_MD_init : MethodName := ⟨R_MD, "<init>", "()V"⟩
def y_MD_isDigit : MethodName := ⟨R_MD, "isDigit", "(I)Z"⟩
def y_MD_isGood : MethodName := ⟨R_MD, "isGood", "(I)Z"⟩
def y_MD_isGreat : MethodName := ⟨R_MD, "isGreat", "(I)Z"⟩
def y_MD_isGuest : MethodName := ⟨R_MD, "isGuest", "(I)Z"⟩
def y_MD_isOver : MethodName := ⟨R_MD, "isOver", "()Z"⟩
def y_MD_isSmall : MethodName := ⟨R_MD, "isSmall", "(I)Z"⟩
def y_MD_lines : MethodName := ⟨R_MD, "lines", "(IZ)Z"⟩
def y_MD_load : MethodName := ⟨R_MD, "load", "(IIII)I"⟩
def y_MD_look : MethodName := ⟨R_MD, "look", "(II)I"⟩
def y_MD_name : MethodName := ⟨R_MD, "name", "(I)J"⟩
def y_MD_nameAt : MethodName := ⟨R_MD, "nameAt", "(I)I"⟩
def y_MD_number : MethodName := ⟨R_MD, "number", "()I"⟩
def y_MD_oneLine : MethodName := ⟨R_MD, "oneLine", "(IZ)I"⟩
def y_MD_order : MethodName := ⟨R_MD, "order", "()I"⟩
def y_MD_output : MethodName := ⟨R_MD, "output", "(II)I"⟩
def y_MD_put : MethodName := ⟨R_MD, "put", "(IZ)V"⟩
def y_MD_register : MethodName := ⟨R_MD, "register", "()I"⟩
def y_MD_rest : MethodName := ⟨R_MD, "rest", "(IIII)V"⟩
def y_MD_run : MethodName := ⟨R_MD, "run", "(II)I"⟩
def y_MD_set : MethodName := ⟨R_MD, "set", "(II)V"⟩
def y_MD_step : MethodName := ⟨R_MD, "step", "()V"⟩
def y_MD_trap : MethodName := ⟨R_MD, "trap", "(III)V"⟩
def y_MD_type : MethodName := ⟨R_MD, "type", "(II)Z"⟩
def y_MD_typedNext : MethodName := ⟨R_MD, "typedNext", "()I"⟩
def y_MD_value : MethodName := ⟨R_MD, "value", "(Z)V"⟩
def y_MD_valued : MethodName := ⟨R_MD, "valued", "()I"⟩
def y_MD_word1 : MethodName := ⟨R_MD, "word", "(I)V"⟩
def y_MD_word2 : MethodName := ⟨R_MD, "word", "(II)I"⟩
abbrev c_AS_addressOf : ByteArray := prog_2_method_11_code
abbrev c_AS_assemble : ByteArray := prog_2_method_2_code
abbrev c_AS_clearWords : ByteArray := prog_2_method_8_code
abbrev c_AS_faultOfLine : ByteArray := prog_2_method_5_code
abbrev c_AS_fillUses : ByteArray := prog_2_method_10_code
abbrev c_AS_init : ByteArray := prog_2_method_1_code
abbrev c_AS_lineBehind : ByteArray := prog_2_method_6_code
abbrev c_AS_lineEnd : ByteArray := prog_2_method_3_code
abbrev c_AS_placeLine : ByteArray := prog_2_method_7_code
abbrev c_AS_placeNumber : ByteArray := prog_2_method_9_code
abbrev c_AS_tellFault : ByteArray := prog_2_method_4_code
abbrev c_CO_clear : ByteArray := prog_3_method_2_code
abbrev c_CO_init : ByteArray := prog_3_method_1_code
abbrev c_CO_isTaken : ByteArray := prog_3_method_3_code
abbrev c_CO_nextTyped : ByteArray := prog_3_method_4_code
abbrev c_CO_send : ByteArray := prog_3_method_5_code
abbrev c_CO_sentByte : ByteArray := prog_3_method_6_code
abbrev c_GT_disk : ByteArray := prog_1_method_10_code
abbrev c_GT_fault : ByteArray := prog_1_method_4_code
abbrev c_GT_feed : ByteArray := prog_1_method_2_code
abbrev c_GT_guestAt : ByteArray := prog_1_method_13_code
abbrev c_GT_init : ByteArray := prog_1_method_1_code
abbrev c_GT_isGuest : ByteArray := prog_1_method_12_code
abbrev c_GT_load : ByteArray := prog_1_method_3_code
abbrev c_GT_look : ByteArray := prog_1_method_7_code
abbrev c_GT_output : ByteArray := prog_1_method_9_code
abbrev c_GT_putOnTape : ByteArray := prog_1_method_11_code
abbrev c_GT_run : ByteArray := prog_1_method_5_code
abbrev c_GT_type : ByteArray := prog_1_method_6_code
abbrev c_GT_word : ByteArray := prog_1_method_8_code
abbrev c_GU_advance : ByteArray := prog_4_method_3_code
abbrev c_GU_awaitTurn : ByteArray := prog_4_method_4_code
abbrev c_GU_begin : ByteArray := prog_4_method_2_code
abbrev c_GU_init : ByteArray := prog_4_method_1_code
abbrev c_GU_isTurn : ByteArray := prog_4_method_5_code
abbrev c_GU_kept : ByteArray := prog_4_method_10_code
abbrev c_GU_mode : ByteArray := prog_4_method_7_code
abbrev c_GU_pc : ByteArray := prog_4_method_8_code
abbrev c_GU_timer : ByteArray := prog_4_method_9_code
abbrev c_GU_told : ByteArray := prog_4_method_6_code
abbrev c_GU_wordAt : ByteArray := prog_4_method_11_code
abbrev c_JA_fill : ByteArray := prog_14_method_103_code
abbrev c_JL_charAt : ByteArray := prog_11_method_2_code
abbrev c_JO_init : ByteArray := object_method_1_code
abbrev c_JP_checkIndex : ByteArray := prog_15_method_11_code
abbrev c_JS_charAt : ByteArray := prog_10_method_56_code
abbrev c_JS_checkIndex : ByteArray := prog_10_method_155_code
abbrev c_JS_isLatin1 : ByteArray := prog_10_method_154_code
abbrev c_JU_charAt : ByteArray := prog_12_method_83_code
abbrev c_JU_checkIndex : ByteArray := prog_12_method_91_code
abbrev c_JU_getChar : ByteArray := prog_12_method_5_code
abbrev c_JU_length : ByteArray := prog_12_method_6_code
abbrev c_LI_dropRemark : ByteArray := prog_5_method_5_code
abbrev c_LI_hasGoodBytes : ByteArray := prog_5_method_4_code
abbrev c_LI_here : ByteArray := prog_5_method_15_code
abbrev c_LI_init : ByteArray := prog_5_method_1_code
abbrev c_LI_isDigit : ByteArray := prog_5_method_17_code
abbrev c_LI_isInstruction : ByteArray := prog_5_method_2_code
abbrev c_LI_isLabelRead : ByteArray := prog_5_method_6_code
abbrev c_LI_isLetter : ByteArray := prog_5_method_16_code
abbrev c_LI_isNamed : ByteArray := prog_5_method_9_code
abbrev c_LI_isNumberRead : ByteArray := prog_5_method_11_code
abbrev c_LI_isOrderRead : ByteArray := prog_5_method_7_code
abbrev c_LI_isReadFrom : ByteArray := prog_5_method_3_code
abbrev c_LI_skipBlanks : ByteArray := prog_5_method_14_code
abbrev c_LI_takeLabel : ByteArray := prog_5_method_13_code
abbrev c_LI_takeNumber : ByteArray := prog_5_method_12_code
abbrev c_LI_takeOrder : ByteArray := prog_5_method_8_code
abbrev c_LI_takeRegister : ByteArray := prog_5_method_10_code
abbrev c_MA_access : ByteArray := prog_6_method_7_code
abbrev c_MA_blockWord : ByteArray := prog_6_method_5_code
abbrev c_MA_clear : ByteArray := prog_6_method_2_code
abbrev c_MA_compute : ByteArray := prog_6_method_8_code
abbrev c_MA_copyIn : ByteArray := prog_6_method_3_code
abbrev c_MA_firstBad : ByteArray := prog_6_method_15_code
abbrev c_MA_goOn : ByteArray := prog_6_method_9_code
abbrev c_MA_govern : ByteArray := prog_6_method_10_code
abbrev c_MA_init : ByteArray := prog_6_method_1_code
abbrev c_MA_keepStatus : ByteArray := prog_6_method_13_code
abbrev c_MA_register : ByteArray := prog_6_method_4_code
abbrev c_MA_shifted : ByteArray := prog_6_method_16_code
abbrev c_MA_step : ByteArray := prog_6_method_6_code
abbrev c_MA_takeStatus : ByteArray := prog_6_method_14_code
abbrev c_MA_trap : ByteArray := prog_6_method_12_code
abbrev c_MA_wordsWanted : ByteArray := prog_6_method_11_code
abbrev c_MD_bad : ByteArray := prog_9_method_31_code
abbrev c_MD_begin : ByteArray := prog_9_method_25_code
abbrev c_MD_blanks : ByteArray := prog_9_method_8_code
abbrev c_MD_byteAt : ByteArray := prog_9_method_6_code
abbrev c_MD_disk : ByteArray := prog_9_method_42_code
abbrev c_MD_does : ByteArray := prog_9_method_33_code
abbrev c_MD_fault : ByteArray := prog_9_method_26_code
abbrev c_MD_feed : ByteArray := prog_9_method_3_code
abbrev c_MD_find : ByteArray := prog_9_method_13_code
abbrev c_MD_gap : ByteArray := prog_9_method_16_code
abbrev c_MD_get : ByteArray := prog_9_method_28_code
abbrev c_MD_in : ByteArray := prog_9_method_2_code
abbrev c_MD_init : ByteArray := prog_9_method_5_code
abbrev c_MD_isDigit : ByteArray := prog_9_method_10_code
abbrev c_MD_isGood : ByteArray := prog_9_method_27_code
abbrev c_MD_isGreat : ByteArray := prog_9_method_11_code
abbrev c_MD_isGuest : ByteArray := prog_9_method_36_code
abbrev c_MD_isOver : ByteArray := prog_9_method_7_code
abbrev c_MD_isSmall : ByteArray := prog_9_method_9_code
abbrev c_MD_lines : ByteArray := prog_9_method_23_code
abbrev c_MD_load : ByteArray := prog_9_method_24_code
abbrev c_MD_look : ByteArray := prog_9_method_39_code
abbrev c_MD_name : ByteArray := prog_9_method_15_code
abbrev c_MD_nameAt : ByteArray := prog_9_method_12_code
abbrev c_MD_number : ByteArray := prog_9_method_18_code
abbrev c_MD_oneLine : ByteArray := prog_9_method_22_code
abbrev c_MD_order : ByteArray := prog_9_method_14_code
abbrev c_MD_output : ByteArray := prog_9_method_41_code
abbrev c_MD_put : ByteArray := prog_9_method_21_code
abbrev c_MD_register : ByteArray := prog_9_method_17_code
abbrev c_MD_rest : ByteArray := prog_9_method_34_code
abbrev c_MD_run : ByteArray := prog_9_method_37_code
abbrev c_MD_set : ByteArray := prog_9_method_29_code
abbrev c_MD_step : ByteArray := prog_9_method_32_code
abbrev c_MD_trap : ByteArray := prog_9_method_30_code
abbrev c_MD_type : ByteArray := prog_9_method_38_code
abbrev c_MD_typedNext : ByteArray := prog_9_method_35_code
abbrev c_MD_value : ByteArray := prog_9_method_19_code
abbrev c_MD_valued : ByteArray := prog_9_method_20_code
abbrev c_MD_word1 : ByteArray := prog_9_method_4_code
abbrev c_MD_word2 : ByteArray := prog_9_method_40_code
def G : List Cond := lw_tbl.filter goodWord
theorem gT {c : Cond} (i : Nat) (h : tables_1[i]? = some c) (hg : goodWord c = true) : c ∈ G := List.mem_filter.mpr ⟨List.mem_append_right _ (List.mem_of_getElem? h), hg⟩
theorem gT1 {c : Cond} (i : Nat) (h : tables_1_1[i]? = some c) (hg : goodWord c = true) : c ∈ G := List.mem_filter.mpr ⟨List.mem_append_right _ (List.mem_append_left _ (List.mem_of_getElem? h)), hg⟩
theorem gT2 {c : Cond} (i : Nat) (h : tables_1_2[i]? = some c) (hg : goodWord c = true) : c ∈ G := List.mem_filter.mpr ⟨List.mem_append_right _ (List.mem_append_right _ (List.mem_append_left _ (List.mem_of_getElem? h))), hg⟩
theorem gT3 {c : Cond} (i : Nat) (h : tables_1_3[i]? = some c) (hg : goodWord c = true) : c ∈ G := List.mem_filter.mpr ⟨List.mem_append_right _ (List.mem_append_right _ (List.mem_append_right _ (List.mem_append_left _ (List.mem_of_getElem? h)))), hg⟩
theorem gT4 {c : Cond} (i : Nat) (h : tables_1_4[i]? = some c) (hg : goodWord c = true) : c ∈ G := List.mem_filter.mpr ⟨List.mem_append_right _ (List.mem_append_right _ (List.mem_append_right _ (List.mem_append_right _ (List.mem_of_getElem? h)))), hg⟩
theorem gP {c : Cond} (i : Nat) (h : (k2_sels lw_privs)[i]? = some c) (hg : goodWord c = true) : c ∈ G := List.mem_filter.mpr ⟨List.mem_append_left _ (List.mem_of_getElem? h), hg⟩
theorem gG {c : Cond} (h : c ∈ G) : GoodIn G (c :: G) := by
  intro w hw
  rcases List.mem_cons.mp hw with rfl | hw
  · exact ⟨h, good_of_word (List.mem_filter.mp h).2⟩
  · exact ⟨hw, good_of_word (List.mem_filter.mp hw).2⟩
theorem gO {c w : Cond} (h : c ∈ G) (hw : w = c) : w ∈ G ∧ ((w.onTables && w.keeps) = true ∨ ∃ ty, w = .arrayClass ty) := by
  subst hw
  exact ⟨h, good_of_word (List.mem_filter.mp h).2⟩
end
section
theorem gini_LW : Cond.initialized R_LW ∈ G := gT1 0 rfl rfl
theorem gini_GT : Cond.initialized R_GT ∈ G := gT1 1 rfl rfl
theorem gini_AS : Cond.initialized R_AS ∈ G := gT1 2 rfl rfl
theorem gini_LI : Cond.initialized R_LI ∈ G := gT1 3 rfl rfl
theorem gini_MD : Cond.initialized R_MD ∈ G := gT1 4 rfl rfl
theorem gini_JS : Cond.initialized R_JS ∈ G := gT1 5 rfl rfl
theorem gini_JL : Cond.initialized R_JL ∈ G := gT1 6 rfl rfl
theorem gini_JP : Cond.initialized R_JP ∈ G := gT1 7 rfl rfl
theorem gini_JU : Cond.initialized R_JU ∈ G := gT1 8 rfl rfl
theorem gini_GU : Cond.initialized R_GU ∈ G := gT1 9 rfl rfl
theorem gini_MA : Cond.initialized R_MA ∈ G := gT1 10 rfl rfl
theorem gini_CO : Cond.initialized R_CO ∈ G := gT1 11 rfl rfl
theorem gini_JA : Cond.initialized R_JA ∈ G := gT1 12 rfl rfl
theorem gini_MO : Cond.initialized R_MO ∈ G := gT1 13 rfl rfl
theorem gini_JY : Cond.initialized R_JY ∈ G := gT1 14 rfl rfl
theorem gcl_LW_7 : Cond.classLink R_LW 7 R_GT ∈ G := gT1 15 rfl rfl
theorem ginst_GT : Cond.instantiable R_GT 6 ∈ G := gT1 16 rfl rfl
theorem gl_LW_9 : Cond.methodLink R_LW 9 y_GT_init ∈ G := gT1 17 rfl rfl
theorem gi_GT_init : Cond.instanceMethod y_GT_init ∈ G := gT1 18 rfl rfl
theorem gc_GT_init : Cond.code y_GT_init c_GT_init 1 none ∈ G := gT1 19 rfl rfl
theorem gl_GT_1 : Cond.methodLink R_GT 1 y_JO_init ∈ G := gT1 20 rfl rfl
theorem gi_JO_init : Cond.instanceMethod y_JO_init ∈ G := gT1 21 rfl rfl
theorem gc_JO_init : Cond.code y_JO_init c_JO_init 1 none ∈ G := gT1 22 rfl rfl
theorem gcl_GT_17 : Cond.classLink R_GT 17 R_AS ∈ G := gT1 23 rfl rfl
theorem ginst_AS : Cond.instantiable R_AS 12 ∈ G := gT1 24 rfl rfl
theorem gl_GT_19 : Cond.methodLink R_GT 19 y_AS_init ∈ G := gT1 25 rfl rfl
theorem gi_AS_init : Cond.instanceMethod y_AS_init ∈ G := gT1 26 rfl rfl
theorem gc_AS_init : Cond.code y_AS_init c_AS_init 1 none ∈ G := gT1 27 rfl rfl
theorem gl_AS_3 : Cond.methodLink R_AS 3 y_JO_init ∈ G := gT1 28 rfl rfl
theorem gcl_AS_15 : Cond.classLink R_AS 15 R_LI ∈ G := gT1 29 rfl rfl
theorem ginst_LI : Cond.instantiable R_LI 9 ∈ G := gT1 30 rfl rfl
theorem gl_AS_17 : Cond.methodLink R_AS 17 y_LI_init ∈ G := gT1 31 rfl rfl
theorem gi_LI_init : Cond.instanceMethod y_LI_init ∈ G := gT1 32 rfl rfl
theorem gc_LI_init : Cond.code y_LI_init c_LI_init 1 none ∈ G := gT1 33 rfl rfl
theorem gl_LI_3 : Cond.methodLink R_LI 3 y_JO_init ∈ G := gT1 34 rfl rfl
theorem gf_LI_9 : Cond.fieldLink R_LI 9 "GuestTower$Line" "text" "[I" ∈ G := gT1 35 rfl rfl
theorem gf_LI_19 : Cond.fieldLink R_LI 19 "GuestTower$Line" "at" "I" ∈ G := gT1 36 rfl rfl
theorem gf_LI_22 : Cond.fieldLink R_LI 22 "GuestTower$Line" "end" "I" ∈ G := gT1 37 rfl rfl
theorem gf_LI_25 : Cond.fieldLink R_LI 25 "GuestTower$Line" "label" "J" ∈ G := gT1 38 rfl rfl
theorem gf_LI_15 : Cond.fieldLink R_LI 15 "GuestTower$Line" "order" "I" ∈ G := gT1 40 rfl rfl
theorem gf_LI_29 : Cond.fieldLink R_LI 29 "GuestTower$Line" "a" "I" ∈ G := gT1 42 rfl rfl
theorem gf_LI_32 : Cond.fieldLink R_LI 32 "GuestTower$Line" "b" "I" ∈ G := gT1 44 rfl rfl
theorem gf_LI_35 : Cond.fieldLink R_LI 35 "GuestTower$Line" "number" "I" ∈ G := gT1 46 rfl rfl
theorem gf_LI_38 : Cond.fieldLink R_LI 38 "GuestTower$Line" "wanted" "J" ∈ G := gT1 48 rfl rfl
theorem gac_69 : Cond.arrayClass .int ∈ G := gT1 69 rfl rfl
theorem gf_AS_9 : Cond.fieldLink R_AS 9 "GuestTower$Assembler" "words" "[I" ∈ G := gT1 70 rfl rfl
theorem gf_AS_38 : Cond.fieldLink R_AS 38 "GuestTower$Assembler" "here" "I" ∈ G := gT1 72 rfl rfl
theorem gf_AS_42 : Cond.fieldLink R_AS 42 "GuestTower$Assembler" "fault" "I" ∈ G := gT1 74 rfl rfl
theorem gf_AS_45 : Cond.fieldLink R_AS 45 "GuestTower$Assembler" "faultLine" "I" ∈ G := gT1 76 rfl rfl
theorem gf_AS_18 : Cond.fieldLink R_AS 18 "GuestTower$Assembler" "line" "LGuestTower$Line;" ∈ G := gT1 78 rfl rfl
theorem gf_AS_22 : Cond.fieldLink R_AS 22 "GuestTower$Assembler" "labels" "[J" ∈ G := gT1 79 rfl rfl
theorem gf_AS_26 : Cond.fieldLink R_AS 26 "GuestTower$Assembler" "labelAddresses" "[I" ∈ G := gT1 80 rfl rfl
theorem gf_AS_48 : Cond.fieldLink R_AS 48 "GuestTower$Assembler" "labelCount" "I" ∈ G := gT1 81 rfl rfl
theorem gf_AS_29 : Cond.fieldLink R_AS 29 "GuestTower$Assembler" "useLabels" "[J" ∈ G := gT1 82 rfl rfl
theorem gf_AS_32 : Cond.fieldLink R_AS 32 "GuestTower$Assembler" "useAddresses" "[I" ∈ G := gT1 83 rfl rfl
theorem gf_AS_35 : Cond.fieldLink R_AS 35 "GuestTower$Assembler" "useLines" "[I" ∈ G := gT1 84 rfl rfl
theorem gf_AS_51 : Cond.fieldLink R_AS 51 "GuestTower$Assembler" "useCount" "I" ∈ G := gT1 85 rfl rfl
theorem gac_111 : Cond.arrayClass .long ∈ G := gT1 111 rfl rfl
theorem gcl_GT_24 : Cond.classLink R_GT 24 R_GU ∈ G := gT1 112 rfl rfl
theorem gf_GT_9 : Cond.fieldLink R_GT 9 "GuestTower" "tape" "[I" ∈ G := gT1 114 rfl rfl
theorem gf_GT_13 : Cond.fieldLink R_GT 13 "GuestTower" "tapeLength" "I" ∈ G := gT1 115 rfl rfl
theorem gf_GT_20 : Cond.fieldLink R_GT 20 "GuestTower" "assembler" "LGuestTower$Assembler;" ∈ G := gT1 116 rfl rfl
theorem gf_GT_26 : Cond.fieldLink R_GT 26 "GuestTower" "guests" "[LGuestTower$Guest;" ∈ G := gT1 117 rfl rfl
theorem gf_GT_30 : Cond.fieldLink R_GT 30 "GuestTower" "latestFault" "I" ∈ G := gT1 118 rfl rfl
theorem gf_GT_33 : Cond.fieldLink R_GT 33 "GuestTower" "latestLine" "I" ∈ G := gT1 119 rfl rfl
theorem gl_LW_13 : Cond.methodLink R_LW 13 y_GT_feed ∈ G := gT1 133 rfl rfl
theorem gi_GT_feed : Cond.instanceMethod y_GT_feed ∈ G := gT1 134 rfl rfl
theorem gsel_GT_feed : Cond.selects R_GT y_GT_feed y_GT_feed ∈ G := gT1 135 rfl rfl
theorem gc_GT_feed : Cond.code y_GT_feed c_GT_feed 6 (some .int) ∈ G := gT1 136 rfl rfl
theorem gl_GT_36 : Cond.methodLink R_GT 36 y_GT_putOnTape ∈ G := gT1 137 rfl rfl
theorem gi_GT_putOnTape : Cond.instanceMethod y_GT_putOnTape ∈ G := gT1 139 rfl rfl
theorem gc_GT_putOnTape : Cond.code y_GT_putOnTape c_GT_putOnTape 3 none ∈ G := gT1 140 rfl rfl
theorem gl_LW_18 : Cond.methodLink R_LW 18 y_GT_load ∈ G := gT1 141 rfl rfl
theorem gi_GT_load : Cond.instanceMethod y_GT_load ∈ G := gT1 142 rfl rfl
theorem gsel_GT_load : Cond.selects R_GT y_GT_load y_GT_load ∈ G := gT1 143 rfl rfl
theorem gc_GT_load : Cond.code y_GT_load c_GT_load 6 (some .int) ∈ G := gT1 144 rfl rfl
theorem gl_GT_40 : Cond.methodLink R_GT 40 y_GT_isGuest ∈ G := gT1 145 rfl rfl
theorem gs_GT_isGuest : Cond.static y_GT_isGuest ∈ G := gT1 146 rfl rfl
theorem gc_GT_isGuest : Cond.code y_GT_isGuest c_GT_isGuest 1 (some .boolean) ∈ G := gT1 147 rfl rfl
theorem gl_GT_44 : Cond.methodLink R_GT 44 y_AS_assemble ∈ G := gT1 148 rfl rfl
theorem gi_AS_assemble : Cond.instanceMethod y_AS_assemble ∈ G := gT1 149 rfl rfl
theorem gsel_AS_assemble : Cond.selects R_AS y_AS_assemble y_AS_assemble ∈ G := gT1 150 rfl rfl
theorem gc_AS_assemble : Cond.code y_AS_assemble c_AS_assemble 8 none ∈ G := gT1 151 rfl rfl
theorem gl_AS_54 : Cond.methodLink R_AS 54 y_AS_lineEnd ∈ G := gT1 152 rfl rfl
theorem gs_AS_lineEnd : Cond.static y_AS_lineEnd ∈ G := gT1 153 rfl rfl
theorem gc_AS_lineEnd : Cond.code y_AS_lineEnd c_AS_lineEnd 4 (some .int) ∈ G := gT1 154 rfl rfl
theorem gl_AS_58 : Cond.methodLink R_AS 58 y_LI_isReadFrom ∈ G := gT1 155 rfl rfl
theorem gi_LI_isReadFrom : Cond.instanceMethod y_LI_isReadFrom ∈ G := gT1 156 rfl rfl
theorem gsel_LI_isReadFrom : Cond.selects R_LI y_LI_isReadFrom y_LI_isReadFrom ∈ G := gT1 157 rfl rfl
theorem gc_LI_isReadFrom : Cond.code y_LI_isReadFrom c_LI_isReadFrom 4 (some .boolean) ∈ G := gT1 158 rfl rfl
theorem gl_LI_41 : Cond.methodLink R_LI 41 y_LI_hasGoodBytes ∈ G := gT1 159 rfl rfl
theorem gi_LI_hasGoodBytes : Cond.instanceMethod y_LI_hasGoodBytes ∈ G := gT1 161 rfl rfl
theorem gc_LI_hasGoodBytes : Cond.code y_LI_hasGoodBytes c_LI_hasGoodBytes 2 (some .boolean) ∈ G := gT1 162 rfl rfl
theorem gl_LI_45 : Cond.methodLink R_LI 45 y_LI_dropRemark ∈ G := gT1 163 rfl rfl
theorem gi_LI_dropRemark : Cond.instanceMethod y_LI_dropRemark ∈ G := gT1 165 rfl rfl
theorem gc_LI_dropRemark : Cond.code y_LI_dropRemark c_LI_dropRemark 2 none ∈ G := gT1 166 rfl rfl
theorem gl_LI_48 : Cond.methodLink R_LI 48 y_LI_isLabelRead ∈ G := gT1 167 rfl rfl
theorem gi_LI_isLabelRead : Cond.instanceMethod y_LI_isLabelRead ∈ G := gT1 169 rfl rfl
theorem gc_LI_isLabelRead : Cond.code y_LI_isLabelRead c_LI_isLabelRead 1 (some .boolean) ∈ G := gT1 170 rfl rfl
theorem gl_LI_54 : Cond.methodLink R_LI 54 y_LI_skipBlanks ∈ G := gT1 171 rfl rfl
theorem gi_LI_skipBlanks : Cond.instanceMethod y_LI_skipBlanks ∈ G := gT1 173 rfl rfl
theorem gc_LI_skipBlanks : Cond.code y_LI_skipBlanks c_LI_skipBlanks 1 none ∈ G := gT1 174 rfl rfl
theorem gl_LI_57 : Cond.methodLink R_LI 57 y_LI_here ∈ G := gT1 175 rfl rfl
theorem gi_LI_here : Cond.instanceMethod y_LI_here ∈ G := gT1 177 rfl rfl
theorem gc_LI_here : Cond.code y_LI_here c_LI_here 1 (some .int) ∈ G := gT1 178 rfl rfl
theorem gl_LI_61 : Cond.methodLink R_LI 61 y_LI_isLetter ∈ G := gT1 179 rfl rfl
theorem gs_LI_isLetter : Cond.static y_LI_isLetter ∈ G := gT1 180 rfl rfl
theorem gc_LI_isLetter : Cond.code y_LI_isLetter c_LI_isLetter 1 (some .boolean) ∈ G := gT1 181 rfl rfl
theorem gl_LI_65 : Cond.methodLink R_LI 65 y_LI_takeLabel ∈ G := gT1 182 rfl rfl
theorem gi_LI_takeLabel : Cond.instanceMethod y_LI_takeLabel ∈ G := gT1 184 rfl rfl
theorem gc_LI_takeLabel : Cond.code y_LI_takeLabel c_LI_takeLabel 4 (some .long) ∈ G := gT1 185 rfl rfl
theorem gl_LI_96 : Cond.methodLink R_LI 96 y_LI_isDigit ∈ G := gT1 186 rfl rfl
theorem gs_LI_isDigit : Cond.static y_LI_isDigit ∈ G := gT1 187 rfl rfl
theorem gc_LI_isDigit : Cond.code y_LI_isDigit c_LI_isDigit 1 (some .boolean) ∈ G := gT1 188 rfl rfl
theorem gkl_LI_100 : Cond.constantLong R_LI 100 37 ∈ G := gT1 189 rfl rfl
theorem gl_LI_51 : Cond.methodLink R_LI 51 y_LI_isOrderRead ∈ G := gT1 190 rfl rfl
theorem gi_LI_isOrderRead : Cond.instanceMethod y_LI_isOrderRead ∈ G := gT1 192 rfl rfl
theorem gc_LI_isOrderRead : Cond.code y_LI_isOrderRead c_LI_isOrderRead 2 (some .boolean) ∈ G := gT1 193 rfl rfl
theorem gl_LI_69 : Cond.methodLink R_LI 69 y_LI_takeOrder ∈ G := gT1 194 rfl rfl
theorem gi_LI_takeOrder : Cond.instanceMethod y_LI_takeOrder ∈ G := gT1 196 rfl rfl
theorem gc_LI_takeOrder : Cond.code y_LI_takeOrder c_LI_takeOrder 3 (some .int) ∈ G := gT1 197 rfl rfl
theorem gl_LI_81 : Cond.methodLink R_LI 81 y_LI_isNamed ∈ G := gT1 198 rfl rfl
theorem gi_LI_isNamed : Cond.instanceMethod y_LI_isNamed ∈ G := gT1 200 rfl rfl
theorem gc_LI_isNamed : Cond.code y_LI_isNamed c_LI_isNamed 6 (some .boolean) ∈ G := gT1 201 rfl rfl
theorem gl_LI_87 : Cond.methodLink R_LI 87 y_JS_charAt ∈ G := gT1 203 rfl rfl
theorem gi_JS_charAt : Cond.instanceMethod y_JS_charAt ∈ G := gT1 204 rfl rfl
theorem gsel_JS_charAt : Cond.selects R_JS y_JS_charAt y_JS_charAt ∈ G := gT1 205 rfl rfl
theorem gc_JS_charAt : Cond.code y_JS_charAt c_JS_charAt 2 (some .char) ∈ G := gT1 206 rfl rfl
theorem gl_JS_492 : Cond.methodLink R_JS 492 y_JS_isLatin1 ∈ G := gT1 207 rfl rfl
theorem gi_JS_isLatin1 : Cond.instanceMethod y_JS_isLatin1 ∈ G := gT1 208 rfl rfl
theorem gsel_JS_isLatin1 : Cond.selects R_JS y_JS_isLatin1 y_JS_isLatin1 ∈ G := gT1 209 rfl rfl
theorem gc_JS_isLatin1 : Cond.code y_JS_isLatin1 c_JS_isLatin1 1 (some .boolean) ∈ G := gT1 210 rfl rfl
theorem gf_JS_38 : Cond.fieldLink R_JS 38 "java/lang/String" "COMPACT_STRINGS" "Z" ∈ G := gT1 211 rfl rfl
theorem gl_JS_495 : Cond.methodLink R_JS 495 y_JL_charAt ∈ G := gT1 213 rfl rfl
theorem gs_JL_charAt : Cond.static y_JL_charAt ∈ G := gT1 214 rfl rfl
theorem gc_JL_charAt : Cond.code y_JL_charAt c_JL_charAt 2 (some .char) ∈ G := gT1 215 rfl rfl
theorem gl_JL_9 : Cond.methodLink R_JL 9 y_JS_checkIndex ∈ G := gT1 216 rfl rfl
theorem gs_JS_checkIndex : Cond.static y_JS_checkIndex ∈ G := gT1 217 rfl rfl
theorem gc_JS_checkIndex : Cond.code y_JS_checkIndex c_JS_checkIndex 2 none ∈ G := gT1 218 rfl rfl
theorem gf_JS_1053 : Cond.fieldLink R_JS 1053 "jdk/internal/util/Preconditions" "SIOOBE_FORMATTER" "Ljava/util/function/BiFunction;" ∈ G := gT1 219 rfl rfl
theorem gl_JS_1059 : Cond.methodLink R_JS 1059 y_JP_checkIndex ∈ G := gT1 221 rfl rfl
theorem gs_JP_checkIndex : Cond.static y_JP_checkIndex ∈ G := gT1 222 rfl rfl
theorem gc_JP_checkIndex : Cond.code y_JP_checkIndex c_JP_checkIndex 3 (some .int) ∈ G := gT1 223 rfl rfl
theorem gl_JS_498 : Cond.methodLink R_JS 498 y_JU_charAt ∈ G := gT1 224 rfl rfl
theorem gs_JU_charAt : Cond.static y_JU_charAt ∈ G := gT1 225 rfl rfl
theorem gc_JU_charAt : Cond.code y_JU_charAt c_JU_charAt 2 (some .char) ∈ G := gT1 226 rfl rfl
theorem gl_JU_67 : Cond.methodLink R_JU 67 y_JU_checkIndex ∈ G := gT1 227 rfl rfl
theorem gs_JU_checkIndex : Cond.static y_JU_checkIndex ∈ G := gT1 228 rfl rfl
theorem gc_JU_checkIndex : Cond.code y_JU_checkIndex c_JU_checkIndex 2 none ∈ G := gT1 229 rfl rfl
theorem gl_JU_48 : Cond.methodLink R_JU 48 y_JU_length ∈ G := gT1 230 rfl rfl
theorem gs_JU_length : Cond.static y_JU_length ∈ G := gT1 231 rfl rfl
theorem gc_JU_length : Cond.code y_JU_length c_JU_length 1 (some .int) ∈ G := gT1 232 rfl rfl
theorem gl_JU_414 : Cond.methodLink R_JU 414 y_JS_checkIndex ∈ G := gT1 233 rfl rfl
theorem gl_JU_71 : Cond.methodLink R_JU 71 y_JU_getChar ∈ G := gT1 234 rfl rfl
theorem gs_JU_getChar : Cond.static y_JU_getChar ∈ G := gT1 235 rfl rfl
theorem gc_JU_getChar : Cond.code y_JU_getChar c_JU_getChar 2 (some .char) ∈ G := gT1 236 rfl rfl
theorem gf_JU_44 : Cond.fieldLink R_JU 44 "java/lang/StringUTF16" "$assertionsDisabled" "Z" ∈ G := gT1 237 rfl rfl
theorem gf_JU_59 : Cond.fieldLink R_JU 59 "java/lang/StringUTF16" "HI_BYTE_SHIFT" "I" ∈ G := gT1 239 rfl rfl
theorem gf_JU_63 : Cond.fieldLink R_JU 63 "java/lang/StringUTF16" "LO_BYTE_SHIFT" "I" ∈ G := gT2 1 rfl rfl
theorem gf_LI_72 : Cond.fieldLink R_LI 72 "GuestTower$Line" "WANTS" "[I" ∈ G := gT2 3 rfl rfl
theorem gl_LI_75 : Cond.methodLink R_LI 75 y_LI_takeRegister ∈ G := gT2 5 rfl rfl
theorem gi_LI_takeRegister : Cond.instanceMethod y_LI_takeRegister ∈ G := gT2 7 rfl rfl
theorem gc_LI_takeRegister : Cond.code y_LI_takeRegister c_LI_takeRegister 2 (some .int) ∈ G := gT2 8 rfl rfl
theorem gl_LI_78 : Cond.methodLink R_LI 78 y_LI_isNumberRead ∈ G := gT2 9 rfl rfl
theorem gi_LI_isNumberRead : Cond.instanceMethod y_LI_isNumberRead ∈ G := gT2 11 rfl rfl
theorem gc_LI_isNumberRead : Cond.code y_LI_isNumberRead c_LI_isNumberRead 3 (some .boolean) ∈ G := gT2 12 rfl rfl
theorem gl_LI_93 : Cond.methodLink R_LI 93 y_LI_takeNumber ∈ G := gT2 13 rfl rfl
theorem gi_LI_takeNumber : Cond.instanceMethod y_LI_takeNumber ∈ G := gT2 15 rfl rfl
theorem gc_LI_takeNumber : Cond.code y_LI_takeNumber c_LI_takeNumber 3 (some .int) ∈ G := gT2 16 rfl rfl
theorem gk_LI_99 : Cond.constant R_LI 99 65535 ∈ G := gT2 17 rfl rfl
theorem gl_AS_62 : Cond.methodLink R_AS 62 y_AS_faultOfLine ∈ G := gT2 18 rfl rfl
theorem gi_AS_faultOfLine : Cond.instanceMethod y_AS_faultOfLine ∈ G := gT2 20 rfl rfl
theorem gc_AS_faultOfLine : Cond.code y_AS_faultOfLine c_AS_faultOfLine 2 (some .int) ∈ G := gT2 21 rfl rfl
theorem gl_AS_87 : Cond.methodLink R_AS 87 y_AS_addressOf ∈ G := gT2 22 rfl rfl
theorem gi_AS_addressOf : Cond.instanceMethod y_AS_addressOf ∈ G := gT2 24 rfl rfl
theorem gc_AS_addressOf : Cond.code y_AS_addressOf c_AS_addressOf 4 (some .int) ∈ G := gT2 25 rfl rfl
theorem gl_AS_91 : Cond.methodLink R_AS 91 y_AS_lineBehind ∈ G := gT2 26 rfl rfl
theorem gi_AS_lineBehind : Cond.instanceMethod y_AS_lineBehind ∈ G := gT2 28 rfl rfl
theorem gc_AS_lineBehind : Cond.code y_AS_lineBehind c_AS_lineBehind 1 (some .int) ∈ G := gT2 29 rfl rfl
theorem gl_AS_66 : Cond.methodLink R_AS 66 y_AS_tellFault ∈ G := gT2 30 rfl rfl
theorem gi_AS_tellFault : Cond.instanceMethod y_AS_tellFault ∈ G := gT2 32 rfl rfl
theorem gc_AS_tellFault : Cond.code y_AS_tellFault c_AS_tellFault 3 none ∈ G := gT2 33 rfl rfl
theorem gl_AS_70 : Cond.methodLink R_AS 70 y_AS_placeLine ∈ G := gT2 34 rfl rfl
theorem gi_AS_placeLine : Cond.instanceMethod y_AS_placeLine ∈ G := gT2 36 rfl rfl
theorem gc_AS_placeLine : Cond.code y_AS_placeLine c_AS_placeLine 3 none ∈ G := gT2 37 rfl rfl
theorem gl_AS_95 : Cond.methodLink R_AS 95 y_LI_isInstruction ∈ G := gT2 38 rfl rfl
theorem gi_LI_isInstruction : Cond.instanceMethod y_LI_isInstruction ∈ G := gT2 39 rfl rfl
theorem gsel_LI_isInstruction : Cond.selects R_LI y_LI_isInstruction y_LI_isInstruction ∈ G := gT2 40 rfl rfl
theorem gc_LI_isInstruction : Cond.code y_LI_isInstruction c_LI_isInstruction 1 (some .boolean) ∈ G := gT2 41 rfl rfl
theorem gl_AS_105 : Cond.methodLink R_AS 105 y_AS_placeNumber ∈ G := gT2 42 rfl rfl
theorem gi_AS_placeNumber : Cond.instanceMethod y_AS_placeNumber ∈ G := gT2 44 rfl rfl
theorem gc_AS_placeNumber : Cond.code y_AS_placeNumber c_AS_placeNumber 3 none ∈ G := gT2 45 rfl rfl
theorem gl_AS_108 : Cond.methodLink R_AS 108 y_AS_clearWords ∈ G := gT2 46 rfl rfl
theorem gi_AS_clearWords : Cond.instanceMethod y_AS_clearWords ∈ G := gT2 48 rfl rfl
theorem gc_AS_clearWords : Cond.code y_AS_clearWords c_AS_clearWords 3 none ∈ G := gT2 49 rfl rfl
theorem gl_AS_74 : Cond.methodLink R_AS 74 y_AS_fillUses ∈ G := gT2 50 rfl rfl
theorem gi_AS_fillUses : Cond.instanceMethod y_AS_fillUses ∈ G := gT2 52 rfl rfl
theorem gc_AS_fillUses : Cond.code y_AS_fillUses c_AS_fillUses 4 none ∈ G := gT2 53 rfl rfl
theorem gk_AS_114 : Cond.constant R_AS 114 65535 ∈ G := gT2 54 rfl rfl
theorem ginst_GU : Cond.instantiable R_GU 5 ∈ G := gT2 55 rfl rfl
theorem gl_GT_54 : Cond.methodLink R_GT 54 y_GU_init ∈ G := gT2 56 rfl rfl
theorem gi_GU_init : Cond.instanceMethod y_GU_init ∈ G := gT2 57 rfl rfl
theorem gc_GU_init : Cond.code y_GU_init c_GU_init 1 none ∈ G := gT2 58 rfl rfl
theorem gl_GU_3 : Cond.methodLink R_GU 3 y_JO_init ∈ G := gT2 59 rfl rfl
theorem gcl_GU_9 : Cond.classLink R_GU 9 R_MA ∈ G := gT2 60 rfl rfl
theorem ginst_MA : Cond.instantiable R_MA 13 ∈ G := gT2 61 rfl rfl
theorem gl_GU_13 : Cond.methodLink R_GU 13 y_MA_init ∈ G := gT2 62 rfl rfl
theorem gi_MA_init : Cond.instanceMethod y_MA_init ∈ G := gT2 63 rfl rfl
theorem gc_MA_init : Cond.code y_MA_init c_MA_init 2 none ∈ G := gT2 64 rfl rfl
theorem gl_MA_3 : Cond.methodLink R_MA 3 y_JO_init ∈ G := gT2 65 rfl rfl
theorem gcl_MA_21 : Cond.classLink R_MA 21 R_CO ∈ G := gT2 66 rfl rfl
theorem ginst_CO : Cond.instantiable R_CO 5 ∈ G := gT2 67 rfl rfl
theorem gl_MA_23 : Cond.methodLink R_MA 23 y_CO_init ∈ G := gT2 68 rfl rfl
theorem gi_CO_init : Cond.instanceMethod y_CO_init ∈ G := gT2 69 rfl rfl
theorem gc_CO_init : Cond.code y_CO_init c_CO_init 1 none ∈ G := gT2 70 rfl rfl
theorem gl_CO_3 : Cond.methodLink R_CO 3 y_JO_init ∈ G := gT2 71 rfl rfl
theorem gf_CO_11 : Cond.fieldLink R_CO 11 "GuestTower$Console" "typed" "[I" ∈ G := gT2 72 rfl rfl
theorem gf_CO_15 : Cond.fieldLink R_CO 15 "GuestTower$Console" "sentBytes" "[I" ∈ G := gT2 73 rfl rfl
theorem gf_CO_18 : Cond.fieldLink R_CO 18 "GuestTower$Console" "oldest" "I" ∈ G := gT2 74 rfl rfl
theorem gf_CO_22 : Cond.fieldLink R_CO 22 "GuestTower$Console" "waiting" "I" ∈ G := gT2 75 rfl rfl
theorem gf_CO_25 : Cond.fieldLink R_CO 25 "GuestTower$Console" "sent" "I" ∈ G := gT2 77 rfl rfl
theorem gac_330 : Cond.arrayClass .byte ∈ G := gT2 90 rfl rfl
theorem gf_MA_9 : Cond.fieldLink R_MA 9 "GuestTower$Machine" "memory" "[I" ∈ G := gT2 91 rfl rfl
theorem gf_MA_15 : Cond.fieldLink R_MA 15 "GuestTower$Machine" "registers" "[I" ∈ G := gT2 93 rfl rfl
theorem gf_MA_18 : Cond.fieldLink R_MA 18 "GuestTower$Machine" "blocks" "[I" ∈ G := gT2 94 rfl rfl
theorem gf_MA_24 : Cond.fieldLink R_MA 24 "GuestTower$Machine" "console" "LGuestTower$Console;" ∈ G := gT2 95 rfl rfl
theorem gf_MA_28 : Cond.fieldLink R_MA 28 "GuestTower$Machine" "size" "I" ∈ G := gT2 98 rfl rfl
theorem gf_MA_41 : Cond.fieldLink R_MA 41 "GuestTower$Machine" "mode" "I" ∈ G := gT2 99 rfl rfl
theorem gf_MA_44 : Cond.fieldLink R_MA 44 "GuestTower$Machine" "pc" "I" ∈ G := gT2 101 rfl rfl
theorem gf_MA_47 : Cond.fieldLink R_MA 47 "GuestTower$Machine" "base" "I" ∈ G := gT2 103 rfl rfl
theorem gf_MA_50 : Cond.fieldLink R_MA 50 "GuestTower$Machine" "bound" "I" ∈ G := gT2 105 rfl rfl
theorem gf_MA_53 : Cond.fieldLink R_MA 53 "GuestTower$Machine" "reach" "I" ∈ G := gT2 107 rfl rfl
theorem gf_MA_56 : Cond.fieldLink R_MA 56 "GuestTower$Machine" "timer" "I" ∈ G := gT2 108 rfl rfl
theorem gf_MA_59 : Cond.fieldLink R_MA 59 "GuestTower$Machine" "ranOut" "Z" ∈ G := gT2 110 rfl rfl
theorem gf_MA_63 : Cond.fieldLink R_MA 63 "GuestTower$Machine" "halted" "Z" ∈ G := gT2 112 rfl rfl
theorem gf_GU_16 : Cond.fieldLink R_GU 16 "GuestTower$Guest" "machine" "LGuestTower$Machine;" ∈ G := gT2 141 rfl rfl
theorem gf_GU_22 : Cond.fieldLink R_GU 22 "GuestTower$Guest" "size" "I" ∈ G := gT2 143 rfl rfl
theorem gf_GU_26 : Cond.fieldLink R_GU 26 "GuestTower$Guest" "depth" "I" ∈ G := gT2 144 rfl rfl
theorem gf_GU_29 : Cond.fieldLink R_GU 29 "GuestTower$Guest" "start" "I" ∈ G := gT2 145 rfl rfl
theorem gf_GU_32 : Cond.fieldLink R_GU 32 "GuestTower$Guest" "steps" "I" ∈ G := gT2 146 rfl rfl
theorem gl_GT_61 : Cond.methodLink R_GT 61 y_GU_begin ∈ G := gT2 158 rfl rfl
theorem gi_GU_begin : Cond.instanceMethod y_GU_begin ∈ G := gT2 159 rfl rfl
theorem gsel_GU_begin : Cond.selects R_GU y_GU_begin y_GU_begin ∈ G := gT2 160 rfl rfl
theorem gc_GU_begin : Cond.code y_GU_begin c_GU_begin 6 none ∈ G := gT2 161 rfl rfl
theorem gl_GU_35 : Cond.methodLink R_GU 35 y_MA_clear ∈ G := gT2 162 rfl rfl
theorem gi_MA_clear : Cond.instanceMethod y_MA_clear ∈ G := gT2 163 rfl rfl
theorem gsel_MA_clear : Cond.selects R_MA y_MA_clear y_MA_clear ∈ G := gT2 164 rfl rfl
theorem gc_MA_clear : Cond.code y_MA_clear c_MA_clear 2 none ∈ G := gT2 165 rfl rfl
theorem gl_MA_32 : Cond.methodLink R_MA 32 y_JA_fill ∈ G := gT2 166 rfl rfl
theorem gs_JA_fill : Cond.static y_JA_fill ∈ G := gT2 167 rfl rfl
theorem gc_JA_fill : Cond.code y_JA_fill c_JA_fill 4 none ∈ G := gT2 168 rfl rfl
theorem gl_MA_38 : Cond.methodLink R_MA 38 y_CO_clear ∈ G := gT2 169 rfl rfl
theorem gi_CO_clear : Cond.instanceMethod y_CO_clear ∈ G := gT2 170 rfl rfl
theorem gsel_CO_clear : Cond.selects R_CO y_CO_clear y_CO_clear ∈ G := gT2 171 rfl rfl
theorem gc_CO_clear : Cond.code y_CO_clear c_CO_clear 1 none ∈ G := gT2 172 rfl rfl
theorem gl_GU_42 : Cond.methodLink R_GU 42 y_MA_copyIn ∈ G := gT2 175 rfl rfl
theorem gi_MA_copyIn : Cond.instanceMethod y_MA_copyIn ∈ G := gT2 176 rfl rfl
theorem gsel_MA_copyIn : Cond.selects R_MA y_MA_copyIn y_MA_copyIn ∈ G := gT2 177 rfl rfl
theorem gc_MA_copyIn : Cond.code y_MA_copyIn c_MA_copyIn 5 none ∈ G := gT2 178 rfl rfl
theorem gl_GU_46 : Cond.methodLink R_GU 46 y_GU_awaitTurn ∈ G := gT2 179 rfl rfl
theorem gi_GU_awaitTurn : Cond.instanceMethod y_GU_awaitTurn ∈ G := gT2 181 rfl rfl
theorem gc_GU_awaitTurn : Cond.code y_GU_awaitTurn c_GU_awaitTurn 2 none ∈ G := gT2 182 rfl rfl
theorem gl_GU_56 : Cond.methodLink R_GU 56 y_GU_isTurn ∈ G := gT2 183 rfl rfl
theorem gi_GU_isTurn : Cond.instanceMethod y_GU_isTurn ∈ G := gT2 185 rfl rfl
theorem gc_GU_isTurn : Cond.code y_GU_isTurn c_GU_isTurn 1 (some .boolean) ∈ G := gT2 186 rfl rfl
theorem gl_GU_53 : Cond.methodLink R_GU 53 y_MA_step ∈ G := gT2 187 rfl rfl
theorem gi_MA_step : Cond.instanceMethod y_MA_step ∈ G := gT2 188 rfl rfl
theorem gsel_MA_step : Cond.selects R_MA y_MA_step y_MA_step ∈ G := gT2 189 rfl rfl
theorem gc_MA_step : Cond.code y_MA_step c_MA_step 6 none ∈ G := gT2 190 rfl rfl
theorem gl_MA_66 : Cond.methodLink R_MA 66 y_MA_trap ∈ G := gT2 191 rfl rfl
theorem gi_MA_trap : Cond.instanceMethod y_MA_trap ∈ G := gT2 193 rfl rfl
theorem gc_MA_trap : Cond.code y_MA_trap c_MA_trap 4 none ∈ G := gT2 194 rfl rfl
theorem gl_MA_99 : Cond.methodLink R_MA 99 y_MA_keepStatus ∈ G := gT2 195 rfl rfl
theorem gi_MA_keepStatus : Cond.instanceMethod y_MA_keepStatus ∈ G := gT2 197 rfl rfl
theorem gc_MA_keepStatus : Cond.code y_MA_keepStatus c_MA_keepStatus 3 none ∈ G := gT2 198 rfl rfl
theorem gl_MA_96 : Cond.methodLink R_MA 96 y_MA_takeStatus ∈ G := gT2 199 rfl rfl
theorem gi_MA_takeStatus : Cond.instanceMethod y_MA_takeStatus ∈ G := gT2 201 rfl rfl
theorem gc_MA_takeStatus : Cond.code y_MA_takeStatus c_MA_takeStatus 2 none ∈ G := gT2 202 rfl rfl
theorem gk_MA_70 : Cond.constant R_MA 70 65535 ∈ G := gT2 203 rfl rfl
theorem gl_MA_71 : Cond.methodLink R_MA 71 y_MA_access ∈ G := gT2 204 rfl rfl
theorem gi_MA_access : Cond.instanceMethod y_MA_access ∈ G := gT2 206 rfl rfl
theorem gc_MA_access : Cond.code y_MA_access c_MA_access 4 none ∈ G := gT2 207 rfl rfl
theorem gl_MA_81 : Cond.methodLink R_MA 81 y_MA_goOn ∈ G := gT2 208 rfl rfl
theorem gi_MA_goOn : Cond.instanceMethod y_MA_goOn ∈ G := gT2 210 rfl rfl
theorem gc_MA_goOn : Cond.code y_MA_goOn c_MA_goOn 2 none ∈ G := gT2 211 rfl rfl
theorem gl_MA_74 : Cond.methodLink R_MA 74 y_MA_compute ∈ G := gT2 212 rfl rfl
theorem gi_MA_compute : Cond.instanceMethod y_MA_compute ∈ G := gT2 214 rfl rfl
theorem gc_MA_compute : Cond.code y_MA_compute c_MA_compute 6 none ∈ G := gT2 215 rfl rfl
theorem gl_MA_85 : Cond.methodLink R_MA 85 y_MA_shifted ∈ G := gT2 216 rfl rfl
theorem gs_MA_shifted : Cond.static y_MA_shifted ∈ G := gT2 217 rfl rfl
theorem gc_MA_shifted : Cond.code y_MA_shifted c_MA_shifted 3 (some .int) ∈ G := gT2 218 rfl rfl
theorem gl_MA_78 : Cond.methodLink R_MA 78 y_MA_govern ∈ G := gT2 219 rfl rfl
theorem gi_MA_govern : Cond.instanceMethod y_MA_govern ∈ G := gT2 221 rfl rfl
theorem gc_MA_govern : Cond.code y_MA_govern c_MA_govern 10 none ∈ G := gT2 222 rfl rfl
theorem gl_MA_89 : Cond.methodLink R_MA 89 y_MA_wordsWanted ∈ G := gT2 223 rfl rfl
theorem gs_MA_wordsWanted : Cond.static y_MA_wordsWanted ∈ G := gT2 224 rfl rfl
theorem gc_MA_wordsWanted : Cond.code y_MA_wordsWanted c_MA_wordsWanted 1 (some .int) ∈ G := gT2 225 rfl rfl
theorem gl_MA_93 : Cond.methodLink R_MA 93 y_MA_firstBad ∈ G := gT2 226 rfl rfl
theorem gi_MA_firstBad : Cond.instanceMethod y_MA_firstBad ∈ G := gT2 228 rfl rfl
theorem gc_MA_firstBad : Cond.code y_MA_firstBad c_MA_firstBad 5 (some .int) ∈ G := gT2 229 rfl rfl
theorem gl_MA_103 : Cond.methodLink R_MA 103 y_CO_nextTyped ∈ G := gT2 230 rfl rfl
theorem gi_CO_nextTyped : Cond.instanceMethod y_CO_nextTyped ∈ G := gT2 231 rfl rfl
theorem gsel_CO_nextTyped : Cond.selects R_CO y_CO_nextTyped y_CO_nextTyped ∈ G := gT2 232 rfl rfl
theorem gc_CO_nextTyped : Cond.code y_CO_nextTyped c_CO_nextTyped 2 (some .int) ∈ G := gT2 233 rfl rfl
theorem gk_CO_28 : Cond.constant R_CO 28 65535 ∈ G := gT2 234 rfl rfl
theorem gl_MA_107 : Cond.methodLink R_MA 107 y_CO_send ∈ G := gT2 235 rfl rfl
theorem gi_CO_send : Cond.instanceMethod y_CO_send ∈ G := gT2 236 rfl rfl
theorem gsel_CO_send : Cond.selects R_CO y_CO_send y_CO_send ∈ G := gT2 237 rfl rfl
theorem gc_CO_send : Cond.code y_CO_send c_CO_send 2 none ∈ G := gT2 238 rfl rfl
theorem gl_MA_110 : Cond.methodLink R_MA 110 y_JY_arraycopy ∈ G := gT2 239 rfl rfl
theorem gs_JY_arraycopy : Cond.static y_JY_arraycopy ∈ G := gT3 0 rfl rfl
theorem gn_JY_arraycopy : Cond.native y_JY_arraycopy ∈ G := gT3 1 rfl rfl
theorem gl_LW_23 : Cond.methodLink R_LW 23 y_GT_fault ∈ G := gT3 2 rfl rfl
theorem gi_GT_fault : Cond.instanceMethod y_GT_fault ∈ G := gT3 3 rfl rfl
theorem gsel_GT_fault : Cond.selects R_GT y_GT_fault y_GT_fault ∈ G := gT3 4 rfl rfl
theorem gc_GT_fault : Cond.code y_GT_fault c_GT_fault 2 (some .int) ∈ G := gT3 5 rfl rfl
theorem gl_LW_28 : Cond.methodLink R_LW 28 y_GT_run ∈ G := gT3 6 rfl rfl
theorem gi_GT_run : Cond.instanceMethod y_GT_run ∈ G := gT3 7 rfl rfl
theorem gsel_GT_run : Cond.selects R_GT y_GT_run y_GT_run ∈ G := gT3 8 rfl rfl
theorem gc_GT_run : Cond.code y_GT_run c_GT_run 4 (some .int) ∈ G := gT3 9 rfl rfl
theorem gl_GT_65 : Cond.methodLink R_GT 65 y_GT_guestAt ∈ G := gT3 10 rfl rfl
theorem gi_GT_guestAt : Cond.instanceMethod y_GT_guestAt ∈ G := gT3 12 rfl rfl
theorem gc_GT_guestAt : Cond.code y_GT_guestAt c_GT_guestAt 2 (some (.object "GuestTower$Guest")) ∈ G := gT3 13 rfl rfl
theorem gl_GT_69 : Cond.methodLink R_GT 69 y_GU_advance ∈ G := gT3 14 rfl rfl
theorem gi_GU_advance : Cond.instanceMethod y_GU_advance ∈ G := gT3 15 rfl rfl
theorem gsel_GU_advance : Cond.selects R_GU y_GU_advance y_GU_advance ∈ G := gT3 16 rfl rfl
theorem gc_GU_advance : Cond.code y_GU_advance c_GU_advance 3 (some .int) ∈ G := gT3 17 rfl rfl
theorem gl_LW_33 : Cond.methodLink R_LW 33 y_GT_type ∈ G := gT3 18 rfl rfl
theorem gi_GT_type : Cond.instanceMethod y_GT_type ∈ G := gT3 19 rfl rfl
theorem gsel_GT_type : Cond.selects R_GT y_GT_type y_GT_type ∈ G := gT3 20 rfl rfl
theorem gc_GT_type : Cond.code y_GT_type c_GT_type 4 (some .boolean) ∈ G := gT3 21 rfl rfl
theorem gl_GT_83 : Cond.methodLink R_GT 83 y_CO_isTaken ∈ G := gT3 22 rfl rfl
theorem gi_CO_isTaken : Cond.instanceMethod y_CO_isTaken ∈ G := gT3 23 rfl rfl
theorem gsel_CO_isTaken : Cond.selects R_CO y_CO_isTaken y_CO_isTaken ∈ G := gT3 24 rfl rfl
theorem gc_CO_isTaken : Cond.code y_CO_isTaken c_CO_isTaken 2 (some .boolean) ∈ G := gT3 25 rfl rfl
theorem gl_LW_38 : Cond.methodLink R_LW 38 y_GT_look ∈ G := gT3 26 rfl rfl
theorem gi_GT_look : Cond.instanceMethod y_GT_look ∈ G := gT3 27 rfl rfl
theorem gsel_GT_look : Cond.selects R_GT y_GT_look y_GT_look ∈ G := gT3 28 rfl rfl
theorem gc_GT_look : Cond.code y_GT_look c_GT_look 4 (some .int) ∈ G := gT3 29 rfl rfl
theorem gl_GT_88 : Cond.methodLink R_GT 88 y_GU_told ∈ G := gT3 30 rfl rfl
theorem gi_GU_told : Cond.instanceMethod y_GU_told ∈ G := gT3 31 rfl rfl
theorem gsel_GU_told : Cond.selects R_GU y_GU_told y_GU_told ∈ G := gT3 32 rfl rfl
theorem gc_GU_told : Cond.code y_GU_told c_GU_told 2 (some .int) ∈ G := gT3 33 rfl rfl
theorem gl_GU_66 : Cond.methodLink R_GU 66 y_GU_mode ∈ G := gT3 34 rfl rfl
theorem gi_GU_mode : Cond.instanceMethod y_GU_mode ∈ G := gT3 36 rfl rfl
theorem gc_GU_mode : Cond.code y_GU_mode c_GU_mode 1 (some .int) ∈ G := gT3 37 rfl rfl
theorem gl_GU_75 : Cond.methodLink R_GU 75 y_GU_kept ∈ G := gT3 38 rfl rfl
theorem gi_GU_kept : Cond.instanceMethod y_GU_kept ∈ G := gT3 40 rfl rfl
theorem gc_GU_kept : Cond.code y_GU_kept c_GU_kept 3 (some .int) ∈ G := gT3 41 rfl rfl
theorem gl_GU_69 : Cond.methodLink R_GU 69 y_GU_pc ∈ G := gT3 42 rfl rfl
theorem gi_GU_pc : Cond.instanceMethod y_GU_pc ∈ G := gT3 44 rfl rfl
theorem gc_GU_pc : Cond.code y_GU_pc c_GU_pc 1 (some .int) ∈ G := gT3 45 rfl rfl
theorem gl_GU_82 : Cond.methodLink R_GU 82 y_GU_timer ∈ G := gT3 46 rfl rfl
theorem gi_GU_timer : Cond.instanceMethod y_GU_timer ∈ G := gT3 48 rfl rfl
theorem gc_GU_timer : Cond.code y_GU_timer c_GU_timer 1 (some .int) ∈ G := gT3 49 rfl rfl
theorem gl_GU_100 : Cond.methodLink R_GU 100 y_MA_register ∈ G := gT3 50 rfl rfl
theorem gi_MA_register : Cond.instanceMethod y_MA_register ∈ G := gT3 51 rfl rfl
theorem gsel_MA_register : Cond.selects R_MA y_MA_register y_MA_register ∈ G := gT3 52 rfl rfl
theorem gc_MA_register : Cond.code y_MA_register c_MA_register 2 (some .int) ∈ G := gT3 53 rfl rfl
theorem gl_LW_42 : Cond.methodLink R_LW 42 y_GT_word ∈ G := gT3 54 rfl rfl
theorem gi_GT_word : Cond.instanceMethod y_GT_word ∈ G := gT3 55 rfl rfl
theorem gsel_GT_word : Cond.selects R_GT y_GT_word y_GT_word ∈ G := gT3 56 rfl rfl
theorem gc_GT_word : Cond.code y_GT_word c_GT_word 4 (some .int) ∈ G := gT3 57 rfl rfl
theorem gl_GT_91 : Cond.methodLink R_GT 91 y_GU_wordAt ∈ G := gT3 58 rfl rfl
theorem gi_GU_wordAt : Cond.instanceMethod y_GU_wordAt ∈ G := gT3 59 rfl rfl
theorem gsel_GU_wordAt : Cond.selects R_GU y_GU_wordAt y_GU_wordAt ∈ G := gT3 60 rfl rfl
theorem gc_GU_wordAt : Cond.code y_GU_wordAt c_GU_wordAt 2 (some .int) ∈ G := gT3 61 rfl rfl
theorem gl_LW_46 : Cond.methodLink R_LW 46 y_GT_output ∈ G := gT3 62 rfl rfl
theorem gi_GT_output : Cond.instanceMethod y_GT_output ∈ G := gT3 63 rfl rfl
theorem gsel_GT_output : Cond.selects R_GT y_GT_output y_GT_output ∈ G := gT3 64 rfl rfl
theorem gc_GT_output : Cond.code y_GT_output c_GT_output 4 (some .int) ∈ G := gT3 65 rfl rfl
theorem gl_GT_94 : Cond.methodLink R_GT 94 y_CO_sentByte ∈ G := gT3 66 rfl rfl
theorem gi_CO_sentByte : Cond.instanceMethod y_CO_sentByte ∈ G := gT3 67 rfl rfl
theorem gsel_CO_sentByte : Cond.selects R_CO y_CO_sentByte y_CO_sentByte ∈ G := gT3 68 rfl rfl
theorem gc_CO_sentByte : Cond.code y_CO_sentByte c_CO_sentByte 2 (some .int) ∈ G := gT3 69 rfl rfl
theorem gl_LW_50 : Cond.methodLink R_LW 50 y_GT_disk ∈ G := gT3 70 rfl rfl
theorem gi_GT_disk : Cond.instanceMethod y_GT_disk ∈ G := gT3 71 rfl rfl
theorem gsel_GT_disk : Cond.selects R_GT y_GT_disk y_GT_disk ∈ G := gT3 72 rfl rfl
theorem gc_GT_disk : Cond.code y_GT_disk c_GT_disk 5 (some .int) ∈ G := gT3 73 rfl rfl
theorem gl_GT_97 : Cond.methodLink R_GT 97 y_MA_blockWord ∈ G := gT3 74 rfl rfl
theorem gi_MA_blockWord : Cond.instanceMethod y_MA_blockWord ∈ G := gT3 75 rfl rfl
theorem gsel_MA_blockWord : Cond.selects R_MA y_MA_blockWord y_MA_blockWord ∈ G := gT3 76 rfl rfl
theorem gc_MA_blockWord : Cond.code y_MA_blockWord c_MA_blockWord 3 (some .int) ∈ G := gT3 77 rfl rfl
theorem gl_LW_17 : Cond.methodLink R_LW 17 y_MD_feed ∈ G := gT3 78 rfl rfl
theorem gi_MD_feed : Cond.instanceMethod y_MD_feed ∈ G := gT3 79 rfl rfl
theorem gsel_MD_feed : Cond.selects R_MD y_MD_feed y_MD_feed ∈ G := gT3 80 rfl rfl
theorem gc_MD_feed : Cond.code y_MD_feed c_MD_feed 6 (some .int) ∈ G := gT3 81 rfl rfl
theorem gl_MD_7 : Cond.methodLink R_MD 7 y_MD_word1 ∈ G := gT3 82 rfl rfl
theorem gi_MD_word1 : Cond.instanceMethod y_MD_word1 ∈ G := gT3 84 rfl rfl
theorem ginst_MD : Cond.instantiable R_MD 39 ∈ G := gT3 85 rfl rfl
theorem gc_MD_word1 : Cond.code y_MD_word1 c_MD_word1 3 none ∈ G := gT3 86 rfl rfl
theorem gcl_LW_10 : Cond.classLink R_LW 10 R_MD ∈ G := gT3 87 rfl rfl
theorem gl_LW_12 : Cond.methodLink R_LW 12 y_MD_init ∈ G := gT3 88 rfl rfl
theorem gi_MD_init : Cond.instanceMethod y_MD_init ∈ G := gT3 89 rfl rfl
theorem gc_MD_init : Cond.code y_MD_init c_MD_init 2 none ∈ G := gT3 90 rfl rfl
theorem gl_MD_15 : Cond.methodLink R_MD 15 y_JO_init ∈ G := gT3 91 rfl rfl
theorem gf_MD_11 : Cond.fieldLink R_MD 11 "GuestTowerModel" "tape" "[B" ∈ G := gT3 92 rfl rfl
theorem gf_MD_1 : Cond.fieldLink R_MD 1 "GuestTowerModel" "taped" "I" ∈ G := gT3 93 rfl rfl
theorem gf_MD_21 : Cond.fieldLink R_MD 21 "GuestTowerModel" "isThere" "[Z" ∈ G := gT3 94 rfl rfl
theorem gf_MD_25 : Cond.fieldLink R_MD 25 "GuestTowerModel" "size" "[I" ∈ G := gT3 95 rfl rfl
theorem gf_MD_29 : Cond.fieldLink R_MD 29 "GuestTowerModel" "depth" "[I" ∈ G := gT3 96 rfl rfl
theorem gf_MD_32 : Cond.fieldLink R_MD 32 "GuestTowerModel" "memory" "[I" ∈ G := gT3 97 rfl rfl
theorem gf_MD_35 : Cond.fieldLink R_MD 35 "GuestTowerModel" "register" "[I" ∈ G := gT3 98 rfl rfl
theorem gf_MD_38 : Cond.fieldLink R_MD 38 "GuestTowerModel" "mode" "[I" ∈ G := gT3 99 rfl rfl
theorem gf_MD_41 : Cond.fieldLink R_MD 41 "GuestTowerModel" "pc" "[I" ∈ G := gT3 100 rfl rfl
theorem gf_MD_44 : Cond.fieldLink R_MD 44 "GuestTowerModel" "base" "[I" ∈ G := gT3 101 rfl rfl
theorem gf_MD_47 : Cond.fieldLink R_MD 47 "GuestTowerModel" "bound" "[I" ∈ G := gT3 102 rfl rfl
theorem gf_MD_50 : Cond.fieldLink R_MD 50 "GuestTowerModel" "timer" "[I" ∈ G := gT3 103 rfl rfl
theorem gf_MD_53 : Cond.fieldLink R_MD 53 "GuestTowerModel" "ranOut" "[Z" ∈ G := gT3 104 rfl rfl
theorem gf_MD_56 : Cond.fieldLink R_MD 56 "GuestTowerModel" "halted" "[Z" ∈ G := gT3 105 rfl rfl
theorem gf_MD_59 : Cond.fieldLink R_MD 59 "GuestTowerModel" "steps" "[I" ∈ G := gT3 106 rfl rfl
theorem gf_MD_62 : Cond.fieldLink R_MD 62 "GuestTowerModel" "outs" "[I" ∈ G := gT3 107 rfl rfl
theorem gf_MD_65 : Cond.fieldLink R_MD 65 "GuestTowerModel" "output" "[I" ∈ G := gT3 108 rfl rfl
theorem gf_MD_68 : Cond.fieldLink R_MD 68 "GuestTowerModel" "waits" "[I" ∈ G := gT3 109 rfl rfl
theorem gf_MD_71 : Cond.fieldLink R_MD 71 "GuestTowerModel" "typed" "[I" ∈ G := gT3 110 rfl rfl
theorem gf_MD_74 : Cond.fieldLink R_MD 74 "GuestTowerModel" "disk" "[I" ∈ G := gT3 111 rfl rfl
theorem gf_MD_77 : Cond.fieldLink R_MD 77 "GuestTowerModel" "wants" "[I" ∈ G := gT3 112 rfl rfl
theorem gf_MD_95 : Cond.fieldLink R_MD 95 "GuestTowerModel" "at" "I" ∈ G := gT3 113 rfl rfl
theorem gf_MD_92 : Cond.fieldLink R_MD 92 "GuestTowerModel" "end" "I" ∈ G := gT3 114 rfl rfl
theorem gf_MD_211 : Cond.fieldLink R_MD 211 "GuestTowerModel" "line" "I" ∈ G := gT3 115 rfl rfl
theorem gf_MD_80 : Cond.fieldLink R_MD 80 "GuestTowerModel" "labelFrom" "[I" ∈ G := gT3 116 rfl rfl
theorem gf_MD_83 : Cond.fieldLink R_MD 83 "GuestTowerModel" "labelSize" "[I" ∈ G := gT3 117 rfl rfl
theorem gf_MD_86 : Cond.fieldLink R_MD 86 "GuestTowerModel" "labelAddress" "[I" ∈ G := gT3 118 rfl rfl
theorem gf_MD_109 : Cond.fieldLink R_MD 109 "GuestTowerModel" "labels" "I" ∈ G := gT3 119 rfl rfl
theorem gf_MD_240 : Cond.fieldLink R_MD 240 "GuestTowerModel" "fault" "I" ∈ G := gT3 120 rfl rfl
theorem gf_MD_243 : Cond.fieldLink R_MD 243 "GuestTowerModel" "faultLine" "I" ∈ G := gT3 121 rfl rfl
theorem gf_MD_250 : Cond.fieldLink R_MD 250 "GuestTowerModel" "isTold" "Z" ∈ G := gT3 122 rfl rfl
theorem gf_MD_214 : Cond.fieldLink R_MD 214 "GuestTowerModel" "address" "I" ∈ G := gT3 123 rfl rfl
theorem gf_MD_89 : Cond.fieldLink R_MD 89 "GuestTowerModel" "made" "[I" ∈ G := gT3 124 rfl rfl
theorem gf_MD_208 : Cond.fieldLink R_MD 208 "GuestTowerModel" "missing" "I" ∈ G := gT3 125 rfl rfl
theorem gf_MD_177 : Cond.fieldLink R_MD 177 "GuestTowerModel" "good" "Z" ∈ G := gT3 126 rfl rfl
theorem gf_MD_191 : Cond.fieldLink R_MD 191 "GuestTowerModel" "value" "I" ∈ G := gT3 127 rfl rfl
theorem gf_MD_198 : Cond.fieldLink R_MD 198 "GuestTowerModel" "valueFrom" "I" ∈ G := gT3 128 rfl rfl
theorem gf_MD_188 : Cond.fieldLink R_MD 188 "GuestTowerModel" "valueSize" "I" ∈ G := gT3 129 rfl rfl
theorem gf_MD_261 : Cond.fieldLink R_MD 261 "GuestTowerModel" "me" "I" ∈ G := gT3 130 rfl rfl
theorem gac_690 : Cond.arrayClass .boolean ∈ G := gT3 210 rfl rfl
theorem gl_LW_22 : Cond.methodLink R_LW 22 y_MD_load ∈ G := gT3 211 rfl rfl
theorem gi_MD_load : Cond.instanceMethod y_MD_load ∈ G := gT3 212 rfl rfl
theorem gsel_MD_load : Cond.selects R_MD y_MD_load y_MD_load ∈ G := gT3 213 rfl rfl
theorem gc_MD_load : Cond.code y_MD_load c_MD_load 6 (some .int) ∈ G := gT3 214 rfl rfl
theorem gl_MD_246 : Cond.methodLink R_MD 246 y_MD_in ∈ G := gT3 215 rfl rfl
theorem gs_MD_in : Cond.static y_MD_in ∈ G := gT3 216 rfl rfl
theorem gc_MD_in : Cond.code y_MD_in c_MD_in 3 (some .boolean) ∈ G := gT3 217 rfl rfl
theorem gl_MD_253 : Cond.methodLink R_MD 253 y_MD_lines ∈ G := gT3 218 rfl rfl
theorem gi_MD_lines : Cond.instanceMethod y_MD_lines ∈ G := gT3 220 rfl rfl
theorem gc_MD_lines : Cond.code y_MD_lines c_MD_lines 4 (some .boolean) ∈ G := gT3 221 rfl rfl
theorem gl_MD_236 : Cond.methodLink R_MD 236 y_MD_oneLine ∈ G := gT3 222 rfl rfl
theorem gi_MD_oneLine : Cond.instanceMethod y_MD_oneLine ∈ G := gT3 224 rfl rfl
theorem gc_MD_oneLine : Cond.code y_MD_oneLine c_MD_oneLine 11 (some .int) ∈ G := gT3 225 rfl rfl
theorem gl_MD_181 : Cond.methodLink R_MD 181 y_MD_blanks ∈ G := gT3 226 rfl rfl
theorem gi_MD_blanks : Cond.instanceMethod y_MD_blanks ∈ G := gT3 228 rfl rfl
theorem gc_MD_blanks : Cond.code y_MD_blanks c_MD_blanks 1 none ∈ G := gT3 229 rfl rfl
theorem gl_MD_201 : Cond.methodLink R_MD 201 y_MD_nameAt ∈ G := gT3 230 rfl rfl
theorem gi_MD_nameAt : Cond.instanceMethod y_MD_nameAt ∈ G := gT3 232 rfl rfl
theorem gc_MD_nameAt : Cond.code y_MD_nameAt c_MD_nameAt 3 (some .int) ∈ G := gT3 233 rfl rfl
theorem gl_MD_98 : Cond.methodLink R_MD 98 y_MD_byteAt ∈ G := gT3 234 rfl rfl
theorem gi_MD_byteAt : Cond.instanceMethod y_MD_byteAt ∈ G := gT3 236 rfl rfl
theorem gc_MD_byteAt : Cond.code y_MD_byteAt c_MD_byteAt 2 (some .int) ∈ G := gT3 237 rfl rfl
theorem gl_MD_102 : Cond.methodLink R_MD 102 y_MD_isSmall ∈ G := gT3 238 rfl rfl
theorem gs_MD_isSmall : Cond.static y_MD_isSmall ∈ G := gT3 239 rfl rfl
theorem gc_MD_isSmall : Cond.code y_MD_isSmall c_MD_isSmall 1 (some .boolean) ∈ G := gT4 0 rfl rfl
theorem gl_MD_106 : Cond.methodLink R_MD 106 y_MD_isDigit ∈ G := gT4 1 rfl rfl
theorem gs_MD_isDigit : Cond.static y_MD_isDigit ∈ G := gT4 2 rfl rfl
theorem gc_MD_isDigit : Cond.code y_MD_isDigit c_MD_isDigit 1 (some .boolean) ∈ G := gT4 3 rfl rfl
theorem gl_MD_217 : Cond.methodLink R_MD 217 y_MD_isOver ∈ G := gT4 4 rfl rfl
theorem gi_MD_isOver : Cond.instanceMethod y_MD_isOver ∈ G := gT4 6 rfl rfl
theorem gc_MD_isOver : Cond.code y_MD_isOver c_MD_isOver 1 (some .boolean) ∈ G := gT4 7 rfl rfl
theorem gl_MD_221 : Cond.methodLink R_MD 221 y_MD_order ∈ G := gT4 8 rfl rfl
theorem gi_MD_order : Cond.instanceMethod y_MD_order ∈ G := gT4 10 rfl rfl
theorem gc_MD_order : Cond.code y_MD_order c_MD_order 10 (some .int) ∈ G := gT4 11 rfl rfl
theorem gl_MD_112 : Cond.methodLink R_MD 112 y_MD_isGreat ∈ G := gT4 12 rfl rfl
theorem gs_MD_isGreat : Cond.static y_MD_isGreat ∈ G := gT4 13 rfl rfl
theorem gc_MD_isGreat : Cond.code y_MD_isGreat c_MD_isGreat 1 (some .boolean) ∈ G := gT4 14 rfl rfl
theorem gl_MD_115 : Cond.methodLink R_MD 115 y_MD_name ∈ G := gT4 15 rfl rfl
theorem gs_MD_name : Cond.static y_MD_name ∈ G := gT4 16 rfl rfl
theorem gc_MD_name : Cond.code y_MD_name c_MD_name 1 (some .long) ∈ G := gT4 17 rfl rfl
theorem gkl_MD_121 : Cond.constantLong R_MD 121 1212238932 ∈ G := gT4 18 rfl rfl
theorem gkl_MD_123 : Cond.constantLong R_MD 123 5457236 ∈ G := gT4 19 rfl rfl
theorem gkl_MD_125 : Cond.constantLong R_MD 125 1280262468 ∈ G := gT4 20 rfl rfl
theorem gkl_MD_127 : Cond.constantLong R_MD 127 357896770117 ∈ G := gT4 21 rfl rfl
theorem gkl_MD_129 : Cond.constantLong R_MD 129 327747191896 ∈ G := gT4 22 rfl rfl
theorem gkl_MD_131 : Cond.constantLong R_MD 131 91621573150040 ∈ G := gT4 23 rfl rfl
theorem gkl_MD_133 : Cond.constantLong R_MD 133 1297045061 ∈ G := gT4 24 rfl rfl
theorem gkl_MD_135 : Cond.constantLong R_MD 135 4277316 ∈ G := gT4 25 rfl rfl
theorem gkl_MD_137 : Cond.constantLong R_MD 137 5461314 ∈ G := gT4 26 rfl rfl
theorem gkl_MD_139 : Cond.constantLong R_MD 139 4279876 ∈ G := gT4 27 rfl rfl
theorem gkl_MD_141 : Cond.constantLong R_MD 141 1279611731 ∈ G := gT4 28 rfl rfl
theorem gkl_MD_143 : Cond.constantLong R_MD 143 357695047252 ∈ G := gT4 29 rfl rfl
theorem gkl_MD_145 : Cond.constantLong R_MD 145 1247104336 ∈ G := gT4 30 rfl rfl
theorem gkl_MD_147 : Cond.constantLong R_MD 147 1514492495 ∈ G := gT4 31 rfl rfl
theorem gkl_MD_149 : Cond.constantLong R_MD 149 18255 ∈ G := gT4 32 rfl rfl
theorem gkl_MD_151 : Cond.constantLong R_MD 151 1128352844 ∈ G := gT4 33 rfl rfl
theorem gkl_MD_153 : Cond.constantLong R_MD 153 5461571 ∈ G := gT4 34 rfl rfl
theorem gkl_MD_155 : Cond.constantLong R_MD 155 1280332631 ∈ G := gT4 35 rfl rfl
theorem gkl_MD_157 : Cond.constantLong R_MD 157 1397773143 ∈ G := gT4 36 rfl rfl
theorem gkl_MD_159 : Cond.constantLong R_MD 159 1397052500 ∈ G := gT4 37 rfl rfl
theorem gkl_MD_161 : Cond.constantLong R_MD 161 1195725908 ∈ G := gT4 38 rfl rfl
theorem gkl_MD_163 : Cond.constantLong R_MD 163 18766 ∈ G := gT4 39 rfl rfl
theorem gkl_MD_165 : Cond.constantLong R_MD 165 5199188 ∈ G := gT4 40 rfl rfl
theorem gkl_MD_167 : Cond.constantLong R_MD 167 1195725890 ∈ G := gT4 41 rfl rfl
theorem gkl_MD_169 : Cond.constantLong R_MD 169 1347769410 ∈ G := gT4 42 rfl rfl
theorem gkl_MD_171 : Cond.constantLong R_MD 171 1464816196 ∈ G := gT4 43 rfl rfl
theorem gkl_MD_173 : Cond.constantLong R_MD 173 357828739909 ∈ G := gT4 44 rfl rfl
theorem gkl_MD_175 : Cond.constantLong R_MD 175 16724 ∈ G := gT4 45 rfl rfl
theorem gkl_MD_119 : Cond.constantLong R_MD 119 255 ∈ G := gT4 46 rfl rfl
theorem gl_MD_224 : Cond.methodLink R_MD 224 y_MD_register ∈ G := gT4 47 rfl rfl
theorem gi_MD_register : Cond.instanceMethod y_MD_register ∈ G := gT4 49 rfl rfl
theorem gc_MD_register : Cond.code y_MD_register c_MD_register 2 (some .int) ∈ G := gT4 50 rfl rfl
theorem gl_MD_184 : Cond.methodLink R_MD 184 y_MD_gap ∈ G := gT4 51 rfl rfl
theorem gi_MD_gap : Cond.instanceMethod y_MD_gap ∈ G := gT4 53 rfl rfl
theorem gc_MD_gap : Cond.code y_MD_gap c_MD_gap 1 none ∈ G := gT4 54 rfl rfl
theorem gl_MD_226 : Cond.methodLink R_MD 226 y_MD_value ∈ G := gT4 55 rfl rfl
theorem gi_MD_value : Cond.instanceMethod y_MD_value ∈ G := gT4 57 rfl rfl
theorem gc_MD_value : Cond.code y_MD_value c_MD_value 2 none ∈ G := gT4 58 rfl rfl
theorem gl_MD_194 : Cond.methodLink R_MD 194 y_MD_number ∈ G := gT4 59 rfl rfl
theorem gi_MD_number : Cond.instanceMethod y_MD_number ∈ G := gT4 61 rfl rfl
theorem gc_MD_number : Cond.code y_MD_number c_MD_number 3 (some .int) ∈ G := gT4 62 rfl rfl
theorem gk_MD_187 : Cond.constant R_MD 187 65536 ∈ G := gT4 63 rfl rfl
theorem gl_MD_204 : Cond.methodLink R_MD 204 y_MD_find ∈ G := gT4 64 rfl rfl
theorem gi_MD_find : Cond.instanceMethod y_MD_find ∈ G := gT4 66 rfl rfl
theorem gc_MD_find : Cond.code y_MD_find c_MD_find 6 (some .int) ∈ G := gT4 67 rfl rfl
theorem gl_MD_229 : Cond.methodLink R_MD 229 y_MD_put ∈ G := gT4 68 rfl rfl
theorem gi_MD_put : Cond.instanceMethod y_MD_put ∈ G := gT4 70 rfl rfl
theorem gc_MD_put : Cond.code y_MD_put c_MD_put 3 none ∈ G := gT4 71 rfl rfl
theorem gl_MD_233 : Cond.methodLink R_MD 233 y_MD_valued ∈ G := gT4 72 rfl rfl
theorem gi_MD_valued : Cond.instanceMethod y_MD_valued ∈ G := gT4 74 rfl rfl
theorem gc_MD_valued : Cond.code y_MD_valued c_MD_valued 2 (some .int) ∈ G := gT4 75 rfl rfl
theorem gl_MD_257 : Cond.methodLink R_MD 257 y_MD_begin ∈ G := gT4 76 rfl rfl
theorem gi_MD_begin : Cond.instanceMethod y_MD_begin ∈ G := gT4 78 rfl rfl
theorem gc_MD_begin : Cond.code y_MD_begin c_MD_begin 5 none ∈ G := gT4 79 rfl rfl
theorem gl_LW_27 : Cond.methodLink R_LW 27 y_MD_fault ∈ G := gT4 80 rfl rfl
theorem gi_MD_fault : Cond.instanceMethod y_MD_fault ∈ G := gT4 81 rfl rfl
theorem gsel_MD_fault : Cond.selects R_MD y_MD_fault y_MD_fault ∈ G := gT4 82 rfl rfl
theorem gc_MD_fault : Cond.code y_MD_fault c_MD_fault 2 (some .int) ∈ G := gT4 83 rfl rfl
theorem gl_LW_32 : Cond.methodLink R_LW 32 y_MD_run ∈ G := gT4 84 rfl rfl
theorem gi_MD_run : Cond.instanceMethod y_MD_run ∈ G := gT4 85 rfl rfl
theorem gsel_MD_run : Cond.selects R_MD y_MD_run y_MD_run ∈ G := gT4 86 rfl rfl
theorem gc_MD_run : Cond.code y_MD_run c_MD_run 4 (some .int) ∈ G := gT4 87 rfl rfl
theorem gl_MD_292 : Cond.methodLink R_MD 292 y_MD_isGuest ∈ G := gT4 88 rfl rfl
theorem gi_MD_isGuest : Cond.instanceMethod y_MD_isGuest ∈ G := gT4 90 rfl rfl
theorem gc_MD_isGuest : Cond.code y_MD_isGuest c_MD_isGuest 2 (some .boolean) ∈ G := gT4 91 rfl rfl
theorem gl_MD_295 : Cond.methodLink R_MD 295 y_MD_step ∈ G := gT4 92 rfl rfl
theorem gi_MD_step : Cond.instanceMethod y_MD_step ∈ G := gT4 94 rfl rfl
theorem gc_MD_step : Cond.code y_MD_step c_MD_step 9 none ∈ G := gT4 95 rfl rfl
theorem gl_MD_267 : Cond.methodLink R_MD 267 y_MD_trap ∈ G := gT4 96 rfl rfl
theorem gi_MD_trap : Cond.instanceMethod y_MD_trap ∈ G := gT4 98 rfl rfl
theorem gc_MD_trap : Cond.code y_MD_trap c_MD_trap 5 none ∈ G := gT4 99 rfl rfl
theorem gl_MD_270 : Cond.methodLink R_MD 270 y_MD_bad ∈ G := gT4 100 rfl rfl
theorem gi_MD_bad : Cond.instanceMethod y_MD_bad ∈ G := gT4 102 rfl rfl
theorem gc_MD_bad : Cond.code y_MD_bad c_MD_bad 4 (some .int) ∈ G := gT4 103 rfl rfl
theorem gl_MD_264 : Cond.methodLink R_MD 264 y_MD_isGood ∈ G := gT4 104 rfl rfl
theorem gi_MD_isGood : Cond.instanceMethod y_MD_isGood ∈ G := gT4 106 rfl rfl
theorem gc_MD_isGood : Cond.code y_MD_isGood c_MD_isGood 2 (some .boolean) ∈ G := gT4 107 rfl rfl
theorem gl_MD_273 : Cond.methodLink R_MD 273 y_MD_get ∈ G := gT4 108 rfl rfl
theorem gi_MD_get : Cond.instanceMethod y_MD_get ∈ G := gT4 110 rfl rfl
theorem gc_MD_get : Cond.code y_MD_get c_MD_get 2 (some .int) ∈ G := gT4 111 rfl rfl
theorem gl_MD_276 : Cond.methodLink R_MD 276 y_MD_does ∈ G := gT4 112 rfl rfl
theorem gi_MD_does : Cond.instanceMethod y_MD_does ∈ G := gT4 114 rfl rfl
theorem gc_MD_does : Cond.code y_MD_does c_MD_does 10 none ∈ G := gT4 115 rfl rfl
theorem gl_MD_280 : Cond.methodLink R_MD 280 y_MD_set ∈ G := gT4 116 rfl rfl
theorem gi_MD_set : Cond.instanceMethod y_MD_set ∈ G := gT4 118 rfl rfl
theorem gc_MD_set : Cond.code y_MD_set c_MD_set 3 none ∈ G := gT4 119 rfl rfl
theorem gl_MD_284 : Cond.methodLink R_MD 284 y_MD_rest ∈ G := gT4 120 rfl rfl
theorem gi_MD_rest : Cond.instanceMethod y_MD_rest ∈ G := gT4 122 rfl rfl
theorem gc_MD_rest : Cond.code y_MD_rest c_MD_rest 12 none ∈ G := gT4 123 rfl rfl
theorem gl_MD_288 : Cond.methodLink R_MD 288 y_MD_typedNext ∈ G := gT4 124 rfl rfl
theorem gi_MD_typedNext : Cond.instanceMethod y_MD_typedNext ∈ G := gT4 126 rfl rfl
theorem gc_MD_typedNext : Cond.code y_MD_typedNext c_MD_typedNext 3 (some .int) ∈ G := gT4 127 rfl rfl
theorem gk_MD_291 : Cond.constant R_MD 291 65535 ∈ G := gT4 128 rfl rfl
theorem gl_LW_37 : Cond.methodLink R_LW 37 y_MD_type ∈ G := gT4 129 rfl rfl
theorem gi_MD_type : Cond.instanceMethod y_MD_type ∈ G := gT4 130 rfl rfl
theorem gsel_MD_type : Cond.selects R_MD y_MD_type y_MD_type ∈ G := gT4 131 rfl rfl
theorem gc_MD_type : Cond.code y_MD_type c_MD_type 3 (some .boolean) ∈ G := gT4 132 rfl rfl
theorem gl_LW_41 : Cond.methodLink R_LW 41 y_MD_look ∈ G := gT4 133 rfl rfl
theorem gi_MD_look : Cond.instanceMethod y_MD_look ∈ G := gT4 134 rfl rfl
theorem gsel_MD_look : Cond.selects R_MD y_MD_look y_MD_look ∈ G := gT4 135 rfl rfl
theorem gc_MD_look : Cond.code y_MD_look c_MD_look 3 (some .int) ∈ G := gT4 136 rfl rfl
theorem gl_LW_45 : Cond.methodLink R_LW 45 y_MD_word2 ∈ G := gT4 137 rfl rfl
theorem gi_MD_word2 : Cond.instanceMethod y_MD_word2 ∈ G := gT4 138 rfl rfl
theorem gsel_MD_word2 : Cond.selects R_MD y_MD_word2 y_MD_word2 ∈ G := gT4 139 rfl rfl
theorem gc_MD_word2 : Cond.code y_MD_word2 c_MD_word2 3 (some .int) ∈ G := gT4 140 rfl rfl
theorem gl_LW_49 : Cond.methodLink R_LW 49 y_MD_output ∈ G := gT4 141 rfl rfl
theorem gi_MD_output : Cond.instanceMethod y_MD_output ∈ G := gT4 142 rfl rfl
theorem gsel_MD_output : Cond.selects R_MD y_MD_output y_MD_output ∈ G := gT4 143 rfl rfl
theorem gc_MD_output : Cond.code y_MD_output c_MD_output 3 (some .int) ∈ G := gT4 144 rfl rfl
theorem gl_LW_54 : Cond.methodLink R_LW 54 y_MD_disk ∈ G := gT4 145 rfl rfl
theorem gi_MD_disk : Cond.instanceMethod y_MD_disk ∈ G := gT4 146 rfl rfl
theorem gsel_MD_disk : Cond.selects R_MD y_MD_disk y_MD_disk ∈ G := gT4 147 rfl rfl
theorem gc_MD_disk : Cond.code y_MD_disk c_MD_disk 4 (some .int) ∈ G := gT4 148 rfl rfl
theorem gf_JS_15 : Cond.fieldLink R_JS 15 "java/lang/String" "coder" "B" ∈ G := gT4 149 rfl rfl
theorem gf_JS_9 : Cond.fieldLink R_JS 9 "java/lang/String" "value" "[B" ∈ G := gT4 150 rfl rfl
theorem gsel_GT_putOnTape : Cond.selects R_GT y_GT_putOnTape y_GT_putOnTape ∈ G := gP 0 rfl rfl
theorem gsel_LI_hasGoodBytes : Cond.selects R_LI y_LI_hasGoodBytes y_LI_hasGoodBytes ∈ G := gP 1 rfl rfl
theorem gsel_LI_dropRemark : Cond.selects R_LI y_LI_dropRemark y_LI_dropRemark ∈ G := gP 2 rfl rfl
theorem gsel_LI_isLabelRead : Cond.selects R_LI y_LI_isLabelRead y_LI_isLabelRead ∈ G := gP 3 rfl rfl
theorem gsel_LI_skipBlanks : Cond.selects R_LI y_LI_skipBlanks y_LI_skipBlanks ∈ G := gP 4 rfl rfl
theorem gsel_LI_here : Cond.selects R_LI y_LI_here y_LI_here ∈ G := gP 5 rfl rfl
theorem gsel_LI_takeLabel : Cond.selects R_LI y_LI_takeLabel y_LI_takeLabel ∈ G := gP 6 rfl rfl
theorem gsel_LI_isOrderRead : Cond.selects R_LI y_LI_isOrderRead y_LI_isOrderRead ∈ G := gP 7 rfl rfl
theorem gsel_LI_takeOrder : Cond.selects R_LI y_LI_takeOrder y_LI_takeOrder ∈ G := gP 8 rfl rfl
theorem gsel_LI_isNamed : Cond.selects R_LI y_LI_isNamed y_LI_isNamed ∈ G := gP 9 rfl rfl
theorem gsel_LI_takeRegister : Cond.selects R_LI y_LI_takeRegister y_LI_takeRegister ∈ G := gP 10 rfl rfl
theorem gsel_LI_isNumberRead : Cond.selects R_LI y_LI_isNumberRead y_LI_isNumberRead ∈ G := gP 11 rfl rfl
theorem gsel_LI_takeNumber : Cond.selects R_LI y_LI_takeNumber y_LI_takeNumber ∈ G := gP 12 rfl rfl
theorem gsel_AS_faultOfLine : Cond.selects R_AS y_AS_faultOfLine y_AS_faultOfLine ∈ G := gP 13 rfl rfl
theorem gsel_AS_addressOf : Cond.selects R_AS y_AS_addressOf y_AS_addressOf ∈ G := gP 14 rfl rfl
theorem gsel_AS_lineBehind : Cond.selects R_AS y_AS_lineBehind y_AS_lineBehind ∈ G := gP 15 rfl rfl
theorem gsel_AS_tellFault : Cond.selects R_AS y_AS_tellFault y_AS_tellFault ∈ G := gP 16 rfl rfl
theorem gsel_AS_placeLine : Cond.selects R_AS y_AS_placeLine y_AS_placeLine ∈ G := gP 17 rfl rfl
theorem gsel_AS_placeNumber : Cond.selects R_AS y_AS_placeNumber y_AS_placeNumber ∈ G := gP 18 rfl rfl
theorem gsel_AS_clearWords : Cond.selects R_AS y_AS_clearWords y_AS_clearWords ∈ G := gP 19 rfl rfl
theorem gsel_AS_fillUses : Cond.selects R_AS y_AS_fillUses y_AS_fillUses ∈ G := gP 20 rfl rfl
theorem gsel_GU_awaitTurn : Cond.selects R_GU y_GU_awaitTurn y_GU_awaitTurn ∈ G := gP 21 rfl rfl
theorem gsel_GU_isTurn : Cond.selects R_GU y_GU_isTurn y_GU_isTurn ∈ G := gP 22 rfl rfl
theorem gsel_MA_trap : Cond.selects R_MA y_MA_trap y_MA_trap ∈ G := gP 23 rfl rfl
theorem gsel_MA_keepStatus : Cond.selects R_MA y_MA_keepStatus y_MA_keepStatus ∈ G := gP 24 rfl rfl
theorem gsel_MA_takeStatus : Cond.selects R_MA y_MA_takeStatus y_MA_takeStatus ∈ G := gP 25 rfl rfl
theorem gsel_MA_access : Cond.selects R_MA y_MA_access y_MA_access ∈ G := gP 26 rfl rfl
theorem gsel_MA_goOn : Cond.selects R_MA y_MA_goOn y_MA_goOn ∈ G := gP 27 rfl rfl
theorem gsel_MA_compute : Cond.selects R_MA y_MA_compute y_MA_compute ∈ G := gP 28 rfl rfl
theorem gsel_MA_govern : Cond.selects R_MA y_MA_govern y_MA_govern ∈ G := gP 29 rfl rfl
theorem gsel_MA_firstBad : Cond.selects R_MA y_MA_firstBad y_MA_firstBad ∈ G := gP 30 rfl rfl
theorem gsel_GT_guestAt : Cond.selects R_GT y_GT_guestAt y_GT_guestAt ∈ G := gP 31 rfl rfl
theorem gsel_GU_mode : Cond.selects R_GU y_GU_mode y_GU_mode ∈ G := gP 32 rfl rfl
theorem gsel_GU_kept : Cond.selects R_GU y_GU_kept y_GU_kept ∈ G := gP 33 rfl rfl
theorem gsel_GU_pc : Cond.selects R_GU y_GU_pc y_GU_pc ∈ G := gP 34 rfl rfl
theorem gsel_GU_timer : Cond.selects R_GU y_GU_timer y_GU_timer ∈ G := gP 35 rfl rfl
theorem gsel_MD_word1 : Cond.selects R_MD y_MD_word1 y_MD_word1 ∈ G := gP 36 rfl rfl
theorem gsel_MD_lines : Cond.selects R_MD y_MD_lines y_MD_lines ∈ G := gP 37 rfl rfl
theorem gsel_MD_oneLine : Cond.selects R_MD y_MD_oneLine y_MD_oneLine ∈ G := gP 38 rfl rfl
theorem gsel_MD_blanks : Cond.selects R_MD y_MD_blanks y_MD_blanks ∈ G := gP 39 rfl rfl
theorem gsel_MD_nameAt : Cond.selects R_MD y_MD_nameAt y_MD_nameAt ∈ G := gP 40 rfl rfl
theorem gsel_MD_byteAt : Cond.selects R_MD y_MD_byteAt y_MD_byteAt ∈ G := gP 41 rfl rfl
theorem gsel_MD_isOver : Cond.selects R_MD y_MD_isOver y_MD_isOver ∈ G := gP 42 rfl rfl
theorem gsel_MD_order : Cond.selects R_MD y_MD_order y_MD_order ∈ G := gP 43 rfl rfl
theorem gsel_MD_register : Cond.selects R_MD y_MD_register y_MD_register ∈ G := gP 44 rfl rfl
theorem gsel_MD_gap : Cond.selects R_MD y_MD_gap y_MD_gap ∈ G := gP 45 rfl rfl
theorem gsel_MD_value : Cond.selects R_MD y_MD_value y_MD_value ∈ G := gP 46 rfl rfl
theorem gsel_MD_number : Cond.selects R_MD y_MD_number y_MD_number ∈ G := gP 47 rfl rfl
theorem gsel_MD_find : Cond.selects R_MD y_MD_find y_MD_find ∈ G := gP 48 rfl rfl
theorem gsel_MD_put : Cond.selects R_MD y_MD_put y_MD_put ∈ G := gP 49 rfl rfl
theorem gsel_MD_valued : Cond.selects R_MD y_MD_valued y_MD_valued ∈ G := gP 50 rfl rfl
theorem gsel_MD_begin : Cond.selects R_MD y_MD_begin y_MD_begin ∈ G := gP 51 rfl rfl
theorem gsel_MD_isGuest : Cond.selects R_MD y_MD_isGuest y_MD_isGuest ∈ G := gP 52 rfl rfl
theorem gsel_MD_step : Cond.selects R_MD y_MD_step y_MD_step ∈ G := gP 53 rfl rfl
theorem gsel_MD_trap : Cond.selects R_MD y_MD_trap y_MD_trap ∈ G := gP 54 rfl rfl
theorem gsel_MD_bad : Cond.selects R_MD y_MD_bad y_MD_bad ∈ G := gP 55 rfl rfl
theorem gsel_MD_isGood : Cond.selects R_MD y_MD_isGood y_MD_isGood ∈ G := gP 56 rfl rfl
theorem gsel_MD_get : Cond.selects R_MD y_MD_get y_MD_get ∈ G := gP 57 rfl rfl
theorem gsel_MD_does : Cond.selects R_MD y_MD_does y_MD_does ∈ G := gP 58 rfl rfl
theorem gsel_MD_set : Cond.selects R_MD y_MD_set y_MD_set ∈ G := gP 59 rfl rfl
theorem gsel_MD_rest : Cond.selects R_MD y_MD_rest y_MD_rest ∈ G := gP 60 rfl rfl
theorem gsel_MD_typedNext : Cond.selects R_MD y_MD_typedNext y_MD_typedNext ∈ G := gP 61 rfl rfl
theorem gy_MA_0 : u_lay R_MA T_MA 0 ∈ G := gT2 114 rfl rfl
theorem gy_MA_1 : u_lay R_MA T_MA 1 ∈ G := gT2 116 rfl rfl
theorem gy_MA_2 : u_lay R_MA T_MA 2 ∈ G := gT2 118 rfl rfl
theorem gy_MA_3 : u_lay R_MA T_MA 3 ∈ G := gT2 120 rfl rfl
theorem gy_MA_4 : u_lay R_MA T_MA 4 ∈ G := gT2 122 rfl rfl
theorem gy_MA_5 : u_lay R_MA T_MA 5 ∈ G := gT2 124 rfl rfl
theorem gy_MA_6 : u_lay R_MA T_MA 6 ∈ G := gT2 126 rfl rfl
theorem gy_MA_7 : u_lay R_MA T_MA 7 ∈ G := gT2 128 rfl rfl
theorem gy_MA_8 : u_lay R_MA T_MA 8 ∈ G := gT2 130 rfl rfl
theorem gy_MA_9 : u_lay R_MA T_MA 9 ∈ G := gT2 132 rfl rfl
theorem gy_MA_10 : u_lay R_MA T_MA 10 ∈ G := gT2 134 rfl rfl
theorem gy_MA_11 : u_lay R_MA T_MA 11 ∈ G := gT2 136 rfl rfl
theorem gy_MA_12 : u_lay R_MA T_MA 12 ∈ G := gT2 138 rfl rfl
theorem i_MA : ∀ w ∈ u_ws R_MA T_MA 13, w ∈ G := by
  intro w hw
  obtain ⟨k, hk, rfl⟩ := List.mem_map.mp hw
  have hk := List.mem_range.mp hk
  match k, hk with
  | 0, _ => exact gy_MA_0
  | 1, _ => exact gy_MA_1
  | 2, _ => exact gy_MA_2
  | 3, _ => exact gy_MA_3
  | 4, _ => exact gy_MA_4
  | 5, _ => exact gy_MA_5
  | 6, _ => exact gy_MA_6
  | 7, _ => exact gy_MA_7
  | 8, _ => exact gy_MA_8
  | 9, _ => exact gy_MA_9
  | 10, _ => exact gy_MA_10
  | 11, _ => exact gy_MA_11
  | 12, _ => exact gy_MA_12
  | k + 13, h => exact absurd h (by omega)
theorem gy_CO_0 : u_lay R_CO T_CO 0 ∈ G := gT2 79 rfl rfl
theorem gy_CO_1 : u_lay R_CO T_CO 1 ∈ G := gT2 81 rfl rfl
theorem gy_CO_2 : u_lay R_CO T_CO 2 ∈ G := gT2 83 rfl rfl
theorem gy_CO_3 : u_lay R_CO T_CO 3 ∈ G := gT2 85 rfl rfl
theorem gy_CO_4 : u_lay R_CO T_CO 4 ∈ G := gT2 87 rfl rfl
theorem i_CO : ∀ w ∈ u_ws R_CO T_CO 5, w ∈ G := by
  intro w hw
  obtain ⟨k, hk, rfl⟩ := List.mem_map.mp hw
  have hk := List.mem_range.mp hk
  match k, hk with
  | 0, _ => exact gy_CO_0
  | 1, _ => exact gy_CO_1
  | 2, _ => exact gy_CO_2
  | 3, _ => exact gy_CO_3
  | 4, _ => exact gy_CO_4
  | k + 5, h => exact absurd h (by omega)
theorem gy_GU_0 : u_lay R_GU T_GU 0 ∈ G := gT2 147 rfl rfl
theorem gy_GU_1 : u_lay R_GU T_GU 1 ∈ G := gT2 149 rfl rfl
theorem gy_GU_2 : u_lay R_GU T_GU 2 ∈ G := gT2 151 rfl rfl
theorem gy_GU_3 : u_lay R_GU T_GU 3 ∈ G := gT2 153 rfl rfl
theorem gy_GU_4 : u_lay R_GU T_GU 4 ∈ G := gT2 155 rfl rfl
theorem i_GU : ∀ w ∈ u_ws R_GU T_GU 5, w ∈ G := by
  intro w hw
  obtain ⟨k, hk, rfl⟩ := List.mem_map.mp hw
  have hk := List.mem_range.mp hk
  match k, hk with
  | 0, _ => exact gy_GU_0
  | 1, _ => exact gy_GU_1
  | 2, _ => exact gy_GU_2
  | 3, _ => exact gy_GU_3
  | 4, _ => exact gy_GU_4
  | k + 5, h => exact absurd h (by omega)
theorem gy_LI_0 : u_lay R_LI T_LI 0 ∈ G := gT1 50 rfl rfl
theorem gy_LI_1 : u_lay R_LI T_LI 1 ∈ G := gT1 52 rfl rfl
theorem gy_LI_2 : u_lay R_LI T_LI 2 ∈ G := gT1 54 rfl rfl
theorem gy_LI_3 : u_lay R_LI T_LI 3 ∈ G := gT1 56 rfl rfl
theorem gy_LI_4 : u_lay R_LI T_LI 4 ∈ G := gT1 58 rfl rfl
theorem gy_LI_5 : u_lay R_LI T_LI 5 ∈ G := gT1 60 rfl rfl
theorem gy_LI_6 : u_lay R_LI T_LI 6 ∈ G := gT1 62 rfl rfl
theorem gy_LI_7 : u_lay R_LI T_LI 7 ∈ G := gT1 64 rfl rfl
theorem gy_LI_8 : u_lay R_LI T_LI 8 ∈ G := gT1 66 rfl rfl
theorem i_LI : ∀ w ∈ u_ws R_LI T_LI 9, w ∈ G := by
  intro w hw
  obtain ⟨k, hk, rfl⟩ := List.mem_map.mp hw
  have hk := List.mem_range.mp hk
  match k, hk with
  | 0, _ => exact gy_LI_0
  | 1, _ => exact gy_LI_1
  | 2, _ => exact gy_LI_2
  | 3, _ => exact gy_LI_3
  | 4, _ => exact gy_LI_4
  | 5, _ => exact gy_LI_5
  | 6, _ => exact gy_LI_6
  | 7, _ => exact gy_LI_7
  | 8, _ => exact gy_LI_8
  | k + 9, h => exact absurd h (by omega)
theorem gy_AS_0 : u_lay R_AS T_AS 0 ∈ G := gT1 86 rfl rfl
theorem gy_AS_1 : u_lay R_AS T_AS 1 ∈ G := gT1 88 rfl rfl
theorem gy_AS_2 : u_lay R_AS T_AS 2 ∈ G := gT1 90 rfl rfl
theorem gy_AS_3 : u_lay R_AS T_AS 3 ∈ G := gT1 92 rfl rfl
theorem gy_AS_4 : u_lay R_AS T_AS 4 ∈ G := gT1 94 rfl rfl
theorem gy_AS_5 : u_lay R_AS T_AS 5 ∈ G := gT1 96 rfl rfl
theorem gy_AS_6 : u_lay R_AS T_AS 6 ∈ G := gT1 98 rfl rfl
theorem gy_AS_7 : u_lay R_AS T_AS 7 ∈ G := gT1 100 rfl rfl
theorem gy_AS_8 : u_lay R_AS T_AS 8 ∈ G := gT1 102 rfl rfl
theorem gy_AS_9 : u_lay R_AS T_AS 9 ∈ G := gT1 104 rfl rfl
theorem gy_AS_10 : u_lay R_AS T_AS 10 ∈ G := gT1 106 rfl rfl
theorem gy_AS_11 : u_lay R_AS T_AS 11 ∈ G := gT1 108 rfl rfl
theorem i_AS : ∀ w ∈ u_ws R_AS T_AS 12, w ∈ G := by
  intro w hw
  obtain ⟨k, hk, rfl⟩ := List.mem_map.mp hw
  have hk := List.mem_range.mp hk
  match k, hk with
  | 0, _ => exact gy_AS_0
  | 1, _ => exact gy_AS_1
  | 2, _ => exact gy_AS_2
  | 3, _ => exact gy_AS_3
  | 4, _ => exact gy_AS_4
  | 5, _ => exact gy_AS_5
  | 6, _ => exact gy_AS_6
  | 7, _ => exact gy_AS_7
  | 8, _ => exact gy_AS_8
  | 9, _ => exact gy_AS_9
  | 10, _ => exact gy_AS_10
  | 11, _ => exact gy_AS_11
  | k + 12, h => exact absurd h (by omega)
theorem gy_GT_0 : u_lay R_GT T_GT 0 ∈ G := gT1 120 rfl rfl
theorem gy_GT_1 : u_lay R_GT T_GT 1 ∈ G := gT1 122 rfl rfl
theorem gy_GT_2 : u_lay R_GT T_GT 2 ∈ G := gT1 124 rfl rfl
theorem gy_GT_3 : u_lay R_GT T_GT 3 ∈ G := gT1 126 rfl rfl
theorem gy_GT_4 : u_lay R_GT T_GT 4 ∈ G := gT1 128 rfl rfl
theorem gy_GT_5 : u_lay R_GT T_GT 5 ∈ G := gT1 130 rfl rfl
theorem i_GT : ∀ w ∈ u_ws R_GT T_GT 6, w ∈ G := by
  intro w hw
  obtain ⟨k, hk, rfl⟩ := List.mem_map.mp hw
  have hk := List.mem_range.mp hk
  match k, hk with
  | 0, _ => exact gy_GT_0
  | 1, _ => exact gy_GT_1
  | 2, _ => exact gy_GT_2
  | 3, _ => exact gy_GT_3
  | 4, _ => exact gy_GT_4
  | 5, _ => exact gy_GT_5
  | k + 6, h => exact absurd h (by omega)
theorem gy_MD_0 : u_lay R_MD T_MD 0 ∈ G := gT3 131 rfl rfl
theorem gy_MD_1 : u_lay R_MD T_MD 1 ∈ G := gT3 133 rfl rfl
theorem gy_MD_2 : u_lay R_MD T_MD 2 ∈ G := gT3 135 rfl rfl
theorem gy_MD_3 : u_lay R_MD T_MD 3 ∈ G := gT3 137 rfl rfl
theorem gy_MD_4 : u_lay R_MD T_MD 4 ∈ G := gT3 139 rfl rfl
theorem gy_MD_5 : u_lay R_MD T_MD 5 ∈ G := gT3 141 rfl rfl
theorem gy_MD_6 : u_lay R_MD T_MD 6 ∈ G := gT3 143 rfl rfl
theorem gy_MD_7 : u_lay R_MD T_MD 7 ∈ G := gT3 145 rfl rfl
theorem gy_MD_8 : u_lay R_MD T_MD 8 ∈ G := gT3 147 rfl rfl
theorem gy_MD_9 : u_lay R_MD T_MD 9 ∈ G := gT3 149 rfl rfl
theorem gy_MD_10 : u_lay R_MD T_MD 10 ∈ G := gT3 151 rfl rfl
theorem gy_MD_11 : u_lay R_MD T_MD 11 ∈ G := gT3 153 rfl rfl
theorem gy_MD_12 : u_lay R_MD T_MD 12 ∈ G := gT3 155 rfl rfl
theorem gy_MD_13 : u_lay R_MD T_MD 13 ∈ G := gT3 157 rfl rfl
theorem gy_MD_14 : u_lay R_MD T_MD 14 ∈ G := gT3 159 rfl rfl
theorem gy_MD_15 : u_lay R_MD T_MD 15 ∈ G := gT3 161 rfl rfl
theorem gy_MD_16 : u_lay R_MD T_MD 16 ∈ G := gT3 163 rfl rfl
theorem gy_MD_17 : u_lay R_MD T_MD 17 ∈ G := gT3 165 rfl rfl
theorem gy_MD_18 : u_lay R_MD T_MD 18 ∈ G := gT3 167 rfl rfl
theorem gy_MD_19 : u_lay R_MD T_MD 19 ∈ G := gT3 169 rfl rfl
theorem gy_MD_20 : u_lay R_MD T_MD 20 ∈ G := gT3 171 rfl rfl
theorem gy_MD_21 : u_lay R_MD T_MD 21 ∈ G := gT3 173 rfl rfl
theorem gy_MD_22 : u_lay R_MD T_MD 22 ∈ G := gT3 175 rfl rfl
theorem gy_MD_23 : u_lay R_MD T_MD 23 ∈ G := gT3 177 rfl rfl
theorem gy_MD_24 : u_lay R_MD T_MD 24 ∈ G := gT3 179 rfl rfl
theorem gy_MD_25 : u_lay R_MD T_MD 25 ∈ G := gT3 181 rfl rfl
theorem gy_MD_26 : u_lay R_MD T_MD 26 ∈ G := gT3 183 rfl rfl
theorem gy_MD_27 : u_lay R_MD T_MD 27 ∈ G := gT3 185 rfl rfl
theorem gy_MD_28 : u_lay R_MD T_MD 28 ∈ G := gT3 187 rfl rfl
theorem gy_MD_29 : u_lay R_MD T_MD 29 ∈ G := gT3 189 rfl rfl
theorem gy_MD_30 : u_lay R_MD T_MD 30 ∈ G := gT3 191 rfl rfl
theorem gy_MD_31 : u_lay R_MD T_MD 31 ∈ G := gT3 193 rfl rfl
theorem gy_MD_32 : u_lay R_MD T_MD 32 ∈ G := gT3 195 rfl rfl
theorem gy_MD_33 : u_lay R_MD T_MD 33 ∈ G := gT3 197 rfl rfl
theorem gy_MD_34 : u_lay R_MD T_MD 34 ∈ G := gT3 199 rfl rfl
theorem gy_MD_35 : u_lay R_MD T_MD 35 ∈ G := gT3 201 rfl rfl
theorem gy_MD_36 : u_lay R_MD T_MD 36 ∈ G := gT3 203 rfl rfl
theorem gy_MD_37 : u_lay R_MD T_MD 37 ∈ G := gT3 205 rfl rfl
theorem gy_MD_38 : u_lay R_MD T_MD 38 ∈ G := gT3 207 rfl rfl
theorem i_MD : ∀ w ∈ u_ws R_MD T_MD 39, w ∈ G := by
  intro w hw
  obtain ⟨k, hk, rfl⟩ := List.mem_map.mp hw
  have hk := List.mem_range.mp hk
  match k, hk with
  | 0, _ => exact gy_MD_0
  | 1, _ => exact gy_MD_1
  | 2, _ => exact gy_MD_2
  | 3, _ => exact gy_MD_3
  | 4, _ => exact gy_MD_4
  | 5, _ => exact gy_MD_5
  | 6, _ => exact gy_MD_6
  | 7, _ => exact gy_MD_7
  | 8, _ => exact gy_MD_8
  | 9, _ => exact gy_MD_9
  | 10, _ => exact gy_MD_10
  | 11, _ => exact gy_MD_11
  | 12, _ => exact gy_MD_12
  | 13, _ => exact gy_MD_13
  | 14, _ => exact gy_MD_14
  | 15, _ => exact gy_MD_15
  | 16, _ => exact gy_MD_16
  | 17, _ => exact gy_MD_17
  | 18, _ => exact gy_MD_18
  | 19, _ => exact gy_MD_19
  | 20, _ => exact gy_MD_20
  | 21, _ => exact gy_MD_21
  | 22, _ => exact gy_MD_22
  | 23, _ => exact gy_MD_23
  | 24, _ => exact gy_MD_24
  | 25, _ => exact gy_MD_25
  | 26, _ => exact gy_MD_26
  | 27, _ => exact gy_MD_27
  | 28, _ => exact gy_MD_28
  | 29, _ => exact gy_MD_29
  | 30, _ => exact gy_MD_30
  | 31, _ => exact gy_MD_31
  | 32, _ => exact gy_MD_32
  | 33, _ => exact gy_MD_33
  | 34, _ => exact gy_MD_34
  | 35, _ => exact gy_MD_35
  | 36, _ => exact gy_MD_36
  | 37, _ => exact gy_MD_37
  | 38, _ => exact gy_MD_38
  | k + 39, h => exact absurd h (by omega)
def nw_all : List Cond := [.fieldLinkNest R_AS 83 "GuestTower$Line" "label" "J" "GuestTower", .fieldLinkNest R_AS 77 "GuestTower$Line" "order" "I" "GuestTower", .fieldLinkNest R_AS 99 "GuestTower$Line" "a" "I" "GuestTower", .fieldLinkNest R_AS 102 "GuestTower$Line" "b" "I" "GuestTower", .fieldLinkNest R_AS 80 "GuestTower$Line" "number" "I" "GuestTower", .fieldLinkNest R_AS 111 "GuestTower$Line" "wanted" "J" "GuestTower", .fieldLinkNest R_GT 55 "GuestTower$Assembler" "words" "[I" "GuestTower", .fieldLinkNest R_GT 58 "GuestTower$Assembler" "here" "I" "GuestTower", .fieldLinkNest R_GT 48 "GuestTower$Assembler" "fault" "I" "GuestTower", .fieldLinkNest R_GT 51 "GuestTower$Assembler" "faultLine" "I" "GuestTower", .fieldLinkNest R_GU 97 "GuestTower$Console" "waiting" "I" "GuestTower", .fieldLinkNest R_GU 92 "GuestTower$Console" "sent" "I" "GuestTower", .fieldLinkNest R_GU 63 "GuestTower$Machine" "memory" "[I" "GuestTower", .fieldLinkNest R_GT 77 "GuestTower$Machine" "console" "LGuestTower$Console;" "GuestTower", .fieldLinkNest R_GU 88 "GuestTower$Machine" "console" "LGuestTower$Console;" "GuestTower", .fieldLinkNest R_GU 60 "GuestTower$Machine" "mode" "I" "GuestTower", .fieldLinkNest R_GU 103 "GuestTower$Machine" "pc" "I" "GuestTower", .fieldLinkNest R_GU 72 "GuestTower$Machine" "base" "I" "GuestTower", .fieldLinkNest R_GU 79 "GuestTower$Machine" "bound" "I" "GuestTower", .fieldLinkNest R_GU 105 "GuestTower$Machine" "timer" "I" "GuestTower", .fieldLinkNest R_GU 85 "GuestTower$Machine" "ranOut" "Z" "GuestTower", .fieldLinkNest R_GU 49 "GuestTower$Machine" "halted" "Z" "GuestTower", .fieldLinkNest R_GT 73 "GuestTower$Guest" "machine" "LGuestTower$Machine;" "GuestTower", .fieldLinkNest R_GU 38 "GuestTower$Monitor" "WORDS" "[I" "GuestTower"]
theorem gn_AS_83 : Cond.fieldLinkNest R_AS 83 "GuestTower$Line" "label" "J" "GuestTower" ∈ nw_all := List.mem_of_getElem? (i := 0) rfl
theorem gn_AS_77 : Cond.fieldLinkNest R_AS 77 "GuestTower$Line" "order" "I" "GuestTower" ∈ nw_all := List.mem_of_getElem? (i := 1) rfl
theorem gn_AS_99 : Cond.fieldLinkNest R_AS 99 "GuestTower$Line" "a" "I" "GuestTower" ∈ nw_all := List.mem_of_getElem? (i := 2) rfl
theorem gn_AS_102 : Cond.fieldLinkNest R_AS 102 "GuestTower$Line" "b" "I" "GuestTower" ∈ nw_all := List.mem_of_getElem? (i := 3) rfl
theorem gn_AS_80 : Cond.fieldLinkNest R_AS 80 "GuestTower$Line" "number" "I" "GuestTower" ∈ nw_all := List.mem_of_getElem? (i := 4) rfl
theorem gn_AS_111 : Cond.fieldLinkNest R_AS 111 "GuestTower$Line" "wanted" "J" "GuestTower" ∈ nw_all := List.mem_of_getElem? (i := 5) rfl
theorem gn_GT_55 : Cond.fieldLinkNest R_GT 55 "GuestTower$Assembler" "words" "[I" "GuestTower" ∈ nw_all := List.mem_of_getElem? (i := 6) rfl
theorem gn_GT_58 : Cond.fieldLinkNest R_GT 58 "GuestTower$Assembler" "here" "I" "GuestTower" ∈ nw_all := List.mem_of_getElem? (i := 7) rfl
theorem gn_GT_48 : Cond.fieldLinkNest R_GT 48 "GuestTower$Assembler" "fault" "I" "GuestTower" ∈ nw_all := List.mem_of_getElem? (i := 8) rfl
theorem gn_GT_51 : Cond.fieldLinkNest R_GT 51 "GuestTower$Assembler" "faultLine" "I" "GuestTower" ∈ nw_all := List.mem_of_getElem? (i := 9) rfl
theorem gn_GU_97 : Cond.fieldLinkNest R_GU 97 "GuestTower$Console" "waiting" "I" "GuestTower" ∈ nw_all := List.mem_of_getElem? (i := 10) rfl
theorem gn_GU_92 : Cond.fieldLinkNest R_GU 92 "GuestTower$Console" "sent" "I" "GuestTower" ∈ nw_all := List.mem_of_getElem? (i := 11) rfl
theorem gn_GU_63 : Cond.fieldLinkNest R_GU 63 "GuestTower$Machine" "memory" "[I" "GuestTower" ∈ nw_all := List.mem_of_getElem? (i := 12) rfl
theorem gn_GT_77 : Cond.fieldLinkNest R_GT 77 "GuestTower$Machine" "console" "LGuestTower$Console;" "GuestTower" ∈ nw_all := List.mem_of_getElem? (i := 13) rfl
theorem gn_GU_88 : Cond.fieldLinkNest R_GU 88 "GuestTower$Machine" "console" "LGuestTower$Console;" "GuestTower" ∈ nw_all := List.mem_of_getElem? (i := 14) rfl
theorem gn_GU_60 : Cond.fieldLinkNest R_GU 60 "GuestTower$Machine" "mode" "I" "GuestTower" ∈ nw_all := List.mem_of_getElem? (i := 15) rfl
theorem gn_GU_103 : Cond.fieldLinkNest R_GU 103 "GuestTower$Machine" "pc" "I" "GuestTower" ∈ nw_all := List.mem_of_getElem? (i := 16) rfl
theorem gn_GU_72 : Cond.fieldLinkNest R_GU 72 "GuestTower$Machine" "base" "I" "GuestTower" ∈ nw_all := List.mem_of_getElem? (i := 17) rfl
theorem gn_GU_79 : Cond.fieldLinkNest R_GU 79 "GuestTower$Machine" "bound" "I" "GuestTower" ∈ nw_all := List.mem_of_getElem? (i := 18) rfl
theorem gn_GU_105 : Cond.fieldLinkNest R_GU 105 "GuestTower$Machine" "timer" "I" "GuestTower" ∈ nw_all := List.mem_of_getElem? (i := 19) rfl
theorem gn_GU_85 : Cond.fieldLinkNest R_GU 85 "GuestTower$Machine" "ranOut" "Z" "GuestTower" ∈ nw_all := List.mem_of_getElem? (i := 20) rfl
theorem gn_GU_49 : Cond.fieldLinkNest R_GU 49 "GuestTower$Machine" "halted" "Z" "GuestTower" ∈ nw_all := List.mem_of_getElem? (i := 21) rfl
theorem gn_GT_73 : Cond.fieldLinkNest R_GT 73 "GuestTower$Guest" "machine" "LGuestTower$Machine;" "GuestTower" ∈ nw_all := List.mem_of_getElem? (i := 22) rfl
theorem gn_GU_38 : Cond.fieldLinkNest R_GU 38 "GuestTower$Monitor" "WORDS" "[I" "GuestTower" ∈ nw_all := List.mem_of_getElem? (i := 23) rfl
theorem nw_tbl : ∀ w ∈ nw_all, w ∈ tables_1 := by decide +kernel
end
section
theorem d_GT_init_0 : decode c_GT_init 0 = .ok (.aload_n 0, 1) := by decide +kernel
theorem d_GT_init_1 : decode c_GT_init 1 = .ok (.invokespecial 1, 3) := by decide +kernel
theorem d_GT_init_4 : decode c_GT_init 4 = .ok (.aload_n 0, 1) := by decide +kernel
theorem d_GT_init_5 : decode c_GT_init 5 = .ok (.sipush 3000, 3) := by decide +kernel
theorem d_GT_init_8 : decode c_GT_init 8 = .ok (.newarray .int, 2) := by decide +kernel
theorem d_GT_init_10 : decode c_GT_init 10 = .ok (.putfield 9, 3) := by decide +kernel
theorem d_GT_init_13 : decode c_GT_init 13 = .ok (.aload_n 0, 1) := by decide +kernel
theorem d_GT_init_14 : decode c_GT_init 14 = .ok (.iconst 0, 1) := by decide +kernel
theorem d_GT_init_15 : decode c_GT_init 15 = .ok (.putfield 13, 3) := by decide +kernel
theorem d_GT_init_18 : decode c_GT_init 18 = .ok (.aload_n 0, 1) := by decide +kernel
theorem d_GT_init_19 : decode c_GT_init 19 = .ok (.new 17, 3) := by decide +kernel
theorem d_GT_init_22 : decode c_GT_init 22 = .ok (.dup, 1) := by decide +kernel
theorem d_GT_init_23 : decode c_GT_init 23 = .ok (.invokespecial 19, 3) := by decide +kernel
theorem d_GT_init_26 : decode c_GT_init 26 = .ok (.putfield 20, 3) := by decide +kernel
theorem d_GT_init_29 : decode c_GT_init 29 = .ok (.aload_n 0, 1) := by decide +kernel
theorem d_GT_init_30 : decode c_GT_init 30 = .ok (.iconst 3, 1) := by decide +kernel
theorem d_GT_init_31 : decode c_GT_init 31 = .ok (.anewarray 24, 3) := by decide +kernel
theorem d_GT_init_34 : decode c_GT_init 34 = .ok (.putfield 26, 3) := by decide +kernel
theorem d_GT_init_37 : decode c_GT_init 37 = .ok (.aload_n 0, 1) := by decide +kernel
theorem d_GT_init_38 : decode c_GT_init 38 = .ok (.iconst (-1), 1) := by decide +kernel
theorem d_GT_init_39 : decode c_GT_init 39 = .ok (.putfield 30, 3) := by decide +kernel
theorem d_GT_init_42 : decode c_GT_init 42 = .ok (.aload_n 0, 1) := by decide +kernel
theorem d_GT_init_43 : decode c_GT_init 43 = .ok (.iconst (-1), 1) := by decide +kernel
theorem d_GT_init_44 : decode c_GT_init 44 = .ok (.putfield 33, 3) := by decide +kernel
theorem d_GT_init_47 : decode c_GT_init 47 = .ok (.return_, 1) := by decide +kernel
theorem d_GT_feed_0 : decode c_GT_feed 0 = .ok (.aload_n 0, 1) := by decide +kernel
theorem d_GT_feed_1 : decode c_GT_feed 1 = .ok (.getfield 13, 3) := by decide +kernel
theorem d_GT_feed_4 : decode c_GT_feed 4 = .ok (.bipush 20, 2) := by decide +kernel
theorem d_GT_feed_6 : decode c_GT_feed 6 = .ok (.iadd, 1) := by decide +kernel
theorem d_GT_feed_7 : decode c_GT_feed 7 = .ok (.sipush 3000, 3) := by decide +kernel
theorem d_GT_feed_10 : decode c_GT_feed 10 = .ok (.if_icmp .le 5, 3) := by decide +kernel
theorem d_GT_feed_13 : decode c_GT_feed 13 = .ok (.iconst (-1), 1) := by decide +kernel
theorem d_GT_feed_14 : decode c_GT_feed 14 = .ok (.ireturn, 1) := by decide +kernel
theorem d_GT_feed_15 : decode c_GT_feed 15 = .ok (.aload_n 0, 1) := by decide +kernel
theorem d_GT_feed_16 : decode c_GT_feed 16 = .ok (.iload_n 1, 1) := by decide +kernel
theorem d_GT_feed_17 : decode c_GT_feed 17 = .ok (.invokevirtual 36, 3) := by decide +kernel
theorem d_GT_feed_20 : decode c_GT_feed 20 = .ok (.aload_n 0, 1) := by decide +kernel
theorem d_GT_feed_21 : decode c_GT_feed 21 = .ok (.iload_n 2, 1) := by decide +kernel
theorem d_GT_feed_22 : decode c_GT_feed 22 = .ok (.invokevirtual 36, 3) := by decide +kernel
theorem d_GT_feed_25 : decode c_GT_feed 25 = .ok (.aload_n 0, 1) := by decide +kernel
theorem d_GT_feed_26 : decode c_GT_feed 26 = .ok (.iload_n 3, 1) := by decide +kernel
theorem d_GT_feed_27 : decode c_GT_feed 27 = .ok (.invokevirtual 36, 3) := by decide +kernel
theorem d_GT_feed_30 : decode c_GT_feed 30 = .ok (.aload_n 0, 1) := by decide +kernel
theorem d_GT_feed_31 : decode c_GT_feed 31 = .ok (.iload 4, 2) := by decide +kernel
theorem d_GT_feed_33 : decode c_GT_feed 33 = .ok (.invokevirtual 36, 3) := by decide +kernel
theorem d_GT_feed_36 : decode c_GT_feed 36 = .ok (.aload_n 0, 1) := by decide +kernel
theorem d_GT_feed_37 : decode c_GT_feed 37 = .ok (.iload 5, 2) := by decide +kernel
theorem d_GT_feed_39 : decode c_GT_feed 39 = .ok (.invokevirtual 36, 3) := by decide +kernel
theorem d_GT_feed_42 : decode c_GT_feed 42 = .ok (.aload_n 0, 1) := by decide +kernel
theorem d_GT_feed_43 : decode c_GT_feed 43 = .ok (.getfield 13, 3) := by decide +kernel
theorem d_GT_feed_46 : decode c_GT_feed 46 = .ok (.ireturn, 1) := by decide +kernel
theorem d_GT_load_0 : decode c_GT_load 0 = .ok (.iload_n 1, 1) := by decide +kernel
theorem d_GT_load_1 : decode c_GT_load 1 = .ok (.invokestatic 40, 3) := by decide +kernel
theorem d_GT_load_4 : decode c_GT_load 4 = .ok (.ifCond .eq 16, 3) := by decide +kernel
theorem d_GT_load_7 : decode c_GT_load 7 = .ok (.iload_n 2, 1) := by decide +kernel
theorem d_GT_load_8 : decode c_GT_load 8 = .ok (.bipush 64, 2) := by decide +kernel
theorem d_GT_load_10 : decode c_GT_load 10 = .ok (.if_icmp .lt 10, 3) := by decide +kernel
theorem d_GT_load_13 : decode c_GT_load 13 = .ok (.iload_n 2, 1) := by decide +kernel
theorem d_GT_load_14 : decode c_GT_load 14 = .ok (.sipush 1024, 3) := by decide +kernel
theorem d_GT_load_17 : decode c_GT_load 17 = .ok (.if_icmp .le 6, 3) := by decide +kernel
theorem d_GT_load_20 : decode c_GT_load 20 = .ok (.bipush (-2), 2) := by decide +kernel
theorem d_GT_load_22 : decode c_GT_load 22 = .ok (.ireturn, 1) := by decide +kernel
theorem d_GT_load_23 : decode c_GT_load 23 = .ok (.iload_n 3, 1) := by decide +kernel
theorem d_GT_load_24 : decode c_GT_load 24 = .ok (.ifCond .lt 22, 3) := by decide +kernel
theorem d_GT_load_27 : decode c_GT_load 27 = .ok (.iload_n 3, 1) := by decide +kernel
theorem d_GT_load_28 : decode c_GT_load 28 = .ok (.iconst 2, 1) := by decide +kernel
theorem d_GT_load_29 : decode c_GT_load 29 = .ok (.if_icmp .gt 17, 3) := by decide +kernel
theorem d_GT_load_32 : decode c_GT_load 32 = .ok (.iload 4, 2) := by decide +kernel
theorem d_GT_load_34 : decode c_GT_load 34 = .ok (.ifCond .lt 12, 3) := by decide +kernel
theorem d_GT_load_37 : decode c_GT_load 37 = .ok (.iload 4, 2) := by decide +kernel
theorem d_GT_load_39 : decode c_GT_load 39 = .ok (.aload_n 0, 1) := by decide +kernel
theorem d_GT_load_40 : decode c_GT_load 40 = .ok (.getfield 13, 3) := by decide +kernel
theorem d_GT_load_43 : decode c_GT_load 43 = .ok (.if_icmp .le 6, 3) := by decide +kernel
theorem d_GT_load_46 : decode c_GT_load 46 = .ok (.bipush (-2), 2) := by decide +kernel
theorem d_GT_load_48 : decode c_GT_load 48 = .ok (.ireturn, 1) := by decide +kernel
theorem d_GT_load_49 : decode c_GT_load 49 = .ok (.aload_n 0, 1) := by decide +kernel
theorem d_GT_load_50 : decode c_GT_load 50 = .ok (.getfield 20, 3) := by decide +kernel
theorem d_GT_load_53 : decode c_GT_load 53 = .ok (.aload_n 0, 1) := by decide +kernel
theorem d_GT_load_54 : decode c_GT_load 54 = .ok (.getfield 9, 3) := by decide +kernel
theorem d_GT_load_57 : decode c_GT_load 57 = .ok (.iload 4, 2) := by decide +kernel
theorem d_GT_load_59 : decode c_GT_load 59 = .ok (.iload_n 2, 1) := by decide +kernel
theorem d_GT_load_60 : decode c_GT_load 60 = .ok (.invokevirtual 44, 3) := by decide +kernel
theorem d_GT_load_63 : decode c_GT_load 63 = .ok (.aload_n 0, 1) := by decide +kernel
theorem d_GT_load_64 : decode c_GT_load 64 = .ok (.iconst 0, 1) := by decide +kernel
theorem d_GT_load_65 : decode c_GT_load 65 = .ok (.putfield 13, 3) := by decide +kernel
theorem d_GT_load_68 : decode c_GT_load 68 = .ok (.aload_n 0, 1) := by decide +kernel
theorem d_GT_load_69 : decode c_GT_load 69 = .ok (.aload_n 0, 1) := by decide +kernel
theorem d_GT_load_70 : decode c_GT_load 70 = .ok (.getfield 20, 3) := by decide +kernel
theorem d_GT_load_73 : decode c_GT_load 73 = .ok (.getfield 48, 3) := by decide +kernel
theorem d_GT_load_76 : decode c_GT_load 76 = .ok (.putfield 30, 3) := by decide +kernel
theorem d_GT_load_79 : decode c_GT_load 79 = .ok (.aload_n 0, 1) := by decide +kernel
theorem d_GT_load_80 : decode c_GT_load 80 = .ok (.aload_n 0, 1) := by decide +kernel
theorem d_GT_load_81 : decode c_GT_load 81 = .ok (.getfield 20, 3) := by decide +kernel
theorem d_GT_load_84 : decode c_GT_load 84 = .ok (.getfield 51, 3) := by decide +kernel
theorem d_GT_load_87 : decode c_GT_load 87 = .ok (.putfield 33, 3) := by decide +kernel
theorem d_GT_load_90 : decode c_GT_load 90 = .ok (.aload_n 0, 1) := by decide +kernel
theorem d_GT_load_91 : decode c_GT_load 91 = .ok (.getfield 30, 3) := by decide +kernel
theorem d_GT_load_94 : decode c_GT_load 94 = .ok (.ifCond .eq 5, 3) := by decide +kernel
theorem d_GT_load_97 : decode c_GT_load 97 = .ok (.iconst (-1), 1) := by decide +kernel
theorem d_GT_load_98 : decode c_GT_load 98 = .ok (.ireturn, 1) := by decide +kernel
theorem d_GT_load_99 : decode c_GT_load 99 = .ok (.aload_n 0, 1) := by decide +kernel
theorem d_GT_load_100 : decode c_GT_load 100 = .ok (.getfield 26, 3) := by decide +kernel
theorem d_GT_load_103 : decode c_GT_load 103 = .ok (.iload_n 1, 1) := by decide +kernel
theorem d_GT_load_104 : decode c_GT_load 104 = .ok (.aaload, 1) := by decide +kernel
theorem d_GT_load_105 : decode c_GT_load 105 = .ok (.ifnonnull 13, 3) := by decide +kernel
theorem d_GT_load_108 : decode c_GT_load 108 = .ok (.new 24, 3) := by decide +kernel
theorem d_GT_load_111 : decode c_GT_load 111 = .ok (.dup, 1) := by decide +kernel
theorem d_GT_load_112 : decode c_GT_load 112 = .ok (.invokespecial 54, 3) := by decide +kernel
theorem d_GT_load_115 : decode c_GT_load 115 = .ok (.goto 9, 3) := by decide +kernel
theorem d_GT_load_118 : decode c_GT_load 118 = .ok (.aload_n 0, 1) := by decide +kernel
theorem d_GT_load_119 : decode c_GT_load 119 = .ok (.getfield 26, 3) := by decide +kernel
theorem d_GT_load_122 : decode c_GT_load 122 = .ok (.iload_n 1, 1) := by decide +kernel
theorem d_GT_load_123 : decode c_GT_load 123 = .ok (.aaload, 1) := by decide +kernel
theorem d_GT_load_124 : decode c_GT_load 124 = .ok (.astore 5, 2) := by decide +kernel
theorem d_GT_load_126 : decode c_GT_load 126 = .ok (.aload 5, 2) := by decide +kernel
theorem d_GT_load_128 : decode c_GT_load 128 = .ok (.aload_n 0, 1) := by decide +kernel
theorem d_GT_load_129 : decode c_GT_load 129 = .ok (.getfield 20, 3) := by decide +kernel
theorem d_GT_load_132 : decode c_GT_load 132 = .ok (.getfield 55, 3) := by decide +kernel
theorem d_GT_load_135 : decode c_GT_load 135 = .ok (.aload_n 0, 1) := by decide +kernel
theorem d_GT_load_136 : decode c_GT_load 136 = .ok (.getfield 20, 3) := by decide +kernel
theorem d_GT_load_139 : decode c_GT_load 139 = .ok (.getfield 58, 3) := by decide +kernel
theorem d_GT_load_142 : decode c_GT_load 142 = .ok (.iload_n 2, 1) := by decide +kernel
theorem d_GT_load_143 : decode c_GT_load 143 = .ok (.iload_n 3, 1) := by decide +kernel
theorem d_GT_load_144 : decode c_GT_load 144 = .ok (.invokevirtual 61, 3) := by decide +kernel
theorem d_GT_load_147 : decode c_GT_load 147 = .ok (.aload_n 0, 1) := by decide +kernel
theorem d_GT_load_148 : decode c_GT_load 148 = .ok (.getfield 26, 3) := by decide +kernel
theorem d_GT_load_151 : decode c_GT_load 151 = .ok (.iload_n 1, 1) := by decide +kernel
theorem d_GT_load_152 : decode c_GT_load 152 = .ok (.aload 5, 2) := by decide +kernel
theorem d_GT_load_154 : decode c_GT_load 154 = .ok (.aastore, 1) := by decide +kernel
theorem d_GT_load_155 : decode c_GT_load 155 = .ok (.aload_n 0, 1) := by decide +kernel
theorem d_GT_load_156 : decode c_GT_load 156 = .ok (.getfield 20, 3) := by decide +kernel
theorem d_GT_load_159 : decode c_GT_load 159 = .ok (.getfield 58, 3) := by decide +kernel
theorem d_GT_load_162 : decode c_GT_load 162 = .ok (.ireturn, 1) := by decide +kernel
theorem d_GT_fault_0 : decode c_GT_fault 0 = .ok (.iload_n 1, 1) := by decide +kernel
theorem d_GT_fault_1 : decode c_GT_fault 1 = .ok (.lookupswitch 37 #[(0, 27), (1, 32)], 27) := by decide +kernel
theorem d_GT_fault_28 : decode c_GT_fault 28 = .ok (.aload_n 0, 1) := by decide +kernel
theorem d_GT_fault_29 : decode c_GT_fault 29 = .ok (.getfield 30, 3) := by decide +kernel
theorem d_GT_fault_32 : decode c_GT_fault 32 = .ok (.ireturn, 1) := by decide +kernel
theorem d_GT_fault_33 : decode c_GT_fault 33 = .ok (.aload_n 0, 1) := by decide +kernel
theorem d_GT_fault_34 : decode c_GT_fault 34 = .ok (.getfield 33, 3) := by decide +kernel
theorem d_GT_fault_37 : decode c_GT_fault 37 = .ok (.ireturn, 1) := by decide +kernel
theorem d_GT_fault_38 : decode c_GT_fault 38 = .ok (.iconst (-1), 1) := by decide +kernel
theorem d_GT_fault_39 : decode c_GT_fault 39 = .ok (.ireturn, 1) := by decide +kernel
theorem d_GT_run_0 : decode c_GT_run 0 = .ok (.aload_n 0, 1) := by decide +kernel
theorem d_GT_run_1 : decode c_GT_run 1 = .ok (.iload_n 1, 1) := by decide +kernel
theorem d_GT_run_2 : decode c_GT_run 2 = .ok (.invokevirtual 65, 3) := by decide +kernel
theorem d_GT_run_5 : decode c_GT_run 5 = .ok (.astore_n 3, 1) := by decide +kernel
theorem d_GT_run_6 : decode c_GT_run 6 = .ok (.aload_n 3, 1) := by decide +kernel
theorem d_GT_run_7 : decode c_GT_run 7 = .ok (.ifnull 14, 3) := by decide +kernel
theorem d_GT_run_10 : decode c_GT_run 10 = .ok (.iload_n 2, 1) := by decide +kernel
theorem d_GT_run_11 : decode c_GT_run 11 = .ok (.ifCond .lt 10, 3) := by decide +kernel
theorem d_GT_run_14 : decode c_GT_run 14 = .ok (.iload_n 2, 1) := by decide +kernel
theorem d_GT_run_15 : decode c_GT_run 15 = .ok (.sipush 5000, 3) := by decide +kernel
theorem d_GT_run_18 : decode c_GT_run 18 = .ok (.if_icmp .le 5, 3) := by decide +kernel
theorem d_GT_run_21 : decode c_GT_run 21 = .ok (.iconst (-1), 1) := by decide +kernel
theorem d_GT_run_22 : decode c_GT_run 22 = .ok (.ireturn, 1) := by decide +kernel
theorem d_GT_run_23 : decode c_GT_run 23 = .ok (.aload_n 3, 1) := by decide +kernel
theorem d_GT_run_24 : decode c_GT_run 24 = .ok (.iload_n 2, 1) := by decide +kernel
theorem d_GT_run_25 : decode c_GT_run 25 = .ok (.invokevirtual 69, 3) := by decide +kernel
theorem d_GT_run_28 : decode c_GT_run 28 = .ok (.ireturn, 1) := by decide +kernel
theorem d_GT_type_0 : decode c_GT_type 0 = .ok (.aload_n 0, 1) := by decide +kernel
theorem d_GT_type_1 : decode c_GT_type 1 = .ok (.iload_n 1, 1) := by decide +kernel
theorem d_GT_type_2 : decode c_GT_type 2 = .ok (.invokevirtual 65, 3) := by decide +kernel
theorem d_GT_type_5 : decode c_GT_type 5 = .ok (.astore_n 3, 1) := by decide +kernel
theorem d_GT_type_6 : decode c_GT_type 6 = .ok (.aload_n 3, 1) := by decide +kernel
theorem d_GT_type_7 : decode c_GT_type 7 = .ok (.ifnull 14, 3) := by decide +kernel
theorem d_GT_type_10 : decode c_GT_type 10 = .ok (.iload_n 2, 1) := by decide +kernel
theorem d_GT_type_11 : decode c_GT_type 11 = .ok (.ifCond .lt 10, 3) := by decide +kernel
theorem d_GT_type_14 : decode c_GT_type 14 = .ok (.iload_n 2, 1) := by decide +kernel
theorem d_GT_type_15 : decode c_GT_type 15 = .ok (.sipush 255, 3) := by decide +kernel
theorem d_GT_type_18 : decode c_GT_type 18 = .ok (.if_icmp .le 5, 3) := by decide +kernel
theorem d_GT_type_21 : decode c_GT_type 21 = .ok (.iconst 0, 1) := by decide +kernel
theorem d_GT_type_22 : decode c_GT_type 22 = .ok (.ireturn, 1) := by decide +kernel
theorem d_GT_type_23 : decode c_GT_type 23 = .ok (.aload_n 3, 1) := by decide +kernel
theorem d_GT_type_24 : decode c_GT_type 24 = .ok (.getfield 73, 3) := by decide +kernel
theorem d_GT_type_27 : decode c_GT_type 27 = .ok (.getfield 77, 3) := by decide +kernel
theorem d_GT_type_30 : decode c_GT_type 30 = .ok (.iload_n 2, 1) := by decide +kernel
theorem d_GT_type_31 : decode c_GT_type 31 = .ok (.invokevirtual 83, 3) := by decide +kernel
theorem d_GT_type_34 : decode c_GT_type 34 = .ok (.ireturn, 1) := by decide +kernel
theorem d_GT_look_0 : decode c_GT_look 0 = .ok (.aload_n 0, 1) := by decide +kernel
theorem d_GT_look_1 : decode c_GT_look 1 = .ok (.iload_n 1, 1) := by decide +kernel
theorem d_GT_look_2 : decode c_GT_look 2 = .ok (.invokevirtual 65, 3) := by decide +kernel
theorem d_GT_look_5 : decode c_GT_look 5 = .ok (.astore_n 3, 1) := by decide +kernel
theorem d_GT_look_6 : decode c_GT_look 6 = .ok (.aload_n 3, 1) := by decide +kernel
theorem d_GT_look_7 : decode c_GT_look 7 = .ok (.ifnonnull 7, 3) := by decide +kernel
theorem d_GT_look_10 : decode c_GT_look 10 = .ok (.iconst (-1), 1) := by decide +kernel
theorem d_GT_look_11 : decode c_GT_look 11 = .ok (.goto 8, 3) := by decide +kernel
theorem d_GT_look_14 : decode c_GT_look 14 = .ok (.aload_n 3, 1) := by decide +kernel
theorem d_GT_look_15 : decode c_GT_look 15 = .ok (.iload_n 2, 1) := by decide +kernel
theorem d_GT_look_16 : decode c_GT_look 16 = .ok (.invokevirtual 88, 3) := by decide +kernel
theorem d_GT_look_19 : decode c_GT_look 19 = .ok (.ireturn, 1) := by decide +kernel
theorem d_GT_word_0 : decode c_GT_word 0 = .ok (.aload_n 0, 1) := by decide +kernel
theorem d_GT_word_1 : decode c_GT_word 1 = .ok (.iload_n 1, 1) := by decide +kernel
theorem d_GT_word_2 : decode c_GT_word 2 = .ok (.invokevirtual 65, 3) := by decide +kernel
theorem d_GT_word_5 : decode c_GT_word 5 = .ok (.astore_n 3, 1) := by decide +kernel
theorem d_GT_word_6 : decode c_GT_word 6 = .ok (.aload_n 3, 1) := by decide +kernel
theorem d_GT_word_7 : decode c_GT_word 7 = .ok (.ifnonnull 7, 3) := by decide +kernel
theorem d_GT_word_10 : decode c_GT_word 10 = .ok (.iconst (-1), 1) := by decide +kernel
theorem d_GT_word_11 : decode c_GT_word 11 = .ok (.goto 8, 3) := by decide +kernel
theorem d_GT_word_14 : decode c_GT_word 14 = .ok (.aload_n 3, 1) := by decide +kernel
theorem d_GT_word_15 : decode c_GT_word 15 = .ok (.iload_n 2, 1) := by decide +kernel
theorem d_GT_word_16 : decode c_GT_word 16 = .ok (.invokevirtual 91, 3) := by decide +kernel
theorem d_GT_word_19 : decode c_GT_word 19 = .ok (.ireturn, 1) := by decide +kernel
theorem d_GT_output_0 : decode c_GT_output 0 = .ok (.aload_n 0, 1) := by decide +kernel
theorem d_GT_output_1 : decode c_GT_output 1 = .ok (.iload_n 1, 1) := by decide +kernel
theorem d_GT_output_2 : decode c_GT_output 2 = .ok (.invokevirtual 65, 3) := by decide +kernel
theorem d_GT_output_5 : decode c_GT_output 5 = .ok (.astore_n 3, 1) := by decide +kernel
theorem d_GT_output_6 : decode c_GT_output 6 = .ok (.aload_n 3, 1) := by decide +kernel
theorem d_GT_output_7 : decode c_GT_output 7 = .ok (.ifnonnull 7, 3) := by decide +kernel
theorem d_GT_output_10 : decode c_GT_output 10 = .ok (.iconst (-1), 1) := by decide +kernel
theorem d_GT_output_11 : decode c_GT_output 11 = .ok (.goto 14, 3) := by decide +kernel
theorem d_GT_output_14 : decode c_GT_output 14 = .ok (.aload_n 3, 1) := by decide +kernel
theorem d_GT_output_15 : decode c_GT_output 15 = .ok (.getfield 73, 3) := by decide +kernel
theorem d_GT_output_18 : decode c_GT_output 18 = .ok (.getfield 77, 3) := by decide +kernel
theorem d_GT_output_21 : decode c_GT_output 21 = .ok (.iload_n 2, 1) := by decide +kernel
theorem d_GT_output_22 : decode c_GT_output 22 = .ok (.invokevirtual 94, 3) := by decide +kernel
theorem d_GT_output_25 : decode c_GT_output 25 = .ok (.ireturn, 1) := by decide +kernel
theorem d_GT_disk_0 : decode c_GT_disk 0 = .ok (.aload_n 0, 1) := by decide +kernel
theorem d_GT_disk_1 : decode c_GT_disk 1 = .ok (.iload_n 1, 1) := by decide +kernel
theorem d_GT_disk_2 : decode c_GT_disk 2 = .ok (.invokevirtual 65, 3) := by decide +kernel
theorem d_GT_disk_5 : decode c_GT_disk 5 = .ok (.astore 4, 2) := by decide +kernel
theorem d_GT_disk_7 : decode c_GT_disk 7 = .ok (.aload 4, 2) := by decide +kernel
theorem d_GT_disk_9 : decode c_GT_disk 9 = .ok (.ifnonnull 7, 3) := by decide +kernel
theorem d_GT_disk_12 : decode c_GT_disk 12 = .ok (.iconst (-1), 1) := by decide +kernel
theorem d_GT_disk_13 : decode c_GT_disk 13 = .ok (.goto 13, 3) := by decide +kernel
theorem d_GT_disk_16 : decode c_GT_disk 16 = .ok (.aload 4, 2) := by decide +kernel
theorem d_GT_disk_18 : decode c_GT_disk 18 = .ok (.getfield 73, 3) := by decide +kernel
theorem d_GT_disk_21 : decode c_GT_disk 21 = .ok (.iload_n 2, 1) := by decide +kernel
theorem d_GT_disk_22 : decode c_GT_disk 22 = .ok (.iload_n 3, 1) := by decide +kernel
theorem d_GT_disk_23 : decode c_GT_disk 23 = .ok (.invokevirtual 97, 3) := by decide +kernel
theorem d_GT_disk_26 : decode c_GT_disk 26 = .ok (.ireturn, 1) := by decide +kernel
theorem d_GT_putOnTape_0 : decode c_GT_putOnTape 0 = .ok (.bipush 24, 2) := by decide +kernel
theorem d_GT_putOnTape_2 : decode c_GT_putOnTape 2 = .ok (.istore_n 2, 1) := by decide +kernel
theorem d_GT_putOnTape_3 : decode c_GT_putOnTape 3 = .ok (.iload_n 2, 1) := by decide +kernel
theorem d_GT_putOnTape_4 : decode c_GT_putOnTape 4 = .ok (.ifCond .lt 35, 3) := by decide +kernel
theorem d_GT_putOnTape_7 : decode c_GT_putOnTape 7 = .ok (.aload_n 0, 1) := by decide +kernel
theorem d_GT_putOnTape_8 : decode c_GT_putOnTape 8 = .ok (.getfield 9, 3) := by decide +kernel
theorem d_GT_putOnTape_11 : decode c_GT_putOnTape 11 = .ok (.aload_n 0, 1) := by decide +kernel
theorem d_GT_putOnTape_12 : decode c_GT_putOnTape 12 = .ok (.getfield 13, 3) := by decide +kernel
theorem d_GT_putOnTape_15 : decode c_GT_putOnTape 15 = .ok (.iload_n 1, 1) := by decide +kernel
theorem d_GT_putOnTape_16 : decode c_GT_putOnTape 16 = .ok (.iload_n 2, 1) := by decide +kernel
theorem d_GT_putOnTape_17 : decode c_GT_putOnTape 17 = .ok (.iushr, 1) := by decide +kernel
theorem d_GT_putOnTape_18 : decode c_GT_putOnTape 18 = .ok (.sipush 255, 3) := by decide +kernel
theorem d_GT_putOnTape_21 : decode c_GT_putOnTape 21 = .ok (.iand, 1) := by decide +kernel
theorem d_GT_putOnTape_22 : decode c_GT_putOnTape 22 = .ok (.iastore, 1) := by decide +kernel
theorem d_GT_putOnTape_23 : decode c_GT_putOnTape 23 = .ok (.aload_n 0, 1) := by decide +kernel
theorem d_GT_putOnTape_24 : decode c_GT_putOnTape 24 = .ok (.dup, 1) := by decide +kernel
theorem d_GT_putOnTape_25 : decode c_GT_putOnTape 25 = .ok (.getfield 13, 3) := by decide +kernel
theorem d_GT_putOnTape_28 : decode c_GT_putOnTape 28 = .ok (.iconst 1, 1) := by decide +kernel
theorem d_GT_putOnTape_29 : decode c_GT_putOnTape 29 = .ok (.iadd, 1) := by decide +kernel
theorem d_GT_putOnTape_30 : decode c_GT_putOnTape 30 = .ok (.putfield 13, 3) := by decide +kernel
theorem d_GT_putOnTape_33 : decode c_GT_putOnTape 33 = .ok (.iinc 2 (-8), 3) := by decide +kernel
theorem d_GT_putOnTape_36 : decode c_GT_putOnTape 36 = .ok (.goto (-33), 3) := by decide +kernel
theorem d_GT_putOnTape_39 : decode c_GT_putOnTape 39 = .ok (.return_, 1) := by decide +kernel
theorem d_GT_isGuest_0 : decode c_GT_isGuest 0 = .ok (.iload_n 0, 1) := by decide +kernel
theorem d_GT_isGuest_1 : decode c_GT_isGuest 1 = .ok (.ifCond .lt 12, 3) := by decide +kernel
theorem d_GT_isGuest_4 : decode c_GT_isGuest 4 = .ok (.iload_n 0, 1) := by decide +kernel
theorem d_GT_isGuest_5 : decode c_GT_isGuest 5 = .ok (.iconst 3, 1) := by decide +kernel
theorem d_GT_isGuest_6 : decode c_GT_isGuest 6 = .ok (.if_icmp .ge 7, 3) := by decide +kernel
theorem d_GT_isGuest_9 : decode c_GT_isGuest 9 = .ok (.iconst 1, 1) := by decide +kernel
theorem d_GT_isGuest_10 : decode c_GT_isGuest 10 = .ok (.goto 4, 3) := by decide +kernel
theorem d_GT_isGuest_13 : decode c_GT_isGuest 13 = .ok (.iconst 0, 1) := by decide +kernel
theorem d_GT_isGuest_14 : decode c_GT_isGuest 14 = .ok (.ireturn, 1) := by decide +kernel
theorem d_GT_guestAt_0 : decode c_GT_guestAt 0 = .ok (.iload_n 1, 1) := by decide +kernel
theorem d_GT_guestAt_1 : decode c_GT_guestAt 1 = .ok (.invokestatic 40, 3) := by decide +kernel
theorem d_GT_guestAt_4 : decode c_GT_guestAt 4 = .ok (.ifCond .eq 12, 3) := by decide +kernel
theorem d_GT_guestAt_7 : decode c_GT_guestAt 7 = .ok (.aload_n 0, 1) := by decide +kernel
theorem d_GT_guestAt_8 : decode c_GT_guestAt 8 = .ok (.getfield 26, 3) := by decide +kernel
theorem d_GT_guestAt_11 : decode c_GT_guestAt 11 = .ok (.iload_n 1, 1) := by decide +kernel
theorem d_GT_guestAt_12 : decode c_GT_guestAt 12 = .ok (.aaload, 1) := by decide +kernel
theorem d_GT_guestAt_13 : decode c_GT_guestAt 13 = .ok (.goto 4, 3) := by decide +kernel
theorem d_GT_guestAt_16 : decode c_GT_guestAt 16 = .ok (.aconst_null, 1) := by decide +kernel
theorem d_GT_guestAt_17 : decode c_GT_guestAt 17 = .ok (.areturn, 1) := by decide +kernel
theorem d_CO_init_0 : decode c_CO_init 0 = .ok (.aload_n 0, 1) := by decide +kernel
theorem d_CO_init_1 : decode c_CO_init 1 = .ok (.invokespecial 3, 3) := by decide +kernel
theorem d_CO_init_4 : decode c_CO_init 4 = .ok (.aload_n 0, 1) := by decide +kernel
theorem d_CO_init_5 : decode c_CO_init 5 = .ok (.bipush 100, 2) := by decide +kernel
theorem d_CO_init_7 : decode c_CO_init 7 = .ok (.newarray .int, 2) := by decide +kernel
theorem d_CO_init_9 : decode c_CO_init 9 = .ok (.putfield 11, 3) := by decide +kernel
theorem d_CO_init_12 : decode c_CO_init 12 = .ok (.aload_n 0, 1) := by decide +kernel
theorem d_CO_init_13 : decode c_CO_init 13 = .ok (.sipush 500, 3) := by decide +kernel
theorem d_CO_init_16 : decode c_CO_init 16 = .ok (.newarray .int, 2) := by decide +kernel
theorem d_CO_init_18 : decode c_CO_init 18 = .ok (.putfield 15, 3) := by decide +kernel
theorem d_CO_init_21 : decode c_CO_init 21 = .ok (.return_, 1) := by decide +kernel
theorem d_CO_clear_0 : decode c_CO_clear 0 = .ok (.aload_n 0, 1) := by decide +kernel
theorem d_CO_clear_1 : decode c_CO_clear 1 = .ok (.iconst 0, 1) := by decide +kernel
theorem d_CO_clear_2 : decode c_CO_clear 2 = .ok (.putfield 18, 3) := by decide +kernel
theorem d_CO_clear_5 : decode c_CO_clear 5 = .ok (.aload_n 0, 1) := by decide +kernel
theorem d_CO_clear_6 : decode c_CO_clear 6 = .ok (.iconst 0, 1) := by decide +kernel
theorem d_CO_clear_7 : decode c_CO_clear 7 = .ok (.putfield 22, 3) := by decide +kernel
theorem d_CO_clear_10 : decode c_CO_clear 10 = .ok (.aload_n 0, 1) := by decide +kernel
theorem d_CO_clear_11 : decode c_CO_clear 11 = .ok (.iconst 0, 1) := by decide +kernel
theorem d_CO_clear_12 : decode c_CO_clear 12 = .ok (.putfield 25, 3) := by decide +kernel
theorem d_CO_clear_15 : decode c_CO_clear 15 = .ok (.return_, 1) := by decide +kernel
theorem d_CO_isTaken_0 : decode c_CO_isTaken 0 = .ok (.aload_n 0, 1) := by decide +kernel
theorem d_CO_isTaken_1 : decode c_CO_isTaken 1 = .ok (.getfield 22, 3) := by decide +kernel
theorem d_CO_isTaken_4 : decode c_CO_isTaken 4 = .ok (.bipush 100, 2) := by decide +kernel
theorem d_CO_isTaken_6 : decode c_CO_isTaken 6 = .ok (.if_icmp .lt 5, 3) := by decide +kernel
theorem d_CO_isTaken_9 : decode c_CO_isTaken 9 = .ok (.iconst 0, 1) := by decide +kernel
theorem d_CO_isTaken_10 : decode c_CO_isTaken 10 = .ok (.ireturn, 1) := by decide +kernel
theorem d_CO_isTaken_11 : decode c_CO_isTaken 11 = .ok (.aload_n 0, 1) := by decide +kernel
theorem d_CO_isTaken_12 : decode c_CO_isTaken 12 = .ok (.getfield 11, 3) := by decide +kernel
theorem d_CO_isTaken_15 : decode c_CO_isTaken 15 = .ok (.aload_n 0, 1) := by decide +kernel
theorem d_CO_isTaken_16 : decode c_CO_isTaken 16 = .ok (.getfield 18, 3) := by decide +kernel
theorem d_CO_isTaken_19 : decode c_CO_isTaken 19 = .ok (.aload_n 0, 1) := by decide +kernel
theorem d_CO_isTaken_20 : decode c_CO_isTaken 20 = .ok (.getfield 22, 3) := by decide +kernel
theorem d_CO_isTaken_23 : decode c_CO_isTaken 23 = .ok (.iadd, 1) := by decide +kernel
theorem d_CO_isTaken_24 : decode c_CO_isTaken 24 = .ok (.bipush 100, 2) := by decide +kernel
theorem d_CO_isTaken_26 : decode c_CO_isTaken 26 = .ok (.irem, 1) := by decide +kernel
theorem d_CO_isTaken_27 : decode c_CO_isTaken 27 = .ok (.iload_n 1, 1) := by decide +kernel
theorem d_CO_isTaken_28 : decode c_CO_isTaken 28 = .ok (.iastore, 1) := by decide +kernel
theorem d_CO_isTaken_29 : decode c_CO_isTaken 29 = .ok (.aload_n 0, 1) := by decide +kernel
theorem d_CO_isTaken_30 : decode c_CO_isTaken 30 = .ok (.dup, 1) := by decide +kernel
theorem d_CO_isTaken_31 : decode c_CO_isTaken 31 = .ok (.getfield 22, 3) := by decide +kernel
theorem d_CO_isTaken_34 : decode c_CO_isTaken 34 = .ok (.iconst 1, 1) := by decide +kernel
theorem d_CO_isTaken_35 : decode c_CO_isTaken 35 = .ok (.iadd, 1) := by decide +kernel
theorem d_CO_isTaken_36 : decode c_CO_isTaken 36 = .ok (.putfield 22, 3) := by decide +kernel
theorem d_CO_isTaken_39 : decode c_CO_isTaken 39 = .ok (.iconst 1, 1) := by decide +kernel
theorem d_CO_isTaken_40 : decode c_CO_isTaken 40 = .ok (.ireturn, 1) := by decide +kernel
theorem d_CO_nextTyped_0 : decode c_CO_nextTyped 0 = .ok (.aload_n 0, 1) := by decide +kernel
theorem d_CO_nextTyped_1 : decode c_CO_nextTyped 1 = .ok (.getfield 22, 3) := by decide +kernel
theorem d_CO_nextTyped_4 : decode c_CO_nextTyped 4 = .ok (.ifCond .ne 6, 3) := by decide +kernel
theorem d_CO_nextTyped_7 : decode c_CO_nextTyped 7 = .ok (.ldc 28, 2) := by decide +kernel
theorem d_CO_nextTyped_9 : decode c_CO_nextTyped 9 = .ok (.ireturn, 1) := by decide +kernel
theorem d_CO_nextTyped_10 : decode c_CO_nextTyped 10 = .ok (.aload_n 0, 1) := by decide +kernel
theorem d_CO_nextTyped_11 : decode c_CO_nextTyped 11 = .ok (.getfield 11, 3) := by decide +kernel
theorem d_CO_nextTyped_14 : decode c_CO_nextTyped 14 = .ok (.aload_n 0, 1) := by decide +kernel
theorem d_CO_nextTyped_15 : decode c_CO_nextTyped 15 = .ok (.getfield 18, 3) := by decide +kernel
theorem d_CO_nextTyped_18 : decode c_CO_nextTyped 18 = .ok (.iaload, 1) := by decide +kernel
theorem d_CO_nextTyped_19 : decode c_CO_nextTyped 19 = .ok (.istore_n 1, 1) := by decide +kernel
theorem d_CO_nextTyped_20 : decode c_CO_nextTyped 20 = .ok (.aload_n 0, 1) := by decide +kernel
theorem d_CO_nextTyped_21 : decode c_CO_nextTyped 21 = .ok (.aload_n 0, 1) := by decide +kernel
theorem d_CO_nextTyped_22 : decode c_CO_nextTyped 22 = .ok (.getfield 18, 3) := by decide +kernel
theorem d_CO_nextTyped_25 : decode c_CO_nextTyped 25 = .ok (.iconst 1, 1) := by decide +kernel
theorem d_CO_nextTyped_26 : decode c_CO_nextTyped 26 = .ok (.iadd, 1) := by decide +kernel
theorem d_CO_nextTyped_27 : decode c_CO_nextTyped 27 = .ok (.bipush 100, 2) := by decide +kernel
theorem d_CO_nextTyped_29 : decode c_CO_nextTyped 29 = .ok (.irem, 1) := by decide +kernel
theorem d_CO_nextTyped_30 : decode c_CO_nextTyped 30 = .ok (.putfield 18, 3) := by decide +kernel
theorem d_CO_nextTyped_33 : decode c_CO_nextTyped 33 = .ok (.aload_n 0, 1) := by decide +kernel
theorem d_CO_nextTyped_34 : decode c_CO_nextTyped 34 = .ok (.dup, 1) := by decide +kernel
theorem d_CO_nextTyped_35 : decode c_CO_nextTyped 35 = .ok (.getfield 22, 3) := by decide +kernel
theorem d_CO_nextTyped_38 : decode c_CO_nextTyped 38 = .ok (.iconst 1, 1) := by decide +kernel
theorem d_CO_nextTyped_39 : decode c_CO_nextTyped 39 = .ok (.isub, 1) := by decide +kernel
theorem d_CO_nextTyped_40 : decode c_CO_nextTyped 40 = .ok (.putfield 22, 3) := by decide +kernel
theorem d_CO_nextTyped_43 : decode c_CO_nextTyped 43 = .ok (.iload_n 1, 1) := by decide +kernel
theorem d_CO_nextTyped_44 : decode c_CO_nextTyped 44 = .ok (.ireturn, 1) := by decide +kernel
theorem d_CO_send_0 : decode c_CO_send 0 = .ok (.aload_n 0, 1) := by decide +kernel
theorem d_CO_send_1 : decode c_CO_send 1 = .ok (.getfield 25, 3) := by decide +kernel
theorem d_CO_send_4 : decode c_CO_send 4 = .ok (.sipush 500, 3) := by decide +kernel
theorem d_CO_send_7 : decode c_CO_send 7 = .ok (.if_icmp .ge 13, 3) := by decide +kernel
theorem d_CO_send_10 : decode c_CO_send 10 = .ok (.aload_n 0, 1) := by decide +kernel
theorem d_CO_send_11 : decode c_CO_send 11 = .ok (.getfield 15, 3) := by decide +kernel
theorem d_CO_send_14 : decode c_CO_send 14 = .ok (.aload_n 0, 1) := by decide +kernel
theorem d_CO_send_15 : decode c_CO_send 15 = .ok (.getfield 25, 3) := by decide +kernel
theorem d_CO_send_18 : decode c_CO_send 18 = .ok (.iload_n 1, 1) := by decide +kernel
theorem d_CO_send_19 : decode c_CO_send 19 = .ok (.iastore, 1) := by decide +kernel
theorem d_CO_send_20 : decode c_CO_send 20 = .ok (.aload_n 0, 1) := by decide +kernel
theorem d_CO_send_21 : decode c_CO_send 21 = .ok (.dup, 1) := by decide +kernel
theorem d_CO_send_22 : decode c_CO_send 22 = .ok (.getfield 25, 3) := by decide +kernel
theorem d_CO_send_25 : decode c_CO_send 25 = .ok (.iconst 1, 1) := by decide +kernel
theorem d_CO_send_26 : decode c_CO_send 26 = .ok (.iadd, 1) := by decide +kernel
theorem d_CO_send_27 : decode c_CO_send 27 = .ok (.putfield 25, 3) := by decide +kernel
theorem d_CO_send_30 : decode c_CO_send 30 = .ok (.return_, 1) := by decide +kernel
theorem d_CO_sentByte_0 : decode c_CO_sentByte 0 = .ok (.iload_n 1, 1) := by decide +kernel
theorem d_CO_sentByte_1 : decode c_CO_sentByte 1 = .ok (.ifCond .lt 18, 3) := by decide +kernel
theorem d_CO_sentByte_4 : decode c_CO_sentByte 4 = .ok (.iload_n 1, 1) := by decide +kernel
theorem d_CO_sentByte_5 : decode c_CO_sentByte 5 = .ok (.aload_n 0, 1) := by decide +kernel
theorem d_CO_sentByte_6 : decode c_CO_sentByte 6 = .ok (.getfield 25, 3) := by decide +kernel
theorem d_CO_sentByte_9 : decode c_CO_sentByte 9 = .ok (.if_icmp .ge 10, 3) := by decide +kernel
theorem d_CO_sentByte_12 : decode c_CO_sentByte 12 = .ok (.iload_n 1, 1) := by decide +kernel
theorem d_CO_sentByte_13 : decode c_CO_sentByte 13 = .ok (.sipush 500, 3) := by decide +kernel
theorem d_CO_sentByte_16 : decode c_CO_sentByte 16 = .ok (.if_icmp .lt 7, 3) := by decide +kernel
theorem d_CO_sentByte_19 : decode c_CO_sentByte 19 = .ok (.iconst (-1), 1) := by decide +kernel
theorem d_CO_sentByte_20 : decode c_CO_sentByte 20 = .ok (.goto 9, 3) := by decide +kernel
theorem d_CO_sentByte_23 : decode c_CO_sentByte 23 = .ok (.aload_n 0, 1) := by decide +kernel
theorem d_CO_sentByte_24 : decode c_CO_sentByte 24 = .ok (.getfield 15, 3) := by decide +kernel
theorem d_CO_sentByte_27 : decode c_CO_sentByte 27 = .ok (.iload_n 1, 1) := by decide +kernel
theorem d_CO_sentByte_28 : decode c_CO_sentByte 28 = .ok (.iaload, 1) := by decide +kernel
theorem d_CO_sentByte_29 : decode c_CO_sentByte 29 = .ok (.ireturn, 1) := by decide +kernel
theorem d_GU_init_0 : decode c_GU_init 0 = .ok (.aload_n 0, 1) := by decide +kernel
theorem d_GU_init_1 : decode c_GU_init 1 = .ok (.invokespecial 3, 3) := by decide +kernel
theorem d_GU_init_4 : decode c_GU_init 4 = .ok (.aload_n 0, 1) := by decide +kernel
theorem d_GU_init_5 : decode c_GU_init 5 = .ok (.new 9, 3) := by decide +kernel
theorem d_GU_init_8 : decode c_GU_init 8 = .ok (.dup, 1) := by decide +kernel
theorem d_GU_init_9 : decode c_GU_init 9 = .ok (.sipush 1844, 3) := by decide +kernel
theorem d_GU_init_12 : decode c_GU_init 12 = .ok (.invokespecial 13, 3) := by decide +kernel
theorem d_GU_init_15 : decode c_GU_init 15 = .ok (.putfield 16, 3) := by decide +kernel
theorem d_GU_init_18 : decode c_GU_init 18 = .ok (.aload_n 0, 1) := by decide +kernel
theorem d_GU_init_19 : decode c_GU_init 19 = .ok (.iconst 0, 1) := by decide +kernel
theorem d_GU_init_20 : decode c_GU_init 20 = .ok (.putfield 22, 3) := by decide +kernel
theorem d_GU_init_23 : decode c_GU_init 23 = .ok (.aload_n 0, 1) := by decide +kernel
theorem d_GU_init_24 : decode c_GU_init 24 = .ok (.iconst 0, 1) := by decide +kernel
theorem d_GU_init_25 : decode c_GU_init 25 = .ok (.putfield 26, 3) := by decide +kernel
theorem d_GU_init_28 : decode c_GU_init 28 = .ok (.aload_n 0, 1) := by decide +kernel
theorem d_GU_init_29 : decode c_GU_init 29 = .ok (.iconst 0, 1) := by decide +kernel
theorem d_GU_init_30 : decode c_GU_init 30 = .ok (.putfield 29, 3) := by decide +kernel
theorem d_GU_init_33 : decode c_GU_init 33 = .ok (.aload_n 0, 1) := by decide +kernel
theorem d_GU_init_34 : decode c_GU_init 34 = .ok (.iconst 0, 1) := by decide +kernel
theorem d_GU_init_35 : decode c_GU_init 35 = .ok (.putfield 32, 3) := by decide +kernel
theorem d_GU_init_38 : decode c_GU_init 38 = .ok (.return_, 1) := by decide +kernel
theorem d_GU_begin_0 : decode c_GU_begin 0 = .ok (.aload_n 0, 1) := by decide +kernel
theorem d_GU_begin_1 : decode c_GU_begin 1 = .ok (.iload_n 3, 1) := by decide +kernel
theorem d_GU_begin_2 : decode c_GU_begin 2 = .ok (.putfield 22, 3) := by decide +kernel
theorem d_GU_begin_5 : decode c_GU_begin 5 = .ok (.aload_n 0, 1) := by decide +kernel
theorem d_GU_begin_6 : decode c_GU_begin 6 = .ok (.iload 4, 2) := by decide +kernel
theorem d_GU_begin_8 : decode c_GU_begin 8 = .ok (.putfield 26, 3) := by decide +kernel
theorem d_GU_begin_11 : decode c_GU_begin 11 = .ok (.aload_n 0, 1) := by decide +kernel
theorem d_GU_begin_12 : decode c_GU_begin 12 = .ok (.iload 4, 2) := by decide +kernel
theorem d_GU_begin_14 : decode c_GU_begin 14 = .ok (.sipush 410, 3) := by decide +kernel
theorem d_GU_begin_17 : decode c_GU_begin 17 = .ok (.imul, 1) := by decide +kernel
theorem d_GU_begin_18 : decode c_GU_begin 18 = .ok (.putfield 29, 3) := by decide +kernel
theorem d_GU_begin_21 : decode c_GU_begin 21 = .ok (.aload_n 0, 1) := by decide +kernel
theorem d_GU_begin_22 : decode c_GU_begin 22 = .ok (.iconst 0, 1) := by decide +kernel
theorem d_GU_begin_23 : decode c_GU_begin 23 = .ok (.putfield 32, 3) := by decide +kernel
theorem d_GU_begin_26 : decode c_GU_begin 26 = .ok (.aload_n 0, 1) := by decide +kernel
theorem d_GU_begin_27 : decode c_GU_begin 27 = .ok (.getfield 16, 3) := by decide +kernel
theorem d_GU_begin_30 : decode c_GU_begin 30 = .ok (.aload_n 0, 1) := by decide +kernel
theorem d_GU_begin_31 : decode c_GU_begin 31 = .ok (.getfield 29, 3) := by decide +kernel
theorem d_GU_begin_34 : decode c_GU_begin 34 = .ok (.iload_n 3, 1) := by decide +kernel
theorem d_GU_begin_35 : decode c_GU_begin 35 = .ok (.iadd, 1) := by decide +kernel
theorem d_GU_begin_36 : decode c_GU_begin 36 = .ok (.invokevirtual 35, 3) := by decide +kernel
theorem d_GU_begin_39 : decode c_GU_begin 39 = .ok (.iconst 0, 1) := by decide +kernel
theorem d_GU_begin_40 : decode c_GU_begin 40 = .ok (.istore 5, 2) := by decide +kernel
theorem d_GU_begin_42 : decode c_GU_begin 42 = .ok (.iload 5, 2) := by decide +kernel
theorem d_GU_begin_44 : decode c_GU_begin 44 = .ok (.iload 4, 2) := by decide +kernel
theorem d_GU_begin_46 : decode c_GU_begin 46 = .ok (.if_icmp .ge 28, 3) := by decide +kernel
theorem d_GU_begin_49 : decode c_GU_begin 49 = .ok (.aload_n 0, 1) := by decide +kernel
theorem d_GU_begin_50 : decode c_GU_begin 50 = .ok (.getfield 16, 3) := by decide +kernel
theorem d_GU_begin_53 : decode c_GU_begin 53 = .ok (.getstatic 38, 3) := by decide +kernel
theorem d_GU_begin_56 : decode c_GU_begin 56 = .ok (.sipush 410, 3) := by decide +kernel
theorem d_GU_begin_59 : decode c_GU_begin 59 = .ok (.iload 5, 2) := by decide +kernel
theorem d_GU_begin_61 : decode c_GU_begin 61 = .ok (.sipush 410, 3) := by decide +kernel
theorem d_GU_begin_64 : decode c_GU_begin 64 = .ok (.imul, 1) := by decide +kernel
theorem d_GU_begin_65 : decode c_GU_begin 65 = .ok (.invokevirtual 42, 3) := by decide +kernel
theorem d_GU_begin_68 : decode c_GU_begin 68 = .ok (.iinc 5 1, 3) := by decide +kernel
theorem d_GU_begin_71 : decode c_GU_begin 71 = .ok (.goto (-29), 3) := by decide +kernel
theorem d_GU_begin_74 : decode c_GU_begin 74 = .ok (.aload_n 0, 1) := by decide +kernel
theorem d_GU_begin_75 : decode c_GU_begin 75 = .ok (.getfield 16, 3) := by decide +kernel
theorem d_GU_begin_78 : decode c_GU_begin 78 = .ok (.aload_n 1, 1) := by decide +kernel
theorem d_GU_begin_79 : decode c_GU_begin 79 = .ok (.iload_n 2, 1) := by decide +kernel
theorem d_GU_begin_80 : decode c_GU_begin 80 = .ok (.aload_n 0, 1) := by decide +kernel
theorem d_GU_begin_81 : decode c_GU_begin 81 = .ok (.getfield 29, 3) := by decide +kernel
theorem d_GU_begin_84 : decode c_GU_begin 84 = .ok (.invokevirtual 42, 3) := by decide +kernel
theorem d_GU_begin_87 : decode c_GU_begin 87 = .ok (.aload_n 0, 1) := by decide +kernel
theorem d_GU_begin_88 : decode c_GU_begin 88 = .ok (.invokevirtual 46, 3) := by decide +kernel
theorem d_GU_begin_91 : decode c_GU_begin 91 = .ok (.return_, 1) := by decide +kernel
theorem d_GU_advance_0 : decode c_GU_advance 0 = .ok (.iconst 0, 1) := by decide +kernel
theorem d_GU_advance_1 : decode c_GU_advance 1 = .ok (.istore_n 2, 1) := by decide +kernel
theorem d_GU_advance_2 : decode c_GU_advance 2 = .ok (.iload_n 2, 1) := by decide +kernel
theorem d_GU_advance_3 : decode c_GU_advance 3 = .ok (.iload_n 1, 1) := by decide +kernel
theorem d_GU_advance_4 : decode c_GU_advance 4 = .ok (.if_icmp .ge 30, 3) := by decide +kernel
theorem d_GU_advance_7 : decode c_GU_advance 7 = .ok (.aload_n 0, 1) := by decide +kernel
theorem d_GU_advance_8 : decode c_GU_advance 8 = .ok (.getfield 16, 3) := by decide +kernel
theorem d_GU_advance_11 : decode c_GU_advance 11 = .ok (.getfield 49, 3) := by decide +kernel
theorem d_GU_advance_14 : decode c_GU_advance 14 = .ok (.ifCond .ne 20, 3) := by decide +kernel
theorem d_GU_advance_17 : decode c_GU_advance 17 = .ok (.aload_n 0, 1) := by decide +kernel
theorem d_GU_advance_18 : decode c_GU_advance 18 = .ok (.getfield 16, 3) := by decide +kernel
theorem d_GU_advance_21 : decode c_GU_advance 21 = .ok (.invokevirtual 53, 3) := by decide +kernel
theorem d_GU_advance_24 : decode c_GU_advance 24 = .ok (.aload_n 0, 1) := by decide +kernel
theorem d_GU_advance_25 : decode c_GU_advance 25 = .ok (.invokevirtual 46, 3) := by decide +kernel
theorem d_GU_advance_28 : decode c_GU_advance 28 = .ok (.iinc 2 1, 3) := by decide +kernel
theorem d_GU_advance_31 : decode c_GU_advance 31 = .ok (.goto (-29), 3) := by decide +kernel
theorem d_GU_advance_34 : decode c_GU_advance 34 = .ok (.aload_n 0, 1) := by decide +kernel
theorem d_GU_advance_35 : decode c_GU_advance 35 = .ok (.dup, 1) := by decide +kernel
theorem d_GU_advance_36 : decode c_GU_advance 36 = .ok (.getfield 32, 3) := by decide +kernel
theorem d_GU_advance_39 : decode c_GU_advance 39 = .ok (.iload_n 2, 1) := by decide +kernel
theorem d_GU_advance_40 : decode c_GU_advance 40 = .ok (.iadd, 1) := by decide +kernel
theorem d_GU_advance_41 : decode c_GU_advance 41 = .ok (.putfield 32, 3) := by decide +kernel
theorem d_GU_advance_44 : decode c_GU_advance 44 = .ok (.iload_n 2, 1) := by decide +kernel
theorem d_GU_advance_45 : decode c_GU_advance 45 = .ok (.ireturn, 1) := by decide +kernel
theorem d_GU_awaitTurn_0 : decode c_GU_awaitTurn 0 = .ok (.iconst 0, 1) := by decide +kernel
theorem d_GU_awaitTurn_1 : decode c_GU_awaitTurn 1 = .ok (.istore_n 1, 1) := by decide +kernel
theorem d_GU_awaitTurn_2 : decode c_GU_awaitTurn 2 = .ok (.iload_n 1, 1) := by decide +kernel
theorem d_GU_awaitTurn_3 : decode c_GU_awaitTurn 3 = .ok (.sipush 10000, 3) := by decide +kernel
theorem d_GU_awaitTurn_6 : decode c_GU_awaitTurn 6 = .ok (.if_icmp .ge 23, 3) := by decide +kernel
theorem d_GU_awaitTurn_9 : decode c_GU_awaitTurn 9 = .ok (.aload_n 0, 1) := by decide +kernel
theorem d_GU_awaitTurn_10 : decode c_GU_awaitTurn 10 = .ok (.invokevirtual 56, 3) := by decide +kernel
theorem d_GU_awaitTurn_13 : decode c_GU_awaitTurn 13 = .ok (.ifCond .ne 16, 3) := by decide +kernel
theorem d_GU_awaitTurn_16 : decode c_GU_awaitTurn 16 = .ok (.aload_n 0, 1) := by decide +kernel
theorem d_GU_awaitTurn_17 : decode c_GU_awaitTurn 17 = .ok (.getfield 16, 3) := by decide +kernel
theorem d_GU_awaitTurn_20 : decode c_GU_awaitTurn 20 = .ok (.invokevirtual 53, 3) := by decide +kernel
theorem d_GU_awaitTurn_23 : decode c_GU_awaitTurn 23 = .ok (.iinc 1 1, 3) := by decide +kernel
theorem d_GU_awaitTurn_26 : decode c_GU_awaitTurn 26 = .ok (.goto (-24), 3) := by decide +kernel
theorem d_GU_awaitTurn_29 : decode c_GU_awaitTurn 29 = .ok (.return_, 1) := by decide +kernel
theorem d_GU_isTurn_0 : decode c_GU_isTurn 0 = .ok (.aload_n 0, 1) := by decide +kernel
theorem d_GU_isTurn_1 : decode c_GU_isTurn 1 = .ok (.getfield 26, 3) := by decide +kernel
theorem d_GU_isTurn_4 : decode c_GU_isTurn 4 = .ok (.ifCond .eq 13, 3) := by decide +kernel
theorem d_GU_isTurn_7 : decode c_GU_isTurn 7 = .ok (.aload_n 0, 1) := by decide +kernel
theorem d_GU_isTurn_8 : decode c_GU_isTurn 8 = .ok (.getfield 16, 3) := by decide +kernel
theorem d_GU_isTurn_11 : decode c_GU_isTurn 11 = .ok (.getfield 49, 3) := by decide +kernel
theorem d_GU_isTurn_14 : decode c_GU_isTurn 14 = .ok (.ifCond .eq 5, 3) := by decide +kernel
theorem d_GU_isTurn_17 : decode c_GU_isTurn 17 = .ok (.iconst 1, 1) := by decide +kernel
theorem d_GU_isTurn_18 : decode c_GU_isTurn 18 = .ok (.ireturn, 1) := by decide +kernel
theorem d_GU_isTurn_19 : decode c_GU_isTurn 19 = .ok (.aload_n 0, 1) := by decide +kernel
theorem d_GU_isTurn_20 : decode c_GU_isTurn 20 = .ok (.getfield 16, 3) := by decide +kernel
theorem d_GU_isTurn_23 : decode c_GU_isTurn 23 = .ok (.getfield 60, 3) := by decide +kernel
theorem d_GU_isTurn_26 : decode c_GU_isTurn 26 = .ok (.iconst 1, 1) := by decide +kernel
theorem d_GU_isTurn_27 : decode c_GU_isTurn 27 = .ok (.if_icmp .eq 5, 3) := by decide +kernel
theorem d_GU_isTurn_30 : decode c_GU_isTurn 30 = .ok (.iconst 0, 1) := by decide +kernel
theorem d_GU_isTurn_31 : decode c_GU_isTurn 31 = .ok (.ireturn, 1) := by decide +kernel
theorem d_GU_isTurn_32 : decode c_GU_isTurn 32 = .ok (.aload_n 0, 1) := by decide +kernel
theorem d_GU_isTurn_33 : decode c_GU_isTurn 33 = .ok (.getfield 26, 3) := by decide +kernel
theorem d_GU_isTurn_36 : decode c_GU_isTurn 36 = .ok (.iconst 1, 1) := by decide +kernel
theorem d_GU_isTurn_37 : decode c_GU_isTurn 37 = .ok (.if_icmp .eq 17, 3) := by decide +kernel
theorem d_GU_isTurn_40 : decode c_GU_isTurn 40 = .ok (.aload_n 0, 1) := by decide +kernel
theorem d_GU_isTurn_41 : decode c_GU_isTurn 41 = .ok (.getfield 16, 3) := by decide +kernel
theorem d_GU_isTurn_44 : decode c_GU_isTurn 44 = .ok (.getfield 63, 3) := by decide +kernel
theorem d_GU_isTurn_47 : decode c_GU_isTurn 47 = .ok (.bipush 10, 2) := by decide +kernel
theorem d_GU_isTurn_49 : decode c_GU_isTurn 49 = .ok (.iaload, 1) := by decide +kernel
theorem d_GU_isTurn_50 : decode c_GU_isTurn 50 = .ok (.iconst 1, 1) := by decide +kernel
theorem d_GU_isTurn_51 : decode c_GU_isTurn 51 = .ok (.if_icmp .ne 7, 3) := by decide +kernel
theorem d_GU_isTurn_54 : decode c_GU_isTurn 54 = .ok (.iconst 1, 1) := by decide +kernel
theorem d_GU_isTurn_55 : decode c_GU_isTurn 55 = .ok (.goto 4, 3) := by decide +kernel
theorem d_GU_isTurn_58 : decode c_GU_isTurn 58 = .ok (.iconst 0, 1) := by decide +kernel
theorem d_GU_isTurn_59 : decode c_GU_isTurn 59 = .ok (.ireturn, 1) := by decide +kernel
theorem d_GU_told_0 : decode c_GU_told 0 = .ok (.iload_n 1, 1) := by decide +kernel
theorem d_GU_told_1 : decode c_GU_told 1 = .ok (.tableswitch 195 0 11 #[63, 68, 73, 97, 121, 126, 142, 158, 163, 174, 185, 190], 63) := by decide +kernel
theorem d_GU_told_64 : decode c_GU_told 64 = .ok (.aload_n 0, 1) := by decide +kernel
theorem d_GU_told_65 : decode c_GU_told 65 = .ok (.invokevirtual 66, 3) := by decide +kernel
theorem d_GU_told_68 : decode c_GU_told 68 = .ok (.ireturn, 1) := by decide +kernel
theorem d_GU_told_69 : decode c_GU_told 69 = .ok (.aload_n 0, 1) := by decide +kernel
theorem d_GU_told_70 : decode c_GU_told 70 = .ok (.invokevirtual 69, 3) := by decide +kernel
theorem d_GU_told_73 : decode c_GU_told 73 = .ok (.ireturn, 1) := by decide +kernel
theorem d_GU_told_74 : decode c_GU_told 74 = .ok (.aload_n 0, 1) := by decide +kernel
theorem d_GU_told_75 : decode c_GU_told 75 = .ok (.getfield 26, 3) := by decide +kernel
theorem d_GU_told_78 : decode c_GU_told 78 = .ok (.ifCond .ne 13, 3) := by decide +kernel
theorem d_GU_told_81 : decode c_GU_told 81 = .ok (.aload_n 0, 1) := by decide +kernel
theorem d_GU_told_82 : decode c_GU_told 82 = .ok (.getfield 16, 3) := by decide +kernel
theorem d_GU_told_85 : decode c_GU_told 85 = .ok (.getfield 72, 3) := by decide +kernel
theorem d_GU_told_88 : decode c_GU_told 88 = .ok (.goto 9, 3) := by decide +kernel
theorem d_GU_told_91 : decode c_GU_told 91 = .ok (.aload_n 0, 1) := by decide +kernel
theorem d_GU_told_92 : decode c_GU_told 92 = .ok (.bipush 11, 2) := by decide +kernel
theorem d_GU_told_94 : decode c_GU_told 94 = .ok (.invokevirtual 75, 3) := by decide +kernel
theorem d_GU_told_97 : decode c_GU_told 97 = .ok (.ireturn, 1) := by decide +kernel
theorem d_GU_told_98 : decode c_GU_told 98 = .ok (.aload_n 0, 1) := by decide +kernel
theorem d_GU_told_99 : decode c_GU_told 99 = .ok (.getfield 26, 3) := by decide +kernel
theorem d_GU_told_102 : decode c_GU_told 102 = .ok (.ifCond .ne 13, 3) := by decide +kernel
theorem d_GU_told_105 : decode c_GU_told 105 = .ok (.aload_n 0, 1) := by decide +kernel
theorem d_GU_told_106 : decode c_GU_told 106 = .ok (.getfield 16, 3) := by decide +kernel
theorem d_GU_told_109 : decode c_GU_told 109 = .ok (.getfield 79, 3) := by decide +kernel
theorem d_GU_told_112 : decode c_GU_told 112 = .ok (.goto 9, 3) := by decide +kernel
theorem d_GU_told_115 : decode c_GU_told 115 = .ok (.aload_n 0, 1) := by decide +kernel
theorem d_GU_told_116 : decode c_GU_told 116 = .ok (.bipush 12, 2) := by decide +kernel
theorem d_GU_told_118 : decode c_GU_told 118 = .ok (.invokevirtual 75, 3) := by decide +kernel
theorem d_GU_told_121 : decode c_GU_told 121 = .ok (.ireturn, 1) := by decide +kernel
theorem d_GU_told_122 : decode c_GU_told 122 = .ok (.aload_n 0, 1) := by decide +kernel
theorem d_GU_told_123 : decode c_GU_told 123 = .ok (.invokevirtual 82, 3) := by decide +kernel
theorem d_GU_told_126 : decode c_GU_told 126 = .ok (.ireturn, 1) := by decide +kernel
theorem d_GU_told_127 : decode c_GU_told 127 = .ok (.aload_n 0, 1) := by decide +kernel
theorem d_GU_told_128 : decode c_GU_told 128 = .ok (.getfield 16, 3) := by decide +kernel
theorem d_GU_told_131 : decode c_GU_told 131 = .ok (.getfield 85, 3) := by decide +kernel
theorem d_GU_told_134 : decode c_GU_told 134 = .ok (.ifCond .eq 7, 3) := by decide +kernel
theorem d_GU_told_137 : decode c_GU_told 137 = .ok (.iconst 1, 1) := by decide +kernel
theorem d_GU_told_138 : decode c_GU_told 138 = .ok (.goto 4, 3) := by decide +kernel
theorem d_GU_told_141 : decode c_GU_told 141 = .ok (.iconst 0, 1) := by decide +kernel
theorem d_GU_told_142 : decode c_GU_told 142 = .ok (.ireturn, 1) := by decide +kernel
theorem d_GU_told_143 : decode c_GU_told 143 = .ok (.aload_n 0, 1) := by decide +kernel
theorem d_GU_told_144 : decode c_GU_told 144 = .ok (.getfield 16, 3) := by decide +kernel
theorem d_GU_told_147 : decode c_GU_told 147 = .ok (.getfield 49, 3) := by decide +kernel
theorem d_GU_told_150 : decode c_GU_told 150 = .ok (.ifCond .eq 7, 3) := by decide +kernel
theorem d_GU_told_153 : decode c_GU_told 153 = .ok (.iconst 1, 1) := by decide +kernel
theorem d_GU_told_154 : decode c_GU_told 154 = .ok (.goto 4, 3) := by decide +kernel
theorem d_GU_told_157 : decode c_GU_told 157 = .ok (.iconst 0, 1) := by decide +kernel
theorem d_GU_told_158 : decode c_GU_told 158 = .ok (.ireturn, 1) := by decide +kernel
theorem d_GU_told_159 : decode c_GU_told 159 = .ok (.aload_n 0, 1) := by decide +kernel
theorem d_GU_told_160 : decode c_GU_told 160 = .ok (.getfield 32, 3) := by decide +kernel
theorem d_GU_told_163 : decode c_GU_told 163 = .ok (.ireturn, 1) := by decide +kernel
theorem d_GU_told_164 : decode c_GU_told 164 = .ok (.aload_n 0, 1) := by decide +kernel
theorem d_GU_told_165 : decode c_GU_told 165 = .ok (.getfield 16, 3) := by decide +kernel
theorem d_GU_told_168 : decode c_GU_told 168 = .ok (.getfield 88, 3) := by decide +kernel
theorem d_GU_told_171 : decode c_GU_told 171 = .ok (.getfield 92, 3) := by decide +kernel
theorem d_GU_told_174 : decode c_GU_told 174 = .ok (.ireturn, 1) := by decide +kernel
theorem d_GU_told_175 : decode c_GU_told 175 = .ok (.aload_n 0, 1) := by decide +kernel
theorem d_GU_told_176 : decode c_GU_told 176 = .ok (.getfield 16, 3) := by decide +kernel
theorem d_GU_told_179 : decode c_GU_told 179 = .ok (.getfield 88, 3) := by decide +kernel
theorem d_GU_told_182 : decode c_GU_told 182 = .ok (.getfield 97, 3) := by decide +kernel
theorem d_GU_told_185 : decode c_GU_told 185 = .ok (.ireturn, 1) := by decide +kernel
theorem d_GU_told_186 : decode c_GU_told 186 = .ok (.aload_n 0, 1) := by decide +kernel
theorem d_GU_told_187 : decode c_GU_told 187 = .ok (.getfield 22, 3) := by decide +kernel
theorem d_GU_told_190 : decode c_GU_told 190 = .ok (.ireturn, 1) := by decide +kernel
theorem d_GU_told_191 : decode c_GU_told 191 = .ok (.aload_n 0, 1) := by decide +kernel
theorem d_GU_told_192 : decode c_GU_told 192 = .ok (.getfield 26, 3) := by decide +kernel
theorem d_GU_told_195 : decode c_GU_told 195 = .ok (.ireturn, 1) := by decide +kernel
theorem d_GU_told_196 : decode c_GU_told 196 = .ok (.aload_n 0, 1) := by decide +kernel
theorem d_GU_told_197 : decode c_GU_told 197 = .ok (.getfield 16, 3) := by decide +kernel
theorem d_GU_told_200 : decode c_GU_told 200 = .ok (.iload_n 1, 1) := by decide +kernel
theorem d_GU_told_201 : decode c_GU_told 201 = .ok (.bipush 20, 2) := by decide +kernel
theorem d_GU_told_203 : decode c_GU_told 203 = .ok (.isub, 1) := by decide +kernel
theorem d_GU_told_204 : decode c_GU_told 204 = .ok (.invokevirtual 100, 3) := by decide +kernel
theorem d_GU_told_207 : decode c_GU_told 207 = .ok (.ireturn, 1) := by decide +kernel
theorem d_GU_mode_0 : decode c_GU_mode 0 = .ok (.aload_n 0, 1) := by decide +kernel
theorem d_GU_mode_1 : decode c_GU_mode 1 = .ok (.getfield 26, 3) := by decide +kernel
theorem d_GU_mode_4 : decode c_GU_mode 4 = .ok (.ifCond .ne 13, 3) := by decide +kernel
theorem d_GU_mode_7 : decode c_GU_mode 7 = .ok (.aload_n 0, 1) := by decide +kernel
theorem d_GU_mode_8 : decode c_GU_mode 8 = .ok (.getfield 16, 3) := by decide +kernel
theorem d_GU_mode_11 : decode c_GU_mode 11 = .ok (.getfield 60, 3) := by decide +kernel
theorem d_GU_mode_14 : decode c_GU_mode 14 = .ok (.goto 9, 3) := by decide +kernel
theorem d_GU_mode_17 : decode c_GU_mode 17 = .ok (.aload_n 0, 1) := by decide +kernel
theorem d_GU_mode_18 : decode c_GU_mode 18 = .ok (.bipush 10, 2) := by decide +kernel
theorem d_GU_mode_20 : decode c_GU_mode 20 = .ok (.invokevirtual 75, 3) := by decide +kernel
theorem d_GU_mode_23 : decode c_GU_mode 23 = .ok (.ireturn, 1) := by decide +kernel
theorem d_GU_pc_0 : decode c_GU_pc 0 = .ok (.aload_n 0, 1) := by decide +kernel
theorem d_GU_pc_1 : decode c_GU_pc 1 = .ok (.getfield 26, 3) := by decide +kernel
theorem d_GU_pc_4 : decode c_GU_pc 4 = .ok (.ifCond .le 21, 3) := by decide +kernel
theorem d_GU_pc_7 : decode c_GU_pc 7 = .ok (.aload_n 0, 1) := by decide +kernel
theorem d_GU_pc_8 : decode c_GU_pc 8 = .ok (.getfield 16, 3) := by decide +kernel
theorem d_GU_pc_11 : decode c_GU_pc 11 = .ok (.getfield 49, 3) := by decide +kernel
theorem d_GU_pc_14 : decode c_GU_pc 14 = .ok (.ifCond .eq 11, 3) := by decide +kernel
theorem d_GU_pc_17 : decode c_GU_pc 17 = .ok (.aload_n 0, 1) := by decide +kernel
theorem d_GU_pc_18 : decode c_GU_pc 18 = .ok (.iconst 1, 1) := by decide +kernel
theorem d_GU_pc_19 : decode c_GU_pc 19 = .ok (.invokevirtual 75, 3) := by decide +kernel
theorem d_GU_pc_22 : decode c_GU_pc 22 = .ok (.goto 10, 3) := by decide +kernel
theorem d_GU_pc_25 : decode c_GU_pc 25 = .ok (.aload_n 0, 1) := by decide +kernel
theorem d_GU_pc_26 : decode c_GU_pc 26 = .ok (.getfield 16, 3) := by decide +kernel
theorem d_GU_pc_29 : decode c_GU_pc 29 = .ok (.getfield 103, 3) := by decide +kernel
theorem d_GU_pc_32 : decode c_GU_pc 32 = .ok (.ireturn, 1) := by decide +kernel
theorem d_GU_timer_0 : decode c_GU_timer 0 = .ok (.aload_n 0, 1) := by decide +kernel
theorem d_GU_timer_1 : decode c_GU_timer 1 = .ok (.getfield 26, 3) := by decide +kernel
theorem d_GU_timer_4 : decode c_GU_timer 4 = .ok (.ifCond .le 19, 3) := by decide +kernel
theorem d_GU_timer_7 : decode c_GU_timer 7 = .ok (.aload_n 0, 1) := by decide +kernel
theorem d_GU_timer_8 : decode c_GU_timer 8 = .ok (.invokevirtual 66, 3) := by decide +kernel
theorem d_GU_timer_11 : decode c_GU_timer 11 = .ok (.ifCond .ne 12, 3) := by decide +kernel
theorem d_GU_timer_14 : decode c_GU_timer 14 = .ok (.aload_n 0, 1) := by decide +kernel
theorem d_GU_timer_15 : decode c_GU_timer 15 = .ok (.bipush 13, 2) := by decide +kernel
theorem d_GU_timer_17 : decode c_GU_timer 17 = .ok (.invokevirtual 75, 3) := by decide +kernel
theorem d_GU_timer_20 : decode c_GU_timer 20 = .ok (.goto 10, 3) := by decide +kernel
theorem d_GU_timer_23 : decode c_GU_timer 23 = .ok (.aload_n 0, 1) := by decide +kernel
theorem d_GU_timer_24 : decode c_GU_timer 24 = .ok (.getfield 16, 3) := by decide +kernel
theorem d_GU_timer_27 : decode c_GU_timer 27 = .ok (.getfield 105, 3) := by decide +kernel
theorem d_GU_timer_30 : decode c_GU_timer 30 = .ok (.ireturn, 1) := by decide +kernel
theorem d_GU_kept_0 : decode c_GU_kept 0 = .ok (.aload_n 0, 1) := by decide +kernel
theorem d_GU_kept_1 : decode c_GU_kept 1 = .ok (.getfield 29, 3) := by decide +kernel
theorem d_GU_kept_4 : decode c_GU_kept 4 = .ok (.sipush 410, 3) := by decide +kernel
theorem d_GU_kept_7 : decode c_GU_kept 7 = .ok (.isub, 1) := by decide +kernel
theorem d_GU_kept_8 : decode c_GU_kept 8 = .ok (.iload_n 1, 1) := by decide +kernel
theorem d_GU_kept_9 : decode c_GU_kept 9 = .ok (.iadd, 1) := by decide +kernel
theorem d_GU_kept_10 : decode c_GU_kept 10 = .ok (.istore_n 2, 1) := by decide +kernel
theorem d_GU_kept_11 : decode c_GU_kept 11 = .ok (.iload_n 2, 1) := by decide +kernel
theorem d_GU_kept_12 : decode c_GU_kept 12 = .ok (.ifCond .ge 7, 3) := by decide +kernel
theorem d_GU_kept_15 : decode c_GU_kept 15 = .ok (.iconst (-1), 1) := by decide +kernel
theorem d_GU_kept_16 : decode c_GU_kept 16 = .ok (.goto 12, 3) := by decide +kernel
theorem d_GU_kept_19 : decode c_GU_kept 19 = .ok (.aload_n 0, 1) := by decide +kernel
theorem d_GU_kept_20 : decode c_GU_kept 20 = .ok (.getfield 16, 3) := by decide +kernel
theorem d_GU_kept_23 : decode c_GU_kept 23 = .ok (.getfield 63, 3) := by decide +kernel
theorem d_GU_kept_26 : decode c_GU_kept 26 = .ok (.iload_n 2, 1) := by decide +kernel
theorem d_GU_kept_27 : decode c_GU_kept 27 = .ok (.iaload, 1) := by decide +kernel
theorem d_GU_kept_28 : decode c_GU_kept 28 = .ok (.ireturn, 1) := by decide +kernel
theorem d_GU_wordAt_0 : decode c_GU_wordAt 0 = .ok (.iload_n 1, 1) := by decide +kernel
theorem d_GU_wordAt_1 : decode c_GU_wordAt 1 = .ok (.ifCond .lt 11, 3) := by decide +kernel
theorem d_GU_wordAt_4 : decode c_GU_wordAt 4 = .ok (.iload_n 1, 1) := by decide +kernel
theorem d_GU_wordAt_5 : decode c_GU_wordAt 5 = .ok (.aload_n 0, 1) := by decide +kernel
theorem d_GU_wordAt_6 : decode c_GU_wordAt 6 = .ok (.getfield 22, 3) := by decide +kernel
theorem d_GU_wordAt_9 : decode c_GU_wordAt 9 = .ok (.if_icmp .lt 7, 3) := by decide +kernel
theorem d_GU_wordAt_12 : decode c_GU_wordAt 12 = .ok (.iconst (-1), 1) := by decide +kernel
theorem d_GU_wordAt_13 : decode c_GU_wordAt 13 = .ok (.goto 17, 3) := by decide +kernel
theorem d_GU_wordAt_16 : decode c_GU_wordAt 16 = .ok (.aload_n 0, 1) := by decide +kernel
theorem d_GU_wordAt_17 : decode c_GU_wordAt 17 = .ok (.getfield 16, 3) := by decide +kernel
theorem d_GU_wordAt_20 : decode c_GU_wordAt 20 = .ok (.getfield 63, 3) := by decide +kernel
theorem d_GU_wordAt_23 : decode c_GU_wordAt 23 = .ok (.aload_n 0, 1) := by decide +kernel
theorem d_GU_wordAt_24 : decode c_GU_wordAt 24 = .ok (.getfield 29, 3) := by decide +kernel
theorem d_GU_wordAt_27 : decode c_GU_wordAt 27 = .ok (.iload_n 1, 1) := by decide +kernel
theorem d_GU_wordAt_28 : decode c_GU_wordAt 28 = .ok (.iadd, 1) := by decide +kernel
theorem d_GU_wordAt_29 : decode c_GU_wordAt 29 = .ok (.iaload, 1) := by decide +kernel
theorem d_GU_wordAt_30 : decode c_GU_wordAt 30 = .ok (.ireturn, 1) := by decide +kernel
theorem d_MA_init_0 : decode c_MA_init 0 = .ok (.aload_n 0, 1) := by decide +kernel
theorem d_MA_init_1 : decode c_MA_init 1 = .ok (.invokespecial 3, 3) := by decide +kernel
theorem d_MA_init_4 : decode c_MA_init 4 = .ok (.aload_n 0, 1) := by decide +kernel
theorem d_MA_init_5 : decode c_MA_init 5 = .ok (.iload_n 1, 1) := by decide +kernel
theorem d_MA_init_6 : decode c_MA_init 6 = .ok (.newarray .int, 2) := by decide +kernel
theorem d_MA_init_8 : decode c_MA_init 8 = .ok (.putfield 9, 3) := by decide +kernel
theorem d_MA_init_11 : decode c_MA_init 11 = .ok (.aload_n 0, 1) := by decide +kernel
theorem d_MA_init_12 : decode c_MA_init 12 = .ok (.bipush 8, 2) := by decide +kernel
theorem d_MA_init_14 : decode c_MA_init 14 = .ok (.newarray .int, 2) := by decide +kernel
theorem d_MA_init_16 : decode c_MA_init 16 = .ok (.putfield 15, 3) := by decide +kernel
theorem d_MA_init_19 : decode c_MA_init 19 = .ok (.aload_n 0, 1) := by decide +kernel
theorem d_MA_init_20 : decode c_MA_init 20 = .ok (.sipush 128, 3) := by decide +kernel
theorem d_MA_init_23 : decode c_MA_init 23 = .ok (.newarray .int, 2) := by decide +kernel
theorem d_MA_init_25 : decode c_MA_init 25 = .ok (.putfield 18, 3) := by decide +kernel
theorem d_MA_init_28 : decode c_MA_init 28 = .ok (.aload_n 0, 1) := by decide +kernel
theorem d_MA_init_29 : decode c_MA_init 29 = .ok (.new 21, 3) := by decide +kernel
theorem d_MA_init_32 : decode c_MA_init 32 = .ok (.dup, 1) := by decide +kernel
theorem d_MA_init_33 : decode c_MA_init 33 = .ok (.invokespecial 23, 3) := by decide +kernel
theorem d_MA_init_36 : decode c_MA_init 36 = .ok (.putfield 24, 3) := by decide +kernel
theorem d_MA_init_39 : decode c_MA_init 39 = .ok (.aload_n 0, 1) := by decide +kernel
theorem d_MA_init_40 : decode c_MA_init 40 = .ok (.iload_n 1, 1) := by decide +kernel
theorem d_MA_init_41 : decode c_MA_init 41 = .ok (.putfield 28, 3) := by decide +kernel
theorem d_MA_init_44 : decode c_MA_init 44 = .ok (.return_, 1) := by decide +kernel
theorem d_MA_clear_0 : decode c_MA_clear 0 = .ok (.aload_n 0, 1) := by decide +kernel
theorem d_MA_clear_1 : decode c_MA_clear 1 = .ok (.getfield 9, 3) := by decide +kernel
theorem d_MA_clear_4 : decode c_MA_clear 4 = .ok (.iconst 0, 1) := by decide +kernel
theorem d_MA_clear_5 : decode c_MA_clear 5 = .ok (.invokestatic 32, 3) := by decide +kernel
theorem d_MA_clear_8 : decode c_MA_clear 8 = .ok (.aload_n 0, 1) := by decide +kernel
theorem d_MA_clear_9 : decode c_MA_clear 9 = .ok (.getfield 15, 3) := by decide +kernel
theorem d_MA_clear_12 : decode c_MA_clear 12 = .ok (.iconst 0, 1) := by decide +kernel
theorem d_MA_clear_13 : decode c_MA_clear 13 = .ok (.invokestatic 32, 3) := by decide +kernel
theorem d_MA_clear_16 : decode c_MA_clear 16 = .ok (.aload_n 0, 1) := by decide +kernel
theorem d_MA_clear_17 : decode c_MA_clear 17 = .ok (.getfield 18, 3) := by decide +kernel
theorem d_MA_clear_20 : decode c_MA_clear 20 = .ok (.iconst 0, 1) := by decide +kernel
theorem d_MA_clear_21 : decode c_MA_clear 21 = .ok (.invokestatic 32, 3) := by decide +kernel
theorem d_MA_clear_24 : decode c_MA_clear 24 = .ok (.aload_n 0, 1) := by decide +kernel
theorem d_MA_clear_25 : decode c_MA_clear 25 = .ok (.getfield 24, 3) := by decide +kernel
theorem d_MA_clear_28 : decode c_MA_clear 28 = .ok (.invokevirtual 38, 3) := by decide +kernel
theorem d_MA_clear_31 : decode c_MA_clear 31 = .ok (.aload_n 0, 1) := by decide +kernel
theorem d_MA_clear_32 : decode c_MA_clear 32 = .ok (.iload_n 1, 1) := by decide +kernel
theorem d_MA_clear_33 : decode c_MA_clear 33 = .ok (.putfield 28, 3) := by decide +kernel
theorem d_MA_clear_36 : decode c_MA_clear 36 = .ok (.aload_n 0, 1) := by decide +kernel
theorem d_MA_clear_37 : decode c_MA_clear 37 = .ok (.iconst 0, 1) := by decide +kernel
theorem d_MA_clear_38 : decode c_MA_clear 38 = .ok (.putfield 41, 3) := by decide +kernel
theorem d_MA_clear_41 : decode c_MA_clear 41 = .ok (.aload_n 0, 1) := by decide +kernel
theorem d_MA_clear_42 : decode c_MA_clear 42 = .ok (.bipush 16, 2) := by decide +kernel
theorem d_MA_clear_44 : decode c_MA_clear 44 = .ok (.putfield 44, 3) := by decide +kernel
theorem d_MA_clear_47 : decode c_MA_clear 47 = .ok (.aload_n 0, 1) := by decide +kernel
theorem d_MA_clear_48 : decode c_MA_clear 48 = .ok (.iconst 0, 1) := by decide +kernel
theorem d_MA_clear_49 : decode c_MA_clear 49 = .ok (.putfield 47, 3) := by decide +kernel
theorem d_MA_clear_52 : decode c_MA_clear 52 = .ok (.aload_n 0, 1) := by decide +kernel
theorem d_MA_clear_53 : decode c_MA_clear 53 = .ok (.iload_n 1, 1) := by decide +kernel
theorem d_MA_clear_54 : decode c_MA_clear 54 = .ok (.putfield 50, 3) := by decide +kernel
theorem d_MA_clear_57 : decode c_MA_clear 57 = .ok (.aload_n 0, 1) := by decide +kernel
theorem d_MA_clear_58 : decode c_MA_clear 58 = .ok (.iload_n 1, 1) := by decide +kernel
theorem d_MA_clear_59 : decode c_MA_clear 59 = .ok (.putfield 53, 3) := by decide +kernel
theorem d_MA_clear_62 : decode c_MA_clear 62 = .ok (.aload_n 0, 1) := by decide +kernel
theorem d_MA_clear_63 : decode c_MA_clear 63 = .ok (.iconst 0, 1) := by decide +kernel
theorem d_MA_clear_64 : decode c_MA_clear 64 = .ok (.putfield 56, 3) := by decide +kernel
theorem d_MA_clear_67 : decode c_MA_clear 67 = .ok (.aload_n 0, 1) := by decide +kernel
theorem d_MA_clear_68 : decode c_MA_clear 68 = .ok (.iconst 0, 1) := by decide +kernel
theorem d_MA_clear_69 : decode c_MA_clear 69 = .ok (.putfield 59, 3) := by decide +kernel
theorem d_MA_clear_72 : decode c_MA_clear 72 = .ok (.aload_n 0, 1) := by decide +kernel
theorem d_MA_clear_73 : decode c_MA_clear 73 = .ok (.iconst 0, 1) := by decide +kernel
theorem d_MA_clear_74 : decode c_MA_clear 74 = .ok (.putfield 63, 3) := by decide +kernel
theorem d_MA_clear_77 : decode c_MA_clear 77 = .ok (.return_, 1) := by decide +kernel
theorem d_MA_copyIn_0 : decode c_MA_copyIn 0 = .ok (.iconst 0, 1) := by decide +kernel
theorem d_MA_copyIn_1 : decode c_MA_copyIn 1 = .ok (.istore 4, 2) := by decide +kernel
theorem d_MA_copyIn_3 : decode c_MA_copyIn 3 = .ok (.iload 4, 2) := by decide +kernel
theorem d_MA_copyIn_5 : decode c_MA_copyIn 5 = .ok (.iload_n 2, 1) := by decide +kernel
theorem d_MA_copyIn_6 : decode c_MA_copyIn 6 = .ok (.if_icmp .ge 40, 3) := by decide +kernel
theorem d_MA_copyIn_9 : decode c_MA_copyIn 9 = .ok (.iload 4, 2) := by decide +kernel
theorem d_MA_copyIn_11 : decode c_MA_copyIn 11 = .ok (.aload_n 1, 1) := by decide +kernel
theorem d_MA_copyIn_12 : decode c_MA_copyIn 12 = .ok (.arraylength, 1) := by decide +kernel
theorem d_MA_copyIn_13 : decode c_MA_copyIn 13 = .ok (.if_icmp .ge 33, 3) := by decide +kernel
theorem d_MA_copyIn_16 : decode c_MA_copyIn 16 = .ok (.iload_n 3, 1) := by decide +kernel
theorem d_MA_copyIn_17 : decode c_MA_copyIn 17 = .ok (.iload 4, 2) := by decide +kernel
theorem d_MA_copyIn_19 : decode c_MA_copyIn 19 = .ok (.iadd, 1) := by decide +kernel
theorem d_MA_copyIn_20 : decode c_MA_copyIn 20 = .ok (.aload_n 0, 1) := by decide +kernel
theorem d_MA_copyIn_21 : decode c_MA_copyIn 21 = .ok (.getfield 28, 3) := by decide +kernel
theorem d_MA_copyIn_24 : decode c_MA_copyIn 24 = .ok (.if_icmp .ge 22, 3) := by decide +kernel
theorem d_MA_copyIn_27 : decode c_MA_copyIn 27 = .ok (.aload_n 0, 1) := by decide +kernel
theorem d_MA_copyIn_28 : decode c_MA_copyIn 28 = .ok (.getfield 9, 3) := by decide +kernel
theorem d_MA_copyIn_31 : decode c_MA_copyIn 31 = .ok (.iload_n 3, 1) := by decide +kernel
theorem d_MA_copyIn_32 : decode c_MA_copyIn 32 = .ok (.iload 4, 2) := by decide +kernel
theorem d_MA_copyIn_34 : decode c_MA_copyIn 34 = .ok (.iadd, 1) := by decide +kernel
theorem d_MA_copyIn_35 : decode c_MA_copyIn 35 = .ok (.aload_n 1, 1) := by decide +kernel
theorem d_MA_copyIn_36 : decode c_MA_copyIn 36 = .ok (.iload 4, 2) := by decide +kernel
theorem d_MA_copyIn_38 : decode c_MA_copyIn 38 = .ok (.iaload, 1) := by decide +kernel
theorem d_MA_copyIn_39 : decode c_MA_copyIn 39 = .ok (.iastore, 1) := by decide +kernel
theorem d_MA_copyIn_40 : decode c_MA_copyIn 40 = .ok (.iinc 4 1, 3) := by decide +kernel
theorem d_MA_copyIn_43 : decode c_MA_copyIn 43 = .ok (.goto (-40), 3) := by decide +kernel
theorem d_MA_copyIn_46 : decode c_MA_copyIn 46 = .ok (.return_, 1) := by decide +kernel
theorem d_MA_register_0 : decode c_MA_register 0 = .ok (.iload_n 1, 1) := by decide +kernel
theorem d_MA_register_1 : decode c_MA_register 1 = .ok (.ifCond .lt 9, 3) := by decide +kernel
theorem d_MA_register_4 : decode c_MA_register 4 = .ok (.iload_n 1, 1) := by decide +kernel
theorem d_MA_register_5 : decode c_MA_register 5 = .ok (.bipush 8, 2) := by decide +kernel
theorem d_MA_register_7 : decode c_MA_register 7 = .ok (.if_icmp .lt 7, 3) := by decide +kernel
theorem d_MA_register_10 : decode c_MA_register 10 = .ok (.iconst (-1), 1) := by decide +kernel
theorem d_MA_register_11 : decode c_MA_register 11 = .ok (.goto 9, 3) := by decide +kernel
theorem d_MA_register_14 : decode c_MA_register 14 = .ok (.aload_n 0, 1) := by decide +kernel
theorem d_MA_register_15 : decode c_MA_register 15 = .ok (.getfield 15, 3) := by decide +kernel
theorem d_MA_register_18 : decode c_MA_register 18 = .ok (.iload_n 1, 1) := by decide +kernel
theorem d_MA_register_19 : decode c_MA_register 19 = .ok (.iaload, 1) := by decide +kernel
theorem d_MA_register_20 : decode c_MA_register 20 = .ok (.ireturn, 1) := by decide +kernel
theorem d_MA_blockWord_0 : decode c_MA_blockWord 0 = .ok (.iload_n 1, 1) := by decide +kernel
theorem d_MA_blockWord_1 : decode c_MA_blockWord 1 = .ok (.ifCond .lt 19, 3) := by decide +kernel
theorem d_MA_blockWord_4 : decode c_MA_blockWord 4 = .ok (.iload_n 1, 1) := by decide +kernel
theorem d_MA_blockWord_5 : decode c_MA_blockWord 5 = .ok (.bipush 8, 2) := by decide +kernel
theorem d_MA_blockWord_7 : decode c_MA_blockWord 7 = .ok (.if_icmp .ge 13, 3) := by decide +kernel
theorem d_MA_blockWord_10 : decode c_MA_blockWord 10 = .ok (.iload_n 2, 1) := by decide +kernel
theorem d_MA_blockWord_11 : decode c_MA_blockWord 11 = .ok (.ifCond .lt 9, 3) := by decide +kernel
theorem d_MA_blockWord_14 : decode c_MA_blockWord 14 = .ok (.iload_n 2, 1) := by decide +kernel
theorem d_MA_blockWord_15 : decode c_MA_blockWord 15 = .ok (.bipush 16, 2) := by decide +kernel
theorem d_MA_blockWord_17 : decode c_MA_blockWord 17 = .ok (.if_icmp .lt 5, 3) := by decide +kernel
theorem d_MA_blockWord_20 : decode c_MA_blockWord 20 = .ok (.iconst (-1), 1) := by decide +kernel
theorem d_MA_blockWord_21 : decode c_MA_blockWord 21 = .ok (.ireturn, 1) := by decide +kernel
theorem d_MA_blockWord_22 : decode c_MA_blockWord 22 = .ok (.aload_n 0, 1) := by decide +kernel
theorem d_MA_blockWord_23 : decode c_MA_blockWord 23 = .ok (.getfield 18, 3) := by decide +kernel
theorem d_MA_blockWord_26 : decode c_MA_blockWord 26 = .ok (.iload_n 1, 1) := by decide +kernel
theorem d_MA_blockWord_27 : decode c_MA_blockWord 27 = .ok (.bipush 16, 2) := by decide +kernel
theorem d_MA_blockWord_29 : decode c_MA_blockWord 29 = .ok (.imul, 1) := by decide +kernel
theorem d_MA_blockWord_30 : decode c_MA_blockWord 30 = .ok (.iload_n 2, 1) := by decide +kernel
theorem d_MA_blockWord_31 : decode c_MA_blockWord 31 = .ok (.iadd, 1) := by decide +kernel
theorem d_MA_blockWord_32 : decode c_MA_blockWord 32 = .ok (.iaload, 1) := by decide +kernel
theorem d_MA_blockWord_33 : decode c_MA_blockWord 33 = .ok (.ireturn, 1) := by decide +kernel
theorem d_MA_step_0 : decode c_MA_step 0 = .ok (.aload_n 0, 1) := by decide +kernel
theorem d_MA_step_1 : decode c_MA_step 1 = .ok (.getfield 41, 3) := by decide +kernel
theorem d_MA_step_4 : decode c_MA_step 4 = .ok (.iconst 1, 1) := by decide +kernel
theorem d_MA_step_5 : decode c_MA_step 5 = .ok (.if_icmp .ne 26, 3) := by decide +kernel
theorem d_MA_step_8 : decode c_MA_step 8 = .ok (.aload_n 0, 1) := by decide +kernel
theorem d_MA_step_9 : decode c_MA_step 9 = .ok (.getfield 59, 3) := by decide +kernel
theorem d_MA_step_12 : decode c_MA_step 12 = .ok (.ifCond .eq 19, 3) := by decide +kernel
theorem d_MA_step_15 : decode c_MA_step 15 = .ok (.aload_n 0, 1) := by decide +kernel
theorem d_MA_step_16 : decode c_MA_step 16 = .ok (.iconst 0, 1) := by decide +kernel
theorem d_MA_step_17 : decode c_MA_step 17 = .ok (.putfield 59, 3) := by decide +kernel
theorem d_MA_step_20 : decode c_MA_step 20 = .ok (.aload_n 0, 1) := by decide +kernel
theorem d_MA_step_21 : decode c_MA_step 21 = .ok (.iconst 4, 1) := by decide +kernel
theorem d_MA_step_22 : decode c_MA_step 22 = .ok (.iconst 0, 1) := by decide +kernel
theorem d_MA_step_23 : decode c_MA_step 23 = .ok (.aload_n 0, 1) := by decide +kernel
theorem d_MA_step_24 : decode c_MA_step 24 = .ok (.getfield 44, 3) := by decide +kernel
theorem d_MA_step_27 : decode c_MA_step 27 = .ok (.invokevirtual 66, 3) := by decide +kernel
theorem d_MA_step_30 : decode c_MA_step 30 = .ok (.return_, 1) := by decide +kernel
theorem d_MA_step_31 : decode c_MA_step 31 = .ok (.aload_n 0, 1) := by decide +kernel
theorem d_MA_step_32 : decode c_MA_step 32 = .ok (.getfield 44, 3) := by decide +kernel
theorem d_MA_step_35 : decode c_MA_step 35 = .ok (.iconst 1, 1) := by decide +kernel
theorem d_MA_step_36 : decode c_MA_step 36 = .ok (.iadd, 1) := by decide +kernel
theorem d_MA_step_37 : decode c_MA_step 37 = .ok (.aload_n 0, 1) := by decide +kernel
theorem d_MA_step_38 : decode c_MA_step 38 = .ok (.getfield 53, 3) := by decide +kernel
theorem d_MA_step_41 : decode c_MA_step 41 = .ok (.if_icmp .lt 37, 3) := by decide +kernel
theorem d_MA_step_44 : decode c_MA_step 44 = .ok (.aload_n 0, 1) := by decide +kernel
theorem d_MA_step_45 : decode c_MA_step 45 = .ok (.iconst 2, 1) := by decide +kernel
theorem d_MA_step_46 : decode c_MA_step 46 = .ok (.aload_n 0, 1) := by decide +kernel
theorem d_MA_step_47 : decode c_MA_step 47 = .ok (.getfield 44, 3) := by decide +kernel
theorem d_MA_step_50 : decode c_MA_step 50 = .ok (.aload_n 0, 1) := by decide +kernel
theorem d_MA_step_51 : decode c_MA_step 51 = .ok (.getfield 53, 3) := by decide +kernel
theorem d_MA_step_54 : decode c_MA_step 54 = .ok (.if_icmp .ge 12, 3) := by decide +kernel
theorem d_MA_step_57 : decode c_MA_step 57 = .ok (.aload_n 0, 1) := by decide +kernel
theorem d_MA_step_58 : decode c_MA_step 58 = .ok (.getfield 44, 3) := by decide +kernel
theorem d_MA_step_61 : decode c_MA_step 61 = .ok (.iconst 1, 1) := by decide +kernel
theorem d_MA_step_62 : decode c_MA_step 62 = .ok (.iadd, 1) := by decide +kernel
theorem d_MA_step_63 : decode c_MA_step 63 = .ok (.goto 7, 3) := by decide +kernel
theorem d_MA_step_66 : decode c_MA_step 66 = .ok (.aload_n 0, 1) := by decide +kernel
theorem d_MA_step_67 : decode c_MA_step 67 = .ok (.getfield 44, 3) := by decide +kernel
theorem d_MA_step_70 : decode c_MA_step 70 = .ok (.aload_n 0, 1) := by decide +kernel
theorem d_MA_step_71 : decode c_MA_step 71 = .ok (.getfield 44, 3) := by decide +kernel
theorem d_MA_step_74 : decode c_MA_step 74 = .ok (.invokevirtual 66, 3) := by decide +kernel
theorem d_MA_step_77 : decode c_MA_step 77 = .ok (.return_, 1) := by decide +kernel
theorem d_MA_step_78 : decode c_MA_step 78 = .ok (.aload_n 0, 1) := by decide +kernel
theorem d_MA_step_79 : decode c_MA_step 79 = .ok (.getfield 9, 3) := by decide +kernel
theorem d_MA_step_82 : decode c_MA_step 82 = .ok (.aload_n 0, 1) := by decide +kernel
theorem d_MA_step_83 : decode c_MA_step 83 = .ok (.getfield 47, 3) := by decide +kernel
theorem d_MA_step_86 : decode c_MA_step 86 = .ok (.aload_n 0, 1) := by decide +kernel
theorem d_MA_step_87 : decode c_MA_step 87 = .ok (.getfield 44, 3) := by decide +kernel
theorem d_MA_step_90 : decode c_MA_step 90 = .ok (.iadd, 1) := by decide +kernel
theorem d_MA_step_91 : decode c_MA_step 91 = .ok (.iaload, 1) := by decide +kernel
theorem d_MA_step_92 : decode c_MA_step 92 = .ok (.istore_n 1, 1) := by decide +kernel
theorem d_MA_step_93 : decode c_MA_step 93 = .ok (.aload_n 0, 1) := by decide +kernel
theorem d_MA_step_94 : decode c_MA_step 94 = .ok (.getfield 9, 3) := by decide +kernel
theorem d_MA_step_97 : decode c_MA_step 97 = .ok (.aload_n 0, 1) := by decide +kernel
theorem d_MA_step_98 : decode c_MA_step 98 = .ok (.getfield 47, 3) := by decide +kernel
theorem d_MA_step_101 : decode c_MA_step 101 = .ok (.aload_n 0, 1) := by decide +kernel
theorem d_MA_step_102 : decode c_MA_step 102 = .ok (.getfield 44, 3) := by decide +kernel
theorem d_MA_step_105 : decode c_MA_step 105 = .ok (.iadd, 1) := by decide +kernel
theorem d_MA_step_106 : decode c_MA_step 106 = .ok (.iconst 1, 1) := by decide +kernel
theorem d_MA_step_107 : decode c_MA_step 107 = .ok (.iadd, 1) := by decide +kernel
theorem d_MA_step_108 : decode c_MA_step 108 = .ok (.iaload, 1) := by decide +kernel
theorem d_MA_step_109 : decode c_MA_step 109 = .ok (.istore_n 2, 1) := by decide +kernel
theorem d_MA_step_110 : decode c_MA_step 110 = .ok (.iload_n 1, 1) := by decide +kernel
theorem d_MA_step_111 : decode c_MA_step 111 = .ok (.bipush 6, 2) := by decide +kernel
theorem d_MA_step_113 : decode c_MA_step 113 = .ok (.ishr, 1) := by decide +kernel
theorem d_MA_step_114 : decode c_MA_step 114 = .ok (.istore_n 3, 1) := by decide +kernel
theorem d_MA_step_115 : decode c_MA_step 115 = .ok (.iload_n 1, 1) := by decide +kernel
theorem d_MA_step_116 : decode c_MA_step 116 = .ok (.iconst 3, 1) := by decide +kernel
theorem d_MA_step_117 : decode c_MA_step 117 = .ok (.ishr, 1) := by decide +kernel
theorem d_MA_step_118 : decode c_MA_step 118 = .ok (.bipush 7, 2) := by decide +kernel
theorem d_MA_step_120 : decode c_MA_step 120 = .ok (.iand, 1) := by decide +kernel
theorem d_MA_step_121 : decode c_MA_step 121 = .ok (.istore 4, 2) := by decide +kernel
theorem d_MA_step_123 : decode c_MA_step 123 = .ok (.iload_n 1, 1) := by decide +kernel
theorem d_MA_step_124 : decode c_MA_step 124 = .ok (.bipush 7, 2) := by decide +kernel
theorem d_MA_step_126 : decode c_MA_step 126 = .ok (.iand, 1) := by decide +kernel
theorem d_MA_step_127 : decode c_MA_step 127 = .ok (.istore 5, 2) := by decide +kernel
theorem d_MA_step_129 : decode c_MA_step 129 = .ok (.iload_n 3, 1) := by decide +kernel
theorem d_MA_step_130 : decode c_MA_step 130 = .ok (.bipush 24, 2) := by decide +kernel
theorem d_MA_step_132 : decode c_MA_step 132 = .ok (.if_icmp .le 16, 3) := by decide +kernel
theorem d_MA_step_135 : decode c_MA_step 135 = .ok (.aload_n 0, 1) := by decide +kernel
theorem d_MA_step_136 : decode c_MA_step 136 = .ok (.iconst 5, 1) := by decide +kernel
theorem d_MA_step_137 : decode c_MA_step 137 = .ok (.iload_n 1, 1) := by decide +kernel
theorem d_MA_step_138 : decode c_MA_step 138 = .ok (.aload_n 0, 1) := by decide +kernel
theorem d_MA_step_139 : decode c_MA_step 139 = .ok (.getfield 44, 3) := by decide +kernel
theorem d_MA_step_142 : decode c_MA_step 142 = .ok (.invokevirtual 66, 3) := by decide +kernel
theorem d_MA_step_145 : decode c_MA_step 145 = .ok (.goto 119, 3) := by decide +kernel
theorem d_MA_step_148 : decode c_MA_step 148 = .ok (.iload_n 3, 1) := by decide +kernel
theorem d_MA_step_149 : decode c_MA_step 149 = .ok (.iconst 2, 1) := by decide +kernel
theorem d_MA_step_150 : decode c_MA_step 150 = .ok (.if_icmp .lt 39, 3) := by decide +kernel
theorem d_MA_step_153 : decode c_MA_step 153 = .ok (.iload_n 3, 1) := by decide +kernel
theorem d_MA_step_154 : decode c_MA_step 154 = .ok (.iconst 5, 1) := by decide +kernel
theorem d_MA_step_155 : decode c_MA_step 155 = .ok (.if_icmp .gt 34, 3) := by decide +kernel
theorem d_MA_step_158 : decode c_MA_step 158 = .ok (.aload_n 0, 1) := by decide +kernel
theorem d_MA_step_159 : decode c_MA_step 159 = .ok (.iload_n 3, 1) := by decide +kernel
theorem d_MA_step_160 : decode c_MA_step 160 = .ok (.iload 4, 2) := by decide +kernel
theorem d_MA_step_162 : decode c_MA_step 162 = .ok (.iload_n 3, 1) := by decide +kernel
theorem d_MA_step_163 : decode c_MA_step 163 = .ok (.iconst 4, 1) := by decide +kernel
theorem d_MA_step_164 : decode c_MA_step 164 = .ok (.if_icmp .ge 7, 3) := by decide +kernel
theorem d_MA_step_167 : decode c_MA_step 167 = .ok (.iload_n 2, 1) := by decide +kernel
theorem d_MA_step_168 : decode c_MA_step 168 = .ok (.goto 15, 3) := by decide +kernel
theorem d_MA_step_171 : decode c_MA_step 171 = .ok (.aload_n 0, 1) := by decide +kernel
theorem d_MA_step_172 : decode c_MA_step 172 = .ok (.getfield 15, 3) := by decide +kernel
theorem d_MA_step_175 : decode c_MA_step 175 = .ok (.iload 5, 2) := by decide +kernel
theorem d_MA_step_177 : decode c_MA_step 177 = .ok (.iaload, 1) := by decide +kernel
theorem d_MA_step_178 : decode c_MA_step 178 = .ok (.iload_n 2, 1) := by decide +kernel
theorem d_MA_step_179 : decode c_MA_step 179 = .ok (.iadd, 1) := by decide +kernel
theorem d_MA_step_180 : decode c_MA_step 180 = .ok (.ldc 70, 2) := by decide +kernel
theorem d_MA_step_182 : decode c_MA_step 182 = .ok (.iand, 1) := by decide +kernel
theorem d_MA_step_183 : decode c_MA_step 183 = .ok (.invokevirtual 71, 3) := by decide +kernel
theorem d_MA_step_186 : decode c_MA_step 186 = .ok (.goto 78, 3) := by decide +kernel
theorem d_MA_step_189 : decode c_MA_step 189 = .ok (.iload_n 3, 1) := by decide +kernel
theorem d_MA_step_190 : decode c_MA_step 190 = .ok (.ifCond .le 22, 3) := by decide +kernel
theorem d_MA_step_193 : decode c_MA_step 193 = .ok (.iload_n 3, 1) := by decide +kernel
theorem d_MA_step_194 : decode c_MA_step 194 = .ok (.bipush 16, 2) := by decide +kernel
theorem d_MA_step_196 : decode c_MA_step 196 = .ok (.if_icmp .ge 16, 3) := by decide +kernel
theorem d_MA_step_199 : decode c_MA_step 199 = .ok (.aload_n 0, 1) := by decide +kernel
theorem d_MA_step_200 : decode c_MA_step 200 = .ok (.iload_n 3, 1) := by decide +kernel
theorem d_MA_step_201 : decode c_MA_step 201 = .ok (.iload 4, 2) := by decide +kernel
theorem d_MA_step_203 : decode c_MA_step 203 = .ok (.iload 5, 2) := by decide +kernel
theorem d_MA_step_205 : decode c_MA_step 205 = .ok (.iload_n 2, 1) := by decide +kernel
theorem d_MA_step_206 : decode c_MA_step 206 = .ok (.invokevirtual 74, 3) := by decide +kernel
theorem d_MA_step_209 : decode c_MA_step 209 = .ok (.goto 55, 3) := by decide +kernel
theorem d_MA_step_212 : decode c_MA_step 212 = .ok (.iload_n 3, 1) := by decide +kernel
theorem d_MA_step_213 : decode c_MA_step 213 = .ok (.bipush 16, 2) := by decide +kernel
theorem d_MA_step_215 : decode c_MA_step 215 = .ok (.if_icmp .ne 18, 3) := by decide +kernel
theorem d_MA_step_218 : decode c_MA_step 218 = .ok (.aload_n 0, 1) := by decide +kernel
theorem d_MA_step_219 : decode c_MA_step 219 = .ok (.iconst 3, 1) := by decide +kernel
theorem d_MA_step_220 : decode c_MA_step 220 = .ok (.iload_n 2, 1) := by decide +kernel
theorem d_MA_step_221 : decode c_MA_step 221 = .ok (.aload_n 0, 1) := by decide +kernel
theorem d_MA_step_222 : decode c_MA_step 222 = .ok (.getfield 44, 3) := by decide +kernel
theorem d_MA_step_225 : decode c_MA_step 225 = .ok (.iconst 2, 1) := by decide +kernel
theorem d_MA_step_226 : decode c_MA_step 226 = .ok (.iadd, 1) := by decide +kernel
theorem d_MA_step_227 : decode c_MA_step 227 = .ok (.invokevirtual 66, 3) := by decide +kernel
theorem d_MA_step_230 : decode c_MA_step 230 = .ok (.goto 34, 3) := by decide +kernel
theorem d_MA_step_233 : decode c_MA_step 233 = .ok (.aload_n 0, 1) := by decide +kernel
theorem d_MA_step_234 : decode c_MA_step 234 = .ok (.getfield 41, 3) := by decide +kernel
theorem d_MA_step_237 : decode c_MA_step 237 = .ok (.iconst 1, 1) := by decide +kernel
theorem d_MA_step_238 : decode c_MA_step 238 = .ok (.if_icmp .ne 16, 3) := by decide +kernel
theorem d_MA_step_241 : decode c_MA_step 241 = .ok (.aload_n 0, 1) := by decide +kernel
theorem d_MA_step_242 : decode c_MA_step 242 = .ok (.iconst 1, 1) := by decide +kernel
theorem d_MA_step_243 : decode c_MA_step 243 = .ok (.iload_n 1, 1) := by decide +kernel
theorem d_MA_step_244 : decode c_MA_step 244 = .ok (.aload_n 0, 1) := by decide +kernel
theorem d_MA_step_245 : decode c_MA_step 245 = .ok (.getfield 44, 3) := by decide +kernel
theorem d_MA_step_248 : decode c_MA_step 248 = .ok (.invokevirtual 66, 3) := by decide +kernel
theorem d_MA_step_251 : decode c_MA_step 251 = .ok (.goto 13, 3) := by decide +kernel
theorem d_MA_step_254 : decode c_MA_step 254 = .ok (.aload_n 0, 1) := by decide +kernel
theorem d_MA_step_255 : decode c_MA_step 255 = .ok (.iload_n 3, 1) := by decide +kernel
theorem d_MA_step_256 : decode c_MA_step 256 = .ok (.iload 4, 2) := by decide +kernel
theorem d_MA_step_258 : decode c_MA_step 258 = .ok (.iload 5, 2) := by decide +kernel
theorem d_MA_step_260 : decode c_MA_step 260 = .ok (.iload_n 2, 1) := by decide +kernel
theorem d_MA_step_261 : decode c_MA_step 261 = .ok (.invokevirtual 78, 3) := by decide +kernel
theorem d_MA_step_264 : decode c_MA_step 264 = .ok (.return_, 1) := by decide +kernel
theorem d_MA_access_0 : decode c_MA_access 0 = .ok (.iload_n 3, 1) := by decide +kernel
theorem d_MA_access_1 : decode c_MA_access 1 = .ok (.aload_n 0, 1) := by decide +kernel
theorem d_MA_access_2 : decode c_MA_access 2 = .ok (.getfield 53, 3) := by decide +kernel
theorem d_MA_access_5 : decode c_MA_access 5 = .ok (.if_icmp .lt 14, 3) := by decide +kernel
theorem d_MA_access_8 : decode c_MA_access 8 = .ok (.aload_n 0, 1) := by decide +kernel
theorem d_MA_access_9 : decode c_MA_access 9 = .ok (.iconst 2, 1) := by decide +kernel
theorem d_MA_access_10 : decode c_MA_access 10 = .ok (.iload_n 3, 1) := by decide +kernel
theorem d_MA_access_11 : decode c_MA_access 11 = .ok (.aload_n 0, 1) := by decide +kernel
theorem d_MA_access_12 : decode c_MA_access 12 = .ok (.getfield 44, 3) := by decide +kernel
theorem d_MA_access_15 : decode c_MA_access 15 = .ok (.invokevirtual 66, 3) := by decide +kernel
theorem d_MA_access_18 : decode c_MA_access 18 = .ok (.return_, 1) := by decide +kernel
theorem d_MA_access_19 : decode c_MA_access 19 = .ok (.iload_n 1, 1) := by decide +kernel
theorem d_MA_access_20 : decode c_MA_access 20 = .ok (.iconst 2, 1) := by decide +kernel
theorem d_MA_access_21 : decode c_MA_access 21 = .ok (.if_icmp .eq 8, 3) := by decide +kernel
theorem d_MA_access_24 : decode c_MA_access 24 = .ok (.iload_n 1, 1) := by decide +kernel
theorem d_MA_access_25 : decode c_MA_access 25 = .ok (.iconst 4, 1) := by decide +kernel
theorem d_MA_access_26 : decode c_MA_access 26 = .ok (.if_icmp .ne 23, 3) := by decide +kernel
theorem d_MA_access_29 : decode c_MA_access 29 = .ok (.aload_n 0, 1) := by decide +kernel
theorem d_MA_access_30 : decode c_MA_access 30 = .ok (.getfield 15, 3) := by decide +kernel
theorem d_MA_access_33 : decode c_MA_access 33 = .ok (.iload_n 2, 1) := by decide +kernel
theorem d_MA_access_34 : decode c_MA_access 34 = .ok (.aload_n 0, 1) := by decide +kernel
theorem d_MA_access_35 : decode c_MA_access 35 = .ok (.getfield 9, 3) := by decide +kernel
theorem d_MA_access_38 : decode c_MA_access 38 = .ok (.aload_n 0, 1) := by decide +kernel
theorem d_MA_access_39 : decode c_MA_access 39 = .ok (.getfield 47, 3) := by decide +kernel
theorem d_MA_access_42 : decode c_MA_access 42 = .ok (.iload_n 3, 1) := by decide +kernel
theorem d_MA_access_43 : decode c_MA_access 43 = .ok (.iadd, 1) := by decide +kernel
theorem d_MA_access_44 : decode c_MA_access 44 = .ok (.iaload, 1) := by decide +kernel
theorem d_MA_access_45 : decode c_MA_access 45 = .ok (.iastore, 1) := by decide +kernel
theorem d_MA_access_46 : decode c_MA_access 46 = .ok (.goto 20, 3) := by decide +kernel
theorem d_MA_access_49 : decode c_MA_access 49 = .ok (.aload_n 0, 1) := by decide +kernel
theorem d_MA_access_50 : decode c_MA_access 50 = .ok (.getfield 9, 3) := by decide +kernel
theorem d_MA_access_53 : decode c_MA_access 53 = .ok (.aload_n 0, 1) := by decide +kernel
theorem d_MA_access_54 : decode c_MA_access 54 = .ok (.getfield 47, 3) := by decide +kernel
theorem d_MA_access_57 : decode c_MA_access 57 = .ok (.iload_n 3, 1) := by decide +kernel
theorem d_MA_access_58 : decode c_MA_access 58 = .ok (.iadd, 1) := by decide +kernel
theorem d_MA_access_59 : decode c_MA_access 59 = .ok (.aload_n 0, 1) := by decide +kernel
theorem d_MA_access_60 : decode c_MA_access 60 = .ok (.getfield 15, 3) := by decide +kernel
theorem d_MA_access_63 : decode c_MA_access 63 = .ok (.iload_n 2, 1) := by decide +kernel
theorem d_MA_access_64 : decode c_MA_access 64 = .ok (.iaload, 1) := by decide +kernel
theorem d_MA_access_65 : decode c_MA_access 65 = .ok (.iastore, 1) := by decide +kernel
theorem d_MA_access_66 : decode c_MA_access 66 = .ok (.aload_n 0, 1) := by decide +kernel
theorem d_MA_access_67 : decode c_MA_access 67 = .ok (.aload_n 0, 1) := by decide +kernel
theorem d_MA_access_68 : decode c_MA_access 68 = .ok (.getfield 44, 3) := by decide +kernel
theorem d_MA_access_71 : decode c_MA_access 71 = .ok (.iconst 2, 1) := by decide +kernel
theorem d_MA_access_72 : decode c_MA_access 72 = .ok (.iadd, 1) := by decide +kernel
theorem d_MA_access_73 : decode c_MA_access 73 = .ok (.invokevirtual 81, 3) := by decide +kernel
theorem d_MA_access_76 : decode c_MA_access 76 = .ok (.return_, 1) := by decide +kernel
theorem d_MA_compute_0 : decode c_MA_compute 0 = .ok (.aload_n 0, 1) := by decide +kernel
theorem d_MA_compute_1 : decode c_MA_compute 1 = .ok (.getfield 44, 3) := by decide +kernel
theorem d_MA_compute_4 : decode c_MA_compute 4 = .ok (.iconst 2, 1) := by decide +kernel
theorem d_MA_compute_5 : decode c_MA_compute 5 = .ok (.iadd, 1) := by decide +kernel
theorem d_MA_compute_6 : decode c_MA_compute 6 = .ok (.istore 5, 2) := by decide +kernel
theorem d_MA_compute_8 : decode c_MA_compute 8 = .ok (.iload_n 1, 1) := by decide +kernel
theorem d_MA_compute_9 : decode c_MA_compute 9 = .ok (.tableswitch 276 1 15 #[75, 276, 276, 276, 276, 86, 101, 126, 151, 173, 202, 222, 229, 250, 261], 75) := by decide +kernel
theorem d_MA_compute_84 : decode c_MA_compute 84 = .ok (.aload_n 0, 1) := by decide +kernel
theorem d_MA_compute_85 : decode c_MA_compute 85 = .ok (.getfield 15, 3) := by decide +kernel
theorem d_MA_compute_88 : decode c_MA_compute 88 = .ok (.iload_n 2, 1) := by decide +kernel
theorem d_MA_compute_89 : decode c_MA_compute 89 = .ok (.iload 4, 2) := by decide +kernel
theorem d_MA_compute_91 : decode c_MA_compute 91 = .ok (.iastore, 1) := by decide +kernel
theorem d_MA_compute_92 : decode c_MA_compute 92 = .ok (.goto 193, 3) := by decide +kernel
theorem d_MA_compute_95 : decode c_MA_compute 95 = .ok (.aload_n 0, 1) := by decide +kernel
theorem d_MA_compute_96 : decode c_MA_compute 96 = .ok (.getfield 15, 3) := by decide +kernel
theorem d_MA_compute_99 : decode c_MA_compute 99 = .ok (.iload_n 2, 1) := by decide +kernel
theorem d_MA_compute_100 : decode c_MA_compute 100 = .ok (.aload_n 0, 1) := by decide +kernel
theorem d_MA_compute_101 : decode c_MA_compute 101 = .ok (.getfield 15, 3) := by decide +kernel
theorem d_MA_compute_104 : decode c_MA_compute 104 = .ok (.iload_n 3, 1) := by decide +kernel
theorem d_MA_compute_105 : decode c_MA_compute 105 = .ok (.iaload, 1) := by decide +kernel
theorem d_MA_compute_106 : decode c_MA_compute 106 = .ok (.iastore, 1) := by decide +kernel
theorem d_MA_compute_107 : decode c_MA_compute 107 = .ok (.goto 178, 3) := by decide +kernel
theorem d_MA_compute_110 : decode c_MA_compute 110 = .ok (.aload_n 0, 1) := by decide +kernel
theorem d_MA_compute_111 : decode c_MA_compute 111 = .ok (.getfield 15, 3) := by decide +kernel
theorem d_MA_compute_114 : decode c_MA_compute 114 = .ok (.iload_n 2, 1) := by decide +kernel
theorem d_MA_compute_115 : decode c_MA_compute 115 = .ok (.aload_n 0, 1) := by decide +kernel
theorem d_MA_compute_116 : decode c_MA_compute 116 = .ok (.getfield 15, 3) := by decide +kernel
theorem d_MA_compute_119 : decode c_MA_compute 119 = .ok (.iload_n 2, 1) := by decide +kernel
theorem d_MA_compute_120 : decode c_MA_compute 120 = .ok (.iaload, 1) := by decide +kernel
theorem d_MA_compute_121 : decode c_MA_compute 121 = .ok (.aload_n 0, 1) := by decide +kernel
theorem d_MA_compute_122 : decode c_MA_compute 122 = .ok (.getfield 15, 3) := by decide +kernel
theorem d_MA_compute_125 : decode c_MA_compute 125 = .ok (.iload_n 3, 1) := by decide +kernel
theorem d_MA_compute_126 : decode c_MA_compute 126 = .ok (.iaload, 1) := by decide +kernel
theorem d_MA_compute_127 : decode c_MA_compute 127 = .ok (.iadd, 1) := by decide +kernel
theorem d_MA_compute_128 : decode c_MA_compute 128 = .ok (.ldc 70, 2) := by decide +kernel
theorem d_MA_compute_130 : decode c_MA_compute 130 = .ok (.iand, 1) := by decide +kernel
theorem d_MA_compute_131 : decode c_MA_compute 131 = .ok (.iastore, 1) := by decide +kernel
theorem d_MA_compute_132 : decode c_MA_compute 132 = .ok (.goto 153, 3) := by decide +kernel
theorem d_MA_compute_135 : decode c_MA_compute 135 = .ok (.aload_n 0, 1) := by decide +kernel
theorem d_MA_compute_136 : decode c_MA_compute 136 = .ok (.getfield 15, 3) := by decide +kernel
theorem d_MA_compute_139 : decode c_MA_compute 139 = .ok (.iload_n 2, 1) := by decide +kernel
theorem d_MA_compute_140 : decode c_MA_compute 140 = .ok (.aload_n 0, 1) := by decide +kernel
theorem d_MA_compute_141 : decode c_MA_compute 141 = .ok (.getfield 15, 3) := by decide +kernel
theorem d_MA_compute_144 : decode c_MA_compute 144 = .ok (.iload_n 2, 1) := by decide +kernel
theorem d_MA_compute_145 : decode c_MA_compute 145 = .ok (.iaload, 1) := by decide +kernel
theorem d_MA_compute_146 : decode c_MA_compute 146 = .ok (.aload_n 0, 1) := by decide +kernel
theorem d_MA_compute_147 : decode c_MA_compute 147 = .ok (.getfield 15, 3) := by decide +kernel
theorem d_MA_compute_150 : decode c_MA_compute 150 = .ok (.iload_n 3, 1) := by decide +kernel
theorem d_MA_compute_151 : decode c_MA_compute 151 = .ok (.iaload, 1) := by decide +kernel
theorem d_MA_compute_152 : decode c_MA_compute 152 = .ok (.isub, 1) := by decide +kernel
theorem d_MA_compute_153 : decode c_MA_compute 153 = .ok (.ldc 70, 2) := by decide +kernel
theorem d_MA_compute_155 : decode c_MA_compute 155 = .ok (.iand, 1) := by decide +kernel
theorem d_MA_compute_156 : decode c_MA_compute 156 = .ok (.iastore, 1) := by decide +kernel
theorem d_MA_compute_157 : decode c_MA_compute 157 = .ok (.goto 128, 3) := by decide +kernel
theorem d_MA_compute_160 : decode c_MA_compute 160 = .ok (.aload_n 0, 1) := by decide +kernel
theorem d_MA_compute_161 : decode c_MA_compute 161 = .ok (.getfield 15, 3) := by decide +kernel
theorem d_MA_compute_164 : decode c_MA_compute 164 = .ok (.iload_n 2, 1) := by decide +kernel
theorem d_MA_compute_165 : decode c_MA_compute 165 = .ok (.aload_n 0, 1) := by decide +kernel
theorem d_MA_compute_166 : decode c_MA_compute 166 = .ok (.getfield 15, 3) := by decide +kernel
theorem d_MA_compute_169 : decode c_MA_compute 169 = .ok (.iload_n 2, 1) := by decide +kernel
theorem d_MA_compute_170 : decode c_MA_compute 170 = .ok (.iaload, 1) := by decide +kernel
theorem d_MA_compute_171 : decode c_MA_compute 171 = .ok (.aload_n 0, 1) := by decide +kernel
theorem d_MA_compute_172 : decode c_MA_compute 172 = .ok (.getfield 15, 3) := by decide +kernel
theorem d_MA_compute_175 : decode c_MA_compute 175 = .ok (.iload_n 3, 1) := by decide +kernel
theorem d_MA_compute_176 : decode c_MA_compute 176 = .ok (.iaload, 1) := by decide +kernel
theorem d_MA_compute_177 : decode c_MA_compute 177 = .ok (.iand, 1) := by decide +kernel
theorem d_MA_compute_178 : decode c_MA_compute 178 = .ok (.iastore, 1) := by decide +kernel
theorem d_MA_compute_179 : decode c_MA_compute 179 = .ok (.goto 106, 3) := by decide +kernel
theorem d_MA_compute_182 : decode c_MA_compute 182 = .ok (.aload_n 0, 1) := by decide +kernel
theorem d_MA_compute_183 : decode c_MA_compute 183 = .ok (.getfield 15, 3) := by decide +kernel
theorem d_MA_compute_186 : decode c_MA_compute 186 = .ok (.iload_n 2, 1) := by decide +kernel
theorem d_MA_compute_187 : decode c_MA_compute 187 = .ok (.aload_n 0, 1) := by decide +kernel
theorem d_MA_compute_188 : decode c_MA_compute 188 = .ok (.getfield 15, 3) := by decide +kernel
theorem d_MA_compute_191 : decode c_MA_compute 191 = .ok (.iload_n 2, 1) := by decide +kernel
theorem d_MA_compute_192 : decode c_MA_compute 192 = .ok (.iaload, 1) := by decide +kernel
theorem d_MA_compute_193 : decode c_MA_compute 193 = .ok (.aload_n 0, 1) := by decide +kernel
theorem d_MA_compute_194 : decode c_MA_compute 194 = .ok (.getfield 15, 3) := by decide +kernel
theorem d_MA_compute_197 : decode c_MA_compute 197 = .ok (.iload_n 3, 1) := by decide +kernel
theorem d_MA_compute_198 : decode c_MA_compute 198 = .ok (.iaload, 1) := by decide +kernel
theorem d_MA_compute_199 : decode c_MA_compute 199 = .ok (.if_icmp .ge 7, 3) := by decide +kernel
theorem d_MA_compute_202 : decode c_MA_compute 202 = .ok (.iconst 1, 1) := by decide +kernel
theorem d_MA_compute_203 : decode c_MA_compute 203 = .ok (.goto 4, 3) := by decide +kernel
theorem d_MA_compute_206 : decode c_MA_compute 206 = .ok (.iconst 0, 1) := by decide +kernel
theorem d_MA_compute_207 : decode c_MA_compute 207 = .ok (.iastore, 1) := by decide +kernel
theorem d_MA_compute_208 : decode c_MA_compute 208 = .ok (.goto 77, 3) := by decide +kernel
theorem d_MA_compute_211 : decode c_MA_compute 211 = .ok (.aload_n 0, 1) := by decide +kernel
theorem d_MA_compute_212 : decode c_MA_compute 212 = .ok (.getfield 15, 3) := by decide +kernel
theorem d_MA_compute_215 : decode c_MA_compute 215 = .ok (.iload_n 2, 1) := by decide +kernel
theorem d_MA_compute_216 : decode c_MA_compute 216 = .ok (.aload_n 0, 1) := by decide +kernel
theorem d_MA_compute_217 : decode c_MA_compute 217 = .ok (.getfield 15, 3) := by decide +kernel
theorem d_MA_compute_220 : decode c_MA_compute 220 = .ok (.iload_n 2, 1) := by decide +kernel
theorem d_MA_compute_221 : decode c_MA_compute 221 = .ok (.iaload, 1) := by decide +kernel
theorem d_MA_compute_222 : decode c_MA_compute 222 = .ok (.iload 4, 2) := by decide +kernel
theorem d_MA_compute_224 : decode c_MA_compute 224 = .ok (.invokestatic 85, 3) := by decide +kernel
theorem d_MA_compute_227 : decode c_MA_compute 227 = .ok (.iastore, 1) := by decide +kernel
theorem d_MA_compute_228 : decode c_MA_compute 228 = .ok (.goto 57, 3) := by decide +kernel
theorem d_MA_compute_231 : decode c_MA_compute 231 = .ok (.iload 4, 2) := by decide +kernel
theorem d_MA_compute_233 : decode c_MA_compute 233 = .ok (.istore 5, 2) := by decide +kernel
theorem d_MA_compute_235 : decode c_MA_compute 235 = .ok (.goto 50, 3) := by decide +kernel
theorem d_MA_compute_238 : decode c_MA_compute 238 = .ok (.aload_n 0, 1) := by decide +kernel
theorem d_MA_compute_239 : decode c_MA_compute 239 = .ok (.getfield 15, 3) := by decide +kernel
theorem d_MA_compute_242 : decode c_MA_compute 242 = .ok (.iload_n 2, 1) := by decide +kernel
theorem d_MA_compute_243 : decode c_MA_compute 243 = .ok (.iaload, 1) := by decide +kernel
theorem d_MA_compute_244 : decode c_MA_compute 244 = .ok (.ifCond .ne 8, 3) := by decide +kernel
theorem d_MA_compute_247 : decode c_MA_compute 247 = .ok (.iload 4, 2) := by decide +kernel
theorem d_MA_compute_249 : decode c_MA_compute 249 = .ok (.goto 5, 3) := by decide +kernel
theorem d_MA_compute_252 : decode c_MA_compute 252 = .ok (.iload 5, 2) := by decide +kernel
theorem d_MA_compute_254 : decode c_MA_compute 254 = .ok (.istore 5, 2) := by decide +kernel
theorem d_MA_compute_256 : decode c_MA_compute 256 = .ok (.goto 29, 3) := by decide +kernel
theorem d_MA_compute_259 : decode c_MA_compute 259 = .ok (.aload_n 0, 1) := by decide +kernel
theorem d_MA_compute_260 : decode c_MA_compute 260 = .ok (.getfield 15, 3) := by decide +kernel
theorem d_MA_compute_263 : decode c_MA_compute 263 = .ok (.iload_n 2, 1) := by decide +kernel
theorem d_MA_compute_264 : decode c_MA_compute 264 = .ok (.iaload, 1) := by decide +kernel
theorem d_MA_compute_265 : decode c_MA_compute 265 = .ok (.istore 5, 2) := by decide +kernel
theorem d_MA_compute_267 : decode c_MA_compute 267 = .ok (.goto 18, 3) := by decide +kernel
theorem d_MA_compute_270 : decode c_MA_compute 270 = .ok (.aload_n 0, 1) := by decide +kernel
theorem d_MA_compute_271 : decode c_MA_compute 271 = .ok (.getfield 15, 3) := by decide +kernel
theorem d_MA_compute_274 : decode c_MA_compute 274 = .ok (.iload_n 2, 1) := by decide +kernel
theorem d_MA_compute_275 : decode c_MA_compute 275 = .ok (.iload 5, 2) := by decide +kernel
theorem d_MA_compute_277 : decode c_MA_compute 277 = .ok (.iastore, 1) := by decide +kernel
theorem d_MA_compute_278 : decode c_MA_compute 278 = .ok (.iload 4, 2) := by decide +kernel
theorem d_MA_compute_280 : decode c_MA_compute 280 = .ok (.istore 5, 2) := by decide +kernel
theorem d_MA_compute_282 : decode c_MA_compute 282 = .ok (.goto 3, 3) := by decide +kernel
theorem d_MA_compute_285 : decode c_MA_compute 285 = .ok (.aload_n 0, 1) := by decide +kernel
theorem d_MA_compute_286 : decode c_MA_compute 286 = .ok (.iload 5, 2) := by decide +kernel
theorem d_MA_compute_288 : decode c_MA_compute 288 = .ok (.invokevirtual 81, 3) := by decide +kernel
theorem d_MA_compute_291 : decode c_MA_compute 291 = .ok (.return_, 1) := by decide +kernel
theorem d_MA_goOn_0 : decode c_MA_goOn 0 = .ok (.aload_n 0, 1) := by decide +kernel
theorem d_MA_goOn_1 : decode c_MA_goOn 1 = .ok (.iload_n 1, 1) := by decide +kernel
theorem d_MA_goOn_2 : decode c_MA_goOn 2 = .ok (.putfield 44, 3) := by decide +kernel
theorem d_MA_goOn_5 : decode c_MA_goOn 5 = .ok (.aload_n 0, 1) := by decide +kernel
theorem d_MA_goOn_6 : decode c_MA_goOn 6 = .ok (.getfield 41, 3) := by decide +kernel
theorem d_MA_goOn_9 : decode c_MA_goOn 9 = .ok (.iconst 1, 1) := by decide +kernel
theorem d_MA_goOn_10 : decode c_MA_goOn 10 = .ok (.if_icmp .ne 36, 3) := by decide +kernel
theorem d_MA_goOn_13 : decode c_MA_goOn 13 = .ok (.aload_n 0, 1) := by decide +kernel
theorem d_MA_goOn_14 : decode c_MA_goOn 14 = .ok (.getfield 56, 3) := by decide +kernel
theorem d_MA_goOn_17 : decode c_MA_goOn 17 = .ok (.ifCond .le 29, 3) := by decide +kernel
theorem d_MA_goOn_20 : decode c_MA_goOn 20 = .ok (.aload_n 0, 1) := by decide +kernel
theorem d_MA_goOn_21 : decode c_MA_goOn 21 = .ok (.dup, 1) := by decide +kernel
theorem d_MA_goOn_22 : decode c_MA_goOn 22 = .ok (.getfield 56, 3) := by decide +kernel
theorem d_MA_goOn_25 : decode c_MA_goOn 25 = .ok (.iconst 1, 1) := by decide +kernel
theorem d_MA_goOn_26 : decode c_MA_goOn 26 = .ok (.isub, 1) := by decide +kernel
theorem d_MA_goOn_27 : decode c_MA_goOn 27 = .ok (.putfield 56, 3) := by decide +kernel
theorem d_MA_goOn_30 : decode c_MA_goOn 30 = .ok (.aload_n 0, 1) := by decide +kernel
theorem d_MA_goOn_31 : decode c_MA_goOn 31 = .ok (.aload_n 0, 1) := by decide +kernel
theorem d_MA_goOn_32 : decode c_MA_goOn 32 = .ok (.getfield 56, 3) := by decide +kernel
theorem d_MA_goOn_35 : decode c_MA_goOn 35 = .ok (.ifCond .ne 7, 3) := by decide +kernel
theorem d_MA_goOn_38 : decode c_MA_goOn 38 = .ok (.iconst 1, 1) := by decide +kernel
theorem d_MA_goOn_39 : decode c_MA_goOn 39 = .ok (.goto 4, 3) := by decide +kernel
theorem d_MA_goOn_42 : decode c_MA_goOn 42 = .ok (.iconst 0, 1) := by decide +kernel
theorem d_MA_goOn_43 : decode c_MA_goOn 43 = .ok (.putfield 59, 3) := by decide +kernel
theorem d_MA_goOn_46 : decode c_MA_goOn 46 = .ok (.return_, 1) := by decide +kernel
theorem d_MA_govern_0 : decode c_MA_govern 0 = .ok (.iload_n 1, 1) := by decide +kernel
theorem d_MA_govern_1 : decode c_MA_govern 1 = .ok (.bipush 23, 2) := by decide +kernel
theorem d_MA_govern_3 : decode c_MA_govern 3 = .ok (.if_icmp .ge 8, 3) := by decide +kernel
theorem d_MA_govern_6 : decode c_MA_govern 6 = .ok (.iload 4, 2) := by decide +kernel
theorem d_MA_govern_8 : decode c_MA_govern 8 = .ok (.goto 15, 3) := by decide +kernel
theorem d_MA_govern_11 : decode c_MA_govern 11 = .ok (.aload_n 0, 1) := by decide +kernel
theorem d_MA_govern_12 : decode c_MA_govern 12 = .ok (.getfield 15, 3) := by decide +kernel
theorem d_MA_govern_15 : decode c_MA_govern 15 = .ok (.iload_n 3, 1) := by decide +kernel
theorem d_MA_govern_16 : decode c_MA_govern 16 = .ok (.iaload, 1) := by decide +kernel
theorem d_MA_govern_17 : decode c_MA_govern 17 = .ok (.iload 4, 2) := by decide +kernel
theorem d_MA_govern_19 : decode c_MA_govern 19 = .ok (.iadd, 1) := by decide +kernel
theorem d_MA_govern_20 : decode c_MA_govern 20 = .ok (.ldc 70, 2) := by decide +kernel
theorem d_MA_govern_22 : decode c_MA_govern 22 = .ok (.iand, 1) := by decide +kernel
theorem d_MA_govern_23 : decode c_MA_govern 23 = .ok (.istore 5, 2) := by decide +kernel
theorem d_MA_govern_25 : decode c_MA_govern 25 = .ok (.aload_n 0, 1) := by decide +kernel
theorem d_MA_govern_26 : decode c_MA_govern 26 = .ok (.iload 5, 2) := by decide +kernel
theorem d_MA_govern_28 : decode c_MA_govern 28 = .ok (.iload_n 1, 1) := by decide +kernel
theorem d_MA_govern_29 : decode c_MA_govern 29 = .ok (.invokestatic 89, 3) := by decide +kernel
theorem d_MA_govern_32 : decode c_MA_govern 32 = .ok (.invokevirtual 93, 3) := by decide +kernel
theorem d_MA_govern_35 : decode c_MA_govern 35 = .ok (.istore 6, 2) := by decide +kernel
theorem d_MA_govern_37 : decode c_MA_govern 37 = .ok (.iload 6, 2) := by decide +kernel
theorem d_MA_govern_39 : decode c_MA_govern 39 = .ok (.iconst (-1), 1) := by decide +kernel
theorem d_MA_govern_40 : decode c_MA_govern 40 = .ok (.if_icmp .eq 15, 3) := by decide +kernel
theorem d_MA_govern_43 : decode c_MA_govern 43 = .ok (.aload_n 0, 1) := by decide +kernel
theorem d_MA_govern_44 : decode c_MA_govern 44 = .ok (.iconst 2, 1) := by decide +kernel
theorem d_MA_govern_45 : decode c_MA_govern 45 = .ok (.iload 6, 2) := by decide +kernel
theorem d_MA_govern_47 : decode c_MA_govern 47 = .ok (.aload_n 0, 1) := by decide +kernel
theorem d_MA_govern_48 : decode c_MA_govern 48 = .ok (.getfield 44, 3) := by decide +kernel
theorem d_MA_govern_51 : decode c_MA_govern 51 = .ok (.invokevirtual 66, 3) := by decide +kernel
theorem d_MA_govern_54 : decode c_MA_govern 54 = .ok (.return_, 1) := by decide +kernel
theorem d_MA_govern_55 : decode c_MA_govern 55 = .ok (.aload_n 0, 1) := by decide +kernel
theorem d_MA_govern_56 : decode c_MA_govern 56 = .ok (.getfield 47, 3) := by decide +kernel
theorem d_MA_govern_59 : decode c_MA_govern 59 = .ok (.iload 5, 2) := by decide +kernel
theorem d_MA_govern_61 : decode c_MA_govern 61 = .ok (.iadd, 1) := by decide +kernel
theorem d_MA_govern_62 : decode c_MA_govern 62 = .ok (.istore 7, 2) := by decide +kernel
theorem d_MA_govern_64 : decode c_MA_govern 64 = .ok (.aload_n 0, 1) := by decide +kernel
theorem d_MA_govern_65 : decode c_MA_govern 65 = .ok (.getfield 15, 3) := by decide +kernel
theorem d_MA_govern_68 : decode c_MA_govern 68 = .ok (.iload_n 2, 1) := by decide +kernel
theorem d_MA_govern_69 : decode c_MA_govern 69 = .ok (.iaload, 1) := by decide +kernel
theorem d_MA_govern_70 : decode c_MA_govern 70 = .ok (.bipush 7, 2) := by decide +kernel
theorem d_MA_govern_72 : decode c_MA_govern 72 = .ok (.iand, 1) := by decide +kernel
theorem d_MA_govern_73 : decode c_MA_govern 73 = .ok (.bipush 16, 2) := by decide +kernel
theorem d_MA_govern_75 : decode c_MA_govern 75 = .ok (.imul, 1) := by decide +kernel
theorem d_MA_govern_76 : decode c_MA_govern 76 = .ok (.istore 8, 2) := by decide +kernel
theorem d_MA_govern_78 : decode c_MA_govern 78 = .ok (.aload_n 0, 1) := by decide +kernel
theorem d_MA_govern_79 : decode c_MA_govern 79 = .ok (.getfield 44, 3) := by decide +kernel
theorem d_MA_govern_82 : decode c_MA_govern 82 = .ok (.iconst 2, 1) := by decide +kernel
theorem d_MA_govern_83 : decode c_MA_govern 83 = .ok (.iadd, 1) := by decide +kernel
theorem d_MA_govern_84 : decode c_MA_govern 84 = .ok (.istore 9, 2) := by decide +kernel
theorem d_MA_govern_86 : decode c_MA_govern 86 = .ok (.iload_n 1, 1) := by decide +kernel
theorem d_MA_govern_87 : decode c_MA_govern 87 = .ok (.tableswitch 244 0 24 #[113, 244, 244, 244, 244, 244, 244, 244, 244, 244, 244, 244, 244, 244, 244, 244, 244, 119, 126, 137, 155, 168, 184, 204, 224], 113) := by decide +kernel
theorem d_MA_govern_200 : decode c_MA_govern 200 = .ok (.aload_n 0, 1) := by decide +kernel
theorem d_MA_govern_201 : decode c_MA_govern 201 = .ok (.iconst 1, 1) := by decide +kernel
theorem d_MA_govern_202 : decode c_MA_govern 202 = .ok (.putfield 63, 3) := by decide +kernel
theorem d_MA_govern_205 : decode c_MA_govern 205 = .ok (.return_, 1) := by decide +kernel
theorem d_MA_govern_206 : decode c_MA_govern 206 = .ok (.aload_n 0, 1) := by decide +kernel
theorem d_MA_govern_207 : decode c_MA_govern 207 = .ok (.iload 7, 2) := by decide +kernel
theorem d_MA_govern_209 : decode c_MA_govern 209 = .ok (.invokevirtual 96, 3) := by decide +kernel
theorem d_MA_govern_212 : decode c_MA_govern 212 = .ok (.return_, 1) := by decide +kernel
theorem d_MA_govern_213 : decode c_MA_govern 213 = .ok (.aload_n 0, 1) := by decide +kernel
theorem d_MA_govern_214 : decode c_MA_govern 214 = .ok (.iload 7, 2) := by decide +kernel
theorem d_MA_govern_216 : decode c_MA_govern 216 = .ok (.iload 9, 2) := by decide +kernel
theorem d_MA_govern_218 : decode c_MA_govern 218 = .ok (.invokevirtual 99, 3) := by decide +kernel
theorem d_MA_govern_221 : decode c_MA_govern 221 = .ok (.goto 110, 3) := by decide +kernel
theorem d_MA_govern_224 : decode c_MA_govern 224 = .ok (.aload_n 0, 1) := by decide +kernel
theorem d_MA_govern_225 : decode c_MA_govern 225 = .ok (.aload_n 0, 1) := by decide +kernel
theorem d_MA_govern_226 : decode c_MA_govern 226 = .ok (.getfield 15, 3) := by decide +kernel
theorem d_MA_govern_229 : decode c_MA_govern 229 = .ok (.iload_n 2, 1) := by decide +kernel
theorem d_MA_govern_230 : decode c_MA_govern 230 = .ok (.iaload, 1) := by decide +kernel
theorem d_MA_govern_231 : decode c_MA_govern 231 = .ok (.putfield 56, 3) := by decide +kernel
theorem d_MA_govern_234 : decode c_MA_govern 234 = .ok (.aload_n 0, 1) := by decide +kernel
theorem d_MA_govern_235 : decode c_MA_govern 235 = .ok (.iconst 0, 1) := by decide +kernel
theorem d_MA_govern_236 : decode c_MA_govern 236 = .ok (.putfield 59, 3) := by decide +kernel
theorem d_MA_govern_239 : decode c_MA_govern 239 = .ok (.goto 92, 3) := by decide +kernel
theorem d_MA_govern_242 : decode c_MA_govern 242 = .ok (.aload_n 0, 1) := by decide +kernel
theorem d_MA_govern_243 : decode c_MA_govern 243 = .ok (.getfield 15, 3) := by decide +kernel
theorem d_MA_govern_246 : decode c_MA_govern 246 = .ok (.iload_n 2, 1) := by decide +kernel
theorem d_MA_govern_247 : decode c_MA_govern 247 = .ok (.aload_n 0, 1) := by decide +kernel
theorem d_MA_govern_248 : decode c_MA_govern 248 = .ok (.getfield 56, 3) := by decide +kernel
theorem d_MA_govern_251 : decode c_MA_govern 251 = .ok (.iastore, 1) := by decide +kernel
theorem d_MA_govern_252 : decode c_MA_govern 252 = .ok (.goto 79, 3) := by decide +kernel
theorem d_MA_govern_255 : decode c_MA_govern 255 = .ok (.aload_n 0, 1) := by decide +kernel
theorem d_MA_govern_256 : decode c_MA_govern 256 = .ok (.getfield 15, 3) := by decide +kernel
theorem d_MA_govern_259 : decode c_MA_govern 259 = .ok (.iload_n 2, 1) := by decide +kernel
theorem d_MA_govern_260 : decode c_MA_govern 260 = .ok (.aload_n 0, 1) := by decide +kernel
theorem d_MA_govern_261 : decode c_MA_govern 261 = .ok (.getfield 24, 3) := by decide +kernel
theorem d_MA_govern_264 : decode c_MA_govern 264 = .ok (.invokevirtual 103, 3) := by decide +kernel
theorem d_MA_govern_267 : decode c_MA_govern 267 = .ok (.iastore, 1) := by decide +kernel
theorem d_MA_govern_268 : decode c_MA_govern 268 = .ok (.goto 63, 3) := by decide +kernel
theorem d_MA_govern_271 : decode c_MA_govern 271 = .ok (.aload_n 0, 1) := by decide +kernel
theorem d_MA_govern_272 : decode c_MA_govern 272 = .ok (.getfield 24, 3) := by decide +kernel
theorem d_MA_govern_275 : decode c_MA_govern 275 = .ok (.aload_n 0, 1) := by decide +kernel
theorem d_MA_govern_276 : decode c_MA_govern 276 = .ok (.getfield 15, 3) := by decide +kernel
theorem d_MA_govern_279 : decode c_MA_govern 279 = .ok (.iload_n 2, 1) := by decide +kernel
theorem d_MA_govern_280 : decode c_MA_govern 280 = .ok (.iaload, 1) := by decide +kernel
theorem d_MA_govern_281 : decode c_MA_govern 281 = .ok (.sipush 255, 3) := by decide +kernel
theorem d_MA_govern_284 : decode c_MA_govern 284 = .ok (.iand, 1) := by decide +kernel
theorem d_MA_govern_285 : decode c_MA_govern 285 = .ok (.invokevirtual 107, 3) := by decide +kernel
theorem d_MA_govern_288 : decode c_MA_govern 288 = .ok (.goto 43, 3) := by decide +kernel
theorem d_MA_govern_291 : decode c_MA_govern 291 = .ok (.aload_n 0, 1) := by decide +kernel
theorem d_MA_govern_292 : decode c_MA_govern 292 = .ok (.getfield 18, 3) := by decide +kernel
theorem d_MA_govern_295 : decode c_MA_govern 295 = .ok (.iload 8, 2) := by decide +kernel
theorem d_MA_govern_297 : decode c_MA_govern 297 = .ok (.aload_n 0, 1) := by decide +kernel
theorem d_MA_govern_298 : decode c_MA_govern 298 = .ok (.getfield 9, 3) := by decide +kernel
theorem d_MA_govern_301 : decode c_MA_govern 301 = .ok (.iload 7, 2) := by decide +kernel
theorem d_MA_govern_303 : decode c_MA_govern 303 = .ok (.bipush 16, 2) := by decide +kernel
theorem d_MA_govern_305 : decode c_MA_govern 305 = .ok (.invokestatic 110, 3) := by decide +kernel
theorem d_MA_govern_308 : decode c_MA_govern 308 = .ok (.goto 23, 3) := by decide +kernel
theorem d_MA_govern_311 : decode c_MA_govern 311 = .ok (.aload_n 0, 1) := by decide +kernel
theorem d_MA_govern_312 : decode c_MA_govern 312 = .ok (.getfield 9, 3) := by decide +kernel
theorem d_MA_govern_315 : decode c_MA_govern 315 = .ok (.iload 7, 2) := by decide +kernel
theorem d_MA_govern_317 : decode c_MA_govern 317 = .ok (.aload_n 0, 1) := by decide +kernel
theorem d_MA_govern_318 : decode c_MA_govern 318 = .ok (.getfield 18, 3) := by decide +kernel
theorem d_MA_govern_321 : decode c_MA_govern 321 = .ok (.iload 8, 2) := by decide +kernel
theorem d_MA_govern_323 : decode c_MA_govern 323 = .ok (.bipush 16, 2) := by decide +kernel
theorem d_MA_govern_325 : decode c_MA_govern 325 = .ok (.invokestatic 110, 3) := by decide +kernel
theorem d_MA_govern_328 : decode c_MA_govern 328 = .ok (.goto 3, 3) := by decide +kernel
theorem d_MA_govern_331 : decode c_MA_govern 331 = .ok (.aload_n 0, 1) := by decide +kernel
theorem d_MA_govern_332 : decode c_MA_govern 332 = .ok (.iload 9, 2) := by decide +kernel
theorem d_MA_govern_334 : decode c_MA_govern 334 = .ok (.putfield 44, 3) := by decide +kernel
theorem d_MA_govern_337 : decode c_MA_govern 337 = .ok (.return_, 1) := by decide +kernel
theorem d_MA_wordsWanted_0 : decode c_MA_wordsWanted 0 = .ok (.iload_n 0, 1) := by decide +kernel
theorem d_MA_wordsWanted_1 : decode c_MA_wordsWanted 1 = .ok (.tableswitch 52 17 24 #[47, 47, 52, 52, 52, 52, 49, 49], 47) := by decide +kernel
theorem d_MA_wordsWanted_48 : decode c_MA_wordsWanted 48 = .ok (.iconst 4, 1) := by decide +kernel
theorem d_MA_wordsWanted_49 : decode c_MA_wordsWanted 49 = .ok (.ireturn, 1) := by decide +kernel
theorem d_MA_wordsWanted_50 : decode c_MA_wordsWanted 50 = .ok (.bipush 16, 2) := by decide +kernel
theorem d_MA_wordsWanted_52 : decode c_MA_wordsWanted 52 = .ok (.ireturn, 1) := by decide +kernel
theorem d_MA_wordsWanted_53 : decode c_MA_wordsWanted 53 = .ok (.iconst 0, 1) := by decide +kernel
theorem d_MA_wordsWanted_54 : decode c_MA_wordsWanted 54 = .ok (.ireturn, 1) := by decide +kernel
theorem d_MA_trap_0 : decode c_MA_trap 0 = .ok (.aload_n 0, 1) := by decide +kernel
theorem d_MA_trap_1 : decode c_MA_trap 1 = .ok (.iconst 0, 1) := by decide +kernel
theorem d_MA_trap_2 : decode c_MA_trap 2 = .ok (.iload_n 3, 1) := by decide +kernel
theorem d_MA_trap_3 : decode c_MA_trap 3 = .ok (.invokevirtual 99, 3) := by decide +kernel
theorem d_MA_trap_6 : decode c_MA_trap 6 = .ok (.aload_n 0, 1) := by decide +kernel
theorem d_MA_trap_7 : decode c_MA_trap 7 = .ok (.getfield 9, 3) := by decide +kernel
theorem d_MA_trap_10 : decode c_MA_trap 10 = .ok (.bipush 8, 2) := by decide +kernel
theorem d_MA_trap_12 : decode c_MA_trap 12 = .ok (.iload_n 1, 1) := by decide +kernel
theorem d_MA_trap_13 : decode c_MA_trap 13 = .ok (.iastore, 1) := by decide +kernel
theorem d_MA_trap_14 : decode c_MA_trap 14 = .ok (.aload_n 0, 1) := by decide +kernel
theorem d_MA_trap_15 : decode c_MA_trap 15 = .ok (.getfield 9, 3) := by decide +kernel
theorem d_MA_trap_18 : decode c_MA_trap 18 = .ok (.bipush 9, 2) := by decide +kernel
theorem d_MA_trap_20 : decode c_MA_trap 20 = .ok (.iload_n 2, 1) := by decide +kernel
theorem d_MA_trap_21 : decode c_MA_trap 21 = .ok (.iastore, 1) := by decide +kernel
theorem d_MA_trap_22 : decode c_MA_trap 22 = .ok (.aload_n 0, 1) := by decide +kernel
theorem d_MA_trap_23 : decode c_MA_trap 23 = .ok (.iconst 4, 1) := by decide +kernel
theorem d_MA_trap_24 : decode c_MA_trap 24 = .ok (.invokevirtual 96, 3) := by decide +kernel
theorem d_MA_trap_27 : decode c_MA_trap 27 = .ok (.return_, 1) := by decide +kernel
theorem d_MA_keepStatus_0 : decode c_MA_keepStatus 0 = .ok (.aload_n 0, 1) := by decide +kernel
theorem d_MA_keepStatus_1 : decode c_MA_keepStatus 1 = .ok (.getfield 9, 3) := by decide +kernel
theorem d_MA_keepStatus_4 : decode c_MA_keepStatus 4 = .ok (.iload_n 1, 1) := by decide +kernel
theorem d_MA_keepStatus_5 : decode c_MA_keepStatus 5 = .ok (.aload_n 0, 1) := by decide +kernel
theorem d_MA_keepStatus_6 : decode c_MA_keepStatus 6 = .ok (.getfield 41, 3) := by decide +kernel
theorem d_MA_keepStatus_9 : decode c_MA_keepStatus 9 = .ok (.iastore, 1) := by decide +kernel
theorem d_MA_keepStatus_10 : decode c_MA_keepStatus 10 = .ok (.aload_n 0, 1) := by decide +kernel
theorem d_MA_keepStatus_11 : decode c_MA_keepStatus 11 = .ok (.getfield 9, 3) := by decide +kernel
theorem d_MA_keepStatus_14 : decode c_MA_keepStatus 14 = .ok (.iload_n 1, 1) := by decide +kernel
theorem d_MA_keepStatus_15 : decode c_MA_keepStatus 15 = .ok (.iconst 1, 1) := by decide +kernel
theorem d_MA_keepStatus_16 : decode c_MA_keepStatus 16 = .ok (.iadd, 1) := by decide +kernel
theorem d_MA_keepStatus_17 : decode c_MA_keepStatus 17 = .ok (.iload_n 2, 1) := by decide +kernel
theorem d_MA_keepStatus_18 : decode c_MA_keepStatus 18 = .ok (.iastore, 1) := by decide +kernel
theorem d_MA_keepStatus_19 : decode c_MA_keepStatus 19 = .ok (.aload_n 0, 1) := by decide +kernel
theorem d_MA_keepStatus_20 : decode c_MA_keepStatus 20 = .ok (.getfield 9, 3) := by decide +kernel
theorem d_MA_keepStatus_23 : decode c_MA_keepStatus 23 = .ok (.iload_n 1, 1) := by decide +kernel
theorem d_MA_keepStatus_24 : decode c_MA_keepStatus 24 = .ok (.iconst 2, 1) := by decide +kernel
theorem d_MA_keepStatus_25 : decode c_MA_keepStatus 25 = .ok (.iadd, 1) := by decide +kernel
theorem d_MA_keepStatus_26 : decode c_MA_keepStatus 26 = .ok (.aload_n 0, 1) := by decide +kernel
theorem d_MA_keepStatus_27 : decode c_MA_keepStatus 27 = .ok (.getfield 47, 3) := by decide +kernel
theorem d_MA_keepStatus_30 : decode c_MA_keepStatus 30 = .ok (.iastore, 1) := by decide +kernel
theorem d_MA_keepStatus_31 : decode c_MA_keepStatus 31 = .ok (.aload_n 0, 1) := by decide +kernel
theorem d_MA_keepStatus_32 : decode c_MA_keepStatus 32 = .ok (.getfield 9, 3) := by decide +kernel
theorem d_MA_keepStatus_35 : decode c_MA_keepStatus 35 = .ok (.iload_n 1, 1) := by decide +kernel
theorem d_MA_keepStatus_36 : decode c_MA_keepStatus 36 = .ok (.iconst 3, 1) := by decide +kernel
theorem d_MA_keepStatus_37 : decode c_MA_keepStatus 37 = .ok (.iadd, 1) := by decide +kernel
theorem d_MA_keepStatus_38 : decode c_MA_keepStatus 38 = .ok (.aload_n 0, 1) := by decide +kernel
theorem d_MA_keepStatus_39 : decode c_MA_keepStatus 39 = .ok (.getfield 50, 3) := by decide +kernel
theorem d_MA_keepStatus_42 : decode c_MA_keepStatus 42 = .ok (.iastore, 1) := by decide +kernel
theorem d_MA_keepStatus_43 : decode c_MA_keepStatus 43 = .ok (.return_, 1) := by decide +kernel
theorem d_MA_takeStatus_0 : decode c_MA_takeStatus 0 = .ok (.aload_n 0, 1) := by decide +kernel
theorem d_MA_takeStatus_1 : decode c_MA_takeStatus 1 = .ok (.aload_n 0, 1) := by decide +kernel
theorem d_MA_takeStatus_2 : decode c_MA_takeStatus 2 = .ok (.getfield 9, 3) := by decide +kernel
theorem d_MA_takeStatus_5 : decode c_MA_takeStatus 5 = .ok (.iload_n 1, 1) := by decide +kernel
theorem d_MA_takeStatus_6 : decode c_MA_takeStatus 6 = .ok (.iaload, 1) := by decide +kernel
theorem d_MA_takeStatus_7 : decode c_MA_takeStatus 7 = .ok (.ifCond .ne 7, 3) := by decide +kernel
theorem d_MA_takeStatus_10 : decode c_MA_takeStatus 10 = .ok (.iconst 0, 1) := by decide +kernel
theorem d_MA_takeStatus_11 : decode c_MA_takeStatus 11 = .ok (.goto 4, 3) := by decide +kernel
theorem d_MA_takeStatus_14 : decode c_MA_takeStatus 14 = .ok (.iconst 1, 1) := by decide +kernel
theorem d_MA_takeStatus_15 : decode c_MA_takeStatus 15 = .ok (.putfield 41, 3) := by decide +kernel
theorem d_MA_takeStatus_18 : decode c_MA_takeStatus 18 = .ok (.aload_n 0, 1) := by decide +kernel
theorem d_MA_takeStatus_19 : decode c_MA_takeStatus 19 = .ok (.aload_n 0, 1) := by decide +kernel
theorem d_MA_takeStatus_20 : decode c_MA_takeStatus 20 = .ok (.getfield 9, 3) := by decide +kernel
theorem d_MA_takeStatus_23 : decode c_MA_takeStatus 23 = .ok (.iload_n 1, 1) := by decide +kernel
theorem d_MA_takeStatus_24 : decode c_MA_takeStatus 24 = .ok (.iconst 1, 1) := by decide +kernel
theorem d_MA_takeStatus_25 : decode c_MA_takeStatus 25 = .ok (.iadd, 1) := by decide +kernel
theorem d_MA_takeStatus_26 : decode c_MA_takeStatus 26 = .ok (.iaload, 1) := by decide +kernel
theorem d_MA_takeStatus_27 : decode c_MA_takeStatus 27 = .ok (.putfield 44, 3) := by decide +kernel
theorem d_MA_takeStatus_30 : decode c_MA_takeStatus 30 = .ok (.aload_n 0, 1) := by decide +kernel
theorem d_MA_takeStatus_31 : decode c_MA_takeStatus 31 = .ok (.aload_n 0, 1) := by decide +kernel
theorem d_MA_takeStatus_32 : decode c_MA_takeStatus 32 = .ok (.getfield 9, 3) := by decide +kernel
theorem d_MA_takeStatus_35 : decode c_MA_takeStatus 35 = .ok (.iload_n 1, 1) := by decide +kernel
theorem d_MA_takeStatus_36 : decode c_MA_takeStatus 36 = .ok (.iconst 2, 1) := by decide +kernel
theorem d_MA_takeStatus_37 : decode c_MA_takeStatus 37 = .ok (.iadd, 1) := by decide +kernel
theorem d_MA_takeStatus_38 : decode c_MA_takeStatus 38 = .ok (.iaload, 1) := by decide +kernel
theorem d_MA_takeStatus_39 : decode c_MA_takeStatus 39 = .ok (.putfield 47, 3) := by decide +kernel
theorem d_MA_takeStatus_42 : decode c_MA_takeStatus 42 = .ok (.aload_n 0, 1) := by decide +kernel
theorem d_MA_takeStatus_43 : decode c_MA_takeStatus 43 = .ok (.aload_n 0, 1) := by decide +kernel
theorem d_MA_takeStatus_44 : decode c_MA_takeStatus 44 = .ok (.getfield 9, 3) := by decide +kernel
theorem d_MA_takeStatus_47 : decode c_MA_takeStatus 47 = .ok (.iload_n 1, 1) := by decide +kernel
theorem d_MA_takeStatus_48 : decode c_MA_takeStatus 48 = .ok (.iconst 3, 1) := by decide +kernel
theorem d_MA_takeStatus_49 : decode c_MA_takeStatus 49 = .ok (.iadd, 1) := by decide +kernel
theorem d_MA_takeStatus_50 : decode c_MA_takeStatus 50 = .ok (.iaload, 1) := by decide +kernel
theorem d_MA_takeStatus_51 : decode c_MA_takeStatus 51 = .ok (.putfield 50, 3) := by decide +kernel
theorem d_MA_takeStatus_54 : decode c_MA_takeStatus 54 = .ok (.aload_n 0, 1) := by decide +kernel
theorem d_MA_takeStatus_55 : decode c_MA_takeStatus 55 = .ok (.aload_n 0, 1) := by decide +kernel
theorem d_MA_takeStatus_56 : decode c_MA_takeStatus 56 = .ok (.getfield 47, 3) := by decide +kernel
theorem d_MA_takeStatus_59 : decode c_MA_takeStatus 59 = .ok (.aload_n 0, 1) := by decide +kernel
theorem d_MA_takeStatus_60 : decode c_MA_takeStatus 60 = .ok (.getfield 50, 3) := by decide +kernel
theorem d_MA_takeStatus_63 : decode c_MA_takeStatus 63 = .ok (.iadd, 1) := by decide +kernel
theorem d_MA_takeStatus_64 : decode c_MA_takeStatus 64 = .ok (.aload_n 0, 1) := by decide +kernel
theorem d_MA_takeStatus_65 : decode c_MA_takeStatus 65 = .ok (.getfield 28, 3) := by decide +kernel
theorem d_MA_takeStatus_68 : decode c_MA_takeStatus 68 = .ok (.if_icmp .ge 10, 3) := by decide +kernel
theorem d_MA_takeStatus_71 : decode c_MA_takeStatus 71 = .ok (.aload_n 0, 1) := by decide +kernel
theorem d_MA_takeStatus_72 : decode c_MA_takeStatus 72 = .ok (.getfield 50, 3) := by decide +kernel
theorem d_MA_takeStatus_75 : decode c_MA_takeStatus 75 = .ok (.goto 12, 3) := by decide +kernel
theorem d_MA_takeStatus_78 : decode c_MA_takeStatus 78 = .ok (.aload_n 0, 1) := by decide +kernel
theorem d_MA_takeStatus_79 : decode c_MA_takeStatus 79 = .ok (.getfield 28, 3) := by decide +kernel
theorem d_MA_takeStatus_82 : decode c_MA_takeStatus 82 = .ok (.aload_n 0, 1) := by decide +kernel
theorem d_MA_takeStatus_83 : decode c_MA_takeStatus 83 = .ok (.getfield 47, 3) := by decide +kernel
theorem d_MA_takeStatus_86 : decode c_MA_takeStatus 86 = .ok (.isub, 1) := by decide +kernel
theorem d_MA_takeStatus_87 : decode c_MA_takeStatus 87 = .ok (.putfield 53, 3) := by decide +kernel
theorem d_MA_takeStatus_90 : decode c_MA_takeStatus 90 = .ok (.return_, 1) := by decide +kernel
theorem d_MA_firstBad_0 : decode c_MA_firstBad 0 = .ok (.iconst 0, 1) := by decide +kernel
theorem d_MA_firstBad_1 : decode c_MA_firstBad 1 = .ok (.istore_n 3, 1) := by decide +kernel
theorem d_MA_firstBad_2 : decode c_MA_firstBad 2 = .ok (.iload_n 3, 1) := by decide +kernel
theorem d_MA_firstBad_3 : decode c_MA_firstBad 3 = .ok (.iload_n 2, 1) := by decide +kernel
theorem d_MA_firstBad_4 : decode c_MA_firstBad 4 = .ok (.if_icmp .ge 29, 3) := by decide +kernel
theorem d_MA_firstBad_7 : decode c_MA_firstBad 7 = .ok (.iload_n 1, 1) := by decide +kernel
theorem d_MA_firstBad_8 : decode c_MA_firstBad 8 = .ok (.iload_n 3, 1) := by decide +kernel
theorem d_MA_firstBad_9 : decode c_MA_firstBad 9 = .ok (.iadd, 1) := by decide +kernel
theorem d_MA_firstBad_10 : decode c_MA_firstBad 10 = .ok (.ldc 70, 2) := by decide +kernel
theorem d_MA_firstBad_12 : decode c_MA_firstBad 12 = .ok (.iand, 1) := by decide +kernel
theorem d_MA_firstBad_13 : decode c_MA_firstBad 13 = .ok (.istore 4, 2) := by decide +kernel
theorem d_MA_firstBad_15 : decode c_MA_firstBad 15 = .ok (.iload 4, 2) := by decide +kernel
theorem d_MA_firstBad_17 : decode c_MA_firstBad 17 = .ok (.aload_n 0, 1) := by decide +kernel
theorem d_MA_firstBad_18 : decode c_MA_firstBad 18 = .ok (.getfield 53, 3) := by decide +kernel
theorem d_MA_firstBad_21 : decode c_MA_firstBad 21 = .ok (.if_icmp .lt 6, 3) := by decide +kernel
theorem d_MA_firstBad_24 : decode c_MA_firstBad 24 = .ok (.iload 4, 2) := by decide +kernel
theorem d_MA_firstBad_26 : decode c_MA_firstBad 26 = .ok (.ireturn, 1) := by decide +kernel
theorem d_MA_firstBad_27 : decode c_MA_firstBad 27 = .ok (.iinc 3 1, 3) := by decide +kernel
theorem d_MA_firstBad_30 : decode c_MA_firstBad 30 = .ok (.goto (-28), 3) := by decide +kernel
theorem d_MA_firstBad_33 : decode c_MA_firstBad 33 = .ok (.iconst (-1), 1) := by decide +kernel
theorem d_MA_firstBad_34 : decode c_MA_firstBad 34 = .ok (.ireturn, 1) := by decide +kernel
theorem d_MA_shifted_0 : decode c_MA_shifted 0 = .ok (.iload_n 1, 1) := by decide +kernel
theorem d_MA_shifted_1 : decode c_MA_shifted 1 = .ok (.bipush 15, 2) := by decide +kernel
theorem d_MA_shifted_3 : decode c_MA_shifted 3 = .ok (.iand, 1) := by decide +kernel
theorem d_MA_shifted_4 : decode c_MA_shifted 4 = .ok (.istore_n 2, 1) := by decide +kernel
theorem d_MA_shifted_5 : decode c_MA_shifted 5 = .ok (.iload_n 1, 1) := by decide +kernel
theorem d_MA_shifted_6 : decode c_MA_shifted 6 = .ok (.bipush 16, 2) := by decide +kernel
theorem d_MA_shifted_8 : decode c_MA_shifted 8 = .ok (.iand, 1) := by decide +kernel
theorem d_MA_shifted_9 : decode c_MA_shifted 9 = .ok (.ifCond .ne 12, 3) := by decide +kernel
theorem d_MA_shifted_12 : decode c_MA_shifted 12 = .ok (.iload_n 0, 1) := by decide +kernel
theorem d_MA_shifted_13 : decode c_MA_shifted 13 = .ok (.iload_n 2, 1) := by decide +kernel
theorem d_MA_shifted_14 : decode c_MA_shifted 14 = .ok (.ishl, 1) := by decide +kernel
theorem d_MA_shifted_15 : decode c_MA_shifted 15 = .ok (.ldc 70, 2) := by decide +kernel
theorem d_MA_shifted_17 : decode c_MA_shifted 17 = .ok (.iand, 1) := by decide +kernel
theorem d_MA_shifted_18 : decode c_MA_shifted 18 = .ok (.goto 6, 3) := by decide +kernel
theorem d_MA_shifted_21 : decode c_MA_shifted 21 = .ok (.iload_n 0, 1) := by decide +kernel
theorem d_MA_shifted_22 : decode c_MA_shifted 22 = .ok (.iload_n 2, 1) := by decide +kernel
theorem d_MA_shifted_23 : decode c_MA_shifted 23 = .ok (.ishr, 1) := by decide +kernel
theorem d_MA_shifted_24 : decode c_MA_shifted 24 = .ok (.ireturn, 1) := by decide +kernel
theorem d_LW_law_0 : decode code 0 = .ok (.new 7, 3) := by decide +kernel
theorem d_LW_law_3 : decode code 3 = .ok (.dup, 1) := by decide +kernel
theorem d_LW_law_4 : decode code 4 = .ok (.invokespecial 9, 3) := by decide +kernel
theorem d_LW_law_7 : decode code 7 = .ok (.astore_n 1, 1) := by decide +kernel
theorem d_LW_law_8 : decode code 8 = .ok (.new 10, 3) := by decide +kernel
theorem d_LW_law_11 : decode code 11 = .ok (.dup, 1) := by decide +kernel
theorem d_LW_law_12 : decode code 12 = .ok (.invokespecial 12, 3) := by decide +kernel
theorem d_LW_law_15 : decode code 15 = .ok (.astore_n 2, 1) := by decide +kernel
theorem d_LW_law_16 : decode code 16 = .ok (.iconst 0, 1) := by decide +kernel
theorem d_LW_law_17 : decode code 17 = .ok (.istore_n 3, 1) := by decide +kernel
theorem d_LW_law_18 : decode code 18 = .ok (.iload_n 3, 1) := by decide +kernel
theorem d_LW_law_19 : decode code 19 = .ok (.aload_n 0, 1) := by decide +kernel
theorem d_LW_law_20 : decode code 20 = .ok (.arraylength, 1) := by decide +kernel
theorem d_LW_law_21 : decode code 21 = .ok (.bipush 6, 2) := by decide +kernel
theorem d_LW_law_23 : decode code 23 = .ok (.isub, 1) := by decide +kernel
theorem d_LW_law_24 : decode code 24 = .ok (.if_icmp .gt 413, 3) := by decide +kernel
theorem d_LW_law_27 : decode code 27 = .ok (.aload_n 0, 1) := by decide +kernel
theorem d_LW_law_28 : decode code 28 = .ok (.iload_n 3, 1) := by decide +kernel
theorem d_LW_law_29 : decode code 29 = .ok (.iaload, 1) := by decide +kernel
theorem d_LW_law_30 : decode code 30 = .ok (.bipush 15, 2) := by decide +kernel
theorem d_LW_law_32 : decode code 32 = .ok (.iand, 1) := by decide +kernel
theorem d_LW_law_33 : decode code 33 = .ok (.tableswitch 398 0 8 #[51, 114, 167, 190, 223, 256, 289, 322, 355], 51) := by decide +kernel
theorem d_LW_law_84 : decode code 84 = .ok (.aload_n 1, 1) := by decide +kernel
theorem d_LW_law_85 : decode code 85 = .ok (.aload_n 0, 1) := by decide +kernel
theorem d_LW_law_86 : decode code 86 = .ok (.iload_n 3, 1) := by decide +kernel
theorem d_LW_law_87 : decode code 87 = .ok (.iconst 1, 1) := by decide +kernel
theorem d_LW_law_88 : decode code 88 = .ok (.iadd, 1) := by decide +kernel
theorem d_LW_law_89 : decode code 89 = .ok (.iaload, 1) := by decide +kernel
theorem d_LW_law_90 : decode code 90 = .ok (.aload_n 0, 1) := by decide +kernel
theorem d_LW_law_91 : decode code 91 = .ok (.iload_n 3, 1) := by decide +kernel
theorem d_LW_law_92 : decode code 92 = .ok (.iconst 2, 1) := by decide +kernel
theorem d_LW_law_93 : decode code 93 = .ok (.iadd, 1) := by decide +kernel
theorem d_LW_law_94 : decode code 94 = .ok (.iaload, 1) := by decide +kernel
theorem d_LW_law_95 : decode code 95 = .ok (.aload_n 0, 1) := by decide +kernel
theorem d_LW_law_96 : decode code 96 = .ok (.iload_n 3, 1) := by decide +kernel
theorem d_LW_law_97 : decode code 97 = .ok (.iconst 3, 1) := by decide +kernel
theorem d_LW_law_98 : decode code 98 = .ok (.iadd, 1) := by decide +kernel
theorem d_LW_law_99 : decode code 99 = .ok (.iaload, 1) := by decide +kernel
theorem d_LW_law_100 : decode code 100 = .ok (.aload_n 0, 1) := by decide +kernel
theorem d_LW_law_101 : decode code 101 = .ok (.iload_n 3, 1) := by decide +kernel
theorem d_LW_law_102 : decode code 102 = .ok (.iconst 4, 1) := by decide +kernel
theorem d_LW_law_103 : decode code 103 = .ok (.iadd, 1) := by decide +kernel
theorem d_LW_law_104 : decode code 104 = .ok (.iaload, 1) := by decide +kernel
theorem d_LW_law_105 : decode code 105 = .ok (.aload_n 0, 1) := by decide +kernel
theorem d_LW_law_106 : decode code 106 = .ok (.iload_n 3, 1) := by decide +kernel
theorem d_LW_law_107 : decode code 107 = .ok (.iconst 5, 1) := by decide +kernel
theorem d_LW_law_108 : decode code 108 = .ok (.iadd, 1) := by decide +kernel
theorem d_LW_law_109 : decode code 109 = .ok (.iaload, 1) := by decide +kernel
theorem d_LW_law_110 : decode code 110 = .ok (.invokevirtual 13, 3) := by decide +kernel
theorem d_LW_law_113 : decode code 113 = .ok (.aload_n 2, 1) := by decide +kernel
theorem d_LW_law_114 : decode code 114 = .ok (.aload_n 0, 1) := by decide +kernel
theorem d_LW_law_115 : decode code 115 = .ok (.iload_n 3, 1) := by decide +kernel
theorem d_LW_law_116 : decode code 116 = .ok (.iconst 1, 1) := by decide +kernel
theorem d_LW_law_117 : decode code 117 = .ok (.iadd, 1) := by decide +kernel
theorem d_LW_law_118 : decode code 118 = .ok (.iaload, 1) := by decide +kernel
theorem d_LW_law_119 : decode code 119 = .ok (.aload_n 0, 1) := by decide +kernel
theorem d_LW_law_120 : decode code 120 = .ok (.iload_n 3, 1) := by decide +kernel
theorem d_LW_law_121 : decode code 121 = .ok (.iconst 2, 1) := by decide +kernel
theorem d_LW_law_122 : decode code 122 = .ok (.iadd, 1) := by decide +kernel
theorem d_LW_law_123 : decode code 123 = .ok (.iaload, 1) := by decide +kernel
theorem d_LW_law_124 : decode code 124 = .ok (.aload_n 0, 1) := by decide +kernel
theorem d_LW_law_125 : decode code 125 = .ok (.iload_n 3, 1) := by decide +kernel
theorem d_LW_law_126 : decode code 126 = .ok (.iconst 3, 1) := by decide +kernel
theorem d_LW_law_127 : decode code 127 = .ok (.iadd, 1) := by decide +kernel
theorem d_LW_law_128 : decode code 128 = .ok (.iaload, 1) := by decide +kernel
theorem d_LW_law_129 : decode code 129 = .ok (.aload_n 0, 1) := by decide +kernel
theorem d_LW_law_130 : decode code 130 = .ok (.iload_n 3, 1) := by decide +kernel
theorem d_LW_law_131 : decode code 131 = .ok (.iconst 4, 1) := by decide +kernel
theorem d_LW_law_132 : decode code 132 = .ok (.iadd, 1) := by decide +kernel
theorem d_LW_law_133 : decode code 133 = .ok (.iaload, 1) := by decide +kernel
theorem d_LW_law_134 : decode code 134 = .ok (.aload_n 0, 1) := by decide +kernel
theorem d_LW_law_135 : decode code 135 = .ok (.iload_n 3, 1) := by decide +kernel
theorem d_LW_law_136 : decode code 136 = .ok (.iconst 5, 1) := by decide +kernel
theorem d_LW_law_137 : decode code 137 = .ok (.iadd, 1) := by decide +kernel
theorem d_LW_law_138 : decode code 138 = .ok (.iaload, 1) := by decide +kernel
theorem d_LW_law_139 : decode code 139 = .ok (.invokevirtual 17, 3) := by decide +kernel
theorem d_LW_law_142 : decode code 142 = .ok (.if_icmp .eq 289, 3) := by decide +kernel
theorem d_LW_law_145 : decode code 145 = .ok (.iconst 0, 1) := by decide +kernel
theorem d_LW_law_146 : decode code 146 = .ok (.ireturn, 1) := by decide +kernel
theorem d_LW_law_147 : decode code 147 = .ok (.aload_n 1, 1) := by decide +kernel
theorem d_LW_law_148 : decode code 148 = .ok (.aload_n 0, 1) := by decide +kernel
theorem d_LW_law_149 : decode code 149 = .ok (.iload_n 3, 1) := by decide +kernel
theorem d_LW_law_150 : decode code 150 = .ok (.iconst 1, 1) := by decide +kernel
theorem d_LW_law_151 : decode code 151 = .ok (.iadd, 1) := by decide +kernel
theorem d_LW_law_152 : decode code 152 = .ok (.iaload, 1) := by decide +kernel
theorem d_LW_law_153 : decode code 153 = .ok (.aload_n 0, 1) := by decide +kernel
theorem d_LW_law_154 : decode code 154 = .ok (.iload_n 3, 1) := by decide +kernel
theorem d_LW_law_155 : decode code 155 = .ok (.iconst 2, 1) := by decide +kernel
theorem d_LW_law_156 : decode code 156 = .ok (.iadd, 1) := by decide +kernel
theorem d_LW_law_157 : decode code 157 = .ok (.iaload, 1) := by decide +kernel
theorem d_LW_law_158 : decode code 158 = .ok (.aload_n 0, 1) := by decide +kernel
theorem d_LW_law_159 : decode code 159 = .ok (.iload_n 3, 1) := by decide +kernel
theorem d_LW_law_160 : decode code 160 = .ok (.iconst 3, 1) := by decide +kernel
theorem d_LW_law_161 : decode code 161 = .ok (.iadd, 1) := by decide +kernel
theorem d_LW_law_162 : decode code 162 = .ok (.iaload, 1) := by decide +kernel
theorem d_LW_law_163 : decode code 163 = .ok (.aload_n 0, 1) := by decide +kernel
theorem d_LW_law_164 : decode code 164 = .ok (.iload_n 3, 1) := by decide +kernel
theorem d_LW_law_165 : decode code 165 = .ok (.iconst 4, 1) := by decide +kernel
theorem d_LW_law_166 : decode code 166 = .ok (.iadd, 1) := by decide +kernel
theorem d_LW_law_167 : decode code 167 = .ok (.iaload, 1) := by decide +kernel
theorem d_LW_law_168 : decode code 168 = .ok (.invokevirtual 18, 3) := by decide +kernel
theorem d_LW_law_171 : decode code 171 = .ok (.aload_n 2, 1) := by decide +kernel
theorem d_LW_law_172 : decode code 172 = .ok (.aload_n 0, 1) := by decide +kernel
theorem d_LW_law_173 : decode code 173 = .ok (.iload_n 3, 1) := by decide +kernel
theorem d_LW_law_174 : decode code 174 = .ok (.iconst 1, 1) := by decide +kernel
theorem d_LW_law_175 : decode code 175 = .ok (.iadd, 1) := by decide +kernel
theorem d_LW_law_176 : decode code 176 = .ok (.iaload, 1) := by decide +kernel
theorem d_LW_law_177 : decode code 177 = .ok (.aload_n 0, 1) := by decide +kernel
theorem d_LW_law_178 : decode code 178 = .ok (.iload_n 3, 1) := by decide +kernel
theorem d_LW_law_179 : decode code 179 = .ok (.iconst 2, 1) := by decide +kernel
theorem d_LW_law_180 : decode code 180 = .ok (.iadd, 1) := by decide +kernel
theorem d_LW_law_181 : decode code 181 = .ok (.iaload, 1) := by decide +kernel
theorem d_LW_law_182 : decode code 182 = .ok (.aload_n 0, 1) := by decide +kernel
theorem d_LW_law_183 : decode code 183 = .ok (.iload_n 3, 1) := by decide +kernel
theorem d_LW_law_184 : decode code 184 = .ok (.iconst 3, 1) := by decide +kernel
theorem d_LW_law_185 : decode code 185 = .ok (.iadd, 1) := by decide +kernel
theorem d_LW_law_186 : decode code 186 = .ok (.iaload, 1) := by decide +kernel
theorem d_LW_law_187 : decode code 187 = .ok (.aload_n 0, 1) := by decide +kernel
theorem d_LW_law_188 : decode code 188 = .ok (.iload_n 3, 1) := by decide +kernel
theorem d_LW_law_189 : decode code 189 = .ok (.iconst 4, 1) := by decide +kernel
theorem d_LW_law_190 : decode code 190 = .ok (.iadd, 1) := by decide +kernel
theorem d_LW_law_191 : decode code 191 = .ok (.iaload, 1) := by decide +kernel
theorem d_LW_law_192 : decode code 192 = .ok (.invokevirtual 22, 3) := by decide +kernel
theorem d_LW_law_195 : decode code 195 = .ok (.if_icmp .eq 236, 3) := by decide +kernel
theorem d_LW_law_198 : decode code 198 = .ok (.iconst 0, 1) := by decide +kernel
theorem d_LW_law_199 : decode code 199 = .ok (.ireturn, 1) := by decide +kernel
theorem d_LW_law_200 : decode code 200 = .ok (.aload_n 1, 1) := by decide +kernel
theorem d_LW_law_201 : decode code 201 = .ok (.aload_n 0, 1) := by decide +kernel
theorem d_LW_law_202 : decode code 202 = .ok (.iload_n 3, 1) := by decide +kernel
theorem d_LW_law_203 : decode code 203 = .ok (.iconst 1, 1) := by decide +kernel
theorem d_LW_law_204 : decode code 204 = .ok (.iadd, 1) := by decide +kernel
theorem d_LW_law_205 : decode code 205 = .ok (.iaload, 1) := by decide +kernel
theorem d_LW_law_206 : decode code 206 = .ok (.invokevirtual 23, 3) := by decide +kernel
theorem d_LW_law_209 : decode code 209 = .ok (.aload_n 2, 1) := by decide +kernel
theorem d_LW_law_210 : decode code 210 = .ok (.aload_n 0, 1) := by decide +kernel
theorem d_LW_law_211 : decode code 211 = .ok (.iload_n 3, 1) := by decide +kernel
theorem d_LW_law_212 : decode code 212 = .ok (.iconst 1, 1) := by decide +kernel
theorem d_LW_law_213 : decode code 213 = .ok (.iadd, 1) := by decide +kernel
theorem d_LW_law_214 : decode code 214 = .ok (.iaload, 1) := by decide +kernel
theorem d_LW_law_215 : decode code 215 = .ok (.invokevirtual 27, 3) := by decide +kernel
theorem d_LW_law_218 : decode code 218 = .ok (.if_icmp .eq 213, 3) := by decide +kernel
theorem d_LW_law_221 : decode code 221 = .ok (.iconst 0, 1) := by decide +kernel
theorem d_LW_law_222 : decode code 222 = .ok (.ireturn, 1) := by decide +kernel
theorem d_LW_law_223 : decode code 223 = .ok (.aload_n 1, 1) := by decide +kernel
theorem d_LW_law_224 : decode code 224 = .ok (.aload_n 0, 1) := by decide +kernel
theorem d_LW_law_225 : decode code 225 = .ok (.iload_n 3, 1) := by decide +kernel
theorem d_LW_law_226 : decode code 226 = .ok (.iconst 1, 1) := by decide +kernel
theorem d_LW_law_227 : decode code 227 = .ok (.iadd, 1) := by decide +kernel
theorem d_LW_law_228 : decode code 228 = .ok (.iaload, 1) := by decide +kernel
theorem d_LW_law_229 : decode code 229 = .ok (.aload_n 0, 1) := by decide +kernel
theorem d_LW_law_230 : decode code 230 = .ok (.iload_n 3, 1) := by decide +kernel
theorem d_LW_law_231 : decode code 231 = .ok (.iconst 2, 1) := by decide +kernel
theorem d_LW_law_232 : decode code 232 = .ok (.iadd, 1) := by decide +kernel
theorem d_LW_law_233 : decode code 233 = .ok (.iaload, 1) := by decide +kernel
theorem d_LW_law_234 : decode code 234 = .ok (.invokevirtual 28, 3) := by decide +kernel
theorem d_LW_law_237 : decode code 237 = .ok (.aload_n 2, 1) := by decide +kernel
theorem d_LW_law_238 : decode code 238 = .ok (.aload_n 0, 1) := by decide +kernel
theorem d_LW_law_239 : decode code 239 = .ok (.iload_n 3, 1) := by decide +kernel
theorem d_LW_law_240 : decode code 240 = .ok (.iconst 1, 1) := by decide +kernel
theorem d_LW_law_241 : decode code 241 = .ok (.iadd, 1) := by decide +kernel
theorem d_LW_law_242 : decode code 242 = .ok (.iaload, 1) := by decide +kernel
theorem d_LW_law_243 : decode code 243 = .ok (.aload_n 0, 1) := by decide +kernel
theorem d_LW_law_244 : decode code 244 = .ok (.iload_n 3, 1) := by decide +kernel
theorem d_LW_law_245 : decode code 245 = .ok (.iconst 2, 1) := by decide +kernel
theorem d_LW_law_246 : decode code 246 = .ok (.iadd, 1) := by decide +kernel
theorem d_LW_law_247 : decode code 247 = .ok (.iaload, 1) := by decide +kernel
theorem d_LW_law_248 : decode code 248 = .ok (.invokevirtual 32, 3) := by decide +kernel
theorem d_LW_law_251 : decode code 251 = .ok (.if_icmp .eq 180, 3) := by decide +kernel
theorem d_LW_law_254 : decode code 254 = .ok (.iconst 0, 1) := by decide +kernel
theorem d_LW_law_255 : decode code 255 = .ok (.ireturn, 1) := by decide +kernel
theorem d_LW_law_256 : decode code 256 = .ok (.aload_n 1, 1) := by decide +kernel
theorem d_LW_law_257 : decode code 257 = .ok (.aload_n 0, 1) := by decide +kernel
theorem d_LW_law_258 : decode code 258 = .ok (.iload_n 3, 1) := by decide +kernel
theorem d_LW_law_259 : decode code 259 = .ok (.iconst 1, 1) := by decide +kernel
theorem d_LW_law_260 : decode code 260 = .ok (.iadd, 1) := by decide +kernel
theorem d_LW_law_261 : decode code 261 = .ok (.iaload, 1) := by decide +kernel
theorem d_LW_law_262 : decode code 262 = .ok (.aload_n 0, 1) := by decide +kernel
theorem d_LW_law_263 : decode code 263 = .ok (.iload_n 3, 1) := by decide +kernel
theorem d_LW_law_264 : decode code 264 = .ok (.iconst 2, 1) := by decide +kernel
theorem d_LW_law_265 : decode code 265 = .ok (.iadd, 1) := by decide +kernel
theorem d_LW_law_266 : decode code 266 = .ok (.iaload, 1) := by decide +kernel
theorem d_LW_law_267 : decode code 267 = .ok (.invokevirtual 33, 3) := by decide +kernel
theorem d_LW_law_270 : decode code 270 = .ok (.aload_n 2, 1) := by decide +kernel
theorem d_LW_law_271 : decode code 271 = .ok (.aload_n 0, 1) := by decide +kernel
theorem d_LW_law_272 : decode code 272 = .ok (.iload_n 3, 1) := by decide +kernel
theorem d_LW_law_273 : decode code 273 = .ok (.iconst 1, 1) := by decide +kernel
theorem d_LW_law_274 : decode code 274 = .ok (.iadd, 1) := by decide +kernel
theorem d_LW_law_275 : decode code 275 = .ok (.iaload, 1) := by decide +kernel
theorem d_LW_law_276 : decode code 276 = .ok (.aload_n 0, 1) := by decide +kernel
theorem d_LW_law_277 : decode code 277 = .ok (.iload_n 3, 1) := by decide +kernel
theorem d_LW_law_278 : decode code 278 = .ok (.iconst 2, 1) := by decide +kernel
theorem d_LW_law_279 : decode code 279 = .ok (.iadd, 1) := by decide +kernel
theorem d_LW_law_280 : decode code 280 = .ok (.iaload, 1) := by decide +kernel
theorem d_LW_law_281 : decode code 281 = .ok (.invokevirtual 37, 3) := by decide +kernel
theorem d_LW_law_284 : decode code 284 = .ok (.if_icmp .eq 147, 3) := by decide +kernel
theorem d_LW_law_287 : decode code 287 = .ok (.iconst 0, 1) := by decide +kernel
theorem d_LW_law_288 : decode code 288 = .ok (.ireturn, 1) := by decide +kernel
theorem d_LW_law_289 : decode code 289 = .ok (.aload_n 1, 1) := by decide +kernel
theorem d_LW_law_290 : decode code 290 = .ok (.aload_n 0, 1) := by decide +kernel
theorem d_LW_law_291 : decode code 291 = .ok (.iload_n 3, 1) := by decide +kernel
theorem d_LW_law_292 : decode code 292 = .ok (.iconst 1, 1) := by decide +kernel
theorem d_LW_law_293 : decode code 293 = .ok (.iadd, 1) := by decide +kernel
theorem d_LW_law_294 : decode code 294 = .ok (.iaload, 1) := by decide +kernel
theorem d_LW_law_295 : decode code 295 = .ok (.aload_n 0, 1) := by decide +kernel
theorem d_LW_law_296 : decode code 296 = .ok (.iload_n 3, 1) := by decide +kernel
theorem d_LW_law_297 : decode code 297 = .ok (.iconst 2, 1) := by decide +kernel
theorem d_LW_law_298 : decode code 298 = .ok (.iadd, 1) := by decide +kernel
theorem d_LW_law_299 : decode code 299 = .ok (.iaload, 1) := by decide +kernel
theorem d_LW_law_300 : decode code 300 = .ok (.invokevirtual 38, 3) := by decide +kernel
theorem d_LW_law_303 : decode code 303 = .ok (.aload_n 2, 1) := by decide +kernel
theorem d_LW_law_304 : decode code 304 = .ok (.aload_n 0, 1) := by decide +kernel
theorem d_LW_law_305 : decode code 305 = .ok (.iload_n 3, 1) := by decide +kernel
theorem d_LW_law_306 : decode code 306 = .ok (.iconst 1, 1) := by decide +kernel
theorem d_LW_law_307 : decode code 307 = .ok (.iadd, 1) := by decide +kernel
theorem d_LW_law_308 : decode code 308 = .ok (.iaload, 1) := by decide +kernel
theorem d_LW_law_309 : decode code 309 = .ok (.aload_n 0, 1) := by decide +kernel
theorem d_LW_law_310 : decode code 310 = .ok (.iload_n 3, 1) := by decide +kernel
theorem d_LW_law_311 : decode code 311 = .ok (.iconst 2, 1) := by decide +kernel
theorem d_LW_law_312 : decode code 312 = .ok (.iadd, 1) := by decide +kernel
theorem d_LW_law_313 : decode code 313 = .ok (.iaload, 1) := by decide +kernel
theorem d_LW_law_314 : decode code 314 = .ok (.invokevirtual 41, 3) := by decide +kernel
theorem d_LW_law_317 : decode code 317 = .ok (.if_icmp .eq 114, 3) := by decide +kernel
theorem d_LW_law_320 : decode code 320 = .ok (.iconst 0, 1) := by decide +kernel
theorem d_LW_law_321 : decode code 321 = .ok (.ireturn, 1) := by decide +kernel
theorem d_LW_law_322 : decode code 322 = .ok (.aload_n 1, 1) := by decide +kernel
theorem d_LW_law_323 : decode code 323 = .ok (.aload_n 0, 1) := by decide +kernel
theorem d_LW_law_324 : decode code 324 = .ok (.iload_n 3, 1) := by decide +kernel
theorem d_LW_law_325 : decode code 325 = .ok (.iconst 1, 1) := by decide +kernel
theorem d_LW_law_326 : decode code 326 = .ok (.iadd, 1) := by decide +kernel
theorem d_LW_law_327 : decode code 327 = .ok (.iaload, 1) := by decide +kernel
theorem d_LW_law_328 : decode code 328 = .ok (.aload_n 0, 1) := by decide +kernel
theorem d_LW_law_329 : decode code 329 = .ok (.iload_n 3, 1) := by decide +kernel
theorem d_LW_law_330 : decode code 330 = .ok (.iconst 2, 1) := by decide +kernel
theorem d_LW_law_331 : decode code 331 = .ok (.iadd, 1) := by decide +kernel
theorem d_LW_law_332 : decode code 332 = .ok (.iaload, 1) := by decide +kernel
theorem d_LW_law_333 : decode code 333 = .ok (.invokevirtual 42, 3) := by decide +kernel
theorem d_LW_law_336 : decode code 336 = .ok (.aload_n 2, 1) := by decide +kernel
theorem d_LW_law_337 : decode code 337 = .ok (.aload_n 0, 1) := by decide +kernel
theorem d_LW_law_338 : decode code 338 = .ok (.iload_n 3, 1) := by decide +kernel
theorem d_LW_law_339 : decode code 339 = .ok (.iconst 1, 1) := by decide +kernel
theorem d_LW_law_340 : decode code 340 = .ok (.iadd, 1) := by decide +kernel
theorem d_LW_law_341 : decode code 341 = .ok (.iaload, 1) := by decide +kernel
theorem d_LW_law_342 : decode code 342 = .ok (.aload_n 0, 1) := by decide +kernel
theorem d_LW_law_343 : decode code 343 = .ok (.iload_n 3, 1) := by decide +kernel
theorem d_LW_law_344 : decode code 344 = .ok (.iconst 2, 1) := by decide +kernel
theorem d_LW_law_345 : decode code 345 = .ok (.iadd, 1) := by decide +kernel
theorem d_LW_law_346 : decode code 346 = .ok (.iaload, 1) := by decide +kernel
theorem d_LW_law_347 : decode code 347 = .ok (.invokevirtual 45, 3) := by decide +kernel
theorem d_LW_law_350 : decode code 350 = .ok (.if_icmp .eq 81, 3) := by decide +kernel
theorem d_LW_law_353 : decode code 353 = .ok (.iconst 0, 1) := by decide +kernel
theorem d_LW_law_354 : decode code 354 = .ok (.ireturn, 1) := by decide +kernel
theorem d_LW_law_355 : decode code 355 = .ok (.aload_n 1, 1) := by decide +kernel
theorem d_LW_law_356 : decode code 356 = .ok (.aload_n 0, 1) := by decide +kernel
theorem d_LW_law_357 : decode code 357 = .ok (.iload_n 3, 1) := by decide +kernel
theorem d_LW_law_358 : decode code 358 = .ok (.iconst 1, 1) := by decide +kernel
theorem d_LW_law_359 : decode code 359 = .ok (.iadd, 1) := by decide +kernel
theorem d_LW_law_360 : decode code 360 = .ok (.iaload, 1) := by decide +kernel
theorem d_LW_law_361 : decode code 361 = .ok (.aload_n 0, 1) := by decide +kernel
theorem d_LW_law_362 : decode code 362 = .ok (.iload_n 3, 1) := by decide +kernel
theorem d_LW_law_363 : decode code 363 = .ok (.iconst 2, 1) := by decide +kernel
theorem d_LW_law_364 : decode code 364 = .ok (.iadd, 1) := by decide +kernel
theorem d_LW_law_365 : decode code 365 = .ok (.iaload, 1) := by decide +kernel
theorem d_LW_law_366 : decode code 366 = .ok (.invokevirtual 46, 3) := by decide +kernel
theorem d_LW_law_369 : decode code 369 = .ok (.aload_n 2, 1) := by decide +kernel
theorem d_LW_law_370 : decode code 370 = .ok (.aload_n 0, 1) := by decide +kernel
theorem d_LW_law_371 : decode code 371 = .ok (.iload_n 3, 1) := by decide +kernel
theorem d_LW_law_372 : decode code 372 = .ok (.iconst 1, 1) := by decide +kernel
theorem d_LW_law_373 : decode code 373 = .ok (.iadd, 1) := by decide +kernel
theorem d_LW_law_374 : decode code 374 = .ok (.iaload, 1) := by decide +kernel
theorem d_LW_law_375 : decode code 375 = .ok (.aload_n 0, 1) := by decide +kernel
theorem d_LW_law_376 : decode code 376 = .ok (.iload_n 3, 1) := by decide +kernel
theorem d_LW_law_377 : decode code 377 = .ok (.iconst 2, 1) := by decide +kernel
theorem d_LW_law_378 : decode code 378 = .ok (.iadd, 1) := by decide +kernel
theorem d_LW_law_379 : decode code 379 = .ok (.iaload, 1) := by decide +kernel
theorem d_LW_law_380 : decode code 380 = .ok (.invokevirtual 49, 3) := by decide +kernel
theorem d_LW_law_383 : decode code 383 = .ok (.if_icmp .eq 48, 3) := by decide +kernel
theorem d_LW_law_386 : decode code 386 = .ok (.iconst 0, 1) := by decide +kernel
theorem d_LW_law_387 : decode code 387 = .ok (.ireturn, 1) := by decide +kernel
theorem d_LW_law_388 : decode code 388 = .ok (.aload_n 1, 1) := by decide +kernel
theorem d_LW_law_389 : decode code 389 = .ok (.aload_n 0, 1) := by decide +kernel
theorem d_LW_law_390 : decode code 390 = .ok (.iload_n 3, 1) := by decide +kernel
theorem d_LW_law_391 : decode code 391 = .ok (.iconst 1, 1) := by decide +kernel
theorem d_LW_law_392 : decode code 392 = .ok (.iadd, 1) := by decide +kernel
theorem d_LW_law_393 : decode code 393 = .ok (.iaload, 1) := by decide +kernel
theorem d_LW_law_394 : decode code 394 = .ok (.aload_n 0, 1) := by decide +kernel
theorem d_LW_law_395 : decode code 395 = .ok (.iload_n 3, 1) := by decide +kernel
theorem d_LW_law_396 : decode code 396 = .ok (.iconst 2, 1) := by decide +kernel
theorem d_LW_law_397 : decode code 397 = .ok (.iadd, 1) := by decide +kernel
theorem d_LW_law_398 : decode code 398 = .ok (.iaload, 1) := by decide +kernel
theorem d_LW_law_399 : decode code 399 = .ok (.aload_n 0, 1) := by decide +kernel
theorem d_LW_law_400 : decode code 400 = .ok (.iload_n 3, 1) := by decide +kernel
theorem d_LW_law_401 : decode code 401 = .ok (.iconst 3, 1) := by decide +kernel
theorem d_LW_law_402 : decode code 402 = .ok (.iadd, 1) := by decide +kernel
theorem d_LW_law_403 : decode code 403 = .ok (.iaload, 1) := by decide +kernel
theorem d_LW_law_404 : decode code 404 = .ok (.invokevirtual 50, 3) := by decide +kernel
theorem d_LW_law_407 : decode code 407 = .ok (.aload_n 2, 1) := by decide +kernel
theorem d_LW_law_408 : decode code 408 = .ok (.aload_n 0, 1) := by decide +kernel
theorem d_LW_law_409 : decode code 409 = .ok (.iload_n 3, 1) := by decide +kernel
theorem d_LW_law_410 : decode code 410 = .ok (.iconst 1, 1) := by decide +kernel
theorem d_LW_law_411 : decode code 411 = .ok (.iadd, 1) := by decide +kernel
theorem d_LW_law_412 : decode code 412 = .ok (.iaload, 1) := by decide +kernel
theorem d_LW_law_413 : decode code 413 = .ok (.aload_n 0, 1) := by decide +kernel
theorem d_LW_law_414 : decode code 414 = .ok (.iload_n 3, 1) := by decide +kernel
theorem d_LW_law_415 : decode code 415 = .ok (.iconst 2, 1) := by decide +kernel
theorem d_LW_law_416 : decode code 416 = .ok (.iadd, 1) := by decide +kernel
theorem d_LW_law_417 : decode code 417 = .ok (.iaload, 1) := by decide +kernel
theorem d_LW_law_418 : decode code 418 = .ok (.aload_n 0, 1) := by decide +kernel
theorem d_LW_law_419 : decode code 419 = .ok (.iload_n 3, 1) := by decide +kernel
theorem d_LW_law_420 : decode code 420 = .ok (.iconst 3, 1) := by decide +kernel
theorem d_LW_law_421 : decode code 421 = .ok (.iadd, 1) := by decide +kernel
theorem d_LW_law_422 : decode code 422 = .ok (.iaload, 1) := by decide +kernel
theorem d_LW_law_423 : decode code 423 = .ok (.invokevirtual 54, 3) := by decide +kernel
theorem d_LW_law_426 : decode code 426 = .ok (.if_icmp .eq 5, 3) := by decide +kernel
theorem d_LW_law_429 : decode code 429 = .ok (.iconst 0, 1) := by decide +kernel
theorem d_LW_law_430 : decode code 430 = .ok (.ireturn, 1) := by decide +kernel
theorem d_LW_law_431 : decode code 431 = .ok (.iinc 3 6, 3) := by decide +kernel
theorem d_LW_law_434 : decode code 434 = .ok (.goto (-416), 3) := by decide +kernel
theorem d_LW_law_437 : decode code 437 = .ok (.iconst 1, 1) := by decide +kernel
theorem d_LW_law_438 : decode code 438 = .ok (.ireturn, 1) := by decide +kernel
end
section
theorem d_AS_init_0 : decode c_AS_init 0 = .ok (.aload_n 0, 1) := by decide +kernel
theorem d_AS_init_1 : decode c_AS_init 1 = .ok (.invokespecial 3, 3) := by decide +kernel
theorem d_AS_init_4 : decode c_AS_init 4 = .ok (.aload_n 0, 1) := by decide +kernel
theorem d_AS_init_5 : decode c_AS_init 5 = .ok (.sipush 1024, 3) := by decide +kernel
theorem d_AS_init_8 : decode c_AS_init 8 = .ok (.newarray .int, 2) := by decide +kernel
theorem d_AS_init_10 : decode c_AS_init 10 = .ok (.putfield 9, 3) := by decide +kernel
theorem d_AS_init_13 : decode c_AS_init 13 = .ok (.aload_n 0, 1) := by decide +kernel
theorem d_AS_init_14 : decode c_AS_init 14 = .ok (.new 15, 3) := by decide +kernel
theorem d_AS_init_17 : decode c_AS_init 17 = .ok (.dup, 1) := by decide +kernel
theorem d_AS_init_18 : decode c_AS_init 18 = .ok (.invokespecial 17, 3) := by decide +kernel
theorem d_AS_init_21 : decode c_AS_init 21 = .ok (.putfield 18, 3) := by decide +kernel
theorem d_AS_init_24 : decode c_AS_init 24 = .ok (.aload_n 0, 1) := by decide +kernel
theorem d_AS_init_25 : decode c_AS_init 25 = .ok (.bipush 100, 2) := by decide +kernel
theorem d_AS_init_27 : decode c_AS_init 27 = .ok (.newarray .long, 2) := by decide +kernel
theorem d_AS_init_29 : decode c_AS_init 29 = .ok (.putfield 22, 3) := by decide +kernel
theorem d_AS_init_32 : decode c_AS_init 32 = .ok (.aload_n 0, 1) := by decide +kernel
theorem d_AS_init_33 : decode c_AS_init 33 = .ok (.bipush 100, 2) := by decide +kernel
theorem d_AS_init_35 : decode c_AS_init 35 = .ok (.newarray .int, 2) := by decide +kernel
theorem d_AS_init_37 : decode c_AS_init 37 = .ok (.putfield 26, 3) := by decide +kernel
theorem d_AS_init_40 : decode c_AS_init 40 = .ok (.aload_n 0, 1) := by decide +kernel
theorem d_AS_init_41 : decode c_AS_init 41 = .ok (.sipush 1024, 3) := by decide +kernel
theorem d_AS_init_44 : decode c_AS_init 44 = .ok (.newarray .long, 2) := by decide +kernel
theorem d_AS_init_46 : decode c_AS_init 46 = .ok (.putfield 29, 3) := by decide +kernel
theorem d_AS_init_49 : decode c_AS_init 49 = .ok (.aload_n 0, 1) := by decide +kernel
theorem d_AS_init_50 : decode c_AS_init 50 = .ok (.sipush 1024, 3) := by decide +kernel
theorem d_AS_init_53 : decode c_AS_init 53 = .ok (.newarray .int, 2) := by decide +kernel
theorem d_AS_init_55 : decode c_AS_init 55 = .ok (.putfield 32, 3) := by decide +kernel
theorem d_AS_init_58 : decode c_AS_init 58 = .ok (.aload_n 0, 1) := by decide +kernel
theorem d_AS_init_59 : decode c_AS_init 59 = .ok (.sipush 1024, 3) := by decide +kernel
theorem d_AS_init_62 : decode c_AS_init 62 = .ok (.newarray .int, 2) := by decide +kernel
theorem d_AS_init_64 : decode c_AS_init 64 = .ok (.putfield 35, 3) := by decide +kernel
theorem d_AS_init_67 : decode c_AS_init 67 = .ok (.return_, 1) := by decide +kernel
theorem d_AS_assemble_0 : decode c_AS_assemble 0 = .ok (.aload_n 0, 1) := by decide +kernel
theorem d_AS_assemble_1 : decode c_AS_assemble 1 = .ok (.iconst 0, 1) := by decide +kernel
theorem d_AS_assemble_2 : decode c_AS_assemble 2 = .ok (.putfield 38, 3) := by decide +kernel
theorem d_AS_assemble_5 : decode c_AS_assemble 5 = .ok (.aload_n 0, 1) := by decide +kernel
theorem d_AS_assemble_6 : decode c_AS_assemble 6 = .ok (.iconst 0, 1) := by decide +kernel
theorem d_AS_assemble_7 : decode c_AS_assemble 7 = .ok (.putfield 42, 3) := by decide +kernel
theorem d_AS_assemble_10 : decode c_AS_assemble 10 = .ok (.aload_n 0, 1) := by decide +kernel
theorem d_AS_assemble_11 : decode c_AS_assemble 11 = .ok (.iconst 0, 1) := by decide +kernel
theorem d_AS_assemble_12 : decode c_AS_assemble 12 = .ok (.putfield 45, 3) := by decide +kernel
theorem d_AS_assemble_15 : decode c_AS_assemble 15 = .ok (.aload_n 0, 1) := by decide +kernel
theorem d_AS_assemble_16 : decode c_AS_assemble 16 = .ok (.iconst 0, 1) := by decide +kernel
theorem d_AS_assemble_17 : decode c_AS_assemble 17 = .ok (.putfield 48, 3) := by decide +kernel
theorem d_AS_assemble_20 : decode c_AS_assemble 20 = .ok (.aload_n 0, 1) := by decide +kernel
theorem d_AS_assemble_21 : decode c_AS_assemble 21 = .ok (.iconst 0, 1) := by decide +kernel
theorem d_AS_assemble_22 : decode c_AS_assemble 22 = .ok (.putfield 51, 3) := by decide +kernel
theorem d_AS_assemble_25 : decode c_AS_assemble 25 = .ok (.iconst 0, 1) := by decide +kernel
theorem d_AS_assemble_26 : decode c_AS_assemble 26 = .ok (.istore 4, 2) := by decide +kernel
theorem d_AS_assemble_28 : decode c_AS_assemble 28 = .ok (.iconst 1, 1) := by decide +kernel
theorem d_AS_assemble_29 : decode c_AS_assemble 29 = .ok (.istore 5, 2) := by decide +kernel
theorem d_AS_assemble_31 : decode c_AS_assemble 31 = .ok (.iload 4, 2) := by decide +kernel
theorem d_AS_assemble_33 : decode c_AS_assemble 33 = .ok (.iload_n 2, 1) := by decide +kernel
theorem d_AS_assemble_34 : decode c_AS_assemble 34 = .ok (.if_icmp .ge 78, 3) := by decide +kernel
theorem d_AS_assemble_37 : decode c_AS_assemble 37 = .ok (.aload_n 0, 1) := by decide +kernel
theorem d_AS_assemble_38 : decode c_AS_assemble 38 = .ok (.getfield 42, 3) := by decide +kernel
theorem d_AS_assemble_41 : decode c_AS_assemble 41 = .ok (.ifCond .ne 71, 3) := by decide +kernel
theorem d_AS_assemble_44 : decode c_AS_assemble 44 = .ok (.aload_n 1, 1) := by decide +kernel
theorem d_AS_assemble_45 : decode c_AS_assemble 45 = .ok (.iload 4, 2) := by decide +kernel
theorem d_AS_assemble_47 : decode c_AS_assemble 47 = .ok (.iload_n 2, 1) := by decide +kernel
theorem d_AS_assemble_48 : decode c_AS_assemble 48 = .ok (.invokestatic 54, 3) := by decide +kernel
theorem d_AS_assemble_51 : decode c_AS_assemble 51 = .ok (.istore 6, 2) := by decide +kernel
theorem d_AS_assemble_53 : decode c_AS_assemble 53 = .ok (.aload_n 0, 1) := by decide +kernel
theorem d_AS_assemble_54 : decode c_AS_assemble 54 = .ok (.getfield 18, 3) := by decide +kernel
theorem d_AS_assemble_57 : decode c_AS_assemble 57 = .ok (.aload_n 1, 1) := by decide +kernel
theorem d_AS_assemble_58 : decode c_AS_assemble 58 = .ok (.iload 4, 2) := by decide +kernel
theorem d_AS_assemble_60 : decode c_AS_assemble 60 = .ok (.iload 6, 2) := by decide +kernel
theorem d_AS_assemble_62 : decode c_AS_assemble 62 = .ok (.invokevirtual 58, 3) := by decide +kernel
theorem d_AS_assemble_65 : decode c_AS_assemble 65 = .ok (.istore 7, 2) := by decide +kernel
theorem d_AS_assemble_67 : decode c_AS_assemble 67 = .ok (.aload_n 0, 1) := by decide +kernel
theorem d_AS_assemble_68 : decode c_AS_assemble 68 = .ok (.iload 7, 2) := by decide +kernel
theorem d_AS_assemble_70 : decode c_AS_assemble 70 = .ok (.ifCond .eq 11, 3) := by decide +kernel
theorem d_AS_assemble_73 : decode c_AS_assemble 73 = .ok (.aload_n 0, 1) := by decide +kernel
theorem d_AS_assemble_74 : decode c_AS_assemble 74 = .ok (.iload_n 3, 1) := by decide +kernel
theorem d_AS_assemble_75 : decode c_AS_assemble 75 = .ok (.invokevirtual 62, 3) := by decide +kernel
theorem d_AS_assemble_78 : decode c_AS_assemble 78 = .ok (.goto 4, 3) := by decide +kernel
theorem d_AS_assemble_81 : decode c_AS_assemble 81 = .ok (.iconst 1, 1) := by decide +kernel
theorem d_AS_assemble_82 : decode c_AS_assemble 82 = .ok (.iload 5, 2) := by decide +kernel
theorem d_AS_assemble_84 : decode c_AS_assemble 84 = .ok (.invokevirtual 66, 3) := by decide +kernel
theorem d_AS_assemble_87 : decode c_AS_assemble 87 = .ok (.aload_n 0, 1) := by decide +kernel
theorem d_AS_assemble_88 : decode c_AS_assemble 88 = .ok (.getfield 42, 3) := by decide +kernel
theorem d_AS_assemble_91 : decode c_AS_assemble 91 = .ok (.ifCond .ne 9, 3) := by decide +kernel
theorem d_AS_assemble_94 : decode c_AS_assemble 94 = .ok (.aload_n 0, 1) := by decide +kernel
theorem d_AS_assemble_95 : decode c_AS_assemble 95 = .ok (.iload 5, 2) := by decide +kernel
theorem d_AS_assemble_97 : decode c_AS_assemble 97 = .ok (.invokevirtual 70, 3) := by decide +kernel
theorem d_AS_assemble_100 : decode c_AS_assemble 100 = .ok (.iload 6, 2) := by decide +kernel
theorem d_AS_assemble_102 : decode c_AS_assemble 102 = .ok (.iconst 1, 1) := by decide +kernel
theorem d_AS_assemble_103 : decode c_AS_assemble 103 = .ok (.iadd, 1) := by decide +kernel
theorem d_AS_assemble_104 : decode c_AS_assemble 104 = .ok (.istore 4, 2) := by decide +kernel
theorem d_AS_assemble_106 : decode c_AS_assemble 106 = .ok (.iinc 5 1, 3) := by decide +kernel
theorem d_AS_assemble_109 : decode c_AS_assemble 109 = .ok (.goto (-78), 3) := by decide +kernel
theorem d_AS_assemble_112 : decode c_AS_assemble 112 = .ok (.aload_n 0, 1) := by decide +kernel
theorem d_AS_assemble_113 : decode c_AS_assemble 113 = .ok (.getfield 42, 3) := by decide +kernel
theorem d_AS_assemble_116 : decode c_AS_assemble 116 = .ok (.ifCond .ne 7, 3) := by decide +kernel
theorem d_AS_assemble_119 : decode c_AS_assemble 119 = .ok (.aload_n 0, 1) := by decide +kernel
theorem d_AS_assemble_120 : decode c_AS_assemble 120 = .ok (.invokevirtual 74, 3) := by decide +kernel
theorem d_AS_assemble_123 : decode c_AS_assemble 123 = .ok (.return_, 1) := by decide +kernel
theorem d_AS_lineEnd_0 : decode c_AS_lineEnd 0 = .ok (.iload_n 1, 1) := by decide +kernel
theorem d_AS_lineEnd_1 : decode c_AS_lineEnd 1 = .ok (.istore_n 3, 1) := by decide +kernel
theorem d_AS_lineEnd_2 : decode c_AS_lineEnd 2 = .ok (.iload_n 3, 1) := by decide +kernel
theorem d_AS_lineEnd_3 : decode c_AS_lineEnd 3 = .ok (.iload_n 2, 1) := by decide +kernel
theorem d_AS_lineEnd_4 : decode c_AS_lineEnd 4 = .ok (.if_icmp .ge 17, 3) := by decide +kernel
theorem d_AS_lineEnd_7 : decode c_AS_lineEnd 7 = .ok (.aload_n 0, 1) := by decide +kernel
theorem d_AS_lineEnd_8 : decode c_AS_lineEnd 8 = .ok (.iload_n 3, 1) := by decide +kernel
theorem d_AS_lineEnd_9 : decode c_AS_lineEnd 9 = .ok (.iaload, 1) := by decide +kernel
theorem d_AS_lineEnd_10 : decode c_AS_lineEnd 10 = .ok (.bipush 10, 2) := by decide +kernel
theorem d_AS_lineEnd_12 : decode c_AS_lineEnd 12 = .ok (.if_icmp .eq 9, 3) := by decide +kernel
theorem d_AS_lineEnd_15 : decode c_AS_lineEnd 15 = .ok (.iinc 3 1, 3) := by decide +kernel
theorem d_AS_lineEnd_18 : decode c_AS_lineEnd 18 = .ok (.goto (-16), 3) := by decide +kernel
theorem d_AS_lineEnd_21 : decode c_AS_lineEnd 21 = .ok (.iload_n 3, 1) := by decide +kernel
theorem d_AS_lineEnd_22 : decode c_AS_lineEnd 22 = .ok (.ireturn, 1) := by decide +kernel
theorem d_AS_tellFault_0 : decode c_AS_tellFault 0 = .ok (.iload_n 1, 1) := by decide +kernel
theorem d_AS_tellFault_1 : decode c_AS_tellFault 1 = .ok (.ifCond .eq 13, 3) := by decide +kernel
theorem d_AS_tellFault_4 : decode c_AS_tellFault 4 = .ok (.aload_n 0, 1) := by decide +kernel
theorem d_AS_tellFault_5 : decode c_AS_tellFault 5 = .ok (.iload_n 1, 1) := by decide +kernel
theorem d_AS_tellFault_6 : decode c_AS_tellFault 6 = .ok (.putfield 42, 3) := by decide +kernel
theorem d_AS_tellFault_9 : decode c_AS_tellFault 9 = .ok (.aload_n 0, 1) := by decide +kernel
theorem d_AS_tellFault_10 : decode c_AS_tellFault 10 = .ok (.iload_n 2, 1) := by decide +kernel
theorem d_AS_tellFault_11 : decode c_AS_tellFault 11 = .ok (.putfield 45, 3) := by decide +kernel
theorem d_AS_tellFault_14 : decode c_AS_tellFault 14 = .ok (.return_, 1) := by decide +kernel
theorem d_AS_faultOfLine_0 : decode c_AS_faultOfLine 0 = .ok (.aload_n 0, 1) := by decide +kernel
theorem d_AS_faultOfLine_1 : decode c_AS_faultOfLine 1 = .ok (.getfield 18, 3) := by decide +kernel
theorem d_AS_faultOfLine_4 : decode c_AS_faultOfLine 4 = .ok (.getfield 77, 3) := by decide +kernel
theorem d_AS_faultOfLine_7 : decode c_AS_faultOfLine 7 = .ok (.bipush 27, 2) := by decide +kernel
theorem d_AS_faultOfLine_9 : decode c_AS_faultOfLine 9 = .ok (.if_icmp .ne 19, 3) := by decide +kernel
theorem d_AS_faultOfLine_12 : decode c_AS_faultOfLine 12 = .ok (.aload_n 0, 1) := by decide +kernel
theorem d_AS_faultOfLine_13 : decode c_AS_faultOfLine 13 = .ok (.getfield 18, 3) := by decide +kernel
theorem d_AS_faultOfLine_16 : decode c_AS_faultOfLine 16 = .ok (.getfield 80, 3) := by decide +kernel
theorem d_AS_faultOfLine_19 : decode c_AS_faultOfLine 19 = .ok (.aload_n 0, 1) := by decide +kernel
theorem d_AS_faultOfLine_20 : decode c_AS_faultOfLine 20 = .ok (.getfield 38, 3) := by decide +kernel
theorem d_AS_faultOfLine_23 : decode c_AS_faultOfLine 23 = .ok (.if_icmp .ge 5, 3) := by decide +kernel
theorem d_AS_faultOfLine_26 : decode c_AS_faultOfLine 26 = .ok (.iconst 1, 1) := by decide +kernel
theorem d_AS_faultOfLine_27 : decode c_AS_faultOfLine 27 = .ok (.ireturn, 1) := by decide +kernel
theorem d_AS_faultOfLine_28 : decode c_AS_faultOfLine 28 = .ok (.aload_n 0, 1) := by decide +kernel
theorem d_AS_faultOfLine_29 : decode c_AS_faultOfLine 29 = .ok (.getfield 18, 3) := by decide +kernel
theorem d_AS_faultOfLine_32 : decode c_AS_faultOfLine 32 = .ok (.getfield 83, 3) := by decide +kernel
theorem d_AS_faultOfLine_35 : decode c_AS_faultOfLine 35 = .ok (.lconst 0, 1) := by decide +kernel
theorem d_AS_faultOfLine_36 : decode c_AS_faultOfLine 36 = .ok (.lcmp, 1) := by decide +kernel
theorem d_AS_faultOfLine_37 : decode c_AS_faultOfLine 37 = .ok (.ifCond .eq 31, 3) := by decide +kernel
theorem d_AS_faultOfLine_40 : decode c_AS_faultOfLine 40 = .ok (.aload_n 0, 1) := by decide +kernel
theorem d_AS_faultOfLine_41 : decode c_AS_faultOfLine 41 = .ok (.aload_n 0, 1) := by decide +kernel
theorem d_AS_faultOfLine_42 : decode c_AS_faultOfLine 42 = .ok (.getfield 18, 3) := by decide +kernel
theorem d_AS_faultOfLine_45 : decode c_AS_faultOfLine 45 = .ok (.getfield 83, 3) := by decide +kernel
theorem d_AS_faultOfLine_48 : decode c_AS_faultOfLine 48 = .ok (.invokevirtual 87, 3) := by decide +kernel
theorem d_AS_faultOfLine_51 : decode c_AS_faultOfLine 51 = .ok (.iconst (-1), 1) := by decide +kernel
theorem d_AS_faultOfLine_52 : decode c_AS_faultOfLine 52 = .ok (.if_icmp .eq 5, 3) := by decide +kernel
theorem d_AS_faultOfLine_55 : decode c_AS_faultOfLine 55 = .ok (.iconst 2, 1) := by decide +kernel
theorem d_AS_faultOfLine_56 : decode c_AS_faultOfLine 56 = .ok (.ireturn, 1) := by decide +kernel
theorem d_AS_faultOfLine_57 : decode c_AS_faultOfLine 57 = .ok (.aload_n 0, 1) := by decide +kernel
theorem d_AS_faultOfLine_58 : decode c_AS_faultOfLine 58 = .ok (.getfield 48, 3) := by decide +kernel
theorem d_AS_faultOfLine_61 : decode c_AS_faultOfLine 61 = .ok (.bipush 100, 2) := by decide +kernel
theorem d_AS_faultOfLine_63 : decode c_AS_faultOfLine 63 = .ok (.if_icmp .lt 5, 3) := by decide +kernel
theorem d_AS_faultOfLine_66 : decode c_AS_faultOfLine 66 = .ok (.iconst 3, 1) := by decide +kernel
theorem d_AS_faultOfLine_67 : decode c_AS_faultOfLine 67 = .ok (.ireturn, 1) := by decide +kernel
theorem d_AS_faultOfLine_68 : decode c_AS_faultOfLine 68 = .ok (.aload_n 0, 1) := by decide +kernel
theorem d_AS_faultOfLine_69 : decode c_AS_faultOfLine 69 = .ok (.invokevirtual 91, 3) := by decide +kernel
theorem d_AS_faultOfLine_72 : decode c_AS_faultOfLine 72 = .ok (.iload_n 1, 1) := by decide +kernel
theorem d_AS_faultOfLine_73 : decode c_AS_faultOfLine 73 = .ok (.if_icmp .le 7, 3) := by decide +kernel
theorem d_AS_faultOfLine_76 : decode c_AS_faultOfLine 76 = .ok (.iconst 4, 1) := by decide +kernel
theorem d_AS_faultOfLine_77 : decode c_AS_faultOfLine 77 = .ok (.goto 4, 3) := by decide +kernel
theorem d_AS_faultOfLine_80 : decode c_AS_faultOfLine 80 = .ok (.iconst 0, 1) := by decide +kernel
theorem d_AS_faultOfLine_81 : decode c_AS_faultOfLine 81 = .ok (.ireturn, 1) := by decide +kernel
theorem d_AS_lineBehind_0 : decode c_AS_lineBehind 0 = .ok (.aload_n 0, 1) := by decide +kernel
theorem d_AS_lineBehind_1 : decode c_AS_lineBehind 1 = .ok (.getfield 18, 3) := by decide +kernel
theorem d_AS_lineBehind_4 : decode c_AS_lineBehind 4 = .ok (.getfield 77, 3) := by decide +kernel
theorem d_AS_lineBehind_7 : decode c_AS_lineBehind 7 = .ok (.lookupswitch 74 #[((-1), 41), (25, 46), (26, 53), (27, 66)], 41) := by decide +kernel
theorem d_AS_lineBehind_48 : decode c_AS_lineBehind 48 = .ok (.aload_n 0, 1) := by decide +kernel
theorem d_AS_lineBehind_49 : decode c_AS_lineBehind 49 = .ok (.getfield 38, 3) := by decide +kernel
theorem d_AS_lineBehind_52 : decode c_AS_lineBehind 52 = .ok (.ireturn, 1) := by decide +kernel
theorem d_AS_lineBehind_53 : decode c_AS_lineBehind 53 = .ok (.aload_n 0, 1) := by decide +kernel
theorem d_AS_lineBehind_54 : decode c_AS_lineBehind 54 = .ok (.getfield 38, 3) := by decide +kernel
theorem d_AS_lineBehind_57 : decode c_AS_lineBehind 57 = .ok (.iconst 1, 1) := by decide +kernel
theorem d_AS_lineBehind_58 : decode c_AS_lineBehind 58 = .ok (.iadd, 1) := by decide +kernel
theorem d_AS_lineBehind_59 : decode c_AS_lineBehind 59 = .ok (.ireturn, 1) := by decide +kernel
theorem d_AS_lineBehind_60 : decode c_AS_lineBehind 60 = .ok (.aload_n 0, 1) := by decide +kernel
theorem d_AS_lineBehind_61 : decode c_AS_lineBehind 61 = .ok (.getfield 38, 3) := by decide +kernel
theorem d_AS_lineBehind_64 : decode c_AS_lineBehind 64 = .ok (.aload_n 0, 1) := by decide +kernel
theorem d_AS_lineBehind_65 : decode c_AS_lineBehind 65 = .ok (.getfield 18, 3) := by decide +kernel
theorem d_AS_lineBehind_68 : decode c_AS_lineBehind 68 = .ok (.getfield 80, 3) := by decide +kernel
theorem d_AS_lineBehind_71 : decode c_AS_lineBehind 71 = .ok (.iadd, 1) := by decide +kernel
theorem d_AS_lineBehind_72 : decode c_AS_lineBehind 72 = .ok (.ireturn, 1) := by decide +kernel
theorem d_AS_lineBehind_73 : decode c_AS_lineBehind 73 = .ok (.aload_n 0, 1) := by decide +kernel
theorem d_AS_lineBehind_74 : decode c_AS_lineBehind 74 = .ok (.getfield 18, 3) := by decide +kernel
theorem d_AS_lineBehind_77 : decode c_AS_lineBehind 77 = .ok (.getfield 80, 3) := by decide +kernel
theorem d_AS_lineBehind_80 : decode c_AS_lineBehind 80 = .ok (.ireturn, 1) := by decide +kernel
theorem d_AS_lineBehind_81 : decode c_AS_lineBehind 81 = .ok (.aload_n 0, 1) := by decide +kernel
theorem d_AS_lineBehind_82 : decode c_AS_lineBehind 82 = .ok (.getfield 38, 3) := by decide +kernel
theorem d_AS_lineBehind_85 : decode c_AS_lineBehind 85 = .ok (.iconst 2, 1) := by decide +kernel
theorem d_AS_lineBehind_86 : decode c_AS_lineBehind 86 = .ok (.iadd, 1) := by decide +kernel
theorem d_AS_lineBehind_87 : decode c_AS_lineBehind 87 = .ok (.ireturn, 1) := by decide +kernel
theorem d_AS_placeLine_0 : decode c_AS_placeLine 0 = .ok (.aload_n 0, 1) := by decide +kernel
theorem d_AS_placeLine_1 : decode c_AS_placeLine 1 = .ok (.getfield 18, 3) := by decide +kernel
theorem d_AS_placeLine_4 : decode c_AS_placeLine 4 = .ok (.getfield 83, 3) := by decide +kernel
theorem d_AS_placeLine_7 : decode c_AS_placeLine 7 = .ok (.lconst 0, 1) := by decide +kernel
theorem d_AS_placeLine_8 : decode c_AS_placeLine 8 = .ok (.lcmp, 1) := by decide +kernel
theorem d_AS_placeLine_9 : decode c_AS_placeLine 9 = .ok (.ifCond .eq 42, 3) := by decide +kernel
theorem d_AS_placeLine_12 : decode c_AS_placeLine 12 = .ok (.aload_n 0, 1) := by decide +kernel
theorem d_AS_placeLine_13 : decode c_AS_placeLine 13 = .ok (.getfield 22, 3) := by decide +kernel
theorem d_AS_placeLine_16 : decode c_AS_placeLine 16 = .ok (.aload_n 0, 1) := by decide +kernel
theorem d_AS_placeLine_17 : decode c_AS_placeLine 17 = .ok (.getfield 48, 3) := by decide +kernel
theorem d_AS_placeLine_20 : decode c_AS_placeLine 20 = .ok (.aload_n 0, 1) := by decide +kernel
theorem d_AS_placeLine_21 : decode c_AS_placeLine 21 = .ok (.getfield 18, 3) := by decide +kernel
theorem d_AS_placeLine_24 : decode c_AS_placeLine 24 = .ok (.getfield 83, 3) := by decide +kernel
theorem d_AS_placeLine_27 : decode c_AS_placeLine 27 = .ok (.lastore, 1) := by decide +kernel
theorem d_AS_placeLine_28 : decode c_AS_placeLine 28 = .ok (.aload_n 0, 1) := by decide +kernel
theorem d_AS_placeLine_29 : decode c_AS_placeLine 29 = .ok (.getfield 26, 3) := by decide +kernel
theorem d_AS_placeLine_32 : decode c_AS_placeLine 32 = .ok (.aload_n 0, 1) := by decide +kernel
theorem d_AS_placeLine_33 : decode c_AS_placeLine 33 = .ok (.getfield 48, 3) := by decide +kernel
theorem d_AS_placeLine_36 : decode c_AS_placeLine 36 = .ok (.aload_n 0, 1) := by decide +kernel
theorem d_AS_placeLine_37 : decode c_AS_placeLine 37 = .ok (.getfield 38, 3) := by decide +kernel
theorem d_AS_placeLine_40 : decode c_AS_placeLine 40 = .ok (.iastore, 1) := by decide +kernel
theorem d_AS_placeLine_41 : decode c_AS_placeLine 41 = .ok (.aload_n 0, 1) := by decide +kernel
theorem d_AS_placeLine_42 : decode c_AS_placeLine 42 = .ok (.dup, 1) := by decide +kernel
theorem d_AS_placeLine_43 : decode c_AS_placeLine 43 = .ok (.getfield 48, 3) := by decide +kernel
theorem d_AS_placeLine_46 : decode c_AS_placeLine 46 = .ok (.iconst 1, 1) := by decide +kernel
theorem d_AS_placeLine_47 : decode c_AS_placeLine 47 = .ok (.iadd, 1) := by decide +kernel
theorem d_AS_placeLine_48 : decode c_AS_placeLine 48 = .ok (.putfield 48, 3) := by decide +kernel
theorem d_AS_placeLine_51 : decode c_AS_placeLine 51 = .ok (.aload_n 0, 1) := by decide +kernel
theorem d_AS_placeLine_52 : decode c_AS_placeLine 52 = .ok (.invokevirtual 91, 3) := by decide +kernel
theorem d_AS_placeLine_55 : decode c_AS_placeLine 55 = .ok (.istore_n 2, 1) := by decide +kernel
theorem d_AS_placeLine_56 : decode c_AS_placeLine 56 = .ok (.aload_n 0, 1) := by decide +kernel
theorem d_AS_placeLine_57 : decode c_AS_placeLine 57 = .ok (.getfield 18, 3) := by decide +kernel
theorem d_AS_placeLine_60 : decode c_AS_placeLine 60 = .ok (.invokevirtual 95, 3) := by decide +kernel
theorem d_AS_placeLine_63 : decode c_AS_placeLine 63 = .ok (.ifCond .eq 55, 3) := by decide +kernel
theorem d_AS_placeLine_66 : decode c_AS_placeLine 66 = .ok (.aload_n 0, 1) := by decide +kernel
theorem d_AS_placeLine_67 : decode c_AS_placeLine 67 = .ok (.getfield 9, 3) := by decide +kernel
theorem d_AS_placeLine_70 : decode c_AS_placeLine 70 = .ok (.aload_n 0, 1) := by decide +kernel
theorem d_AS_placeLine_71 : decode c_AS_placeLine 71 = .ok (.getfield 38, 3) := by decide +kernel
theorem d_AS_placeLine_74 : decode c_AS_placeLine 74 = .ok (.aload_n 0, 1) := by decide +kernel
theorem d_AS_placeLine_75 : decode c_AS_placeLine 75 = .ok (.getfield 18, 3) := by decide +kernel
theorem d_AS_placeLine_78 : decode c_AS_placeLine 78 = .ok (.getfield 77, 3) := by decide +kernel
theorem d_AS_placeLine_81 : decode c_AS_placeLine 81 = .ok (.bipush 64, 2) := by decide +kernel
theorem d_AS_placeLine_83 : decode c_AS_placeLine 83 = .ok (.imul, 1) := by decide +kernel
theorem d_AS_placeLine_84 : decode c_AS_placeLine 84 = .ok (.aload_n 0, 1) := by decide +kernel
theorem d_AS_placeLine_85 : decode c_AS_placeLine 85 = .ok (.getfield 18, 3) := by decide +kernel
theorem d_AS_placeLine_88 : decode c_AS_placeLine 88 = .ok (.getfield 99, 3) := by decide +kernel
theorem d_AS_placeLine_91 : decode c_AS_placeLine 91 = .ok (.bipush 8, 2) := by decide +kernel
theorem d_AS_placeLine_93 : decode c_AS_placeLine 93 = .ok (.imul, 1) := by decide +kernel
theorem d_AS_placeLine_94 : decode c_AS_placeLine 94 = .ok (.iadd, 1) := by decide +kernel
theorem d_AS_placeLine_95 : decode c_AS_placeLine 95 = .ok (.aload_n 0, 1) := by decide +kernel
theorem d_AS_placeLine_96 : decode c_AS_placeLine 96 = .ok (.getfield 18, 3) := by decide +kernel
theorem d_AS_placeLine_99 : decode c_AS_placeLine 99 = .ok (.getfield 102, 3) := by decide +kernel
theorem d_AS_placeLine_102 : decode c_AS_placeLine 102 = .ok (.iadd, 1) := by decide +kernel
theorem d_AS_placeLine_103 : decode c_AS_placeLine 103 = .ok (.iastore, 1) := by decide +kernel
theorem d_AS_placeLine_104 : decode c_AS_placeLine 104 = .ok (.aload_n 0, 1) := by decide +kernel
theorem d_AS_placeLine_105 : decode c_AS_placeLine 105 = .ok (.aload_n 0, 1) := by decide +kernel
theorem d_AS_placeLine_106 : decode c_AS_placeLine 106 = .ok (.getfield 38, 3) := by decide +kernel
theorem d_AS_placeLine_109 : decode c_AS_placeLine 109 = .ok (.iconst 1, 1) := by decide +kernel
theorem d_AS_placeLine_110 : decode c_AS_placeLine 110 = .ok (.iadd, 1) := by decide +kernel
theorem d_AS_placeLine_111 : decode c_AS_placeLine 111 = .ok (.iload_n 1, 1) := by decide +kernel
theorem d_AS_placeLine_112 : decode c_AS_placeLine 112 = .ok (.invokevirtual 105, 3) := by decide +kernel
theorem d_AS_placeLine_115 : decode c_AS_placeLine 115 = .ok (.goto 32, 3) := by decide +kernel
theorem d_AS_placeLine_118 : decode c_AS_placeLine 118 = .ok (.aload_n 0, 1) := by decide +kernel
theorem d_AS_placeLine_119 : decode c_AS_placeLine 119 = .ok (.getfield 18, 3) := by decide +kernel
theorem d_AS_placeLine_122 : decode c_AS_placeLine 122 = .ok (.getfield 77, 3) := by decide +kernel
theorem d_AS_placeLine_125 : decode c_AS_placeLine 125 = .ok (.bipush 25, 2) := by decide +kernel
theorem d_AS_placeLine_127 : decode c_AS_placeLine 127 = .ok (.if_icmp .ne 15, 3) := by decide +kernel
theorem d_AS_placeLine_130 : decode c_AS_placeLine 130 = .ok (.aload_n 0, 1) := by decide +kernel
theorem d_AS_placeLine_131 : decode c_AS_placeLine 131 = .ok (.aload_n 0, 1) := by decide +kernel
theorem d_AS_placeLine_132 : decode c_AS_placeLine 132 = .ok (.getfield 38, 3) := by decide +kernel
theorem d_AS_placeLine_135 : decode c_AS_placeLine 135 = .ok (.iload_n 1, 1) := by decide +kernel
theorem d_AS_placeLine_136 : decode c_AS_placeLine 136 = .ok (.invokevirtual 105, 3) := by decide +kernel
theorem d_AS_placeLine_139 : decode c_AS_placeLine 139 = .ok (.goto 8, 3) := by decide +kernel
theorem d_AS_placeLine_142 : decode c_AS_placeLine 142 = .ok (.aload_n 0, 1) := by decide +kernel
theorem d_AS_placeLine_143 : decode c_AS_placeLine 143 = .ok (.iload_n 2, 1) := by decide +kernel
theorem d_AS_placeLine_144 : decode c_AS_placeLine 144 = .ok (.invokevirtual 108, 3) := by decide +kernel
theorem d_AS_placeLine_147 : decode c_AS_placeLine 147 = .ok (.aload_n 0, 1) := by decide +kernel
theorem d_AS_placeLine_148 : decode c_AS_placeLine 148 = .ok (.iload_n 2, 1) := by decide +kernel
theorem d_AS_placeLine_149 : decode c_AS_placeLine 149 = .ok (.putfield 38, 3) := by decide +kernel
theorem d_AS_placeLine_152 : decode c_AS_placeLine 152 = .ok (.return_, 1) := by decide +kernel
theorem d_AS_clearWords_0 : decode c_AS_clearWords 0 = .ok (.aload_n 0, 1) := by decide +kernel
theorem d_AS_clearWords_1 : decode c_AS_clearWords 1 = .ok (.getfield 38, 3) := by decide +kernel
theorem d_AS_clearWords_4 : decode c_AS_clearWords 4 = .ok (.istore_n 2, 1) := by decide +kernel
theorem d_AS_clearWords_5 : decode c_AS_clearWords 5 = .ok (.iload_n 2, 1) := by decide +kernel
theorem d_AS_clearWords_6 : decode c_AS_clearWords 6 = .ok (.iload_n 1, 1) := by decide +kernel
theorem d_AS_clearWords_7 : decode c_AS_clearWords 7 = .ok (.if_icmp .ge 16, 3) := by decide +kernel
theorem d_AS_clearWords_10 : decode c_AS_clearWords 10 = .ok (.aload_n 0, 1) := by decide +kernel
theorem d_AS_clearWords_11 : decode c_AS_clearWords 11 = .ok (.getfield 9, 3) := by decide +kernel
theorem d_AS_clearWords_14 : decode c_AS_clearWords 14 = .ok (.iload_n 2, 1) := by decide +kernel
theorem d_AS_clearWords_15 : decode c_AS_clearWords 15 = .ok (.iconst 0, 1) := by decide +kernel
theorem d_AS_clearWords_16 : decode c_AS_clearWords 16 = .ok (.iastore, 1) := by decide +kernel
theorem d_AS_clearWords_17 : decode c_AS_clearWords 17 = .ok (.iinc 2 1, 3) := by decide +kernel
theorem d_AS_clearWords_20 : decode c_AS_clearWords 20 = .ok (.goto (-15), 3) := by decide +kernel
theorem d_AS_clearWords_23 : decode c_AS_clearWords 23 = .ok (.return_, 1) := by decide +kernel
theorem d_AS_placeNumber_0 : decode c_AS_placeNumber 0 = .ok (.aload_n 0, 1) := by decide +kernel
theorem d_AS_placeNumber_1 : decode c_AS_placeNumber 1 = .ok (.getfield 9, 3) := by decide +kernel
theorem d_AS_placeNumber_4 : decode c_AS_placeNumber 4 = .ok (.iload_n 1, 1) := by decide +kernel
theorem d_AS_placeNumber_5 : decode c_AS_placeNumber 5 = .ok (.aload_n 0, 1) := by decide +kernel
theorem d_AS_placeNumber_6 : decode c_AS_placeNumber 6 = .ok (.getfield 18, 3) := by decide +kernel
theorem d_AS_placeNumber_9 : decode c_AS_placeNumber 9 = .ok (.getfield 80, 3) := by decide +kernel
theorem d_AS_placeNumber_12 : decode c_AS_placeNumber 12 = .ok (.iastore, 1) := by decide +kernel
theorem d_AS_placeNumber_13 : decode c_AS_placeNumber 13 = .ok (.aload_n 0, 1) := by decide +kernel
theorem d_AS_placeNumber_14 : decode c_AS_placeNumber 14 = .ok (.getfield 18, 3) := by decide +kernel
theorem d_AS_placeNumber_17 : decode c_AS_placeNumber 17 = .ok (.getfield 111, 3) := by decide +kernel
theorem d_AS_placeNumber_20 : decode c_AS_placeNumber 20 = .ok (.lconst 0, 1) := by decide +kernel
theorem d_AS_placeNumber_21 : decode c_AS_placeNumber 21 = .ok (.lcmp, 1) := by decide +kernel
theorem d_AS_placeNumber_22 : decode c_AS_placeNumber 22 = .ok (.ifCond .eq 49, 3) := by decide +kernel
theorem d_AS_placeNumber_25 : decode c_AS_placeNumber 25 = .ok (.aload_n 0, 1) := by decide +kernel
theorem d_AS_placeNumber_26 : decode c_AS_placeNumber 26 = .ok (.getfield 29, 3) := by decide +kernel
theorem d_AS_placeNumber_29 : decode c_AS_placeNumber 29 = .ok (.aload_n 0, 1) := by decide +kernel
theorem d_AS_placeNumber_30 : decode c_AS_placeNumber 30 = .ok (.getfield 51, 3) := by decide +kernel
theorem d_AS_placeNumber_33 : decode c_AS_placeNumber 33 = .ok (.aload_n 0, 1) := by decide +kernel
theorem d_AS_placeNumber_34 : decode c_AS_placeNumber 34 = .ok (.getfield 18, 3) := by decide +kernel
theorem d_AS_placeNumber_37 : decode c_AS_placeNumber 37 = .ok (.getfield 111, 3) := by decide +kernel
theorem d_AS_placeNumber_40 : decode c_AS_placeNumber 40 = .ok (.lastore, 1) := by decide +kernel
theorem d_AS_placeNumber_41 : decode c_AS_placeNumber 41 = .ok (.aload_n 0, 1) := by decide +kernel
theorem d_AS_placeNumber_42 : decode c_AS_placeNumber 42 = .ok (.getfield 32, 3) := by decide +kernel
theorem d_AS_placeNumber_45 : decode c_AS_placeNumber 45 = .ok (.aload_n 0, 1) := by decide +kernel
theorem d_AS_placeNumber_46 : decode c_AS_placeNumber 46 = .ok (.getfield 51, 3) := by decide +kernel
theorem d_AS_placeNumber_49 : decode c_AS_placeNumber 49 = .ok (.iload_n 1, 1) := by decide +kernel
theorem d_AS_placeNumber_50 : decode c_AS_placeNumber 50 = .ok (.iastore, 1) := by decide +kernel
theorem d_AS_placeNumber_51 : decode c_AS_placeNumber 51 = .ok (.aload_n 0, 1) := by decide +kernel
theorem d_AS_placeNumber_52 : decode c_AS_placeNumber 52 = .ok (.getfield 35, 3) := by decide +kernel
theorem d_AS_placeNumber_55 : decode c_AS_placeNumber 55 = .ok (.aload_n 0, 1) := by decide +kernel
theorem d_AS_placeNumber_56 : decode c_AS_placeNumber 56 = .ok (.getfield 51, 3) := by decide +kernel
theorem d_AS_placeNumber_59 : decode c_AS_placeNumber 59 = .ok (.iload_n 2, 1) := by decide +kernel
theorem d_AS_placeNumber_60 : decode c_AS_placeNumber 60 = .ok (.iastore, 1) := by decide +kernel
theorem d_AS_placeNumber_61 : decode c_AS_placeNumber 61 = .ok (.aload_n 0, 1) := by decide +kernel
theorem d_AS_placeNumber_62 : decode c_AS_placeNumber 62 = .ok (.dup, 1) := by decide +kernel
theorem d_AS_placeNumber_63 : decode c_AS_placeNumber 63 = .ok (.getfield 51, 3) := by decide +kernel
theorem d_AS_placeNumber_66 : decode c_AS_placeNumber 66 = .ok (.iconst 1, 1) := by decide +kernel
theorem d_AS_placeNumber_67 : decode c_AS_placeNumber 67 = .ok (.iadd, 1) := by decide +kernel
theorem d_AS_placeNumber_68 : decode c_AS_placeNumber 68 = .ok (.putfield 51, 3) := by decide +kernel
theorem d_AS_placeNumber_71 : decode c_AS_placeNumber 71 = .ok (.return_, 1) := by decide +kernel
theorem d_AS_fillUses_0 : decode c_AS_fillUses 0 = .ok (.iconst 0, 1) := by decide +kernel
theorem d_AS_fillUses_1 : decode c_AS_fillUses 1 = .ok (.istore_n 1, 1) := by decide +kernel
theorem d_AS_fillUses_2 : decode c_AS_fillUses 2 = .ok (.iload_n 1, 1) := by decide +kernel
theorem d_AS_fillUses_3 : decode c_AS_fillUses 3 = .ok (.aload_n 0, 1) := by decide +kernel
theorem d_AS_fillUses_4 : decode c_AS_fillUses 4 = .ok (.getfield 51, 3) := by decide +kernel
theorem d_AS_fillUses_7 : decode c_AS_fillUses 7 = .ok (.if_icmp .ge 70, 3) := by decide +kernel
theorem d_AS_fillUses_10 : decode c_AS_fillUses 10 = .ok (.aload_n 0, 1) := by decide +kernel
theorem d_AS_fillUses_11 : decode c_AS_fillUses 11 = .ok (.getfield 42, 3) := by decide +kernel
theorem d_AS_fillUses_14 : decode c_AS_fillUses 14 = .ok (.ifCond .ne 63, 3) := by decide +kernel
theorem d_AS_fillUses_17 : decode c_AS_fillUses 17 = .ok (.aload_n 0, 1) := by decide +kernel
theorem d_AS_fillUses_18 : decode c_AS_fillUses 18 = .ok (.aload_n 0, 1) := by decide +kernel
theorem d_AS_fillUses_19 : decode c_AS_fillUses 19 = .ok (.getfield 29, 3) := by decide +kernel
theorem d_AS_fillUses_22 : decode c_AS_fillUses 22 = .ok (.iload_n 1, 1) := by decide +kernel
theorem d_AS_fillUses_23 : decode c_AS_fillUses 23 = .ok (.laload, 1) := by decide +kernel
theorem d_AS_fillUses_24 : decode c_AS_fillUses 24 = .ok (.invokevirtual 87, 3) := by decide +kernel
theorem d_AS_fillUses_27 : decode c_AS_fillUses 27 = .ok (.istore_n 2, 1) := by decide +kernel
theorem d_AS_fillUses_28 : decode c_AS_fillUses 28 = .ok (.iload_n 2, 1) := by decide +kernel
theorem d_AS_fillUses_29 : decode c_AS_fillUses 29 = .ok (.iconst (-1), 1) := by decide +kernel
theorem d_AS_fillUses_30 : decode c_AS_fillUses 30 = .ok (.if_icmp .ne 17, 3) := by decide +kernel
theorem d_AS_fillUses_33 : decode c_AS_fillUses 33 = .ok (.aload_n 0, 1) := by decide +kernel
theorem d_AS_fillUses_34 : decode c_AS_fillUses 34 = .ok (.iconst 5, 1) := by decide +kernel
theorem d_AS_fillUses_35 : decode c_AS_fillUses 35 = .ok (.aload_n 0, 1) := by decide +kernel
theorem d_AS_fillUses_36 : decode c_AS_fillUses 36 = .ok (.getfield 35, 3) := by decide +kernel
theorem d_AS_fillUses_39 : decode c_AS_fillUses 39 = .ok (.iload_n 1, 1) := by decide +kernel
theorem d_AS_fillUses_40 : decode c_AS_fillUses 40 = .ok (.iaload, 1) := by decide +kernel
theorem d_AS_fillUses_41 : decode c_AS_fillUses 41 = .ok (.invokevirtual 66, 3) := by decide +kernel
theorem d_AS_fillUses_44 : decode c_AS_fillUses 44 = .ok (.goto 27, 3) := by decide +kernel
theorem d_AS_fillUses_47 : decode c_AS_fillUses 47 = .ok (.aload_n 0, 1) := by decide +kernel
theorem d_AS_fillUses_48 : decode c_AS_fillUses 48 = .ok (.getfield 32, 3) := by decide +kernel
theorem d_AS_fillUses_51 : decode c_AS_fillUses 51 = .ok (.iload_n 1, 1) := by decide +kernel
theorem d_AS_fillUses_52 : decode c_AS_fillUses 52 = .ok (.iaload, 1) := by decide +kernel
theorem d_AS_fillUses_53 : decode c_AS_fillUses 53 = .ok (.istore_n 3, 1) := by decide +kernel
theorem d_AS_fillUses_54 : decode c_AS_fillUses 54 = .ok (.aload_n 0, 1) := by decide +kernel
theorem d_AS_fillUses_55 : decode c_AS_fillUses 55 = .ok (.getfield 9, 3) := by decide +kernel
theorem d_AS_fillUses_58 : decode c_AS_fillUses 58 = .ok (.iload_n 3, 1) := by decide +kernel
theorem d_AS_fillUses_59 : decode c_AS_fillUses 59 = .ok (.aload_n 0, 1) := by decide +kernel
theorem d_AS_fillUses_60 : decode c_AS_fillUses 60 = .ok (.getfield 9, 3) := by decide +kernel
theorem d_AS_fillUses_63 : decode c_AS_fillUses 63 = .ok (.iload_n 3, 1) := by decide +kernel
theorem d_AS_fillUses_64 : decode c_AS_fillUses 64 = .ok (.iaload, 1) := by decide +kernel
theorem d_AS_fillUses_65 : decode c_AS_fillUses 65 = .ok (.iload_n 2, 1) := by decide +kernel
theorem d_AS_fillUses_66 : decode c_AS_fillUses 66 = .ok (.iadd, 1) := by decide +kernel
theorem d_AS_fillUses_67 : decode c_AS_fillUses 67 = .ok (.ldc 114, 2) := by decide +kernel
theorem d_AS_fillUses_69 : decode c_AS_fillUses 69 = .ok (.iand, 1) := by decide +kernel
theorem d_AS_fillUses_70 : decode c_AS_fillUses 70 = .ok (.iastore, 1) := by decide +kernel
theorem d_AS_fillUses_71 : decode c_AS_fillUses 71 = .ok (.iinc 1 1, 3) := by decide +kernel
theorem d_AS_fillUses_74 : decode c_AS_fillUses 74 = .ok (.goto (-72), 3) := by decide +kernel
theorem d_AS_fillUses_77 : decode c_AS_fillUses 77 = .ok (.return_, 1) := by decide +kernel
theorem d_AS_addressOf_0 : decode c_AS_addressOf 0 = .ok (.iconst 0, 1) := by decide +kernel
theorem d_AS_addressOf_1 : decode c_AS_addressOf 1 = .ok (.istore_n 3, 1) := by decide +kernel
theorem d_AS_addressOf_2 : decode c_AS_addressOf 2 = .ok (.iload_n 3, 1) := by decide +kernel
theorem d_AS_addressOf_3 : decode c_AS_addressOf 3 = .ok (.aload_n 0, 1) := by decide +kernel
theorem d_AS_addressOf_4 : decode c_AS_addressOf 4 = .ok (.getfield 48, 3) := by decide +kernel
theorem d_AS_addressOf_7 : decode c_AS_addressOf 7 = .ok (.if_icmp .ge 27, 3) := by decide +kernel
theorem d_AS_addressOf_10 : decode c_AS_addressOf 10 = .ok (.aload_n 0, 1) := by decide +kernel
theorem d_AS_addressOf_11 : decode c_AS_addressOf 11 = .ok (.getfield 22, 3) := by decide +kernel
theorem d_AS_addressOf_14 : decode c_AS_addressOf 14 = .ok (.iload_n 3, 1) := by decide +kernel
theorem d_AS_addressOf_15 : decode c_AS_addressOf 15 = .ok (.laload, 1) := by decide +kernel
theorem d_AS_addressOf_16 : decode c_AS_addressOf 16 = .ok (.lload_n 1, 1) := by decide +kernel
theorem d_AS_addressOf_17 : decode c_AS_addressOf 17 = .ok (.lcmp, 1) := by decide +kernel
theorem d_AS_addressOf_18 : decode c_AS_addressOf 18 = .ok (.ifCond .ne 10, 3) := by decide +kernel
theorem d_AS_addressOf_21 : decode c_AS_addressOf 21 = .ok (.aload_n 0, 1) := by decide +kernel
theorem d_AS_addressOf_22 : decode c_AS_addressOf 22 = .ok (.getfield 26, 3) := by decide +kernel
theorem d_AS_addressOf_25 : decode c_AS_addressOf 25 = .ok (.iload_n 3, 1) := by decide +kernel
theorem d_AS_addressOf_26 : decode c_AS_addressOf 26 = .ok (.iaload, 1) := by decide +kernel
theorem d_AS_addressOf_27 : decode c_AS_addressOf 27 = .ok (.ireturn, 1) := by decide +kernel
theorem d_AS_addressOf_28 : decode c_AS_addressOf 28 = .ok (.iinc 3 1, 3) := by decide +kernel
theorem d_AS_addressOf_31 : decode c_AS_addressOf 31 = .ok (.goto (-29), 3) := by decide +kernel
theorem d_AS_addressOf_34 : decode c_AS_addressOf 34 = .ok (.iconst (-1), 1) := by decide +kernel
theorem d_AS_addressOf_35 : decode c_AS_addressOf 35 = .ok (.ireturn, 1) := by decide +kernel
theorem d_LI_init_0 : decode c_LI_init 0 = .ok (.aload_n 0, 1) := by decide +kernel
theorem d_LI_init_1 : decode c_LI_init 1 = .ok (.invokespecial 3, 3) := by decide +kernel
theorem d_LI_init_4 : decode c_LI_init 4 = .ok (.aload_n 0, 1) := by decide +kernel
theorem d_LI_init_5 : decode c_LI_init 5 = .ok (.iconst 0, 1) := by decide +kernel
theorem d_LI_init_6 : decode c_LI_init 6 = .ok (.newarray .int, 2) := by decide +kernel
theorem d_LI_init_8 : decode c_LI_init 8 = .ok (.putfield 9, 3) := by decide +kernel
theorem d_LI_init_11 : decode c_LI_init 11 = .ok (.return_, 1) := by decide +kernel
theorem d_LI_isInstruction_0 : decode c_LI_isInstruction 0 = .ok (.aload_n 0, 1) := by decide +kernel
theorem d_LI_isInstruction_1 : decode c_LI_isInstruction 1 = .ok (.getfield 15, 3) := by decide +kernel
theorem d_LI_isInstruction_4 : decode c_LI_isInstruction 4 = .ok (.ifCond .lt 16, 3) := by decide +kernel
theorem d_LI_isInstruction_7 : decode c_LI_isInstruction 7 = .ok (.aload_n 0, 1) := by decide +kernel
theorem d_LI_isInstruction_8 : decode c_LI_isInstruction 8 = .ok (.getfield 15, 3) := by decide +kernel
theorem d_LI_isInstruction_11 : decode c_LI_isInstruction 11 = .ok (.bipush 25, 2) := by decide +kernel
theorem d_LI_isInstruction_13 : decode c_LI_isInstruction 13 = .ok (.if_icmp .ge 7, 3) := by decide +kernel
theorem d_LI_isInstruction_16 : decode c_LI_isInstruction 16 = .ok (.iconst 1, 1) := by decide +kernel
theorem d_LI_isInstruction_17 : decode c_LI_isInstruction 17 = .ok (.goto 4, 3) := by decide +kernel
theorem d_LI_isInstruction_20 : decode c_LI_isInstruction 20 = .ok (.iconst 0, 1) := by decide +kernel
theorem d_LI_isInstruction_21 : decode c_LI_isInstruction 21 = .ok (.ireturn, 1) := by decide +kernel
theorem d_LI_isReadFrom_0 : decode c_LI_isReadFrom 0 = .ok (.aload_n 0, 1) := by decide +kernel
theorem d_LI_isReadFrom_1 : decode c_LI_isReadFrom 1 = .ok (.aload_n 1, 1) := by decide +kernel
theorem d_LI_isReadFrom_2 : decode c_LI_isReadFrom 2 = .ok (.putfield 9, 3) := by decide +kernel
theorem d_LI_isReadFrom_5 : decode c_LI_isReadFrom 5 = .ok (.aload_n 0, 1) := by decide +kernel
theorem d_LI_isReadFrom_6 : decode c_LI_isReadFrom 6 = .ok (.iload_n 2, 1) := by decide +kernel
theorem d_LI_isReadFrom_7 : decode c_LI_isReadFrom 7 = .ok (.putfield 19, 3) := by decide +kernel
theorem d_LI_isReadFrom_10 : decode c_LI_isReadFrom 10 = .ok (.aload_n 0, 1) := by decide +kernel
theorem d_LI_isReadFrom_11 : decode c_LI_isReadFrom 11 = .ok (.iload_n 3, 1) := by decide +kernel
theorem d_LI_isReadFrom_12 : decode c_LI_isReadFrom 12 = .ok (.putfield 22, 3) := by decide +kernel
theorem d_LI_isReadFrom_15 : decode c_LI_isReadFrom 15 = .ok (.aload_n 0, 1) := by decide +kernel
theorem d_LI_isReadFrom_16 : decode c_LI_isReadFrom 16 = .ok (.lconst 0, 1) := by decide +kernel
theorem d_LI_isReadFrom_17 : decode c_LI_isReadFrom 17 = .ok (.putfield 25, 3) := by decide +kernel
theorem d_LI_isReadFrom_20 : decode c_LI_isReadFrom 20 = .ok (.aload_n 0, 1) := by decide +kernel
theorem d_LI_isReadFrom_21 : decode c_LI_isReadFrom 21 = .ok (.iconst (-1), 1) := by decide +kernel
theorem d_LI_isReadFrom_22 : decode c_LI_isReadFrom 22 = .ok (.putfield 15, 3) := by decide +kernel
theorem d_LI_isReadFrom_25 : decode c_LI_isReadFrom 25 = .ok (.aload_n 0, 1) := by decide +kernel
theorem d_LI_isReadFrom_26 : decode c_LI_isReadFrom 26 = .ok (.iconst 0, 1) := by decide +kernel
theorem d_LI_isReadFrom_27 : decode c_LI_isReadFrom 27 = .ok (.putfield 29, 3) := by decide +kernel
theorem d_LI_isReadFrom_30 : decode c_LI_isReadFrom 30 = .ok (.aload_n 0, 1) := by decide +kernel
theorem d_LI_isReadFrom_31 : decode c_LI_isReadFrom 31 = .ok (.iconst 0, 1) := by decide +kernel
theorem d_LI_isReadFrom_32 : decode c_LI_isReadFrom 32 = .ok (.putfield 32, 3) := by decide +kernel
theorem d_LI_isReadFrom_35 : decode c_LI_isReadFrom 35 = .ok (.aload_n 0, 1) := by decide +kernel
theorem d_LI_isReadFrom_36 : decode c_LI_isReadFrom 36 = .ok (.iconst 0, 1) := by decide +kernel
theorem d_LI_isReadFrom_37 : decode c_LI_isReadFrom 37 = .ok (.putfield 35, 3) := by decide +kernel
theorem d_LI_isReadFrom_40 : decode c_LI_isReadFrom 40 = .ok (.aload_n 0, 1) := by decide +kernel
theorem d_LI_isReadFrom_41 : decode c_LI_isReadFrom 41 = .ok (.lconst 0, 1) := by decide +kernel
theorem d_LI_isReadFrom_42 : decode c_LI_isReadFrom 42 = .ok (.putfield 38, 3) := by decide +kernel
theorem d_LI_isReadFrom_45 : decode c_LI_isReadFrom 45 = .ok (.aload_n 0, 1) := by decide +kernel
theorem d_LI_isReadFrom_46 : decode c_LI_isReadFrom 46 = .ok (.invokevirtual 41, 3) := by decide +kernel
theorem d_LI_isReadFrom_49 : decode c_LI_isReadFrom 49 = .ok (.ifCond .ne 5, 3) := by decide +kernel
theorem d_LI_isReadFrom_52 : decode c_LI_isReadFrom 52 = .ok (.iconst 0, 1) := by decide +kernel
theorem d_LI_isReadFrom_53 : decode c_LI_isReadFrom 53 = .ok (.ireturn, 1) := by decide +kernel
theorem d_LI_isReadFrom_54 : decode c_LI_isReadFrom 54 = .ok (.aload_n 0, 1) := by decide +kernel
theorem d_LI_isReadFrom_55 : decode c_LI_isReadFrom 55 = .ok (.invokevirtual 45, 3) := by decide +kernel
theorem d_LI_isReadFrom_58 : decode c_LI_isReadFrom 58 = .ok (.aload_n 0, 1) := by decide +kernel
theorem d_LI_isReadFrom_59 : decode c_LI_isReadFrom 59 = .ok (.invokevirtual 48, 3) := by decide +kernel
theorem d_LI_isReadFrom_62 : decode c_LI_isReadFrom 62 = .ok (.ifCond .eq 14, 3) := by decide +kernel
theorem d_LI_isReadFrom_65 : decode c_LI_isReadFrom 65 = .ok (.aload_n 0, 1) := by decide +kernel
theorem d_LI_isReadFrom_66 : decode c_LI_isReadFrom 66 = .ok (.invokevirtual 51, 3) := by decide +kernel
theorem d_LI_isReadFrom_69 : decode c_LI_isReadFrom 69 = .ok (.ifCond .eq 7, 3) := by decide +kernel
theorem d_LI_isReadFrom_72 : decode c_LI_isReadFrom 72 = .ok (.iconst 1, 1) := by decide +kernel
theorem d_LI_isReadFrom_73 : decode c_LI_isReadFrom 73 = .ok (.goto 4, 3) := by decide +kernel
theorem d_LI_isReadFrom_76 : decode c_LI_isReadFrom 76 = .ok (.iconst 0, 1) := by decide +kernel
theorem d_LI_isReadFrom_77 : decode c_LI_isReadFrom 77 = .ok (.ireturn, 1) := by decide +kernel
theorem d_LI_hasGoodBytes_0 : decode c_LI_hasGoodBytes 0 = .ok (.aload_n 0, 1) := by decide +kernel
theorem d_LI_hasGoodBytes_1 : decode c_LI_hasGoodBytes 1 = .ok (.getfield 19, 3) := by decide +kernel
theorem d_LI_hasGoodBytes_4 : decode c_LI_hasGoodBytes 4 = .ok (.istore_n 1, 1) := by decide +kernel
theorem d_LI_hasGoodBytes_5 : decode c_LI_hasGoodBytes 5 = .ok (.iload_n 1, 1) := by decide +kernel
theorem d_LI_hasGoodBytes_6 : decode c_LI_hasGoodBytes 6 = .ok (.aload_n 0, 1) := by decide +kernel
theorem d_LI_hasGoodBytes_7 : decode c_LI_hasGoodBytes 7 = .ok (.getfield 22, 3) := by decide +kernel
theorem d_LI_hasGoodBytes_10 : decode c_LI_hasGoodBytes 10 = .ok (.if_icmp .ge 33, 3) := by decide +kernel
theorem d_LI_hasGoodBytes_13 : decode c_LI_hasGoodBytes 13 = .ok (.aload_n 0, 1) := by decide +kernel
theorem d_LI_hasGoodBytes_14 : decode c_LI_hasGoodBytes 14 = .ok (.getfield 9, 3) := by decide +kernel
theorem d_LI_hasGoodBytes_17 : decode c_LI_hasGoodBytes 17 = .ok (.iload_n 1, 1) := by decide +kernel
theorem d_LI_hasGoodBytes_18 : decode c_LI_hasGoodBytes 18 = .ok (.iaload, 1) := by decide +kernel
theorem d_LI_hasGoodBytes_19 : decode c_LI_hasGoodBytes 19 = .ok (.bipush 32, 2) := by decide +kernel
theorem d_LI_hasGoodBytes_21 : decode c_LI_hasGoodBytes 21 = .ok (.if_icmp .lt 14, 3) := by decide +kernel
theorem d_LI_hasGoodBytes_24 : decode c_LI_hasGoodBytes 24 = .ok (.aload_n 0, 1) := by decide +kernel
theorem d_LI_hasGoodBytes_25 : decode c_LI_hasGoodBytes 25 = .ok (.getfield 9, 3) := by decide +kernel
theorem d_LI_hasGoodBytes_28 : decode c_LI_hasGoodBytes 28 = .ok (.iload_n 1, 1) := by decide +kernel
theorem d_LI_hasGoodBytes_29 : decode c_LI_hasGoodBytes 29 = .ok (.iaload, 1) := by decide +kernel
theorem d_LI_hasGoodBytes_30 : decode c_LI_hasGoodBytes 30 = .ok (.bipush 126, 2) := by decide +kernel
theorem d_LI_hasGoodBytes_32 : decode c_LI_hasGoodBytes 32 = .ok (.if_icmp .le 5, 3) := by decide +kernel
theorem d_LI_hasGoodBytes_35 : decode c_LI_hasGoodBytes 35 = .ok (.iconst 0, 1) := by decide +kernel
theorem d_LI_hasGoodBytes_36 : decode c_LI_hasGoodBytes 36 = .ok (.ireturn, 1) := by decide +kernel
theorem d_LI_hasGoodBytes_37 : decode c_LI_hasGoodBytes 37 = .ok (.iinc 1 1, 3) := by decide +kernel
theorem d_LI_hasGoodBytes_40 : decode c_LI_hasGoodBytes 40 = .ok (.goto (-35), 3) := by decide +kernel
theorem d_LI_hasGoodBytes_43 : decode c_LI_hasGoodBytes 43 = .ok (.iconst 1, 1) := by decide +kernel
theorem d_LI_hasGoodBytes_44 : decode c_LI_hasGoodBytes 44 = .ok (.ireturn, 1) := by decide +kernel
theorem d_LI_dropRemark_0 : decode c_LI_dropRemark 0 = .ok (.aload_n 0, 1) := by decide +kernel
theorem d_LI_dropRemark_1 : decode c_LI_dropRemark 1 = .ok (.getfield 19, 3) := by decide +kernel
theorem d_LI_dropRemark_4 : decode c_LI_dropRemark 4 = .ok (.istore_n 1, 1) := by decide +kernel
theorem d_LI_dropRemark_5 : decode c_LI_dropRemark 5 = .ok (.iload_n 1, 1) := by decide +kernel
theorem d_LI_dropRemark_6 : decode c_LI_dropRemark 6 = .ok (.aload_n 0, 1) := by decide +kernel
theorem d_LI_dropRemark_7 : decode c_LI_dropRemark 7 = .ok (.getfield 22, 3) := by decide +kernel
theorem d_LI_dropRemark_10 : decode c_LI_dropRemark 10 = .ok (.if_icmp .ge 26, 3) := by decide +kernel
theorem d_LI_dropRemark_13 : decode c_LI_dropRemark 13 = .ok (.aload_n 0, 1) := by decide +kernel
theorem d_LI_dropRemark_14 : decode c_LI_dropRemark 14 = .ok (.getfield 9, 3) := by decide +kernel
theorem d_LI_dropRemark_17 : decode c_LI_dropRemark 17 = .ok (.iload_n 1, 1) := by decide +kernel
theorem d_LI_dropRemark_18 : decode c_LI_dropRemark 18 = .ok (.iaload, 1) := by decide +kernel
theorem d_LI_dropRemark_19 : decode c_LI_dropRemark 19 = .ok (.bipush 59, 2) := by decide +kernel
theorem d_LI_dropRemark_21 : decode c_LI_dropRemark 21 = .ok (.if_icmp .ne 9, 3) := by decide +kernel
theorem d_LI_dropRemark_24 : decode c_LI_dropRemark 24 = .ok (.aload_n 0, 1) := by decide +kernel
theorem d_LI_dropRemark_25 : decode c_LI_dropRemark 25 = .ok (.iload_n 1, 1) := by decide +kernel
theorem d_LI_dropRemark_26 : decode c_LI_dropRemark 26 = .ok (.putfield 22, 3) := by decide +kernel
theorem d_LI_dropRemark_29 : decode c_LI_dropRemark 29 = .ok (.return_, 1) := by decide +kernel
theorem d_LI_dropRemark_30 : decode c_LI_dropRemark 30 = .ok (.iinc 1 1, 3) := by decide +kernel
theorem d_LI_dropRemark_33 : decode c_LI_dropRemark 33 = .ok (.goto (-28), 3) := by decide +kernel
theorem d_LI_dropRemark_36 : decode c_LI_dropRemark 36 = .ok (.return_, 1) := by decide +kernel
theorem d_LI_isLabelRead_0 : decode c_LI_isLabelRead 0 = .ok (.aload_n 0, 1) := by decide +kernel
theorem d_LI_isLabelRead_1 : decode c_LI_isLabelRead 1 = .ok (.invokevirtual 54, 3) := by decide +kernel
theorem d_LI_isLabelRead_4 : decode c_LI_isLabelRead 4 = .ok (.aload_n 0, 1) := by decide +kernel
theorem d_LI_isLabelRead_5 : decode c_LI_isLabelRead 5 = .ok (.invokevirtual 57, 3) := by decide +kernel
theorem d_LI_isLabelRead_8 : decode c_LI_isLabelRead 8 = .ok (.invokestatic 61, 3) := by decide +kernel
theorem d_LI_isLabelRead_11 : decode c_LI_isLabelRead 11 = .ok (.ifCond .ne 5, 3) := by decide +kernel
theorem d_LI_isLabelRead_14 : decode c_LI_isLabelRead 14 = .ok (.iconst 1, 1) := by decide +kernel
theorem d_LI_isLabelRead_15 : decode c_LI_isLabelRead 15 = .ok (.ireturn, 1) := by decide +kernel
theorem d_LI_isLabelRead_16 : decode c_LI_isLabelRead 16 = .ok (.aload_n 0, 1) := by decide +kernel
theorem d_LI_isLabelRead_17 : decode c_LI_isLabelRead 17 = .ok (.aload_n 0, 1) := by decide +kernel
theorem d_LI_isLabelRead_18 : decode c_LI_isLabelRead 18 = .ok (.invokevirtual 65, 3) := by decide +kernel
theorem d_LI_isLabelRead_21 : decode c_LI_isLabelRead 21 = .ok (.putfield 25, 3) := by decide +kernel
theorem d_LI_isLabelRead_24 : decode c_LI_isLabelRead 24 = .ok (.aload_n 0, 1) := by decide +kernel
theorem d_LI_isLabelRead_25 : decode c_LI_isLabelRead 25 = .ok (.getfield 25, 3) := by decide +kernel
theorem d_LI_isLabelRead_28 : decode c_LI_isLabelRead 28 = .ok (.lconst 0, 1) := by decide +kernel
theorem d_LI_isLabelRead_29 : decode c_LI_isLabelRead 29 = .ok (.lcmp, 1) := by decide +kernel
theorem d_LI_isLabelRead_30 : decode c_LI_isLabelRead 30 = .ok (.ifCond .eq 12, 3) := by decide +kernel
theorem d_LI_isLabelRead_33 : decode c_LI_isLabelRead 33 = .ok (.aload_n 0, 1) := by decide +kernel
theorem d_LI_isLabelRead_34 : decode c_LI_isLabelRead 34 = .ok (.invokevirtual 57, 3) := by decide +kernel
theorem d_LI_isLabelRead_37 : decode c_LI_isLabelRead 37 = .ok (.bipush 58, 2) := by decide +kernel
theorem d_LI_isLabelRead_39 : decode c_LI_isLabelRead 39 = .ok (.if_icmp .eq 5, 3) := by decide +kernel
theorem d_LI_isLabelRead_42 : decode c_LI_isLabelRead 42 = .ok (.iconst 0, 1) := by decide +kernel
theorem d_LI_isLabelRead_43 : decode c_LI_isLabelRead 43 = .ok (.ireturn, 1) := by decide +kernel
theorem d_LI_isLabelRead_44 : decode c_LI_isLabelRead 44 = .ok (.aload_n 0, 1) := by decide +kernel
theorem d_LI_isLabelRead_45 : decode c_LI_isLabelRead 45 = .ok (.dup, 1) := by decide +kernel
theorem d_LI_isLabelRead_46 : decode c_LI_isLabelRead 46 = .ok (.getfield 19, 3) := by decide +kernel
theorem d_LI_isLabelRead_49 : decode c_LI_isLabelRead 49 = .ok (.iconst 1, 1) := by decide +kernel
theorem d_LI_isLabelRead_50 : decode c_LI_isLabelRead 50 = .ok (.iadd, 1) := by decide +kernel
theorem d_LI_isLabelRead_51 : decode c_LI_isLabelRead 51 = .ok (.putfield 19, 3) := by decide +kernel
theorem d_LI_isLabelRead_54 : decode c_LI_isLabelRead 54 = .ok (.iconst 1, 1) := by decide +kernel
theorem d_LI_isLabelRead_55 : decode c_LI_isLabelRead 55 = .ok (.ireturn, 1) := by decide +kernel
theorem d_LI_isOrderRead_0 : decode c_LI_isOrderRead 0 = .ok (.aload_n 0, 1) := by decide +kernel
theorem d_LI_isOrderRead_1 : decode c_LI_isOrderRead 1 = .ok (.invokevirtual 54, 3) := by decide +kernel
theorem d_LI_isOrderRead_4 : decode c_LI_isOrderRead 4 = .ok (.aload_n 0, 1) := by decide +kernel
theorem d_LI_isOrderRead_5 : decode c_LI_isOrderRead 5 = .ok (.getfield 19, 3) := by decide +kernel
theorem d_LI_isOrderRead_8 : decode c_LI_isOrderRead 8 = .ok (.aload_n 0, 1) := by decide +kernel
theorem d_LI_isOrderRead_9 : decode c_LI_isOrderRead 9 = .ok (.getfield 22, 3) := by decide +kernel
theorem d_LI_isOrderRead_12 : decode c_LI_isOrderRead 12 = .ok (.if_icmp .ne 5, 3) := by decide +kernel
theorem d_LI_isOrderRead_15 : decode c_LI_isOrderRead 15 = .ok (.iconst 1, 1) := by decide +kernel
theorem d_LI_isOrderRead_16 : decode c_LI_isOrderRead 16 = .ok (.ireturn, 1) := by decide +kernel
theorem d_LI_isOrderRead_17 : decode c_LI_isOrderRead 17 = .ok (.aload_n 0, 1) := by decide +kernel
theorem d_LI_isOrderRead_18 : decode c_LI_isOrderRead 18 = .ok (.aload_n 0, 1) := by decide +kernel
theorem d_LI_isOrderRead_19 : decode c_LI_isOrderRead 19 = .ok (.invokevirtual 69, 3) := by decide +kernel
theorem d_LI_isOrderRead_22 : decode c_LI_isOrderRead 22 = .ok (.putfield 15, 3) := by decide +kernel
theorem d_LI_isOrderRead_25 : decode c_LI_isOrderRead 25 = .ok (.aload_n 0, 1) := by decide +kernel
theorem d_LI_isOrderRead_26 : decode c_LI_isOrderRead 26 = .ok (.getfield 15, 3) := by decide +kernel
theorem d_LI_isOrderRead_29 : decode c_LI_isOrderRead 29 = .ok (.iconst (-1), 1) := by decide +kernel
theorem d_LI_isOrderRead_30 : decode c_LI_isOrderRead 30 = .ok (.if_icmp .ne 5, 3) := by decide +kernel
theorem d_LI_isOrderRead_33 : decode c_LI_isOrderRead 33 = .ok (.iconst 0, 1) := by decide +kernel
theorem d_LI_isOrderRead_34 : decode c_LI_isOrderRead 34 = .ok (.ireturn, 1) := by decide +kernel
theorem d_LI_isOrderRead_35 : decode c_LI_isOrderRead 35 = .ok (.getstatic 72, 3) := by decide +kernel
theorem d_LI_isOrderRead_38 : decode c_LI_isOrderRead 38 = .ok (.aload_n 0, 1) := by decide +kernel
theorem d_LI_isOrderRead_39 : decode c_LI_isOrderRead 39 = .ok (.getfield 15, 3) := by decide +kernel
theorem d_LI_isOrderRead_42 : decode c_LI_isOrderRead 42 = .ok (.iaload, 1) := by decide +kernel
theorem d_LI_isOrderRead_43 : decode c_LI_isOrderRead 43 = .ok (.istore_n 1, 1) := by decide +kernel
theorem d_LI_isOrderRead_44 : decode c_LI_isOrderRead 44 = .ok (.iload_n 1, 1) := by decide +kernel
theorem d_LI_isOrderRead_45 : decode c_LI_isOrderRead 45 = .ok (.iconst 1, 1) := by decide +kernel
theorem d_LI_isOrderRead_46 : decode c_LI_isOrderRead 46 = .ok (.iand, 1) := by decide +kernel
theorem d_LI_isOrderRead_47 : decode c_LI_isOrderRead 47 = .ok (.ifCond .eq 11, 3) := by decide +kernel
theorem d_LI_isOrderRead_50 : decode c_LI_isOrderRead 50 = .ok (.aload_n 0, 1) := by decide +kernel
theorem d_LI_isOrderRead_51 : decode c_LI_isOrderRead 51 = .ok (.aload_n 0, 1) := by decide +kernel
theorem d_LI_isOrderRead_52 : decode c_LI_isOrderRead 52 = .ok (.invokevirtual 75, 3) := by decide +kernel
theorem d_LI_isOrderRead_55 : decode c_LI_isOrderRead 55 = .ok (.putfield 29, 3) := by decide +kernel
theorem d_LI_isOrderRead_58 : decode c_LI_isOrderRead 58 = .ok (.iload_n 1, 1) := by decide +kernel
theorem d_LI_isOrderRead_59 : decode c_LI_isOrderRead 59 = .ok (.iconst 2, 1) := by decide +kernel
theorem d_LI_isOrderRead_60 : decode c_LI_isOrderRead 60 = .ok (.iand, 1) := by decide +kernel
theorem d_LI_isOrderRead_61 : decode c_LI_isOrderRead 61 = .ok (.ifCond .eq 11, 3) := by decide +kernel
theorem d_LI_isOrderRead_64 : decode c_LI_isOrderRead 64 = .ok (.aload_n 0, 1) := by decide +kernel
theorem d_LI_isOrderRead_65 : decode c_LI_isOrderRead 65 = .ok (.aload_n 0, 1) := by decide +kernel
theorem d_LI_isOrderRead_66 : decode c_LI_isOrderRead 66 = .ok (.invokevirtual 75, 3) := by decide +kernel
theorem d_LI_isOrderRead_69 : decode c_LI_isOrderRead 69 = .ok (.putfield 32, 3) := by decide +kernel
theorem d_LI_isOrderRead_72 : decode c_LI_isOrderRead 72 = .ok (.aload_n 0, 1) := by decide +kernel
theorem d_LI_isOrderRead_73 : decode c_LI_isOrderRead 73 = .ok (.getfield 29, 3) := by decide +kernel
theorem d_LI_isOrderRead_76 : decode c_LI_isOrderRead 76 = .ok (.iconst (-1), 1) := by decide +kernel
theorem d_LI_isOrderRead_77 : decode c_LI_isOrderRead 77 = .ok (.if_icmp .eq 11, 3) := by decide +kernel
theorem d_LI_isOrderRead_80 : decode c_LI_isOrderRead 80 = .ok (.aload_n 0, 1) := by decide +kernel
theorem d_LI_isOrderRead_81 : decode c_LI_isOrderRead 81 = .ok (.getfield 32, 3) := by decide +kernel
theorem d_LI_isOrderRead_84 : decode c_LI_isOrderRead 84 = .ok (.iconst (-1), 1) := by decide +kernel
theorem d_LI_isOrderRead_85 : decode c_LI_isOrderRead 85 = .ok (.if_icmp .ne 5, 3) := by decide +kernel
theorem d_LI_isOrderRead_88 : decode c_LI_isOrderRead 88 = .ok (.iconst 0, 1) := by decide +kernel
theorem d_LI_isOrderRead_89 : decode c_LI_isOrderRead 89 = .ok (.ireturn, 1) := by decide +kernel
theorem d_LI_isOrderRead_90 : decode c_LI_isOrderRead 90 = .ok (.iload_n 1, 1) := by decide +kernel
theorem d_LI_isOrderRead_91 : decode c_LI_isOrderRead 91 = .ok (.iconst 4, 1) := by decide +kernel
theorem d_LI_isOrderRead_92 : decode c_LI_isOrderRead 92 = .ok (.if_icmp .lt 13, 3) := by decide +kernel
theorem d_LI_isOrderRead_95 : decode c_LI_isOrderRead 95 = .ok (.aload_n 0, 1) := by decide +kernel
theorem d_LI_isOrderRead_96 : decode c_LI_isOrderRead 96 = .ok (.iload_n 1, 1) := by decide +kernel
theorem d_LI_isOrderRead_97 : decode c_LI_isOrderRead 97 = .ok (.invokevirtual 78, 3) := by decide +kernel
theorem d_LI_isOrderRead_100 : decode c_LI_isOrderRead 100 = .ok (.ifCond .ne 5, 3) := by decide +kernel
theorem d_LI_isOrderRead_103 : decode c_LI_isOrderRead 103 = .ok (.iconst 0, 1) := by decide +kernel
theorem d_LI_isOrderRead_104 : decode c_LI_isOrderRead 104 = .ok (.ireturn, 1) := by decide +kernel
theorem d_LI_isOrderRead_105 : decode c_LI_isOrderRead 105 = .ok (.aload_n 0, 1) := by decide +kernel
theorem d_LI_isOrderRead_106 : decode c_LI_isOrderRead 106 = .ok (.invokevirtual 54, 3) := by decide +kernel
theorem d_LI_isOrderRead_109 : decode c_LI_isOrderRead 109 = .ok (.aload_n 0, 1) := by decide +kernel
theorem d_LI_isOrderRead_110 : decode c_LI_isOrderRead 110 = .ok (.getfield 19, 3) := by decide +kernel
theorem d_LI_isOrderRead_113 : decode c_LI_isOrderRead 113 = .ok (.aload_n 0, 1) := by decide +kernel
theorem d_LI_isOrderRead_114 : decode c_LI_isOrderRead 114 = .ok (.getfield 22, 3) := by decide +kernel
theorem d_LI_isOrderRead_117 : decode c_LI_isOrderRead 117 = .ok (.if_icmp .ne 7, 3) := by decide +kernel
theorem d_LI_isOrderRead_120 : decode c_LI_isOrderRead 120 = .ok (.iconst 1, 1) := by decide +kernel
theorem d_LI_isOrderRead_121 : decode c_LI_isOrderRead 121 = .ok (.goto 4, 3) := by decide +kernel
theorem d_LI_isOrderRead_124 : decode c_LI_isOrderRead 124 = .ok (.iconst 0, 1) := by decide +kernel
theorem d_LI_isOrderRead_125 : decode c_LI_isOrderRead 125 = .ok (.ireturn, 1) := by decide +kernel
theorem d_LI_takeOrder_0 : decode c_LI_takeOrder 0 = .ok (.aload_n 0, 1) := by decide +kernel
theorem d_LI_takeOrder_1 : decode c_LI_takeOrder 1 = .ok (.getfield 19, 3) := by decide +kernel
theorem d_LI_takeOrder_4 : decode c_LI_takeOrder 4 = .ok (.istore_n 1, 1) := by decide +kernel
theorem d_LI_takeOrder_5 : decode c_LI_takeOrder 5 = .ok (.aload_n 0, 1) := by decide +kernel
theorem d_LI_takeOrder_6 : decode c_LI_takeOrder 6 = .ok (.getfield 19, 3) := by decide +kernel
theorem d_LI_takeOrder_9 : decode c_LI_takeOrder 9 = .ok (.aload_n 0, 1) := by decide +kernel
theorem d_LI_takeOrder_10 : decode c_LI_takeOrder 10 = .ok (.getfield 22, 3) := by decide +kernel
theorem d_LI_takeOrder_13 : decode c_LI_takeOrder 13 = .ok (.if_icmp .ge 44, 3) := by decide +kernel
theorem d_LI_takeOrder_16 : decode c_LI_takeOrder 16 = .ok (.aload_n 0, 1) := by decide +kernel
theorem d_LI_takeOrder_17 : decode c_LI_takeOrder 17 = .ok (.getfield 9, 3) := by decide +kernel
theorem d_LI_takeOrder_20 : decode c_LI_takeOrder 20 = .ok (.aload_n 0, 1) := by decide +kernel
theorem d_LI_takeOrder_21 : decode c_LI_takeOrder 21 = .ok (.getfield 19, 3) := by decide +kernel
theorem d_LI_takeOrder_24 : decode c_LI_takeOrder 24 = .ok (.iaload, 1) := by decide +kernel
theorem d_LI_takeOrder_25 : decode c_LI_takeOrder 25 = .ok (.bipush 65, 2) := by decide +kernel
theorem d_LI_takeOrder_27 : decode c_LI_takeOrder 27 = .ok (.if_icmp .lt 30, 3) := by decide +kernel
theorem d_LI_takeOrder_30 : decode c_LI_takeOrder 30 = .ok (.aload_n 0, 1) := by decide +kernel
theorem d_LI_takeOrder_31 : decode c_LI_takeOrder 31 = .ok (.getfield 9, 3) := by decide +kernel
theorem d_LI_takeOrder_34 : decode c_LI_takeOrder 34 = .ok (.aload_n 0, 1) := by decide +kernel
theorem d_LI_takeOrder_35 : decode c_LI_takeOrder 35 = .ok (.getfield 19, 3) := by decide +kernel
theorem d_LI_takeOrder_38 : decode c_LI_takeOrder 38 = .ok (.iaload, 1) := by decide +kernel
theorem d_LI_takeOrder_39 : decode c_LI_takeOrder 39 = .ok (.bipush 90, 2) := by decide +kernel
theorem d_LI_takeOrder_41 : decode c_LI_takeOrder 41 = .ok (.if_icmp .gt 16, 3) := by decide +kernel
theorem d_LI_takeOrder_44 : decode c_LI_takeOrder 44 = .ok (.aload_n 0, 1) := by decide +kernel
theorem d_LI_takeOrder_45 : decode c_LI_takeOrder 45 = .ok (.dup, 1) := by decide +kernel
theorem d_LI_takeOrder_46 : decode c_LI_takeOrder 46 = .ok (.getfield 19, 3) := by decide +kernel
theorem d_LI_takeOrder_49 : decode c_LI_takeOrder 49 = .ok (.iconst 1, 1) := by decide +kernel
theorem d_LI_takeOrder_50 : decode c_LI_takeOrder 50 = .ok (.iadd, 1) := by decide +kernel
theorem d_LI_takeOrder_51 : decode c_LI_takeOrder 51 = .ok (.putfield 19, 3) := by decide +kernel
theorem d_LI_takeOrder_54 : decode c_LI_takeOrder 54 = .ok (.goto (-49), 3) := by decide +kernel
theorem d_LI_takeOrder_57 : decode c_LI_takeOrder 57 = .ok (.iconst 0, 1) := by decide +kernel
theorem d_LI_takeOrder_58 : decode c_LI_takeOrder 58 = .ok (.istore_n 2, 1) := by decide +kernel
theorem d_LI_takeOrder_59 : decode c_LI_takeOrder 59 = .ok (.iload_n 2, 1) := by decide +kernel
theorem d_LI_takeOrder_60 : decode c_LI_takeOrder 60 = .ok (.bipush 28, 2) := by decide +kernel
theorem d_LI_takeOrder_62 : decode c_LI_takeOrder 62 = .ok (.if_icmp .ge 26, 3) := by decide +kernel
theorem d_LI_takeOrder_65 : decode c_LI_takeOrder 65 = .ok (.aload_n 0, 1) := by decide +kernel
theorem d_LI_takeOrder_66 : decode c_LI_takeOrder 66 = .ok (.iload_n 2, 1) := by decide +kernel
theorem d_LI_takeOrder_67 : decode c_LI_takeOrder 67 = .ok (.iload_n 1, 1) := by decide +kernel
theorem d_LI_takeOrder_68 : decode c_LI_takeOrder 68 = .ok (.aload_n 0, 1) := by decide +kernel
theorem d_LI_takeOrder_69 : decode c_LI_takeOrder 69 = .ok (.getfield 19, 3) := by decide +kernel
theorem d_LI_takeOrder_72 : decode c_LI_takeOrder 72 = .ok (.iload_n 1, 1) := by decide +kernel
theorem d_LI_takeOrder_73 : decode c_LI_takeOrder 73 = .ok (.isub, 1) := by decide +kernel
theorem d_LI_takeOrder_74 : decode c_LI_takeOrder 74 = .ok (.invokevirtual 81, 3) := by decide +kernel
theorem d_LI_takeOrder_77 : decode c_LI_takeOrder 77 = .ok (.ifCond .eq 5, 3) := by decide +kernel
theorem d_LI_takeOrder_80 : decode c_LI_takeOrder 80 = .ok (.iload_n 2, 1) := by decide +kernel
theorem d_LI_takeOrder_81 : decode c_LI_takeOrder 81 = .ok (.ireturn, 1) := by decide +kernel
theorem d_LI_takeOrder_82 : decode c_LI_takeOrder 82 = .ok (.iinc 2 1, 3) := by decide +kernel
theorem d_LI_takeOrder_85 : decode c_LI_takeOrder 85 = .ok (.goto (-26), 3) := by decide +kernel
theorem d_LI_takeOrder_88 : decode c_LI_takeOrder 88 = .ok (.iconst (-1), 1) := by decide +kernel
theorem d_LI_takeOrder_89 : decode c_LI_takeOrder 89 = .ok (.ireturn, 1) := by decide +kernel
theorem d_LI_isNamed_0 : decode c_LI_isNamed 0 = .ok (.iload_n 3, 1) := by decide +kernel
theorem d_LI_isNamed_1 : decode c_LI_isNamed 1 = .ok (.bipush 6, 2) := by decide +kernel
theorem d_LI_isNamed_3 : decode c_LI_isNamed 3 = .ok (.if_icmp .le 5, 3) := by decide +kernel
theorem d_LI_isNamed_6 : decode c_LI_isNamed 6 = .ok (.iconst 0, 1) := by decide +kernel
theorem d_LI_isNamed_7 : decode c_LI_isNamed 7 = .ok (.ireturn, 1) := by decide +kernel
theorem d_LI_isNamed_8 : decode c_LI_isNamed 8 = .ok (.iconst 0, 1) := by decide +kernel
theorem d_LI_isNamed_9 : decode c_LI_isNamed 9 = .ok (.istore 4, 2) := by decide +kernel
theorem d_LI_isNamed_11 : decode c_LI_isNamed 11 = .ok (.iload 4, 2) := by decide +kernel
theorem d_LI_isNamed_13 : decode c_LI_isNamed 13 = .ok (.bipush 6, 2) := by decide +kernel
theorem d_LI_isNamed_15 : decode c_LI_isNamed 15 = .ok (.if_icmp .ge 50, 3) := by decide +kernel
theorem d_LI_isNamed_18 : decode c_LI_isNamed 18 = .ok (.iload 4, 2) := by decide +kernel
theorem d_LI_isNamed_20 : decode c_LI_isNamed 20 = .ok (.iload_n 3, 1) := by decide +kernel
theorem d_LI_isNamed_21 : decode c_LI_isNamed 21 = .ok (.if_icmp .ge 15, 3) := by decide +kernel
theorem d_LI_isNamed_24 : decode c_LI_isNamed 24 = .ok (.aload_n 0, 1) := by decide +kernel
theorem d_LI_isNamed_25 : decode c_LI_isNamed 25 = .ok (.getfield 9, 3) := by decide +kernel
theorem d_LI_isNamed_28 : decode c_LI_isNamed 28 = .ok (.iload_n 2, 1) := by decide +kernel
theorem d_LI_isNamed_29 : decode c_LI_isNamed 29 = .ok (.iload 4, 2) := by decide +kernel
theorem d_LI_isNamed_31 : decode c_LI_isNamed 31 = .ok (.iadd, 1) := by decide +kernel
theorem d_LI_isNamed_32 : decode c_LI_isNamed 32 = .ok (.iaload, 1) := by decide +kernel
theorem d_LI_isNamed_33 : decode c_LI_isNamed 33 = .ok (.goto 5, 3) := by decide +kernel
theorem d_LI_isNamed_36 : decode c_LI_isNamed 36 = .ok (.bipush 32, 2) := by decide +kernel
theorem d_LI_isNamed_38 : decode c_LI_isNamed 38 = .ok (.istore 5, 2) := by decide +kernel
theorem d_LI_isNamed_40 : decode c_LI_isNamed 40 = .ok (.ldc 85, 2) := by decide +kernel
theorem d_LI_isNamed_42 : decode c_LI_isNamed 42 = .ok (.iload_n 1, 1) := by decide +kernel
theorem d_LI_isNamed_43 : decode c_LI_isNamed 43 = .ok (.bipush 6, 2) := by decide +kernel
theorem d_LI_isNamed_45 : decode c_LI_isNamed 45 = .ok (.imul, 1) := by decide +kernel
theorem d_LI_isNamed_46 : decode c_LI_isNamed 46 = .ok (.iload 4, 2) := by decide +kernel
theorem d_LI_isNamed_48 : decode c_LI_isNamed 48 = .ok (.iadd, 1) := by decide +kernel
theorem d_LI_isNamed_49 : decode c_LI_isNamed 49 = .ok (.invokevirtual 87, 3) := by decide +kernel
theorem d_LI_isNamed_52 : decode c_LI_isNamed 52 = .ok (.iload 5, 2) := by decide +kernel
theorem d_LI_isNamed_54 : decode c_LI_isNamed 54 = .ok (.if_icmp .eq 5, 3) := by decide +kernel
theorem d_LI_isNamed_57 : decode c_LI_isNamed 57 = .ok (.iconst 0, 1) := by decide +kernel
theorem d_LI_isNamed_58 : decode c_LI_isNamed 58 = .ok (.ireturn, 1) := by decide +kernel
theorem d_LI_isNamed_59 : decode c_LI_isNamed 59 = .ok (.iinc 4 1, 3) := by decide +kernel
theorem d_LI_isNamed_62 : decode c_LI_isNamed 62 = .ok (.goto (-51), 3) := by decide +kernel
theorem d_LI_isNamed_65 : decode c_LI_isNamed 65 = .ok (.iconst 1, 1) := by decide +kernel
theorem d_LI_isNamed_66 : decode c_LI_isNamed 66 = .ok (.ireturn, 1) := by decide +kernel
theorem d_LI_takeRegister_0 : decode c_LI_takeRegister 0 = .ok (.aload_n 0, 1) := by decide +kernel
theorem d_LI_takeRegister_1 : decode c_LI_takeRegister 1 = .ok (.invokevirtual 57, 3) := by decide +kernel
theorem d_LI_takeRegister_4 : decode c_LI_takeRegister 4 = .ok (.bipush 32, 2) := by decide +kernel
theorem d_LI_takeRegister_6 : decode c_LI_takeRegister 6 = .ok (.if_icmp .eq 5, 3) := by decide +kernel
theorem d_LI_takeRegister_9 : decode c_LI_takeRegister 9 = .ok (.iconst (-1), 1) := by decide +kernel
theorem d_LI_takeRegister_10 : decode c_LI_takeRegister 10 = .ok (.ireturn, 1) := by decide +kernel
theorem d_LI_takeRegister_11 : decode c_LI_takeRegister 11 = .ok (.aload_n 0, 1) := by decide +kernel
theorem d_LI_takeRegister_12 : decode c_LI_takeRegister 12 = .ok (.invokevirtual 54, 3) := by decide +kernel
theorem d_LI_takeRegister_15 : decode c_LI_takeRegister 15 = .ok (.aload_n 0, 1) := by decide +kernel
theorem d_LI_takeRegister_16 : decode c_LI_takeRegister 16 = .ok (.invokevirtual 57, 3) := by decide +kernel
theorem d_LI_takeRegister_19 : decode c_LI_takeRegister 19 = .ok (.bipush 114, 2) := by decide +kernel
theorem d_LI_takeRegister_21 : decode c_LI_takeRegister 21 = .ok (.if_icmp .eq 5, 3) := by decide +kernel
theorem d_LI_takeRegister_24 : decode c_LI_takeRegister 24 = .ok (.iconst (-1), 1) := by decide +kernel
theorem d_LI_takeRegister_25 : decode c_LI_takeRegister 25 = .ok (.ireturn, 1) := by decide +kernel
theorem d_LI_takeRegister_26 : decode c_LI_takeRegister 26 = .ok (.aload_n 0, 1) := by decide +kernel
theorem d_LI_takeRegister_27 : decode c_LI_takeRegister 27 = .ok (.dup, 1) := by decide +kernel
theorem d_LI_takeRegister_28 : decode c_LI_takeRegister 28 = .ok (.getfield 19, 3) := by decide +kernel
theorem d_LI_takeRegister_31 : decode c_LI_takeRegister 31 = .ok (.iconst 1, 1) := by decide +kernel
theorem d_LI_takeRegister_32 : decode c_LI_takeRegister 32 = .ok (.iadd, 1) := by decide +kernel
theorem d_LI_takeRegister_33 : decode c_LI_takeRegister 33 = .ok (.putfield 19, 3) := by decide +kernel
theorem d_LI_takeRegister_36 : decode c_LI_takeRegister 36 = .ok (.aload_n 0, 1) := by decide +kernel
theorem d_LI_takeRegister_37 : decode c_LI_takeRegister 37 = .ok (.invokevirtual 57, 3) := by decide +kernel
theorem d_LI_takeRegister_40 : decode c_LI_takeRegister 40 = .ok (.istore_n 1, 1) := by decide +kernel
theorem d_LI_takeRegister_41 : decode c_LI_takeRegister 41 = .ok (.iload_n 1, 1) := by decide +kernel
theorem d_LI_takeRegister_42 : decode c_LI_takeRegister 42 = .ok (.bipush 48, 2) := by decide +kernel
theorem d_LI_takeRegister_44 : decode c_LI_takeRegister 44 = .ok (.if_icmp .lt 9, 3) := by decide +kernel
theorem d_LI_takeRegister_47 : decode c_LI_takeRegister 47 = .ok (.iload_n 1, 1) := by decide +kernel
theorem d_LI_takeRegister_48 : decode c_LI_takeRegister 48 = .ok (.bipush 55, 2) := by decide +kernel
theorem d_LI_takeRegister_50 : decode c_LI_takeRegister 50 = .ok (.if_icmp .le 5, 3) := by decide +kernel
theorem d_LI_takeRegister_53 : decode c_LI_takeRegister 53 = .ok (.iconst (-1), 1) := by decide +kernel
theorem d_LI_takeRegister_54 : decode c_LI_takeRegister 54 = .ok (.ireturn, 1) := by decide +kernel
theorem d_LI_takeRegister_55 : decode c_LI_takeRegister 55 = .ok (.aload_n 0, 1) := by decide +kernel
theorem d_LI_takeRegister_56 : decode c_LI_takeRegister 56 = .ok (.dup, 1) := by decide +kernel
theorem d_LI_takeRegister_57 : decode c_LI_takeRegister 57 = .ok (.getfield 19, 3) := by decide +kernel
theorem d_LI_takeRegister_60 : decode c_LI_takeRegister 60 = .ok (.iconst 1, 1) := by decide +kernel
theorem d_LI_takeRegister_61 : decode c_LI_takeRegister 61 = .ok (.iadd, 1) := by decide +kernel
theorem d_LI_takeRegister_62 : decode c_LI_takeRegister 62 = .ok (.putfield 19, 3) := by decide +kernel
theorem d_LI_takeRegister_65 : decode c_LI_takeRegister 65 = .ok (.iload_n 1, 1) := by decide +kernel
theorem d_LI_takeRegister_66 : decode c_LI_takeRegister 66 = .ok (.bipush 48, 2) := by decide +kernel
theorem d_LI_takeRegister_68 : decode c_LI_takeRegister 68 = .ok (.isub, 1) := by decide +kernel
theorem d_LI_takeRegister_69 : decode c_LI_takeRegister 69 = .ok (.ireturn, 1) := by decide +kernel
theorem d_LI_isNumberRead_0 : decode c_LI_isNumberRead 0 = .ok (.aload_n 0, 1) := by decide +kernel
theorem d_LI_isNumberRead_1 : decode c_LI_isNumberRead 1 = .ok (.invokevirtual 57, 3) := by decide +kernel
theorem d_LI_isNumberRead_4 : decode c_LI_isNumberRead 4 = .ok (.bipush 32, 2) := by decide +kernel
theorem d_LI_isNumberRead_6 : decode c_LI_isNumberRead 6 = .ok (.if_icmp .eq 5, 3) := by decide +kernel
theorem d_LI_isNumberRead_9 : decode c_LI_isNumberRead 9 = .ok (.iconst 0, 1) := by decide +kernel
theorem d_LI_isNumberRead_10 : decode c_LI_isNumberRead 10 = .ok (.ireturn, 1) := by decide +kernel
theorem d_LI_isNumberRead_11 : decode c_LI_isNumberRead 11 = .ok (.aload_n 0, 1) := by decide +kernel
theorem d_LI_isNumberRead_12 : decode c_LI_isNumberRead 12 = .ok (.invokevirtual 54, 3) := by decide +kernel
theorem d_LI_isNumberRead_15 : decode c_LI_isNumberRead 15 = .ok (.iload_n 1, 1) := by decide +kernel
theorem d_LI_isNumberRead_16 : decode c_LI_isNumberRead 16 = .ok (.bipush 8, 2) := by decide +kernel
theorem d_LI_isNumberRead_18 : decode c_LI_isNumberRead 18 = .ok (.iand, 1) := by decide +kernel
theorem d_LI_isNumberRead_19 : decode c_LI_isNumberRead 19 = .ok (.ifCond .ne 13, 3) := by decide +kernel
theorem d_LI_isNumberRead_22 : decode c_LI_isNumberRead 22 = .ok (.aload_n 0, 1) := by decide +kernel
theorem d_LI_isNumberRead_23 : decode c_LI_isNumberRead 23 = .ok (.invokevirtual 57, 3) := by decide +kernel
theorem d_LI_isNumberRead_26 : decode c_LI_isNumberRead 26 = .ok (.invokestatic 61, 3) := by decide +kernel
theorem d_LI_isNumberRead_29 : decode c_LI_isNumberRead 29 = .ok (.ifCond .ne 7, 3) := by decide +kernel
theorem d_LI_isNumberRead_32 : decode c_LI_isNumberRead 32 = .ok (.iconst 1, 1) := by decide +kernel
theorem d_LI_isNumberRead_33 : decode c_LI_isNumberRead 33 = .ok (.goto 4, 3) := by decide +kernel
theorem d_LI_isNumberRead_36 : decode c_LI_isNumberRead 36 = .ok (.iconst 0, 1) := by decide +kernel
theorem d_LI_isNumberRead_37 : decode c_LI_isNumberRead 37 = .ok (.istore_n 2, 1) := by decide +kernel
theorem d_LI_isNumberRead_38 : decode c_LI_isNumberRead 38 = .ok (.iload_n 2, 1) := by decide +kernel
theorem d_LI_isNumberRead_39 : decode c_LI_isNumberRead 39 = .ok (.ifCond .ne 43, 3) := by decide +kernel
theorem d_LI_isNumberRead_42 : decode c_LI_isNumberRead 42 = .ok (.aload_n 0, 1) := by decide +kernel
theorem d_LI_isNumberRead_43 : decode c_LI_isNumberRead 43 = .ok (.aload_n 0, 1) := by decide +kernel
theorem d_LI_isNumberRead_44 : decode c_LI_isNumberRead 44 = .ok (.invokevirtual 65, 3) := by decide +kernel
theorem d_LI_isNumberRead_47 : decode c_LI_isNumberRead 47 = .ok (.putfield 38, 3) := by decide +kernel
theorem d_LI_isNumberRead_50 : decode c_LI_isNumberRead 50 = .ok (.aload_n 0, 1) := by decide +kernel
theorem d_LI_isNumberRead_51 : decode c_LI_isNumberRead 51 = .ok (.getfield 38, 3) := by decide +kernel
theorem d_LI_isNumberRead_54 : decode c_LI_isNumberRead 54 = .ok (.lconst 0, 1) := by decide +kernel
theorem d_LI_isNumberRead_55 : decode c_LI_isNumberRead 55 = .ok (.lcmp, 1) := by decide +kernel
theorem d_LI_isNumberRead_56 : decode c_LI_isNumberRead 56 = .ok (.ifCond .ne 5, 3) := by decide +kernel
theorem d_LI_isNumberRead_59 : decode c_LI_isNumberRead 59 = .ok (.iconst 0, 1) := by decide +kernel
theorem d_LI_isNumberRead_60 : decode c_LI_isNumberRead 60 = .ok (.ireturn, 1) := by decide +kernel
theorem d_LI_isNumberRead_61 : decode c_LI_isNumberRead 61 = .ok (.aload_n 0, 1) := by decide +kernel
theorem d_LI_isNumberRead_62 : decode c_LI_isNumberRead 62 = .ok (.invokevirtual 57, 3) := by decide +kernel
theorem d_LI_isNumberRead_65 : decode c_LI_isNumberRead 65 = .ok (.bipush 43, 2) := by decide +kernel
theorem d_LI_isNumberRead_67 : decode c_LI_isNumberRead 67 = .ok (.if_icmp .eq 5, 3) := by decide +kernel
theorem d_LI_isNumberRead_70 : decode c_LI_isNumberRead 70 = .ok (.iconst 1, 1) := by decide +kernel
theorem d_LI_isNumberRead_71 : decode c_LI_isNumberRead 71 = .ok (.ireturn, 1) := by decide +kernel
theorem d_LI_isNumberRead_72 : decode c_LI_isNumberRead 72 = .ok (.aload_n 0, 1) := by decide +kernel
theorem d_LI_isNumberRead_73 : decode c_LI_isNumberRead 73 = .ok (.dup, 1) := by decide +kernel
theorem d_LI_isNumberRead_74 : decode c_LI_isNumberRead 74 = .ok (.getfield 19, 3) := by decide +kernel
theorem d_LI_isNumberRead_77 : decode c_LI_isNumberRead 77 = .ok (.iconst 1, 1) := by decide +kernel
theorem d_LI_isNumberRead_78 : decode c_LI_isNumberRead 78 = .ok (.iadd, 1) := by decide +kernel
theorem d_LI_isNumberRead_79 : decode c_LI_isNumberRead 79 = .ok (.putfield 19, 3) := by decide +kernel
theorem d_LI_isNumberRead_82 : decode c_LI_isNumberRead 82 = .ok (.aload_n 0, 1) := by decide +kernel
theorem d_LI_isNumberRead_83 : decode c_LI_isNumberRead 83 = .ok (.aload_n 0, 1) := by decide +kernel
theorem d_LI_isNumberRead_84 : decode c_LI_isNumberRead 84 = .ok (.invokevirtual 93, 3) := by decide +kernel
theorem d_LI_isNumberRead_87 : decode c_LI_isNumberRead 87 = .ok (.putfield 35, 3) := by decide +kernel
theorem d_LI_isNumberRead_90 : decode c_LI_isNumberRead 90 = .ok (.aload_n 0, 1) := by decide +kernel
theorem d_LI_isNumberRead_91 : decode c_LI_isNumberRead 91 = .ok (.getfield 35, 3) := by decide +kernel
theorem d_LI_isNumberRead_94 : decode c_LI_isNumberRead 94 = .ok (.iconst (-1), 1) := by decide +kernel
theorem d_LI_isNumberRead_95 : decode c_LI_isNumberRead 95 = .ok (.if_icmp .eq 7, 3) := by decide +kernel
theorem d_LI_isNumberRead_98 : decode c_LI_isNumberRead 98 = .ok (.iconst 1, 1) := by decide +kernel
theorem d_LI_isNumberRead_99 : decode c_LI_isNumberRead 99 = .ok (.goto 4, 3) := by decide +kernel
theorem d_LI_isNumberRead_102 : decode c_LI_isNumberRead 102 = .ok (.iconst 0, 1) := by decide +kernel
theorem d_LI_isNumberRead_103 : decode c_LI_isNumberRead 103 = .ok (.ireturn, 1) := by decide +kernel
theorem d_LI_takeNumber_0 : decode c_LI_takeNumber 0 = .ok (.iconst 0, 1) := by decide +kernel
theorem d_LI_takeNumber_1 : decode c_LI_takeNumber 1 = .ok (.istore_n 1, 1) := by decide +kernel
theorem d_LI_takeNumber_2 : decode c_LI_takeNumber 2 = .ok (.iconst 0, 1) := by decide +kernel
theorem d_LI_takeNumber_3 : decode c_LI_takeNumber 3 = .ok (.istore_n 2, 1) := by decide +kernel
theorem d_LI_takeNumber_4 : decode c_LI_takeNumber 4 = .ok (.aload_n 0, 1) := by decide +kernel
theorem d_LI_takeNumber_5 : decode c_LI_takeNumber 5 = .ok (.getfield 19, 3) := by decide +kernel
theorem d_LI_takeNumber_8 : decode c_LI_takeNumber 8 = .ok (.aload_n 0, 1) := by decide +kernel
theorem d_LI_takeNumber_9 : decode c_LI_takeNumber 9 = .ok (.getfield 22, 3) := by decide +kernel
theorem d_LI_takeNumber_12 : decode c_LI_takeNumber 12 = .ok (.if_icmp .ge 57, 3) := by decide +kernel
theorem d_LI_takeNumber_15 : decode c_LI_takeNumber 15 = .ok (.aload_n 0, 1) := by decide +kernel
theorem d_LI_takeNumber_16 : decode c_LI_takeNumber 16 = .ok (.getfield 9, 3) := by decide +kernel
theorem d_LI_takeNumber_19 : decode c_LI_takeNumber 19 = .ok (.aload_n 0, 1) := by decide +kernel
theorem d_LI_takeNumber_20 : decode c_LI_takeNumber 20 = .ok (.getfield 19, 3) := by decide +kernel
theorem d_LI_takeNumber_23 : decode c_LI_takeNumber 23 = .ok (.iaload, 1) := by decide +kernel
theorem d_LI_takeNumber_24 : decode c_LI_takeNumber 24 = .ok (.invokestatic 96, 3) := by decide +kernel
theorem d_LI_takeNumber_27 : decode c_LI_takeNumber 27 = .ok (.ifCond .eq 42, 3) := by decide +kernel
theorem d_LI_takeNumber_30 : decode c_LI_takeNumber 30 = .ok (.iload_n 2, 1) := by decide +kernel
theorem d_LI_takeNumber_31 : decode c_LI_takeNumber 31 = .ok (.iconst 5, 1) := by decide +kernel
theorem d_LI_takeNumber_32 : decode c_LI_takeNumber 32 = .ok (.if_icmp .gt 37, 3) := by decide +kernel
theorem d_LI_takeNumber_35 : decode c_LI_takeNumber 35 = .ok (.iload_n 1, 1) := by decide +kernel
theorem d_LI_takeNumber_36 : decode c_LI_takeNumber 36 = .ok (.bipush 10, 2) := by decide +kernel
theorem d_LI_takeNumber_38 : decode c_LI_takeNumber 38 = .ok (.imul, 1) := by decide +kernel
theorem d_LI_takeNumber_39 : decode c_LI_takeNumber 39 = .ok (.aload_n 0, 1) := by decide +kernel
theorem d_LI_takeNumber_40 : decode c_LI_takeNumber 40 = .ok (.getfield 9, 3) := by decide +kernel
theorem d_LI_takeNumber_43 : decode c_LI_takeNumber 43 = .ok (.aload_n 0, 1) := by decide +kernel
theorem d_LI_takeNumber_44 : decode c_LI_takeNumber 44 = .ok (.getfield 19, 3) := by decide +kernel
theorem d_LI_takeNumber_47 : decode c_LI_takeNumber 47 = .ok (.iaload, 1) := by decide +kernel
theorem d_LI_takeNumber_48 : decode c_LI_takeNumber 48 = .ok (.iadd, 1) := by decide +kernel
theorem d_LI_takeNumber_49 : decode c_LI_takeNumber 49 = .ok (.bipush 48, 2) := by decide +kernel
theorem d_LI_takeNumber_51 : decode c_LI_takeNumber 51 = .ok (.isub, 1) := by decide +kernel
theorem d_LI_takeNumber_52 : decode c_LI_takeNumber 52 = .ok (.istore_n 1, 1) := by decide +kernel
theorem d_LI_takeNumber_53 : decode c_LI_takeNumber 53 = .ok (.iinc 2 1, 3) := by decide +kernel
theorem d_LI_takeNumber_56 : decode c_LI_takeNumber 56 = .ok (.aload_n 0, 1) := by decide +kernel
theorem d_LI_takeNumber_57 : decode c_LI_takeNumber 57 = .ok (.dup, 1) := by decide +kernel
theorem d_LI_takeNumber_58 : decode c_LI_takeNumber 58 = .ok (.getfield 19, 3) := by decide +kernel
theorem d_LI_takeNumber_61 : decode c_LI_takeNumber 61 = .ok (.iconst 1, 1) := by decide +kernel
theorem d_LI_takeNumber_62 : decode c_LI_takeNumber 62 = .ok (.iadd, 1) := by decide +kernel
theorem d_LI_takeNumber_63 : decode c_LI_takeNumber 63 = .ok (.putfield 19, 3) := by decide +kernel
theorem d_LI_takeNumber_66 : decode c_LI_takeNumber 66 = .ok (.goto (-62), 3) := by decide +kernel
theorem d_LI_takeNumber_69 : decode c_LI_takeNumber 69 = .ok (.iload_n 2, 1) := by decide +kernel
theorem d_LI_takeNumber_70 : decode c_LI_takeNumber 70 = .ok (.ifCond .eq 14, 3) := by decide +kernel
theorem d_LI_takeNumber_73 : decode c_LI_takeNumber 73 = .ok (.iload_n 2, 1) := by decide +kernel
theorem d_LI_takeNumber_74 : decode c_LI_takeNumber 74 = .ok (.iconst 5, 1) := by decide +kernel
theorem d_LI_takeNumber_75 : decode c_LI_takeNumber 75 = .ok (.if_icmp .gt 9, 3) := by decide +kernel
theorem d_LI_takeNumber_78 : decode c_LI_takeNumber 78 = .ok (.iload_n 1, 1) := by decide +kernel
theorem d_LI_takeNumber_79 : decode c_LI_takeNumber 79 = .ok (.ldc 99, 2) := by decide +kernel
theorem d_LI_takeNumber_81 : decode c_LI_takeNumber 81 = .ok (.if_icmp .le 7, 3) := by decide +kernel
theorem d_LI_takeNumber_84 : decode c_LI_takeNumber 84 = .ok (.iconst (-1), 1) := by decide +kernel
theorem d_LI_takeNumber_85 : decode c_LI_takeNumber 85 = .ok (.goto 4, 3) := by decide +kernel
theorem d_LI_takeNumber_88 : decode c_LI_takeNumber 88 = .ok (.iload_n 1, 1) := by decide +kernel
theorem d_LI_takeNumber_89 : decode c_LI_takeNumber 89 = .ok (.ireturn, 1) := by decide +kernel
theorem d_LI_takeLabel_0 : decode c_LI_takeLabel 0 = .ok (.lconst 0, 1) := by decide +kernel
theorem d_LI_takeLabel_1 : decode c_LI_takeLabel 1 = .ok (.lstore_n 1, 1) := by decide +kernel
theorem d_LI_takeLabel_2 : decode c_LI_takeLabel 2 = .ok (.iconst 0, 1) := by decide +kernel
theorem d_LI_takeLabel_3 : decode c_LI_takeLabel 3 = .ok (.istore_n 3, 1) := by decide +kernel
theorem d_LI_takeLabel_4 : decode c_LI_takeLabel 4 = .ok (.aload_n 0, 1) := by decide +kernel
theorem d_LI_takeLabel_5 : decode c_LI_takeLabel 5 = .ok (.getfield 19, 3) := by decide +kernel
theorem d_LI_takeLabel_8 : decode c_LI_takeLabel 8 = .ok (.aload_n 0, 1) := by decide +kernel
theorem d_LI_takeLabel_9 : decode c_LI_takeLabel 9 = .ok (.getfield 22, 3) := by decide +kernel
theorem d_LI_takeLabel_12 : decode c_LI_takeLabel 12 = .ok (.if_icmp .ge 104, 3) := by decide +kernel
theorem d_LI_takeLabel_15 : decode c_LI_takeLabel 15 = .ok (.aload_n 0, 1) := by decide +kernel
theorem d_LI_takeLabel_16 : decode c_LI_takeLabel 16 = .ok (.getfield 9, 3) := by decide +kernel
theorem d_LI_takeLabel_19 : decode c_LI_takeLabel 19 = .ok (.aload_n 0, 1) := by decide +kernel
theorem d_LI_takeLabel_20 : decode c_LI_takeLabel 20 = .ok (.getfield 19, 3) := by decide +kernel
theorem d_LI_takeLabel_23 : decode c_LI_takeLabel 23 = .ok (.iaload, 1) := by decide +kernel
theorem d_LI_takeLabel_24 : decode c_LI_takeLabel 24 = .ok (.invokestatic 61, 3) := by decide +kernel
theorem d_LI_takeLabel_27 : decode c_LI_takeLabel 27 = .ok (.ifCond .ne 18, 3) := by decide +kernel
theorem d_LI_takeLabel_30 : decode c_LI_takeLabel 30 = .ok (.aload_n 0, 1) := by decide +kernel
theorem d_LI_takeLabel_31 : decode c_LI_takeLabel 31 = .ok (.getfield 9, 3) := by decide +kernel
theorem d_LI_takeLabel_34 : decode c_LI_takeLabel 34 = .ok (.aload_n 0, 1) := by decide +kernel
theorem d_LI_takeLabel_35 : decode c_LI_takeLabel 35 = .ok (.getfield 19, 3) := by decide +kernel
theorem d_LI_takeLabel_38 : decode c_LI_takeLabel 38 = .ok (.iaload, 1) := by decide +kernel
theorem d_LI_takeLabel_39 : decode c_LI_takeLabel 39 = .ok (.invokestatic 96, 3) := by decide +kernel
theorem d_LI_takeLabel_42 : decode c_LI_takeLabel 42 = .ok (.ifCond .eq 74, 3) := by decide +kernel
theorem d_LI_takeLabel_45 : decode c_LI_takeLabel 45 = .ok (.lload_n 1, 1) := by decide +kernel
theorem d_LI_takeLabel_46 : decode c_LI_takeLabel 46 = .ok (.ldc2_w 100, 3) := by decide +kernel
theorem d_LI_takeLabel_49 : decode c_LI_takeLabel 49 = .ok (.lmul, 1) := by decide +kernel
theorem d_LI_takeLabel_50 : decode c_LI_takeLabel 50 = .ok (.aload_n 0, 1) := by decide +kernel
theorem d_LI_takeLabel_51 : decode c_LI_takeLabel 51 = .ok (.getfield 9, 3) := by decide +kernel
theorem d_LI_takeLabel_54 : decode c_LI_takeLabel 54 = .ok (.aload_n 0, 1) := by decide +kernel
theorem d_LI_takeLabel_55 : decode c_LI_takeLabel 55 = .ok (.getfield 19, 3) := by decide +kernel
theorem d_LI_takeLabel_58 : decode c_LI_takeLabel 58 = .ok (.iaload, 1) := by decide +kernel
theorem d_LI_takeLabel_59 : decode c_LI_takeLabel 59 = .ok (.invokestatic 61, 3) := by decide +kernel
theorem d_LI_takeLabel_62 : decode c_LI_takeLabel 62 = .ok (.ifCond .eq 20, 3) := by decide +kernel
theorem d_LI_takeLabel_65 : decode c_LI_takeLabel 65 = .ok (.aload_n 0, 1) := by decide +kernel
theorem d_LI_takeLabel_66 : decode c_LI_takeLabel 66 = .ok (.getfield 9, 3) := by decide +kernel
theorem d_LI_takeLabel_69 : decode c_LI_takeLabel 69 = .ok (.aload_n 0, 1) := by decide +kernel
theorem d_LI_takeLabel_70 : decode c_LI_takeLabel 70 = .ok (.getfield 19, 3) := by decide +kernel
theorem d_LI_takeLabel_73 : decode c_LI_takeLabel 73 = .ok (.iaload, 1) := by decide +kernel
theorem d_LI_takeLabel_74 : decode c_LI_takeLabel 74 = .ok (.bipush 97, 2) := by decide +kernel
theorem d_LI_takeLabel_76 : decode c_LI_takeLabel 76 = .ok (.isub, 1) := by decide +kernel
theorem d_LI_takeLabel_77 : decode c_LI_takeLabel 77 = .ok (.iconst 1, 1) := by decide +kernel
theorem d_LI_takeLabel_78 : decode c_LI_takeLabel 78 = .ok (.iadd, 1) := by decide +kernel
theorem d_LI_takeLabel_79 : decode c_LI_takeLabel 79 = .ok (.goto 18, 3) := by decide +kernel
theorem d_LI_takeLabel_82 : decode c_LI_takeLabel 82 = .ok (.aload_n 0, 1) := by decide +kernel
theorem d_LI_takeLabel_83 : decode c_LI_takeLabel 83 = .ok (.getfield 9, 3) := by decide +kernel
theorem d_LI_takeLabel_86 : decode c_LI_takeLabel 86 = .ok (.aload_n 0, 1) := by decide +kernel
theorem d_LI_takeLabel_87 : decode c_LI_takeLabel 87 = .ok (.getfield 19, 3) := by decide +kernel
theorem d_LI_takeLabel_90 : decode c_LI_takeLabel 90 = .ok (.iaload, 1) := by decide +kernel
theorem d_LI_takeLabel_91 : decode c_LI_takeLabel 91 = .ok (.bipush 48, 2) := by decide +kernel
theorem d_LI_takeLabel_93 : decode c_LI_takeLabel 93 = .ok (.isub, 1) := by decide +kernel
theorem d_LI_takeLabel_94 : decode c_LI_takeLabel 94 = .ok (.bipush 27, 2) := by decide +kernel
theorem d_LI_takeLabel_96 : decode c_LI_takeLabel 96 = .ok (.iadd, 1) := by decide +kernel
theorem d_LI_takeLabel_97 : decode c_LI_takeLabel 97 = .ok (.i2l, 1) := by decide +kernel
theorem d_LI_takeLabel_98 : decode c_LI_takeLabel 98 = .ok (.ladd, 1) := by decide +kernel
theorem d_LI_takeLabel_99 : decode c_LI_takeLabel 99 = .ok (.lstore_n 1, 1) := by decide +kernel
theorem d_LI_takeLabel_100 : decode c_LI_takeLabel 100 = .ok (.iinc 3 1, 3) := by decide +kernel
theorem d_LI_takeLabel_103 : decode c_LI_takeLabel 103 = .ok (.aload_n 0, 1) := by decide +kernel
theorem d_LI_takeLabel_104 : decode c_LI_takeLabel 104 = .ok (.dup, 1) := by decide +kernel
theorem d_LI_takeLabel_105 : decode c_LI_takeLabel 105 = .ok (.getfield 19, 3) := by decide +kernel
theorem d_LI_takeLabel_108 : decode c_LI_takeLabel 108 = .ok (.iconst 1, 1) := by decide +kernel
theorem d_LI_takeLabel_109 : decode c_LI_takeLabel 109 = .ok (.iadd, 1) := by decide +kernel
theorem d_LI_takeLabel_110 : decode c_LI_takeLabel 110 = .ok (.putfield 19, 3) := by decide +kernel
theorem d_LI_takeLabel_113 : decode c_LI_takeLabel 113 = .ok (.goto (-109), 3) := by decide +kernel
theorem d_LI_takeLabel_116 : decode c_LI_takeLabel 116 = .ok (.iload_n 3, 1) := by decide +kernel
theorem d_LI_takeLabel_117 : decode c_LI_takeLabel 117 = .ok (.bipush 8, 2) := by decide +kernel
theorem d_LI_takeLabel_119 : decode c_LI_takeLabel 119 = .ok (.if_icmp .le 7, 3) := by decide +kernel
theorem d_LI_takeLabel_122 : decode c_LI_takeLabel 122 = .ok (.lconst 0, 1) := by decide +kernel
theorem d_LI_takeLabel_123 : decode c_LI_takeLabel 123 = .ok (.goto 4, 3) := by decide +kernel
theorem d_LI_takeLabel_126 : decode c_LI_takeLabel 126 = .ok (.lload_n 1, 1) := by decide +kernel
theorem d_LI_takeLabel_127 : decode c_LI_takeLabel 127 = .ok (.lreturn, 1) := by decide +kernel
theorem d_LI_skipBlanks_0 : decode c_LI_skipBlanks 0 = .ok (.aload_n 0, 1) := by decide +kernel
theorem d_LI_skipBlanks_1 : decode c_LI_skipBlanks 1 = .ok (.getfield 19, 3) := by decide +kernel
theorem d_LI_skipBlanks_4 : decode c_LI_skipBlanks 4 = .ok (.aload_n 0, 1) := by decide +kernel
theorem d_LI_skipBlanks_5 : decode c_LI_skipBlanks 5 = .ok (.getfield 22, 3) := by decide +kernel
theorem d_LI_skipBlanks_8 : decode c_LI_skipBlanks 8 = .ok (.if_icmp .ge 30, 3) := by decide +kernel
theorem d_LI_skipBlanks_11 : decode c_LI_skipBlanks 11 = .ok (.aload_n 0, 1) := by decide +kernel
theorem d_LI_skipBlanks_12 : decode c_LI_skipBlanks 12 = .ok (.getfield 9, 3) := by decide +kernel
theorem d_LI_skipBlanks_15 : decode c_LI_skipBlanks 15 = .ok (.aload_n 0, 1) := by decide +kernel
theorem d_LI_skipBlanks_16 : decode c_LI_skipBlanks 16 = .ok (.getfield 19, 3) := by decide +kernel
theorem d_LI_skipBlanks_19 : decode c_LI_skipBlanks 19 = .ok (.iaload, 1) := by decide +kernel
theorem d_LI_skipBlanks_20 : decode c_LI_skipBlanks 20 = .ok (.bipush 32, 2) := by decide +kernel
theorem d_LI_skipBlanks_22 : decode c_LI_skipBlanks 22 = .ok (.if_icmp .ne 16, 3) := by decide +kernel
theorem d_LI_skipBlanks_25 : decode c_LI_skipBlanks 25 = .ok (.aload_n 0, 1) := by decide +kernel
theorem d_LI_skipBlanks_26 : decode c_LI_skipBlanks 26 = .ok (.dup, 1) := by decide +kernel
theorem d_LI_skipBlanks_27 : decode c_LI_skipBlanks 27 = .ok (.getfield 19, 3) := by decide +kernel
theorem d_LI_skipBlanks_30 : decode c_LI_skipBlanks 30 = .ok (.iconst 1, 1) := by decide +kernel
theorem d_LI_skipBlanks_31 : decode c_LI_skipBlanks 31 = .ok (.iadd, 1) := by decide +kernel
theorem d_LI_skipBlanks_32 : decode c_LI_skipBlanks 32 = .ok (.putfield 19, 3) := by decide +kernel
theorem d_LI_skipBlanks_35 : decode c_LI_skipBlanks 35 = .ok (.goto (-35), 3) := by decide +kernel
theorem d_LI_skipBlanks_38 : decode c_LI_skipBlanks 38 = .ok (.return_, 1) := by decide +kernel
theorem d_LI_here_0 : decode c_LI_here 0 = .ok (.aload_n 0, 1) := by decide +kernel
theorem d_LI_here_1 : decode c_LI_here 1 = .ok (.getfield 19, 3) := by decide +kernel
theorem d_LI_here_4 : decode c_LI_here 4 = .ok (.aload_n 0, 1) := by decide +kernel
theorem d_LI_here_5 : decode c_LI_here 5 = .ok (.getfield 22, 3) := by decide +kernel
theorem d_LI_here_8 : decode c_LI_here 8 = .ok (.if_icmp .ge 15, 3) := by decide +kernel
theorem d_LI_here_11 : decode c_LI_here 11 = .ok (.aload_n 0, 1) := by decide +kernel
theorem d_LI_here_12 : decode c_LI_here 12 = .ok (.getfield 9, 3) := by decide +kernel
theorem d_LI_here_15 : decode c_LI_here 15 = .ok (.aload_n 0, 1) := by decide +kernel
theorem d_LI_here_16 : decode c_LI_here 16 = .ok (.getfield 19, 3) := by decide +kernel
theorem d_LI_here_19 : decode c_LI_here 19 = .ok (.iaload, 1) := by decide +kernel
theorem d_LI_here_20 : decode c_LI_here 20 = .ok (.goto 4, 3) := by decide +kernel
theorem d_LI_here_23 : decode c_LI_here 23 = .ok (.iconst (-1), 1) := by decide +kernel
theorem d_LI_here_24 : decode c_LI_here 24 = .ok (.ireturn, 1) := by decide +kernel
theorem d_LI_isLetter_0 : decode c_LI_isLetter 0 = .ok (.iload_n 0, 1) := by decide +kernel
theorem d_LI_isLetter_1 : decode c_LI_isLetter 1 = .ok (.bipush 97, 2) := by decide +kernel
theorem d_LI_isLetter_3 : decode c_LI_isLetter 3 = .ok (.if_icmp .lt 13, 3) := by decide +kernel
theorem d_LI_isLetter_6 : decode c_LI_isLetter 6 = .ok (.iload_n 0, 1) := by decide +kernel
theorem d_LI_isLetter_7 : decode c_LI_isLetter 7 = .ok (.bipush 122, 2) := by decide +kernel
theorem d_LI_isLetter_9 : decode c_LI_isLetter 9 = .ok (.if_icmp .gt 7, 3) := by decide +kernel
theorem d_LI_isLetter_12 : decode c_LI_isLetter 12 = .ok (.iconst 1, 1) := by decide +kernel
theorem d_LI_isLetter_13 : decode c_LI_isLetter 13 = .ok (.goto 4, 3) := by decide +kernel
theorem d_LI_isLetter_16 : decode c_LI_isLetter 16 = .ok (.iconst 0, 1) := by decide +kernel
theorem d_LI_isLetter_17 : decode c_LI_isLetter 17 = .ok (.ireturn, 1) := by decide +kernel
theorem d_LI_isDigit_0 : decode c_LI_isDigit 0 = .ok (.iload_n 0, 1) := by decide +kernel
theorem d_LI_isDigit_1 : decode c_LI_isDigit 1 = .ok (.bipush 48, 2) := by decide +kernel
theorem d_LI_isDigit_3 : decode c_LI_isDigit 3 = .ok (.if_icmp .lt 13, 3) := by decide +kernel
theorem d_LI_isDigit_6 : decode c_LI_isDigit 6 = .ok (.iload_n 0, 1) := by decide +kernel
theorem d_LI_isDigit_7 : decode c_LI_isDigit 7 = .ok (.bipush 57, 2) := by decide +kernel
theorem d_LI_isDigit_9 : decode c_LI_isDigit 9 = .ok (.if_icmp .gt 7, 3) := by decide +kernel
theorem d_LI_isDigit_12 : decode c_LI_isDigit 12 = .ok (.iconst 1, 1) := by decide +kernel
theorem d_LI_isDigit_13 : decode c_LI_isDigit 13 = .ok (.goto 4, 3) := by decide +kernel
theorem d_LI_isDigit_16 : decode c_LI_isDigit 16 = .ok (.iconst 0, 1) := by decide +kernel
theorem d_LI_isDigit_17 : decode c_LI_isDigit 17 = .ok (.ireturn, 1) := by decide +kernel
end
section
theorem d_MD_in_0 : decode c_MD_in 0 = .ok (.iload_n 0, 1) := by decide +kernel
theorem d_MD_in_1 : decode c_MD_in 1 = .ok (.iload_n 1, 1) := by decide +kernel
theorem d_MD_in_2 : decode c_MD_in 2 = .ok (.if_icmp .lt 12, 3) := by decide +kernel
theorem d_MD_in_5 : decode c_MD_in 5 = .ok (.iload_n 0, 1) := by decide +kernel
theorem d_MD_in_6 : decode c_MD_in 6 = .ok (.iload_n 2, 1) := by decide +kernel
theorem d_MD_in_7 : decode c_MD_in 7 = .ok (.if_icmp .gt 7, 3) := by decide +kernel
theorem d_MD_in_10 : decode c_MD_in 10 = .ok (.iconst 1, 1) := by decide +kernel
theorem d_MD_in_11 : decode c_MD_in 11 = .ok (.goto 4, 3) := by decide +kernel
theorem d_MD_in_14 : decode c_MD_in 14 = .ok (.iconst 0, 1) := by decide +kernel
theorem d_MD_in_15 : decode c_MD_in 15 = .ok (.ireturn, 1) := by decide +kernel
theorem d_MD_feed_0 : decode c_MD_feed 0 = .ok (.aload_n 0, 1) := by decide +kernel
theorem d_MD_feed_1 : decode c_MD_feed 1 = .ok (.getfield 1, 3) := by decide +kernel
theorem d_MD_feed_4 : decode c_MD_feed 4 = .ok (.bipush 20, 2) := by decide +kernel
theorem d_MD_feed_6 : decode c_MD_feed 6 = .ok (.iadd, 1) := by decide +kernel
theorem d_MD_feed_7 : decode c_MD_feed 7 = .ok (.sipush 3000, 3) := by decide +kernel
theorem d_MD_feed_10 : decode c_MD_feed 10 = .ok (.if_icmp .le 5, 3) := by decide +kernel
theorem d_MD_feed_13 : decode c_MD_feed 13 = .ok (.iconst (-1), 1) := by decide +kernel
theorem d_MD_feed_14 : decode c_MD_feed 14 = .ok (.ireturn, 1) := by decide +kernel
theorem d_MD_feed_15 : decode c_MD_feed 15 = .ok (.aload_n 0, 1) := by decide +kernel
theorem d_MD_feed_16 : decode c_MD_feed 16 = .ok (.iload_n 1, 1) := by decide +kernel
theorem d_MD_feed_17 : decode c_MD_feed 17 = .ok (.invokevirtual 7, 3) := by decide +kernel
theorem d_MD_feed_20 : decode c_MD_feed 20 = .ok (.aload_n 0, 1) := by decide +kernel
theorem d_MD_feed_21 : decode c_MD_feed 21 = .ok (.iload_n 2, 1) := by decide +kernel
theorem d_MD_feed_22 : decode c_MD_feed 22 = .ok (.invokevirtual 7, 3) := by decide +kernel
theorem d_MD_feed_25 : decode c_MD_feed 25 = .ok (.aload_n 0, 1) := by decide +kernel
theorem d_MD_feed_26 : decode c_MD_feed 26 = .ok (.iload_n 3, 1) := by decide +kernel
theorem d_MD_feed_27 : decode c_MD_feed 27 = .ok (.invokevirtual 7, 3) := by decide +kernel
theorem d_MD_feed_30 : decode c_MD_feed 30 = .ok (.aload_n 0, 1) := by decide +kernel
theorem d_MD_feed_31 : decode c_MD_feed 31 = .ok (.iload 4, 2) := by decide +kernel
theorem d_MD_feed_33 : decode c_MD_feed 33 = .ok (.invokevirtual 7, 3) := by decide +kernel
theorem d_MD_feed_36 : decode c_MD_feed 36 = .ok (.aload_n 0, 1) := by decide +kernel
theorem d_MD_feed_37 : decode c_MD_feed 37 = .ok (.iload 5, 2) := by decide +kernel
theorem d_MD_feed_39 : decode c_MD_feed 39 = .ok (.invokevirtual 7, 3) := by decide +kernel
theorem d_MD_feed_42 : decode c_MD_feed 42 = .ok (.aload_n 0, 1) := by decide +kernel
theorem d_MD_feed_43 : decode c_MD_feed 43 = .ok (.getfield 1, 3) := by decide +kernel
theorem d_MD_feed_46 : decode c_MD_feed 46 = .ok (.ireturn, 1) := by decide +kernel
theorem d_MD_word1_0 : decode c_MD_word1 0 = .ok (.bipush 24, 2) := by decide +kernel
theorem d_MD_word1_2 : decode c_MD_word1 2 = .ok (.istore_n 2, 1) := by decide +kernel
theorem d_MD_word1_3 : decode c_MD_word1 3 = .ok (.iload_n 2, 1) := by decide +kernel
theorem d_MD_word1_4 : decode c_MD_word1 4 = .ok (.ifCond .lt 32, 3) := by decide +kernel
theorem d_MD_word1_7 : decode c_MD_word1 7 = .ok (.aload_n 0, 1) := by decide +kernel
theorem d_MD_word1_8 : decode c_MD_word1 8 = .ok (.getfield 11, 3) := by decide +kernel
theorem d_MD_word1_11 : decode c_MD_word1 11 = .ok (.aload_n 0, 1) := by decide +kernel
theorem d_MD_word1_12 : decode c_MD_word1 12 = .ok (.getfield 1, 3) := by decide +kernel
theorem d_MD_word1_15 : decode c_MD_word1 15 = .ok (.iload_n 1, 1) := by decide +kernel
theorem d_MD_word1_16 : decode c_MD_word1 16 = .ok (.iload_n 2, 1) := by decide +kernel
theorem d_MD_word1_17 : decode c_MD_word1 17 = .ok (.ishr, 1) := by decide +kernel
theorem d_MD_word1_18 : decode c_MD_word1 18 = .ok (.i2b, 1) := by decide +kernel
theorem d_MD_word1_19 : decode c_MD_word1 19 = .ok (.bastore, 1) := by decide +kernel
theorem d_MD_word1_20 : decode c_MD_word1 20 = .ok (.aload_n 0, 1) := by decide +kernel
theorem d_MD_word1_21 : decode c_MD_word1 21 = .ok (.dup, 1) := by decide +kernel
theorem d_MD_word1_22 : decode c_MD_word1 22 = .ok (.getfield 1, 3) := by decide +kernel
theorem d_MD_word1_25 : decode c_MD_word1 25 = .ok (.iconst 1, 1) := by decide +kernel
theorem d_MD_word1_26 : decode c_MD_word1 26 = .ok (.iadd, 1) := by decide +kernel
theorem d_MD_word1_27 : decode c_MD_word1 27 = .ok (.putfield 1, 3) := by decide +kernel
theorem d_MD_word1_30 : decode c_MD_word1 30 = .ok (.iinc 2 (-8), 3) := by decide +kernel
theorem d_MD_word1_33 : decode c_MD_word1 33 = .ok (.goto (-30), 3) := by decide +kernel
theorem d_MD_word1_36 : decode c_MD_word1 36 = .ok (.return_, 1) := by decide +kernel
theorem d_MD_init_0 : decode c_MD_init 0 = .ok (.aload_n 0, 1) := by decide +kernel
theorem d_MD_init_1 : decode c_MD_init 1 = .ok (.invokespecial 15, 3) := by decide +kernel
theorem d_MD_init_4 : decode c_MD_init 4 = .ok (.aload_n 0, 1) := by decide +kernel
theorem d_MD_init_5 : decode c_MD_init 5 = .ok (.sipush 3000, 3) := by decide +kernel
theorem d_MD_init_8 : decode c_MD_init 8 = .ok (.newarray .byte, 2) := by decide +kernel
theorem d_MD_init_10 : decode c_MD_init 10 = .ok (.putfield 11, 3) := by decide +kernel
theorem d_MD_init_13 : decode c_MD_init 13 = .ok (.aload_n 0, 1) := by decide +kernel
theorem d_MD_init_14 : decode c_MD_init 14 = .ok (.iconst 3, 1) := by decide +kernel
theorem d_MD_init_15 : decode c_MD_init 15 = .ok (.newarray .boolean, 2) := by decide +kernel
theorem d_MD_init_17 : decode c_MD_init 17 = .ok (.putfield 21, 3) := by decide +kernel
theorem d_MD_init_20 : decode c_MD_init 20 = .ok (.aload_n 0, 1) := by decide +kernel
theorem d_MD_init_21 : decode c_MD_init 21 = .ok (.iconst 3, 1) := by decide +kernel
theorem d_MD_init_22 : decode c_MD_init 22 = .ok (.newarray .int, 2) := by decide +kernel
theorem d_MD_init_24 : decode c_MD_init 24 = .ok (.putfield 25, 3) := by decide +kernel
theorem d_MD_init_27 : decode c_MD_init 27 = .ok (.aload_n 0, 1) := by decide +kernel
theorem d_MD_init_28 : decode c_MD_init 28 = .ok (.iconst 3, 1) := by decide +kernel
theorem d_MD_init_29 : decode c_MD_init 29 = .ok (.newarray .int, 2) := by decide +kernel
theorem d_MD_init_31 : decode c_MD_init 31 = .ok (.putfield 29, 3) := by decide +kernel
theorem d_MD_init_34 : decode c_MD_init 34 = .ok (.aload_n 0, 1) := by decide +kernel
theorem d_MD_init_35 : decode c_MD_init 35 = .ok (.sipush 3072, 3) := by decide +kernel
theorem d_MD_init_38 : decode c_MD_init 38 = .ok (.newarray .int, 2) := by decide +kernel
theorem d_MD_init_40 : decode c_MD_init 40 = .ok (.putfield 32, 3) := by decide +kernel
theorem d_MD_init_43 : decode c_MD_init 43 = .ok (.aload_n 0, 1) := by decide +kernel
theorem d_MD_init_44 : decode c_MD_init 44 = .ok (.bipush 24, 2) := by decide +kernel
theorem d_MD_init_46 : decode c_MD_init 46 = .ok (.newarray .int, 2) := by decide +kernel
theorem d_MD_init_48 : decode c_MD_init 48 = .ok (.putfield 35, 3) := by decide +kernel
theorem d_MD_init_51 : decode c_MD_init 51 = .ok (.aload_n 0, 1) := by decide +kernel
theorem d_MD_init_52 : decode c_MD_init 52 = .ok (.iconst 3, 1) := by decide +kernel
theorem d_MD_init_53 : decode c_MD_init 53 = .ok (.newarray .int, 2) := by decide +kernel
theorem d_MD_init_55 : decode c_MD_init 55 = .ok (.putfield 38, 3) := by decide +kernel
theorem d_MD_init_58 : decode c_MD_init 58 = .ok (.aload_n 0, 1) := by decide +kernel
theorem d_MD_init_59 : decode c_MD_init 59 = .ok (.iconst 3, 1) := by decide +kernel
theorem d_MD_init_60 : decode c_MD_init 60 = .ok (.newarray .int, 2) := by decide +kernel
theorem d_MD_init_62 : decode c_MD_init 62 = .ok (.putfield 41, 3) := by decide +kernel
theorem d_MD_init_65 : decode c_MD_init 65 = .ok (.aload_n 0, 1) := by decide +kernel
theorem d_MD_init_66 : decode c_MD_init 66 = .ok (.iconst 3, 1) := by decide +kernel
theorem d_MD_init_67 : decode c_MD_init 67 = .ok (.newarray .int, 2) := by decide +kernel
theorem d_MD_init_69 : decode c_MD_init 69 = .ok (.putfield 44, 3) := by decide +kernel
theorem d_MD_init_72 : decode c_MD_init 72 = .ok (.aload_n 0, 1) := by decide +kernel
theorem d_MD_init_73 : decode c_MD_init 73 = .ok (.iconst 3, 1) := by decide +kernel
theorem d_MD_init_74 : decode c_MD_init 74 = .ok (.newarray .int, 2) := by decide +kernel
theorem d_MD_init_76 : decode c_MD_init 76 = .ok (.putfield 47, 3) := by decide +kernel
theorem d_MD_init_79 : decode c_MD_init 79 = .ok (.aload_n 0, 1) := by decide +kernel
theorem d_MD_init_80 : decode c_MD_init 80 = .ok (.iconst 3, 1) := by decide +kernel
theorem d_MD_init_81 : decode c_MD_init 81 = .ok (.newarray .int, 2) := by decide +kernel
theorem d_MD_init_83 : decode c_MD_init 83 = .ok (.putfield 50, 3) := by decide +kernel
theorem d_MD_init_86 : decode c_MD_init 86 = .ok (.aload_n 0, 1) := by decide +kernel
theorem d_MD_init_87 : decode c_MD_init 87 = .ok (.iconst 3, 1) := by decide +kernel
theorem d_MD_init_88 : decode c_MD_init 88 = .ok (.newarray .boolean, 2) := by decide +kernel
theorem d_MD_init_90 : decode c_MD_init 90 = .ok (.putfield 53, 3) := by decide +kernel
theorem d_MD_init_93 : decode c_MD_init 93 = .ok (.aload_n 0, 1) := by decide +kernel
theorem d_MD_init_94 : decode c_MD_init 94 = .ok (.iconst 3, 1) := by decide +kernel
theorem d_MD_init_95 : decode c_MD_init 95 = .ok (.newarray .boolean, 2) := by decide +kernel
theorem d_MD_init_97 : decode c_MD_init 97 = .ok (.putfield 56, 3) := by decide +kernel
theorem d_MD_init_100 : decode c_MD_init 100 = .ok (.aload_n 0, 1) := by decide +kernel
theorem d_MD_init_101 : decode c_MD_init 101 = .ok (.iconst 3, 1) := by decide +kernel
theorem d_MD_init_102 : decode c_MD_init 102 = .ok (.newarray .int, 2) := by decide +kernel
theorem d_MD_init_104 : decode c_MD_init 104 = .ok (.putfield 59, 3) := by decide +kernel
theorem d_MD_init_107 : decode c_MD_init 107 = .ok (.aload_n 0, 1) := by decide +kernel
theorem d_MD_init_108 : decode c_MD_init 108 = .ok (.iconst 3, 1) := by decide +kernel
theorem d_MD_init_109 : decode c_MD_init 109 = .ok (.newarray .int, 2) := by decide +kernel
theorem d_MD_init_111 : decode c_MD_init 111 = .ok (.putfield 62, 3) := by decide +kernel
theorem d_MD_init_114 : decode c_MD_init 114 = .ok (.aload_n 0, 1) := by decide +kernel
theorem d_MD_init_115 : decode c_MD_init 115 = .ok (.sipush 1500, 3) := by decide +kernel
theorem d_MD_init_118 : decode c_MD_init 118 = .ok (.newarray .int, 2) := by decide +kernel
theorem d_MD_init_120 : decode c_MD_init 120 = .ok (.putfield 65, 3) := by decide +kernel
theorem d_MD_init_123 : decode c_MD_init 123 = .ok (.aload_n 0, 1) := by decide +kernel
theorem d_MD_init_124 : decode c_MD_init 124 = .ok (.iconst 3, 1) := by decide +kernel
theorem d_MD_init_125 : decode c_MD_init 125 = .ok (.newarray .int, 2) := by decide +kernel
theorem d_MD_init_127 : decode c_MD_init 127 = .ok (.putfield 68, 3) := by decide +kernel
theorem d_MD_init_130 : decode c_MD_init 130 = .ok (.aload_n 0, 1) := by decide +kernel
theorem d_MD_init_131 : decode c_MD_init 131 = .ok (.sipush 300, 3) := by decide +kernel
theorem d_MD_init_134 : decode c_MD_init 134 = .ok (.newarray .int, 2) := by decide +kernel
theorem d_MD_init_136 : decode c_MD_init 136 = .ok (.putfield 71, 3) := by decide +kernel
theorem d_MD_init_139 : decode c_MD_init 139 = .ok (.aload_n 0, 1) := by decide +kernel
theorem d_MD_init_140 : decode c_MD_init 140 = .ok (.sipush 384, 3) := by decide +kernel
theorem d_MD_init_143 : decode c_MD_init 143 = .ok (.newarray .int, 2) := by decide +kernel
theorem d_MD_init_145 : decode c_MD_init 145 = .ok (.putfield 74, 3) := by decide +kernel
theorem d_MD_init_148 : decode c_MD_init 148 = .ok (.aload_n 0, 1) := by decide +kernel
theorem d_MD_init_149 : decode c_MD_init 149 = .ok (.bipush 25, 2) := by decide +kernel
theorem d_MD_init_151 : decode c_MD_init 151 = .ok (.newarray .int, 2) := by decide +kernel
theorem d_MD_init_153 : decode c_MD_init 153 = .ok (.putfield 77, 3) := by decide +kernel
theorem d_MD_init_156 : decode c_MD_init 156 = .ok (.aload_n 0, 1) := by decide +kernel
theorem d_MD_init_157 : decode c_MD_init 157 = .ok (.bipush 100, 2) := by decide +kernel
theorem d_MD_init_159 : decode c_MD_init 159 = .ok (.newarray .int, 2) := by decide +kernel
theorem d_MD_init_161 : decode c_MD_init 161 = .ok (.putfield 80, 3) := by decide +kernel
theorem d_MD_init_164 : decode c_MD_init 164 = .ok (.aload_n 0, 1) := by decide +kernel
theorem d_MD_init_165 : decode c_MD_init 165 = .ok (.bipush 100, 2) := by decide +kernel
theorem d_MD_init_167 : decode c_MD_init 167 = .ok (.newarray .int, 2) := by decide +kernel
theorem d_MD_init_169 : decode c_MD_init 169 = .ok (.putfield 83, 3) := by decide +kernel
theorem d_MD_init_172 : decode c_MD_init 172 = .ok (.aload_n 0, 1) := by decide +kernel
theorem d_MD_init_173 : decode c_MD_init 173 = .ok (.bipush 100, 2) := by decide +kernel
theorem d_MD_init_175 : decode c_MD_init 175 = .ok (.newarray .int, 2) := by decide +kernel
theorem d_MD_init_177 : decode c_MD_init 177 = .ok (.putfield 86, 3) := by decide +kernel
theorem d_MD_init_180 : decode c_MD_init 180 = .ok (.aload_n 0, 1) := by decide +kernel
theorem d_MD_init_181 : decode c_MD_init 181 = .ok (.sipush 1024, 3) := by decide +kernel
theorem d_MD_init_184 : decode c_MD_init 184 = .ok (.newarray .int, 2) := by decide +kernel
theorem d_MD_init_186 : decode c_MD_init 186 = .ok (.putfield 89, 3) := by decide +kernel
theorem d_MD_init_189 : decode c_MD_init 189 = .ok (.iconst 0, 1) := by decide +kernel
theorem d_MD_init_190 : decode c_MD_init 190 = .ok (.istore_n 1, 1) := by decide +kernel
theorem d_MD_init_191 : decode c_MD_init 191 = .ok (.iload_n 1, 1) := by decide +kernel
theorem d_MD_init_192 : decode c_MD_init 192 = .ok (.bipush 25, 2) := by decide +kernel
theorem d_MD_init_194 : decode c_MD_init 194 = .ok (.if_icmp .ge 119, 3) := by decide +kernel
theorem d_MD_init_197 : decode c_MD_init 197 = .ok (.aload_n 0, 1) := by decide +kernel
theorem d_MD_init_198 : decode c_MD_init 198 = .ok (.getfield 77, 3) := by decide +kernel
theorem d_MD_init_201 : decode c_MD_init 201 = .ok (.iload_n 1, 1) := by decide +kernel
theorem d_MD_init_202 : decode c_MD_init 202 = .ok (.iload_n 1, 1) := by decide +kernel
theorem d_MD_init_203 : decode c_MD_init 203 = .ok (.ifCond .ne 7, 3) := by decide +kernel
theorem d_MD_init_206 : decode c_MD_init 206 = .ok (.iconst 0, 1) := by decide +kernel
theorem d_MD_init_207 : decode c_MD_init 207 = .ok (.goto 99, 3) := by decide +kernel
theorem d_MD_init_210 : decode c_MD_init 210 = .ok (.iload_n 1, 1) := by decide +kernel
theorem d_MD_init_211 : decode c_MD_init 211 = .ok (.iconst 1, 1) := by decide +kernel
theorem d_MD_init_212 : decode c_MD_init 212 = .ok (.if_icmp .eq 31, 3) := by decide +kernel
theorem d_MD_init_215 : decode c_MD_init 215 = .ok (.iload_n 1, 1) := by decide +kernel
theorem d_MD_init_216 : decode c_MD_init 216 = .ok (.iconst 2, 1) := by decide +kernel
theorem d_MD_init_217 : decode c_MD_init 217 = .ok (.if_icmp .eq 26, 3) := by decide +kernel
theorem d_MD_init_220 : decode c_MD_init 220 = .ok (.iload_n 1, 1) := by decide +kernel
theorem d_MD_init_221 : decode c_MD_init 221 = .ok (.iconst 3, 1) := by decide +kernel
theorem d_MD_init_222 : decode c_MD_init 222 = .ok (.if_icmp .eq 21, 3) := by decide +kernel
theorem d_MD_init_225 : decode c_MD_init 225 = .ok (.iload_n 1, 1) := by decide +kernel
theorem d_MD_init_226 : decode c_MD_init 226 = .ok (.bipush 11, 2) := by decide +kernel
theorem d_MD_init_228 : decode c_MD_init 228 = .ok (.if_icmp .eq 15, 3) := by decide +kernel
theorem d_MD_init_231 : decode c_MD_init 231 = .ok (.iload_n 1, 1) := by decide +kernel
theorem d_MD_init_232 : decode c_MD_init 232 = .ok (.bipush 13, 2) := by decide +kernel
theorem d_MD_init_234 : decode c_MD_init 234 = .ok (.if_icmp .eq 9, 3) := by decide +kernel
theorem d_MD_init_237 : decode c_MD_init 237 = .ok (.iload_n 1, 1) := by decide +kernel
theorem d_MD_init_238 : decode c_MD_init 238 = .ok (.bipush 15, 2) := by decide +kernel
theorem d_MD_init_240 : decode c_MD_init 240 = .ok (.if_icmp .ne 7, 3) := by decide +kernel
theorem d_MD_init_243 : decode c_MD_init 243 = .ok (.iconst 5, 1) := by decide +kernel
theorem d_MD_init_244 : decode c_MD_init 244 = .ok (.goto 62, 3) := by decide +kernel
theorem d_MD_init_247 : decode c_MD_init 247 = .ok (.iload_n 1, 1) := by decide +kernel
theorem d_MD_init_248 : decode c_MD_init 248 = .ok (.iconst 4, 1) := by decide +kernel
theorem d_MD_init_249 : decode c_MD_init 249 = .ok (.if_icmp .eq 14, 3) := by decide +kernel
theorem d_MD_init_252 : decode c_MD_init 252 = .ok (.iload_n 1, 1) := by decide +kernel
theorem d_MD_init_253 : decode c_MD_init 253 = .ok (.iconst 5, 1) := by decide +kernel
theorem d_MD_init_254 : decode c_MD_init 254 = .ok (.if_icmp .eq 9, 3) := by decide +kernel
theorem d_MD_init_257 : decode c_MD_init 257 = .ok (.iload_n 1, 1) := by decide +kernel
theorem d_MD_init_258 : decode c_MD_init 258 = .ok (.bipush 22, 2) := by decide +kernel
theorem d_MD_init_260 : decode c_MD_init 260 = .ok (.if_icmp .le 8, 3) := by decide +kernel
theorem d_MD_init_263 : decode c_MD_init 263 = .ok (.bipush 7, 2) := by decide +kernel
theorem d_MD_init_265 : decode c_MD_init 265 = .ok (.goto 41, 3) := by decide +kernel
theorem d_MD_init_268 : decode c_MD_init 268 = .ok (.iload_n 1, 1) := by decide +kernel
theorem d_MD_init_269 : decode c_MD_init 269 = .ok (.iconst 5, 1) := by decide +kernel
theorem d_MD_init_270 : decode c_MD_init 270 = .ok (.if_icmp .le 13, 3) := by decide +kernel
theorem d_MD_init_273 : decode c_MD_init 273 = .ok (.iload_n 1, 1) := by decide +kernel
theorem d_MD_init_274 : decode c_MD_init 274 = .ok (.bipush 11, 2) := by decide +kernel
theorem d_MD_init_276 : decode c_MD_init 276 = .ok (.if_icmp .ge 7, 3) := by decide +kernel
theorem d_MD_init_279 : decode c_MD_init 279 = .ok (.iconst 3, 1) := by decide +kernel
theorem d_MD_init_280 : decode c_MD_init 280 = .ok (.goto 26, 3) := by decide +kernel
theorem d_MD_init_283 : decode c_MD_init 283 = .ok (.iload_n 1, 1) := by decide +kernel
theorem d_MD_init_284 : decode c_MD_init 284 = .ok (.bipush 12, 2) := by decide +kernel
theorem d_MD_init_286 : decode c_MD_init 286 = .ok (.if_icmp .eq 15, 3) := by decide +kernel
theorem d_MD_init_289 : decode c_MD_init 289 = .ok (.iload_n 1, 1) := by decide +kernel
theorem d_MD_init_290 : decode c_MD_init 290 = .ok (.bipush 15, 2) := by decide +kernel
theorem d_MD_init_292 : decode c_MD_init 292 = .ok (.if_icmp .le 13, 3) := by decide +kernel
theorem d_MD_init_295 : decode c_MD_init 295 = .ok (.iload_n 1, 1) := by decide +kernel
theorem d_MD_init_296 : decode c_MD_init 296 = .ok (.bipush 19, 2) := by decide +kernel
theorem d_MD_init_298 : decode c_MD_init 298 = .ok (.if_icmp .ge 7, 3) := by decide +kernel
theorem d_MD_init_301 : decode c_MD_init 301 = .ok (.iconst 4, 1) := by decide +kernel
theorem d_MD_init_302 : decode c_MD_init 302 = .ok (.goto 4, 3) := by decide +kernel
theorem d_MD_init_305 : decode c_MD_init 305 = .ok (.iconst 1, 1) := by decide +kernel
theorem d_MD_init_306 : decode c_MD_init 306 = .ok (.iastore, 1) := by decide +kernel
theorem d_MD_init_307 : decode c_MD_init 307 = .ok (.iinc 1 1, 3) := by decide +kernel
theorem d_MD_init_310 : decode c_MD_init 310 = .ok (.goto (-119), 3) := by decide +kernel
theorem d_MD_init_313 : decode c_MD_init 313 = .ok (.return_, 1) := by decide +kernel
theorem d_MD_byteAt_0 : decode c_MD_byteAt 0 = .ok (.iload_n 1, 1) := by decide +kernel
theorem d_MD_byteAt_1 : decode c_MD_byteAt 1 = .ok (.aload_n 0, 1) := by decide +kernel
theorem d_MD_byteAt_2 : decode c_MD_byteAt 2 = .ok (.getfield 92, 3) := by decide +kernel
theorem d_MD_byteAt_5 : decode c_MD_byteAt 5 = .ok (.if_icmp .ge 16, 3) := by decide +kernel
theorem d_MD_byteAt_8 : decode c_MD_byteAt 8 = .ok (.aload_n 0, 1) := by decide +kernel
theorem d_MD_byteAt_9 : decode c_MD_byteAt 9 = .ok (.getfield 11, 3) := by decide +kernel
theorem d_MD_byteAt_12 : decode c_MD_byteAt 12 = .ok (.iload_n 1, 1) := by decide +kernel
theorem d_MD_byteAt_13 : decode c_MD_byteAt 13 = .ok (.baload, 1) := by decide +kernel
theorem d_MD_byteAt_14 : decode c_MD_byteAt 14 = .ok (.sipush 255, 3) := by decide +kernel
theorem d_MD_byteAt_17 : decode c_MD_byteAt 17 = .ok (.iand, 1) := by decide +kernel
theorem d_MD_byteAt_18 : decode c_MD_byteAt 18 = .ok (.goto 4, 3) := by decide +kernel
theorem d_MD_byteAt_21 : decode c_MD_byteAt 21 = .ok (.iconst (-1), 1) := by decide +kernel
theorem d_MD_byteAt_22 : decode c_MD_byteAt 22 = .ok (.ireturn, 1) := by decide +kernel
theorem d_MD_isOver_0 : decode c_MD_isOver 0 = .ok (.aload_n 0, 1) := by decide +kernel
theorem d_MD_isOver_1 : decode c_MD_isOver 1 = .ok (.getfield 95, 3) := by decide +kernel
theorem d_MD_isOver_4 : decode c_MD_isOver 4 = .ok (.aload_n 0, 1) := by decide +kernel
theorem d_MD_isOver_5 : decode c_MD_isOver 5 = .ok (.getfield 92, 3) := by decide +kernel
theorem d_MD_isOver_8 : decode c_MD_isOver 8 = .ok (.if_icmp .ge 31, 3) := by decide +kernel
theorem d_MD_isOver_11 : decode c_MD_isOver 11 = .ok (.aload_n 0, 1) := by decide +kernel
theorem d_MD_isOver_12 : decode c_MD_isOver 12 = .ok (.getfield 11, 3) := by decide +kernel
theorem d_MD_isOver_15 : decode c_MD_isOver 15 = .ok (.aload_n 0, 1) := by decide +kernel
theorem d_MD_isOver_16 : decode c_MD_isOver 16 = .ok (.getfield 95, 3) := by decide +kernel
theorem d_MD_isOver_19 : decode c_MD_isOver 19 = .ok (.baload, 1) := by decide +kernel
theorem d_MD_isOver_20 : decode c_MD_isOver 20 = .ok (.bipush 10, 2) := by decide +kernel
theorem d_MD_isOver_22 : decode c_MD_isOver 22 = .ok (.if_icmp .eq 17, 3) := by decide +kernel
theorem d_MD_isOver_25 : decode c_MD_isOver 25 = .ok (.aload_n 0, 1) := by decide +kernel
theorem d_MD_isOver_26 : decode c_MD_isOver 26 = .ok (.getfield 11, 3) := by decide +kernel
theorem d_MD_isOver_29 : decode c_MD_isOver 29 = .ok (.aload_n 0, 1) := by decide +kernel
theorem d_MD_isOver_30 : decode c_MD_isOver 30 = .ok (.getfield 95, 3) := by decide +kernel
theorem d_MD_isOver_33 : decode c_MD_isOver 33 = .ok (.baload, 1) := by decide +kernel
theorem d_MD_isOver_34 : decode c_MD_isOver 34 = .ok (.bipush 59, 2) := by decide +kernel
theorem d_MD_isOver_36 : decode c_MD_isOver 36 = .ok (.if_icmp .ne 7, 3) := by decide +kernel
theorem d_MD_isOver_39 : decode c_MD_isOver 39 = .ok (.iconst 1, 1) := by decide +kernel
theorem d_MD_isOver_40 : decode c_MD_isOver 40 = .ok (.goto 4, 3) := by decide +kernel
theorem d_MD_isOver_43 : decode c_MD_isOver 43 = .ok (.iconst 0, 1) := by decide +kernel
theorem d_MD_isOver_44 : decode c_MD_isOver 44 = .ok (.ireturn, 1) := by decide +kernel
theorem d_MD_blanks_0 : decode c_MD_blanks 0 = .ok (.aload_n 0, 1) := by decide +kernel
theorem d_MD_blanks_1 : decode c_MD_blanks 1 = .ok (.getfield 95, 3) := by decide +kernel
theorem d_MD_blanks_4 : decode c_MD_blanks 4 = .ok (.aload_n 0, 1) := by decide +kernel
theorem d_MD_blanks_5 : decode c_MD_blanks 5 = .ok (.getfield 92, 3) := by decide +kernel
theorem d_MD_blanks_8 : decode c_MD_blanks 8 = .ok (.if_icmp .ge 30, 3) := by decide +kernel
theorem d_MD_blanks_11 : decode c_MD_blanks 11 = .ok (.aload_n 0, 1) := by decide +kernel
theorem d_MD_blanks_12 : decode c_MD_blanks 12 = .ok (.getfield 11, 3) := by decide +kernel
theorem d_MD_blanks_15 : decode c_MD_blanks 15 = .ok (.aload_n 0, 1) := by decide +kernel
theorem d_MD_blanks_16 : decode c_MD_blanks 16 = .ok (.getfield 95, 3) := by decide +kernel
theorem d_MD_blanks_19 : decode c_MD_blanks 19 = .ok (.baload, 1) := by decide +kernel
theorem d_MD_blanks_20 : decode c_MD_blanks 20 = .ok (.bipush 32, 2) := by decide +kernel
theorem d_MD_blanks_22 : decode c_MD_blanks 22 = .ok (.if_icmp .ne 16, 3) := by decide +kernel
theorem d_MD_blanks_25 : decode c_MD_blanks 25 = .ok (.aload_n 0, 1) := by decide +kernel
theorem d_MD_blanks_26 : decode c_MD_blanks 26 = .ok (.dup, 1) := by decide +kernel
theorem d_MD_blanks_27 : decode c_MD_blanks 27 = .ok (.getfield 95, 3) := by decide +kernel
theorem d_MD_blanks_30 : decode c_MD_blanks 30 = .ok (.iconst 1, 1) := by decide +kernel
theorem d_MD_blanks_31 : decode c_MD_blanks 31 = .ok (.iadd, 1) := by decide +kernel
theorem d_MD_blanks_32 : decode c_MD_blanks 32 = .ok (.putfield 95, 3) := by decide +kernel
theorem d_MD_blanks_35 : decode c_MD_blanks 35 = .ok (.goto (-35), 3) := by decide +kernel
theorem d_MD_blanks_38 : decode c_MD_blanks 38 = .ok (.return_, 1) := by decide +kernel
theorem d_MD_isSmall_0 : decode c_MD_isSmall 0 = .ok (.iload_n 0, 1) := by decide +kernel
theorem d_MD_isSmall_1 : decode c_MD_isSmall 1 = .ok (.bipush 97, 2) := by decide +kernel
theorem d_MD_isSmall_3 : decode c_MD_isSmall 3 = .ok (.if_icmp .lt 13, 3) := by decide +kernel
theorem d_MD_isSmall_6 : decode c_MD_isSmall 6 = .ok (.iload_n 0, 1) := by decide +kernel
theorem d_MD_isSmall_7 : decode c_MD_isSmall 7 = .ok (.bipush 122, 2) := by decide +kernel
theorem d_MD_isSmall_9 : decode c_MD_isSmall 9 = .ok (.if_icmp .gt 7, 3) := by decide +kernel
theorem d_MD_isSmall_12 : decode c_MD_isSmall 12 = .ok (.iconst 1, 1) := by decide +kernel
theorem d_MD_isSmall_13 : decode c_MD_isSmall 13 = .ok (.goto 4, 3) := by decide +kernel
theorem d_MD_isSmall_16 : decode c_MD_isSmall 16 = .ok (.iconst 0, 1) := by decide +kernel
theorem d_MD_isSmall_17 : decode c_MD_isSmall 17 = .ok (.ireturn, 1) := by decide +kernel
theorem d_MD_isDigit_0 : decode c_MD_isDigit 0 = .ok (.iload_n 0, 1) := by decide +kernel
theorem d_MD_isDigit_1 : decode c_MD_isDigit 1 = .ok (.bipush 48, 2) := by decide +kernel
theorem d_MD_isDigit_3 : decode c_MD_isDigit 3 = .ok (.if_icmp .lt 13, 3) := by decide +kernel
theorem d_MD_isDigit_6 : decode c_MD_isDigit 6 = .ok (.iload_n 0, 1) := by decide +kernel
theorem d_MD_isDigit_7 : decode c_MD_isDigit 7 = .ok (.bipush 57, 2) := by decide +kernel
theorem d_MD_isDigit_9 : decode c_MD_isDigit 9 = .ok (.if_icmp .gt 7, 3) := by decide +kernel
theorem d_MD_isDigit_12 : decode c_MD_isDigit 12 = .ok (.iconst 1, 1) := by decide +kernel
theorem d_MD_isDigit_13 : decode c_MD_isDigit 13 = .ok (.goto 4, 3) := by decide +kernel
theorem d_MD_isDigit_16 : decode c_MD_isDigit 16 = .ok (.iconst 0, 1) := by decide +kernel
theorem d_MD_isDigit_17 : decode c_MD_isDigit 17 = .ok (.ireturn, 1) := by decide +kernel
theorem d_MD_isGreat_0 : decode c_MD_isGreat 0 = .ok (.iload_n 0, 1) := by decide +kernel
theorem d_MD_isGreat_1 : decode c_MD_isGreat 1 = .ok (.bipush 65, 2) := by decide +kernel
theorem d_MD_isGreat_3 : decode c_MD_isGreat 3 = .ok (.if_icmp .lt 13, 3) := by decide +kernel
theorem d_MD_isGreat_6 : decode c_MD_isGreat 6 = .ok (.iload_n 0, 1) := by decide +kernel
theorem d_MD_isGreat_7 : decode c_MD_isGreat 7 = .ok (.bipush 90, 2) := by decide +kernel
theorem d_MD_isGreat_9 : decode c_MD_isGreat 9 = .ok (.if_icmp .gt 7, 3) := by decide +kernel
theorem d_MD_isGreat_12 : decode c_MD_isGreat 12 = .ok (.iconst 1, 1) := by decide +kernel
theorem d_MD_isGreat_13 : decode c_MD_isGreat 13 = .ok (.goto 4, 3) := by decide +kernel
theorem d_MD_isGreat_16 : decode c_MD_isGreat 16 = .ok (.iconst 0, 1) := by decide +kernel
theorem d_MD_isGreat_17 : decode c_MD_isGreat 17 = .ok (.ireturn, 1) := by decide +kernel
theorem d_MD_nameAt_0 : decode c_MD_nameAt 0 = .ok (.aload_n 0, 1) := by decide +kernel
theorem d_MD_nameAt_1 : decode c_MD_nameAt 1 = .ok (.iload_n 1, 1) := by decide +kernel
theorem d_MD_nameAt_2 : decode c_MD_nameAt 2 = .ok (.invokevirtual 98, 3) := by decide +kernel
theorem d_MD_nameAt_5 : decode c_MD_nameAt 5 = .ok (.invokestatic 102, 3) := by decide +kernel
theorem d_MD_nameAt_8 : decode c_MD_nameAt 8 = .ok (.ifCond .ne 5, 3) := by decide +kernel
theorem d_MD_nameAt_11 : decode c_MD_nameAt 11 = .ok (.iconst 0, 1) := by decide +kernel
theorem d_MD_nameAt_12 : decode c_MD_nameAt 12 = .ok (.ireturn, 1) := by decide +kernel
theorem d_MD_nameAt_13 : decode c_MD_nameAt 13 = .ok (.iconst 1, 1) := by decide +kernel
theorem d_MD_nameAt_14 : decode c_MD_nameAt 14 = .ok (.istore_n 2, 1) := by decide +kernel
theorem d_MD_nameAt_15 : decode c_MD_nameAt 15 = .ok (.aload_n 0, 1) := by decide +kernel
theorem d_MD_nameAt_16 : decode c_MD_nameAt 16 = .ok (.iload_n 1, 1) := by decide +kernel
theorem d_MD_nameAt_17 : decode c_MD_nameAt 17 = .ok (.iload_n 2, 1) := by decide +kernel
theorem d_MD_nameAt_18 : decode c_MD_nameAt 18 = .ok (.iadd, 1) := by decide +kernel
theorem d_MD_nameAt_19 : decode c_MD_nameAt 19 = .ok (.invokevirtual 98, 3) := by decide +kernel
theorem d_MD_nameAt_22 : decode c_MD_nameAt 22 = .ok (.invokestatic 102, 3) := by decide +kernel
theorem d_MD_nameAt_25 : decode c_MD_nameAt 25 = .ok (.ifCond .ne 16, 3) := by decide +kernel
theorem d_MD_nameAt_28 : decode c_MD_nameAt 28 = .ok (.aload_n 0, 1) := by decide +kernel
theorem d_MD_nameAt_29 : decode c_MD_nameAt 29 = .ok (.iload_n 1, 1) := by decide +kernel
theorem d_MD_nameAt_30 : decode c_MD_nameAt 30 = .ok (.iload_n 2, 1) := by decide +kernel
theorem d_MD_nameAt_31 : decode c_MD_nameAt 31 = .ok (.iadd, 1) := by decide +kernel
theorem d_MD_nameAt_32 : decode c_MD_nameAt 32 = .ok (.invokevirtual 98, 3) := by decide +kernel
theorem d_MD_nameAt_35 : decode c_MD_nameAt 35 = .ok (.invokestatic 106, 3) := by decide +kernel
theorem d_MD_nameAt_38 : decode c_MD_nameAt 38 = .ok (.ifCond .eq 9, 3) := by decide +kernel
theorem d_MD_nameAt_41 : decode c_MD_nameAt 41 = .ok (.iinc 2 1, 3) := by decide +kernel
theorem d_MD_nameAt_44 : decode c_MD_nameAt 44 = .ok (.goto (-29), 3) := by decide +kernel
theorem d_MD_nameAt_47 : decode c_MD_nameAt 47 = .ok (.iload_n 2, 1) := by decide +kernel
theorem d_MD_nameAt_48 : decode c_MD_nameAt 48 = .ok (.bipush 8, 2) := by decide +kernel
theorem d_MD_nameAt_50 : decode c_MD_nameAt 50 = .ok (.if_icmp .le 7, 3) := by decide +kernel
theorem d_MD_nameAt_53 : decode c_MD_nameAt 53 = .ok (.iconst 0, 1) := by decide +kernel
theorem d_MD_nameAt_54 : decode c_MD_nameAt 54 = .ok (.goto 4, 3) := by decide +kernel
theorem d_MD_nameAt_57 : decode c_MD_nameAt 57 = .ok (.iload_n 2, 1) := by decide +kernel
theorem d_MD_nameAt_58 : decode c_MD_nameAt 58 = .ok (.ireturn, 1) := by decide +kernel
theorem d_MD_find_0 : decode c_MD_find 0 = .ok (.iconst 0, 1) := by decide +kernel
theorem d_MD_find_1 : decode c_MD_find 1 = .ok (.istore_n 3, 1) := by decide +kernel
theorem d_MD_find_2 : decode c_MD_find 2 = .ok (.iload_n 3, 1) := by decide +kernel
theorem d_MD_find_3 : decode c_MD_find 3 = .ok (.aload_n 0, 1) := by decide +kernel
theorem d_MD_find_4 : decode c_MD_find 4 = .ok (.getfield 109, 3) := by decide +kernel
theorem d_MD_find_7 : decode c_MD_find 7 = .ok (.if_icmp .ge 86, 3) := by decide +kernel
theorem d_MD_find_10 : decode c_MD_find 10 = .ok (.aload_n 0, 1) := by decide +kernel
theorem d_MD_find_11 : decode c_MD_find 11 = .ok (.getfield 83, 3) := by decide +kernel
theorem d_MD_find_14 : decode c_MD_find 14 = .ok (.iload_n 3, 1) := by decide +kernel
theorem d_MD_find_15 : decode c_MD_find 15 = .ok (.iaload, 1) := by decide +kernel
theorem d_MD_find_16 : decode c_MD_find 16 = .ok (.iload_n 2, 1) := by decide +kernel
theorem d_MD_find_17 : decode c_MD_find 17 = .ok (.if_icmp .ne 7, 3) := by decide +kernel
theorem d_MD_find_20 : decode c_MD_find 20 = .ok (.iconst 1, 1) := by decide +kernel
theorem d_MD_find_21 : decode c_MD_find 21 = .ok (.goto 4, 3) := by decide +kernel
theorem d_MD_find_24 : decode c_MD_find 24 = .ok (.iconst 0, 1) := by decide +kernel
theorem d_MD_find_25 : decode c_MD_find 25 = .ok (.istore 4, 2) := by decide +kernel
theorem d_MD_find_27 : decode c_MD_find 27 = .ok (.iconst 0, 1) := by decide +kernel
theorem d_MD_find_28 : decode c_MD_find 28 = .ok (.istore 5, 2) := by decide +kernel
theorem d_MD_find_30 : decode c_MD_find 30 = .ok (.iload 5, 2) := by decide +kernel
theorem d_MD_find_32 : decode c_MD_find 32 = .ok (.iload_n 2, 1) := by decide +kernel
theorem d_MD_find_33 : decode c_MD_find 33 = .ok (.if_icmp .ge 47, 3) := by decide +kernel
theorem d_MD_find_36 : decode c_MD_find 36 = .ok (.iload 4, 2) := by decide +kernel
theorem d_MD_find_38 : decode c_MD_find 38 = .ok (.ifCond .eq 42, 3) := by decide +kernel
theorem d_MD_find_41 : decode c_MD_find 41 = .ok (.aload_n 0, 1) := by decide +kernel
theorem d_MD_find_42 : decode c_MD_find 42 = .ok (.getfield 11, 3) := by decide +kernel
theorem d_MD_find_45 : decode c_MD_find 45 = .ok (.aload_n 0, 1) := by decide +kernel
theorem d_MD_find_46 : decode c_MD_find 46 = .ok (.getfield 80, 3) := by decide +kernel
theorem d_MD_find_49 : decode c_MD_find 49 = .ok (.iload_n 3, 1) := by decide +kernel
theorem d_MD_find_50 : decode c_MD_find 50 = .ok (.iaload, 1) := by decide +kernel
theorem d_MD_find_51 : decode c_MD_find 51 = .ok (.iload 5, 2) := by decide +kernel
theorem d_MD_find_53 : decode c_MD_find 53 = .ok (.iadd, 1) := by decide +kernel
theorem d_MD_find_54 : decode c_MD_find 54 = .ok (.baload, 1) := by decide +kernel
theorem d_MD_find_55 : decode c_MD_find 55 = .ok (.aload_n 0, 1) := by decide +kernel
theorem d_MD_find_56 : decode c_MD_find 56 = .ok (.getfield 11, 3) := by decide +kernel
theorem d_MD_find_59 : decode c_MD_find 59 = .ok (.iload_n 1, 1) := by decide +kernel
theorem d_MD_find_60 : decode c_MD_find 60 = .ok (.iload 5, 2) := by decide +kernel
theorem d_MD_find_62 : decode c_MD_find 62 = .ok (.iadd, 1) := by decide +kernel
theorem d_MD_find_63 : decode c_MD_find 63 = .ok (.baload, 1) := by decide +kernel
theorem d_MD_find_64 : decode c_MD_find 64 = .ok (.if_icmp .ne 7, 3) := by decide +kernel
theorem d_MD_find_67 : decode c_MD_find 67 = .ok (.iconst 1, 1) := by decide +kernel
theorem d_MD_find_68 : decode c_MD_find 68 = .ok (.goto 4, 3) := by decide +kernel
theorem d_MD_find_71 : decode c_MD_find 71 = .ok (.iconst 0, 1) := by decide +kernel
theorem d_MD_find_72 : decode c_MD_find 72 = .ok (.istore 4, 2) := by decide +kernel
theorem d_MD_find_74 : decode c_MD_find 74 = .ok (.iinc 5 1, 3) := by decide +kernel
theorem d_MD_find_77 : decode c_MD_find 77 = .ok (.goto (-47), 3) := by decide +kernel
theorem d_MD_find_80 : decode c_MD_find 80 = .ok (.iload 4, 2) := by decide +kernel
theorem d_MD_find_82 : decode c_MD_find 82 = .ok (.ifCond .eq 5, 3) := by decide +kernel
theorem d_MD_find_85 : decode c_MD_find 85 = .ok (.iload_n 3, 1) := by decide +kernel
theorem d_MD_find_86 : decode c_MD_find 86 = .ok (.ireturn, 1) := by decide +kernel
theorem d_MD_find_87 : decode c_MD_find 87 = .ok (.iinc 3 1, 3) := by decide +kernel
theorem d_MD_find_90 : decode c_MD_find 90 = .ok (.goto (-88), 3) := by decide +kernel
theorem d_MD_find_93 : decode c_MD_find 93 = .ok (.iconst (-1), 1) := by decide +kernel
theorem d_MD_find_94 : decode c_MD_find 94 = .ok (.ireturn, 1) := by decide +kernel
theorem d_MD_order_0 : decode c_MD_order 0 = .ok (.aload_n 0, 1) := by decide +kernel
theorem d_MD_order_1 : decode c_MD_order 1 = .ok (.getfield 95, 3) := by decide +kernel
theorem d_MD_order_4 : decode c_MD_order 4 = .ok (.istore_n 1, 1) := by decide +kernel
theorem d_MD_order_5 : decode c_MD_order 5 = .ok (.aload_n 0, 1) := by decide +kernel
theorem d_MD_order_6 : decode c_MD_order 6 = .ok (.aload_n 0, 1) := by decide +kernel
theorem d_MD_order_7 : decode c_MD_order 7 = .ok (.getfield 95, 3) := by decide +kernel
theorem d_MD_order_10 : decode c_MD_order 10 = .ok (.invokevirtual 98, 3) := by decide +kernel
theorem d_MD_order_13 : decode c_MD_order 13 = .ok (.invokestatic 112, 3) := by decide +kernel
theorem d_MD_order_16 : decode c_MD_order 16 = .ok (.ifCond .eq 16, 3) := by decide +kernel
theorem d_MD_order_19 : decode c_MD_order 19 = .ok (.aload_n 0, 1) := by decide +kernel
theorem d_MD_order_20 : decode c_MD_order 20 = .ok (.dup, 1) := by decide +kernel
theorem d_MD_order_21 : decode c_MD_order 21 = .ok (.getfield 95, 3) := by decide +kernel
theorem d_MD_order_24 : decode c_MD_order 24 = .ok (.iconst 1, 1) := by decide +kernel
theorem d_MD_order_25 : decode c_MD_order 25 = .ok (.iadd, 1) := by decide +kernel
theorem d_MD_order_26 : decode c_MD_order 26 = .ok (.putfield 95, 3) := by decide +kernel
theorem d_MD_order_29 : decode c_MD_order 29 = .ok (.goto (-24), 3) := by decide +kernel
theorem d_MD_order_32 : decode c_MD_order 32 = .ok (.aload_n 0, 1) := by decide +kernel
theorem d_MD_order_33 : decode c_MD_order 33 = .ok (.getfield 95, 3) := by decide +kernel
theorem d_MD_order_36 : decode c_MD_order 36 = .ok (.iload_n 1, 1) := by decide +kernel
theorem d_MD_order_37 : decode c_MD_order 37 = .ok (.isub, 1) := by decide +kernel
theorem d_MD_order_38 : decode c_MD_order 38 = .ok (.istore_n 2, 1) := by decide +kernel
theorem d_MD_order_39 : decode c_MD_order 39 = .ok (.iconst 0, 1) := by decide +kernel
theorem d_MD_order_40 : decode c_MD_order 40 = .ok (.istore_n 3, 1) := by decide +kernel
theorem d_MD_order_41 : decode c_MD_order 41 = .ok (.iload_n 3, 1) := by decide +kernel
theorem d_MD_order_42 : decode c_MD_order 42 = .ok (.bipush 28, 2) := by decide +kernel
theorem d_MD_order_44 : decode c_MD_order 44 = .ok (.if_icmp .ge 104, 3) := by decide +kernel
theorem d_MD_order_47 : decode c_MD_order 47 = .ok (.iload_n 3, 1) := by decide +kernel
theorem d_MD_order_48 : decode c_MD_order 48 = .ok (.invokestatic 115, 3) := by decide +kernel
theorem d_MD_order_51 : decode c_MD_order 51 = .ok (.lstore 4, 2) := by decide +kernel
theorem d_MD_order_53 : decode c_MD_order 53 = .ok (.iconst 1, 1) := by decide +kernel
theorem d_MD_order_54 : decode c_MD_order 54 = .ok (.istore 6, 2) := by decide +kernel
theorem d_MD_order_56 : decode c_MD_order 56 = .ok (.iconst 0, 1) := by decide +kernel
theorem d_MD_order_57 : decode c_MD_order 57 = .ok (.istore 7, 2) := by decide +kernel
theorem d_MD_order_59 : decode c_MD_order 59 = .ok (.bipush 40, 2) := by decide +kernel
theorem d_MD_order_61 : decode c_MD_order 61 = .ok (.istore 8, 2) := by decide +kernel
theorem d_MD_order_63 : decode c_MD_order 63 = .ok (.iload 8, 2) := by decide +kernel
theorem d_MD_order_65 : decode c_MD_order 65 = .ok (.ifCond .lt 64, 3) := by decide +kernel
theorem d_MD_order_68 : decode c_MD_order 68 = .ok (.iload 6, 2) := by decide +kernel
theorem d_MD_order_70 : decode c_MD_order 70 = .ok (.ifCond .eq 59, 3) := by decide +kernel
theorem d_MD_order_73 : decode c_MD_order 73 = .ok (.lload 4, 2) := by decide +kernel
theorem d_MD_order_75 : decode c_MD_order 75 = .ok (.iload 8, 2) := by decide +kernel
theorem d_MD_order_77 : decode c_MD_order 77 = .ok (.lshr, 1) := by decide +kernel
theorem d_MD_order_78 : decode c_MD_order 78 = .ok (.ldc2_w 119, 3) := by decide +kernel
theorem d_MD_order_81 : decode c_MD_order 81 = .ok (.land, 1) := by decide +kernel
theorem d_MD_order_82 : decode c_MD_order 82 = .ok (.l2i, 1) := by decide +kernel
theorem d_MD_order_83 : decode c_MD_order 83 = .ok (.istore 9, 2) := by decide +kernel
theorem d_MD_order_85 : decode c_MD_order 85 = .ok (.iload 9, 2) := by decide +kernel
theorem d_MD_order_87 : decode c_MD_order 87 = .ok (.ifCond .ne 6, 3) := by decide +kernel
theorem d_MD_order_90 : decode c_MD_order 90 = .ok (.goto 33, 3) := by decide +kernel
theorem d_MD_order_93 : decode c_MD_order 93 = .ok (.iload 7, 2) := by decide +kernel
theorem d_MD_order_95 : decode c_MD_order 95 = .ok (.iload_n 2, 1) := by decide +kernel
theorem d_MD_order_96 : decode c_MD_order 96 = .ok (.if_icmp .ge 21, 3) := by decide +kernel
theorem d_MD_order_99 : decode c_MD_order 99 = .ok (.aload_n 0, 1) := by decide +kernel
theorem d_MD_order_100 : decode c_MD_order 100 = .ok (.getfield 11, 3) := by decide +kernel
theorem d_MD_order_103 : decode c_MD_order 103 = .ok (.iload_n 1, 1) := by decide +kernel
theorem d_MD_order_104 : decode c_MD_order 104 = .ok (.iload 7, 2) := by decide +kernel
theorem d_MD_order_106 : decode c_MD_order 106 = .ok (.iadd, 1) := by decide +kernel
theorem d_MD_order_107 : decode c_MD_order 107 = .ok (.baload, 1) := by decide +kernel
theorem d_MD_order_108 : decode c_MD_order 108 = .ok (.iload 9, 2) := by decide +kernel
theorem d_MD_order_110 : decode c_MD_order 110 = .ok (.if_icmp .ne 7, 3) := by decide +kernel
theorem d_MD_order_113 : decode c_MD_order 113 = .ok (.iconst 1, 1) := by decide +kernel
theorem d_MD_order_114 : decode c_MD_order 114 = .ok (.goto 4, 3) := by decide +kernel
theorem d_MD_order_117 : decode c_MD_order 117 = .ok (.iconst 0, 1) := by decide +kernel
theorem d_MD_order_118 : decode c_MD_order 118 = .ok (.istore 6, 2) := by decide +kernel
theorem d_MD_order_120 : decode c_MD_order 120 = .ok (.iinc 7 1, 3) := by decide +kernel
theorem d_MD_order_123 : decode c_MD_order 123 = .ok (.iinc 8 (-8), 3) := by decide +kernel
theorem d_MD_order_126 : decode c_MD_order 126 = .ok (.goto (-63), 3) := by decide +kernel
theorem d_MD_order_129 : decode c_MD_order 129 = .ok (.iload 6, 2) := by decide +kernel
theorem d_MD_order_131 : decode c_MD_order 131 = .ok (.ifCond .eq 11, 3) := by decide +kernel
theorem d_MD_order_134 : decode c_MD_order 134 = .ok (.iload 7, 2) := by decide +kernel
theorem d_MD_order_136 : decode c_MD_order 136 = .ok (.iload_n 2, 1) := by decide +kernel
theorem d_MD_order_137 : decode c_MD_order 137 = .ok (.if_icmp .ne 5, 3) := by decide +kernel
theorem d_MD_order_140 : decode c_MD_order 140 = .ok (.iload_n 3, 1) := by decide +kernel
theorem d_MD_order_141 : decode c_MD_order 141 = .ok (.ireturn, 1) := by decide +kernel
theorem d_MD_order_142 : decode c_MD_order 142 = .ok (.iinc 3 1, 3) := by decide +kernel
theorem d_MD_order_145 : decode c_MD_order 145 = .ok (.goto (-104), 3) := by decide +kernel
theorem d_MD_order_148 : decode c_MD_order 148 = .ok (.iconst (-1), 1) := by decide +kernel
theorem d_MD_order_149 : decode c_MD_order 149 = .ok (.ireturn, 1) := by decide +kernel
theorem d_MD_name_0 : decode c_MD_name 0 = .ok (.iload_n 0, 1) := by decide +kernel
theorem d_MD_name_1 : decode c_MD_name 1 = .ok (.tableswitch 231 0 26 #[123, 127, 131, 135, 139, 143, 147, 151, 155, 159, 163, 167, 171, 175, 179, 183, 187, 191, 195, 199, 203, 207, 211, 215, 219, 223, 227], 123) := by decide +kernel
theorem d_MD_name_124 : decode c_MD_name 124 = .ok (.ldc2_w 121, 3) := by decide +kernel
theorem d_MD_name_127 : decode c_MD_name 127 = .ok (.lreturn, 1) := by decide +kernel
theorem d_MD_name_128 : decode c_MD_name 128 = .ok (.ldc2_w 123, 3) := by decide +kernel
theorem d_MD_name_131 : decode c_MD_name 131 = .ok (.lreturn, 1) := by decide +kernel
theorem d_MD_name_132 : decode c_MD_name 132 = .ok (.ldc2_w 125, 3) := by decide +kernel
theorem d_MD_name_135 : decode c_MD_name 135 = .ok (.lreturn, 1) := by decide +kernel
theorem d_MD_name_136 : decode c_MD_name 136 = .ok (.ldc2_w 127, 3) := by decide +kernel
theorem d_MD_name_139 : decode c_MD_name 139 = .ok (.lreturn, 1) := by decide +kernel
theorem d_MD_name_140 : decode c_MD_name 140 = .ok (.ldc2_w 129, 3) := by decide +kernel
theorem d_MD_name_143 : decode c_MD_name 143 = .ok (.lreturn, 1) := by decide +kernel
theorem d_MD_name_144 : decode c_MD_name 144 = .ok (.ldc2_w 131, 3) := by decide +kernel
theorem d_MD_name_147 : decode c_MD_name 147 = .ok (.lreturn, 1) := by decide +kernel
theorem d_MD_name_148 : decode c_MD_name 148 = .ok (.ldc2_w 133, 3) := by decide +kernel
theorem d_MD_name_151 : decode c_MD_name 151 = .ok (.lreturn, 1) := by decide +kernel
theorem d_MD_name_152 : decode c_MD_name 152 = .ok (.ldc2_w 135, 3) := by decide +kernel
theorem d_MD_name_155 : decode c_MD_name 155 = .ok (.lreturn, 1) := by decide +kernel
theorem d_MD_name_156 : decode c_MD_name 156 = .ok (.ldc2_w 137, 3) := by decide +kernel
theorem d_MD_name_159 : decode c_MD_name 159 = .ok (.lreturn, 1) := by decide +kernel
theorem d_MD_name_160 : decode c_MD_name 160 = .ok (.ldc2_w 139, 3) := by decide +kernel
theorem d_MD_name_163 : decode c_MD_name 163 = .ok (.lreturn, 1) := by decide +kernel
theorem d_MD_name_164 : decode c_MD_name 164 = .ok (.ldc2_w 141, 3) := by decide +kernel
theorem d_MD_name_167 : decode c_MD_name 167 = .ok (.lreturn, 1) := by decide +kernel
theorem d_MD_name_168 : decode c_MD_name 168 = .ok (.ldc2_w 143, 3) := by decide +kernel
theorem d_MD_name_171 : decode c_MD_name 171 = .ok (.lreturn, 1) := by decide +kernel
theorem d_MD_name_172 : decode c_MD_name 172 = .ok (.ldc2_w 145, 3) := by decide +kernel
theorem d_MD_name_175 : decode c_MD_name 175 = .ok (.lreturn, 1) := by decide +kernel
theorem d_MD_name_176 : decode c_MD_name 176 = .ok (.ldc2_w 147, 3) := by decide +kernel
theorem d_MD_name_179 : decode c_MD_name 179 = .ok (.lreturn, 1) := by decide +kernel
theorem d_MD_name_180 : decode c_MD_name 180 = .ok (.ldc2_w 149, 3) := by decide +kernel
theorem d_MD_name_183 : decode c_MD_name 183 = .ok (.lreturn, 1) := by decide +kernel
theorem d_MD_name_184 : decode c_MD_name 184 = .ok (.ldc2_w 151, 3) := by decide +kernel
theorem d_MD_name_187 : decode c_MD_name 187 = .ok (.lreturn, 1) := by decide +kernel
theorem d_MD_name_188 : decode c_MD_name 188 = .ok (.ldc2_w 153, 3) := by decide +kernel
theorem d_MD_name_191 : decode c_MD_name 191 = .ok (.lreturn, 1) := by decide +kernel
theorem d_MD_name_192 : decode c_MD_name 192 = .ok (.ldc2_w 155, 3) := by decide +kernel
theorem d_MD_name_195 : decode c_MD_name 195 = .ok (.lreturn, 1) := by decide +kernel
theorem d_MD_name_196 : decode c_MD_name 196 = .ok (.ldc2_w 157, 3) := by decide +kernel
theorem d_MD_name_199 : decode c_MD_name 199 = .ok (.lreturn, 1) := by decide +kernel
theorem d_MD_name_200 : decode c_MD_name 200 = .ok (.ldc2_w 159, 3) := by decide +kernel
theorem d_MD_name_203 : decode c_MD_name 203 = .ok (.lreturn, 1) := by decide +kernel
theorem d_MD_name_204 : decode c_MD_name 204 = .ok (.ldc2_w 161, 3) := by decide +kernel
theorem d_MD_name_207 : decode c_MD_name 207 = .ok (.lreturn, 1) := by decide +kernel
theorem d_MD_name_208 : decode c_MD_name 208 = .ok (.ldc2_w 163, 3) := by decide +kernel
theorem d_MD_name_211 : decode c_MD_name 211 = .ok (.lreturn, 1) := by decide +kernel
theorem d_MD_name_212 : decode c_MD_name 212 = .ok (.ldc2_w 165, 3) := by decide +kernel
theorem d_MD_name_215 : decode c_MD_name 215 = .ok (.lreturn, 1) := by decide +kernel
theorem d_MD_name_216 : decode c_MD_name 216 = .ok (.ldc2_w 167, 3) := by decide +kernel
theorem d_MD_name_219 : decode c_MD_name 219 = .ok (.lreturn, 1) := by decide +kernel
theorem d_MD_name_220 : decode c_MD_name 220 = .ok (.ldc2_w 169, 3) := by decide +kernel
theorem d_MD_name_223 : decode c_MD_name 223 = .ok (.lreturn, 1) := by decide +kernel
theorem d_MD_name_224 : decode c_MD_name 224 = .ok (.ldc2_w 171, 3) := by decide +kernel
theorem d_MD_name_227 : decode c_MD_name 227 = .ok (.lreturn, 1) := by decide +kernel
theorem d_MD_name_228 : decode c_MD_name 228 = .ok (.ldc2_w 173, 3) := by decide +kernel
theorem d_MD_name_231 : decode c_MD_name 231 = .ok (.lreturn, 1) := by decide +kernel
theorem d_MD_name_232 : decode c_MD_name 232 = .ok (.ldc2_w 175, 3) := by decide +kernel
theorem d_MD_name_235 : decode c_MD_name 235 = .ok (.lreturn, 1) := by decide +kernel
theorem d_MD_gap_0 : decode c_MD_gap 0 = .ok (.aload_n 0, 1) := by decide +kernel
theorem d_MD_gap_1 : decode c_MD_gap 1 = .ok (.aload_n 0, 1) := by decide +kernel
theorem d_MD_gap_2 : decode c_MD_gap 2 = .ok (.getfield 177, 3) := by decide +kernel
theorem d_MD_gap_5 : decode c_MD_gap 5 = .ok (.ifCond .eq 20, 3) := by decide +kernel
theorem d_MD_gap_8 : decode c_MD_gap 8 = .ok (.aload_n 0, 1) := by decide +kernel
theorem d_MD_gap_9 : decode c_MD_gap 9 = .ok (.aload_n 0, 1) := by decide +kernel
theorem d_MD_gap_10 : decode c_MD_gap 10 = .ok (.getfield 95, 3) := by decide +kernel
theorem d_MD_gap_13 : decode c_MD_gap 13 = .ok (.invokevirtual 98, 3) := by decide +kernel
theorem d_MD_gap_16 : decode c_MD_gap 16 = .ok (.bipush 32, 2) := by decide +kernel
theorem d_MD_gap_18 : decode c_MD_gap 18 = .ok (.if_icmp .ne 7, 3) := by decide +kernel
theorem d_MD_gap_21 : decode c_MD_gap 21 = .ok (.iconst 1, 1) := by decide +kernel
theorem d_MD_gap_22 : decode c_MD_gap 22 = .ok (.goto 4, 3) := by decide +kernel
theorem d_MD_gap_25 : decode c_MD_gap 25 = .ok (.iconst 0, 1) := by decide +kernel
theorem d_MD_gap_26 : decode c_MD_gap 26 = .ok (.putfield 177, 3) := by decide +kernel
theorem d_MD_gap_29 : decode c_MD_gap 29 = .ok (.aload_n 0, 1) := by decide +kernel
theorem d_MD_gap_30 : decode c_MD_gap 30 = .ok (.invokevirtual 181, 3) := by decide +kernel
theorem d_MD_gap_33 : decode c_MD_gap 33 = .ok (.return_, 1) := by decide +kernel
theorem d_MD_register_0 : decode c_MD_register 0 = .ok (.aload_n 0, 1) := by decide +kernel
theorem d_MD_register_1 : decode c_MD_register 1 = .ok (.invokevirtual 184, 3) := by decide +kernel
theorem d_MD_register_4 : decode c_MD_register 4 = .ok (.aload_n 0, 1) := by decide +kernel
theorem d_MD_register_5 : decode c_MD_register 5 = .ok (.aload_n 0, 1) := by decide +kernel
theorem d_MD_register_6 : decode c_MD_register 6 = .ok (.getfield 177, 3) := by decide +kernel
theorem d_MD_register_9 : decode c_MD_register 9 = .ok (.ifCond .eq 50, 3) := by decide +kernel
theorem d_MD_register_12 : decode c_MD_register 12 = .ok (.aload_n 0, 1) := by decide +kernel
theorem d_MD_register_13 : decode c_MD_register 13 = .ok (.aload_n 0, 1) := by decide +kernel
theorem d_MD_register_14 : decode c_MD_register 14 = .ok (.getfield 95, 3) := by decide +kernel
theorem d_MD_register_17 : decode c_MD_register 17 = .ok (.invokevirtual 98, 3) := by decide +kernel
theorem d_MD_register_20 : decode c_MD_register 20 = .ok (.bipush 114, 2) := by decide +kernel
theorem d_MD_register_22 : decode c_MD_register 22 = .ok (.if_icmp .ne 37, 3) := by decide +kernel
theorem d_MD_register_25 : decode c_MD_register 25 = .ok (.aload_n 0, 1) := by decide +kernel
theorem d_MD_register_26 : decode c_MD_register 26 = .ok (.aload_n 0, 1) := by decide +kernel
theorem d_MD_register_27 : decode c_MD_register 27 = .ok (.getfield 95, 3) := by decide +kernel
theorem d_MD_register_30 : decode c_MD_register 30 = .ok (.iconst 1, 1) := by decide +kernel
theorem d_MD_register_31 : decode c_MD_register 31 = .ok (.iadd, 1) := by decide +kernel
theorem d_MD_register_32 : decode c_MD_register 32 = .ok (.invokevirtual 98, 3) := by decide +kernel
theorem d_MD_register_35 : decode c_MD_register 35 = .ok (.bipush 48, 2) := by decide +kernel
theorem d_MD_register_37 : decode c_MD_register 37 = .ok (.if_icmp .lt 22, 3) := by decide +kernel
theorem d_MD_register_40 : decode c_MD_register 40 = .ok (.aload_n 0, 1) := by decide +kernel
theorem d_MD_register_41 : decode c_MD_register 41 = .ok (.aload_n 0, 1) := by decide +kernel
theorem d_MD_register_42 : decode c_MD_register 42 = .ok (.getfield 95, 3) := by decide +kernel
theorem d_MD_register_45 : decode c_MD_register 45 = .ok (.iconst 1, 1) := by decide +kernel
theorem d_MD_register_46 : decode c_MD_register 46 = .ok (.iadd, 1) := by decide +kernel
theorem d_MD_register_47 : decode c_MD_register 47 = .ok (.invokevirtual 98, 3) := by decide +kernel
theorem d_MD_register_50 : decode c_MD_register 50 = .ok (.bipush 55, 2) := by decide +kernel
theorem d_MD_register_52 : decode c_MD_register 52 = .ok (.if_icmp .gt 7, 3) := by decide +kernel
theorem d_MD_register_55 : decode c_MD_register 55 = .ok (.iconst 1, 1) := by decide +kernel
theorem d_MD_register_56 : decode c_MD_register 56 = .ok (.goto 4, 3) := by decide +kernel
theorem d_MD_register_59 : decode c_MD_register 59 = .ok (.iconst 0, 1) := by decide +kernel
theorem d_MD_register_60 : decode c_MD_register 60 = .ok (.putfield 177, 3) := by decide +kernel
theorem d_MD_register_63 : decode c_MD_register 63 = .ok (.aload_n 0, 1) := by decide +kernel
theorem d_MD_register_64 : decode c_MD_register 64 = .ok (.getfield 177, 3) := by decide +kernel
theorem d_MD_register_67 : decode c_MD_register 67 = .ok (.ifCond .eq 19, 3) := by decide +kernel
theorem d_MD_register_70 : decode c_MD_register 70 = .ok (.aload_n 0, 1) := by decide +kernel
theorem d_MD_register_71 : decode c_MD_register 71 = .ok (.aload_n 0, 1) := by decide +kernel
theorem d_MD_register_72 : decode c_MD_register 72 = .ok (.getfield 95, 3) := by decide +kernel
theorem d_MD_register_75 : decode c_MD_register 75 = .ok (.iconst 1, 1) := by decide +kernel
theorem d_MD_register_76 : decode c_MD_register 76 = .ok (.iadd, 1) := by decide +kernel
theorem d_MD_register_77 : decode c_MD_register 77 = .ok (.invokevirtual 98, 3) := by decide +kernel
theorem d_MD_register_80 : decode c_MD_register 80 = .ok (.bipush 48, 2) := by decide +kernel
theorem d_MD_register_82 : decode c_MD_register 82 = .ok (.isub, 1) := by decide +kernel
theorem d_MD_register_83 : decode c_MD_register 83 = .ok (.goto 4, 3) := by decide +kernel
theorem d_MD_register_86 : decode c_MD_register 86 = .ok (.iconst 0, 1) := by decide +kernel
theorem d_MD_register_87 : decode c_MD_register 87 = .ok (.istore_n 1, 1) := by decide +kernel
theorem d_MD_register_88 : decode c_MD_register 88 = .ok (.aload_n 0, 1) := by decide +kernel
theorem d_MD_register_89 : decode c_MD_register 89 = .ok (.getfield 177, 3) := by decide +kernel
theorem d_MD_register_92 : decode c_MD_register 92 = .ok (.ifCond .eq 13, 3) := by decide +kernel
theorem d_MD_register_95 : decode c_MD_register 95 = .ok (.aload_n 0, 1) := by decide +kernel
theorem d_MD_register_96 : decode c_MD_register 96 = .ok (.dup, 1) := by decide +kernel
theorem d_MD_register_97 : decode c_MD_register 97 = .ok (.getfield 95, 3) := by decide +kernel
theorem d_MD_register_100 : decode c_MD_register 100 = .ok (.iconst 2, 1) := by decide +kernel
theorem d_MD_register_101 : decode c_MD_register 101 = .ok (.iadd, 1) := by decide +kernel
theorem d_MD_register_102 : decode c_MD_register 102 = .ok (.putfield 95, 3) := by decide +kernel
theorem d_MD_register_105 : decode c_MD_register 105 = .ok (.iload_n 1, 1) := by decide +kernel
theorem d_MD_register_106 : decode c_MD_register 106 = .ok (.ireturn, 1) := by decide +kernel
theorem d_MD_number_0 : decode c_MD_number 0 = .ok (.iconst 0, 1) := by decide +kernel
theorem d_MD_number_1 : decode c_MD_number 1 = .ok (.istore_n 1, 1) := by decide +kernel
theorem d_MD_number_2 : decode c_MD_number 2 = .ok (.iconst 0, 1) := by decide +kernel
theorem d_MD_number_3 : decode c_MD_number 3 = .ok (.istore_n 2, 1) := by decide +kernel
theorem d_MD_number_4 : decode c_MD_number 4 = .ok (.aload_n 0, 1) := by decide +kernel
theorem d_MD_number_5 : decode c_MD_number 5 = .ok (.aload_n 0, 1) := by decide +kernel
theorem d_MD_number_6 : decode c_MD_number 6 = .ok (.getfield 95, 3) := by decide +kernel
theorem d_MD_number_9 : decode c_MD_number 9 = .ok (.invokevirtual 98, 3) := by decide +kernel
theorem d_MD_number_12 : decode c_MD_number 12 = .ok (.invokestatic 106, 3) := by decide +kernel
theorem d_MD_number_15 : decode c_MD_number 15 = .ok (.ifCond .eq 42, 3) := by decide +kernel
theorem d_MD_number_18 : decode c_MD_number 18 = .ok (.iload_n 2, 1) := by decide +kernel
theorem d_MD_number_19 : decode c_MD_number 19 = .ok (.bipush 6, 2) := by decide +kernel
theorem d_MD_number_21 : decode c_MD_number 21 = .ok (.if_icmp .ge 20, 3) := by decide +kernel
theorem d_MD_number_24 : decode c_MD_number 24 = .ok (.bipush 10, 2) := by decide +kernel
theorem d_MD_number_26 : decode c_MD_number 26 = .ok (.iload_n 1, 1) := by decide +kernel
theorem d_MD_number_27 : decode c_MD_number 27 = .ok (.imul, 1) := by decide +kernel
theorem d_MD_number_28 : decode c_MD_number 28 = .ok (.aload_n 0, 1) := by decide +kernel
theorem d_MD_number_29 : decode c_MD_number 29 = .ok (.aload_n 0, 1) := by decide +kernel
theorem d_MD_number_30 : decode c_MD_number 30 = .ok (.getfield 95, 3) := by decide +kernel
theorem d_MD_number_33 : decode c_MD_number 33 = .ok (.invokevirtual 98, 3) := by decide +kernel
theorem d_MD_number_36 : decode c_MD_number 36 = .ok (.iadd, 1) := by decide +kernel
theorem d_MD_number_37 : decode c_MD_number 37 = .ok (.bipush 48, 2) := by decide +kernel
theorem d_MD_number_39 : decode c_MD_number 39 = .ok (.isub, 1) := by decide +kernel
theorem d_MD_number_40 : decode c_MD_number 40 = .ok (.istore_n 1, 1) := by decide +kernel
theorem d_MD_number_41 : decode c_MD_number 41 = .ok (.iinc 2 1, 3) := by decide +kernel
theorem d_MD_number_44 : decode c_MD_number 44 = .ok (.aload_n 0, 1) := by decide +kernel
theorem d_MD_number_45 : decode c_MD_number 45 = .ok (.dup, 1) := by decide +kernel
theorem d_MD_number_46 : decode c_MD_number 46 = .ok (.getfield 95, 3) := by decide +kernel
theorem d_MD_number_49 : decode c_MD_number 49 = .ok (.iconst 1, 1) := by decide +kernel
theorem d_MD_number_50 : decode c_MD_number 50 = .ok (.iadd, 1) := by decide +kernel
theorem d_MD_number_51 : decode c_MD_number 51 = .ok (.putfield 95, 3) := by decide +kernel
theorem d_MD_number_54 : decode c_MD_number 54 = .ok (.goto (-50), 3) := by decide +kernel
theorem d_MD_number_57 : decode c_MD_number 57 = .ok (.aload_n 0, 1) := by decide +kernel
theorem d_MD_number_58 : decode c_MD_number 58 = .ok (.aload_n 0, 1) := by decide +kernel
theorem d_MD_number_59 : decode c_MD_number 59 = .ok (.getfield 177, 3) := by decide +kernel
theorem d_MD_number_62 : decode c_MD_number 62 = .ok (.ifCond .eq 23, 3) := by decide +kernel
theorem d_MD_number_65 : decode c_MD_number 65 = .ok (.iload_n 2, 1) := by decide +kernel
theorem d_MD_number_66 : decode c_MD_number 66 = .ok (.ifCond .le 19, 3) := by decide +kernel
theorem d_MD_number_69 : decode c_MD_number 69 = .ok (.iload_n 2, 1) := by decide +kernel
theorem d_MD_number_70 : decode c_MD_number 70 = .ok (.bipush 6, 2) := by decide +kernel
theorem d_MD_number_72 : decode c_MD_number 72 = .ok (.if_icmp .ge 13, 3) := by decide +kernel
theorem d_MD_number_75 : decode c_MD_number 75 = .ok (.iload_n 1, 1) := by decide +kernel
theorem d_MD_number_76 : decode c_MD_number 76 = .ok (.ldc 187, 2) := by decide +kernel
theorem d_MD_number_78 : decode c_MD_number 78 = .ok (.if_icmp .ge 7, 3) := by decide +kernel
theorem d_MD_number_81 : decode c_MD_number 81 = .ok (.iconst 1, 1) := by decide +kernel
theorem d_MD_number_82 : decode c_MD_number 82 = .ok (.goto 4, 3) := by decide +kernel
theorem d_MD_number_85 : decode c_MD_number 85 = .ok (.iconst 0, 1) := by decide +kernel
theorem d_MD_number_86 : decode c_MD_number 86 = .ok (.putfield 177, 3) := by decide +kernel
theorem d_MD_number_89 : decode c_MD_number 89 = .ok (.iload_n 1, 1) := by decide +kernel
theorem d_MD_number_90 : decode c_MD_number 90 = .ok (.ireturn, 1) := by decide +kernel
theorem d_MD_value_0 : decode c_MD_value 0 = .ok (.aload_n 0, 1) := by decide +kernel
theorem d_MD_value_1 : decode c_MD_value 1 = .ok (.invokevirtual 184, 3) := by decide +kernel
theorem d_MD_value_4 : decode c_MD_value 4 = .ok (.aload_n 0, 1) := by decide +kernel
theorem d_MD_value_5 : decode c_MD_value 5 = .ok (.iconst 0, 1) := by decide +kernel
theorem d_MD_value_6 : decode c_MD_value 6 = .ok (.putfield 188, 3) := by decide +kernel
theorem d_MD_value_9 : decode c_MD_value 9 = .ok (.aload_n 0, 1) := by decide +kernel
theorem d_MD_value_10 : decode c_MD_value 10 = .ok (.iconst 0, 1) := by decide +kernel
theorem d_MD_value_11 : decode c_MD_value 11 = .ok (.putfield 191, 3) := by decide +kernel
theorem d_MD_value_14 : decode c_MD_value 14 = .ok (.aload_n 0, 1) := by decide +kernel
theorem d_MD_value_15 : decode c_MD_value 15 = .ok (.getfield 177, 3) := by decide +kernel
theorem d_MD_value_18 : decode c_MD_value 18 = .ok (.ifCond .ne 4, 3) := by decide +kernel
theorem d_MD_value_21 : decode c_MD_value 21 = .ok (.return_, 1) := by decide +kernel
theorem d_MD_value_22 : decode c_MD_value 22 = .ok (.iload_n 1, 1) := by decide +kernel
theorem d_MD_value_23 : decode c_MD_value 23 = .ok (.ifCond .ne 17, 3) := by decide +kernel
theorem d_MD_value_26 : decode c_MD_value 26 = .ok (.aload_n 0, 1) := by decide +kernel
theorem d_MD_value_27 : decode c_MD_value 27 = .ok (.aload_n 0, 1) := by decide +kernel
theorem d_MD_value_28 : decode c_MD_value 28 = .ok (.getfield 95, 3) := by decide +kernel
theorem d_MD_value_31 : decode c_MD_value 31 = .ok (.invokevirtual 98, 3) := by decide +kernel
theorem d_MD_value_34 : decode c_MD_value 34 = .ok (.invokestatic 106, 3) := by decide +kernel
theorem d_MD_value_37 : decode c_MD_value 37 = .ok (.ifCond .eq 12, 3) := by decide +kernel
theorem d_MD_value_40 : decode c_MD_value 40 = .ok (.aload_n 0, 1) := by decide +kernel
theorem d_MD_value_41 : decode c_MD_value 41 = .ok (.aload_n 0, 1) := by decide +kernel
theorem d_MD_value_42 : decode c_MD_value 42 = .ok (.invokevirtual 194, 3) := by decide +kernel
theorem d_MD_value_45 : decode c_MD_value 45 = .ok (.putfield 191, 3) := by decide +kernel
theorem d_MD_value_48 : decode c_MD_value 48 = .ok (.return_, 1) := by decide +kernel
theorem d_MD_value_49 : decode c_MD_value 49 = .ok (.aload_n 0, 1) := by decide +kernel
theorem d_MD_value_50 : decode c_MD_value 50 = .ok (.aload_n 0, 1) := by decide +kernel
theorem d_MD_value_51 : decode c_MD_value 51 = .ok (.getfield 95, 3) := by decide +kernel
theorem d_MD_value_54 : decode c_MD_value 54 = .ok (.putfield 198, 3) := by decide +kernel
theorem d_MD_value_57 : decode c_MD_value 57 = .ok (.aload_n 0, 1) := by decide +kernel
theorem d_MD_value_58 : decode c_MD_value 58 = .ok (.aload_n 0, 1) := by decide +kernel
theorem d_MD_value_59 : decode c_MD_value 59 = .ok (.aload_n 0, 1) := by decide +kernel
theorem d_MD_value_60 : decode c_MD_value 60 = .ok (.getfield 95, 3) := by decide +kernel
theorem d_MD_value_63 : decode c_MD_value 63 = .ok (.invokevirtual 201, 3) := by decide +kernel
theorem d_MD_value_66 : decode c_MD_value 66 = .ok (.putfield 188, 3) := by decide +kernel
theorem d_MD_value_69 : decode c_MD_value 69 = .ok (.aload_n 0, 1) := by decide +kernel
theorem d_MD_value_70 : decode c_MD_value 70 = .ok (.aload_n 0, 1) := by decide +kernel
theorem d_MD_value_71 : decode c_MD_value 71 = .ok (.getfield 188, 3) := by decide +kernel
theorem d_MD_value_74 : decode c_MD_value 74 = .ok (.ifCond .le 7, 3) := by decide +kernel
theorem d_MD_value_77 : decode c_MD_value 77 = .ok (.iconst 1, 1) := by decide +kernel
theorem d_MD_value_78 : decode c_MD_value 78 = .ok (.goto 4, 3) := by decide +kernel
theorem d_MD_value_81 : decode c_MD_value 81 = .ok (.iconst 0, 1) := by decide +kernel
theorem d_MD_value_82 : decode c_MD_value 82 = .ok (.putfield 177, 3) := by decide +kernel
theorem d_MD_value_85 : decode c_MD_value 85 = .ok (.aload_n 0, 1) := by decide +kernel
theorem d_MD_value_86 : decode c_MD_value 86 = .ok (.dup, 1) := by decide +kernel
theorem d_MD_value_87 : decode c_MD_value 87 = .ok (.getfield 95, 3) := by decide +kernel
theorem d_MD_value_90 : decode c_MD_value 90 = .ok (.aload_n 0, 1) := by decide +kernel
theorem d_MD_value_91 : decode c_MD_value 91 = .ok (.getfield 188, 3) := by decide +kernel
theorem d_MD_value_94 : decode c_MD_value 94 = .ok (.iadd, 1) := by decide +kernel
theorem d_MD_value_95 : decode c_MD_value 95 = .ok (.putfield 95, 3) := by decide +kernel
theorem d_MD_value_98 : decode c_MD_value 98 = .ok (.aload_n 0, 1) := by decide +kernel
theorem d_MD_value_99 : decode c_MD_value 99 = .ok (.getfield 177, 3) := by decide +kernel
theorem d_MD_value_102 : decode c_MD_value 102 = .ok (.ifCond .eq 34, 3) := by decide +kernel
theorem d_MD_value_105 : decode c_MD_value 105 = .ok (.aload_n 0, 1) := by decide +kernel
theorem d_MD_value_106 : decode c_MD_value 106 = .ok (.aload_n 0, 1) := by decide +kernel
theorem d_MD_value_107 : decode c_MD_value 107 = .ok (.getfield 95, 3) := by decide +kernel
theorem d_MD_value_110 : decode c_MD_value 110 = .ok (.invokevirtual 98, 3) := by decide +kernel
theorem d_MD_value_113 : decode c_MD_value 113 = .ok (.bipush 43, 2) := by decide +kernel
theorem d_MD_value_115 : decode c_MD_value 115 = .ok (.if_icmp .ne 21, 3) := by decide +kernel
theorem d_MD_value_118 : decode c_MD_value 118 = .ok (.aload_n 0, 1) := by decide +kernel
theorem d_MD_value_119 : decode c_MD_value 119 = .ok (.dup, 1) := by decide +kernel
theorem d_MD_value_120 : decode c_MD_value 120 = .ok (.getfield 95, 3) := by decide +kernel
theorem d_MD_value_123 : decode c_MD_value 123 = .ok (.iconst 1, 1) := by decide +kernel
theorem d_MD_value_124 : decode c_MD_value 124 = .ok (.iadd, 1) := by decide +kernel
theorem d_MD_value_125 : decode c_MD_value 125 = .ok (.putfield 95, 3) := by decide +kernel
theorem d_MD_value_128 : decode c_MD_value 128 = .ok (.aload_n 0, 1) := by decide +kernel
theorem d_MD_value_129 : decode c_MD_value 129 = .ok (.aload_n 0, 1) := by decide +kernel
theorem d_MD_value_130 : decode c_MD_value 130 = .ok (.invokevirtual 194, 3) := by decide +kernel
theorem d_MD_value_133 : decode c_MD_value 133 = .ok (.putfield 191, 3) := by decide +kernel
theorem d_MD_value_136 : decode c_MD_value 136 = .ok (.return_, 1) := by decide +kernel
theorem d_MD_valued_0 : decode c_MD_valued 0 = .ok (.aload_n 0, 1) := by decide +kernel
theorem d_MD_valued_1 : decode c_MD_valued 1 = .ok (.getfield 188, 3) := by decide +kernel
theorem d_MD_valued_4 : decode c_MD_valued 4 = .ok (.ifCond .ne 8, 3) := by decide +kernel
theorem d_MD_valued_7 : decode c_MD_valued 7 = .ok (.aload_n 0, 1) := by decide +kernel
theorem d_MD_valued_8 : decode c_MD_valued 8 = .ok (.getfield 191, 3) := by decide +kernel
theorem d_MD_valued_11 : decode c_MD_valued 11 = .ok (.ireturn, 1) := by decide +kernel
theorem d_MD_valued_12 : decode c_MD_valued 12 = .ok (.aload_n 0, 1) := by decide +kernel
theorem d_MD_valued_13 : decode c_MD_valued 13 = .ok (.aload_n 0, 1) := by decide +kernel
theorem d_MD_valued_14 : decode c_MD_valued 14 = .ok (.getfield 198, 3) := by decide +kernel
theorem d_MD_valued_17 : decode c_MD_valued 17 = .ok (.aload_n 0, 1) := by decide +kernel
theorem d_MD_valued_18 : decode c_MD_valued 18 = .ok (.getfield 188, 3) := by decide +kernel
theorem d_MD_valued_21 : decode c_MD_valued 21 = .ok (.invokevirtual 204, 3) := by decide +kernel
theorem d_MD_valued_24 : decode c_MD_valued 24 = .ok (.istore_n 1, 1) := by decide +kernel
theorem d_MD_valued_25 : decode c_MD_valued 25 = .ok (.iload_n 1, 1) := by decide +kernel
theorem d_MD_valued_26 : decode c_MD_valued 26 = .ok (.ifCond .ge 27, 3) := by decide +kernel
theorem d_MD_valued_29 : decode c_MD_valued 29 = .ok (.aload_n 0, 1) := by decide +kernel
theorem d_MD_valued_30 : decode c_MD_valued 30 = .ok (.aload_n 0, 1) := by decide +kernel
theorem d_MD_valued_31 : decode c_MD_valued 31 = .ok (.getfield 208, 3) := by decide +kernel
theorem d_MD_valued_34 : decode c_MD_valued 34 = .ok (.ifCond .ne 10, 3) := by decide +kernel
theorem d_MD_valued_37 : decode c_MD_valued 37 = .ok (.aload_n 0, 1) := by decide +kernel
theorem d_MD_valued_38 : decode c_MD_valued 38 = .ok (.getfield 211, 3) := by decide +kernel
theorem d_MD_valued_41 : decode c_MD_valued 41 = .ok (.goto 7, 3) := by decide +kernel
theorem d_MD_valued_44 : decode c_MD_valued 44 = .ok (.aload_n 0, 1) := by decide +kernel
theorem d_MD_valued_45 : decode c_MD_valued 45 = .ok (.getfield 208, 3) := by decide +kernel
theorem d_MD_valued_48 : decode c_MD_valued 48 = .ok (.putfield 208, 3) := by decide +kernel
theorem d_MD_valued_51 : decode c_MD_valued 51 = .ok (.iconst 0, 1) := by decide +kernel
theorem d_MD_valued_52 : decode c_MD_valued 52 = .ok (.ireturn, 1) := by decide +kernel
theorem d_MD_valued_53 : decode c_MD_valued 53 = .ok (.aload_n 0, 1) := by decide +kernel
theorem d_MD_valued_54 : decode c_MD_valued 54 = .ok (.getfield 86, 3) := by decide +kernel
theorem d_MD_valued_57 : decode c_MD_valued 57 = .ok (.iload_n 1, 1) := by decide +kernel
theorem d_MD_valued_58 : decode c_MD_valued 58 = .ok (.iaload, 1) := by decide +kernel
theorem d_MD_valued_59 : decode c_MD_valued 59 = .ok (.aload_n 0, 1) := by decide +kernel
theorem d_MD_valued_60 : decode c_MD_valued 60 = .ok (.getfield 191, 3) := by decide +kernel
theorem d_MD_valued_63 : decode c_MD_valued 63 = .ok (.iadd, 1) := by decide +kernel
theorem d_MD_valued_64 : decode c_MD_valued 64 = .ok (.ldc 187, 2) := by decide +kernel
theorem d_MD_valued_66 : decode c_MD_valued 66 = .ok (.irem, 1) := by decide +kernel
theorem d_MD_valued_67 : decode c_MD_valued 67 = .ok (.ireturn, 1) := by decide +kernel
theorem d_MD_put_0 : decode c_MD_put 0 = .ok (.iload_n 2, 1) := by decide +kernel
theorem d_MD_put_1 : decode c_MD_put 1 = .ok (.ifCond .eq 13, 3) := by decide +kernel
theorem d_MD_put_4 : decode c_MD_put 4 = .ok (.aload_n 0, 1) := by decide +kernel
theorem d_MD_put_5 : decode c_MD_put 5 = .ok (.getfield 89, 3) := by decide +kernel
theorem d_MD_put_8 : decode c_MD_put 8 = .ok (.aload_n 0, 1) := by decide +kernel
theorem d_MD_put_9 : decode c_MD_put 9 = .ok (.getfield 214, 3) := by decide +kernel
theorem d_MD_put_12 : decode c_MD_put 12 = .ok (.iload_n 1, 1) := by decide +kernel
theorem d_MD_put_13 : decode c_MD_put 13 = .ok (.iastore, 1) := by decide +kernel
theorem d_MD_put_14 : decode c_MD_put 14 = .ok (.aload_n 0, 1) := by decide +kernel
theorem d_MD_put_15 : decode c_MD_put 15 = .ok (.dup, 1) := by decide +kernel
theorem d_MD_put_16 : decode c_MD_put 16 = .ok (.getfield 214, 3) := by decide +kernel
theorem d_MD_put_19 : decode c_MD_put 19 = .ok (.iconst 1, 1) := by decide +kernel
theorem d_MD_put_20 : decode c_MD_put 20 = .ok (.iadd, 1) := by decide +kernel
theorem d_MD_put_21 : decode c_MD_put 21 = .ok (.putfield 214, 3) := by decide +kernel
theorem d_MD_put_24 : decode c_MD_put 24 = .ok (.return_, 1) := by decide +kernel
theorem d_MD_oneLine_0 : decode c_MD_oneLine 0 = .ok (.aload_n 0, 1) := by decide +kernel
theorem d_MD_oneLine_1 : decode c_MD_oneLine 1 = .ok (.iconst 1, 1) := by decide +kernel
theorem d_MD_oneLine_2 : decode c_MD_oneLine 2 = .ok (.putfield 177, 3) := by decide +kernel
theorem d_MD_oneLine_5 : decode c_MD_oneLine 5 = .ok (.aload_n 0, 1) := by decide +kernel
theorem d_MD_oneLine_6 : decode c_MD_oneLine 6 = .ok (.getfield 95, 3) := by decide +kernel
theorem d_MD_oneLine_9 : decode c_MD_oneLine 9 = .ok (.istore_n 3, 1) := by decide +kernel
theorem d_MD_oneLine_10 : decode c_MD_oneLine 10 = .ok (.iload_n 3, 1) := by decide +kernel
theorem d_MD_oneLine_11 : decode c_MD_oneLine 11 = .ok (.istore 4, 2) := by decide +kernel
theorem d_MD_oneLine_13 : decode c_MD_oneLine 13 = .ok (.iload 4, 2) := by decide +kernel
theorem d_MD_oneLine_15 : decode c_MD_oneLine 15 = .ok (.aload_n 0, 1) := by decide +kernel
theorem d_MD_oneLine_16 : decode c_MD_oneLine 16 = .ok (.getfield 92, 3) := by decide +kernel
theorem d_MD_oneLine_19 : decode c_MD_oneLine 19 = .ok (.if_icmp .ge 69, 3) := by decide +kernel
theorem d_MD_oneLine_22 : decode c_MD_oneLine 22 = .ok (.aload_n 0, 1) := by decide +kernel
theorem d_MD_oneLine_23 : decode c_MD_oneLine 23 = .ok (.getfield 11, 3) := by decide +kernel
theorem d_MD_oneLine_26 : decode c_MD_oneLine 26 = .ok (.iload 4, 2) := by decide +kernel
theorem d_MD_oneLine_28 : decode c_MD_oneLine 28 = .ok (.baload, 1) := by decide +kernel
theorem d_MD_oneLine_29 : decode c_MD_oneLine 29 = .ok (.bipush 10, 2) := by decide +kernel
theorem d_MD_oneLine_31 : decode c_MD_oneLine 31 = .ok (.if_icmp .eq 57, 3) := by decide +kernel
theorem d_MD_oneLine_34 : decode c_MD_oneLine 34 = .ok (.aload_n 0, 1) := by decide +kernel
theorem d_MD_oneLine_35 : decode c_MD_oneLine 35 = .ok (.aload_n 0, 1) := by decide +kernel
theorem d_MD_oneLine_36 : decode c_MD_oneLine 36 = .ok (.getfield 177, 3) := by decide +kernel
theorem d_MD_oneLine_39 : decode c_MD_oneLine 39 = .ok (.ifCond .eq 39, 3) := by decide +kernel
theorem d_MD_oneLine_42 : decode c_MD_oneLine 42 = .ok (.aload_n 0, 1) := by decide +kernel
theorem d_MD_oneLine_43 : decode c_MD_oneLine 43 = .ok (.getfield 11, 3) := by decide +kernel
theorem d_MD_oneLine_46 : decode c_MD_oneLine 46 = .ok (.iload 4, 2) := by decide +kernel
theorem d_MD_oneLine_48 : decode c_MD_oneLine 48 = .ok (.baload, 1) := by decide +kernel
theorem d_MD_oneLine_49 : decode c_MD_oneLine 49 = .ok (.sipush 255, 3) := by decide +kernel
theorem d_MD_oneLine_52 : decode c_MD_oneLine 52 = .ok (.iand, 1) := by decide +kernel
theorem d_MD_oneLine_53 : decode c_MD_oneLine 53 = .ok (.bipush 32, 2) := by decide +kernel
theorem d_MD_oneLine_55 : decode c_MD_oneLine 55 = .ok (.if_icmp .lt 23, 3) := by decide +kernel
theorem d_MD_oneLine_58 : decode c_MD_oneLine 58 = .ok (.aload_n 0, 1) := by decide +kernel
theorem d_MD_oneLine_59 : decode c_MD_oneLine 59 = .ok (.getfield 11, 3) := by decide +kernel
theorem d_MD_oneLine_62 : decode c_MD_oneLine 62 = .ok (.iload 4, 2) := by decide +kernel
theorem d_MD_oneLine_64 : decode c_MD_oneLine 64 = .ok (.baload, 1) := by decide +kernel
theorem d_MD_oneLine_65 : decode c_MD_oneLine 65 = .ok (.sipush 255, 3) := by decide +kernel
theorem d_MD_oneLine_68 : decode c_MD_oneLine 68 = .ok (.iand, 1) := by decide +kernel
theorem d_MD_oneLine_69 : decode c_MD_oneLine 69 = .ok (.bipush 127, 2) := by decide +kernel
theorem d_MD_oneLine_71 : decode c_MD_oneLine 71 = .ok (.if_icmp .ge 7, 3) := by decide +kernel
theorem d_MD_oneLine_74 : decode c_MD_oneLine 74 = .ok (.iconst 1, 1) := by decide +kernel
theorem d_MD_oneLine_75 : decode c_MD_oneLine 75 = .ok (.goto 4, 3) := by decide +kernel
theorem d_MD_oneLine_78 : decode c_MD_oneLine 78 = .ok (.iconst 0, 1) := by decide +kernel
theorem d_MD_oneLine_79 : decode c_MD_oneLine 79 = .ok (.putfield 177, 3) := by decide +kernel
theorem d_MD_oneLine_82 : decode c_MD_oneLine 82 = .ok (.iinc 4 1, 3) := by decide +kernel
theorem d_MD_oneLine_85 : decode c_MD_oneLine 85 = .ok (.goto (-72), 3) := by decide +kernel
theorem d_MD_oneLine_88 : decode c_MD_oneLine 88 = .ok (.aload_n 0, 1) := by decide +kernel
theorem d_MD_oneLine_89 : decode c_MD_oneLine 89 = .ok (.invokevirtual 181, 3) := by decide +kernel
theorem d_MD_oneLine_92 : decode c_MD_oneLine 92 = .ok (.aload_n 0, 1) := by decide +kernel
theorem d_MD_oneLine_93 : decode c_MD_oneLine 93 = .ok (.aload_n 0, 1) := by decide +kernel
theorem d_MD_oneLine_94 : decode c_MD_oneLine 94 = .ok (.getfield 95, 3) := by decide +kernel
theorem d_MD_oneLine_97 : decode c_MD_oneLine 97 = .ok (.invokevirtual 201, 3) := by decide +kernel
theorem d_MD_oneLine_100 : decode c_MD_oneLine 100 = .ok (.istore 4, 2) := by decide +kernel
theorem d_MD_oneLine_102 : decode c_MD_oneLine 102 = .ok (.aload_n 0, 1) := by decide +kernel
theorem d_MD_oneLine_103 : decode c_MD_oneLine 103 = .ok (.getfield 95, 3) := by decide +kernel
theorem d_MD_oneLine_106 : decode c_MD_oneLine 106 = .ok (.istore 5, 2) := by decide +kernel
theorem d_MD_oneLine_108 : decode c_MD_oneLine 108 = .ok (.iload 4, 2) := by decide +kernel
theorem d_MD_oneLine_110 : decode c_MD_oneLine 110 = .ok (.ifCond .le 23, 3) := by decide +kernel
theorem d_MD_oneLine_113 : decode c_MD_oneLine 113 = .ok (.aload_n 0, 1) := by decide +kernel
theorem d_MD_oneLine_114 : decode c_MD_oneLine 114 = .ok (.aload_n 0, 1) := by decide +kernel
theorem d_MD_oneLine_115 : decode c_MD_oneLine 115 = .ok (.getfield 95, 3) := by decide +kernel
theorem d_MD_oneLine_118 : decode c_MD_oneLine 118 = .ok (.iload 4, 2) := by decide +kernel
theorem d_MD_oneLine_120 : decode c_MD_oneLine 120 = .ok (.iadd, 1) := by decide +kernel
theorem d_MD_oneLine_121 : decode c_MD_oneLine 121 = .ok (.invokevirtual 98, 3) := by decide +kernel
theorem d_MD_oneLine_124 : decode c_MD_oneLine 124 = .ok (.bipush 58, 2) := by decide +kernel
theorem d_MD_oneLine_126 : decode c_MD_oneLine 126 = .ok (.if_icmp .ne 7, 3) := by decide +kernel
theorem d_MD_oneLine_129 : decode c_MD_oneLine 129 = .ok (.iconst 1, 1) := by decide +kernel
theorem d_MD_oneLine_130 : decode c_MD_oneLine 130 = .ok (.goto 4, 3) := by decide +kernel
theorem d_MD_oneLine_133 : decode c_MD_oneLine 133 = .ok (.iconst 0, 1) := by decide +kernel
theorem d_MD_oneLine_134 : decode c_MD_oneLine 134 = .ok (.istore 6, 2) := by decide +kernel
theorem d_MD_oneLine_136 : decode c_MD_oneLine 136 = .ok (.iload 6, 2) := by decide +kernel
theorem d_MD_oneLine_138 : decode c_MD_oneLine 138 = .ok (.ifCond .eq 16, 3) := by decide +kernel
theorem d_MD_oneLine_141 : decode c_MD_oneLine 141 = .ok (.aload_n 0, 1) := by decide +kernel
theorem d_MD_oneLine_142 : decode c_MD_oneLine 142 = .ok (.dup, 1) := by decide +kernel
theorem d_MD_oneLine_143 : decode c_MD_oneLine 143 = .ok (.getfield 95, 3) := by decide +kernel
theorem d_MD_oneLine_146 : decode c_MD_oneLine 146 = .ok (.iload 4, 2) := by decide +kernel
theorem d_MD_oneLine_148 : decode c_MD_oneLine 148 = .ok (.iconst 1, 1) := by decide +kernel
theorem d_MD_oneLine_149 : decode c_MD_oneLine 149 = .ok (.iadd, 1) := by decide +kernel
theorem d_MD_oneLine_150 : decode c_MD_oneLine 150 = .ok (.iadd, 1) := by decide +kernel
theorem d_MD_oneLine_151 : decode c_MD_oneLine 151 = .ok (.putfield 95, 3) := by decide +kernel
theorem d_MD_oneLine_154 : decode c_MD_oneLine 154 = .ok (.aload_n 0, 1) := by decide +kernel
theorem d_MD_oneLine_155 : decode c_MD_oneLine 155 = .ok (.invokevirtual 181, 3) := by decide +kernel
theorem d_MD_oneLine_158 : decode c_MD_oneLine 158 = .ok (.iconst (-1), 1) := by decide +kernel
theorem d_MD_oneLine_159 : decode c_MD_oneLine 159 = .ok (.istore 7, 2) := by decide +kernel
theorem d_MD_oneLine_161 : decode c_MD_oneLine 161 = .ok (.iconst 0, 1) := by decide +kernel
theorem d_MD_oneLine_162 : decode c_MD_oneLine 162 = .ok (.istore 8, 2) := by decide +kernel
theorem d_MD_oneLine_164 : decode c_MD_oneLine 164 = .ok (.iconst 0, 1) := by decide +kernel
theorem d_MD_oneLine_165 : decode c_MD_oneLine 165 = .ok (.istore 9, 2) := by decide +kernel
theorem d_MD_oneLine_167 : decode c_MD_oneLine 167 = .ok (.aload_n 0, 1) := by decide +kernel
theorem d_MD_oneLine_168 : decode c_MD_oneLine 168 = .ok (.iconst 0, 1) := by decide +kernel
theorem d_MD_oneLine_169 : decode c_MD_oneLine 169 = .ok (.putfield 188, 3) := by decide +kernel
theorem d_MD_oneLine_172 : decode c_MD_oneLine 172 = .ok (.aload_n 0, 1) := by decide +kernel
theorem d_MD_oneLine_173 : decode c_MD_oneLine 173 = .ok (.iconst 0, 1) := by decide +kernel
theorem d_MD_oneLine_174 : decode c_MD_oneLine 174 = .ok (.putfield 191, 3) := by decide +kernel
theorem d_MD_oneLine_177 : decode c_MD_oneLine 177 = .ok (.aload_n 0, 1) := by decide +kernel
theorem d_MD_oneLine_178 : decode c_MD_oneLine 178 = .ok (.invokevirtual 217, 3) := by decide +kernel
theorem d_MD_oneLine_181 : decode c_MD_oneLine 181 = .ok (.ifCond .ne 153, 3) := by decide +kernel
theorem d_MD_oneLine_184 : decode c_MD_oneLine 184 = .ok (.aload_n 0, 1) := by decide +kernel
theorem d_MD_oneLine_185 : decode c_MD_oneLine 185 = .ok (.invokevirtual 221, 3) := by decide +kernel
theorem d_MD_oneLine_188 : decode c_MD_oneLine 188 = .ok (.istore 7, 2) := by decide +kernel
theorem d_MD_oneLine_190 : decode c_MD_oneLine 190 = .ok (.aload_n 0, 1) := by decide +kernel
theorem d_MD_oneLine_191 : decode c_MD_oneLine 191 = .ok (.aload_n 0, 1) := by decide +kernel
theorem d_MD_oneLine_192 : decode c_MD_oneLine 192 = .ok (.getfield 177, 3) := by decide +kernel
theorem d_MD_oneLine_195 : decode c_MD_oneLine 195 = .ok (.ifCond .eq 12, 3) := by decide +kernel
theorem d_MD_oneLine_198 : decode c_MD_oneLine 198 = .ok (.iload 7, 2) := by decide +kernel
theorem d_MD_oneLine_200 : decode c_MD_oneLine 200 = .ok (.ifCond .lt 7, 3) := by decide +kernel
theorem d_MD_oneLine_203 : decode c_MD_oneLine 203 = .ok (.iconst 1, 1) := by decide +kernel
theorem d_MD_oneLine_204 : decode c_MD_oneLine 204 = .ok (.goto 4, 3) := by decide +kernel
theorem d_MD_oneLine_207 : decode c_MD_oneLine 207 = .ok (.iconst 0, 1) := by decide +kernel
theorem d_MD_oneLine_208 : decode c_MD_oneLine 208 = .ok (.putfield 177, 3) := by decide +kernel
theorem d_MD_oneLine_211 : decode c_MD_oneLine 211 = .ok (.aload_n 0, 1) := by decide +kernel
theorem d_MD_oneLine_212 : decode c_MD_oneLine 212 = .ok (.getfield 177, 3) := by decide +kernel
theorem d_MD_oneLine_215 : decode c_MD_oneLine 215 = .ok (.ifCond .eq 69, 3) := by decide +kernel
theorem d_MD_oneLine_218 : decode c_MD_oneLine 218 = .ok (.iload 7, 2) := by decide +kernel
theorem d_MD_oneLine_220 : decode c_MD_oneLine 220 = .ok (.bipush 25, 2) := by decide +kernel
theorem d_MD_oneLine_222 : decode c_MD_oneLine 222 = .ok (.if_icmp .ge 62, 3) := by decide +kernel
theorem d_MD_oneLine_225 : decode c_MD_oneLine 225 = .ok (.aload_n 0, 1) := by decide +kernel
theorem d_MD_oneLine_226 : decode c_MD_oneLine 226 = .ok (.getfield 77, 3) := by decide +kernel
theorem d_MD_oneLine_229 : decode c_MD_oneLine 229 = .ok (.iload 7, 2) := by decide +kernel
theorem d_MD_oneLine_231 : decode c_MD_oneLine 231 = .ok (.iaload, 1) := by decide +kernel
theorem d_MD_oneLine_232 : decode c_MD_oneLine 232 = .ok (.iconst 1, 1) := by decide +kernel
theorem d_MD_oneLine_233 : decode c_MD_oneLine 233 = .ok (.iand, 1) := by decide +kernel
theorem d_MD_oneLine_234 : decode c_MD_oneLine 234 = .ok (.iconst 1, 1) := by decide +kernel
theorem d_MD_oneLine_235 : decode c_MD_oneLine 235 = .ok (.if_icmp .ne 9, 3) := by decide +kernel
theorem d_MD_oneLine_238 : decode c_MD_oneLine 238 = .ok (.aload_n 0, 1) := by decide +kernel
theorem d_MD_oneLine_239 : decode c_MD_oneLine 239 = .ok (.invokevirtual 224, 3) := by decide +kernel
theorem d_MD_oneLine_242 : decode c_MD_oneLine 242 = .ok (.istore 8, 2) := by decide +kernel
theorem d_MD_oneLine_244 : decode c_MD_oneLine 244 = .ok (.aload_n 0, 1) := by decide +kernel
theorem d_MD_oneLine_245 : decode c_MD_oneLine 245 = .ok (.getfield 77, 3) := by decide +kernel
theorem d_MD_oneLine_248 : decode c_MD_oneLine 248 = .ok (.iload 7, 2) := by decide +kernel
theorem d_MD_oneLine_250 : decode c_MD_oneLine 250 = .ok (.iaload, 1) := by decide +kernel
theorem d_MD_oneLine_251 : decode c_MD_oneLine 251 = .ok (.iconst 2, 1) := by decide +kernel
theorem d_MD_oneLine_252 : decode c_MD_oneLine 252 = .ok (.iand, 1) := by decide +kernel
theorem d_MD_oneLine_253 : decode c_MD_oneLine 253 = .ok (.iconst 2, 1) := by decide +kernel
theorem d_MD_oneLine_254 : decode c_MD_oneLine 254 = .ok (.if_icmp .ne 9, 3) := by decide +kernel
theorem d_MD_oneLine_257 : decode c_MD_oneLine 257 = .ok (.aload_n 0, 1) := by decide +kernel
theorem d_MD_oneLine_258 : decode c_MD_oneLine 258 = .ok (.invokevirtual 224, 3) := by decide +kernel
theorem d_MD_oneLine_261 : decode c_MD_oneLine 261 = .ok (.istore 9, 2) := by decide +kernel
theorem d_MD_oneLine_263 : decode c_MD_oneLine 263 = .ok (.aload_n 0, 1) := by decide +kernel
theorem d_MD_oneLine_264 : decode c_MD_oneLine 264 = .ok (.getfield 77, 3) := by decide +kernel
theorem d_MD_oneLine_267 : decode c_MD_oneLine 267 = .ok (.iload 7, 2) := by decide +kernel
theorem d_MD_oneLine_269 : decode c_MD_oneLine 269 = .ok (.iaload, 1) := by decide +kernel
theorem d_MD_oneLine_270 : decode c_MD_oneLine 270 = .ok (.iconst 4, 1) := by decide +kernel
theorem d_MD_oneLine_271 : decode c_MD_oneLine 271 = .ok (.iand, 1) := by decide +kernel
theorem d_MD_oneLine_272 : decode c_MD_oneLine 272 = .ok (.iconst 4, 1) := by decide +kernel
theorem d_MD_oneLine_273 : decode c_MD_oneLine 273 = .ok (.if_icmp .ne 34, 3) := by decide +kernel
theorem d_MD_oneLine_276 : decode c_MD_oneLine 276 = .ok (.aload_n 0, 1) := by decide +kernel
theorem d_MD_oneLine_277 : decode c_MD_oneLine 277 = .ok (.iconst 0, 1) := by decide +kernel
theorem d_MD_oneLine_278 : decode c_MD_oneLine 278 = .ok (.invokevirtual 226, 3) := by decide +kernel
theorem d_MD_oneLine_281 : decode c_MD_oneLine 281 = .ok (.goto 26, 3) := by decide +kernel
theorem d_MD_oneLine_284 : decode c_MD_oneLine 284 = .ok (.aload_n 0, 1) := by decide +kernel
theorem d_MD_oneLine_285 : decode c_MD_oneLine 285 = .ok (.getfield 177, 3) := by decide +kernel
theorem d_MD_oneLine_288 : decode c_MD_oneLine 288 = .ok (.ifCond .eq 19, 3) := by decide +kernel
theorem d_MD_oneLine_291 : decode c_MD_oneLine 291 = .ok (.aload_n 0, 1) := by decide +kernel
theorem d_MD_oneLine_292 : decode c_MD_oneLine 292 = .ok (.iload 7, 2) := by decide +kernel
theorem d_MD_oneLine_294 : decode c_MD_oneLine 294 = .ok (.bipush 25, 2) := by decide +kernel
theorem d_MD_oneLine_296 : decode c_MD_oneLine 296 = .ok (.if_icmp .le 7, 3) := by decide +kernel
theorem d_MD_oneLine_299 : decode c_MD_oneLine 299 = .ok (.iconst 1, 1) := by decide +kernel
theorem d_MD_oneLine_300 : decode c_MD_oneLine 300 = .ok (.goto 4, 3) := by decide +kernel
theorem d_MD_oneLine_303 : decode c_MD_oneLine 303 = .ok (.iconst 0, 1) := by decide +kernel
theorem d_MD_oneLine_304 : decode c_MD_oneLine 304 = .ok (.invokevirtual 226, 3) := by decide +kernel
theorem d_MD_oneLine_307 : decode c_MD_oneLine 307 = .ok (.aload_n 0, 1) := by decide +kernel
theorem d_MD_oneLine_308 : decode c_MD_oneLine 308 = .ok (.invokevirtual 181, 3) := by decide +kernel
theorem d_MD_oneLine_311 : decode c_MD_oneLine 311 = .ok (.aload_n 0, 1) := by decide +kernel
theorem d_MD_oneLine_312 : decode c_MD_oneLine 312 = .ok (.aload_n 0, 1) := by decide +kernel
theorem d_MD_oneLine_313 : decode c_MD_oneLine 313 = .ok (.getfield 177, 3) := by decide +kernel
theorem d_MD_oneLine_316 : decode c_MD_oneLine 316 = .ok (.ifCond .eq 14, 3) := by decide +kernel
theorem d_MD_oneLine_319 : decode c_MD_oneLine 319 = .ok (.aload_n 0, 1) := by decide +kernel
theorem d_MD_oneLine_320 : decode c_MD_oneLine 320 = .ok (.invokevirtual 217, 3) := by decide +kernel
theorem d_MD_oneLine_323 : decode c_MD_oneLine 323 = .ok (.ifCond .eq 7, 3) := by decide +kernel
theorem d_MD_oneLine_326 : decode c_MD_oneLine 326 = .ok (.iconst 1, 1) := by decide +kernel
theorem d_MD_oneLine_327 : decode c_MD_oneLine 327 = .ok (.goto 4, 3) := by decide +kernel
theorem d_MD_oneLine_330 : decode c_MD_oneLine 330 = .ok (.iconst 0, 1) := by decide +kernel
theorem d_MD_oneLine_331 : decode c_MD_oneLine 331 = .ok (.putfield 177, 3) := by decide +kernel
theorem d_MD_oneLine_334 : decode c_MD_oneLine 334 = .ok (.aload_n 0, 1) := by decide +kernel
theorem d_MD_oneLine_335 : decode c_MD_oneLine 335 = .ok (.getfield 177, 3) := by decide +kernel
theorem d_MD_oneLine_338 : decode c_MD_oneLine 338 = .ok (.ifCond .eq 26, 3) := by decide +kernel
theorem d_MD_oneLine_341 : decode c_MD_oneLine 341 = .ok (.iload 7, 2) := by decide +kernel
theorem d_MD_oneLine_343 : decode c_MD_oneLine 343 = .ok (.bipush 27, 2) := by decide +kernel
theorem d_MD_oneLine_345 : decode c_MD_oneLine 345 = .ok (.if_icmp .ne 19, 3) := by decide +kernel
theorem d_MD_oneLine_348 : decode c_MD_oneLine 348 = .ok (.aload_n 0, 1) := by decide +kernel
theorem d_MD_oneLine_349 : decode c_MD_oneLine 349 = .ok (.getfield 191, 3) := by decide +kernel
theorem d_MD_oneLine_352 : decode c_MD_oneLine 352 = .ok (.aload_n 0, 1) := by decide +kernel
theorem d_MD_oneLine_353 : decode c_MD_oneLine 353 = .ok (.getfield 214, 3) := by decide +kernel
theorem d_MD_oneLine_356 : decode c_MD_oneLine 356 = .ok (.if_icmp .ge 8, 3) := by decide +kernel
theorem d_MD_oneLine_359 : decode c_MD_oneLine 359 = .ok (.aload_n 0, 1) := by decide +kernel
theorem d_MD_oneLine_360 : decode c_MD_oneLine 360 = .ok (.iconst 0, 1) := by decide +kernel
theorem d_MD_oneLine_361 : decode c_MD_oneLine 361 = .ok (.putfield 177, 3) := by decide +kernel
theorem d_MD_oneLine_364 : decode c_MD_oneLine 364 = .ok (.aload_n 0, 1) := by decide +kernel
theorem d_MD_oneLine_365 : decode c_MD_oneLine 365 = .ok (.getfield 177, 3) := by decide +kernel
theorem d_MD_oneLine_368 : decode c_MD_oneLine 368 = .ok (.ifCond .ne 5, 3) := by decide +kernel
theorem d_MD_oneLine_371 : decode c_MD_oneLine 371 = .ok (.iconst 1, 1) := by decide +kernel
theorem d_MD_oneLine_372 : decode c_MD_oneLine 372 = .ok (.ireturn, 1) := by decide +kernel
theorem d_MD_oneLine_373 : decode c_MD_oneLine 373 = .ok (.iload 6, 2) := by decide +kernel
theorem d_MD_oneLine_375 : decode c_MD_oneLine 375 = .ok (.ifCond .eq 76, 3) := by decide +kernel
theorem d_MD_oneLine_378 : decode c_MD_oneLine 378 = .ok (.iload_n 2, 1) := by decide +kernel
theorem d_MD_oneLine_379 : decode c_MD_oneLine 379 = .ok (.ifCond .ne 72, 3) := by decide +kernel
theorem d_MD_oneLine_382 : decode c_MD_oneLine 382 = .ok (.aload_n 0, 1) := by decide +kernel
theorem d_MD_oneLine_383 : decode c_MD_oneLine 383 = .ok (.iload 5, 2) := by decide +kernel
theorem d_MD_oneLine_385 : decode c_MD_oneLine 385 = .ok (.iload 4, 2) := by decide +kernel
theorem d_MD_oneLine_387 : decode c_MD_oneLine 387 = .ok (.invokevirtual 204, 3) := by decide +kernel
theorem d_MD_oneLine_390 : decode c_MD_oneLine 390 = .ok (.ifCond .lt 5, 3) := by decide +kernel
theorem d_MD_oneLine_393 : decode c_MD_oneLine 393 = .ok (.iconst 2, 1) := by decide +kernel
theorem d_MD_oneLine_394 : decode c_MD_oneLine 394 = .ok (.ireturn, 1) := by decide +kernel
theorem d_MD_oneLine_395 : decode c_MD_oneLine 395 = .ok (.aload_n 0, 1) := by decide +kernel
theorem d_MD_oneLine_396 : decode c_MD_oneLine 396 = .ok (.getfield 109, 3) := by decide +kernel
theorem d_MD_oneLine_399 : decode c_MD_oneLine 399 = .ok (.bipush 100, 2) := by decide +kernel
theorem d_MD_oneLine_401 : decode c_MD_oneLine 401 = .ok (.if_icmp .ne 5, 3) := by decide +kernel
theorem d_MD_oneLine_404 : decode c_MD_oneLine 404 = .ok (.iconst 3, 1) := by decide +kernel
theorem d_MD_oneLine_405 : decode c_MD_oneLine 405 = .ok (.ireturn, 1) := by decide +kernel
theorem d_MD_oneLine_406 : decode c_MD_oneLine 406 = .ok (.aload_n 0, 1) := by decide +kernel
theorem d_MD_oneLine_407 : decode c_MD_oneLine 407 = .ok (.getfield 80, 3) := by decide +kernel
theorem d_MD_oneLine_410 : decode c_MD_oneLine 410 = .ok (.aload_n 0, 1) := by decide +kernel
theorem d_MD_oneLine_411 : decode c_MD_oneLine 411 = .ok (.getfield 109, 3) := by decide +kernel
theorem d_MD_oneLine_414 : decode c_MD_oneLine 414 = .ok (.iload 5, 2) := by decide +kernel
theorem d_MD_oneLine_416 : decode c_MD_oneLine 416 = .ok (.iastore, 1) := by decide +kernel
theorem d_MD_oneLine_417 : decode c_MD_oneLine 417 = .ok (.aload_n 0, 1) := by decide +kernel
theorem d_MD_oneLine_418 : decode c_MD_oneLine 418 = .ok (.getfield 83, 3) := by decide +kernel
theorem d_MD_oneLine_421 : decode c_MD_oneLine 421 = .ok (.aload_n 0, 1) := by decide +kernel
theorem d_MD_oneLine_422 : decode c_MD_oneLine 422 = .ok (.getfield 109, 3) := by decide +kernel
theorem d_MD_oneLine_425 : decode c_MD_oneLine 425 = .ok (.iload 4, 2) := by decide +kernel
theorem d_MD_oneLine_427 : decode c_MD_oneLine 427 = .ok (.iastore, 1) := by decide +kernel
theorem d_MD_oneLine_428 : decode c_MD_oneLine 428 = .ok (.aload_n 0, 1) := by decide +kernel
theorem d_MD_oneLine_429 : decode c_MD_oneLine 429 = .ok (.getfield 86, 3) := by decide +kernel
theorem d_MD_oneLine_432 : decode c_MD_oneLine 432 = .ok (.aload_n 0, 1) := by decide +kernel
theorem d_MD_oneLine_433 : decode c_MD_oneLine 433 = .ok (.getfield 109, 3) := by decide +kernel
theorem d_MD_oneLine_436 : decode c_MD_oneLine 436 = .ok (.aload_n 0, 1) := by decide +kernel
theorem d_MD_oneLine_437 : decode c_MD_oneLine 437 = .ok (.getfield 214, 3) := by decide +kernel
theorem d_MD_oneLine_440 : decode c_MD_oneLine 440 = .ok (.iastore, 1) := by decide +kernel
theorem d_MD_oneLine_441 : decode c_MD_oneLine 441 = .ok (.aload_n 0, 1) := by decide +kernel
theorem d_MD_oneLine_442 : decode c_MD_oneLine 442 = .ok (.dup, 1) := by decide +kernel
theorem d_MD_oneLine_443 : decode c_MD_oneLine 443 = .ok (.getfield 109, 3) := by decide +kernel
theorem d_MD_oneLine_446 : decode c_MD_oneLine 446 = .ok (.iconst 1, 1) := by decide +kernel
theorem d_MD_oneLine_447 : decode c_MD_oneLine 447 = .ok (.iadd, 1) := by decide +kernel
theorem d_MD_oneLine_448 : decode c_MD_oneLine 448 = .ok (.putfield 109, 3) := by decide +kernel
theorem d_MD_oneLine_451 : decode c_MD_oneLine 451 = .ok (.iload 7, 2) := by decide +kernel
theorem d_MD_oneLine_453 : decode c_MD_oneLine 453 = .ok (.ifCond .ge 10, 3) := by decide +kernel
theorem d_MD_oneLine_456 : decode c_MD_oneLine 456 = .ok (.aload_n 0, 1) := by decide +kernel
theorem d_MD_oneLine_457 : decode c_MD_oneLine 457 = .ok (.getfield 214, 3) := by decide +kernel
theorem d_MD_oneLine_460 : decode c_MD_oneLine 460 = .ok (.goto 58, 3) := by decide +kernel
theorem d_MD_oneLine_463 : decode c_MD_oneLine 463 = .ok (.iload 7, 2) := by decide +kernel
theorem d_MD_oneLine_465 : decode c_MD_oneLine 465 = .ok (.bipush 25, 2) := by decide +kernel
theorem d_MD_oneLine_467 : decode c_MD_oneLine 467 = .ok (.if_icmp .ge 12, 3) := by decide +kernel
theorem d_MD_oneLine_470 : decode c_MD_oneLine 470 = .ok (.aload_n 0, 1) := by decide +kernel
theorem d_MD_oneLine_471 : decode c_MD_oneLine 471 = .ok (.getfield 214, 3) := by decide +kernel
theorem d_MD_oneLine_474 : decode c_MD_oneLine 474 = .ok (.iconst 2, 1) := by decide +kernel
theorem d_MD_oneLine_475 : decode c_MD_oneLine 475 = .ok (.iadd, 1) := by decide +kernel
theorem d_MD_oneLine_476 : decode c_MD_oneLine 476 = .ok (.goto 42, 3) := by decide +kernel
theorem d_MD_oneLine_479 : decode c_MD_oneLine 479 = .ok (.iload 7, 2) := by decide +kernel
theorem d_MD_oneLine_481 : decode c_MD_oneLine 481 = .ok (.bipush 25, 2) := by decide +kernel
theorem d_MD_oneLine_483 : decode c_MD_oneLine 483 = .ok (.if_icmp .ne 12, 3) := by decide +kernel
theorem d_MD_oneLine_486 : decode c_MD_oneLine 486 = .ok (.aload_n 0, 1) := by decide +kernel
theorem d_MD_oneLine_487 : decode c_MD_oneLine 487 = .ok (.getfield 214, 3) := by decide +kernel
theorem d_MD_oneLine_490 : decode c_MD_oneLine 490 = .ok (.iconst 1, 1) := by decide +kernel
theorem d_MD_oneLine_491 : decode c_MD_oneLine 491 = .ok (.iadd, 1) := by decide +kernel
theorem d_MD_oneLine_492 : decode c_MD_oneLine 492 = .ok (.goto 26, 3) := by decide +kernel
theorem d_MD_oneLine_495 : decode c_MD_oneLine 495 = .ok (.iload 7, 2) := by decide +kernel
theorem d_MD_oneLine_497 : decode c_MD_oneLine 497 = .ok (.bipush 26, 2) := by decide +kernel
theorem d_MD_oneLine_499 : decode c_MD_oneLine 499 = .ok (.if_icmp .ne 15, 3) := by decide +kernel
theorem d_MD_oneLine_502 : decode c_MD_oneLine 502 = .ok (.aload_n 0, 1) := by decide +kernel
theorem d_MD_oneLine_503 : decode c_MD_oneLine 503 = .ok (.getfield 214, 3) := by decide +kernel
theorem d_MD_oneLine_506 : decode c_MD_oneLine 506 = .ok (.aload_n 0, 1) := by decide +kernel
theorem d_MD_oneLine_507 : decode c_MD_oneLine 507 = .ok (.getfield 191, 3) := by decide +kernel
theorem d_MD_oneLine_510 : decode c_MD_oneLine 510 = .ok (.iadd, 1) := by decide +kernel
theorem d_MD_oneLine_511 : decode c_MD_oneLine 511 = .ok (.goto 7, 3) := by decide +kernel
theorem d_MD_oneLine_514 : decode c_MD_oneLine 514 = .ok (.aload_n 0, 1) := by decide +kernel
theorem d_MD_oneLine_515 : decode c_MD_oneLine 515 = .ok (.getfield 191, 3) := by decide +kernel
theorem d_MD_oneLine_518 : decode c_MD_oneLine 518 = .ok (.istore 10, 2) := by decide +kernel
theorem d_MD_oneLine_520 : decode c_MD_oneLine 520 = .ok (.iload 10, 2) := by decide +kernel
theorem d_MD_oneLine_522 : decode c_MD_oneLine 522 = .ok (.iload_n 1, 1) := by decide +kernel
theorem d_MD_oneLine_523 : decode c_MD_oneLine 523 = .ok (.if_icmp .le 5, 3) := by decide +kernel
theorem d_MD_oneLine_526 : decode c_MD_oneLine 526 = .ok (.iconst 4, 1) := by decide +kernel
theorem d_MD_oneLine_527 : decode c_MD_oneLine 527 = .ok (.ireturn, 1) := by decide +kernel
theorem d_MD_oneLine_528 : decode c_MD_oneLine 528 = .ok (.iload 7, 2) := by decide +kernel
theorem d_MD_oneLine_530 : decode c_MD_oneLine 530 = .ok (.ifCond .lt 49, 3) := by decide +kernel
theorem d_MD_oneLine_533 : decode c_MD_oneLine 533 = .ok (.iload 7, 2) := by decide +kernel
theorem d_MD_oneLine_535 : decode c_MD_oneLine 535 = .ok (.bipush 25, 2) := by decide +kernel
theorem d_MD_oneLine_537 : decode c_MD_oneLine 537 = .ok (.if_icmp .ge 42, 3) := by decide +kernel
theorem d_MD_oneLine_540 : decode c_MD_oneLine 540 = .ok (.aload_n 0, 1) := by decide +kernel
theorem d_MD_oneLine_541 : decode c_MD_oneLine 541 = .ok (.bipush 64, 2) := by decide +kernel
theorem d_MD_oneLine_543 : decode c_MD_oneLine 543 = .ok (.iload 7, 2) := by decide +kernel
theorem d_MD_oneLine_545 : decode c_MD_oneLine 545 = .ok (.imul, 1) := by decide +kernel
theorem d_MD_oneLine_546 : decode c_MD_oneLine 546 = .ok (.bipush 8, 2) := by decide +kernel
theorem d_MD_oneLine_548 : decode c_MD_oneLine 548 = .ok (.iload 8, 2) := by decide +kernel
theorem d_MD_oneLine_550 : decode c_MD_oneLine 550 = .ok (.imul, 1) := by decide +kernel
theorem d_MD_oneLine_551 : decode c_MD_oneLine 551 = .ok (.iadd, 1) := by decide +kernel
theorem d_MD_oneLine_552 : decode c_MD_oneLine 552 = .ok (.iload 9, 2) := by decide +kernel
theorem d_MD_oneLine_554 : decode c_MD_oneLine 554 = .ok (.iadd, 1) := by decide +kernel
theorem d_MD_oneLine_555 : decode c_MD_oneLine 555 = .ok (.iload_n 2, 1) := by decide +kernel
theorem d_MD_oneLine_556 : decode c_MD_oneLine 556 = .ok (.invokevirtual 229, 3) := by decide +kernel
theorem d_MD_oneLine_559 : decode c_MD_oneLine 559 = .ok (.aload_n 0, 1) := by decide +kernel
theorem d_MD_oneLine_560 : decode c_MD_oneLine 560 = .ok (.iload_n 2, 1) := by decide +kernel
theorem d_MD_oneLine_561 : decode c_MD_oneLine 561 = .ok (.ifCond .eq 10, 3) := by decide +kernel
theorem d_MD_oneLine_564 : decode c_MD_oneLine 564 = .ok (.aload_n 0, 1) := by decide +kernel
theorem d_MD_oneLine_565 : decode c_MD_oneLine 565 = .ok (.invokevirtual 233, 3) := by decide +kernel
theorem d_MD_oneLine_568 : decode c_MD_oneLine 568 = .ok (.goto 4, 3) := by decide +kernel
theorem d_MD_oneLine_571 : decode c_MD_oneLine 571 = .ok (.iconst 0, 1) := by decide +kernel
theorem d_MD_oneLine_572 : decode c_MD_oneLine 572 = .ok (.iload_n 2, 1) := by decide +kernel
theorem d_MD_oneLine_573 : decode c_MD_oneLine 573 = .ok (.invokevirtual 229, 3) := by decide +kernel
theorem d_MD_oneLine_576 : decode c_MD_oneLine 576 = .ok (.goto 27, 3) := by decide +kernel
theorem d_MD_oneLine_579 : decode c_MD_oneLine 579 = .ok (.iload 7, 2) := by decide +kernel
theorem d_MD_oneLine_581 : decode c_MD_oneLine 581 = .ok (.bipush 25, 2) := by decide +kernel
theorem d_MD_oneLine_583 : decode c_MD_oneLine 583 = .ok (.if_icmp .ne 20, 3) := by decide +kernel
theorem d_MD_oneLine_586 : decode c_MD_oneLine 586 = .ok (.aload_n 0, 1) := by decide +kernel
theorem d_MD_oneLine_587 : decode c_MD_oneLine 587 = .ok (.iload_n 2, 1) := by decide +kernel
theorem d_MD_oneLine_588 : decode c_MD_oneLine 588 = .ok (.ifCond .eq 10, 3) := by decide +kernel
theorem d_MD_oneLine_591 : decode c_MD_oneLine 591 = .ok (.aload_n 0, 1) := by decide +kernel
theorem d_MD_oneLine_592 : decode c_MD_oneLine 592 = .ok (.invokevirtual 233, 3) := by decide +kernel
theorem d_MD_oneLine_595 : decode c_MD_oneLine 595 = .ok (.goto 4, 3) := by decide +kernel
theorem d_MD_oneLine_598 : decode c_MD_oneLine 598 = .ok (.iconst 0, 1) := by decide +kernel
theorem d_MD_oneLine_599 : decode c_MD_oneLine 599 = .ok (.iload_n 2, 1) := by decide +kernel
theorem d_MD_oneLine_600 : decode c_MD_oneLine 600 = .ok (.invokevirtual 229, 3) := by decide +kernel
theorem d_MD_oneLine_603 : decode c_MD_oneLine 603 = .ok (.aload_n 0, 1) := by decide +kernel
theorem d_MD_oneLine_604 : decode c_MD_oneLine 604 = .ok (.iload 10, 2) := by decide +kernel
theorem d_MD_oneLine_606 : decode c_MD_oneLine 606 = .ok (.putfield 214, 3) := by decide +kernel
theorem d_MD_oneLine_609 : decode c_MD_oneLine 609 = .ok (.iconst 0, 1) := by decide +kernel
theorem d_MD_oneLine_610 : decode c_MD_oneLine 610 = .ok (.ireturn, 1) := by decide +kernel
theorem d_MD_lines_0 : decode c_MD_lines 0 = .ok (.aload_n 0, 1) := by decide +kernel
theorem d_MD_lines_1 : decode c_MD_lines 1 = .ok (.iconst 0, 1) := by decide +kernel
theorem d_MD_lines_2 : decode c_MD_lines 2 = .ok (.putfield 95, 3) := by decide +kernel
theorem d_MD_lines_5 : decode c_MD_lines 5 = .ok (.aload_n 0, 1) := by decide +kernel
theorem d_MD_lines_6 : decode c_MD_lines 6 = .ok (.iconst 0, 1) := by decide +kernel
theorem d_MD_lines_7 : decode c_MD_lines 7 = .ok (.putfield 211, 3) := by decide +kernel
theorem d_MD_lines_10 : decode c_MD_lines 10 = .ok (.aload_n 0, 1) := by decide +kernel
theorem d_MD_lines_11 : decode c_MD_lines 11 = .ok (.iconst 0, 1) := by decide +kernel
theorem d_MD_lines_12 : decode c_MD_lines 12 = .ok (.putfield 214, 3) := by decide +kernel
theorem d_MD_lines_15 : decode c_MD_lines 15 = .ok (.aload_n 0, 1) := by decide +kernel
theorem d_MD_lines_16 : decode c_MD_lines 16 = .ok (.getfield 95, 3) := by decide +kernel
theorem d_MD_lines_19 : decode c_MD_lines 19 = .ok (.aload_n 0, 1) := by decide +kernel
theorem d_MD_lines_20 : decode c_MD_lines 20 = .ok (.getfield 92, 3) := by decide +kernel
theorem d_MD_lines_23 : decode c_MD_lines 23 = .ok (.if_icmp .ge 90, 3) := by decide +kernel
theorem d_MD_lines_26 : decode c_MD_lines 26 = .ok (.aload_n 0, 1) := by decide +kernel
theorem d_MD_lines_27 : decode c_MD_lines 27 = .ok (.dup, 1) := by decide +kernel
theorem d_MD_lines_28 : decode c_MD_lines 28 = .ok (.getfield 211, 3) := by decide +kernel
theorem d_MD_lines_31 : decode c_MD_lines 31 = .ok (.iconst 1, 1) := by decide +kernel
theorem d_MD_lines_32 : decode c_MD_lines 32 = .ok (.iadd, 1) := by decide +kernel
theorem d_MD_lines_33 : decode c_MD_lines 33 = .ok (.putfield 211, 3) := by decide +kernel
theorem d_MD_lines_36 : decode c_MD_lines 36 = .ok (.aload_n 0, 1) := by decide +kernel
theorem d_MD_lines_37 : decode c_MD_lines 37 = .ok (.iload_n 1, 1) := by decide +kernel
theorem d_MD_lines_38 : decode c_MD_lines 38 = .ok (.iload_n 2, 1) := by decide +kernel
theorem d_MD_lines_39 : decode c_MD_lines 39 = .ok (.invokevirtual 236, 3) := by decide +kernel
theorem d_MD_lines_42 : decode c_MD_lines 42 = .ok (.istore_n 3, 1) := by decide +kernel
theorem d_MD_lines_43 : decode c_MD_lines 43 = .ok (.iload_n 3, 1) := by decide +kernel
theorem d_MD_lines_44 : decode c_MD_lines 44 = .ok (.ifCond .le 18, 3) := by decide +kernel
theorem d_MD_lines_47 : decode c_MD_lines 47 = .ok (.aload_n 0, 1) := by decide +kernel
theorem d_MD_lines_48 : decode c_MD_lines 48 = .ok (.iload_n 3, 1) := by decide +kernel
theorem d_MD_lines_49 : decode c_MD_lines 49 = .ok (.putfield 240, 3) := by decide +kernel
theorem d_MD_lines_52 : decode c_MD_lines 52 = .ok (.aload_n 0, 1) := by decide +kernel
theorem d_MD_lines_53 : decode c_MD_lines 53 = .ok (.aload_n 0, 1) := by decide +kernel
theorem d_MD_lines_54 : decode c_MD_lines 54 = .ok (.getfield 211, 3) := by decide +kernel
theorem d_MD_lines_57 : decode c_MD_lines 57 = .ok (.putfield 243, 3) := by decide +kernel
theorem d_MD_lines_60 : decode c_MD_lines 60 = .ok (.iconst 0, 1) := by decide +kernel
theorem d_MD_lines_61 : decode c_MD_lines 61 = .ok (.ireturn, 1) := by decide +kernel
theorem d_MD_lines_62 : decode c_MD_lines 62 = .ok (.aload_n 0, 1) := by decide +kernel
theorem d_MD_lines_63 : decode c_MD_lines 63 = .ok (.getfield 95, 3) := by decide +kernel
theorem d_MD_lines_66 : decode c_MD_lines 66 = .ok (.aload_n 0, 1) := by decide +kernel
theorem d_MD_lines_67 : decode c_MD_lines 67 = .ok (.getfield 92, 3) := by decide +kernel
theorem d_MD_lines_70 : decode c_MD_lines 70 = .ok (.if_icmp .ge 30, 3) := by decide +kernel
theorem d_MD_lines_73 : decode c_MD_lines 73 = .ok (.aload_n 0, 1) := by decide +kernel
theorem d_MD_lines_74 : decode c_MD_lines 74 = .ok (.getfield 11, 3) := by decide +kernel
theorem d_MD_lines_77 : decode c_MD_lines 77 = .ok (.aload_n 0, 1) := by decide +kernel
theorem d_MD_lines_78 : decode c_MD_lines 78 = .ok (.getfield 95, 3) := by decide +kernel
theorem d_MD_lines_81 : decode c_MD_lines 81 = .ok (.baload, 1) := by decide +kernel
theorem d_MD_lines_82 : decode c_MD_lines 82 = .ok (.bipush 10, 2) := by decide +kernel
theorem d_MD_lines_84 : decode c_MD_lines 84 = .ok (.if_icmp .eq 16, 3) := by decide +kernel
theorem d_MD_lines_87 : decode c_MD_lines 87 = .ok (.aload_n 0, 1) := by decide +kernel
theorem d_MD_lines_88 : decode c_MD_lines 88 = .ok (.dup, 1) := by decide +kernel
theorem d_MD_lines_89 : decode c_MD_lines 89 = .ok (.getfield 95, 3) := by decide +kernel
theorem d_MD_lines_92 : decode c_MD_lines 92 = .ok (.iconst 1, 1) := by decide +kernel
theorem d_MD_lines_93 : decode c_MD_lines 93 = .ok (.iadd, 1) := by decide +kernel
theorem d_MD_lines_94 : decode c_MD_lines 94 = .ok (.putfield 95, 3) := by decide +kernel
theorem d_MD_lines_97 : decode c_MD_lines 97 = .ok (.goto (-35), 3) := by decide +kernel
theorem d_MD_lines_100 : decode c_MD_lines 100 = .ok (.aload_n 0, 1) := by decide +kernel
theorem d_MD_lines_101 : decode c_MD_lines 101 = .ok (.dup, 1) := by decide +kernel
theorem d_MD_lines_102 : decode c_MD_lines 102 = .ok (.getfield 95, 3) := by decide +kernel
theorem d_MD_lines_105 : decode c_MD_lines 105 = .ok (.iconst 1, 1) := by decide +kernel
theorem d_MD_lines_106 : decode c_MD_lines 106 = .ok (.iadd, 1) := by decide +kernel
theorem d_MD_lines_107 : decode c_MD_lines 107 = .ok (.putfield 95, 3) := by decide +kernel
theorem d_MD_lines_110 : decode c_MD_lines 110 = .ok (.goto (-95), 3) := by decide +kernel
theorem d_MD_lines_113 : decode c_MD_lines 113 = .ok (.iconst 1, 1) := by decide +kernel
theorem d_MD_lines_114 : decode c_MD_lines 114 = .ok (.ireturn, 1) := by decide +kernel
theorem d_MD_load_0 : decode c_MD_load 0 = .ok (.iload_n 1, 1) := by decide +kernel
theorem d_MD_load_1 : decode c_MD_load 1 = .ok (.iconst 0, 1) := by decide +kernel
theorem d_MD_load_2 : decode c_MD_load 2 = .ok (.iconst 2, 1) := by decide +kernel
theorem d_MD_load_3 : decode c_MD_load 3 = .ok (.invokestatic 246, 3) := by decide +kernel
theorem d_MD_load_6 : decode c_MD_load 6 = .ok (.ifCond .eq 38, 3) := by decide +kernel
theorem d_MD_load_9 : decode c_MD_load 9 = .ok (.iload_n 2, 1) := by decide +kernel
theorem d_MD_load_10 : decode c_MD_load 10 = .ok (.bipush 64, 2) := by decide +kernel
theorem d_MD_load_12 : decode c_MD_load 12 = .ok (.sipush 1024, 3) := by decide +kernel
theorem d_MD_load_15 : decode c_MD_load 15 = .ok (.invokestatic 246, 3) := by decide +kernel
theorem d_MD_load_18 : decode c_MD_load 18 = .ok (.ifCond .eq 26, 3) := by decide +kernel
theorem d_MD_load_21 : decode c_MD_load 21 = .ok (.iload_n 3, 1) := by decide +kernel
theorem d_MD_load_22 : decode c_MD_load 22 = .ok (.iconst 0, 1) := by decide +kernel
theorem d_MD_load_23 : decode c_MD_load 23 = .ok (.iconst 2, 1) := by decide +kernel
theorem d_MD_load_24 : decode c_MD_load 24 = .ok (.invokestatic 246, 3) := by decide +kernel
theorem d_MD_load_27 : decode c_MD_load 27 = .ok (.ifCond .eq 17, 3) := by decide +kernel
theorem d_MD_load_30 : decode c_MD_load 30 = .ok (.iload 4, 2) := by decide +kernel
theorem d_MD_load_32 : decode c_MD_load 32 = .ok (.ifCond .lt 12, 3) := by decide +kernel
theorem d_MD_load_35 : decode c_MD_load 35 = .ok (.iload 4, 2) := by decide +kernel
theorem d_MD_load_37 : decode c_MD_load 37 = .ok (.aload_n 0, 1) := by decide +kernel
theorem d_MD_load_38 : decode c_MD_load 38 = .ok (.getfield 1, 3) := by decide +kernel
theorem d_MD_load_41 : decode c_MD_load 41 = .ok (.if_icmp .le 6, 3) := by decide +kernel
theorem d_MD_load_44 : decode c_MD_load 44 = .ok (.bipush (-2), 2) := by decide +kernel
theorem d_MD_load_46 : decode c_MD_load 46 = .ok (.ireturn, 1) := by decide +kernel
theorem d_MD_load_47 : decode c_MD_load 47 = .ok (.aload_n 0, 1) := by decide +kernel
theorem d_MD_load_48 : decode c_MD_load 48 = .ok (.iconst 0, 1) := by decide +kernel
theorem d_MD_load_49 : decode c_MD_load 49 = .ok (.putfield 1, 3) := by decide +kernel
theorem d_MD_load_52 : decode c_MD_load 52 = .ok (.aload_n 0, 1) := by decide +kernel
theorem d_MD_load_53 : decode c_MD_load 53 = .ok (.iload 4, 2) := by decide +kernel
theorem d_MD_load_55 : decode c_MD_load 55 = .ok (.putfield 92, 3) := by decide +kernel
theorem d_MD_load_58 : decode c_MD_load 58 = .ok (.aload_n 0, 1) := by decide +kernel
theorem d_MD_load_59 : decode c_MD_load 59 = .ok (.iconst 1, 1) := by decide +kernel
theorem d_MD_load_60 : decode c_MD_load 60 = .ok (.putfield 250, 3) := by decide +kernel
theorem d_MD_load_63 : decode c_MD_load 63 = .ok (.aload_n 0, 1) := by decide +kernel
theorem d_MD_load_64 : decode c_MD_load 64 = .ok (.iconst 0, 1) := by decide +kernel
theorem d_MD_load_65 : decode c_MD_load 65 = .ok (.putfield 240, 3) := by decide +kernel
theorem d_MD_load_68 : decode c_MD_load 68 = .ok (.aload_n 0, 1) := by decide +kernel
theorem d_MD_load_69 : decode c_MD_load 69 = .ok (.iconst 0, 1) := by decide +kernel
theorem d_MD_load_70 : decode c_MD_load 70 = .ok (.putfield 243, 3) := by decide +kernel
theorem d_MD_load_73 : decode c_MD_load 73 = .ok (.aload_n 0, 1) := by decide +kernel
theorem d_MD_load_74 : decode c_MD_load 74 = .ok (.iconst 0, 1) := by decide +kernel
theorem d_MD_load_75 : decode c_MD_load 75 = .ok (.putfield 109, 3) := by decide +kernel
theorem d_MD_load_78 : decode c_MD_load 78 = .ok (.aload_n 0, 1) := by decide +kernel
theorem d_MD_load_79 : decode c_MD_load 79 = .ok (.iconst 0, 1) := by decide +kernel
theorem d_MD_load_80 : decode c_MD_load 80 = .ok (.putfield 208, 3) := by decide +kernel
theorem d_MD_load_83 : decode c_MD_load 83 = .ok (.iconst 0, 1) := by decide +kernel
theorem d_MD_load_84 : decode c_MD_load 84 = .ok (.istore 5, 2) := by decide +kernel
theorem d_MD_load_86 : decode c_MD_load 86 = .ok (.iload 5, 2) := by decide +kernel
theorem d_MD_load_88 : decode c_MD_load 88 = .ok (.sipush 1024, 3) := by decide +kernel
theorem d_MD_load_91 : decode c_MD_load 91 = .ok (.if_icmp .ge 17, 3) := by decide +kernel
theorem d_MD_load_94 : decode c_MD_load 94 = .ok (.aload_n 0, 1) := by decide +kernel
theorem d_MD_load_95 : decode c_MD_load 95 = .ok (.getfield 89, 3) := by decide +kernel
theorem d_MD_load_98 : decode c_MD_load 98 = .ok (.iload 5, 2) := by decide +kernel
theorem d_MD_load_100 : decode c_MD_load 100 = .ok (.iconst 0, 1) := by decide +kernel
theorem d_MD_load_101 : decode c_MD_load 101 = .ok (.iastore, 1) := by decide +kernel
theorem d_MD_load_102 : decode c_MD_load 102 = .ok (.iinc 5 1, 3) := by decide +kernel
theorem d_MD_load_105 : decode c_MD_load 105 = .ok (.goto (-19), 3) := by decide +kernel
theorem d_MD_load_108 : decode c_MD_load 108 = .ok (.aload_n 0, 1) := by decide +kernel
theorem d_MD_load_109 : decode c_MD_load 109 = .ok (.iload_n 2, 1) := by decide +kernel
theorem d_MD_load_110 : decode c_MD_load 110 = .ok (.iconst 0, 1) := by decide +kernel
theorem d_MD_load_111 : decode c_MD_load 111 = .ok (.invokevirtual 253, 3) := by decide +kernel
theorem d_MD_load_114 : decode c_MD_load 114 = .ok (.ifCond .eq 12, 3) := by decide +kernel
theorem d_MD_load_117 : decode c_MD_load 117 = .ok (.aload_n 0, 1) := by decide +kernel
theorem d_MD_load_118 : decode c_MD_load 118 = .ok (.iload_n 2, 1) := by decide +kernel
theorem d_MD_load_119 : decode c_MD_load 119 = .ok (.iconst 1, 1) := by decide +kernel
theorem d_MD_load_120 : decode c_MD_load 120 = .ok (.invokevirtual 253, 3) := by decide +kernel
theorem d_MD_load_123 : decode c_MD_load 123 = .ok (.ifCond .ne 5, 3) := by decide +kernel
theorem d_MD_load_126 : decode c_MD_load 126 = .ok (.iconst (-1), 1) := by decide +kernel
theorem d_MD_load_127 : decode c_MD_load 127 = .ok (.ireturn, 1) := by decide +kernel
theorem d_MD_load_128 : decode c_MD_load 128 = .ok (.aload_n 0, 1) := by decide +kernel
theorem d_MD_load_129 : decode c_MD_load 129 = .ok (.getfield 208, 3) := by decide +kernel
theorem d_MD_load_132 : decode c_MD_load 132 = .ok (.ifCond .le 18, 3) := by decide +kernel
theorem d_MD_load_135 : decode c_MD_load 135 = .ok (.aload_n 0, 1) := by decide +kernel
theorem d_MD_load_136 : decode c_MD_load 136 = .ok (.iconst 5, 1) := by decide +kernel
theorem d_MD_load_137 : decode c_MD_load 137 = .ok (.putfield 240, 3) := by decide +kernel
theorem d_MD_load_140 : decode c_MD_load 140 = .ok (.aload_n 0, 1) := by decide +kernel
theorem d_MD_load_141 : decode c_MD_load 141 = .ok (.aload_n 0, 1) := by decide +kernel
theorem d_MD_load_142 : decode c_MD_load 142 = .ok (.getfield 208, 3) := by decide +kernel
theorem d_MD_load_145 : decode c_MD_load 145 = .ok (.putfield 243, 3) := by decide +kernel
theorem d_MD_load_148 : decode c_MD_load 148 = .ok (.iconst (-1), 1) := by decide +kernel
theorem d_MD_load_149 : decode c_MD_load 149 = .ok (.ireturn, 1) := by decide +kernel
theorem d_MD_load_150 : decode c_MD_load 150 = .ok (.aload_n 0, 1) := by decide +kernel
theorem d_MD_load_151 : decode c_MD_load 151 = .ok (.iload_n 1, 1) := by decide +kernel
theorem d_MD_load_152 : decode c_MD_load 152 = .ok (.iload_n 2, 1) := by decide +kernel
theorem d_MD_load_153 : decode c_MD_load 153 = .ok (.iload_n 3, 1) := by decide +kernel
theorem d_MD_load_154 : decode c_MD_load 154 = .ok (.invokevirtual 257, 3) := by decide +kernel
theorem d_MD_load_157 : decode c_MD_load 157 = .ok (.aload_n 0, 1) := by decide +kernel
theorem d_MD_load_158 : decode c_MD_load 158 = .ok (.getfield 214, 3) := by decide +kernel
theorem d_MD_load_161 : decode c_MD_load 161 = .ok (.ireturn, 1) := by decide +kernel
theorem d_MD_begin_0 : decode c_MD_begin 0 = .ok (.aload_n 0, 1) := by decide +kernel
theorem d_MD_begin_1 : decode c_MD_begin 1 = .ok (.getfield 21, 3) := by decide +kernel
theorem d_MD_begin_4 : decode c_MD_begin 4 = .ok (.iload_n 1, 1) := by decide +kernel
theorem d_MD_begin_5 : decode c_MD_begin 5 = .ok (.iconst 1, 1) := by decide +kernel
theorem d_MD_begin_6 : decode c_MD_begin 6 = .ok (.bastore, 1) := by decide +kernel
theorem d_MD_begin_7 : decode c_MD_begin 7 = .ok (.aload_n 0, 1) := by decide +kernel
theorem d_MD_begin_8 : decode c_MD_begin 8 = .ok (.getfield 25, 3) := by decide +kernel
theorem d_MD_begin_11 : decode c_MD_begin 11 = .ok (.iload_n 1, 1) := by decide +kernel
theorem d_MD_begin_12 : decode c_MD_begin 12 = .ok (.iload_n 2, 1) := by decide +kernel
theorem d_MD_begin_13 : decode c_MD_begin 13 = .ok (.iastore, 1) := by decide +kernel
theorem d_MD_begin_14 : decode c_MD_begin 14 = .ok (.aload_n 0, 1) := by decide +kernel
theorem d_MD_begin_15 : decode c_MD_begin 15 = .ok (.getfield 29, 3) := by decide +kernel
theorem d_MD_begin_18 : decode c_MD_begin 18 = .ok (.iload_n 1, 1) := by decide +kernel
theorem d_MD_begin_19 : decode c_MD_begin 19 = .ok (.iload_n 3, 1) := by decide +kernel
theorem d_MD_begin_20 : decode c_MD_begin 20 = .ok (.iastore, 1) := by decide +kernel
theorem d_MD_begin_21 : decode c_MD_begin 21 = .ok (.iconst 0, 1) := by decide +kernel
theorem d_MD_begin_22 : decode c_MD_begin 22 = .ok (.istore 4, 2) := by decide +kernel
theorem d_MD_begin_24 : decode c_MD_begin 24 = .ok (.iload 4, 2) := by decide +kernel
theorem d_MD_begin_26 : decode c_MD_begin 26 = .ok (.sipush 1024, 3) := by decide +kernel
theorem d_MD_begin_29 : decode c_MD_begin 29 = .ok (.if_icmp .ge 29, 3) := by decide +kernel
end
section
theorem d_MD_begin_32 : decode c_MD_begin 32 = .ok (.aload_n 0, 1) := by decide +kernel
theorem d_MD_begin_33 : decode c_MD_begin 33 = .ok (.getfield 32, 3) := by decide +kernel
theorem d_MD_begin_36 : decode c_MD_begin 36 = .ok (.sipush 1024, 3) := by decide +kernel
theorem d_MD_begin_39 : decode c_MD_begin 39 = .ok (.iload_n 1, 1) := by decide +kernel
theorem d_MD_begin_40 : decode c_MD_begin 40 = .ok (.imul, 1) := by decide +kernel
theorem d_MD_begin_41 : decode c_MD_begin 41 = .ok (.iload 4, 2) := by decide +kernel
theorem d_MD_begin_43 : decode c_MD_begin 43 = .ok (.iadd, 1) := by decide +kernel
theorem d_MD_begin_44 : decode c_MD_begin 44 = .ok (.aload_n 0, 1) := by decide +kernel
theorem d_MD_begin_45 : decode c_MD_begin 45 = .ok (.getfield 89, 3) := by decide +kernel
theorem d_MD_begin_48 : decode c_MD_begin 48 = .ok (.iload 4, 2) := by decide +kernel
theorem d_MD_begin_50 : decode c_MD_begin 50 = .ok (.iaload, 1) := by decide +kernel
theorem d_MD_begin_51 : decode c_MD_begin 51 = .ok (.iastore, 1) := by decide +kernel
theorem d_MD_begin_52 : decode c_MD_begin 52 = .ok (.iinc 4 1, 3) := by decide +kernel
theorem d_MD_begin_55 : decode c_MD_begin 55 = .ok (.goto (-31), 3) := by decide +kernel
theorem d_MD_begin_58 : decode c_MD_begin 58 = .ok (.iconst 0, 1) := by decide +kernel
theorem d_MD_begin_59 : decode c_MD_begin 59 = .ok (.istore 4, 2) := by decide +kernel
theorem d_MD_begin_61 : decode c_MD_begin 61 = .ok (.iload 4, 2) := by decide +kernel
theorem d_MD_begin_63 : decode c_MD_begin 63 = .ok (.bipush 8, 2) := by decide +kernel
theorem d_MD_begin_65 : decode c_MD_begin 65 = .ok (.if_icmp .ge 22, 3) := by decide +kernel
theorem d_MD_begin_68 : decode c_MD_begin 68 = .ok (.aload_n 0, 1) := by decide +kernel
theorem d_MD_begin_69 : decode c_MD_begin 69 = .ok (.getfield 35, 3) := by decide +kernel
theorem d_MD_begin_72 : decode c_MD_begin 72 = .ok (.bipush 8, 2) := by decide +kernel
theorem d_MD_begin_74 : decode c_MD_begin 74 = .ok (.iload_n 1, 1) := by decide +kernel
theorem d_MD_begin_75 : decode c_MD_begin 75 = .ok (.imul, 1) := by decide +kernel
theorem d_MD_begin_76 : decode c_MD_begin 76 = .ok (.iload 4, 2) := by decide +kernel
theorem d_MD_begin_78 : decode c_MD_begin 78 = .ok (.iadd, 1) := by decide +kernel
theorem d_MD_begin_79 : decode c_MD_begin 79 = .ok (.iconst 0, 1) := by decide +kernel
theorem d_MD_begin_80 : decode c_MD_begin 80 = .ok (.iastore, 1) := by decide +kernel
theorem d_MD_begin_81 : decode c_MD_begin 81 = .ok (.iinc 4 1, 3) := by decide +kernel
theorem d_MD_begin_84 : decode c_MD_begin 84 = .ok (.goto (-23), 3) := by decide +kernel
theorem d_MD_begin_87 : decode c_MD_begin 87 = .ok (.iconst 0, 1) := by decide +kernel
theorem d_MD_begin_88 : decode c_MD_begin 88 = .ok (.istore 4, 2) := by decide +kernel
theorem d_MD_begin_90 : decode c_MD_begin 90 = .ok (.iload 4, 2) := by decide +kernel
theorem d_MD_begin_92 : decode c_MD_begin 92 = .ok (.sipush 128, 3) := by decide +kernel
theorem d_MD_begin_95 : decode c_MD_begin 95 = .ok (.if_icmp .ge 23, 3) := by decide +kernel
theorem d_MD_begin_98 : decode c_MD_begin 98 = .ok (.aload_n 0, 1) := by decide +kernel
theorem d_MD_begin_99 : decode c_MD_begin 99 = .ok (.getfield 74, 3) := by decide +kernel
theorem d_MD_begin_102 : decode c_MD_begin 102 = .ok (.sipush 128, 3) := by decide +kernel
theorem d_MD_begin_105 : decode c_MD_begin 105 = .ok (.iload_n 1, 1) := by decide +kernel
theorem d_MD_begin_106 : decode c_MD_begin 106 = .ok (.imul, 1) := by decide +kernel
theorem d_MD_begin_107 : decode c_MD_begin 107 = .ok (.iload 4, 2) := by decide +kernel
theorem d_MD_begin_109 : decode c_MD_begin 109 = .ok (.iadd, 1) := by decide +kernel
theorem d_MD_begin_110 : decode c_MD_begin 110 = .ok (.iconst 0, 1) := by decide +kernel
theorem d_MD_begin_111 : decode c_MD_begin 111 = .ok (.iastore, 1) := by decide +kernel
theorem d_MD_begin_112 : decode c_MD_begin 112 = .ok (.iinc 4 1, 3) := by decide +kernel
theorem d_MD_begin_115 : decode c_MD_begin 115 = .ok (.goto (-25), 3) := by decide +kernel
theorem d_MD_begin_118 : decode c_MD_begin 118 = .ok (.aload_n 0, 1) := by decide +kernel
theorem d_MD_begin_119 : decode c_MD_begin 119 = .ok (.getfield 38, 3) := by decide +kernel
theorem d_MD_begin_122 : decode c_MD_begin 122 = .ok (.iload_n 1, 1) := by decide +kernel
theorem d_MD_begin_123 : decode c_MD_begin 123 = .ok (.iconst 0, 1) := by decide +kernel
theorem d_MD_begin_124 : decode c_MD_begin 124 = .ok (.iastore, 1) := by decide +kernel
theorem d_MD_begin_125 : decode c_MD_begin 125 = .ok (.aload_n 0, 1) := by decide +kernel
theorem d_MD_begin_126 : decode c_MD_begin 126 = .ok (.getfield 41, 3) := by decide +kernel
theorem d_MD_begin_129 : decode c_MD_begin 129 = .ok (.iload_n 1, 1) := by decide +kernel
theorem d_MD_begin_130 : decode c_MD_begin 130 = .ok (.bipush 16, 2) := by decide +kernel
theorem d_MD_begin_132 : decode c_MD_begin 132 = .ok (.iastore, 1) := by decide +kernel
theorem d_MD_begin_133 : decode c_MD_begin 133 = .ok (.aload_n 0, 1) := by decide +kernel
theorem d_MD_begin_134 : decode c_MD_begin 134 = .ok (.getfield 44, 3) := by decide +kernel
theorem d_MD_begin_137 : decode c_MD_begin 137 = .ok (.iload_n 1, 1) := by decide +kernel
theorem d_MD_begin_138 : decode c_MD_begin 138 = .ok (.iconst 0, 1) := by decide +kernel
theorem d_MD_begin_139 : decode c_MD_begin 139 = .ok (.iastore, 1) := by decide +kernel
theorem d_MD_begin_140 : decode c_MD_begin 140 = .ok (.aload_n 0, 1) := by decide +kernel
theorem d_MD_begin_141 : decode c_MD_begin 141 = .ok (.getfield 47, 3) := by decide +kernel
theorem d_MD_begin_144 : decode c_MD_begin 144 = .ok (.iload_n 1, 1) := by decide +kernel
theorem d_MD_begin_145 : decode c_MD_begin 145 = .ok (.iload_n 2, 1) := by decide +kernel
theorem d_MD_begin_146 : decode c_MD_begin 146 = .ok (.iastore, 1) := by decide +kernel
theorem d_MD_begin_147 : decode c_MD_begin 147 = .ok (.aload_n 0, 1) := by decide +kernel
theorem d_MD_begin_148 : decode c_MD_begin 148 = .ok (.getfield 50, 3) := by decide +kernel
theorem d_MD_begin_151 : decode c_MD_begin 151 = .ok (.iload_n 1, 1) := by decide +kernel
theorem d_MD_begin_152 : decode c_MD_begin 152 = .ok (.iconst 0, 1) := by decide +kernel
theorem d_MD_begin_153 : decode c_MD_begin 153 = .ok (.iastore, 1) := by decide +kernel
theorem d_MD_begin_154 : decode c_MD_begin 154 = .ok (.aload_n 0, 1) := by decide +kernel
theorem d_MD_begin_155 : decode c_MD_begin 155 = .ok (.getfield 53, 3) := by decide +kernel
theorem d_MD_begin_158 : decode c_MD_begin 158 = .ok (.iload_n 1, 1) := by decide +kernel
theorem d_MD_begin_159 : decode c_MD_begin 159 = .ok (.iconst 0, 1) := by decide +kernel
theorem d_MD_begin_160 : decode c_MD_begin 160 = .ok (.bastore, 1) := by decide +kernel
theorem d_MD_begin_161 : decode c_MD_begin 161 = .ok (.aload_n 0, 1) := by decide +kernel
theorem d_MD_begin_162 : decode c_MD_begin 162 = .ok (.getfield 56, 3) := by decide +kernel
theorem d_MD_begin_165 : decode c_MD_begin 165 = .ok (.iload_n 1, 1) := by decide +kernel
theorem d_MD_begin_166 : decode c_MD_begin 166 = .ok (.iconst 0, 1) := by decide +kernel
theorem d_MD_begin_167 : decode c_MD_begin 167 = .ok (.bastore, 1) := by decide +kernel
theorem d_MD_begin_168 : decode c_MD_begin 168 = .ok (.aload_n 0, 1) := by decide +kernel
theorem d_MD_begin_169 : decode c_MD_begin 169 = .ok (.getfield 59, 3) := by decide +kernel
theorem d_MD_begin_172 : decode c_MD_begin 172 = .ok (.iload_n 1, 1) := by decide +kernel
theorem d_MD_begin_173 : decode c_MD_begin 173 = .ok (.iconst 0, 1) := by decide +kernel
theorem d_MD_begin_174 : decode c_MD_begin 174 = .ok (.iastore, 1) := by decide +kernel
theorem d_MD_begin_175 : decode c_MD_begin 175 = .ok (.aload_n 0, 1) := by decide +kernel
theorem d_MD_begin_176 : decode c_MD_begin 176 = .ok (.getfield 62, 3) := by decide +kernel
theorem d_MD_begin_179 : decode c_MD_begin 179 = .ok (.iload_n 1, 1) := by decide +kernel
theorem d_MD_begin_180 : decode c_MD_begin 180 = .ok (.iconst 0, 1) := by decide +kernel
theorem d_MD_begin_181 : decode c_MD_begin 181 = .ok (.iastore, 1) := by decide +kernel
theorem d_MD_begin_182 : decode c_MD_begin 182 = .ok (.aload_n 0, 1) := by decide +kernel
theorem d_MD_begin_183 : decode c_MD_begin 183 = .ok (.getfield 68, 3) := by decide +kernel
theorem d_MD_begin_186 : decode c_MD_begin 186 = .ok (.iload_n 1, 1) := by decide +kernel
theorem d_MD_begin_187 : decode c_MD_begin 187 = .ok (.iconst 0, 1) := by decide +kernel
theorem d_MD_begin_188 : decode c_MD_begin 188 = .ok (.iastore, 1) := by decide +kernel
theorem d_MD_begin_189 : decode c_MD_begin 189 = .ok (.return_, 1) := by decide +kernel
theorem d_MD_fault_0 : decode c_MD_fault 0 = .ok (.aload_n 0, 1) := by decide +kernel
theorem d_MD_fault_1 : decode c_MD_fault 1 = .ok (.getfield 250, 3) := by decide +kernel
theorem d_MD_fault_4 : decode c_MD_fault 4 = .ok (.ifCond .ne 7, 3) := by decide +kernel
theorem d_MD_fault_7 : decode c_MD_fault 7 = .ok (.iconst (-1), 1) := by decide +kernel
theorem d_MD_fault_8 : decode c_MD_fault 8 = .ok (.goto 27, 3) := by decide +kernel
theorem d_MD_fault_11 : decode c_MD_fault 11 = .ok (.iload_n 1, 1) := by decide +kernel
theorem d_MD_fault_12 : decode c_MD_fault 12 = .ok (.ifCond .ne 10, 3) := by decide +kernel
theorem d_MD_fault_15 : decode c_MD_fault 15 = .ok (.aload_n 0, 1) := by decide +kernel
theorem d_MD_fault_16 : decode c_MD_fault 16 = .ok (.getfield 240, 3) := by decide +kernel
theorem d_MD_fault_19 : decode c_MD_fault 19 = .ok (.goto 16, 3) := by decide +kernel
theorem d_MD_fault_22 : decode c_MD_fault 22 = .ok (.iload_n 1, 1) := by decide +kernel
theorem d_MD_fault_23 : decode c_MD_fault 23 = .ok (.iconst 1, 1) := by decide +kernel
theorem d_MD_fault_24 : decode c_MD_fault 24 = .ok (.if_icmp .ne 10, 3) := by decide +kernel
theorem d_MD_fault_27 : decode c_MD_fault 27 = .ok (.aload_n 0, 1) := by decide +kernel
theorem d_MD_fault_28 : decode c_MD_fault 28 = .ok (.getfield 243, 3) := by decide +kernel
theorem d_MD_fault_31 : decode c_MD_fault 31 = .ok (.goto 4, 3) := by decide +kernel
theorem d_MD_fault_34 : decode c_MD_fault 34 = .ok (.iconst (-1), 1) := by decide +kernel
theorem d_MD_fault_35 : decode c_MD_fault 35 = .ok (.ireturn, 1) := by decide +kernel
theorem d_MD_isGood_0 : decode c_MD_isGood 0 = .ok (.iload_n 1, 1) := by decide +kernel
theorem d_MD_isGood_1 : decode c_MD_isGood 1 = .ok (.aload_n 0, 1) := by decide +kernel
theorem d_MD_isGood_2 : decode c_MD_isGood 2 = .ok (.getfield 47, 3) := by decide +kernel
theorem d_MD_isGood_5 : decode c_MD_isGood 5 = .ok (.aload_n 0, 1) := by decide +kernel
theorem d_MD_isGood_6 : decode c_MD_isGood 6 = .ok (.getfield 261, 3) := by decide +kernel
theorem d_MD_isGood_9 : decode c_MD_isGood 9 = .ok (.iaload, 1) := by decide +kernel
theorem d_MD_isGood_10 : decode c_MD_isGood 10 = .ok (.if_icmp .ge 30, 3) := by decide +kernel
theorem d_MD_isGood_13 : decode c_MD_isGood 13 = .ok (.aload_n 0, 1) := by decide +kernel
theorem d_MD_isGood_14 : decode c_MD_isGood 14 = .ok (.getfield 44, 3) := by decide +kernel
theorem d_MD_isGood_17 : decode c_MD_isGood 17 = .ok (.aload_n 0, 1) := by decide +kernel
theorem d_MD_isGood_18 : decode c_MD_isGood 18 = .ok (.getfield 261, 3) := by decide +kernel
theorem d_MD_isGood_21 : decode c_MD_isGood 21 = .ok (.iaload, 1) := by decide +kernel
theorem d_MD_isGood_22 : decode c_MD_isGood 22 = .ok (.iload_n 1, 1) := by decide +kernel
theorem d_MD_isGood_23 : decode c_MD_isGood 23 = .ok (.iadd, 1) := by decide +kernel
theorem d_MD_isGood_24 : decode c_MD_isGood 24 = .ok (.aload_n 0, 1) := by decide +kernel
theorem d_MD_isGood_25 : decode c_MD_isGood 25 = .ok (.getfield 25, 3) := by decide +kernel
theorem d_MD_isGood_28 : decode c_MD_isGood 28 = .ok (.aload_n 0, 1) := by decide +kernel
theorem d_MD_isGood_29 : decode c_MD_isGood 29 = .ok (.getfield 261, 3) := by decide +kernel
theorem d_MD_isGood_32 : decode c_MD_isGood 32 = .ok (.iaload, 1) := by decide +kernel
theorem d_MD_isGood_33 : decode c_MD_isGood 33 = .ok (.if_icmp .ge 7, 3) := by decide +kernel
theorem d_MD_isGood_36 : decode c_MD_isGood 36 = .ok (.iconst 1, 1) := by decide +kernel
theorem d_MD_isGood_37 : decode c_MD_isGood 37 = .ok (.goto 4, 3) := by decide +kernel
theorem d_MD_isGood_40 : decode c_MD_isGood 40 = .ok (.iconst 0, 1) := by decide +kernel
theorem d_MD_isGood_41 : decode c_MD_isGood 41 = .ok (.ireturn, 1) := by decide +kernel
theorem d_MD_get_0 : decode c_MD_get 0 = .ok (.aload_n 0, 1) := by decide +kernel
theorem d_MD_get_1 : decode c_MD_get 1 = .ok (.getfield 32, 3) := by decide +kernel
theorem d_MD_get_4 : decode c_MD_get 4 = .ok (.sipush 1024, 3) := by decide +kernel
theorem d_MD_get_7 : decode c_MD_get 7 = .ok (.aload_n 0, 1) := by decide +kernel
theorem d_MD_get_8 : decode c_MD_get 8 = .ok (.getfield 261, 3) := by decide +kernel
theorem d_MD_get_11 : decode c_MD_get 11 = .ok (.imul, 1) := by decide +kernel
theorem d_MD_get_12 : decode c_MD_get 12 = .ok (.aload_n 0, 1) := by decide +kernel
theorem d_MD_get_13 : decode c_MD_get 13 = .ok (.getfield 44, 3) := by decide +kernel
theorem d_MD_get_16 : decode c_MD_get 16 = .ok (.aload_n 0, 1) := by decide +kernel
theorem d_MD_get_17 : decode c_MD_get 17 = .ok (.getfield 261, 3) := by decide +kernel
theorem d_MD_get_20 : decode c_MD_get 20 = .ok (.iaload, 1) := by decide +kernel
theorem d_MD_get_21 : decode c_MD_get 21 = .ok (.iadd, 1) := by decide +kernel
theorem d_MD_get_22 : decode c_MD_get 22 = .ok (.iload_n 1, 1) := by decide +kernel
theorem d_MD_get_23 : decode c_MD_get 23 = .ok (.iadd, 1) := by decide +kernel
theorem d_MD_get_24 : decode c_MD_get 24 = .ok (.iaload, 1) := by decide +kernel
theorem d_MD_get_25 : decode c_MD_get 25 = .ok (.ireturn, 1) := by decide +kernel
theorem d_MD_set_0 : decode c_MD_set 0 = .ok (.aload_n 0, 1) := by decide +kernel
theorem d_MD_set_1 : decode c_MD_set 1 = .ok (.getfield 32, 3) := by decide +kernel
theorem d_MD_set_4 : decode c_MD_set 4 = .ok (.sipush 1024, 3) := by decide +kernel
theorem d_MD_set_7 : decode c_MD_set 7 = .ok (.aload_n 0, 1) := by decide +kernel
theorem d_MD_set_8 : decode c_MD_set 8 = .ok (.getfield 261, 3) := by decide +kernel
theorem d_MD_set_11 : decode c_MD_set 11 = .ok (.imul, 1) := by decide +kernel
theorem d_MD_set_12 : decode c_MD_set 12 = .ok (.aload_n 0, 1) := by decide +kernel
theorem d_MD_set_13 : decode c_MD_set 13 = .ok (.getfield 44, 3) := by decide +kernel
theorem d_MD_set_16 : decode c_MD_set 16 = .ok (.aload_n 0, 1) := by decide +kernel
theorem d_MD_set_17 : decode c_MD_set 17 = .ok (.getfield 261, 3) := by decide +kernel
theorem d_MD_set_20 : decode c_MD_set 20 = .ok (.iaload, 1) := by decide +kernel
theorem d_MD_set_21 : decode c_MD_set 21 = .ok (.iadd, 1) := by decide +kernel
theorem d_MD_set_22 : decode c_MD_set 22 = .ok (.iload_n 1, 1) := by decide +kernel
theorem d_MD_set_23 : decode c_MD_set 23 = .ok (.iadd, 1) := by decide +kernel
theorem d_MD_set_24 : decode c_MD_set 24 = .ok (.iload_n 2, 1) := by decide +kernel
theorem d_MD_set_25 : decode c_MD_set 25 = .ok (.iastore, 1) := by decide +kernel
theorem d_MD_set_26 : decode c_MD_set 26 = .ok (.return_, 1) := by decide +kernel
theorem d_MD_trap_0 : decode c_MD_trap 0 = .ok (.sipush 1024, 3) := by decide +kernel
theorem d_MD_trap_3 : decode c_MD_trap 3 = .ok (.aload_n 0, 1) := by decide +kernel
theorem d_MD_trap_4 : decode c_MD_trap 4 = .ok (.getfield 261, 3) := by decide +kernel
theorem d_MD_trap_7 : decode c_MD_trap 7 = .ok (.imul, 1) := by decide +kernel
theorem d_MD_trap_8 : decode c_MD_trap 8 = .ok (.istore 4, 2) := by decide +kernel
theorem d_MD_trap_10 : decode c_MD_trap 10 = .ok (.aload_n 0, 1) := by decide +kernel
theorem d_MD_trap_11 : decode c_MD_trap 11 = .ok (.getfield 32, 3) := by decide +kernel
theorem d_MD_trap_14 : decode c_MD_trap 14 = .ok (.iload 4, 2) := by decide +kernel
theorem d_MD_trap_16 : decode c_MD_trap 16 = .ok (.aload_n 0, 1) := by decide +kernel
theorem d_MD_trap_17 : decode c_MD_trap 17 = .ok (.getfield 38, 3) := by decide +kernel
theorem d_MD_trap_20 : decode c_MD_trap 20 = .ok (.aload_n 0, 1) := by decide +kernel
theorem d_MD_trap_21 : decode c_MD_trap 21 = .ok (.getfield 261, 3) := by decide +kernel
theorem d_MD_trap_24 : decode c_MD_trap 24 = .ok (.iaload, 1) := by decide +kernel
theorem d_MD_trap_25 : decode c_MD_trap 25 = .ok (.iastore, 1) := by decide +kernel
theorem d_MD_trap_26 : decode c_MD_trap 26 = .ok (.aload_n 0, 1) := by decide +kernel
theorem d_MD_trap_27 : decode c_MD_trap 27 = .ok (.getfield 32, 3) := by decide +kernel
theorem d_MD_trap_30 : decode c_MD_trap 30 = .ok (.iload 4, 2) := by decide +kernel
theorem d_MD_trap_32 : decode c_MD_trap 32 = .ok (.iconst 1, 1) := by decide +kernel
theorem d_MD_trap_33 : decode c_MD_trap 33 = .ok (.iadd, 1) := by decide +kernel
theorem d_MD_trap_34 : decode c_MD_trap 34 = .ok (.iload_n 3, 1) := by decide +kernel
theorem d_MD_trap_35 : decode c_MD_trap 35 = .ok (.iastore, 1) := by decide +kernel
theorem d_MD_trap_36 : decode c_MD_trap 36 = .ok (.aload_n 0, 1) := by decide +kernel
theorem d_MD_trap_37 : decode c_MD_trap 37 = .ok (.getfield 32, 3) := by decide +kernel
theorem d_MD_trap_40 : decode c_MD_trap 40 = .ok (.iload 4, 2) := by decide +kernel
theorem d_MD_trap_42 : decode c_MD_trap 42 = .ok (.iconst 2, 1) := by decide +kernel
theorem d_MD_trap_43 : decode c_MD_trap 43 = .ok (.iadd, 1) := by decide +kernel
theorem d_MD_trap_44 : decode c_MD_trap 44 = .ok (.aload_n 0, 1) := by decide +kernel
theorem d_MD_trap_45 : decode c_MD_trap 45 = .ok (.getfield 44, 3) := by decide +kernel
theorem d_MD_trap_48 : decode c_MD_trap 48 = .ok (.aload_n 0, 1) := by decide +kernel
theorem d_MD_trap_49 : decode c_MD_trap 49 = .ok (.getfield 261, 3) := by decide +kernel
theorem d_MD_trap_52 : decode c_MD_trap 52 = .ok (.iaload, 1) := by decide +kernel
theorem d_MD_trap_53 : decode c_MD_trap 53 = .ok (.iastore, 1) := by decide +kernel
theorem d_MD_trap_54 : decode c_MD_trap 54 = .ok (.aload_n 0, 1) := by decide +kernel
theorem d_MD_trap_55 : decode c_MD_trap 55 = .ok (.getfield 32, 3) := by decide +kernel
theorem d_MD_trap_58 : decode c_MD_trap 58 = .ok (.iload 4, 2) := by decide +kernel
theorem d_MD_trap_60 : decode c_MD_trap 60 = .ok (.iconst 3, 1) := by decide +kernel
theorem d_MD_trap_61 : decode c_MD_trap 61 = .ok (.iadd, 1) := by decide +kernel
theorem d_MD_trap_62 : decode c_MD_trap 62 = .ok (.aload_n 0, 1) := by decide +kernel
theorem d_MD_trap_63 : decode c_MD_trap 63 = .ok (.getfield 47, 3) := by decide +kernel
theorem d_MD_trap_66 : decode c_MD_trap 66 = .ok (.aload_n 0, 1) := by decide +kernel
theorem d_MD_trap_67 : decode c_MD_trap 67 = .ok (.getfield 261, 3) := by decide +kernel
theorem d_MD_trap_70 : decode c_MD_trap 70 = .ok (.iaload, 1) := by decide +kernel
theorem d_MD_trap_71 : decode c_MD_trap 71 = .ok (.iastore, 1) := by decide +kernel
theorem d_MD_trap_72 : decode c_MD_trap 72 = .ok (.aload_n 0, 1) := by decide +kernel
theorem d_MD_trap_73 : decode c_MD_trap 73 = .ok (.getfield 32, 3) := by decide +kernel
theorem d_MD_trap_76 : decode c_MD_trap 76 = .ok (.iload 4, 2) := by decide +kernel
theorem d_MD_trap_78 : decode c_MD_trap 78 = .ok (.bipush 8, 2) := by decide +kernel
theorem d_MD_trap_80 : decode c_MD_trap 80 = .ok (.iadd, 1) := by decide +kernel
theorem d_MD_trap_81 : decode c_MD_trap 81 = .ok (.iload_n 1, 1) := by decide +kernel
theorem d_MD_trap_82 : decode c_MD_trap 82 = .ok (.iastore, 1) := by decide +kernel
theorem d_MD_trap_83 : decode c_MD_trap 83 = .ok (.aload_n 0, 1) := by decide +kernel
theorem d_MD_trap_84 : decode c_MD_trap 84 = .ok (.getfield 32, 3) := by decide +kernel
theorem d_MD_trap_87 : decode c_MD_trap 87 = .ok (.iload 4, 2) := by decide +kernel
theorem d_MD_trap_89 : decode c_MD_trap 89 = .ok (.bipush 9, 2) := by decide +kernel
theorem d_MD_trap_91 : decode c_MD_trap 91 = .ok (.iadd, 1) := by decide +kernel
theorem d_MD_trap_92 : decode c_MD_trap 92 = .ok (.iload_n 2, 1) := by decide +kernel
theorem d_MD_trap_93 : decode c_MD_trap 93 = .ok (.iastore, 1) := by decide +kernel
theorem d_MD_trap_94 : decode c_MD_trap 94 = .ok (.aload_n 0, 1) := by decide +kernel
theorem d_MD_trap_95 : decode c_MD_trap 95 = .ok (.getfield 38, 3) := by decide +kernel
theorem d_MD_trap_98 : decode c_MD_trap 98 = .ok (.aload_n 0, 1) := by decide +kernel
theorem d_MD_trap_99 : decode c_MD_trap 99 = .ok (.getfield 261, 3) := by decide +kernel
theorem d_MD_trap_102 : decode c_MD_trap 102 = .ok (.aload_n 0, 1) := by decide +kernel
theorem d_MD_trap_103 : decode c_MD_trap 103 = .ok (.getfield 32, 3) := by decide +kernel
theorem d_MD_trap_106 : decode c_MD_trap 106 = .ok (.iload 4, 2) := by decide +kernel
theorem d_MD_trap_108 : decode c_MD_trap 108 = .ok (.iconst 4, 1) := by decide +kernel
theorem d_MD_trap_109 : decode c_MD_trap 109 = .ok (.iadd, 1) := by decide +kernel
theorem d_MD_trap_110 : decode c_MD_trap 110 = .ok (.iaload, 1) := by decide +kernel
theorem d_MD_trap_111 : decode c_MD_trap 111 = .ok (.ifCond .ne 7, 3) := by decide +kernel
theorem d_MD_trap_114 : decode c_MD_trap 114 = .ok (.iconst 0, 1) := by decide +kernel
theorem d_MD_trap_115 : decode c_MD_trap 115 = .ok (.goto 4, 3) := by decide +kernel
theorem d_MD_trap_118 : decode c_MD_trap 118 = .ok (.iconst 1, 1) := by decide +kernel
theorem d_MD_trap_119 : decode c_MD_trap 119 = .ok (.iastore, 1) := by decide +kernel
theorem d_MD_trap_120 : decode c_MD_trap 120 = .ok (.aload_n 0, 1) := by decide +kernel
theorem d_MD_trap_121 : decode c_MD_trap 121 = .ok (.getfield 41, 3) := by decide +kernel
theorem d_MD_trap_124 : decode c_MD_trap 124 = .ok (.aload_n 0, 1) := by decide +kernel
theorem d_MD_trap_125 : decode c_MD_trap 125 = .ok (.getfield 261, 3) := by decide +kernel
theorem d_MD_trap_128 : decode c_MD_trap 128 = .ok (.aload_n 0, 1) := by decide +kernel
theorem d_MD_trap_129 : decode c_MD_trap 129 = .ok (.getfield 32, 3) := by decide +kernel
theorem d_MD_trap_132 : decode c_MD_trap 132 = .ok (.iload 4, 2) := by decide +kernel
theorem d_MD_trap_134 : decode c_MD_trap 134 = .ok (.iconst 5, 1) := by decide +kernel
theorem d_MD_trap_135 : decode c_MD_trap 135 = .ok (.iadd, 1) := by decide +kernel
theorem d_MD_trap_136 : decode c_MD_trap 136 = .ok (.iaload, 1) := by decide +kernel
theorem d_MD_trap_137 : decode c_MD_trap 137 = .ok (.iastore, 1) := by decide +kernel
theorem d_MD_trap_138 : decode c_MD_trap 138 = .ok (.aload_n 0, 1) := by decide +kernel
theorem d_MD_trap_139 : decode c_MD_trap 139 = .ok (.getfield 44, 3) := by decide +kernel
theorem d_MD_trap_142 : decode c_MD_trap 142 = .ok (.aload_n 0, 1) := by decide +kernel
theorem d_MD_trap_143 : decode c_MD_trap 143 = .ok (.getfield 261, 3) := by decide +kernel
theorem d_MD_trap_146 : decode c_MD_trap 146 = .ok (.aload_n 0, 1) := by decide +kernel
theorem d_MD_trap_147 : decode c_MD_trap 147 = .ok (.getfield 32, 3) := by decide +kernel
theorem d_MD_trap_150 : decode c_MD_trap 150 = .ok (.iload 4, 2) := by decide +kernel
theorem d_MD_trap_152 : decode c_MD_trap 152 = .ok (.bipush 6, 2) := by decide +kernel
theorem d_MD_trap_154 : decode c_MD_trap 154 = .ok (.iadd, 1) := by decide +kernel
theorem d_MD_trap_155 : decode c_MD_trap 155 = .ok (.iaload, 1) := by decide +kernel
theorem d_MD_trap_156 : decode c_MD_trap 156 = .ok (.iastore, 1) := by decide +kernel
theorem d_MD_trap_157 : decode c_MD_trap 157 = .ok (.aload_n 0, 1) := by decide +kernel
theorem d_MD_trap_158 : decode c_MD_trap 158 = .ok (.getfield 47, 3) := by decide +kernel
theorem d_MD_trap_161 : decode c_MD_trap 161 = .ok (.aload_n 0, 1) := by decide +kernel
theorem d_MD_trap_162 : decode c_MD_trap 162 = .ok (.getfield 261, 3) := by decide +kernel
theorem d_MD_trap_165 : decode c_MD_trap 165 = .ok (.aload_n 0, 1) := by decide +kernel
theorem d_MD_trap_166 : decode c_MD_trap 166 = .ok (.getfield 32, 3) := by decide +kernel
theorem d_MD_trap_169 : decode c_MD_trap 169 = .ok (.iload 4, 2) := by decide +kernel
theorem d_MD_trap_171 : decode c_MD_trap 171 = .ok (.bipush 7, 2) := by decide +kernel
theorem d_MD_trap_173 : decode c_MD_trap 173 = .ok (.iadd, 1) := by decide +kernel
theorem d_MD_trap_174 : decode c_MD_trap 174 = .ok (.iaload, 1) := by decide +kernel
theorem d_MD_trap_175 : decode c_MD_trap 175 = .ok (.iastore, 1) := by decide +kernel
theorem d_MD_trap_176 : decode c_MD_trap 176 = .ok (.iload_n 1, 1) := by decide +kernel
theorem d_MD_trap_177 : decode c_MD_trap 177 = .ok (.iconst 4, 1) := by decide +kernel
theorem d_MD_trap_178 : decode c_MD_trap 178 = .ok (.if_icmp .ne 13, 3) := by decide +kernel
theorem d_MD_trap_181 : decode c_MD_trap 181 = .ok (.aload_n 0, 1) := by decide +kernel
theorem d_MD_trap_182 : decode c_MD_trap 182 = .ok (.getfield 53, 3) := by decide +kernel
theorem d_MD_trap_185 : decode c_MD_trap 185 = .ok (.aload_n 0, 1) := by decide +kernel
theorem d_MD_trap_186 : decode c_MD_trap 186 = .ok (.getfield 261, 3) := by decide +kernel
theorem d_MD_trap_189 : decode c_MD_trap 189 = .ok (.iconst 0, 1) := by decide +kernel
theorem d_MD_trap_190 : decode c_MD_trap 190 = .ok (.bastore, 1) := by decide +kernel
theorem d_MD_trap_191 : decode c_MD_trap 191 = .ok (.return_, 1) := by decide +kernel
theorem d_MD_bad_0 : decode c_MD_bad 0 = .ok (.iconst 0, 1) := by decide +kernel
theorem d_MD_bad_1 : decode c_MD_bad 1 = .ok (.istore_n 3, 1) := by decide +kernel
theorem d_MD_bad_2 : decode c_MD_bad 2 = .ok (.iload_n 3, 1) := by decide +kernel
theorem d_MD_bad_3 : decode c_MD_bad 3 = .ok (.iload_n 2, 1) := by decide +kernel
theorem d_MD_bad_4 : decode c_MD_bad 4 = .ok (.if_icmp .ge 29, 3) := by decide +kernel
theorem d_MD_bad_7 : decode c_MD_bad 7 = .ok (.aload_n 0, 1) := by decide +kernel
theorem d_MD_bad_8 : decode c_MD_bad 8 = .ok (.iload_n 1, 1) := by decide +kernel
theorem d_MD_bad_9 : decode c_MD_bad 9 = .ok (.iload_n 3, 1) := by decide +kernel
theorem d_MD_bad_10 : decode c_MD_bad 10 = .ok (.iadd, 1) := by decide +kernel
theorem d_MD_bad_11 : decode c_MD_bad 11 = .ok (.ldc 187, 2) := by decide +kernel
theorem d_MD_bad_13 : decode c_MD_bad 13 = .ok (.irem, 1) := by decide +kernel
theorem d_MD_bad_14 : decode c_MD_bad 14 = .ok (.invokevirtual 264, 3) := by decide +kernel
theorem d_MD_bad_17 : decode c_MD_bad 17 = .ok (.ifCond .ne 10, 3) := by decide +kernel
theorem d_MD_bad_20 : decode c_MD_bad 20 = .ok (.iload_n 1, 1) := by decide +kernel
theorem d_MD_bad_21 : decode c_MD_bad 21 = .ok (.iload_n 3, 1) := by decide +kernel
theorem d_MD_bad_22 : decode c_MD_bad 22 = .ok (.iadd, 1) := by decide +kernel
theorem d_MD_bad_23 : decode c_MD_bad 23 = .ok (.ldc 187, 2) := by decide +kernel
theorem d_MD_bad_25 : decode c_MD_bad 25 = .ok (.irem, 1) := by decide +kernel
theorem d_MD_bad_26 : decode c_MD_bad 26 = .ok (.ireturn, 1) := by decide +kernel
theorem d_MD_bad_27 : decode c_MD_bad 27 = .ok (.iinc 3 1, 3) := by decide +kernel
theorem d_MD_bad_30 : decode c_MD_bad 30 = .ok (.goto (-28), 3) := by decide +kernel
theorem d_MD_bad_33 : decode c_MD_bad 33 = .ok (.iconst (-1), 1) := by decide +kernel
theorem d_MD_bad_34 : decode c_MD_bad 34 = .ok (.ireturn, 1) := by decide +kernel
theorem d_MD_step_0 : decode c_MD_step 0 = .ok (.aload_n 0, 1) := by decide +kernel
theorem d_MD_step_1 : decode c_MD_step 1 = .ok (.getfield 59, 3) := by decide +kernel
theorem d_MD_step_4 : decode c_MD_step 4 = .ok (.aload_n 0, 1) := by decide +kernel
theorem d_MD_step_5 : decode c_MD_step 5 = .ok (.getfield 261, 3) := by decide +kernel
theorem d_MD_step_8 : decode c_MD_step 8 = .ok (.dup2, 1) := by decide +kernel
theorem d_MD_step_9 : decode c_MD_step 9 = .ok (.iaload, 1) := by decide +kernel
theorem d_MD_step_10 : decode c_MD_step 10 = .ok (.iconst 1, 1) := by decide +kernel
theorem d_MD_step_11 : decode c_MD_step 11 = .ok (.iadd, 1) := by decide +kernel
theorem d_MD_step_12 : decode c_MD_step 12 = .ok (.iastore, 1) := by decide +kernel
theorem d_MD_step_13 : decode c_MD_step 13 = .ok (.aload_n 0, 1) := by decide +kernel
theorem d_MD_step_14 : decode c_MD_step 14 = .ok (.getfield 41, 3) := by decide +kernel
theorem d_MD_step_17 : decode c_MD_step 17 = .ok (.aload_n 0, 1) := by decide +kernel
theorem d_MD_step_18 : decode c_MD_step 18 = .ok (.getfield 261, 3) := by decide +kernel
theorem d_MD_step_21 : decode c_MD_step 21 = .ok (.iaload, 1) := by decide +kernel
theorem d_MD_step_22 : decode c_MD_step 22 = .ok (.istore_n 1, 1) := by decide +kernel
theorem d_MD_step_23 : decode c_MD_step 23 = .ok (.aload_n 0, 1) := by decide +kernel
theorem d_MD_step_24 : decode c_MD_step 24 = .ok (.getfield 38, 3) := by decide +kernel
theorem d_MD_step_27 : decode c_MD_step 27 = .ok (.aload_n 0, 1) := by decide +kernel
theorem d_MD_step_28 : decode c_MD_step 28 = .ok (.getfield 261, 3) := by decide +kernel
theorem d_MD_step_31 : decode c_MD_step 31 = .ok (.iaload, 1) := by decide +kernel
theorem d_MD_step_32 : decode c_MD_step 32 = .ok (.iconst 1, 1) := by decide +kernel
theorem d_MD_step_33 : decode c_MD_step 33 = .ok (.if_icmp .ne 23, 3) := by decide +kernel
theorem d_MD_step_36 : decode c_MD_step 36 = .ok (.aload_n 0, 1) := by decide +kernel
theorem d_MD_step_37 : decode c_MD_step 37 = .ok (.getfield 53, 3) := by decide +kernel
theorem d_MD_step_40 : decode c_MD_step 40 = .ok (.aload_n 0, 1) := by decide +kernel
theorem d_MD_step_41 : decode c_MD_step 41 = .ok (.getfield 261, 3) := by decide +kernel
theorem d_MD_step_44 : decode c_MD_step 44 = .ok (.baload, 1) := by decide +kernel
theorem d_MD_step_45 : decode c_MD_step 45 = .ok (.ifCond .eq 11, 3) := by decide +kernel
theorem d_MD_step_48 : decode c_MD_step 48 = .ok (.aload_n 0, 1) := by decide +kernel
theorem d_MD_step_49 : decode c_MD_step 49 = .ok (.iconst 4, 1) := by decide +kernel
theorem d_MD_step_50 : decode c_MD_step 50 = .ok (.iconst 0, 1) := by decide +kernel
theorem d_MD_step_51 : decode c_MD_step 51 = .ok (.iload_n 1, 1) := by decide +kernel
theorem d_MD_step_52 : decode c_MD_step 52 = .ok (.invokevirtual 267, 3) := by decide +kernel
theorem d_MD_step_55 : decode c_MD_step 55 = .ok (.return_, 1) := by decide +kernel
theorem d_MD_step_56 : decode c_MD_step 56 = .ok (.aload_n 0, 1) := by decide +kernel
theorem d_MD_step_57 : decode c_MD_step 57 = .ok (.iload_n 1, 1) := by decide +kernel
theorem d_MD_step_58 : decode c_MD_step 58 = .ok (.iconst 2, 1) := by decide +kernel
theorem d_MD_step_59 : decode c_MD_step 59 = .ok (.invokevirtual 270, 3) := by decide +kernel
theorem d_MD_step_62 : decode c_MD_step 62 = .ok (.istore_n 2, 1) := by decide +kernel
theorem d_MD_step_63 : decode c_MD_step 63 = .ok (.iload_n 2, 1) := by decide +kernel
theorem d_MD_step_64 : decode c_MD_step 64 = .ok (.ifCond .lt 11, 3) := by decide +kernel
theorem d_MD_step_67 : decode c_MD_step 67 = .ok (.aload_n 0, 1) := by decide +kernel
theorem d_MD_step_68 : decode c_MD_step 68 = .ok (.iconst 2, 1) := by decide +kernel
theorem d_MD_step_69 : decode c_MD_step 69 = .ok (.iload_n 2, 1) := by decide +kernel
theorem d_MD_step_70 : decode c_MD_step 70 = .ok (.iload_n 1, 1) := by decide +kernel
theorem d_MD_step_71 : decode c_MD_step 71 = .ok (.invokevirtual 267, 3) := by decide +kernel
theorem d_MD_step_74 : decode c_MD_step 74 = .ok (.return_, 1) := by decide +kernel
theorem d_MD_step_75 : decode c_MD_step 75 = .ok (.aload_n 0, 1) := by decide +kernel
theorem d_MD_step_76 : decode c_MD_step 76 = .ok (.iload_n 1, 1) := by decide +kernel
theorem d_MD_step_77 : decode c_MD_step 77 = .ok (.invokevirtual 273, 3) := by decide +kernel
theorem d_MD_step_80 : decode c_MD_step 80 = .ok (.istore_n 3, 1) := by decide +kernel
theorem d_MD_step_81 : decode c_MD_step 81 = .ok (.aload_n 0, 1) := by decide +kernel
theorem d_MD_step_82 : decode c_MD_step 82 = .ok (.iload_n 1, 1) := by decide +kernel
theorem d_MD_step_83 : decode c_MD_step 83 = .ok (.iconst 1, 1) := by decide +kernel
theorem d_MD_step_84 : decode c_MD_step 84 = .ok (.iadd, 1) := by decide +kernel
theorem d_MD_step_85 : decode c_MD_step 85 = .ok (.ldc 187, 2) := by decide +kernel
theorem d_MD_step_87 : decode c_MD_step 87 = .ok (.irem, 1) := by decide +kernel
theorem d_MD_step_88 : decode c_MD_step 88 = .ok (.invokevirtual 273, 3) := by decide +kernel
theorem d_MD_step_91 : decode c_MD_step 91 = .ok (.istore 4, 2) := by decide +kernel
theorem d_MD_step_93 : decode c_MD_step 93 = .ok (.iload_n 3, 1) := by decide +kernel
theorem d_MD_step_94 : decode c_MD_step 94 = .ok (.bipush 64, 2) := by decide +kernel
theorem d_MD_step_96 : decode c_MD_step 96 = .ok (.idiv, 1) := by decide +kernel
theorem d_MD_step_97 : decode c_MD_step 97 = .ok (.istore 5, 2) := by decide +kernel
theorem d_MD_step_99 : decode c_MD_step 99 = .ok (.iload 5, 2) := by decide +kernel
theorem d_MD_step_101 : decode c_MD_step 101 = .ok (.bipush 24, 2) := by decide +kernel
theorem d_MD_step_103 : decode c_MD_step 103 = .ok (.if_icmp .le 11, 3) := by decide +kernel
theorem d_MD_step_106 : decode c_MD_step 106 = .ok (.aload_n 0, 1) := by decide +kernel
theorem d_MD_step_107 : decode c_MD_step 107 = .ok (.iconst 5, 1) := by decide +kernel
theorem d_MD_step_108 : decode c_MD_step 108 = .ok (.iload_n 3, 1) := by decide +kernel
theorem d_MD_step_109 : decode c_MD_step 109 = .ok (.iload_n 1, 1) := by decide +kernel
theorem d_MD_step_110 : decode c_MD_step 110 = .ok (.invokevirtual 267, 3) := by decide +kernel
theorem d_MD_step_113 : decode c_MD_step 113 = .ok (.return_, 1) := by decide +kernel
theorem d_MD_step_114 : decode c_MD_step 114 = .ok (.aload_n 0, 1) := by decide +kernel
theorem d_MD_step_115 : decode c_MD_step 115 = .ok (.getfield 38, 3) := by decide +kernel
theorem d_MD_step_118 : decode c_MD_step 118 = .ok (.aload_n 0, 1) := by decide +kernel
theorem d_MD_step_119 : decode c_MD_step 119 = .ok (.getfield 261, 3) := by decide +kernel
theorem d_MD_step_122 : decode c_MD_step 122 = .ok (.iaload, 1) := by decide +kernel
theorem d_MD_step_123 : decode c_MD_step 123 = .ok (.iconst 1, 1) := by decide +kernel
theorem d_MD_step_124 : decode c_MD_step 124 = .ok (.if_icmp .ne 23, 3) := by decide +kernel
theorem d_MD_step_127 : decode c_MD_step 127 = .ok (.iload 5, 2) := by decide +kernel
theorem d_MD_step_129 : decode c_MD_step 129 = .ok (.ifCond .eq 10, 3) := by decide +kernel
theorem d_MD_step_132 : decode c_MD_step 132 = .ok (.iload 5, 2) := by decide +kernel
theorem d_MD_step_134 : decode c_MD_step 134 = .ok (.bipush 16, 2) := by decide +kernel
theorem d_MD_step_136 : decode c_MD_step 136 = .ok (.if_icmp .le 11, 3) := by decide +kernel
theorem d_MD_step_139 : decode c_MD_step 139 = .ok (.aload_n 0, 1) := by decide +kernel
theorem d_MD_step_140 : decode c_MD_step 140 = .ok (.iconst 1, 1) := by decide +kernel
theorem d_MD_step_141 : decode c_MD_step 141 = .ok (.iload_n 3, 1) := by decide +kernel
theorem d_MD_step_142 : decode c_MD_step 142 = .ok (.iload_n 1, 1) := by decide +kernel
theorem d_MD_step_143 : decode c_MD_step 143 = .ok (.invokevirtual 267, 3) := by decide +kernel
theorem d_MD_step_146 : decode c_MD_step 146 = .ok (.return_, 1) := by decide +kernel
theorem d_MD_step_147 : decode c_MD_step 147 = .ok (.iload 5, 2) := by decide +kernel
theorem d_MD_step_149 : decode c_MD_step 149 = .ok (.iconst 4, 1) := by decide +kernel
theorem d_MD_step_150 : decode c_MD_step 150 = .ok (.if_icmp .eq 16, 3) := by decide +kernel
theorem d_MD_step_153 : decode c_MD_step 153 = .ok (.iload 5, 2) := by decide +kernel
theorem d_MD_step_155 : decode c_MD_step 155 = .ok (.iconst 5, 1) := by decide +kernel
theorem d_MD_step_156 : decode c_MD_step 156 = .ok (.if_icmp .eq 10, 3) := by decide +kernel
theorem d_MD_step_159 : decode c_MD_step 159 = .ok (.iload 5, 2) := by decide +kernel
theorem d_MD_step_161 : decode c_MD_step 161 = .ok (.bipush 22, 2) := by decide +kernel
theorem d_MD_step_163 : decode c_MD_step 163 = .ok (.if_icmp .le 29, 3) := by decide +kernel
theorem d_MD_step_166 : decode c_MD_step 166 = .ok (.aload_n 0, 1) := by decide +kernel
theorem d_MD_step_167 : decode c_MD_step 167 = .ok (.getfield 35, 3) := by decide +kernel
theorem d_MD_step_170 : decode c_MD_step 170 = .ok (.bipush 8, 2) := by decide +kernel
theorem d_MD_step_172 : decode c_MD_step 172 = .ok (.aload_n 0, 1) := by decide +kernel
theorem d_MD_step_173 : decode c_MD_step 173 = .ok (.getfield 261, 3) := by decide +kernel
theorem d_MD_step_176 : decode c_MD_step 176 = .ok (.imul, 1) := by decide +kernel
theorem d_MD_step_177 : decode c_MD_step 177 = .ok (.iload_n 3, 1) := by decide +kernel
theorem d_MD_step_178 : decode c_MD_step 178 = .ok (.bipush 8, 2) := by decide +kernel
theorem d_MD_step_180 : decode c_MD_step 180 = .ok (.irem, 1) := by decide +kernel
theorem d_MD_step_181 : decode c_MD_step 181 = .ok (.iadd, 1) := by decide +kernel
theorem d_MD_step_182 : decode c_MD_step 182 = .ok (.iaload, 1) := by decide +kernel
theorem d_MD_step_183 : decode c_MD_step 183 = .ok (.iload 4, 2) := by decide +kernel
theorem d_MD_step_185 : decode c_MD_step 185 = .ok (.iadd, 1) := by decide +kernel
theorem d_MD_step_186 : decode c_MD_step 186 = .ok (.ldc 187, 2) := by decide +kernel
theorem d_MD_step_188 : decode c_MD_step 188 = .ok (.irem, 1) := by decide +kernel
theorem d_MD_step_189 : decode c_MD_step 189 = .ok (.goto 5, 3) := by decide +kernel
theorem d_MD_step_192 : decode c_MD_step 192 = .ok (.iload 4, 2) := by decide +kernel
theorem d_MD_step_194 : decode c_MD_step 194 = .ok (.istore 6, 2) := by decide +kernel
theorem d_MD_step_196 : decode c_MD_step 196 = .ok (.iload 5, 2) := by decide +kernel
theorem d_MD_step_198 : decode c_MD_step 198 = .ok (.iconst 1, 1) := by decide +kernel
theorem d_MD_step_199 : decode c_MD_step 199 = .ok (.if_icmp .le 14, 3) := by decide +kernel
theorem d_MD_step_202 : decode c_MD_step 202 = .ok (.iload 5, 2) := by decide +kernel
theorem d_MD_step_204 : decode c_MD_step 204 = .ok (.bipush 6, 2) := by decide +kernel
theorem d_MD_step_206 : decode c_MD_step 206 = .ok (.if_icmp .ge 7, 3) := by decide +kernel
theorem d_MD_step_209 : decode c_MD_step 209 = .ok (.iconst 1, 1) := by decide +kernel
theorem d_MD_step_210 : decode c_MD_step 210 = .ok (.goto 34, 3) := by decide +kernel
theorem d_MD_step_213 : decode c_MD_step 213 = .ok (.iload 5, 2) := by decide +kernel
theorem d_MD_step_215 : decode c_MD_step 215 = .ok (.bipush 17, 2) := by decide +kernel
theorem d_MD_step_217 : decode c_MD_step 217 = .ok (.if_icmp .eq 10, 3) := by decide +kernel
theorem d_MD_step_220 : decode c_MD_step 220 = .ok (.iload 5, 2) := by decide +kernel
theorem d_MD_step_222 : decode c_MD_step 222 = .ok (.bipush 18, 2) := by decide +kernel
theorem d_MD_step_224 : decode c_MD_step 224 = .ok (.if_icmp .ne 7, 3) := by decide +kernel
theorem d_MD_step_227 : decode c_MD_step 227 = .ok (.iconst 4, 1) := by decide +kernel
theorem d_MD_step_228 : decode c_MD_step 228 = .ok (.goto 16, 3) := by decide +kernel
theorem d_MD_step_231 : decode c_MD_step 231 = .ok (.iload 5, 2) := by decide +kernel
theorem d_MD_step_233 : decode c_MD_step 233 = .ok (.bipush 22, 2) := by decide +kernel
theorem d_MD_step_235 : decode c_MD_step 235 = .ok (.if_icmp .le 8, 3) := by decide +kernel
theorem d_MD_step_238 : decode c_MD_step 238 = .ok (.bipush 16, 2) := by decide +kernel
theorem d_MD_step_240 : decode c_MD_step 240 = .ok (.goto 4, 3) := by decide +kernel
theorem d_MD_step_243 : decode c_MD_step 243 = .ok (.iconst 0, 1) := by decide +kernel
theorem d_MD_step_244 : decode c_MD_step 244 = .ok (.istore 7, 2) := by decide +kernel
theorem d_MD_step_246 : decode c_MD_step 246 = .ok (.aload_n 0, 1) := by decide +kernel
theorem d_MD_step_247 : decode c_MD_step 247 = .ok (.iload 6, 2) := by decide +kernel
theorem d_MD_step_249 : decode c_MD_step 249 = .ok (.iload 7, 2) := by decide +kernel
theorem d_MD_step_251 : decode c_MD_step 251 = .ok (.invokevirtual 270, 3) := by decide +kernel
theorem d_MD_step_254 : decode c_MD_step 254 = .ok (.istore_n 2, 1) := by decide +kernel
theorem d_MD_step_255 : decode c_MD_step 255 = .ok (.iload_n 2, 1) := by decide +kernel
theorem d_MD_step_256 : decode c_MD_step 256 = .ok (.ifCond .lt 11, 3) := by decide +kernel
theorem d_MD_step_259 : decode c_MD_step 259 = .ok (.aload_n 0, 1) := by decide +kernel
theorem d_MD_step_260 : decode c_MD_step 260 = .ok (.iconst 2, 1) := by decide +kernel
theorem d_MD_step_261 : decode c_MD_step 261 = .ok (.iload_n 2, 1) := by decide +kernel
theorem d_MD_step_262 : decode c_MD_step 262 = .ok (.iload_n 1, 1) := by decide +kernel
theorem d_MD_step_263 : decode c_MD_step 263 = .ok (.invokevirtual 267, 3) := by decide +kernel
theorem d_MD_step_266 : decode c_MD_step 266 = .ok (.return_, 1) := by decide +kernel
theorem d_MD_step_267 : decode c_MD_step 267 = .ok (.iload 5, 2) := by decide +kernel
theorem d_MD_step_269 : decode c_MD_step 269 = .ok (.bipush 16, 2) := by decide +kernel
theorem d_MD_step_271 : decode c_MD_step 271 = .ok (.if_icmp .ne 17, 3) := by decide +kernel
theorem d_MD_step_274 : decode c_MD_step 274 = .ok (.aload_n 0, 1) := by decide +kernel
theorem d_MD_step_275 : decode c_MD_step 275 = .ok (.iconst 3, 1) := by decide +kernel
theorem d_MD_step_276 : decode c_MD_step 276 = .ok (.iload 4, 2) := by decide +kernel
theorem d_MD_step_278 : decode c_MD_step 278 = .ok (.iload_n 1, 1) := by decide +kernel
theorem d_MD_step_279 : decode c_MD_step 279 = .ok (.iconst 2, 1) := by decide +kernel
theorem d_MD_step_280 : decode c_MD_step 280 = .ok (.iadd, 1) := by decide +kernel
theorem d_MD_step_281 : decode c_MD_step 281 = .ok (.ldc 187, 2) := by decide +kernel
theorem d_MD_step_283 : decode c_MD_step 283 = .ok (.irem, 1) := by decide +kernel
theorem d_MD_step_284 : decode c_MD_step 284 = .ok (.invokevirtual 267, 3) := by decide +kernel
theorem d_MD_step_287 : decode c_MD_step 287 = .ok (.return_, 1) := by decide +kernel
theorem d_MD_step_288 : decode c_MD_step 288 = .ok (.aload_n 0, 1) := by decide +kernel
theorem d_MD_step_289 : decode c_MD_step 289 = .ok (.getfield 38, 3) := by decide +kernel
theorem d_MD_step_292 : decode c_MD_step 292 = .ok (.aload_n 0, 1) := by decide +kernel
theorem d_MD_step_293 : decode c_MD_step 293 = .ok (.getfield 261, 3) := by decide +kernel
theorem d_MD_step_296 : decode c_MD_step 296 = .ok (.iaload, 1) := by decide +kernel
theorem d_MD_step_297 : decode c_MD_step 297 = .ok (.iconst 1, 1) := by decide +kernel
theorem d_MD_step_298 : decode c_MD_step 298 = .ok (.if_icmp .ne 19, 3) := by decide +kernel
theorem d_MD_step_301 : decode c_MD_step 301 = .ok (.aload_n 0, 1) := by decide +kernel
theorem d_MD_step_302 : decode c_MD_step 302 = .ok (.getfield 50, 3) := by decide +kernel
theorem d_MD_step_305 : decode c_MD_step 305 = .ok (.aload_n 0, 1) := by decide +kernel
theorem d_MD_step_306 : decode c_MD_step 306 = .ok (.getfield 261, 3) := by decide +kernel
theorem d_MD_step_309 : decode c_MD_step 309 = .ok (.iaload, 1) := by decide +kernel
theorem d_MD_step_310 : decode c_MD_step 310 = .ok (.ifCond .le 7, 3) := by decide +kernel
theorem d_MD_step_313 : decode c_MD_step 313 = .ok (.iconst 1, 1) := by decide +kernel
theorem d_MD_step_314 : decode c_MD_step 314 = .ok (.goto 4, 3) := by decide +kernel
theorem d_MD_step_317 : decode c_MD_step 317 = .ok (.iconst 0, 1) := by decide +kernel
theorem d_MD_step_318 : decode c_MD_step 318 = .ok (.istore 8, 2) := by decide +kernel
theorem d_MD_step_320 : decode c_MD_step 320 = .ok (.aload_n 0, 1) := by decide +kernel
theorem d_MD_step_321 : decode c_MD_step 321 = .ok (.getfield 41, 3) := by decide +kernel
theorem d_MD_step_324 : decode c_MD_step 324 = .ok (.aload_n 0, 1) := by decide +kernel
theorem d_MD_step_325 : decode c_MD_step 325 = .ok (.getfield 261, 3) := by decide +kernel
theorem d_MD_step_328 : decode c_MD_step 328 = .ok (.iload_n 1, 1) := by decide +kernel
theorem d_MD_step_329 : decode c_MD_step 329 = .ok (.iconst 2, 1) := by decide +kernel
theorem d_MD_step_330 : decode c_MD_step 330 = .ok (.iadd, 1) := by decide +kernel
theorem d_MD_step_331 : decode c_MD_step 331 = .ok (.ldc 187, 2) := by decide +kernel
theorem d_MD_step_333 : decode c_MD_step 333 = .ok (.irem, 1) := by decide +kernel
theorem d_MD_step_334 : decode c_MD_step 334 = .ok (.iastore, 1) := by decide +kernel
theorem d_MD_step_335 : decode c_MD_step 335 = .ok (.aload_n 0, 1) := by decide +kernel
theorem d_MD_step_336 : decode c_MD_step 336 = .ok (.iload 5, 2) := by decide +kernel
theorem d_MD_step_338 : decode c_MD_step 338 = .ok (.iload_n 3, 1) := by decide +kernel
theorem d_MD_step_339 : decode c_MD_step 339 = .ok (.bipush 8, 2) := by decide +kernel
theorem d_MD_step_341 : decode c_MD_step 341 = .ok (.idiv, 1) := by decide +kernel
theorem d_MD_step_342 : decode c_MD_step 342 = .ok (.bipush 8, 2) := by decide +kernel
theorem d_MD_step_344 : decode c_MD_step 344 = .ok (.irem, 1) := by decide +kernel
theorem d_MD_step_345 : decode c_MD_step 345 = .ok (.iload_n 3, 1) := by decide +kernel
theorem d_MD_step_346 : decode c_MD_step 346 = .ok (.bipush 8, 2) := by decide +kernel
theorem d_MD_step_348 : decode c_MD_step 348 = .ok (.irem, 1) := by decide +kernel
theorem d_MD_step_349 : decode c_MD_step 349 = .ok (.iload 4, 2) := by decide +kernel
theorem d_MD_step_351 : decode c_MD_step 351 = .ok (.iload 6, 2) := by decide +kernel
theorem d_MD_step_353 : decode c_MD_step 353 = .ok (.iload_n 1, 1) := by decide +kernel
theorem d_MD_step_354 : decode c_MD_step 354 = .ok (.invokevirtual 276, 3) := by decide +kernel
theorem d_MD_step_357 : decode c_MD_step 357 = .ok (.iload 8, 2) := by decide +kernel
theorem d_MD_step_359 : decode c_MD_step 359 = .ok (.ifCond .ne 4, 3) := by decide +kernel
theorem d_MD_step_362 : decode c_MD_step 362 = .ok (.return_, 1) := by decide +kernel
theorem d_MD_step_363 : decode c_MD_step 363 = .ok (.aload_n 0, 1) := by decide +kernel
theorem d_MD_step_364 : decode c_MD_step 364 = .ok (.getfield 50, 3) := by decide +kernel
theorem d_MD_step_367 : decode c_MD_step 367 = .ok (.aload_n 0, 1) := by decide +kernel
theorem d_MD_step_368 : decode c_MD_step 368 = .ok (.getfield 261, 3) := by decide +kernel
theorem d_MD_step_371 : decode c_MD_step 371 = .ok (.dup2, 1) := by decide +kernel
theorem d_MD_step_372 : decode c_MD_step 372 = .ok (.iaload, 1) := by decide +kernel
theorem d_MD_step_373 : decode c_MD_step 373 = .ok (.iconst 1, 1) := by decide +kernel
theorem d_MD_step_374 : decode c_MD_step 374 = .ok (.isub, 1) := by decide +kernel
theorem d_MD_step_375 : decode c_MD_step 375 = .ok (.iastore, 1) := by decide +kernel
theorem d_MD_step_376 : decode c_MD_step 376 = .ok (.aload_n 0, 1) := by decide +kernel
theorem d_MD_step_377 : decode c_MD_step 377 = .ok (.getfield 53, 3) := by decide +kernel
theorem d_MD_step_380 : decode c_MD_step 380 = .ok (.aload_n 0, 1) := by decide +kernel
theorem d_MD_step_381 : decode c_MD_step 381 = .ok (.getfield 261, 3) := by decide +kernel
theorem d_MD_step_384 : decode c_MD_step 384 = .ok (.aload_n 0, 1) := by decide +kernel
theorem d_MD_step_385 : decode c_MD_step 385 = .ok (.getfield 50, 3) := by decide +kernel
theorem d_MD_step_388 : decode c_MD_step 388 = .ok (.aload_n 0, 1) := by decide +kernel
theorem d_MD_step_389 : decode c_MD_step 389 = .ok (.getfield 261, 3) := by decide +kernel
theorem d_MD_step_392 : decode c_MD_step 392 = .ok (.iaload, 1) := by decide +kernel
theorem d_MD_step_393 : decode c_MD_step 393 = .ok (.ifCond .ne 7, 3) := by decide +kernel
theorem d_MD_step_396 : decode c_MD_step 396 = .ok (.iconst 1, 1) := by decide +kernel
theorem d_MD_step_397 : decode c_MD_step 397 = .ok (.goto 4, 3) := by decide +kernel
theorem d_MD_step_400 : decode c_MD_step 400 = .ok (.iconst 0, 1) := by decide +kernel
theorem d_MD_step_401 : decode c_MD_step 401 = .ok (.bastore, 1) := by decide +kernel
theorem d_MD_step_402 : decode c_MD_step 402 = .ok (.return_, 1) := by decide +kernel
theorem d_MD_does_0 : decode c_MD_does 0 = .ok (.bipush 8, 2) := by decide +kernel
theorem d_MD_does_2 : decode c_MD_does 2 = .ok (.aload_n 0, 1) := by decide +kernel
theorem d_MD_does_3 : decode c_MD_does 3 = .ok (.getfield 261, 3) := by decide +kernel
theorem d_MD_does_6 : decode c_MD_does 6 = .ok (.imul, 1) := by decide +kernel
theorem d_MD_does_7 : decode c_MD_does 7 = .ok (.iload_n 2, 1) := by decide +kernel
theorem d_MD_does_8 : decode c_MD_does 8 = .ok (.iadd, 1) := by decide +kernel
theorem d_MD_does_9 : decode c_MD_does 9 = .ok (.istore 7, 2) := by decide +kernel
theorem d_MD_does_11 : decode c_MD_does 11 = .ok (.aload_n 0, 1) := by decide +kernel
theorem d_MD_does_12 : decode c_MD_does 12 = .ok (.getfield 35, 3) := by decide +kernel
theorem d_MD_does_15 : decode c_MD_does 15 = .ok (.iload 7, 2) := by decide +kernel
theorem d_MD_does_17 : decode c_MD_does 17 = .ok (.iaload, 1) := by decide +kernel
theorem d_MD_does_18 : decode c_MD_does 18 = .ok (.istore 8, 2) := by decide +kernel
theorem d_MD_does_20 : decode c_MD_does 20 = .ok (.aload_n 0, 1) := by decide +kernel
theorem d_MD_does_21 : decode c_MD_does 21 = .ok (.getfield 35, 3) := by decide +kernel
theorem d_MD_does_24 : decode c_MD_does 24 = .ok (.bipush 8, 2) := by decide +kernel
theorem d_MD_does_26 : decode c_MD_does 26 = .ok (.aload_n 0, 1) := by decide +kernel
theorem d_MD_does_27 : decode c_MD_does 27 = .ok (.getfield 261, 3) := by decide +kernel
theorem d_MD_does_30 : decode c_MD_does 30 = .ok (.imul, 1) := by decide +kernel
theorem d_MD_does_31 : decode c_MD_does 31 = .ok (.iload_n 3, 1) := by decide +kernel
theorem d_MD_does_32 : decode c_MD_does 32 = .ok (.iadd, 1) := by decide +kernel
theorem d_MD_does_33 : decode c_MD_does 33 = .ok (.iaload, 1) := by decide +kernel
theorem d_MD_does_34 : decode c_MD_does 34 = .ok (.istore 9, 2) := by decide +kernel
theorem d_MD_does_36 : decode c_MD_does 36 = .ok (.iload_n 1, 1) := by decide +kernel
theorem d_MD_does_37 : decode c_MD_does 37 = .ok (.tableswitch 347 0 15 #[79, 103, 115, 131, 115, 131, 142, 154, 172, 193, 208, 230, 272, 286, 305, 319], 79) := by decide +kernel
theorem d_MD_does_116 : decode c_MD_does 116 = .ok (.aload_n 0, 1) := by decide +kernel
theorem d_MD_does_117 : decode c_MD_does 117 = .ok (.getfield 56, 3) := by decide +kernel
theorem d_MD_does_120 : decode c_MD_does 120 = .ok (.aload_n 0, 1) := by decide +kernel
theorem d_MD_does_121 : decode c_MD_does 121 = .ok (.getfield 261, 3) := by decide +kernel
theorem d_MD_does_124 : decode c_MD_does 124 = .ok (.iconst 1, 1) := by decide +kernel
theorem d_MD_does_125 : decode c_MD_does 125 = .ok (.bastore, 1) := by decide +kernel
theorem d_MD_does_126 : decode c_MD_does 126 = .ok (.aload_n 0, 1) := by decide +kernel
theorem d_MD_does_127 : decode c_MD_does 127 = .ok (.getfield 41, 3) := by decide +kernel
theorem d_MD_does_130 : decode c_MD_does 130 = .ok (.aload_n 0, 1) := by decide +kernel
theorem d_MD_does_131 : decode c_MD_does 131 = .ok (.getfield 261, 3) := by decide +kernel
theorem d_MD_does_134 : decode c_MD_does 134 = .ok (.iload 6, 2) := by decide +kernel
theorem d_MD_does_136 : decode c_MD_does 136 = .ok (.iastore, 1) := by decide +kernel
theorem d_MD_does_137 : decode c_MD_does 137 = .ok (.goto 257, 3) := by decide +kernel
theorem d_MD_does_140 : decode c_MD_does 140 = .ok (.aload_n 0, 1) := by decide +kernel
theorem d_MD_does_141 : decode c_MD_does 141 = .ok (.getfield 35, 3) := by decide +kernel
theorem d_MD_does_144 : decode c_MD_does 144 = .ok (.iload 7, 2) := by decide +kernel
theorem d_MD_does_146 : decode c_MD_does 146 = .ok (.iload 4, 2) := by decide +kernel
theorem d_MD_does_148 : decode c_MD_does 148 = .ok (.iastore, 1) := by decide +kernel
theorem d_MD_does_149 : decode c_MD_does 149 = .ok (.goto 245, 3) := by decide +kernel
theorem d_MD_does_152 : decode c_MD_does 152 = .ok (.aload_n 0, 1) := by decide +kernel
theorem d_MD_does_153 : decode c_MD_does 153 = .ok (.getfield 35, 3) := by decide +kernel
theorem d_MD_does_156 : decode c_MD_does 156 = .ok (.iload 7, 2) := by decide +kernel
theorem d_MD_does_158 : decode c_MD_does 158 = .ok (.aload_n 0, 1) := by decide +kernel
theorem d_MD_does_159 : decode c_MD_does 159 = .ok (.iload 5, 2) := by decide +kernel
theorem d_MD_does_161 : decode c_MD_does 161 = .ok (.invokevirtual 273, 3) := by decide +kernel
theorem d_MD_does_164 : decode c_MD_does 164 = .ok (.iastore, 1) := by decide +kernel
theorem d_MD_does_165 : decode c_MD_does 165 = .ok (.goto 229, 3) := by decide +kernel
theorem d_MD_does_168 : decode c_MD_does 168 = .ok (.aload_n 0, 1) := by decide +kernel
theorem d_MD_does_169 : decode c_MD_does 169 = .ok (.iload 5, 2) := by decide +kernel
theorem d_MD_does_171 : decode c_MD_does 171 = .ok (.iload 8, 2) := by decide +kernel
theorem d_MD_does_173 : decode c_MD_does 173 = .ok (.invokevirtual 280, 3) := by decide +kernel
theorem d_MD_does_176 : decode c_MD_does 176 = .ok (.goto 218, 3) := by decide +kernel
theorem d_MD_does_179 : decode c_MD_does 179 = .ok (.aload_n 0, 1) := by decide +kernel
theorem d_MD_does_180 : decode c_MD_does 180 = .ok (.getfield 35, 3) := by decide +kernel
theorem d_MD_does_183 : decode c_MD_does 183 = .ok (.iload 7, 2) := by decide +kernel
theorem d_MD_does_185 : decode c_MD_does 185 = .ok (.iload 9, 2) := by decide +kernel
theorem d_MD_does_187 : decode c_MD_does 187 = .ok (.iastore, 1) := by decide +kernel
theorem d_MD_does_188 : decode c_MD_does 188 = .ok (.goto 206, 3) := by decide +kernel
theorem d_MD_does_191 : decode c_MD_does 191 = .ok (.aload_n 0, 1) := by decide +kernel
theorem d_MD_does_192 : decode c_MD_does 192 = .ok (.getfield 35, 3) := by decide +kernel
theorem d_MD_does_195 : decode c_MD_does 195 = .ok (.iload 7, 2) := by decide +kernel
theorem d_MD_does_197 : decode c_MD_does 197 = .ok (.iload 8, 2) := by decide +kernel
theorem d_MD_does_199 : decode c_MD_does 199 = .ok (.iload 9, 2) := by decide +kernel
theorem d_MD_does_201 : decode c_MD_does 201 = .ok (.iadd, 1) := by decide +kernel
theorem d_MD_does_202 : decode c_MD_does 202 = .ok (.ldc 187, 2) := by decide +kernel
theorem d_MD_does_204 : decode c_MD_does 204 = .ok (.irem, 1) := by decide +kernel
theorem d_MD_does_205 : decode c_MD_does 205 = .ok (.iastore, 1) := by decide +kernel
theorem d_MD_does_206 : decode c_MD_does 206 = .ok (.goto 188, 3) := by decide +kernel
theorem d_MD_does_209 : decode c_MD_does 209 = .ok (.aload_n 0, 1) := by decide +kernel
theorem d_MD_does_210 : decode c_MD_does 210 = .ok (.getfield 35, 3) := by decide +kernel
theorem d_MD_does_213 : decode c_MD_does 213 = .ok (.iload 7, 2) := by decide +kernel
theorem d_MD_does_215 : decode c_MD_does 215 = .ok (.iload 8, 2) := by decide +kernel
theorem d_MD_does_217 : decode c_MD_does 217 = .ok (.iload 9, 2) := by decide +kernel
theorem d_MD_does_219 : decode c_MD_does 219 = .ok (.isub, 1) := by decide +kernel
theorem d_MD_does_220 : decode c_MD_does 220 = .ok (.ldc 187, 2) := by decide +kernel
theorem d_MD_does_222 : decode c_MD_does 222 = .ok (.iadd, 1) := by decide +kernel
theorem d_MD_does_223 : decode c_MD_does 223 = .ok (.ldc 187, 2) := by decide +kernel
theorem d_MD_does_225 : decode c_MD_does 225 = .ok (.irem, 1) := by decide +kernel
theorem d_MD_does_226 : decode c_MD_does 226 = .ok (.iastore, 1) := by decide +kernel
theorem d_MD_does_227 : decode c_MD_does 227 = .ok (.goto 167, 3) := by decide +kernel
theorem d_MD_does_230 : decode c_MD_does 230 = .ok (.aload_n 0, 1) := by decide +kernel
theorem d_MD_does_231 : decode c_MD_does 231 = .ok (.getfield 35, 3) := by decide +kernel
theorem d_MD_does_234 : decode c_MD_does 234 = .ok (.iload 7, 2) := by decide +kernel
theorem d_MD_does_236 : decode c_MD_does 236 = .ok (.iload 8, 2) := by decide +kernel
theorem d_MD_does_238 : decode c_MD_does 238 = .ok (.iload 9, 2) := by decide +kernel
theorem d_MD_does_240 : decode c_MD_does 240 = .ok (.iand, 1) := by decide +kernel
theorem d_MD_does_241 : decode c_MD_does 241 = .ok (.iastore, 1) := by decide +kernel
theorem d_MD_does_242 : decode c_MD_does 242 = .ok (.goto 152, 3) := by decide +kernel
theorem d_MD_does_245 : decode c_MD_does 245 = .ok (.aload_n 0, 1) := by decide +kernel
theorem d_MD_does_246 : decode c_MD_does 246 = .ok (.getfield 35, 3) := by decide +kernel
theorem d_MD_does_249 : decode c_MD_does 249 = .ok (.iload 7, 2) := by decide +kernel
theorem d_MD_does_251 : decode c_MD_does 251 = .ok (.iload 8, 2) := by decide +kernel
theorem d_MD_does_253 : decode c_MD_does 253 = .ok (.iload 9, 2) := by decide +kernel
theorem d_MD_does_255 : decode c_MD_does 255 = .ok (.if_icmp .ge 7, 3) := by decide +kernel
theorem d_MD_does_258 : decode c_MD_does 258 = .ok (.iconst 1, 1) := by decide +kernel
theorem d_MD_does_259 : decode c_MD_does 259 = .ok (.goto 4, 3) := by decide +kernel
theorem d_MD_does_262 : decode c_MD_does 262 = .ok (.iconst 0, 1) := by decide +kernel
theorem d_MD_does_263 : decode c_MD_does 263 = .ok (.iastore, 1) := by decide +kernel
theorem d_MD_does_264 : decode c_MD_does 264 = .ok (.goto 130, 3) := by decide +kernel
theorem d_MD_does_267 : decode c_MD_does 267 = .ok (.aload_n 0, 1) := by decide +kernel
theorem d_MD_does_268 : decode c_MD_does 268 = .ok (.getfield 35, 3) := by decide +kernel
theorem d_MD_does_271 : decode c_MD_does 271 = .ok (.iload 7, 2) := by decide +kernel
theorem d_MD_does_273 : decode c_MD_does 273 = .ok (.iload 4, 2) := by decide +kernel
theorem d_MD_does_275 : decode c_MD_does 275 = .ok (.bipush 16, 2) := by decide +kernel
theorem d_MD_does_277 : decode c_MD_does 277 = .ok (.idiv, 1) := by decide +kernel
theorem d_MD_does_278 : decode c_MD_does 278 = .ok (.iconst 2, 1) := by decide +kernel
theorem d_MD_does_279 : decode c_MD_does 279 = .ok (.irem, 1) := by decide +kernel
theorem d_MD_does_280 : decode c_MD_does 280 = .ok (.ifCond .ne 17, 3) := by decide +kernel
theorem d_MD_does_283 : decode c_MD_does 283 = .ok (.iload 8, 2) := by decide +kernel
theorem d_MD_does_285 : decode c_MD_does 285 = .ok (.iload 4, 2) := by decide +kernel
theorem d_MD_does_287 : decode c_MD_does 287 = .ok (.bipush 16, 2) := by decide +kernel
theorem d_MD_does_289 : decode c_MD_does 289 = .ok (.irem, 1) := by decide +kernel
theorem d_MD_does_290 : decode c_MD_does 290 = .ok (.ishl, 1) := by decide +kernel
theorem d_MD_does_291 : decode c_MD_does 291 = .ok (.ldc 187, 2) := by decide +kernel
theorem d_MD_does_293 : decode c_MD_does 293 = .ok (.irem, 1) := by decide +kernel
theorem d_MD_does_294 : decode c_MD_does 294 = .ok (.goto 11, 3) := by decide +kernel
theorem d_MD_does_297 : decode c_MD_does 297 = .ok (.iload 8, 2) := by decide +kernel
theorem d_MD_does_299 : decode c_MD_does 299 = .ok (.iload 4, 2) := by decide +kernel
theorem d_MD_does_301 : decode c_MD_does 301 = .ok (.bipush 16, 2) := by decide +kernel
theorem d_MD_does_303 : decode c_MD_does 303 = .ok (.irem, 1) := by decide +kernel
theorem d_MD_does_304 : decode c_MD_does 304 = .ok (.ishr, 1) := by decide +kernel
theorem d_MD_does_305 : decode c_MD_does 305 = .ok (.iastore, 1) := by decide +kernel
theorem d_MD_does_306 : decode c_MD_does 306 = .ok (.goto 88, 3) := by decide +kernel
theorem d_MD_does_309 : decode c_MD_does 309 = .ok (.aload_n 0, 1) := by decide +kernel
theorem d_MD_does_310 : decode c_MD_does 310 = .ok (.getfield 41, 3) := by decide +kernel
theorem d_MD_does_313 : decode c_MD_does 313 = .ok (.aload_n 0, 1) := by decide +kernel
theorem d_MD_does_314 : decode c_MD_does 314 = .ok (.getfield 261, 3) := by decide +kernel
theorem d_MD_does_317 : decode c_MD_does 317 = .ok (.iload 4, 2) := by decide +kernel
theorem d_MD_does_319 : decode c_MD_does 319 = .ok (.iastore, 1) := by decide +kernel
theorem d_MD_does_320 : decode c_MD_does 320 = .ok (.goto 74, 3) := by decide +kernel
theorem d_MD_does_323 : decode c_MD_does 323 = .ok (.iload 8, 2) := by decide +kernel
theorem d_MD_does_325 : decode c_MD_does 325 = .ok (.ifCond .ne 69, 3) := by decide +kernel
theorem d_MD_does_328 : decode c_MD_does 328 = .ok (.aload_n 0, 1) := by decide +kernel
theorem d_MD_does_329 : decode c_MD_does 329 = .ok (.getfield 41, 3) := by decide +kernel
theorem d_MD_does_332 : decode c_MD_does 332 = .ok (.aload_n 0, 1) := by decide +kernel
theorem d_MD_does_333 : decode c_MD_does 333 = .ok (.getfield 261, 3) := by decide +kernel
theorem d_MD_does_336 : decode c_MD_does 336 = .ok (.iload 4, 2) := by decide +kernel
theorem d_MD_does_338 : decode c_MD_does 338 = .ok (.iastore, 1) := by decide +kernel
theorem d_MD_does_339 : decode c_MD_does 339 = .ok (.goto 55, 3) := by decide +kernel
theorem d_MD_does_342 : decode c_MD_does 342 = .ok (.aload_n 0, 1) := by decide +kernel
theorem d_MD_does_343 : decode c_MD_does 343 = .ok (.getfield 41, 3) := by decide +kernel
theorem d_MD_does_346 : decode c_MD_does 346 = .ok (.aload_n 0, 1) := by decide +kernel
theorem d_MD_does_347 : decode c_MD_does 347 = .ok (.getfield 261, 3) := by decide +kernel
theorem d_MD_does_350 : decode c_MD_does 350 = .ok (.iload 8, 2) := by decide +kernel
theorem d_MD_does_352 : decode c_MD_does 352 = .ok (.iastore, 1) := by decide +kernel
theorem d_MD_does_353 : decode c_MD_does 353 = .ok (.goto 41, 3) := by decide +kernel
theorem d_MD_does_356 : decode c_MD_does 356 = .ok (.aload_n 0, 1) := by decide +kernel
theorem d_MD_does_357 : decode c_MD_does 357 = .ok (.getfield 35, 3) := by decide +kernel
theorem d_MD_does_360 : decode c_MD_does 360 = .ok (.iload 7, 2) := by decide +kernel
theorem d_MD_does_362 : decode c_MD_does 362 = .ok (.iload 6, 2) := by decide +kernel
theorem d_MD_does_364 : decode c_MD_does 364 = .ok (.iconst 2, 1) := by decide +kernel
theorem d_MD_does_365 : decode c_MD_does 365 = .ok (.iadd, 1) := by decide +kernel
theorem d_MD_does_366 : decode c_MD_does 366 = .ok (.ldc 187, 2) := by decide +kernel
theorem d_MD_does_368 : decode c_MD_does 368 = .ok (.irem, 1) := by decide +kernel
theorem d_MD_does_369 : decode c_MD_does 369 = .ok (.iastore, 1) := by decide +kernel
theorem d_MD_does_370 : decode c_MD_does 370 = .ok (.aload_n 0, 1) := by decide +kernel
theorem d_MD_does_371 : decode c_MD_does 371 = .ok (.getfield 41, 3) := by decide +kernel
theorem d_MD_does_374 : decode c_MD_does 374 = .ok (.aload_n 0, 1) := by decide +kernel
theorem d_MD_does_375 : decode c_MD_does 375 = .ok (.getfield 261, 3) := by decide +kernel
theorem d_MD_does_378 : decode c_MD_does 378 = .ok (.iload 4, 2) := by decide +kernel
theorem d_MD_does_380 : decode c_MD_does 380 = .ok (.iastore, 1) := by decide +kernel
theorem d_MD_does_381 : decode c_MD_does 381 = .ok (.goto 13, 3) := by decide +kernel
theorem d_MD_does_384 : decode c_MD_does 384 = .ok (.aload_n 0, 1) := by decide +kernel
theorem d_MD_does_385 : decode c_MD_does 385 = .ok (.iload_n 1, 1) := by decide +kernel
theorem d_MD_does_386 : decode c_MD_does 386 = .ok (.iload_n 2, 1) := by decide +kernel
theorem d_MD_does_387 : decode c_MD_does 387 = .ok (.iload 4, 2) := by decide +kernel
theorem d_MD_does_389 : decode c_MD_does 389 = .ok (.iload 5, 2) := by decide +kernel
theorem d_MD_does_391 : decode c_MD_does 391 = .ok (.invokevirtual 284, 3) := by decide +kernel
theorem d_MD_does_394 : decode c_MD_does 394 = .ok (.return_, 1) := by decide +kernel
theorem d_MD_rest_0 : decode c_MD_rest 0 = .ok (.bipush 8, 2) := by decide +kernel
theorem d_MD_rest_2 : decode c_MD_rest 2 = .ok (.aload_n 0, 1) := by decide +kernel
theorem d_MD_rest_3 : decode c_MD_rest 3 = .ok (.getfield 261, 3) := by decide +kernel
theorem d_MD_rest_6 : decode c_MD_rest 6 = .ok (.imul, 1) := by decide +kernel
theorem d_MD_rest_7 : decode c_MD_rest 7 = .ok (.iload_n 2, 1) := by decide +kernel
theorem d_MD_rest_8 : decode c_MD_rest 8 = .ok (.iadd, 1) := by decide +kernel
theorem d_MD_rest_9 : decode c_MD_rest 9 = .ok (.istore 5, 2) := by decide +kernel
theorem d_MD_rest_11 : decode c_MD_rest 11 = .ok (.iload_n 1, 1) := by decide +kernel
theorem d_MD_rest_12 : decode c_MD_rest 12 = .ok (.tableswitch 339 17 22 #[40, 138, 212, 241, 260, 274], 40) := by decide +kernel
theorem d_MD_rest_52 : decode c_MD_rest 52 = .ok (.aload_n 0, 1) := by decide +kernel
theorem d_MD_rest_53 : decode c_MD_rest 53 = .ok (.iload_n 3, 1) := by decide +kernel
theorem d_MD_rest_54 : decode c_MD_rest 54 = .ok (.invokevirtual 273, 3) := by decide +kernel
theorem d_MD_rest_57 : decode c_MD_rest 57 = .ok (.istore 6, 2) := by decide +kernel
theorem d_MD_rest_59 : decode c_MD_rest 59 = .ok (.aload_n 0, 1) := by decide +kernel
theorem d_MD_rest_60 : decode c_MD_rest 60 = .ok (.iload_n 3, 1) := by decide +kernel
theorem d_MD_rest_61 : decode c_MD_rest 61 = .ok (.iconst 1, 1) := by decide +kernel
theorem d_MD_rest_62 : decode c_MD_rest 62 = .ok (.iadd, 1) := by decide +kernel
theorem d_MD_rest_63 : decode c_MD_rest 63 = .ok (.ldc 187, 2) := by decide +kernel
theorem d_MD_rest_65 : decode c_MD_rest 65 = .ok (.irem, 1) := by decide +kernel
theorem d_MD_rest_66 : decode c_MD_rest 66 = .ok (.invokevirtual 273, 3) := by decide +kernel
theorem d_MD_rest_69 : decode c_MD_rest 69 = .ok (.istore 7, 2) := by decide +kernel
theorem d_MD_rest_71 : decode c_MD_rest 71 = .ok (.aload_n 0, 1) := by decide +kernel
theorem d_MD_rest_72 : decode c_MD_rest 72 = .ok (.iload_n 3, 1) := by decide +kernel
theorem d_MD_rest_73 : decode c_MD_rest 73 = .ok (.iconst 2, 1) := by decide +kernel
theorem d_MD_rest_74 : decode c_MD_rest 74 = .ok (.iadd, 1) := by decide +kernel
theorem d_MD_rest_75 : decode c_MD_rest 75 = .ok (.ldc 187, 2) := by decide +kernel
theorem d_MD_rest_77 : decode c_MD_rest 77 = .ok (.irem, 1) := by decide +kernel
theorem d_MD_rest_78 : decode c_MD_rest 78 = .ok (.invokevirtual 273, 3) := by decide +kernel
theorem d_MD_rest_81 : decode c_MD_rest 81 = .ok (.istore 8, 2) := by decide +kernel
theorem d_MD_rest_83 : decode c_MD_rest 83 = .ok (.aload_n 0, 1) := by decide +kernel
theorem d_MD_rest_84 : decode c_MD_rest 84 = .ok (.iload_n 3, 1) := by decide +kernel
theorem d_MD_rest_85 : decode c_MD_rest 85 = .ok (.iconst 3, 1) := by decide +kernel
theorem d_MD_rest_86 : decode c_MD_rest 86 = .ok (.iadd, 1) := by decide +kernel
theorem d_MD_rest_87 : decode c_MD_rest 87 = .ok (.ldc 187, 2) := by decide +kernel
theorem d_MD_rest_89 : decode c_MD_rest 89 = .ok (.irem, 1) := by decide +kernel
theorem d_MD_rest_90 : decode c_MD_rest 90 = .ok (.invokevirtual 273, 3) := by decide +kernel
theorem d_MD_rest_93 : decode c_MD_rest 93 = .ok (.istore 9, 2) := by decide +kernel
theorem d_MD_rest_95 : decode c_MD_rest 95 = .ok (.aload_n 0, 1) := by decide +kernel
theorem d_MD_rest_96 : decode c_MD_rest 96 = .ok (.getfield 38, 3) := by decide +kernel
theorem d_MD_rest_99 : decode c_MD_rest 99 = .ok (.aload_n 0, 1) := by decide +kernel
theorem d_MD_rest_100 : decode c_MD_rest 100 = .ok (.getfield 261, 3) := by decide +kernel
theorem d_MD_rest_103 : decode c_MD_rest 103 = .ok (.iload 6, 2) := by decide +kernel
theorem d_MD_rest_105 : decode c_MD_rest 105 = .ok (.ifCond .ne 7, 3) := by decide +kernel
theorem d_MD_rest_108 : decode c_MD_rest 108 = .ok (.iconst 0, 1) := by decide +kernel
theorem d_MD_rest_109 : decode c_MD_rest 109 = .ok (.goto 4, 3) := by decide +kernel
theorem d_MD_rest_112 : decode c_MD_rest 112 = .ok (.iconst 1, 1) := by decide +kernel
theorem d_MD_rest_113 : decode c_MD_rest 113 = .ok (.iastore, 1) := by decide +kernel
theorem d_MD_rest_114 : decode c_MD_rest 114 = .ok (.aload_n 0, 1) := by decide +kernel
theorem d_MD_rest_115 : decode c_MD_rest 115 = .ok (.getfield 41, 3) := by decide +kernel
theorem d_MD_rest_118 : decode c_MD_rest 118 = .ok (.aload_n 0, 1) := by decide +kernel
theorem d_MD_rest_119 : decode c_MD_rest 119 = .ok (.getfield 261, 3) := by decide +kernel
theorem d_MD_rest_122 : decode c_MD_rest 122 = .ok (.iload 7, 2) := by decide +kernel
theorem d_MD_rest_124 : decode c_MD_rest 124 = .ok (.iastore, 1) := by decide +kernel
theorem d_MD_rest_125 : decode c_MD_rest 125 = .ok (.aload_n 0, 1) := by decide +kernel
theorem d_MD_rest_126 : decode c_MD_rest 126 = .ok (.getfield 44, 3) := by decide +kernel
theorem d_MD_rest_129 : decode c_MD_rest 129 = .ok (.aload_n 0, 1) := by decide +kernel
theorem d_MD_rest_130 : decode c_MD_rest 130 = .ok (.getfield 261, 3) := by decide +kernel
theorem d_MD_rest_133 : decode c_MD_rest 133 = .ok (.iload 8, 2) := by decide +kernel
theorem d_MD_rest_135 : decode c_MD_rest 135 = .ok (.iastore, 1) := by decide +kernel
theorem d_MD_rest_136 : decode c_MD_rest 136 = .ok (.aload_n 0, 1) := by decide +kernel
theorem d_MD_rest_137 : decode c_MD_rest 137 = .ok (.getfield 47, 3) := by decide +kernel
theorem d_MD_rest_140 : decode c_MD_rest 140 = .ok (.aload_n 0, 1) := by decide +kernel
theorem d_MD_rest_141 : decode c_MD_rest 141 = .ok (.getfield 261, 3) := by decide +kernel
theorem d_MD_rest_144 : decode c_MD_rest 144 = .ok (.iload 9, 2) := by decide +kernel
theorem d_MD_rest_146 : decode c_MD_rest 146 = .ok (.iastore, 1) := by decide +kernel
theorem d_MD_rest_147 : decode c_MD_rest 147 = .ok (.goto 297, 3) := by decide +kernel
theorem d_MD_rest_150 : decode c_MD_rest 150 = .ok (.aload_n 0, 1) := by decide +kernel
theorem d_MD_rest_151 : decode c_MD_rest 151 = .ok (.iload_n 3, 1) := by decide +kernel
theorem d_MD_rest_152 : decode c_MD_rest 152 = .ok (.aload_n 0, 1) := by decide +kernel
theorem d_MD_rest_153 : decode c_MD_rest 153 = .ok (.getfield 38, 3) := by decide +kernel
theorem d_MD_rest_156 : decode c_MD_rest 156 = .ok (.aload_n 0, 1) := by decide +kernel
theorem d_MD_rest_157 : decode c_MD_rest 157 = .ok (.getfield 261, 3) := by decide +kernel
theorem d_MD_rest_160 : decode c_MD_rest 160 = .ok (.iaload, 1) := by decide +kernel
theorem d_MD_rest_161 : decode c_MD_rest 161 = .ok (.invokevirtual 280, 3) := by decide +kernel
theorem d_MD_rest_164 : decode c_MD_rest 164 = .ok (.aload_n 0, 1) := by decide +kernel
theorem d_MD_rest_165 : decode c_MD_rest 165 = .ok (.iload_n 3, 1) := by decide +kernel
theorem d_MD_rest_166 : decode c_MD_rest 166 = .ok (.iconst 1, 1) := by decide +kernel
theorem d_MD_rest_167 : decode c_MD_rest 167 = .ok (.iadd, 1) := by decide +kernel
theorem d_MD_rest_168 : decode c_MD_rest 168 = .ok (.ldc 187, 2) := by decide +kernel
theorem d_MD_rest_170 : decode c_MD_rest 170 = .ok (.irem, 1) := by decide +kernel
theorem d_MD_rest_171 : decode c_MD_rest 171 = .ok (.aload_n 0, 1) := by decide +kernel
theorem d_MD_rest_172 : decode c_MD_rest 172 = .ok (.getfield 41, 3) := by decide +kernel
theorem d_MD_rest_175 : decode c_MD_rest 175 = .ok (.aload_n 0, 1) := by decide +kernel
theorem d_MD_rest_176 : decode c_MD_rest 176 = .ok (.getfield 261, 3) := by decide +kernel
theorem d_MD_rest_179 : decode c_MD_rest 179 = .ok (.iaload, 1) := by decide +kernel
theorem d_MD_rest_180 : decode c_MD_rest 180 = .ok (.invokevirtual 280, 3) := by decide +kernel
theorem d_MD_rest_183 : decode c_MD_rest 183 = .ok (.aload_n 0, 1) := by decide +kernel
theorem d_MD_rest_184 : decode c_MD_rest 184 = .ok (.iload_n 3, 1) := by decide +kernel
theorem d_MD_rest_185 : decode c_MD_rest 185 = .ok (.iconst 2, 1) := by decide +kernel
theorem d_MD_rest_186 : decode c_MD_rest 186 = .ok (.iadd, 1) := by decide +kernel
theorem d_MD_rest_187 : decode c_MD_rest 187 = .ok (.ldc 187, 2) := by decide +kernel
theorem d_MD_rest_189 : decode c_MD_rest 189 = .ok (.irem, 1) := by decide +kernel
theorem d_MD_rest_190 : decode c_MD_rest 190 = .ok (.aload_n 0, 1) := by decide +kernel
theorem d_MD_rest_191 : decode c_MD_rest 191 = .ok (.getfield 44, 3) := by decide +kernel
theorem d_MD_rest_194 : decode c_MD_rest 194 = .ok (.aload_n 0, 1) := by decide +kernel
theorem d_MD_rest_195 : decode c_MD_rest 195 = .ok (.getfield 261, 3) := by decide +kernel
theorem d_MD_rest_198 : decode c_MD_rest 198 = .ok (.iaload, 1) := by decide +kernel
theorem d_MD_rest_199 : decode c_MD_rest 199 = .ok (.invokevirtual 280, 3) := by decide +kernel
theorem d_MD_rest_202 : decode c_MD_rest 202 = .ok (.aload_n 0, 1) := by decide +kernel
theorem d_MD_rest_203 : decode c_MD_rest 203 = .ok (.iload_n 3, 1) := by decide +kernel
theorem d_MD_rest_204 : decode c_MD_rest 204 = .ok (.iconst 3, 1) := by decide +kernel
theorem d_MD_rest_205 : decode c_MD_rest 205 = .ok (.iadd, 1) := by decide +kernel
theorem d_MD_rest_206 : decode c_MD_rest 206 = .ok (.ldc 187, 2) := by decide +kernel
theorem d_MD_rest_208 : decode c_MD_rest 208 = .ok (.irem, 1) := by decide +kernel
theorem d_MD_rest_209 : decode c_MD_rest 209 = .ok (.aload_n 0, 1) := by decide +kernel
theorem d_MD_rest_210 : decode c_MD_rest 210 = .ok (.getfield 47, 3) := by decide +kernel
theorem d_MD_rest_213 : decode c_MD_rest 213 = .ok (.aload_n 0, 1) := by decide +kernel
theorem d_MD_rest_214 : decode c_MD_rest 214 = .ok (.getfield 261, 3) := by decide +kernel
theorem d_MD_rest_217 : decode c_MD_rest 217 = .ok (.iaload, 1) := by decide +kernel
theorem d_MD_rest_218 : decode c_MD_rest 218 = .ok (.invokevirtual 280, 3) := by decide +kernel
theorem d_MD_rest_221 : decode c_MD_rest 221 = .ok (.goto 223, 3) := by decide +kernel
theorem d_MD_rest_224 : decode c_MD_rest 224 = .ok (.aload_n 0, 1) := by decide +kernel
theorem d_MD_rest_225 : decode c_MD_rest 225 = .ok (.getfield 50, 3) := by decide +kernel
theorem d_MD_rest_228 : decode c_MD_rest 228 = .ok (.aload_n 0, 1) := by decide +kernel
theorem d_MD_rest_229 : decode c_MD_rest 229 = .ok (.getfield 261, 3) := by decide +kernel
theorem d_MD_rest_232 : decode c_MD_rest 232 = .ok (.aload_n 0, 1) := by decide +kernel
theorem d_MD_rest_233 : decode c_MD_rest 233 = .ok (.getfield 35, 3) := by decide +kernel
theorem d_MD_rest_236 : decode c_MD_rest 236 = .ok (.iload 5, 2) := by decide +kernel
theorem d_MD_rest_238 : decode c_MD_rest 238 = .ok (.iaload, 1) := by decide +kernel
theorem d_MD_rest_239 : decode c_MD_rest 239 = .ok (.iastore, 1) := by decide +kernel
theorem d_MD_rest_240 : decode c_MD_rest 240 = .ok (.aload_n 0, 1) := by decide +kernel
theorem d_MD_rest_241 : decode c_MD_rest 241 = .ok (.getfield 53, 3) := by decide +kernel
theorem d_MD_rest_244 : decode c_MD_rest 244 = .ok (.aload_n 0, 1) := by decide +kernel
theorem d_MD_rest_245 : decode c_MD_rest 245 = .ok (.getfield 261, 3) := by decide +kernel
theorem d_MD_rest_248 : decode c_MD_rest 248 = .ok (.iconst 0, 1) := by decide +kernel
theorem d_MD_rest_249 : decode c_MD_rest 249 = .ok (.bastore, 1) := by decide +kernel
theorem d_MD_rest_250 : decode c_MD_rest 250 = .ok (.goto 194, 3) := by decide +kernel
theorem d_MD_rest_253 : decode c_MD_rest 253 = .ok (.aload_n 0, 1) := by decide +kernel
theorem d_MD_rest_254 : decode c_MD_rest 254 = .ok (.getfield 35, 3) := by decide +kernel
theorem d_MD_rest_257 : decode c_MD_rest 257 = .ok (.iload 5, 2) := by decide +kernel
theorem d_MD_rest_259 : decode c_MD_rest 259 = .ok (.aload_n 0, 1) := by decide +kernel
theorem d_MD_rest_260 : decode c_MD_rest 260 = .ok (.getfield 50, 3) := by decide +kernel
theorem d_MD_rest_263 : decode c_MD_rest 263 = .ok (.aload_n 0, 1) := by decide +kernel
theorem d_MD_rest_264 : decode c_MD_rest 264 = .ok (.getfield 261, 3) := by decide +kernel
theorem d_MD_rest_267 : decode c_MD_rest 267 = .ok (.iaload, 1) := by decide +kernel
theorem d_MD_rest_268 : decode c_MD_rest 268 = .ok (.iastore, 1) := by decide +kernel
theorem d_MD_rest_269 : decode c_MD_rest 269 = .ok (.goto 175, 3) := by decide +kernel
theorem d_MD_rest_272 : decode c_MD_rest 272 = .ok (.aload_n 0, 1) := by decide +kernel
theorem d_MD_rest_273 : decode c_MD_rest 273 = .ok (.getfield 35, 3) := by decide +kernel
theorem d_MD_rest_276 : decode c_MD_rest 276 = .ok (.iload 5, 2) := by decide +kernel
theorem d_MD_rest_278 : decode c_MD_rest 278 = .ok (.aload_n 0, 1) := by decide +kernel
theorem d_MD_rest_279 : decode c_MD_rest 279 = .ok (.invokevirtual 288, 3) := by decide +kernel
theorem d_MD_rest_282 : decode c_MD_rest 282 = .ok (.iastore, 1) := by decide +kernel
theorem d_MD_rest_283 : decode c_MD_rest 283 = .ok (.goto 161, 3) := by decide +kernel
theorem d_MD_rest_286 : decode c_MD_rest 286 = .ok (.aload_n 0, 1) := by decide +kernel
theorem d_MD_rest_287 : decode c_MD_rest 287 = .ok (.getfield 62, 3) := by decide +kernel
theorem d_MD_rest_290 : decode c_MD_rest 290 = .ok (.aload_n 0, 1) := by decide +kernel
theorem d_MD_rest_291 : decode c_MD_rest 291 = .ok (.getfield 261, 3) := by decide +kernel
theorem d_MD_rest_294 : decode c_MD_rest 294 = .ok (.iaload, 1) := by decide +kernel
theorem d_MD_rest_295 : decode c_MD_rest 295 = .ok (.sipush 500, 3) := by decide +kernel
theorem d_MD_rest_298 : decode c_MD_rest 298 = .ok (.if_icmp .ge 37, 3) := by decide +kernel
theorem d_MD_rest_301 : decode c_MD_rest 301 = .ok (.aload_n 0, 1) := by decide +kernel
theorem d_MD_rest_302 : decode c_MD_rest 302 = .ok (.getfield 65, 3) := by decide +kernel
theorem d_MD_rest_305 : decode c_MD_rest 305 = .ok (.sipush 500, 3) := by decide +kernel
theorem d_MD_rest_308 : decode c_MD_rest 308 = .ok (.aload_n 0, 1) := by decide +kernel
theorem d_MD_rest_309 : decode c_MD_rest 309 = .ok (.getfield 261, 3) := by decide +kernel
theorem d_MD_rest_312 : decode c_MD_rest 312 = .ok (.imul, 1) := by decide +kernel
theorem d_MD_rest_313 : decode c_MD_rest 313 = .ok (.aload_n 0, 1) := by decide +kernel
theorem d_MD_rest_314 : decode c_MD_rest 314 = .ok (.getfield 62, 3) := by decide +kernel
theorem d_MD_rest_317 : decode c_MD_rest 317 = .ok (.aload_n 0, 1) := by decide +kernel
theorem d_MD_rest_318 : decode c_MD_rest 318 = .ok (.getfield 261, 3) := by decide +kernel
theorem d_MD_rest_321 : decode c_MD_rest 321 = .ok (.iaload, 1) := by decide +kernel
theorem d_MD_rest_322 : decode c_MD_rest 322 = .ok (.iadd, 1) := by decide +kernel
theorem d_MD_rest_323 : decode c_MD_rest 323 = .ok (.aload_n 0, 1) := by decide +kernel
theorem d_MD_rest_324 : decode c_MD_rest 324 = .ok (.getfield 35, 3) := by decide +kernel
theorem d_MD_rest_327 : decode c_MD_rest 327 = .ok (.iload 5, 2) := by decide +kernel
theorem d_MD_rest_329 : decode c_MD_rest 329 = .ok (.iaload, 1) := by decide +kernel
theorem d_MD_rest_330 : decode c_MD_rest 330 = .ok (.sipush 255, 3) := by decide +kernel
theorem d_MD_rest_333 : decode c_MD_rest 333 = .ok (.iand, 1) := by decide +kernel
theorem d_MD_rest_334 : decode c_MD_rest 334 = .ok (.iastore, 1) := by decide +kernel
theorem d_MD_rest_335 : decode c_MD_rest 335 = .ok (.aload_n 0, 1) := by decide +kernel
theorem d_MD_rest_336 : decode c_MD_rest 336 = .ok (.getfield 62, 3) := by decide +kernel
theorem d_MD_rest_339 : decode c_MD_rest 339 = .ok (.aload_n 0, 1) := by decide +kernel
theorem d_MD_rest_340 : decode c_MD_rest 340 = .ok (.getfield 261, 3) := by decide +kernel
theorem d_MD_rest_343 : decode c_MD_rest 343 = .ok (.dup2, 1) := by decide +kernel
theorem d_MD_rest_344 : decode c_MD_rest 344 = .ok (.iaload, 1) := by decide +kernel
theorem d_MD_rest_345 : decode c_MD_rest 345 = .ok (.iconst 1, 1) := by decide +kernel
theorem d_MD_rest_346 : decode c_MD_rest 346 = .ok (.iadd, 1) := by decide +kernel
theorem d_MD_rest_347 : decode c_MD_rest 347 = .ok (.iastore, 1) := by decide +kernel
theorem d_MD_rest_348 : decode c_MD_rest 348 = .ok (.goto 96, 3) := by decide +kernel
theorem d_MD_rest_351 : decode c_MD_rest 351 = .ok (.sipush 128, 3) := by decide +kernel
theorem d_MD_rest_354 : decode c_MD_rest 354 = .ok (.aload_n 0, 1) := by decide +kernel
theorem d_MD_rest_355 : decode c_MD_rest 355 = .ok (.getfield 261, 3) := by decide +kernel
theorem d_MD_rest_358 : decode c_MD_rest 358 = .ok (.imul, 1) := by decide +kernel
theorem d_MD_rest_359 : decode c_MD_rest 359 = .ok (.bipush 16, 2) := by decide +kernel
theorem d_MD_rest_361 : decode c_MD_rest 361 = .ok (.aload_n 0, 1) := by decide +kernel
theorem d_MD_rest_362 : decode c_MD_rest 362 = .ok (.getfield 35, 3) := by decide +kernel
theorem d_MD_rest_365 : decode c_MD_rest 365 = .ok (.iload 5, 2) := by decide +kernel
theorem d_MD_rest_367 : decode c_MD_rest 367 = .ok (.iaload, 1) := by decide +kernel
theorem d_MD_rest_368 : decode c_MD_rest 368 = .ok (.bipush 8, 2) := by decide +kernel
theorem d_MD_rest_370 : decode c_MD_rest 370 = .ok (.irem, 1) := by decide +kernel
theorem d_MD_rest_371 : decode c_MD_rest 371 = .ok (.imul, 1) := by decide +kernel
theorem d_MD_rest_372 : decode c_MD_rest 372 = .ok (.iadd, 1) := by decide +kernel
theorem d_MD_rest_373 : decode c_MD_rest 373 = .ok (.istore 10, 2) := by decide +kernel
theorem d_MD_rest_375 : decode c_MD_rest 375 = .ok (.iconst 0, 1) := by decide +kernel
theorem d_MD_rest_376 : decode c_MD_rest 376 = .ok (.istore 11, 2) := by decide +kernel
theorem d_MD_rest_378 : decode c_MD_rest 378 = .ok (.iload 11, 2) := by decide +kernel
theorem d_MD_rest_380 : decode c_MD_rest 380 = .ok (.bipush 16, 2) := by decide +kernel
theorem d_MD_rest_382 : decode c_MD_rest 382 = .ok (.if_icmp .ge 62, 3) := by decide +kernel
theorem d_MD_rest_385 : decode c_MD_rest 385 = .ok (.iload_n 1, 1) := by decide +kernel
theorem d_MD_rest_386 : decode c_MD_rest 386 = .ok (.bipush 23, 2) := by decide +kernel
theorem d_MD_rest_388 : decode c_MD_rest 388 = .ok (.if_icmp .ne 28, 3) := by decide +kernel
theorem d_MD_rest_391 : decode c_MD_rest 391 = .ok (.aload_n 0, 1) := by decide +kernel
theorem d_MD_rest_392 : decode c_MD_rest 392 = .ok (.iload 4, 2) := by decide +kernel
theorem d_MD_rest_394 : decode c_MD_rest 394 = .ok (.iload 11, 2) := by decide +kernel
theorem d_MD_rest_396 : decode c_MD_rest 396 = .ok (.iadd, 1) := by decide +kernel
theorem d_MD_rest_397 : decode c_MD_rest 397 = .ok (.ldc 187, 2) := by decide +kernel
theorem d_MD_rest_399 : decode c_MD_rest 399 = .ok (.irem, 1) := by decide +kernel
theorem d_MD_rest_400 : decode c_MD_rest 400 = .ok (.aload_n 0, 1) := by decide +kernel
theorem d_MD_rest_401 : decode c_MD_rest 401 = .ok (.getfield 74, 3) := by decide +kernel
theorem d_MD_rest_404 : decode c_MD_rest 404 = .ok (.iload 10, 2) := by decide +kernel
theorem d_MD_rest_406 : decode c_MD_rest 406 = .ok (.iload 11, 2) := by decide +kernel
theorem d_MD_rest_408 : decode c_MD_rest 408 = .ok (.iadd, 1) := by decide +kernel
theorem d_MD_rest_409 : decode c_MD_rest 409 = .ok (.iaload, 1) := by decide +kernel
theorem d_MD_rest_410 : decode c_MD_rest 410 = .ok (.invokevirtual 280, 3) := by decide +kernel
theorem d_MD_rest_413 : decode c_MD_rest 413 = .ok (.goto 25, 3) := by decide +kernel
theorem d_MD_rest_416 : decode c_MD_rest 416 = .ok (.aload_n 0, 1) := by decide +kernel
theorem d_MD_rest_417 : decode c_MD_rest 417 = .ok (.getfield 74, 3) := by decide +kernel
theorem d_MD_rest_420 : decode c_MD_rest 420 = .ok (.iload 10, 2) := by decide +kernel
theorem d_MD_rest_422 : decode c_MD_rest 422 = .ok (.iload 11, 2) := by decide +kernel
theorem d_MD_rest_424 : decode c_MD_rest 424 = .ok (.iadd, 1) := by decide +kernel
theorem d_MD_rest_425 : decode c_MD_rest 425 = .ok (.aload_n 0, 1) := by decide +kernel
theorem d_MD_rest_426 : decode c_MD_rest 426 = .ok (.iload 4, 2) := by decide +kernel
theorem d_MD_rest_428 : decode c_MD_rest 428 = .ok (.iload 11, 2) := by decide +kernel
theorem d_MD_rest_430 : decode c_MD_rest 430 = .ok (.iadd, 1) := by decide +kernel
theorem d_MD_rest_431 : decode c_MD_rest 431 = .ok (.ldc 187, 2) := by decide +kernel
theorem d_MD_rest_433 : decode c_MD_rest 433 = .ok (.irem, 1) := by decide +kernel
theorem d_MD_rest_434 : decode c_MD_rest 434 = .ok (.invokevirtual 273, 3) := by decide +kernel
theorem d_MD_rest_437 : decode c_MD_rest 437 = .ok (.iastore, 1) := by decide +kernel
theorem d_MD_rest_438 : decode c_MD_rest 438 = .ok (.iinc 11 1, 3) := by decide +kernel
theorem d_MD_rest_441 : decode c_MD_rest 441 = .ok (.goto (-63), 3) := by decide +kernel
theorem d_MD_rest_444 : decode c_MD_rest 444 = .ok (.return_, 1) := by decide +kernel
theorem d_MD_typedNext_0 : decode c_MD_typedNext 0 = .ok (.aload_n 0, 1) := by decide +kernel
theorem d_MD_typedNext_1 : decode c_MD_typedNext 1 = .ok (.getfield 68, 3) := by decide +kernel
theorem d_MD_typedNext_4 : decode c_MD_typedNext 4 = .ok (.aload_n 0, 1) := by decide +kernel
theorem d_MD_typedNext_5 : decode c_MD_typedNext 5 = .ok (.getfield 261, 3) := by decide +kernel
theorem d_MD_typedNext_8 : decode c_MD_typedNext 8 = .ok (.iaload, 1) := by decide +kernel
theorem d_MD_typedNext_9 : decode c_MD_typedNext 9 = .ok (.ifCond .ne 7, 3) := by decide +kernel
theorem d_MD_typedNext_12 : decode c_MD_typedNext 12 = .ok (.ldc_w 291, 3) := by decide +kernel
theorem d_MD_typedNext_15 : decode c_MD_typedNext 15 = .ok (.ireturn, 1) := by decide +kernel
theorem d_MD_typedNext_16 : decode c_MD_typedNext 16 = .ok (.aload_n 0, 1) := by decide +kernel
theorem d_MD_typedNext_17 : decode c_MD_typedNext 17 = .ok (.getfield 71, 3) := by decide +kernel
theorem d_MD_typedNext_20 : decode c_MD_typedNext 20 = .ok (.bipush 100, 2) := by decide +kernel
theorem d_MD_typedNext_22 : decode c_MD_typedNext 22 = .ok (.aload_n 0, 1) := by decide +kernel
theorem d_MD_typedNext_23 : decode c_MD_typedNext 23 = .ok (.getfield 261, 3) := by decide +kernel
theorem d_MD_typedNext_26 : decode c_MD_typedNext 26 = .ok (.imul, 1) := by decide +kernel
theorem d_MD_typedNext_27 : decode c_MD_typedNext 27 = .ok (.iaload, 1) := by decide +kernel
theorem d_MD_typedNext_28 : decode c_MD_typedNext 28 = .ok (.istore_n 1, 1) := by decide +kernel
theorem d_MD_typedNext_29 : decode c_MD_typedNext 29 = .ok (.aload_n 0, 1) := by decide +kernel
theorem d_MD_typedNext_30 : decode c_MD_typedNext 30 = .ok (.getfield 68, 3) := by decide +kernel
theorem d_MD_typedNext_33 : decode c_MD_typedNext 33 = .ok (.aload_n 0, 1) := by decide +kernel
theorem d_MD_typedNext_34 : decode c_MD_typedNext 34 = .ok (.getfield 261, 3) := by decide +kernel
theorem d_MD_typedNext_37 : decode c_MD_typedNext 37 = .ok (.dup2, 1) := by decide +kernel
theorem d_MD_typedNext_38 : decode c_MD_typedNext 38 = .ok (.iaload, 1) := by decide +kernel
theorem d_MD_typedNext_39 : decode c_MD_typedNext 39 = .ok (.iconst 1, 1) := by decide +kernel
theorem d_MD_typedNext_40 : decode c_MD_typedNext 40 = .ok (.isub, 1) := by decide +kernel
theorem d_MD_typedNext_41 : decode c_MD_typedNext 41 = .ok (.iastore, 1) := by decide +kernel
theorem d_MD_typedNext_42 : decode c_MD_typedNext 42 = .ok (.iconst 0, 1) := by decide +kernel
theorem d_MD_typedNext_43 : decode c_MD_typedNext 43 = .ok (.istore_n 2, 1) := by decide +kernel
theorem d_MD_typedNext_44 : decode c_MD_typedNext 44 = .ok (.iload_n 2, 1) := by decide +kernel
theorem d_MD_typedNext_45 : decode c_MD_typedNext 45 = .ok (.aload_n 0, 1) := by decide +kernel
theorem d_MD_typedNext_46 : decode c_MD_typedNext 46 = .ok (.getfield 68, 3) := by decide +kernel
theorem d_MD_typedNext_49 : decode c_MD_typedNext 49 = .ok (.aload_n 0, 1) := by decide +kernel
theorem d_MD_typedNext_50 : decode c_MD_typedNext 50 = .ok (.getfield 261, 3) := by decide +kernel
theorem d_MD_typedNext_53 : decode c_MD_typedNext 53 = .ok (.iaload, 1) := by decide +kernel
theorem d_MD_typedNext_54 : decode c_MD_typedNext 54 = .ok (.if_icmp .ge 39, 3) := by decide +kernel
theorem d_MD_typedNext_57 : decode c_MD_typedNext 57 = .ok (.aload_n 0, 1) := by decide +kernel
theorem d_MD_typedNext_58 : decode c_MD_typedNext 58 = .ok (.getfield 71, 3) := by decide +kernel
theorem d_MD_typedNext_61 : decode c_MD_typedNext 61 = .ok (.bipush 100, 2) := by decide +kernel
theorem d_MD_typedNext_63 : decode c_MD_typedNext 63 = .ok (.aload_n 0, 1) := by decide +kernel
theorem d_MD_typedNext_64 : decode c_MD_typedNext 64 = .ok (.getfield 261, 3) := by decide +kernel
theorem d_MD_typedNext_67 : decode c_MD_typedNext 67 = .ok (.imul, 1) := by decide +kernel
theorem d_MD_typedNext_68 : decode c_MD_typedNext 68 = .ok (.iload_n 2, 1) := by decide +kernel
theorem d_MD_typedNext_69 : decode c_MD_typedNext 69 = .ok (.iadd, 1) := by decide +kernel
theorem d_MD_typedNext_70 : decode c_MD_typedNext 70 = .ok (.aload_n 0, 1) := by decide +kernel
theorem d_MD_typedNext_71 : decode c_MD_typedNext 71 = .ok (.getfield 71, 3) := by decide +kernel
theorem d_MD_typedNext_74 : decode c_MD_typedNext 74 = .ok (.bipush 100, 2) := by decide +kernel
theorem d_MD_typedNext_76 : decode c_MD_typedNext 76 = .ok (.aload_n 0, 1) := by decide +kernel
theorem d_MD_typedNext_77 : decode c_MD_typedNext 77 = .ok (.getfield 261, 3) := by decide +kernel
theorem d_MD_typedNext_80 : decode c_MD_typedNext 80 = .ok (.imul, 1) := by decide +kernel
theorem d_MD_typedNext_81 : decode c_MD_typedNext 81 = .ok (.iload_n 2, 1) := by decide +kernel
theorem d_MD_typedNext_82 : decode c_MD_typedNext 82 = .ok (.iadd, 1) := by decide +kernel
theorem d_MD_typedNext_83 : decode c_MD_typedNext 83 = .ok (.iconst 1, 1) := by decide +kernel
theorem d_MD_typedNext_84 : decode c_MD_typedNext 84 = .ok (.iadd, 1) := by decide +kernel
theorem d_MD_typedNext_85 : decode c_MD_typedNext 85 = .ok (.iaload, 1) := by decide +kernel
theorem d_MD_typedNext_86 : decode c_MD_typedNext 86 = .ok (.iastore, 1) := by decide +kernel
theorem d_MD_typedNext_87 : decode c_MD_typedNext 87 = .ok (.iinc 2 1, 3) := by decide +kernel
theorem d_MD_typedNext_90 : decode c_MD_typedNext 90 = .ok (.goto (-46), 3) := by decide +kernel
theorem d_MD_typedNext_93 : decode c_MD_typedNext 93 = .ok (.iload_n 1, 1) := by decide +kernel
theorem d_MD_typedNext_94 : decode c_MD_typedNext 94 = .ok (.ireturn, 1) := by decide +kernel
theorem d_MD_isGuest_0 : decode c_MD_isGuest 0 = .ok (.iload_n 1, 1) := by decide +kernel
theorem d_MD_isGuest_1 : decode c_MD_isGuest 1 = .ok (.iconst 0, 1) := by decide +kernel
theorem d_MD_isGuest_2 : decode c_MD_isGuest 2 = .ok (.iconst 2, 1) := by decide +kernel
theorem d_MD_isGuest_3 : decode c_MD_isGuest 3 = .ok (.invokestatic 246, 3) := by decide +kernel
theorem d_MD_isGuest_6 : decode c_MD_isGuest 6 = .ok (.ifCond .eq 16, 3) := by decide +kernel
theorem d_MD_isGuest_9 : decode c_MD_isGuest 9 = .ok (.aload_n 0, 1) := by decide +kernel
theorem d_MD_isGuest_10 : decode c_MD_isGuest 10 = .ok (.getfield 21, 3) := by decide +kernel
theorem d_MD_isGuest_13 : decode c_MD_isGuest 13 = .ok (.iload_n 1, 1) := by decide +kernel
theorem d_MD_isGuest_14 : decode c_MD_isGuest 14 = .ok (.baload, 1) := by decide +kernel
theorem d_MD_isGuest_15 : decode c_MD_isGuest 15 = .ok (.ifCond .eq 7, 3) := by decide +kernel
theorem d_MD_isGuest_18 : decode c_MD_isGuest 18 = .ok (.iconst 1, 1) := by decide +kernel
theorem d_MD_isGuest_19 : decode c_MD_isGuest 19 = .ok (.goto 4, 3) := by decide +kernel
theorem d_MD_isGuest_22 : decode c_MD_isGuest 22 = .ok (.iconst 0, 1) := by decide +kernel
theorem d_MD_isGuest_23 : decode c_MD_isGuest 23 = .ok (.ireturn, 1) := by decide +kernel
theorem d_MD_run_0 : decode c_MD_run 0 = .ok (.aload_n 0, 1) := by decide +kernel
theorem d_MD_run_1 : decode c_MD_run 1 = .ok (.iload_n 1, 1) := by decide +kernel
theorem d_MD_run_2 : decode c_MD_run 2 = .ok (.invokevirtual 292, 3) := by decide +kernel
theorem d_MD_run_5 : decode c_MD_run 5 = .ok (.ifCond .eq 14, 3) := by decide +kernel
theorem d_MD_run_8 : decode c_MD_run 8 = .ok (.iload_n 2, 1) := by decide +kernel
theorem d_MD_run_9 : decode c_MD_run 9 = .ok (.iconst 0, 1) := by decide +kernel
theorem d_MD_run_10 : decode c_MD_run 10 = .ok (.sipush 5000, 3) := by decide +kernel
theorem d_MD_run_13 : decode c_MD_run 13 = .ok (.invokestatic 246, 3) := by decide +kernel
theorem d_MD_run_16 : decode c_MD_run 16 = .ok (.ifCond .ne 5, 3) := by decide +kernel
theorem d_MD_run_19 : decode c_MD_run 19 = .ok (.iconst (-1), 1) := by decide +kernel
theorem d_MD_run_20 : decode c_MD_run 20 = .ok (.ireturn, 1) := by decide +kernel
theorem d_MD_run_21 : decode c_MD_run 21 = .ok (.aload_n 0, 1) := by decide +kernel
theorem d_MD_run_22 : decode c_MD_run 22 = .ok (.iload_n 1, 1) := by decide +kernel
theorem d_MD_run_23 : decode c_MD_run 23 = .ok (.putfield 261, 3) := by decide +kernel
theorem d_MD_run_26 : decode c_MD_run 26 = .ok (.iconst 0, 1) := by decide +kernel
theorem d_MD_run_27 : decode c_MD_run 27 = .ok (.istore_n 3, 1) := by decide +kernel
theorem d_MD_run_28 : decode c_MD_run 28 = .ok (.iload_n 3, 1) := by decide +kernel
theorem d_MD_run_29 : decode c_MD_run 29 = .ok (.iload_n 2, 1) := by decide +kernel
theorem d_MD_run_30 : decode c_MD_run 30 = .ok (.if_icmp .ge 22, 3) := by decide +kernel
theorem d_MD_run_33 : decode c_MD_run 33 = .ok (.aload_n 0, 1) := by decide +kernel
theorem d_MD_run_34 : decode c_MD_run 34 = .ok (.getfield 56, 3) := by decide +kernel
theorem d_MD_run_37 : decode c_MD_run 37 = .ok (.iload_n 1, 1) := by decide +kernel
theorem d_MD_run_38 : decode c_MD_run 38 = .ok (.baload, 1) := by decide +kernel
theorem d_MD_run_39 : decode c_MD_run 39 = .ok (.ifCond .ne 13, 3) := by decide +kernel
theorem d_MD_run_42 : decode c_MD_run 42 = .ok (.aload_n 0, 1) := by decide +kernel
theorem d_MD_run_43 : decode c_MD_run 43 = .ok (.invokevirtual 295, 3) := by decide +kernel
theorem d_MD_run_46 : decode c_MD_run 46 = .ok (.iinc 3 1, 3) := by decide +kernel
theorem d_MD_run_49 : decode c_MD_run 49 = .ok (.goto (-21), 3) := by decide +kernel
theorem d_MD_run_52 : decode c_MD_run 52 = .ok (.iload_n 3, 1) := by decide +kernel
theorem d_MD_run_53 : decode c_MD_run 53 = .ok (.ireturn, 1) := by decide +kernel
theorem d_MD_type_0 : decode c_MD_type 0 = .ok (.aload_n 0, 1) := by decide +kernel
theorem d_MD_type_1 : decode c_MD_type 1 = .ok (.iload_n 1, 1) := by decide +kernel
theorem d_MD_type_2 : decode c_MD_type 2 = .ok (.invokevirtual 292, 3) := by decide +kernel
theorem d_MD_type_5 : decode c_MD_type 5 = .ok (.ifCond .eq 25, 3) := by decide +kernel
theorem d_MD_type_8 : decode c_MD_type 8 = .ok (.iload_n 2, 1) := by decide +kernel
theorem d_MD_type_9 : decode c_MD_type 9 = .ok (.iconst 0, 1) := by decide +kernel
theorem d_MD_type_10 : decode c_MD_type 10 = .ok (.sipush 255, 3) := by decide +kernel
theorem d_MD_type_13 : decode c_MD_type 13 = .ok (.invokestatic 246, 3) := by decide +kernel
theorem d_MD_type_16 : decode c_MD_type 16 = .ok (.ifCond .eq 14, 3) := by decide +kernel
theorem d_MD_type_19 : decode c_MD_type 19 = .ok (.aload_n 0, 1) := by decide +kernel
theorem d_MD_type_20 : decode c_MD_type 20 = .ok (.getfield 68, 3) := by decide +kernel
theorem d_MD_type_23 : decode c_MD_type 23 = .ok (.iload_n 1, 1) := by decide +kernel
theorem d_MD_type_24 : decode c_MD_type 24 = .ok (.iaload, 1) := by decide +kernel
theorem d_MD_type_25 : decode c_MD_type 25 = .ok (.bipush 100, 2) := by decide +kernel
theorem d_MD_type_27 : decode c_MD_type 27 = .ok (.if_icmp .ne 5, 3) := by decide +kernel
theorem d_MD_type_30 : decode c_MD_type 30 = .ok (.iconst 0, 1) := by decide +kernel
theorem d_MD_type_31 : decode c_MD_type 31 = .ok (.ireturn, 1) := by decide +kernel
theorem d_MD_type_32 : decode c_MD_type 32 = .ok (.aload_n 0, 1) := by decide +kernel
theorem d_MD_type_33 : decode c_MD_type 33 = .ok (.getfield 71, 3) := by decide +kernel
theorem d_MD_type_36 : decode c_MD_type 36 = .ok (.bipush 100, 2) := by decide +kernel
theorem d_MD_type_38 : decode c_MD_type 38 = .ok (.iload_n 1, 1) := by decide +kernel
theorem d_MD_type_39 : decode c_MD_type 39 = .ok (.imul, 1) := by decide +kernel
theorem d_MD_type_40 : decode c_MD_type 40 = .ok (.aload_n 0, 1) := by decide +kernel
theorem d_MD_type_41 : decode c_MD_type 41 = .ok (.getfield 68, 3) := by decide +kernel
theorem d_MD_type_44 : decode c_MD_type 44 = .ok (.iload_n 1, 1) := by decide +kernel
theorem d_MD_type_45 : decode c_MD_type 45 = .ok (.iaload, 1) := by decide +kernel
theorem d_MD_type_46 : decode c_MD_type 46 = .ok (.iadd, 1) := by decide +kernel
theorem d_MD_type_47 : decode c_MD_type 47 = .ok (.iload_n 2, 1) := by decide +kernel
theorem d_MD_type_48 : decode c_MD_type 48 = .ok (.iastore, 1) := by decide +kernel
theorem d_MD_type_49 : decode c_MD_type 49 = .ok (.aload_n 0, 1) := by decide +kernel
theorem d_MD_type_50 : decode c_MD_type 50 = .ok (.getfield 68, 3) := by decide +kernel
theorem d_MD_type_53 : decode c_MD_type 53 = .ok (.iload_n 1, 1) := by decide +kernel
theorem d_MD_type_54 : decode c_MD_type 54 = .ok (.dup2, 1) := by decide +kernel
theorem d_MD_type_55 : decode c_MD_type 55 = .ok (.iaload, 1) := by decide +kernel
theorem d_MD_type_56 : decode c_MD_type 56 = .ok (.iconst 1, 1) := by decide +kernel
theorem d_MD_type_57 : decode c_MD_type 57 = .ok (.iadd, 1) := by decide +kernel
theorem d_MD_type_58 : decode c_MD_type 58 = .ok (.iastore, 1) := by decide +kernel
theorem d_MD_type_59 : decode c_MD_type 59 = .ok (.iconst 1, 1) := by decide +kernel
theorem d_MD_type_60 : decode c_MD_type 60 = .ok (.ireturn, 1) := by decide +kernel
theorem d_MD_look_0 : decode c_MD_look 0 = .ok (.aload_n 0, 1) := by decide +kernel
theorem d_MD_look_1 : decode c_MD_look 1 = .ok (.iload_n 1, 1) := by decide +kernel
theorem d_MD_look_2 : decode c_MD_look 2 = .ok (.invokevirtual 292, 3) := by decide +kernel
theorem d_MD_look_5 : decode c_MD_look 5 = .ok (.ifCond .ne 5, 3) := by decide +kernel
theorem d_MD_look_8 : decode c_MD_look 8 = .ok (.iconst (-1), 1) := by decide +kernel
theorem d_MD_look_9 : decode c_MD_look 9 = .ok (.ireturn, 1) := by decide +kernel
theorem d_MD_look_10 : decode c_MD_look 10 = .ok (.iload_n 2, 1) := by decide +kernel
theorem d_MD_look_11 : decode c_MD_look 11 = .ok (.tableswitch 161 0 11 #[61, 68, 75, 82, 89, 96, 111, 126, 133, 140, 147, 154], 61) := by decide +kernel
theorem d_MD_look_72 : decode c_MD_look 72 = .ok (.aload_n 0, 1) := by decide +kernel
theorem d_MD_look_73 : decode c_MD_look 73 = .ok (.getfield 38, 3) := by decide +kernel
theorem d_MD_look_76 : decode c_MD_look 76 = .ok (.iload_n 1, 1) := by decide +kernel
theorem d_MD_look_77 : decode c_MD_look 77 = .ok (.iaload, 1) := by decide +kernel
theorem d_MD_look_78 : decode c_MD_look 78 = .ok (.ireturn, 1) := by decide +kernel
theorem d_MD_look_79 : decode c_MD_look 79 = .ok (.aload_n 0, 1) := by decide +kernel
theorem d_MD_look_80 : decode c_MD_look 80 = .ok (.getfield 41, 3) := by decide +kernel
theorem d_MD_look_83 : decode c_MD_look 83 = .ok (.iload_n 1, 1) := by decide +kernel
theorem d_MD_look_84 : decode c_MD_look 84 = .ok (.iaload, 1) := by decide +kernel
theorem d_MD_look_85 : decode c_MD_look 85 = .ok (.ireturn, 1) := by decide +kernel
theorem d_MD_look_86 : decode c_MD_look 86 = .ok (.aload_n 0, 1) := by decide +kernel
theorem d_MD_look_87 : decode c_MD_look 87 = .ok (.getfield 44, 3) := by decide +kernel
theorem d_MD_look_90 : decode c_MD_look 90 = .ok (.iload_n 1, 1) := by decide +kernel
theorem d_MD_look_91 : decode c_MD_look 91 = .ok (.iaload, 1) := by decide +kernel
theorem d_MD_look_92 : decode c_MD_look 92 = .ok (.ireturn, 1) := by decide +kernel
theorem d_MD_look_93 : decode c_MD_look 93 = .ok (.aload_n 0, 1) := by decide +kernel
theorem d_MD_look_94 : decode c_MD_look 94 = .ok (.getfield 47, 3) := by decide +kernel
theorem d_MD_look_97 : decode c_MD_look 97 = .ok (.iload_n 1, 1) := by decide +kernel
theorem d_MD_look_98 : decode c_MD_look 98 = .ok (.iaload, 1) := by decide +kernel
theorem d_MD_look_99 : decode c_MD_look 99 = .ok (.ireturn, 1) := by decide +kernel
theorem d_MD_look_100 : decode c_MD_look 100 = .ok (.aload_n 0, 1) := by decide +kernel
theorem d_MD_look_101 : decode c_MD_look 101 = .ok (.getfield 50, 3) := by decide +kernel
theorem d_MD_look_104 : decode c_MD_look 104 = .ok (.iload_n 1, 1) := by decide +kernel
theorem d_MD_look_105 : decode c_MD_look 105 = .ok (.iaload, 1) := by decide +kernel
theorem d_MD_look_106 : decode c_MD_look 106 = .ok (.ireturn, 1) := by decide +kernel
theorem d_MD_look_107 : decode c_MD_look 107 = .ok (.aload_n 0, 1) := by decide +kernel
theorem d_MD_look_108 : decode c_MD_look 108 = .ok (.getfield 53, 3) := by decide +kernel
theorem d_MD_look_111 : decode c_MD_look 111 = .ok (.iload_n 1, 1) := by decide +kernel
theorem d_MD_look_112 : decode c_MD_look 112 = .ok (.baload, 1) := by decide +kernel
theorem d_MD_look_113 : decode c_MD_look 113 = .ok (.ifCond .eq 7, 3) := by decide +kernel
theorem d_MD_look_116 : decode c_MD_look 116 = .ok (.iconst 1, 1) := by decide +kernel
theorem d_MD_look_117 : decode c_MD_look 117 = .ok (.goto 4, 3) := by decide +kernel
theorem d_MD_look_120 : decode c_MD_look 120 = .ok (.iconst 0, 1) := by decide +kernel
theorem d_MD_look_121 : decode c_MD_look 121 = .ok (.ireturn, 1) := by decide +kernel
theorem d_MD_look_122 : decode c_MD_look 122 = .ok (.aload_n 0, 1) := by decide +kernel
theorem d_MD_look_123 : decode c_MD_look 123 = .ok (.getfield 56, 3) := by decide +kernel
theorem d_MD_look_126 : decode c_MD_look 126 = .ok (.iload_n 1, 1) := by decide +kernel
theorem d_MD_look_127 : decode c_MD_look 127 = .ok (.baload, 1) := by decide +kernel
theorem d_MD_look_128 : decode c_MD_look 128 = .ok (.ifCond .eq 7, 3) := by decide +kernel
theorem d_MD_look_131 : decode c_MD_look 131 = .ok (.iconst 1, 1) := by decide +kernel
theorem d_MD_look_132 : decode c_MD_look 132 = .ok (.goto 4, 3) := by decide +kernel
theorem d_MD_look_135 : decode c_MD_look 135 = .ok (.iconst 0, 1) := by decide +kernel
theorem d_MD_look_136 : decode c_MD_look 136 = .ok (.ireturn, 1) := by decide +kernel
theorem d_MD_look_137 : decode c_MD_look 137 = .ok (.aload_n 0, 1) := by decide +kernel
theorem d_MD_look_138 : decode c_MD_look 138 = .ok (.getfield 59, 3) := by decide +kernel
theorem d_MD_look_141 : decode c_MD_look 141 = .ok (.iload_n 1, 1) := by decide +kernel
theorem d_MD_look_142 : decode c_MD_look 142 = .ok (.iaload, 1) := by decide +kernel
theorem d_MD_look_143 : decode c_MD_look 143 = .ok (.ireturn, 1) := by decide +kernel
theorem d_MD_look_144 : decode c_MD_look 144 = .ok (.aload_n 0, 1) := by decide +kernel
theorem d_MD_look_145 : decode c_MD_look 145 = .ok (.getfield 62, 3) := by decide +kernel
theorem d_MD_look_148 : decode c_MD_look 148 = .ok (.iload_n 1, 1) := by decide +kernel
theorem d_MD_look_149 : decode c_MD_look 149 = .ok (.iaload, 1) := by decide +kernel
theorem d_MD_look_150 : decode c_MD_look 150 = .ok (.ireturn, 1) := by decide +kernel
theorem d_MD_look_151 : decode c_MD_look 151 = .ok (.aload_n 0, 1) := by decide +kernel
theorem d_MD_look_152 : decode c_MD_look 152 = .ok (.getfield 68, 3) := by decide +kernel
theorem d_MD_look_155 : decode c_MD_look 155 = .ok (.iload_n 1, 1) := by decide +kernel
theorem d_MD_look_156 : decode c_MD_look 156 = .ok (.iaload, 1) := by decide +kernel
theorem d_MD_look_157 : decode c_MD_look 157 = .ok (.ireturn, 1) := by decide +kernel
theorem d_MD_look_158 : decode c_MD_look 158 = .ok (.aload_n 0, 1) := by decide +kernel
theorem d_MD_look_159 : decode c_MD_look 159 = .ok (.getfield 25, 3) := by decide +kernel
theorem d_MD_look_162 : decode c_MD_look 162 = .ok (.iload_n 1, 1) := by decide +kernel
theorem d_MD_look_163 : decode c_MD_look 163 = .ok (.iaload, 1) := by decide +kernel
theorem d_MD_look_164 : decode c_MD_look 164 = .ok (.ireturn, 1) := by decide +kernel
theorem d_MD_look_165 : decode c_MD_look 165 = .ok (.aload_n 0, 1) := by decide +kernel
theorem d_MD_look_166 : decode c_MD_look 166 = .ok (.getfield 29, 3) := by decide +kernel
theorem d_MD_look_169 : decode c_MD_look 169 = .ok (.iload_n 1, 1) := by decide +kernel
theorem d_MD_look_170 : decode c_MD_look 170 = .ok (.iaload, 1) := by decide +kernel
theorem d_MD_look_171 : decode c_MD_look 171 = .ok (.ireturn, 1) := by decide +kernel
theorem d_MD_look_172 : decode c_MD_look 172 = .ok (.iload_n 2, 1) := by decide +kernel
theorem d_MD_look_173 : decode c_MD_look 173 = .ok (.bipush 20, 2) := by decide +kernel
theorem d_MD_look_175 : decode c_MD_look 175 = .ok (.bipush 27, 2) := by decide +kernel
theorem d_MD_look_177 : decode c_MD_look 177 = .ok (.invokestatic 246, 3) := by decide +kernel
theorem d_MD_look_180 : decode c_MD_look 180 = .ok (.ifCond .eq 20, 3) := by decide +kernel
theorem d_MD_look_183 : decode c_MD_look 183 = .ok (.aload_n 0, 1) := by decide +kernel
theorem d_MD_look_184 : decode c_MD_look 184 = .ok (.getfield 35, 3) := by decide +kernel
theorem d_MD_look_187 : decode c_MD_look 187 = .ok (.bipush 8, 2) := by decide +kernel
theorem d_MD_look_189 : decode c_MD_look 189 = .ok (.iload_n 1, 1) := by decide +kernel
theorem d_MD_look_190 : decode c_MD_look 190 = .ok (.imul, 1) := by decide +kernel
theorem d_MD_look_191 : decode c_MD_look 191 = .ok (.iload_n 2, 1) := by decide +kernel
theorem d_MD_look_192 : decode c_MD_look 192 = .ok (.iadd, 1) := by decide +kernel
theorem d_MD_look_193 : decode c_MD_look 193 = .ok (.bipush 20, 2) := by decide +kernel
theorem d_MD_look_195 : decode c_MD_look 195 = .ok (.isub, 1) := by decide +kernel
theorem d_MD_look_196 : decode c_MD_look 196 = .ok (.iaload, 1) := by decide +kernel
theorem d_MD_look_197 : decode c_MD_look 197 = .ok (.goto 4, 3) := by decide +kernel
theorem d_MD_look_200 : decode c_MD_look 200 = .ok (.iconst (-1), 1) := by decide +kernel
theorem d_MD_look_201 : decode c_MD_look 201 = .ok (.ireturn, 1) := by decide +kernel
theorem d_MD_word2_0 : decode c_MD_word2 0 = .ok (.aload_n 0, 1) := by decide +kernel
theorem d_MD_word2_1 : decode c_MD_word2 1 = .ok (.iload_n 1, 1) := by decide +kernel
theorem d_MD_word2_2 : decode c_MD_word2 2 = .ok (.invokevirtual 292, 3) := by decide +kernel
theorem d_MD_word2_5 : decode c_MD_word2 5 = .ok (.ifCond .eq 34, 3) := by decide +kernel
theorem d_MD_word2_8 : decode c_MD_word2 8 = .ok (.iload_n 2, 1) := by decide +kernel
theorem d_MD_word2_9 : decode c_MD_word2 9 = .ok (.iconst 0, 1) := by decide +kernel
theorem d_MD_word2_10 : decode c_MD_word2 10 = .ok (.aload_n 0, 1) := by decide +kernel
theorem d_MD_word2_11 : decode c_MD_word2 11 = .ok (.getfield 25, 3) := by decide +kernel
theorem d_MD_word2_14 : decode c_MD_word2 14 = .ok (.iload_n 1, 1) := by decide +kernel
theorem d_MD_word2_15 : decode c_MD_word2 15 = .ok (.iaload, 1) := by decide +kernel
theorem d_MD_word2_16 : decode c_MD_word2 16 = .ok (.iconst 1, 1) := by decide +kernel
theorem d_MD_word2_17 : decode c_MD_word2 17 = .ok (.isub, 1) := by decide +kernel
theorem d_MD_word2_18 : decode c_MD_word2 18 = .ok (.invokestatic 246, 3) := by decide +kernel
theorem d_MD_word2_21 : decode c_MD_word2 21 = .ok (.ifCond .eq 18, 3) := by decide +kernel
theorem d_MD_word2_24 : decode c_MD_word2 24 = .ok (.aload_n 0, 1) := by decide +kernel
theorem d_MD_word2_25 : decode c_MD_word2 25 = .ok (.getfield 32, 3) := by decide +kernel
theorem d_MD_word2_28 : decode c_MD_word2 28 = .ok (.sipush 1024, 3) := by decide +kernel
theorem d_MD_word2_31 : decode c_MD_word2 31 = .ok (.iload_n 1, 1) := by decide +kernel
theorem d_MD_word2_32 : decode c_MD_word2 32 = .ok (.imul, 1) := by decide +kernel
theorem d_MD_word2_33 : decode c_MD_word2 33 = .ok (.iload_n 2, 1) := by decide +kernel
theorem d_MD_word2_34 : decode c_MD_word2 34 = .ok (.iadd, 1) := by decide +kernel
theorem d_MD_word2_35 : decode c_MD_word2 35 = .ok (.iaload, 1) := by decide +kernel
theorem d_MD_word2_36 : decode c_MD_word2 36 = .ok (.goto 4, 3) := by decide +kernel
theorem d_MD_word2_39 : decode c_MD_word2 39 = .ok (.iconst (-1), 1) := by decide +kernel
theorem d_MD_word2_40 : decode c_MD_word2 40 = .ok (.ireturn, 1) := by decide +kernel
theorem d_MD_output_0 : decode c_MD_output 0 = .ok (.aload_n 0, 1) := by decide +kernel
theorem d_MD_output_1 : decode c_MD_output 1 = .ok (.iload_n 1, 1) := by decide +kernel
theorem d_MD_output_2 : decode c_MD_output 2 = .ok (.invokevirtual 292, 3) := by decide +kernel
theorem d_MD_output_5 : decode c_MD_output 5 = .ok (.ifCond .eq 39, 3) := by decide +kernel
theorem d_MD_output_8 : decode c_MD_output 8 = .ok (.iload_n 2, 1) := by decide +kernel
theorem d_MD_output_9 : decode c_MD_output 9 = .ok (.iconst 0, 1) := by decide +kernel
theorem d_MD_output_10 : decode c_MD_output 10 = .ok (.sipush 499, 3) := by decide +kernel
theorem d_MD_output_13 : decode c_MD_output 13 = .ok (.invokestatic 246, 3) := by decide +kernel
theorem d_MD_output_16 : decode c_MD_output 16 = .ok (.ifCond .eq 28, 3) := by decide +kernel
theorem d_MD_output_19 : decode c_MD_output 19 = .ok (.iload_n 2, 1) := by decide +kernel
theorem d_MD_output_20 : decode c_MD_output 20 = .ok (.aload_n 0, 1) := by decide +kernel
theorem d_MD_output_21 : decode c_MD_output 21 = .ok (.getfield 62, 3) := by decide +kernel
theorem d_MD_output_24 : decode c_MD_output 24 = .ok (.iload_n 1, 1) := by decide +kernel
theorem d_MD_output_25 : decode c_MD_output 25 = .ok (.iaload, 1) := by decide +kernel
theorem d_MD_output_26 : decode c_MD_output 26 = .ok (.if_icmp .ge 18, 3) := by decide +kernel
theorem d_MD_output_29 : decode c_MD_output 29 = .ok (.aload_n 0, 1) := by decide +kernel
theorem d_MD_output_30 : decode c_MD_output 30 = .ok (.getfield 65, 3) := by decide +kernel
theorem d_MD_output_33 : decode c_MD_output 33 = .ok (.sipush 500, 3) := by decide +kernel
theorem d_MD_output_36 : decode c_MD_output 36 = .ok (.iload_n 1, 1) := by decide +kernel
theorem d_MD_output_37 : decode c_MD_output 37 = .ok (.imul, 1) := by decide +kernel
theorem d_MD_output_38 : decode c_MD_output 38 = .ok (.iload_n 2, 1) := by decide +kernel
theorem d_MD_output_39 : decode c_MD_output 39 = .ok (.iadd, 1) := by decide +kernel
theorem d_MD_output_40 : decode c_MD_output 40 = .ok (.iaload, 1) := by decide +kernel
theorem d_MD_output_41 : decode c_MD_output 41 = .ok (.goto 4, 3) := by decide +kernel
theorem d_MD_output_44 : decode c_MD_output 44 = .ok (.iconst (-1), 1) := by decide +kernel
theorem d_MD_output_45 : decode c_MD_output 45 = .ok (.ireturn, 1) := by decide +kernel
theorem d_MD_disk_0 : decode c_MD_disk 0 = .ok (.aload_n 0, 1) := by decide +kernel
theorem d_MD_disk_1 : decode c_MD_disk 1 = .ok (.iload_n 1, 1) := by decide +kernel
theorem d_MD_disk_2 : decode c_MD_disk 2 = .ok (.invokevirtual 292, 3) := by decide +kernel
theorem d_MD_disk_5 : decode c_MD_disk 5 = .ok (.ifCond .eq 43, 3) := by decide +kernel
theorem d_MD_disk_8 : decode c_MD_disk 8 = .ok (.iload_n 2, 1) := by decide +kernel
theorem d_MD_disk_9 : decode c_MD_disk 9 = .ok (.iconst 0, 1) := by decide +kernel
theorem d_MD_disk_10 : decode c_MD_disk 10 = .ok (.bipush 7, 2) := by decide +kernel
theorem d_MD_disk_12 : decode c_MD_disk 12 = .ok (.invokestatic 246, 3) := by decide +kernel
theorem d_MD_disk_15 : decode c_MD_disk 15 = .ok (.ifCond .eq 33, 3) := by decide +kernel
theorem d_MD_disk_18 : decode c_MD_disk 18 = .ok (.iload_n 3, 1) := by decide +kernel
theorem d_MD_disk_19 : decode c_MD_disk 19 = .ok (.iconst 0, 1) := by decide +kernel
theorem d_MD_disk_20 : decode c_MD_disk 20 = .ok (.bipush 15, 2) := by decide +kernel
theorem d_MD_disk_22 : decode c_MD_disk 22 = .ok (.invokestatic 246, 3) := by decide +kernel
theorem d_MD_disk_25 : decode c_MD_disk 25 = .ok (.ifCond .eq 23, 3) := by decide +kernel
theorem d_MD_disk_28 : decode c_MD_disk 28 = .ok (.aload_n 0, 1) := by decide +kernel
theorem d_MD_disk_29 : decode c_MD_disk 29 = .ok (.getfield 74, 3) := by decide +kernel
theorem d_MD_disk_32 : decode c_MD_disk 32 = .ok (.sipush 128, 3) := by decide +kernel
theorem d_MD_disk_35 : decode c_MD_disk 35 = .ok (.iload_n 1, 1) := by decide +kernel
theorem d_MD_disk_36 : decode c_MD_disk 36 = .ok (.imul, 1) := by decide +kernel
theorem d_MD_disk_37 : decode c_MD_disk 37 = .ok (.bipush 16, 2) := by decide +kernel
theorem d_MD_disk_39 : decode c_MD_disk 39 = .ok (.iload_n 2, 1) := by decide +kernel
theorem d_MD_disk_40 : decode c_MD_disk 40 = .ok (.imul, 1) := by decide +kernel
theorem d_MD_disk_41 : decode c_MD_disk 41 = .ok (.iadd, 1) := by decide +kernel
theorem d_MD_disk_42 : decode c_MD_disk 42 = .ok (.iload_n 3, 1) := by decide +kernel
theorem d_MD_disk_43 : decode c_MD_disk 43 = .ok (.iadd, 1) := by decide +kernel
theorem d_MD_disk_44 : decode c_MD_disk 44 = .ok (.iaload, 1) := by decide +kernel
theorem d_MD_disk_45 : decode c_MD_disk 45 = .ok (.goto 4, 3) := by decide +kernel
theorem d_MD_disk_48 : decode c_MD_disk 48 = .ok (.iconst (-1), 1) := by decide +kernel
theorem d_MD_disk_49 : decode c_MD_disk 49 = .ok (.ireturn, 1) := by decide +kernel
end
section
/-! ROWS OF MINE over the kit: a world as a list of cells, contracts that name the new list, calls in one row -/
section JW
abbrev jz_Z : Type := List (String × String × String × Value)
abbrev jz_E : Type := va_G × (Nat → ClassId) × jz_Z × List (Nat × Nat × (Nat → Int32)) × Nat × Nat
abbrev jty (cT : Nat → ClassId) : List (ClassId × FieldType) := [(cT 0, .int), (cT 1, .long), (cT 2, .byte), (cT 3, .boolean), (cT 4, .object R_GU)]
def sTxt : String := "HALT  SET   LOAD  STORE LOADX STOREXMOVE  ADD   SUB   AND   LESS  SHIFT JUMP  ZERO  GO    CALL  SVC   LPSW  SPSW  SETT  GETT  IN    OUT   GETB  PUTB  WORD  SPACE AT    "
def sByt : List (List Int32) := [[72, 65, 76, 84, 32, 32, 83, 69, 84, 32, 32, 32, 76, 79, 65, 68, 32, 32, 83, 84, 79, 82, 69, 32, 76, 79, 65, 68, 88, 32, 83, 84, 79, 82, 69, 88, 77, 79, 86, 69, 32, 32, 65, 68, 68, 32, 32, 32, 83, 85, 66, 32, 32, 32, 65, 78, 68, 32, 32, 32, 76, 69, 83, 83, 32, 32, 83, 72, 73, 70, 84, 32, 74, 85, 77, 80, 32, 32, 90, 69, 82, 79, 32, 32, 71, 79, 32, 32, 32, 32, 67, 65, 76, 76, 32, 32, 83, 86, 67, 32, 32, 32, 76, 80, 83, 87, 32, 32, 83, 80, 83, 87, 32, 32, 83, 69, 84, 84, 32, 32, 71, 69, 84, 84, 32, 32, 73, 78, 32, 32, 32, 32, 79, 85, 84, 32, 32, 32, 71, 69, 84, 66, 32, 32, 80, 85, 84, 66, 32, 32, 87, 79, 82, 68, 32, 32, 83, 80, 65, 67, 69, 32, 65, 84, 32, 32, 32, 32]]
/-- what lies outside the worlds and stays: statics, static arrays of ints, the one text -/
def jz_ok (E : jz_E) (A : Nat → Prop) (U : State) (H : Heap) : Prop := (∀ z ∈ E.2.2.1, va_Z z.1 z.2.1 z.2.2.1 z.2.2.2 A U H) ∧ (∀ z ∈ E.2.2.2.1, va_T .int z.1 z.2.1 (fun j => .int (z.2.2 j)) A U H) ∧ vk_S 1 [168] sByt (fun _ => E.2.2.2.2.1) (fun _ => E.2.2.2.2.2) A U H ∧ vk_R R_LI 85 sTxt E.2.2.2.2.1 U ∧ va_Zq "jdk/internal/util/Preconditions" "SIOOBE_FORMATTER" "Ljava/util/function/BiFunction;" A U H
theorem jz_ok.same {E : jz_E} {A : Nat → Prop} {u U : State} {H : Heap} (hvm : u.vm = U.vm) (h : jz_ok E A u H) : jz_ok E A U H := by
  have ha : u.vm.Alike U.vm := by rw [hvm]; exact Vm.Alike.refl U.vm
  exact ⟨fun z hz => va_Z.moved ha (h.1 z hz), fun z hz => va_T.moved ha (h.2.1 z hz), vk_S.moved ha h.2.2.1, vk_R.same hvm.symm h.2.2.2.1, va_Zq.moved ha h.2.2.2.2⟩
theorem jz_ok.warm {E : jz_E} {A B : Nat → Prop} {s U : State} {H0 H : Heap} (hW : s.WarmedH U.vm) (hq : ∀ a : Nat, a < H0.size → ¬ A a → H[a]? = H0[a]?) (hAB : ∀ q, B q → A q) (h : jz_ok E A s H0) : jz_ok E B U H :=
  ⟨fun z hz => va_Z.moved hW.alike (((h.1 z hz).kept hq).narrow hAB), fun z hz => va_T.moved hW.alike (((h.2.1 z hz).kept hq).narrow hAB), vk_S.moved hW.alike ((h.2.2.1.kept hq).narrow hAB), vk_R.warm hW h.2.2.2.1, va_Zq.moved hW.alike ((h.2.2.2.2.kept hq).narrow hAB)⟩
def jE (E : jz_E) (U : State) : Prop := va_K E.1 classes (jty E.2.1) U ∧ ∀ w ∈ nw_all, va_Nw w U
def isFN : Cond → Bool
  | .fieldLinkNest .. => true
  | _ => false
theorem isFN_on {w : Cond} (h : isFN w = true) : w.onTables = true := by
  cases w <;> first | rfl | (simp [isFN] at h)
theorem isFN_warm {w : Cond} (h : isFN w = true) {s U : State} (hW : s.WarmedH U.vm) (hZ : va_Nw w s) : va_Nw w U := by
  cases w <;> first | exact va_Nw.warmF hW hZ | (simp [isFN] at h)
theorem nw_fn : ∀ w ∈ nw_all, isFN w = true := by decide +kernel
theorem jE.warm {E : jz_E} {s U : State} (hW : s.WarmedH U.vm) (h : jE E s) : jE E U := ⟨va_K.moved hW.alike h.1, fun w hw => isFN_warm (nw_fn w hw) hW (h.2 w hw)⟩
theorem jE.same {E : jz_E} {u U : State} (hvm : u.vm = U.vm) (h : jE E u) : jE E U := ⟨va_K.moved (by rw [hvm]; exact Vm.Alike.refl U.vm) h.1, fun w hw => va_Nw.same (isFN_on (nw_fn w hw)) hvm (h.2 w hw)⟩
def PW (E : jz_E) (WS : va_W) (sz : Nat) (U : State) : Prop := U.heap.size = sz ∧ va_P E.1 classes WS U.heap ∧ jE E U ∧ va_D (fun _ => True) WS ∧ jz_ok E (va_A WS sz) U U.heap
theorem PW.blind {E : jz_E} {av : List Value} {WS : va_W} {sz : Nat} : FrameBlind (va_Pc av (PW E WS sz)) := by
  intro a U g mk q
  obtain ⟨q0, q1, qP, qK, qD, qZ⟩ := q
  exact ⟨q0, q1, qP, jE.same (u := U) (U := U.calling g mk a) rfl qK, qD, jz_ok.same (u := U) (U := U.calling g mk a) rfl qZ⟩
def BW (E : jz_E) (A : Nat → Prop) (u : va_W) (t : State) : Prop := va_P E.1 classes u t.heap ∧ va_D A u
abbrev CTi (l : Launch) (E : jz_E) (y : MethodName) (cc : ByteArray) (mL : Nat) (rt : Option FieldType) (rm : Room) (av : List Value) (WS : va_W) (sz : Nat) (r : Int32) (WS' : va_W) : Prop := Met l y (Cond.code y cc mL rt :: G) rm (va_Pc av (PW E WS sz)) (va_Qi (fun (r' : Int32) (u : va_W) => r' = r ∧ u = WS') (BW E (va_A WS sz)) (va_A WS sz)) 0 0 (va_A WS sz)
abbrev CTl (l : Launch) (E : jz_E) (y : MethodName) (cc : ByteArray) (mL : Nat) (rt : Option FieldType) (rm : Room) (av : List Value) (WS : va_W) (sz : Nat) (r : Int64) (WS' : va_W) : Prop := Met l y (Cond.code y cc mL rt :: G) rm (va_Pc av (PW E WS sz)) (va_Ql (fun (r' : Int64) (u : va_W) => r' = r ∧ u = WS') (BW E (va_A WS sz)) (va_A WS sz)) 0 0 (va_A WS sz)
abbrev CTv (l : Launch) (E : jz_E) (y : MethodName) (cc : ByteArray) (mL : Nat) (rt : Option FieldType) (rm : Room) (av : List Value) (WS : va_W) (sz : Nat) (WS' : va_W) : Prop := Met l y (Cond.code y cc mL rt :: G) rm (va_Pc av (PW E WS sz)) (va_Qv (fun (u : va_W) => u = WS') (BW E (va_A WS sz)) (va_A WS sz)) 0 0 (va_A WS sz)
/-- what a method's walk stands on -/
def JC (p : Program) (s : State) (m : MethodId) (args : Array Value) (meth : Method) (c : Code) (cc : ByteArray) (mL : Nat) (rt : Option FieldType) (own : String) : Prop := p.tables.exec = Jvm.exec ∧ c.code = cc ∧ c.maxLocals = mL ∧ meth.sig.returnType = rt ∧ s.vm.findClass own = some m.cls ∧ (∀ w ∈ G, w.before args s = true) ∧ meth.locks = false
theorem jw {l : Launch} {E : jz_E} {y : MethodName} {cc : ByteArray} {mL : Nat} {rt : Option FieldType} {rm : Room} {av : List Value} {WS : va_W} {sz : Nat} {Qc : Array Value → State → Outcome → State → Prop} {mc ms : Nat} (hy : plainName y.cls = true) (hlen : (lg_sl av).length ≤ mL)
    (body : ∀ (p : Program) (e : Env) (s : State) (m : MethodId) (below : List Frame) (meth : Method) (c : Code) (A : Nat → Prop) (ls : Array Slot), JC p s m av.toArray meth c cc mL rt y.cls → jE E s → A = va_A WS sz → s.heap.size = sz → (∀ q : Nat, s.heap.size ≤ q → A q) → jz_ok E A s s.heap → va_P E.1 classes WS s.heap → va_D A WS → lv_has ls mL (lv_args 0 av) → W p l e rm s m av.toArray below meth c s.heap [] 0 0 (MQ below Qc av.toArray s mc ms A) (F0 m 0 ls [])) : Met l y (Cond.code y cc mL rt :: G) rm (va_Pc av (PW E WS sz)) Qc mc ms (va_A WS sz) := by
  refine Met.ofW (cc := cc) (maxL := mL) (ret := rt) hy rfl ?_
  intro p e s m args below meth c s₁ B hml hv
  obtain ⟨rfl, hsz, hP, hK, hD0, hZ⟩ := hv
  have hts := atoms_spec (ws := Cond.code y cc mL rt :: G) B.pre
  have hown : s.vm.findClass y.cls = some m.cls := findClass_of_methodNamed B.named
  have hD := hD0.self (sz := sz)
  have hl := lv_entry av (n := mL) hlen
  rw [lg_entry_eq]
  generalize (lg_sl av ++ List.replicate (mL - (lg_sl av).length) Slot.unset).toArray = ls at hl ⊢
  exact body p e s m below meth c (va_A WS sz) ls ⟨B.exec, B.bytes, hml, B.returns, hown, fun w h => hts w (List.mem_cons_of_mem _ h), B.notSynchronized⟩ hK rfl hsz (fun q h => Or.inr (by rw [← hsz]; exact h)) hZ hP hD hl
end JW
section JR
variable {p : Program} {l : Launch} {e : Env} {R : Room} {s : State} {m : MethodId} {args : Array Value} {below : List Frame} {meth : Method} {c : Code} {H : Heap} {locs : List Loc} {cells slots : Nat} {Q : State → Prop}
variable {cc : ByteArray} {nL pc : Nat} {ls : Array Slot} {rest st0 : List Value} {E : jz_E} {A : Nat → Prop} {WS : va_W} {rt0 : Option FieldType} {own : String}
theorem jr_i {v : Int32} {WS' : va_W} {ty : FieldType} (J : JC p s m args meth c cc nL (some ty) own) (hS : va_S A s.heap H locs) (hP : va_P E.1 classes WS' H) (hD : va_D A WS') (hn : narrow ty (.int v) = .int v) (hdg : decode cc pc = .ok (.ireturn, 1)) : W p l e R s m args below meth c H locs cells slots (MQ below (va_Qi (fun (r' : Int32) (u : va_W) => r' = v ∧ u = WS') (BW E A) A) args s cells slots A) (F0 m pc ls [.int v]) := by
  obtain ⟨hx, hb, -, hr, -, -, hlocks⟩ := J
  exact W.zret hx hb hr hn (fun t ht hW => ⟨⟨v, WS', rfl, ⟨rfl, rfl⟩, by rw [ht]; exact hP, hD⟩, hS.F ht⟩) hS.2.2 hdg
theorem jr_l {v : Int64} {WS' : va_W} (J : JC p s m args meth c cc nL (some .long) own) (hS : va_S A s.heap H locs) (hP : va_P E.1 classes WS' H) (hD : va_D A WS') (hdg : decode cc pc = .ok (.lreturn, 1)) : W p l e R s m args below meth c H locs cells slots (MQ below (va_Ql (fun (r' : Int64) (u : va_W) => r' = v ∧ u = WS') (BW E A) A) args s cells slots A) (F0 m pc ls [.long v]) := by
  obtain ⟨hx, hb, -, hr, -, -, hlocks⟩ := J
  exact W.lret hx hb hr (fun t ht hW => ⟨⟨v, WS', rfl, ⟨rfl, rfl⟩, by rw [ht]; exact hP, hD⟩, hS.F ht⟩) hS.2.2 hdg
theorem jr_v {WS' : va_W} (J : JC p s m args meth c cc nL none own) (hS : va_S A s.heap H locs) (hP : va_P E.1 classes WS' H) (hD : va_D A WS') (hdg : decode cc pc = .ok (.return_, 1)) : W p l e R s m args below meth c H locs cells slots (MQ below (va_Qv (fun (u : va_W) => u = WS') (BW E A) A) args s cells slots A) (F0 m pc ls []) := by
  obtain ⟨hx, hb, -, hr, -, -, hlocks⟩ := J
  exact W.vret hx hb hr (fun t ht hW => ⟨⟨WS', rfl, rfl, by rw [ht]; exact hP, hD⟩, hS.F ht⟩) hS.2.2 hdg
theorem jg (J : JC p s m args meth c cc nL rt0 own) (hJ : jE E s) (hP : va_P E.1 classes WS H) (q0 : Nat) {a ci N idx : Nat} {fs : List Value} {C : String} {T : u_T} (he : WS[q0]? = some (a, .inr (ci, fs))) (hc : classes[ci]? = some (C, T, N)) (hin : ∀ w ∈ u_ws C T N, w ∈ G) (k : Nat) (hk : k < N) (gf : Cond.fieldLink own idx (T k).1 (T k).2.1 (T k).2.2.1 ∈ G) {v : Value} (hv : fs[k]? = some v) (hdg : decode cc pc = .ok (.getfield idx, 3)) (kk : W p l e R s m args below meth c H locs cells slots Q (F0 m (pc + 3) ls (v :: rest))) : W p l e R s m args below meth c H locs cells slots Q (F0 m pc ls (.ref a :: rest)) := by
  obtain ⟨hx, hb, -, -, hown, hts, -⟩ := J
  exact va_get hx hb hts hin hown hJ.1 hP q0 he hc k hk (hts _ gf) (fun _ h => h) hv hdg kk
theorem jgN (J : JC p s m args meth c cc nL rt0 own) (hJ : jE E s) (hP : va_P E.1 classes WS H) (q0 : Nat) {a ci N idx : Nat} {fs : List Value} {C host : String} {T : u_T} (he : WS[q0]? = some (a, .inr (ci, fs))) (hc : classes[ci]? = some (C, T, N)) (hin : ∀ w ∈ u_ws C T N, w ∈ G) (k : Nat) (hk : k < N) (gf : Cond.fieldLinkNest own idx (T k).1 (T k).2.1 (T k).2.2.1 host ∈ nw_all) {v : Value} (hv : fs[k]? = some v) (hdg : decode cc pc = .ok (.getfield idx, 3)) (kk : W p l e R s m args below meth c H locs cells slots Q (F0 m (pc + 3) ls (v :: rest))) : W p l e R s m args below meth c H locs cells slots Q (F0 m pc ls (.ref a :: rest)) := by
  obtain ⟨hx, hb, -, -, hown, hts, -⟩ := J
  exact va_getN hx hb hts hin hown hJ.1 hP q0 he hc k hk (va_Nw.use (isFN_on (nw_fn _ gf)) (hJ.2 _ gf)) (fun _ h => h) hv hdg kk
theorem jp (J : JC p s m args meth c cc nL rt0 own) (hJ : jE E s) (hP : va_P E.1 classes WS H) (hD : va_D A WS) (hS : va_S A s.heap H locs) (q0 : Nat) {a ci N idx : Nat} {fs : List Value} {C : String} {T : u_T} (he : WS[q0]? = some (a, .inr (ci, fs))) (hc : classes[ci]? = some (C, T, N)) (hin : ∀ w ∈ u_ws C T N, w ∈ G) (ty0 : Nat → FieldType) (hty : ∀ k, k < N → parseFieldDescriptor (T k).2.2.1 = some (ty0 k)) (hnm : ∀ a, a < N → ∀ b, b < N → a ≠ b → (T a).2.1 ≠ (T b).2.1) (k : Nat) (hk : k < N) (gf : Cond.fieldLink own idx (T k).1 (T k).2.1 (T k).2.2.1 ∈ G) (hfin : (T k).2.2.2 = false) {v : Value} (hn : narrow (ty0 k) v = v) (hfit : fits (ty0 k) v = true) (hl : k < fs.length) (hdg : decode cc pc = .ok (.putfield idx, 3)) {WS' : va_W} (hw : WS.set q0 (a, .inr (ci, fs.set k v)) = WS') (kk : ∀ (H1 : Heap) (locs1 : List Loc), va_P E.1 classes WS' H1 → va_D A WS' → va_S A s.heap H1 locs1 → W p l e R s m args below meth c H1 locs1 cells slots Q (F0 m (pc + 3) ls rest)) : W p l e R s m args below meth c H locs cells slots Q (F0 m pc ls (v :: .ref a :: rest)) := by
  obtain ⟨hx, hb, -, -, hown, hts, -⟩ := J
  subst hw
  exact va_put hx hb hts hin ty0 hty hnm hown hJ.1 hP hD hS q0 he hc k hk (hts _ gf) (fun _ h => h) hfin (hty k hk) hn hfit hl hdg kk
theorem jai (J : JC p s m args meth c cc nL rt0 own) (hJ : jE E s) (hP : va_P E.1 classes WS H) (q0 : Nat) {a n : Nat} {f : Nat → Int32} (ha : WS[q0]? = some (a, .inl (E.2.1 0, n, .inl f))) {i : Int32} (hin : vp_in i n) (hdg : decode cc pc = .ok (.iaload, 1)) (kk : W p l e R s m args below meth c H locs cells slots Q (F0 m (pc + 1) ls (.int (f i.toNatClampNeg) :: rest))) : W p l e R s m args below meth c H locs cells slots Q (F0 m pc ls (.int i :: .ref a :: rest)) := va_iald J.1 J.2.1 hJ.1 hP q0 0 ha rfl hin hdg kk
theorem jsi (J : JC p s m args meth c cc nL rt0 own) (hJ : jE E s) (hP : va_P E.1 classes WS H) (hD : va_D A WS) (hS : va_S A s.heap H locs) (q0 : Nat) {a n : Nat} {f : Nat → Int32} (ha : WS[q0]? = some (a, .inl (E.2.1 0, n, .inl f))) {i x : Int32} (hin : vp_in i n) (hdg : decode cc pc = .ok (.iastore, 1)) {WS' : va_W} (hw : WS.set q0 (a, .inl (E.2.1 0, n, .inl (upd f i.toNatClampNeg x))) = WS') (kk : ∀ (H1 : Heap) (locs1 : List Loc), va_P E.1 classes WS' H1 → va_D A WS' → va_S A s.heap H1 locs1 → W p l e R s m args below meth c H1 locs1 cells slots Q (F0 m (pc + 1) ls rest)) : W p l e R s m args below meth c H locs cells slots Q (F0 m pc ls (.int x :: .int i :: .ref a :: rest)) := by
  subst hw
  exact va_iast J.1 J.2.1 hJ.1 hP hD hS q0 0 ha rfl hin hdg kk
theorem jsub {isC : List Nat} {WC : va_W} (hC : isC.map (fun i => WS[i]?) = WC.map some) : isC.filterMap (fun i => WS[i]?) = WC := by
  have h1 : isC.filterMap (fun i => WS[i]?) = (isC.map (fun i => WS[i]?)).filterMap id := by rw [List.filterMap_map]; rfl
  rw [h1, hC, List.filterMap_map]
  simp
variable {y : MethodName} {cy : ByteArray} {mL idx n : Nat} {rt : Option FieldType} {rm : Room} {WC WR WC' : va_W} {C : String} {b : Addr} {As : List Value} {Qc : Array Value → State → Outcome → State → Prop}
/-- what a callee's start asks, out of the caller's world -/
theorem jpre {av : List Value} (hJ : jE E s) (hA : ∀ q, s.heap.size ≤ q → A q) (hZ : jz_ok E A s s.heap) (hP : va_P E.1 classes WS H) (hD : va_D A WS) (hS : va_S A s.heap H locs) (isC : List Nat) (hC : isC.map (fun i => WS[i]?) = WC.map some) (hn1 : va_nd isC = true) : ∀ U : State, U.heap = H → s.WarmedH U.vm → va_Pc av (PW E WC H.size) av.toArray U := by
  intro U hU hW
  refine ⟨rfl, by rw [hU], by rw [hU]; exact hP.sub isC (jsub hC), hJ.warm hW, (hD.sub isC hn1 hC).weaken (fun _ _ _ _ => trivial), ?_⟩
  rw [hU]
  exact hZ.warm hW hS.2.1 (va_free hD hS hA isC hC)
theorem jrunV (J : JC p s m args meth c cc nL rt0 own) (hJ : jE E s) (hA : ∀ q, s.heap.size ≤ q → A q) (hZ : jz_ok E A s s.heap) (hP : va_P E.1 classes WS H) (hD : va_D A WS) (hS : va_S A s.heap H locs)
    (hM : Met l y (Cond.code y cy mL rt :: G) rm (va_Pc (.ref b :: As) (PW E WC H.size)) Qc 0 0 (va_A WC H.size)) (isC : List Nat) (hC : isC.map (fun i => WS[i]?) = WC.map some) (hn1 : va_nd isC = true)
    (gl : Cond.methodLink own idx y ∈ G) (gi : Cond.instanceMethod y ∈ G) (gs : Cond.selects y.cls y y ∈ G) (gini : Cond.initialized y.cls ∈ G) (gc : Cond.code y cy mL rt ∈ G) (hd : y.cls ≠ "java/lang/invoke/MethodHandle" ∧ y.cls ≠ "java/lang/invoke/VarHandle" ∧ (parseMethodDescriptor y.desc).map (fun d => d.parameters.length) = some n)
    (hrm : rm.cells = 0 ∧ rm.slots = 0 ∧ rm.frames + 1 ≤ R.frames ∧ 8 + (mL + 11) + rm.locals ≤ R.locals) {ci N : Nat} {fs : List Value} {T : u_T} (hrec : WC[0]? = some (b, .inr (ci, fs))) (hcl : classes[ci]? = some (y.cls, T, N))
    (hls : ls.size = nL) (hn : As.length = n) (hst : st0 = As.reverse ++ .ref b :: rest) (hroom : (rest.map fun v => v.category).sum ≤ 8) (hdg : decode cc pc = .ok (.invokevirtual idx, 3)) (hcs : cells ≤ R.cells ∧ slots ≤ R.slots) :
    va_Run p l e R s m args below meth c H locs cells slots 0 0 (F0 m pc ls st0) rest (Qc (Value.ref b :: As).toArray) (va_A WC H.size) := by
  obtain ⟨hx, hb, hml, hr, hown, hts, hlk⟩ := J
  exact va_runV (Ts := G) (As := As) (rest := rest) (C := y.cls) ⟨hx, hb, hml, hown, hts⟩ hM ⟨callB_of n hts (gG gc) rfl hrm.1 hrm.2.1 (hts _ gini) (hts _ gl) hd hrm.2.2, hts _ gi, hts _ gs⟩ ⟨PW.blind, va_recv hJ.1 (hP.sub isC (jsub hC)) hcl hrec, jpre hJ hA hZ hP hD hS isC hC hn1⟩ rfl hn hls hst (lv_room hroom) hdg hcs
theorem jrunS (J : JC p s m args meth c cc nL rt0 own) (hJ : jE E s) (hA : ∀ q, s.heap.size ≤ q → A q) (hZ : jz_ok E A s s.heap) (hP : va_P E.1 classes WS H) (hD : va_D A WS) (hS : va_S A s.heap H locs)
    (hM : Met l y (Cond.code y cy mL rt :: G) rm (va_Pc As (PW E WC H.size)) Qc 0 0 (va_A WC H.size)) (isC : List Nat) (hC : isC.map (fun i => WS[i]?) = WC.map some) (hn1 : va_nd isC = true)
    (gl : Cond.methodLink own idx y ∈ G) (gs : Cond.static y ∈ G) (gini : Cond.initialized y.cls ∈ G) (gc : Cond.code y cy mL rt ∈ G) (hd : y.cls ≠ "java/lang/invoke/MethodHandle" ∧ y.cls ≠ "java/lang/invoke/VarHandle" ∧ (parseMethodDescriptor y.desc).map (fun d => d.parameters.length) = some n)
    (hrm : rm.cells = 0 ∧ rm.slots = 0 ∧ rm.frames + 1 ≤ R.frames ∧ 8 + (mL + 11) + rm.locals ≤ R.locals)
    (hls : ls.size = nL) (hn : As.length = n) (hst : st0 = As.reverse ++ rest) (hroom : (rest.map fun v => v.category).sum ≤ 8) (hdg : decode cc pc = .ok (.invokestatic idx, 3)) (hcs : cells ≤ R.cells ∧ slots ≤ R.slots) :
    va_Run p l e R s m args below meth c H locs cells slots 0 0 (F0 m pc ls st0) rest (Qc As.toArray) (va_A WC H.size) := by
  obtain ⟨hx, hb, hml, hr, hown, hts, hlk⟩ := J
  exact va_runS (Ts := G) (As := As) (rest := rest) ⟨hx, hb, hml, hown, hts⟩ hM ⟨callB_of n hts (gG gc) rfl hrm.1 hrm.2.1 (hts _ gini) (hts _ gl) hd hrm.2.2, hts _ gs⟩ ⟨PW.blind, jpre hJ hA hZ hP hD hS isC hC hn1⟩ rfl hn hls hst (lv_room hroom) hdg hcs
theorem jk_i {res : Int32} {a : Array Value} (hr : va_Run p l e R s m args below meth c H locs cells slots 0 0 (F0 m pc ls st0) rest (va_Qi (fun (r' : Int32) (u : va_W) => r' = res ∧ u = WC') (BW E (va_A WC H.size)) (va_A WC H.size) a) (va_A WC H.size)) (hA : ∀ q, s.heap.size ≤ q → A q) (hP : va_P E.1 classes WS H) (hD : va_D A WS) (hS : va_S A s.heap H locs) (isC isR : List Nat) (hC : isC.map (fun i => WS[i]?) = WC.map some) (hR : isR.map (fun i => WS[i]?) = WR.map some) (hn2 : va_nd isR = true) (hdis : ∀ i ∈ isR, i ∉ isC) (isF : List Nat) {WF : va_W} (hF : isF.map (fun i => (WR ++ WC')[i]?) = WF.map some) (hn3 : va_nd isF = true)
    (kk : ∀ (H1 : Heap) (locs1 : List Loc), va_P E.1 classes WF H1 → va_D A WF → va_S A s.heap H1 locs1 → W p l e R s m args below meth c H1 locs1 cells slots Q (F0 m (pc + 3) ls (.int res :: rest))) : W p l e R s m args below meth c H locs cells slots Q (F0 m pc ls st0) := by
  have hFc := va_free hD hS hA isC hC
  refine va_calli hr hS (fun q _ h => hFc q h) hFc (fun r u t H1 locs1 ht hvm hw hB hz1 hk1 hS1 => ?_)
  obtain ⟨rfl, rfl⟩ := hw
  obtain ⟨hP1, hD1⟩ := hB
  rw [ht] at hP1
  obtain ⟨hP2, hD2⟩ := va_join hP hD isC isR hC hR hn2 hdis hk1 hFc hP1 hD1
  exact kk H1 locs1 (hP2.sub isF (jsub hF)) (hD2.sub isF hn3 hF) hS1
theorem jk_l {res : Int64} {a : Array Value} (hr : va_Run p l e R s m args below meth c H locs cells slots 0 0 (F0 m pc ls st0) rest (va_Ql (fun (r' : Int64) (u : va_W) => r' = res ∧ u = WC') (BW E (va_A WC H.size)) (va_A WC H.size) a) (va_A WC H.size)) (hA : ∀ q, s.heap.size ≤ q → A q) (hP : va_P E.1 classes WS H) (hD : va_D A WS) (hS : va_S A s.heap H locs) (isC isR : List Nat) (hC : isC.map (fun i => WS[i]?) = WC.map some) (hR : isR.map (fun i => WS[i]?) = WR.map some) (hn2 : va_nd isR = true) (hdis : ∀ i ∈ isR, i ∉ isC) (isF : List Nat) {WF : va_W} (hF : isF.map (fun i => (WR ++ WC')[i]?) = WF.map some) (hn3 : va_nd isF = true)
    (kk : ∀ (H1 : Heap) (locs1 : List Loc), va_P E.1 classes WF H1 → va_D A WF → va_S A s.heap H1 locs1 → W p l e R s m args below meth c H1 locs1 cells slots Q (F0 m (pc + 3) ls (.long res :: rest))) : W p l e R s m args below meth c H locs cells slots Q (F0 m pc ls st0) := by
  have hFc := va_free hD hS hA isC hC
  refine va_calll hr hS (fun q _ h => hFc q h) hFc (fun r u t H1 locs1 ht hvm hw hB hz1 hk1 hS1 => ?_)
  obtain ⟨rfl, rfl⟩ := hw
  obtain ⟨hP1, hD1⟩ := hB
  rw [ht] at hP1
  obtain ⟨hP2, hD2⟩ := va_join hP hD isC isR hC hR hn2 hdis hk1 hFc hP1 hD1
  exact kk H1 locs1 (hP2.sub isF (jsub hF)) (hD2.sub isF hn3 hF) hS1
theorem jk_v {a : Array Value} (hr : va_Run p l e R s m args below meth c H locs cells slots 0 0 (F0 m pc ls st0) rest (va_Qv (fun (u : va_W) => u = WC') (BW E (va_A WC H.size)) (va_A WC H.size) a) (va_A WC H.size)) (hA : ∀ q, s.heap.size ≤ q → A q) (hP : va_P E.1 classes WS H) (hD : va_D A WS) (hS : va_S A s.heap H locs) (isC isR : List Nat) (hC : isC.map (fun i => WS[i]?) = WC.map some) (hR : isR.map (fun i => WS[i]?) = WR.map some) (hn2 : va_nd isR = true) (hdis : ∀ i ∈ isR, i ∉ isC) (isF : List Nat) {WF : va_W} (hF : isF.map (fun i => (WR ++ WC')[i]?) = WF.map some) (hn3 : va_nd isF = true)
    (kk : ∀ (H1 : Heap) (locs1 : List Loc), va_P E.1 classes WF H1 → va_D A WF → va_S A s.heap H1 locs1 → W p l e R s m args below meth c H1 locs1 cells slots Q (F0 m (pc + 3) ls rest)) : W p l e R s m args below meth c H locs cells slots Q (F0 m pc ls st0) := by
  have hFc := va_free hD hS hA isC hC
  refine va_callv hr hS (fun q _ h => hFc q h) hFc (fun u t H1 locs1 ht hvm hw hB hz1 hk1 hS1 => ?_)
  subst hw
  obtain ⟨hP1, hD1⟩ := hB
  rw [ht] at hP1
  obtain ⟨hP2, hD2⟩ := va_join hP hD isC isR hC hR hn2 hdis hk1 hFc hP1 hD1
  exact kk H1 locs1 (hP2.sub isF (jsub hF)) (hD2.sub isF hn3 hF) hS1
/-- out of a guard's value -/
theorem g_ck {α : Type} {q : Prop} [Decidable q] {a : Option α} {r : α} (h : (if q then a else none) = some r) : q ∧ a = some r := by
  by_cases hq : q
  · rw [if_pos hq] at h; exact ⟨hq, h⟩
  · rw [if_neg hq] at h; cases h
theorem g_bd {α β : Type} {a : Option α} {f : α → Option β} {r : β} (h : a.bind f = some r) : ∃ x, a = some x ∧ f x = some r := by
  cases a with
  | none => cases h
  | some x => exact ⟨x, rfl, h⟩
abbrev ck (i : Int32) (n : Nat) : Prop := ¬ (i < 0 ∨ n ≤ i.toNatClampNeg)
end JR
end
section
theorem g_t {α : Type} {q : Prop} [Decidable q] {a b r : α} (hq : q) (h : (if q then a else b) = r) : a = r := by rw [if_pos hq] at h; exact h
theorem g_f {α : Type} {q : Prop} [Decidable q] {a b r : α} (hq : ¬ q) (h : (if q then a else b) = r) : b = r := by rw [if_neg hq] at h; exact h
abbrev cq (sp : Int32) (n0 : Nat) (dp : Int32) (n1 : Nat) (n : Int32) : Prop := ¬ sp < 0 ∧ ¬ dp < 0 ∧ ¬ n < 0 ∧ sp.toNatClampNeg + n.toNatClampNeg ≤ n0 ∧ dp.toNatClampNeg + n.toNatClampNeg ≤ n1
section JT
variable {p : Program} {l : Launch} {e : Env} {R : Room} {s : State} {m : MethodId} {args : Array Value} {below : List Frame} {meth : Method} {c : Code} {H : Heap} {locs : List Loc} {cells slots : Nat} {Q : State → Prop} {cc : ByteArray} {pc : Nat} {ls : Array Slot} {rest : List Value}
theorem jt_df (hexec : p.tables.exec = Jvm.exec) (hb : c.code = cc) {dflt lo hi : Int} {offs : Array Int} {len : Nat} {x : Int32} {tgt : Nat} (hdg : decode cc pc = .ok (.tableswitch dflt lo hi offs, len)) (h : x.toInt < lo ∨ hi < x.toInt ∨ offs[(x.toInt - lo).toNat]? = some dflt) (ht : (pc : Int) + dflt = (tgt : Int)) (k : W p l e R s m args below meth c H locs cells slots Q (F0 m tgt ls rest)) : W p l e R s m args below meth c H locs cells slots Q (F0 m pc ls (.int x :: rest)) := by
  by_cases h1 : x.toInt < lo
  · exact lv_tableOut hexec hb hdg (Or.inl h1) ht k
  · by_cases h2 : hi < x.toInt
    · exact lv_tableOut hexec hb hdg (Or.inr h2) ht k
    · have h3 : offs[(x.toInt - lo).toNat]? = some dflt := by rcases h with h | h | h; exact absurd h h1; exact absurd h h2; exact h
      exact lv_tableIn hexec hb hdg h1 h2 h3 ht k
end JT
theorem jt_or {z lo hi : Int} {q : Prop} (f : lo ≤ z → z ≤ hi → q) : z < lo ∨ hi < z ∨ q := by
  by_cases h1 : z < lo
  · exact Or.inl h1
  · by_cases h2 : hi < z
    · exact Or.inr (Or.inl h2)
    · exact Or.inr (Or.inr (f (by omega) (by omega)))

theorem d_JA_fill_0 : decode c_JA_fill 0 = .ok (.iconst 0, 1) := by decide +kernel
theorem d_JA_fill_1 : decode c_JA_fill 1 = .ok (.istore_n 2, 1) := by decide +kernel
theorem d_JA_fill_2 : decode c_JA_fill 2 = .ok (.aload_n 0, 1) := by decide +kernel
theorem d_JA_fill_3 : decode c_JA_fill 3 = .ok (.arraylength, 1) := by decide +kernel
theorem d_JA_fill_4 : decode c_JA_fill 4 = .ok (.istore_n 3, 1) := by decide +kernel
theorem d_JA_fill_5 : decode c_JA_fill 5 = .ok (.iload_n 2, 1) := by decide +kernel
theorem d_JA_fill_6 : decode c_JA_fill 6 = .ok (.iload_n 3, 1) := by decide +kernel
theorem d_JA_fill_7 : decode c_JA_fill 7 = .ok (.if_icmp .ge 13, 3) := by decide +kernel
theorem d_JA_fill_10 : decode c_JA_fill 10 = .ok (.aload_n 0, 1) := by decide +kernel
theorem d_JA_fill_11 : decode c_JA_fill 11 = .ok (.iload_n 2, 1) := by decide +kernel
theorem d_JA_fill_12 : decode c_JA_fill 12 = .ok (.iload_n 1, 1) := by decide +kernel
theorem d_JA_fill_13 : decode c_JA_fill 13 = .ok (.iastore, 1) := by decide +kernel
theorem d_JA_fill_14 : decode c_JA_fill 14 = .ok (.iinc 2 1, 3) := by decide +kernel
theorem d_JA_fill_17 : decode c_JA_fill 17 = .ok (.goto (-12), 3) := by decide +kernel
theorem d_JA_fill_20 : decode c_JA_fill 20 = .ok (.return_, 1) := by decide +kernel
theorem hd_CO_clear : y_CO_clear.cls ≠ "java/lang/invoke/MethodHandle" ∧ y_CO_clear.cls ≠ "java/lang/invoke/VarHandle" ∧ (parseMethodDescriptor y_CO_clear.desc).map (fun d => d.parameters.length) = some 0 := by decide +kernel
def f_CO_clear : Option (Int32 × Int32 × Int32) := (some (0, 0, 0))
set_option maxHeartbeats 4000000 in
set_option maxRecDepth 100000 in
theorem ct_CO_clear (l : Launch) (E : jz_E) (k0 k1 k2 : Nat) (sz : Nat) (kold : Int32) (kwai : Int32) (ksnt : Int32) (o_kold : Int32) (o_kwai : Int32) (o_ksnt : Int32)  (h : f_CO_clear  = some (o_kold, o_kwai, o_ksnt)) : CTv l E y_CO_clear c_CO_clear 1 none ({ frames := 0, cells := 0, slots := 0, locals := 0 }) [.ref k0] [(k0, .inr (1, [.ref k1, .ref k2, .int kold, .int kwai, .int ksnt]))] sz [(k0, .inr (1, [.ref k1, .ref k2, .int o_kold, .int o_kwai, .int o_ksnt]))] := by
  refine jw (by decide +kernel) (Nat.le_of_ble_eq_true rfl) ?_
  intro p e s m below meth c A ls J hJ hAe hsz hA hZ hP hD hl
  rw [← hAe]
  have hS : va_S A s.heap s.heap [] := va_S.rf
  have hl : lv_has ls 1 [(0, .ref k0)] := hl
  unfold f_CO_clear at h
  refine lv_aload_n J.1 J.2.1 d_CO_clear_0 rfl (lv_at hl 0 rfl) ?_
  refine lv_iconst (v := 0) J.1 J.2.1 d_CO_clear_1 (by decide) ?_
  refine jp J hJ hP hD hS 0 rfl rfl i_CO t_CO t_CO_ok n_CO 2 (by decide) gf_CO_18 rfl rfl rfl (Nat.le_of_ble_eq_true rfl) d_CO_clear_2 (WS' := [(k0, .inr (1, [.ref k1, .ref k2, .int 0, .int kwai, .int ksnt]))]) rfl ?_
  clear hP hD hS
  intro H locs hP hD hS
  refine lv_aload_n J.1 J.2.1 d_CO_clear_5 rfl (lv_at hl 0 rfl) ?_
  refine lv_iconst (v := 0) J.1 J.2.1 d_CO_clear_6 (by decide) ?_
  refine jp J hJ hP hD hS 0 rfl rfl i_CO t_CO t_CO_ok n_CO 3 (by decide) gf_CO_22 rfl rfl rfl (Nat.le_of_ble_eq_true rfl) d_CO_clear_7 (WS' := [(k0, .inr (1, [.ref k1, .ref k2, .int 0, .int 0, .int ksnt]))]) rfl ?_
  clear hP hD hS
  intro H locs hP hD hS
  refine lv_aload_n J.1 J.2.1 d_CO_clear_10 rfl (lv_at hl 0 rfl) ?_
  refine lv_iconst (v := 0) J.1 J.2.1 d_CO_clear_11 (by decide) ?_
  refine jp J hJ hP hD hS 0 rfl rfl i_CO t_CO t_CO_ok n_CO 4 (by decide) gf_CO_25 rfl rfl rfl (Nat.le_of_ble_eq_true rfl) d_CO_clear_12 (WS' := [(k0, .inr (1, [.ref k1, .ref k2, .int 0, .int 0, .int 0]))]) rfl ?_
  clear hP hD hS
  intro H locs hP hD hS
  cases h
  exact jr_v J hS hP hD d_CO_clear_15

theorem hd_CO_isTaken : y_CO_isTaken.cls ≠ "java/lang/invoke/MethodHandle" ∧ y_CO_isTaken.cls ≠ "java/lang/invoke/VarHandle" ∧ (parseMethodDescriptor y_CO_isTaken.desc).map (fun d => d.parameters.length) = some 1 := by decide +kernel
def f_CO_isTaken (kold : Int32) (kwai : Int32) (ktyp : Nat → Int32) (p1 : Int32) : Option (Int32 × Int32 × (Nat → Int32)) := (if kwai < (100 : Int32) then (if ck ((kold + kwai) - (kold + kwai) / 100 * 100) 100 then (some (1, (kwai + 1), (upd ktyp ((kold + kwai) - (kold + kwai) / 100 * 100).toNatClampNeg p1))) else none) else (some (0, kwai, ktyp)))
set_option maxHeartbeats 4000000 in
set_option maxRecDepth 100000 in
theorem ct_CO_isTaken (l : Launch) (E : jz_E) (k0 k1 k2 : Nat) (sz : Nat) (kold : Int32) (kwai : Int32) (ksnt : Int32) (ktyp : Nat → Int32) (p1 : Int32) (o_r : Int32) (o_kwai : Int32) (o_ktyp : Nat → Int32)  (h : f_CO_isTaken kold kwai ktyp p1 = some (o_r, o_kwai, o_ktyp)) : CTi l E y_CO_isTaken c_CO_isTaken 2 (some .boolean) ({ frames := 0, cells := 0, slots := 0, locals := 0 }) [.ref k0, .int p1] [(k0, .inr (1, [.ref k1, .ref k2, .int kold, .int kwai, .int ksnt])), (k1, .inl (E.2.1 0, 100, .inl ktyp))] sz o_r [(k0, .inr (1, [.ref k1, .ref k2, .int kold, .int o_kwai, .int ksnt])), (k1, .inl (E.2.1 0, 100, .inl o_ktyp))] := by
  refine jw (by decide +kernel) (Nat.le_of_ble_eq_true rfl) ?_
  intro p e s m below meth c A ls J hJ hAe hsz hA hZ hP hD hl
  rw [← hAe]
  have hS : va_S A s.heap s.heap [] := va_S.rf
  have hl : lv_has ls 2 [(0, .ref k0), (1, .int p1)] := hl
  unfold f_CO_isTaken at h
  refine lv_aload_n J.1 J.2.1 d_CO_isTaken_0 rfl (lv_at hl 0 rfl) ?_
  refine jg J hJ hP 0 rfl rfl i_CO 3 (by decide) gf_CO_22 rfl d_CO_isTaken_1 ?_
  refine lv_bipush (v := 100) J.1 J.2.1 d_CO_isTaken_4 (by decide) ?_
  refine lv_icmp_lt (tgt := 11) J.1 J.2.1 d_CO_isTaken_6 (by decide) (fun c_1 => ?_) (fun c_1 => ?_)
  · replace h := g_t c_1 h
    refine lv_aload_n J.1 J.2.1 d_CO_isTaken_11 rfl (lv_at hl 0 rfl) ?_
    refine jg J hJ hP 0 rfl rfl i_CO 0 (by decide) gf_CO_11 rfl d_CO_isTaken_12 ?_
    refine lv_aload_n J.1 J.2.1 d_CO_isTaken_15 rfl (lv_at hl 0 rfl) ?_
    refine jg J hJ hP 0 rfl rfl i_CO 2 (by decide) gf_CO_18 rfl d_CO_isTaken_16 ?_
    refine lv_aload_n J.1 J.2.1 d_CO_isTaken_19 rfl (lv_at hl 0 rfl) ?_
    refine jg J hJ hP 0 rfl rfl i_CO 3 (by decide) gf_CO_22 rfl d_CO_isTaken_20 ?_
    refine lv_iadd J.1 J.2.1 d_CO_isTaken_23 ?_
    refine lv_bipush (v := 100) J.1 J.2.1 d_CO_isTaken_24 (by decide) ?_
    refine lv_irem J.1 J.2.1 d_CO_isTaken_26 (by decide) ?_
    refine lv_iload_n J.1 J.2.1 d_CO_isTaken_27 rfl (lv_at hl 1 rfl) ?_
    replace h := g_ck h
    obtain ⟨k_2, h⟩ := h
    refine jsi J hJ hP hD hS 1 rfl k_2 d_CO_isTaken_28 (WS' := [(k0, .inr (1, [.ref k1, .ref k2, .int kold, .int kwai, .int ksnt])), (k1, .inl (E.2.1 0, 100, .inl (upd ktyp ((kold + kwai) - (kold + kwai) / 100 * 100).toNatClampNeg p1)))]) rfl ?_
    clear hP hD hS
    intro H locs hP hD hS
    refine lv_aload_n J.1 J.2.1 d_CO_isTaken_29 rfl (lv_at hl 0 rfl) ?_
    refine lv_dup J.1 J.2.1 d_CO_isTaken_30 rfl ?_
    refine jg J hJ hP 0 rfl rfl i_CO 3 (by decide) gf_CO_22 rfl d_CO_isTaken_31 ?_
    refine lv_iconst (v := 1) J.1 J.2.1 d_CO_isTaken_34 (by decide) ?_
    refine lv_iadd J.1 J.2.1 d_CO_isTaken_35 ?_
    refine jp J hJ hP hD hS 0 rfl rfl i_CO t_CO t_CO_ok n_CO 3 (by decide) gf_CO_22 rfl rfl rfl (Nat.le_of_ble_eq_true rfl) d_CO_isTaken_36 (WS' := [(k0, .inr (1, [.ref k1, .ref k2, .int kold, .int (kwai + 1), .int ksnt])), (k1, .inl (E.2.1 0, 100, .inl (upd ktyp ((kold + kwai) - (kold + kwai) / 100 * 100).toNatClampNeg p1)))]) rfl ?_
    clear hP hD hS
    intro H locs hP hD hS
    refine lv_iconst (v := 1) J.1 J.2.1 d_CO_isTaken_39 (by decide) ?_
    cases h
    exact jr_i J hS hP hD rfl d_CO_isTaken_40
  · replace h := g_f c_1 h
    refine lv_iconst (v := 0) J.1 J.2.1 d_CO_isTaken_9 (by decide) ?_
    cases h
    exact jr_i J hS hP hD rfl d_CO_isTaken_10

theorem hd_CO_nextTyped : y_CO_nextTyped.cls ≠ "java/lang/invoke/MethodHandle" ∧ y_CO_nextTyped.cls ≠ "java/lang/invoke/VarHandle" ∧ (parseMethodDescriptor y_CO_nextTyped.desc).map (fun d => d.parameters.length) = some 0 := by decide +kernel
def f_CO_nextTyped (kold : Int32) (kwai : Int32) (ktyp : Nat → Int32) : Option (Int32 × Int32 × Int32) := (if kwai = (0 : Int32) then (some (65535, kold, kwai)) else (if ck kold 100 then (some ((ktyp kold.toNatClampNeg), ((kold + 1) - (kold + 1) / 100 * 100), (kwai - 1))) else none))
set_option maxHeartbeats 4000000 in
set_option maxRecDepth 100000 in
theorem ct_CO_nextTyped (l : Launch) (E : jz_E) (k0 k1 k2 : Nat) (sz : Nat) (kold : Int32) (kwai : Int32) (ksnt : Int32) (ktyp : Nat → Int32) (o_r : Int32) (o_kold : Int32) (o_kwai : Int32)  (h : f_CO_nextTyped kold kwai ktyp = some (o_r, o_kold, o_kwai)) : CTi l E y_CO_nextTyped c_CO_nextTyped 2 (some .int) ({ frames := 0, cells := 0, slots := 0, locals := 0 }) [.ref k0] [(k0, .inr (1, [.ref k1, .ref k2, .int kold, .int kwai, .int ksnt])), (k1, .inl (E.2.1 0, 100, .inl ktyp))] sz o_r [(k0, .inr (1, [.ref k1, .ref k2, .int o_kold, .int o_kwai, .int ksnt])), (k1, .inl (E.2.1 0, 100, .inl ktyp))] := by
  refine jw (by decide +kernel) (Nat.le_of_ble_eq_true rfl) ?_
  intro p e s m below meth c A ls J hJ hAe hsz hA hZ hP hD hl
  rw [← hAe]
  have hS : va_S A s.heap s.heap [] := va_S.rf
  have hl : lv_has ls 2 [(0, .ref k0)] := hl
  unfold f_CO_nextTyped at h
  refine lv_aload_n J.1 J.2.1 d_CO_nextTyped_0 rfl (lv_at hl 0 rfl) ?_
  refine jg J hJ hP 0 rfl rfl i_CO 3 (by decide) gf_CO_22 rfl d_CO_nextTyped_1 ?_
  refine lv_if_ne (tgt := 10) J.1 J.2.1 d_CO_nextTyped_4 (by decide) (fun c_1 => ?_) (fun c_1 => ?_)
  · replace h := g_f c_1 h
    refine lv_aload_n J.1 J.2.1 d_CO_nextTyped_10 rfl (lv_at hl 0 rfl) ?_
    refine jg J hJ hP 0 rfl rfl i_CO 0 (by decide) gf_CO_11 rfl d_CO_nextTyped_11 ?_
    refine lv_aload_n J.1 J.2.1 d_CO_nextTyped_14 rfl (lv_at hl 0 rfl) ?_
    refine jg J hJ hP 0 rfl rfl i_CO 2 (by decide) gf_CO_18 rfl d_CO_nextTyped_15 ?_
    replace h := g_ck h
    obtain ⟨k_2, h⟩ := h
    refine jai J hJ hP 1 rfl k_2 d_CO_nextTyped_18 ?_
    refine lv_istore_n (lv' := [(1, .int (ktyp kold.toNatClampNeg)), (0, .ref k0)]) J.1 J.2.1 d_CO_nextTyped_19 rfl hl (by decide) rfl ?_
    clear hl
    intro ls hl
    refine lv_aload_n J.1 J.2.1 d_CO_nextTyped_20 rfl (lv_at hl 1 rfl) ?_
    refine lv_aload_n J.1 J.2.1 d_CO_nextTyped_21 rfl (lv_at hl 1 rfl) ?_
    refine jg J hJ hP 0 rfl rfl i_CO 2 (by decide) gf_CO_18 rfl d_CO_nextTyped_22 ?_
    refine lv_iconst (v := 1) J.1 J.2.1 d_CO_nextTyped_25 (by decide) ?_
    refine lv_iadd J.1 J.2.1 d_CO_nextTyped_26 ?_
    refine lv_bipush (v := 100) J.1 J.2.1 d_CO_nextTyped_27 (by decide) ?_
    refine lv_irem J.1 J.2.1 d_CO_nextTyped_29 (by decide) ?_
    refine jp J hJ hP hD hS 0 rfl rfl i_CO t_CO t_CO_ok n_CO 2 (by decide) gf_CO_18 rfl rfl rfl (Nat.le_of_ble_eq_true rfl) d_CO_nextTyped_30 (WS' := [(k0, .inr (1, [.ref k1, .ref k2, .int ((kold + 1) - (kold + 1) / 100 * 100), .int kwai, .int ksnt])), (k1, .inl (E.2.1 0, 100, .inl ktyp))]) rfl ?_
    clear hP hD hS
    intro H locs hP hD hS
    refine lv_aload_n J.1 J.2.1 d_CO_nextTyped_33 rfl (lv_at hl 1 rfl) ?_
    refine lv_dup J.1 J.2.1 d_CO_nextTyped_34 rfl ?_
    refine jg J hJ hP 0 rfl rfl i_CO 3 (by decide) gf_CO_22 rfl d_CO_nextTyped_35 ?_
    refine lv_iconst (v := 1) J.1 J.2.1 d_CO_nextTyped_38 (by decide) ?_
    refine lv_isub J.1 J.2.1 d_CO_nextTyped_39 ?_
    refine jp J hJ hP hD hS 0 rfl rfl i_CO t_CO t_CO_ok n_CO 3 (by decide) gf_CO_22 rfl rfl rfl (Nat.le_of_ble_eq_true rfl) d_CO_nextTyped_40 (WS' := [(k0, .inr (1, [.ref k1, .ref k2, .int ((kold + 1) - (kold + 1) / 100 * 100), .int (kwai - 1), .int ksnt])), (k1, .inl (E.2.1 0, 100, .inl ktyp))]) rfl ?_
    clear hP hD hS
    intro H locs hP hD hS
    refine lv_iload_n J.1 J.2.1 d_CO_nextTyped_43 rfl (lv_at hl 0 rfl) ?_
    cases h
    exact jr_i J hS hP hD rfl d_CO_nextTyped_44
  · replace h := g_t c_1 h
    refine lv_ldc (v := 65535) J.1 J.2.1 J.2.2.2.2.1 (J.2.2.2.2.2.1 _ gk_CO_28) d_CO_nextTyped_7 ?_
    cases h
    exact jr_i J hS hP hD rfl d_CO_nextTyped_9

theorem hd_CO_send : y_CO_send.cls ≠ "java/lang/invoke/MethodHandle" ∧ y_CO_send.cls ≠ "java/lang/invoke/VarHandle" ∧ (parseMethodDescriptor y_CO_send.desc).map (fun d => d.parameters.length) = some 1 := by decide +kernel
def f_CO_send (ksnt : Int32) (ksen : Nat → Int32) (p1 : Int32) : Option (Int32 × (Nat → Int32)) := (if (500 : Int32) ≤ ksnt then (some ((ksnt + 1), ksen)) else (if ck ksnt 500 then (some ((ksnt + 1), (upd ksen ksnt.toNatClampNeg p1))) else none))
set_option maxHeartbeats 4000000 in
set_option maxRecDepth 100000 in
theorem ct_CO_send (l : Launch) (E : jz_E) (k0 k1 k2 : Nat) (sz : Nat) (kold : Int32) (kwai : Int32) (ksnt : Int32) (ksen : Nat → Int32) (p1 : Int32) (o_ksnt : Int32) (o_ksen : Nat → Int32)  (h : f_CO_send ksnt ksen p1 = some (o_ksnt, o_ksen)) : CTv l E y_CO_send c_CO_send 2 none ({ frames := 0, cells := 0, slots := 0, locals := 0 }) [.ref k0, .int p1] [(k0, .inr (1, [.ref k1, .ref k2, .int kold, .int kwai, .int ksnt])), (k2, .inl (E.2.1 0, 500, .inl ksen))] sz [(k0, .inr (1, [.ref k1, .ref k2, .int kold, .int kwai, .int o_ksnt])), (k2, .inl (E.2.1 0, 500, .inl o_ksen))] := by
  refine jw (by decide +kernel) (Nat.le_of_ble_eq_true rfl) ?_
  intro p e s m below meth c A ls J hJ hAe hsz hA hZ hP hD hl
  rw [← hAe]
  have hS : va_S A s.heap s.heap [] := va_S.rf
  have hl : lv_has ls 2 [(0, .ref k0), (1, .int p1)] := hl
  unfold f_CO_send at h
  refine lv_aload_n J.1 J.2.1 d_CO_send_0 rfl (lv_at hl 0 rfl) ?_
  refine jg J hJ hP 0 rfl rfl i_CO 4 (by decide) gf_CO_25 rfl d_CO_send_1 ?_
  refine lv_sipush (v := 500) J.1 J.2.1 d_CO_send_4 (by decide) ?_
  refine lv_icmp_ge (tgt := 20) J.1 J.2.1 d_CO_send_7 (by decide) (fun c_1 => ?_) (fun c_1 => ?_)
  · replace h := g_t c_1 h
    refine lv_aload_n J.1 J.2.1 d_CO_send_20 rfl (lv_at hl 0 rfl) ?_
    refine lv_dup J.1 J.2.1 d_CO_send_21 rfl ?_
    refine jg J hJ hP 0 rfl rfl i_CO 4 (by decide) gf_CO_25 rfl d_CO_send_22 ?_
    refine lv_iconst (v := 1) J.1 J.2.1 d_CO_send_25 (by decide) ?_
    refine lv_iadd J.1 J.2.1 d_CO_send_26 ?_
    refine jp J hJ hP hD hS 0 rfl rfl i_CO t_CO t_CO_ok n_CO 4 (by decide) gf_CO_25 rfl rfl rfl (Nat.le_of_ble_eq_true rfl) d_CO_send_27 (WS' := [(k0, .inr (1, [.ref k1, .ref k2, .int kold, .int kwai, .int (ksnt + 1)])), (k2, .inl (E.2.1 0, 500, .inl ksen))]) rfl ?_
    clear hP hD hS
    intro H locs hP hD hS
    cases h
    exact jr_v J hS hP hD d_CO_send_30
  · replace h := g_f c_1 h
    refine lv_aload_n J.1 J.2.1 d_CO_send_10 rfl (lv_at hl 0 rfl) ?_
    refine jg J hJ hP 0 rfl rfl i_CO 1 (by decide) gf_CO_15 rfl d_CO_send_11 ?_
    refine lv_aload_n J.1 J.2.1 d_CO_send_14 rfl (lv_at hl 0 rfl) ?_
    refine jg J hJ hP 0 rfl rfl i_CO 4 (by decide) gf_CO_25 rfl d_CO_send_15 ?_
    refine lv_iload_n J.1 J.2.1 d_CO_send_18 rfl (lv_at hl 1 rfl) ?_
    replace h := g_ck h
    obtain ⟨k_2, h⟩ := h
    refine jsi J hJ hP hD hS 1 rfl k_2 d_CO_send_19 (WS' := [(k0, .inr (1, [.ref k1, .ref k2, .int kold, .int kwai, .int ksnt])), (k2, .inl (E.2.1 0, 500, .inl (upd ksen ksnt.toNatClampNeg p1)))]) rfl ?_
    clear hP hD hS
    intro H locs hP hD hS
    refine lv_aload_n J.1 J.2.1 d_CO_send_20 rfl (lv_at hl 0 rfl) ?_
    refine lv_dup J.1 J.2.1 d_CO_send_21 rfl ?_
    refine jg J hJ hP 0 rfl rfl i_CO 4 (by decide) gf_CO_25 rfl d_CO_send_22 ?_
    refine lv_iconst (v := 1) J.1 J.2.1 d_CO_send_25 (by decide) ?_
    refine lv_iadd J.1 J.2.1 d_CO_send_26 ?_
    refine jp J hJ hP hD hS 0 rfl rfl i_CO t_CO t_CO_ok n_CO 4 (by decide) gf_CO_25 rfl rfl rfl (Nat.le_of_ble_eq_true rfl) d_CO_send_27 (WS' := [(k0, .inr (1, [.ref k1, .ref k2, .int kold, .int kwai, .int (ksnt + 1)])), (k2, .inl (E.2.1 0, 500, .inl (upd ksen ksnt.toNatClampNeg p1)))]) rfl ?_
    clear hP hD hS
    intro H locs hP hD hS
    cases h
    exact jr_v J hS hP hD d_CO_send_30

theorem hd_CO_sentByte : y_CO_sentByte.cls ≠ "java/lang/invoke/MethodHandle" ∧ y_CO_sentByte.cls ≠ "java/lang/invoke/VarHandle" ∧ (parseMethodDescriptor y_CO_sentByte.desc).map (fun d => d.parameters.length) = some 1 := by decide +kernel
def f_CO_sentByte (ksnt : Int32) (ksen : Nat → Int32) (p1 : Int32) : Option (Int32) := (if p1 < (0 : Int32) then (some (-1)) else (if ksnt ≤ p1 then (some (-1)) else (if p1 < (500 : Int32) then (if ck p1 500 then (some (ksen p1.toNatClampNeg)) else none) else (some (-1)))))
set_option maxHeartbeats 4000000 in
set_option maxRecDepth 100000 in
theorem ct_CO_sentByte (l : Launch) (E : jz_E) (k0 k1 k2 : Nat) (sz : Nat) (kold : Int32) (kwai : Int32) (ksnt : Int32) (ksen : Nat → Int32) (p1 : Int32) (o_r : Int32)  (h : f_CO_sentByte ksnt ksen p1 = some o_r) : CTi l E y_CO_sentByte c_CO_sentByte 2 (some .int) ({ frames := 0, cells := 0, slots := 0, locals := 0 }) [.ref k0, .int p1] [(k0, .inr (1, [.ref k1, .ref k2, .int kold, .int kwai, .int ksnt])), (k2, .inl (E.2.1 0, 500, .inl ksen))] sz o_r [(k0, .inr (1, [.ref k1, .ref k2, .int kold, .int kwai, .int ksnt])), (k2, .inl (E.2.1 0, 500, .inl ksen))] := by
  refine jw (by decide +kernel) (Nat.le_of_ble_eq_true rfl) ?_
  intro p e s m below meth c A ls J hJ hAe hsz hA hZ hP hD hl
  rw [← hAe]
  have hS : va_S A s.heap s.heap [] := va_S.rf
  have hl : lv_has ls 2 [(0, .ref k0), (1, .int p1)] := hl
  unfold f_CO_sentByte at h
  refine lv_iload_n J.1 J.2.1 d_CO_sentByte_0 rfl (lv_at hl 1 rfl) ?_
  refine lv_if_lt (tgt := 19) J.1 J.2.1 d_CO_sentByte_1 (by decide) (fun c_1 => ?_) (fun c_1 => ?_)
  · replace h := g_t c_1 h
    refine lv_iconst (v := (-1)) J.1 J.2.1 d_CO_sentByte_19 (by decide) ?_
    refine lv_goto (tgt := 29) J.1 J.2.1 d_CO_sentByte_20 (by decide) ?_
    cases h
    exact jr_i J hS hP hD rfl d_CO_sentByte_29
  · replace h := g_f c_1 h
    refine lv_iload_n J.1 J.2.1 d_CO_sentByte_4 rfl (lv_at hl 1 rfl) ?_
    refine lv_aload_n J.1 J.2.1 d_CO_sentByte_5 rfl (lv_at hl 0 rfl) ?_
    refine jg J hJ hP 0 rfl rfl i_CO 4 (by decide) gf_CO_25 rfl d_CO_sentByte_6 ?_
    refine lv_icmp_ge (tgt := 19) J.1 J.2.1 d_CO_sentByte_9 (by decide) (fun c_2 => ?_) (fun c_2 => ?_)
    · replace h := g_t c_2 h
      refine lv_iconst (v := (-1)) J.1 J.2.1 d_CO_sentByte_19 (by decide) ?_
      refine lv_goto (tgt := 29) J.1 J.2.1 d_CO_sentByte_20 (by decide) ?_
      cases h
      exact jr_i J hS hP hD rfl d_CO_sentByte_29
    · replace h := g_f c_2 h
      refine lv_iload_n J.1 J.2.1 d_CO_sentByte_12 rfl (lv_at hl 1 rfl) ?_
      refine lv_sipush (v := 500) J.1 J.2.1 d_CO_sentByte_13 (by decide) ?_
      refine lv_icmp_lt (tgt := 23) J.1 J.2.1 d_CO_sentByte_16 (by decide) (fun c_3 => ?_) (fun c_3 => ?_)
      · replace h := g_t c_3 h
        refine lv_aload_n J.1 J.2.1 d_CO_sentByte_23 rfl (lv_at hl 0 rfl) ?_
        refine jg J hJ hP 0 rfl rfl i_CO 1 (by decide) gf_CO_15 rfl d_CO_sentByte_24 ?_
        refine lv_iload_n J.1 J.2.1 d_CO_sentByte_27 rfl (lv_at hl 1 rfl) ?_
        replace h := g_ck h
        obtain ⟨k_4, h⟩ := h
        refine jai J hJ hP 1 rfl k_4 d_CO_sentByte_28 ?_
        cases h
        exact jr_i J hS hP hD rfl d_CO_sentByte_29
      · replace h := g_f c_3 h
        refine lv_iconst (v := (-1)) J.1 J.2.1 d_CO_sentByte_19 (by decide) ?_
        refine lv_goto (tgt := 29) J.1 J.2.1 d_CO_sentByte_20 (by decide) ?_
        cases h
        exact jr_i J hS hP hD rfl d_CO_sentByte_29
end
section
theorem hd_JA_fill : y_JA_fill.cls ≠ "java/lang/invoke/MethodHandle" ∧ y_JA_fill.cls ≠ "java/lang/invoke/VarHandle" ∧ (parseMethodDescriptor y_JA_fill.desc).map (fun d => d.parameters.length) = some 2 := by decide +kernel
def b_JA_fill_5 : Nat → Nat → (Nat → Int32) → Int32 → Int32 → Int32 → Option ((Nat → Int32))
  | 0, _, _, _, _, _ => none
  | n + 1, wn, wf, x1, x2, x3 => (if x3 ≤ x2 then (some wf) else (if ck x2 wn then b_JA_fill_5 n wn (upd wf x2.toNatClampNeg x1) x1 (x2 + 1) x3 else none))
def f_JA_fill (wn : Nat) (wf : Nat → Int32) (p1 : Int32) : Option ((Nat → Int32)) := b_JA_fill_5 65536 wn wf p1 0 (Int32.ofNat wn)
set_option maxHeartbeats 4000000 in
set_option maxRecDepth 100000 in
theorem ct_JA_fill (l : Launch) (E : jz_E) (w0 : Nat) (sz : Nat) (wn : Nat) (wf : Nat → Int32) (p1 : Int32) (o_wf : Nat → Int32)  (h : f_JA_fill wn wf p1 = some o_wf) : CTv l E y_JA_fill c_JA_fill 4 none ({ frames := 0, cells := 0, slots := 0, locals := 0 }) [.ref w0, .int p1] [(w0, .inl (E.2.1 0, wn, .inl wf))] sz [(w0, .inl (E.2.1 0, wn, .inl o_wf))] := by
  refine jw (by decide +kernel) (Nat.le_of_ble_eq_true rfl) ?_
  intro p e s m below meth c A ls J hJ hAe hsz hA hZ hP hD hl
  rw [← hAe]
  have hS : va_S A s.heap s.heap [] := va_S.rf
  have hl : lv_has ls 4 [(0, .ref w0), (1, .int p1)] := hl
  have K_5 : ∀ (n : Nat) (wn : Nat) (wf : Nat → Int32) (x1 : Int32) (x2 : Int32) (x3 : Int32) (H : Heap) (locs : List Loc) (ls : Array Slot), b_JA_fill_5 n wn wf x1 x2 x3 = some o_wf → va_P E.1 classes [(w0, .inl (E.2.1 0, wn, .inl wf))] H → va_D A [(w0, .inl (E.2.1 0, wn, .inl wf))] → va_S A s.heap H locs → lv_has ls 4 [(0, .ref w0), (1, .int x1), (2, .int x2), (3, .int x3)] → W p l e ({ frames := 0, cells := 0, slots := 0, locals := 0 }) s m ([.ref w0, .int p1] : List Value).toArray below meth c H locs 0 0 (MQ below (va_Qv (fun (u : va_W) => u = [(w0, .inl (E.2.1 0, wn, .inl o_wf))]) (BW E A) A) ([.ref w0, .int p1] : List Value).toArray s 0 0 A) (F0 m 5 ls []) := by
    intro n
    induction n with
    | zero => intro wn wf x1 x2 x3 H locs ls h; cases h
    | succ n ih =>
      intro wn wf x1 x2 x3 H locs ls h hP hD hS hl
      rw [b_JA_fill_5] at h
      refine lv_iload_n J.1 J.2.1 d_JA_fill_5 rfl (lv_at hl 2 rfl) ?_
      refine lv_iload_n J.1 J.2.1 d_JA_fill_6 rfl (lv_at hl 3 rfl) ?_
      refine lv_icmp_ge (tgt := 20) J.1 J.2.1 d_JA_fill_7 (by decide) (fun c_1 => ?_) (fun c_1 => ?_)
      · replace h := g_t c_1 h
        cases h
        exact jr_v J hS hP hD d_JA_fill_20
      · replace h := g_f c_1 h
        refine lv_aload_n J.1 J.2.1 d_JA_fill_10 rfl (lv_at hl 0 rfl) ?_
        refine lv_iload_n J.1 J.2.1 d_JA_fill_11 rfl (lv_at hl 2 rfl) ?_
        refine lv_iload_n J.1 J.2.1 d_JA_fill_12 rfl (lv_at hl 1 rfl) ?_
        replace h := g_ck h
        obtain ⟨k_2, h⟩ := h
        refine jsi J hJ hP hD hS 0 rfl k_2 d_JA_fill_13 (WS' := [(w0, .inl (E.2.1 0, wn, .inl (upd wf x2.toNatClampNeg x1)))]) rfl ?_
        clear hP hD hS
        intro H locs hP hD hS
        refine lv_iinc (v := (x2 + 1)) (lv' := [(2, .int (x2 + 1)), (0, .ref w0), (1, .int x1), (3, .int x3)]) J.1 J.2.1 d_JA_fill_14 hl (k := 2) rfl rfl (by decide) rfl ?_
        clear hl
        intro ls hl
        refine lv_goto (tgt := 5) J.1 J.2.1 d_JA_fill_17 (by decide) ?_
        exact ih _ _ _ _ _ _ _ _ h hP hD hS (lv_sub hl [1, 2, 0, 3] rfl)
  unfold f_JA_fill at h
  refine lv_iconst (v := 0) J.1 J.2.1 d_JA_fill_0 (by decide) ?_
  refine lv_istore_n (lv' := [(2, .int 0), (0, .ref w0), (1, .int p1)]) J.1 J.2.1 d_JA_fill_1 rfl hl (by decide) rfl ?_
  clear hl
  intro ls hl
  refine lv_aload_n J.1 J.2.1 d_JA_fill_2 rfl (lv_at hl 1 rfl) ?_
  refine va_alen J.1 J.2.1 hJ.1 hP 0 0 rfl rfl (v := (Int32.ofNat wn)) rfl d_JA_fill_3 ?_
  refine lv_istore_n (lv' := [(3, .int (Int32.ofNat wn)), (2, .int 0), (0, .ref w0), (1, .int p1)]) J.1 J.2.1 d_JA_fill_4 rfl hl (by decide) rfl ?_
  clear hl
  intro ls hl
  exact K_5 _ _ _ _ _ _ _ _ _ h hP hD hS (lv_sub hl [2, 3, 1, 0] rfl)

theorem hd_MA_shifted : y_MA_shifted.cls ≠ "java/lang/invoke/MethodHandle" ∧ y_MA_shifted.cls ≠ "java/lang/invoke/VarHandle" ∧ (parseMethodDescriptor y_MA_shifted.desc).map (fun d => d.parameters.length) = some 2 := by decide +kernel
def f_MA_shifted (p0 : Int32) (p1 : Int32) : Option (Int32) := (if (p1 &&& 16) = (0 : Int32) then (some ((p0 <<< ((p1 &&& 15) &&& 31)) &&& 65535)) else (some (p0 >>> ((p1 &&& 15) &&& 31))))
set_option maxHeartbeats 4000000 in
set_option maxRecDepth 100000 in
theorem ct_MA_shifted (l : Launch) (E : jz_E)  (sz : Nat) (p0 : Int32) (p1 : Int32) (o_r : Int32)  (h : f_MA_shifted p0 p1 = some o_r) : CTi l E y_MA_shifted c_MA_shifted 3 (some .int) ({ frames := 0, cells := 0, slots := 0, locals := 0 }) [.int p0, .int p1] [] sz o_r [] := by
  refine jw (by decide +kernel) (Nat.le_of_ble_eq_true rfl) ?_
  intro p e s m below meth c A ls J hJ hAe hsz hA hZ hP hD hl
  rw [← hAe]
  have hS : va_S A s.heap s.heap [] := va_S.rf
  have hl : lv_has ls 3 [(0, .int p0), (1, .int p1)] := hl
  unfold f_MA_shifted at h
  refine lv_iload_n J.1 J.2.1 d_MA_shifted_0 rfl (lv_at hl 1 rfl) ?_
  refine lv_bipush (v := 15) J.1 J.2.1 d_MA_shifted_1 (by decide) ?_
  refine lv_iand J.1 J.2.1 d_MA_shifted_3 ?_
  refine lv_istore_n (lv' := [(2, .int (p1 &&& 15)), (0, .int p0), (1, .int p1)]) J.1 J.2.1 d_MA_shifted_4 rfl hl (by decide) rfl ?_
  clear hl
  intro ls hl
  refine lv_iload_n J.1 J.2.1 d_MA_shifted_5 rfl (lv_at hl 2 rfl) ?_
  refine lv_bipush (v := 16) J.1 J.2.1 d_MA_shifted_6 (by decide) ?_
  refine lv_iand J.1 J.2.1 d_MA_shifted_8 ?_
  refine lv_if_ne (tgt := 21) J.1 J.2.1 d_MA_shifted_9 (by decide) (fun c_1 => ?_) (fun c_1 => ?_)
  · replace h := g_f c_1 h
    refine lv_iload_n J.1 J.2.1 d_MA_shifted_21 rfl (lv_at hl 1 rfl) ?_
    refine lv_iload_n J.1 J.2.1 d_MA_shifted_22 rfl (lv_at hl 0 rfl) ?_
    refine lv_ishr J.1 J.2.1 d_MA_shifted_23 ?_
    cases h
    exact jr_i J hS hP hD rfl d_MA_shifted_24
  · replace h := g_t c_1 h
    refine lv_iload_n J.1 J.2.1 d_MA_shifted_12 rfl (lv_at hl 1 rfl) ?_
    refine lv_iload_n J.1 J.2.1 d_MA_shifted_13 rfl (lv_at hl 0 rfl) ?_
    refine lv_ishl J.1 J.2.1 d_MA_shifted_14 ?_
    refine lv_ldc (v := 65535) J.1 J.2.1 J.2.2.2.2.1 (J.2.2.2.2.2.1 _ gk_MA_70) d_MA_shifted_15 ?_
    refine lv_iand J.1 J.2.1 d_MA_shifted_17 ?_
    refine lv_goto (tgt := 24) J.1 J.2.1 d_MA_shifted_18 (by decide) ?_
    cases h
    exact jr_i J hS hP hD rfl d_MA_shifted_24

theorem hd_MA_wordsWanted : y_MA_wordsWanted.cls ≠ "java/lang/invoke/MethodHandle" ∧ y_MA_wordsWanted.cls ≠ "java/lang/invoke/VarHandle" ∧ (parseMethodDescriptor y_MA_wordsWanted.desc).map (fun d => d.parameters.length) = some 1 := by decide +kernel
def f_MA_wordsWanted (p0 : Int32) : Option (Int32) := (if (p0) = 17 then (some 4) else (if (p0) = 18 then (some 4) else (if (p0) = 23 then (some 16) else (if (p0) = 24 then (some 16) else (some 0)))))
set_option maxHeartbeats 4000000 in
set_option maxRecDepth 100000 in
theorem ct_MA_wordsWanted (l : Launch) (E : jz_E)  (sz : Nat) (p0 : Int32) (o_r : Int32)  (h : f_MA_wordsWanted p0 = some o_r) : CTi l E y_MA_wordsWanted c_MA_wordsWanted 1 (some .int) ({ frames := 0, cells := 0, slots := 0, locals := 0 }) [.int p0] [] sz o_r [] := by
  refine jw (by decide +kernel) (Nat.le_of_ble_eq_true rfl) ?_
  intro p e s m below meth c A ls J hJ hAe hsz hA hZ hP hD hl
  rw [← hAe]
  have hS : va_S A s.heap s.heap [] := va_S.rf
  have hl : lv_has ls 1 [(0, .int p0)] := hl
  unfold f_MA_wordsWanted at h
  refine lv_iload_n J.1 J.2.1 d_MA_wordsWanted_0 rfl (lv_at hl 0 rfl) ?_
  by_cases c_1 : (p0) = 17
  · replace h := g_t c_1 h
    refine lv_tableIn (off := 47) (tgt := 48) J.1 J.2.1 d_MA_wordsWanted_1 (by rw [c_1]; decide) (by rw [c_1]; decide) (by rw [c_1]; rfl) (by decide) ?_
    refine lv_iconst (v := 4) J.1 J.2.1 d_MA_wordsWanted_48 (by decide) ?_
    cases h
    exact jr_i J hS hP hD rfl d_MA_wordsWanted_49
  replace h := g_f c_1 h
  by_cases c_2 : (p0) = 18
  · replace h := g_t c_2 h
    refine lv_tableIn (off := 47) (tgt := 48) J.1 J.2.1 d_MA_wordsWanted_1 (by rw [c_2]; decide) (by rw [c_2]; decide) (by rw [c_2]; rfl) (by decide) ?_
    refine lv_iconst (v := 4) J.1 J.2.1 d_MA_wordsWanted_48 (by decide) ?_
    cases h
    exact jr_i J hS hP hD rfl d_MA_wordsWanted_49
  replace h := g_f c_2 h
  by_cases c_3 : (p0) = 23
  · replace h := g_t c_3 h
    refine lv_tableIn (off := 49) (tgt := 50) J.1 J.2.1 d_MA_wordsWanted_1 (by rw [c_3]; decide) (by rw [c_3]; decide) (by rw [c_3]; rfl) (by decide) ?_
    refine lv_bipush (v := 16) J.1 J.2.1 d_MA_wordsWanted_50 (by decide) ?_
    cases h
    exact jr_i J hS hP hD rfl d_MA_wordsWanted_52
  replace h := g_f c_3 h
  by_cases c_4 : (p0) = 24
  · replace h := g_t c_4 h
    refine lv_tableIn (off := 49) (tgt := 50) J.1 J.2.1 d_MA_wordsWanted_1 (by rw [c_4]; decide) (by rw [c_4]; decide) (by rw [c_4]; rfl) (by decide) ?_
    refine lv_bipush (v := 16) J.1 J.2.1 d_MA_wordsWanted_50 (by decide) ?_
    cases h
    exact jr_i J hS hP hD rfl d_MA_wordsWanted_52
  replace h := g_f c_4 h
  refine jt_df (tgt := 53) J.1 J.2.1 d_MA_wordsWanted_1 (jt_or (lo := 17) (hi := 24) (fun q q2 => by
      have e0 := lv_neT c_1 (a := 17) (by decide)
      have e1 := lv_neT c_2 (a := 18) (by decide)
      have e2 := lv_neT c_3 (a := 23) (by decide)
      have e3 := lv_neT c_4 (a := 24) (by decide)
      have e : (p0).toInt = 19 ∨ (p0).toInt = 20 ∨ (p0).toInt = 21 ∨ (p0).toInt = 22 := by omega
      rcases e with e | e | e | e <;> rw [e] <;> rfl)) (by decide) ?_
  refine lv_iconst (v := 0) J.1 J.2.1 d_MA_wordsWanted_53 (by decide) ?_
  cases h
  exact jr_i J hS hP hD rfl d_MA_wordsWanted_54

theorem hd_MA_register : y_MA_register.cls ≠ "java/lang/invoke/MethodHandle" ∧ y_MA_register.cls ≠ "java/lang/invoke/VarHandle" ∧ (parseMethodDescriptor y_MA_register.desc).map (fun d => d.parameters.length) = some 1 := by decide +kernel
def f_MA_register (vreg : Nat → Int32) (p1 : Int32) : Option (Int32) := (if p1 < (0 : Int32) then (some (-1)) else (if p1 < (8 : Int32) then (if ck p1 8 then (some (vreg p1.toNatClampNeg)) else none) else (some (-1))))
set_option maxHeartbeats 4000000 in
set_option maxRecDepth 100000 in
theorem ct_MA_register (l : Launch) (E : jz_E) (a0 a1 a2 a3 k0 : Nat) (sz : Nat) (vsz : Int32) (vmd : Int32) (vpc : Int32) (vba : Int32) (vbo : Int32) (vre : Int32) (vti : Int32) (vro : Int32) (vha : Int32) (vreg : Nat → Int32) (p1 : Int32) (o_r : Int32)  (h : f_MA_register vreg p1 = some o_r) : CTi l E y_MA_register c_MA_register 2 (some .int) ({ frames := 0, cells := 0, slots := 0, locals := 0 }) [.ref a0, .int p1] [(a0, .inr (0, [.ref a1, .ref a2, .ref a3, .ref k0, .int vsz, .int vmd, .int vpc, .int vba, .int vbo, .int vre, .int vti, .int vro, .int vha])), (a2, .inl (E.2.1 0, 8, .inl vreg))] sz o_r [(a0, .inr (0, [.ref a1, .ref a2, .ref a3, .ref k0, .int vsz, .int vmd, .int vpc, .int vba, .int vbo, .int vre, .int vti, .int vro, .int vha])), (a2, .inl (E.2.1 0, 8, .inl vreg))] := by
  refine jw (by decide +kernel) (Nat.le_of_ble_eq_true rfl) ?_
  intro p e s m below meth c A ls J hJ hAe hsz hA hZ hP hD hl
  rw [← hAe]
  have hS : va_S A s.heap s.heap [] := va_S.rf
  have hl : lv_has ls 2 [(0, .ref a0), (1, .int p1)] := hl
  unfold f_MA_register at h
  refine lv_iload_n J.1 J.2.1 d_MA_register_0 rfl (lv_at hl 1 rfl) ?_
  refine lv_if_lt (tgt := 10) J.1 J.2.1 d_MA_register_1 (by decide) (fun c_1 => ?_) (fun c_1 => ?_)
  · replace h := g_t c_1 h
    refine lv_iconst (v := (-1)) J.1 J.2.1 d_MA_register_10 (by decide) ?_
    refine lv_goto (tgt := 20) J.1 J.2.1 d_MA_register_11 (by decide) ?_
    cases h
    exact jr_i J hS hP hD rfl d_MA_register_20
  · replace h := g_f c_1 h
    refine lv_iload_n J.1 J.2.1 d_MA_register_4 rfl (lv_at hl 1 rfl) ?_
    refine lv_bipush (v := 8) J.1 J.2.1 d_MA_register_5 (by decide) ?_
    refine lv_icmp_lt (tgt := 14) J.1 J.2.1 d_MA_register_7 (by decide) (fun c_2 => ?_) (fun c_2 => ?_)
    · replace h := g_t c_2 h
      refine lv_aload_n J.1 J.2.1 d_MA_register_14 rfl (lv_at hl 0 rfl) ?_
      refine jg J hJ hP 0 rfl rfl i_MA 1 (by decide) gf_MA_15 rfl d_MA_register_15 ?_
      refine lv_iload_n J.1 J.2.1 d_MA_register_18 rfl (lv_at hl 1 rfl) ?_
      replace h := g_ck h
      obtain ⟨k_3, h⟩ := h
      refine jai J hJ hP 1 rfl k_3 d_MA_register_19 ?_
      cases h
      exact jr_i J hS hP hD rfl d_MA_register_20
    · replace h := g_f c_2 h
      refine lv_iconst (v := (-1)) J.1 J.2.1 d_MA_register_10 (by decide) ?_
      refine lv_goto (tgt := 20) J.1 J.2.1 d_MA_register_11 (by decide) ?_
      cases h
      exact jr_i J hS hP hD rfl d_MA_register_20

theorem hd_MA_blockWord : y_MA_blockWord.cls ≠ "java/lang/invoke/MethodHandle" ∧ y_MA_blockWord.cls ≠ "java/lang/invoke/VarHandle" ∧ (parseMethodDescriptor y_MA_blockWord.desc).map (fun d => d.parameters.length) = some 2 := by decide +kernel
def f_MA_blockWord (vblk : Nat → Int32) (p1 : Int32) (p2 : Int32) : Option (Int32) := (if p1 < (0 : Int32) then (some (-1)) else (if (8 : Int32) ≤ p1 then (some (-1)) else (if p2 < (0 : Int32) then (some (-1)) else (if p2 < (16 : Int32) then (if ck ((p1 * 16) + p2) 128 then (some (vblk ((p1 * 16) + p2).toNatClampNeg)) else none) else (some (-1))))))
set_option maxHeartbeats 4000000 in
set_option maxRecDepth 100000 in
theorem ct_MA_blockWord (l : Launch) (E : jz_E) (a0 a1 a2 a3 k0 : Nat) (sz : Nat) (vsz : Int32) (vmd : Int32) (vpc : Int32) (vba : Int32) (vbo : Int32) (vre : Int32) (vti : Int32) (vro : Int32) (vha : Int32) (vblk : Nat → Int32) (p1 : Int32) (p2 : Int32) (o_r : Int32)  (h : f_MA_blockWord vblk p1 p2 = some o_r) : CTi l E y_MA_blockWord c_MA_blockWord 3 (some .int) ({ frames := 0, cells := 0, slots := 0, locals := 0 }) [.ref a0, .int p1, .int p2] [(a0, .inr (0, [.ref a1, .ref a2, .ref a3, .ref k0, .int vsz, .int vmd, .int vpc, .int vba, .int vbo, .int vre, .int vti, .int vro, .int vha])), (a3, .inl (E.2.1 0, 128, .inl vblk))] sz o_r [(a0, .inr (0, [.ref a1, .ref a2, .ref a3, .ref k0, .int vsz, .int vmd, .int vpc, .int vba, .int vbo, .int vre, .int vti, .int vro, .int vha])), (a3, .inl (E.2.1 0, 128, .inl vblk))] := by
  refine jw (by decide +kernel) (Nat.le_of_ble_eq_true rfl) ?_
  intro p e s m below meth c A ls J hJ hAe hsz hA hZ hP hD hl
  rw [← hAe]
  have hS : va_S A s.heap s.heap [] := va_S.rf
  have hl : lv_has ls 3 [(0, .ref a0), (1, .int p1), (2, .int p2)] := hl
  unfold f_MA_blockWord at h
  refine lv_iload_n J.1 J.2.1 d_MA_blockWord_0 rfl (lv_at hl 1 rfl) ?_
  refine lv_if_lt (tgt := 20) J.1 J.2.1 d_MA_blockWord_1 (by decide) (fun c_1 => ?_) (fun c_1 => ?_)
  · replace h := g_t c_1 h
    refine lv_iconst (v := (-1)) J.1 J.2.1 d_MA_blockWord_20 (by decide) ?_
    cases h
    exact jr_i J hS hP hD rfl d_MA_blockWord_21
  · replace h := g_f c_1 h
    refine lv_iload_n J.1 J.2.1 d_MA_blockWord_4 rfl (lv_at hl 1 rfl) ?_
    refine lv_bipush (v := 8) J.1 J.2.1 d_MA_blockWord_5 (by decide) ?_
    refine lv_icmp_ge (tgt := 20) J.1 J.2.1 d_MA_blockWord_7 (by decide) (fun c_2 => ?_) (fun c_2 => ?_)
    · replace h := g_t c_2 h
      refine lv_iconst (v := (-1)) J.1 J.2.1 d_MA_blockWord_20 (by decide) ?_
      cases h
      exact jr_i J hS hP hD rfl d_MA_blockWord_21
    · replace h := g_f c_2 h
      refine lv_iload_n J.1 J.2.1 d_MA_blockWord_10 rfl (lv_at hl 2 rfl) ?_
      refine lv_if_lt (tgt := 20) J.1 J.2.1 d_MA_blockWord_11 (by decide) (fun c_3 => ?_) (fun c_3 => ?_)
      · replace h := g_t c_3 h
        refine lv_iconst (v := (-1)) J.1 J.2.1 d_MA_blockWord_20 (by decide) ?_
        cases h
        exact jr_i J hS hP hD rfl d_MA_blockWord_21
      · replace h := g_f c_3 h
        refine lv_iload_n J.1 J.2.1 d_MA_blockWord_14 rfl (lv_at hl 2 rfl) ?_
        refine lv_bipush (v := 16) J.1 J.2.1 d_MA_blockWord_15 (by decide) ?_
        refine lv_icmp_lt (tgt := 22) J.1 J.2.1 d_MA_blockWord_17 (by decide) (fun c_4 => ?_) (fun c_4 => ?_)
        · replace h := g_t c_4 h
          refine lv_aload_n J.1 J.2.1 d_MA_blockWord_22 rfl (lv_at hl 0 rfl) ?_
          refine jg J hJ hP 0 rfl rfl i_MA 2 (by decide) gf_MA_18 rfl d_MA_blockWord_23 ?_
          refine lv_iload_n J.1 J.2.1 d_MA_blockWord_26 rfl (lv_at hl 1 rfl) ?_
          refine lv_bipush (v := 16) J.1 J.2.1 d_MA_blockWord_27 (by decide) ?_
          refine lv_imul J.1 J.2.1 d_MA_blockWord_29 ?_
          refine lv_iload_n J.1 J.2.1 d_MA_blockWord_30 rfl (lv_at hl 2 rfl) ?_
          refine lv_iadd J.1 J.2.1 d_MA_blockWord_31 ?_
          replace h := g_ck h
          obtain ⟨k_5, h⟩ := h
          refine jai J hJ hP 1 rfl k_5 d_MA_blockWord_32 ?_
          cases h
          exact jr_i J hS hP hD rfl d_MA_blockWord_33
        · replace h := g_f c_4 h
          refine lv_iconst (v := (-1)) J.1 J.2.1 d_MA_blockWord_20 (by decide) ?_
          cases h
          exact jr_i J hS hP hD rfl d_MA_blockWord_21

theorem hd_MA_keepStatus : y_MA_keepStatus.cls ≠ "java/lang/invoke/MethodHandle" ∧ y_MA_keepStatus.cls ≠ "java/lang/invoke/VarHandle" ∧ (parseMethodDescriptor y_MA_keepStatus.desc).map (fun d => d.parameters.length) = some 2 := by decide +kernel
def f_MA_keepStatus (vmd : Int32) (vba : Int32) (vbo : Int32) (vmem : Nat → Int32) (p1 : Int32) (p2 : Int32) : Option ((Nat → Int32)) := (if ck p1 1844 then (if ck (p1 + 1) 1844 then (if ck (p1 + 2) 1844 then (if ck (p1 + 3) 1844 then (some (upd (upd (upd (upd vmem p1.toNatClampNeg vmd) (p1 + 1).toNatClampNeg p2) (p1 + 2).toNatClampNeg vba) (p1 + 3).toNatClampNeg vbo)) else none) else none) else none) else none)
set_option maxHeartbeats 4000000 in
set_option maxRecDepth 100000 in
theorem ct_MA_keepStatus (l : Launch) (E : jz_E) (a0 a1 a2 a3 k0 : Nat) (sz : Nat) (vsz : Int32) (vmd : Int32) (vpc : Int32) (vba : Int32) (vbo : Int32) (vre : Int32) (vti : Int32) (vro : Int32) (vha : Int32) (vmem : Nat → Int32) (p1 : Int32) (p2 : Int32) (o_vmem : Nat → Int32)  (h : f_MA_keepStatus vmd vba vbo vmem p1 p2 = some o_vmem) : CTv l E y_MA_keepStatus c_MA_keepStatus 3 none ({ frames := 0, cells := 0, slots := 0, locals := 0 }) [.ref a0, .int p1, .int p2] [(a0, .inr (0, [.ref a1, .ref a2, .ref a3, .ref k0, .int vsz, .int vmd, .int vpc, .int vba, .int vbo, .int vre, .int vti, .int vro, .int vha])), (a1, .inl (E.2.1 0, 1844, .inl vmem))] sz [(a0, .inr (0, [.ref a1, .ref a2, .ref a3, .ref k0, .int vsz, .int vmd, .int vpc, .int vba, .int vbo, .int vre, .int vti, .int vro, .int vha])), (a1, .inl (E.2.1 0, 1844, .inl o_vmem))] := by
  refine jw (by decide +kernel) (Nat.le_of_ble_eq_true rfl) ?_
  intro p e s m below meth c A ls J hJ hAe hsz hA hZ hP hD hl
  rw [← hAe]
  have hS : va_S A s.heap s.heap [] := va_S.rf
  have hl : lv_has ls 3 [(0, .ref a0), (1, .int p1), (2, .int p2)] := hl
  unfold f_MA_keepStatus at h
  refine lv_aload_n J.1 J.2.1 d_MA_keepStatus_0 rfl (lv_at hl 0 rfl) ?_
  refine jg J hJ hP 0 rfl rfl i_MA 0 (by decide) gf_MA_9 rfl d_MA_keepStatus_1 ?_
  refine lv_iload_n J.1 J.2.1 d_MA_keepStatus_4 rfl (lv_at hl 1 rfl) ?_
  refine lv_aload_n J.1 J.2.1 d_MA_keepStatus_5 rfl (lv_at hl 0 rfl) ?_
  refine jg J hJ hP 0 rfl rfl i_MA 5 (by decide) gf_MA_41 rfl d_MA_keepStatus_6 ?_
  replace h := g_ck h
  obtain ⟨k_1, h⟩ := h
  refine jsi J hJ hP hD hS 1 rfl k_1 d_MA_keepStatus_9 (WS' := [(a0, .inr (0, [.ref a1, .ref a2, .ref a3, .ref k0, .int vsz, .int vmd, .int vpc, .int vba, .int vbo, .int vre, .int vti, .int vro, .int vha])), (a1, .inl (E.2.1 0, 1844, .inl (upd vmem p1.toNatClampNeg vmd)))]) rfl ?_
  clear hP hD hS
  intro H locs hP hD hS
  refine lv_aload_n J.1 J.2.1 d_MA_keepStatus_10 rfl (lv_at hl 0 rfl) ?_
  refine jg J hJ hP 0 rfl rfl i_MA 0 (by decide) gf_MA_9 rfl d_MA_keepStatus_11 ?_
  refine lv_iload_n J.1 J.2.1 d_MA_keepStatus_14 rfl (lv_at hl 1 rfl) ?_
  refine lv_iconst (v := 1) J.1 J.2.1 d_MA_keepStatus_15 (by decide) ?_
  refine lv_iadd J.1 J.2.1 d_MA_keepStatus_16 ?_
  refine lv_iload_n J.1 J.2.1 d_MA_keepStatus_17 rfl (lv_at hl 2 rfl) ?_
  replace h := g_ck h
  obtain ⟨k_2, h⟩ := h
  refine jsi J hJ hP hD hS 1 rfl k_2 d_MA_keepStatus_18 (WS' := [(a0, .inr (0, [.ref a1, .ref a2, .ref a3, .ref k0, .int vsz, .int vmd, .int vpc, .int vba, .int vbo, .int vre, .int vti, .int vro, .int vha])), (a1, .inl (E.2.1 0, 1844, .inl (upd (upd vmem p1.toNatClampNeg vmd) (p1 + 1).toNatClampNeg p2)))]) rfl ?_
  clear hP hD hS
  intro H locs hP hD hS
  refine lv_aload_n J.1 J.2.1 d_MA_keepStatus_19 rfl (lv_at hl 0 rfl) ?_
  refine jg J hJ hP 0 rfl rfl i_MA 0 (by decide) gf_MA_9 rfl d_MA_keepStatus_20 ?_
  refine lv_iload_n J.1 J.2.1 d_MA_keepStatus_23 rfl (lv_at hl 1 rfl) ?_
  refine lv_iconst (v := 2) J.1 J.2.1 d_MA_keepStatus_24 (by decide) ?_
  refine lv_iadd J.1 J.2.1 d_MA_keepStatus_25 ?_
  refine lv_aload_n J.1 J.2.1 d_MA_keepStatus_26 rfl (lv_at hl 0 rfl) ?_
  refine jg J hJ hP 0 rfl rfl i_MA 7 (by decide) gf_MA_47 rfl d_MA_keepStatus_27 ?_
  replace h := g_ck h
  obtain ⟨k_3, h⟩ := h
  refine jsi J hJ hP hD hS 1 rfl k_3 d_MA_keepStatus_30 (WS' := [(a0, .inr (0, [.ref a1, .ref a2, .ref a3, .ref k0, .int vsz, .int vmd, .int vpc, .int vba, .int vbo, .int vre, .int vti, .int vro, .int vha])), (a1, .inl (E.2.1 0, 1844, .inl (upd (upd (upd vmem p1.toNatClampNeg vmd) (p1 + 1).toNatClampNeg p2) (p1 + 2).toNatClampNeg vba)))]) rfl ?_
  clear hP hD hS
  intro H locs hP hD hS
  refine lv_aload_n J.1 J.2.1 d_MA_keepStatus_31 rfl (lv_at hl 0 rfl) ?_
  refine jg J hJ hP 0 rfl rfl i_MA 0 (by decide) gf_MA_9 rfl d_MA_keepStatus_32 ?_
  refine lv_iload_n J.1 J.2.1 d_MA_keepStatus_35 rfl (lv_at hl 1 rfl) ?_
  refine lv_iconst (v := 3) J.1 J.2.1 d_MA_keepStatus_36 (by decide) ?_
  refine lv_iadd J.1 J.2.1 d_MA_keepStatus_37 ?_
  refine lv_aload_n J.1 J.2.1 d_MA_keepStatus_38 rfl (lv_at hl 0 rfl) ?_
  refine jg J hJ hP 0 rfl rfl i_MA 8 (by decide) gf_MA_50 rfl d_MA_keepStatus_39 ?_
  replace h := g_ck h
  obtain ⟨k_4, h⟩ := h
  refine jsi J hJ hP hD hS 1 rfl k_4 d_MA_keepStatus_42 (WS' := [(a0, .inr (0, [.ref a1, .ref a2, .ref a3, .ref k0, .int vsz, .int vmd, .int vpc, .int vba, .int vbo, .int vre, .int vti, .int vro, .int vha])), (a1, .inl (E.2.1 0, 1844, .inl (upd (upd (upd (upd vmem p1.toNatClampNeg vmd) (p1 + 1).toNatClampNeg p2) (p1 + 2).toNatClampNeg vba) (p1 + 3).toNatClampNeg vbo)))]) rfl ?_
  clear hP hD hS
  intro H locs hP hD hS
  cases h
  exact jr_v J hS hP hD d_MA_keepStatus_43

theorem hd_MA_takeStatus : y_MA_takeStatus.cls ≠ "java/lang/invoke/MethodHandle" ∧ y_MA_takeStatus.cls ≠ "java/lang/invoke/VarHandle" ∧ (parseMethodDescriptor y_MA_takeStatus.desc).map (fun d => d.parameters.length) = some 1 := by decide +kernel
def b_MA_takeStatus_18 (vsz : Int32) (vmd : Int32) (vmem : Nat → Int32) (x1 : Int32) : Option (Int32 × Int32 × Int32 × Int32 × Int32) := (if ck (x1 + 1) 1844 then (if ck (x1 + 2) 1844 then (if ck (x1 + 3) 1844 then (if vsz ≤ ((vmem (x1 + 2).toNatClampNeg) + (vmem (x1 + 3).toNatClampNeg)) then (some (vmd, (vmem (x1 + 1).toNatClampNeg), (vmem (x1 + 2).toNatClampNeg), (vmem (x1 + 3).toNatClampNeg), (vsz - (vmem (x1 + 2).toNatClampNeg)))) else (some (vmd, (vmem (x1 + 1).toNatClampNeg), (vmem (x1 + 2).toNatClampNeg), (vmem (x1 + 3).toNatClampNeg), (vmem (x1 + 3).toNatClampNeg)))) else none) else none) else none)
def f_MA_takeStatus (vsz : Int32) (vmem : Nat → Int32) (p1 : Int32) : Option (Int32 × Int32 × Int32 × Int32 × Int32) := (if ck p1 1844 then (if (vmem p1.toNatClampNeg) = (0 : Int32) then b_MA_takeStatus_18 vsz 0 vmem p1 else b_MA_takeStatus_18 vsz 1 vmem p1) else none)
set_option maxHeartbeats 4000000 in
set_option maxRecDepth 100000 in
theorem ct_MA_takeStatus (l : Launch) (E : jz_E) (a0 a1 a2 a3 k0 : Nat) (sz : Nat) (vsz : Int32) (vmd : Int32) (vpc : Int32) (vba : Int32) (vbo : Int32) (vre : Int32) (vti : Int32) (vro : Int32) (vha : Int32) (vmem : Nat → Int32) (p1 : Int32) (o_vmd : Int32) (o_vpc : Int32) (o_vba : Int32) (o_vbo : Int32) (o_vre : Int32)  (h : f_MA_takeStatus vsz vmem p1 = some (o_vmd, o_vpc, o_vba, o_vbo, o_vre)) : CTv l E y_MA_takeStatus c_MA_takeStatus 2 none ({ frames := 0, cells := 0, slots := 0, locals := 0 }) [.ref a0, .int p1] [(a0, .inr (0, [.ref a1, .ref a2, .ref a3, .ref k0, .int vsz, .int vmd, .int vpc, .int vba, .int vbo, .int vre, .int vti, .int vro, .int vha])), (a1, .inl (E.2.1 0, 1844, .inl vmem))] sz [(a0, .inr (0, [.ref a1, .ref a2, .ref a3, .ref k0, .int vsz, .int o_vmd, .int o_vpc, .int o_vba, .int o_vbo, .int o_vre, .int vti, .int vro, .int vha])), (a1, .inl (E.2.1 0, 1844, .inl vmem))] := by
  refine jw (by decide +kernel) (Nat.le_of_ble_eq_true rfl) ?_
  intro p e s m below meth c A ls J hJ hAe hsz hA hZ hP hD hl
  rw [← hAe]
  have hS : va_S A s.heap s.heap [] := va_S.rf
  have hl : lv_has ls 2 [(0, .ref a0), (1, .int p1)] := hl
  have K_18 : ∀ (vsz : Int32) (vmd : Int32) (vpc : Int32) (vba : Int32) (vbo : Int32) (vre : Int32) (vti : Int32) (vro : Int32) (vha : Int32) (vmem : Nat → Int32) (x1 : Int32) (H : Heap) (locs : List Loc) (ls : Array Slot), b_MA_takeStatus_18 vsz vmd vmem x1 = some (o_vmd, o_vpc, o_vba, o_vbo, o_vre) → va_P E.1 classes [(a0, .inr (0, [.ref a1, .ref a2, .ref a3, .ref k0, .int vsz, .int vmd, .int vpc, .int vba, .int vbo, .int vre, .int vti, .int vro, .int vha])), (a1, .inl (E.2.1 0, 1844, .inl vmem))] H → va_D A [(a0, .inr (0, [.ref a1, .ref a2, .ref a3, .ref k0, .int vsz, .int vmd, .int vpc, .int vba, .int vbo, .int vre, .int vti, .int vro, .int vha])), (a1, .inl (E.2.1 0, 1844, .inl vmem))] → va_S A s.heap H locs → lv_has ls 2 [(0, .ref a0), (1, .int x1)] → W p l e ({ frames := 0, cells := 0, slots := 0, locals := 0 }) s m ([.ref a0, .int p1] : List Value).toArray below meth c H locs 0 0 (MQ below (va_Qv (fun (u : va_W) => u = [(a0, .inr (0, [.ref a1, .ref a2, .ref a3, .ref k0, .int vsz, .int o_vmd, .int o_vpc, .int o_vba, .int o_vbo, .int o_vre, .int vti, .int vro, .int vha])), (a1, .inl (E.2.1 0, 1844, .inl vmem))]) (BW E A) A) ([.ref a0, .int p1] : List Value).toArray s 0 0 A) (F0 m 18 ls []) := by
    intro vsz vmd vpc vba vbo vre vti vro vha vmem x1 H locs ls h hP hD hS hl
    rw [b_MA_takeStatus_18] at h
    refine lv_aload_n J.1 J.2.1 d_MA_takeStatus_18 rfl (lv_at hl 0 rfl) ?_
    refine lv_aload_n J.1 J.2.1 d_MA_takeStatus_19 rfl (lv_at hl 0 rfl) ?_
    refine jg J hJ hP 0 rfl rfl i_MA 0 (by decide) gf_MA_9 rfl d_MA_takeStatus_20 ?_
    refine lv_iload_n J.1 J.2.1 d_MA_takeStatus_23 rfl (lv_at hl 1 rfl) ?_
    refine lv_iconst (v := 1) J.1 J.2.1 d_MA_takeStatus_24 (by decide) ?_
    refine lv_iadd J.1 J.2.1 d_MA_takeStatus_25 ?_
    replace h := g_ck h
    obtain ⟨k_1, h⟩ := h
    refine jai J hJ hP 1 rfl k_1 d_MA_takeStatus_26 ?_
    refine jp J hJ hP hD hS 0 rfl rfl i_MA t_MA t_MA_ok n_MA 6 (by decide) gf_MA_44 rfl rfl rfl (Nat.le_of_ble_eq_true rfl) d_MA_takeStatus_27 (WS' := [(a0, .inr (0, [.ref a1, .ref a2, .ref a3, .ref k0, .int vsz, .int vmd, .int (vmem (x1 + 1).toNatClampNeg), .int vba, .int vbo, .int vre, .int vti, .int vro, .int vha])), (a1, .inl (E.2.1 0, 1844, .inl vmem))]) rfl ?_
    clear hP hD hS
    intro H locs hP hD hS
    refine lv_aload_n J.1 J.2.1 d_MA_takeStatus_30 rfl (lv_at hl 0 rfl) ?_
    refine lv_aload_n J.1 J.2.1 d_MA_takeStatus_31 rfl (lv_at hl 0 rfl) ?_
    refine jg J hJ hP 0 rfl rfl i_MA 0 (by decide) gf_MA_9 rfl d_MA_takeStatus_32 ?_
    refine lv_iload_n J.1 J.2.1 d_MA_takeStatus_35 rfl (lv_at hl 1 rfl) ?_
    refine lv_iconst (v := 2) J.1 J.2.1 d_MA_takeStatus_36 (by decide) ?_
    refine lv_iadd J.1 J.2.1 d_MA_takeStatus_37 ?_
    replace h := g_ck h
    obtain ⟨k_2, h⟩ := h
    refine jai J hJ hP 1 rfl k_2 d_MA_takeStatus_38 ?_
    refine jp J hJ hP hD hS 0 rfl rfl i_MA t_MA t_MA_ok n_MA 7 (by decide) gf_MA_47 rfl rfl rfl (Nat.le_of_ble_eq_true rfl) d_MA_takeStatus_39 (WS' := [(a0, .inr (0, [.ref a1, .ref a2, .ref a3, .ref k0, .int vsz, .int vmd, .int (vmem (x1 + 1).toNatClampNeg), .int (vmem (x1 + 2).toNatClampNeg), .int vbo, .int vre, .int vti, .int vro, .int vha])), (a1, .inl (E.2.1 0, 1844, .inl vmem))]) rfl ?_
    clear hP hD hS
    intro H locs hP hD hS
    refine lv_aload_n J.1 J.2.1 d_MA_takeStatus_42 rfl (lv_at hl 0 rfl) ?_
    refine lv_aload_n J.1 J.2.1 d_MA_takeStatus_43 rfl (lv_at hl 0 rfl) ?_
    refine jg J hJ hP 0 rfl rfl i_MA 0 (by decide) gf_MA_9 rfl d_MA_takeStatus_44 ?_
    refine lv_iload_n J.1 J.2.1 d_MA_takeStatus_47 rfl (lv_at hl 1 rfl) ?_
    refine lv_iconst (v := 3) J.1 J.2.1 d_MA_takeStatus_48 (by decide) ?_
    refine lv_iadd J.1 J.2.1 d_MA_takeStatus_49 ?_
    replace h := g_ck h
    obtain ⟨k_3, h⟩ := h
    refine jai J hJ hP 1 rfl k_3 d_MA_takeStatus_50 ?_
    refine jp J hJ hP hD hS 0 rfl rfl i_MA t_MA t_MA_ok n_MA 8 (by decide) gf_MA_50 rfl rfl rfl (Nat.le_of_ble_eq_true rfl) d_MA_takeStatus_51 (WS' := [(a0, .inr (0, [.ref a1, .ref a2, .ref a3, .ref k0, .int vsz, .int vmd, .int (vmem (x1 + 1).toNatClampNeg), .int (vmem (x1 + 2).toNatClampNeg), .int (vmem (x1 + 3).toNatClampNeg), .int vre, .int vti, .int vro, .int vha])), (a1, .inl (E.2.1 0, 1844, .inl vmem))]) rfl ?_
    clear hP hD hS
    intro H locs hP hD hS
    refine lv_aload_n J.1 J.2.1 d_MA_takeStatus_54 rfl (lv_at hl 0 rfl) ?_
    refine lv_aload_n J.1 J.2.1 d_MA_takeStatus_55 rfl (lv_at hl 0 rfl) ?_
    refine jg J hJ hP 0 rfl rfl i_MA 7 (by decide) gf_MA_47 rfl d_MA_takeStatus_56 ?_
    refine lv_aload_n J.1 J.2.1 d_MA_takeStatus_59 rfl (lv_at hl 0 rfl) ?_
    refine jg J hJ hP 0 rfl rfl i_MA 8 (by decide) gf_MA_50 rfl d_MA_takeStatus_60 ?_
    refine lv_iadd J.1 J.2.1 d_MA_takeStatus_63 ?_
    refine lv_aload_n J.1 J.2.1 d_MA_takeStatus_64 rfl (lv_at hl 0 rfl) ?_
    refine jg J hJ hP 0 rfl rfl i_MA 4 (by decide) gf_MA_28 rfl d_MA_takeStatus_65 ?_
    refine lv_icmp_ge (tgt := 78) J.1 J.2.1 d_MA_takeStatus_68 (by decide) (fun c_4 => ?_) (fun c_4 => ?_)
    · replace h := g_t c_4 h
      refine lv_aload_n J.1 J.2.1 d_MA_takeStatus_78 rfl (lv_at hl 0 rfl) ?_
      refine jg J hJ hP 0 rfl rfl i_MA 4 (by decide) gf_MA_28 rfl d_MA_takeStatus_79 ?_
      refine lv_aload_n J.1 J.2.1 d_MA_takeStatus_82 rfl (lv_at hl 0 rfl) ?_
      refine jg J hJ hP 0 rfl rfl i_MA 7 (by decide) gf_MA_47 rfl d_MA_takeStatus_83 ?_
      refine lv_isub J.1 J.2.1 d_MA_takeStatus_86 ?_
      refine jp J hJ hP hD hS 0 rfl rfl i_MA t_MA t_MA_ok n_MA 9 (by decide) gf_MA_53 rfl rfl rfl (Nat.le_of_ble_eq_true rfl) d_MA_takeStatus_87 (WS' := [(a0, .inr (0, [.ref a1, .ref a2, .ref a3, .ref k0, .int vsz, .int vmd, .int (vmem (x1 + 1).toNatClampNeg), .int (vmem (x1 + 2).toNatClampNeg), .int (vmem (x1 + 3).toNatClampNeg), .int (vsz - (vmem (x1 + 2).toNatClampNeg)), .int vti, .int vro, .int vha])), (a1, .inl (E.2.1 0, 1844, .inl vmem))]) rfl ?_
      clear hP hD hS
      intro H locs hP hD hS
      cases h
      exact jr_v J hS hP hD d_MA_takeStatus_90
    · replace h := g_f c_4 h
      refine lv_aload_n J.1 J.2.1 d_MA_takeStatus_71 rfl (lv_at hl 0 rfl) ?_
      refine jg J hJ hP 0 rfl rfl i_MA 8 (by decide) gf_MA_50 rfl d_MA_takeStatus_72 ?_
      refine lv_goto (tgt := 87) J.1 J.2.1 d_MA_takeStatus_75 (by decide) ?_
      refine jp J hJ hP hD hS 0 rfl rfl i_MA t_MA t_MA_ok n_MA 9 (by decide) gf_MA_53 rfl rfl rfl (Nat.le_of_ble_eq_true rfl) d_MA_takeStatus_87 (WS' := [(a0, .inr (0, [.ref a1, .ref a2, .ref a3, .ref k0, .int vsz, .int vmd, .int (vmem (x1 + 1).toNatClampNeg), .int (vmem (x1 + 2).toNatClampNeg), .int (vmem (x1 + 3).toNatClampNeg), .int (vmem (x1 + 3).toNatClampNeg), .int vti, .int vro, .int vha])), (a1, .inl (E.2.1 0, 1844, .inl vmem))]) rfl ?_
      clear hP hD hS
      intro H locs hP hD hS
      cases h
      exact jr_v J hS hP hD d_MA_takeStatus_90
  unfold f_MA_takeStatus at h
  refine lv_aload_n J.1 J.2.1 d_MA_takeStatus_0 rfl (lv_at hl 0 rfl) ?_
  refine lv_aload_n J.1 J.2.1 d_MA_takeStatus_1 rfl (lv_at hl 0 rfl) ?_
  refine jg J hJ hP 0 rfl rfl i_MA 0 (by decide) gf_MA_9 rfl d_MA_takeStatus_2 ?_
  refine lv_iload_n J.1 J.2.1 d_MA_takeStatus_5 rfl (lv_at hl 1 rfl) ?_
  replace h := g_ck h
  obtain ⟨k_5, h⟩ := h
  refine jai J hJ hP 1 rfl k_5 d_MA_takeStatus_6 ?_
  refine lv_if_ne (tgt := 14) J.1 J.2.1 d_MA_takeStatus_7 (by decide) (fun c_6 => ?_) (fun c_6 => ?_)
  · replace h := g_f c_6 h
    refine lv_iconst (v := 1) J.1 J.2.1 d_MA_takeStatus_14 (by decide) ?_
    refine jp J hJ hP hD hS 0 rfl rfl i_MA t_MA t_MA_ok n_MA 5 (by decide) gf_MA_41 rfl rfl rfl (Nat.le_of_ble_eq_true rfl) d_MA_takeStatus_15 (WS' := [(a0, .inr (0, [.ref a1, .ref a2, .ref a3, .ref k0, .int vsz, .int 1, .int vpc, .int vba, .int vbo, .int vre, .int vti, .int vro, .int vha])), (a1, .inl (E.2.1 0, 1844, .inl vmem))]) rfl ?_
    clear hP hD hS
    intro H locs hP hD hS
    exact K_18 _ _ _ _ _ _ _ _ _ _ _ _ _ _ h hP hD hS (lv_sub hl [0, 1] rfl)
  · replace h := g_t c_6 h
    refine lv_iconst (v := 0) J.1 J.2.1 d_MA_takeStatus_10 (by decide) ?_
    refine lv_goto (tgt := 15) J.1 J.2.1 d_MA_takeStatus_11 (by decide) ?_
    refine jp J hJ hP hD hS 0 rfl rfl i_MA t_MA t_MA_ok n_MA 5 (by decide) gf_MA_41 rfl rfl rfl (Nat.le_of_ble_eq_true rfl) d_MA_takeStatus_15 (WS' := [(a0, .inr (0, [.ref a1, .ref a2, .ref a3, .ref k0, .int vsz, .int 0, .int vpc, .int vba, .int vbo, .int vre, .int vti, .int vro, .int vha])), (a1, .inl (E.2.1 0, 1844, .inl vmem))]) rfl ?_
    clear hP hD hS
    intro H locs hP hD hS
    exact K_18 _ _ _ _ _ _ _ _ _ _ _ _ _ _ h hP hD hS (lv_sub hl [0, 1] rfl)

theorem hd_MA_trap : y_MA_trap.cls ≠ "java/lang/invoke/MethodHandle" ∧ y_MA_trap.cls ≠ "java/lang/invoke/VarHandle" ∧ (parseMethodDescriptor y_MA_trap.desc).map (fun d => d.parameters.length) = some 3 := by decide +kernel
def f_MA_trap (vsz : Int32) (vmd : Int32) (vba : Int32) (vbo : Int32) (vmem : Nat → Int32) (p1 : Int32) (p2 : Int32) (p3 : Int32) : Option (Int32 × Int32 × Int32 × Int32 × Int32 × (Nat → Int32)) := ((f_MA_keepStatus vmd vba vbo vmem 0 p3).bind fun vmem_1 => ((f_MA_takeStatus vsz (upd (upd vmem_1 (8 : Int32).toNatClampNeg p1) (9 : Int32).toNatClampNeg p2) 4).bind fun (vmd_2, vpc_2, vba_2, vbo_2, vre_2) => (some (vmd_2, vpc_2, vba_2, vbo_2, vre_2, (upd (upd vmem_1 (8 : Int32).toNatClampNeg p1) (9 : Int32).toNatClampNeg p2)))))
set_option maxHeartbeats 4000000 in
set_option maxRecDepth 100000 in
theorem ct_MA_trap (l : Launch) (E : jz_E) (a0 a1 a2 a3 k0 : Nat) (sz : Nat) (vsz : Int32) (vmd : Int32) (vpc : Int32) (vba : Int32) (vbo : Int32) (vre : Int32) (vti : Int32) (vro : Int32) (vha : Int32) (vmem : Nat → Int32) (p1 : Int32) (p2 : Int32) (p3 : Int32) (o_vmd : Int32) (o_vpc : Int32) (o_vba : Int32) (o_vbo : Int32) (o_vre : Int32) (o_vmem : Nat → Int32)  (h : f_MA_trap vsz vmd vba vbo vmem p1 p2 p3 = some (o_vmd, o_vpc, o_vba, o_vbo, o_vre, o_vmem)) : CTv l E y_MA_trap c_MA_trap 4 none ({ frames := 1, cells := 0, slots := 0, locals := 22 }) [.ref a0, .int p1, .int p2, .int p3] [(a0, .inr (0, [.ref a1, .ref a2, .ref a3, .ref k0, .int vsz, .int vmd, .int vpc, .int vba, .int vbo, .int vre, .int vti, .int vro, .int vha])), (a1, .inl (E.2.1 0, 1844, .inl vmem))] sz [(a0, .inr (0, [.ref a1, .ref a2, .ref a3, .ref k0, .int vsz, .int o_vmd, .int o_vpc, .int o_vba, .int o_vbo, .int o_vre, .int vti, .int vro, .int vha])), (a1, .inl (E.2.1 0, 1844, .inl o_vmem))] := by
  refine jw (by decide +kernel) (Nat.le_of_ble_eq_true rfl) ?_
  intro p e s m below meth c A ls J hJ hAe hsz hA hZ hP hD hl
  rw [← hAe]
  have hS : va_S A s.heap s.heap [] := va_S.rf
  have hl : lv_has ls 4 [(0, .ref a0), (1, .int p1), (2, .int p2), (3, .int p3)] := hl
  unfold f_MA_trap at h
  refine lv_aload_n J.1 J.2.1 d_MA_trap_0 rfl (lv_at hl 0 rfl) ?_
  refine lv_iconst (v := 0) J.1 J.2.1 d_MA_trap_1 (by decide) ?_
  refine lv_iload_n J.1 J.2.1 d_MA_trap_2 rfl (lv_at hl 3 rfl) ?_
  replace h := g_bd h
  obtain ⟨vmem_1, q_1, h⟩ := h
  refine jk_v (jrunV (As := [.int 0, .int p3]) (rest := []) J hJ hA hZ hP hD hS (ct_MA_keepStatus l E a0 a1 a2 a3 k0 _ vsz vmd vpc vba vbo vre vti vro vha vmem 0 p3 vmem_1 q_1) [0, 1] rfl (by decide) gl_MA_99 gi_MA_keepStatus gsel_MA_keepStatus gini_MA gc_MA_keepStatus hd_MA_keepStatus ⟨rfl, rfl, Nat.le_of_ble_eq_true rfl, Nat.le_of_ble_eq_true rfl⟩ rfl rfl hl.1 rfl rfl (Nat.le_of_ble_eq_true rfl) d_MA_trap_3 ⟨Nat.zero_le _, Nat.zero_le _⟩) hA hP hD hS [0, 1] [] (WR := []) rfl rfl (by decide) (by decide) [0, 1] (WF := [(a0, .inr (0, [.ref a1, .ref a2, .ref a3, .ref k0, .int vsz, .int vmd, .int vpc, .int vba, .int vbo, .int vre, .int vti, .int vro, .int vha])), (a1, .inl (E.2.1 0, 1844, .inl vmem_1))]) rfl (by decide) ?_
  clear hP hD hS
  intro H locs hP hD hS
  refine lv_aload_n J.1 J.2.1 d_MA_trap_6 rfl (lv_at hl 0 rfl) ?_
  refine jg J hJ hP 0 rfl rfl i_MA 0 (by decide) gf_MA_9 rfl d_MA_trap_7 ?_
  refine lv_bipush (v := 8) J.1 J.2.1 d_MA_trap_10 (by decide) ?_
  refine lv_iload_n J.1 J.2.1 d_MA_trap_12 rfl (lv_at hl 1 rfl) ?_
  refine jsi J hJ hP hD hS 1 rfl (by unfold vp_in; decide) d_MA_trap_13 (WS' := [(a0, .inr (0, [.ref a1, .ref a2, .ref a3, .ref k0, .int vsz, .int vmd, .int vpc, .int vba, .int vbo, .int vre, .int vti, .int vro, .int vha])), (a1, .inl (E.2.1 0, 1844, .inl (upd vmem_1 (8 : Int32).toNatClampNeg p1)))]) rfl ?_
  clear hP hD hS
  intro H locs hP hD hS
  refine lv_aload_n J.1 J.2.1 d_MA_trap_14 rfl (lv_at hl 0 rfl) ?_
  refine jg J hJ hP 0 rfl rfl i_MA 0 (by decide) gf_MA_9 rfl d_MA_trap_15 ?_
  refine lv_bipush (v := 9) J.1 J.2.1 d_MA_trap_18 (by decide) ?_
  refine lv_iload_n J.1 J.2.1 d_MA_trap_20 rfl (lv_at hl 2 rfl) ?_
  refine jsi J hJ hP hD hS 1 rfl (by unfold vp_in; decide) d_MA_trap_21 (WS' := [(a0, .inr (0, [.ref a1, .ref a2, .ref a3, .ref k0, .int vsz, .int vmd, .int vpc, .int vba, .int vbo, .int vre, .int vti, .int vro, .int vha])), (a1, .inl (E.2.1 0, 1844, .inl (upd (upd vmem_1 (8 : Int32).toNatClampNeg p1) (9 : Int32).toNatClampNeg p2)))]) rfl ?_
  clear hP hD hS
  intro H locs hP hD hS
  refine lv_aload_n J.1 J.2.1 d_MA_trap_22 rfl (lv_at hl 0 rfl) ?_
  refine lv_iconst (v := 4) J.1 J.2.1 d_MA_trap_23 (by decide) ?_
  replace h := g_bd h
  obtain ⟨⟨vmd_2, vpc_2, vba_2, vbo_2, vre_2⟩, q_2, h⟩ := h
  try dsimp only at h
  refine jk_v (jrunV (As := [.int 4]) (rest := []) J hJ hA hZ hP hD hS (ct_MA_takeStatus l E a0 a1 a2 a3 k0 _ vsz vmd vpc vba vbo vre vti vro vha (upd (upd vmem_1 (8 : Int32).toNatClampNeg p1) (9 : Int32).toNatClampNeg p2) 4 vmd_2 vpc_2 vba_2 vbo_2 vre_2 q_2) [0, 1] rfl (by decide) gl_MA_96 gi_MA_takeStatus gsel_MA_takeStatus gini_MA gc_MA_takeStatus hd_MA_takeStatus ⟨rfl, rfl, Nat.le_of_ble_eq_true rfl, Nat.le_of_ble_eq_true rfl⟩ rfl rfl hl.1 rfl rfl (Nat.le_of_ble_eq_true rfl) d_MA_trap_24 ⟨Nat.zero_le _, Nat.zero_le _⟩) hA hP hD hS [0, 1] [] (WR := []) rfl rfl (by decide) (by decide) [0, 1] (WF := [(a0, .inr (0, [.ref a1, .ref a2, .ref a3, .ref k0, .int vsz, .int vmd_2, .int vpc_2, .int vba_2, .int vbo_2, .int vre_2, .int vti, .int vro, .int vha])), (a1, .inl (E.2.1 0, 1844, .inl (upd (upd vmem_1 (8 : Int32).toNatClampNeg p1) (9 : Int32).toNatClampNeg p2)))]) rfl (by decide) ?_
  clear hP hD hS
  intro H locs hP hD hS
  cases h
  exact jr_v J hS hP hD d_MA_trap_27

theorem hd_MA_firstBad : y_MA_firstBad.cls ≠ "java/lang/invoke/MethodHandle" ∧ y_MA_firstBad.cls ≠ "java/lang/invoke/VarHandle" ∧ (parseMethodDescriptor y_MA_firstBad.desc).map (fun d => d.parameters.length) = some 2 := by decide +kernel
def b_MA_firstBad_2 : Nat → Int32 → Int32 → Int32 → Int32 → Option (Int32)
  | 0, _, _, _, _ => none
  | n + 1, vre, x1, x2, x3 => (if x2 ≤ x3 then (some (-1)) else (if ((x1 + x3) &&& 65535) < vre then b_MA_firstBad_2 n vre x1 x2 (x3 + 1) else (some ((x1 + x3) &&& 65535))))
def f_MA_firstBad (vre : Int32) (p1 : Int32) (p2 : Int32) : Option (Int32) := b_MA_firstBad_2 65536 vre p1 p2 0
set_option maxHeartbeats 4000000 in
set_option maxRecDepth 100000 in
theorem ct_MA_firstBad (l : Launch) (E : jz_E) (a0 a1 a2 a3 k0 : Nat) (sz : Nat) (vsz : Int32) (vmd : Int32) (vpc : Int32) (vba : Int32) (vbo : Int32) (vre : Int32) (vti : Int32) (vro : Int32) (vha : Int32) (p1 : Int32) (p2 : Int32) (o_r : Int32)  (h : f_MA_firstBad vre p1 p2 = some o_r) : CTi l E y_MA_firstBad c_MA_firstBad 5 (some .int) ({ frames := 0, cells := 0, slots := 0, locals := 0 }) [.ref a0, .int p1, .int p2] [(a0, .inr (0, [.ref a1, .ref a2, .ref a3, .ref k0, .int vsz, .int vmd, .int vpc, .int vba, .int vbo, .int vre, .int vti, .int vro, .int vha]))] sz o_r [(a0, .inr (0, [.ref a1, .ref a2, .ref a3, .ref k0, .int vsz, .int vmd, .int vpc, .int vba, .int vbo, .int vre, .int vti, .int vro, .int vha]))] := by
  refine jw (by decide +kernel) (Nat.le_of_ble_eq_true rfl) ?_
  intro p e s m below meth c A ls J hJ hAe hsz hA hZ hP hD hl
  rw [← hAe]
  have hS : va_S A s.heap s.heap [] := va_S.rf
  have hl : lv_has ls 5 [(0, .ref a0), (1, .int p1), (2, .int p2)] := hl
  have K_2 : ∀ (n : Nat) (vsz : Int32) (vmd : Int32) (vpc : Int32) (vba : Int32) (vbo : Int32) (vre : Int32) (vti : Int32) (vro : Int32) (vha : Int32) (x1 : Int32) (x2 : Int32) (x3 : Int32) (H : Heap) (locs : List Loc) (ls : Array Slot), b_MA_firstBad_2 n vre x1 x2 x3 = some o_r → va_P E.1 classes [(a0, .inr (0, [.ref a1, .ref a2, .ref a3, .ref k0, .int vsz, .int vmd, .int vpc, .int vba, .int vbo, .int vre, .int vti, .int vro, .int vha]))] H → va_D A [(a0, .inr (0, [.ref a1, .ref a2, .ref a3, .ref k0, .int vsz, .int vmd, .int vpc, .int vba, .int vbo, .int vre, .int vti, .int vro, .int vha]))] → va_S A s.heap H locs → lv_has ls 5 [(0, .ref a0), (1, .int x1), (2, .int x2), (3, .int x3)] → W p l e ({ frames := 0, cells := 0, slots := 0, locals := 0 }) s m ([.ref a0, .int p1, .int p2] : List Value).toArray below meth c H locs 0 0 (MQ below (va_Qi (fun (r' : Int32) (u : va_W) => r' = o_r ∧ u = [(a0, .inr (0, [.ref a1, .ref a2, .ref a3, .ref k0, .int vsz, .int vmd, .int vpc, .int vba, .int vbo, .int vre, .int vti, .int vro, .int vha]))]) (BW E A) A) ([.ref a0, .int p1, .int p2] : List Value).toArray s 0 0 A) (F0 m 2 ls []) := by
    intro n
    induction n with
    | zero => intro vsz vmd vpc vba vbo vre vti vro vha x1 x2 x3 H locs ls h; cases h
    | succ n ih =>
      intro vsz vmd vpc vba vbo vre vti vro vha x1 x2 x3 H locs ls h hP hD hS hl
      rw [b_MA_firstBad_2] at h
      refine lv_iload_n J.1 J.2.1 d_MA_firstBad_2 rfl (lv_at hl 3 rfl) ?_
      refine lv_iload_n J.1 J.2.1 d_MA_firstBad_3 rfl (lv_at hl 2 rfl) ?_
      refine lv_icmp_ge (tgt := 33) J.1 J.2.1 d_MA_firstBad_4 (by decide) (fun c_1 => ?_) (fun c_1 => ?_)
      · replace h := g_t c_1 h
        refine lv_iconst (v := (-1)) J.1 J.2.1 d_MA_firstBad_33 (by decide) ?_
        cases h
        exact jr_i J hS hP hD rfl d_MA_firstBad_34
      · replace h := g_f c_1 h
        refine lv_iload_n J.1 J.2.1 d_MA_firstBad_7 rfl (lv_at hl 1 rfl) ?_
        refine lv_iload_n J.1 J.2.1 d_MA_firstBad_8 rfl (lv_at hl 3 rfl) ?_
        refine lv_iadd J.1 J.2.1 d_MA_firstBad_9 ?_
        refine lv_ldc (v := 65535) J.1 J.2.1 J.2.2.2.2.1 (J.2.2.2.2.2.1 _ gk_MA_70) d_MA_firstBad_10 ?_
        refine lv_iand J.1 J.2.1 d_MA_firstBad_12 ?_
        refine lv_istore (lv' := [(4, .int ((x1 + x3) &&& 65535)), (0, .ref a0), (1, .int x1), (2, .int x2), (3, .int x3)]) J.1 J.2.1 d_MA_firstBad_13 hl (by decide) rfl ?_
        clear hl
        intro ls hl
        refine lv_iload J.1 J.2.1 d_MA_firstBad_15 (lv_at hl 0 rfl) ?_
        refine lv_aload_n J.1 J.2.1 d_MA_firstBad_17 rfl (lv_at hl 1 rfl) ?_
        refine jg J hJ hP 0 rfl rfl i_MA 9 (by decide) gf_MA_53 rfl d_MA_firstBad_18 ?_
        refine lv_icmp_lt (tgt := 27) J.1 J.2.1 d_MA_firstBad_21 (by decide) (fun c_2 => ?_) (fun c_2 => ?_)
        · replace h := g_t c_2 h
          refine lv_iinc (v := (x3 + 1)) (lv' := [(3, .int (x3 + 1)), (4, .int ((x1 + x3) &&& 65535)), (0, .ref a0), (1, .int x1), (2, .int x2)]) J.1 J.2.1 d_MA_firstBad_27 hl (k := 4) rfl rfl (by decide) rfl ?_
          clear hl
          intro ls hl
          refine lv_goto (tgt := 2) J.1 J.2.1 d_MA_firstBad_30 (by decide) ?_
          exact ih _ _ _ _ _ _ _ _ _ _ _ _ _ _ _ h hP hD hS (lv_sub hl [2, 3, 4, 0] rfl)
        · replace h := g_f c_2 h
          refine lv_iload J.1 J.2.1 d_MA_firstBad_24 (lv_at hl 0 rfl) ?_
          cases h
          exact jr_i J hS hP hD rfl d_MA_firstBad_26
  unfold f_MA_firstBad at h
  refine lv_iconst (v := 0) J.1 J.2.1 d_MA_firstBad_0 (by decide) ?_
  refine lv_istore_n (lv' := [(3, .int 0), (0, .ref a0), (1, .int p1), (2, .int p2)]) J.1 J.2.1 d_MA_firstBad_1 rfl hl (by decide) rfl ?_
  clear hl
  intro ls hl
  exact K_2 _ _ _ _ _ _ _ _ _ _ _ _ _ _ _ _ h hP hD hS (lv_sub hl [1, 2, 3, 0] rfl)

theorem hd_MA_goOn : y_MA_goOn.cls ≠ "java/lang/invoke/MethodHandle" ∧ y_MA_goOn.cls ≠ "java/lang/invoke/VarHandle" ∧ (parseMethodDescriptor y_MA_goOn.desc).map (fun d => d.parameters.length) = some 1 := by decide +kernel
def f_MA_goOn (vmd : Int32) (vti : Int32) (vro : Int32) (p1 : Int32) : Option (Int32 × Int32 × Int32) := (if vmd = (1 : Int32) then (if vti ≤ (0 : Int32) then (some (p1, vti, vro)) else (if (vti - 1) = (0 : Int32) then (some (p1, (vti - 1), 1)) else (some (p1, (vti - 1), 0)))) else (some (p1, vti, vro)))
set_option maxHeartbeats 4000000 in
set_option maxRecDepth 100000 in
theorem ct_MA_goOn (l : Launch) (E : jz_E) (a0 a1 a2 a3 k0 : Nat) (sz : Nat) (vsz : Int32) (vmd : Int32) (vpc : Int32) (vba : Int32) (vbo : Int32) (vre : Int32) (vti : Int32) (vro : Int32) (vha : Int32) (p1 : Int32) (o_vpc : Int32) (o_vti : Int32) (o_vro : Int32)  (h : f_MA_goOn vmd vti vro p1 = some (o_vpc, o_vti, o_vro)) : CTv l E y_MA_goOn c_MA_goOn 2 none ({ frames := 0, cells := 0, slots := 0, locals := 0 }) [.ref a0, .int p1] [(a0, .inr (0, [.ref a1, .ref a2, .ref a3, .ref k0, .int vsz, .int vmd, .int vpc, .int vba, .int vbo, .int vre, .int vti, .int vro, .int vha]))] sz [(a0, .inr (0, [.ref a1, .ref a2, .ref a3, .ref k0, .int vsz, .int vmd, .int o_vpc, .int vba, .int vbo, .int vre, .int o_vti, .int o_vro, .int vha]))] := by
  refine jw (by decide +kernel) (Nat.le_of_ble_eq_true rfl) ?_
  intro p e s m below meth c A ls J hJ hAe hsz hA hZ hP hD hl
  rw [← hAe]
  have hS : va_S A s.heap s.heap [] := va_S.rf
  have hl : lv_has ls 2 [(0, .ref a0), (1, .int p1)] := hl
  unfold f_MA_goOn at h
  refine lv_aload_n J.1 J.2.1 d_MA_goOn_0 rfl (lv_at hl 0 rfl) ?_
  refine lv_iload_n J.1 J.2.1 d_MA_goOn_1 rfl (lv_at hl 1 rfl) ?_
  refine jp J hJ hP hD hS 0 rfl rfl i_MA t_MA t_MA_ok n_MA 6 (by decide) gf_MA_44 rfl rfl rfl (Nat.le_of_ble_eq_true rfl) d_MA_goOn_2 (WS' := [(a0, .inr (0, [.ref a1, .ref a2, .ref a3, .ref k0, .int vsz, .int vmd, .int p1, .int vba, .int vbo, .int vre, .int vti, .int vro, .int vha]))]) rfl ?_
  clear hP hD hS
  intro H locs hP hD hS
  refine lv_aload_n J.1 J.2.1 d_MA_goOn_5 rfl (lv_at hl 0 rfl) ?_
  refine jg J hJ hP 0 rfl rfl i_MA 5 (by decide) gf_MA_41 rfl d_MA_goOn_6 ?_
  refine lv_iconst (v := 1) J.1 J.2.1 d_MA_goOn_9 (by decide) ?_
  refine lv_icmp_ne (tgt := 46) J.1 J.2.1 d_MA_goOn_10 (by decide) (fun c_1 => ?_) (fun c_1 => ?_)
  · replace h := g_f c_1 h
    cases h
    exact jr_v J hS hP hD d_MA_goOn_46
  · replace h := g_t c_1 h
    refine lv_aload_n J.1 J.2.1 d_MA_goOn_13 rfl (lv_at hl 0 rfl) ?_
    refine jg J hJ hP 0 rfl rfl i_MA 10 (by decide) gf_MA_56 rfl d_MA_goOn_14 ?_
    refine lv_if_le (tgt := 46) J.1 J.2.1 d_MA_goOn_17 (by decide) (fun c_2 => ?_) (fun c_2 => ?_)
    · replace h := g_t c_2 h
      cases h
      exact jr_v J hS hP hD d_MA_goOn_46
    · replace h := g_f c_2 h
      refine lv_aload_n J.1 J.2.1 d_MA_goOn_20 rfl (lv_at hl 0 rfl) ?_
      refine lv_dup J.1 J.2.1 d_MA_goOn_21 rfl ?_
      refine jg J hJ hP 0 rfl rfl i_MA 10 (by decide) gf_MA_56 rfl d_MA_goOn_22 ?_
      refine lv_iconst (v := 1) J.1 J.2.1 d_MA_goOn_25 (by decide) ?_
      refine lv_isub J.1 J.2.1 d_MA_goOn_26 ?_
      refine jp J hJ hP hD hS 0 rfl rfl i_MA t_MA t_MA_ok n_MA 10 (by decide) gf_MA_56 rfl rfl rfl (Nat.le_of_ble_eq_true rfl) d_MA_goOn_27 (WS' := [(a0, .inr (0, [.ref a1, .ref a2, .ref a3, .ref k0, .int vsz, .int vmd, .int p1, .int vba, .int vbo, .int vre, .int (vti - 1), .int vro, .int vha]))]) rfl ?_
      clear hP hD hS
      intro H locs hP hD hS
      refine lv_aload_n J.1 J.2.1 d_MA_goOn_30 rfl (lv_at hl 0 rfl) ?_
      refine lv_aload_n J.1 J.2.1 d_MA_goOn_31 rfl (lv_at hl 0 rfl) ?_
      refine jg J hJ hP 0 rfl rfl i_MA 10 (by decide) gf_MA_56 rfl d_MA_goOn_32 ?_
      refine lv_if_ne (tgt := 42) J.1 J.2.1 d_MA_goOn_35 (by decide) (fun c_3 => ?_) (fun c_3 => ?_)
      · replace h := g_f c_3 h
        refine lv_iconst (v := 0) J.1 J.2.1 d_MA_goOn_42 (by decide) ?_
        refine jp J hJ hP hD hS 0 rfl rfl i_MA t_MA t_MA_ok n_MA 11 (by decide) gf_MA_59 rfl rfl rfl (Nat.le_of_ble_eq_true rfl) d_MA_goOn_43 (WS' := [(a0, .inr (0, [.ref a1, .ref a2, .ref a3, .ref k0, .int vsz, .int vmd, .int p1, .int vba, .int vbo, .int vre, .int (vti - 1), .int 0, .int vha]))]) rfl ?_
        clear hP hD hS
        intro H locs hP hD hS
        cases h
        exact jr_v J hS hP hD d_MA_goOn_46
      · replace h := g_t c_3 h
        refine lv_iconst (v := 1) J.1 J.2.1 d_MA_goOn_38 (by decide) ?_
        refine lv_goto (tgt := 43) J.1 J.2.1 d_MA_goOn_39 (by decide) ?_
        refine jp J hJ hP hD hS 0 rfl rfl i_MA t_MA t_MA_ok n_MA 11 (by decide) gf_MA_59 rfl rfl rfl (Nat.le_of_ble_eq_true rfl) d_MA_goOn_43 (WS' := [(a0, .inr (0, [.ref a1, .ref a2, .ref a3, .ref k0, .int vsz, .int vmd, .int p1, .int vba, .int vbo, .int vre, .int (vti - 1), .int 1, .int vha]))]) rfl ?_
        clear hP hD hS
        intro H locs hP hD hS
        cases h
        exact jr_v J hS hP hD d_MA_goOn_46

theorem hd_MA_access : y_MA_access.cls ≠ "java/lang/invoke/MethodHandle" ∧ y_MA_access.cls ≠ "java/lang/invoke/VarHandle" ∧ (parseMethodDescriptor y_MA_access.desc).map (fun d => d.parameters.length) = some 3 := by decide +kernel
def b_MA_access_29 (vmd : Int32) (vpc : Int32) (vba : Int32) (vbo : Int32) (vre : Int32) (vti : Int32) (vro : Int32) (vmem : Nat → Int32) (vreg : Nat → Int32) (x2 : Int32) (x3 : Int32) : Option (Int32 × Int32 × Int32 × Int32 × Int32 × Int32 × Int32 × (Nat → Int32) × (Nat → Int32)) := (if ck (vba + x3) 1844 then (if ck x2 8 then ((f_MA_goOn vmd vti vro (vpc + 2)).bind fun (vpc_3, vti_3, vro_3) => (some (vmd, vpc_3, vba, vbo, vre, vti_3, vro_3, vmem, (upd vreg x2.toNatClampNeg (vmem (vba + x3).toNatClampNeg))))) else none) else none)
def f_MA_access (vsz : Int32) (vmd : Int32) (vpc : Int32) (vba : Int32) (vbo : Int32) (vre : Int32) (vti : Int32) (vro : Int32) (vmem : Nat → Int32) (vreg : Nat → Int32) (p1 : Int32) (p2 : Int32) (p3 : Int32) : Option (Int32 × Int32 × Int32 × Int32 × Int32 × Int32 × Int32 × (Nat → Int32) × (Nat → Int32)) := (if p3 < vre then (if p1 = (2 : Int32) then b_MA_access_29 vmd vpc vba vbo vre vti vro vmem vreg p2 p3 else (if p1 = (4 : Int32) then b_MA_access_29 vmd vpc vba vbo vre vti vro vmem vreg p2 p3 else (if ck p2 8 then (if ck (vba + p3) 1844 then ((f_MA_goOn vmd vti vro (vpc + 2)).bind fun (vpc_9, vti_9, vro_9) => (some (vmd, vpc_9, vba, vbo, vre, vti_9, vro_9, (upd vmem (vba + p3).toNatClampNeg (vreg p2.toNatClampNeg)), vreg))) else none) else none))) else ((f_MA_trap vsz vmd vba vbo vmem 2 p3 vpc).bind fun (vmd_10, vpc_10, vba_10, vbo_10, vre_10, vmem_10) => (some (vmd_10, vpc_10, vba_10, vbo_10, vre_10, vti, vro, vmem_10, vreg))))
set_option maxHeartbeats 4000000 in
set_option maxRecDepth 100000 in
theorem ct_MA_access (l : Launch) (E : jz_E) (a0 a1 a2 a3 k0 : Nat) (sz : Nat) (vsz : Int32) (vmd : Int32) (vpc : Int32) (vba : Int32) (vbo : Int32) (vre : Int32) (vti : Int32) (vro : Int32) (vha : Int32) (vmem : Nat → Int32) (vreg : Nat → Int32) (p1 : Int32) (p2 : Int32) (p3 : Int32) (o_vmd : Int32) (o_vpc : Int32) (o_vba : Int32) (o_vbo : Int32) (o_vre : Int32) (o_vti : Int32) (o_vro : Int32) (o_vmem : Nat → Int32) (o_vreg : Nat → Int32)  (h : f_MA_access vsz vmd vpc vba vbo vre vti vro vmem vreg p1 p2 p3 = some (o_vmd, o_vpc, o_vba, o_vbo, o_vre, o_vti, o_vro, o_vmem, o_vreg)) : CTv l E y_MA_access c_MA_access 4 none ({ frames := 2, cells := 0, slots := 0, locals := 45 }) [.ref a0, .int p1, .int p2, .int p3] [(a0, .inr (0, [.ref a1, .ref a2, .ref a3, .ref k0, .int vsz, .int vmd, .int vpc, .int vba, .int vbo, .int vre, .int vti, .int vro, .int vha])), (a1, .inl (E.2.1 0, 1844, .inl vmem)), (a2, .inl (E.2.1 0, 8, .inl vreg))] sz [(a0, .inr (0, [.ref a1, .ref a2, .ref a3, .ref k0, .int vsz, .int o_vmd, .int o_vpc, .int o_vba, .int o_vbo, .int o_vre, .int o_vti, .int o_vro, .int vha])), (a1, .inl (E.2.1 0, 1844, .inl o_vmem)), (a2, .inl (E.2.1 0, 8, .inl o_vreg))] := by
  refine jw (by decide +kernel) (Nat.le_of_ble_eq_true rfl) ?_
  intro p e s m below meth c A ls J hJ hAe hsz hA hZ hP hD hl
  rw [← hAe]
  have hS : va_S A s.heap s.heap [] := va_S.rf
  have hl : lv_has ls 4 [(0, .ref a0), (1, .int p1), (2, .int p2), (3, .int p3)] := hl
  have K_29 : ∀ (vsz : Int32) (vmd : Int32) (vpc : Int32) (vba : Int32) (vbo : Int32) (vre : Int32) (vti : Int32) (vro : Int32) (vha : Int32) (vmem : Nat → Int32) (vreg : Nat → Int32) (x2 : Int32) (x3 : Int32) (H : Heap) (locs : List Loc) (ls : Array Slot), b_MA_access_29 vmd vpc vba vbo vre vti vro vmem vreg x2 x3 = some (o_vmd, o_vpc, o_vba, o_vbo, o_vre, o_vti, o_vro, o_vmem, o_vreg) → va_P E.1 classes [(a0, .inr (0, [.ref a1, .ref a2, .ref a3, .ref k0, .int vsz, .int vmd, .int vpc, .int vba, .int vbo, .int vre, .int vti, .int vro, .int vha])), (a1, .inl (E.2.1 0, 1844, .inl vmem)), (a2, .inl (E.2.1 0, 8, .inl vreg))] H → va_D A [(a0, .inr (0, [.ref a1, .ref a2, .ref a3, .ref k0, .int vsz, .int vmd, .int vpc, .int vba, .int vbo, .int vre, .int vti, .int vro, .int vha])), (a1, .inl (E.2.1 0, 1844, .inl vmem)), (a2, .inl (E.2.1 0, 8, .inl vreg))] → va_S A s.heap H locs → lv_has ls 4 [(0, .ref a0), (2, .int x2), (3, .int x3)] → W p l e ({ frames := 2, cells := 0, slots := 0, locals := 45 }) s m ([.ref a0, .int p1, .int p2, .int p3] : List Value).toArray below meth c H locs 0 0 (MQ below (va_Qv (fun (u : va_W) => u = [(a0, .inr (0, [.ref a1, .ref a2, .ref a3, .ref k0, .int vsz, .int o_vmd, .int o_vpc, .int o_vba, .int o_vbo, .int o_vre, .int o_vti, .int o_vro, .int vha])), (a1, .inl (E.2.1 0, 1844, .inl o_vmem)), (a2, .inl (E.2.1 0, 8, .inl o_vreg))]) (BW E A) A) ([.ref a0, .int p1, .int p2, .int p3] : List Value).toArray s 0 0 A) (F0 m 29 ls []) := by
    intro vsz vmd vpc vba vbo vre vti vro vha vmem vreg x2 x3 H locs ls h hP hD hS hl
    rw [b_MA_access_29] at h
    refine lv_aload_n J.1 J.2.1 d_MA_access_29 rfl (lv_at hl 0 rfl) ?_
    refine jg J hJ hP 0 rfl rfl i_MA 1 (by decide) gf_MA_15 rfl d_MA_access_30 ?_
    refine lv_iload_n J.1 J.2.1 d_MA_access_33 rfl (lv_at hl 1 rfl) ?_
    refine lv_aload_n J.1 J.2.1 d_MA_access_34 rfl (lv_at hl 0 rfl) ?_
    refine jg J hJ hP 0 rfl rfl i_MA 0 (by decide) gf_MA_9 rfl d_MA_access_35 ?_
    refine lv_aload_n J.1 J.2.1 d_MA_access_38 rfl (lv_at hl 0 rfl) ?_
    refine jg J hJ hP 0 rfl rfl i_MA 7 (by decide) gf_MA_47 rfl d_MA_access_39 ?_
    refine lv_iload_n J.1 J.2.1 d_MA_access_42 rfl (lv_at hl 2 rfl) ?_
    refine lv_iadd J.1 J.2.1 d_MA_access_43 ?_
    replace h := g_ck h
    obtain ⟨k_1, h⟩ := h
    refine jai J hJ hP 1 rfl k_1 d_MA_access_44 ?_
    replace h := g_ck h
    obtain ⟨k_2, h⟩ := h
    refine jsi J hJ hP hD hS 2 rfl k_2 d_MA_access_45 (WS' := [(a0, .inr (0, [.ref a1, .ref a2, .ref a3, .ref k0, .int vsz, .int vmd, .int vpc, .int vba, .int vbo, .int vre, .int vti, .int vro, .int vha])), (a1, .inl (E.2.1 0, 1844, .inl vmem)), (a2, .inl (E.2.1 0, 8, .inl (upd vreg x2.toNatClampNeg (vmem (vba + x3).toNatClampNeg))))]) rfl ?_
    clear hP hD hS
    intro H locs hP hD hS
    refine lv_goto (tgt := 66) J.1 J.2.1 d_MA_access_46 (by decide) ?_
    refine lv_aload_n J.1 J.2.1 d_MA_access_66 rfl (lv_at hl 0 rfl) ?_
    refine lv_aload_n J.1 J.2.1 d_MA_access_67 rfl (lv_at hl 0 rfl) ?_
    refine jg J hJ hP 0 rfl rfl i_MA 6 (by decide) gf_MA_44 rfl d_MA_access_68 ?_
    refine lv_iconst (v := 2) J.1 J.2.1 d_MA_access_71 (by decide) ?_
    refine lv_iadd J.1 J.2.1 d_MA_access_72 ?_
    replace h := g_bd h
    obtain ⟨⟨vpc_3, vti_3, vro_3⟩, q_3, h⟩ := h
    try dsimp only at h
    refine jk_v (jrunV (As := [.int (vpc + 2)]) (rest := []) J hJ hA hZ hP hD hS (ct_MA_goOn l E a0 a1 a2 a3 k0 _ vsz vmd vpc vba vbo vre vti vro vha (vpc + 2) vpc_3 vti_3 vro_3 q_3) [0] rfl (by decide) gl_MA_81 gi_MA_goOn gsel_MA_goOn gini_MA gc_MA_goOn hd_MA_goOn ⟨rfl, rfl, Nat.le_of_ble_eq_true rfl, Nat.le_of_ble_eq_true rfl⟩ rfl rfl hl.1 rfl rfl (Nat.le_of_ble_eq_true rfl) d_MA_access_73 ⟨Nat.zero_le _, Nat.zero_le _⟩) hA hP hD hS [0] [1, 2] (WR := [(a1, .inl (E.2.1 0, 1844, .inl vmem)), (a2, .inl (E.2.1 0, 8, .inl (upd vreg x2.toNatClampNeg (vmem (vba + x3).toNatClampNeg))))]) rfl rfl (by decide) (by decide) [2, 0, 1] (WF := [(a0, .inr (0, [.ref a1, .ref a2, .ref a3, .ref k0, .int vsz, .int vmd, .int vpc_3, .int vba, .int vbo, .int vre, .int vti_3, .int vro_3, .int vha])), (a1, .inl (E.2.1 0, 1844, .inl vmem)), (a2, .inl (E.2.1 0, 8, .inl (upd vreg x2.toNatClampNeg (vmem (vba + x3).toNatClampNeg))))]) rfl (by decide) ?_
    clear hP hD hS
    intro H locs hP hD hS
    cases h
    exact jr_v J hS hP hD d_MA_access_76
  unfold f_MA_access at h
  refine lv_iload_n J.1 J.2.1 d_MA_access_0 rfl (lv_at hl 3 rfl) ?_
  refine lv_aload_n J.1 J.2.1 d_MA_access_1 rfl (lv_at hl 0 rfl) ?_
  refine jg J hJ hP 0 rfl rfl i_MA 9 (by decide) gf_MA_53 rfl d_MA_access_2 ?_
  refine lv_icmp_lt (tgt := 19) J.1 J.2.1 d_MA_access_5 (by decide) (fun c_4 => ?_) (fun c_4 => ?_)
  · replace h := g_t c_4 h
    refine lv_iload_n J.1 J.2.1 d_MA_access_19 rfl (lv_at hl 1 rfl) ?_
    refine lv_iconst (v := 2) J.1 J.2.1 d_MA_access_20 (by decide) ?_
    refine lv_icmp_eq (tgt := 29) J.1 J.2.1 d_MA_access_21 (by decide) (fun c_5 => ?_) (fun c_5 => ?_)
    · replace h := g_t c_5 h
      exact K_29 _ _ _ _ _ _ _ _ _ _ _ _ _ _ _ _ h hP hD hS (lv_sub hl [0, 2, 3] rfl)
    · replace h := g_f c_5 h
      refine lv_iload_n J.1 J.2.1 d_MA_access_24 rfl (lv_at hl 1 rfl) ?_
      refine lv_iconst (v := 4) J.1 J.2.1 d_MA_access_25 (by decide) ?_
      refine lv_icmp_ne (tgt := 49) J.1 J.2.1 d_MA_access_26 (by decide) (fun c_6 => ?_) (fun c_6 => ?_)
      · replace h := g_f c_6 h
        refine lv_aload_n J.1 J.2.1 d_MA_access_49 rfl (lv_at hl 0 rfl) ?_
        refine jg J hJ hP 0 rfl rfl i_MA 0 (by decide) gf_MA_9 rfl d_MA_access_50 ?_
        refine lv_aload_n J.1 J.2.1 d_MA_access_53 rfl (lv_at hl 0 rfl) ?_
        refine jg J hJ hP 0 rfl rfl i_MA 7 (by decide) gf_MA_47 rfl d_MA_access_54 ?_
        refine lv_iload_n J.1 J.2.1 d_MA_access_57 rfl (lv_at hl 3 rfl) ?_
        refine lv_iadd J.1 J.2.1 d_MA_access_58 ?_
        refine lv_aload_n J.1 J.2.1 d_MA_access_59 rfl (lv_at hl 0 rfl) ?_
        refine jg J hJ hP 0 rfl rfl i_MA 1 (by decide) gf_MA_15 rfl d_MA_access_60 ?_
        refine lv_iload_n J.1 J.2.1 d_MA_access_63 rfl (lv_at hl 2 rfl) ?_
        replace h := g_ck h
        obtain ⟨k_7, h⟩ := h
        refine jai J hJ hP 2 rfl k_7 d_MA_access_64 ?_
        replace h := g_ck h
        obtain ⟨k_8, h⟩ := h
        refine jsi J hJ hP hD hS 1 rfl k_8 d_MA_access_65 (WS' := [(a0, .inr (0, [.ref a1, .ref a2, .ref a3, .ref k0, .int vsz, .int vmd, .int vpc, .int vba, .int vbo, .int vre, .int vti, .int vro, .int vha])), (a1, .inl (E.2.1 0, 1844, .inl (upd vmem (vba + p3).toNatClampNeg (vreg p2.toNatClampNeg)))), (a2, .inl (E.2.1 0, 8, .inl vreg))]) rfl ?_
        clear hP hD hS
        intro H locs hP hD hS
        refine lv_aload_n J.1 J.2.1 d_MA_access_66 rfl (lv_at hl 0 rfl) ?_
        refine lv_aload_n J.1 J.2.1 d_MA_access_67 rfl (lv_at hl 0 rfl) ?_
        refine jg J hJ hP 0 rfl rfl i_MA 6 (by decide) gf_MA_44 rfl d_MA_access_68 ?_
        refine lv_iconst (v := 2) J.1 J.2.1 d_MA_access_71 (by decide) ?_
        refine lv_iadd J.1 J.2.1 d_MA_access_72 ?_
        replace h := g_bd h
        obtain ⟨⟨vpc_9, vti_9, vro_9⟩, q_9, h⟩ := h
        try dsimp only at h
        refine jk_v (jrunV (As := [.int (vpc + 2)]) (rest := []) J hJ hA hZ hP hD hS (ct_MA_goOn l E a0 a1 a2 a3 k0 _ vsz vmd vpc vba vbo vre vti vro vha (vpc + 2) vpc_9 vti_9 vro_9 q_9) [0] rfl (by decide) gl_MA_81 gi_MA_goOn gsel_MA_goOn gini_MA gc_MA_goOn hd_MA_goOn ⟨rfl, rfl, Nat.le_of_ble_eq_true rfl, Nat.le_of_ble_eq_true rfl⟩ rfl rfl hl.1 rfl rfl (Nat.le_of_ble_eq_true rfl) d_MA_access_73 ⟨Nat.zero_le _, Nat.zero_le _⟩) hA hP hD hS [0] [1, 2] (WR := [(a1, .inl (E.2.1 0, 1844, .inl (upd vmem (vba + p3).toNatClampNeg (vreg p2.toNatClampNeg)))), (a2, .inl (E.2.1 0, 8, .inl vreg))]) rfl rfl (by decide) (by decide) [2, 0, 1] (WF := [(a0, .inr (0, [.ref a1, .ref a2, .ref a3, .ref k0, .int vsz, .int vmd, .int vpc_9, .int vba, .int vbo, .int vre, .int vti_9, .int vro_9, .int vha])), (a1, .inl (E.2.1 0, 1844, .inl (upd vmem (vba + p3).toNatClampNeg (vreg p2.toNatClampNeg)))), (a2, .inl (E.2.1 0, 8, .inl vreg))]) rfl (by decide) ?_
        clear hP hD hS
        intro H locs hP hD hS
        cases h
        exact jr_v J hS hP hD d_MA_access_76
      · replace h := g_t c_6 h
        exact K_29 _ _ _ _ _ _ _ _ _ _ _ _ _ _ _ _ h hP hD hS (lv_sub hl [0, 2, 3] rfl)
  · replace h := g_f c_4 h
    refine lv_aload_n J.1 J.2.1 d_MA_access_8 rfl (lv_at hl 0 rfl) ?_
    refine lv_iconst (v := 2) J.1 J.2.1 d_MA_access_9 (by decide) ?_
    refine lv_iload_n J.1 J.2.1 d_MA_access_10 rfl (lv_at hl 3 rfl) ?_
    refine lv_aload_n J.1 J.2.1 d_MA_access_11 rfl (lv_at hl 0 rfl) ?_
    refine jg J hJ hP 0 rfl rfl i_MA 6 (by decide) gf_MA_44 rfl d_MA_access_12 ?_
    replace h := g_bd h
    obtain ⟨⟨vmd_10, vpc_10, vba_10, vbo_10, vre_10, vmem_10⟩, q_10, h⟩ := h
    try dsimp only at h
    refine jk_v (jrunV (As := [.int 2, .int p3, .int vpc]) (rest := []) J hJ hA hZ hP hD hS (ct_MA_trap l E a0 a1 a2 a3 k0 _ vsz vmd vpc vba vbo vre vti vro vha vmem 2 p3 vpc vmd_10 vpc_10 vba_10 vbo_10 vre_10 vmem_10 q_10) [0, 1] rfl (by decide) gl_MA_66 gi_MA_trap gsel_MA_trap gini_MA gc_MA_trap hd_MA_trap ⟨rfl, rfl, Nat.le_of_ble_eq_true rfl, Nat.le_of_ble_eq_true rfl⟩ rfl rfl hl.1 rfl rfl (Nat.le_of_ble_eq_true rfl) d_MA_access_15 ⟨Nat.zero_le _, Nat.zero_le _⟩) hA hP hD hS [0, 1] [2] (WR := [(a2, .inl (E.2.1 0, 8, .inl vreg))]) rfl rfl (by decide) (by decide) [1, 2, 0] (WF := [(a0, .inr (0, [.ref a1, .ref a2, .ref a3, .ref k0, .int vsz, .int vmd_10, .int vpc_10, .int vba_10, .int vbo_10, .int vre_10, .int vti, .int vro, .int vha])), (a1, .inl (E.2.1 0, 1844, .inl vmem_10)), (a2, .inl (E.2.1 0, 8, .inl vreg))]) rfl (by decide) ?_
    clear hP hD hS
    intro H locs hP hD hS
    cases h
    exact jr_v J hS hP hD d_MA_access_18
end
section
theorem hd_MA_compute : y_MA_compute.cls ≠ "java/lang/invoke/MethodHandle" ∧ y_MA_compute.cls ≠ "java/lang/invoke/VarHandle" ∧ (parseMethodDescriptor y_MA_compute.desc).map (fun d => d.parameters.length) = some 4 := by decide +kernel
def f_MA_compute (vmd : Int32) (vpc : Int32) (vti : Int32) (vro : Int32) (vreg : Nat → Int32) (p1 : Int32) (p2 : Int32) (p3 : Int32) (p4 : Int32) : Option (Int32 × Int32 × Int32 × (Nat → Int32)) := (if (p1) = 1 then (if ck p2 8 then ((f_MA_goOn vmd vti vro (vpc + 2)).bind fun (vpc_3, vti_3, vro_3) => (some (vpc_3, vti_3, vro_3, (upd vreg p2.toNatClampNeg p4)))) else none) else (if (p1) = 6 then (if ck p3 8 then (if ck p2 8 then ((f_MA_goOn vmd vti vro (vpc + 2)).bind fun (vpc_7, vti_7, vro_7) => (some (vpc_7, vti_7, vro_7, (upd vreg p2.toNatClampNeg (vreg p3.toNatClampNeg))))) else none) else none) else (if (p1) = 7 then (if ck p2 8 then (if ck p3 8 then (if ck p2 8 then ((f_MA_goOn vmd vti vro (vpc + 2)).bind fun (vpc_12, vti_12, vro_12) => (some (vpc_12, vti_12, vro_12, (upd vreg p2.toNatClampNeg (((vreg p2.toNatClampNeg) + (vreg p3.toNatClampNeg)) &&& 65535))))) else none) else none) else none) else (if (p1) = 8 then (if ck p2 8 then (if ck p3 8 then (if ck p2 8 then ((f_MA_goOn vmd vti vro (vpc + 2)).bind fun (vpc_17, vti_17, vro_17) => (some (vpc_17, vti_17, vro_17, (upd vreg p2.toNatClampNeg (((vreg p2.toNatClampNeg) - (vreg p3.toNatClampNeg)) &&& 65535))))) else none) else none) else none) else (if (p1) = 9 then (if ck p2 8 then (if ck p3 8 then (if ck p2 8 then ((f_MA_goOn vmd vti vro (vpc + 2)).bind fun (vpc_22, vti_22, vro_22) => (some (vpc_22, vti_22, vro_22, (upd vreg p2.toNatClampNeg ((vreg p2.toNatClampNeg) &&& (vreg p3.toNatClampNeg)))))) else none) else none) else none) else (if (p1) = 10 then (if ck p2 8 then (if ck p3 8 then (if (vreg p3.toNatClampNeg) ≤ (vreg p2.toNatClampNeg) then (if ck p2 8 then ((f_MA_goOn vmd vti vro (vpc + 2)).bind fun (vpc_28, vti_28, vro_28) => (some (vpc_28, vti_28, vro_28, (upd vreg p2.toNatClampNeg 0)))) else none) else (if ck p2 8 then ((f_MA_goOn vmd vti vro (vpc + 2)).bind fun (vpc_30, vti_30, vro_30) => (some (vpc_30, vti_30, vro_30, (upd vreg p2.toNatClampNeg 1)))) else none)) else none) else none) else (if (p1) = 11 then (if ck p2 8 then ((f_MA_shifted  (vreg p2.toNatClampNeg) p4).bind fun r_33 => (if ck p2 8 then ((f_MA_goOn vmd vti vro (vpc + 2)).bind fun (vpc_35, vti_35, vro_35) => (some (vpc_35, vti_35, vro_35, (upd vreg p2.toNatClampNeg r_33)))) else none)) else none) else (if (p1) = 12 then ((f_MA_goOn vmd vti vro p4).bind fun (vpc_37, vti_37, vro_37) => (some (vpc_37, vti_37, vro_37, vreg))) else (if (p1) = 13 then (if ck p2 8 then (if (vreg p2.toNatClampNeg) = (0 : Int32) then ((f_MA_goOn vmd vti vro p4).bind fun (vpc_42, vti_42, vro_42) => (some (vpc_42, vti_42, vro_42, vreg))) else ((f_MA_goOn vmd vti vro (vpc + 2)).bind fun (vpc_41, vti_41, vro_41) => (some (vpc_41, vti_41, vro_41, vreg)))) else none) else (if (p1) = 14 then (if ck p2 8 then ((f_MA_goOn vmd vti vro (vreg p2.toNatClampNeg)).bind fun (vpc_45, vti_45, vro_45) => (some (vpc_45, vti_45, vro_45, vreg))) else none) else (if (p1) = 15 then (if ck p2 8 then ((f_MA_goOn vmd vti vro p4).bind fun (vpc_48, vti_48, vro_48) => (some (vpc_48, vti_48, vro_48, (upd vreg p2.toNatClampNeg (vpc + 2))))) else none) else ((f_MA_goOn vmd vti vro (vpc + 2)).bind fun (vpc_49, vti_49, vro_49) => (some (vpc_49, vti_49, vro_49, vreg))))))))))))))
set_option maxHeartbeats 4000000 in
set_option maxRecDepth 100000 in
theorem ct_MA_compute (l : Launch) (E : jz_E) (a0 a1 a2 a3 k0 : Nat) (sz : Nat) (vsz : Int32) (vmd : Int32) (vpc : Int32) (vba : Int32) (vbo : Int32) (vre : Int32) (vti : Int32) (vro : Int32) (vha : Int32) (vreg : Nat → Int32) (p1 : Int32) (p2 : Int32) (p3 : Int32) (p4 : Int32) (o_vpc : Int32) (o_vti : Int32) (o_vro : Int32) (o_vreg : Nat → Int32)  (h : f_MA_compute vmd vpc vti vro vreg p1 p2 p3 p4 = some (o_vpc, o_vti, o_vro, o_vreg)) : CTv l E y_MA_compute c_MA_compute 6 none ({ frames := 1, cells := 0, slots := 0, locals := 22 }) [.ref a0, .int p1, .int p2, .int p3, .int p4] [(a0, .inr (0, [.ref a1, .ref a2, .ref a3, .ref k0, .int vsz, .int vmd, .int vpc, .int vba, .int vbo, .int vre, .int vti, .int vro, .int vha])), (a2, .inl (E.2.1 0, 8, .inl vreg))] sz [(a0, .inr (0, [.ref a1, .ref a2, .ref a3, .ref k0, .int vsz, .int vmd, .int o_vpc, .int vba, .int vbo, .int vre, .int o_vti, .int o_vro, .int vha])), (a2, .inl (E.2.1 0, 8, .inl o_vreg))] := by
  refine jw (by decide +kernel) (Nat.le_of_ble_eq_true rfl) ?_
  intro p e s m below meth c A ls J hJ hAe hsz hA hZ hP hD hl
  rw [← hAe]
  have hS : va_S A s.heap s.heap [] := va_S.rf
  have hl : lv_has ls 6 [(0, .ref a0), (1, .int p1), (2, .int p2), (3, .int p3), (4, .int p4)] := hl
  unfold f_MA_compute at h
  refine lv_aload_n J.1 J.2.1 d_MA_compute_0 rfl (lv_at hl 0 rfl) ?_
  refine jg J hJ hP 0 rfl rfl i_MA 6 (by decide) gf_MA_44 rfl d_MA_compute_1 ?_
  refine lv_iconst (v := 2) J.1 J.2.1 d_MA_compute_4 (by decide) ?_
  refine lv_iadd J.1 J.2.1 d_MA_compute_5 ?_
  refine lv_istore (lv' := [(5, .int (vpc + 2)), (0, .ref a0), (1, .int p1), (2, .int p2), (3, .int p3), (4, .int p4)]) J.1 J.2.1 d_MA_compute_6 hl (by decide) rfl ?_
  clear hl
  intro ls hl
  refine lv_iload_n J.1 J.2.1 d_MA_compute_8 rfl (lv_at hl 2 rfl) ?_
  by_cases c_1 : (p1) = 1
  · replace h := g_t c_1 h
    refine lv_tableIn (off := 75) (tgt := 84) J.1 J.2.1 d_MA_compute_9 (by rw [c_1]; decide) (by rw [c_1]; decide) (by rw [c_1]; rfl) (by decide) ?_
    refine lv_aload_n J.1 J.2.1 d_MA_compute_84 rfl (lv_at hl 1 rfl) ?_
    refine jg J hJ hP 0 rfl rfl i_MA 1 (by decide) gf_MA_15 rfl d_MA_compute_85 ?_
    refine lv_iload_n J.1 J.2.1 d_MA_compute_88 rfl (lv_at hl 3 rfl) ?_
    refine lv_iload J.1 J.2.1 d_MA_compute_89 (lv_at hl 5 rfl) ?_
    replace h := g_ck h
    obtain ⟨k_2, h⟩ := h
    refine jsi J hJ hP hD hS 1 rfl k_2 d_MA_compute_91 (WS' := [(a0, .inr (0, [.ref a1, .ref a2, .ref a3, .ref k0, .int vsz, .int vmd, .int vpc, .int vba, .int vbo, .int vre, .int vti, .int vro, .int vha])), (a2, .inl (E.2.1 0, 8, .inl (upd vreg p2.toNatClampNeg p4)))]) rfl ?_
    clear hP hD hS
    intro H locs hP hD hS
    refine lv_goto (tgt := 285) J.1 J.2.1 d_MA_compute_92 (by decide) ?_
    refine lv_aload_n J.1 J.2.1 d_MA_compute_285 rfl (lv_at hl 1 rfl) ?_
    refine lv_iload J.1 J.2.1 d_MA_compute_286 (lv_at hl 0 rfl) ?_
    replace h := g_bd h
    obtain ⟨⟨vpc_3, vti_3, vro_3⟩, q_3, h⟩ := h
    try dsimp only at h
    refine jk_v (jrunV (As := [.int (vpc + 2)]) (rest := []) J hJ hA hZ hP hD hS (ct_MA_goOn l E a0 a1 a2 a3 k0 _ vsz vmd vpc vba vbo vre vti vro vha (vpc + 2) vpc_3 vti_3 vro_3 q_3) [0] rfl (by decide) gl_MA_81 gi_MA_goOn gsel_MA_goOn gini_MA gc_MA_goOn hd_MA_goOn ⟨rfl, rfl, Nat.le_of_ble_eq_true rfl, Nat.le_of_ble_eq_true rfl⟩ rfl rfl hl.1 rfl rfl (Nat.le_of_ble_eq_true rfl) d_MA_compute_288 ⟨Nat.zero_le _, Nat.zero_le _⟩) hA hP hD hS [0] [1] (WR := [(a2, .inl (E.2.1 0, 8, .inl (upd vreg p2.toNatClampNeg p4)))]) rfl rfl (by decide) (by decide) [1, 0] (WF := [(a0, .inr (0, [.ref a1, .ref a2, .ref a3, .ref k0, .int vsz, .int vmd, .int vpc_3, .int vba, .int vbo, .int vre, .int vti_3, .int vro_3, .int vha])), (a2, .inl (E.2.1 0, 8, .inl (upd vreg p2.toNatClampNeg p4)))]) rfl (by decide) ?_
    clear hP hD hS
    intro H locs hP hD hS
    cases h
    exact jr_v J hS hP hD d_MA_compute_291
  replace h := g_f c_1 h
  by_cases c_4 : (p1) = 6
  · replace h := g_t c_4 h
    refine lv_tableIn (off := 86) (tgt := 95) J.1 J.2.1 d_MA_compute_9 (by rw [c_4]; decide) (by rw [c_4]; decide) (by rw [c_4]; rfl) (by decide) ?_
    refine lv_aload_n J.1 J.2.1 d_MA_compute_95 rfl (lv_at hl 1 rfl) ?_
    refine jg J hJ hP 0 rfl rfl i_MA 1 (by decide) gf_MA_15 rfl d_MA_compute_96 ?_
    refine lv_iload_n J.1 J.2.1 d_MA_compute_99 rfl (lv_at hl 3 rfl) ?_
    refine lv_aload_n J.1 J.2.1 d_MA_compute_100 rfl (lv_at hl 1 rfl) ?_
    refine jg J hJ hP 0 rfl rfl i_MA 1 (by decide) gf_MA_15 rfl d_MA_compute_101 ?_
    refine lv_iload_n J.1 J.2.1 d_MA_compute_104 rfl (lv_at hl 4 rfl) ?_
    replace h := g_ck h
    obtain ⟨k_5, h⟩ := h
    refine jai J hJ hP 1 rfl k_5 d_MA_compute_105 ?_
    replace h := g_ck h
    obtain ⟨k_6, h⟩ := h
    refine jsi J hJ hP hD hS 1 rfl k_6 d_MA_compute_106 (WS' := [(a0, .inr (0, [.ref a1, .ref a2, .ref a3, .ref k0, .int vsz, .int vmd, .int vpc, .int vba, .int vbo, .int vre, .int vti, .int vro, .int vha])), (a2, .inl (E.2.1 0, 8, .inl (upd vreg p2.toNatClampNeg (vreg p3.toNatClampNeg))))]) rfl ?_
    clear hP hD hS
    intro H locs hP hD hS
    refine lv_goto (tgt := 285) J.1 J.2.1 d_MA_compute_107 (by decide) ?_
    refine lv_aload_n J.1 J.2.1 d_MA_compute_285 rfl (lv_at hl 1 rfl) ?_
    refine lv_iload J.1 J.2.1 d_MA_compute_286 (lv_at hl 0 rfl) ?_
    replace h := g_bd h
    obtain ⟨⟨vpc_7, vti_7, vro_7⟩, q_7, h⟩ := h
    try dsimp only at h
    refine jk_v (jrunV (As := [.int (vpc + 2)]) (rest := []) J hJ hA hZ hP hD hS (ct_MA_goOn l E a0 a1 a2 a3 k0 _ vsz vmd vpc vba vbo vre vti vro vha (vpc + 2) vpc_7 vti_7 vro_7 q_7) [0] rfl (by decide) gl_MA_81 gi_MA_goOn gsel_MA_goOn gini_MA gc_MA_goOn hd_MA_goOn ⟨rfl, rfl, Nat.le_of_ble_eq_true rfl, Nat.le_of_ble_eq_true rfl⟩ rfl rfl hl.1 rfl rfl (Nat.le_of_ble_eq_true rfl) d_MA_compute_288 ⟨Nat.zero_le _, Nat.zero_le _⟩) hA hP hD hS [0] [1] (WR := [(a2, .inl (E.2.1 0, 8, .inl (upd vreg p2.toNatClampNeg (vreg p3.toNatClampNeg))))]) rfl rfl (by decide) (by decide) [1, 0] (WF := [(a0, .inr (0, [.ref a1, .ref a2, .ref a3, .ref k0, .int vsz, .int vmd, .int vpc_7, .int vba, .int vbo, .int vre, .int vti_7, .int vro_7, .int vha])), (a2, .inl (E.2.1 0, 8, .inl (upd vreg p2.toNatClampNeg (vreg p3.toNatClampNeg))))]) rfl (by decide) ?_
    clear hP hD hS
    intro H locs hP hD hS
    cases h
    exact jr_v J hS hP hD d_MA_compute_291
  replace h := g_f c_4 h
  by_cases c_8 : (p1) = 7
  · replace h := g_t c_8 h
    refine lv_tableIn (off := 101) (tgt := 110) J.1 J.2.1 d_MA_compute_9 (by rw [c_8]; decide) (by rw [c_8]; decide) (by rw [c_8]; rfl) (by decide) ?_
    refine lv_aload_n J.1 J.2.1 d_MA_compute_110 rfl (lv_at hl 1 rfl) ?_
    refine jg J hJ hP 0 rfl rfl i_MA 1 (by decide) gf_MA_15 rfl d_MA_compute_111 ?_
    refine lv_iload_n J.1 J.2.1 d_MA_compute_114 rfl (lv_at hl 3 rfl) ?_
    refine lv_aload_n J.1 J.2.1 d_MA_compute_115 rfl (lv_at hl 1 rfl) ?_
    refine jg J hJ hP 0 rfl rfl i_MA 1 (by decide) gf_MA_15 rfl d_MA_compute_116 ?_
    refine lv_iload_n J.1 J.2.1 d_MA_compute_119 rfl (lv_at hl 3 rfl) ?_
    replace h := g_ck h
    obtain ⟨k_9, h⟩ := h
    refine jai J hJ hP 1 rfl k_9 d_MA_compute_120 ?_
    refine lv_aload_n J.1 J.2.1 d_MA_compute_121 rfl (lv_at hl 1 rfl) ?_
    refine jg J hJ hP 0 rfl rfl i_MA 1 (by decide) gf_MA_15 rfl d_MA_compute_122 ?_
    refine lv_iload_n J.1 J.2.1 d_MA_compute_125 rfl (lv_at hl 4 rfl) ?_
    replace h := g_ck h
    obtain ⟨k_10, h⟩ := h
    refine jai J hJ hP 1 rfl k_10 d_MA_compute_126 ?_
    refine lv_iadd J.1 J.2.1 d_MA_compute_127 ?_
    refine lv_ldc (v := 65535) J.1 J.2.1 J.2.2.2.2.1 (J.2.2.2.2.2.1 _ gk_MA_70) d_MA_compute_128 ?_
    refine lv_iand J.1 J.2.1 d_MA_compute_130 ?_
    replace h := g_ck h
    obtain ⟨k_11, h⟩ := h
    refine jsi J hJ hP hD hS 1 rfl k_11 d_MA_compute_131 (WS' := [(a0, .inr (0, [.ref a1, .ref a2, .ref a3, .ref k0, .int vsz, .int vmd, .int vpc, .int vba, .int vbo, .int vre, .int vti, .int vro, .int vha])), (a2, .inl (E.2.1 0, 8, .inl (upd vreg p2.toNatClampNeg (((vreg p2.toNatClampNeg) + (vreg p3.toNatClampNeg)) &&& 65535))))]) rfl ?_
    clear hP hD hS
    intro H locs hP hD hS
    refine lv_goto (tgt := 285) J.1 J.2.1 d_MA_compute_132 (by decide) ?_
    refine lv_aload_n J.1 J.2.1 d_MA_compute_285 rfl (lv_at hl 1 rfl) ?_
    refine lv_iload J.1 J.2.1 d_MA_compute_286 (lv_at hl 0 rfl) ?_
    replace h := g_bd h
    obtain ⟨⟨vpc_12, vti_12, vro_12⟩, q_12, h⟩ := h
    try dsimp only at h
    refine jk_v (jrunV (As := [.int (vpc + 2)]) (rest := []) J hJ hA hZ hP hD hS (ct_MA_goOn l E a0 a1 a2 a3 k0 _ vsz vmd vpc vba vbo vre vti vro vha (vpc + 2) vpc_12 vti_12 vro_12 q_12) [0] rfl (by decide) gl_MA_81 gi_MA_goOn gsel_MA_goOn gini_MA gc_MA_goOn hd_MA_goOn ⟨rfl, rfl, Nat.le_of_ble_eq_true rfl, Nat.le_of_ble_eq_true rfl⟩ rfl rfl hl.1 rfl rfl (Nat.le_of_ble_eq_true rfl) d_MA_compute_288 ⟨Nat.zero_le _, Nat.zero_le _⟩) hA hP hD hS [0] [1] (WR := [(a2, .inl (E.2.1 0, 8, .inl (upd vreg p2.toNatClampNeg (((vreg p2.toNatClampNeg) + (vreg p3.toNatClampNeg)) &&& 65535))))]) rfl rfl (by decide) (by decide) [1, 0] (WF := [(a0, .inr (0, [.ref a1, .ref a2, .ref a3, .ref k0, .int vsz, .int vmd, .int vpc_12, .int vba, .int vbo, .int vre, .int vti_12, .int vro_12, .int vha])), (a2, .inl (E.2.1 0, 8, .inl (upd vreg p2.toNatClampNeg (((vreg p2.toNatClampNeg) + (vreg p3.toNatClampNeg)) &&& 65535))))]) rfl (by decide) ?_
    clear hP hD hS
    intro H locs hP hD hS
    cases h
    exact jr_v J hS hP hD d_MA_compute_291
  replace h := g_f c_8 h
  by_cases c_13 : (p1) = 8
  · replace h := g_t c_13 h
    refine lv_tableIn (off := 126) (tgt := 135) J.1 J.2.1 d_MA_compute_9 (by rw [c_13]; decide) (by rw [c_13]; decide) (by rw [c_13]; rfl) (by decide) ?_
    refine lv_aload_n J.1 J.2.1 d_MA_compute_135 rfl (lv_at hl 1 rfl) ?_
    refine jg J hJ hP 0 rfl rfl i_MA 1 (by decide) gf_MA_15 rfl d_MA_compute_136 ?_
    refine lv_iload_n J.1 J.2.1 d_MA_compute_139 rfl (lv_at hl 3 rfl) ?_
    refine lv_aload_n J.1 J.2.1 d_MA_compute_140 rfl (lv_at hl 1 rfl) ?_
    refine jg J hJ hP 0 rfl rfl i_MA 1 (by decide) gf_MA_15 rfl d_MA_compute_141 ?_
    refine lv_iload_n J.1 J.2.1 d_MA_compute_144 rfl (lv_at hl 3 rfl) ?_
    replace h := g_ck h
    obtain ⟨k_14, h⟩ := h
    refine jai J hJ hP 1 rfl k_14 d_MA_compute_145 ?_
    refine lv_aload_n J.1 J.2.1 d_MA_compute_146 rfl (lv_at hl 1 rfl) ?_
    refine jg J hJ hP 0 rfl rfl i_MA 1 (by decide) gf_MA_15 rfl d_MA_compute_147 ?_
    refine lv_iload_n J.1 J.2.1 d_MA_compute_150 rfl (lv_at hl 4 rfl) ?_
    replace h := g_ck h
    obtain ⟨k_15, h⟩ := h
    refine jai J hJ hP 1 rfl k_15 d_MA_compute_151 ?_
    refine lv_isub J.1 J.2.1 d_MA_compute_152 ?_
    refine lv_ldc (v := 65535) J.1 J.2.1 J.2.2.2.2.1 (J.2.2.2.2.2.1 _ gk_MA_70) d_MA_compute_153 ?_
    refine lv_iand J.1 J.2.1 d_MA_compute_155 ?_
    replace h := g_ck h
    obtain ⟨k_16, h⟩ := h
    refine jsi J hJ hP hD hS 1 rfl k_16 d_MA_compute_156 (WS' := [(a0, .inr (0, [.ref a1, .ref a2, .ref a3, .ref k0, .int vsz, .int vmd, .int vpc, .int vba, .int vbo, .int vre, .int vti, .int vro, .int vha])), (a2, .inl (E.2.1 0, 8, .inl (upd vreg p2.toNatClampNeg (((vreg p2.toNatClampNeg) - (vreg p3.toNatClampNeg)) &&& 65535))))]) rfl ?_
    clear hP hD hS
    intro H locs hP hD hS
    refine lv_goto (tgt := 285) J.1 J.2.1 d_MA_compute_157 (by decide) ?_
    refine lv_aload_n J.1 J.2.1 d_MA_compute_285 rfl (lv_at hl 1 rfl) ?_
    refine lv_iload J.1 J.2.1 d_MA_compute_286 (lv_at hl 0 rfl) ?_
    replace h := g_bd h
    obtain ⟨⟨vpc_17, vti_17, vro_17⟩, q_17, h⟩ := h
    try dsimp only at h
    refine jk_v (jrunV (As := [.int (vpc + 2)]) (rest := []) J hJ hA hZ hP hD hS (ct_MA_goOn l E a0 a1 a2 a3 k0 _ vsz vmd vpc vba vbo vre vti vro vha (vpc + 2) vpc_17 vti_17 vro_17 q_17) [0] rfl (by decide) gl_MA_81 gi_MA_goOn gsel_MA_goOn gini_MA gc_MA_goOn hd_MA_goOn ⟨rfl, rfl, Nat.le_of_ble_eq_true rfl, Nat.le_of_ble_eq_true rfl⟩ rfl rfl hl.1 rfl rfl (Nat.le_of_ble_eq_true rfl) d_MA_compute_288 ⟨Nat.zero_le _, Nat.zero_le _⟩) hA hP hD hS [0] [1] (WR := [(a2, .inl (E.2.1 0, 8, .inl (upd vreg p2.toNatClampNeg (((vreg p2.toNatClampNeg) - (vreg p3.toNatClampNeg)) &&& 65535))))]) rfl rfl (by decide) (by decide) [1, 0] (WF := [(a0, .inr (0, [.ref a1, .ref a2, .ref a3, .ref k0, .int vsz, .int vmd, .int vpc_17, .int vba, .int vbo, .int vre, .int vti_17, .int vro_17, .int vha])), (a2, .inl (E.2.1 0, 8, .inl (upd vreg p2.toNatClampNeg (((vreg p2.toNatClampNeg) - (vreg p3.toNatClampNeg)) &&& 65535))))]) rfl (by decide) ?_
    clear hP hD hS
    intro H locs hP hD hS
    cases h
    exact jr_v J hS hP hD d_MA_compute_291
  replace h := g_f c_13 h
  by_cases c_18 : (p1) = 9
  · replace h := g_t c_18 h
    refine lv_tableIn (off := 151) (tgt := 160) J.1 J.2.1 d_MA_compute_9 (by rw [c_18]; decide) (by rw [c_18]; decide) (by rw [c_18]; rfl) (by decide) ?_
    refine lv_aload_n J.1 J.2.1 d_MA_compute_160 rfl (lv_at hl 1 rfl) ?_
    refine jg J hJ hP 0 rfl rfl i_MA 1 (by decide) gf_MA_15 rfl d_MA_compute_161 ?_
    refine lv_iload_n J.1 J.2.1 d_MA_compute_164 rfl (lv_at hl 3 rfl) ?_
    refine lv_aload_n J.1 J.2.1 d_MA_compute_165 rfl (lv_at hl 1 rfl) ?_
    refine jg J hJ hP 0 rfl rfl i_MA 1 (by decide) gf_MA_15 rfl d_MA_compute_166 ?_
    refine lv_iload_n J.1 J.2.1 d_MA_compute_169 rfl (lv_at hl 3 rfl) ?_
    replace h := g_ck h
    obtain ⟨k_19, h⟩ := h
    refine jai J hJ hP 1 rfl k_19 d_MA_compute_170 ?_
    refine lv_aload_n J.1 J.2.1 d_MA_compute_171 rfl (lv_at hl 1 rfl) ?_
    refine jg J hJ hP 0 rfl rfl i_MA 1 (by decide) gf_MA_15 rfl d_MA_compute_172 ?_
    refine lv_iload_n J.1 J.2.1 d_MA_compute_175 rfl (lv_at hl 4 rfl) ?_
    replace h := g_ck h
    obtain ⟨k_20, h⟩ := h
    refine jai J hJ hP 1 rfl k_20 d_MA_compute_176 ?_
    refine lv_iand J.1 J.2.1 d_MA_compute_177 ?_
    replace h := g_ck h
    obtain ⟨k_21, h⟩ := h
    refine jsi J hJ hP hD hS 1 rfl k_21 d_MA_compute_178 (WS' := [(a0, .inr (0, [.ref a1, .ref a2, .ref a3, .ref k0, .int vsz, .int vmd, .int vpc, .int vba, .int vbo, .int vre, .int vti, .int vro, .int vha])), (a2, .inl (E.2.1 0, 8, .inl (upd vreg p2.toNatClampNeg ((vreg p2.toNatClampNeg) &&& (vreg p3.toNatClampNeg)))))]) rfl ?_
    clear hP hD hS
    intro H locs hP hD hS
    refine lv_goto (tgt := 285) J.1 J.2.1 d_MA_compute_179 (by decide) ?_
    refine lv_aload_n J.1 J.2.1 d_MA_compute_285 rfl (lv_at hl 1 rfl) ?_
    refine lv_iload J.1 J.2.1 d_MA_compute_286 (lv_at hl 0 rfl) ?_
    replace h := g_bd h
    obtain ⟨⟨vpc_22, vti_22, vro_22⟩, q_22, h⟩ := h
    try dsimp only at h
    refine jk_v (jrunV (As := [.int (vpc + 2)]) (rest := []) J hJ hA hZ hP hD hS (ct_MA_goOn l E a0 a1 a2 a3 k0 _ vsz vmd vpc vba vbo vre vti vro vha (vpc + 2) vpc_22 vti_22 vro_22 q_22) [0] rfl (by decide) gl_MA_81 gi_MA_goOn gsel_MA_goOn gini_MA gc_MA_goOn hd_MA_goOn ⟨rfl, rfl, Nat.le_of_ble_eq_true rfl, Nat.le_of_ble_eq_true rfl⟩ rfl rfl hl.1 rfl rfl (Nat.le_of_ble_eq_true rfl) d_MA_compute_288 ⟨Nat.zero_le _, Nat.zero_le _⟩) hA hP hD hS [0] [1] (WR := [(a2, .inl (E.2.1 0, 8, .inl (upd vreg p2.toNatClampNeg ((vreg p2.toNatClampNeg) &&& (vreg p3.toNatClampNeg)))))]) rfl rfl (by decide) (by decide) [1, 0] (WF := [(a0, .inr (0, [.ref a1, .ref a2, .ref a3, .ref k0, .int vsz, .int vmd, .int vpc_22, .int vba, .int vbo, .int vre, .int vti_22, .int vro_22, .int vha])), (a2, .inl (E.2.1 0, 8, .inl (upd vreg p2.toNatClampNeg ((vreg p2.toNatClampNeg) &&& (vreg p3.toNatClampNeg)))))]) rfl (by decide) ?_
    clear hP hD hS
    intro H locs hP hD hS
    cases h
    exact jr_v J hS hP hD d_MA_compute_291
  replace h := g_f c_18 h
  by_cases c_23 : (p1) = 10
  · replace h := g_t c_23 h
    refine lv_tableIn (off := 173) (tgt := 182) J.1 J.2.1 d_MA_compute_9 (by rw [c_23]; decide) (by rw [c_23]; decide) (by rw [c_23]; rfl) (by decide) ?_
    refine lv_aload_n J.1 J.2.1 d_MA_compute_182 rfl (lv_at hl 1 rfl) ?_
    refine jg J hJ hP 0 rfl rfl i_MA 1 (by decide) gf_MA_15 rfl d_MA_compute_183 ?_
    refine lv_iload_n J.1 J.2.1 d_MA_compute_186 rfl (lv_at hl 3 rfl) ?_
    refine lv_aload_n J.1 J.2.1 d_MA_compute_187 rfl (lv_at hl 1 rfl) ?_
    refine jg J hJ hP 0 rfl rfl i_MA 1 (by decide) gf_MA_15 rfl d_MA_compute_188 ?_
    refine lv_iload_n J.1 J.2.1 d_MA_compute_191 rfl (lv_at hl 3 rfl) ?_
    replace h := g_ck h
    obtain ⟨k_24, h⟩ := h
    refine jai J hJ hP 1 rfl k_24 d_MA_compute_192 ?_
    refine lv_aload_n J.1 J.2.1 d_MA_compute_193 rfl (lv_at hl 1 rfl) ?_
    refine jg J hJ hP 0 rfl rfl i_MA 1 (by decide) gf_MA_15 rfl d_MA_compute_194 ?_
    refine lv_iload_n J.1 J.2.1 d_MA_compute_197 rfl (lv_at hl 4 rfl) ?_
    replace h := g_ck h
    obtain ⟨k_25, h⟩ := h
    refine jai J hJ hP 1 rfl k_25 d_MA_compute_198 ?_
    refine lv_icmp_ge (tgt := 206) J.1 J.2.1 d_MA_compute_199 (by decide) (fun c_26 => ?_) (fun c_26 => ?_)
    · replace h := g_t c_26 h
      refine lv_iconst (v := 0) J.1 J.2.1 d_MA_compute_206 (by decide) ?_
      replace h := g_ck h
      obtain ⟨k_27, h⟩ := h
      refine jsi J hJ hP hD hS 1 rfl k_27 d_MA_compute_207 (WS' := [(a0, .inr (0, [.ref a1, .ref a2, .ref a3, .ref k0, .int vsz, .int vmd, .int vpc, .int vba, .int vbo, .int vre, .int vti, .int vro, .int vha])), (a2, .inl (E.2.1 0, 8, .inl (upd vreg p2.toNatClampNeg 0)))]) rfl ?_
      clear hP hD hS
      intro H locs hP hD hS
      refine lv_goto (tgt := 285) J.1 J.2.1 d_MA_compute_208 (by decide) ?_
      refine lv_aload_n J.1 J.2.1 d_MA_compute_285 rfl (lv_at hl 1 rfl) ?_
      refine lv_iload J.1 J.2.1 d_MA_compute_286 (lv_at hl 0 rfl) ?_
      replace h := g_bd h
      obtain ⟨⟨vpc_28, vti_28, vro_28⟩, q_28, h⟩ := h
      try dsimp only at h
      refine jk_v (jrunV (As := [.int (vpc + 2)]) (rest := []) J hJ hA hZ hP hD hS (ct_MA_goOn l E a0 a1 a2 a3 k0 _ vsz vmd vpc vba vbo vre vti vro vha (vpc + 2) vpc_28 vti_28 vro_28 q_28) [0] rfl (by decide) gl_MA_81 gi_MA_goOn gsel_MA_goOn gini_MA gc_MA_goOn hd_MA_goOn ⟨rfl, rfl, Nat.le_of_ble_eq_true rfl, Nat.le_of_ble_eq_true rfl⟩ rfl rfl hl.1 rfl rfl (Nat.le_of_ble_eq_true rfl) d_MA_compute_288 ⟨Nat.zero_le _, Nat.zero_le _⟩) hA hP hD hS [0] [1] (WR := [(a2, .inl (E.2.1 0, 8, .inl (upd vreg p2.toNatClampNeg 0)))]) rfl rfl (by decide) (by decide) [1, 0] (WF := [(a0, .inr (0, [.ref a1, .ref a2, .ref a3, .ref k0, .int vsz, .int vmd, .int vpc_28, .int vba, .int vbo, .int vre, .int vti_28, .int vro_28, .int vha])), (a2, .inl (E.2.1 0, 8, .inl (upd vreg p2.toNatClampNeg 0)))]) rfl (by decide) ?_
      clear hP hD hS
      intro H locs hP hD hS
      cases h
      exact jr_v J hS hP hD d_MA_compute_291
    · replace h := g_f c_26 h
      refine lv_iconst (v := 1) J.1 J.2.1 d_MA_compute_202 (by decide) ?_
      refine lv_goto (tgt := 207) J.1 J.2.1 d_MA_compute_203 (by decide) ?_
      replace h := g_ck h
      obtain ⟨k_29, h⟩ := h
      refine jsi J hJ hP hD hS 1 rfl k_29 d_MA_compute_207 (WS' := [(a0, .inr (0, [.ref a1, .ref a2, .ref a3, .ref k0, .int vsz, .int vmd, .int vpc, .int vba, .int vbo, .int vre, .int vti, .int vro, .int vha])), (a2, .inl (E.2.1 0, 8, .inl (upd vreg p2.toNatClampNeg 1)))]) rfl ?_
      clear hP hD hS
      intro H locs hP hD hS
      refine lv_goto (tgt := 285) J.1 J.2.1 d_MA_compute_208 (by decide) ?_
      refine lv_aload_n J.1 J.2.1 d_MA_compute_285 rfl (lv_at hl 1 rfl) ?_
      refine lv_iload J.1 J.2.1 d_MA_compute_286 (lv_at hl 0 rfl) ?_
      replace h := g_bd h
      obtain ⟨⟨vpc_30, vti_30, vro_30⟩, q_30, h⟩ := h
      try dsimp only at h
      refine jk_v (jrunV (As := [.int (vpc + 2)]) (rest := []) J hJ hA hZ hP hD hS (ct_MA_goOn l E a0 a1 a2 a3 k0 _ vsz vmd vpc vba vbo vre vti vro vha (vpc + 2) vpc_30 vti_30 vro_30 q_30) [0] rfl (by decide) gl_MA_81 gi_MA_goOn gsel_MA_goOn gini_MA gc_MA_goOn hd_MA_goOn ⟨rfl, rfl, Nat.le_of_ble_eq_true rfl, Nat.le_of_ble_eq_true rfl⟩ rfl rfl hl.1 rfl rfl (Nat.le_of_ble_eq_true rfl) d_MA_compute_288 ⟨Nat.zero_le _, Nat.zero_le _⟩) hA hP hD hS [0] [1] (WR := [(a2, .inl (E.2.1 0, 8, .inl (upd vreg p2.toNatClampNeg 1)))]) rfl rfl (by decide) (by decide) [1, 0] (WF := [(a0, .inr (0, [.ref a1, .ref a2, .ref a3, .ref k0, .int vsz, .int vmd, .int vpc_30, .int vba, .int vbo, .int vre, .int vti_30, .int vro_30, .int vha])), (a2, .inl (E.2.1 0, 8, .inl (upd vreg p2.toNatClampNeg 1)))]) rfl (by decide) ?_
      clear hP hD hS
      intro H locs hP hD hS
      cases h
      exact jr_v J hS hP hD d_MA_compute_291
  replace h := g_f c_23 h
  by_cases c_31 : (p1) = 11
  · replace h := g_t c_31 h
    refine lv_tableIn (off := 202) (tgt := 211) J.1 J.2.1 d_MA_compute_9 (by rw [c_31]; decide) (by rw [c_31]; decide) (by rw [c_31]; rfl) (by decide) ?_
    refine lv_aload_n J.1 J.2.1 d_MA_compute_211 rfl (lv_at hl 1 rfl) ?_
    refine jg J hJ hP 0 rfl rfl i_MA 1 (by decide) gf_MA_15 rfl d_MA_compute_212 ?_
    refine lv_iload_n J.1 J.2.1 d_MA_compute_215 rfl (lv_at hl 3 rfl) ?_
    refine lv_aload_n J.1 J.2.1 d_MA_compute_216 rfl (lv_at hl 1 rfl) ?_
    refine jg J hJ hP 0 rfl rfl i_MA 1 (by decide) gf_MA_15 rfl d_MA_compute_217 ?_
    refine lv_iload_n J.1 J.2.1 d_MA_compute_220 rfl (lv_at hl 3 rfl) ?_
    replace h := g_ck h
    obtain ⟨k_32, h⟩ := h
    refine jai J hJ hP 1 rfl k_32 d_MA_compute_221 ?_
    refine lv_iload J.1 J.2.1 d_MA_compute_222 (lv_at hl 5 rfl) ?_
    replace h := g_bd h
    obtain ⟨r_33, q_33, h⟩ := h
    refine jk_i (jrunS (As := [.int (vreg p2.toNatClampNeg), .int p4]) (rest := [.int p2, .ref a2]) J hJ hA hZ hP hD hS (ct_MA_shifted l E  _  (vreg p2.toNatClampNeg) p4 r_33 q_33) [] rfl (by decide) gl_MA_85 gs_MA_shifted gini_MA gc_MA_shifted hd_MA_shifted ⟨rfl, rfl, Nat.le_of_ble_eq_true rfl, Nat.le_of_ble_eq_true rfl⟩ hl.1 rfl rfl (Nat.le_of_ble_eq_true rfl) d_MA_compute_224 ⟨Nat.zero_le _, Nat.zero_le _⟩) hA hP hD hS [] [0, 1] (WR := [(a0, .inr (0, [.ref a1, .ref a2, .ref a3, .ref k0, .int vsz, .int vmd, .int vpc, .int vba, .int vbo, .int vre, .int vti, .int vro, .int vha])), (a2, .inl (E.2.1 0, 8, .inl vreg))]) rfl rfl (by decide) (by decide) [0, 1] (WF := [(a0, .inr (0, [.ref a1, .ref a2, .ref a3, .ref k0, .int vsz, .int vmd, .int vpc, .int vba, .int vbo, .int vre, .int vti, .int vro, .int vha])), (a2, .inl (E.2.1 0, 8, .inl vreg))]) rfl (by decide) ?_
    clear hP hD hS
    intro H locs hP hD hS
    replace h := g_ck h
    obtain ⟨k_34, h⟩ := h
    refine jsi J hJ hP hD hS 1 rfl k_34 d_MA_compute_227 (WS' := [(a0, .inr (0, [.ref a1, .ref a2, .ref a3, .ref k0, .int vsz, .int vmd, .int vpc, .int vba, .int vbo, .int vre, .int vti, .int vro, .int vha])), (a2, .inl (E.2.1 0, 8, .inl (upd vreg p2.toNatClampNeg r_33)))]) rfl ?_
    clear hP hD hS
    intro H locs hP hD hS
    refine lv_goto (tgt := 285) J.1 J.2.1 d_MA_compute_228 (by decide) ?_
    refine lv_aload_n J.1 J.2.1 d_MA_compute_285 rfl (lv_at hl 1 rfl) ?_
    refine lv_iload J.1 J.2.1 d_MA_compute_286 (lv_at hl 0 rfl) ?_
    replace h := g_bd h
    obtain ⟨⟨vpc_35, vti_35, vro_35⟩, q_35, h⟩ := h
    try dsimp only at h
    refine jk_v (jrunV (As := [.int (vpc + 2)]) (rest := []) J hJ hA hZ hP hD hS (ct_MA_goOn l E a0 a1 a2 a3 k0 _ vsz vmd vpc vba vbo vre vti vro vha (vpc + 2) vpc_35 vti_35 vro_35 q_35) [0] rfl (by decide) gl_MA_81 gi_MA_goOn gsel_MA_goOn gini_MA gc_MA_goOn hd_MA_goOn ⟨rfl, rfl, Nat.le_of_ble_eq_true rfl, Nat.le_of_ble_eq_true rfl⟩ rfl rfl hl.1 rfl rfl (Nat.le_of_ble_eq_true rfl) d_MA_compute_288 ⟨Nat.zero_le _, Nat.zero_le _⟩) hA hP hD hS [0] [1] (WR := [(a2, .inl (E.2.1 0, 8, .inl (upd vreg p2.toNatClampNeg r_33)))]) rfl rfl (by decide) (by decide) [1, 0] (WF := [(a0, .inr (0, [.ref a1, .ref a2, .ref a3, .ref k0, .int vsz, .int vmd, .int vpc_35, .int vba, .int vbo, .int vre, .int vti_35, .int vro_35, .int vha])), (a2, .inl (E.2.1 0, 8, .inl (upd vreg p2.toNatClampNeg r_33)))]) rfl (by decide) ?_
    clear hP hD hS
    intro H locs hP hD hS
    cases h
    exact jr_v J hS hP hD d_MA_compute_291
  replace h := g_f c_31 h
  by_cases c_36 : (p1) = 12
  · replace h := g_t c_36 h
    refine lv_tableIn (off := 222) (tgt := 231) J.1 J.2.1 d_MA_compute_9 (by rw [c_36]; decide) (by rw [c_36]; decide) (by rw [c_36]; rfl) (by decide) ?_
    refine lv_iload J.1 J.2.1 d_MA_compute_231 (lv_at hl 5 rfl) ?_
    refine lv_istore (lv' := [(5, .int p4), (0, .ref a0), (1, .int p1), (2, .int p2), (3, .int p3), (4, .int p4)]) J.1 J.2.1 d_MA_compute_233 hl (by decide) rfl ?_
    clear hl
    intro ls hl
    refine lv_goto (tgt := 285) J.1 J.2.1 d_MA_compute_235 (by decide) ?_
    refine lv_aload_n J.1 J.2.1 d_MA_compute_285 rfl (lv_at hl 1 rfl) ?_
    refine lv_iload J.1 J.2.1 d_MA_compute_286 (lv_at hl 0 rfl) ?_
    replace h := g_bd h
    obtain ⟨⟨vpc_37, vti_37, vro_37⟩, q_37, h⟩ := h
    try dsimp only at h
    refine jk_v (jrunV (As := [.int p4]) (rest := []) J hJ hA hZ hP hD hS (ct_MA_goOn l E a0 a1 a2 a3 k0 _ vsz vmd vpc vba vbo vre vti vro vha p4 vpc_37 vti_37 vro_37 q_37) [0] rfl (by decide) gl_MA_81 gi_MA_goOn gsel_MA_goOn gini_MA gc_MA_goOn hd_MA_goOn ⟨rfl, rfl, Nat.le_of_ble_eq_true rfl, Nat.le_of_ble_eq_true rfl⟩ rfl rfl hl.1 rfl rfl (Nat.le_of_ble_eq_true rfl) d_MA_compute_288 ⟨Nat.zero_le _, Nat.zero_le _⟩) hA hP hD hS [0] [1] (WR := [(a2, .inl (E.2.1 0, 8, .inl vreg))]) rfl rfl (by decide) (by decide) [1, 0] (WF := [(a0, .inr (0, [.ref a1, .ref a2, .ref a3, .ref k0, .int vsz, .int vmd, .int vpc_37, .int vba, .int vbo, .int vre, .int vti_37, .int vro_37, .int vha])), (a2, .inl (E.2.1 0, 8, .inl vreg))]) rfl (by decide) ?_
    clear hP hD hS
    intro H locs hP hD hS
    cases h
    exact jr_v J hS hP hD d_MA_compute_291
  replace h := g_f c_36 h
  by_cases c_38 : (p1) = 13
  · replace h := g_t c_38 h
    refine lv_tableIn (off := 229) (tgt := 238) J.1 J.2.1 d_MA_compute_9 (by rw [c_38]; decide) (by rw [c_38]; decide) (by rw [c_38]; rfl) (by decide) ?_
    refine lv_aload_n J.1 J.2.1 d_MA_compute_238 rfl (lv_at hl 1 rfl) ?_
    refine jg J hJ hP 0 rfl rfl i_MA 1 (by decide) gf_MA_15 rfl d_MA_compute_239 ?_
    refine lv_iload_n J.1 J.2.1 d_MA_compute_242 rfl (lv_at hl 3 rfl) ?_
    replace h := g_ck h
    obtain ⟨k_39, h⟩ := h
    refine jai J hJ hP 1 rfl k_39 d_MA_compute_243 ?_
    refine lv_if_ne (tgt := 252) J.1 J.2.1 d_MA_compute_244 (by decide) (fun c_40 => ?_) (fun c_40 => ?_)
    · replace h := g_f c_40 h
      refine lv_iload J.1 J.2.1 d_MA_compute_252 (lv_at hl 0 rfl) ?_
      refine lv_istore (lv' := [(5, .int (vpc + 2)), (0, .ref a0), (1, .int p1), (2, .int p2), (3, .int p3), (4, .int p4)]) J.1 J.2.1 d_MA_compute_254 hl (by decide) rfl ?_
      clear hl
      intro ls hl
      refine lv_goto (tgt := 285) J.1 J.2.1 d_MA_compute_256 (by decide) ?_
      refine lv_aload_n J.1 J.2.1 d_MA_compute_285 rfl (lv_at hl 1 rfl) ?_
      refine lv_iload J.1 J.2.1 d_MA_compute_286 (lv_at hl 0 rfl) ?_
      replace h := g_bd h
      obtain ⟨⟨vpc_41, vti_41, vro_41⟩, q_41, h⟩ := h
      try dsimp only at h
      refine jk_v (jrunV (As := [.int (vpc + 2)]) (rest := []) J hJ hA hZ hP hD hS (ct_MA_goOn l E a0 a1 a2 a3 k0 _ vsz vmd vpc vba vbo vre vti vro vha (vpc + 2) vpc_41 vti_41 vro_41 q_41) [0] rfl (by decide) gl_MA_81 gi_MA_goOn gsel_MA_goOn gini_MA gc_MA_goOn hd_MA_goOn ⟨rfl, rfl, Nat.le_of_ble_eq_true rfl, Nat.le_of_ble_eq_true rfl⟩ rfl rfl hl.1 rfl rfl (Nat.le_of_ble_eq_true rfl) d_MA_compute_288 ⟨Nat.zero_le _, Nat.zero_le _⟩) hA hP hD hS [0] [1] (WR := [(a2, .inl (E.2.1 0, 8, .inl vreg))]) rfl rfl (by decide) (by decide) [1, 0] (WF := [(a0, .inr (0, [.ref a1, .ref a2, .ref a3, .ref k0, .int vsz, .int vmd, .int vpc_41, .int vba, .int vbo, .int vre, .int vti_41, .int vro_41, .int vha])), (a2, .inl (E.2.1 0, 8, .inl vreg))]) rfl (by decide) ?_
      clear hP hD hS
      intro H locs hP hD hS
      cases h
      exact jr_v J hS hP hD d_MA_compute_291
    · replace h := g_t c_40 h
      refine lv_iload J.1 J.2.1 d_MA_compute_247 (lv_at hl 5 rfl) ?_
      refine lv_goto (tgt := 254) J.1 J.2.1 d_MA_compute_249 (by decide) ?_
      refine lv_istore (lv' := [(5, .int p4), (0, .ref a0), (1, .int p1), (2, .int p2), (3, .int p3), (4, .int p4)]) J.1 J.2.1 d_MA_compute_254 hl (by decide) rfl ?_
      clear hl
      intro ls hl
      refine lv_goto (tgt := 285) J.1 J.2.1 d_MA_compute_256 (by decide) ?_
      refine lv_aload_n J.1 J.2.1 d_MA_compute_285 rfl (lv_at hl 1 rfl) ?_
      refine lv_iload J.1 J.2.1 d_MA_compute_286 (lv_at hl 0 rfl) ?_
      replace h := g_bd h
      obtain ⟨⟨vpc_42, vti_42, vro_42⟩, q_42, h⟩ := h
      try dsimp only at h
      refine jk_v (jrunV (As := [.int p4]) (rest := []) J hJ hA hZ hP hD hS (ct_MA_goOn l E a0 a1 a2 a3 k0 _ vsz vmd vpc vba vbo vre vti vro vha p4 vpc_42 vti_42 vro_42 q_42) [0] rfl (by decide) gl_MA_81 gi_MA_goOn gsel_MA_goOn gini_MA gc_MA_goOn hd_MA_goOn ⟨rfl, rfl, Nat.le_of_ble_eq_true rfl, Nat.le_of_ble_eq_true rfl⟩ rfl rfl hl.1 rfl rfl (Nat.le_of_ble_eq_true rfl) d_MA_compute_288 ⟨Nat.zero_le _, Nat.zero_le _⟩) hA hP hD hS [0] [1] (WR := [(a2, .inl (E.2.1 0, 8, .inl vreg))]) rfl rfl (by decide) (by decide) [1, 0] (WF := [(a0, .inr (0, [.ref a1, .ref a2, .ref a3, .ref k0, .int vsz, .int vmd, .int vpc_42, .int vba, .int vbo, .int vre, .int vti_42, .int vro_42, .int vha])), (a2, .inl (E.2.1 0, 8, .inl vreg))]) rfl (by decide) ?_
      clear hP hD hS
      intro H locs hP hD hS
      cases h
      exact jr_v J hS hP hD d_MA_compute_291
  replace h := g_f c_38 h
  by_cases c_43 : (p1) = 14
  · replace h := g_t c_43 h
    refine lv_tableIn (off := 250) (tgt := 259) J.1 J.2.1 d_MA_compute_9 (by rw [c_43]; decide) (by rw [c_43]; decide) (by rw [c_43]; rfl) (by decide) ?_
    refine lv_aload_n J.1 J.2.1 d_MA_compute_259 rfl (lv_at hl 1 rfl) ?_
    refine jg J hJ hP 0 rfl rfl i_MA 1 (by decide) gf_MA_15 rfl d_MA_compute_260 ?_
    refine lv_iload_n J.1 J.2.1 d_MA_compute_263 rfl (lv_at hl 3 rfl) ?_
    replace h := g_ck h
    obtain ⟨k_44, h⟩ := h
    refine jai J hJ hP 1 rfl k_44 d_MA_compute_264 ?_
    refine lv_istore (lv' := [(5, .int (vreg p2.toNatClampNeg)), (0, .ref a0), (1, .int p1), (2, .int p2), (3, .int p3), (4, .int p4)]) J.1 J.2.1 d_MA_compute_265 hl (by decide) rfl ?_
    clear hl
    intro ls hl
    refine lv_goto (tgt := 285) J.1 J.2.1 d_MA_compute_267 (by decide) ?_
    refine lv_aload_n J.1 J.2.1 d_MA_compute_285 rfl (lv_at hl 1 rfl) ?_
    refine lv_iload J.1 J.2.1 d_MA_compute_286 (lv_at hl 0 rfl) ?_
    replace h := g_bd h
    obtain ⟨⟨vpc_45, vti_45, vro_45⟩, q_45, h⟩ := h
    try dsimp only at h
    refine jk_v (jrunV (As := [.int (vreg p2.toNatClampNeg)]) (rest := []) J hJ hA hZ hP hD hS (ct_MA_goOn l E a0 a1 a2 a3 k0 _ vsz vmd vpc vba vbo vre vti vro vha (vreg p2.toNatClampNeg) vpc_45 vti_45 vro_45 q_45) [0] rfl (by decide) gl_MA_81 gi_MA_goOn gsel_MA_goOn gini_MA gc_MA_goOn hd_MA_goOn ⟨rfl, rfl, Nat.le_of_ble_eq_true rfl, Nat.le_of_ble_eq_true rfl⟩ rfl rfl hl.1 rfl rfl (Nat.le_of_ble_eq_true rfl) d_MA_compute_288 ⟨Nat.zero_le _, Nat.zero_le _⟩) hA hP hD hS [0] [1] (WR := [(a2, .inl (E.2.1 0, 8, .inl vreg))]) rfl rfl (by decide) (by decide) [1, 0] (WF := [(a0, .inr (0, [.ref a1, .ref a2, .ref a3, .ref k0, .int vsz, .int vmd, .int vpc_45, .int vba, .int vbo, .int vre, .int vti_45, .int vro_45, .int vha])), (a2, .inl (E.2.1 0, 8, .inl vreg))]) rfl (by decide) ?_
    clear hP hD hS
    intro H locs hP hD hS
    cases h
    exact jr_v J hS hP hD d_MA_compute_291
  replace h := g_f c_43 h
  by_cases c_46 : (p1) = 15
  · replace h := g_t c_46 h
    refine lv_tableIn (off := 261) (tgt := 270) J.1 J.2.1 d_MA_compute_9 (by rw [c_46]; decide) (by rw [c_46]; decide) (by rw [c_46]; rfl) (by decide) ?_
    refine lv_aload_n J.1 J.2.1 d_MA_compute_270 rfl (lv_at hl 1 rfl) ?_
    refine jg J hJ hP 0 rfl rfl i_MA 1 (by decide) gf_MA_15 rfl d_MA_compute_271 ?_
    refine lv_iload_n J.1 J.2.1 d_MA_compute_274 rfl (lv_at hl 3 rfl) ?_
    refine lv_iload J.1 J.2.1 d_MA_compute_275 (lv_at hl 0 rfl) ?_
    replace h := g_ck h
    obtain ⟨k_47, h⟩ := h
    refine jsi J hJ hP hD hS 1 rfl k_47 d_MA_compute_277 (WS' := [(a0, .inr (0, [.ref a1, .ref a2, .ref a3, .ref k0, .int vsz, .int vmd, .int vpc, .int vba, .int vbo, .int vre, .int vti, .int vro, .int vha])), (a2, .inl (E.2.1 0, 8, .inl (upd vreg p2.toNatClampNeg (vpc + 2))))]) rfl ?_
    clear hP hD hS
    intro H locs hP hD hS
    refine lv_iload J.1 J.2.1 d_MA_compute_278 (lv_at hl 5 rfl) ?_
    refine lv_istore (lv' := [(5, .int p4), (0, .ref a0), (1, .int p1), (2, .int p2), (3, .int p3), (4, .int p4)]) J.1 J.2.1 d_MA_compute_280 hl (by decide) rfl ?_
    clear hl
    intro ls hl
    refine lv_goto (tgt := 285) J.1 J.2.1 d_MA_compute_282 (by decide) ?_
    refine lv_aload_n J.1 J.2.1 d_MA_compute_285 rfl (lv_at hl 1 rfl) ?_
    refine lv_iload J.1 J.2.1 d_MA_compute_286 (lv_at hl 0 rfl) ?_
    replace h := g_bd h
    obtain ⟨⟨vpc_48, vti_48, vro_48⟩, q_48, h⟩ := h
    try dsimp only at h
    refine jk_v (jrunV (As := [.int p4]) (rest := []) J hJ hA hZ hP hD hS (ct_MA_goOn l E a0 a1 a2 a3 k0 _ vsz vmd vpc vba vbo vre vti vro vha p4 vpc_48 vti_48 vro_48 q_48) [0] rfl (by decide) gl_MA_81 gi_MA_goOn gsel_MA_goOn gini_MA gc_MA_goOn hd_MA_goOn ⟨rfl, rfl, Nat.le_of_ble_eq_true rfl, Nat.le_of_ble_eq_true rfl⟩ rfl rfl hl.1 rfl rfl (Nat.le_of_ble_eq_true rfl) d_MA_compute_288 ⟨Nat.zero_le _, Nat.zero_le _⟩) hA hP hD hS [0] [1] (WR := [(a2, .inl (E.2.1 0, 8, .inl (upd vreg p2.toNatClampNeg (vpc + 2))))]) rfl rfl (by decide) (by decide) [1, 0] (WF := [(a0, .inr (0, [.ref a1, .ref a2, .ref a3, .ref k0, .int vsz, .int vmd, .int vpc_48, .int vba, .int vbo, .int vre, .int vti_48, .int vro_48, .int vha])), (a2, .inl (E.2.1 0, 8, .inl (upd vreg p2.toNatClampNeg (vpc + 2))))]) rfl (by decide) ?_
    clear hP hD hS
    intro H locs hP hD hS
    cases h
    exact jr_v J hS hP hD d_MA_compute_291
  replace h := g_f c_46 h
  refine jt_df (tgt := 285) J.1 J.2.1 d_MA_compute_9 (jt_or (lo := 1) (hi := 15) (fun q q2 => by
      have e0 := lv_neT c_1 (a := 1) (by decide)
      have e1 := lv_neT c_4 (a := 6) (by decide)
      have e2 := lv_neT c_8 (a := 7) (by decide)
      have e3 := lv_neT c_13 (a := 8) (by decide)
      have e4 := lv_neT c_18 (a := 9) (by decide)
      have e5 := lv_neT c_23 (a := 10) (by decide)
      have e6 := lv_neT c_31 (a := 11) (by decide)
      have e7 := lv_neT c_36 (a := 12) (by decide)
      have e8 := lv_neT c_38 (a := 13) (by decide)
      have e9 := lv_neT c_43 (a := 14) (by decide)
      have e10 := lv_neT c_46 (a := 15) (by decide)
      have e : (p1).toInt = 2 ∨ (p1).toInt = 3 ∨ (p1).toInt = 4 ∨ (p1).toInt = 5 := by omega
      rcases e with e | e | e | e <;> rw [e] <;> rfl)) (by decide) ?_
  refine lv_aload_n J.1 J.2.1 d_MA_compute_285 rfl (lv_at hl 1 rfl) ?_
  refine lv_iload J.1 J.2.1 d_MA_compute_286 (lv_at hl 0 rfl) ?_
  replace h := g_bd h
  obtain ⟨⟨vpc_49, vti_49, vro_49⟩, q_49, h⟩ := h
  try dsimp only at h
  refine jk_v (jrunV (As := [.int (vpc + 2)]) (rest := []) J hJ hA hZ hP hD hS (ct_MA_goOn l E a0 a1 a2 a3 k0 _ vsz vmd vpc vba vbo vre vti vro vha (vpc + 2) vpc_49 vti_49 vro_49 q_49) [0] rfl (by decide) gl_MA_81 gi_MA_goOn gsel_MA_goOn gini_MA gc_MA_goOn hd_MA_goOn ⟨rfl, rfl, Nat.le_of_ble_eq_true rfl, Nat.le_of_ble_eq_true rfl⟩ rfl rfl hl.1 rfl rfl (Nat.le_of_ble_eq_true rfl) d_MA_compute_288 ⟨Nat.zero_le _, Nat.zero_le _⟩) hA hP hD hS [0] [1] (WR := [(a2, .inl (E.2.1 0, 8, .inl vreg))]) rfl rfl (by decide) (by decide) [1, 0] (WF := [(a0, .inr (0, [.ref a1, .ref a2, .ref a3, .ref k0, .int vsz, .int vmd, .int vpc_49, .int vba, .int vbo, .int vre, .int vti_49, .int vro_49, .int vha])), (a2, .inl (E.2.1 0, 8, .inl vreg))]) rfl (by decide) ?_
  clear hP hD hS
  intro H locs hP hD hS
  cases h
  exact jr_v J hS hP hD d_MA_compute_291

theorem hd_MA_govern : y_MA_govern.cls ≠ "java/lang/invoke/MethodHandle" ∧ y_MA_govern.cls ≠ "java/lang/invoke/VarHandle" ∧ (parseMethodDescriptor y_MA_govern.desc).map (fun d => d.parameters.length) = some 4 := by decide +kernel
def b_MA_govern_25 (vsz : Int32) (vmd : Int32) (vpc : Int32) (vba : Int32) (vbo : Int32) (vre : Int32) (vti : Int32) (vro : Int32) (vha : Int32) (vmem : Nat → Int32) (vreg : Nat → Int32) (vblk : Nat → Int32) (kold : Int32) (kwai : Int32) (ksnt : Int32) (ktyp : Nat → Int32) (ksen : Nat → Int32) (x1 : Int32) (x2 : Int32) (x5 : Int32) : Option (Int32 × Int32 × Int32 × Int32 × Int32 × Int32 × Int32 × Int32 × (Nat → Int32) × (Nat → Int32) × (Nat → Int32) × Int32 × Int32 × Int32 × (Nat → Int32)) := ((f_MA_wordsWanted  x1).bind fun r_1 => ((f_MA_firstBad vre x5 r_1).bind fun r_2 => (if r_2 = (-1 : Int32) then (if ck x2 8 then (if (x1) = 0 then (some (vmd, vpc, vba, vbo, vre, vti, vro, 1, vmem, vreg, vblk, kold, kwai, ksnt, ksen)) else (if (x1) = 17 then ((f_MA_takeStatus vsz vmem (vba + x5)).bind fun (vmd_7, vpc_7, vba_7, vbo_7, vre_7) => (some (vmd_7, vpc_7, vba_7, vbo_7, vre_7, vti, vro, vha, vmem, vreg, vblk, kold, kwai, ksnt, ksen))) else (if (x1) = 18 then ((f_MA_keepStatus vmd vba vbo vmem (vba + x5) (vpc + 2)).bind fun vmem_9 => (some (vmd, (vpc + 2), vba, vbo, vre, vti, vro, vha, vmem_9, vreg, vblk, kold, kwai, ksnt, ksen))) else (if (x1) = 19 then (if ck x2 8 then (some (vmd, (vpc + 2), vba, vbo, vre, (vreg x2.toNatClampNeg), 0, vha, vmem, vreg, vblk, kold, kwai, ksnt, ksen)) else none) else (if (x1) = 20 then (if ck x2 8 then (some (vmd, (vpc + 2), vba, vbo, vre, vti, vro, vha, vmem, (upd vreg x2.toNatClampNeg vti), vblk, kold, kwai, ksnt, ksen)) else none) else (if (x1) = 21 then ((f_CO_nextTyped kold kwai ktyp).bind fun (r_15, kold_15, kwai_15) => (if ck x2 8 then (some (vmd, (vpc + 2), vba, vbo, vre, vti, vro, vha, vmem, (upd vreg x2.toNatClampNeg r_15), vblk, kold_15, kwai_15, ksnt, ksen)) else none)) else (if (x1) = 22 then (if ck x2 8 then ((f_CO_send ksnt ksen ((vreg x2.toNatClampNeg) &&& 255)).bind fun (ksnt_19, ksen_19) => (some (vmd, (vpc + 2), vba, vbo, vre, vti, vro, vha, vmem, vreg, vblk, kold, kwai, ksnt_19, ksen_19))) else none) else (if (x1) = 23 then (if cq (((vreg x2.toNatClampNeg) &&& 7) * 16) 128 (vba + x5) 1844 16 then (some (vmd, (vpc + 2), vba, vbo, vre, vti, vro, vha, (va_cpy vblk vmem (((vreg x2.toNatClampNeg) &&& 7) * 16).toNatClampNeg (vba + x5).toNatClampNeg (16 : Int32).toNatClampNeg), vreg, vblk, kold, kwai, ksnt, ksen)) else none) else (if (x1) = 24 then (if cq (vba + x5) 1844 (((vreg x2.toNatClampNeg) &&& 7) * 16) 128 16 then (some (vmd, (vpc + 2), vba, vbo, vre, vti, vro, vha, vmem, vreg, (va_cpy vmem vblk (vba + x5).toNatClampNeg (((vreg x2.toNatClampNeg) &&& 7) * 16).toNatClampNeg (16 : Int32).toNatClampNeg), kold, kwai, ksnt, ksen)) else none) else (some (vmd, (vpc + 2), vba, vbo, vre, vti, vro, vha, vmem, vreg, vblk, kold, kwai, ksnt, ksen))))))))))) else none) else ((f_MA_trap vsz vmd vba vbo vmem 2 r_2 vpc).bind fun (vmd_24, vpc_24, vba_24, vbo_24, vre_24, vmem_24) => (some (vmd_24, vpc_24, vba_24, vbo_24, vre_24, vti, vro, vha, vmem_24, vreg, vblk, kold, kwai, ksnt, ksen))))))
def f_MA_govern (vsz : Int32) (vmd : Int32) (vpc : Int32) (vba : Int32) (vbo : Int32) (vre : Int32) (vti : Int32) (vro : Int32) (vha : Int32) (vmem : Nat → Int32) (vreg : Nat → Int32) (vblk : Nat → Int32) (kold : Int32) (kwai : Int32) (ksnt : Int32) (ktyp : Nat → Int32) (ksen : Nat → Int32) (p1 : Int32) (p2 : Int32) (p3 : Int32) (p4 : Int32) : Option (Int32 × Int32 × Int32 × Int32 × Int32 × Int32 × Int32 × Int32 × (Nat → Int32) × (Nat → Int32) × (Nat → Int32) × Int32 × Int32 × Int32 × (Nat → Int32)) := (if (23 : Int32) ≤ p1 then (if ck p3 8 then b_MA_govern_25 vsz vmd vpc vba vbo vre vti vro vha vmem vreg vblk kold kwai ksnt ktyp ksen p1 p2 (((vreg p3.toNatClampNeg) + p4) &&& 65535) else none) else b_MA_govern_25 vsz vmd vpc vba vbo vre vti vro vha vmem vreg vblk kold kwai ksnt ktyp ksen p1 p2 p4)
set_option maxHeartbeats 4000000 in
set_option maxRecDepth 100000 in
theorem ct_MA_govern (l : Launch) (E : jz_E) (a0 a1 a2 a3 k0 k1 k2 : Nat) (sz : Nat) (vsz : Int32) (vmd : Int32) (vpc : Int32) (vba : Int32) (vbo : Int32) (vre : Int32) (vti : Int32) (vro : Int32) (vha : Int32) (vmem : Nat → Int32) (vreg : Nat → Int32) (vblk : Nat → Int32) (kold : Int32) (kwai : Int32) (ksnt : Int32) (ktyp : Nat → Int32) (ksen : Nat → Int32) (p1 : Int32) (p2 : Int32) (p3 : Int32) (p4 : Int32) (o_vmd : Int32) (o_vpc : Int32) (o_vba : Int32) (o_vbo : Int32) (o_vre : Int32) (o_vti : Int32) (o_vro : Int32) (o_vha : Int32) (o_vmem : Nat → Int32) (o_vreg : Nat → Int32) (o_vblk : Nat → Int32) (o_kold : Int32) (o_kwai : Int32) (o_ksnt : Int32) (o_ksen : Nat → Int32)  (h : f_MA_govern vsz vmd vpc vba vbo vre vti vro vha vmem vreg vblk kold kwai ksnt ktyp ksen p1 p2 p3 p4 = some (o_vmd, o_vpc, o_vba, o_vbo, o_vre, o_vti, o_vro, o_vha, o_vmem, o_vreg, o_vblk, o_kold, o_kwai, o_ksnt, o_ksen)) : CTv l E y_MA_govern c_MA_govern 10 none ({ frames := 2, cells := 0, slots := 0, locals := 100 }) [.ref a0, .int p1, .int p2, .int p3, .int p4] [(a0, .inr (0, [.ref a1, .ref a2, .ref a3, .ref k0, .int vsz, .int vmd, .int vpc, .int vba, .int vbo, .int vre, .int vti, .int vro, .int vha])), (a1, .inl (E.2.1 0, 1844, .inl vmem)), (a2, .inl (E.2.1 0, 8, .inl vreg)), (a3, .inl (E.2.1 0, 128, .inl vblk)), (k0, .inr (1, [.ref k1, .ref k2, .int kold, .int kwai, .int ksnt])), (k1, .inl (E.2.1 0, 100, .inl ktyp)), (k2, .inl (E.2.1 0, 500, .inl ksen))] sz [(a0, .inr (0, [.ref a1, .ref a2, .ref a3, .ref k0, .int vsz, .int o_vmd, .int o_vpc, .int o_vba, .int o_vbo, .int o_vre, .int o_vti, .int o_vro, .int o_vha])), (a1, .inl (E.2.1 0, 1844, .inl o_vmem)), (a2, .inl (E.2.1 0, 8, .inl o_vreg)), (a3, .inl (E.2.1 0, 128, .inl o_vblk)), (k0, .inr (1, [.ref k1, .ref k2, .int o_kold, .int o_kwai, .int o_ksnt])), (k1, .inl (E.2.1 0, 100, .inl ktyp)), (k2, .inl (E.2.1 0, 500, .inl o_ksen))] := by
  refine jw (by decide +kernel) (Nat.le_of_ble_eq_true rfl) ?_
  intro p e s m below meth c A ls J hJ hAe hsz hA hZ hP hD hl
  rw [← hAe]
  have hS : va_S A s.heap s.heap [] := va_S.rf
  have hl : lv_has ls 10 [(0, .ref a0), (1, .int p1), (2, .int p2), (3, .int p3), (4, .int p4)] := hl
  have K_25 : ∀ (vsz : Int32) (vmd : Int32) (vpc : Int32) (vba : Int32) (vbo : Int32) (vre : Int32) (vti : Int32) (vro : Int32) (vha : Int32) (vmem : Nat → Int32) (vreg : Nat → Int32) (vblk : Nat → Int32) (kold : Int32) (kwai : Int32) (ksnt : Int32) (ktyp : Nat → Int32) (ksen : Nat → Int32) (x1 : Int32) (x2 : Int32) (x5 : Int32) (H : Heap) (locs : List Loc) (ls : Array Slot), b_MA_govern_25 vsz vmd vpc vba vbo vre vti vro vha vmem vreg vblk kold kwai ksnt ktyp ksen x1 x2 x5 = some (o_vmd, o_vpc, o_vba, o_vbo, o_vre, o_vti, o_vro, o_vha, o_vmem, o_vreg, o_vblk, o_kold, o_kwai, o_ksnt, o_ksen) → va_P E.1 classes [(a0, .inr (0, [.ref a1, .ref a2, .ref a3, .ref k0, .int vsz, .int vmd, .int vpc, .int vba, .int vbo, .int vre, .int vti, .int vro, .int vha])), (a1, .inl (E.2.1 0, 1844, .inl vmem)), (a2, .inl (E.2.1 0, 8, .inl vreg)), (a3, .inl (E.2.1 0, 128, .inl vblk)), (k0, .inr (1, [.ref k1, .ref k2, .int kold, .int kwai, .int ksnt])), (k1, .inl (E.2.1 0, 100, .inl ktyp)), (k2, .inl (E.2.1 0, 500, .inl ksen))] H → va_D A [(a0, .inr (0, [.ref a1, .ref a2, .ref a3, .ref k0, .int vsz, .int vmd, .int vpc, .int vba, .int vbo, .int vre, .int vti, .int vro, .int vha])), (a1, .inl (E.2.1 0, 1844, .inl vmem)), (a2, .inl (E.2.1 0, 8, .inl vreg)), (a3, .inl (E.2.1 0, 128, .inl vblk)), (k0, .inr (1, [.ref k1, .ref k2, .int kold, .int kwai, .int ksnt])), (k1, .inl (E.2.1 0, 100, .inl ktyp)), (k2, .inl (E.2.1 0, 500, .inl ksen))] → va_S A s.heap H locs → lv_has ls 10 [(0, .ref a0), (1, .int x1), (2, .int x2), (5, .int x5)] → W p l e ({ frames := 2, cells := 0, slots := 0, locals := 100 }) s m ([.ref a0, .int p1, .int p2, .int p3, .int p4] : List Value).toArray below meth c H locs 0 0 (MQ below (va_Qv (fun (u : va_W) => u = [(a0, .inr (0, [.ref a1, .ref a2, .ref a3, .ref k0, .int vsz, .int o_vmd, .int o_vpc, .int o_vba, .int o_vbo, .int o_vre, .int o_vti, .int o_vro, .int o_vha])), (a1, .inl (E.2.1 0, 1844, .inl o_vmem)), (a2, .inl (E.2.1 0, 8, .inl o_vreg)), (a3, .inl (E.2.1 0, 128, .inl o_vblk)), (k0, .inr (1, [.ref k1, .ref k2, .int o_kold, .int o_kwai, .int o_ksnt])), (k1, .inl (E.2.1 0, 100, .inl ktyp)), (k2, .inl (E.2.1 0, 500, .inl o_ksen))]) (BW E A) A) ([.ref a0, .int p1, .int p2, .int p3, .int p4] : List Value).toArray s 0 0 A) (F0 m 25 ls []) := by
    intro vsz vmd vpc vba vbo vre vti vro vha vmem vreg vblk kold kwai ksnt ktyp ksen x1 x2 x5 H locs ls h hP hD hS hl
    rw [b_MA_govern_25] at h
    refine lv_aload_n J.1 J.2.1 d_MA_govern_25 rfl (lv_at hl 0 rfl) ?_
    refine lv_iload J.1 J.2.1 d_MA_govern_26 (lv_at hl 3 rfl) ?_
    refine lv_iload_n J.1 J.2.1 d_MA_govern_28 rfl (lv_at hl 1 rfl) ?_
    replace h := g_bd h
    obtain ⟨r_1, q_1, h⟩ := h
    refine jk_i (jrunS (As := [.int x1]) (rest := [.int x5, .ref a0]) J hJ hA hZ hP hD hS (ct_MA_wordsWanted l E  _  x1 r_1 q_1) [] rfl (by decide) gl_MA_89 gs_MA_wordsWanted gini_MA gc_MA_wordsWanted hd_MA_wordsWanted ⟨rfl, rfl, Nat.le_of_ble_eq_true rfl, Nat.le_of_ble_eq_true rfl⟩ hl.1 rfl rfl (Nat.le_of_ble_eq_true rfl) d_MA_govern_29 ⟨Nat.zero_le _, Nat.zero_le _⟩) hA hP hD hS [] [0, 1, 2, 3, 4, 5, 6] (WR := [(a0, .inr (0, [.ref a1, .ref a2, .ref a3, .ref k0, .int vsz, .int vmd, .int vpc, .int vba, .int vbo, .int vre, .int vti, .int vro, .int vha])), (a1, .inl (E.2.1 0, 1844, .inl vmem)), (a2, .inl (E.2.1 0, 8, .inl vreg)), (a3, .inl (E.2.1 0, 128, .inl vblk)), (k0, .inr (1, [.ref k1, .ref k2, .int kold, .int kwai, .int ksnt])), (k1, .inl (E.2.1 0, 100, .inl ktyp)), (k2, .inl (E.2.1 0, 500, .inl ksen))]) rfl rfl (by decide) (by decide) [0, 1, 2, 3, 4, 5, 6] (WF := [(a0, .inr (0, [.ref a1, .ref a2, .ref a3, .ref k0, .int vsz, .int vmd, .int vpc, .int vba, .int vbo, .int vre, .int vti, .int vro, .int vha])), (a1, .inl (E.2.1 0, 1844, .inl vmem)), (a2, .inl (E.2.1 0, 8, .inl vreg)), (a3, .inl (E.2.1 0, 128, .inl vblk)), (k0, .inr (1, [.ref k1, .ref k2, .int kold, .int kwai, .int ksnt])), (k1, .inl (E.2.1 0, 100, .inl ktyp)), (k2, .inl (E.2.1 0, 500, .inl ksen))]) rfl (by decide) ?_
    clear hP hD hS
    intro H locs hP hD hS
    replace h := g_bd h
    obtain ⟨r_2, q_2, h⟩ := h
    refine jk_i (jrunV (As := [.int x5, .int r_1]) (rest := []) J hJ hA hZ hP hD hS (ct_MA_firstBad l E a0 a1 a2 a3 k0 _ vsz vmd vpc vba vbo vre vti vro vha x5 r_1 r_2 q_2) [0] rfl (by decide) gl_MA_93 gi_MA_firstBad gsel_MA_firstBad gini_MA gc_MA_firstBad hd_MA_firstBad ⟨rfl, rfl, Nat.le_of_ble_eq_true rfl, Nat.le_of_ble_eq_true rfl⟩ rfl rfl hl.1 rfl rfl (Nat.le_of_ble_eq_true rfl) d_MA_govern_32 ⟨Nat.zero_le _, Nat.zero_le _⟩) hA hP hD hS [0] [1, 2, 3, 4, 5, 6] (WR := [(a1, .inl (E.2.1 0, 1844, .inl vmem)), (a2, .inl (E.2.1 0, 8, .inl vreg)), (a3, .inl (E.2.1 0, 128, .inl vblk)), (k0, .inr (1, [.ref k1, .ref k2, .int kold, .int kwai, .int ksnt])), (k1, .inl (E.2.1 0, 100, .inl ktyp)), (k2, .inl (E.2.1 0, 500, .inl ksen))]) rfl rfl (by decide) (by decide) [6, 0, 1, 2, 3, 4, 5] (WF := [(a0, .inr (0, [.ref a1, .ref a2, .ref a3, .ref k0, .int vsz, .int vmd, .int vpc, .int vba, .int vbo, .int vre, .int vti, .int vro, .int vha])), (a1, .inl (E.2.1 0, 1844, .inl vmem)), (a2, .inl (E.2.1 0, 8, .inl vreg)), (a3, .inl (E.2.1 0, 128, .inl vblk)), (k0, .inr (1, [.ref k1, .ref k2, .int kold, .int kwai, .int ksnt])), (k1, .inl (E.2.1 0, 100, .inl ktyp)), (k2, .inl (E.2.1 0, 500, .inl ksen))]) rfl (by decide) ?_
    clear hP hD hS
    intro H locs hP hD hS
    refine lv_istore (lv' := [(6, .int r_2), (0, .ref a0), (1, .int x1), (2, .int x2), (5, .int x5)]) J.1 J.2.1 d_MA_govern_35 hl (by decide) rfl ?_
    clear hl
    intro ls hl
    refine lv_iload J.1 J.2.1 d_MA_govern_37 (lv_at hl 0 rfl) ?_
    refine lv_iconst (v := (-1)) J.1 J.2.1 d_MA_govern_39 (by decide) ?_
    refine lv_icmp_eq (tgt := 55) J.1 J.2.1 d_MA_govern_40 (by decide) (fun c_3 => ?_) (fun c_3 => ?_)
    · replace h := g_t c_3 h
      refine lv_aload_n J.1 J.2.1 d_MA_govern_55 rfl (lv_at hl 1 rfl) ?_
      refine jg J hJ hP 0 rfl rfl i_MA 7 (by decide) gf_MA_47 rfl d_MA_govern_56 ?_
      refine lv_iload J.1 J.2.1 d_MA_govern_59 (lv_at hl 4 rfl) ?_
      refine lv_iadd J.1 J.2.1 d_MA_govern_61 ?_
      refine lv_istore (lv' := [(7, .int (vba + x5)), (6, .int r_2), (0, .ref a0), (1, .int x1), (2, .int x2), (5, .int x5)]) J.1 J.2.1 d_MA_govern_62 hl (by decide) rfl ?_
      clear hl
      intro ls hl
      refine lv_aload_n J.1 J.2.1 d_MA_govern_64 rfl (lv_at hl 2 rfl) ?_
      refine jg J hJ hP 0 rfl rfl i_MA 1 (by decide) gf_MA_15 rfl d_MA_govern_65 ?_
      refine lv_iload_n J.1 J.2.1 d_MA_govern_68 rfl (lv_at hl 4 rfl) ?_
      replace h := g_ck h
      obtain ⟨k_4, h⟩ := h
      refine jai J hJ hP 2 rfl k_4 d_MA_govern_69 ?_
      refine lv_bipush (v := 7) J.1 J.2.1 d_MA_govern_70 (by decide) ?_
      refine lv_iand J.1 J.2.1 d_MA_govern_72 ?_
      refine lv_bipush (v := 16) J.1 J.2.1 d_MA_govern_73 (by decide) ?_
      refine lv_imul J.1 J.2.1 d_MA_govern_75 ?_
      refine lv_istore (lv' := [(8, .int (((vreg x2.toNatClampNeg) &&& 7) * 16)), (7, .int (vba + x5)), (6, .int r_2), (0, .ref a0), (1, .int x1), (2, .int x2), (5, .int x5)]) J.1 J.2.1 d_MA_govern_76 hl (by decide) rfl ?_
      clear hl
      intro ls hl
      refine lv_aload_n J.1 J.2.1 d_MA_govern_78 rfl (lv_at hl 3 rfl) ?_
      refine jg J hJ hP 0 rfl rfl i_MA 6 (by decide) gf_MA_44 rfl d_MA_govern_79 ?_
      refine lv_iconst (v := 2) J.1 J.2.1 d_MA_govern_82 (by decide) ?_
      refine lv_iadd J.1 J.2.1 d_MA_govern_83 ?_
      refine lv_istore (lv' := [(9, .int (vpc + 2)), (8, .int (((vreg x2.toNatClampNeg) &&& 7) * 16)), (7, .int (vba + x5)), (6, .int r_2), (0, .ref a0), (1, .int x1), (2, .int x2), (5, .int x5)]) J.1 J.2.1 d_MA_govern_84 hl (by decide) rfl ?_
      clear hl
      intro ls hl
      refine lv_iload_n J.1 J.2.1 d_MA_govern_86 rfl (lv_at hl 5 rfl) ?_
      by_cases c_5 : (x1) = 0
      · replace h := g_t c_5 h
        refine lv_tableIn (off := 113) (tgt := 200) J.1 J.2.1 d_MA_govern_87 (by rw [c_5]; decide) (by rw [c_5]; decide) (by rw [c_5]; rfl) (by decide) ?_
        refine lv_aload_n J.1 J.2.1 d_MA_govern_200 rfl (lv_at hl 4 rfl) ?_
        refine lv_iconst (v := 1) J.1 J.2.1 d_MA_govern_201 (by decide) ?_
        refine jp J hJ hP hD hS 0 rfl rfl i_MA t_MA t_MA_ok n_MA 12 (by decide) gf_MA_63 rfl rfl rfl (Nat.le_of_ble_eq_true rfl) d_MA_govern_202 (WS' := [(a0, .inr (0, [.ref a1, .ref a2, .ref a3, .ref k0, .int vsz, .int vmd, .int vpc, .int vba, .int vbo, .int vre, .int vti, .int vro, .int 1])), (a1, .inl (E.2.1 0, 1844, .inl vmem)), (a2, .inl (E.2.1 0, 8, .inl vreg)), (a3, .inl (E.2.1 0, 128, .inl vblk)), (k0, .inr (1, [.ref k1, .ref k2, .int kold, .int kwai, .int ksnt])), (k1, .inl (E.2.1 0, 100, .inl ktyp)), (k2, .inl (E.2.1 0, 500, .inl ksen))]) rfl ?_
        clear hP hD hS
        intro H locs hP hD hS
        cases h
        exact jr_v J hS hP hD d_MA_govern_205
      replace h := g_f c_5 h
      by_cases c_6 : (x1) = 17
      · replace h := g_t c_6 h
        refine lv_tableIn (off := 119) (tgt := 206) J.1 J.2.1 d_MA_govern_87 (by rw [c_6]; decide) (by rw [c_6]; decide) (by rw [c_6]; rfl) (by decide) ?_
        refine lv_aload_n J.1 J.2.1 d_MA_govern_206 rfl (lv_at hl 4 rfl) ?_
        refine lv_iload J.1 J.2.1 d_MA_govern_207 (lv_at hl 2 rfl) ?_
        replace h := g_bd h
        obtain ⟨⟨vmd_7, vpc_7, vba_7, vbo_7, vre_7⟩, q_7, h⟩ := h
        try dsimp only at h
        refine jk_v (jrunV (As := [.int (vba + x5)]) (rest := []) J hJ hA hZ hP hD hS (ct_MA_takeStatus l E a0 a1 a2 a3 k0 _ vsz vmd vpc vba vbo vre vti vro vha vmem (vba + x5) vmd_7 vpc_7 vba_7 vbo_7 vre_7 q_7) [0, 1] rfl (by decide) gl_MA_96 gi_MA_takeStatus gsel_MA_takeStatus gini_MA gc_MA_takeStatus hd_MA_takeStatus ⟨rfl, rfl, Nat.le_of_ble_eq_true rfl, Nat.le_of_ble_eq_true rfl⟩ rfl rfl hl.1 rfl rfl (Nat.le_of_ble_eq_true rfl) d_MA_govern_209 ⟨Nat.zero_le _, Nat.zero_le _⟩) hA hP hD hS [0, 1] [2, 3, 4, 5, 6] (WR := [(a2, .inl (E.2.1 0, 8, .inl vreg)), (a3, .inl (E.2.1 0, 128, .inl vblk)), (k0, .inr (1, [.ref k1, .ref k2, .int kold, .int kwai, .int ksnt])), (k1, .inl (E.2.1 0, 100, .inl ktyp)), (k2, .inl (E.2.1 0, 500, .inl ksen))]) rfl rfl (by decide) (by decide) [5, 6, 0, 1, 2, 3, 4] (WF := [(a0, .inr (0, [.ref a1, .ref a2, .ref a3, .ref k0, .int vsz, .int vmd_7, .int vpc_7, .int vba_7, .int vbo_7, .int vre_7, .int vti, .int vro, .int vha])), (a1, .inl (E.2.1 0, 1844, .inl vmem)), (a2, .inl (E.2.1 0, 8, .inl vreg)), (a3, .inl (E.2.1 0, 128, .inl vblk)), (k0, .inr (1, [.ref k1, .ref k2, .int kold, .int kwai, .int ksnt])), (k1, .inl (E.2.1 0, 100, .inl ktyp)), (k2, .inl (E.2.1 0, 500, .inl ksen))]) rfl (by decide) ?_
        clear hP hD hS
        intro H locs hP hD hS
        cases h
        exact jr_v J hS hP hD d_MA_govern_212
      replace h := g_f c_6 h
      by_cases c_8 : (x1) = 18
      · replace h := g_t c_8 h
        refine lv_tableIn (off := 126) (tgt := 213) J.1 J.2.1 d_MA_govern_87 (by rw [c_8]; decide) (by rw [c_8]; decide) (by rw [c_8]; rfl) (by decide) ?_
        refine lv_aload_n J.1 J.2.1 d_MA_govern_213 rfl (lv_at hl 4 rfl) ?_
        refine lv_iload J.1 J.2.1 d_MA_govern_214 (lv_at hl 2 rfl) ?_
        refine lv_iload J.1 J.2.1 d_MA_govern_216 (lv_at hl 0 rfl) ?_
        replace h := g_bd h
        obtain ⟨vmem_9, q_9, h⟩ := h
        refine jk_v (jrunV (As := [.int (vba + x5), .int (vpc + 2)]) (rest := []) J hJ hA hZ hP hD hS (ct_MA_keepStatus l E a0 a1 a2 a3 k0 _ vsz vmd vpc vba vbo vre vti vro vha vmem (vba + x5) (vpc + 2) vmem_9 q_9) [0, 1] rfl (by decide) gl_MA_99 gi_MA_keepStatus gsel_MA_keepStatus gini_MA gc_MA_keepStatus hd_MA_keepStatus ⟨rfl, rfl, Nat.le_of_ble_eq_true rfl, Nat.le_of_ble_eq_true rfl⟩ rfl rfl hl.1 rfl rfl (Nat.le_of_ble_eq_true rfl) d_MA_govern_218 ⟨Nat.zero_le _, Nat.zero_le _⟩) hA hP hD hS [0, 1] [2, 3, 4, 5, 6] (WR := [(a2, .inl (E.2.1 0, 8, .inl vreg)), (a3, .inl (E.2.1 0, 128, .inl vblk)), (k0, .inr (1, [.ref k1, .ref k2, .int kold, .int kwai, .int ksnt])), (k1, .inl (E.2.1 0, 100, .inl ktyp)), (k2, .inl (E.2.1 0, 500, .inl ksen))]) rfl rfl (by decide) (by decide) [5, 6, 0, 1, 2, 3, 4] (WF := [(a0, .inr (0, [.ref a1, .ref a2, .ref a3, .ref k0, .int vsz, .int vmd, .int vpc, .int vba, .int vbo, .int vre, .int vti, .int vro, .int vha])), (a1, .inl (E.2.1 0, 1844, .inl vmem_9)), (a2, .inl (E.2.1 0, 8, .inl vreg)), (a3, .inl (E.2.1 0, 128, .inl vblk)), (k0, .inr (1, [.ref k1, .ref k2, .int kold, .int kwai, .int ksnt])), (k1, .inl (E.2.1 0, 100, .inl ktyp)), (k2, .inl (E.2.1 0, 500, .inl ksen))]) rfl (by decide) ?_
        clear hP hD hS
        intro H locs hP hD hS
        refine lv_goto (tgt := 331) J.1 J.2.1 d_MA_govern_221 (by decide) ?_
        refine lv_aload_n J.1 J.2.1 d_MA_govern_331 rfl (lv_at hl 4 rfl) ?_
        refine lv_iload J.1 J.2.1 d_MA_govern_332 (lv_at hl 0 rfl) ?_
        refine jp J hJ hP hD hS 0 rfl rfl i_MA t_MA t_MA_ok n_MA 6 (by decide) gf_MA_44 rfl rfl rfl (Nat.le_of_ble_eq_true rfl) d_MA_govern_334 (WS' := [(a0, .inr (0, [.ref a1, .ref a2, .ref a3, .ref k0, .int vsz, .int vmd, .int (vpc + 2), .int vba, .int vbo, .int vre, .int vti, .int vro, .int vha])), (a1, .inl (E.2.1 0, 1844, .inl vmem_9)), (a2, .inl (E.2.1 0, 8, .inl vreg)), (a3, .inl (E.2.1 0, 128, .inl vblk)), (k0, .inr (1, [.ref k1, .ref k2, .int kold, .int kwai, .int ksnt])), (k1, .inl (E.2.1 0, 100, .inl ktyp)), (k2, .inl (E.2.1 0, 500, .inl ksen))]) rfl ?_
        clear hP hD hS
        intro H locs hP hD hS
        cases h
        exact jr_v J hS hP hD d_MA_govern_337
      replace h := g_f c_8 h
      by_cases c_10 : (x1) = 19
      · replace h := g_t c_10 h
        refine lv_tableIn (off := 137) (tgt := 224) J.1 J.2.1 d_MA_govern_87 (by rw [c_10]; decide) (by rw [c_10]; decide) (by rw [c_10]; rfl) (by decide) ?_
        refine lv_aload_n J.1 J.2.1 d_MA_govern_224 rfl (lv_at hl 4 rfl) ?_
        refine lv_aload_n J.1 J.2.1 d_MA_govern_225 rfl (lv_at hl 4 rfl) ?_
        refine jg J hJ hP 0 rfl rfl i_MA 1 (by decide) gf_MA_15 rfl d_MA_govern_226 ?_
        refine lv_iload_n J.1 J.2.1 d_MA_govern_229 rfl (lv_at hl 6 rfl) ?_
        replace h := g_ck h
        obtain ⟨k_11, h⟩ := h
        refine jai J hJ hP 2 rfl k_11 d_MA_govern_230 ?_
        refine jp J hJ hP hD hS 0 rfl rfl i_MA t_MA t_MA_ok n_MA 10 (by decide) gf_MA_56 rfl rfl rfl (Nat.le_of_ble_eq_true rfl) d_MA_govern_231 (WS' := [(a0, .inr (0, [.ref a1, .ref a2, .ref a3, .ref k0, .int vsz, .int vmd, .int vpc, .int vba, .int vbo, .int vre, .int (vreg x2.toNatClampNeg), .int vro, .int vha])), (a1, .inl (E.2.1 0, 1844, .inl vmem)), (a2, .inl (E.2.1 0, 8, .inl vreg)), (a3, .inl (E.2.1 0, 128, .inl vblk)), (k0, .inr (1, [.ref k1, .ref k2, .int kold, .int kwai, .int ksnt])), (k1, .inl (E.2.1 0, 100, .inl ktyp)), (k2, .inl (E.2.1 0, 500, .inl ksen))]) rfl ?_
        clear hP hD hS
        intro H locs hP hD hS
        refine lv_aload_n J.1 J.2.1 d_MA_govern_234 rfl (lv_at hl 4 rfl) ?_
        refine lv_iconst (v := 0) J.1 J.2.1 d_MA_govern_235 (by decide) ?_
        refine jp J hJ hP hD hS 0 rfl rfl i_MA t_MA t_MA_ok n_MA 11 (by decide) gf_MA_59 rfl rfl rfl (Nat.le_of_ble_eq_true rfl) d_MA_govern_236 (WS' := [(a0, .inr (0, [.ref a1, .ref a2, .ref a3, .ref k0, .int vsz, .int vmd, .int vpc, .int vba, .int vbo, .int vre, .int (vreg x2.toNatClampNeg), .int 0, .int vha])), (a1, .inl (E.2.1 0, 1844, .inl vmem)), (a2, .inl (E.2.1 0, 8, .inl vreg)), (a3, .inl (E.2.1 0, 128, .inl vblk)), (k0, .inr (1, [.ref k1, .ref k2, .int kold, .int kwai, .int ksnt])), (k1, .inl (E.2.1 0, 100, .inl ktyp)), (k2, .inl (E.2.1 0, 500, .inl ksen))]) rfl ?_
        clear hP hD hS
        intro H locs hP hD hS
        refine lv_goto (tgt := 331) J.1 J.2.1 d_MA_govern_239 (by decide) ?_
        refine lv_aload_n J.1 J.2.1 d_MA_govern_331 rfl (lv_at hl 4 rfl) ?_
        refine lv_iload J.1 J.2.1 d_MA_govern_332 (lv_at hl 0 rfl) ?_
        refine jp J hJ hP hD hS 0 rfl rfl i_MA t_MA t_MA_ok n_MA 6 (by decide) gf_MA_44 rfl rfl rfl (Nat.le_of_ble_eq_true rfl) d_MA_govern_334 (WS' := [(a0, .inr (0, [.ref a1, .ref a2, .ref a3, .ref k0, .int vsz, .int vmd, .int (vpc + 2), .int vba, .int vbo, .int vre, .int (vreg x2.toNatClampNeg), .int 0, .int vha])), (a1, .inl (E.2.1 0, 1844, .inl vmem)), (a2, .inl (E.2.1 0, 8, .inl vreg)), (a3, .inl (E.2.1 0, 128, .inl vblk)), (k0, .inr (1, [.ref k1, .ref k2, .int kold, .int kwai, .int ksnt])), (k1, .inl (E.2.1 0, 100, .inl ktyp)), (k2, .inl (E.2.1 0, 500, .inl ksen))]) rfl ?_
        clear hP hD hS
        intro H locs hP hD hS
        cases h
        exact jr_v J hS hP hD d_MA_govern_337
      replace h := g_f c_10 h
      by_cases c_12 : (x1) = 20
      · replace h := g_t c_12 h
        refine lv_tableIn (off := 155) (tgt := 242) J.1 J.2.1 d_MA_govern_87 (by rw [c_12]; decide) (by rw [c_12]; decide) (by rw [c_12]; rfl) (by decide) ?_
        refine lv_aload_n J.1 J.2.1 d_MA_govern_242 rfl (lv_at hl 4 rfl) ?_
        refine jg J hJ hP 0 rfl rfl i_MA 1 (by decide) gf_MA_15 rfl d_MA_govern_243 ?_
        refine lv_iload_n J.1 J.2.1 d_MA_govern_246 rfl (lv_at hl 6 rfl) ?_
        refine lv_aload_n J.1 J.2.1 d_MA_govern_247 rfl (lv_at hl 4 rfl) ?_
        refine jg J hJ hP 0 rfl rfl i_MA 10 (by decide) gf_MA_56 rfl d_MA_govern_248 ?_
        replace h := g_ck h
        obtain ⟨k_13, h⟩ := h
        refine jsi J hJ hP hD hS 2 rfl k_13 d_MA_govern_251 (WS' := [(a0, .inr (0, [.ref a1, .ref a2, .ref a3, .ref k0, .int vsz, .int vmd, .int vpc, .int vba, .int vbo, .int vre, .int vti, .int vro, .int vha])), (a1, .inl (E.2.1 0, 1844, .inl vmem)), (a2, .inl (E.2.1 0, 8, .inl (upd vreg x2.toNatClampNeg vti))), (a3, .inl (E.2.1 0, 128, .inl vblk)), (k0, .inr (1, [.ref k1, .ref k2, .int kold, .int kwai, .int ksnt])), (k1, .inl (E.2.1 0, 100, .inl ktyp)), (k2, .inl (E.2.1 0, 500, .inl ksen))]) rfl ?_
        clear hP hD hS
        intro H locs hP hD hS
        refine lv_goto (tgt := 331) J.1 J.2.1 d_MA_govern_252 (by decide) ?_
        refine lv_aload_n J.1 J.2.1 d_MA_govern_331 rfl (lv_at hl 4 rfl) ?_
        refine lv_iload J.1 J.2.1 d_MA_govern_332 (lv_at hl 0 rfl) ?_
        refine jp J hJ hP hD hS 0 rfl rfl i_MA t_MA t_MA_ok n_MA 6 (by decide) gf_MA_44 rfl rfl rfl (Nat.le_of_ble_eq_true rfl) d_MA_govern_334 (WS' := [(a0, .inr (0, [.ref a1, .ref a2, .ref a3, .ref k0, .int vsz, .int vmd, .int (vpc + 2), .int vba, .int vbo, .int vre, .int vti, .int vro, .int vha])), (a1, .inl (E.2.1 0, 1844, .inl vmem)), (a2, .inl (E.2.1 0, 8, .inl (upd vreg x2.toNatClampNeg vti))), (a3, .inl (E.2.1 0, 128, .inl vblk)), (k0, .inr (1, [.ref k1, .ref k2, .int kold, .int kwai, .int ksnt])), (k1, .inl (E.2.1 0, 100, .inl ktyp)), (k2, .inl (E.2.1 0, 500, .inl ksen))]) rfl ?_
        clear hP hD hS
        intro H locs hP hD hS
        cases h
        exact jr_v J hS hP hD d_MA_govern_337
      replace h := g_f c_12 h
      by_cases c_14 : (x1) = 21
      · replace h := g_t c_14 h
        refine lv_tableIn (off := 168) (tgt := 255) J.1 J.2.1 d_MA_govern_87 (by rw [c_14]; decide) (by rw [c_14]; decide) (by rw [c_14]; rfl) (by decide) ?_
        refine lv_aload_n J.1 J.2.1 d_MA_govern_255 rfl (lv_at hl 4 rfl) ?_
        refine jg J hJ hP 0 rfl rfl i_MA 1 (by decide) gf_MA_15 rfl d_MA_govern_256 ?_
        refine lv_iload_n J.1 J.2.1 d_MA_govern_259 rfl (lv_at hl 6 rfl) ?_
        refine lv_aload_n J.1 J.2.1 d_MA_govern_260 rfl (lv_at hl 4 rfl) ?_
        refine jg J hJ hP 0 rfl rfl i_MA 3 (by decide) gf_MA_24 rfl d_MA_govern_261 ?_
        replace h := g_bd h
        obtain ⟨⟨r_15, kold_15, kwai_15⟩, q_15, h⟩ := h
        try dsimp only at h
        refine jk_i (jrunV (As := []) (rest := [.int x2, .ref a2]) J hJ hA hZ hP hD hS (ct_CO_nextTyped l E k0 k1 k2 _ kold kwai ksnt ktyp r_15 kold_15 kwai_15 q_15) [4, 5] rfl (by decide) gl_MA_103 gi_CO_nextTyped gsel_CO_nextTyped gini_CO gc_CO_nextTyped hd_CO_nextTyped ⟨rfl, rfl, Nat.le_of_ble_eq_true rfl, Nat.le_of_ble_eq_true rfl⟩ rfl rfl hl.1 rfl rfl (Nat.le_of_ble_eq_true rfl) d_MA_govern_264 ⟨Nat.zero_le _, Nat.zero_le _⟩) hA hP hD hS [4, 5] [0, 1, 2, 3, 6] (WR := [(a0, .inr (0, [.ref a1, .ref a2, .ref a3, .ref k0, .int vsz, .int vmd, .int vpc, .int vba, .int vbo, .int vre, .int vti, .int vro, .int vha])), (a1, .inl (E.2.1 0, 1844, .inl vmem)), (a2, .inl (E.2.1 0, 8, .inl vreg)), (a3, .inl (E.2.1 0, 128, .inl vblk)), (k2, .inl (E.2.1 0, 500, .inl ksen))]) rfl rfl (by decide) (by decide) [0, 1, 2, 3, 5, 6, 4] (WF := [(a0, .inr (0, [.ref a1, .ref a2, .ref a3, .ref k0, .int vsz, .int vmd, .int vpc, .int vba, .int vbo, .int vre, .int vti, .int vro, .int vha])), (a1, .inl (E.2.1 0, 1844, .inl vmem)), (a2, .inl (E.2.1 0, 8, .inl vreg)), (a3, .inl (E.2.1 0, 128, .inl vblk)), (k0, .inr (1, [.ref k1, .ref k2, .int kold_15, .int kwai_15, .int ksnt])), (k1, .inl (E.2.1 0, 100, .inl ktyp)), (k2, .inl (E.2.1 0, 500, .inl ksen))]) rfl (by decide) ?_
        clear hP hD hS
        intro H locs hP hD hS
        replace h := g_ck h
        obtain ⟨k_16, h⟩ := h
        refine jsi J hJ hP hD hS 2 rfl k_16 d_MA_govern_267 (WS' := [(a0, .inr (0, [.ref a1, .ref a2, .ref a3, .ref k0, .int vsz, .int vmd, .int vpc, .int vba, .int vbo, .int vre, .int vti, .int vro, .int vha])), (a1, .inl (E.2.1 0, 1844, .inl vmem)), (a2, .inl (E.2.1 0, 8, .inl (upd vreg x2.toNatClampNeg r_15))), (a3, .inl (E.2.1 0, 128, .inl vblk)), (k0, .inr (1, [.ref k1, .ref k2, .int kold_15, .int kwai_15, .int ksnt])), (k1, .inl (E.2.1 0, 100, .inl ktyp)), (k2, .inl (E.2.1 0, 500, .inl ksen))]) rfl ?_
        clear hP hD hS
        intro H locs hP hD hS
        refine lv_goto (tgt := 331) J.1 J.2.1 d_MA_govern_268 (by decide) ?_
        refine lv_aload_n J.1 J.2.1 d_MA_govern_331 rfl (lv_at hl 4 rfl) ?_
        refine lv_iload J.1 J.2.1 d_MA_govern_332 (lv_at hl 0 rfl) ?_
        refine jp J hJ hP hD hS 0 rfl rfl i_MA t_MA t_MA_ok n_MA 6 (by decide) gf_MA_44 rfl rfl rfl (Nat.le_of_ble_eq_true rfl) d_MA_govern_334 (WS' := [(a0, .inr (0, [.ref a1, .ref a2, .ref a3, .ref k0, .int vsz, .int vmd, .int (vpc + 2), .int vba, .int vbo, .int vre, .int vti, .int vro, .int vha])), (a1, .inl (E.2.1 0, 1844, .inl vmem)), (a2, .inl (E.2.1 0, 8, .inl (upd vreg x2.toNatClampNeg r_15))), (a3, .inl (E.2.1 0, 128, .inl vblk)), (k0, .inr (1, [.ref k1, .ref k2, .int kold_15, .int kwai_15, .int ksnt])), (k1, .inl (E.2.1 0, 100, .inl ktyp)), (k2, .inl (E.2.1 0, 500, .inl ksen))]) rfl ?_
        clear hP hD hS
        intro H locs hP hD hS
        cases h
        exact jr_v J hS hP hD d_MA_govern_337
      replace h := g_f c_14 h
      by_cases c_17 : (x1) = 22
      · replace h := g_t c_17 h
        refine lv_tableIn (off := 184) (tgt := 271) J.1 J.2.1 d_MA_govern_87 (by rw [c_17]; decide) (by rw [c_17]; decide) (by rw [c_17]; rfl) (by decide) ?_
        refine lv_aload_n J.1 J.2.1 d_MA_govern_271 rfl (lv_at hl 4 rfl) ?_
        refine jg J hJ hP 0 rfl rfl i_MA 3 (by decide) gf_MA_24 rfl d_MA_govern_272 ?_
        refine lv_aload_n J.1 J.2.1 d_MA_govern_275 rfl (lv_at hl 4 rfl) ?_
        refine jg J hJ hP 0 rfl rfl i_MA 1 (by decide) gf_MA_15 rfl d_MA_govern_276 ?_
        refine lv_iload_n J.1 J.2.1 d_MA_govern_279 rfl (lv_at hl 6 rfl) ?_
        replace h := g_ck h
        obtain ⟨k_18, h⟩ := h
        refine jai J hJ hP 2 rfl k_18 d_MA_govern_280 ?_
        refine lv_sipush (v := 255) J.1 J.2.1 d_MA_govern_281 (by decide) ?_
        refine lv_iand J.1 J.2.1 d_MA_govern_284 ?_
        replace h := g_bd h
        obtain ⟨⟨ksnt_19, ksen_19⟩, q_19, h⟩ := h
        try dsimp only at h
        refine jk_v (jrunV (As := [.int ((vreg x2.toNatClampNeg) &&& 255)]) (rest := []) J hJ hA hZ hP hD hS (ct_CO_send l E k0 k1 k2 _ kold kwai ksnt ksen ((vreg x2.toNatClampNeg) &&& 255) ksnt_19 ksen_19 q_19) [4, 6] rfl (by decide) gl_MA_107 gi_CO_send gsel_CO_send gini_CO gc_CO_send hd_CO_send ⟨rfl, rfl, Nat.le_of_ble_eq_true rfl, Nat.le_of_ble_eq_true rfl⟩ rfl rfl hl.1 rfl rfl (Nat.le_of_ble_eq_true rfl) d_MA_govern_285 ⟨Nat.zero_le _, Nat.zero_le _⟩) hA hP hD hS [4, 6] [0, 1, 2, 3, 5] (WR := [(a0, .inr (0, [.ref a1, .ref a2, .ref a3, .ref k0, .int vsz, .int vmd, .int vpc, .int vba, .int vbo, .int vre, .int vti, .int vro, .int vha])), (a1, .inl (E.2.1 0, 1844, .inl vmem)), (a2, .inl (E.2.1 0, 8, .inl vreg)), (a3, .inl (E.2.1 0, 128, .inl vblk)), (k1, .inl (E.2.1 0, 100, .inl ktyp))]) rfl rfl (by decide) (by decide) [0, 1, 2, 3, 5, 4, 6] (WF := [(a0, .inr (0, [.ref a1, .ref a2, .ref a3, .ref k0, .int vsz, .int vmd, .int vpc, .int vba, .int vbo, .int vre, .int vti, .int vro, .int vha])), (a1, .inl (E.2.1 0, 1844, .inl vmem)), (a2, .inl (E.2.1 0, 8, .inl vreg)), (a3, .inl (E.2.1 0, 128, .inl vblk)), (k0, .inr (1, [.ref k1, .ref k2, .int kold, .int kwai, .int ksnt_19])), (k1, .inl (E.2.1 0, 100, .inl ktyp)), (k2, .inl (E.2.1 0, 500, .inl ksen_19))]) rfl (by decide) ?_
        clear hP hD hS
        intro H locs hP hD hS
        refine lv_goto (tgt := 331) J.1 J.2.1 d_MA_govern_288 (by decide) ?_
        refine lv_aload_n J.1 J.2.1 d_MA_govern_331 rfl (lv_at hl 4 rfl) ?_
        refine lv_iload J.1 J.2.1 d_MA_govern_332 (lv_at hl 0 rfl) ?_
        refine jp J hJ hP hD hS 0 rfl rfl i_MA t_MA t_MA_ok n_MA 6 (by decide) gf_MA_44 rfl rfl rfl (Nat.le_of_ble_eq_true rfl) d_MA_govern_334 (WS' := [(a0, .inr (0, [.ref a1, .ref a2, .ref a3, .ref k0, .int vsz, .int vmd, .int (vpc + 2), .int vba, .int vbo, .int vre, .int vti, .int vro, .int vha])), (a1, .inl (E.2.1 0, 1844, .inl vmem)), (a2, .inl (E.2.1 0, 8, .inl vreg)), (a3, .inl (E.2.1 0, 128, .inl vblk)), (k0, .inr (1, [.ref k1, .ref k2, .int kold, .int kwai, .int ksnt_19])), (k1, .inl (E.2.1 0, 100, .inl ktyp)), (k2, .inl (E.2.1 0, 500, .inl ksen_19))]) rfl ?_
        clear hP hD hS
        intro H locs hP hD hS
        cases h
        exact jr_v J hS hP hD d_MA_govern_337
      replace h := g_f c_17 h
      by_cases c_20 : (x1) = 23
      · replace h := g_t c_20 h
        refine lv_tableIn (off := 204) (tgt := 291) J.1 J.2.1 d_MA_govern_87 (by rw [c_20]; decide) (by rw [c_20]; decide) (by rw [c_20]; rfl) (by decide) ?_
        refine lv_aload_n J.1 J.2.1 d_MA_govern_291 rfl (lv_at hl 4 rfl) ?_
        refine jg J hJ hP 0 rfl rfl i_MA 2 (by decide) gf_MA_18 rfl d_MA_govern_292 ?_
        refine lv_iload J.1 J.2.1 d_MA_govern_295 (lv_at hl 1 rfl) ?_
        refine lv_aload_n J.1 J.2.1 d_MA_govern_297 rfl (lv_at hl 4 rfl) ?_
        refine jg J hJ hP 0 rfl rfl i_MA 0 (by decide) gf_MA_9 rfl d_MA_govern_298 ?_
        refine lv_iload J.1 J.2.1 d_MA_govern_301 (lv_at hl 2 rfl) ?_
        refine lv_bipush (v := 16) J.1 J.2.1 d_MA_govern_303 (by decide) ?_
        replace h := g_ck h
        obtain ⟨k_21, h⟩ := h
        refine va_copyi J.1 J.2.1 (J.2.2.1.trans hl.1.symm) J.2.2.2.2.1 (J.2.2.2.2.2.1 _ gl_MA_110) (J.2.2.2.2.2.1 _ gn_JY_arraycopy) (J.2.2.2.2.2.1 _ gs_JY_arraycopy) (J.2.2.2.2.2.1 _ gini_JY) hJ.1 hP hD hS 3 1 0 0 rfl rfl rfl rfl rfl k_21.1 k_21.2.1 k_21.2.2.1 k_21.2.2.2.1 k_21.2.2.2.2 (fun _ _ => rfl) (Nat.le_of_ble_eq_true rfl) (Nat.le_of_ble_eq_true rfl) d_MA_govern_305 ?_
        clear hP hD hS
        intro H locs hP hD hS
        have hP : va_P E.1 classes [(a0, .inr (0, [.ref a1, .ref a2, .ref a3, .ref k0, .int vsz, .int vmd, .int vpc, .int vba, .int vbo, .int vre, .int vti, .int vro, .int vha])), (a1, .inl (E.2.1 0, 1844, .inl (va_cpy vblk vmem (((vreg x2.toNatClampNeg) &&& 7) * 16).toNatClampNeg (vba + x5).toNatClampNeg (16 : Int32).toNatClampNeg))), (a2, .inl (E.2.1 0, 8, .inl vreg)), (a3, .inl (E.2.1 0, 128, .inl vblk)), (k0, .inr (1, [.ref k1, .ref k2, .int kold, .int kwai, .int ksnt])), (k1, .inl (E.2.1 0, 100, .inl ktyp)), (k2, .inl (E.2.1 0, 500, .inl ksen))] H := hP
        have hD : va_D A [(a0, .inr (0, [.ref a1, .ref a2, .ref a3, .ref k0, .int vsz, .int vmd, .int vpc, .int vba, .int vbo, .int vre, .int vti, .int vro, .int vha])), (a1, .inl (E.2.1 0, 1844, .inl (va_cpy vblk vmem (((vreg x2.toNatClampNeg) &&& 7) * 16).toNatClampNeg (vba + x5).toNatClampNeg (16 : Int32).toNatClampNeg))), (a2, .inl (E.2.1 0, 8, .inl vreg)), (a3, .inl (E.2.1 0, 128, .inl vblk)), (k0, .inr (1, [.ref k1, .ref k2, .int kold, .int kwai, .int ksnt])), (k1, .inl (E.2.1 0, 100, .inl ktyp)), (k2, .inl (E.2.1 0, 500, .inl ksen))] := hD
        refine lv_goto (tgt := 331) J.1 J.2.1 d_MA_govern_308 (by decide) ?_
        refine lv_aload_n J.1 J.2.1 d_MA_govern_331 rfl (lv_at hl 4 rfl) ?_
        refine lv_iload J.1 J.2.1 d_MA_govern_332 (lv_at hl 0 rfl) ?_
        refine jp J hJ hP hD hS 0 rfl rfl i_MA t_MA t_MA_ok n_MA 6 (by decide) gf_MA_44 rfl rfl rfl (Nat.le_of_ble_eq_true rfl) d_MA_govern_334 (WS' := [(a0, .inr (0, [.ref a1, .ref a2, .ref a3, .ref k0, .int vsz, .int vmd, .int (vpc + 2), .int vba, .int vbo, .int vre, .int vti, .int vro, .int vha])), (a1, .inl (E.2.1 0, 1844, .inl (va_cpy vblk vmem (((vreg x2.toNatClampNeg) &&& 7) * 16).toNatClampNeg (vba + x5).toNatClampNeg (16 : Int32).toNatClampNeg))), (a2, .inl (E.2.1 0, 8, .inl vreg)), (a3, .inl (E.2.1 0, 128, .inl vblk)), (k0, .inr (1, [.ref k1, .ref k2, .int kold, .int kwai, .int ksnt])), (k1, .inl (E.2.1 0, 100, .inl ktyp)), (k2, .inl (E.2.1 0, 500, .inl ksen))]) rfl ?_
        clear hP hD hS
        intro H locs hP hD hS
        cases h
        exact jr_v J hS hP hD d_MA_govern_337
      replace h := g_f c_20 h
      by_cases c_22 : (x1) = 24
      · replace h := g_t c_22 h
        refine lv_tableIn (off := 224) (tgt := 311) J.1 J.2.1 d_MA_govern_87 (by rw [c_22]; decide) (by rw [c_22]; decide) (by rw [c_22]; rfl) (by decide) ?_
        refine lv_aload_n J.1 J.2.1 d_MA_govern_311 rfl (lv_at hl 4 rfl) ?_
        refine jg J hJ hP 0 rfl rfl i_MA 0 (by decide) gf_MA_9 rfl d_MA_govern_312 ?_
        refine lv_iload J.1 J.2.1 d_MA_govern_315 (lv_at hl 2 rfl) ?_
        refine lv_aload_n J.1 J.2.1 d_MA_govern_317 rfl (lv_at hl 4 rfl) ?_
        refine jg J hJ hP 0 rfl rfl i_MA 2 (by decide) gf_MA_18 rfl d_MA_govern_318 ?_
        refine lv_iload J.1 J.2.1 d_MA_govern_321 (lv_at hl 1 rfl) ?_
        refine lv_bipush (v := 16) J.1 J.2.1 d_MA_govern_323 (by decide) ?_
        replace h := g_ck h
        obtain ⟨k_23, h⟩ := h
        refine va_copyi J.1 J.2.1 (J.2.2.1.trans hl.1.symm) J.2.2.2.2.1 (J.2.2.2.2.2.1 _ gl_MA_110) (J.2.2.2.2.2.1 _ gn_JY_arraycopy) (J.2.2.2.2.2.1 _ gs_JY_arraycopy) (J.2.2.2.2.2.1 _ gini_JY) hJ.1 hP hD hS 1 3 0 0 rfl rfl rfl rfl rfl k_23.1 k_23.2.1 k_23.2.2.1 k_23.2.2.2.1 k_23.2.2.2.2 (fun _ _ => rfl) (Nat.le_of_ble_eq_true rfl) (Nat.le_of_ble_eq_true rfl) d_MA_govern_325 ?_
        clear hP hD hS
        intro H locs hP hD hS
        have hP : va_P E.1 classes [(a0, .inr (0, [.ref a1, .ref a2, .ref a3, .ref k0, .int vsz, .int vmd, .int vpc, .int vba, .int vbo, .int vre, .int vti, .int vro, .int vha])), (a1, .inl (E.2.1 0, 1844, .inl vmem)), (a2, .inl (E.2.1 0, 8, .inl vreg)), (a3, .inl (E.2.1 0, 128, .inl (va_cpy vmem vblk (vba + x5).toNatClampNeg (((vreg x2.toNatClampNeg) &&& 7) * 16).toNatClampNeg (16 : Int32).toNatClampNeg))), (k0, .inr (1, [.ref k1, .ref k2, .int kold, .int kwai, .int ksnt])), (k1, .inl (E.2.1 0, 100, .inl ktyp)), (k2, .inl (E.2.1 0, 500, .inl ksen))] H := hP
        have hD : va_D A [(a0, .inr (0, [.ref a1, .ref a2, .ref a3, .ref k0, .int vsz, .int vmd, .int vpc, .int vba, .int vbo, .int vre, .int vti, .int vro, .int vha])), (a1, .inl (E.2.1 0, 1844, .inl vmem)), (a2, .inl (E.2.1 0, 8, .inl vreg)), (a3, .inl (E.2.1 0, 128, .inl (va_cpy vmem vblk (vba + x5).toNatClampNeg (((vreg x2.toNatClampNeg) &&& 7) * 16).toNatClampNeg (16 : Int32).toNatClampNeg))), (k0, .inr (1, [.ref k1, .ref k2, .int kold, .int kwai, .int ksnt])), (k1, .inl (E.2.1 0, 100, .inl ktyp)), (k2, .inl (E.2.1 0, 500, .inl ksen))] := hD
        refine lv_goto (tgt := 331) J.1 J.2.1 d_MA_govern_328 (by decide) ?_
        refine lv_aload_n J.1 J.2.1 d_MA_govern_331 rfl (lv_at hl 4 rfl) ?_
        refine lv_iload J.1 J.2.1 d_MA_govern_332 (lv_at hl 0 rfl) ?_
        refine jp J hJ hP hD hS 0 rfl rfl i_MA t_MA t_MA_ok n_MA 6 (by decide) gf_MA_44 rfl rfl rfl (Nat.le_of_ble_eq_true rfl) d_MA_govern_334 (WS' := [(a0, .inr (0, [.ref a1, .ref a2, .ref a3, .ref k0, .int vsz, .int vmd, .int (vpc + 2), .int vba, .int vbo, .int vre, .int vti, .int vro, .int vha])), (a1, .inl (E.2.1 0, 1844, .inl vmem)), (a2, .inl (E.2.1 0, 8, .inl vreg)), (a3, .inl (E.2.1 0, 128, .inl (va_cpy vmem vblk (vba + x5).toNatClampNeg (((vreg x2.toNatClampNeg) &&& 7) * 16).toNatClampNeg (16 : Int32).toNatClampNeg))), (k0, .inr (1, [.ref k1, .ref k2, .int kold, .int kwai, .int ksnt])), (k1, .inl (E.2.1 0, 100, .inl ktyp)), (k2, .inl (E.2.1 0, 500, .inl ksen))]) rfl ?_
        clear hP hD hS
        intro H locs hP hD hS
        cases h
        exact jr_v J hS hP hD d_MA_govern_337
      replace h := g_f c_22 h
      refine jt_df (tgt := 331) J.1 J.2.1 d_MA_govern_87 (jt_or (lo := 0) (hi := 24) (fun q q2 => by
          have e0 := lv_neT c_5 (a := 0) (by decide)
          have e1 := lv_neT c_6 (a := 17) (by decide)
          have e2 := lv_neT c_8 (a := 18) (by decide)
          have e3 := lv_neT c_10 (a := 19) (by decide)
          have e4 := lv_neT c_12 (a := 20) (by decide)
          have e5 := lv_neT c_14 (a := 21) (by decide)
          have e6 := lv_neT c_17 (a := 22) (by decide)
          have e7 := lv_neT c_20 (a := 23) (by decide)
          have e8 := lv_neT c_22 (a := 24) (by decide)
          have e : (x1).toInt = 1 ∨ (x1).toInt = 2 ∨ (x1).toInt = 3 ∨ (x1).toInt = 4 ∨ (x1).toInt = 5 ∨ (x1).toInt = 6 ∨ (x1).toInt = 7 ∨ (x1).toInt = 8 ∨ (x1).toInt = 9 ∨ (x1).toInt = 10 ∨ (x1).toInt = 11 ∨ (x1).toInt = 12 ∨ (x1).toInt = 13 ∨ (x1).toInt = 14 ∨ (x1).toInt = 15 ∨ (x1).toInt = 16 := by omega
          rcases e with e | e | e | e | e | e | e | e | e | e | e | e | e | e | e | e <;> rw [e] <;> rfl)) (by decide) ?_
      refine lv_aload_n J.1 J.2.1 d_MA_govern_331 rfl (lv_at hl 4 rfl) ?_
      refine lv_iload J.1 J.2.1 d_MA_govern_332 (lv_at hl 0 rfl) ?_
      refine jp J hJ hP hD hS 0 rfl rfl i_MA t_MA t_MA_ok n_MA 6 (by decide) gf_MA_44 rfl rfl rfl (Nat.le_of_ble_eq_true rfl) d_MA_govern_334 (WS' := [(a0, .inr (0, [.ref a1, .ref a2, .ref a3, .ref k0, .int vsz, .int vmd, .int (vpc + 2), .int vba, .int vbo, .int vre, .int vti, .int vro, .int vha])), (a1, .inl (E.2.1 0, 1844, .inl vmem)), (a2, .inl (E.2.1 0, 8, .inl vreg)), (a3, .inl (E.2.1 0, 128, .inl vblk)), (k0, .inr (1, [.ref k1, .ref k2, .int kold, .int kwai, .int ksnt])), (k1, .inl (E.2.1 0, 100, .inl ktyp)), (k2, .inl (E.2.1 0, 500, .inl ksen))]) rfl ?_
      clear hP hD hS
      intro H locs hP hD hS
      cases h
      exact jr_v J hS hP hD d_MA_govern_337
    · replace h := g_f c_3 h
      refine lv_aload_n J.1 J.2.1 d_MA_govern_43 rfl (lv_at hl 1 rfl) ?_
      refine lv_iconst (v := 2) J.1 J.2.1 d_MA_govern_44 (by decide) ?_
      refine lv_iload J.1 J.2.1 d_MA_govern_45 (lv_at hl 0 rfl) ?_
      refine lv_aload_n J.1 J.2.1 d_MA_govern_47 rfl (lv_at hl 1 rfl) ?_
      refine jg J hJ hP 0 rfl rfl i_MA 6 (by decide) gf_MA_44 rfl d_MA_govern_48 ?_
      replace h := g_bd h
      obtain ⟨⟨vmd_24, vpc_24, vba_24, vbo_24, vre_24, vmem_24⟩, q_24, h⟩ := h
      try dsimp only at h
      refine jk_v (jrunV (As := [.int 2, .int r_2, .int vpc]) (rest := []) J hJ hA hZ hP hD hS (ct_MA_trap l E a0 a1 a2 a3 k0 _ vsz vmd vpc vba vbo vre vti vro vha vmem 2 r_2 vpc vmd_24 vpc_24 vba_24 vbo_24 vre_24 vmem_24 q_24) [0, 1] rfl (by decide) gl_MA_66 gi_MA_trap gsel_MA_trap gini_MA gc_MA_trap hd_MA_trap ⟨rfl, rfl, Nat.le_of_ble_eq_true rfl, Nat.le_of_ble_eq_true rfl⟩ rfl rfl hl.1 rfl rfl (Nat.le_of_ble_eq_true rfl) d_MA_govern_51 ⟨Nat.zero_le _, Nat.zero_le _⟩) hA hP hD hS [0, 1] [2, 3, 4, 5, 6] (WR := [(a2, .inl (E.2.1 0, 8, .inl vreg)), (a3, .inl (E.2.1 0, 128, .inl vblk)), (k0, .inr (1, [.ref k1, .ref k2, .int kold, .int kwai, .int ksnt])), (k1, .inl (E.2.1 0, 100, .inl ktyp)), (k2, .inl (E.2.1 0, 500, .inl ksen))]) rfl rfl (by decide) (by decide) [5, 6, 0, 1, 2, 3, 4] (WF := [(a0, .inr (0, [.ref a1, .ref a2, .ref a3, .ref k0, .int vsz, .int vmd_24, .int vpc_24, .int vba_24, .int vbo_24, .int vre_24, .int vti, .int vro, .int vha])), (a1, .inl (E.2.1 0, 1844, .inl vmem_24)), (a2, .inl (E.2.1 0, 8, .inl vreg)), (a3, .inl (E.2.1 0, 128, .inl vblk)), (k0, .inr (1, [.ref k1, .ref k2, .int kold, .int kwai, .int ksnt])), (k1, .inl (E.2.1 0, 100, .inl ktyp)), (k2, .inl (E.2.1 0, 500, .inl ksen))]) rfl (by decide) ?_
      clear hP hD hS
      intro H locs hP hD hS
      cases h
      exact jr_v J hS hP hD d_MA_govern_54
  unfold f_MA_govern at h
  refine lv_iload_n J.1 J.2.1 d_MA_govern_0 rfl (lv_at hl 1 rfl) ?_
  refine lv_bipush (v := 23) J.1 J.2.1 d_MA_govern_1 (by decide) ?_
  refine lv_icmp_ge (tgt := 11) J.1 J.2.1 d_MA_govern_3 (by decide) (fun c_25 => ?_) (fun c_25 => ?_)
  · replace h := g_t c_25 h
    refine lv_aload_n J.1 J.2.1 d_MA_govern_11 rfl (lv_at hl 0 rfl) ?_
    refine jg J hJ hP 0 rfl rfl i_MA 1 (by decide) gf_MA_15 rfl d_MA_govern_12 ?_
    refine lv_iload_n J.1 J.2.1 d_MA_govern_15 rfl (lv_at hl 3 rfl) ?_
    replace h := g_ck h
    obtain ⟨k_26, h⟩ := h
    refine jai J hJ hP 2 rfl k_26 d_MA_govern_16 ?_
    refine lv_iload J.1 J.2.1 d_MA_govern_17 (lv_at hl 4 rfl) ?_
    refine lv_iadd J.1 J.2.1 d_MA_govern_19 ?_
    refine lv_ldc (v := 65535) J.1 J.2.1 J.2.2.2.2.1 (J.2.2.2.2.2.1 _ gk_MA_70) d_MA_govern_20 ?_
    refine lv_iand J.1 J.2.1 d_MA_govern_22 ?_
    refine lv_istore (lv' := [(5, .int (((vreg p3.toNatClampNeg) + p4) &&& 65535)), (0, .ref a0), (1, .int p1), (2, .int p2), (3, .int p3), (4, .int p4)]) J.1 J.2.1 d_MA_govern_23 hl (by decide) rfl ?_
    clear hl
    intro ls hl
    exact K_25 _ _ _ _ _ _ _ _ _ _ _ _ _ _ _ _ _ _ _ _ _ _ _ h hP hD hS (lv_sub hl [1, 2, 3, 0] rfl)
  · replace h := g_f c_25 h
    refine lv_iload J.1 J.2.1 d_MA_govern_6 (lv_at hl 4 rfl) ?_
    refine lv_goto (tgt := 23) J.1 J.2.1 d_MA_govern_8 (by decide) ?_
    refine lv_istore (lv' := [(5, .int p4), (0, .ref a0), (1, .int p1), (2, .int p2), (3, .int p3), (4, .int p4)]) J.1 J.2.1 d_MA_govern_23 hl (by decide) rfl ?_
    clear hl
    intro ls hl
    exact K_25 _ _ _ _ _ _ _ _ _ _ _ _ _ _ _ _ _ _ _ _ _ _ _ h hP hD hS (lv_sub hl [1, 2, 3, 0] rfl)

theorem hd_MA_step : y_MA_step.cls ≠ "java/lang/invoke/MethodHandle" ∧ y_MA_step.cls ≠ "java/lang/invoke/VarHandle" ∧ (parseMethodDescriptor y_MA_step.desc).map (fun d => d.parameters.length) = some 0 := by decide +kernel
def b_MA_step_212 (vsz : Int32) (vmd : Int32) (vpc : Int32) (vba : Int32) (vbo : Int32) (vre : Int32) (vti : Int32) (vro : Int32) (vha : Int32) (vmem : Nat → Int32) (vreg : Nat → Int32) (vblk : Nat → Int32) (kold : Int32) (kwai : Int32) (ksnt : Int32) (ktyp : Nat → Int32) (ksen : Nat → Int32) (x1 : Int32) (x2 : Int32) (x3 : Int32) (x4 : Int32) (x5 : Int32) : Option (Int32 × Int32 × Int32 × Int32 × Int32 × Int32 × Int32 × Int32 × (Nat → Int32) × (Nat → Int32) × (Nat → Int32) × Int32 × Int32 × Int32 × (Nat → Int32)) := (if x3 = (16 : Int32) then ((f_MA_trap vsz vmd vba vbo vmem 3 x2 (vpc + 2)).bind fun (vmd_5, vpc_5, vba_5, vbo_5, vre_5, vmem_5) => (some (vmd_5, vpc_5, vba_5, vbo_5, vre_5, vti, vro, vha, vmem_5, vreg, vblk, kold, kwai, ksnt, ksen))) else (if vmd = (1 : Int32) then ((f_MA_trap vsz vmd vba vbo vmem 1 x1 vpc).bind fun (vmd_4, vpc_4, vba_4, vbo_4, vre_4, vmem_4) => (some (vmd_4, vpc_4, vba_4, vbo_4, vre_4, vti, vro, vha, vmem_4, vreg, vblk, kold, kwai, ksnt, ksen))) else ((f_MA_govern vsz vmd vpc vba vbo vre vti vro vha vmem vreg vblk kold kwai ksnt ktyp ksen x3 x4 x5 x2).bind fun (vmd_3, vpc_3, vba_3, vbo_3, vre_3, vti_3, vro_3, vha_3, vmem_3, vreg_3, vblk_3, kold_3, kwai_3, ksnt_3, ksen_3) => (some (vmd_3, vpc_3, vba_3, vbo_3, vre_3, vti_3, vro_3, vha_3, vmem_3, vreg_3, vblk_3, kold_3, kwai_3, ksnt_3, ksen_3)))))
def b_MA_step_189 (vsz : Int32) (vmd : Int32) (vpc : Int32) (vba : Int32) (vbo : Int32) (vre : Int32) (vti : Int32) (vro : Int32) (vha : Int32) (vmem : Nat → Int32) (vreg : Nat → Int32) (vblk : Nat → Int32) (kold : Int32) (kwai : Int32) (ksnt : Int32) (ktyp : Nat → Int32) (ksen : Nat → Int32) (x1 : Int32) (x2 : Int32) (x3 : Int32) (x4 : Int32) (x5 : Int32) : Option (Int32 × Int32 × Int32 × Int32 × Int32 × Int32 × Int32 × Int32 × (Nat → Int32) × (Nat → Int32) × (Nat → Int32) × Int32 × Int32 × Int32 × (Nat → Int32)) := (if x3 ≤ (0 : Int32) then b_MA_step_212 vsz vmd vpc vba vbo vre vti vro vha vmem vreg vblk kold kwai ksnt ktyp ksen x1 x2 x3 x4 x5 else (if (16 : Int32) ≤ x3 then b_MA_step_212 vsz vmd vpc vba vbo vre vti vro vha vmem vreg vblk kold kwai ksnt ktyp ksen x1 x2 x3 x4 x5 else ((f_MA_compute vmd vpc vti vro vreg x3 x4 x5 x2).bind fun (vpc_8, vti_8, vro_8, vreg_8) => (some (vmd, vpc_8, vba, vbo, vre, vti_8, vro_8, vha, vmem, vreg_8, vblk, kold, kwai, ksnt, ksen)))))
def b_MA_step_31 (vsz : Int32) (vmd : Int32) (vpc : Int32) (vba : Int32) (vbo : Int32) (vre : Int32) (vti : Int32) (vro : Int32) (vha : Int32) (vmem : Nat → Int32) (vreg : Nat → Int32) (vblk : Nat → Int32) (kold : Int32) (kwai : Int32) (ksnt : Int32) (ktyp : Nat → Int32) (ksen : Nat → Int32) : Option (Int32 × Int32 × Int32 × Int32 × Int32 × Int32 × Int32 × Int32 × (Nat → Int32) × (Nat → Int32) × (Nat → Int32) × Int32 × Int32 × Int32 × (Nat → Int32)) := (if (vpc + 1) < vre then (if ck (vba + vpc) 1844 then (if ck ((vba + vpc) + 1) 1844 then (if ((vmem (vba + vpc).toNatClampNeg) >>> (6 &&& 31)) ≤ (24 : Int32) then (if ((vmem (vba + vpc).toNatClampNeg) >>> (6 &&& 31)) < (2 : Int32) then b_MA_step_189 vsz vmd vpc vba vbo vre vti vro vha vmem vreg vblk kold kwai ksnt ktyp ksen (vmem (vba + vpc).toNatClampNeg) (vmem ((vba + vpc) + 1).toNatClampNeg) ((vmem (vba + vpc).toNatClampNeg) >>> (6 &&& 31)) (((vmem (vba + vpc).toNatClampNeg) >>> (3 &&& 31)) &&& 7) ((vmem (vba + vpc).toNatClampNeg) &&& 7) else (if (5 : Int32) < ((vmem (vba + vpc).toNatClampNeg) >>> (6 &&& 31)) then b_MA_step_189 vsz vmd vpc vba vbo vre vti vro vha vmem vreg vblk kold kwai ksnt ktyp ksen (vmem (vba + vpc).toNatClampNeg) (vmem ((vba + vpc) + 1).toNatClampNeg) ((vmem (vba + vpc).toNatClampNeg) >>> (6 &&& 31)) (((vmem (vba + vpc).toNatClampNeg) >>> (3 &&& 31)) &&& 7) ((vmem (vba + vpc).toNatClampNeg) &&& 7) else (if (4 : Int32) ≤ ((vmem (vba + vpc).toNatClampNeg) >>> (6 &&& 31)) then (if ck ((vmem (vba + vpc).toNatClampNeg) &&& 7) 8 then ((f_MA_access vsz vmd vpc vba vbo vre vti vro vmem vreg ((vmem (vba + vpc).toNatClampNeg) >>> (6 &&& 31)) (((vmem (vba + vpc).toNatClampNeg) >>> (3 &&& 31)) &&& 7) (((vreg ((vmem (vba + vpc).toNatClampNeg) &&& 7).toNatClampNeg) + (vmem ((vba + vpc) + 1).toNatClampNeg)) &&& 65535)).bind fun (vmd_17, vpc_17, vba_17, vbo_17, vre_17, vti_17, vro_17, vmem_17, vreg_17) => (some (vmd_17, vpc_17, vba_17, vbo_17, vre_17, vti_17, vro_17, vha, vmem_17, vreg_17, vblk, kold, kwai, ksnt, ksen))) else none) else ((f_MA_access vsz vmd vpc vba vbo vre vti vro vmem vreg ((vmem (vba + vpc).toNatClampNeg) >>> (6 &&& 31)) (((vmem (vba + vpc).toNatClampNeg) >>> (3 &&& 31)) &&& 7) (vmem ((vba + vpc) + 1).toNatClampNeg)).bind fun (vmd_18, vpc_18, vba_18, vbo_18, vre_18, vti_18, vro_18, vmem_18, vreg_18) => (some (vmd_18, vpc_18, vba_18, vbo_18, vre_18, vti_18, vro_18, vha, vmem_18, vreg_18, vblk, kold, kwai, ksnt, ksen)))))) else ((f_MA_trap vsz vmd vba vbo vmem 5 (vmem (vba + vpc).toNatClampNeg) vpc).bind fun (vmd_19, vpc_19, vba_19, vbo_19, vre_19, vmem_19) => (some (vmd_19, vpc_19, vba_19, vbo_19, vre_19, vti, vro, vha, vmem_19, vreg, vblk, kold, kwai, ksnt, ksen)))) else none) else none) else (if vre ≤ vpc then ((f_MA_trap vsz vmd vba vbo vmem 2 vpc vpc).bind fun (vmd_21, vpc_21, vba_21, vbo_21, vre_21, vmem_21) => (some (vmd_21, vpc_21, vba_21, vbo_21, vre_21, vti, vro, vha, vmem_21, vreg, vblk, kold, kwai, ksnt, ksen))) else ((f_MA_trap vsz vmd vba vbo vmem 2 (vpc + 1) vpc).bind fun (vmd_22, vpc_22, vba_22, vbo_22, vre_22, vmem_22) => (some (vmd_22, vpc_22, vba_22, vbo_22, vre_22, vti, vro, vha, vmem_22, vreg, vblk, kold, kwai, ksnt, ksen)))))
def f_MA_step (vsz : Int32) (vmd : Int32) (vpc : Int32) (vba : Int32) (vbo : Int32) (vre : Int32) (vti : Int32) (vro : Int32) (vha : Int32) (vmem : Nat → Int32) (vreg : Nat → Int32) (vblk : Nat → Int32) (kold : Int32) (kwai : Int32) (ksnt : Int32) (ktyp : Nat → Int32) (ksen : Nat → Int32) : Option (Int32 × Int32 × Int32 × Int32 × Int32 × Int32 × Int32 × Int32 × (Nat → Int32) × (Nat → Int32) × (Nat → Int32) × Int32 × Int32 × Int32 × (Nat → Int32)) := (if vmd = (1 : Int32) then (if vro = (0 : Int32) then b_MA_step_31 vsz vmd vpc vba vbo vre vti vro vha vmem vreg vblk kold kwai ksnt ktyp ksen else ((f_MA_trap vsz vmd vba vbo vmem 4 0 vpc).bind fun (vmd_25, vpc_25, vba_25, vbo_25, vre_25, vmem_25) => (some (vmd_25, vpc_25, vba_25, vbo_25, vre_25, vti, 0, vha, vmem_25, vreg, vblk, kold, kwai, ksnt, ksen)))) else b_MA_step_31 vsz vmd vpc vba vbo vre vti vro vha vmem vreg vblk kold kwai ksnt ktyp ksen)
set_option maxHeartbeats 4000000 in
set_option maxRecDepth 100000 in
theorem ct_MA_step (l : Launch) (E : jz_E) (a0 a1 a2 a3 k0 k1 k2 : Nat) (sz : Nat) (vsz : Int32) (vmd : Int32) (vpc : Int32) (vba : Int32) (vbo : Int32) (vre : Int32) (vti : Int32) (vro : Int32) (vha : Int32) (vmem : Nat → Int32) (vreg : Nat → Int32) (vblk : Nat → Int32) (kold : Int32) (kwai : Int32) (ksnt : Int32) (ktyp : Nat → Int32) (ksen : Nat → Int32) (o_vmd : Int32) (o_vpc : Int32) (o_vba : Int32) (o_vbo : Int32) (o_vre : Int32) (o_vti : Int32) (o_vro : Int32) (o_vha : Int32) (o_vmem : Nat → Int32) (o_vreg : Nat → Int32) (o_vblk : Nat → Int32) (o_kold : Int32) (o_kwai : Int32) (o_ksnt : Int32) (o_ksen : Nat → Int32)  (h : f_MA_step vsz vmd vpc vba vbo vre vti vro vha vmem vreg vblk kold kwai ksnt ktyp ksen = some (o_vmd, o_vpc, o_vba, o_vbo, o_vre, o_vti, o_vro, o_vha, o_vmem, o_vreg, o_vblk, o_kold, o_kwai, o_ksnt, o_ksen)) : CTv l E y_MA_step c_MA_step 6 none ({ frames := 3, cells := 0, slots := 0, locals := 129 }) [.ref a0] [(a0, .inr (0, [.ref a1, .ref a2, .ref a3, .ref k0, .int vsz, .int vmd, .int vpc, .int vba, .int vbo, .int vre, .int vti, .int vro, .int vha])), (a1, .inl (E.2.1 0, 1844, .inl vmem)), (a2, .inl (E.2.1 0, 8, .inl vreg)), (a3, .inl (E.2.1 0, 128, .inl vblk)), (k0, .inr (1, [.ref k1, .ref k2, .int kold, .int kwai, .int ksnt])), (k1, .inl (E.2.1 0, 100, .inl ktyp)), (k2, .inl (E.2.1 0, 500, .inl ksen))] sz [(a0, .inr (0, [.ref a1, .ref a2, .ref a3, .ref k0, .int vsz, .int o_vmd, .int o_vpc, .int o_vba, .int o_vbo, .int o_vre, .int o_vti, .int o_vro, .int o_vha])), (a1, .inl (E.2.1 0, 1844, .inl o_vmem)), (a2, .inl (E.2.1 0, 8, .inl o_vreg)), (a3, .inl (E.2.1 0, 128, .inl o_vblk)), (k0, .inr (1, [.ref k1, .ref k2, .int o_kold, .int o_kwai, .int o_ksnt])), (k1, .inl (E.2.1 0, 100, .inl ktyp)), (k2, .inl (E.2.1 0, 500, .inl o_ksen))] := by
  refine jw (by decide +kernel) (Nat.le_of_ble_eq_true rfl) ?_
  intro p e s m below meth c A ls J hJ hAe hsz hA hZ hP hD hl
  rw [← hAe]
  have hS : va_S A s.heap s.heap [] := va_S.rf
  have hl : lv_has ls 6 [(0, .ref a0)] := hl
  have K_212 : ∀ (vsz : Int32) (vmd : Int32) (vpc : Int32) (vba : Int32) (vbo : Int32) (vre : Int32) (vti : Int32) (vro : Int32) (vha : Int32) (vmem : Nat → Int32) (vreg : Nat → Int32) (vblk : Nat → Int32) (kold : Int32) (kwai : Int32) (ksnt : Int32) (ktyp : Nat → Int32) (ksen : Nat → Int32) (x1 : Int32) (x2 : Int32) (x3 : Int32) (x4 : Int32) (x5 : Int32) (H : Heap) (locs : List Loc) (ls : Array Slot), b_MA_step_212 vsz vmd vpc vba vbo vre vti vro vha vmem vreg vblk kold kwai ksnt ktyp ksen x1 x2 x3 x4 x5 = some (o_vmd, o_vpc, o_vba, o_vbo, o_vre, o_vti, o_vro, o_vha, o_vmem, o_vreg, o_vblk, o_kold, o_kwai, o_ksnt, o_ksen) → va_P E.1 classes [(a0, .inr (0, [.ref a1, .ref a2, .ref a3, .ref k0, .int vsz, .int vmd, .int vpc, .int vba, .int vbo, .int vre, .int vti, .int vro, .int vha])), (a1, .inl (E.2.1 0, 1844, .inl vmem)), (a2, .inl (E.2.1 0, 8, .inl vreg)), (a3, .inl (E.2.1 0, 128, .inl vblk)), (k0, .inr (1, [.ref k1, .ref k2, .int kold, .int kwai, .int ksnt])), (k1, .inl (E.2.1 0, 100, .inl ktyp)), (k2, .inl (E.2.1 0, 500, .inl ksen))] H → va_D A [(a0, .inr (0, [.ref a1, .ref a2, .ref a3, .ref k0, .int vsz, .int vmd, .int vpc, .int vba, .int vbo, .int vre, .int vti, .int vro, .int vha])), (a1, .inl (E.2.1 0, 1844, .inl vmem)), (a2, .inl (E.2.1 0, 8, .inl vreg)), (a3, .inl (E.2.1 0, 128, .inl vblk)), (k0, .inr (1, [.ref k1, .ref k2, .int kold, .int kwai, .int ksnt])), (k1, .inl (E.2.1 0, 100, .inl ktyp)), (k2, .inl (E.2.1 0, 500, .inl ksen))] → va_S A s.heap H locs → lv_has ls 6 [(0, .ref a0), (1, .int x1), (2, .int x2), (3, .int x3), (4, .int x4), (5, .int x5)] → W p l e ({ frames := 3, cells := 0, slots := 0, locals := 129 }) s m ([.ref a0] : List Value).toArray below meth c H locs 0 0 (MQ below (va_Qv (fun (u : va_W) => u = [(a0, .inr (0, [.ref a1, .ref a2, .ref a3, .ref k0, .int vsz, .int o_vmd, .int o_vpc, .int o_vba, .int o_vbo, .int o_vre, .int o_vti, .int o_vro, .int o_vha])), (a1, .inl (E.2.1 0, 1844, .inl o_vmem)), (a2, .inl (E.2.1 0, 8, .inl o_vreg)), (a3, .inl (E.2.1 0, 128, .inl o_vblk)), (k0, .inr (1, [.ref k1, .ref k2, .int o_kold, .int o_kwai, .int o_ksnt])), (k1, .inl (E.2.1 0, 100, .inl ktyp)), (k2, .inl (E.2.1 0, 500, .inl o_ksen))]) (BW E A) A) ([.ref a0] : List Value).toArray s 0 0 A) (F0 m 212 ls []) := by
    intro vsz vmd vpc vba vbo vre vti vro vha vmem vreg vblk kold kwai ksnt ktyp ksen x1 x2 x3 x4 x5 H locs ls h hP hD hS hl
    rw [b_MA_step_212] at h
    refine lv_iload_n J.1 J.2.1 d_MA_step_212 rfl (lv_at hl 3 rfl) ?_
    refine lv_bipush (v := 16) J.1 J.2.1 d_MA_step_213 (by decide) ?_
    refine lv_icmp_ne (tgt := 233) J.1 J.2.1 d_MA_step_215 (by decide) (fun c_1 => ?_) (fun c_1 => ?_)
    · replace h := g_f c_1 h
      refine lv_aload_n J.1 J.2.1 d_MA_step_233 rfl (lv_at hl 0 rfl) ?_
      refine jg J hJ hP 0 rfl rfl i_MA 5 (by decide) gf_MA_41 rfl d_MA_step_234 ?_
      refine lv_iconst (v := 1) J.1 J.2.1 d_MA_step_237 (by decide) ?_
      refine lv_icmp_ne (tgt := 254) J.1 J.2.1 d_MA_step_238 (by decide) (fun c_2 => ?_) (fun c_2 => ?_)
      · replace h := g_f c_2 h
        refine lv_aload_n J.1 J.2.1 d_MA_step_254 rfl (lv_at hl 0 rfl) ?_
        refine lv_iload_n J.1 J.2.1 d_MA_step_255 rfl (lv_at hl 3 rfl) ?_
        refine lv_iload J.1 J.2.1 d_MA_step_256 (lv_at hl 4 rfl) ?_
        refine lv_iload J.1 J.2.1 d_MA_step_258 (lv_at hl 5 rfl) ?_
        refine lv_iload_n J.1 J.2.1 d_MA_step_260 rfl (lv_at hl 2 rfl) ?_
        replace h := g_bd h
        obtain ⟨⟨vmd_3, vpc_3, vba_3, vbo_3, vre_3, vti_3, vro_3, vha_3, vmem_3, vreg_3, vblk_3, kold_3, kwai_3, ksnt_3, ksen_3⟩, q_3, h⟩ := h
        try dsimp only at h
        refine jk_v (jrunV (As := [.int x3, .int x4, .int x5, .int x2]) (rest := []) J hJ hA hZ hP hD hS (ct_MA_govern l E a0 a1 a2 a3 k0 k1 k2 _ vsz vmd vpc vba vbo vre vti vro vha vmem vreg vblk kold kwai ksnt ktyp ksen x3 x4 x5 x2 vmd_3 vpc_3 vba_3 vbo_3 vre_3 vti_3 vro_3 vha_3 vmem_3 vreg_3 vblk_3 kold_3 kwai_3 ksnt_3 ksen_3 q_3) [0, 1, 2, 3, 4, 5, 6] rfl (by decide) gl_MA_78 gi_MA_govern gsel_MA_govern gini_MA gc_MA_govern hd_MA_govern ⟨rfl, rfl, Nat.le_of_ble_eq_true rfl, Nat.le_of_ble_eq_true rfl⟩ rfl rfl hl.1 rfl rfl (Nat.le_of_ble_eq_true rfl) d_MA_step_261 ⟨Nat.zero_le _, Nat.zero_le _⟩) hA hP hD hS [0, 1, 2, 3, 4, 5, 6] [] (WR := []) rfl rfl (by decide) (by decide) [0, 1, 2, 3, 4, 5, 6] (WF := [(a0, .inr (0, [.ref a1, .ref a2, .ref a3, .ref k0, .int vsz, .int vmd_3, .int vpc_3, .int vba_3, .int vbo_3, .int vre_3, .int vti_3, .int vro_3, .int vha_3])), (a1, .inl (E.2.1 0, 1844, .inl vmem_3)), (a2, .inl (E.2.1 0, 8, .inl vreg_3)), (a3, .inl (E.2.1 0, 128, .inl vblk_3)), (k0, .inr (1, [.ref k1, .ref k2, .int kold_3, .int kwai_3, .int ksnt_3])), (k1, .inl (E.2.1 0, 100, .inl ktyp)), (k2, .inl (E.2.1 0, 500, .inl ksen_3))]) rfl (by decide) ?_
        clear hP hD hS
        intro H locs hP hD hS
        cases h
        exact jr_v J hS hP hD d_MA_step_264
      · replace h := g_t c_2 h
        refine lv_aload_n J.1 J.2.1 d_MA_step_241 rfl (lv_at hl 0 rfl) ?_
        refine lv_iconst (v := 1) J.1 J.2.1 d_MA_step_242 (by decide) ?_
        refine lv_iload_n J.1 J.2.1 d_MA_step_243 rfl (lv_at hl 1 rfl) ?_
        refine lv_aload_n J.1 J.2.1 d_MA_step_244 rfl (lv_at hl 0 rfl) ?_
        refine jg J hJ hP 0 rfl rfl i_MA 6 (by decide) gf_MA_44 rfl d_MA_step_245 ?_
        replace h := g_bd h
        obtain ⟨⟨vmd_4, vpc_4, vba_4, vbo_4, vre_4, vmem_4⟩, q_4, h⟩ := h
        try dsimp only at h
        refine jk_v (jrunV (As := [.int 1, .int x1, .int vpc]) (rest := []) J hJ hA hZ hP hD hS (ct_MA_trap l E a0 a1 a2 a3 k0 _ vsz vmd vpc vba vbo vre vti vro vha vmem 1 x1 vpc vmd_4 vpc_4 vba_4 vbo_4 vre_4 vmem_4 q_4) [0, 1] rfl (by decide) gl_MA_66 gi_MA_trap gsel_MA_trap gini_MA gc_MA_trap hd_MA_trap ⟨rfl, rfl, Nat.le_of_ble_eq_true rfl, Nat.le_of_ble_eq_true rfl⟩ rfl rfl hl.1 rfl rfl (Nat.le_of_ble_eq_true rfl) d_MA_step_248 ⟨Nat.zero_le _, Nat.zero_le _⟩) hA hP hD hS [0, 1] [2, 3, 4, 5, 6] (WR := [(a2, .inl (E.2.1 0, 8, .inl vreg)), (a3, .inl (E.2.1 0, 128, .inl vblk)), (k0, .inr (1, [.ref k1, .ref k2, .int kold, .int kwai, .int ksnt])), (k1, .inl (E.2.1 0, 100, .inl ktyp)), (k2, .inl (E.2.1 0, 500, .inl ksen))]) rfl rfl (by decide) (by decide) [5, 6, 0, 1, 2, 3, 4] (WF := [(a0, .inr (0, [.ref a1, .ref a2, .ref a3, .ref k0, .int vsz, .int vmd_4, .int vpc_4, .int vba_4, .int vbo_4, .int vre_4, .int vti, .int vro, .int vha])), (a1, .inl (E.2.1 0, 1844, .inl vmem_4)), (a2, .inl (E.2.1 0, 8, .inl vreg)), (a3, .inl (E.2.1 0, 128, .inl vblk)), (k0, .inr (1, [.ref k1, .ref k2, .int kold, .int kwai, .int ksnt])), (k1, .inl (E.2.1 0, 100, .inl ktyp)), (k2, .inl (E.2.1 0, 500, .inl ksen))]) rfl (by decide) ?_
        clear hP hD hS
        intro H locs hP hD hS
        refine lv_goto (tgt := 264) J.1 J.2.1 d_MA_step_251 (by decide) ?_
        cases h
        exact jr_v J hS hP hD d_MA_step_264
    · replace h := g_t c_1 h
      refine lv_aload_n J.1 J.2.1 d_MA_step_218 rfl (lv_at hl 0 rfl) ?_
      refine lv_iconst (v := 3) J.1 J.2.1 d_MA_step_219 (by decide) ?_
      refine lv_iload_n J.1 J.2.1 d_MA_step_220 rfl (lv_at hl 2 rfl) ?_
      refine lv_aload_n J.1 J.2.1 d_MA_step_221 rfl (lv_at hl 0 rfl) ?_
      refine jg J hJ hP 0 rfl rfl i_MA 6 (by decide) gf_MA_44 rfl d_MA_step_222 ?_
      refine lv_iconst (v := 2) J.1 J.2.1 d_MA_step_225 (by decide) ?_
      refine lv_iadd J.1 J.2.1 d_MA_step_226 ?_
      replace h := g_bd h
      obtain ⟨⟨vmd_5, vpc_5, vba_5, vbo_5, vre_5, vmem_5⟩, q_5, h⟩ := h
      try dsimp only at h
      refine jk_v (jrunV (As := [.int 3, .int x2, .int (vpc + 2)]) (rest := []) J hJ hA hZ hP hD hS (ct_MA_trap l E a0 a1 a2 a3 k0 _ vsz vmd vpc vba vbo vre vti vro vha vmem 3 x2 (vpc + 2) vmd_5 vpc_5 vba_5 vbo_5 vre_5 vmem_5 q_5) [0, 1] rfl (by decide) gl_MA_66 gi_MA_trap gsel_MA_trap gini_MA gc_MA_trap hd_MA_trap ⟨rfl, rfl, Nat.le_of_ble_eq_true rfl, Nat.le_of_ble_eq_true rfl⟩ rfl rfl hl.1 rfl rfl (Nat.le_of_ble_eq_true rfl) d_MA_step_227 ⟨Nat.zero_le _, Nat.zero_le _⟩) hA hP hD hS [0, 1] [2, 3, 4, 5, 6] (WR := [(a2, .inl (E.2.1 0, 8, .inl vreg)), (a3, .inl (E.2.1 0, 128, .inl vblk)), (k0, .inr (1, [.ref k1, .ref k2, .int kold, .int kwai, .int ksnt])), (k1, .inl (E.2.1 0, 100, .inl ktyp)), (k2, .inl (E.2.1 0, 500, .inl ksen))]) rfl rfl (by decide) (by decide) [5, 6, 0, 1, 2, 3, 4] (WF := [(a0, .inr (0, [.ref a1, .ref a2, .ref a3, .ref k0, .int vsz, .int vmd_5, .int vpc_5, .int vba_5, .int vbo_5, .int vre_5, .int vti, .int vro, .int vha])), (a1, .inl (E.2.1 0, 1844, .inl vmem_5)), (a2, .inl (E.2.1 0, 8, .inl vreg)), (a3, .inl (E.2.1 0, 128, .inl vblk)), (k0, .inr (1, [.ref k1, .ref k2, .int kold, .int kwai, .int ksnt])), (k1, .inl (E.2.1 0, 100, .inl ktyp)), (k2, .inl (E.2.1 0, 500, .inl ksen))]) rfl (by decide) ?_
      clear hP hD hS
      intro H locs hP hD hS
      refine lv_goto (tgt := 264) J.1 J.2.1 d_MA_step_230 (by decide) ?_
      cases h
      exact jr_v J hS hP hD d_MA_step_264
  have K_189 : ∀ (vsz : Int32) (vmd : Int32) (vpc : Int32) (vba : Int32) (vbo : Int32) (vre : Int32) (vti : Int32) (vro : Int32) (vha : Int32) (vmem : Nat → Int32) (vreg : Nat → Int32) (vblk : Nat → Int32) (kold : Int32) (kwai : Int32) (ksnt : Int32) (ktyp : Nat → Int32) (ksen : Nat → Int32) (x1 : Int32) (x2 : Int32) (x3 : Int32) (x4 : Int32) (x5 : Int32) (H : Heap) (locs : List Loc) (ls : Array Slot), b_MA_step_189 vsz vmd vpc vba vbo vre vti vro vha vmem vreg vblk kold kwai ksnt ktyp ksen x1 x2 x3 x4 x5 = some (o_vmd, o_vpc, o_vba, o_vbo, o_vre, o_vti, o_vro, o_vha, o_vmem, o_vreg, o_vblk, o_kold, o_kwai, o_ksnt, o_ksen) → va_P E.1 classes [(a0, .inr (0, [.ref a1, .ref a2, .ref a3, .ref k0, .int vsz, .int vmd, .int vpc, .int vba, .int vbo, .int vre, .int vti, .int vro, .int vha])), (a1, .inl (E.2.1 0, 1844, .inl vmem)), (a2, .inl (E.2.1 0, 8, .inl vreg)), (a3, .inl (E.2.1 0, 128, .inl vblk)), (k0, .inr (1, [.ref k1, .ref k2, .int kold, .int kwai, .int ksnt])), (k1, .inl (E.2.1 0, 100, .inl ktyp)), (k2, .inl (E.2.1 0, 500, .inl ksen))] H → va_D A [(a0, .inr (0, [.ref a1, .ref a2, .ref a3, .ref k0, .int vsz, .int vmd, .int vpc, .int vba, .int vbo, .int vre, .int vti, .int vro, .int vha])), (a1, .inl (E.2.1 0, 1844, .inl vmem)), (a2, .inl (E.2.1 0, 8, .inl vreg)), (a3, .inl (E.2.1 0, 128, .inl vblk)), (k0, .inr (1, [.ref k1, .ref k2, .int kold, .int kwai, .int ksnt])), (k1, .inl (E.2.1 0, 100, .inl ktyp)), (k2, .inl (E.2.1 0, 500, .inl ksen))] → va_S A s.heap H locs → lv_has ls 6 [(0, .ref a0), (1, .int x1), (2, .int x2), (3, .int x3), (4, .int x4), (5, .int x5)] → W p l e ({ frames := 3, cells := 0, slots := 0, locals := 129 }) s m ([.ref a0] : List Value).toArray below meth c H locs 0 0 (MQ below (va_Qv (fun (u : va_W) => u = [(a0, .inr (0, [.ref a1, .ref a2, .ref a3, .ref k0, .int vsz, .int o_vmd, .int o_vpc, .int o_vba, .int o_vbo, .int o_vre, .int o_vti, .int o_vro, .int o_vha])), (a1, .inl (E.2.1 0, 1844, .inl o_vmem)), (a2, .inl (E.2.1 0, 8, .inl o_vreg)), (a3, .inl (E.2.1 0, 128, .inl o_vblk)), (k0, .inr (1, [.ref k1, .ref k2, .int o_kold, .int o_kwai, .int o_ksnt])), (k1, .inl (E.2.1 0, 100, .inl ktyp)), (k2, .inl (E.2.1 0, 500, .inl o_ksen))]) (BW E A) A) ([.ref a0] : List Value).toArray s 0 0 A) (F0 m 189 ls []) := by
    intro vsz vmd vpc vba vbo vre vti vro vha vmem vreg vblk kold kwai ksnt ktyp ksen x1 x2 x3 x4 x5 H locs ls h hP hD hS hl
    rw [b_MA_step_189] at h
    refine lv_iload_n J.1 J.2.1 d_MA_step_189 rfl (lv_at hl 3 rfl) ?_
    refine lv_if_le (tgt := 212) J.1 J.2.1 d_MA_step_190 (by decide) (fun c_6 => ?_) (fun c_6 => ?_)
    · replace h := g_t c_6 h
      exact K_212 _ _ _ _ _ _ _ _ _ _ _ _ _ _ _ _ _ _ _ _ _ _ _ _ _ h hP hD hS (lv_sub hl [0, 1, 2, 3, 4, 5] rfl)
    · replace h := g_f c_6 h
      refine lv_iload_n J.1 J.2.1 d_MA_step_193 rfl (lv_at hl 3 rfl) ?_
      refine lv_bipush (v := 16) J.1 J.2.1 d_MA_step_194 (by decide) ?_
      refine lv_icmp_ge (tgt := 212) J.1 J.2.1 d_MA_step_196 (by decide) (fun c_7 => ?_) (fun c_7 => ?_)
      · replace h := g_t c_7 h
        exact K_212 _ _ _ _ _ _ _ _ _ _ _ _ _ _ _ _ _ _ _ _ _ _ _ _ _ h hP hD hS (lv_sub hl [0, 1, 2, 3, 4, 5] rfl)
      · replace h := g_f c_7 h
        refine lv_aload_n J.1 J.2.1 d_MA_step_199 rfl (lv_at hl 0 rfl) ?_
        refine lv_iload_n J.1 J.2.1 d_MA_step_200 rfl (lv_at hl 3 rfl) ?_
        refine lv_iload J.1 J.2.1 d_MA_step_201 (lv_at hl 4 rfl) ?_
        refine lv_iload J.1 J.2.1 d_MA_step_203 (lv_at hl 5 rfl) ?_
        refine lv_iload_n J.1 J.2.1 d_MA_step_205 rfl (lv_at hl 2 rfl) ?_
        replace h := g_bd h
        obtain ⟨⟨vpc_8, vti_8, vro_8, vreg_8⟩, q_8, h⟩ := h
        try dsimp only at h
        refine jk_v (jrunV (As := [.int x3, .int x4, .int x5, .int x2]) (rest := []) J hJ hA hZ hP hD hS (ct_MA_compute l E a0 a1 a2 a3 k0 _ vsz vmd vpc vba vbo vre vti vro vha vreg x3 x4 x5 x2 vpc_8 vti_8 vro_8 vreg_8 q_8) [0, 2] rfl (by decide) gl_MA_74 gi_MA_compute gsel_MA_compute gini_MA gc_MA_compute hd_MA_compute ⟨rfl, rfl, Nat.le_of_ble_eq_true rfl, Nat.le_of_ble_eq_true rfl⟩ rfl rfl hl.1 rfl rfl (Nat.le_of_ble_eq_true rfl) d_MA_step_206 ⟨Nat.zero_le _, Nat.zero_le _⟩) hA hP hD hS [0, 2] [1, 3, 4, 5, 6] (WR := [(a1, .inl (E.2.1 0, 1844, .inl vmem)), (a3, .inl (E.2.1 0, 128, .inl vblk)), (k0, .inr (1, [.ref k1, .ref k2, .int kold, .int kwai, .int ksnt])), (k1, .inl (E.2.1 0, 100, .inl ktyp)), (k2, .inl (E.2.1 0, 500, .inl ksen))]) rfl rfl (by decide) (by decide) [5, 0, 6, 1, 2, 3, 4] (WF := [(a0, .inr (0, [.ref a1, .ref a2, .ref a3, .ref k0, .int vsz, .int vmd, .int vpc_8, .int vba, .int vbo, .int vre, .int vti_8, .int vro_8, .int vha])), (a1, .inl (E.2.1 0, 1844, .inl vmem)), (a2, .inl (E.2.1 0, 8, .inl vreg_8)), (a3, .inl (E.2.1 0, 128, .inl vblk)), (k0, .inr (1, [.ref k1, .ref k2, .int kold, .int kwai, .int ksnt])), (k1, .inl (E.2.1 0, 100, .inl ktyp)), (k2, .inl (E.2.1 0, 500, .inl ksen))]) rfl (by decide) ?_
        clear hP hD hS
        intro H locs hP hD hS
        refine lv_goto (tgt := 264) J.1 J.2.1 d_MA_step_209 (by decide) ?_
        cases h
        exact jr_v J hS hP hD d_MA_step_264
  have K_31 : ∀ (vsz : Int32) (vmd : Int32) (vpc : Int32) (vba : Int32) (vbo : Int32) (vre : Int32) (vti : Int32) (vro : Int32) (vha : Int32) (vmem : Nat → Int32) (vreg : Nat → Int32) (vblk : Nat → Int32) (kold : Int32) (kwai : Int32) (ksnt : Int32) (ktyp : Nat → Int32) (ksen : Nat → Int32) (H : Heap) (locs : List Loc) (ls : Array Slot), b_MA_step_31 vsz vmd vpc vba vbo vre vti vro vha vmem vreg vblk kold kwai ksnt ktyp ksen = some (o_vmd, o_vpc, o_vba, o_vbo, o_vre, o_vti, o_vro, o_vha, o_vmem, o_vreg, o_vblk, o_kold, o_kwai, o_ksnt, o_ksen) → va_P E.1 classes [(a0, .inr (0, [.ref a1, .ref a2, .ref a3, .ref k0, .int vsz, .int vmd, .int vpc, .int vba, .int vbo, .int vre, .int vti, .int vro, .int vha])), (a1, .inl (E.2.1 0, 1844, .inl vmem)), (a2, .inl (E.2.1 0, 8, .inl vreg)), (a3, .inl (E.2.1 0, 128, .inl vblk)), (k0, .inr (1, [.ref k1, .ref k2, .int kold, .int kwai, .int ksnt])), (k1, .inl (E.2.1 0, 100, .inl ktyp)), (k2, .inl (E.2.1 0, 500, .inl ksen))] H → va_D A [(a0, .inr (0, [.ref a1, .ref a2, .ref a3, .ref k0, .int vsz, .int vmd, .int vpc, .int vba, .int vbo, .int vre, .int vti, .int vro, .int vha])), (a1, .inl (E.2.1 0, 1844, .inl vmem)), (a2, .inl (E.2.1 0, 8, .inl vreg)), (a3, .inl (E.2.1 0, 128, .inl vblk)), (k0, .inr (1, [.ref k1, .ref k2, .int kold, .int kwai, .int ksnt])), (k1, .inl (E.2.1 0, 100, .inl ktyp)), (k2, .inl (E.2.1 0, 500, .inl ksen))] → va_S A s.heap H locs → lv_has ls 6 [(0, .ref a0)] → W p l e ({ frames := 3, cells := 0, slots := 0, locals := 129 }) s m ([.ref a0] : List Value).toArray below meth c H locs 0 0 (MQ below (va_Qv (fun (u : va_W) => u = [(a0, .inr (0, [.ref a1, .ref a2, .ref a3, .ref k0, .int vsz, .int o_vmd, .int o_vpc, .int o_vba, .int o_vbo, .int o_vre, .int o_vti, .int o_vro, .int o_vha])), (a1, .inl (E.2.1 0, 1844, .inl o_vmem)), (a2, .inl (E.2.1 0, 8, .inl o_vreg)), (a3, .inl (E.2.1 0, 128, .inl o_vblk)), (k0, .inr (1, [.ref k1, .ref k2, .int o_kold, .int o_kwai, .int o_ksnt])), (k1, .inl (E.2.1 0, 100, .inl ktyp)), (k2, .inl (E.2.1 0, 500, .inl o_ksen))]) (BW E A) A) ([.ref a0] : List Value).toArray s 0 0 A) (F0 m 31 ls []) := by
    intro vsz vmd vpc vba vbo vre vti vro vha vmem vreg vblk kold kwai ksnt ktyp ksen H locs ls h hP hD hS hl
    rw [b_MA_step_31] at h
    refine lv_aload_n J.1 J.2.1 d_MA_step_31 rfl (lv_at hl 0 rfl) ?_
    refine jg J hJ hP 0 rfl rfl i_MA 6 (by decide) gf_MA_44 rfl d_MA_step_32 ?_
    refine lv_iconst (v := 1) J.1 J.2.1 d_MA_step_35 (by decide) ?_
    refine lv_iadd J.1 J.2.1 d_MA_step_36 ?_
    refine lv_aload_n J.1 J.2.1 d_MA_step_37 rfl (lv_at hl 0 rfl) ?_
    refine jg J hJ hP 0 rfl rfl i_MA 9 (by decide) gf_MA_53 rfl d_MA_step_38 ?_
    refine lv_icmp_lt (tgt := 78) J.1 J.2.1 d_MA_step_41 (by decide) (fun c_9 => ?_) (fun c_9 => ?_)
    · replace h := g_t c_9 h
      refine lv_aload_n J.1 J.2.1 d_MA_step_78 rfl (lv_at hl 0 rfl) ?_
      refine jg J hJ hP 0 rfl rfl i_MA 0 (by decide) gf_MA_9 rfl d_MA_step_79 ?_
      refine lv_aload_n J.1 J.2.1 d_MA_step_82 rfl (lv_at hl 0 rfl) ?_
      refine jg J hJ hP 0 rfl rfl i_MA 7 (by decide) gf_MA_47 rfl d_MA_step_83 ?_
      refine lv_aload_n J.1 J.2.1 d_MA_step_86 rfl (lv_at hl 0 rfl) ?_
      refine jg J hJ hP 0 rfl rfl i_MA 6 (by decide) gf_MA_44 rfl d_MA_step_87 ?_
      refine lv_iadd J.1 J.2.1 d_MA_step_90 ?_
      replace h := g_ck h
      obtain ⟨k_10, h⟩ := h
      refine jai J hJ hP 1 rfl k_10 d_MA_step_91 ?_
      refine lv_istore_n (lv' := [(1, .int (vmem (vba + vpc).toNatClampNeg)), (0, .ref a0)]) J.1 J.2.1 d_MA_step_92 rfl hl (by decide) rfl ?_
      clear hl
      intro ls hl
      refine lv_aload_n J.1 J.2.1 d_MA_step_93 rfl (lv_at hl 1 rfl) ?_
      refine jg J hJ hP 0 rfl rfl i_MA 0 (by decide) gf_MA_9 rfl d_MA_step_94 ?_
      refine lv_aload_n J.1 J.2.1 d_MA_step_97 rfl (lv_at hl 1 rfl) ?_
      refine jg J hJ hP 0 rfl rfl i_MA 7 (by decide) gf_MA_47 rfl d_MA_step_98 ?_
      refine lv_aload_n J.1 J.2.1 d_MA_step_101 rfl (lv_at hl 1 rfl) ?_
      refine jg J hJ hP 0 rfl rfl i_MA 6 (by decide) gf_MA_44 rfl d_MA_step_102 ?_
      refine lv_iadd J.1 J.2.1 d_MA_step_105 ?_
      refine lv_iconst (v := 1) J.1 J.2.1 d_MA_step_106 (by decide) ?_
      refine lv_iadd J.1 J.2.1 d_MA_step_107 ?_
      replace h := g_ck h
      obtain ⟨k_11, h⟩ := h
      refine jai J hJ hP 1 rfl k_11 d_MA_step_108 ?_
      refine lv_istore_n (lv' := [(2, .int (vmem ((vba + vpc) + 1).toNatClampNeg)), (1, .int (vmem (vba + vpc).toNatClampNeg)), (0, .ref a0)]) J.1 J.2.1 d_MA_step_109 rfl hl (by decide) rfl ?_
      clear hl
      intro ls hl
      refine lv_iload_n J.1 J.2.1 d_MA_step_110 rfl (lv_at hl 1 rfl) ?_
      refine lv_bipush (v := 6) J.1 J.2.1 d_MA_step_111 (by decide) ?_
      refine lv_ishr J.1 J.2.1 d_MA_step_113 ?_
      refine lv_istore_n (lv' := [(3, .int ((vmem (vba + vpc).toNatClampNeg) >>> (6 &&& 31))), (2, .int (vmem ((vba + vpc) + 1).toNatClampNeg)), (1, .int (vmem (vba + vpc).toNatClampNeg)), (0, .ref a0)]) J.1 J.2.1 d_MA_step_114 rfl hl (by decide) rfl ?_
      clear hl
      intro ls hl
      refine lv_iload_n J.1 J.2.1 d_MA_step_115 rfl (lv_at hl 2 rfl) ?_
      refine lv_iconst (v := 3) J.1 J.2.1 d_MA_step_116 (by decide) ?_
      refine lv_ishr J.1 J.2.1 d_MA_step_117 ?_
      refine lv_bipush (v := 7) J.1 J.2.1 d_MA_step_118 (by decide) ?_
      refine lv_iand J.1 J.2.1 d_MA_step_120 ?_
      refine lv_istore (lv' := [(4, .int (((vmem (vba + vpc).toNatClampNeg) >>> (3 &&& 31)) &&& 7)), (3, .int ((vmem (vba + vpc).toNatClampNeg) >>> (6 &&& 31))), (2, .int (vmem ((vba + vpc) + 1).toNatClampNeg)), (1, .int (vmem (vba + vpc).toNatClampNeg)), (0, .ref a0)]) J.1 J.2.1 d_MA_step_121 hl (by decide) rfl ?_
      clear hl
      intro ls hl
      refine lv_iload_n J.1 J.2.1 d_MA_step_123 rfl (lv_at hl 3 rfl) ?_
      refine lv_bipush (v := 7) J.1 J.2.1 d_MA_step_124 (by decide) ?_
      refine lv_iand J.1 J.2.1 d_MA_step_126 ?_
      refine lv_istore (lv' := [(5, .int ((vmem (vba + vpc).toNatClampNeg) &&& 7)), (4, .int (((vmem (vba + vpc).toNatClampNeg) >>> (3 &&& 31)) &&& 7)), (3, .int ((vmem (vba + vpc).toNatClampNeg) >>> (6 &&& 31))), (2, .int (vmem ((vba + vpc) + 1).toNatClampNeg)), (1, .int (vmem (vba + vpc).toNatClampNeg)), (0, .ref a0)]) J.1 J.2.1 d_MA_step_127 hl (by decide) rfl ?_
      clear hl
      intro ls hl
      refine lv_iload_n J.1 J.2.1 d_MA_step_129 rfl (lv_at hl 2 rfl) ?_
      refine lv_bipush (v := 24) J.1 J.2.1 d_MA_step_130 (by decide) ?_
      refine lv_icmp_le (tgt := 148) J.1 J.2.1 d_MA_step_132 (by decide) (fun c_12 => ?_) (fun c_12 => ?_)
      · replace h := g_t c_12 h
        refine lv_iload_n J.1 J.2.1 d_MA_step_148 rfl (lv_at hl 2 rfl) ?_
        refine lv_iconst (v := 2) J.1 J.2.1 d_MA_step_149 (by decide) ?_
        refine lv_icmp_lt (tgt := 189) J.1 J.2.1 d_MA_step_150 (by decide) (fun c_13 => ?_) (fun c_13 => ?_)
        · replace h := g_t c_13 h
          exact K_189 _ _ _ _ _ _ _ _ _ _ _ _ _ _ _ _ _ _ _ _ _ _ _ _ _ h hP hD hS (lv_sub hl [5, 4, 3, 2, 1, 0] rfl)
        · replace h := g_f c_13 h
          refine lv_iload_n J.1 J.2.1 d_MA_step_153 rfl (lv_at hl 2 rfl) ?_
          refine lv_iconst (v := 5) J.1 J.2.1 d_MA_step_154 (by decide) ?_
          refine lv_icmp_gt (tgt := 189) J.1 J.2.1 d_MA_step_155 (by decide) (fun c_14 => ?_) (fun c_14 => ?_)
          · replace h := g_t c_14 h
            exact K_189 _ _ _ _ _ _ _ _ _ _ _ _ _ _ _ _ _ _ _ _ _ _ _ _ _ h hP hD hS (lv_sub hl [5, 4, 3, 2, 1, 0] rfl)
          · replace h := g_f c_14 h
            refine lv_aload_n J.1 J.2.1 d_MA_step_158 rfl (lv_at hl 5 rfl) ?_
            refine lv_iload_n J.1 J.2.1 d_MA_step_159 rfl (lv_at hl 2 rfl) ?_
            refine lv_iload J.1 J.2.1 d_MA_step_160 (lv_at hl 1 rfl) ?_
            refine lv_iload_n J.1 J.2.1 d_MA_step_162 rfl (lv_at hl 2 rfl) ?_
            refine lv_iconst (v := 4) J.1 J.2.1 d_MA_step_163 (by decide) ?_
            refine lv_icmp_ge (tgt := 171) J.1 J.2.1 d_MA_step_164 (by decide) (fun c_15 => ?_) (fun c_15 => ?_)
            · replace h := g_t c_15 h
              refine lv_aload_n J.1 J.2.1 d_MA_step_171 rfl (lv_at hl 5 rfl) ?_
              refine jg J hJ hP 0 rfl rfl i_MA 1 (by decide) gf_MA_15 rfl d_MA_step_172 ?_
              refine lv_iload J.1 J.2.1 d_MA_step_175 (lv_at hl 0 rfl) ?_
              replace h := g_ck h
              obtain ⟨k_16, h⟩ := h
              refine jai J hJ hP 2 rfl k_16 d_MA_step_177 ?_
              refine lv_iload_n J.1 J.2.1 d_MA_step_178 rfl (lv_at hl 3 rfl) ?_
              refine lv_iadd J.1 J.2.1 d_MA_step_179 ?_
              refine lv_ldc (v := 65535) J.1 J.2.1 J.2.2.2.2.1 (J.2.2.2.2.2.1 _ gk_MA_70) d_MA_step_180 ?_
              refine lv_iand J.1 J.2.1 d_MA_step_182 ?_
              replace h := g_bd h
              obtain ⟨⟨vmd_17, vpc_17, vba_17, vbo_17, vre_17, vti_17, vro_17, vmem_17, vreg_17⟩, q_17, h⟩ := h
              try dsimp only at h
              refine jk_v (jrunV (As := [.int ((vmem (vba + vpc).toNatClampNeg) >>> (6 &&& 31)), .int (((vmem (vba + vpc).toNatClampNeg) >>> (3 &&& 31)) &&& 7), .int (((vreg ((vmem (vba + vpc).toNatClampNeg) &&& 7).toNatClampNeg) + (vmem ((vba + vpc) + 1).toNatClampNeg)) &&& 65535)]) (rest := []) J hJ hA hZ hP hD hS (ct_MA_access l E a0 a1 a2 a3 k0 _ vsz vmd vpc vba vbo vre vti vro vha vmem vreg ((vmem (vba + vpc).toNatClampNeg) >>> (6 &&& 31)) (((vmem (vba + vpc).toNatClampNeg) >>> (3 &&& 31)) &&& 7) (((vreg ((vmem (vba + vpc).toNatClampNeg) &&& 7).toNatClampNeg) + (vmem ((vba + vpc) + 1).toNatClampNeg)) &&& 65535) vmd_17 vpc_17 vba_17 vbo_17 vre_17 vti_17 vro_17 vmem_17 vreg_17 q_17) [0, 1, 2] rfl (by decide) gl_MA_71 gi_MA_access gsel_MA_access gini_MA gc_MA_access hd_MA_access ⟨rfl, rfl, Nat.le_of_ble_eq_true rfl, Nat.le_of_ble_eq_true rfl⟩ rfl rfl hl.1 rfl rfl (Nat.le_of_ble_eq_true rfl) d_MA_step_183 ⟨Nat.zero_le _, Nat.zero_le _⟩) hA hP hD hS [0, 1, 2] [3, 4, 5, 6] (WR := [(a3, .inl (E.2.1 0, 128, .inl vblk)), (k0, .inr (1, [.ref k1, .ref k2, .int kold, .int kwai, .int ksnt])), (k1, .inl (E.2.1 0, 100, .inl ktyp)), (k2, .inl (E.2.1 0, 500, .inl ksen))]) rfl rfl (by decide) (by decide) [4, 5, 6, 0, 1, 2, 3] (WF := [(a0, .inr (0, [.ref a1, .ref a2, .ref a3, .ref k0, .int vsz, .int vmd_17, .int vpc_17, .int vba_17, .int vbo_17, .int vre_17, .int vti_17, .int vro_17, .int vha])), (a1, .inl (E.2.1 0, 1844, .inl vmem_17)), (a2, .inl (E.2.1 0, 8, .inl vreg_17)), (a3, .inl (E.2.1 0, 128, .inl vblk)), (k0, .inr (1, [.ref k1, .ref k2, .int kold, .int kwai, .int ksnt])), (k1, .inl (E.2.1 0, 100, .inl ktyp)), (k2, .inl (E.2.1 0, 500, .inl ksen))]) rfl (by decide) ?_
              clear hP hD hS
              intro H locs hP hD hS
              refine lv_goto (tgt := 264) J.1 J.2.1 d_MA_step_186 (by decide) ?_
              cases h
              exact jr_v J hS hP hD d_MA_step_264
            · replace h := g_f c_15 h
              refine lv_iload_n J.1 J.2.1 d_MA_step_167 rfl (lv_at hl 3 rfl) ?_
              refine lv_goto (tgt := 183) J.1 J.2.1 d_MA_step_168 (by decide) ?_
              replace h := g_bd h
              obtain ⟨⟨vmd_18, vpc_18, vba_18, vbo_18, vre_18, vti_18, vro_18, vmem_18, vreg_18⟩, q_18, h⟩ := h
              try dsimp only at h
              refine jk_v (jrunV (As := [.int ((vmem (vba + vpc).toNatClampNeg) >>> (6 &&& 31)), .int (((vmem (vba + vpc).toNatClampNeg) >>> (3 &&& 31)) &&& 7), .int (vmem ((vba + vpc) + 1).toNatClampNeg)]) (rest := []) J hJ hA hZ hP hD hS (ct_MA_access l E a0 a1 a2 a3 k0 _ vsz vmd vpc vba vbo vre vti vro vha vmem vreg ((vmem (vba + vpc).toNatClampNeg) >>> (6 &&& 31)) (((vmem (vba + vpc).toNatClampNeg) >>> (3 &&& 31)) &&& 7) (vmem ((vba + vpc) + 1).toNatClampNeg) vmd_18 vpc_18 vba_18 vbo_18 vre_18 vti_18 vro_18 vmem_18 vreg_18 q_18) [0, 1, 2] rfl (by decide) gl_MA_71 gi_MA_access gsel_MA_access gini_MA gc_MA_access hd_MA_access ⟨rfl, rfl, Nat.le_of_ble_eq_true rfl, Nat.le_of_ble_eq_true rfl⟩ rfl rfl hl.1 rfl rfl (Nat.le_of_ble_eq_true rfl) d_MA_step_183 ⟨Nat.zero_le _, Nat.zero_le _⟩) hA hP hD hS [0, 1, 2] [3, 4, 5, 6] (WR := [(a3, .inl (E.2.1 0, 128, .inl vblk)), (k0, .inr (1, [.ref k1, .ref k2, .int kold, .int kwai, .int ksnt])), (k1, .inl (E.2.1 0, 100, .inl ktyp)), (k2, .inl (E.2.1 0, 500, .inl ksen))]) rfl rfl (by decide) (by decide) [4, 5, 6, 0, 1, 2, 3] (WF := [(a0, .inr (0, [.ref a1, .ref a2, .ref a3, .ref k0, .int vsz, .int vmd_18, .int vpc_18, .int vba_18, .int vbo_18, .int vre_18, .int vti_18, .int vro_18, .int vha])), (a1, .inl (E.2.1 0, 1844, .inl vmem_18)), (a2, .inl (E.2.1 0, 8, .inl vreg_18)), (a3, .inl (E.2.1 0, 128, .inl vblk)), (k0, .inr (1, [.ref k1, .ref k2, .int kold, .int kwai, .int ksnt])), (k1, .inl (E.2.1 0, 100, .inl ktyp)), (k2, .inl (E.2.1 0, 500, .inl ksen))]) rfl (by decide) ?_
              clear hP hD hS
              intro H locs hP hD hS
              refine lv_goto (tgt := 264) J.1 J.2.1 d_MA_step_186 (by decide) ?_
              cases h
              exact jr_v J hS hP hD d_MA_step_264
      · replace h := g_f c_12 h
        refine lv_aload_n J.1 J.2.1 d_MA_step_135 rfl (lv_at hl 5 rfl) ?_
        refine lv_iconst (v := 5) J.1 J.2.1 d_MA_step_136 (by decide) ?_
        refine lv_iload_n J.1 J.2.1 d_MA_step_137 rfl (lv_at hl 4 rfl) ?_
        refine lv_aload_n J.1 J.2.1 d_MA_step_138 rfl (lv_at hl 5 rfl) ?_
        refine jg J hJ hP 0 rfl rfl i_MA 6 (by decide) gf_MA_44 rfl d_MA_step_139 ?_
        replace h := g_bd h
        obtain ⟨⟨vmd_19, vpc_19, vba_19, vbo_19, vre_19, vmem_19⟩, q_19, h⟩ := h
        try dsimp only at h
        refine jk_v (jrunV (As := [.int 5, .int (vmem (vba + vpc).toNatClampNeg), .int vpc]) (rest := []) J hJ hA hZ hP hD hS (ct_MA_trap l E a0 a1 a2 a3 k0 _ vsz vmd vpc vba vbo vre vti vro vha vmem 5 (vmem (vba + vpc).toNatClampNeg) vpc vmd_19 vpc_19 vba_19 vbo_19 vre_19 vmem_19 q_19) [0, 1] rfl (by decide) gl_MA_66 gi_MA_trap gsel_MA_trap gini_MA gc_MA_trap hd_MA_trap ⟨rfl, rfl, Nat.le_of_ble_eq_true rfl, Nat.le_of_ble_eq_true rfl⟩ rfl rfl hl.1 rfl rfl (Nat.le_of_ble_eq_true rfl) d_MA_step_142 ⟨Nat.zero_le _, Nat.zero_le _⟩) hA hP hD hS [0, 1] [2, 3, 4, 5, 6] (WR := [(a2, .inl (E.2.1 0, 8, .inl vreg)), (a3, .inl (E.2.1 0, 128, .inl vblk)), (k0, .inr (1, [.ref k1, .ref k2, .int kold, .int kwai, .int ksnt])), (k1, .inl (E.2.1 0, 100, .inl ktyp)), (k2, .inl (E.2.1 0, 500, .inl ksen))]) rfl rfl (by decide) (by decide) [5, 6, 0, 1, 2, 3, 4] (WF := [(a0, .inr (0, [.ref a1, .ref a2, .ref a3, .ref k0, .int vsz, .int vmd_19, .int vpc_19, .int vba_19, .int vbo_19, .int vre_19, .int vti, .int vro, .int vha])), (a1, .inl (E.2.1 0, 1844, .inl vmem_19)), (a2, .inl (E.2.1 0, 8, .inl vreg)), (a3, .inl (E.2.1 0, 128, .inl vblk)), (k0, .inr (1, [.ref k1, .ref k2, .int kold, .int kwai, .int ksnt])), (k1, .inl (E.2.1 0, 100, .inl ktyp)), (k2, .inl (E.2.1 0, 500, .inl ksen))]) rfl (by decide) ?_
        clear hP hD hS
        intro H locs hP hD hS
        refine lv_goto (tgt := 264) J.1 J.2.1 d_MA_step_145 (by decide) ?_
        cases h
        exact jr_v J hS hP hD d_MA_step_264
    · replace h := g_f c_9 h
      refine lv_aload_n J.1 J.2.1 d_MA_step_44 rfl (lv_at hl 0 rfl) ?_
      refine lv_iconst (v := 2) J.1 J.2.1 d_MA_step_45 (by decide) ?_
      refine lv_aload_n J.1 J.2.1 d_MA_step_46 rfl (lv_at hl 0 rfl) ?_
      refine jg J hJ hP 0 rfl rfl i_MA 6 (by decide) gf_MA_44 rfl d_MA_step_47 ?_
      refine lv_aload_n J.1 J.2.1 d_MA_step_50 rfl (lv_at hl 0 rfl) ?_
      refine jg J hJ hP 0 rfl rfl i_MA 9 (by decide) gf_MA_53 rfl d_MA_step_51 ?_
      refine lv_icmp_ge (tgt := 66) J.1 J.2.1 d_MA_step_54 (by decide) (fun c_20 => ?_) (fun c_20 => ?_)
      · replace h := g_t c_20 h
        refine lv_aload_n J.1 J.2.1 d_MA_step_66 rfl (lv_at hl 0 rfl) ?_
        refine jg J hJ hP 0 rfl rfl i_MA 6 (by decide) gf_MA_44 rfl d_MA_step_67 ?_
        refine lv_aload_n J.1 J.2.1 d_MA_step_70 rfl (lv_at hl 0 rfl) ?_
        refine jg J hJ hP 0 rfl rfl i_MA 6 (by decide) gf_MA_44 rfl d_MA_step_71 ?_
        replace h := g_bd h
        obtain ⟨⟨vmd_21, vpc_21, vba_21, vbo_21, vre_21, vmem_21⟩, q_21, h⟩ := h
        try dsimp only at h
        refine jk_v (jrunV (As := [.int 2, .int vpc, .int vpc]) (rest := []) J hJ hA hZ hP hD hS (ct_MA_trap l E a0 a1 a2 a3 k0 _ vsz vmd vpc vba vbo vre vti vro vha vmem 2 vpc vpc vmd_21 vpc_21 vba_21 vbo_21 vre_21 vmem_21 q_21) [0, 1] rfl (by decide) gl_MA_66 gi_MA_trap gsel_MA_trap gini_MA gc_MA_trap hd_MA_trap ⟨rfl, rfl, Nat.le_of_ble_eq_true rfl, Nat.le_of_ble_eq_true rfl⟩ rfl rfl hl.1 rfl rfl (Nat.le_of_ble_eq_true rfl) d_MA_step_74 ⟨Nat.zero_le _, Nat.zero_le _⟩) hA hP hD hS [0, 1] [2, 3, 4, 5, 6] (WR := [(a2, .inl (E.2.1 0, 8, .inl vreg)), (a3, .inl (E.2.1 0, 128, .inl vblk)), (k0, .inr (1, [.ref k1, .ref k2, .int kold, .int kwai, .int ksnt])), (k1, .inl (E.2.1 0, 100, .inl ktyp)), (k2, .inl (E.2.1 0, 500, .inl ksen))]) rfl rfl (by decide) (by decide) [5, 6, 0, 1, 2, 3, 4] (WF := [(a0, .inr (0, [.ref a1, .ref a2, .ref a3, .ref k0, .int vsz, .int vmd_21, .int vpc_21, .int vba_21, .int vbo_21, .int vre_21, .int vti, .int vro, .int vha])), (a1, .inl (E.2.1 0, 1844, .inl vmem_21)), (a2, .inl (E.2.1 0, 8, .inl vreg)), (a3, .inl (E.2.1 0, 128, .inl vblk)), (k0, .inr (1, [.ref k1, .ref k2, .int kold, .int kwai, .int ksnt])), (k1, .inl (E.2.1 0, 100, .inl ktyp)), (k2, .inl (E.2.1 0, 500, .inl ksen))]) rfl (by decide) ?_
        clear hP hD hS
        intro H locs hP hD hS
        cases h
        exact jr_v J hS hP hD d_MA_step_77
      · replace h := g_f c_20 h
        refine lv_aload_n J.1 J.2.1 d_MA_step_57 rfl (lv_at hl 0 rfl) ?_
        refine jg J hJ hP 0 rfl rfl i_MA 6 (by decide) gf_MA_44 rfl d_MA_step_58 ?_
        refine lv_iconst (v := 1) J.1 J.2.1 d_MA_step_61 (by decide) ?_
        refine lv_iadd J.1 J.2.1 d_MA_step_62 ?_
        refine lv_goto (tgt := 70) J.1 J.2.1 d_MA_step_63 (by decide) ?_
        refine lv_aload_n J.1 J.2.1 d_MA_step_70 rfl (lv_at hl 0 rfl) ?_
        refine jg J hJ hP 0 rfl rfl i_MA 6 (by decide) gf_MA_44 rfl d_MA_step_71 ?_
        replace h := g_bd h
        obtain ⟨⟨vmd_22, vpc_22, vba_22, vbo_22, vre_22, vmem_22⟩, q_22, h⟩ := h
        try dsimp only at h
        refine jk_v (jrunV (As := [.int 2, .int (vpc + 1), .int vpc]) (rest := []) J hJ hA hZ hP hD hS (ct_MA_trap l E a0 a1 a2 a3 k0 _ vsz vmd vpc vba vbo vre vti vro vha vmem 2 (vpc + 1) vpc vmd_22 vpc_22 vba_22 vbo_22 vre_22 vmem_22 q_22) [0, 1] rfl (by decide) gl_MA_66 gi_MA_trap gsel_MA_trap gini_MA gc_MA_trap hd_MA_trap ⟨rfl, rfl, Nat.le_of_ble_eq_true rfl, Nat.le_of_ble_eq_true rfl⟩ rfl rfl hl.1 rfl rfl (Nat.le_of_ble_eq_true rfl) d_MA_step_74 ⟨Nat.zero_le _, Nat.zero_le _⟩) hA hP hD hS [0, 1] [2, 3, 4, 5, 6] (WR := [(a2, .inl (E.2.1 0, 8, .inl vreg)), (a3, .inl (E.2.1 0, 128, .inl vblk)), (k0, .inr (1, [.ref k1, .ref k2, .int kold, .int kwai, .int ksnt])), (k1, .inl (E.2.1 0, 100, .inl ktyp)), (k2, .inl (E.2.1 0, 500, .inl ksen))]) rfl rfl (by decide) (by decide) [5, 6, 0, 1, 2, 3, 4] (WF := [(a0, .inr (0, [.ref a1, .ref a2, .ref a3, .ref k0, .int vsz, .int vmd_22, .int vpc_22, .int vba_22, .int vbo_22, .int vre_22, .int vti, .int vro, .int vha])), (a1, .inl (E.2.1 0, 1844, .inl vmem_22)), (a2, .inl (E.2.1 0, 8, .inl vreg)), (a3, .inl (E.2.1 0, 128, .inl vblk)), (k0, .inr (1, [.ref k1, .ref k2, .int kold, .int kwai, .int ksnt])), (k1, .inl (E.2.1 0, 100, .inl ktyp)), (k2, .inl (E.2.1 0, 500, .inl ksen))]) rfl (by decide) ?_
        clear hP hD hS
        intro H locs hP hD hS
        cases h
        exact jr_v J hS hP hD d_MA_step_77
  unfold f_MA_step at h
  refine lv_aload_n J.1 J.2.1 d_MA_step_0 rfl (lv_at hl 0 rfl) ?_
  refine jg J hJ hP 0 rfl rfl i_MA 5 (by decide) gf_MA_41 rfl d_MA_step_1 ?_
  refine lv_iconst (v := 1) J.1 J.2.1 d_MA_step_4 (by decide) ?_
  refine lv_icmp_ne (tgt := 31) J.1 J.2.1 d_MA_step_5 (by decide) (fun c_23 => ?_) (fun c_23 => ?_)
  · replace h := g_f c_23 h
    exact K_31 _ _ _ _ _ _ _ _ _ _ _ _ _ _ _ _ _ _ _ _ h hP hD hS (lv_sub hl [0] rfl)
  · replace h := g_t c_23 h
    refine lv_aload_n J.1 J.2.1 d_MA_step_8 rfl (lv_at hl 0 rfl) ?_
    refine jg J hJ hP 0 rfl rfl i_MA 11 (by decide) gf_MA_59 rfl d_MA_step_9 ?_
    refine lv_if_eq (tgt := 31) J.1 J.2.1 d_MA_step_12 (by decide) (fun c_24 => ?_) (fun c_24 => ?_)
    · replace h := g_t c_24 h
      exact K_31 _ _ _ _ _ _ _ _ _ _ _ _ _ _ _ _ _ _ _ _ h hP hD hS (lv_sub hl [0] rfl)
    · replace h := g_f c_24 h
      refine lv_aload_n J.1 J.2.1 d_MA_step_15 rfl (lv_at hl 0 rfl) ?_
      refine lv_iconst (v := 0) J.1 J.2.1 d_MA_step_16 (by decide) ?_
      refine jp J hJ hP hD hS 0 rfl rfl i_MA t_MA t_MA_ok n_MA 11 (by decide) gf_MA_59 rfl rfl rfl (Nat.le_of_ble_eq_true rfl) d_MA_step_17 (WS' := [(a0, .inr (0, [.ref a1, .ref a2, .ref a3, .ref k0, .int vsz, .int vmd, .int vpc, .int vba, .int vbo, .int vre, .int vti, .int 0, .int vha])), (a1, .inl (E.2.1 0, 1844, .inl vmem)), (a2, .inl (E.2.1 0, 8, .inl vreg)), (a3, .inl (E.2.1 0, 128, .inl vblk)), (k0, .inr (1, [.ref k1, .ref k2, .int kold, .int kwai, .int ksnt])), (k1, .inl (E.2.1 0, 100, .inl ktyp)), (k2, .inl (E.2.1 0, 500, .inl ksen))]) rfl ?_
      clear hP hD hS
      intro H locs hP hD hS
      refine lv_aload_n J.1 J.2.1 d_MA_step_20 rfl (lv_at hl 0 rfl) ?_
      refine lv_iconst (v := 4) J.1 J.2.1 d_MA_step_21 (by decide) ?_
      refine lv_iconst (v := 0) J.1 J.2.1 d_MA_step_22 (by decide) ?_
      refine lv_aload_n J.1 J.2.1 d_MA_step_23 rfl (lv_at hl 0 rfl) ?_
      refine jg J hJ hP 0 rfl rfl i_MA 6 (by decide) gf_MA_44 rfl d_MA_step_24 ?_
      replace h := g_bd h
      obtain ⟨⟨vmd_25, vpc_25, vba_25, vbo_25, vre_25, vmem_25⟩, q_25, h⟩ := h
      try dsimp only at h
      refine jk_v (jrunV (As := [.int 4, .int 0, .int vpc]) (rest := []) J hJ hA hZ hP hD hS (ct_MA_trap l E a0 a1 a2 a3 k0 _ vsz vmd vpc vba vbo vre vti 0 vha vmem 4 0 vpc vmd_25 vpc_25 vba_25 vbo_25 vre_25 vmem_25 q_25) [0, 1] rfl (by decide) gl_MA_66 gi_MA_trap gsel_MA_trap gini_MA gc_MA_trap hd_MA_trap ⟨rfl, rfl, Nat.le_of_ble_eq_true rfl, Nat.le_of_ble_eq_true rfl⟩ rfl rfl hl.1 rfl rfl (Nat.le_of_ble_eq_true rfl) d_MA_step_27 ⟨Nat.zero_le _, Nat.zero_le _⟩) hA hP hD hS [0, 1] [2, 3, 4, 5, 6] (WR := [(a2, .inl (E.2.1 0, 8, .inl vreg)), (a3, .inl (E.2.1 0, 128, .inl vblk)), (k0, .inr (1, [.ref k1, .ref k2, .int kold, .int kwai, .int ksnt])), (k1, .inl (E.2.1 0, 100, .inl ktyp)), (k2, .inl (E.2.1 0, 500, .inl ksen))]) rfl rfl (by decide) (by decide) [5, 6, 0, 1, 2, 3, 4] (WF := [(a0, .inr (0, [.ref a1, .ref a2, .ref a3, .ref k0, .int vsz, .int vmd_25, .int vpc_25, .int vba_25, .int vbo_25, .int vre_25, .int vti, .int 0, .int vha])), (a1, .inl (E.2.1 0, 1844, .inl vmem_25)), (a2, .inl (E.2.1 0, 8, .inl vreg)), (a3, .inl (E.2.1 0, 128, .inl vblk)), (k0, .inr (1, [.ref k1, .ref k2, .int kold, .int kwai, .int ksnt])), (k1, .inl (E.2.1 0, 100, .inl ktyp)), (k2, .inl (E.2.1 0, 500, .inl ksen))]) rfl (by decide) ?_
      clear hP hD hS
      intro H locs hP hD hS
      cases h
      exact jr_v J hS hP hD d_MA_step_30
end
section
theorem hd_MA_clear : y_MA_clear.cls ≠ "java/lang/invoke/MethodHandle" ∧ y_MA_clear.cls ≠ "java/lang/invoke/VarHandle" ∧ (parseMethodDescriptor y_MA_clear.desc).map (fun d => d.parameters.length) = some 1 := by decide +kernel
def f_MA_clear (vmem : Nat → Int32) (vreg : Nat → Int32) (vblk : Nat → Int32) (p1 : Int32) : Option (Int32 × Int32 × Int32 × Int32 × Int32 × Int32 × Int32 × Int32 × Int32 × (Nat → Int32) × (Nat → Int32) × (Nat → Int32) × Int32 × Int32 × Int32) := ((f_JA_fill 1844 vmem 0).bind fun wf_1 => ((f_JA_fill 8 vreg 0).bind fun wf_2 => ((f_JA_fill 128 vblk 0).bind fun wf_3 => ((f_CO_clear).bind fun (kold_4, kwai_4, ksnt_4) => (some (p1, 0, 16, 0, p1, p1, 0, 0, 0, wf_1, wf_2, wf_3, kold_4, kwai_4, ksnt_4))))))
set_option maxHeartbeats 4000000 in
set_option maxRecDepth 100000 in
theorem ct_MA_clear (l : Launch) (E : jz_E) (a0 a1 a2 a3 k0 k1 k2 : Nat) (sz : Nat) (vsz : Int32) (vmd : Int32) (vpc : Int32) (vba : Int32) (vbo : Int32) (vre : Int32) (vti : Int32) (vro : Int32) (vha : Int32) (vmem : Nat → Int32) (vreg : Nat → Int32) (vblk : Nat → Int32) (kold : Int32) (kwai : Int32) (ksnt : Int32) (p1 : Int32) (o_vsz : Int32) (o_vmd : Int32) (o_vpc : Int32) (o_vba : Int32) (o_vbo : Int32) (o_vre : Int32) (o_vti : Int32) (o_vro : Int32) (o_vha : Int32) (o_vmem : Nat → Int32) (o_vreg : Nat → Int32) (o_vblk : Nat → Int32) (o_kold : Int32) (o_kwai : Int32) (o_ksnt : Int32)  (h : f_MA_clear vmem vreg vblk p1 = some (o_vsz, o_vmd, o_vpc, o_vba, o_vbo, o_vre, o_vti, o_vro, o_vha, o_vmem, o_vreg, o_vblk, o_kold, o_kwai, o_ksnt)) : CTv l E y_MA_clear c_MA_clear 2 none ({ frames := 1, cells := 0, slots := 0, locals := 23 }) [.ref a0, .int p1] [(a0, .inr (0, [.ref a1, .ref a2, .ref a3, .ref k0, .int vsz, .int vmd, .int vpc, .int vba, .int vbo, .int vre, .int vti, .int vro, .int vha])), (a1, .inl (E.2.1 0, 1844, .inl vmem)), (a2, .inl (E.2.1 0, 8, .inl vreg)), (a3, .inl (E.2.1 0, 128, .inl vblk)), (k0, .inr (1, [.ref k1, .ref k2, .int kold, .int kwai, .int ksnt]))] sz [(a0, .inr (0, [.ref a1, .ref a2, .ref a3, .ref k0, .int o_vsz, .int o_vmd, .int o_vpc, .int o_vba, .int o_vbo, .int o_vre, .int o_vti, .int o_vro, .int o_vha])), (a1, .inl (E.2.1 0, 1844, .inl o_vmem)), (a2, .inl (E.2.1 0, 8, .inl o_vreg)), (a3, .inl (E.2.1 0, 128, .inl o_vblk)), (k0, .inr (1, [.ref k1, .ref k2, .int o_kold, .int o_kwai, .int o_ksnt]))] := by
  refine jw (by decide +kernel) (Nat.le_of_ble_eq_true rfl) ?_
  intro p e s m below meth c A ls J hJ hAe hsz hA hZ hP hD hl
  rw [← hAe]
  have hS : va_S A s.heap s.heap [] := va_S.rf
  have hl : lv_has ls 2 [(0, .ref a0), (1, .int p1)] := hl
  unfold f_MA_clear at h
  refine lv_aload_n J.1 J.2.1 d_MA_clear_0 rfl (lv_at hl 0 rfl) ?_
  refine jg J hJ hP 0 rfl rfl i_MA 0 (by decide) gf_MA_9 rfl d_MA_clear_1 ?_
  refine lv_iconst (v := 0) J.1 J.2.1 d_MA_clear_4 (by decide) ?_
  replace h := g_bd h
  obtain ⟨wf_1, q_1, h⟩ := h
  refine jk_v (jrunS (As := [.ref a1, .int 0]) (rest := []) J hJ hA hZ hP hD hS (ct_JA_fill l E a1 _ 1844 vmem 0 wf_1 q_1) [1] rfl (by decide) gl_MA_32 gs_JA_fill gini_JA gc_JA_fill hd_JA_fill ⟨rfl, rfl, Nat.le_of_ble_eq_true rfl, Nat.le_of_ble_eq_true rfl⟩ hl.1 rfl rfl (Nat.le_of_ble_eq_true rfl) d_MA_clear_5 ⟨Nat.zero_le _, Nat.zero_le _⟩) hA hP hD hS [1] [0, 2, 3, 4] (WR := [(a0, .inr (0, [.ref a1, .ref a2, .ref a3, .ref k0, .int vsz, .int vmd, .int vpc, .int vba, .int vbo, .int vre, .int vti, .int vro, .int vha])), (a2, .inl (E.2.1 0, 8, .inl vreg)), (a3, .inl (E.2.1 0, 128, .inl vblk)), (k0, .inr (1, [.ref k1, .ref k2, .int kold, .int kwai, .int ksnt]))]) rfl rfl (by decide) (by decide) [0, 4, 1, 2, 3] (WF := [(a0, .inr (0, [.ref a1, .ref a2, .ref a3, .ref k0, .int vsz, .int vmd, .int vpc, .int vba, .int vbo, .int vre, .int vti, .int vro, .int vha])), (a1, .inl (E.2.1 0, 1844, .inl wf_1)), (a2, .inl (E.2.1 0, 8, .inl vreg)), (a3, .inl (E.2.1 0, 128, .inl vblk)), (k0, .inr (1, [.ref k1, .ref k2, .int kold, .int kwai, .int ksnt]))]) rfl (by decide) ?_
  clear hP hD hS
  intro H locs hP hD hS
  refine lv_aload_n J.1 J.2.1 d_MA_clear_8 rfl (lv_at hl 0 rfl) ?_
  refine jg J hJ hP 0 rfl rfl i_MA 1 (by decide) gf_MA_15 rfl d_MA_clear_9 ?_
  refine lv_iconst (v := 0) J.1 J.2.1 d_MA_clear_12 (by decide) ?_
  replace h := g_bd h
  obtain ⟨wf_2, q_2, h⟩ := h
  refine jk_v (jrunS (As := [.ref a2, .int 0]) (rest := []) J hJ hA hZ hP hD hS (ct_JA_fill l E a2 _ 8 vreg 0 wf_2 q_2) [2] rfl (by decide) gl_MA_32 gs_JA_fill gini_JA gc_JA_fill hd_JA_fill ⟨rfl, rfl, Nat.le_of_ble_eq_true rfl, Nat.le_of_ble_eq_true rfl⟩ hl.1 rfl rfl (Nat.le_of_ble_eq_true rfl) d_MA_clear_13 ⟨Nat.zero_le _, Nat.zero_le _⟩) hA hP hD hS [2] [0, 1, 3, 4] (WR := [(a0, .inr (0, [.ref a1, .ref a2, .ref a3, .ref k0, .int vsz, .int vmd, .int vpc, .int vba, .int vbo, .int vre, .int vti, .int vro, .int vha])), (a1, .inl (E.2.1 0, 1844, .inl wf_1)), (a3, .inl (E.2.1 0, 128, .inl vblk)), (k0, .inr (1, [.ref k1, .ref k2, .int kold, .int kwai, .int ksnt]))]) rfl rfl (by decide) (by decide) [0, 1, 4, 2, 3] (WF := [(a0, .inr (0, [.ref a1, .ref a2, .ref a3, .ref k0, .int vsz, .int vmd, .int vpc, .int vba, .int vbo, .int vre, .int vti, .int vro, .int vha])), (a1, .inl (E.2.1 0, 1844, .inl wf_1)), (a2, .inl (E.2.1 0, 8, .inl wf_2)), (a3, .inl (E.2.1 0, 128, .inl vblk)), (k0, .inr (1, [.ref k1, .ref k2, .int kold, .int kwai, .int ksnt]))]) rfl (by decide) ?_
  clear hP hD hS
  intro H locs hP hD hS
  refine lv_aload_n J.1 J.2.1 d_MA_clear_16 rfl (lv_at hl 0 rfl) ?_
  refine jg J hJ hP 0 rfl rfl i_MA 2 (by decide) gf_MA_18 rfl d_MA_clear_17 ?_
  refine lv_iconst (v := 0) J.1 J.2.1 d_MA_clear_20 (by decide) ?_
  replace h := g_bd h
  obtain ⟨wf_3, q_3, h⟩ := h
  refine jk_v (jrunS (As := [.ref a3, .int 0]) (rest := []) J hJ hA hZ hP hD hS (ct_JA_fill l E a3 _ 128 vblk 0 wf_3 q_3) [3] rfl (by decide) gl_MA_32 gs_JA_fill gini_JA gc_JA_fill hd_JA_fill ⟨rfl, rfl, Nat.le_of_ble_eq_true rfl, Nat.le_of_ble_eq_true rfl⟩ hl.1 rfl rfl (Nat.le_of_ble_eq_true rfl) d_MA_clear_21 ⟨Nat.zero_le _, Nat.zero_le _⟩) hA hP hD hS [3] [0, 1, 2, 4] (WR := [(a0, .inr (0, [.ref a1, .ref a2, .ref a3, .ref k0, .int vsz, .int vmd, .int vpc, .int vba, .int vbo, .int vre, .int vti, .int vro, .int vha])), (a1, .inl (E.2.1 0, 1844, .inl wf_1)), (a2, .inl (E.2.1 0, 8, .inl wf_2)), (k0, .inr (1, [.ref k1, .ref k2, .int kold, .int kwai, .int ksnt]))]) rfl rfl (by decide) (by decide) [0, 1, 2, 4, 3] (WF := [(a0, .inr (0, [.ref a1, .ref a2, .ref a3, .ref k0, .int vsz, .int vmd, .int vpc, .int vba, .int vbo, .int vre, .int vti, .int vro, .int vha])), (a1, .inl (E.2.1 0, 1844, .inl wf_1)), (a2, .inl (E.2.1 0, 8, .inl wf_2)), (a3, .inl (E.2.1 0, 128, .inl wf_3)), (k0, .inr (1, [.ref k1, .ref k2, .int kold, .int kwai, .int ksnt]))]) rfl (by decide) ?_
  clear hP hD hS
  intro H locs hP hD hS
  refine lv_aload_n J.1 J.2.1 d_MA_clear_24 rfl (lv_at hl 0 rfl) ?_
  refine jg J hJ hP 0 rfl rfl i_MA 3 (by decide) gf_MA_24 rfl d_MA_clear_25 ?_
  replace h := g_bd h
  obtain ⟨⟨kold_4, kwai_4, ksnt_4⟩, q_4, h⟩ := h
  try dsimp only at h
  refine jk_v (jrunV (As := []) (rest := []) J hJ hA hZ hP hD hS (ct_CO_clear l E k0 k1 k2 _ kold kwai ksnt kold_4 kwai_4 ksnt_4 q_4) [4] rfl (by decide) gl_MA_38 gi_CO_clear gsel_CO_clear gini_CO gc_CO_clear hd_CO_clear ⟨rfl, rfl, Nat.le_of_ble_eq_true rfl, Nat.le_of_ble_eq_true rfl⟩ rfl rfl hl.1 rfl rfl (Nat.le_of_ble_eq_true rfl) d_MA_clear_28 ⟨Nat.zero_le _, Nat.zero_le _⟩) hA hP hD hS [4] [0, 1, 2, 3] (WR := [(a0, .inr (0, [.ref a1, .ref a2, .ref a3, .ref k0, .int vsz, .int vmd, .int vpc, .int vba, .int vbo, .int vre, .int vti, .int vro, .int vha])), (a1, .inl (E.2.1 0, 1844, .inl wf_1)), (a2, .inl (E.2.1 0, 8, .inl wf_2)), (a3, .inl (E.2.1 0, 128, .inl wf_3))]) rfl rfl (by decide) (by decide) [0, 1, 2, 3, 4] (WF := [(a0, .inr (0, [.ref a1, .ref a2, .ref a3, .ref k0, .int vsz, .int vmd, .int vpc, .int vba, .int vbo, .int vre, .int vti, .int vro, .int vha])), (a1, .inl (E.2.1 0, 1844, .inl wf_1)), (a2, .inl (E.2.1 0, 8, .inl wf_2)), (a3, .inl (E.2.1 0, 128, .inl wf_3)), (k0, .inr (1, [.ref k1, .ref k2, .int kold_4, .int kwai_4, .int ksnt_4]))]) rfl (by decide) ?_
  clear hP hD hS
  intro H locs hP hD hS
  refine lv_aload_n J.1 J.2.1 d_MA_clear_31 rfl (lv_at hl 0 rfl) ?_
  refine lv_iload_n J.1 J.2.1 d_MA_clear_32 rfl (lv_at hl 1 rfl) ?_
  refine jp J hJ hP hD hS 0 rfl rfl i_MA t_MA t_MA_ok n_MA 4 (by decide) gf_MA_28 rfl rfl rfl (Nat.le_of_ble_eq_true rfl) d_MA_clear_33 (WS' := [(a0, .inr (0, [.ref a1, .ref a2, .ref a3, .ref k0, .int p1, .int vmd, .int vpc, .int vba, .int vbo, .int vre, .int vti, .int vro, .int vha])), (a1, .inl (E.2.1 0, 1844, .inl wf_1)), (a2, .inl (E.2.1 0, 8, .inl wf_2)), (a3, .inl (E.2.1 0, 128, .inl wf_3)), (k0, .inr (1, [.ref k1, .ref k2, .int kold_4, .int kwai_4, .int ksnt_4]))]) rfl ?_
  clear hP hD hS
  intro H locs hP hD hS
  refine lv_aload_n J.1 J.2.1 d_MA_clear_36 rfl (lv_at hl 0 rfl) ?_
  refine lv_iconst (v := 0) J.1 J.2.1 d_MA_clear_37 (by decide) ?_
  refine jp J hJ hP hD hS 0 rfl rfl i_MA t_MA t_MA_ok n_MA 5 (by decide) gf_MA_41 rfl rfl rfl (Nat.le_of_ble_eq_true rfl) d_MA_clear_38 (WS' := [(a0, .inr (0, [.ref a1, .ref a2, .ref a3, .ref k0, .int p1, .int 0, .int vpc, .int vba, .int vbo, .int vre, .int vti, .int vro, .int vha])), (a1, .inl (E.2.1 0, 1844, .inl wf_1)), (a2, .inl (E.2.1 0, 8, .inl wf_2)), (a3, .inl (E.2.1 0, 128, .inl wf_3)), (k0, .inr (1, [.ref k1, .ref k2, .int kold_4, .int kwai_4, .int ksnt_4]))]) rfl ?_
  clear hP hD hS
  intro H locs hP hD hS
  refine lv_aload_n J.1 J.2.1 d_MA_clear_41 rfl (lv_at hl 0 rfl) ?_
  refine lv_bipush (v := 16) J.1 J.2.1 d_MA_clear_42 (by decide) ?_
  refine jp J hJ hP hD hS 0 rfl rfl i_MA t_MA t_MA_ok n_MA 6 (by decide) gf_MA_44 rfl rfl rfl (Nat.le_of_ble_eq_true rfl) d_MA_clear_44 (WS' := [(a0, .inr (0, [.ref a1, .ref a2, .ref a3, .ref k0, .int p1, .int 0, .int 16, .int vba, .int vbo, .int vre, .int vti, .int vro, .int vha])), (a1, .inl (E.2.1 0, 1844, .inl wf_1)), (a2, .inl (E.2.1 0, 8, .inl wf_2)), (a3, .inl (E.2.1 0, 128, .inl wf_3)), (k0, .inr (1, [.ref k1, .ref k2, .int kold_4, .int kwai_4, .int ksnt_4]))]) rfl ?_
  clear hP hD hS
  intro H locs hP hD hS
  refine lv_aload_n J.1 J.2.1 d_MA_clear_47 rfl (lv_at hl 0 rfl) ?_
  refine lv_iconst (v := 0) J.1 J.2.1 d_MA_clear_48 (by decide) ?_
  refine jp J hJ hP hD hS 0 rfl rfl i_MA t_MA t_MA_ok n_MA 7 (by decide) gf_MA_47 rfl rfl rfl (Nat.le_of_ble_eq_true rfl) d_MA_clear_49 (WS' := [(a0, .inr (0, [.ref a1, .ref a2, .ref a3, .ref k0, .int p1, .int 0, .int 16, .int 0, .int vbo, .int vre, .int vti, .int vro, .int vha])), (a1, .inl (E.2.1 0, 1844, .inl wf_1)), (a2, .inl (E.2.1 0, 8, .inl wf_2)), (a3, .inl (E.2.1 0, 128, .inl wf_3)), (k0, .inr (1, [.ref k1, .ref k2, .int kold_4, .int kwai_4, .int ksnt_4]))]) rfl ?_
  clear hP hD hS
  intro H locs hP hD hS
  refine lv_aload_n J.1 J.2.1 d_MA_clear_52 rfl (lv_at hl 0 rfl) ?_
  refine lv_iload_n J.1 J.2.1 d_MA_clear_53 rfl (lv_at hl 1 rfl) ?_
  refine jp J hJ hP hD hS 0 rfl rfl i_MA t_MA t_MA_ok n_MA 8 (by decide) gf_MA_50 rfl rfl rfl (Nat.le_of_ble_eq_true rfl) d_MA_clear_54 (WS' := [(a0, .inr (0, [.ref a1, .ref a2, .ref a3, .ref k0, .int p1, .int 0, .int 16, .int 0, .int p1, .int vre, .int vti, .int vro, .int vha])), (a1, .inl (E.2.1 0, 1844, .inl wf_1)), (a2, .inl (E.2.1 0, 8, .inl wf_2)), (a3, .inl (E.2.1 0, 128, .inl wf_3)), (k0, .inr (1, [.ref k1, .ref k2, .int kold_4, .int kwai_4, .int ksnt_4]))]) rfl ?_
  clear hP hD hS
  intro H locs hP hD hS
  refine lv_aload_n J.1 J.2.1 d_MA_clear_57 rfl (lv_at hl 0 rfl) ?_
  refine lv_iload_n J.1 J.2.1 d_MA_clear_58 rfl (lv_at hl 1 rfl) ?_
  refine jp J hJ hP hD hS 0 rfl rfl i_MA t_MA t_MA_ok n_MA 9 (by decide) gf_MA_53 rfl rfl rfl (Nat.le_of_ble_eq_true rfl) d_MA_clear_59 (WS' := [(a0, .inr (0, [.ref a1, .ref a2, .ref a3, .ref k0, .int p1, .int 0, .int 16, .int 0, .int p1, .int p1, .int vti, .int vro, .int vha])), (a1, .inl (E.2.1 0, 1844, .inl wf_1)), (a2, .inl (E.2.1 0, 8, .inl wf_2)), (a3, .inl (E.2.1 0, 128, .inl wf_3)), (k0, .inr (1, [.ref k1, .ref k2, .int kold_4, .int kwai_4, .int ksnt_4]))]) rfl ?_
  clear hP hD hS
  intro H locs hP hD hS
  refine lv_aload_n J.1 J.2.1 d_MA_clear_62 rfl (lv_at hl 0 rfl) ?_
  refine lv_iconst (v := 0) J.1 J.2.1 d_MA_clear_63 (by decide) ?_
  refine jp J hJ hP hD hS 0 rfl rfl i_MA t_MA t_MA_ok n_MA 10 (by decide) gf_MA_56 rfl rfl rfl (Nat.le_of_ble_eq_true rfl) d_MA_clear_64 (WS' := [(a0, .inr (0, [.ref a1, .ref a2, .ref a3, .ref k0, .int p1, .int 0, .int 16, .int 0, .int p1, .int p1, .int 0, .int vro, .int vha])), (a1, .inl (E.2.1 0, 1844, .inl wf_1)), (a2, .inl (E.2.1 0, 8, .inl wf_2)), (a3, .inl (E.2.1 0, 128, .inl wf_3)), (k0, .inr (1, [.ref k1, .ref k2, .int kold_4, .int kwai_4, .int ksnt_4]))]) rfl ?_
  clear hP hD hS
  intro H locs hP hD hS
  refine lv_aload_n J.1 J.2.1 d_MA_clear_67 rfl (lv_at hl 0 rfl) ?_
  refine lv_iconst (v := 0) J.1 J.2.1 d_MA_clear_68 (by decide) ?_
  refine jp J hJ hP hD hS 0 rfl rfl i_MA t_MA t_MA_ok n_MA 11 (by decide) gf_MA_59 rfl rfl rfl (Nat.le_of_ble_eq_true rfl) d_MA_clear_69 (WS' := [(a0, .inr (0, [.ref a1, .ref a2, .ref a3, .ref k0, .int p1, .int 0, .int 16, .int 0, .int p1, .int p1, .int 0, .int 0, .int vha])), (a1, .inl (E.2.1 0, 1844, .inl wf_1)), (a2, .inl (E.2.1 0, 8, .inl wf_2)), (a3, .inl (E.2.1 0, 128, .inl wf_3)), (k0, .inr (1, [.ref k1, .ref k2, .int kold_4, .int kwai_4, .int ksnt_4]))]) rfl ?_
  clear hP hD hS
  intro H locs hP hD hS
  refine lv_aload_n J.1 J.2.1 d_MA_clear_72 rfl (lv_at hl 0 rfl) ?_
  refine lv_iconst (v := 0) J.1 J.2.1 d_MA_clear_73 (by decide) ?_
  refine jp J hJ hP hD hS 0 rfl rfl i_MA t_MA t_MA_ok n_MA 12 (by decide) gf_MA_63 rfl rfl rfl (Nat.le_of_ble_eq_true rfl) d_MA_clear_74 (WS' := [(a0, .inr (0, [.ref a1, .ref a2, .ref a3, .ref k0, .int p1, .int 0, .int 16, .int 0, .int p1, .int p1, .int 0, .int 0, .int 0])), (a1, .inl (E.2.1 0, 1844, .inl wf_1)), (a2, .inl (E.2.1 0, 8, .inl wf_2)), (a3, .inl (E.2.1 0, 128, .inl wf_3)), (k0, .inr (1, [.ref k1, .ref k2, .int kold_4, .int kwai_4, .int ksnt_4]))]) rfl ?_
  clear hP hD hS
  intro H locs hP hD hS
  cases h
  exact jr_v J hS hP hD d_MA_clear_77

theorem hd_MA_copyIn : y_MA_copyIn.cls ≠ "java/lang/invoke/MethodHandle" ∧ y_MA_copyIn.cls ≠ "java/lang/invoke/VarHandle" ∧ (parseMethodDescriptor y_MA_copyIn.desc).map (fun d => d.parameters.length) = some 3 := by decide +kernel
def b_MA_copyIn_3 : Nat → Nat → Int32 → (Nat → Int32) → (Nat → Int32) → Int32 → Int32 → Int32 → Option ((Nat → Int32))
  | 0, _, _, _, _, _, _, _ => none
  | n + 1, wn, vsz, vmem, wf, x2, x3, x4 => (if x2 ≤ x4 then (some vmem) else (if (Int32.ofNat wn) ≤ x4 then (some vmem) else (if vsz ≤ (x3 + x4) then (some vmem) else (if ck x4 wn then (if ck (x3 + x4) 1844 then b_MA_copyIn_3 n wn vsz (upd vmem (x3 + x4).toNatClampNeg (wf x4.toNatClampNeg)) wf x2 x3 (x4 + 1) else none) else none))))
def f_MA_copyIn (wn : Nat) (vsz : Int32) (vmem : Nat → Int32) (wf : Nat → Int32) (p2 : Int32) (p3 : Int32) : Option ((Nat → Int32)) := b_MA_copyIn_3 65536 wn vsz vmem wf p2 p3 0
set_option maxHeartbeats 4000000 in
set_option maxRecDepth 100000 in
theorem ct_MA_copyIn (l : Launch) (E : jz_E) (a0 a1 a2 a3 k0 w0 : Nat) (sz : Nat) (wn : Nat) (vsz : Int32) (vmd : Int32) (vpc : Int32) (vba : Int32) (vbo : Int32) (vre : Int32) (vti : Int32) (vro : Int32) (vha : Int32) (vmem : Nat → Int32) (wf : Nat → Int32) (p2 : Int32) (p3 : Int32) (o_vmem : Nat → Int32)  (h : f_MA_copyIn wn vsz vmem wf p2 p3 = some o_vmem) : CTv l E y_MA_copyIn c_MA_copyIn 5 none ({ frames := 0, cells := 0, slots := 0, locals := 0 }) [.ref a0, .ref w0, .int p2, .int p3] [(a0, .inr (0, [.ref a1, .ref a2, .ref a3, .ref k0, .int vsz, .int vmd, .int vpc, .int vba, .int vbo, .int vre, .int vti, .int vro, .int vha])), (a1, .inl (E.2.1 0, 1844, .inl vmem)), (w0, .inl (E.2.1 0, wn, .inl wf))] sz [(a0, .inr (0, [.ref a1, .ref a2, .ref a3, .ref k0, .int vsz, .int vmd, .int vpc, .int vba, .int vbo, .int vre, .int vti, .int vro, .int vha])), (a1, .inl (E.2.1 0, 1844, .inl o_vmem)), (w0, .inl (E.2.1 0, wn, .inl wf))] := by
  refine jw (by decide +kernel) (Nat.le_of_ble_eq_true rfl) ?_
  intro p e s m below meth c A ls J hJ hAe hsz hA hZ hP hD hl
  rw [← hAe]
  have hS : va_S A s.heap s.heap [] := va_S.rf
  have hl : lv_has ls 5 [(0, .ref a0), (1, .ref w0), (2, .int p2), (3, .int p3)] := hl
  have K_3 : ∀ (n : Nat) (wn : Nat) (vsz : Int32) (vmd : Int32) (vpc : Int32) (vba : Int32) (vbo : Int32) (vre : Int32) (vti : Int32) (vro : Int32) (vha : Int32) (vmem : Nat → Int32) (wf : Nat → Int32) (x2 : Int32) (x3 : Int32) (x4 : Int32) (H : Heap) (locs : List Loc) (ls : Array Slot), b_MA_copyIn_3 n wn vsz vmem wf x2 x3 x4 = some o_vmem → va_P E.1 classes [(a0, .inr (0, [.ref a1, .ref a2, .ref a3, .ref k0, .int vsz, .int vmd, .int vpc, .int vba, .int vbo, .int vre, .int vti, .int vro, .int vha])), (a1, .inl (E.2.1 0, 1844, .inl vmem)), (w0, .inl (E.2.1 0, wn, .inl wf))] H → va_D A [(a0, .inr (0, [.ref a1, .ref a2, .ref a3, .ref k0, .int vsz, .int vmd, .int vpc, .int vba, .int vbo, .int vre, .int vti, .int vro, .int vha])), (a1, .inl (E.2.1 0, 1844, .inl vmem)), (w0, .inl (E.2.1 0, wn, .inl wf))] → va_S A s.heap H locs → lv_has ls 5 [(0, .ref a0), (1, .ref w0), (2, .int x2), (3, .int x3), (4, .int x4)] → W p l e ({ frames := 0, cells := 0, slots := 0, locals := 0 }) s m ([.ref a0, .ref w0, .int p2, .int p3] : List Value).toArray below meth c H locs 0 0 (MQ below (va_Qv (fun (u : va_W) => u = [(a0, .inr (0, [.ref a1, .ref a2, .ref a3, .ref k0, .int vsz, .int vmd, .int vpc, .int vba, .int vbo, .int vre, .int vti, .int vro, .int vha])), (a1, .inl (E.2.1 0, 1844, .inl o_vmem)), (w0, .inl (E.2.1 0, wn, .inl wf))]) (BW E A) A) ([.ref a0, .ref w0, .int p2, .int p3] : List Value).toArray s 0 0 A) (F0 m 3 ls []) := by
    intro n
    induction n with
    | zero => intro wn vsz vmd vpc vba vbo vre vti vro vha vmem wf x2 x3 x4 H locs ls h; cases h
    | succ n ih =>
      intro wn vsz vmd vpc vba vbo vre vti vro vha vmem wf x2 x3 x4 H locs ls h hP hD hS hl
      rw [b_MA_copyIn_3] at h
      refine lv_iload J.1 J.2.1 d_MA_copyIn_3 (lv_at hl 4 rfl) ?_
      refine lv_iload_n J.1 J.2.1 d_MA_copyIn_5 rfl (lv_at hl 2 rfl) ?_
      refine lv_icmp_ge (tgt := 46) J.1 J.2.1 d_MA_copyIn_6 (by decide) (fun c_1 => ?_) (fun c_1 => ?_)
      · replace h := g_t c_1 h
        cases h
        exact jr_v J hS hP hD d_MA_copyIn_46
      · replace h := g_f c_1 h
        refine lv_iload J.1 J.2.1 d_MA_copyIn_9 (lv_at hl 4 rfl) ?_
        refine lv_aload_n J.1 J.2.1 d_MA_copyIn_11 rfl (lv_at hl 1 rfl) ?_
        refine va_alen J.1 J.2.1 hJ.1 hP 2 0 rfl rfl (v := (Int32.ofNat wn)) rfl d_MA_copyIn_12 ?_
        refine lv_icmp_ge (tgt := 46) J.1 J.2.1 d_MA_copyIn_13 (by decide) (fun c_2 => ?_) (fun c_2 => ?_)
        · replace h := g_t c_2 h
          cases h
          exact jr_v J hS hP hD d_MA_copyIn_46
        · replace h := g_f c_2 h
          refine lv_iload_n J.1 J.2.1 d_MA_copyIn_16 rfl (lv_at hl 3 rfl) ?_
          refine lv_iload J.1 J.2.1 d_MA_copyIn_17 (lv_at hl 4 rfl) ?_
          refine lv_iadd J.1 J.2.1 d_MA_copyIn_19 ?_
          refine lv_aload_n J.1 J.2.1 d_MA_copyIn_20 rfl (lv_at hl 0 rfl) ?_
          refine jg J hJ hP 0 rfl rfl i_MA 4 (by decide) gf_MA_28 rfl d_MA_copyIn_21 ?_
          refine lv_icmp_ge (tgt := 46) J.1 J.2.1 d_MA_copyIn_24 (by decide) (fun c_3 => ?_) (fun c_3 => ?_)
          · replace h := g_t c_3 h
            cases h
            exact jr_v J hS hP hD d_MA_copyIn_46
          · replace h := g_f c_3 h
            refine lv_aload_n J.1 J.2.1 d_MA_copyIn_27 rfl (lv_at hl 0 rfl) ?_
            refine jg J hJ hP 0 rfl rfl i_MA 0 (by decide) gf_MA_9 rfl d_MA_copyIn_28 ?_
            refine lv_iload_n J.1 J.2.1 d_MA_copyIn_31 rfl (lv_at hl 3 rfl) ?_
            refine lv_iload J.1 J.2.1 d_MA_copyIn_32 (lv_at hl 4 rfl) ?_
            refine lv_iadd J.1 J.2.1 d_MA_copyIn_34 ?_
            refine lv_aload_n J.1 J.2.1 d_MA_copyIn_35 rfl (lv_at hl 1 rfl) ?_
            refine lv_iload J.1 J.2.1 d_MA_copyIn_36 (lv_at hl 4 rfl) ?_
            replace h := g_ck h
            obtain ⟨k_4, h⟩ := h
            refine jai J hJ hP 2 rfl k_4 d_MA_copyIn_38 ?_
            replace h := g_ck h
            obtain ⟨k_5, h⟩ := h
            refine jsi J hJ hP hD hS 1 rfl k_5 d_MA_copyIn_39 (WS' := [(a0, .inr (0, [.ref a1, .ref a2, .ref a3, .ref k0, .int vsz, .int vmd, .int vpc, .int vba, .int vbo, .int vre, .int vti, .int vro, .int vha])), (a1, .inl (E.2.1 0, 1844, .inl (upd vmem (x3 + x4).toNatClampNeg (wf x4.toNatClampNeg)))), (w0, .inl (E.2.1 0, wn, .inl wf))]) rfl ?_
            clear hP hD hS
            intro H locs hP hD hS
            refine lv_iinc (v := (x4 + 1)) (lv' := [(4, .int (x4 + 1)), (0, .ref a0), (1, .ref w0), (2, .int x2), (3, .int x3)]) J.1 J.2.1 d_MA_copyIn_40 hl (k := 4) rfl rfl (by decide) rfl ?_
            clear hl
            intro ls hl
            refine lv_goto (tgt := 3) J.1 J.2.1 d_MA_copyIn_43 (by decide) ?_
            exact ih _ _ _ _ _ _ _ _ _ _ _ _ _ _ _ _ _ _ h hP hD hS (lv_sub hl [1, 2, 3, 4, 0] rfl)
  unfold f_MA_copyIn at h
  refine lv_iconst (v := 0) J.1 J.2.1 d_MA_copyIn_0 (by decide) ?_
  refine lv_istore (lv' := [(4, .int 0), (0, .ref a0), (1, .ref w0), (2, .int p2), (3, .int p3)]) J.1 J.2.1 d_MA_copyIn_1 hl (by decide) rfl ?_
  clear hl
  intro ls hl
  exact K_3 _ _ _ _ _ _ _ _ _ _ _ _ _ _ _ _ _ _ _ h hP hD hS (lv_sub hl [1, 2, 3, 4, 0] rfl)

def b_MA_copyIns_3 : Nat → (Nat → Int32) → Int32 → (Nat → Int32) → Int32 → Int32 → Int32 → Option ((Nat → Int32))
  | 0, _, _, _, _, _, _ => none
  | n + 1, wW, vsz, vmem, x2, x3, x4 => (if x2 ≤ x4 then (some vmem) else (if (410 : Int32) ≤ x4 then (some vmem) else (if vsz ≤ (x3 + x4) then (some vmem) else (if ck x4 410 then (if ck (x3 + x4) 1844 then b_MA_copyIns_3 n wW vsz (upd vmem (x3 + x4).toNatClampNeg (wW x4.toNatClampNeg)) x2 x3 (x4 + 1) else none) else none))))
def f_MA_copyIns (wW : Nat → Int32) (vsz : Int32) (vmem : Nat → Int32) (p2 : Int32) (p3 : Int32) : Option ((Nat → Int32)) := b_MA_copyIns_3 65536 wW vsz vmem p2 p3 0
set_option maxHeartbeats 4000000 in
set_option maxRecDepth 100000 in
theorem ct_MA_copyIns (l : Launch) (E : jz_E) (a0 a1 a2 a3 k0 w9 : Nat) (sz : Nat) (wW : Nat → Int32) (vsz : Int32) (vmd : Int32) (vpc : Int32) (vba : Int32) (vbo : Int32) (vre : Int32) (vti : Int32) (vro : Int32) (vha : Int32) (vmem : Nat → Int32) (p2 : Int32) (p3 : Int32) (o_vmem : Nat → Int32)  (htW : (w9, 410, wW) ∈ E.2.2.2.1) (h : f_MA_copyIns wW vsz vmem p2 p3 = some o_vmem) : CTv l E y_MA_copyIn c_MA_copyIn 5 none ({ frames := 0, cells := 0, slots := 0, locals := 0 }) [.ref a0, .ref w9, .int p2, .int p3] [(a0, .inr (0, [.ref a1, .ref a2, .ref a3, .ref k0, .int vsz, .int vmd, .int vpc, .int vba, .int vbo, .int vre, .int vti, .int vro, .int vha])), (a1, .inl (E.2.1 0, 1844, .inl vmem))] sz [(a0, .inr (0, [.ref a1, .ref a2, .ref a3, .ref k0, .int vsz, .int vmd, .int vpc, .int vba, .int vbo, .int vre, .int vti, .int vro, .int vha])), (a1, .inl (E.2.1 0, 1844, .inl o_vmem))] := by
  refine jw (by decide +kernel) (Nat.le_of_ble_eq_true rfl) ?_
  intro p e s m below meth c A ls J hJ hAe hsz hA hZ hP hD hl
  rw [← hAe]
  have hS : va_S A s.heap s.heap [] := va_S.rf
  have hl : lv_has ls 5 [(0, .ref a0), (1, .ref w9), (2, .int p2), (3, .int p3)] := hl
  have K_3 : ∀ (n : Nat) (vsz : Int32) (vmd : Int32) (vpc : Int32) (vba : Int32) (vbo : Int32) (vre : Int32) (vti : Int32) (vro : Int32) (vha : Int32) (vmem : Nat → Int32) (x2 : Int32) (x3 : Int32) (x4 : Int32) (H : Heap) (locs : List Loc) (ls : Array Slot), b_MA_copyIns_3 n wW vsz vmem x2 x3 x4 = some o_vmem → va_P E.1 classes [(a0, .inr (0, [.ref a1, .ref a2, .ref a3, .ref k0, .int vsz, .int vmd, .int vpc, .int vba, .int vbo, .int vre, .int vti, .int vro, .int vha])), (a1, .inl (E.2.1 0, 1844, .inl vmem))] H → va_D A [(a0, .inr (0, [.ref a1, .ref a2, .ref a3, .ref k0, .int vsz, .int vmd, .int vpc, .int vba, .int vbo, .int vre, .int vti, .int vro, .int vha])), (a1, .inl (E.2.1 0, 1844, .inl vmem))] → va_S A s.heap H locs → lv_has ls 5 [(0, .ref a0), (1, .ref w9), (2, .int x2), (3, .int x3), (4, .int x4)] → W p l e ({ frames := 0, cells := 0, slots := 0, locals := 0 }) s m ([.ref a0, .ref w9, .int p2, .int p3] : List Value).toArray below meth c H locs 0 0 (MQ below (va_Qv (fun (u : va_W) => u = [(a0, .inr (0, [.ref a1, .ref a2, .ref a3, .ref k0, .int vsz, .int vmd, .int vpc, .int vba, .int vbo, .int vre, .int vti, .int vro, .int vha])), (a1, .inl (E.2.1 0, 1844, .inl o_vmem))]) (BW E A) A) ([.ref a0, .ref w9, .int p2, .int p3] : List Value).toArray s 0 0 A) (F0 m 3 ls []) := by
    intro n
    induction n with
    | zero => intro vsz vmd vpc vba vbo vre vti vro vha vmem x2 x3 x4 H locs ls h; cases h
    | succ n ih =>
      intro vsz vmd vpc vba vbo vre vti vro vha vmem x2 x3 x4 H locs ls h hP hD hS hl
      rw [b_MA_copyIns_3] at h
      refine lv_iload J.1 J.2.1 d_MA_copyIn_3 (lv_at hl 4 rfl) ?_
      refine lv_iload_n J.1 J.2.1 d_MA_copyIn_5 rfl (lv_at hl 2 rfl) ?_
      refine lv_icmp_ge (tgt := 46) J.1 J.2.1 d_MA_copyIn_6 (by decide) (fun c_1 => ?_) (fun c_1 => ?_)
      · replace h := g_t c_1 h
        cases h
        exact jr_v J hS hP hD d_MA_copyIn_46
      · replace h := g_f c_1 h
        refine lv_iload J.1 J.2.1 d_MA_copyIn_9 (lv_at hl 4 rfl) ?_
        refine lv_aload_n J.1 J.2.1 d_MA_copyIn_11 rfl (lv_at hl 1 rfl) ?_
        refine va_tlen J.1 J.2.1 (hZ.2.1 _ htW) hS (v := 410) rfl d_MA_copyIn_12 ?_
        refine lv_icmp_ge (tgt := 46) J.1 J.2.1 d_MA_copyIn_13 (by decide) (fun c_2 => ?_) (fun c_2 => ?_)
        · replace h := g_t c_2 h
          cases h
          exact jr_v J hS hP hD d_MA_copyIn_46
        · replace h := g_f c_2 h
          refine lv_iload_n J.1 J.2.1 d_MA_copyIn_16 rfl (lv_at hl 3 rfl) ?_
          refine lv_iload J.1 J.2.1 d_MA_copyIn_17 (lv_at hl 4 rfl) ?_
          refine lv_iadd J.1 J.2.1 d_MA_copyIn_19 ?_
          refine lv_aload_n J.1 J.2.1 d_MA_copyIn_20 rfl (lv_at hl 0 rfl) ?_
          refine jg J hJ hP 0 rfl rfl i_MA 4 (by decide) gf_MA_28 rfl d_MA_copyIn_21 ?_
          refine lv_icmp_ge (tgt := 46) J.1 J.2.1 d_MA_copyIn_24 (by decide) (fun c_3 => ?_) (fun c_3 => ?_)
          · replace h := g_t c_3 h
            cases h
            exact jr_v J hS hP hD d_MA_copyIn_46
          · replace h := g_f c_3 h
            refine lv_aload_n J.1 J.2.1 d_MA_copyIn_27 rfl (lv_at hl 0 rfl) ?_
            refine jg J hJ hP 0 rfl rfl i_MA 0 (by decide) gf_MA_9 rfl d_MA_copyIn_28 ?_
            refine lv_iload_n J.1 J.2.1 d_MA_copyIn_31 rfl (lv_at hl 3 rfl) ?_
            refine lv_iload J.1 J.2.1 d_MA_copyIn_32 (lv_at hl 4 rfl) ?_
            refine lv_iadd J.1 J.2.1 d_MA_copyIn_34 ?_
            refine lv_aload_n J.1 J.2.1 d_MA_copyIn_35 rfl (lv_at hl 1 rfl) ?_
            refine lv_iload J.1 J.2.1 d_MA_copyIn_36 (lv_at hl 4 rfl) ?_
            replace h := g_ck h
            obtain ⟨k_4, h⟩ := h
            refine va_ti J.1 J.2.1 (hZ.2.1 _ htW) hS k_4 rfl d_MA_copyIn_38 ?_
            replace h := g_ck h
            obtain ⟨k_5, h⟩ := h
            refine jsi J hJ hP hD hS 1 rfl k_5 d_MA_copyIn_39 (WS' := [(a0, .inr (0, [.ref a1, .ref a2, .ref a3, .ref k0, .int vsz, .int vmd, .int vpc, .int vba, .int vbo, .int vre, .int vti, .int vro, .int vha])), (a1, .inl (E.2.1 0, 1844, .inl (upd vmem (x3 + x4).toNatClampNeg (wW x4.toNatClampNeg))))]) rfl ?_
            clear hP hD hS
            intro H locs hP hD hS
            refine lv_iinc (v := (x4 + 1)) (lv' := [(4, .int (x4 + 1)), (0, .ref a0), (1, .ref w9), (2, .int x2), (3, .int x3)]) J.1 J.2.1 d_MA_copyIn_40 hl (k := 4) rfl rfl (by decide) rfl ?_
            clear hl
            intro ls hl
            refine lv_goto (tgt := 3) J.1 J.2.1 d_MA_copyIn_43 (by decide) ?_
            exact ih _ _ _ _ _ _ _ _ _ _ _ _ _ _ _ _ h hP hD hS (lv_sub hl [1, 2, 3, 4, 0] rfl)
  unfold f_MA_copyIns at h
  refine lv_iconst (v := 0) J.1 J.2.1 d_MA_copyIn_0 (by decide) ?_
  refine lv_istore (lv' := [(4, .int 0), (0, .ref a0), (1, .ref w9), (2, .int p2), (3, .int p3)]) J.1 J.2.1 d_MA_copyIn_1 hl (by decide) rfl ?_
  clear hl
  intro ls hl
  exact K_3 _ _ _ _ _ _ _ _ _ _ _ _ _ _ _ _ _ h hP hD hS (lv_sub hl [1, 2, 3, 4, 0] rfl)
end
section
theorem hd_GU_isTurn : y_GU_isTurn.cls ≠ "java/lang/invoke/MethodHandle" ∧ y_GU_isTurn.cls ≠ "java/lang/invoke/VarHandle" ∧ (parseMethodDescriptor y_GU_isTurn.desc).map (fun d => d.parameters.length) = some 0 := by decide +kernel
def f_GU_isTurn (gdp : Int32) (vmd : Int32) (vha : Int32) (vmem : Nat → Int32) : Option (Int32) := (if gdp = (0 : Int32) then (some 1) else (if vha = (0 : Int32) then (if vmd = (1 : Int32) then (if gdp = (1 : Int32) then (some 1) else (if (vmem (10 : Int32).toNatClampNeg) = (1 : Int32) then (some 1) else (some 0))) else (some 0)) else (some 1)))
set_option maxHeartbeats 4000000 in
set_option maxRecDepth 100000 in
theorem ct_GU_isTurn (l : Launch) (E : jz_E) (a0 a1 a2 a3 g0 k0 : Nat) (sz : Nat) (gsz : Int32) (gdp : Int32) (gst : Int32) (gsp : Int32) (vsz : Int32) (vmd : Int32) (vpc : Int32) (vba : Int32) (vbo : Int32) (vre : Int32) (vti : Int32) (vro : Int32) (vha : Int32) (vmem : Nat → Int32) (o_r : Int32)  (h : f_GU_isTurn gdp vmd vha vmem = some o_r) : CTi l E y_GU_isTurn c_GU_isTurn 1 (some .boolean) ({ frames := 0, cells := 0, slots := 0, locals := 0 }) [.ref g0] [(g0, .inr (2, [.ref a0, .int gsz, .int gdp, .int gst, .int gsp])), (a0, .inr (0, [.ref a1, .ref a2, .ref a3, .ref k0, .int vsz, .int vmd, .int vpc, .int vba, .int vbo, .int vre, .int vti, .int vro, .int vha])), (a1, .inl (E.2.1 0, 1844, .inl vmem))] sz o_r [(g0, .inr (2, [.ref a0, .int gsz, .int gdp, .int gst, .int gsp])), (a0, .inr (0, [.ref a1, .ref a2, .ref a3, .ref k0, .int vsz, .int vmd, .int vpc, .int vba, .int vbo, .int vre, .int vti, .int vro, .int vha])), (a1, .inl (E.2.1 0, 1844, .inl vmem))] := by
  refine jw (by decide +kernel) (Nat.le_of_ble_eq_true rfl) ?_
  intro p e s m below meth c A ls J hJ hAe hsz hA hZ hP hD hl
  rw [← hAe]
  have hS : va_S A s.heap s.heap [] := va_S.rf
  have hl : lv_has ls 1 [(0, .ref g0)] := hl
  unfold f_GU_isTurn at h
  refine lv_aload_n J.1 J.2.1 d_GU_isTurn_0 rfl (lv_at hl 0 rfl) ?_
  refine jg J hJ hP 0 rfl rfl i_GU 2 (by decide) gf_GU_26 rfl d_GU_isTurn_1 ?_
  refine lv_if_eq (tgt := 17) J.1 J.2.1 d_GU_isTurn_4 (by decide) (fun c_1 => ?_) (fun c_1 => ?_)
  · replace h := g_t c_1 h
    refine lv_iconst (v := 1) J.1 J.2.1 d_GU_isTurn_17 (by decide) ?_
    cases h
    exact jr_i J hS hP hD rfl d_GU_isTurn_18
  · replace h := g_f c_1 h
    refine lv_aload_n J.1 J.2.1 d_GU_isTurn_7 rfl (lv_at hl 0 rfl) ?_
    refine jg J hJ hP 0 rfl rfl i_GU 0 (by decide) gf_GU_16 rfl d_GU_isTurn_8 ?_
    refine jgN J hJ hP 1 rfl rfl i_MA 12 (by decide) gn_GU_49 rfl d_GU_isTurn_11 ?_
    refine lv_if_eq (tgt := 19) J.1 J.2.1 d_GU_isTurn_14 (by decide) (fun c_2 => ?_) (fun c_2 => ?_)
    · replace h := g_t c_2 h
      refine lv_aload_n J.1 J.2.1 d_GU_isTurn_19 rfl (lv_at hl 0 rfl) ?_
      refine jg J hJ hP 0 rfl rfl i_GU 0 (by decide) gf_GU_16 rfl d_GU_isTurn_20 ?_
      refine jgN J hJ hP 1 rfl rfl i_MA 5 (by decide) gn_GU_60 rfl d_GU_isTurn_23 ?_
      refine lv_iconst (v := 1) J.1 J.2.1 d_GU_isTurn_26 (by decide) ?_
      refine lv_icmp_eq (tgt := 32) J.1 J.2.1 d_GU_isTurn_27 (by decide) (fun c_3 => ?_) (fun c_3 => ?_)
      · replace h := g_t c_3 h
        refine lv_aload_n J.1 J.2.1 d_GU_isTurn_32 rfl (lv_at hl 0 rfl) ?_
        refine jg J hJ hP 0 rfl rfl i_GU 2 (by decide) gf_GU_26 rfl d_GU_isTurn_33 ?_
        refine lv_iconst (v := 1) J.1 J.2.1 d_GU_isTurn_36 (by decide) ?_
        refine lv_icmp_eq (tgt := 54) J.1 J.2.1 d_GU_isTurn_37 (by decide) (fun c_4 => ?_) (fun c_4 => ?_)
        · replace h := g_t c_4 h
          refine lv_iconst (v := 1) J.1 J.2.1 d_GU_isTurn_54 (by decide) ?_
          refine lv_goto (tgt := 59) J.1 J.2.1 d_GU_isTurn_55 (by decide) ?_
          cases h
          exact jr_i J hS hP hD rfl d_GU_isTurn_59
        · replace h := g_f c_4 h
          refine lv_aload_n J.1 J.2.1 d_GU_isTurn_40 rfl (lv_at hl 0 rfl) ?_
          refine jg J hJ hP 0 rfl rfl i_GU 0 (by decide) gf_GU_16 rfl d_GU_isTurn_41 ?_
          refine jgN J hJ hP 1 rfl rfl i_MA 0 (by decide) gn_GU_63 rfl d_GU_isTurn_44 ?_
          refine lv_bipush (v := 10) J.1 J.2.1 d_GU_isTurn_47 (by decide) ?_
          refine jai J hJ hP 2 rfl (by unfold vp_in; decide) d_GU_isTurn_49 ?_
          refine lv_iconst (v := 1) J.1 J.2.1 d_GU_isTurn_50 (by decide) ?_
          refine lv_icmp_ne (tgt := 58) J.1 J.2.1 d_GU_isTurn_51 (by decide) (fun c_5 => ?_) (fun c_5 => ?_)
          · replace h := g_f c_5 h
            refine lv_iconst (v := 0) J.1 J.2.1 d_GU_isTurn_58 (by decide) ?_
            cases h
            exact jr_i J hS hP hD rfl d_GU_isTurn_59
          · replace h := g_t c_5 h
            refine lv_iconst (v := 1) J.1 J.2.1 d_GU_isTurn_54 (by decide) ?_
            refine lv_goto (tgt := 59) J.1 J.2.1 d_GU_isTurn_55 (by decide) ?_
            cases h
            exact jr_i J hS hP hD rfl d_GU_isTurn_59
      · replace h := g_f c_3 h
        refine lv_iconst (v := 0) J.1 J.2.1 d_GU_isTurn_30 (by decide) ?_
        cases h
        exact jr_i J hS hP hD rfl d_GU_isTurn_31
    · replace h := g_f c_2 h
      refine lv_iconst (v := 1) J.1 J.2.1 d_GU_isTurn_17 (by decide) ?_
      cases h
      exact jr_i J hS hP hD rfl d_GU_isTurn_18

theorem hd_GU_awaitTurn : y_GU_awaitTurn.cls ≠ "java/lang/invoke/MethodHandle" ∧ y_GU_awaitTurn.cls ≠ "java/lang/invoke/VarHandle" ∧ (parseMethodDescriptor y_GU_awaitTurn.desc).map (fun d => d.parameters.length) = some 0 := by decide +kernel
def b_GU_awaitTurn_2 : Nat → Int32 → Int32 → Int32 → Int32 → Int32 → Int32 → Int32 → Int32 → Int32 → Int32 → (Nat → Int32) → (Nat → Int32) → (Nat → Int32) → Int32 → Int32 → Int32 → (Nat → Int32) → (Nat → Int32) → Int32 → Option (Int32 × Int32 × Int32 × Int32 × Int32 × Int32 × Int32 × Int32 × (Nat → Int32) × (Nat → Int32) × (Nat → Int32) × Int32 × Int32 × Int32 × (Nat → Int32))
  | 0, _, _, _, _, _, _, _, _, _, _, _, _, _, _, _, _, _, _, _ => none
  | n + 1, gdp, vsz, vmd, vpc, vba, vbo, vre, vti, vro, vha, vmem, vreg, vblk, kold, kwai, ksnt, ktyp, ksen, x1 => (if (10000 : Int32) ≤ x1 then (some (vmd, vpc, vba, vbo, vre, vti, vro, vha, vmem, vreg, vblk, kold, kwai, ksnt, ksen)) else ((f_GU_isTurn gdp vmd vha vmem).bind fun r_2 => (if r_2 = (0 : Int32) then ((f_MA_step vsz vmd vpc vba vbo vre vti vro vha vmem vreg vblk kold kwai ksnt ktyp ksen).bind fun (vmd_4, vpc_4, vba_4, vbo_4, vre_4, vti_4, vro_4, vha_4, vmem_4, vreg_4, vblk_4, kold_4, kwai_4, ksnt_4, ksen_4) => b_GU_awaitTurn_2 n gdp vsz vmd_4 vpc_4 vba_4 vbo_4 vre_4 vti_4 vro_4 vha_4 vmem_4 vreg_4 vblk_4 kold_4 kwai_4 ksnt_4 ktyp ksen_4 (x1 + 1)) else (some (vmd, vpc, vba, vbo, vre, vti, vro, vha, vmem, vreg, vblk, kold, kwai, ksnt, ksen)))))
def f_GU_awaitTurn (gdp : Int32) (vsz : Int32) (vmd : Int32) (vpc : Int32) (vba : Int32) (vbo : Int32) (vre : Int32) (vti : Int32) (vro : Int32) (vha : Int32) (vmem : Nat → Int32) (vreg : Nat → Int32) (vblk : Nat → Int32) (kold : Int32) (kwai : Int32) (ksnt : Int32) (ktyp : Nat → Int32) (ksen : Nat → Int32) : Option (Int32 × Int32 × Int32 × Int32 × Int32 × Int32 × Int32 × Int32 × (Nat → Int32) × (Nat → Int32) × (Nat → Int32) × Int32 × Int32 × Int32 × (Nat → Int32)) := b_GU_awaitTurn_2 65536 gdp vsz vmd vpc vba vbo vre vti vro vha vmem vreg vblk kold kwai ksnt ktyp ksen 0
set_option maxHeartbeats 4000000 in
set_option maxRecDepth 100000 in
theorem ct_GU_awaitTurn (l : Launch) (E : jz_E) (a0 a1 a2 a3 g0 k0 k1 k2 : Nat) (sz : Nat) (gsz : Int32) (gdp : Int32) (gst : Int32) (gsp : Int32) (vsz : Int32) (vmd : Int32) (vpc : Int32) (vba : Int32) (vbo : Int32) (vre : Int32) (vti : Int32) (vro : Int32) (vha : Int32) (vmem : Nat → Int32) (vreg : Nat → Int32) (vblk : Nat → Int32) (kold : Int32) (kwai : Int32) (ksnt : Int32) (ktyp : Nat → Int32) (ksen : Nat → Int32) (o_vmd : Int32) (o_vpc : Int32) (o_vba : Int32) (o_vbo : Int32) (o_vre : Int32) (o_vti : Int32) (o_vro : Int32) (o_vha : Int32) (o_vmem : Nat → Int32) (o_vreg : Nat → Int32) (o_vblk : Nat → Int32) (o_kold : Int32) (o_kwai : Int32) (o_ksnt : Int32) (o_ksen : Nat → Int32)  (h : f_GU_awaitTurn gdp vsz vmd vpc vba vbo vre vti vro vha vmem vreg vblk kold kwai ksnt ktyp ksen = some (o_vmd, o_vpc, o_vba, o_vbo, o_vre, o_vti, o_vro, o_vha, o_vmem, o_vreg, o_vblk, o_kold, o_kwai, o_ksnt, o_ksen)) : CTv l E y_GU_awaitTurn c_GU_awaitTurn 2 none ({ frames := 4, cells := 0, slots := 0, locals := 154 }) [.ref g0] [(g0, .inr (2, [.ref a0, .int gsz, .int gdp, .int gst, .int gsp])), (a0, .inr (0, [.ref a1, .ref a2, .ref a3, .ref k0, .int vsz, .int vmd, .int vpc, .int vba, .int vbo, .int vre, .int vti, .int vro, .int vha])), (a1, .inl (E.2.1 0, 1844, .inl vmem)), (a2, .inl (E.2.1 0, 8, .inl vreg)), (a3, .inl (E.2.1 0, 128, .inl vblk)), (k0, .inr (1, [.ref k1, .ref k2, .int kold, .int kwai, .int ksnt])), (k1, .inl (E.2.1 0, 100, .inl ktyp)), (k2, .inl (E.2.1 0, 500, .inl ksen))] sz [(g0, .inr (2, [.ref a0, .int gsz, .int gdp, .int gst, .int gsp])), (a0, .inr (0, [.ref a1, .ref a2, .ref a3, .ref k0, .int vsz, .int o_vmd, .int o_vpc, .int o_vba, .int o_vbo, .int o_vre, .int o_vti, .int o_vro, .int o_vha])), (a1, .inl (E.2.1 0, 1844, .inl o_vmem)), (a2, .inl (E.2.1 0, 8, .inl o_vreg)), (a3, .inl (E.2.1 0, 128, .inl o_vblk)), (k0, .inr (1, [.ref k1, .ref k2, .int o_kold, .int o_kwai, .int o_ksnt])), (k1, .inl (E.2.1 0, 100, .inl ktyp)), (k2, .inl (E.2.1 0, 500, .inl o_ksen))] := by
  refine jw (by decide +kernel) (Nat.le_of_ble_eq_true rfl) ?_
  intro p e s m below meth c A ls J hJ hAe hsz hA hZ hP hD hl
  rw [← hAe]
  have hS : va_S A s.heap s.heap [] := va_S.rf
  have hl : lv_has ls 2 [(0, .ref g0)] := hl
  have K_2 : ∀ (n : Nat) (gsz : Int32) (gdp : Int32) (gst : Int32) (gsp : Int32) (vsz : Int32) (vmd : Int32) (vpc : Int32) (vba : Int32) (vbo : Int32) (vre : Int32) (vti : Int32) (vro : Int32) (vha : Int32) (vmem : Nat → Int32) (vreg : Nat → Int32) (vblk : Nat → Int32) (kold : Int32) (kwai : Int32) (ksnt : Int32) (ktyp : Nat → Int32) (ksen : Nat → Int32) (x1 : Int32) (H : Heap) (locs : List Loc) (ls : Array Slot), b_GU_awaitTurn_2 n gdp vsz vmd vpc vba vbo vre vti vro vha vmem vreg vblk kold kwai ksnt ktyp ksen x1 = some (o_vmd, o_vpc, o_vba, o_vbo, o_vre, o_vti, o_vro, o_vha, o_vmem, o_vreg, o_vblk, o_kold, o_kwai, o_ksnt, o_ksen) → va_P E.1 classes [(g0, .inr (2, [.ref a0, .int gsz, .int gdp, .int gst, .int gsp])), (a0, .inr (0, [.ref a1, .ref a2, .ref a3, .ref k0, .int vsz, .int vmd, .int vpc, .int vba, .int vbo, .int vre, .int vti, .int vro, .int vha])), (a1, .inl (E.2.1 0, 1844, .inl vmem)), (a2, .inl (E.2.1 0, 8, .inl vreg)), (a3, .inl (E.2.1 0, 128, .inl vblk)), (k0, .inr (1, [.ref k1, .ref k2, .int kold, .int kwai, .int ksnt])), (k1, .inl (E.2.1 0, 100, .inl ktyp)), (k2, .inl (E.2.1 0, 500, .inl ksen))] H → va_D A [(g0, .inr (2, [.ref a0, .int gsz, .int gdp, .int gst, .int gsp])), (a0, .inr (0, [.ref a1, .ref a2, .ref a3, .ref k0, .int vsz, .int vmd, .int vpc, .int vba, .int vbo, .int vre, .int vti, .int vro, .int vha])), (a1, .inl (E.2.1 0, 1844, .inl vmem)), (a2, .inl (E.2.1 0, 8, .inl vreg)), (a3, .inl (E.2.1 0, 128, .inl vblk)), (k0, .inr (1, [.ref k1, .ref k2, .int kold, .int kwai, .int ksnt])), (k1, .inl (E.2.1 0, 100, .inl ktyp)), (k2, .inl (E.2.1 0, 500, .inl ksen))] → va_S A s.heap H locs → lv_has ls 2 [(0, .ref g0), (1, .int x1)] → W p l e ({ frames := 4, cells := 0, slots := 0, locals := 154 }) s m ([.ref g0] : List Value).toArray below meth c H locs 0 0 (MQ below (va_Qv (fun (u : va_W) => u = [(g0, .inr (2, [.ref a0, .int gsz, .int gdp, .int gst, .int gsp])), (a0, .inr (0, [.ref a1, .ref a2, .ref a3, .ref k0, .int vsz, .int o_vmd, .int o_vpc, .int o_vba, .int o_vbo, .int o_vre, .int o_vti, .int o_vro, .int o_vha])), (a1, .inl (E.2.1 0, 1844, .inl o_vmem)), (a2, .inl (E.2.1 0, 8, .inl o_vreg)), (a3, .inl (E.2.1 0, 128, .inl o_vblk)), (k0, .inr (1, [.ref k1, .ref k2, .int o_kold, .int o_kwai, .int o_ksnt])), (k1, .inl (E.2.1 0, 100, .inl ktyp)), (k2, .inl (E.2.1 0, 500, .inl o_ksen))]) (BW E A) A) ([.ref g0] : List Value).toArray s 0 0 A) (F0 m 2 ls []) := by
    intro n
    induction n with
    | zero => intro gsz gdp gst gsp vsz vmd vpc vba vbo vre vti vro vha vmem vreg vblk kold kwai ksnt ktyp ksen x1 H locs ls h; cases h
    | succ n ih =>
      intro gsz gdp gst gsp vsz vmd vpc vba vbo vre vti vro vha vmem vreg vblk kold kwai ksnt ktyp ksen x1 H locs ls h hP hD hS hl
      rw [b_GU_awaitTurn_2] at h
      refine lv_iload_n J.1 J.2.1 d_GU_awaitTurn_2 rfl (lv_at hl 1 rfl) ?_
      refine lv_sipush (v := 10000) J.1 J.2.1 d_GU_awaitTurn_3 (by decide) ?_
      refine lv_icmp_ge (tgt := 29) J.1 J.2.1 d_GU_awaitTurn_6 (by decide) (fun c_1 => ?_) (fun c_1 => ?_)
      · replace h := g_t c_1 h
        cases h
        exact jr_v J hS hP hD d_GU_awaitTurn_29
      · replace h := g_f c_1 h
        refine lv_aload_n J.1 J.2.1 d_GU_awaitTurn_9 rfl (lv_at hl 0 rfl) ?_
        replace h := g_bd h
        obtain ⟨r_2, q_2, h⟩ := h
        refine jk_i (jrunV (As := []) (rest := []) J hJ hA hZ hP hD hS (ct_GU_isTurn l E a0 a1 a2 a3 g0 k0 _ gsz gdp gst gsp vsz vmd vpc vba vbo vre vti vro vha vmem r_2 q_2) [0, 1, 2] rfl (by decide) gl_GU_56 gi_GU_isTurn gsel_GU_isTurn gini_GU gc_GU_isTurn hd_GU_isTurn ⟨rfl, rfl, Nat.le_of_ble_eq_true rfl, Nat.le_of_ble_eq_true rfl⟩ rfl rfl hl.1 rfl rfl (Nat.le_of_ble_eq_true rfl) d_GU_awaitTurn_10 ⟨Nat.zero_le _, Nat.zero_le _⟩) hA hP hD hS [0, 1, 2] [3, 4, 5, 6, 7] (WR := [(a2, .inl (E.2.1 0, 8, .inl vreg)), (a3, .inl (E.2.1 0, 128, .inl vblk)), (k0, .inr (1, [.ref k1, .ref k2, .int kold, .int kwai, .int ksnt])), (k1, .inl (E.2.1 0, 100, .inl ktyp)), (k2, .inl (E.2.1 0, 500, .inl ksen))]) rfl rfl (by decide) (by decide) [5, 6, 7, 0, 1, 2, 3, 4] (WF := [(g0, .inr (2, [.ref a0, .int gsz, .int gdp, .int gst, .int gsp])), (a0, .inr (0, [.ref a1, .ref a2, .ref a3, .ref k0, .int vsz, .int vmd, .int vpc, .int vba, .int vbo, .int vre, .int vti, .int vro, .int vha])), (a1, .inl (E.2.1 0, 1844, .inl vmem)), (a2, .inl (E.2.1 0, 8, .inl vreg)), (a3, .inl (E.2.1 0, 128, .inl vblk)), (k0, .inr (1, [.ref k1, .ref k2, .int kold, .int kwai, .int ksnt])), (k1, .inl (E.2.1 0, 100, .inl ktyp)), (k2, .inl (E.2.1 0, 500, .inl ksen))]) rfl (by decide) ?_
        clear hP hD hS
        intro H locs hP hD hS
        refine lv_if_ne (tgt := 29) J.1 J.2.1 d_GU_awaitTurn_13 (by decide) (fun c_3 => ?_) (fun c_3 => ?_)
        · replace h := g_f c_3 h
          cases h
          exact jr_v J hS hP hD d_GU_awaitTurn_29
        · replace h := g_t c_3 h
          refine lv_aload_n J.1 J.2.1 d_GU_awaitTurn_16 rfl (lv_at hl 0 rfl) ?_
          refine jg J hJ hP 0 rfl rfl i_GU 0 (by decide) gf_GU_16 rfl d_GU_awaitTurn_17 ?_
          replace h := g_bd h
          obtain ⟨⟨vmd_4, vpc_4, vba_4, vbo_4, vre_4, vti_4, vro_4, vha_4, vmem_4, vreg_4, vblk_4, kold_4, kwai_4, ksnt_4, ksen_4⟩, q_4, h⟩ := h
          try dsimp only at h
          refine jk_v (jrunV (As := []) (rest := []) J hJ hA hZ hP hD hS (ct_MA_step l E a0 a1 a2 a3 k0 k1 k2 _ vsz vmd vpc vba vbo vre vti vro vha vmem vreg vblk kold kwai ksnt ktyp ksen vmd_4 vpc_4 vba_4 vbo_4 vre_4 vti_4 vro_4 vha_4 vmem_4 vreg_4 vblk_4 kold_4 kwai_4 ksnt_4 ksen_4 q_4) [1, 2, 3, 4, 5, 6, 7] rfl (by decide) gl_GU_53 gi_MA_step gsel_MA_step gini_MA gc_MA_step hd_MA_step ⟨rfl, rfl, Nat.le_of_ble_eq_true rfl, Nat.le_of_ble_eq_true rfl⟩ rfl rfl hl.1 rfl rfl (Nat.le_of_ble_eq_true rfl) d_GU_awaitTurn_20 ⟨Nat.zero_le _, Nat.zero_le _⟩) hA hP hD hS [1, 2, 3, 4, 5, 6, 7] [0] (WR := [(g0, .inr (2, [.ref a0, .int gsz, .int gdp, .int gst, .int gsp]))]) rfl rfl (by decide) (by decide) [0, 1, 2, 3, 4, 5, 6, 7] (WF := [(g0, .inr (2, [.ref a0, .int gsz, .int gdp, .int gst, .int gsp])), (a0, .inr (0, [.ref a1, .ref a2, .ref a3, .ref k0, .int vsz, .int vmd_4, .int vpc_4, .int vba_4, .int vbo_4, .int vre_4, .int vti_4, .int vro_4, .int vha_4])), (a1, .inl (E.2.1 0, 1844, .inl vmem_4)), (a2, .inl (E.2.1 0, 8, .inl vreg_4)), (a3, .inl (E.2.1 0, 128, .inl vblk_4)), (k0, .inr (1, [.ref k1, .ref k2, .int kold_4, .int kwai_4, .int ksnt_4])), (k1, .inl (E.2.1 0, 100, .inl ktyp)), (k2, .inl (E.2.1 0, 500, .inl ksen_4))]) rfl (by decide) ?_
          clear hP hD hS
          intro H locs hP hD hS
          refine lv_iinc (v := (x1 + 1)) (lv' := [(1, .int (x1 + 1)), (0, .ref g0)]) J.1 J.2.1 d_GU_awaitTurn_23 hl (k := 1) rfl rfl (by decide) rfl ?_
          clear hl
          intro ls hl
          refine lv_goto (tgt := 2) J.1 J.2.1 d_GU_awaitTurn_26 (by decide) ?_
          exact ih _ _ _ _ _ _ _ _ _ _ _ _ _ _ _ _ _ _ _ _ _ _ _ _ _ h hP hD hS (lv_sub hl [1, 0] rfl)
  unfold f_GU_awaitTurn at h
  refine lv_iconst (v := 0) J.1 J.2.1 d_GU_awaitTurn_0 (by decide) ?_
  refine lv_istore_n (lv' := [(1, .int 0), (0, .ref g0)]) J.1 J.2.1 d_GU_awaitTurn_1 rfl hl (by decide) rfl ?_
  clear hl
  intro ls hl
  exact K_2 _ _ _ _ _ _ _ _ _ _ _ _ _ _ _ _ _ _ _ _ _ _ _ _ _ _ h hP hD hS (lv_sub hl [1, 0] rfl)

theorem hd_GU_advance : y_GU_advance.cls ≠ "java/lang/invoke/MethodHandle" ∧ y_GU_advance.cls ≠ "java/lang/invoke/VarHandle" ∧ (parseMethodDescriptor y_GU_advance.desc).map (fun d => d.parameters.length) = some 1 := by decide +kernel
def b_GU_advance_2 : Nat → Int32 → Int32 → Int32 → Int32 → Int32 → Int32 → Int32 → Int32 → Int32 → Int32 → Int32 → (Nat → Int32) → (Nat → Int32) → (Nat → Int32) → Int32 → Int32 → Int32 → (Nat → Int32) → (Nat → Int32) → Int32 → Int32 → Option (Int32 × Int32 × Int32 × Int32 × Int32 × Int32 × Int32 × Int32 × Int32 × Int32 × (Nat → Int32) × (Nat → Int32) × (Nat → Int32) × Int32 × Int32 × Int32 × (Nat → Int32))
  | 0, _, _, _, _, _, _, _, _, _, _, _, _, _, _, _, _, _, _, _, _, _ => none
  | n + 1, gdp, gsp, vsz, vmd, vpc, vba, vbo, vre, vti, vro, vha, vmem, vreg, vblk, kold, kwai, ksnt, ktyp, ksen, x1, x2 => (if x1 ≤ x2 then (some (x2, (gsp + x2), vmd, vpc, vba, vbo, vre, vti, vro, vha, vmem, vreg, vblk, kold, kwai, ksnt, ksen)) else (if vha = (0 : Int32) then ((f_MA_step vsz vmd vpc vba vbo vre vti vro vha vmem vreg vblk kold kwai ksnt ktyp ksen).bind fun (vmd_3, vpc_3, vba_3, vbo_3, vre_3, vti_3, vro_3, vha_3, vmem_3, vreg_3, vblk_3, kold_3, kwai_3, ksnt_3, ksen_3) => ((f_GU_awaitTurn gdp vsz vmd_3 vpc_3 vba_3 vbo_3 vre_3 vti_3 vro_3 vha_3 vmem_3 vreg_3 vblk_3 kold_3 kwai_3 ksnt_3 ktyp ksen_3).bind fun (vmd_4, vpc_4, vba_4, vbo_4, vre_4, vti_4, vro_4, vha_4, vmem_4, vreg_4, vblk_4, kold_4, kwai_4, ksnt_4, ksen_4) => b_GU_advance_2 n gdp gsp vsz vmd_4 vpc_4 vba_4 vbo_4 vre_4 vti_4 vro_4 vha_4 vmem_4 vreg_4 vblk_4 kold_4 kwai_4 ksnt_4 ktyp ksen_4 x1 (x2 + 1))) else (some (x2, (gsp + x2), vmd, vpc, vba, vbo, vre, vti, vro, vha, vmem, vreg, vblk, kold, kwai, ksnt, ksen))))
def f_GU_advance (gdp : Int32) (gsp : Int32) (vsz : Int32) (vmd : Int32) (vpc : Int32) (vba : Int32) (vbo : Int32) (vre : Int32) (vti : Int32) (vro : Int32) (vha : Int32) (vmem : Nat → Int32) (vreg : Nat → Int32) (vblk : Nat → Int32) (kold : Int32) (kwai : Int32) (ksnt : Int32) (ktyp : Nat → Int32) (ksen : Nat → Int32) (p1 : Int32) : Option (Int32 × Int32 × Int32 × Int32 × Int32 × Int32 × Int32 × Int32 × Int32 × Int32 × (Nat → Int32) × (Nat → Int32) × (Nat → Int32) × Int32 × Int32 × Int32 × (Nat → Int32)) := b_GU_advance_2 65536 gdp gsp vsz vmd vpc vba vbo vre vti vro vha vmem vreg vblk kold kwai ksnt ktyp ksen p1 0
set_option maxHeartbeats 4000000 in
set_option maxRecDepth 100000 in
theorem ct_GU_advance (l : Launch) (E : jz_E) (a0 a1 a2 a3 g0 k0 k1 k2 : Nat) (sz : Nat) (gsz : Int32) (gdp : Int32) (gst : Int32) (gsp : Int32) (vsz : Int32) (vmd : Int32) (vpc : Int32) (vba : Int32) (vbo : Int32) (vre : Int32) (vti : Int32) (vro : Int32) (vha : Int32) (vmem : Nat → Int32) (vreg : Nat → Int32) (vblk : Nat → Int32) (kold : Int32) (kwai : Int32) (ksnt : Int32) (ktyp : Nat → Int32) (ksen : Nat → Int32) (p1 : Int32) (o_r : Int32) (o_gsp : Int32) (o_vmd : Int32) (o_vpc : Int32) (o_vba : Int32) (o_vbo : Int32) (o_vre : Int32) (o_vti : Int32) (o_vro : Int32) (o_vha : Int32) (o_vmem : Nat → Int32) (o_vreg : Nat → Int32) (o_vblk : Nat → Int32) (o_kold : Int32) (o_kwai : Int32) (o_ksnt : Int32) (o_ksen : Nat → Int32)  (h : f_GU_advance gdp gsp vsz vmd vpc vba vbo vre vti vro vha vmem vreg vblk kold kwai ksnt ktyp ksen p1 = some (o_r, o_gsp, o_vmd, o_vpc, o_vba, o_vbo, o_vre, o_vti, o_vro, o_vha, o_vmem, o_vreg, o_vblk, o_kold, o_kwai, o_ksnt, o_ksen)) : CTi l E y_GU_advance c_GU_advance 3 (some .int) ({ frames := 5, cells := 0, slots := 0, locals := 175 }) [.ref g0, .int p1] [(g0, .inr (2, [.ref a0, .int gsz, .int gdp, .int gst, .int gsp])), (a0, .inr (0, [.ref a1, .ref a2, .ref a3, .ref k0, .int vsz, .int vmd, .int vpc, .int vba, .int vbo, .int vre, .int vti, .int vro, .int vha])), (a1, .inl (E.2.1 0, 1844, .inl vmem)), (a2, .inl (E.2.1 0, 8, .inl vreg)), (a3, .inl (E.2.1 0, 128, .inl vblk)), (k0, .inr (1, [.ref k1, .ref k2, .int kold, .int kwai, .int ksnt])), (k1, .inl (E.2.1 0, 100, .inl ktyp)), (k2, .inl (E.2.1 0, 500, .inl ksen))] sz o_r [(g0, .inr (2, [.ref a0, .int gsz, .int gdp, .int gst, .int o_gsp])), (a0, .inr (0, [.ref a1, .ref a2, .ref a3, .ref k0, .int vsz, .int o_vmd, .int o_vpc, .int o_vba, .int o_vbo, .int o_vre, .int o_vti, .int o_vro, .int o_vha])), (a1, .inl (E.2.1 0, 1844, .inl o_vmem)), (a2, .inl (E.2.1 0, 8, .inl o_vreg)), (a3, .inl (E.2.1 0, 128, .inl o_vblk)), (k0, .inr (1, [.ref k1, .ref k2, .int o_kold, .int o_kwai, .int o_ksnt])), (k1, .inl (E.2.1 0, 100, .inl ktyp)), (k2, .inl (E.2.1 0, 500, .inl o_ksen))] := by
  refine jw (by decide +kernel) (Nat.le_of_ble_eq_true rfl) ?_
  intro p e s m below meth c A ls J hJ hAe hsz hA hZ hP hD hl
  rw [← hAe]
  have hS : va_S A s.heap s.heap [] := va_S.rf
  have hl : lv_has ls 3 [(0, .ref g0), (1, .int p1)] := hl
  have K_2 : ∀ (n : Nat) (gsz : Int32) (gdp : Int32) (gst : Int32) (gsp : Int32) (vsz : Int32) (vmd : Int32) (vpc : Int32) (vba : Int32) (vbo : Int32) (vre : Int32) (vti : Int32) (vro : Int32) (vha : Int32) (vmem : Nat → Int32) (vreg : Nat → Int32) (vblk : Nat → Int32) (kold : Int32) (kwai : Int32) (ksnt : Int32) (ktyp : Nat → Int32) (ksen : Nat → Int32) (x1 : Int32) (x2 : Int32) (H : Heap) (locs : List Loc) (ls : Array Slot), b_GU_advance_2 n gdp gsp vsz vmd vpc vba vbo vre vti vro vha vmem vreg vblk kold kwai ksnt ktyp ksen x1 x2 = some (o_r, o_gsp, o_vmd, o_vpc, o_vba, o_vbo, o_vre, o_vti, o_vro, o_vha, o_vmem, o_vreg, o_vblk, o_kold, o_kwai, o_ksnt, o_ksen) → va_P E.1 classes [(g0, .inr (2, [.ref a0, .int gsz, .int gdp, .int gst, .int gsp])), (a0, .inr (0, [.ref a1, .ref a2, .ref a3, .ref k0, .int vsz, .int vmd, .int vpc, .int vba, .int vbo, .int vre, .int vti, .int vro, .int vha])), (a1, .inl (E.2.1 0, 1844, .inl vmem)), (a2, .inl (E.2.1 0, 8, .inl vreg)), (a3, .inl (E.2.1 0, 128, .inl vblk)), (k0, .inr (1, [.ref k1, .ref k2, .int kold, .int kwai, .int ksnt])), (k1, .inl (E.2.1 0, 100, .inl ktyp)), (k2, .inl (E.2.1 0, 500, .inl ksen))] H → va_D A [(g0, .inr (2, [.ref a0, .int gsz, .int gdp, .int gst, .int gsp])), (a0, .inr (0, [.ref a1, .ref a2, .ref a3, .ref k0, .int vsz, .int vmd, .int vpc, .int vba, .int vbo, .int vre, .int vti, .int vro, .int vha])), (a1, .inl (E.2.1 0, 1844, .inl vmem)), (a2, .inl (E.2.1 0, 8, .inl vreg)), (a3, .inl (E.2.1 0, 128, .inl vblk)), (k0, .inr (1, [.ref k1, .ref k2, .int kold, .int kwai, .int ksnt])), (k1, .inl (E.2.1 0, 100, .inl ktyp)), (k2, .inl (E.2.1 0, 500, .inl ksen))] → va_S A s.heap H locs → lv_has ls 3 [(0, .ref g0), (1, .int x1), (2, .int x2)] → W p l e ({ frames := 5, cells := 0, slots := 0, locals := 175 }) s m ([.ref g0, .int p1] : List Value).toArray below meth c H locs 0 0 (MQ below (va_Qi (fun (r' : Int32) (u : va_W) => r' = o_r ∧ u = [(g0, .inr (2, [.ref a0, .int gsz, .int gdp, .int gst, .int o_gsp])), (a0, .inr (0, [.ref a1, .ref a2, .ref a3, .ref k0, .int vsz, .int o_vmd, .int o_vpc, .int o_vba, .int o_vbo, .int o_vre, .int o_vti, .int o_vro, .int o_vha])), (a1, .inl (E.2.1 0, 1844, .inl o_vmem)), (a2, .inl (E.2.1 0, 8, .inl o_vreg)), (a3, .inl (E.2.1 0, 128, .inl o_vblk)), (k0, .inr (1, [.ref k1, .ref k2, .int o_kold, .int o_kwai, .int o_ksnt])), (k1, .inl (E.2.1 0, 100, .inl ktyp)), (k2, .inl (E.2.1 0, 500, .inl o_ksen))]) (BW E A) A) ([.ref g0, .int p1] : List Value).toArray s 0 0 A) (F0 m 2 ls []) := by
    intro n
    induction n with
    | zero => intro gsz gdp gst gsp vsz vmd vpc vba vbo vre vti vro vha vmem vreg vblk kold kwai ksnt ktyp ksen x1 x2 H locs ls h; cases h
    | succ n ih =>
      intro gsz gdp gst gsp vsz vmd vpc vba vbo vre vti vro vha vmem vreg vblk kold kwai ksnt ktyp ksen x1 x2 H locs ls h hP hD hS hl
      rw [b_GU_advance_2] at h
      refine lv_iload_n J.1 J.2.1 d_GU_advance_2 rfl (lv_at hl 2 rfl) ?_
      refine lv_iload_n J.1 J.2.1 d_GU_advance_3 rfl (lv_at hl 1 rfl) ?_
      refine lv_icmp_ge (tgt := 34) J.1 J.2.1 d_GU_advance_4 (by decide) (fun c_1 => ?_) (fun c_1 => ?_)
      · replace h := g_t c_1 h
        refine lv_aload_n J.1 J.2.1 d_GU_advance_34 rfl (lv_at hl 0 rfl) ?_
        refine lv_dup J.1 J.2.1 d_GU_advance_35 rfl ?_
        refine jg J hJ hP 0 rfl rfl i_GU 4 (by decide) gf_GU_32 rfl d_GU_advance_36 ?_
        refine lv_iload_n J.1 J.2.1 d_GU_advance_39 rfl (lv_at hl 2 rfl) ?_
        refine lv_iadd J.1 J.2.1 d_GU_advance_40 ?_
        refine jp J hJ hP hD hS 0 rfl rfl i_GU t_GU t_GU_ok n_GU 4 (by decide) gf_GU_32 rfl rfl rfl (Nat.le_of_ble_eq_true rfl) d_GU_advance_41 (WS' := [(g0, .inr (2, [.ref a0, .int gsz, .int gdp, .int gst, .int (gsp + x2)])), (a0, .inr (0, [.ref a1, .ref a2, .ref a3, .ref k0, .int vsz, .int vmd, .int vpc, .int vba, .int vbo, .int vre, .int vti, .int vro, .int vha])), (a1, .inl (E.2.1 0, 1844, .inl vmem)), (a2, .inl (E.2.1 0, 8, .inl vreg)), (a3, .inl (E.2.1 0, 128, .inl vblk)), (k0, .inr (1, [.ref k1, .ref k2, .int kold, .int kwai, .int ksnt])), (k1, .inl (E.2.1 0, 100, .inl ktyp)), (k2, .inl (E.2.1 0, 500, .inl ksen))]) rfl ?_
        clear hP hD hS
        intro H locs hP hD hS
        refine lv_iload_n J.1 J.2.1 d_GU_advance_44 rfl (lv_at hl 2 rfl) ?_
        cases h
        exact jr_i J hS hP hD rfl d_GU_advance_45
      · replace h := g_f c_1 h
        refine lv_aload_n J.1 J.2.1 d_GU_advance_7 rfl (lv_at hl 0 rfl) ?_
        refine jg J hJ hP 0 rfl rfl i_GU 0 (by decide) gf_GU_16 rfl d_GU_advance_8 ?_
        refine jgN J hJ hP 1 rfl rfl i_MA 12 (by decide) gn_GU_49 rfl d_GU_advance_11 ?_
        refine lv_if_ne (tgt := 34) J.1 J.2.1 d_GU_advance_14 (by decide) (fun c_2 => ?_) (fun c_2 => ?_)
        · replace h := g_f c_2 h
          refine lv_aload_n J.1 J.2.1 d_GU_advance_34 rfl (lv_at hl 0 rfl) ?_
          refine lv_dup J.1 J.2.1 d_GU_advance_35 rfl ?_
          refine jg J hJ hP 0 rfl rfl i_GU 4 (by decide) gf_GU_32 rfl d_GU_advance_36 ?_
          refine lv_iload_n J.1 J.2.1 d_GU_advance_39 rfl (lv_at hl 2 rfl) ?_
          refine lv_iadd J.1 J.2.1 d_GU_advance_40 ?_
          refine jp J hJ hP hD hS 0 rfl rfl i_GU t_GU t_GU_ok n_GU 4 (by decide) gf_GU_32 rfl rfl rfl (Nat.le_of_ble_eq_true rfl) d_GU_advance_41 (WS' := [(g0, .inr (2, [.ref a0, .int gsz, .int gdp, .int gst, .int (gsp + x2)])), (a0, .inr (0, [.ref a1, .ref a2, .ref a3, .ref k0, .int vsz, .int vmd, .int vpc, .int vba, .int vbo, .int vre, .int vti, .int vro, .int vha])), (a1, .inl (E.2.1 0, 1844, .inl vmem)), (a2, .inl (E.2.1 0, 8, .inl vreg)), (a3, .inl (E.2.1 0, 128, .inl vblk)), (k0, .inr (1, [.ref k1, .ref k2, .int kold, .int kwai, .int ksnt])), (k1, .inl (E.2.1 0, 100, .inl ktyp)), (k2, .inl (E.2.1 0, 500, .inl ksen))]) rfl ?_
          clear hP hD hS
          intro H locs hP hD hS
          refine lv_iload_n J.1 J.2.1 d_GU_advance_44 rfl (lv_at hl 2 rfl) ?_
          cases h
          exact jr_i J hS hP hD rfl d_GU_advance_45
        · replace h := g_t c_2 h
          refine lv_aload_n J.1 J.2.1 d_GU_advance_17 rfl (lv_at hl 0 rfl) ?_
          refine jg J hJ hP 0 rfl rfl i_GU 0 (by decide) gf_GU_16 rfl d_GU_advance_18 ?_
          replace h := g_bd h
          obtain ⟨⟨vmd_3, vpc_3, vba_3, vbo_3, vre_3, vti_3, vro_3, vha_3, vmem_3, vreg_3, vblk_3, kold_3, kwai_3, ksnt_3, ksen_3⟩, q_3, h⟩ := h
          try dsimp only at h
          refine jk_v (jrunV (As := []) (rest := []) J hJ hA hZ hP hD hS (ct_MA_step l E a0 a1 a2 a3 k0 k1 k2 _ vsz vmd vpc vba vbo vre vti vro vha vmem vreg vblk kold kwai ksnt ktyp ksen vmd_3 vpc_3 vba_3 vbo_3 vre_3 vti_3 vro_3 vha_3 vmem_3 vreg_3 vblk_3 kold_3 kwai_3 ksnt_3 ksen_3 q_3) [1, 2, 3, 4, 5, 6, 7] rfl (by decide) gl_GU_53 gi_MA_step gsel_MA_step gini_MA gc_MA_step hd_MA_step ⟨rfl, rfl, Nat.le_of_ble_eq_true rfl, Nat.le_of_ble_eq_true rfl⟩ rfl rfl hl.1 rfl rfl (Nat.le_of_ble_eq_true rfl) d_GU_advance_21 ⟨Nat.zero_le _, Nat.zero_le _⟩) hA hP hD hS [1, 2, 3, 4, 5, 6, 7] [0] (WR := [(g0, .inr (2, [.ref a0, .int gsz, .int gdp, .int gst, .int gsp]))]) rfl rfl (by decide) (by decide) [0, 1, 2, 3, 4, 5, 6, 7] (WF := [(g0, .inr (2, [.ref a0, .int gsz, .int gdp, .int gst, .int gsp])), (a0, .inr (0, [.ref a1, .ref a2, .ref a3, .ref k0, .int vsz, .int vmd_3, .int vpc_3, .int vba_3, .int vbo_3, .int vre_3, .int vti_3, .int vro_3, .int vha_3])), (a1, .inl (E.2.1 0, 1844, .inl vmem_3)), (a2, .inl (E.2.1 0, 8, .inl vreg_3)), (a3, .inl (E.2.1 0, 128, .inl vblk_3)), (k0, .inr (1, [.ref k1, .ref k2, .int kold_3, .int kwai_3, .int ksnt_3])), (k1, .inl (E.2.1 0, 100, .inl ktyp)), (k2, .inl (E.2.1 0, 500, .inl ksen_3))]) rfl (by decide) ?_
          clear hP hD hS
          intro H locs hP hD hS
          refine lv_aload_n J.1 J.2.1 d_GU_advance_24 rfl (lv_at hl 0 rfl) ?_
          replace h := g_bd h
          obtain ⟨⟨vmd_4, vpc_4, vba_4, vbo_4, vre_4, vti_4, vro_4, vha_4, vmem_4, vreg_4, vblk_4, kold_4, kwai_4, ksnt_4, ksen_4⟩, q_4, h⟩ := h
          try dsimp only at h
          refine jk_v (jrunV (As := []) (rest := []) J hJ hA hZ hP hD hS (ct_GU_awaitTurn l E a0 a1 a2 a3 g0 k0 k1 k2 _ gsz gdp gst gsp vsz vmd_3 vpc_3 vba_3 vbo_3 vre_3 vti_3 vro_3 vha_3 vmem_3 vreg_3 vblk_3 kold_3 kwai_3 ksnt_3 ktyp ksen_3 vmd_4 vpc_4 vba_4 vbo_4 vre_4 vti_4 vro_4 vha_4 vmem_4 vreg_4 vblk_4 kold_4 kwai_4 ksnt_4 ksen_4 q_4) [0, 1, 2, 3, 4, 5, 6, 7] rfl (by decide) gl_GU_46 gi_GU_awaitTurn gsel_GU_awaitTurn gini_GU gc_GU_awaitTurn hd_GU_awaitTurn ⟨rfl, rfl, Nat.le_of_ble_eq_true rfl, Nat.le_of_ble_eq_true rfl⟩ rfl rfl hl.1 rfl rfl (Nat.le_of_ble_eq_true rfl) d_GU_advance_25 ⟨Nat.zero_le _, Nat.zero_le _⟩) hA hP hD hS [0, 1, 2, 3, 4, 5, 6, 7] [] (WR := []) rfl rfl (by decide) (by decide) [0, 1, 2, 3, 4, 5, 6, 7] (WF := [(g0, .inr (2, [.ref a0, .int gsz, .int gdp, .int gst, .int gsp])), (a0, .inr (0, [.ref a1, .ref a2, .ref a3, .ref k0, .int vsz, .int vmd_4, .int vpc_4, .int vba_4, .int vbo_4, .int vre_4, .int vti_4, .int vro_4, .int vha_4])), (a1, .inl (E.2.1 0, 1844, .inl vmem_4)), (a2, .inl (E.2.1 0, 8, .inl vreg_4)), (a3, .inl (E.2.1 0, 128, .inl vblk_4)), (k0, .inr (1, [.ref k1, .ref k2, .int kold_4, .int kwai_4, .int ksnt_4])), (k1, .inl (E.2.1 0, 100, .inl ktyp)), (k2, .inl (E.2.1 0, 500, .inl ksen_4))]) rfl (by decide) ?_
          clear hP hD hS
          intro H locs hP hD hS
          refine lv_iinc (v := (x2 + 1)) (lv' := [(2, .int (x2 + 1)), (0, .ref g0), (1, .int x1)]) J.1 J.2.1 d_GU_advance_28 hl (k := 2) rfl rfl (by decide) rfl ?_
          clear hl
          intro ls hl
          refine lv_goto (tgt := 2) J.1 J.2.1 d_GU_advance_31 (by decide) ?_
          exact ih _ _ _ _ _ _ _ _ _ _ _ _ _ _ _ _ _ _ _ _ _ _ _ _ _ _ h hP hD hS (lv_sub hl [1, 2, 0] rfl)
  unfold f_GU_advance at h
  refine lv_iconst (v := 0) J.1 J.2.1 d_GU_advance_0 (by decide) ?_
  refine lv_istore_n (lv' := [(2, .int 0), (0, .ref g0), (1, .int p1)]) J.1 J.2.1 d_GU_advance_1 rfl hl (by decide) rfl ?_
  clear hl
  intro ls hl
  exact K_2 _ _ _ _ _ _ _ _ _ _ _ _ _ _ _ _ _ _ _ _ _ _ _ _ _ _ _ h hP hD hS (lv_sub hl [1, 2, 0] rfl)

theorem hd_GU_kept : y_GU_kept.cls ≠ "java/lang/invoke/MethodHandle" ∧ y_GU_kept.cls ≠ "java/lang/invoke/VarHandle" ∧ (parseMethodDescriptor y_GU_kept.desc).map (fun d => d.parameters.length) = some 1 := by decide +kernel
def f_GU_kept (gst : Int32) (vmem : Nat → Int32) (p1 : Int32) : Option (Int32) := (if (0 : Int32) ≤ ((gst - 410) + p1) then (if ck ((gst - 410) + p1) 1844 then (some (vmem ((gst - 410) + p1).toNatClampNeg)) else none) else (some (-1)))
set_option maxHeartbeats 4000000 in
set_option maxRecDepth 100000 in
theorem ct_GU_kept (l : Launch) (E : jz_E) (a0 a1 a2 a3 g0 k0 : Nat) (sz : Nat) (gsz : Int32) (gdp : Int32) (gst : Int32) (gsp : Int32) (vsz : Int32) (vmd : Int32) (vpc : Int32) (vba : Int32) (vbo : Int32) (vre : Int32) (vti : Int32) (vro : Int32) (vha : Int32) (vmem : Nat → Int32) (p1 : Int32) (o_r : Int32)  (h : f_GU_kept gst vmem p1 = some o_r) : CTi l E y_GU_kept c_GU_kept 3 (some .int) ({ frames := 0, cells := 0, slots := 0, locals := 0 }) [.ref g0, .int p1] [(g0, .inr (2, [.ref a0, .int gsz, .int gdp, .int gst, .int gsp])), (a0, .inr (0, [.ref a1, .ref a2, .ref a3, .ref k0, .int vsz, .int vmd, .int vpc, .int vba, .int vbo, .int vre, .int vti, .int vro, .int vha])), (a1, .inl (E.2.1 0, 1844, .inl vmem))] sz o_r [(g0, .inr (2, [.ref a0, .int gsz, .int gdp, .int gst, .int gsp])), (a0, .inr (0, [.ref a1, .ref a2, .ref a3, .ref k0, .int vsz, .int vmd, .int vpc, .int vba, .int vbo, .int vre, .int vti, .int vro, .int vha])), (a1, .inl (E.2.1 0, 1844, .inl vmem))] := by
  refine jw (by decide +kernel) (Nat.le_of_ble_eq_true rfl) ?_
  intro p e s m below meth c A ls J hJ hAe hsz hA hZ hP hD hl
  rw [← hAe]
  have hS : va_S A s.heap s.heap [] := va_S.rf
  have hl : lv_has ls 3 [(0, .ref g0), (1, .int p1)] := hl
  unfold f_GU_kept at h
  refine lv_aload_n J.1 J.2.1 d_GU_kept_0 rfl (lv_at hl 0 rfl) ?_
  refine jg J hJ hP 0 rfl rfl i_GU 3 (by decide) gf_GU_29 rfl d_GU_kept_1 ?_
  refine lv_sipush (v := 410) J.1 J.2.1 d_GU_kept_4 (by decide) ?_
  refine lv_isub J.1 J.2.1 d_GU_kept_7 ?_
  refine lv_iload_n J.1 J.2.1 d_GU_kept_8 rfl (lv_at hl 1 rfl) ?_
  refine lv_iadd J.1 J.2.1 d_GU_kept_9 ?_
  refine lv_istore_n (lv' := [(2, .int ((gst - 410) + p1)), (0, .ref g0), (1, .int p1)]) J.1 J.2.1 d_GU_kept_10 rfl hl (by decide) rfl ?_
  clear hl
  intro ls hl
  refine lv_iload_n J.1 J.2.1 d_GU_kept_11 rfl (lv_at hl 0 rfl) ?_
  refine lv_if_ge (tgt := 19) J.1 J.2.1 d_GU_kept_12 (by decide) (fun c_1 => ?_) (fun c_1 => ?_)
  · replace h := g_t c_1 h
    refine lv_aload_n J.1 J.2.1 d_GU_kept_19 rfl (lv_at hl 1 rfl) ?_
    refine jg J hJ hP 0 rfl rfl i_GU 0 (by decide) gf_GU_16 rfl d_GU_kept_20 ?_
    refine jgN J hJ hP 1 rfl rfl i_MA 0 (by decide) gn_GU_63 rfl d_GU_kept_23 ?_
    refine lv_iload_n J.1 J.2.1 d_GU_kept_26 rfl (lv_at hl 0 rfl) ?_
    replace h := g_ck h
    obtain ⟨k_2, h⟩ := h
    refine jai J hJ hP 2 rfl k_2 d_GU_kept_27 ?_
    cases h
    exact jr_i J hS hP hD rfl d_GU_kept_28
  · replace h := g_f c_1 h
    refine lv_iconst (v := (-1)) J.1 J.2.1 d_GU_kept_15 (by decide) ?_
    refine lv_goto (tgt := 28) J.1 J.2.1 d_GU_kept_16 (by decide) ?_
    cases h
    exact jr_i J hS hP hD rfl d_GU_kept_28

theorem hd_GU_mode : y_GU_mode.cls ≠ "java/lang/invoke/MethodHandle" ∧ y_GU_mode.cls ≠ "java/lang/invoke/VarHandle" ∧ (parseMethodDescriptor y_GU_mode.desc).map (fun d => d.parameters.length) = some 0 := by decide +kernel
def f_GU_mode (gdp : Int32) (gst : Int32) (vmd : Int32) (vmem : Nat → Int32) : Option (Int32) := (if gdp = (0 : Int32) then (some vmd) else ((f_GU_kept gst vmem 10).bind fun r_2 => (some r_2)))
set_option maxHeartbeats 4000000 in
set_option maxRecDepth 100000 in
theorem ct_GU_mode (l : Launch) (E : jz_E) (a0 a1 a2 a3 g0 k0 : Nat) (sz : Nat) (gsz : Int32) (gdp : Int32) (gst : Int32) (gsp : Int32) (vsz : Int32) (vmd : Int32) (vpc : Int32) (vba : Int32) (vbo : Int32) (vre : Int32) (vti : Int32) (vro : Int32) (vha : Int32) (vmem : Nat → Int32) (o_r : Int32)  (h : f_GU_mode gdp gst vmd vmem = some o_r) : CTi l E y_GU_mode c_GU_mode 1 (some .int) ({ frames := 1, cells := 0, slots := 0, locals := 22 }) [.ref g0] [(g0, .inr (2, [.ref a0, .int gsz, .int gdp, .int gst, .int gsp])), (a0, .inr (0, [.ref a1, .ref a2, .ref a3, .ref k0, .int vsz, .int vmd, .int vpc, .int vba, .int vbo, .int vre, .int vti, .int vro, .int vha])), (a1, .inl (E.2.1 0, 1844, .inl vmem))] sz o_r [(g0, .inr (2, [.ref a0, .int gsz, .int gdp, .int gst, .int gsp])), (a0, .inr (0, [.ref a1, .ref a2, .ref a3, .ref k0, .int vsz, .int vmd, .int vpc, .int vba, .int vbo, .int vre, .int vti, .int vro, .int vha])), (a1, .inl (E.2.1 0, 1844, .inl vmem))] := by
  refine jw (by decide +kernel) (Nat.le_of_ble_eq_true rfl) ?_
  intro p e s m below meth c A ls J hJ hAe hsz hA hZ hP hD hl
  rw [← hAe]
  have hS : va_S A s.heap s.heap [] := va_S.rf
  have hl : lv_has ls 1 [(0, .ref g0)] := hl
  unfold f_GU_mode at h
  refine lv_aload_n J.1 J.2.1 d_GU_mode_0 rfl (lv_at hl 0 rfl) ?_
  refine jg J hJ hP 0 rfl rfl i_GU 2 (by decide) gf_GU_26 rfl d_GU_mode_1 ?_
  refine lv_if_ne (tgt := 17) J.1 J.2.1 d_GU_mode_4 (by decide) (fun c_1 => ?_) (fun c_1 => ?_)
  · replace h := g_f c_1 h
    refine lv_aload_n J.1 J.2.1 d_GU_mode_17 rfl (lv_at hl 0 rfl) ?_
    refine lv_bipush (v := 10) J.1 J.2.1 d_GU_mode_18 (by decide) ?_
    replace h := g_bd h
    obtain ⟨r_2, q_2, h⟩ := h
    refine jk_i (jrunV (As := [.int 10]) (rest := []) J hJ hA hZ hP hD hS (ct_GU_kept l E a0 a1 a2 a3 g0 k0 _ gsz gdp gst gsp vsz vmd vpc vba vbo vre vti vro vha vmem 10 r_2 q_2) [0, 1, 2] rfl (by decide) gl_GU_75 gi_GU_kept gsel_GU_kept gini_GU gc_GU_kept hd_GU_kept ⟨rfl, rfl, Nat.le_of_ble_eq_true rfl, Nat.le_of_ble_eq_true rfl⟩ rfl rfl hl.1 rfl rfl (Nat.le_of_ble_eq_true rfl) d_GU_mode_20 ⟨Nat.zero_le _, Nat.zero_le _⟩) hA hP hD hS [0, 1, 2] [] (WR := []) rfl rfl (by decide) (by decide) [0, 1, 2] (WF := [(g0, .inr (2, [.ref a0, .int gsz, .int gdp, .int gst, .int gsp])), (a0, .inr (0, [.ref a1, .ref a2, .ref a3, .ref k0, .int vsz, .int vmd, .int vpc, .int vba, .int vbo, .int vre, .int vti, .int vro, .int vha])), (a1, .inl (E.2.1 0, 1844, .inl vmem))]) rfl (by decide) ?_
    clear hP hD hS
    intro H locs hP hD hS
    cases h
    exact jr_i J hS hP hD rfl d_GU_mode_23
  · replace h := g_t c_1 h
    refine lv_aload_n J.1 J.2.1 d_GU_mode_7 rfl (lv_at hl 0 rfl) ?_
    refine jg J hJ hP 0 rfl rfl i_GU 0 (by decide) gf_GU_16 rfl d_GU_mode_8 ?_
    refine jgN J hJ hP 1 rfl rfl i_MA 5 (by decide) gn_GU_60 rfl d_GU_mode_11 ?_
    refine lv_goto (tgt := 23) J.1 J.2.1 d_GU_mode_14 (by decide) ?_
    cases h
    exact jr_i J hS hP hD rfl d_GU_mode_23

theorem hd_GU_pc : y_GU_pc.cls ≠ "java/lang/invoke/MethodHandle" ∧ y_GU_pc.cls ≠ "java/lang/invoke/VarHandle" ∧ (parseMethodDescriptor y_GU_pc.desc).map (fun d => d.parameters.length) = some 0 := by decide +kernel
def f_GU_pc (gdp : Int32) (gst : Int32) (vpc : Int32) (vha : Int32) (vmem : Nat → Int32) : Option (Int32) := (if gdp ≤ (0 : Int32) then (some vpc) else (if vha = (0 : Int32) then (some vpc) else ((f_GU_kept gst vmem 1).bind fun r_3 => (some r_3))))
set_option maxHeartbeats 4000000 in
set_option maxRecDepth 100000 in
theorem ct_GU_pc (l : Launch) (E : jz_E) (a0 a1 a2 a3 g0 k0 : Nat) (sz : Nat) (gsz : Int32) (gdp : Int32) (gst : Int32) (gsp : Int32) (vsz : Int32) (vmd : Int32) (vpc : Int32) (vba : Int32) (vbo : Int32) (vre : Int32) (vti : Int32) (vro : Int32) (vha : Int32) (vmem : Nat → Int32) (o_r : Int32)  (h : f_GU_pc gdp gst vpc vha vmem = some o_r) : CTi l E y_GU_pc c_GU_pc 1 (some .int) ({ frames := 1, cells := 0, slots := 0, locals := 22 }) [.ref g0] [(g0, .inr (2, [.ref a0, .int gsz, .int gdp, .int gst, .int gsp])), (a0, .inr (0, [.ref a1, .ref a2, .ref a3, .ref k0, .int vsz, .int vmd, .int vpc, .int vba, .int vbo, .int vre, .int vti, .int vro, .int vha])), (a1, .inl (E.2.1 0, 1844, .inl vmem))] sz o_r [(g0, .inr (2, [.ref a0, .int gsz, .int gdp, .int gst, .int gsp])), (a0, .inr (0, [.ref a1, .ref a2, .ref a3, .ref k0, .int vsz, .int vmd, .int vpc, .int vba, .int vbo, .int vre, .int vti, .int vro, .int vha])), (a1, .inl (E.2.1 0, 1844, .inl vmem))] := by
  refine jw (by decide +kernel) (Nat.le_of_ble_eq_true rfl) ?_
  intro p e s m below meth c A ls J hJ hAe hsz hA hZ hP hD hl
  rw [← hAe]
  have hS : va_S A s.heap s.heap [] := va_S.rf
  have hl : lv_has ls 1 [(0, .ref g0)] := hl
  unfold f_GU_pc at h
  refine lv_aload_n J.1 J.2.1 d_GU_pc_0 rfl (lv_at hl 0 rfl) ?_
  refine jg J hJ hP 0 rfl rfl i_GU 2 (by decide) gf_GU_26 rfl d_GU_pc_1 ?_
  refine lv_if_le (tgt := 25) J.1 J.2.1 d_GU_pc_4 (by decide) (fun c_1 => ?_) (fun c_1 => ?_)
  · replace h := g_t c_1 h
    refine lv_aload_n J.1 J.2.1 d_GU_pc_25 rfl (lv_at hl 0 rfl) ?_
    refine jg J hJ hP 0 rfl rfl i_GU 0 (by decide) gf_GU_16 rfl d_GU_pc_26 ?_
    refine jgN J hJ hP 1 rfl rfl i_MA 6 (by decide) gn_GU_103 rfl d_GU_pc_29 ?_
    cases h
    exact jr_i J hS hP hD rfl d_GU_pc_32
  · replace h := g_f c_1 h
    refine lv_aload_n J.1 J.2.1 d_GU_pc_7 rfl (lv_at hl 0 rfl) ?_
    refine jg J hJ hP 0 rfl rfl i_GU 0 (by decide) gf_GU_16 rfl d_GU_pc_8 ?_
    refine jgN J hJ hP 1 rfl rfl i_MA 12 (by decide) gn_GU_49 rfl d_GU_pc_11 ?_
    refine lv_if_eq (tgt := 25) J.1 J.2.1 d_GU_pc_14 (by decide) (fun c_2 => ?_) (fun c_2 => ?_)
    · replace h := g_t c_2 h
      refine lv_aload_n J.1 J.2.1 d_GU_pc_25 rfl (lv_at hl 0 rfl) ?_
      refine jg J hJ hP 0 rfl rfl i_GU 0 (by decide) gf_GU_16 rfl d_GU_pc_26 ?_
      refine jgN J hJ hP 1 rfl rfl i_MA 6 (by decide) gn_GU_103 rfl d_GU_pc_29 ?_
      cases h
      exact jr_i J hS hP hD rfl d_GU_pc_32
    · replace h := g_f c_2 h
      refine lv_aload_n J.1 J.2.1 d_GU_pc_17 rfl (lv_at hl 0 rfl) ?_
      refine lv_iconst (v := 1) J.1 J.2.1 d_GU_pc_18 (by decide) ?_
      replace h := g_bd h
      obtain ⟨r_3, q_3, h⟩ := h
      refine jk_i (jrunV (As := [.int 1]) (rest := []) J hJ hA hZ hP hD hS (ct_GU_kept l E a0 a1 a2 a3 g0 k0 _ gsz gdp gst gsp vsz vmd vpc vba vbo vre vti vro vha vmem 1 r_3 q_3) [0, 1, 2] rfl (by decide) gl_GU_75 gi_GU_kept gsel_GU_kept gini_GU gc_GU_kept hd_GU_kept ⟨rfl, rfl, Nat.le_of_ble_eq_true rfl, Nat.le_of_ble_eq_true rfl⟩ rfl rfl hl.1 rfl rfl (Nat.le_of_ble_eq_true rfl) d_GU_pc_19 ⟨Nat.zero_le _, Nat.zero_le _⟩) hA hP hD hS [0, 1, 2] [] (WR := []) rfl rfl (by decide) (by decide) [0, 1, 2] (WF := [(g0, .inr (2, [.ref a0, .int gsz, .int gdp, .int gst, .int gsp])), (a0, .inr (0, [.ref a1, .ref a2, .ref a3, .ref k0, .int vsz, .int vmd, .int vpc, .int vba, .int vbo, .int vre, .int vti, .int vro, .int vha])), (a1, .inl (E.2.1 0, 1844, .inl vmem))]) rfl (by decide) ?_
      clear hP hD hS
      intro H locs hP hD hS
      refine lv_goto (tgt := 32) J.1 J.2.1 d_GU_pc_22 (by decide) ?_
      cases h
      exact jr_i J hS hP hD rfl d_GU_pc_32

theorem hd_GU_timer : y_GU_timer.cls ≠ "java/lang/invoke/MethodHandle" ∧ y_GU_timer.cls ≠ "java/lang/invoke/VarHandle" ∧ (parseMethodDescriptor y_GU_timer.desc).map (fun d => d.parameters.length) = some 0 := by decide +kernel
def f_GU_timer (gdp : Int32) (gst : Int32) (vmd : Int32) (vti : Int32) (vmem : Nat → Int32) : Option (Int32) := (if gdp ≤ (0 : Int32) then (some vti) else ((f_GU_mode gdp gst vmd vmem).bind fun r_2 => (if r_2 = (0 : Int32) then ((f_GU_kept gst vmem 13).bind fun r_4 => (some r_4)) else (some vti))))
set_option maxHeartbeats 4000000 in
set_option maxRecDepth 100000 in
theorem ct_GU_timer (l : Launch) (E : jz_E) (a0 a1 a2 a3 g0 k0 : Nat) (sz : Nat) (gsz : Int32) (gdp : Int32) (gst : Int32) (gsp : Int32) (vsz : Int32) (vmd : Int32) (vpc : Int32) (vba : Int32) (vbo : Int32) (vre : Int32) (vti : Int32) (vro : Int32) (vha : Int32) (vmem : Nat → Int32) (o_r : Int32)  (h : f_GU_timer gdp gst vmd vti vmem = some o_r) : CTi l E y_GU_timer c_GU_timer 1 (some .int) ({ frames := 2, cells := 0, slots := 0, locals := 42 }) [.ref g0] [(g0, .inr (2, [.ref a0, .int gsz, .int gdp, .int gst, .int gsp])), (a0, .inr (0, [.ref a1, .ref a2, .ref a3, .ref k0, .int vsz, .int vmd, .int vpc, .int vba, .int vbo, .int vre, .int vti, .int vro, .int vha])), (a1, .inl (E.2.1 0, 1844, .inl vmem))] sz o_r [(g0, .inr (2, [.ref a0, .int gsz, .int gdp, .int gst, .int gsp])), (a0, .inr (0, [.ref a1, .ref a2, .ref a3, .ref k0, .int vsz, .int vmd, .int vpc, .int vba, .int vbo, .int vre, .int vti, .int vro, .int vha])), (a1, .inl (E.2.1 0, 1844, .inl vmem))] := by
  refine jw (by decide +kernel) (Nat.le_of_ble_eq_true rfl) ?_
  intro p e s m below meth c A ls J hJ hAe hsz hA hZ hP hD hl
  rw [← hAe]
  have hS : va_S A s.heap s.heap [] := va_S.rf
  have hl : lv_has ls 1 [(0, .ref g0)] := hl
  unfold f_GU_timer at h
  refine lv_aload_n J.1 J.2.1 d_GU_timer_0 rfl (lv_at hl 0 rfl) ?_
  refine jg J hJ hP 0 rfl rfl i_GU 2 (by decide) gf_GU_26 rfl d_GU_timer_1 ?_
  refine lv_if_le (tgt := 23) J.1 J.2.1 d_GU_timer_4 (by decide) (fun c_1 => ?_) (fun c_1 => ?_)
  · replace h := g_t c_1 h
    refine lv_aload_n J.1 J.2.1 d_GU_timer_23 rfl (lv_at hl 0 rfl) ?_
    refine jg J hJ hP 0 rfl rfl i_GU 0 (by decide) gf_GU_16 rfl d_GU_timer_24 ?_
    refine jgN J hJ hP 1 rfl rfl i_MA 10 (by decide) gn_GU_105 rfl d_GU_timer_27 ?_
    cases h
    exact jr_i J hS hP hD rfl d_GU_timer_30
  · replace h := g_f c_1 h
    refine lv_aload_n J.1 J.2.1 d_GU_timer_7 rfl (lv_at hl 0 rfl) ?_
    replace h := g_bd h
    obtain ⟨r_2, q_2, h⟩ := h
    refine jk_i (jrunV (As := []) (rest := []) J hJ hA hZ hP hD hS (ct_GU_mode l E a0 a1 a2 a3 g0 k0 _ gsz gdp gst gsp vsz vmd vpc vba vbo vre vti vro vha vmem r_2 q_2) [0, 1, 2] rfl (by decide) gl_GU_66 gi_GU_mode gsel_GU_mode gini_GU gc_GU_mode hd_GU_mode ⟨rfl, rfl, Nat.le_of_ble_eq_true rfl, Nat.le_of_ble_eq_true rfl⟩ rfl rfl hl.1 rfl rfl (Nat.le_of_ble_eq_true rfl) d_GU_timer_8 ⟨Nat.zero_le _, Nat.zero_le _⟩) hA hP hD hS [0, 1, 2] [] (WR := []) rfl rfl (by decide) (by decide) [0, 1, 2] (WF := [(g0, .inr (2, [.ref a0, .int gsz, .int gdp, .int gst, .int gsp])), (a0, .inr (0, [.ref a1, .ref a2, .ref a3, .ref k0, .int vsz, .int vmd, .int vpc, .int vba, .int vbo, .int vre, .int vti, .int vro, .int vha])), (a1, .inl (E.2.1 0, 1844, .inl vmem))]) rfl (by decide) ?_
    clear hP hD hS
    intro H locs hP hD hS
    refine lv_if_ne (tgt := 23) J.1 J.2.1 d_GU_timer_11 (by decide) (fun c_3 => ?_) (fun c_3 => ?_)
    · replace h := g_f c_3 h
      refine lv_aload_n J.1 J.2.1 d_GU_timer_23 rfl (lv_at hl 0 rfl) ?_
      refine jg J hJ hP 0 rfl rfl i_GU 0 (by decide) gf_GU_16 rfl d_GU_timer_24 ?_
      refine jgN J hJ hP 1 rfl rfl i_MA 10 (by decide) gn_GU_105 rfl d_GU_timer_27 ?_
      cases h
      exact jr_i J hS hP hD rfl d_GU_timer_30
    · replace h := g_t c_3 h
      refine lv_aload_n J.1 J.2.1 d_GU_timer_14 rfl (lv_at hl 0 rfl) ?_
      refine lv_bipush (v := 13) J.1 J.2.1 d_GU_timer_15 (by decide) ?_
      replace h := g_bd h
      obtain ⟨r_4, q_4, h⟩ := h
      refine jk_i (jrunV (As := [.int 13]) (rest := []) J hJ hA hZ hP hD hS (ct_GU_kept l E a0 a1 a2 a3 g0 k0 _ gsz gdp gst gsp vsz vmd vpc vba vbo vre vti vro vha vmem 13 r_4 q_4) [0, 1, 2] rfl (by decide) gl_GU_75 gi_GU_kept gsel_GU_kept gini_GU gc_GU_kept hd_GU_kept ⟨rfl, rfl, Nat.le_of_ble_eq_true rfl, Nat.le_of_ble_eq_true rfl⟩ rfl rfl hl.1 rfl rfl (Nat.le_of_ble_eq_true rfl) d_GU_timer_17 ⟨Nat.zero_le _, Nat.zero_le _⟩) hA hP hD hS [0, 1, 2] [] (WR := []) rfl rfl (by decide) (by decide) [0, 1, 2] (WF := [(g0, .inr (2, [.ref a0, .int gsz, .int gdp, .int gst, .int gsp])), (a0, .inr (0, [.ref a1, .ref a2, .ref a3, .ref k0, .int vsz, .int vmd, .int vpc, .int vba, .int vbo, .int vre, .int vti, .int vro, .int vha])), (a1, .inl (E.2.1 0, 1844, .inl vmem))]) rfl (by decide) ?_
      clear hP hD hS
      intro H locs hP hD hS
      refine lv_goto (tgt := 30) J.1 J.2.1 d_GU_timer_20 (by decide) ?_
      cases h
      exact jr_i J hS hP hD rfl d_GU_timer_30

theorem hd_GU_wordAt : y_GU_wordAt.cls ≠ "java/lang/invoke/MethodHandle" ∧ y_GU_wordAt.cls ≠ "java/lang/invoke/VarHandle" ∧ (parseMethodDescriptor y_GU_wordAt.desc).map (fun d => d.parameters.length) = some 1 := by decide +kernel
def f_GU_wordAt (gsz : Int32) (gst : Int32) (vmem : Nat → Int32) (p1 : Int32) : Option (Int32) := (if p1 < (0 : Int32) then (some (-1)) else (if p1 < gsz then (if ck (gst + p1) 1844 then (some (vmem (gst + p1).toNatClampNeg)) else none) else (some (-1))))
set_option maxHeartbeats 4000000 in
set_option maxRecDepth 100000 in
theorem ct_GU_wordAt (l : Launch) (E : jz_E) (a0 a1 a2 a3 g0 k0 : Nat) (sz : Nat) (gsz : Int32) (gdp : Int32) (gst : Int32) (gsp : Int32) (vsz : Int32) (vmd : Int32) (vpc : Int32) (vba : Int32) (vbo : Int32) (vre : Int32) (vti : Int32) (vro : Int32) (vha : Int32) (vmem : Nat → Int32) (p1 : Int32) (o_r : Int32)  (h : f_GU_wordAt gsz gst vmem p1 = some o_r) : CTi l E y_GU_wordAt c_GU_wordAt 2 (some .int) ({ frames := 0, cells := 0, slots := 0, locals := 0 }) [.ref g0, .int p1] [(g0, .inr (2, [.ref a0, .int gsz, .int gdp, .int gst, .int gsp])), (a0, .inr (0, [.ref a1, .ref a2, .ref a3, .ref k0, .int vsz, .int vmd, .int vpc, .int vba, .int vbo, .int vre, .int vti, .int vro, .int vha])), (a1, .inl (E.2.1 0, 1844, .inl vmem))] sz o_r [(g0, .inr (2, [.ref a0, .int gsz, .int gdp, .int gst, .int gsp])), (a0, .inr (0, [.ref a1, .ref a2, .ref a3, .ref k0, .int vsz, .int vmd, .int vpc, .int vba, .int vbo, .int vre, .int vti, .int vro, .int vha])), (a1, .inl (E.2.1 0, 1844, .inl vmem))] := by
  refine jw (by decide +kernel) (Nat.le_of_ble_eq_true rfl) ?_
  intro p e s m below meth c A ls J hJ hAe hsz hA hZ hP hD hl
  rw [← hAe]
  have hS : va_S A s.heap s.heap [] := va_S.rf
  have hl : lv_has ls 2 [(0, .ref g0), (1, .int p1)] := hl
  unfold f_GU_wordAt at h
  refine lv_iload_n J.1 J.2.1 d_GU_wordAt_0 rfl (lv_at hl 1 rfl) ?_
  refine lv_if_lt (tgt := 12) J.1 J.2.1 d_GU_wordAt_1 (by decide) (fun c_1 => ?_) (fun c_1 => ?_)
  · replace h := g_t c_1 h
    refine lv_iconst (v := (-1)) J.1 J.2.1 d_GU_wordAt_12 (by decide) ?_
    refine lv_goto (tgt := 30) J.1 J.2.1 d_GU_wordAt_13 (by decide) ?_
    cases h
    exact jr_i J hS hP hD rfl d_GU_wordAt_30
  · replace h := g_f c_1 h
    refine lv_iload_n J.1 J.2.1 d_GU_wordAt_4 rfl (lv_at hl 1 rfl) ?_
    refine lv_aload_n J.1 J.2.1 d_GU_wordAt_5 rfl (lv_at hl 0 rfl) ?_
    refine jg J hJ hP 0 rfl rfl i_GU 1 (by decide) gf_GU_22 rfl d_GU_wordAt_6 ?_
    refine lv_icmp_lt (tgt := 16) J.1 J.2.1 d_GU_wordAt_9 (by decide) (fun c_2 => ?_) (fun c_2 => ?_)
    · replace h := g_t c_2 h
      refine lv_aload_n J.1 J.2.1 d_GU_wordAt_16 rfl (lv_at hl 0 rfl) ?_
      refine jg J hJ hP 0 rfl rfl i_GU 0 (by decide) gf_GU_16 rfl d_GU_wordAt_17 ?_
      refine jgN J hJ hP 1 rfl rfl i_MA 0 (by decide) gn_GU_63 rfl d_GU_wordAt_20 ?_
      refine lv_aload_n J.1 J.2.1 d_GU_wordAt_23 rfl (lv_at hl 0 rfl) ?_
      refine jg J hJ hP 0 rfl rfl i_GU 3 (by decide) gf_GU_29 rfl d_GU_wordAt_24 ?_
      refine lv_iload_n J.1 J.2.1 d_GU_wordAt_27 rfl (lv_at hl 1 rfl) ?_
      refine lv_iadd J.1 J.2.1 d_GU_wordAt_28 ?_
      replace h := g_ck h
      obtain ⟨k_3, h⟩ := h
      refine jai J hJ hP 2 rfl k_3 d_GU_wordAt_29 ?_
      cases h
      exact jr_i J hS hP hD rfl d_GU_wordAt_30
    · replace h := g_f c_2 h
      refine lv_iconst (v := (-1)) J.1 J.2.1 d_GU_wordAt_12 (by decide) ?_
      refine lv_goto (tgt := 30) J.1 J.2.1 d_GU_wordAt_13 (by decide) ?_
      cases h
      exact jr_i J hS hP hD rfl d_GU_wordAt_30

theorem hd_GU_told : y_GU_told.cls ≠ "java/lang/invoke/MethodHandle" ∧ y_GU_told.cls ≠ "java/lang/invoke/VarHandle" ∧ (parseMethodDescriptor y_GU_told.desc).map (fun d => d.parameters.length) = some 1 := by decide +kernel
def f_GU_told (gsz : Int32) (gdp : Int32) (gst : Int32) (gsp : Int32) (vmd : Int32) (vpc : Int32) (vba : Int32) (vbo : Int32) (vti : Int32) (vro : Int32) (vha : Int32) (vmem : Nat → Int32) (vreg : Nat → Int32) (kwai : Int32) (ksnt : Int32) (p1 : Int32) : Option (Int32) := (if (p1) = 0 then ((f_GU_mode gdp gst vmd vmem).bind fun r_2 => (some r_2)) else (if (p1) = 1 then ((f_GU_pc gdp gst vpc vha vmem).bind fun r_4 => (some r_4)) else (if (p1) = 2 then (if gdp = (0 : Int32) then (some vba) else ((f_GU_kept gst vmem 11).bind fun r_7 => (some r_7))) else (if (p1) = 3 then (if gdp = (0 : Int32) then (some vbo) else ((f_GU_kept gst vmem 12).bind fun r_10 => (some r_10))) else (if (p1) = 4 then ((f_GU_timer gdp gst vmd vti vmem).bind fun r_12 => (some r_12)) else (if (p1) = 5 then (if vro = (0 : Int32) then (some 0) else (some 1)) else (if (p1) = 6 then (if vha = (0 : Int32) then (some 0) else (some 1)) else (if (p1) = 7 then (some gsp) else (if (p1) = 8 then (some ksnt) else (if (p1) = 9 then (some kwai) else (if (p1) = 10 then (some gsz) else (if (p1) = 11 then (some gdp) else ((f_MA_register vreg (p1 - 20)).bind fun r_22 => (some r_22))))))))))))))
set_option maxHeartbeats 4000000 in
set_option maxRecDepth 100000 in
theorem ct_GU_told (l : Launch) (E : jz_E) (a0 a1 a2 a3 g0 k0 k1 k2 : Nat) (sz : Nat) (gsz : Int32) (gdp : Int32) (gst : Int32) (gsp : Int32) (vsz : Int32) (vmd : Int32) (vpc : Int32) (vba : Int32) (vbo : Int32) (vre : Int32) (vti : Int32) (vro : Int32) (vha : Int32) (vmem : Nat → Int32) (vreg : Nat → Int32) (kold : Int32) (kwai : Int32) (ksnt : Int32) (p1 : Int32) (o_r : Int32)  (h : f_GU_told gsz gdp gst gsp vmd vpc vba vbo vti vro vha vmem vreg kwai ksnt p1 = some o_r) : CTi l E y_GU_told c_GU_told 2 (some .int) ({ frames := 3, cells := 0, slots := 0, locals := 62 }) [.ref g0, .int p1] [(g0, .inr (2, [.ref a0, .int gsz, .int gdp, .int gst, .int gsp])), (a0, .inr (0, [.ref a1, .ref a2, .ref a3, .ref k0, .int vsz, .int vmd, .int vpc, .int vba, .int vbo, .int vre, .int vti, .int vro, .int vha])), (a1, .inl (E.2.1 0, 1844, .inl vmem)), (a2, .inl (E.2.1 0, 8, .inl vreg)), (k0, .inr (1, [.ref k1, .ref k2, .int kold, .int kwai, .int ksnt]))] sz o_r [(g0, .inr (2, [.ref a0, .int gsz, .int gdp, .int gst, .int gsp])), (a0, .inr (0, [.ref a1, .ref a2, .ref a3, .ref k0, .int vsz, .int vmd, .int vpc, .int vba, .int vbo, .int vre, .int vti, .int vro, .int vha])), (a1, .inl (E.2.1 0, 1844, .inl vmem)), (a2, .inl (E.2.1 0, 8, .inl vreg)), (k0, .inr (1, [.ref k1, .ref k2, .int kold, .int kwai, .int ksnt]))] := by
  refine jw (by decide +kernel) (Nat.le_of_ble_eq_true rfl) ?_
  intro p e s m below meth c A ls J hJ hAe hsz hA hZ hP hD hl
  rw [← hAe]
  have hS : va_S A s.heap s.heap [] := va_S.rf
  have hl : lv_has ls 2 [(0, .ref g0), (1, .int p1)] := hl
  unfold f_GU_told at h
  refine lv_iload_n J.1 J.2.1 d_GU_told_0 rfl (lv_at hl 1 rfl) ?_
  by_cases c_1 : (p1) = 0
  · replace h := g_t c_1 h
    refine lv_tableIn (off := 63) (tgt := 64) J.1 J.2.1 d_GU_told_1 (by rw [c_1]; decide) (by rw [c_1]; decide) (by rw [c_1]; rfl) (by decide) ?_
    refine lv_aload_n J.1 J.2.1 d_GU_told_64 rfl (lv_at hl 0 rfl) ?_
    replace h := g_bd h
    obtain ⟨r_2, q_2, h⟩ := h
    refine jk_i (jrunV (As := []) (rest := []) J hJ hA hZ hP hD hS (ct_GU_mode l E a0 a1 a2 a3 g0 k0 _ gsz gdp gst gsp vsz vmd vpc vba vbo vre vti vro vha vmem r_2 q_2) [0, 1, 2] rfl (by decide) gl_GU_66 gi_GU_mode gsel_GU_mode gini_GU gc_GU_mode hd_GU_mode ⟨rfl, rfl, Nat.le_of_ble_eq_true rfl, Nat.le_of_ble_eq_true rfl⟩ rfl rfl hl.1 rfl rfl (Nat.le_of_ble_eq_true rfl) d_GU_told_65 ⟨Nat.zero_le _, Nat.zero_le _⟩) hA hP hD hS [0, 1, 2] [3, 4] (WR := [(a2, .inl (E.2.1 0, 8, .inl vreg)), (k0, .inr (1, [.ref k1, .ref k2, .int kold, .int kwai, .int ksnt]))]) rfl rfl (by decide) (by decide) [2, 3, 4, 0, 1] (WF := [(g0, .inr (2, [.ref a0, .int gsz, .int gdp, .int gst, .int gsp])), (a0, .inr (0, [.ref a1, .ref a2, .ref a3, .ref k0, .int vsz, .int vmd, .int vpc, .int vba, .int vbo, .int vre, .int vti, .int vro, .int vha])), (a1, .inl (E.2.1 0, 1844, .inl vmem)), (a2, .inl (E.2.1 0, 8, .inl vreg)), (k0, .inr (1, [.ref k1, .ref k2, .int kold, .int kwai, .int ksnt]))]) rfl (by decide) ?_
    clear hP hD hS
    intro H locs hP hD hS
    cases h
    exact jr_i J hS hP hD rfl d_GU_told_68
  replace h := g_f c_1 h
  by_cases c_3 : (p1) = 1
  · replace h := g_t c_3 h
    refine lv_tableIn (off := 68) (tgt := 69) J.1 J.2.1 d_GU_told_1 (by rw [c_3]; decide) (by rw [c_3]; decide) (by rw [c_3]; rfl) (by decide) ?_
    refine lv_aload_n J.1 J.2.1 d_GU_told_69 rfl (lv_at hl 0 rfl) ?_
    replace h := g_bd h
    obtain ⟨r_4, q_4, h⟩ := h
    refine jk_i (jrunV (As := []) (rest := []) J hJ hA hZ hP hD hS (ct_GU_pc l E a0 a1 a2 a3 g0 k0 _ gsz gdp gst gsp vsz vmd vpc vba vbo vre vti vro vha vmem r_4 q_4) [0, 1, 2] rfl (by decide) gl_GU_69 gi_GU_pc gsel_GU_pc gini_GU gc_GU_pc hd_GU_pc ⟨rfl, rfl, Nat.le_of_ble_eq_true rfl, Nat.le_of_ble_eq_true rfl⟩ rfl rfl hl.1 rfl rfl (Nat.le_of_ble_eq_true rfl) d_GU_told_70 ⟨Nat.zero_le _, Nat.zero_le _⟩) hA hP hD hS [0, 1, 2] [3, 4] (WR := [(a2, .inl (E.2.1 0, 8, .inl vreg)), (k0, .inr (1, [.ref k1, .ref k2, .int kold, .int kwai, .int ksnt]))]) rfl rfl (by decide) (by decide) [2, 3, 4, 0, 1] (WF := [(g0, .inr (2, [.ref a0, .int gsz, .int gdp, .int gst, .int gsp])), (a0, .inr (0, [.ref a1, .ref a2, .ref a3, .ref k0, .int vsz, .int vmd, .int vpc, .int vba, .int vbo, .int vre, .int vti, .int vro, .int vha])), (a1, .inl (E.2.1 0, 1844, .inl vmem)), (a2, .inl (E.2.1 0, 8, .inl vreg)), (k0, .inr (1, [.ref k1, .ref k2, .int kold, .int kwai, .int ksnt]))]) rfl (by decide) ?_
    clear hP hD hS
    intro H locs hP hD hS
    cases h
    exact jr_i J hS hP hD rfl d_GU_told_73
  replace h := g_f c_3 h
  by_cases c_5 : (p1) = 2
  · replace h := g_t c_5 h
    refine lv_tableIn (off := 73) (tgt := 74) J.1 J.2.1 d_GU_told_1 (by rw [c_5]; decide) (by rw [c_5]; decide) (by rw [c_5]; rfl) (by decide) ?_
    refine lv_aload_n J.1 J.2.1 d_GU_told_74 rfl (lv_at hl 0 rfl) ?_
    refine jg J hJ hP 0 rfl rfl i_GU 2 (by decide) gf_GU_26 rfl d_GU_told_75 ?_
    refine lv_if_ne (tgt := 91) J.1 J.2.1 d_GU_told_78 (by decide) (fun c_6 => ?_) (fun c_6 => ?_)
    · replace h := g_f c_6 h
      refine lv_aload_n J.1 J.2.1 d_GU_told_91 rfl (lv_at hl 0 rfl) ?_
      refine lv_bipush (v := 11) J.1 J.2.1 d_GU_told_92 (by decide) ?_
      replace h := g_bd h
      obtain ⟨r_7, q_7, h⟩ := h
      refine jk_i (jrunV (As := [.int 11]) (rest := []) J hJ hA hZ hP hD hS (ct_GU_kept l E a0 a1 a2 a3 g0 k0 _ gsz gdp gst gsp vsz vmd vpc vba vbo vre vti vro vha vmem 11 r_7 q_7) [0, 1, 2] rfl (by decide) gl_GU_75 gi_GU_kept gsel_GU_kept gini_GU gc_GU_kept hd_GU_kept ⟨rfl, rfl, Nat.le_of_ble_eq_true rfl, Nat.le_of_ble_eq_true rfl⟩ rfl rfl hl.1 rfl rfl (Nat.le_of_ble_eq_true rfl) d_GU_told_94 ⟨Nat.zero_le _, Nat.zero_le _⟩) hA hP hD hS [0, 1, 2] [3, 4] (WR := [(a2, .inl (E.2.1 0, 8, .inl vreg)), (k0, .inr (1, [.ref k1, .ref k2, .int kold, .int kwai, .int ksnt]))]) rfl rfl (by decide) (by decide) [2, 3, 4, 0, 1] (WF := [(g0, .inr (2, [.ref a0, .int gsz, .int gdp, .int gst, .int gsp])), (a0, .inr (0, [.ref a1, .ref a2, .ref a3, .ref k0, .int vsz, .int vmd, .int vpc, .int vba, .int vbo, .int vre, .int vti, .int vro, .int vha])), (a1, .inl (E.2.1 0, 1844, .inl vmem)), (a2, .inl (E.2.1 0, 8, .inl vreg)), (k0, .inr (1, [.ref k1, .ref k2, .int kold, .int kwai, .int ksnt]))]) rfl (by decide) ?_
      clear hP hD hS
      intro H locs hP hD hS
      cases h
      exact jr_i J hS hP hD rfl d_GU_told_97
    · replace h := g_t c_6 h
      refine lv_aload_n J.1 J.2.1 d_GU_told_81 rfl (lv_at hl 0 rfl) ?_
      refine jg J hJ hP 0 rfl rfl i_GU 0 (by decide) gf_GU_16 rfl d_GU_told_82 ?_
      refine jgN J hJ hP 1 rfl rfl i_MA 7 (by decide) gn_GU_72 rfl d_GU_told_85 ?_
      refine lv_goto (tgt := 97) J.1 J.2.1 d_GU_told_88 (by decide) ?_
      cases h
      exact jr_i J hS hP hD rfl d_GU_told_97
  replace h := g_f c_5 h
  by_cases c_8 : (p1) = 3
  · replace h := g_t c_8 h
    refine lv_tableIn (off := 97) (tgt := 98) J.1 J.2.1 d_GU_told_1 (by rw [c_8]; decide) (by rw [c_8]; decide) (by rw [c_8]; rfl) (by decide) ?_
    refine lv_aload_n J.1 J.2.1 d_GU_told_98 rfl (lv_at hl 0 rfl) ?_
    refine jg J hJ hP 0 rfl rfl i_GU 2 (by decide) gf_GU_26 rfl d_GU_told_99 ?_
    refine lv_if_ne (tgt := 115) J.1 J.2.1 d_GU_told_102 (by decide) (fun c_9 => ?_) (fun c_9 => ?_)
    · replace h := g_f c_9 h
      refine lv_aload_n J.1 J.2.1 d_GU_told_115 rfl (lv_at hl 0 rfl) ?_
      refine lv_bipush (v := 12) J.1 J.2.1 d_GU_told_116 (by decide) ?_
      replace h := g_bd h
      obtain ⟨r_10, q_10, h⟩ := h
      refine jk_i (jrunV (As := [.int 12]) (rest := []) J hJ hA hZ hP hD hS (ct_GU_kept l E a0 a1 a2 a3 g0 k0 _ gsz gdp gst gsp vsz vmd vpc vba vbo vre vti vro vha vmem 12 r_10 q_10) [0, 1, 2] rfl (by decide) gl_GU_75 gi_GU_kept gsel_GU_kept gini_GU gc_GU_kept hd_GU_kept ⟨rfl, rfl, Nat.le_of_ble_eq_true rfl, Nat.le_of_ble_eq_true rfl⟩ rfl rfl hl.1 rfl rfl (Nat.le_of_ble_eq_true rfl) d_GU_told_118 ⟨Nat.zero_le _, Nat.zero_le _⟩) hA hP hD hS [0, 1, 2] [3, 4] (WR := [(a2, .inl (E.2.1 0, 8, .inl vreg)), (k0, .inr (1, [.ref k1, .ref k2, .int kold, .int kwai, .int ksnt]))]) rfl rfl (by decide) (by decide) [2, 3, 4, 0, 1] (WF := [(g0, .inr (2, [.ref a0, .int gsz, .int gdp, .int gst, .int gsp])), (a0, .inr (0, [.ref a1, .ref a2, .ref a3, .ref k0, .int vsz, .int vmd, .int vpc, .int vba, .int vbo, .int vre, .int vti, .int vro, .int vha])), (a1, .inl (E.2.1 0, 1844, .inl vmem)), (a2, .inl (E.2.1 0, 8, .inl vreg)), (k0, .inr (1, [.ref k1, .ref k2, .int kold, .int kwai, .int ksnt]))]) rfl (by decide) ?_
      clear hP hD hS
      intro H locs hP hD hS
      cases h
      exact jr_i J hS hP hD rfl d_GU_told_121
    · replace h := g_t c_9 h
      refine lv_aload_n J.1 J.2.1 d_GU_told_105 rfl (lv_at hl 0 rfl) ?_
      refine jg J hJ hP 0 rfl rfl i_GU 0 (by decide) gf_GU_16 rfl d_GU_told_106 ?_
      refine jgN J hJ hP 1 rfl rfl i_MA 8 (by decide) gn_GU_79 rfl d_GU_told_109 ?_
      refine lv_goto (tgt := 121) J.1 J.2.1 d_GU_told_112 (by decide) ?_
      cases h
      exact jr_i J hS hP hD rfl d_GU_told_121
  replace h := g_f c_8 h
  by_cases c_11 : (p1) = 4
  · replace h := g_t c_11 h
    refine lv_tableIn (off := 121) (tgt := 122) J.1 J.2.1 d_GU_told_1 (by rw [c_11]; decide) (by rw [c_11]; decide) (by rw [c_11]; rfl) (by decide) ?_
    refine lv_aload_n J.1 J.2.1 d_GU_told_122 rfl (lv_at hl 0 rfl) ?_
    replace h := g_bd h
    obtain ⟨r_12, q_12, h⟩ := h
    refine jk_i (jrunV (As := []) (rest := []) J hJ hA hZ hP hD hS (ct_GU_timer l E a0 a1 a2 a3 g0 k0 _ gsz gdp gst gsp vsz vmd vpc vba vbo vre vti vro vha vmem r_12 q_12) [0, 1, 2] rfl (by decide) gl_GU_82 gi_GU_timer gsel_GU_timer gini_GU gc_GU_timer hd_GU_timer ⟨rfl, rfl, Nat.le_of_ble_eq_true rfl, Nat.le_of_ble_eq_true rfl⟩ rfl rfl hl.1 rfl rfl (Nat.le_of_ble_eq_true rfl) d_GU_told_123 ⟨Nat.zero_le _, Nat.zero_le _⟩) hA hP hD hS [0, 1, 2] [3, 4] (WR := [(a2, .inl (E.2.1 0, 8, .inl vreg)), (k0, .inr (1, [.ref k1, .ref k2, .int kold, .int kwai, .int ksnt]))]) rfl rfl (by decide) (by decide) [2, 3, 4, 0, 1] (WF := [(g0, .inr (2, [.ref a0, .int gsz, .int gdp, .int gst, .int gsp])), (a0, .inr (0, [.ref a1, .ref a2, .ref a3, .ref k0, .int vsz, .int vmd, .int vpc, .int vba, .int vbo, .int vre, .int vti, .int vro, .int vha])), (a1, .inl (E.2.1 0, 1844, .inl vmem)), (a2, .inl (E.2.1 0, 8, .inl vreg)), (k0, .inr (1, [.ref k1, .ref k2, .int kold, .int kwai, .int ksnt]))]) rfl (by decide) ?_
    clear hP hD hS
    intro H locs hP hD hS
    cases h
    exact jr_i J hS hP hD rfl d_GU_told_126
  replace h := g_f c_11 h
  by_cases c_13 : (p1) = 5
  · replace h := g_t c_13 h
    refine lv_tableIn (off := 126) (tgt := 127) J.1 J.2.1 d_GU_told_1 (by rw [c_13]; decide) (by rw [c_13]; decide) (by rw [c_13]; rfl) (by decide) ?_
    refine lv_aload_n J.1 J.2.1 d_GU_told_127 rfl (lv_at hl 0 rfl) ?_
    refine jg J hJ hP 0 rfl rfl i_GU 0 (by decide) gf_GU_16 rfl d_GU_told_128 ?_
    refine jgN J hJ hP 1 rfl rfl i_MA 11 (by decide) gn_GU_85 rfl d_GU_told_131 ?_
    refine lv_if_eq (tgt := 141) J.1 J.2.1 d_GU_told_134 (by decide) (fun c_14 => ?_) (fun c_14 => ?_)
    · replace h := g_t c_14 h
      refine lv_iconst (v := 0) J.1 J.2.1 d_GU_told_141 (by decide) ?_
      cases h
      exact jr_i J hS hP hD rfl d_GU_told_142
    · replace h := g_f c_14 h
      refine lv_iconst (v := 1) J.1 J.2.1 d_GU_told_137 (by decide) ?_
      refine lv_goto (tgt := 142) J.1 J.2.1 d_GU_told_138 (by decide) ?_
      cases h
      exact jr_i J hS hP hD rfl d_GU_told_142
  replace h := g_f c_13 h
  by_cases c_15 : (p1) = 6
  · replace h := g_t c_15 h
    refine lv_tableIn (off := 142) (tgt := 143) J.1 J.2.1 d_GU_told_1 (by rw [c_15]; decide) (by rw [c_15]; decide) (by rw [c_15]; rfl) (by decide) ?_
    refine lv_aload_n J.1 J.2.1 d_GU_told_143 rfl (lv_at hl 0 rfl) ?_
    refine jg J hJ hP 0 rfl rfl i_GU 0 (by decide) gf_GU_16 rfl d_GU_told_144 ?_
    refine jgN J hJ hP 1 rfl rfl i_MA 12 (by decide) gn_GU_49 rfl d_GU_told_147 ?_
    refine lv_if_eq (tgt := 157) J.1 J.2.1 d_GU_told_150 (by decide) (fun c_16 => ?_) (fun c_16 => ?_)
    · replace h := g_t c_16 h
      refine lv_iconst (v := 0) J.1 J.2.1 d_GU_told_157 (by decide) ?_
      cases h
      exact jr_i J hS hP hD rfl d_GU_told_158
    · replace h := g_f c_16 h
      refine lv_iconst (v := 1) J.1 J.2.1 d_GU_told_153 (by decide) ?_
      refine lv_goto (tgt := 158) J.1 J.2.1 d_GU_told_154 (by decide) ?_
      cases h
      exact jr_i J hS hP hD rfl d_GU_told_158
  replace h := g_f c_15 h
  by_cases c_17 : (p1) = 7
  · replace h := g_t c_17 h
    refine lv_tableIn (off := 158) (tgt := 159) J.1 J.2.1 d_GU_told_1 (by rw [c_17]; decide) (by rw [c_17]; decide) (by rw [c_17]; rfl) (by decide) ?_
    refine lv_aload_n J.1 J.2.1 d_GU_told_159 rfl (lv_at hl 0 rfl) ?_
    refine jg J hJ hP 0 rfl rfl i_GU 4 (by decide) gf_GU_32 rfl d_GU_told_160 ?_
    cases h
    exact jr_i J hS hP hD rfl d_GU_told_163
  replace h := g_f c_17 h
  by_cases c_18 : (p1) = 8
  · replace h := g_t c_18 h
    refine lv_tableIn (off := 163) (tgt := 164) J.1 J.2.1 d_GU_told_1 (by rw [c_18]; decide) (by rw [c_18]; decide) (by rw [c_18]; rfl) (by decide) ?_
    refine lv_aload_n J.1 J.2.1 d_GU_told_164 rfl (lv_at hl 0 rfl) ?_
    refine jg J hJ hP 0 rfl rfl i_GU 0 (by decide) gf_GU_16 rfl d_GU_told_165 ?_
    refine jgN J hJ hP 1 rfl rfl i_MA 3 (by decide) gn_GU_88 rfl d_GU_told_168 ?_
    refine jgN J hJ hP 4 rfl rfl i_CO 4 (by decide) gn_GU_92 rfl d_GU_told_171 ?_
    cases h
    exact jr_i J hS hP hD rfl d_GU_told_174
  replace h := g_f c_18 h
  by_cases c_19 : (p1) = 9
  · replace h := g_t c_19 h
    refine lv_tableIn (off := 174) (tgt := 175) J.1 J.2.1 d_GU_told_1 (by rw [c_19]; decide) (by rw [c_19]; decide) (by rw [c_19]; rfl) (by decide) ?_
    refine lv_aload_n J.1 J.2.1 d_GU_told_175 rfl (lv_at hl 0 rfl) ?_
    refine jg J hJ hP 0 rfl rfl i_GU 0 (by decide) gf_GU_16 rfl d_GU_told_176 ?_
    refine jgN J hJ hP 1 rfl rfl i_MA 3 (by decide) gn_GU_88 rfl d_GU_told_179 ?_
    refine jgN J hJ hP 4 rfl rfl i_CO 3 (by decide) gn_GU_97 rfl d_GU_told_182 ?_
    cases h
    exact jr_i J hS hP hD rfl d_GU_told_185
  replace h := g_f c_19 h
  by_cases c_20 : (p1) = 10
  · replace h := g_t c_20 h
    refine lv_tableIn (off := 185) (tgt := 186) J.1 J.2.1 d_GU_told_1 (by rw [c_20]; decide) (by rw [c_20]; decide) (by rw [c_20]; rfl) (by decide) ?_
    refine lv_aload_n J.1 J.2.1 d_GU_told_186 rfl (lv_at hl 0 rfl) ?_
    refine jg J hJ hP 0 rfl rfl i_GU 1 (by decide) gf_GU_22 rfl d_GU_told_187 ?_
    cases h
    exact jr_i J hS hP hD rfl d_GU_told_190
  replace h := g_f c_20 h
  by_cases c_21 : (p1) = 11
  · replace h := g_t c_21 h
    refine lv_tableIn (off := 190) (tgt := 191) J.1 J.2.1 d_GU_told_1 (by rw [c_21]; decide) (by rw [c_21]; decide) (by rw [c_21]; rfl) (by decide) ?_
    refine lv_aload_n J.1 J.2.1 d_GU_told_191 rfl (lv_at hl 0 rfl) ?_
    refine jg J hJ hP 0 rfl rfl i_GU 2 (by decide) gf_GU_26 rfl d_GU_told_192 ?_
    cases h
    exact jr_i J hS hP hD rfl d_GU_told_195
  replace h := g_f c_21 h
  refine lv_tableOut (tgt := 196) J.1 J.2.1 d_GU_told_1 (by have e0 := lv_neT c_1 (a := 0) (by decide); have e1 := lv_neT c_3 (a := 1) (by decide); have e2 := lv_neT c_5 (a := 2) (by decide); have e3 := lv_neT c_8 (a := 3) (by decide); have e4 := lv_neT c_11 (a := 4) (by decide); have e5 := lv_neT c_13 (a := 5) (by decide); have e6 := lv_neT c_15 (a := 6) (by decide); have e7 := lv_neT c_17 (a := 7) (by decide); have e8 := lv_neT c_18 (a := 8) (by decide); have e9 := lv_neT c_19 (a := 9) (by decide); have e10 := lv_neT c_20 (a := 10) (by decide); have e11 := lv_neT c_21 (a := 11) (by decide); omega) (by decide) ?_
  refine lv_aload_n J.1 J.2.1 d_GU_told_196 rfl (lv_at hl 0 rfl) ?_
  refine jg J hJ hP 0 rfl rfl i_GU 0 (by decide) gf_GU_16 rfl d_GU_told_197 ?_
  refine lv_iload_n J.1 J.2.1 d_GU_told_200 rfl (lv_at hl 1 rfl) ?_
  refine lv_bipush (v := 20) J.1 J.2.1 d_GU_told_201 (by decide) ?_
  refine lv_isub J.1 J.2.1 d_GU_told_203 ?_
  replace h := g_bd h
  obtain ⟨r_22, q_22, h⟩ := h
  refine jk_i (jrunV (As := [.int (p1 - 20)]) (rest := []) J hJ hA hZ hP hD hS (ct_MA_register l E a0 a1 a2 a3 k0 _ vsz vmd vpc vba vbo vre vti vro vha vreg (p1 - 20) r_22 q_22) [1, 3] rfl (by decide) gl_GU_100 gi_MA_register gsel_MA_register gini_MA gc_MA_register hd_MA_register ⟨rfl, rfl, Nat.le_of_ble_eq_true rfl, Nat.le_of_ble_eq_true rfl⟩ rfl rfl hl.1 rfl rfl (Nat.le_of_ble_eq_true rfl) d_GU_told_204 ⟨Nat.zero_le _, Nat.zero_le _⟩) hA hP hD hS [1, 3] [0, 2, 4] (WR := [(g0, .inr (2, [.ref a0, .int gsz, .int gdp, .int gst, .int gsp])), (a1, .inl (E.2.1 0, 1844, .inl vmem)), (k0, .inr (1, [.ref k1, .ref k2, .int kold, .int kwai, .int ksnt]))]) rfl rfl (by decide) (by decide) [0, 3, 1, 4, 2] (WF := [(g0, .inr (2, [.ref a0, .int gsz, .int gdp, .int gst, .int gsp])), (a0, .inr (0, [.ref a1, .ref a2, .ref a3, .ref k0, .int vsz, .int vmd, .int vpc, .int vba, .int vbo, .int vre, .int vti, .int vro, .int vha])), (a1, .inl (E.2.1 0, 1844, .inl vmem)), (a2, .inl (E.2.1 0, 8, .inl vreg)), (k0, .inr (1, [.ref k1, .ref k2, .int kold, .int kwai, .int ksnt]))]) rfl (by decide) ?_
  clear hP hD hS
  intro H locs hP hD hS
  cases h
  exact jr_i J hS hP hD rfl d_GU_told_207

theorem hd_GU_begin : y_GU_begin.cls ≠ "java/lang/invoke/MethodHandle" ∧ y_GU_begin.cls ≠ "java/lang/invoke/VarHandle" ∧ (parseMethodDescriptor y_GU_begin.desc).map (fun d => d.parameters.length) = some 4 := by decide +kernel
def b_GU_begin_42 : Nat → (Nat → Int32) → Int32 → Int32 → Int32 → Int32 → Int32 → Int32 → Int32 → Int32 → Int32 → Int32 → Int32 → Int32 → Int32 → (Nat → Int32) → (Nat → Int32) → (Nat → Int32) → Int32 → Int32 → Int32 → (Nat → Int32) → (Nat → Int32) → (Nat → Int32) → Int32 → Int32 → Int32 → Option (Int32 × Int32 × Int32 × Int32 × Int32 × Int32 × Int32 × Int32 × Int32 × Int32 × Int32 × Int32 × Int32 × (Nat → Int32) × (Nat → Int32) × (Nat → Int32) × Int32 × Int32 × Int32 × (Nat → Int32))
  | 0, _, _, _, _, _, _, _, _, _, _, _, _, _, _, _, _, _, _, _, _, _, _, _, _, _, _ => none
  | n + 1, wW, gsz, gdp, gst, gsp, vsz, vmd, vpc, vba, vbo, vre, vti, vro, vha, vmem, vreg, vblk, kold, kwai, ksnt, ktyp, ksen, uf, x2, x4, x5 => (if x4 ≤ x5 then ((f_MA_copyIn 1024 vsz vmem uf x2 gst).bind fun vmem_2 => ((f_GU_awaitTurn gdp vsz vmd vpc vba vbo vre vti vro vha vmem_2 vreg vblk kold kwai ksnt ktyp ksen).bind fun (vmd_3, vpc_3, vba_3, vbo_3, vre_3, vti_3, vro_3, vha_3, vmem_3, vreg_3, vblk_3, kold_3, kwai_3, ksnt_3, ksen_3) => (some (gsz, gdp, gst, gsp, vsz, vmd_3, vpc_3, vba_3, vbo_3, vre_3, vti_3, vro_3, vha_3, vmem_3, vreg_3, vblk_3, kold_3, kwai_3, ksnt_3, ksen_3)))) else ((f_MA_copyIns wW vsz vmem 410 (x5 * 410)).bind fun vmem_4 => b_GU_begin_42 n wW gsz gdp gst gsp vsz vmd vpc vba vbo vre vti vro vha vmem_4 vreg vblk kold kwai ksnt ktyp ksen uf x2 x4 (x5 + 1)))
def f_GU_begin (wW : Nat → Int32) (vmem : Nat → Int32) (vreg : Nat → Int32) (vblk : Nat → Int32) (ktyp : Nat → Int32) (ksen : Nat → Int32) (uf : Nat → Int32) (p2 : Int32) (p3 : Int32) (p4 : Int32) : Option (Int32 × Int32 × Int32 × Int32 × Int32 × Int32 × Int32 × Int32 × Int32 × Int32 × Int32 × Int32 × Int32 × (Nat → Int32) × (Nat → Int32) × (Nat → Int32) × Int32 × Int32 × Int32 × (Nat → Int32)) := ((f_MA_clear vmem vreg vblk ((p4 * 410) + p3)).bind fun (vsz_5, vmd_5, vpc_5, vba_5, vbo_5, vre_5, vti_5, vro_5, vha_5, vmem_5, vreg_5, vblk_5, kold_5, kwai_5, ksnt_5) => b_GU_begin_42 65536 wW p3 p4 (p4 * 410) 0 vsz_5 vmd_5 vpc_5 vba_5 vbo_5 vre_5 vti_5 vro_5 vha_5 vmem_5 vreg_5 vblk_5 kold_5 kwai_5 ksnt_5 ktyp ksen uf p2 p4 0)
set_option maxHeartbeats 4000000 in
set_option maxRecDepth 100000 in
theorem ct_GU_begin (l : Launch) (E : jz_E) (a0 a1 a2 a3 g0 k0 k1 k2 u0 w9 : Nat) (sz : Nat) (wW : Nat → Int32) (gsz : Int32) (gdp : Int32) (gst : Int32) (gsp : Int32) (vsz : Int32) (vmd : Int32) (vpc : Int32) (vba : Int32) (vbo : Int32) (vre : Int32) (vti : Int32) (vro : Int32) (vha : Int32) (vmem : Nat → Int32) (vreg : Nat → Int32) (vblk : Nat → Int32) (kold : Int32) (kwai : Int32) (ksnt : Int32) (ktyp : Nat → Int32) (ksen : Nat → Int32) (uf : Nat → Int32) (p2 : Int32) (p3 : Int32) (p4 : Int32) (o_gsz : Int32) (o_gdp : Int32) (o_gst : Int32) (o_gsp : Int32) (o_vsz : Int32) (o_vmd : Int32) (o_vpc : Int32) (o_vba : Int32) (o_vbo : Int32) (o_vre : Int32) (o_vti : Int32) (o_vro : Int32) (o_vha : Int32) (o_vmem : Nat → Int32) (o_vreg : Nat → Int32) (o_vblk : Nat → Int32) (o_kold : Int32) (o_kwai : Int32) (o_ksnt : Int32) (o_ksen : Nat → Int32)  (hzW : (R_MO, "WORDS", "[I", Value.ref w9) ∈ E.2.2.1) (htW : (w9, 410, wW) ∈ E.2.2.2.1) (h : f_GU_begin wW vmem vreg vblk ktyp ksen uf p2 p3 p4 = some (o_gsz, o_gdp, o_gst, o_gsp, o_vsz, o_vmd, o_vpc, o_vba, o_vbo, o_vre, o_vti, o_vro, o_vha, o_vmem, o_vreg, o_vblk, o_kold, o_kwai, o_ksnt, o_ksen)) : CTv l E y_GU_begin c_GU_begin 6 none ({ frames := 5, cells := 0, slots := 0, locals := 175 }) [.ref g0, .ref u0, .int p2, .int p3, .int p4] [(g0, .inr (2, [.ref a0, .int gsz, .int gdp, .int gst, .int gsp])), (a0, .inr (0, [.ref a1, .ref a2, .ref a3, .ref k0, .int vsz, .int vmd, .int vpc, .int vba, .int vbo, .int vre, .int vti, .int vro, .int vha])), (a1, .inl (E.2.1 0, 1844, .inl vmem)), (a2, .inl (E.2.1 0, 8, .inl vreg)), (a3, .inl (E.2.1 0, 128, .inl vblk)), (k0, .inr (1, [.ref k1, .ref k2, .int kold, .int kwai, .int ksnt])), (k1, .inl (E.2.1 0, 100, .inl ktyp)), (k2, .inl (E.2.1 0, 500, .inl ksen)), (u0, .inl (E.2.1 0, 1024, .inl uf))] sz [(g0, .inr (2, [.ref a0, .int o_gsz, .int o_gdp, .int o_gst, .int o_gsp])), (a0, .inr (0, [.ref a1, .ref a2, .ref a3, .ref k0, .int o_vsz, .int o_vmd, .int o_vpc, .int o_vba, .int o_vbo, .int o_vre, .int o_vti, .int o_vro, .int o_vha])), (a1, .inl (E.2.1 0, 1844, .inl o_vmem)), (a2, .inl (E.2.1 0, 8, .inl o_vreg)), (a3, .inl (E.2.1 0, 128, .inl o_vblk)), (k0, .inr (1, [.ref k1, .ref k2, .int o_kold, .int o_kwai, .int o_ksnt])), (k1, .inl (E.2.1 0, 100, .inl ktyp)), (k2, .inl (E.2.1 0, 500, .inl o_ksen)), (u0, .inl (E.2.1 0, 1024, .inl uf))] := by
  refine jw (by decide +kernel) (Nat.le_of_ble_eq_true rfl) ?_
  intro p e s m below meth c A ls J hJ hAe hsz hA hZ hP hD hl
  rw [← hAe]
  have hS : va_S A s.heap s.heap [] := va_S.rf
  have hl : lv_has ls 6 [(0, .ref g0), (1, .ref u0), (2, .int p2), (3, .int p3), (4, .int p4)] := hl
  have K_42 : ∀ (n : Nat) (gsz : Int32) (gdp : Int32) (gst : Int32) (gsp : Int32) (vsz : Int32) (vmd : Int32) (vpc : Int32) (vba : Int32) (vbo : Int32) (vre : Int32) (vti : Int32) (vro : Int32) (vha : Int32) (vmem : Nat → Int32) (vreg : Nat → Int32) (vblk : Nat → Int32) (kold : Int32) (kwai : Int32) (ksnt : Int32) (ktyp : Nat → Int32) (ksen : Nat → Int32) (uf : Nat → Int32) (x2 : Int32) (x4 : Int32) (x5 : Int32) (H : Heap) (locs : List Loc) (ls : Array Slot), b_GU_begin_42 n wW gsz gdp gst gsp vsz vmd vpc vba vbo vre vti vro vha vmem vreg vblk kold kwai ksnt ktyp ksen uf x2 x4 x5 = some (o_gsz, o_gdp, o_gst, o_gsp, o_vsz, o_vmd, o_vpc, o_vba, o_vbo, o_vre, o_vti, o_vro, o_vha, o_vmem, o_vreg, o_vblk, o_kold, o_kwai, o_ksnt, o_ksen) → va_P E.1 classes [(g0, .inr (2, [.ref a0, .int gsz, .int gdp, .int gst, .int gsp])), (a0, .inr (0, [.ref a1, .ref a2, .ref a3, .ref k0, .int vsz, .int vmd, .int vpc, .int vba, .int vbo, .int vre, .int vti, .int vro, .int vha])), (a1, .inl (E.2.1 0, 1844, .inl vmem)), (a2, .inl (E.2.1 0, 8, .inl vreg)), (a3, .inl (E.2.1 0, 128, .inl vblk)), (k0, .inr (1, [.ref k1, .ref k2, .int kold, .int kwai, .int ksnt])), (k1, .inl (E.2.1 0, 100, .inl ktyp)), (k2, .inl (E.2.1 0, 500, .inl ksen)), (u0, .inl (E.2.1 0, 1024, .inl uf))] H → va_D A [(g0, .inr (2, [.ref a0, .int gsz, .int gdp, .int gst, .int gsp])), (a0, .inr (0, [.ref a1, .ref a2, .ref a3, .ref k0, .int vsz, .int vmd, .int vpc, .int vba, .int vbo, .int vre, .int vti, .int vro, .int vha])), (a1, .inl (E.2.1 0, 1844, .inl vmem)), (a2, .inl (E.2.1 0, 8, .inl vreg)), (a3, .inl (E.2.1 0, 128, .inl vblk)), (k0, .inr (1, [.ref k1, .ref k2, .int kold, .int kwai, .int ksnt])), (k1, .inl (E.2.1 0, 100, .inl ktyp)), (k2, .inl (E.2.1 0, 500, .inl ksen)), (u0, .inl (E.2.1 0, 1024, .inl uf))] → va_S A s.heap H locs → lv_has ls 6 [(0, .ref g0), (1, .ref u0), (2, .int x2), (4, .int x4), (5, .int x5)] → W p l e ({ frames := 5, cells := 0, slots := 0, locals := 175 }) s m ([.ref g0, .ref u0, .int p2, .int p3, .int p4] : List Value).toArray below meth c H locs 0 0 (MQ below (va_Qv (fun (u : va_W) => u = [(g0, .inr (2, [.ref a0, .int o_gsz, .int o_gdp, .int o_gst, .int o_gsp])), (a0, .inr (0, [.ref a1, .ref a2, .ref a3, .ref k0, .int o_vsz, .int o_vmd, .int o_vpc, .int o_vba, .int o_vbo, .int o_vre, .int o_vti, .int o_vro, .int o_vha])), (a1, .inl (E.2.1 0, 1844, .inl o_vmem)), (a2, .inl (E.2.1 0, 8, .inl o_vreg)), (a3, .inl (E.2.1 0, 128, .inl o_vblk)), (k0, .inr (1, [.ref k1, .ref k2, .int o_kold, .int o_kwai, .int o_ksnt])), (k1, .inl (E.2.1 0, 100, .inl ktyp)), (k2, .inl (E.2.1 0, 500, .inl o_ksen)), (u0, .inl (E.2.1 0, 1024, .inl uf))]) (BW E A) A) ([.ref g0, .ref u0, .int p2, .int p3, .int p4] : List Value).toArray s 0 0 A) (F0 m 42 ls []) := by
    intro n
    induction n with
    | zero => intro gsz gdp gst gsp vsz vmd vpc vba vbo vre vti vro vha vmem vreg vblk kold kwai ksnt ktyp ksen uf x2 x4 x5 H locs ls h; cases h
    | succ n ih =>
      intro gsz gdp gst gsp vsz vmd vpc vba vbo vre vti vro vha vmem vreg vblk kold kwai ksnt ktyp ksen uf x2 x4 x5 H locs ls h hP hD hS hl
      rw [b_GU_begin_42] at h
      refine lv_iload J.1 J.2.1 d_GU_begin_42 (lv_at hl 4 rfl) ?_
      refine lv_iload J.1 J.2.1 d_GU_begin_44 (lv_at hl 3 rfl) ?_
      refine lv_icmp_ge (tgt := 74) J.1 J.2.1 d_GU_begin_46 (by decide) (fun c_1 => ?_) (fun c_1 => ?_)
      · replace h := g_t c_1 h
        refine lv_aload_n J.1 J.2.1 d_GU_begin_74 rfl (lv_at hl 0 rfl) ?_
        refine jg J hJ hP 0 rfl rfl i_GU 0 (by decide) gf_GU_16 rfl d_GU_begin_75 ?_
        refine lv_aload_n J.1 J.2.1 d_GU_begin_78 rfl (lv_at hl 1 rfl) ?_
        refine lv_iload_n J.1 J.2.1 d_GU_begin_79 rfl (lv_at hl 2 rfl) ?_
        refine lv_aload_n J.1 J.2.1 d_GU_begin_80 rfl (lv_at hl 0 rfl) ?_
        refine jg J hJ hP 0 rfl rfl i_GU 3 (by decide) gf_GU_29 rfl d_GU_begin_81 ?_
        replace h := g_bd h
        obtain ⟨vmem_2, q_2, h⟩ := h
        refine jk_v (jrunV (As := [.ref u0, .int x2, .int gst]) (rest := []) J hJ hA hZ hP hD hS (ct_MA_copyIn l E a0 a1 a2 a3 k0 u0 _ 1024 vsz vmd vpc vba vbo vre vti vro vha vmem uf x2 gst vmem_2 q_2) [1, 2, 8] rfl (by decide) gl_GU_42 gi_MA_copyIn gsel_MA_copyIn gini_MA gc_MA_copyIn hd_MA_copyIn ⟨rfl, rfl, Nat.le_of_ble_eq_true rfl, Nat.le_of_ble_eq_true rfl⟩ rfl rfl hl.1 rfl rfl (Nat.le_of_ble_eq_true rfl) d_GU_begin_84 ⟨Nat.zero_le _, Nat.zero_le _⟩) hA hP hD hS [1, 2, 8] [0, 3, 4, 5, 6, 7] (WR := [(g0, .inr (2, [.ref a0, .int gsz, .int gdp, .int gst, .int gsp])), (a2, .inl (E.2.1 0, 8, .inl vreg)), (a3, .inl (E.2.1 0, 128, .inl vblk)), (k0, .inr (1, [.ref k1, .ref k2, .int kold, .int kwai, .int ksnt])), (k1, .inl (E.2.1 0, 100, .inl ktyp)), (k2, .inl (E.2.1 0, 500, .inl ksen))]) rfl rfl (by decide) (by decide) [0, 6, 7, 1, 2, 3, 4, 5, 8] (WF := [(g0, .inr (2, [.ref a0, .int gsz, .int gdp, .int gst, .int gsp])), (a0, .inr (0, [.ref a1, .ref a2, .ref a3, .ref k0, .int vsz, .int vmd, .int vpc, .int vba, .int vbo, .int vre, .int vti, .int vro, .int vha])), (a1, .inl (E.2.1 0, 1844, .inl vmem_2)), (a2, .inl (E.2.1 0, 8, .inl vreg)), (a3, .inl (E.2.1 0, 128, .inl vblk)), (k0, .inr (1, [.ref k1, .ref k2, .int kold, .int kwai, .int ksnt])), (k1, .inl (E.2.1 0, 100, .inl ktyp)), (k2, .inl (E.2.1 0, 500, .inl ksen)), (u0, .inl (E.2.1 0, 1024, .inl uf))]) rfl (by decide) ?_
        clear hP hD hS
        intro H locs hP hD hS
        refine lv_aload_n J.1 J.2.1 d_GU_begin_87 rfl (lv_at hl 0 rfl) ?_
        replace h := g_bd h
        obtain ⟨⟨vmd_3, vpc_3, vba_3, vbo_3, vre_3, vti_3, vro_3, vha_3, vmem_3, vreg_3, vblk_3, kold_3, kwai_3, ksnt_3, ksen_3⟩, q_3, h⟩ := h
        try dsimp only at h
        refine jk_v (jrunV (As := []) (rest := []) J hJ hA hZ hP hD hS (ct_GU_awaitTurn l E a0 a1 a2 a3 g0 k0 k1 k2 _ gsz gdp gst gsp vsz vmd vpc vba vbo vre vti vro vha vmem_2 vreg vblk kold kwai ksnt ktyp ksen vmd_3 vpc_3 vba_3 vbo_3 vre_3 vti_3 vro_3 vha_3 vmem_3 vreg_3 vblk_3 kold_3 kwai_3 ksnt_3 ksen_3 q_3) [0, 1, 2, 3, 4, 5, 6, 7] rfl (by decide) gl_GU_46 gi_GU_awaitTurn gsel_GU_awaitTurn gini_GU gc_GU_awaitTurn hd_GU_awaitTurn ⟨rfl, rfl, Nat.le_of_ble_eq_true rfl, Nat.le_of_ble_eq_true rfl⟩ rfl rfl hl.1 rfl rfl (Nat.le_of_ble_eq_true rfl) d_GU_begin_88 ⟨Nat.zero_le _, Nat.zero_le _⟩) hA hP hD hS [0, 1, 2, 3, 4, 5, 6, 7] [8] (WR := [(u0, .inl (E.2.1 0, 1024, .inl uf))]) rfl rfl (by decide) (by decide) [1, 2, 3, 4, 5, 6, 7, 8, 0] (WF := [(g0, .inr (2, [.ref a0, .int gsz, .int gdp, .int gst, .int gsp])), (a0, .inr (0, [.ref a1, .ref a2, .ref a3, .ref k0, .int vsz, .int vmd_3, .int vpc_3, .int vba_3, .int vbo_3, .int vre_3, .int vti_3, .int vro_3, .int vha_3])), (a1, .inl (E.2.1 0, 1844, .inl vmem_3)), (a2, .inl (E.2.1 0, 8, .inl vreg_3)), (a3, .inl (E.2.1 0, 128, .inl vblk_3)), (k0, .inr (1, [.ref k1, .ref k2, .int kold_3, .int kwai_3, .int ksnt_3])), (k1, .inl (E.2.1 0, 100, .inl ktyp)), (k2, .inl (E.2.1 0, 500, .inl ksen_3)), (u0, .inl (E.2.1 0, 1024, .inl uf))]) rfl (by decide) ?_
        clear hP hD hS
        intro H locs hP hD hS
        cases h
        exact jr_v J hS hP hD d_GU_begin_91
      · replace h := g_f c_1 h
        refine lv_aload_n J.1 J.2.1 d_GU_begin_49 rfl (lv_at hl 0 rfl) ?_
        refine jg J hJ hP 0 rfl rfl i_GU 0 (by decide) gf_GU_16 rfl d_GU_begin_50 ?_
        refine va_getsN J.1 J.2.1 (hZ.1 _ hzW) hS J.2.2.2.2.1 (va_Nw.use (isFN_on (nw_fn _ gn_GU_38)) (hJ.2 _ gn_GU_38)) (fun _ h => h) d_GU_begin_53 ?_
        refine lv_sipush (v := 410) J.1 J.2.1 d_GU_begin_56 (by decide) ?_
        refine lv_iload J.1 J.2.1 d_GU_begin_59 (lv_at hl 4 rfl) ?_
        refine lv_sipush (v := 410) J.1 J.2.1 d_GU_begin_61 (by decide) ?_
        refine lv_imul J.1 J.2.1 d_GU_begin_64 ?_
        replace h := g_bd h
        obtain ⟨vmem_4, q_4, h⟩ := h
        refine jk_v (jrunV (As := [.ref w9, .int 410, .int (x5 * 410)]) (rest := []) J hJ hA hZ hP hD hS (ct_MA_copyIns l E a0 a1 a2 a3 k0 w9 _ wW vsz vmd vpc vba vbo vre vti vro vha vmem 410 (x5 * 410) vmem_4 htW q_4) [1, 2] rfl (by decide) gl_GU_42 gi_MA_copyIn gsel_MA_copyIn gini_MA gc_MA_copyIn hd_MA_copyIn ⟨rfl, rfl, Nat.le_of_ble_eq_true rfl, Nat.le_of_ble_eq_true rfl⟩ rfl rfl hl.1 rfl rfl (Nat.le_of_ble_eq_true rfl) d_GU_begin_65 ⟨Nat.zero_le _, Nat.zero_le _⟩) hA hP hD hS [1, 2] [0, 3, 4, 5, 6, 7, 8] (WR := [(g0, .inr (2, [.ref a0, .int gsz, .int gdp, .int gst, .int gsp])), (a2, .inl (E.2.1 0, 8, .inl vreg)), (a3, .inl (E.2.1 0, 128, .inl vblk)), (k0, .inr (1, [.ref k1, .ref k2, .int kold, .int kwai, .int ksnt])), (k1, .inl (E.2.1 0, 100, .inl ktyp)), (k2, .inl (E.2.1 0, 500, .inl ksen)), (u0, .inl (E.2.1 0, 1024, .inl uf))]) rfl rfl (by decide) (by decide) [0, 7, 8, 1, 2, 3, 4, 5, 6] (WF := [(g0, .inr (2, [.ref a0, .int gsz, .int gdp, .int gst, .int gsp])), (a0, .inr (0, [.ref a1, .ref a2, .ref a3, .ref k0, .int vsz, .int vmd, .int vpc, .int vba, .int vbo, .int vre, .int vti, .int vro, .int vha])), (a1, .inl (E.2.1 0, 1844, .inl vmem_4)), (a2, .inl (E.2.1 0, 8, .inl vreg)), (a3, .inl (E.2.1 0, 128, .inl vblk)), (k0, .inr (1, [.ref k1, .ref k2, .int kold, .int kwai, .int ksnt])), (k1, .inl (E.2.1 0, 100, .inl ktyp)), (k2, .inl (E.2.1 0, 500, .inl ksen)), (u0, .inl (E.2.1 0, 1024, .inl uf))]) rfl (by decide) ?_
        clear hP hD hS
        intro H locs hP hD hS
        refine lv_iinc (v := (x5 + 1)) (lv' := [(5, .int (x5 + 1)), (0, .ref g0), (1, .ref u0), (2, .int x2), (4, .int x4)]) J.1 J.2.1 d_GU_begin_68 hl (k := 4) rfl rfl (by decide) rfl ?_
        clear hl
        intro ls hl
        refine lv_goto (tgt := 42) J.1 J.2.1 d_GU_begin_71 (by decide) ?_
        exact ih _ _ _ _ _ _ _ _ _ _ _ _ _ _ _ _ _ _ _ _ _ _ _ _ _ _ _ _ h hP hD hS (lv_sub hl [1, 2, 3, 4, 0] rfl)
  unfold f_GU_begin at h
  refine lv_aload_n J.1 J.2.1 d_GU_begin_0 rfl (lv_at hl 0 rfl) ?_
  refine lv_iload_n J.1 J.2.1 d_GU_begin_1 rfl (lv_at hl 3 rfl) ?_
  refine jp J hJ hP hD hS 0 rfl rfl i_GU t_GU t_GU_ok n_GU 1 (by decide) gf_GU_22 rfl rfl rfl (Nat.le_of_ble_eq_true rfl) d_GU_begin_2 (WS' := [(g0, .inr (2, [.ref a0, .int p3, .int gdp, .int gst, .int gsp])), (a0, .inr (0, [.ref a1, .ref a2, .ref a3, .ref k0, .int vsz, .int vmd, .int vpc, .int vba, .int vbo, .int vre, .int vti, .int vro, .int vha])), (a1, .inl (E.2.1 0, 1844, .inl vmem)), (a2, .inl (E.2.1 0, 8, .inl vreg)), (a3, .inl (E.2.1 0, 128, .inl vblk)), (k0, .inr (1, [.ref k1, .ref k2, .int kold, .int kwai, .int ksnt])), (k1, .inl (E.2.1 0, 100, .inl ktyp)), (k2, .inl (E.2.1 0, 500, .inl ksen)), (u0, .inl (E.2.1 0, 1024, .inl uf))]) rfl ?_
  clear hP hD hS
  intro H locs hP hD hS
  refine lv_aload_n J.1 J.2.1 d_GU_begin_5 rfl (lv_at hl 0 rfl) ?_
  refine lv_iload J.1 J.2.1 d_GU_begin_6 (lv_at hl 4 rfl) ?_
  refine jp J hJ hP hD hS 0 rfl rfl i_GU t_GU t_GU_ok n_GU 2 (by decide) gf_GU_26 rfl rfl rfl (Nat.le_of_ble_eq_true rfl) d_GU_begin_8 (WS' := [(g0, .inr (2, [.ref a0, .int p3, .int p4, .int gst, .int gsp])), (a0, .inr (0, [.ref a1, .ref a2, .ref a3, .ref k0, .int vsz, .int vmd, .int vpc, .int vba, .int vbo, .int vre, .int vti, .int vro, .int vha])), (a1, .inl (E.2.1 0, 1844, .inl vmem)), (a2, .inl (E.2.1 0, 8, .inl vreg)), (a3, .inl (E.2.1 0, 128, .inl vblk)), (k0, .inr (1, [.ref k1, .ref k2, .int kold, .int kwai, .int ksnt])), (k1, .inl (E.2.1 0, 100, .inl ktyp)), (k2, .inl (E.2.1 0, 500, .inl ksen)), (u0, .inl (E.2.1 0, 1024, .inl uf))]) rfl ?_
  clear hP hD hS
  intro H locs hP hD hS
  refine lv_aload_n J.1 J.2.1 d_GU_begin_11 rfl (lv_at hl 0 rfl) ?_
  refine lv_iload J.1 J.2.1 d_GU_begin_12 (lv_at hl 4 rfl) ?_
  refine lv_sipush (v := 410) J.1 J.2.1 d_GU_begin_14 (by decide) ?_
  refine lv_imul J.1 J.2.1 d_GU_begin_17 ?_
  refine jp J hJ hP hD hS 0 rfl rfl i_GU t_GU t_GU_ok n_GU 3 (by decide) gf_GU_29 rfl rfl rfl (Nat.le_of_ble_eq_true rfl) d_GU_begin_18 (WS' := [(g0, .inr (2, [.ref a0, .int p3, .int p4, .int (p4 * 410), .int gsp])), (a0, .inr (0, [.ref a1, .ref a2, .ref a3, .ref k0, .int vsz, .int vmd, .int vpc, .int vba, .int vbo, .int vre, .int vti, .int vro, .int vha])), (a1, .inl (E.2.1 0, 1844, .inl vmem)), (a2, .inl (E.2.1 0, 8, .inl vreg)), (a3, .inl (E.2.1 0, 128, .inl vblk)), (k0, .inr (1, [.ref k1, .ref k2, .int kold, .int kwai, .int ksnt])), (k1, .inl (E.2.1 0, 100, .inl ktyp)), (k2, .inl (E.2.1 0, 500, .inl ksen)), (u0, .inl (E.2.1 0, 1024, .inl uf))]) rfl ?_
  clear hP hD hS
  intro H locs hP hD hS
  refine lv_aload_n J.1 J.2.1 d_GU_begin_21 rfl (lv_at hl 0 rfl) ?_
  refine lv_iconst (v := 0) J.1 J.2.1 d_GU_begin_22 (by decide) ?_
  refine jp J hJ hP hD hS 0 rfl rfl i_GU t_GU t_GU_ok n_GU 4 (by decide) gf_GU_32 rfl rfl rfl (Nat.le_of_ble_eq_true rfl) d_GU_begin_23 (WS' := [(g0, .inr (2, [.ref a0, .int p3, .int p4, .int (p4 * 410), .int 0])), (a0, .inr (0, [.ref a1, .ref a2, .ref a3, .ref k0, .int vsz, .int vmd, .int vpc, .int vba, .int vbo, .int vre, .int vti, .int vro, .int vha])), (a1, .inl (E.2.1 0, 1844, .inl vmem)), (a2, .inl (E.2.1 0, 8, .inl vreg)), (a3, .inl (E.2.1 0, 128, .inl vblk)), (k0, .inr (1, [.ref k1, .ref k2, .int kold, .int kwai, .int ksnt])), (k1, .inl (E.2.1 0, 100, .inl ktyp)), (k2, .inl (E.2.1 0, 500, .inl ksen)), (u0, .inl (E.2.1 0, 1024, .inl uf))]) rfl ?_
  clear hP hD hS
  intro H locs hP hD hS
  refine lv_aload_n J.1 J.2.1 d_GU_begin_26 rfl (lv_at hl 0 rfl) ?_
  refine jg J hJ hP 0 rfl rfl i_GU 0 (by decide) gf_GU_16 rfl d_GU_begin_27 ?_
  refine lv_aload_n J.1 J.2.1 d_GU_begin_30 rfl (lv_at hl 0 rfl) ?_
  refine jg J hJ hP 0 rfl rfl i_GU 3 (by decide) gf_GU_29 rfl d_GU_begin_31 ?_
  refine lv_iload_n J.1 J.2.1 d_GU_begin_34 rfl (lv_at hl 3 rfl) ?_
  refine lv_iadd J.1 J.2.1 d_GU_begin_35 ?_
  replace h := g_bd h
  obtain ⟨⟨vsz_5, vmd_5, vpc_5, vba_5, vbo_5, vre_5, vti_5, vro_5, vha_5, vmem_5, vreg_5, vblk_5, kold_5, kwai_5, ksnt_5⟩, q_5, h⟩ := h
  try dsimp only at h
  refine jk_v (jrunV (As := [.int ((p4 * 410) + p3)]) (rest := []) J hJ hA hZ hP hD hS (ct_MA_clear l E a0 a1 a2 a3 k0 k1 k2 _ vsz vmd vpc vba vbo vre vti vro vha vmem vreg vblk kold kwai ksnt ((p4 * 410) + p3) vsz_5 vmd_5 vpc_5 vba_5 vbo_5 vre_5 vti_5 vro_5 vha_5 vmem_5 vreg_5 vblk_5 kold_5 kwai_5 ksnt_5 q_5) [1, 2, 3, 4, 5] rfl (by decide) gl_GU_35 gi_MA_clear gsel_MA_clear gini_MA gc_MA_clear hd_MA_clear ⟨rfl, rfl, Nat.le_of_ble_eq_true rfl, Nat.le_of_ble_eq_true rfl⟩ rfl rfl hl.1 rfl rfl (Nat.le_of_ble_eq_true rfl) d_GU_begin_36 ⟨Nat.zero_le _, Nat.zero_le _⟩) hA hP hD hS [1, 2, 3, 4, 5] [0, 6, 7, 8] (WR := [(g0, .inr (2, [.ref a0, .int p3, .int p4, .int (p4 * 410), .int 0])), (k1, .inl (E.2.1 0, 100, .inl ktyp)), (k2, .inl (E.2.1 0, 500, .inl ksen)), (u0, .inl (E.2.1 0, 1024, .inl uf))]) rfl rfl (by decide) (by decide) [0, 4, 5, 6, 7, 8, 1, 2, 3] (WF := [(g0, .inr (2, [.ref a0, .int p3, .int p4, .int (p4 * 410), .int 0])), (a0, .inr (0, [.ref a1, .ref a2, .ref a3, .ref k0, .int vsz_5, .int vmd_5, .int vpc_5, .int vba_5, .int vbo_5, .int vre_5, .int vti_5, .int vro_5, .int vha_5])), (a1, .inl (E.2.1 0, 1844, .inl vmem_5)), (a2, .inl (E.2.1 0, 8, .inl vreg_5)), (a3, .inl (E.2.1 0, 128, .inl vblk_5)), (k0, .inr (1, [.ref k1, .ref k2, .int kold_5, .int kwai_5, .int ksnt_5])), (k1, .inl (E.2.1 0, 100, .inl ktyp)), (k2, .inl (E.2.1 0, 500, .inl ksen)), (u0, .inl (E.2.1 0, 1024, .inl uf))]) rfl (by decide) ?_
  clear hP hD hS
  intro H locs hP hD hS
  refine lv_iconst (v := 0) J.1 J.2.1 d_GU_begin_39 (by decide) ?_
  refine lv_istore (lv' := [(5, .int 0), (0, .ref g0), (1, .ref u0), (2, .int p2), (3, .int p3), (4, .int p4)]) J.1 J.2.1 d_GU_begin_40 hl (by decide) rfl ?_
  clear hl
  intro ls hl
  exact K_42 _ _ _ _ _ _ _ _ _ _ _ _ _ _ _ _ _ _ _ _ _ _ _ _ _ _ _ _ _ h hP hD hS (lv_sub hl [1, 2, 3, 5, 0] rfl)
end
section
/-! THE ONE TEXT: String.charAt on it -/
theorem dj_c0 : decode c_JS_charAt 0 = .ok (.aload_n 0, 1) := by decide +kernel
theorem dj_c1 : decode c_JS_charAt 1 = .ok (.invokevirtual 492, 3) := by decide +kernel
theorem dj_c4 : decode c_JS_charAt 4 = .ok (.ifCond .eq 12, 3) := by decide +kernel
theorem dj_c7 : decode c_JS_charAt 7 = .ok (.aload_n 0, 1) := by decide +kernel
theorem dj_c8 : decode c_JS_charAt 8 = .ok (.getfield 9, 3) := by decide +kernel
theorem dj_c11 : decode c_JS_charAt 11 = .ok (.iload_n 1, 1) := by decide +kernel
theorem dj_c12 : decode c_JS_charAt 12 = .ok (.invokestatic 495, 3) := by decide +kernel
theorem dj_c15 : decode c_JS_charAt 15 = .ok (.ireturn, 1) := by decide +kernel
theorem dj_l0 : decode c_JS_isLatin1 0 = .ok (.getstatic 38, 3) := by decide +kernel
theorem dj_l3 : decode c_JS_isLatin1 3 = .ok (.ifCond .eq 14, 3) := by decide +kernel
theorem dj_l6 : decode c_JS_isLatin1 6 = .ok (.aload_n 0, 1) := by decide +kernel
theorem dj_l7 : decode c_JS_isLatin1 7 = .ok (.getfield 15, 3) := by decide +kernel
theorem dj_l10 : decode c_JS_isLatin1 10 = .ok (.ifCond .ne 7, 3) := by decide +kernel
theorem dj_l13 : decode c_JS_isLatin1 13 = .ok (.iconst 1, 1) := by decide +kernel
theorem dj_l14 : decode c_JS_isLatin1 14 = .ok (.goto 4, 3) := by decide +kernel
theorem dj_l18 : decode c_JS_isLatin1 18 = .ok (.ireturn, 1) := by decide +kernel
theorem dj_x0 : decode c_JS_checkIndex 0 = .ok (.iload_n 0, 1) := by decide +kernel
theorem dj_x1 : decode c_JS_checkIndex 1 = .ok (.iload_n 1, 1) := by decide +kernel
theorem dj_x2 : decode c_JS_checkIndex 2 = .ok (.getstatic 1053, 3) := by decide +kernel
theorem dj_x5 : decode c_JS_checkIndex 5 = .ok (.invokestatic 1059, 3) := by decide +kernel
theorem dj_x8 : decode c_JS_checkIndex 8 = .ok (.pop, 1) := by decide +kernel
theorem dj_x9 : decode c_JS_checkIndex 9 = .ok (.return_, 1) := by decide +kernel
theorem dj_t0 : decode c_JL_charAt 0 = .ok (.iload_n 1, 1) := by decide +kernel
theorem dj_t1 : decode c_JL_charAt 1 = .ok (.aload_n 0, 1) := by decide +kernel
theorem dj_t2 : decode c_JL_charAt 2 = .ok (.arraylength, 1) := by decide +kernel
theorem dj_t3 : decode c_JL_charAt 3 = .ok (.invokestatic 9, 3) := by decide +kernel
theorem dj_t6 : decode c_JL_charAt 6 = .ok (.aload_n 0, 1) := by decide +kernel
theorem dj_t7 : decode c_JL_charAt 7 = .ok (.iload_n 1, 1) := by decide +kernel
theorem dj_t8 : decode c_JL_charAt 8 = .ok (.baload, 1) := by decide +kernel
theorem dj_t9 : decode c_JL_charAt 9 = .ok (.sipush 255, 3) := by decide +kernel
theorem dj_t12 : decode c_JL_charAt 12 = .ok (.iand, 1) := by decide +kernel
theorem dj_t13 : decode c_JL_charAt 13 = .ok (.i2c, 1) := by decide +kernel
theorem dj_t14 : decode c_JL_charAt 14 = .ok (.ireturn, 1) := by decide +kernel
theorem dj_p0 : decode c_JP_checkIndex 0 = .ok (.iload_n 0, 1) := by decide +kernel
theorem dj_p1 : decode c_JP_checkIndex 1 = .ok (.ifCond .lt 8, 3) := by decide +kernel
theorem dj_p4 : decode c_JP_checkIndex 4 = .ok (.iload_n 0, 1) := by decide +kernel
theorem dj_p5 : decode c_JP_checkIndex 5 = .ok (.iload_n 1, 1) := by decide +kernel
theorem dj_p6 : decode c_JP_checkIndex 6 = .ok (.if_icmp .lt 10, 3) := by decide +kernel
theorem dj_p16 : decode c_JP_checkIndex 16 = .ok (.iload_n 0, 1) := by decide +kernel
theorem dj_p17 : decode c_JP_checkIndex 17 = .ok (.ireturn, 1) := by decide +kernel
theorem hd_JS_charAt : y_JS_charAt.cls ≠ "java/lang/invoke/MethodHandle" ∧ y_JS_charAt.cls ≠ "java/lang/invoke/VarHandle" ∧ (parseMethodDescriptor y_JS_charAt.desc).map (fun d => d.parameters.length) = some 1 := by decide +kernel
theorem hd_JS_isLatin1 : y_JS_isLatin1.cls ≠ "java/lang/invoke/MethodHandle" ∧ y_JS_isLatin1.cls ≠ "java/lang/invoke/VarHandle" ∧ (parseMethodDescriptor y_JS_isLatin1.desc).map (fun d => d.parameters.length) = some 0 := by decide +kernel
theorem hd_JS_checkIndex : y_JS_checkIndex.cls ≠ "java/lang/invoke/MethodHandle" ∧ y_JS_checkIndex.cls ≠ "java/lang/invoke/VarHandle" ∧ (parseMethodDescriptor y_JS_checkIndex.desc).map (fun d => d.parameters.length) = some 2 := by decide +kernel
theorem hd_JL_charAt : y_JL_charAt.cls ≠ "java/lang/invoke/MethodHandle" ∧ y_JL_charAt.cls ≠ "java/lang/invoke/VarHandle" ∧ (parseMethodDescriptor y_JL_charAt.desc).map (fun d => d.parameters.length) = some 2 := by decide +kernel
theorem hd_JP_checkIndex : y_JP_checkIndex.cls ≠ "java/lang/invoke/MethodHandle" ∧ y_JP_checkIndex.cls ≠ "java/lang/invoke/VarHandle" ∧ (parseMethodDescriptor y_JP_checkIndex.desc).map (fun d => d.parameters.length) = some 3 := by decide +kernel
def f_JS_charAt (p1 : Int32) : Option Int32 := if ck p1 168 then some (((sByt.getD 0 []).getD p1.toNatClampNeg 0 &&& 255).toUInt32 % 65536).toInt32 else none
theorem ck_lt {i n : Int32} {N : Nat} (hn : n.toInt = N) (h : ck i N) : ¬ i < 0 ∧ i < n := by
  have h0 : ¬ i < 0 := fun q => h (Or.inl q)
  refine ⟨h0, ?_⟩
  have h1 : i.toNatClampNeg < N := Nat.not_le.mp fun q => h (Or.inr q)
  rw [Int32.lt_iff_toInt_lt, hn]
  have h2 : ¬ i.toInt < 0 := fun q => h0 (by rw [Int32.lt_iff_toInt_lt]; simpa using q)
  have h3 : i.toNatClampNeg = i.toInt.toNat := rfl
  omega
set_option maxHeartbeats 4000000 in
set_option maxRecDepth 100000 in
theorem ct_JP_checkIndex (l : Launch) (E : jz_E) (sz : Nat) (p0 p1 : Int32) (v : Value) (hv : v = .null ∨ ∃ a, v = .ref a) (h : ¬ p0 < 0 ∧ p0 < p1) : CTi l E y_JP_checkIndex c_JP_checkIndex 3 (some .int) ({ frames := 0, cells := 0, slots := 0, locals := 0 }) [.int p0, .int p1, v] [] sz p0 [] := by
  refine jw (by decide +kernel) (by rcases hv with rfl | ⟨a, rfl⟩ <;> exact Nat.le_of_ble_eq_true rfl) ?_
  intro p e s m below meth c A ls J hJ hAe hsz hA hZ hP hD hl
  rw [← hAe]
  have hS : va_S A s.heap s.heap [] := va_S.rf
  have hl : lv_has ls 3 [(0, .int p0), (1, .int p1)] := lv_sub hl [0, 1] rfl
  refine lv_iload_n J.1 J.2.1 dj_p0 rfl (lv_at hl 0 rfl) ?_
  refine lv_if_lt (tgt := 9) J.1 J.2.1 dj_p1 (by decide) (fun c_1 => ?_) (fun c_1 => ?_)
  · exact absurd c_1 h.1
  refine lv_iload_n J.1 J.2.1 dj_p4 rfl (lv_at hl 0 rfl) ?_
  refine lv_iload_n J.1 J.2.1 dj_p5 rfl (lv_at hl 1 rfl) ?_
  refine lv_icmp_lt (tgt := 16) J.1 J.2.1 dj_p6 (by decide) (fun c_2 => ?_) (fun c_2 => ?_)
  · refine lv_iload_n J.1 J.2.1 dj_p16 rfl (lv_at hl 0 rfl) ?_
    exact jr_i J hS hP hD rfl dj_p17
  · exact absurd h.2 c_2
set_option maxHeartbeats 4000000 in
set_option maxRecDepth 100000 in
theorem ct_JS_checkIndex (l : Launch) (E : jz_E) (sz : Nat) (p0 p1 : Int32) (h : ¬ p0 < 0 ∧ p0 < p1) : CTv l E y_JS_checkIndex c_JS_checkIndex 2 none ({ frames := 1, cells := 0, slots := 0, locals := 22 }) [.int p0, .int p1] [] sz [] := by
  refine jw (by decide +kernel) (Nat.le_of_ble_eq_true rfl) ?_
  intro p e s m below meth c A ls J hJ hAe hsz hA hZ hP hD hl
  rw [← hAe]
  have hS : va_S A s.heap s.heap [] := va_S.rf
  have hl : lv_has ls 2 [(0, .int p0), (1, .int p1)] := hl
  refine lv_iload_n J.1 J.2.1 dj_x0 rfl (lv_at hl 0 rfl) ?_
  refine lv_iload_n J.1 J.2.1 dj_x1 rfl (lv_at hl 1 rfl) ?_
  obtain ⟨v, hq, hv⟩ : ∃ v : Value, (v = .null ∨ ∃ a, v = .ref a) ∧ va_Z "jdk/internal/util/Preconditions" "SIOOBE_FORMATTER" "Ljava/util/function/BiFunction;" v A s s.heap := by
    rcases hZ.2.2.2.2 with q | ⟨t, q⟩
    · exact ⟨_, Or.inl rfl, q⟩
    · exact ⟨_, Or.inr ⟨t, rfl⟩, q⟩
  refine va_gets J.1 J.2.1 hv hS J.2.2.2.2.1 (J.2.2.2.2.2.1 _ gf_JS_1053) (fun _ h => h) dj_x2 ?_
  refine jk_i (jrunS (As := [.int p0, .int p1, v]) (rest := []) J hJ hA hZ hP hD hS (ct_JP_checkIndex l E _ p0 p1 v hq h) [] rfl (by decide) gl_JS_1059 gs_JP_checkIndex gini_JP gc_JP_checkIndex hd_JP_checkIndex ⟨rfl, rfl, Nat.le_of_ble_eq_true rfl, Nat.le_of_ble_eq_true rfl⟩ hl.1 rfl rfl (Nat.le_of_ble_eq_true rfl) dj_x5 ⟨Nat.zero_le _, Nat.zero_le _⟩) hA hP hD hS [] [] (WR := []) rfl rfl (by decide) (by decide) [] (WF := []) rfl (by decide) (fun H locs hP hD hS => ?_)
  refine lv_pop J.1 J.2.1 dj_x8 rfl ?_
  exact jr_v J hS hP hD dj_x9
set_option maxHeartbeats 4000000 in
set_option maxRecDepth 100000 in
theorem ct_JL_charAt (l : Launch) (E : jz_E) (sz : Nat) (p1 o_r : Int32) (h : f_JS_charAt p1 = some o_r) : CTi l E y_JL_charAt c_JL_charAt 2 (some .char) ({ frames := 2, cells := 0, slots := 0, locals := 43 }) [.ref E.2.2.2.2.2, .int p1] [] sz o_r [] := by
  refine jw (by decide +kernel) (Nat.le_of_ble_eq_true rfl) ?_
  intro p e s m below meth c A ls J hJ hAe hsz hA hZ hP hD hl
  rw [← hAe]
  have hS : va_S A s.heap s.heap [] := va_S.rf
  have hl : lv_has ls 2 [(0, .ref E.2.2.2.2.2), (1, .int p1)] := hl
  obtain ⟨k_1, h⟩ := g_ck h
  have hT := (hZ.2.2.1.1 0 (by decide)).2.2.2
  refine lv_iload_n J.1 J.2.1 dj_t0 rfl (lv_at hl 1 rfl) ?_
  refine lv_aload_n J.1 J.2.1 dj_t1 rfl (lv_at hl 0 rfl) ?_
  refine va_tlen J.1 J.2.1 hT hS (v := 168) rfl dj_t2 ?_
  refine jk_v (jrunS (As := [.int p1, .int 168]) (rest := []) J hJ hA hZ hP hD hS (ct_JS_checkIndex l E _ p1 168 (ck_lt rfl k_1)) [] rfl (by decide) gl_JL_9 gs_JS_checkIndex gini_JS gc_JS_checkIndex hd_JS_checkIndex ⟨rfl, rfl, Nat.le_of_ble_eq_true rfl, Nat.le_of_ble_eq_true rfl⟩ hl.1 rfl rfl (Nat.le_of_ble_eq_true rfl) dj_t3 ⟨Nat.zero_le _, Nat.zero_le _⟩) hA hP hD hS [] [] (WR := []) rfl rfl (by decide) (by decide) [] (WF := []) rfl (by decide) (fun H locs hP hD hS => ?_)
  refine lv_aload_n J.1 J.2.1 dj_t6 rfl (lv_at hl 0 rfl) ?_
  refine lv_iload_n J.1 J.2.1 dj_t7 rfl (lv_at hl 1 rfl) ?_
  refine va_tb J.1 J.2.1 hT hS k_1 rfl dj_t8 ?_
  refine lv_sipush (v := 255) J.1 J.2.1 dj_t9 (by decide) ?_
  refine lv_iand J.1 J.2.1 dj_t12 ?_
  refine lv_i2c J.1 J.2.1 dj_t13 rfl ?_
  cases h
  exact jr_i J hS hP hD (pk_nc _) dj_t14
section JS
variable {p : Program} {l : Launch} {e : Env} {R : Room} {s : State} {m : MethodId} {args : Array Value} {below : List Frame} {meth : Method} {c : Code} {H : Heap} {locs : List Loc} {cells slots : Nat} {Q : State → Prop}
variable {cc : ByteArray} {nL pc : Nat} {ls : Array Slot} {rest st0 : List Value} {E : jz_E} {A : Nat → Prop} {WS : va_W} {rt0 : Option FieldType} {own : String}
variable {y : MethodName} {cy : ByteArray} {mL idx n : Nat} {rt : Option FieldType} {rm : Room} {As : List Value} {Qc : Array Value → State → Outcome → State → Prop}
/-- a call on the text -/
theorem jrunT (J : JC p s m args meth c cc nL rt0 own) (hJ : jE E s) (hA : ∀ q, s.heap.size ≤ q → A q) (hZ : jz_ok E A s s.heap) (hP : va_P E.1 classes WS H) (hD : va_D A WS) (hS : va_S A s.heap H locs)
    (hM : Met l y (Cond.code y cy mL rt :: G) rm (va_Pc (.ref E.2.2.2.2.1 :: As) (PW E [] H.size)) Qc 0 0 (va_A [] H.size)) (hcls : y.cls = "java/lang/String")
    (gl : Cond.methodLink own idx y ∈ G) (gi : Cond.instanceMethod y ∈ G) (gs : Cond.selects y.cls y y ∈ G) (gini : Cond.initialized y.cls ∈ G) (gc : Cond.code y cy mL rt ∈ G) (hd : y.cls ≠ "java/lang/invoke/MethodHandle" ∧ y.cls ≠ "java/lang/invoke/VarHandle" ∧ (parseMethodDescriptor y.desc).map (fun d => d.parameters.length) = some n)
    (hrm : rm.cells = 0 ∧ rm.slots = 0 ∧ rm.frames + 1 ≤ R.frames ∧ 8 + (mL + 11) + rm.locals ≤ R.locals)
    (hls : ls.size = nL) (hn : As.length = n) (hst : st0 = As.reverse ++ .ref E.2.2.2.2.1 :: rest) (hroom : (rest.map fun v => v.category).sum ≤ 8) (hdg : decode cc pc = .ok (.invokevirtual idx, 3)) (hcs : cells ≤ R.cells ∧ slots ≤ R.slots) :
    va_Run p l e R s m args below meth c H locs cells slots 0 0 (F0 m pc ls st0) rest (Qc (Value.ref E.2.2.2.2.1 :: As).toArray) (va_A [] H.size) := by
  obtain ⟨hx, hb, hml, hr, hown, hts, hlk⟩ := J
  have hrv := vk_recv (i := 0) hZ.2.2.1 (by decide) hS
  exact va_runV (Ts := G) (As := As) (rest := rest) (C := y.cls) ⟨hx, hb, hml, hown, hts⟩ hM ⟨callB_of n hts (gG gc) rfl hrm.1 hrm.2.1 (hts _ gini) (hts _ gl) hd hrm.2.2, hts _ gi, hts _ gs⟩ ⟨PW.blind, by rw [hcls]; exact hrv, jpre hJ hA hZ hP hD hS [] rfl (by decide)⟩ rfl hn hls hst (lv_room hroom) hdg hcs
end JS
set_option maxHeartbeats 4000000 in
set_option maxRecDepth 100000 in
theorem ct_JS_isLatin1 (l : Launch) (E : jz_E) (sz : Nat) (hzC : ("java/lang/String", "COMPACT_STRINGS", "Z", Value.int 1) ∈ E.2.2.1) : CTi l E y_JS_isLatin1 c_JS_isLatin1 1 (some .boolean) ({ frames := 0, cells := 0, slots := 0, locals := 0 }) [.ref E.2.2.2.2.1] [] sz 1 [] := by
  refine jw (by decide +kernel) (Nat.le_of_ble_eq_true rfl) ?_
  intro p e s m below meth c A ls J hJ hAe hsz hA hZ hP hD hl
  rw [← hAe]
  have hS : va_S A s.heap s.heap [] := va_S.rf
  have hl : lv_has ls 1 [(0, .ref E.2.2.2.2.1)] := hl
  refine va_gets J.1 J.2.1 (hZ.1 _ hzC) hS J.2.2.2.2.1 (J.2.2.2.2.2.1 _ gf_JS_38) (fun _ h => h) dj_l0 ?_
  refine lv_if_eq (tgt := 17) J.1 J.2.1 dj_l3 (by decide) (fun c_1 => ?_) (fun c_1 => ?_)
  · exact absurd c_1 (by decide)
  refine lv_aload_n J.1 J.2.1 dj_l6 rfl (lv_at hl 0 rfl) ?_
  refine vk_getf J.1 J.2.1 (hZ.2.2.1.1 0 (by decide)).2.1 hS J.2.2.2.2.1 (J.2.2.2.2.2.1 _ gf_JS_15) (fun _ h => h) dj_l7 ?_
  refine lv_if_ne (tgt := 17) J.1 J.2.1 dj_l10 (by decide) (fun c_2 => ?_) (fun c_2 => ?_)
  · exact absurd rfl c_2
  refine lv_iconst (v := 1) J.1 J.2.1 dj_l13 (by decide) ?_
  refine lv_goto (tgt := 18) J.1 J.2.1 dj_l14 (by decide) ?_
  exact jr_i J hS hP hD rfl dj_l18
set_option maxHeartbeats 4000000 in
set_option maxRecDepth 100000 in
theorem ct_JS_charAt (l : Launch) (E : jz_E) (sz : Nat) (p1 o_r : Int32) (hzC : ("java/lang/String", "COMPACT_STRINGS", "Z", Value.int 1) ∈ E.2.2.1) (h : f_JS_charAt p1 = some o_r) : CTi l E y_JS_charAt c_JS_charAt 2 (some .char) ({ frames := 3, cells := 0, slots := 0, locals := 64 }) [.ref E.2.2.2.2.1, .int p1] [] sz o_r [] := by
  refine jw (by decide +kernel) (Nat.le_of_ble_eq_true rfl) ?_
  intro p e s m below meth c A ls J hJ hAe hsz hA hZ hP hD hl
  rw [← hAe]
  have hS : va_S A s.heap s.heap [] := va_S.rf
  have hl : lv_has ls 2 [(0, .ref E.2.2.2.2.1), (1, .int p1)] := hl
  refine lv_aload_n J.1 J.2.1 dj_c0 rfl (lv_at hl 0 rfl) ?_
  refine jk_i (jrunT (As := []) (rest := []) J hJ hA hZ hP hD hS (ct_JS_isLatin1 l E _ hzC) rfl gl_JS_492 gi_JS_isLatin1 gsel_JS_isLatin1 gini_JS gc_JS_isLatin1 hd_JS_isLatin1 ⟨rfl, rfl, Nat.le_of_ble_eq_true rfl, Nat.le_of_ble_eq_true rfl⟩ hl.1 rfl rfl (Nat.le_of_ble_eq_true rfl) dj_c1 ⟨Nat.zero_le _, Nat.zero_le _⟩) hA hP hD hS [] [] (WR := []) rfl rfl (by decide) (by decide) [] (WF := []) rfl (by decide) (fun H locs hP hD hS => ?_)
  refine lv_if_eq (tgt := 16) J.1 J.2.1 dj_c4 (by decide) (fun c_1 => ?_) (fun c_1 => ?_)
  · exact absurd c_1 (by decide)
  refine lv_aload_n J.1 J.2.1 dj_c7 rfl (lv_at hl 0 rfl) ?_
  refine vk_getf J.1 J.2.1 (hZ.2.2.1.1 0 (by decide)).2.2.1 hS J.2.2.2.2.1 (J.2.2.2.2.2.1 _ gf_JS_9) (fun _ h => h) dj_c8 ?_
  refine lv_iload_n J.1 J.2.1 dj_c11 rfl (lv_at hl 1 rfl) ?_
  have hn : narrow .char (.int o_r) = .int o_r := by
    obtain ⟨-, h⟩ := g_ck h
    cases h
    exact pk_nc _
  refine jk_i (jrunS (As := [.ref E.2.2.2.2.2, .int p1]) (rest := []) J hJ hA hZ hP hD hS (ct_JL_charAt l E _ p1 o_r h) [] rfl (by decide) gl_JS_495 gs_JL_charAt gini_JL gc_JL_charAt hd_JL_charAt ⟨rfl, rfl, Nat.le_of_ble_eq_true rfl, Nat.le_of_ble_eq_true rfl⟩ hl.1 rfl rfl (Nat.le_of_ble_eq_true rfl) dj_c12 ⟨Nat.zero_le _, Nat.zero_le _⟩) hA hP hD hS [] [] (WR := []) rfl rfl (by decide) (by decide) [] (WF := []) rfl (by decide) (fun H locs hP hD hS => ?_)
  exact jr_i J hS hP hD hn dj_c15
end
